theorem k_L_isStore : kS yL_isStore cL_isStore 11 (some .boolean) 1 := ⟨t_488, t_6, t_489, by decide +kernel, by decide +kernel, by decide +kernel⟩
set_option maxRecDepth 20000 in
def P_L_isStore (st : St) : Prop := ((P_S_letter st 0 10) ∧ (∀ r2 : Int32, r2 = F_S_letter st 0 10 → (∀ x3 : Int32, x3 = (0 : Int32) + r2 → ((P_S_letter st 0 0) ∧ (∀ r5 : Int32, r5 = F_S_letter st 0 0 → (∀ x7 : Int32, x7 = ((if r5 = 0 then (1) else (0))) → (∀ x8 : Int32, x8 = (0 : Int32) + x7 → ((P_S_letter st 0 4) ∧ (∀ r10 : Int32, r10 = F_S_letter st 0 4 → (∀ x11 : Int32, x11 = (0 : Int32) + r10 → ((P_S_letter st 0 0) ∧ (∀ r13 : Int32, r13 = F_S_letter st 0 0 → (∀ x14 : Int32, x14 = (0 : Int32) + r13 → ((P_S_letter st 0 7) ∧ (∀ r16 : Int32, r16 = F_S_letter st 0 7 → (∀ r17 : Int32, r17 = F_L_ones r16 → (∀ x18 : Int32, x18 = (0 : Int32) + r17 → ((P_S_letter st 0 2) ∧ (∀ r20 : Int32, r20 = F_S_letter st 0 2 → (∀ x21 : Int32, x21 = (0 : Int32) + r20 → ((P_S_letter st 0 4) ∧ (∀ r23 : Int32, r23 = F_S_letter st 0 4 → (((r23 = 1 → ((P_S_letter st 0 3) ∧ (∀ r26 : Int32, r26 = F_S_letter st 0 3 → ((r26 = 2) ∧ ((P_S_letter st 0 0) ∧ (∀ r29 : Int32, r29 = F_S_letter st 0 0 → (¬ (r29 - r29 / 2 * 2) = 0))))))) ∧ (¬ r23 = 1 → True)) ∧ ((P_S_distance st 1 0) ∧ (∀ r32 : Int32, r32 = F_S_distance st 1 0 → (∀ x34 : Int32, x34 = ((if r32 ≤ 0 then (0) else (1))) → ((P_S_letter st 1 10) ∧ (∀ r36 : Int32, r36 = F_S_letter st 1 10 → (∀ x37 : Int32, x37 = x3 + r36 → ((P_S_letter st 1 0) ∧ (∀ r39 : Int32, r39 = F_S_letter st 1 0 → (∀ x41 : Int32, x41 = ((if r39 = 0 then (1) else (0))) → (∀ x42 : Int32, x42 = x8 + x41 → ((P_S_letter st 1 4) ∧ (∀ r44 : Int32, r44 = F_S_letter st 1 4 → (∀ x45 : Int32, x45 = x11 + r44 → ((P_S_letter st 1 0) ∧ (∀ r47 : Int32, r47 = F_S_letter st 1 0 → (∀ x48 : Int32, x48 = x14 + r47 → ((P_S_letter st 1 7) ∧ (∀ r50 : Int32, r50 = F_S_letter st 1 7 → (∀ r51 : Int32, r51 = F_L_ones r50 → (∀ x52 : Int32, x52 = x18 + r51 → (∀ x54 : Int32, x54 = ((if x34 = 0 then (0) else (1))) → (∀ x55 : Int32, x55 = (1 : Int32) + x54 → ((P_S_letter st 1 2) ∧ (∀ r57 : Int32, r57 = F_S_letter st 1 2 → (∀ x58 : Int32, x58 = x21 + r57 → ((P_S_letter st 1 4) ∧ (∀ r60 : Int32, r60 = F_S_letter st 1 4 → (((r60 = 1 → ((P_S_letter st 1 3) ∧ (∀ r63 : Int32, r63 = F_S_letter st 1 3 → ((r63 = 2) ∧ ((P_S_letter st 1 0) ∧ (∀ r66 : Int32, r66 = F_S_letter st 1 0 → (¬ (r66 - r66 / 2 * 2) = 0))))))) ∧ (¬ r60 = 1 → True)) ∧ ((P_S_distance st 2 0) ∧ (∀ r69 : Int32, r69 = F_S_distance st 2 0 → (∀ x71 : Int32, x71 = ((if r69 ≤ 0 then (0) else (1))) → (((x71 = 0 → True) ∧ (¬ x71 = 0 → (P_S_distance st 2 1))) ∧ (∀ x76 : Int32, x76 = ((if x71 = 0 then (0) else (let r74 : Int32 := F_S_distance st 2 1; (if r74 ≤ 0 then (0) else (1))))) → ((P_S_letter st 2 10) ∧ (∀ r78 : Int32, r78 = F_S_letter st 2 10 → (∀ x79 : Int32, x79 = x37 + r78 → ((P_S_letter st 2 0) ∧ (∀ r81 : Int32, r81 = F_S_letter st 2 0 → (∀ x83 : Int32, x83 = ((if r81 = 0 then (1) else (0))) → (∀ x84 : Int32, x84 = x42 + x83 → ((P_S_letter st 2 4) ∧ (∀ r86 : Int32, r86 = F_S_letter st 2 4 → (∀ x87 : Int32, x87 = x45 + r86 → ((P_S_letter st 2 0) ∧ (∀ r89 : Int32, r89 = F_S_letter st 2 0 → (∀ x90 : Int32, x90 = x48 + r89 → ((P_S_letter st 2 7) ∧ (∀ r92 : Int32, r92 = F_S_letter st 2 7 → (∀ r93 : Int32, r93 = F_L_ones r92 → (∀ x94 : Int32, x94 = x52 + r93 → (∀ x96 : Int32, x96 = ((if x76 = 0 then (0) else (1))) → (∀ x97 : Int32, x97 = x55 + x96 → ((P_S_letter st 2 2) ∧ (∀ r99 : Int32, r99 = F_S_letter st 2 2 → (∀ x100 : Int32, x100 = x58 + r99 → ((P_S_letter st 2 4) ∧ (∀ r102 : Int32, r102 = F_S_letter st 2 4 → (((r102 = 1 → ((P_S_letter st 2 3) ∧ (∀ r105 : Int32, r105 = F_S_letter st 2 3 → ((r105 = 2) ∧ ((P_S_letter st 2 0) ∧ (∀ r108 : Int32, r108 = F_S_letter st 2 0 → (¬ (r108 - r108 / 2 * 2) = 0))))))) ∧ (¬ r102 = 1 → True)) ∧ ((P_S_distance st 3 0) ∧ (∀ r111 : Int32, r111 = F_S_distance st 3 0 → (∀ x113 : Int32, x113 = ((if r111 ≤ 0 then (0) else (1))) → (((x113 = 0 → True) ∧ (¬ x113 = 0 → (P_S_distance st 3 1))) ∧ (∀ x118 : Int32, x118 = ((if x113 = 0 then (0) else (let r116 : Int32 := F_S_distance st 3 1; (if r116 ≤ 0 then (0) else (1))))) → (((x118 = 0 → True) ∧ (¬ x118 = 0 → (P_S_distance st 3 2))) ∧ (∀ x123 : Int32, x123 = ((if x118 = 0 then (0) else (let r121 : Int32 := F_S_distance st 3 2; (if r121 ≤ 0 then (0) else (1))))) → ((P_S_letter st 3 10) ∧ (∀ r125 : Int32, r125 = F_S_letter st 3 10 → (∀ x126 : Int32, x126 = x79 + r125 → ((P_S_letter st 3 0) ∧ (∀ r128 : Int32, r128 = F_S_letter st 3 0 → (∀ x130 : Int32, x130 = ((if r128 = 0 then (1) else (0))) → (∀ x131 : Int32, x131 = x84 + x130 → ((P_S_letter st 3 4) ∧ (∀ r133 : Int32, r133 = F_S_letter st 3 4 → (∀ x134 : Int32, x134 = x87 + r133 → ((P_S_letter st 3 0) ∧ (∀ r136 : Int32, r136 = F_S_letter st 3 0 → (∀ x137 : Int32, x137 = x90 + r136 → ((P_S_letter st 3 7) ∧ (∀ r139 : Int32, r139 = F_S_letter st 3 7 → (∀ r140 : Int32, r140 = F_L_ones r139 → (∀ x141 : Int32, x141 = x94 + r140 → (∀ x143 : Int32, x143 = ((if x123 = 0 then (0) else (1))) → (∀ x144 : Int32, x144 = x97 + x143 → ((P_S_letter st 3 2) ∧ (∀ r146 : Int32, r146 = F_S_letter st 3 2 → (∀ x147 : Int32, x147 = x100 + r146 → ((P_S_letter st 3 4) ∧ (∀ r149 : Int32, r149 = F_S_letter st 3 4 → (((r149 = 1 → ((P_S_letter st 3 3) ∧ (∀ r152 : Int32, r152 = F_S_letter st 3 3 → ((r152 = 2) ∧ ((P_S_letter st 3 0) ∧ (∀ r155 : Int32, r155 = F_S_letter st 3 0 → (¬ (r155 - r155 / 2 * 2) = 0))))))) ∧ (¬ r149 = 1 → True)) ∧ ((P_S_distance st 4 0) ∧ (∀ r158 : Int32, r158 = F_S_distance st 4 0 → (∀ x160 : Int32, x160 = ((if r158 ≤ 0 then (0) else (1))) → (((x160 = 0 → True) ∧ (¬ x160 = 0 → (P_S_distance st 4 1))) ∧ (∀ x165 : Int32, x165 = ((if x160 = 0 then (0) else (let r163 : Int32 := F_S_distance st 4 1; (if r163 ≤ 0 then (0) else (1))))) → (((x165 = 0 → True) ∧ (¬ x165 = 0 → (P_S_distance st 4 2))) ∧ (∀ x170 : Int32, x170 = ((if x165 = 0 then (0) else (let r168 : Int32 := F_S_distance st 4 2; (if r168 ≤ 0 then (0) else (1))))) → (((x170 = 0 → True) ∧ (¬ x170 = 0 → (P_S_distance st 4 3))) ∧ (∀ x175 : Int32, x175 = ((if x170 = 0 then (0) else (let r173 : Int32 := F_S_distance st 4 3; (if r173 ≤ 0 then (0) else (1))))) → ((P_S_letter st 4 10) ∧ (∀ r177 : Int32, r177 = F_S_letter st 4 10 → (∀ x178 : Int32, x178 = x126 + r177 → ((P_S_letter st 4 0) ∧ (∀ r180 : Int32, r180 = F_S_letter st 4 0 → (∀ x182 : Int32, x182 = ((if r180 = 0 then (1) else (0))) → (∀ x183 : Int32, x183 = x131 + x182 → ((P_S_letter st 4 4) ∧ (∀ r185 : Int32, r185 = F_S_letter st 4 4 → (∀ x186 : Int32, x186 = x134 + r185 → ((P_S_letter st 4 0) ∧ (∀ r188 : Int32, r188 = F_S_letter st 4 0 → (∀ x189 : Int32, x189 = x137 + r188 → ((P_S_letter st 4 7) ∧ (∀ r191 : Int32, r191 = F_S_letter st 4 7 → (∀ r192 : Int32, r192 = F_L_ones r191 → (∀ x193 : Int32, x193 = x141 + r192 → (∀ x195 : Int32, x195 = ((if x175 = 0 then (0) else (1))) → (∀ x196 : Int32, x196 = x144 + x195 → ((P_S_letter st 4 2) ∧ (∀ r198 : Int32, r198 = F_S_letter st 4 2 → (∀ x199 : Int32, x199 = x147 + r198 → ((P_S_letter st 4 4) ∧ (∀ r201 : Int32, r201 = F_S_letter st 4 4 → (((r201 = 1 → ((P_S_letter st 4 3) ∧ (∀ r204 : Int32, r204 = F_S_letter st 4 3 → ((r204 = 2) ∧ ((P_S_letter st 4 0) ∧ (∀ r207 : Int32, r207 = F_S_letter st 4 0 → (¬ (r207 - r207 / 2 * 2) = 0))))))) ∧ (¬ r201 = 1 → True)) ∧ ((P_S_count st 0) ∧ (∀ r210 : Int32, r210 = F_S_count st 0 → ((r210 = x178) ∧ ((P_S_count st 1) ∧ (∀ r213 : Int32, r213 = F_S_count st 1 → ((r213 = x183) ∧ ((P_S_count st 2) ∧ (∀ r216 : Int32, r216 = F_S_count st 2 → ((r216 = x186) ∧ ((P_S_count st 3) ∧ (∀ r219 : Int32, r219 = F_S_count st 3 → ((r219 = x189) ∧ ((P_S_count st 4) ∧ (∀ r222 : Int32, r222 = F_S_count st 4 → ((r222 = x193) ∧ ((P_S_count st 5) ∧ (∀ r225 : Int32, r225 = F_S_count st 5 → ((r225 = x196) ∧ ((P_S_pressed st) ∧ (∀ r228 : UInt64, r228 = F_S_pressed st → (((x199 = 0 → True) ∧ (¬ x199 = 0 → (vf_n64 (FP.ddiv (FP.i2d x189) (FP.i2d x199))))) ∧ (∀ g231 : UInt64, g231 = ((if x199 = 0 then (FP.dconst1) else (FP.ddiv (FP.i2d x189) (FP.i2d x199)))) → (((Op.cmpValue (FP.dcmp r228 g231) CmpOp.l) = 0) ∧ ((P_S_meanLength st) ∧ (∀ r234 : UInt32, r234 = F_S_meanLength st → ((vf_n32 (FP.fdiv (FP.i2f x189) 1084227584)) ∧ ((Op.cmpValue (FP.fcmp r234 (FP.fdiv (FP.i2f x189) 1084227584)) CmpOp.l) = 0))))))))))))))))))))))))))))))))))))))))))))))))))))))))))))))))))))))))))))))))))))))))))))))))))))))))))))))))))))))))))))))))))))))))))))))))))))))))))))))))))))))))))))))
set_option maxRecDepth 20000 in
set_option maxHeartbeats 8000000 in
theorem m_L_isStore (l : Launch) (D : va_G) (cI cL cP cJ : ClassId) (fl : Nat) (pl : Nat) (a : Nat) (L : Nat → Nat) (h : Nat → Nat) (v : Nat → Nat) (pl2 : Nat) (hi : Nat) (sa : Nat) (tx : Nat) (u : Nat) (w : Nat) (me : Nat) (fo : Nat) (fd : Nat) (taken : Int32) (st : St) (hp : P_L_isStore st) : M vI l yL_isStore cL_isStore 11 (some .boolean) 7 152 D (tyF cI cL cP cJ) [.ref fl] [sysB cI cL cP fl pl a L h v pl2 hi sa tx u w me fo fd taken st] (fun (r : Int32) (w1 : List va_W) => r = 1 ∧ w1 = [sysB cI cL cP fl pl a L h v pl2 hi sa tx u w me fo fd taken st]) := by
  unfold P_L_isStore at hp
  refine m_start (by decide +kernel) (Nat.le_of_ble_eq_true rfl) (fun p e s m args below meth c A Q hA hQ C hr hlo => ?_)
  refine r_Le (L' := [(0, .ref fl)]) rfl ?_
  refine r_iconst (v := 0) C dL_isStore_0 (by decide) ?_
  refine r_istore_n (L' := [(1, .int 0), (0, .ref fl)]) C dL_isStore_1 (by decide) rfl ?_
  refine r_iconst (v := 0) C dL_isStore_2 (by decide) ?_
  refine r_istore_n (L' := [(2, .int 0), (1, .int 0), (0, .ref fl)]) C dL_isStore_3 (by decide) rfl ?_
  refine r_iconst (v := 0) C dL_isStore_4 (by decide) ?_
  refine r_istore_n (L' := [(3, .int 0), (2, .int 0), (1, .int 0), (0, .ref fl)]) C dL_isStore_5 (by decide) rfl ?_
  refine r_iconst (v := 0) C dL_isStore_6 (by decide) ?_
  refine r_istore (L' := [(4, .int 0), (3, .int 0), (2, .int 0), (1, .int 0), (0, .ref fl)]) C dL_isStore_7 (by decide) rfl ?_
  refine r_iconst (v := 0) C dL_isStore_9 (by decide) ?_
  refine r_istore (L' := [(5, .int 0), (4, .int 0), (3, .int 0), (2, .int 0), (1, .int 0), (0, .ref fl)]) C dL_isStore_10 (by decide) rfl ?_
  refine r_iconst (v := 0) C dL_isStore_12 (by decide) ?_
  refine r_istore (L' := [(6, .int 0), (5, .int 0), (4, .int 0), (3, .int 0), (2, .int 0), (1, .int 0), (0, .ref fl)]) C dL_isStore_13 (by decide) rfl ?_
  refine r_iconst (v := 0) C dL_isStore_15 (by decide) ?_
  refine r_istore (L' := [(7, .int 0), (6, .int 0), (5, .int 0), (4, .int 0), (3, .int 0), (2, .int 0), (1, .int 0), (0, .ref fl)]) C dL_isStore_16 (by decide) rfl ?_
  refine r_iconst (v := 0) C dL_isStore_18 (by decide) ?_
  refine r_istore (L' := [(8, .int 0), (7, .int 0), (6, .int 0), (5, .int 0), (4, .int 0), (3, .int 0), (2, .int 0), (1, .int 0), (0, .ref fl)]) C dL_isStore_19 (by decide) rfl ?_
  refine r_iload C dL_isStore_21 0 rfl ?_
  refine r_iconst (v := 5) C dL_isStore_23 (by decide) ?_
  refine r_icmp_ge (tgt := 205) C dL_isStore_24 (by decide) (fun c => absurd c (by decide)) (fun _ => ?_)
  refine r_iconst (v := 1) C dL_isStore_27 (by decide) ?_
  refine r_istore (L' := [(9, .int 1), (8, .int 0), (7, .int 0), (6, .int 0), (5, .int 0), (4, .int 0), (3, .int 0), (2, .int 0), (1, .int 0), (0, .ref fl)]) C dL_isStore_28 (by decide) rfl ?_
  refine r_iconst (v := 0) C dL_isStore_30 (by decide) ?_
  refine r_istore (L' := [(10, .int 0), (9, .int 1), (8, .int 0), (7, .int 0), (6, .int 0), (5, .int 0), (4, .int 0), (3, .int 0), (2, .int 0), (1, .int 0), (0, .ref fl)]) C dL_isStore_31 (by decide) rfl ?_
  refine r_iload C dL_isStore_33 0 rfl ?_
  refine r_iload C dL_isStore_35 2 rfl ?_
  refine r_icmp_ge (tgt := 69) C dL_isStore_37 (by decide) (fun _ => ?_) (fun c => absurd c (by decide))
  refine r_iload_n C dL_isStore_69 9 rfl ?_
  refine r_aload_n C dL_isStore_70 10 rfl ?_
  refine r_iload C dL_isStore_71 2 rfl ?_
  refine r_bipush (v := 10) C dL_isStore_73 (by decide) ?_
  obtain ⟨h1, hp⟩ := hp
  refine r_callV (ci := 8) (wc := [sysB cI cL cP fl pl a L h v pl2 hi sa tx u w me fo fd taken st]) (wr := []) (st := [.int 0]) C (m_S_letter l D cI cL cP cJ fl pl a L h v pl2 hi sa tx u w me fo fd taken st 0 10 h1) k_X10_letter t_412 [0] (show ([0] : List Nat).Perm (List.range 1) by decide) rfl rfl rfl (q0 := 0) rfl rfl rfl (Nat.le_of_ble_eq_true rfl) ⟨Nat.le_of_ble_eq_true rfl, Nat.le_of_ble_eq_true rfl⟩ ⟨Nat.zero_le _, Nat.zero_le _⟩ dL_isStore_75 (fun r2 wr2 hw2 => ?_)
  obtain ⟨e_r2, rfl⟩ := hw2
  have hp := hp r2 e_r2
  refine r_ws (I' := [sysB cI cL cP fl pl a L h v pl2 hi sa tx u w me fo fd taken st]) rfl ?_
  refine r_iadd C dL_isStore_78 rfl ?_
  refine r_top (fun x3 e_x3 => ?_)
  have hp := hp x3 e_x3
  refine r_istore_n (L' := [(1, .int x3), (10, .int 0), (9, .int 1), (8, .int 0), (7, .int 0), (6, .int 0), (5, .int 0), (4, .int 0), (3, .int 0), (2, .int 0), (0, .ref fl)]) C dL_isStore_79 (by decide) rfl ?_
  refine r_iload_n C dL_isStore_80 9 rfl ?_
  refine r_aload_n C dL_isStore_81 10 rfl ?_
  refine r_iload C dL_isStore_82 3 rfl ?_
  refine r_iconst (v := 0) C dL_isStore_84 (by decide) ?_
  obtain ⟨h4, hp⟩ := hp
  refine r_callV (ci := 8) (wc := [sysB cI cL cP fl pl a L h v pl2 hi sa tx u w me fo fd taken st]) (wr := []) (st := [.int 0]) C (m_S_letter l D cI cL cP cJ fl pl a L h v pl2 hi sa tx u w me fo fd taken st 0 0 h4) k_X10_letter t_412 [0] (show ([0] : List Nat).Perm (List.range 1) by decide) rfl rfl rfl (q0 := 0) rfl rfl rfl (Nat.le_of_ble_eq_true rfl) ⟨Nat.le_of_ble_eq_true rfl, Nat.le_of_ble_eq_true rfl⟩ ⟨Nat.zero_le _, Nat.zero_le _⟩ dL_isStore_85 (fun r5 wr5 hw5 => ?_)
  obtain ⟨e_r5, rfl⟩ := hw5
  have hp := hp r5 e_r5
  refine r_ws (I' := [sysB cI cL cP fl pl a L h v pl2 hi sa tx u w me fo fd taken st]) rfl ?_
  suffices K : ∀ x7 : Int32, x7 = ((if r5 = 0 then (1) else (0))) → V p l e (rmm 7 152) s m args below meth c 11 D A 0 0 Q [sysB cI cL cP fl pl a L h v pl2 hi sa tx u w me fo fd taken st] [(1, .int x3), (10, .int 0), (9, .int 1), (8, .int 0), (7, .int 0), (6, .int 0), (5, .int 0), (4, .int 0), (3, .int 0), (2, .int 0), (0, .ref fl)] 96 [.int x7, .int 0] by
    refine r_if_ne (tgt := 95) C dL_isStore_88 (by decide) (fun c6 => ?_) (fun c6 => ?_)
    · refine r_iconst (v := 0) C dL_isStore_95 (by decide) ?_
      exact K _ (by simp only [if_neg c6])
    · refine r_iconst (v := 1) C dL_isStore_91 (by decide) ?_
      refine r_goto (tgt := 96) C dL_isStore_92 (by decide) ?_
      exact K _ (by simp only [if_pos c6])
  intro x7 e_x7
  have hp := hp x7 e_x7
  refine r_iadd C dL_isStore_96 rfl ?_
  refine r_top (fun x8 e_x8 => ?_)
  have hp := hp x8 e_x8
  refine r_istore_n (L' := [(2, .int x8), (1, .int x3), (10, .int 0), (9, .int 1), (8, .int 0), (7, .int 0), (6, .int 0), (5, .int 0), (4, .int 0), (3, .int 0), (0, .ref fl)]) C dL_isStore_97 (by decide) rfl ?_
  refine r_iload_n C dL_isStore_98 9 rfl ?_
  refine r_aload_n C dL_isStore_99 10 rfl ?_
  refine r_iload C dL_isStore_100 4 rfl ?_
  refine r_iconst (v := 4) C dL_isStore_102 (by decide) ?_
  obtain ⟨h9, hp⟩ := hp
  refine r_callV (ci := 8) (wc := [sysB cI cL cP fl pl a L h v pl2 hi sa tx u w me fo fd taken st]) (wr := []) (st := [.int 0]) C (m_S_letter l D cI cL cP cJ fl pl a L h v pl2 hi sa tx u w me fo fd taken st 0 4 h9) k_X10_letter t_412 [0] (show ([0] : List Nat).Perm (List.range 1) by decide) rfl rfl rfl (q0 := 0) rfl rfl rfl (Nat.le_of_ble_eq_true rfl) ⟨Nat.le_of_ble_eq_true rfl, Nat.le_of_ble_eq_true rfl⟩ ⟨Nat.zero_le _, Nat.zero_le _⟩ dL_isStore_103 (fun r10 wr10 hw10 => ?_)
  obtain ⟨e_r10, rfl⟩ := hw10
  have hp := hp r10 e_r10
  refine r_ws (I' := [sysB cI cL cP fl pl a L h v pl2 hi sa tx u w me fo fd taken st]) rfl ?_
  refine r_iadd C dL_isStore_106 rfl ?_
  refine r_top (fun x11 e_x11 => ?_)
  have hp := hp x11 e_x11
  refine r_istore_n (L' := [(3, .int x11), (2, .int x8), (1, .int x3), (10, .int 0), (9, .int 1), (8, .int 0), (7, .int 0), (6, .int 0), (5, .int 0), (4, .int 0), (0, .ref fl)]) C dL_isStore_107 (by decide) rfl ?_
  refine r_iload C dL_isStore_108 9 rfl ?_
  refine r_aload_n C dL_isStore_110 10 rfl ?_
  refine r_iload C dL_isStore_111 5 rfl ?_
  refine r_iconst (v := 0) C dL_isStore_113 (by decide) ?_
  obtain ⟨h12, hp⟩ := hp
  refine r_callV (ci := 8) (wc := [sysB cI cL cP fl pl a L h v pl2 hi sa tx u w me fo fd taken st]) (wr := []) (st := [.int 0]) C (m_S_letter l D cI cL cP cJ fl pl a L h v pl2 hi sa tx u w me fo fd taken st 0 0 h12) k_X10_letter t_412 [0] (show ([0] : List Nat).Perm (List.range 1) by decide) rfl rfl rfl (q0 := 0) rfl rfl rfl (Nat.le_of_ble_eq_true rfl) ⟨Nat.le_of_ble_eq_true rfl, Nat.le_of_ble_eq_true rfl⟩ ⟨Nat.zero_le _, Nat.zero_le _⟩ dL_isStore_114 (fun r13 wr13 hw13 => ?_)
  obtain ⟨e_r13, rfl⟩ := hw13
  have hp := hp r13 e_r13
  refine r_ws (I' := [sysB cI cL cP fl pl a L h v pl2 hi sa tx u w me fo fd taken st]) rfl ?_
  refine r_iadd C dL_isStore_117 rfl ?_
  refine r_top (fun x14 e_x14 => ?_)
  have hp := hp x14 e_x14
  refine r_istore (L' := [(4, .int x14), (3, .int x11), (2, .int x8), (1, .int x3), (10, .int 0), (9, .int 1), (8, .int 0), (7, .int 0), (6, .int 0), (5, .int 0), (0, .ref fl)]) C dL_isStore_118 (by decide) rfl ?_
  refine r_iload C dL_isStore_120 9 rfl ?_
  refine r_aload_n C dL_isStore_122 10 rfl ?_
  refine r_iload C dL_isStore_123 6 rfl ?_
  refine r_bipush (v := 7) C dL_isStore_125 (by decide) ?_
  obtain ⟨h15, hp⟩ := hp
  refine r_callV (ci := 8) (wc := [sysB cI cL cP fl pl a L h v pl2 hi sa tx u w me fo fd taken st]) (wr := []) (st := [.int 0]) C (m_S_letter l D cI cL cP cJ fl pl a L h v pl2 hi sa tx u w me fo fd taken st 0 7 h15) k_X10_letter t_412 [0] (show ([0] : List Nat).Perm (List.range 1) by decide) rfl rfl rfl (q0 := 0) rfl rfl rfl (Nat.le_of_ble_eq_true rfl) ⟨Nat.le_of_ble_eq_true rfl, Nat.le_of_ble_eq_true rfl⟩ ⟨Nat.zero_le _, Nat.zero_le _⟩ dL_isStore_127 (fun r16 wr16 hw16 => ?_)
  obtain ⟨e_r16, rfl⟩ := hw16
  have hp := hp r16 e_r16
  refine r_ws (I' := [sysB cI cL cP fl pl a L h v pl2 hi sa tx u w me fo fd taken st]) rfl ?_
  refine r_callS (wc := []) (wr := [sysB cI cL cP fl pl a L h v pl2 hi sa tx u w me fo fd taken st]) (st := [.int 0]) C (m_L_ones l D cI cL cP cJ r16) k_L_ones t_497 [0] (show ([0] : List Nat).Perm (List.range 1) by decide) rfl rfl rfl (Nat.le_of_ble_eq_true rfl) ⟨Nat.le_of_ble_eq_true rfl, Nat.le_of_ble_eq_true rfl⟩ ⟨Nat.zero_le _, Nat.zero_le _⟩ dL_isStore_130 (fun r17 wr17 hw17 => ?_)
  obtain ⟨e_r17, rfl⟩ := hw17
  have hp := hp r17 e_r17
  refine r_ws (I' := [sysB cI cL cP fl pl a L h v pl2 hi sa tx u w me fo fd taken st]) rfl ?_
  refine r_iadd C dL_isStore_133 rfl ?_
  refine r_top (fun x18 e_x18 => ?_)
  have hp := hp x18 e_x18
  refine r_istore (L' := [(5, .int x18), (4, .int x14), (3, .int x11), (2, .int x8), (1, .int x3), (10, .int 0), (9, .int 1), (8, .int 0), (7, .int 0), (6, .int 0), (0, .ref fl)]) C dL_isStore_134 (by decide) rfl ?_
  refine r_iload C dL_isStore_136 9 rfl ?_
  refine r_iload C dL_isStore_138 6 rfl ?_
  refine r_if_eq (tgt := 147) C dL_isStore_140 (by decide) (fun c => absurd c (by decide)) (fun _ => ?_)
  refine r_iconst (v := 1) C dL_isStore_143 (by decide) ?_
  refine r_goto (tgt := 148) C dL_isStore_144 (by decide) ?_
  refine r_iadd (z := 1) C dL_isStore_148 (by decide) ?_
  refine r_istore (L' := [(6, .int 1), (5, .int x18), (4, .int x14), (3, .int x11), (2, .int x8), (1, .int x3), (10, .int 0), (9, .int 1), (8, .int 0), (7, .int 0), (0, .ref fl)]) C dL_isStore_149 (by decide) rfl ?_
  refine r_iload C dL_isStore_151 9 rfl ?_
  refine r_aload_n C dL_isStore_153 10 rfl ?_
  refine r_iload C dL_isStore_154 8 rfl ?_
  refine r_iconst (v := 2) C dL_isStore_156 (by decide) ?_
  obtain ⟨h19, hp⟩ := hp
  refine r_callV (ci := 8) (wc := [sysB cI cL cP fl pl a L h v pl2 hi sa tx u w me fo fd taken st]) (wr := []) (st := [.int 0]) C (m_S_letter l D cI cL cP cJ fl pl a L h v pl2 hi sa tx u w me fo fd taken st 0 2 h19) k_X10_letter t_412 [0] (show ([0] : List Nat).Perm (List.range 1) by decide) rfl rfl rfl (q0 := 0) rfl rfl rfl (Nat.le_of_ble_eq_true rfl) ⟨Nat.le_of_ble_eq_true rfl, Nat.le_of_ble_eq_true rfl⟩ ⟨Nat.zero_le _, Nat.zero_le _⟩ dL_isStore_157 (fun r20 wr20 hw20 => ?_)
  obtain ⟨e_r20, rfl⟩ := hw20
  have hp := hp r20 e_r20
  refine r_ws (I' := [sysB cI cL cP fl pl a L h v pl2 hi sa tx u w me fo fd taken st]) rfl ?_
  refine r_iadd C dL_isStore_160 rfl ?_
  refine r_top (fun x21 e_x21 => ?_)
  have hp := hp x21 e_x21
  refine r_istore (L' := [(7, .int x21), (6, .int 1), (5, .int x18), (4, .int x14), (3, .int x11), (2, .int x8), (1, .int x3), (10, .int 0), (9, .int 1), (8, .int 0), (0, .ref fl)]) C dL_isStore_161 (by decide) rfl ?_
  refine r_aload_n C dL_isStore_163 10 rfl ?_
  refine r_iload C dL_isStore_164 9 rfl ?_
  refine r_iconst (v := 4) C dL_isStore_166 (by decide) ?_
  obtain ⟨h22, hp⟩ := hp
  refine r_callV (ci := 8) (wc := [sysB cI cL cP fl pl a L h v pl2 hi sa tx u w me fo fd taken st]) (wr := []) (st := []) C (m_S_letter l D cI cL cP cJ fl pl a L h v pl2 hi sa tx u w me fo fd taken st 0 4 h22) k_X10_letter t_412 [0] (show ([0] : List Nat).Perm (List.range 1) by decide) rfl rfl rfl (q0 := 0) rfl rfl rfl (Nat.le_of_ble_eq_true rfl) ⟨Nat.le_of_ble_eq_true rfl, Nat.le_of_ble_eq_true rfl⟩ ⟨Nat.zero_le _, Nat.zero_le _⟩ dL_isStore_167 (fun r23 wr23 hw23 => ?_)
  obtain ⟨e_r23, rfl⟩ := hw23
  have hp := hp r23 e_r23
  refine r_ws (I' := [sysB cI cL cP fl pl a L h v pl2 hi sa tx u w me fo fd taken st]) rfl ?_
  refine r_iconst (v := 1) C dL_isStore_170 (by decide) ?_
  obtain ⟨hps, hp⟩ := hp
  suffices K :  V p l e (rmm 7 152) s m args below meth c 11 D A 0 0 Q [sysB cI cL cP fl pl a L h v pl2 hi sa tx u w me fo fd taken st] [(7, .int x21), (6, .int 1), (5, .int x18), (4, .int x14), (3, .int x11), (2, .int x8), (1, .int x3), (10, .int 0), (9, .int 1), (8, .int 0), (0, .ref fl)] 199 [] by
    have hp := hps
    refine r_icmp_ne (tgt := 199) C dL_isStore_171 (by decide) (fun c24 => ?_) (fun c24 => ?_)
    · exact K 
    · have hp := hp.1 c24
      refine r_aload_n C dL_isStore_174 10 rfl ?_
      refine r_iload C dL_isStore_175 9 rfl ?_
      refine r_iconst (v := 3) C dL_isStore_177 (by decide) ?_
      obtain ⟨h25, hp⟩ := hp
      refine r_callV (ci := 8) (wc := [sysB cI cL cP fl pl a L h v pl2 hi sa tx u w me fo fd taken st]) (wr := []) (st := []) C (m_S_letter l D cI cL cP cJ fl pl a L h v pl2 hi sa tx u w me fo fd taken st 0 3 h25) k_X10_letter t_412 [0] (show ([0] : List Nat).Perm (List.range 1) by decide) rfl rfl rfl (q0 := 0) rfl rfl rfl (Nat.le_of_ble_eq_true rfl) ⟨Nat.le_of_ble_eq_true rfl, Nat.le_of_ble_eq_true rfl⟩ ⟨Nat.zero_le _, Nat.zero_le _⟩ dL_isStore_178 (fun r26 wr26 hw26 => ?_)
      obtain ⟨e_r26, rfl⟩ := hw26
      have hp := hp r26 e_r26
      refine r_ws (I' := [sysB cI cL cP fl pl a L h v pl2 hi sa tx u w me fo fd taken st]) rfl ?_
      refine r_iconst (v := 2) C dL_isStore_181 (by decide) ?_
      obtain ⟨h27, hp⟩ := hp
      refine r_icmp_ne (tgt := 197) C dL_isStore_182 (by decide) (fun c => absurd h27 c) (fun _ => ?_)
      refine r_aload_n C dL_isStore_185 10 rfl ?_
      refine r_iload C dL_isStore_186 9 rfl ?_
      refine r_iconst (v := 0) C dL_isStore_188 (by decide) ?_
      obtain ⟨h28, hp⟩ := hp
      refine r_callV (ci := 8) (wc := [sysB cI cL cP fl pl a L h v pl2 hi sa tx u w me fo fd taken st]) (wr := []) (st := []) C (m_S_letter l D cI cL cP cJ fl pl a L h v pl2 hi sa tx u w me fo fd taken st 0 0 h28) k_X10_letter t_412 [0] (show ([0] : List Nat).Perm (List.range 1) by decide) rfl rfl rfl (q0 := 0) rfl rfl rfl (Nat.le_of_ble_eq_true rfl) ⟨Nat.le_of_ble_eq_true rfl, Nat.le_of_ble_eq_true rfl⟩ ⟨Nat.zero_le _, Nat.zero_le _⟩ dL_isStore_189 (fun r29 wr29 hw29 => ?_)
      obtain ⟨e_r29, rfl⟩ := hw29
      have hp := hp r29 e_r29
      refine r_ws (I' := [sysB cI cL cP fl pl a L h v pl2 hi sa tx u w me fo fd taken st]) rfl ?_
      refine r_iconst (v := 2) C dL_isStore_192 (by decide) ?_
      refine r_irem C dL_isStore_193 (by decide) rfl ?_
      have h30 := hp
      refine r_if_ne (tgt := 199) C dL_isStore_194 (by decide) (fun _ => ?_) (fun c => absurd c h30)
      exact K 
  skip
  refine r_iinc (v := 1) (L' := [(8, .int 1), (7, .int x21), (6, .int 1), (5, .int x18), (4, .int x14), (3, .int x11), (2, .int x8), (1, .int x3), (10, .int 0), (9, .int 1), (0, .ref fl)]) C dL_isStore_199 9 rfl (by decide) (by decide) rfl ?_
  refine r_goto (tgt := 21) C dL_isStore_202 (by decide) ?_
  refine r_iload C dL_isStore_21 0 rfl ?_
  refine r_iconst (v := 5) C dL_isStore_23 (by decide) ?_
  refine r_icmp_ge (tgt := 205) C dL_isStore_24 (by decide) (fun c => absurd c (by decide)) (fun _ => ?_)
  refine r_iconst (v := 1) C dL_isStore_27 (by decide) ?_
  refine r_istore (L' := [(9, .int 1), (8, .int 1), (7, .int x21), (6, .int 1), (5, .int x18), (4, .int x14), (3, .int x11), (2, .int x8), (1, .int x3), (10, .int 0), (0, .ref fl)]) C dL_isStore_28 (by decide) rfl ?_
  refine r_iconst (v := 0) C dL_isStore_30 (by decide) ?_
  refine r_istore (L' := [(10, .int 0), (9, .int 1), (8, .int 1), (7, .int x21), (6, .int 1), (5, .int x18), (4, .int x14), (3, .int x11), (2, .int x8), (1, .int x3), (0, .ref fl)]) C dL_isStore_31 (by decide) rfl ?_
  refine r_iload C dL_isStore_33 0 rfl ?_
  refine r_iload C dL_isStore_35 2 rfl ?_
  refine r_icmp_ge (tgt := 69) C dL_isStore_37 (by decide) (fun c => absurd c (by decide)) (fun _ => ?_)
  refine r_iload C dL_isStore_40 1 rfl ?_
  refine r_if_eq (tgt := 60) C dL_isStore_42 (by decide) (fun c => absurd c (by decide)) (fun _ => ?_)
  refine r_aload_n C dL_isStore_45 10 rfl ?_
  refine r_iload C dL_isStore_46 2 rfl ?_
  refine r_iload C dL_isStore_48 0 rfl ?_
  obtain ⟨h31, hp⟩ := hp
  refine r_callV (ci := 8) (wc := [sysB cI cL cP fl pl a L h v pl2 hi sa tx u w me fo fd taken st]) (wr := []) (st := []) C (m_S_distance l D cI cL cP cJ fl pl a L h v pl2 hi sa tx u w me fo fd taken st 1 0 h31) k_X10_distance t_490 [0] (show ([0] : List Nat).Perm (List.range 1) by decide) rfl rfl rfl (q0 := 0) rfl rfl rfl (Nat.le_of_ble_eq_true rfl) ⟨Nat.le_of_ble_eq_true rfl, Nat.le_of_ble_eq_true rfl⟩ ⟨Nat.zero_le _, Nat.zero_le _⟩ dL_isStore_50 (fun r32 wr32 hw32 => ?_)
  obtain ⟨e_r32, rfl⟩ := hw32
  have hp := hp r32 e_r32
  refine r_ws (I' := [sysB cI cL cP fl pl a L h v pl2 hi sa tx u w me fo fd taken st]) rfl ?_
  suffices K : ∀ x34 : Int32, x34 = ((if r32 ≤ 0 then (0) else (1))) → V p l e (rmm 7 152) s m args below meth c 11 D A 0 0 Q [sysB cI cL cP fl pl a L h v pl2 hi sa tx u w me fo fd taken st] [(10, .int 0), (9, .int 1), (8, .int 1), (7, .int x21), (6, .int 1), (5, .int x18), (4, .int x14), (3, .int x11), (2, .int x8), (1, .int x3), (0, .ref fl)] 61 [.int x34] by
    refine r_if_le (tgt := 60) C dL_isStore_53 (by decide) (fun c33 => ?_) (fun c33 => ?_)
    · refine r_iconst (v := 0) C dL_isStore_60 (by decide) ?_
      exact K _ (by simp only [if_pos c33])
    · refine r_iconst (v := 1) C dL_isStore_56 (by decide) ?_
      refine r_goto (tgt := 61) C dL_isStore_57 (by decide) ?_
      exact K _ (by simp only [if_neg c33])
  intro x34 e_x34
  have hp := hp x34 e_x34
  refine r_istore (L' := [(9, .int x34), (10, .int 0), (8, .int 1), (7, .int x21), (6, .int 1), (5, .int x18), (4, .int x14), (3, .int x11), (2, .int x8), (1, .int x3), (0, .ref fl)]) C dL_isStore_61 (by decide) rfl ?_
  refine r_iinc (v := 1) (L' := [(10, .int 1), (9, .int x34), (8, .int 1), (7, .int x21), (6, .int 1), (5, .int x18), (4, .int x14), (3, .int x11), (2, .int x8), (1, .int x3), (0, .ref fl)]) C dL_isStore_63 1 rfl (by decide) (by decide) rfl ?_
  refine r_goto (tgt := 33) C dL_isStore_66 (by decide) ?_
  refine r_iload C dL_isStore_33 0 rfl ?_
  refine r_iload C dL_isStore_35 2 rfl ?_
  refine r_icmp_ge (tgt := 69) C dL_isStore_37 (by decide) (fun _ => ?_) (fun c => absurd c (by decide))
  refine r_iload_n C dL_isStore_69 9 rfl ?_
  refine r_aload_n C dL_isStore_70 10 rfl ?_
  refine r_iload C dL_isStore_71 2 rfl ?_
  refine r_bipush (v := 10) C dL_isStore_73 (by decide) ?_
  obtain ⟨h35, hp⟩ := hp
  refine r_callV (ci := 8) (wc := [sysB cI cL cP fl pl a L h v pl2 hi sa tx u w me fo fd taken st]) (wr := []) (st := [.int x3]) C (m_S_letter l D cI cL cP cJ fl pl a L h v pl2 hi sa tx u w me fo fd taken st 1 10 h35) k_X10_letter t_412 [0] (show ([0] : List Nat).Perm (List.range 1) by decide) rfl rfl rfl (q0 := 0) rfl rfl rfl (Nat.le_of_ble_eq_true rfl) ⟨Nat.le_of_ble_eq_true rfl, Nat.le_of_ble_eq_true rfl⟩ ⟨Nat.zero_le _, Nat.zero_le _⟩ dL_isStore_75 (fun r36 wr36 hw36 => ?_)
  obtain ⟨e_r36, rfl⟩ := hw36
  have hp := hp r36 e_r36
  refine r_ws (I' := [sysB cI cL cP fl pl a L h v pl2 hi sa tx u w me fo fd taken st]) rfl ?_
  refine r_iadd C dL_isStore_78 rfl ?_
  refine r_top (fun x37 e_x37 => ?_)
  have hp := hp x37 e_x37
  refine r_istore_n (L' := [(1, .int x37), (10, .int 1), (9, .int x34), (8, .int 1), (7, .int x21), (6, .int 1), (5, .int x18), (4, .int x14), (3, .int x11), (2, .int x8), (0, .ref fl)]) C dL_isStore_79 (by decide) rfl ?_
  refine r_iload_n C dL_isStore_80 9 rfl ?_
  refine r_aload_n C dL_isStore_81 10 rfl ?_
  refine r_iload C dL_isStore_82 3 rfl ?_
  refine r_iconst (v := 0) C dL_isStore_84 (by decide) ?_
  obtain ⟨h38, hp⟩ := hp
  refine r_callV (ci := 8) (wc := [sysB cI cL cP fl pl a L h v pl2 hi sa tx u w me fo fd taken st]) (wr := []) (st := [.int x8]) C (m_S_letter l D cI cL cP cJ fl pl a L h v pl2 hi sa tx u w me fo fd taken st 1 0 h38) k_X10_letter t_412 [0] (show ([0] : List Nat).Perm (List.range 1) by decide) rfl rfl rfl (q0 := 0) rfl rfl rfl (Nat.le_of_ble_eq_true rfl) ⟨Nat.le_of_ble_eq_true rfl, Nat.le_of_ble_eq_true rfl⟩ ⟨Nat.zero_le _, Nat.zero_le _⟩ dL_isStore_85 (fun r39 wr39 hw39 => ?_)
  obtain ⟨e_r39, rfl⟩ := hw39
  have hp := hp r39 e_r39
  refine r_ws (I' := [sysB cI cL cP fl pl a L h v pl2 hi sa tx u w me fo fd taken st]) rfl ?_
  suffices K : ∀ x41 : Int32, x41 = ((if r39 = 0 then (1) else (0))) → V p l e (rmm 7 152) s m args below meth c 11 D A 0 0 Q [sysB cI cL cP fl pl a L h v pl2 hi sa tx u w me fo fd taken st] [(1, .int x37), (10, .int 1), (9, .int x34), (8, .int 1), (7, .int x21), (6, .int 1), (5, .int x18), (4, .int x14), (3, .int x11), (2, .int x8), (0, .ref fl)] 96 [.int x41, .int x8] by
    refine r_if_ne (tgt := 95) C dL_isStore_88 (by decide) (fun c40 => ?_) (fun c40 => ?_)
    · refine r_iconst (v := 0) C dL_isStore_95 (by decide) ?_
      exact K _ (by simp only [if_neg c40])
    · refine r_iconst (v := 1) C dL_isStore_91 (by decide) ?_
      refine r_goto (tgt := 96) C dL_isStore_92 (by decide) ?_
      exact K _ (by simp only [if_pos c40])
  intro x41 e_x41
  have hp := hp x41 e_x41
  refine r_iadd C dL_isStore_96 rfl ?_
  refine r_top (fun x42 e_x42 => ?_)
  have hp := hp x42 e_x42
  refine r_istore_n (L' := [(2, .int x42), (1, .int x37), (10, .int 1), (9, .int x34), (8, .int 1), (7, .int x21), (6, .int 1), (5, .int x18), (4, .int x14), (3, .int x11), (0, .ref fl)]) C dL_isStore_97 (by decide) rfl ?_
  refine r_iload_n C dL_isStore_98 9 rfl ?_
  refine r_aload_n C dL_isStore_99 10 rfl ?_
  refine r_iload C dL_isStore_100 4 rfl ?_
  refine r_iconst (v := 4) C dL_isStore_102 (by decide) ?_
  obtain ⟨h43, hp⟩ := hp
  refine r_callV (ci := 8) (wc := [sysB cI cL cP fl pl a L h v pl2 hi sa tx u w me fo fd taken st]) (wr := []) (st := [.int x11]) C (m_S_letter l D cI cL cP cJ fl pl a L h v pl2 hi sa tx u w me fo fd taken st 1 4 h43) k_X10_letter t_412 [0] (show ([0] : List Nat).Perm (List.range 1) by decide) rfl rfl rfl (q0 := 0) rfl rfl rfl (Nat.le_of_ble_eq_true rfl) ⟨Nat.le_of_ble_eq_true rfl, Nat.le_of_ble_eq_true rfl⟩ ⟨Nat.zero_le _, Nat.zero_le _⟩ dL_isStore_103 (fun r44 wr44 hw44 => ?_)
  obtain ⟨e_r44, rfl⟩ := hw44
  have hp := hp r44 e_r44
  refine r_ws (I' := [sysB cI cL cP fl pl a L h v pl2 hi sa tx u w me fo fd taken st]) rfl ?_
  refine r_iadd C dL_isStore_106 rfl ?_
  refine r_top (fun x45 e_x45 => ?_)
  have hp := hp x45 e_x45
  refine r_istore_n (L' := [(3, .int x45), (2, .int x42), (1, .int x37), (10, .int 1), (9, .int x34), (8, .int 1), (7, .int x21), (6, .int 1), (5, .int x18), (4, .int x14), (0, .ref fl)]) C dL_isStore_107 (by decide) rfl ?_
  refine r_iload C dL_isStore_108 9 rfl ?_
  refine r_aload_n C dL_isStore_110 10 rfl ?_
  refine r_iload C dL_isStore_111 5 rfl ?_
  refine r_iconst (v := 0) C dL_isStore_113 (by decide) ?_
  obtain ⟨h46, hp⟩ := hp
  refine r_callV (ci := 8) (wc := [sysB cI cL cP fl pl a L h v pl2 hi sa tx u w me fo fd taken st]) (wr := []) (st := [.int x14]) C (m_S_letter l D cI cL cP cJ fl pl a L h v pl2 hi sa tx u w me fo fd taken st 1 0 h46) k_X10_letter t_412 [0] (show ([0] : List Nat).Perm (List.range 1) by decide) rfl rfl rfl (q0 := 0) rfl rfl rfl (Nat.le_of_ble_eq_true rfl) ⟨Nat.le_of_ble_eq_true rfl, Nat.le_of_ble_eq_true rfl⟩ ⟨Nat.zero_le _, Nat.zero_le _⟩ dL_isStore_114 (fun r47 wr47 hw47 => ?_)
  obtain ⟨e_r47, rfl⟩ := hw47
  have hp := hp r47 e_r47
  refine r_ws (I' := [sysB cI cL cP fl pl a L h v pl2 hi sa tx u w me fo fd taken st]) rfl ?_
  refine r_iadd C dL_isStore_117 rfl ?_
  refine r_top (fun x48 e_x48 => ?_)
  have hp := hp x48 e_x48
  refine r_istore (L' := [(4, .int x48), (3, .int x45), (2, .int x42), (1, .int x37), (10, .int 1), (9, .int x34), (8, .int 1), (7, .int x21), (6, .int 1), (5, .int x18), (0, .ref fl)]) C dL_isStore_118 (by decide) rfl ?_
  refine r_iload C dL_isStore_120 9 rfl ?_
  refine r_aload_n C dL_isStore_122 10 rfl ?_
  refine r_iload C dL_isStore_123 6 rfl ?_
  refine r_bipush (v := 7) C dL_isStore_125 (by decide) ?_
  obtain ⟨h49, hp⟩ := hp
  refine r_callV (ci := 8) (wc := [sysB cI cL cP fl pl a L h v pl2 hi sa tx u w me fo fd taken st]) (wr := []) (st := [.int x18]) C (m_S_letter l D cI cL cP cJ fl pl a L h v pl2 hi sa tx u w me fo fd taken st 1 7 h49) k_X10_letter t_412 [0] (show ([0] : List Nat).Perm (List.range 1) by decide) rfl rfl rfl (q0 := 0) rfl rfl rfl (Nat.le_of_ble_eq_true rfl) ⟨Nat.le_of_ble_eq_true rfl, Nat.le_of_ble_eq_true rfl⟩ ⟨Nat.zero_le _, Nat.zero_le _⟩ dL_isStore_127 (fun r50 wr50 hw50 => ?_)
  obtain ⟨e_r50, rfl⟩ := hw50
  have hp := hp r50 e_r50
  refine r_ws (I' := [sysB cI cL cP fl pl a L h v pl2 hi sa tx u w me fo fd taken st]) rfl ?_
  refine r_callS (wc := []) (wr := [sysB cI cL cP fl pl a L h v pl2 hi sa tx u w me fo fd taken st]) (st := [.int x18]) C (m_L_ones l D cI cL cP cJ r50) k_L_ones t_497 [0] (show ([0] : List Nat).Perm (List.range 1) by decide) rfl rfl rfl (Nat.le_of_ble_eq_true rfl) ⟨Nat.le_of_ble_eq_true rfl, Nat.le_of_ble_eq_true rfl⟩ ⟨Nat.zero_le _, Nat.zero_le _⟩ dL_isStore_130 (fun r51 wr51 hw51 => ?_)
  obtain ⟨e_r51, rfl⟩ := hw51
  have hp := hp r51 e_r51
  refine r_ws (I' := [sysB cI cL cP fl pl a L h v pl2 hi sa tx u w me fo fd taken st]) rfl ?_
  refine r_iadd C dL_isStore_133 rfl ?_
  refine r_top (fun x52 e_x52 => ?_)
  have hp := hp x52 e_x52
  refine r_istore (L' := [(5, .int x52), (4, .int x48), (3, .int x45), (2, .int x42), (1, .int x37), (10, .int 1), (9, .int x34), (8, .int 1), (7, .int x21), (6, .int 1), (0, .ref fl)]) C dL_isStore_134 (by decide) rfl ?_
  refine r_iload C dL_isStore_136 9 rfl ?_
  refine r_iload C dL_isStore_138 6 rfl ?_
  suffices K : ∀ x54 : Int32, x54 = ((if x34 = 0 then (0) else (1))) → V p l e (rmm 7 152) s m args below meth c 11 D A 0 0 Q [sysB cI cL cP fl pl a L h v pl2 hi sa tx u w me fo fd taken st] [(5, .int x52), (4, .int x48), (3, .int x45), (2, .int x42), (1, .int x37), (10, .int 1), (9, .int x34), (8, .int 1), (7, .int x21), (6, .int 1), (0, .ref fl)] 148 [.int x54, .int 1] by
    refine r_if_eq (tgt := 147) C dL_isStore_140 (by decide) (fun c53 => ?_) (fun c53 => ?_)
    · refine r_iconst (v := 0) C dL_isStore_147 (by decide) ?_
      exact K _ (by simp only [if_pos c53])
    · refine r_iconst (v := 1) C dL_isStore_143 (by decide) ?_
      refine r_goto (tgt := 148) C dL_isStore_144 (by decide) ?_
      exact K _ (by simp only [if_neg c53])
  intro x54 e_x54
  have hp := hp x54 e_x54
  refine r_iadd C dL_isStore_148 rfl ?_
  refine r_top (fun x55 e_x55 => ?_)
  have hp := hp x55 e_x55
  refine r_istore (L' := [(6, .int x55), (5, .int x52), (4, .int x48), (3, .int x45), (2, .int x42), (1, .int x37), (10, .int 1), (9, .int x34), (8, .int 1), (7, .int x21), (0, .ref fl)]) C dL_isStore_149 (by decide) rfl ?_
  refine r_iload C dL_isStore_151 9 rfl ?_
  refine r_aload_n C dL_isStore_153 10 rfl ?_
  refine r_iload C dL_isStore_154 8 rfl ?_
  refine r_iconst (v := 2) C dL_isStore_156 (by decide) ?_
  obtain ⟨h56, hp⟩ := hp
  refine r_callV (ci := 8) (wc := [sysB cI cL cP fl pl a L h v pl2 hi sa tx u w me fo fd taken st]) (wr := []) (st := [.int x21]) C (m_S_letter l D cI cL cP cJ fl pl a L h v pl2 hi sa tx u w me fo fd taken st 1 2 h56) k_X10_letter t_412 [0] (show ([0] : List Nat).Perm (List.range 1) by decide) rfl rfl rfl (q0 := 0) rfl rfl rfl (Nat.le_of_ble_eq_true rfl) ⟨Nat.le_of_ble_eq_true rfl, Nat.le_of_ble_eq_true rfl⟩ ⟨Nat.zero_le _, Nat.zero_le _⟩ dL_isStore_157 (fun r57 wr57 hw57 => ?_)
  obtain ⟨e_r57, rfl⟩ := hw57
  have hp := hp r57 e_r57
  refine r_ws (I' := [sysB cI cL cP fl pl a L h v pl2 hi sa tx u w me fo fd taken st]) rfl ?_
  refine r_iadd C dL_isStore_160 rfl ?_
  refine r_top (fun x58 e_x58 => ?_)
  have hp := hp x58 e_x58
  refine r_istore (L' := [(7, .int x58), (6, .int x55), (5, .int x52), (4, .int x48), (3, .int x45), (2, .int x42), (1, .int x37), (10, .int 1), (9, .int x34), (8, .int 1), (0, .ref fl)]) C dL_isStore_161 (by decide) rfl ?_
  refine r_aload_n C dL_isStore_163 10 rfl ?_
  refine r_iload C dL_isStore_164 9 rfl ?_
  refine r_iconst (v := 4) C dL_isStore_166 (by decide) ?_
  obtain ⟨h59, hp⟩ := hp
  refine r_callV (ci := 8) (wc := [sysB cI cL cP fl pl a L h v pl2 hi sa tx u w me fo fd taken st]) (wr := []) (st := []) C (m_S_letter l D cI cL cP cJ fl pl a L h v pl2 hi sa tx u w me fo fd taken st 1 4 h59) k_X10_letter t_412 [0] (show ([0] : List Nat).Perm (List.range 1) by decide) rfl rfl rfl (q0 := 0) rfl rfl rfl (Nat.le_of_ble_eq_true rfl) ⟨Nat.le_of_ble_eq_true rfl, Nat.le_of_ble_eq_true rfl⟩ ⟨Nat.zero_le _, Nat.zero_le _⟩ dL_isStore_167 (fun r60 wr60 hw60 => ?_)
  obtain ⟨e_r60, rfl⟩ := hw60
  have hp := hp r60 e_r60
  refine r_ws (I' := [sysB cI cL cP fl pl a L h v pl2 hi sa tx u w me fo fd taken st]) rfl ?_
  refine r_iconst (v := 1) C dL_isStore_170 (by decide) ?_
  obtain ⟨hps, hp⟩ := hp
  suffices K :  V p l e (rmm 7 152) s m args below meth c 11 D A 0 0 Q [sysB cI cL cP fl pl a L h v pl2 hi sa tx u w me fo fd taken st] [(7, .int x58), (6, .int x55), (5, .int x52), (4, .int x48), (3, .int x45), (2, .int x42), (1, .int x37), (10, .int 1), (9, .int x34), (8, .int 1), (0, .ref fl)] 199 [] by
    have hp := hps
    refine r_icmp_ne (tgt := 199) C dL_isStore_171 (by decide) (fun c61 => ?_) (fun c61 => ?_)
    · exact K 
    · have hp := hp.1 c61
      refine r_aload_n C dL_isStore_174 10 rfl ?_
      refine r_iload C dL_isStore_175 9 rfl ?_
      refine r_iconst (v := 3) C dL_isStore_177 (by decide) ?_
      obtain ⟨h62, hp⟩ := hp
      refine r_callV (ci := 8) (wc := [sysB cI cL cP fl pl a L h v pl2 hi sa tx u w me fo fd taken st]) (wr := []) (st := []) C (m_S_letter l D cI cL cP cJ fl pl a L h v pl2 hi sa tx u w me fo fd taken st 1 3 h62) k_X10_letter t_412 [0] (show ([0] : List Nat).Perm (List.range 1) by decide) rfl rfl rfl (q0 := 0) rfl rfl rfl (Nat.le_of_ble_eq_true rfl) ⟨Nat.le_of_ble_eq_true rfl, Nat.le_of_ble_eq_true rfl⟩ ⟨Nat.zero_le _, Nat.zero_le _⟩ dL_isStore_178 (fun r63 wr63 hw63 => ?_)
      obtain ⟨e_r63, rfl⟩ := hw63
      have hp := hp r63 e_r63
      refine r_ws (I' := [sysB cI cL cP fl pl a L h v pl2 hi sa tx u w me fo fd taken st]) rfl ?_
      refine r_iconst (v := 2) C dL_isStore_181 (by decide) ?_
      obtain ⟨h64, hp⟩ := hp
      refine r_icmp_ne (tgt := 197) C dL_isStore_182 (by decide) (fun c => absurd h64 c) (fun _ => ?_)
      refine r_aload_n C dL_isStore_185 10 rfl ?_
      refine r_iload C dL_isStore_186 9 rfl ?_
      refine r_iconst (v := 0) C dL_isStore_188 (by decide) ?_
      obtain ⟨h65, hp⟩ := hp
      refine r_callV (ci := 8) (wc := [sysB cI cL cP fl pl a L h v pl2 hi sa tx u w me fo fd taken st]) (wr := []) (st := []) C (m_S_letter l D cI cL cP cJ fl pl a L h v pl2 hi sa tx u w me fo fd taken st 1 0 h65) k_X10_letter t_412 [0] (show ([0] : List Nat).Perm (List.range 1) by decide) rfl rfl rfl (q0 := 0) rfl rfl rfl (Nat.le_of_ble_eq_true rfl) ⟨Nat.le_of_ble_eq_true rfl, Nat.le_of_ble_eq_true rfl⟩ ⟨Nat.zero_le _, Nat.zero_le _⟩ dL_isStore_189 (fun r66 wr66 hw66 => ?_)
      obtain ⟨e_r66, rfl⟩ := hw66
      have hp := hp r66 e_r66
      refine r_ws (I' := [sysB cI cL cP fl pl a L h v pl2 hi sa tx u w me fo fd taken st]) rfl ?_
      refine r_iconst (v := 2) C dL_isStore_192 (by decide) ?_
      refine r_irem C dL_isStore_193 (by decide) rfl ?_
      have h67 := hp
      refine r_if_ne (tgt := 199) C dL_isStore_194 (by decide) (fun _ => ?_) (fun c => absurd c h67)
      exact K 
  skip
  refine r_iinc (v := 2) (L' := [(8, .int 2), (7, .int x58), (6, .int x55), (5, .int x52), (4, .int x48), (3, .int x45), (2, .int x42), (1, .int x37), (10, .int 1), (9, .int x34), (0, .ref fl)]) C dL_isStore_199 9 rfl (by decide) (by decide) rfl ?_
  refine r_goto (tgt := 21) C dL_isStore_202 (by decide) ?_
  refine r_iload C dL_isStore_21 0 rfl ?_
  refine r_iconst (v := 5) C dL_isStore_23 (by decide) ?_
  refine r_icmp_ge (tgt := 205) C dL_isStore_24 (by decide) (fun c => absurd c (by decide)) (fun _ => ?_)
  refine r_iconst (v := 1) C dL_isStore_27 (by decide) ?_
  refine r_istore (L' := [(9, .int 1), (8, .int 2), (7, .int x58), (6, .int x55), (5, .int x52), (4, .int x48), (3, .int x45), (2, .int x42), (1, .int x37), (10, .int 1), (0, .ref fl)]) C dL_isStore_28 (by decide) rfl ?_
  refine r_iconst (v := 0) C dL_isStore_30 (by decide) ?_
  refine r_istore (L' := [(10, .int 0), (9, .int 1), (8, .int 2), (7, .int x58), (6, .int x55), (5, .int x52), (4, .int x48), (3, .int x45), (2, .int x42), (1, .int x37), (0, .ref fl)]) C dL_isStore_31 (by decide) rfl ?_
  refine r_iload C dL_isStore_33 0 rfl ?_
  refine r_iload C dL_isStore_35 2 rfl ?_
  refine r_icmp_ge (tgt := 69) C dL_isStore_37 (by decide) (fun c => absurd c (by decide)) (fun _ => ?_)
  refine r_iload C dL_isStore_40 1 rfl ?_
  refine r_if_eq (tgt := 60) C dL_isStore_42 (by decide) (fun c => absurd c (by decide)) (fun _ => ?_)
  refine r_aload_n C dL_isStore_45 10 rfl ?_
  refine r_iload C dL_isStore_46 2 rfl ?_
  refine r_iload C dL_isStore_48 0 rfl ?_
  obtain ⟨h68, hp⟩ := hp
  refine r_callV (ci := 8) (wc := [sysB cI cL cP fl pl a L h v pl2 hi sa tx u w me fo fd taken st]) (wr := []) (st := []) C (m_S_distance l D cI cL cP cJ fl pl a L h v pl2 hi sa tx u w me fo fd taken st 2 0 h68) k_X10_distance t_490 [0] (show ([0] : List Nat).Perm (List.range 1) by decide) rfl rfl rfl (q0 := 0) rfl rfl rfl (Nat.le_of_ble_eq_true rfl) ⟨Nat.le_of_ble_eq_true rfl, Nat.le_of_ble_eq_true rfl⟩ ⟨Nat.zero_le _, Nat.zero_le _⟩ dL_isStore_50 (fun r69 wr69 hw69 => ?_)
  obtain ⟨e_r69, rfl⟩ := hw69
  have hp := hp r69 e_r69
  refine r_ws (I' := [sysB cI cL cP fl pl a L h v pl2 hi sa tx u w me fo fd taken st]) rfl ?_
  suffices K : ∀ x71 : Int32, x71 = ((if r69 ≤ 0 then (0) else (1))) → V p l e (rmm 7 152) s m args below meth c 11 D A 0 0 Q [sysB cI cL cP fl pl a L h v pl2 hi sa tx u w me fo fd taken st] [(10, .int 0), (9, .int 1), (8, .int 2), (7, .int x58), (6, .int x55), (5, .int x52), (4, .int x48), (3, .int x45), (2, .int x42), (1, .int x37), (0, .ref fl)] 61 [.int x71] by
    refine r_if_le (tgt := 60) C dL_isStore_53 (by decide) (fun c70 => ?_) (fun c70 => ?_)
    · refine r_iconst (v := 0) C dL_isStore_60 (by decide) ?_
      exact K _ (by simp only [if_pos c70])
    · refine r_iconst (v := 1) C dL_isStore_56 (by decide) ?_
      refine r_goto (tgt := 61) C dL_isStore_57 (by decide) ?_
      exact K _ (by simp only [if_neg c70])
  intro x71 e_x71
  have hp := hp x71 e_x71
  refine r_istore (L' := [(9, .int x71), (10, .int 0), (8, .int 2), (7, .int x58), (6, .int x55), (5, .int x52), (4, .int x48), (3, .int x45), (2, .int x42), (1, .int x37), (0, .ref fl)]) C dL_isStore_61 (by decide) rfl ?_
  refine r_iinc (v := 1) (L' := [(10, .int 1), (9, .int x71), (8, .int 2), (7, .int x58), (6, .int x55), (5, .int x52), (4, .int x48), (3, .int x45), (2, .int x42), (1, .int x37), (0, .ref fl)]) C dL_isStore_63 1 rfl (by decide) (by decide) rfl ?_
  refine r_goto (tgt := 33) C dL_isStore_66 (by decide) ?_
  refine r_iload C dL_isStore_33 0 rfl ?_
  refine r_iload C dL_isStore_35 2 rfl ?_
  refine r_icmp_ge (tgt := 69) C dL_isStore_37 (by decide) (fun c => absurd c (by decide)) (fun _ => ?_)
  refine r_iload C dL_isStore_40 1 rfl ?_
  obtain ⟨hps, hp⟩ := hp
  suffices K : ∀ x76 : Int32, x76 = ((if x71 = 0 then (0) else (let r74 : Int32 := F_S_distance st 2 1; (if r74 ≤ 0 then (0) else (1))))) → V p l e (rmm 7 152) s m args below meth c 11 D A 0 0 Q [sysB cI cL cP fl pl a L h v pl2 hi sa tx u w me fo fd taken st] [(10, .int 1), (9, .int x71), (8, .int 2), (7, .int x58), (6, .int x55), (5, .int x52), (4, .int x48), (3, .int x45), (2, .int x42), (1, .int x37), (0, .ref fl)] 61 [.int x76] by
    have hp := hps
    refine r_if_eq (tgt := 60) C dL_isStore_42 (by decide) (fun c72 => ?_) (fun c72 => ?_)
    · refine r_iconst (v := 0) C dL_isStore_60 (by decide) ?_
      exact K _ (by simp only [if_pos c72])
    · have hp := hp.2 c72
      refine r_aload_n C dL_isStore_45 10 rfl ?_
      refine r_iload C dL_isStore_46 2 rfl ?_
      refine r_iload C dL_isStore_48 0 rfl ?_
      have h73 := hp
      refine r_callV (ci := 8) (wc := [sysB cI cL cP fl pl a L h v pl2 hi sa tx u w me fo fd taken st]) (wr := []) (st := []) C (m_S_distance l D cI cL cP cJ fl pl a L h v pl2 hi sa tx u w me fo fd taken st 2 1 h73) k_X10_distance t_490 [0] (show ([0] : List Nat).Perm (List.range 1) by decide) rfl rfl rfl (q0 := 0) rfl rfl rfl (Nat.le_of_ble_eq_true rfl) ⟨Nat.le_of_ble_eq_true rfl, Nat.le_of_ble_eq_true rfl⟩ ⟨Nat.zero_le _, Nat.zero_le _⟩ dL_isStore_50 (fun r74 wr74 hw74 => ?_)
      obtain ⟨e_r74, rfl⟩ := hw74
      refine r_ws (I' := [sysB cI cL cP fl pl a L h v pl2 hi sa tx u w me fo fd taken st]) rfl ?_
      refine r_if_le (tgt := 60) C dL_isStore_53 (by decide) (fun c75 => ?_) (fun c75 => ?_)
      · refine r_iconst (v := 0) C dL_isStore_60 (by decide) ?_
        exact K _ (by have q := e_r74.symm; subst q; simp only [if_neg c72, if_pos c75])
      · refine r_iconst (v := 1) C dL_isStore_56 (by decide) ?_
        refine r_goto (tgt := 61) C dL_isStore_57 (by decide) ?_
        exact K _ (by have q := e_r74.symm; subst q; simp only [if_neg c72, if_neg c75])
  intro x76 e_x76
  have hp := hp x76 e_x76
  refine r_istore (L' := [(9, .int x76), (10, .int 1), (8, .int 2), (7, .int x58), (6, .int x55), (5, .int x52), (4, .int x48), (3, .int x45), (2, .int x42), (1, .int x37), (0, .ref fl)]) C dL_isStore_61 (by decide) rfl ?_
  refine r_iinc (v := 2) (L' := [(10, .int 2), (9, .int x76), (8, .int 2), (7, .int x58), (6, .int x55), (5, .int x52), (4, .int x48), (3, .int x45), (2, .int x42), (1, .int x37), (0, .ref fl)]) C dL_isStore_63 1 rfl (by decide) (by decide) rfl ?_
  refine r_goto (tgt := 33) C dL_isStore_66 (by decide) ?_
  refine r_iload C dL_isStore_33 0 rfl ?_
  refine r_iload C dL_isStore_35 2 rfl ?_
  refine r_icmp_ge (tgt := 69) C dL_isStore_37 (by decide) (fun _ => ?_) (fun c => absurd c (by decide))
  refine r_iload_n C dL_isStore_69 9 rfl ?_
  refine r_aload_n C dL_isStore_70 10 rfl ?_
  refine r_iload C dL_isStore_71 2 rfl ?_
  refine r_bipush (v := 10) C dL_isStore_73 (by decide) ?_
  obtain ⟨h77, hp⟩ := hp
  refine r_callV (ci := 8) (wc := [sysB cI cL cP fl pl a L h v pl2 hi sa tx u w me fo fd taken st]) (wr := []) (st := [.int x37]) C (m_S_letter l D cI cL cP cJ fl pl a L h v pl2 hi sa tx u w me fo fd taken st 2 10 h77) k_X10_letter t_412 [0] (show ([0] : List Nat).Perm (List.range 1) by decide) rfl rfl rfl (q0 := 0) rfl rfl rfl (Nat.le_of_ble_eq_true rfl) ⟨Nat.le_of_ble_eq_true rfl, Nat.le_of_ble_eq_true rfl⟩ ⟨Nat.zero_le _, Nat.zero_le _⟩ dL_isStore_75 (fun r78 wr78 hw78 => ?_)
  obtain ⟨e_r78, rfl⟩ := hw78
  have hp := hp r78 e_r78
  refine r_ws (I' := [sysB cI cL cP fl pl a L h v pl2 hi sa tx u w me fo fd taken st]) rfl ?_
  refine r_iadd C dL_isStore_78 rfl ?_
  refine r_top (fun x79 e_x79 => ?_)
  have hp := hp x79 e_x79
  refine r_istore_n (L' := [(1, .int x79), (10, .int 2), (9, .int x76), (8, .int 2), (7, .int x58), (6, .int x55), (5, .int x52), (4, .int x48), (3, .int x45), (2, .int x42), (0, .ref fl)]) C dL_isStore_79 (by decide) rfl ?_
  refine r_iload_n C dL_isStore_80 9 rfl ?_
  refine r_aload_n C dL_isStore_81 10 rfl ?_
  refine r_iload C dL_isStore_82 3 rfl ?_
  refine r_iconst (v := 0) C dL_isStore_84 (by decide) ?_
  obtain ⟨h80, hp⟩ := hp
  refine r_callV (ci := 8) (wc := [sysB cI cL cP fl pl a L h v pl2 hi sa tx u w me fo fd taken st]) (wr := []) (st := [.int x42]) C (m_S_letter l D cI cL cP cJ fl pl a L h v pl2 hi sa tx u w me fo fd taken st 2 0 h80) k_X10_letter t_412 [0] (show ([0] : List Nat).Perm (List.range 1) by decide) rfl rfl rfl (q0 := 0) rfl rfl rfl (Nat.le_of_ble_eq_true rfl) ⟨Nat.le_of_ble_eq_true rfl, Nat.le_of_ble_eq_true rfl⟩ ⟨Nat.zero_le _, Nat.zero_le _⟩ dL_isStore_85 (fun r81 wr81 hw81 => ?_)
  obtain ⟨e_r81, rfl⟩ := hw81
  have hp := hp r81 e_r81
  refine r_ws (I' := [sysB cI cL cP fl pl a L h v pl2 hi sa tx u w me fo fd taken st]) rfl ?_
  suffices K : ∀ x83 : Int32, x83 = ((if r81 = 0 then (1) else (0))) → V p l e (rmm 7 152) s m args below meth c 11 D A 0 0 Q [sysB cI cL cP fl pl a L h v pl2 hi sa tx u w me fo fd taken st] [(1, .int x79), (10, .int 2), (9, .int x76), (8, .int 2), (7, .int x58), (6, .int x55), (5, .int x52), (4, .int x48), (3, .int x45), (2, .int x42), (0, .ref fl)] 96 [.int x83, .int x42] by
    refine r_if_ne (tgt := 95) C dL_isStore_88 (by decide) (fun c82 => ?_) (fun c82 => ?_)
    · refine r_iconst (v := 0) C dL_isStore_95 (by decide) ?_
      exact K _ (by simp only [if_neg c82])
    · refine r_iconst (v := 1) C dL_isStore_91 (by decide) ?_
      refine r_goto (tgt := 96) C dL_isStore_92 (by decide) ?_
      exact K _ (by simp only [if_pos c82])
  intro x83 e_x83
  have hp := hp x83 e_x83
  refine r_iadd C dL_isStore_96 rfl ?_
  refine r_top (fun x84 e_x84 => ?_)
  have hp := hp x84 e_x84
  refine r_istore_n (L' := [(2, .int x84), (1, .int x79), (10, .int 2), (9, .int x76), (8, .int 2), (7, .int x58), (6, .int x55), (5, .int x52), (4, .int x48), (3, .int x45), (0, .ref fl)]) C dL_isStore_97 (by decide) rfl ?_
  refine r_iload_n C dL_isStore_98 9 rfl ?_
  refine r_aload_n C dL_isStore_99 10 rfl ?_
  refine r_iload C dL_isStore_100 4 rfl ?_
  refine r_iconst (v := 4) C dL_isStore_102 (by decide) ?_
  obtain ⟨h85, hp⟩ := hp
  refine r_callV (ci := 8) (wc := [sysB cI cL cP fl pl a L h v pl2 hi sa tx u w me fo fd taken st]) (wr := []) (st := [.int x45]) C (m_S_letter l D cI cL cP cJ fl pl a L h v pl2 hi sa tx u w me fo fd taken st 2 4 h85) k_X10_letter t_412 [0] (show ([0] : List Nat).Perm (List.range 1) by decide) rfl rfl rfl (q0 := 0) rfl rfl rfl (Nat.le_of_ble_eq_true rfl) ⟨Nat.le_of_ble_eq_true rfl, Nat.le_of_ble_eq_true rfl⟩ ⟨Nat.zero_le _, Nat.zero_le _⟩ dL_isStore_103 (fun r86 wr86 hw86 => ?_)
  obtain ⟨e_r86, rfl⟩ := hw86
  have hp := hp r86 e_r86
  refine r_ws (I' := [sysB cI cL cP fl pl a L h v pl2 hi sa tx u w me fo fd taken st]) rfl ?_
  refine r_iadd C dL_isStore_106 rfl ?_
  refine r_top (fun x87 e_x87 => ?_)
  have hp := hp x87 e_x87
  refine r_istore_n (L' := [(3, .int x87), (2, .int x84), (1, .int x79), (10, .int 2), (9, .int x76), (8, .int 2), (7, .int x58), (6, .int x55), (5, .int x52), (4, .int x48), (0, .ref fl)]) C dL_isStore_107 (by decide) rfl ?_
  refine r_iload C dL_isStore_108 9 rfl ?_
  refine r_aload_n C dL_isStore_110 10 rfl ?_
  refine r_iload C dL_isStore_111 5 rfl ?_
  refine r_iconst (v := 0) C dL_isStore_113 (by decide) ?_
  obtain ⟨h88, hp⟩ := hp
  refine r_callV (ci := 8) (wc := [sysB cI cL cP fl pl a L h v pl2 hi sa tx u w me fo fd taken st]) (wr := []) (st := [.int x48]) C (m_S_letter l D cI cL cP cJ fl pl a L h v pl2 hi sa tx u w me fo fd taken st 2 0 h88) k_X10_letter t_412 [0] (show ([0] : List Nat).Perm (List.range 1) by decide) rfl rfl rfl (q0 := 0) rfl rfl rfl (Nat.le_of_ble_eq_true rfl) ⟨Nat.le_of_ble_eq_true rfl, Nat.le_of_ble_eq_true rfl⟩ ⟨Nat.zero_le _, Nat.zero_le _⟩ dL_isStore_114 (fun r89 wr89 hw89 => ?_)
  obtain ⟨e_r89, rfl⟩ := hw89
  have hp := hp r89 e_r89
  refine r_ws (I' := [sysB cI cL cP fl pl a L h v pl2 hi sa tx u w me fo fd taken st]) rfl ?_
  refine r_iadd C dL_isStore_117 rfl ?_
  refine r_top (fun x90 e_x90 => ?_)
  have hp := hp x90 e_x90
  refine r_istore (L' := [(4, .int x90), (3, .int x87), (2, .int x84), (1, .int x79), (10, .int 2), (9, .int x76), (8, .int 2), (7, .int x58), (6, .int x55), (5, .int x52), (0, .ref fl)]) C dL_isStore_118 (by decide) rfl ?_
  refine r_iload C dL_isStore_120 9 rfl ?_
  refine r_aload_n C dL_isStore_122 10 rfl ?_
  refine r_iload C dL_isStore_123 6 rfl ?_
  refine r_bipush (v := 7) C dL_isStore_125 (by decide) ?_
  obtain ⟨h91, hp⟩ := hp
  refine r_callV (ci := 8) (wc := [sysB cI cL cP fl pl a L h v pl2 hi sa tx u w me fo fd taken st]) (wr := []) (st := [.int x52]) C (m_S_letter l D cI cL cP cJ fl pl a L h v pl2 hi sa tx u w me fo fd taken st 2 7 h91) k_X10_letter t_412 [0] (show ([0] : List Nat).Perm (List.range 1) by decide) rfl rfl rfl (q0 := 0) rfl rfl rfl (Nat.le_of_ble_eq_true rfl) ⟨Nat.le_of_ble_eq_true rfl, Nat.le_of_ble_eq_true rfl⟩ ⟨Nat.zero_le _, Nat.zero_le _⟩ dL_isStore_127 (fun r92 wr92 hw92 => ?_)
  obtain ⟨e_r92, rfl⟩ := hw92
  have hp := hp r92 e_r92
  refine r_ws (I' := [sysB cI cL cP fl pl a L h v pl2 hi sa tx u w me fo fd taken st]) rfl ?_
  refine r_callS (wc := []) (wr := [sysB cI cL cP fl pl a L h v pl2 hi sa tx u w me fo fd taken st]) (st := [.int x52]) C (m_L_ones l D cI cL cP cJ r92) k_L_ones t_497 [0] (show ([0] : List Nat).Perm (List.range 1) by decide) rfl rfl rfl (Nat.le_of_ble_eq_true rfl) ⟨Nat.le_of_ble_eq_true rfl, Nat.le_of_ble_eq_true rfl⟩ ⟨Nat.zero_le _, Nat.zero_le _⟩ dL_isStore_130 (fun r93 wr93 hw93 => ?_)
  obtain ⟨e_r93, rfl⟩ := hw93
  have hp := hp r93 e_r93
  refine r_ws (I' := [sysB cI cL cP fl pl a L h v pl2 hi sa tx u w me fo fd taken st]) rfl ?_
  refine r_iadd C dL_isStore_133 rfl ?_
  refine r_top (fun x94 e_x94 => ?_)
  have hp := hp x94 e_x94
  refine r_istore (L' := [(5, .int x94), (4, .int x90), (3, .int x87), (2, .int x84), (1, .int x79), (10, .int 2), (9, .int x76), (8, .int 2), (7, .int x58), (6, .int x55), (0, .ref fl)]) C dL_isStore_134 (by decide) rfl ?_
  refine r_iload C dL_isStore_136 9 rfl ?_
  refine r_iload C dL_isStore_138 6 rfl ?_
  suffices K : ∀ x96 : Int32, x96 = ((if x76 = 0 then (0) else (1))) → V p l e (rmm 7 152) s m args below meth c 11 D A 0 0 Q [sysB cI cL cP fl pl a L h v pl2 hi sa tx u w me fo fd taken st] [(5, .int x94), (4, .int x90), (3, .int x87), (2, .int x84), (1, .int x79), (10, .int 2), (9, .int x76), (8, .int 2), (7, .int x58), (6, .int x55), (0, .ref fl)] 148 [.int x96, .int x55] by
    refine r_if_eq (tgt := 147) C dL_isStore_140 (by decide) (fun c95 => ?_) (fun c95 => ?_)
    · refine r_iconst (v := 0) C dL_isStore_147 (by decide) ?_
      exact K _ (by simp only [if_pos c95])
    · refine r_iconst (v := 1) C dL_isStore_143 (by decide) ?_
      refine r_goto (tgt := 148) C dL_isStore_144 (by decide) ?_
      exact K _ (by simp only [if_neg c95])
  intro x96 e_x96
  have hp := hp x96 e_x96
  refine r_iadd C dL_isStore_148 rfl ?_
  refine r_top (fun x97 e_x97 => ?_)
  have hp := hp x97 e_x97
  refine r_istore (L' := [(6, .int x97), (5, .int x94), (4, .int x90), (3, .int x87), (2, .int x84), (1, .int x79), (10, .int 2), (9, .int x76), (8, .int 2), (7, .int x58), (0, .ref fl)]) C dL_isStore_149 (by decide) rfl ?_
  refine r_iload C dL_isStore_151 9 rfl ?_
  refine r_aload_n C dL_isStore_153 10 rfl ?_
  refine r_iload C dL_isStore_154 8 rfl ?_
  refine r_iconst (v := 2) C dL_isStore_156 (by decide) ?_
  obtain ⟨h98, hp⟩ := hp
  refine r_callV (ci := 8) (wc := [sysB cI cL cP fl pl a L h v pl2 hi sa tx u w me fo fd taken st]) (wr := []) (st := [.int x58]) C (m_S_letter l D cI cL cP cJ fl pl a L h v pl2 hi sa tx u w me fo fd taken st 2 2 h98) k_X10_letter t_412 [0] (show ([0] : List Nat).Perm (List.range 1) by decide) rfl rfl rfl (q0 := 0) rfl rfl rfl (Nat.le_of_ble_eq_true rfl) ⟨Nat.le_of_ble_eq_true rfl, Nat.le_of_ble_eq_true rfl⟩ ⟨Nat.zero_le _, Nat.zero_le _⟩ dL_isStore_157 (fun r99 wr99 hw99 => ?_)
  obtain ⟨e_r99, rfl⟩ := hw99
  have hp := hp r99 e_r99
  refine r_ws (I' := [sysB cI cL cP fl pl a L h v pl2 hi sa tx u w me fo fd taken st]) rfl ?_
  refine r_iadd C dL_isStore_160 rfl ?_
  refine r_top (fun x100 e_x100 => ?_)
  have hp := hp x100 e_x100
  refine r_istore (L' := [(7, .int x100), (6, .int x97), (5, .int x94), (4, .int x90), (3, .int x87), (2, .int x84), (1, .int x79), (10, .int 2), (9, .int x76), (8, .int 2), (0, .ref fl)]) C dL_isStore_161 (by decide) rfl ?_
  refine r_aload_n C dL_isStore_163 10 rfl ?_
  refine r_iload C dL_isStore_164 9 rfl ?_
  refine r_iconst (v := 4) C dL_isStore_166 (by decide) ?_
  obtain ⟨h101, hp⟩ := hp
  refine r_callV (ci := 8) (wc := [sysB cI cL cP fl pl a L h v pl2 hi sa tx u w me fo fd taken st]) (wr := []) (st := []) C (m_S_letter l D cI cL cP cJ fl pl a L h v pl2 hi sa tx u w me fo fd taken st 2 4 h101) k_X10_letter t_412 [0] (show ([0] : List Nat).Perm (List.range 1) by decide) rfl rfl rfl (q0 := 0) rfl rfl rfl (Nat.le_of_ble_eq_true rfl) ⟨Nat.le_of_ble_eq_true rfl, Nat.le_of_ble_eq_true rfl⟩ ⟨Nat.zero_le _, Nat.zero_le _⟩ dL_isStore_167 (fun r102 wr102 hw102 => ?_)
  obtain ⟨e_r102, rfl⟩ := hw102
  have hp := hp r102 e_r102
  refine r_ws (I' := [sysB cI cL cP fl pl a L h v pl2 hi sa tx u w me fo fd taken st]) rfl ?_
  refine r_iconst (v := 1) C dL_isStore_170 (by decide) ?_
  obtain ⟨hps, hp⟩ := hp
  suffices K :  V p l e (rmm 7 152) s m args below meth c 11 D A 0 0 Q [sysB cI cL cP fl pl a L h v pl2 hi sa tx u w me fo fd taken st] [(7, .int x100), (6, .int x97), (5, .int x94), (4, .int x90), (3, .int x87), (2, .int x84), (1, .int x79), (10, .int 2), (9, .int x76), (8, .int 2), (0, .ref fl)] 199 [] by
    have hp := hps
    refine r_icmp_ne (tgt := 199) C dL_isStore_171 (by decide) (fun c103 => ?_) (fun c103 => ?_)
    · exact K 
    · have hp := hp.1 c103
      refine r_aload_n C dL_isStore_174 10 rfl ?_
      refine r_iload C dL_isStore_175 9 rfl ?_
      refine r_iconst (v := 3) C dL_isStore_177 (by decide) ?_
      obtain ⟨h104, hp⟩ := hp
      refine r_callV (ci := 8) (wc := [sysB cI cL cP fl pl a L h v pl2 hi sa tx u w me fo fd taken st]) (wr := []) (st := []) C (m_S_letter l D cI cL cP cJ fl pl a L h v pl2 hi sa tx u w me fo fd taken st 2 3 h104) k_X10_letter t_412 [0] (show ([0] : List Nat).Perm (List.range 1) by decide) rfl rfl rfl (q0 := 0) rfl rfl rfl (Nat.le_of_ble_eq_true rfl) ⟨Nat.le_of_ble_eq_true rfl, Nat.le_of_ble_eq_true rfl⟩ ⟨Nat.zero_le _, Nat.zero_le _⟩ dL_isStore_178 (fun r105 wr105 hw105 => ?_)
      obtain ⟨e_r105, rfl⟩ := hw105
      have hp := hp r105 e_r105
      refine r_ws (I' := [sysB cI cL cP fl pl a L h v pl2 hi sa tx u w me fo fd taken st]) rfl ?_
      refine r_iconst (v := 2) C dL_isStore_181 (by decide) ?_
      obtain ⟨h106, hp⟩ := hp
      refine r_icmp_ne (tgt := 197) C dL_isStore_182 (by decide) (fun c => absurd h106 c) (fun _ => ?_)
      refine r_aload_n C dL_isStore_185 10 rfl ?_
      refine r_iload C dL_isStore_186 9 rfl ?_
      refine r_iconst (v := 0) C dL_isStore_188 (by decide) ?_
      obtain ⟨h107, hp⟩ := hp
      refine r_callV (ci := 8) (wc := [sysB cI cL cP fl pl a L h v pl2 hi sa tx u w me fo fd taken st]) (wr := []) (st := []) C (m_S_letter l D cI cL cP cJ fl pl a L h v pl2 hi sa tx u w me fo fd taken st 2 0 h107) k_X10_letter t_412 [0] (show ([0] : List Nat).Perm (List.range 1) by decide) rfl rfl rfl (q0 := 0) rfl rfl rfl (Nat.le_of_ble_eq_true rfl) ⟨Nat.le_of_ble_eq_true rfl, Nat.le_of_ble_eq_true rfl⟩ ⟨Nat.zero_le _, Nat.zero_le _⟩ dL_isStore_189 (fun r108 wr108 hw108 => ?_)
      obtain ⟨e_r108, rfl⟩ := hw108
      have hp := hp r108 e_r108
      refine r_ws (I' := [sysB cI cL cP fl pl a L h v pl2 hi sa tx u w me fo fd taken st]) rfl ?_
      refine r_iconst (v := 2) C dL_isStore_192 (by decide) ?_
      refine r_irem C dL_isStore_193 (by decide) rfl ?_
      have h109 := hp
      refine r_if_ne (tgt := 199) C dL_isStore_194 (by decide) (fun _ => ?_) (fun c => absurd c h109)
      exact K 
  skip
  refine r_iinc (v := 3) (L' := [(8, .int 3), (7, .int x100), (6, .int x97), (5, .int x94), (4, .int x90), (3, .int x87), (2, .int x84), (1, .int x79), (10, .int 2), (9, .int x76), (0, .ref fl)]) C dL_isStore_199 9 rfl (by decide) (by decide) rfl ?_
  refine r_goto (tgt := 21) C dL_isStore_202 (by decide) ?_
  refine r_iload C dL_isStore_21 0 rfl ?_
  refine r_iconst (v := 5) C dL_isStore_23 (by decide) ?_
  refine r_icmp_ge (tgt := 205) C dL_isStore_24 (by decide) (fun c => absurd c (by decide)) (fun _ => ?_)
  refine r_iconst (v := 1) C dL_isStore_27 (by decide) ?_
  refine r_istore (L' := [(9, .int 1), (8, .int 3), (7, .int x100), (6, .int x97), (5, .int x94), (4, .int x90), (3, .int x87), (2, .int x84), (1, .int x79), (10, .int 2), (0, .ref fl)]) C dL_isStore_28 (by decide) rfl ?_
  refine r_iconst (v := 0) C dL_isStore_30 (by decide) ?_
  refine r_istore (L' := [(10, .int 0), (9, .int 1), (8, .int 3), (7, .int x100), (6, .int x97), (5, .int x94), (4, .int x90), (3, .int x87), (2, .int x84), (1, .int x79), (0, .ref fl)]) C dL_isStore_31 (by decide) rfl ?_
  refine r_iload C dL_isStore_33 0 rfl ?_
  refine r_iload C dL_isStore_35 2 rfl ?_
  refine r_icmp_ge (tgt := 69) C dL_isStore_37 (by decide) (fun c => absurd c (by decide)) (fun _ => ?_)
  refine r_iload C dL_isStore_40 1 rfl ?_
  refine r_if_eq (tgt := 60) C dL_isStore_42 (by decide) (fun c => absurd c (by decide)) (fun _ => ?_)
  refine r_aload_n C dL_isStore_45 10 rfl ?_
  refine r_iload C dL_isStore_46 2 rfl ?_
  refine r_iload C dL_isStore_48 0 rfl ?_
  obtain ⟨h110, hp⟩ := hp
  refine r_callV (ci := 8) (wc := [sysB cI cL cP fl pl a L h v pl2 hi sa tx u w me fo fd taken st]) (wr := []) (st := []) C (m_S_distance l D cI cL cP cJ fl pl a L h v pl2 hi sa tx u w me fo fd taken st 3 0 h110) k_X10_distance t_490 [0] (show ([0] : List Nat).Perm (List.range 1) by decide) rfl rfl rfl (q0 := 0) rfl rfl rfl (Nat.le_of_ble_eq_true rfl) ⟨Nat.le_of_ble_eq_true rfl, Nat.le_of_ble_eq_true rfl⟩ ⟨Nat.zero_le _, Nat.zero_le _⟩ dL_isStore_50 (fun r111 wr111 hw111 => ?_)
  obtain ⟨e_r111, rfl⟩ := hw111
  have hp := hp r111 e_r111
  refine r_ws (I' := [sysB cI cL cP fl pl a L h v pl2 hi sa tx u w me fo fd taken st]) rfl ?_
  suffices K : ∀ x113 : Int32, x113 = ((if r111 ≤ 0 then (0) else (1))) → V p l e (rmm 7 152) s m args below meth c 11 D A 0 0 Q [sysB cI cL cP fl pl a L h v pl2 hi sa tx u w me fo fd taken st] [(10, .int 0), (9, .int 1), (8, .int 3), (7, .int x100), (6, .int x97), (5, .int x94), (4, .int x90), (3, .int x87), (2, .int x84), (1, .int x79), (0, .ref fl)] 61 [.int x113] by
    refine r_if_le (tgt := 60) C dL_isStore_53 (by decide) (fun c112 => ?_) (fun c112 => ?_)
    · refine r_iconst (v := 0) C dL_isStore_60 (by decide) ?_
      exact K _ (by simp only [if_pos c112])
    · refine r_iconst (v := 1) C dL_isStore_56 (by decide) ?_
      refine r_goto (tgt := 61) C dL_isStore_57 (by decide) ?_
      exact K _ (by simp only [if_neg c112])
  intro x113 e_x113
  have hp := hp x113 e_x113
  refine r_istore (L' := [(9, .int x113), (10, .int 0), (8, .int 3), (7, .int x100), (6, .int x97), (5, .int x94), (4, .int x90), (3, .int x87), (2, .int x84), (1, .int x79), (0, .ref fl)]) C dL_isStore_61 (by decide) rfl ?_
  refine r_iinc (v := 1) (L' := [(10, .int 1), (9, .int x113), (8, .int 3), (7, .int x100), (6, .int x97), (5, .int x94), (4, .int x90), (3, .int x87), (2, .int x84), (1, .int x79), (0, .ref fl)]) C dL_isStore_63 1 rfl (by decide) (by decide) rfl ?_
  refine r_goto (tgt := 33) C dL_isStore_66 (by decide) ?_
  refine r_iload C dL_isStore_33 0 rfl ?_
  refine r_iload C dL_isStore_35 2 rfl ?_
  refine r_icmp_ge (tgt := 69) C dL_isStore_37 (by decide) (fun c => absurd c (by decide)) (fun _ => ?_)
  refine r_iload C dL_isStore_40 1 rfl ?_
  obtain ⟨hps, hp⟩ := hp
  suffices K : ∀ x118 : Int32, x118 = ((if x113 = 0 then (0) else (let r116 : Int32 := F_S_distance st 3 1; (if r116 ≤ 0 then (0) else (1))))) → V p l e (rmm 7 152) s m args below meth c 11 D A 0 0 Q [sysB cI cL cP fl pl a L h v pl2 hi sa tx u w me fo fd taken st] [(10, .int 1), (9, .int x113), (8, .int 3), (7, .int x100), (6, .int x97), (5, .int x94), (4, .int x90), (3, .int x87), (2, .int x84), (1, .int x79), (0, .ref fl)] 61 [.int x118] by
    have hp := hps
    refine r_if_eq (tgt := 60) C dL_isStore_42 (by decide) (fun c114 => ?_) (fun c114 => ?_)
    · refine r_iconst (v := 0) C dL_isStore_60 (by decide) ?_
      exact K _ (by simp only [if_pos c114])
    · have hp := hp.2 c114
      refine r_aload_n C dL_isStore_45 10 rfl ?_
      refine r_iload C dL_isStore_46 2 rfl ?_
      refine r_iload C dL_isStore_48 0 rfl ?_
      have h115 := hp
      refine r_callV (ci := 8) (wc := [sysB cI cL cP fl pl a L h v pl2 hi sa tx u w me fo fd taken st]) (wr := []) (st := []) C (m_S_distance l D cI cL cP cJ fl pl a L h v pl2 hi sa tx u w me fo fd taken st 3 1 h115) k_X10_distance t_490 [0] (show ([0] : List Nat).Perm (List.range 1) by decide) rfl rfl rfl (q0 := 0) rfl rfl rfl (Nat.le_of_ble_eq_true rfl) ⟨Nat.le_of_ble_eq_true rfl, Nat.le_of_ble_eq_true rfl⟩ ⟨Nat.zero_le _, Nat.zero_le _⟩ dL_isStore_50 (fun r116 wr116 hw116 => ?_)
      obtain ⟨e_r116, rfl⟩ := hw116
      refine r_ws (I' := [sysB cI cL cP fl pl a L h v pl2 hi sa tx u w me fo fd taken st]) rfl ?_
      refine r_if_le (tgt := 60) C dL_isStore_53 (by decide) (fun c117 => ?_) (fun c117 => ?_)
      · refine r_iconst (v := 0) C dL_isStore_60 (by decide) ?_
        exact K _ (by have q := e_r116.symm; subst q; simp only [if_neg c114, if_pos c117])
      · refine r_iconst (v := 1) C dL_isStore_56 (by decide) ?_
        refine r_goto (tgt := 61) C dL_isStore_57 (by decide) ?_
        exact K _ (by have q := e_r116.symm; subst q; simp only [if_neg c114, if_neg c117])
  intro x118 e_x118
  have hp := hp x118 e_x118
  refine r_istore (L' := [(9, .int x118), (10, .int 1), (8, .int 3), (7, .int x100), (6, .int x97), (5, .int x94), (4, .int x90), (3, .int x87), (2, .int x84), (1, .int x79), (0, .ref fl)]) C dL_isStore_61 (by decide) rfl ?_
  refine r_iinc (v := 2) (L' := [(10, .int 2), (9, .int x118), (8, .int 3), (7, .int x100), (6, .int x97), (5, .int x94), (4, .int x90), (3, .int x87), (2, .int x84), (1, .int x79), (0, .ref fl)]) C dL_isStore_63 1 rfl (by decide) (by decide) rfl ?_
  refine r_goto (tgt := 33) C dL_isStore_66 (by decide) ?_
  refine r_iload C dL_isStore_33 0 rfl ?_
  refine r_iload C dL_isStore_35 2 rfl ?_
  refine r_icmp_ge (tgt := 69) C dL_isStore_37 (by decide) (fun c => absurd c (by decide)) (fun _ => ?_)
  refine r_iload C dL_isStore_40 1 rfl ?_
  obtain ⟨hps, hp⟩ := hp
  suffices K : ∀ x123 : Int32, x123 = ((if x118 = 0 then (0) else (let r121 : Int32 := F_S_distance st 3 2; (if r121 ≤ 0 then (0) else (1))))) → V p l e (rmm 7 152) s m args below meth c 11 D A 0 0 Q [sysB cI cL cP fl pl a L h v pl2 hi sa tx u w me fo fd taken st] [(10, .int 2), (9, .int x118), (8, .int 3), (7, .int x100), (6, .int x97), (5, .int x94), (4, .int x90), (3, .int x87), (2, .int x84), (1, .int x79), (0, .ref fl)] 61 [.int x123] by
    have hp := hps
    refine r_if_eq (tgt := 60) C dL_isStore_42 (by decide) (fun c119 => ?_) (fun c119 => ?_)
    · refine r_iconst (v := 0) C dL_isStore_60 (by decide) ?_
      exact K _ (by simp only [if_pos c119])
    · have hp := hp.2 c119
      refine r_aload_n C dL_isStore_45 10 rfl ?_
      refine r_iload C dL_isStore_46 2 rfl ?_
      refine r_iload C dL_isStore_48 0 rfl ?_
      have h120 := hp
      refine r_callV (ci := 8) (wc := [sysB cI cL cP fl pl a L h v pl2 hi sa tx u w me fo fd taken st]) (wr := []) (st := []) C (m_S_distance l D cI cL cP cJ fl pl a L h v pl2 hi sa tx u w me fo fd taken st 3 2 h120) k_X10_distance t_490 [0] (show ([0] : List Nat).Perm (List.range 1) by decide) rfl rfl rfl (q0 := 0) rfl rfl rfl (Nat.le_of_ble_eq_true rfl) ⟨Nat.le_of_ble_eq_true rfl, Nat.le_of_ble_eq_true rfl⟩ ⟨Nat.zero_le _, Nat.zero_le _⟩ dL_isStore_50 (fun r121 wr121 hw121 => ?_)
      obtain ⟨e_r121, rfl⟩ := hw121
      refine r_ws (I' := [sysB cI cL cP fl pl a L h v pl2 hi sa tx u w me fo fd taken st]) rfl ?_
      refine r_if_le (tgt := 60) C dL_isStore_53 (by decide) (fun c122 => ?_) (fun c122 => ?_)
      · refine r_iconst (v := 0) C dL_isStore_60 (by decide) ?_
        exact K _ (by have q := e_r121.symm; subst q; simp only [if_neg c119, if_pos c122])
      · refine r_iconst (v := 1) C dL_isStore_56 (by decide) ?_
        refine r_goto (tgt := 61) C dL_isStore_57 (by decide) ?_
        exact K _ (by have q := e_r121.symm; subst q; simp only [if_neg c119, if_neg c122])
  intro x123 e_x123
  have hp := hp x123 e_x123
  refine r_istore (L' := [(9, .int x123), (10, .int 2), (8, .int 3), (7, .int x100), (6, .int x97), (5, .int x94), (4, .int x90), (3, .int x87), (2, .int x84), (1, .int x79), (0, .ref fl)]) C dL_isStore_61 (by decide) rfl ?_
  refine r_iinc (v := 3) (L' := [(10, .int 3), (9, .int x123), (8, .int 3), (7, .int x100), (6, .int x97), (5, .int x94), (4, .int x90), (3, .int x87), (2, .int x84), (1, .int x79), (0, .ref fl)]) C dL_isStore_63 1 rfl (by decide) (by decide) rfl ?_
  refine r_goto (tgt := 33) C dL_isStore_66 (by decide) ?_
  refine r_iload C dL_isStore_33 0 rfl ?_
  refine r_iload C dL_isStore_35 2 rfl ?_
  refine r_icmp_ge (tgt := 69) C dL_isStore_37 (by decide) (fun _ => ?_) (fun c => absurd c (by decide))
  refine r_iload_n C dL_isStore_69 9 rfl ?_
  refine r_aload_n C dL_isStore_70 10 rfl ?_
  refine r_iload C dL_isStore_71 2 rfl ?_
  refine r_bipush (v := 10) C dL_isStore_73 (by decide) ?_
  obtain ⟨h124, hp⟩ := hp
  refine r_callV (ci := 8) (wc := [sysB cI cL cP fl pl a L h v pl2 hi sa tx u w me fo fd taken st]) (wr := []) (st := [.int x79]) C (m_S_letter l D cI cL cP cJ fl pl a L h v pl2 hi sa tx u w me fo fd taken st 3 10 h124) k_X10_letter t_412 [0] (show ([0] : List Nat).Perm (List.range 1) by decide) rfl rfl rfl (q0 := 0) rfl rfl rfl (Nat.le_of_ble_eq_true rfl) ⟨Nat.le_of_ble_eq_true rfl, Nat.le_of_ble_eq_true rfl⟩ ⟨Nat.zero_le _, Nat.zero_le _⟩ dL_isStore_75 (fun r125 wr125 hw125 => ?_)
  obtain ⟨e_r125, rfl⟩ := hw125
  have hp := hp r125 e_r125
  refine r_ws (I' := [sysB cI cL cP fl pl a L h v pl2 hi sa tx u w me fo fd taken st]) rfl ?_
  refine r_iadd C dL_isStore_78 rfl ?_
  refine r_top (fun x126 e_x126 => ?_)
  have hp := hp x126 e_x126
  refine r_istore_n (L' := [(1, .int x126), (10, .int 3), (9, .int x123), (8, .int 3), (7, .int x100), (6, .int x97), (5, .int x94), (4, .int x90), (3, .int x87), (2, .int x84), (0, .ref fl)]) C dL_isStore_79 (by decide) rfl ?_
  refine r_iload_n C dL_isStore_80 9 rfl ?_
  refine r_aload_n C dL_isStore_81 10 rfl ?_
  refine r_iload C dL_isStore_82 3 rfl ?_
  refine r_iconst (v := 0) C dL_isStore_84 (by decide) ?_
  obtain ⟨h127, hp⟩ := hp
  refine r_callV (ci := 8) (wc := [sysB cI cL cP fl pl a L h v pl2 hi sa tx u w me fo fd taken st]) (wr := []) (st := [.int x84]) C (m_S_letter l D cI cL cP cJ fl pl a L h v pl2 hi sa tx u w me fo fd taken st 3 0 h127) k_X10_letter t_412 [0] (show ([0] : List Nat).Perm (List.range 1) by decide) rfl rfl rfl (q0 := 0) rfl rfl rfl (Nat.le_of_ble_eq_true rfl) ⟨Nat.le_of_ble_eq_true rfl, Nat.le_of_ble_eq_true rfl⟩ ⟨Nat.zero_le _, Nat.zero_le _⟩ dL_isStore_85 (fun r128 wr128 hw128 => ?_)
  obtain ⟨e_r128, rfl⟩ := hw128
  have hp := hp r128 e_r128
  refine r_ws (I' := [sysB cI cL cP fl pl a L h v pl2 hi sa tx u w me fo fd taken st]) rfl ?_
  suffices K : ∀ x130 : Int32, x130 = ((if r128 = 0 then (1) else (0))) → V p l e (rmm 7 152) s m args below meth c 11 D A 0 0 Q [sysB cI cL cP fl pl a L h v pl2 hi sa tx u w me fo fd taken st] [(1, .int x126), (10, .int 3), (9, .int x123), (8, .int 3), (7, .int x100), (6, .int x97), (5, .int x94), (4, .int x90), (3, .int x87), (2, .int x84), (0, .ref fl)] 96 [.int x130, .int x84] by
    refine r_if_ne (tgt := 95) C dL_isStore_88 (by decide) (fun c129 => ?_) (fun c129 => ?_)
    · refine r_iconst (v := 0) C dL_isStore_95 (by decide) ?_
      exact K _ (by simp only [if_neg c129])
    · refine r_iconst (v := 1) C dL_isStore_91 (by decide) ?_
      refine r_goto (tgt := 96) C dL_isStore_92 (by decide) ?_
      exact K _ (by simp only [if_pos c129])
  intro x130 e_x130
  have hp := hp x130 e_x130
  refine r_iadd C dL_isStore_96 rfl ?_
  refine r_top (fun x131 e_x131 => ?_)
  have hp := hp x131 e_x131
  refine r_istore_n (L' := [(2, .int x131), (1, .int x126), (10, .int 3), (9, .int x123), (8, .int 3), (7, .int x100), (6, .int x97), (5, .int x94), (4, .int x90), (3, .int x87), (0, .ref fl)]) C dL_isStore_97 (by decide) rfl ?_
  refine r_iload_n C dL_isStore_98 9 rfl ?_
  refine r_aload_n C dL_isStore_99 10 rfl ?_
  refine r_iload C dL_isStore_100 4 rfl ?_
  refine r_iconst (v := 4) C dL_isStore_102 (by decide) ?_
  obtain ⟨h132, hp⟩ := hp
  refine r_callV (ci := 8) (wc := [sysB cI cL cP fl pl a L h v pl2 hi sa tx u w me fo fd taken st]) (wr := []) (st := [.int x87]) C (m_S_letter l D cI cL cP cJ fl pl a L h v pl2 hi sa tx u w me fo fd taken st 3 4 h132) k_X10_letter t_412 [0] (show ([0] : List Nat).Perm (List.range 1) by decide) rfl rfl rfl (q0 := 0) rfl rfl rfl (Nat.le_of_ble_eq_true rfl) ⟨Nat.le_of_ble_eq_true rfl, Nat.le_of_ble_eq_true rfl⟩ ⟨Nat.zero_le _, Nat.zero_le _⟩ dL_isStore_103 (fun r133 wr133 hw133 => ?_)
  obtain ⟨e_r133, rfl⟩ := hw133
  have hp := hp r133 e_r133
  refine r_ws (I' := [sysB cI cL cP fl pl a L h v pl2 hi sa tx u w me fo fd taken st]) rfl ?_
  refine r_iadd C dL_isStore_106 rfl ?_
  refine r_top (fun x134 e_x134 => ?_)
  have hp := hp x134 e_x134
  refine r_istore_n (L' := [(3, .int x134), (2, .int x131), (1, .int x126), (10, .int 3), (9, .int x123), (8, .int 3), (7, .int x100), (6, .int x97), (5, .int x94), (4, .int x90), (0, .ref fl)]) C dL_isStore_107 (by decide) rfl ?_
  refine r_iload C dL_isStore_108 9 rfl ?_
  refine r_aload_n C dL_isStore_110 10 rfl ?_
  refine r_iload C dL_isStore_111 5 rfl ?_
  refine r_iconst (v := 0) C dL_isStore_113 (by decide) ?_
  obtain ⟨h135, hp⟩ := hp
  refine r_callV (ci := 8) (wc := [sysB cI cL cP fl pl a L h v pl2 hi sa tx u w me fo fd taken st]) (wr := []) (st := [.int x90]) C (m_S_letter l D cI cL cP cJ fl pl a L h v pl2 hi sa tx u w me fo fd taken st 3 0 h135) k_X10_letter t_412 [0] (show ([0] : List Nat).Perm (List.range 1) by decide) rfl rfl rfl (q0 := 0) rfl rfl rfl (Nat.le_of_ble_eq_true rfl) ⟨Nat.le_of_ble_eq_true rfl, Nat.le_of_ble_eq_true rfl⟩ ⟨Nat.zero_le _, Nat.zero_le _⟩ dL_isStore_114 (fun r136 wr136 hw136 => ?_)
  obtain ⟨e_r136, rfl⟩ := hw136
  have hp := hp r136 e_r136
  refine r_ws (I' := [sysB cI cL cP fl pl a L h v pl2 hi sa tx u w me fo fd taken st]) rfl ?_
  refine r_iadd C dL_isStore_117 rfl ?_
  refine r_top (fun x137 e_x137 => ?_)
  have hp := hp x137 e_x137
  refine r_istore (L' := [(4, .int x137), (3, .int x134), (2, .int x131), (1, .int x126), (10, .int 3), (9, .int x123), (8, .int 3), (7, .int x100), (6, .int x97), (5, .int x94), (0, .ref fl)]) C dL_isStore_118 (by decide) rfl ?_
  refine r_iload C dL_isStore_120 9 rfl ?_
  refine r_aload_n C dL_isStore_122 10 rfl ?_
  refine r_iload C dL_isStore_123 6 rfl ?_
  refine r_bipush (v := 7) C dL_isStore_125 (by decide) ?_
  obtain ⟨h138, hp⟩ := hp
  refine r_callV (ci := 8) (wc := [sysB cI cL cP fl pl a L h v pl2 hi sa tx u w me fo fd taken st]) (wr := []) (st := [.int x94]) C (m_S_letter l D cI cL cP cJ fl pl a L h v pl2 hi sa tx u w me fo fd taken st 3 7 h138) k_X10_letter t_412 [0] (show ([0] : List Nat).Perm (List.range 1) by decide) rfl rfl rfl (q0 := 0) rfl rfl rfl (Nat.le_of_ble_eq_true rfl) ⟨Nat.le_of_ble_eq_true rfl, Nat.le_of_ble_eq_true rfl⟩ ⟨Nat.zero_le _, Nat.zero_le _⟩ dL_isStore_127 (fun r139 wr139 hw139 => ?_)
  obtain ⟨e_r139, rfl⟩ := hw139
  have hp := hp r139 e_r139
  refine r_ws (I' := [sysB cI cL cP fl pl a L h v pl2 hi sa tx u w me fo fd taken st]) rfl ?_
  refine r_callS (wc := []) (wr := [sysB cI cL cP fl pl a L h v pl2 hi sa tx u w me fo fd taken st]) (st := [.int x94]) C (m_L_ones l D cI cL cP cJ r139) k_L_ones t_497 [0] (show ([0] : List Nat).Perm (List.range 1) by decide) rfl rfl rfl (Nat.le_of_ble_eq_true rfl) ⟨Nat.le_of_ble_eq_true rfl, Nat.le_of_ble_eq_true rfl⟩ ⟨Nat.zero_le _, Nat.zero_le _⟩ dL_isStore_130 (fun r140 wr140 hw140 => ?_)
  obtain ⟨e_r140, rfl⟩ := hw140
  have hp := hp r140 e_r140
  refine r_ws (I' := [sysB cI cL cP fl pl a L h v pl2 hi sa tx u w me fo fd taken st]) rfl ?_
  refine r_iadd C dL_isStore_133 rfl ?_
  refine r_top (fun x141 e_x141 => ?_)
  have hp := hp x141 e_x141
  refine r_istore (L' := [(5, .int x141), (4, .int x137), (3, .int x134), (2, .int x131), (1, .int x126), (10, .int 3), (9, .int x123), (8, .int 3), (7, .int x100), (6, .int x97), (0, .ref fl)]) C dL_isStore_134 (by decide) rfl ?_
  refine r_iload C dL_isStore_136 9 rfl ?_
  refine r_iload C dL_isStore_138 6 rfl ?_
  suffices K : ∀ x143 : Int32, x143 = ((if x123 = 0 then (0) else (1))) → V p l e (rmm 7 152) s m args below meth c 11 D A 0 0 Q [sysB cI cL cP fl pl a L h v pl2 hi sa tx u w me fo fd taken st] [(5, .int x141), (4, .int x137), (3, .int x134), (2, .int x131), (1, .int x126), (10, .int 3), (9, .int x123), (8, .int 3), (7, .int x100), (6, .int x97), (0, .ref fl)] 148 [.int x143, .int x97] by
    refine r_if_eq (tgt := 147) C dL_isStore_140 (by decide) (fun c142 => ?_) (fun c142 => ?_)
    · refine r_iconst (v := 0) C dL_isStore_147 (by decide) ?_
      exact K _ (by simp only [if_pos c142])
    · refine r_iconst (v := 1) C dL_isStore_143 (by decide) ?_
      refine r_goto (tgt := 148) C dL_isStore_144 (by decide) ?_
      exact K _ (by simp only [if_neg c142])
  intro x143 e_x143
  have hp := hp x143 e_x143
  refine r_iadd C dL_isStore_148 rfl ?_
  refine r_top (fun x144 e_x144 => ?_)
  have hp := hp x144 e_x144
  refine r_istore (L' := [(6, .int x144), (5, .int x141), (4, .int x137), (3, .int x134), (2, .int x131), (1, .int x126), (10, .int 3), (9, .int x123), (8, .int 3), (7, .int x100), (0, .ref fl)]) C dL_isStore_149 (by decide) rfl ?_
  refine r_iload C dL_isStore_151 9 rfl ?_
  refine r_aload_n C dL_isStore_153 10 rfl ?_
  refine r_iload C dL_isStore_154 8 rfl ?_
  refine r_iconst (v := 2) C dL_isStore_156 (by decide) ?_
  obtain ⟨h145, hp⟩ := hp
  refine r_callV (ci := 8) (wc := [sysB cI cL cP fl pl a L h v pl2 hi sa tx u w me fo fd taken st]) (wr := []) (st := [.int x100]) C (m_S_letter l D cI cL cP cJ fl pl a L h v pl2 hi sa tx u w me fo fd taken st 3 2 h145) k_X10_letter t_412 [0] (show ([0] : List Nat).Perm (List.range 1) by decide) rfl rfl rfl (q0 := 0) rfl rfl rfl (Nat.le_of_ble_eq_true rfl) ⟨Nat.le_of_ble_eq_true rfl, Nat.le_of_ble_eq_true rfl⟩ ⟨Nat.zero_le _, Nat.zero_le _⟩ dL_isStore_157 (fun r146 wr146 hw146 => ?_)
  obtain ⟨e_r146, rfl⟩ := hw146
  have hp := hp r146 e_r146
  refine r_ws (I' := [sysB cI cL cP fl pl a L h v pl2 hi sa tx u w me fo fd taken st]) rfl ?_
  refine r_iadd C dL_isStore_160 rfl ?_
  refine r_top (fun x147 e_x147 => ?_)
  have hp := hp x147 e_x147
  refine r_istore (L' := [(7, .int x147), (6, .int x144), (5, .int x141), (4, .int x137), (3, .int x134), (2, .int x131), (1, .int x126), (10, .int 3), (9, .int x123), (8, .int 3), (0, .ref fl)]) C dL_isStore_161 (by decide) rfl ?_
  refine r_aload_n C dL_isStore_163 10 rfl ?_
  refine r_iload C dL_isStore_164 9 rfl ?_
  refine r_iconst (v := 4) C dL_isStore_166 (by decide) ?_
  obtain ⟨h148, hp⟩ := hp
  refine r_callV (ci := 8) (wc := [sysB cI cL cP fl pl a L h v pl2 hi sa tx u w me fo fd taken st]) (wr := []) (st := []) C (m_S_letter l D cI cL cP cJ fl pl a L h v pl2 hi sa tx u w me fo fd taken st 3 4 h148) k_X10_letter t_412 [0] (show ([0] : List Nat).Perm (List.range 1) by decide) rfl rfl rfl (q0 := 0) rfl rfl rfl (Nat.le_of_ble_eq_true rfl) ⟨Nat.le_of_ble_eq_true rfl, Nat.le_of_ble_eq_true rfl⟩ ⟨Nat.zero_le _, Nat.zero_le _⟩ dL_isStore_167 (fun r149 wr149 hw149 => ?_)
  obtain ⟨e_r149, rfl⟩ := hw149
  have hp := hp r149 e_r149
  refine r_ws (I' := [sysB cI cL cP fl pl a L h v pl2 hi sa tx u w me fo fd taken st]) rfl ?_
  refine r_iconst (v := 1) C dL_isStore_170 (by decide) ?_
  obtain ⟨hps, hp⟩ := hp
  suffices K :  V p l e (rmm 7 152) s m args below meth c 11 D A 0 0 Q [sysB cI cL cP fl pl a L h v pl2 hi sa tx u w me fo fd taken st] [(7, .int x147), (6, .int x144), (5, .int x141), (4, .int x137), (3, .int x134), (2, .int x131), (1, .int x126), (10, .int 3), (9, .int x123), (8, .int 3), (0, .ref fl)] 199 [] by
    have hp := hps
    refine r_icmp_ne (tgt := 199) C dL_isStore_171 (by decide) (fun c150 => ?_) (fun c150 => ?_)
    · exact K 
    · have hp := hp.1 c150
      refine r_aload_n C dL_isStore_174 10 rfl ?_
      refine r_iload C dL_isStore_175 9 rfl ?_
      refine r_iconst (v := 3) C dL_isStore_177 (by decide) ?_
      obtain ⟨h151, hp⟩ := hp
      refine r_callV (ci := 8) (wc := [sysB cI cL cP fl pl a L h v pl2 hi sa tx u w me fo fd taken st]) (wr := []) (st := []) C (m_S_letter l D cI cL cP cJ fl pl a L h v pl2 hi sa tx u w me fo fd taken st 3 3 h151) k_X10_letter t_412 [0] (show ([0] : List Nat).Perm (List.range 1) by decide) rfl rfl rfl (q0 := 0) rfl rfl rfl (Nat.le_of_ble_eq_true rfl) ⟨Nat.le_of_ble_eq_true rfl, Nat.le_of_ble_eq_true rfl⟩ ⟨Nat.zero_le _, Nat.zero_le _⟩ dL_isStore_178 (fun r152 wr152 hw152 => ?_)
      obtain ⟨e_r152, rfl⟩ := hw152
      have hp := hp r152 e_r152
      refine r_ws (I' := [sysB cI cL cP fl pl a L h v pl2 hi sa tx u w me fo fd taken st]) rfl ?_
      refine r_iconst (v := 2) C dL_isStore_181 (by decide) ?_
      obtain ⟨h153, hp⟩ := hp
      refine r_icmp_ne (tgt := 197) C dL_isStore_182 (by decide) (fun c => absurd h153 c) (fun _ => ?_)
      refine r_aload_n C dL_isStore_185 10 rfl ?_
      refine r_iload C dL_isStore_186 9 rfl ?_
      refine r_iconst (v := 0) C dL_isStore_188 (by decide) ?_
      obtain ⟨h154, hp⟩ := hp
      refine r_callV (ci := 8) (wc := [sysB cI cL cP fl pl a L h v pl2 hi sa tx u w me fo fd taken st]) (wr := []) (st := []) C (m_S_letter l D cI cL cP cJ fl pl a L h v pl2 hi sa tx u w me fo fd taken st 3 0 h154) k_X10_letter t_412 [0] (show ([0] : List Nat).Perm (List.range 1) by decide) rfl rfl rfl (q0 := 0) rfl rfl rfl (Nat.le_of_ble_eq_true rfl) ⟨Nat.le_of_ble_eq_true rfl, Nat.le_of_ble_eq_true rfl⟩ ⟨Nat.zero_le _, Nat.zero_le _⟩ dL_isStore_189 (fun r155 wr155 hw155 => ?_)
      obtain ⟨e_r155, rfl⟩ := hw155
      have hp := hp r155 e_r155
      refine r_ws (I' := [sysB cI cL cP fl pl a L h v pl2 hi sa tx u w me fo fd taken st]) rfl ?_
      refine r_iconst (v := 2) C dL_isStore_192 (by decide) ?_
      refine r_irem C dL_isStore_193 (by decide) rfl ?_
      have h156 := hp
      refine r_if_ne (tgt := 199) C dL_isStore_194 (by decide) (fun _ => ?_) (fun c => absurd c h156)
      exact K 
  skip
  refine r_iinc (v := 4) (L' := [(8, .int 4), (7, .int x147), (6, .int x144), (5, .int x141), (4, .int x137), (3, .int x134), (2, .int x131), (1, .int x126), (10, .int 3), (9, .int x123), (0, .ref fl)]) C dL_isStore_199 9 rfl (by decide) (by decide) rfl ?_
  refine r_goto (tgt := 21) C dL_isStore_202 (by decide) ?_
  refine r_iload C dL_isStore_21 0 rfl ?_
  refine r_iconst (v := 5) C dL_isStore_23 (by decide) ?_
  refine r_icmp_ge (tgt := 205) C dL_isStore_24 (by decide) (fun c => absurd c (by decide)) (fun _ => ?_)
  refine r_iconst (v := 1) C dL_isStore_27 (by decide) ?_
  refine r_istore (L' := [(9, .int 1), (8, .int 4), (7, .int x147), (6, .int x144), (5, .int x141), (4, .int x137), (3, .int x134), (2, .int x131), (1, .int x126), (10, .int 3), (0, .ref fl)]) C dL_isStore_28 (by decide) rfl ?_
  refine r_iconst (v := 0) C dL_isStore_30 (by decide) ?_
  refine r_istore (L' := [(10, .int 0), (9, .int 1), (8, .int 4), (7, .int x147), (6, .int x144), (5, .int x141), (4, .int x137), (3, .int x134), (2, .int x131), (1, .int x126), (0, .ref fl)]) C dL_isStore_31 (by decide) rfl ?_
  refine r_iload C dL_isStore_33 0 rfl ?_
  refine r_iload C dL_isStore_35 2 rfl ?_
  refine r_icmp_ge (tgt := 69) C dL_isStore_37 (by decide) (fun c => absurd c (by decide)) (fun _ => ?_)
  refine r_iload C dL_isStore_40 1 rfl ?_
  refine r_if_eq (tgt := 60) C dL_isStore_42 (by decide) (fun c => absurd c (by decide)) (fun _ => ?_)
  refine r_aload_n C dL_isStore_45 10 rfl ?_
  refine r_iload C dL_isStore_46 2 rfl ?_
  refine r_iload C dL_isStore_48 0 rfl ?_
  obtain ⟨h157, hp⟩ := hp
  refine r_callV (ci := 8) (wc := [sysB cI cL cP fl pl a L h v pl2 hi sa tx u w me fo fd taken st]) (wr := []) (st := []) C (m_S_distance l D cI cL cP cJ fl pl a L h v pl2 hi sa tx u w me fo fd taken st 4 0 h157) k_X10_distance t_490 [0] (show ([0] : List Nat).Perm (List.range 1) by decide) rfl rfl rfl (q0 := 0) rfl rfl rfl (Nat.le_of_ble_eq_true rfl) ⟨Nat.le_of_ble_eq_true rfl, Nat.le_of_ble_eq_true rfl⟩ ⟨Nat.zero_le _, Nat.zero_le _⟩ dL_isStore_50 (fun r158 wr158 hw158 => ?_)
  obtain ⟨e_r158, rfl⟩ := hw158
  have hp := hp r158 e_r158
  refine r_ws (I' := [sysB cI cL cP fl pl a L h v pl2 hi sa tx u w me fo fd taken st]) rfl ?_
  suffices K : ∀ x160 : Int32, x160 = ((if r158 ≤ 0 then (0) else (1))) → V p l e (rmm 7 152) s m args below meth c 11 D A 0 0 Q [sysB cI cL cP fl pl a L h v pl2 hi sa tx u w me fo fd taken st] [(10, .int 0), (9, .int 1), (8, .int 4), (7, .int x147), (6, .int x144), (5, .int x141), (4, .int x137), (3, .int x134), (2, .int x131), (1, .int x126), (0, .ref fl)] 61 [.int x160] by
    refine r_if_le (tgt := 60) C dL_isStore_53 (by decide) (fun c159 => ?_) (fun c159 => ?_)
    · refine r_iconst (v := 0) C dL_isStore_60 (by decide) ?_
      exact K _ (by simp only [if_pos c159])
    · refine r_iconst (v := 1) C dL_isStore_56 (by decide) ?_
      refine r_goto (tgt := 61) C dL_isStore_57 (by decide) ?_
      exact K _ (by simp only [if_neg c159])
  intro x160 e_x160
  have hp := hp x160 e_x160
  refine r_istore (L' := [(9, .int x160), (10, .int 0), (8, .int 4), (7, .int x147), (6, .int x144), (5, .int x141), (4, .int x137), (3, .int x134), (2, .int x131), (1, .int x126), (0, .ref fl)]) C dL_isStore_61 (by decide) rfl ?_
  refine r_iinc (v := 1) (L' := [(10, .int 1), (9, .int x160), (8, .int 4), (7, .int x147), (6, .int x144), (5, .int x141), (4, .int x137), (3, .int x134), (2, .int x131), (1, .int x126), (0, .ref fl)]) C dL_isStore_63 1 rfl (by decide) (by decide) rfl ?_
  refine r_goto (tgt := 33) C dL_isStore_66 (by decide) ?_
  refine r_iload C dL_isStore_33 0 rfl ?_
  refine r_iload C dL_isStore_35 2 rfl ?_
  refine r_icmp_ge (tgt := 69) C dL_isStore_37 (by decide) (fun c => absurd c (by decide)) (fun _ => ?_)
  refine r_iload C dL_isStore_40 1 rfl ?_
  obtain ⟨hps, hp⟩ := hp
  suffices K : ∀ x165 : Int32, x165 = ((if x160 = 0 then (0) else (let r163 : Int32 := F_S_distance st 4 1; (if r163 ≤ 0 then (0) else (1))))) → V p l e (rmm 7 152) s m args below meth c 11 D A 0 0 Q [sysB cI cL cP fl pl a L h v pl2 hi sa tx u w me fo fd taken st] [(10, .int 1), (9, .int x160), (8, .int 4), (7, .int x147), (6, .int x144), (5, .int x141), (4, .int x137), (3, .int x134), (2, .int x131), (1, .int x126), (0, .ref fl)] 61 [.int x165] by
    have hp := hps
    refine r_if_eq (tgt := 60) C dL_isStore_42 (by decide) (fun c161 => ?_) (fun c161 => ?_)
    · refine r_iconst (v := 0) C dL_isStore_60 (by decide) ?_
      exact K _ (by simp only [if_pos c161])
    · have hp := hp.2 c161
      refine r_aload_n C dL_isStore_45 10 rfl ?_
      refine r_iload C dL_isStore_46 2 rfl ?_
      refine r_iload C dL_isStore_48 0 rfl ?_
      have h162 := hp
      refine r_callV (ci := 8) (wc := [sysB cI cL cP fl pl a L h v pl2 hi sa tx u w me fo fd taken st]) (wr := []) (st := []) C (m_S_distance l D cI cL cP cJ fl pl a L h v pl2 hi sa tx u w me fo fd taken st 4 1 h162) k_X10_distance t_490 [0] (show ([0] : List Nat).Perm (List.range 1) by decide) rfl rfl rfl (q0 := 0) rfl rfl rfl (Nat.le_of_ble_eq_true rfl) ⟨Nat.le_of_ble_eq_true rfl, Nat.le_of_ble_eq_true rfl⟩ ⟨Nat.zero_le _, Nat.zero_le _⟩ dL_isStore_50 (fun r163 wr163 hw163 => ?_)
      obtain ⟨e_r163, rfl⟩ := hw163
      refine r_ws (I' := [sysB cI cL cP fl pl a L h v pl2 hi sa tx u w me fo fd taken st]) rfl ?_
      refine r_if_le (tgt := 60) C dL_isStore_53 (by decide) (fun c164 => ?_) (fun c164 => ?_)
      · refine r_iconst (v := 0) C dL_isStore_60 (by decide) ?_
        exact K _ (by have q := e_r163.symm; subst q; simp only [if_neg c161, if_pos c164])
      · refine r_iconst (v := 1) C dL_isStore_56 (by decide) ?_
        refine r_goto (tgt := 61) C dL_isStore_57 (by decide) ?_
        exact K _ (by have q := e_r163.symm; subst q; simp only [if_neg c161, if_neg c164])
  intro x165 e_x165
  have hp := hp x165 e_x165
  refine r_istore (L' := [(9, .int x165), (10, .int 1), (8, .int 4), (7, .int x147), (6, .int x144), (5, .int x141), (4, .int x137), (3, .int x134), (2, .int x131), (1, .int x126), (0, .ref fl)]) C dL_isStore_61 (by decide) rfl ?_
  refine r_iinc (v := 2) (L' := [(10, .int 2), (9, .int x165), (8, .int 4), (7, .int x147), (6, .int x144), (5, .int x141), (4, .int x137), (3, .int x134), (2, .int x131), (1, .int x126), (0, .ref fl)]) C dL_isStore_63 1 rfl (by decide) (by decide) rfl ?_
  refine r_goto (tgt := 33) C dL_isStore_66 (by decide) ?_
  refine r_iload C dL_isStore_33 0 rfl ?_
  refine r_iload C dL_isStore_35 2 rfl ?_
  refine r_icmp_ge (tgt := 69) C dL_isStore_37 (by decide) (fun c => absurd c (by decide)) (fun _ => ?_)
  refine r_iload C dL_isStore_40 1 rfl ?_
  obtain ⟨hps, hp⟩ := hp
  suffices K : ∀ x170 : Int32, x170 = ((if x165 = 0 then (0) else (let r168 : Int32 := F_S_distance st 4 2; (if r168 ≤ 0 then (0) else (1))))) → V p l e (rmm 7 152) s m args below meth c 11 D A 0 0 Q [sysB cI cL cP fl pl a L h v pl2 hi sa tx u w me fo fd taken st] [(10, .int 2), (9, .int x165), (8, .int 4), (7, .int x147), (6, .int x144), (5, .int x141), (4, .int x137), (3, .int x134), (2, .int x131), (1, .int x126), (0, .ref fl)] 61 [.int x170] by
    have hp := hps
    refine r_if_eq (tgt := 60) C dL_isStore_42 (by decide) (fun c166 => ?_) (fun c166 => ?_)
    · refine r_iconst (v := 0) C dL_isStore_60 (by decide) ?_
      exact K _ (by simp only [if_pos c166])
    · have hp := hp.2 c166
      refine r_aload_n C dL_isStore_45 10 rfl ?_
      refine r_iload C dL_isStore_46 2 rfl ?_
      refine r_iload C dL_isStore_48 0 rfl ?_
      have h167 := hp
      refine r_callV (ci := 8) (wc := [sysB cI cL cP fl pl a L h v pl2 hi sa tx u w me fo fd taken st]) (wr := []) (st := []) C (m_S_distance l D cI cL cP cJ fl pl a L h v pl2 hi sa tx u w me fo fd taken st 4 2 h167) k_X10_distance t_490 [0] (show ([0] : List Nat).Perm (List.range 1) by decide) rfl rfl rfl (q0 := 0) rfl rfl rfl (Nat.le_of_ble_eq_true rfl) ⟨Nat.le_of_ble_eq_true rfl, Nat.le_of_ble_eq_true rfl⟩ ⟨Nat.zero_le _, Nat.zero_le _⟩ dL_isStore_50 (fun r168 wr168 hw168 => ?_)
      obtain ⟨e_r168, rfl⟩ := hw168
      refine r_ws (I' := [sysB cI cL cP fl pl a L h v pl2 hi sa tx u w me fo fd taken st]) rfl ?_
      refine r_if_le (tgt := 60) C dL_isStore_53 (by decide) (fun c169 => ?_) (fun c169 => ?_)
      · refine r_iconst (v := 0) C dL_isStore_60 (by decide) ?_
        exact K _ (by have q := e_r168.symm; subst q; simp only [if_neg c166, if_pos c169])
      · refine r_iconst (v := 1) C dL_isStore_56 (by decide) ?_
        refine r_goto (tgt := 61) C dL_isStore_57 (by decide) ?_
        exact K _ (by have q := e_r168.symm; subst q; simp only [if_neg c166, if_neg c169])
  intro x170 e_x170
  have hp := hp x170 e_x170
  refine r_istore (L' := [(9, .int x170), (10, .int 2), (8, .int 4), (7, .int x147), (6, .int x144), (5, .int x141), (4, .int x137), (3, .int x134), (2, .int x131), (1, .int x126), (0, .ref fl)]) C dL_isStore_61 (by decide) rfl ?_
  refine r_iinc (v := 3) (L' := [(10, .int 3), (9, .int x170), (8, .int 4), (7, .int x147), (6, .int x144), (5, .int x141), (4, .int x137), (3, .int x134), (2, .int x131), (1, .int x126), (0, .ref fl)]) C dL_isStore_63 1 rfl (by decide) (by decide) rfl ?_
  refine r_goto (tgt := 33) C dL_isStore_66 (by decide) ?_
  refine r_iload C dL_isStore_33 0 rfl ?_
  refine r_iload C dL_isStore_35 2 rfl ?_
  refine r_icmp_ge (tgt := 69) C dL_isStore_37 (by decide) (fun c => absurd c (by decide)) (fun _ => ?_)
  refine r_iload C dL_isStore_40 1 rfl ?_
  obtain ⟨hps, hp⟩ := hp
  suffices K : ∀ x175 : Int32, x175 = ((if x170 = 0 then (0) else (let r173 : Int32 := F_S_distance st 4 3; (if r173 ≤ 0 then (0) else (1))))) → V p l e (rmm 7 152) s m args below meth c 11 D A 0 0 Q [sysB cI cL cP fl pl a L h v pl2 hi sa tx u w me fo fd taken st] [(10, .int 3), (9, .int x170), (8, .int 4), (7, .int x147), (6, .int x144), (5, .int x141), (4, .int x137), (3, .int x134), (2, .int x131), (1, .int x126), (0, .ref fl)] 61 [.int x175] by
    have hp := hps
    refine r_if_eq (tgt := 60) C dL_isStore_42 (by decide) (fun c171 => ?_) (fun c171 => ?_)
    · refine r_iconst (v := 0) C dL_isStore_60 (by decide) ?_
      exact K _ (by simp only [if_pos c171])
    · have hp := hp.2 c171
      refine r_aload_n C dL_isStore_45 10 rfl ?_
      refine r_iload C dL_isStore_46 2 rfl ?_
      refine r_iload C dL_isStore_48 0 rfl ?_
      have h172 := hp
      refine r_callV (ci := 8) (wc := [sysB cI cL cP fl pl a L h v pl2 hi sa tx u w me fo fd taken st]) (wr := []) (st := []) C (m_S_distance l D cI cL cP cJ fl pl a L h v pl2 hi sa tx u w me fo fd taken st 4 3 h172) k_X10_distance t_490 [0] (show ([0] : List Nat).Perm (List.range 1) by decide) rfl rfl rfl (q0 := 0) rfl rfl rfl (Nat.le_of_ble_eq_true rfl) ⟨Nat.le_of_ble_eq_true rfl, Nat.le_of_ble_eq_true rfl⟩ ⟨Nat.zero_le _, Nat.zero_le _⟩ dL_isStore_50 (fun r173 wr173 hw173 => ?_)
      obtain ⟨e_r173, rfl⟩ := hw173
      refine r_ws (I' := [sysB cI cL cP fl pl a L h v pl2 hi sa tx u w me fo fd taken st]) rfl ?_
      refine r_if_le (tgt := 60) C dL_isStore_53 (by decide) (fun c174 => ?_) (fun c174 => ?_)
      · refine r_iconst (v := 0) C dL_isStore_60 (by decide) ?_
        exact K _ (by have q := e_r173.symm; subst q; simp only [if_neg c171, if_pos c174])
      · refine r_iconst (v := 1) C dL_isStore_56 (by decide) ?_
        refine r_goto (tgt := 61) C dL_isStore_57 (by decide) ?_
        exact K _ (by have q := e_r173.symm; subst q; simp only [if_neg c171, if_neg c174])
  intro x175 e_x175
  have hp := hp x175 e_x175
  refine r_istore (L' := [(9, .int x175), (10, .int 3), (8, .int 4), (7, .int x147), (6, .int x144), (5, .int x141), (4, .int x137), (3, .int x134), (2, .int x131), (1, .int x126), (0, .ref fl)]) C dL_isStore_61 (by decide) rfl ?_
  refine r_iinc (v := 4) (L' := [(10, .int 4), (9, .int x175), (8, .int 4), (7, .int x147), (6, .int x144), (5, .int x141), (4, .int x137), (3, .int x134), (2, .int x131), (1, .int x126), (0, .ref fl)]) C dL_isStore_63 1 rfl (by decide) (by decide) rfl ?_
  refine r_goto (tgt := 33) C dL_isStore_66 (by decide) ?_
  refine r_iload C dL_isStore_33 0 rfl ?_
  refine r_iload C dL_isStore_35 2 rfl ?_
  refine r_icmp_ge (tgt := 69) C dL_isStore_37 (by decide) (fun _ => ?_) (fun c => absurd c (by decide))
  refine r_iload_n C dL_isStore_69 9 rfl ?_
  refine r_aload_n C dL_isStore_70 10 rfl ?_
  refine r_iload C dL_isStore_71 2 rfl ?_
  refine r_bipush (v := 10) C dL_isStore_73 (by decide) ?_
  obtain ⟨h176, hp⟩ := hp
  refine r_callV (ci := 8) (wc := [sysB cI cL cP fl pl a L h v pl2 hi sa tx u w me fo fd taken st]) (wr := []) (st := [.int x126]) C (m_S_letter l D cI cL cP cJ fl pl a L h v pl2 hi sa tx u w me fo fd taken st 4 10 h176) k_X10_letter t_412 [0] (show ([0] : List Nat).Perm (List.range 1) by decide) rfl rfl rfl (q0 := 0) rfl rfl rfl (Nat.le_of_ble_eq_true rfl) ⟨Nat.le_of_ble_eq_true rfl, Nat.le_of_ble_eq_true rfl⟩ ⟨Nat.zero_le _, Nat.zero_le _⟩ dL_isStore_75 (fun r177 wr177 hw177 => ?_)
  obtain ⟨e_r177, rfl⟩ := hw177
  have hp := hp r177 e_r177
  refine r_ws (I' := [sysB cI cL cP fl pl a L h v pl2 hi sa tx u w me fo fd taken st]) rfl ?_
  refine r_iadd C dL_isStore_78 rfl ?_
  refine r_top (fun x178 e_x178 => ?_)
  have hp := hp x178 e_x178
  refine r_istore_n (L' := [(1, .int x178), (10, .int 4), (9, .int x175), (8, .int 4), (7, .int x147), (6, .int x144), (5, .int x141), (4, .int x137), (3, .int x134), (2, .int x131), (0, .ref fl)]) C dL_isStore_79 (by decide) rfl ?_
  refine r_iload_n C dL_isStore_80 9 rfl ?_
  refine r_aload_n C dL_isStore_81 10 rfl ?_
  refine r_iload C dL_isStore_82 3 rfl ?_
  refine r_iconst (v := 0) C dL_isStore_84 (by decide) ?_
  obtain ⟨h179, hp⟩ := hp
  refine r_callV (ci := 8) (wc := [sysB cI cL cP fl pl a L h v pl2 hi sa tx u w me fo fd taken st]) (wr := []) (st := [.int x131]) C (m_S_letter l D cI cL cP cJ fl pl a L h v pl2 hi sa tx u w me fo fd taken st 4 0 h179) k_X10_letter t_412 [0] (show ([0] : List Nat).Perm (List.range 1) by decide) rfl rfl rfl (q0 := 0) rfl rfl rfl (Nat.le_of_ble_eq_true rfl) ⟨Nat.le_of_ble_eq_true rfl, Nat.le_of_ble_eq_true rfl⟩ ⟨Nat.zero_le _, Nat.zero_le _⟩ dL_isStore_85 (fun r180 wr180 hw180 => ?_)
  obtain ⟨e_r180, rfl⟩ := hw180
  have hp := hp r180 e_r180
  refine r_ws (I' := [sysB cI cL cP fl pl a L h v pl2 hi sa tx u w me fo fd taken st]) rfl ?_
  suffices K : ∀ x182 : Int32, x182 = ((if r180 = 0 then (1) else (0))) → V p l e (rmm 7 152) s m args below meth c 11 D A 0 0 Q [sysB cI cL cP fl pl a L h v pl2 hi sa tx u w me fo fd taken st] [(1, .int x178), (10, .int 4), (9, .int x175), (8, .int 4), (7, .int x147), (6, .int x144), (5, .int x141), (4, .int x137), (3, .int x134), (2, .int x131), (0, .ref fl)] 96 [.int x182, .int x131] by
    refine r_if_ne (tgt := 95) C dL_isStore_88 (by decide) (fun c181 => ?_) (fun c181 => ?_)
    · refine r_iconst (v := 0) C dL_isStore_95 (by decide) ?_
      exact K _ (by simp only [if_neg c181])
    · refine r_iconst (v := 1) C dL_isStore_91 (by decide) ?_
      refine r_goto (tgt := 96) C dL_isStore_92 (by decide) ?_
      exact K _ (by simp only [if_pos c181])
  intro x182 e_x182
  have hp := hp x182 e_x182
  refine r_iadd C dL_isStore_96 rfl ?_
  refine r_top (fun x183 e_x183 => ?_)
  have hp := hp x183 e_x183
  refine r_istore_n (L' := [(2, .int x183), (1, .int x178), (10, .int 4), (9, .int x175), (8, .int 4), (7, .int x147), (6, .int x144), (5, .int x141), (4, .int x137), (3, .int x134), (0, .ref fl)]) C dL_isStore_97 (by decide) rfl ?_
  refine r_iload_n C dL_isStore_98 9 rfl ?_
  refine r_aload_n C dL_isStore_99 10 rfl ?_
  refine r_iload C dL_isStore_100 4 rfl ?_
  refine r_iconst (v := 4) C dL_isStore_102 (by decide) ?_
  obtain ⟨h184, hp⟩ := hp
  refine r_callV (ci := 8) (wc := [sysB cI cL cP fl pl a L h v pl2 hi sa tx u w me fo fd taken st]) (wr := []) (st := [.int x134]) C (m_S_letter l D cI cL cP cJ fl pl a L h v pl2 hi sa tx u w me fo fd taken st 4 4 h184) k_X10_letter t_412 [0] (show ([0] : List Nat).Perm (List.range 1) by decide) rfl rfl rfl (q0 := 0) rfl rfl rfl (Nat.le_of_ble_eq_true rfl) ⟨Nat.le_of_ble_eq_true rfl, Nat.le_of_ble_eq_true rfl⟩ ⟨Nat.zero_le _, Nat.zero_le _⟩ dL_isStore_103 (fun r185 wr185 hw185 => ?_)
  obtain ⟨e_r185, rfl⟩ := hw185
  have hp := hp r185 e_r185
  refine r_ws (I' := [sysB cI cL cP fl pl a L h v pl2 hi sa tx u w me fo fd taken st]) rfl ?_
  refine r_iadd C dL_isStore_106 rfl ?_
  refine r_top (fun x186 e_x186 => ?_)
  have hp := hp x186 e_x186
  refine r_istore_n (L' := [(3, .int x186), (2, .int x183), (1, .int x178), (10, .int 4), (9, .int x175), (8, .int 4), (7, .int x147), (6, .int x144), (5, .int x141), (4, .int x137), (0, .ref fl)]) C dL_isStore_107 (by decide) rfl ?_
  refine r_iload C dL_isStore_108 9 rfl ?_
  refine r_aload_n C dL_isStore_110 10 rfl ?_
  refine r_iload C dL_isStore_111 5 rfl ?_
  refine r_iconst (v := 0) C dL_isStore_113 (by decide) ?_
  obtain ⟨h187, hp⟩ := hp
  refine r_callV (ci := 8) (wc := [sysB cI cL cP fl pl a L h v pl2 hi sa tx u w me fo fd taken st]) (wr := []) (st := [.int x137]) C (m_S_letter l D cI cL cP cJ fl pl a L h v pl2 hi sa tx u w me fo fd taken st 4 0 h187) k_X10_letter t_412 [0] (show ([0] : List Nat).Perm (List.range 1) by decide) rfl rfl rfl (q0 := 0) rfl rfl rfl (Nat.le_of_ble_eq_true rfl) ⟨Nat.le_of_ble_eq_true rfl, Nat.le_of_ble_eq_true rfl⟩ ⟨Nat.zero_le _, Nat.zero_le _⟩ dL_isStore_114 (fun r188 wr188 hw188 => ?_)
  obtain ⟨e_r188, rfl⟩ := hw188
  have hp := hp r188 e_r188
  refine r_ws (I' := [sysB cI cL cP fl pl a L h v pl2 hi sa tx u w me fo fd taken st]) rfl ?_
  refine r_iadd C dL_isStore_117 rfl ?_
  refine r_top (fun x189 e_x189 => ?_)
  have hp := hp x189 e_x189
  refine r_istore (L' := [(4, .int x189), (3, .int x186), (2, .int x183), (1, .int x178), (10, .int 4), (9, .int x175), (8, .int 4), (7, .int x147), (6, .int x144), (5, .int x141), (0, .ref fl)]) C dL_isStore_118 (by decide) rfl ?_
  refine r_iload C dL_isStore_120 9 rfl ?_
  refine r_aload_n C dL_isStore_122 10 rfl ?_
  refine r_iload C dL_isStore_123 6 rfl ?_
  refine r_bipush (v := 7) C dL_isStore_125 (by decide) ?_
  obtain ⟨h190, hp⟩ := hp
  refine r_callV (ci := 8) (wc := [sysB cI cL cP fl pl a L h v pl2 hi sa tx u w me fo fd taken st]) (wr := []) (st := [.int x141]) C (m_S_letter l D cI cL cP cJ fl pl a L h v pl2 hi sa tx u w me fo fd taken st 4 7 h190) k_X10_letter t_412 [0] (show ([0] : List Nat).Perm (List.range 1) by decide) rfl rfl rfl (q0 := 0) rfl rfl rfl (Nat.le_of_ble_eq_true rfl) ⟨Nat.le_of_ble_eq_true rfl, Nat.le_of_ble_eq_true rfl⟩ ⟨Nat.zero_le _, Nat.zero_le _⟩ dL_isStore_127 (fun r191 wr191 hw191 => ?_)
  obtain ⟨e_r191, rfl⟩ := hw191
  have hp := hp r191 e_r191
  refine r_ws (I' := [sysB cI cL cP fl pl a L h v pl2 hi sa tx u w me fo fd taken st]) rfl ?_
  refine r_callS (wc := []) (wr := [sysB cI cL cP fl pl a L h v pl2 hi sa tx u w me fo fd taken st]) (st := [.int x141]) C (m_L_ones l D cI cL cP cJ r191) k_L_ones t_497 [0] (show ([0] : List Nat).Perm (List.range 1) by decide) rfl rfl rfl (Nat.le_of_ble_eq_true rfl) ⟨Nat.le_of_ble_eq_true rfl, Nat.le_of_ble_eq_true rfl⟩ ⟨Nat.zero_le _, Nat.zero_le _⟩ dL_isStore_130 (fun r192 wr192 hw192 => ?_)
  obtain ⟨e_r192, rfl⟩ := hw192
  have hp := hp r192 e_r192
  refine r_ws (I' := [sysB cI cL cP fl pl a L h v pl2 hi sa tx u w me fo fd taken st]) rfl ?_
  refine r_iadd C dL_isStore_133 rfl ?_
  refine r_top (fun x193 e_x193 => ?_)
  have hp := hp x193 e_x193
  refine r_istore (L' := [(5, .int x193), (4, .int x189), (3, .int x186), (2, .int x183), (1, .int x178), (10, .int 4), (9, .int x175), (8, .int 4), (7, .int x147), (6, .int x144), (0, .ref fl)]) C dL_isStore_134 (by decide) rfl ?_
  refine r_iload C dL_isStore_136 9 rfl ?_
  refine r_iload C dL_isStore_138 6 rfl ?_
  suffices K : ∀ x195 : Int32, x195 = ((if x175 = 0 then (0) else (1))) → V p l e (rmm 7 152) s m args below meth c 11 D A 0 0 Q [sysB cI cL cP fl pl a L h v pl2 hi sa tx u w me fo fd taken st] [(5, .int x193), (4, .int x189), (3, .int x186), (2, .int x183), (1, .int x178), (10, .int 4), (9, .int x175), (8, .int 4), (7, .int x147), (6, .int x144), (0, .ref fl)] 148 [.int x195, .int x144] by
    refine r_if_eq (tgt := 147) C dL_isStore_140 (by decide) (fun c194 => ?_) (fun c194 => ?_)
    · refine r_iconst (v := 0) C dL_isStore_147 (by decide) ?_
      exact K _ (by simp only [if_pos c194])
    · refine r_iconst (v := 1) C dL_isStore_143 (by decide) ?_
      refine r_goto (tgt := 148) C dL_isStore_144 (by decide) ?_
      exact K _ (by simp only [if_neg c194])
  intro x195 e_x195
  have hp := hp x195 e_x195
  refine r_iadd C dL_isStore_148 rfl ?_
  refine r_top (fun x196 e_x196 => ?_)
  have hp := hp x196 e_x196
  refine r_istore (L' := [(6, .int x196), (5, .int x193), (4, .int x189), (3, .int x186), (2, .int x183), (1, .int x178), (10, .int 4), (9, .int x175), (8, .int 4), (7, .int x147), (0, .ref fl)]) C dL_isStore_149 (by decide) rfl ?_
  refine r_iload C dL_isStore_151 9 rfl ?_
  refine r_aload_n C dL_isStore_153 10 rfl ?_
  refine r_iload C dL_isStore_154 8 rfl ?_
  refine r_iconst (v := 2) C dL_isStore_156 (by decide) ?_
  obtain ⟨h197, hp⟩ := hp
  refine r_callV (ci := 8) (wc := [sysB cI cL cP fl pl a L h v pl2 hi sa tx u w me fo fd taken st]) (wr := []) (st := [.int x147]) C (m_S_letter l D cI cL cP cJ fl pl a L h v pl2 hi sa tx u w me fo fd taken st 4 2 h197) k_X10_letter t_412 [0] (show ([0] : List Nat).Perm (List.range 1) by decide) rfl rfl rfl (q0 := 0) rfl rfl rfl (Nat.le_of_ble_eq_true rfl) ⟨Nat.le_of_ble_eq_true rfl, Nat.le_of_ble_eq_true rfl⟩ ⟨Nat.zero_le _, Nat.zero_le _⟩ dL_isStore_157 (fun r198 wr198 hw198 => ?_)
  obtain ⟨e_r198, rfl⟩ := hw198
  have hp := hp r198 e_r198
  refine r_ws (I' := [sysB cI cL cP fl pl a L h v pl2 hi sa tx u w me fo fd taken st]) rfl ?_
  refine r_iadd C dL_isStore_160 rfl ?_
  refine r_top (fun x199 e_x199 => ?_)
  have hp := hp x199 e_x199
  refine r_istore (L' := [(7, .int x199), (6, .int x196), (5, .int x193), (4, .int x189), (3, .int x186), (2, .int x183), (1, .int x178), (10, .int 4), (9, .int x175), (8, .int 4), (0, .ref fl)]) C dL_isStore_161 (by decide) rfl ?_
  refine r_aload_n C dL_isStore_163 10 rfl ?_
  refine r_iload C dL_isStore_164 9 rfl ?_
  refine r_iconst (v := 4) C dL_isStore_166 (by decide) ?_
  obtain ⟨h200, hp⟩ := hp
  refine r_callV (ci := 8) (wc := [sysB cI cL cP fl pl a L h v pl2 hi sa tx u w me fo fd taken st]) (wr := []) (st := []) C (m_S_letter l D cI cL cP cJ fl pl a L h v pl2 hi sa tx u w me fo fd taken st 4 4 h200) k_X10_letter t_412 [0] (show ([0] : List Nat).Perm (List.range 1) by decide) rfl rfl rfl (q0 := 0) rfl rfl rfl (Nat.le_of_ble_eq_true rfl) ⟨Nat.le_of_ble_eq_true rfl, Nat.le_of_ble_eq_true rfl⟩ ⟨Nat.zero_le _, Nat.zero_le _⟩ dL_isStore_167 (fun r201 wr201 hw201 => ?_)
  obtain ⟨e_r201, rfl⟩ := hw201
  have hp := hp r201 e_r201
  refine r_ws (I' := [sysB cI cL cP fl pl a L h v pl2 hi sa tx u w me fo fd taken st]) rfl ?_
  refine r_iconst (v := 1) C dL_isStore_170 (by decide) ?_
  obtain ⟨hps, hp⟩ := hp
  suffices K :  V p l e (rmm 7 152) s m args below meth c 11 D A 0 0 Q [sysB cI cL cP fl pl a L h v pl2 hi sa tx u w me fo fd taken st] [(7, .int x199), (6, .int x196), (5, .int x193), (4, .int x189), (3, .int x186), (2, .int x183), (1, .int x178), (10, .int 4), (9, .int x175), (8, .int 4), (0, .ref fl)] 199 [] by
    have hp := hps
    refine r_icmp_ne (tgt := 199) C dL_isStore_171 (by decide) (fun c202 => ?_) (fun c202 => ?_)
    · exact K 
    · have hp := hp.1 c202
      refine r_aload_n C dL_isStore_174 10 rfl ?_
      refine r_iload C dL_isStore_175 9 rfl ?_
      refine r_iconst (v := 3) C dL_isStore_177 (by decide) ?_
      obtain ⟨h203, hp⟩ := hp
      refine r_callV (ci := 8) (wc := [sysB cI cL cP fl pl a L h v pl2 hi sa tx u w me fo fd taken st]) (wr := []) (st := []) C (m_S_letter l D cI cL cP cJ fl pl a L h v pl2 hi sa tx u w me fo fd taken st 4 3 h203) k_X10_letter t_412 [0] (show ([0] : List Nat).Perm (List.range 1) by decide) rfl rfl rfl (q0 := 0) rfl rfl rfl (Nat.le_of_ble_eq_true rfl) ⟨Nat.le_of_ble_eq_true rfl, Nat.le_of_ble_eq_true rfl⟩ ⟨Nat.zero_le _, Nat.zero_le _⟩ dL_isStore_178 (fun r204 wr204 hw204 => ?_)
      obtain ⟨e_r204, rfl⟩ := hw204
      have hp := hp r204 e_r204
      refine r_ws (I' := [sysB cI cL cP fl pl a L h v pl2 hi sa tx u w me fo fd taken st]) rfl ?_
      refine r_iconst (v := 2) C dL_isStore_181 (by decide) ?_
      obtain ⟨h205, hp⟩ := hp
      refine r_icmp_ne (tgt := 197) C dL_isStore_182 (by decide) (fun c => absurd h205 c) (fun _ => ?_)
      refine r_aload_n C dL_isStore_185 10 rfl ?_
      refine r_iload C dL_isStore_186 9 rfl ?_
      refine r_iconst (v := 0) C dL_isStore_188 (by decide) ?_
      obtain ⟨h206, hp⟩ := hp
      refine r_callV (ci := 8) (wc := [sysB cI cL cP fl pl a L h v pl2 hi sa tx u w me fo fd taken st]) (wr := []) (st := []) C (m_S_letter l D cI cL cP cJ fl pl a L h v pl2 hi sa tx u w me fo fd taken st 4 0 h206) k_X10_letter t_412 [0] (show ([0] : List Nat).Perm (List.range 1) by decide) rfl rfl rfl (q0 := 0) rfl rfl rfl (Nat.le_of_ble_eq_true rfl) ⟨Nat.le_of_ble_eq_true rfl, Nat.le_of_ble_eq_true rfl⟩ ⟨Nat.zero_le _, Nat.zero_le _⟩ dL_isStore_189 (fun r207 wr207 hw207 => ?_)
      obtain ⟨e_r207, rfl⟩ := hw207
      have hp := hp r207 e_r207
      refine r_ws (I' := [sysB cI cL cP fl pl a L h v pl2 hi sa tx u w me fo fd taken st]) rfl ?_
      refine r_iconst (v := 2) C dL_isStore_192 (by decide) ?_
      refine r_irem C dL_isStore_193 (by decide) rfl ?_
      have h208 := hp
      refine r_if_ne (tgt := 199) C dL_isStore_194 (by decide) (fun _ => ?_) (fun c => absurd c h208)
      exact K 
  skip
  refine r_iinc (v := 5) (L' := [(8, .int 5), (7, .int x199), (6, .int x196), (5, .int x193), (4, .int x189), (3, .int x186), (2, .int x183), (1, .int x178), (10, .int 4), (9, .int x175), (0, .ref fl)]) C dL_isStore_199 9 rfl (by decide) (by decide) rfl ?_
  refine r_goto (tgt := 21) C dL_isStore_202 (by decide) ?_
  refine r_iload C dL_isStore_21 0 rfl ?_
  refine r_iconst (v := 5) C dL_isStore_23 (by decide) ?_
  refine r_icmp_ge (tgt := 205) C dL_isStore_24 (by decide) (fun _ => ?_) (fun c => absurd c (by decide))
  refine r_aload_n C dL_isStore_205 10 rfl ?_
  refine r_iconst (v := 0) C dL_isStore_206 (by decide) ?_
  obtain ⟨h209, hp⟩ := hp
  refine r_callV (ci := 8) (wc := [sysB cI cL cP fl pl a L h v pl2 hi sa tx u w me fo fd taken st]) (wr := []) (st := []) C (m_S_count l D cI cL cP cJ fl pl a L h v pl2 hi sa tx u w me fo fd taken st 0 h209) k_X10_count t_181 [0] (show ([0] : List Nat).Perm (List.range 1) by decide) rfl rfl rfl (q0 := 0) rfl rfl rfl (Nat.le_of_ble_eq_true rfl) ⟨Nat.le_of_ble_eq_true rfl, Nat.le_of_ble_eq_true rfl⟩ ⟨Nat.zero_le _, Nat.zero_le _⟩ dL_isStore_207 (fun r210 wr210 hw210 => ?_)
  obtain ⟨e_r210, rfl⟩ := hw210
  have hp := hp r210 e_r210
  refine r_ws (I' := [sysB cI cL cP fl pl a L h v pl2 hi sa tx u w me fo fd taken st]) rfl ?_
  refine r_iload_n C dL_isStore_210 7 rfl ?_
  obtain ⟨h211, hp⟩ := hp
  refine r_icmp_ne (tgt := 304) C dL_isStore_211 (by decide) (fun c => absurd h211 c) (fun _ => ?_)
  refine r_aload_n C dL_isStore_214 10 rfl ?_
  refine r_iconst (v := 1) C dL_isStore_215 (by decide) ?_
  obtain ⟨h212, hp⟩ := hp
  refine r_callV (ci := 8) (wc := [sysB cI cL cP fl pl a L h v pl2 hi sa tx u w me fo fd taken st]) (wr := []) (st := []) C (m_S_count l D cI cL cP cJ fl pl a L h v pl2 hi sa tx u w me fo fd taken st 1 h212) k_X10_count t_181 [0] (show ([0] : List Nat).Perm (List.range 1) by decide) rfl rfl rfl (q0 := 0) rfl rfl rfl (Nat.le_of_ble_eq_true rfl) ⟨Nat.le_of_ble_eq_true rfl, Nat.le_of_ble_eq_true rfl⟩ ⟨Nat.zero_le _, Nat.zero_le _⟩ dL_isStore_216 (fun r213 wr213 hw213 => ?_)
  obtain ⟨e_r213, rfl⟩ := hw213
  have hp := hp r213 e_r213
  refine r_ws (I' := [sysB cI cL cP fl pl a L h v pl2 hi sa tx u w me fo fd taken st]) rfl ?_
  refine r_iload_n C dL_isStore_219 6 rfl ?_
  obtain ⟨h214, hp⟩ := hp
  refine r_icmp_ne (tgt := 304) C dL_isStore_220 (by decide) (fun c => absurd h214 c) (fun _ => ?_)
  refine r_aload_n C dL_isStore_223 10 rfl ?_
  refine r_iconst (v := 2) C dL_isStore_224 (by decide) ?_
  obtain ⟨h215, hp⟩ := hp
  refine r_callV (ci := 8) (wc := [sysB cI cL cP fl pl a L h v pl2 hi sa tx u w me fo fd taken st]) (wr := []) (st := []) C (m_S_count l D cI cL cP cJ fl pl a L h v pl2 hi sa tx u w me fo fd taken st 2 h215) k_X10_count t_181 [0] (show ([0] : List Nat).Perm (List.range 1) by decide) rfl rfl rfl (q0 := 0) rfl rfl rfl (Nat.le_of_ble_eq_true rfl) ⟨Nat.le_of_ble_eq_true rfl, Nat.le_of_ble_eq_true rfl⟩ ⟨Nat.zero_le _, Nat.zero_le _⟩ dL_isStore_225 (fun r216 wr216 hw216 => ?_)
  obtain ⟨e_r216, rfl⟩ := hw216
  have hp := hp r216 e_r216
  refine r_ws (I' := [sysB cI cL cP fl pl a L h v pl2 hi sa tx u w me fo fd taken st]) rfl ?_
  refine r_iload_n C dL_isStore_228 5 rfl ?_
  obtain ⟨h217, hp⟩ := hp
  refine r_icmp_ne (tgt := 304) C dL_isStore_229 (by decide) (fun c => absurd h217 c) (fun _ => ?_)
  refine r_aload_n C dL_isStore_232 10 rfl ?_
  refine r_iconst (v := 3) C dL_isStore_233 (by decide) ?_
  obtain ⟨h218, hp⟩ := hp
  refine r_callV (ci := 8) (wc := [sysB cI cL cP fl pl a L h v pl2 hi sa tx u w me fo fd taken st]) (wr := []) (st := []) C (m_S_count l D cI cL cP cJ fl pl a L h v pl2 hi sa tx u w me fo fd taken st 3 h218) k_X10_count t_181 [0] (show ([0] : List Nat).Perm (List.range 1) by decide) rfl rfl rfl (q0 := 0) rfl rfl rfl (Nat.le_of_ble_eq_true rfl) ⟨Nat.le_of_ble_eq_true rfl, Nat.le_of_ble_eq_true rfl⟩ ⟨Nat.zero_le _, Nat.zero_le _⟩ dL_isStore_234 (fun r219 wr219 hw219 => ?_)
  obtain ⟨e_r219, rfl⟩ := hw219
  have hp := hp r219 e_r219
  refine r_ws (I' := [sysB cI cL cP fl pl a L h v pl2 hi sa tx u w me fo fd taken st]) rfl ?_
  refine r_iload C dL_isStore_237 4 rfl ?_
  obtain ⟨h220, hp⟩ := hp
  refine r_icmp_ne (tgt := 304) C dL_isStore_239 (by decide) (fun c => absurd h220 c) (fun _ => ?_)
  refine r_aload_n C dL_isStore_242 10 rfl ?_
  refine r_iconst (v := 4) C dL_isStore_243 (by decide) ?_
  obtain ⟨h221, hp⟩ := hp
  refine r_callV (ci := 8) (wc := [sysB cI cL cP fl pl a L h v pl2 hi sa tx u w me fo fd taken st]) (wr := []) (st := []) C (m_S_count l D cI cL cP cJ fl pl a L h v pl2 hi sa tx u w me fo fd taken st 4 h221) k_X10_count t_181 [0] (show ([0] : List Nat).Perm (List.range 1) by decide) rfl rfl rfl (q0 := 0) rfl rfl rfl (Nat.le_of_ble_eq_true rfl) ⟨Nat.le_of_ble_eq_true rfl, Nat.le_of_ble_eq_true rfl⟩ ⟨Nat.zero_le _, Nat.zero_le _⟩ dL_isStore_244 (fun r222 wr222 hw222 => ?_)
  obtain ⟨e_r222, rfl⟩ := hw222
  have hp := hp r222 e_r222
  refine r_ws (I' := [sysB cI cL cP fl pl a L h v pl2 hi sa tx u w me fo fd taken st]) rfl ?_
  refine r_iload C dL_isStore_247 3 rfl ?_
  obtain ⟨h223, hp⟩ := hp
  refine r_icmp_ne (tgt := 304) C dL_isStore_249 (by decide) (fun c => absurd h223 c) (fun _ => ?_)
  refine r_aload_n C dL_isStore_252 10 rfl ?_
  refine r_iconst (v := 5) C dL_isStore_253 (by decide) ?_
  obtain ⟨h224, hp⟩ := hp
  refine r_callV (ci := 8) (wc := [sysB cI cL cP fl pl a L h v pl2 hi sa tx u w me fo fd taken st]) (wr := []) (st := []) C (m_S_count l D cI cL cP cJ fl pl a L h v pl2 hi sa tx u w me fo fd taken st 5 h224) k_X10_count t_181 [0] (show ([0] : List Nat).Perm (List.range 1) by decide) rfl rfl rfl (q0 := 0) rfl rfl rfl (Nat.le_of_ble_eq_true rfl) ⟨Nat.le_of_ble_eq_true rfl, Nat.le_of_ble_eq_true rfl⟩ ⟨Nat.zero_le _, Nat.zero_le _⟩ dL_isStore_254 (fun r225 wr225 hw225 => ?_)
  obtain ⟨e_r225, rfl⟩ := hw225
  have hp := hp r225 e_r225
  refine r_ws (I' := [sysB cI cL cP fl pl a L h v pl2 hi sa tx u w me fo fd taken st]) rfl ?_
  refine r_iload C dL_isStore_257 2 rfl ?_
  obtain ⟨h226, hp⟩ := hp
  refine r_icmp_ne (tgt := 304) C dL_isStore_259 (by decide) (fun c => absurd h226 c) (fun _ => ?_)
  refine r_aload_n C dL_isStore_262 10 rfl ?_
  obtain ⟨h227, hp⟩ := hp
  refine r_callV (ci := 8) (wc := [sysB cI cL cP fl pl a L h v pl2 hi sa tx u w me fo fd taken st]) (wr := []) (st := []) C (m_S_pressed l D cI cL cP cJ fl pl a L h v pl2 hi sa tx u w me fo fd taken st h227) k_X10_pressed t_500 [0] (show ([0] : List Nat).Perm (List.range 1) by decide) rfl rfl rfl (q0 := 0) rfl rfl rfl (Nat.le_of_ble_eq_true rfl) ⟨Nat.le_of_ble_eq_true rfl, Nat.le_of_ble_eq_true rfl⟩ ⟨Nat.zero_le _, Nat.zero_le _⟩ dL_isStore_263 (fun r228 wr228 hw228 => ?_)
  obtain ⟨e_r228, rfl⟩ := hw228
  have hp := hp r228 e_r228
  refine r_ws (I' := [sysB cI cL cP fl pl a L h v pl2 hi sa tx u w me fo fd taken st]) rfl ?_
  refine r_iload C dL_isStore_266 1 rfl ?_
  obtain ⟨hps, hp⟩ := hp
  suffices K : ∀ g231 : UInt64, g231 = ((if x199 = 0 then (FP.dconst1) else (FP.ddiv (FP.i2d x189) (FP.i2d x199)))) → V p l e (rmm 7 152) s m args below meth c 11 D A 0 0 Q [sysB cI cL cP fl pl a L h v pl2 hi sa tx u w me fo fd taken st] [(8, .int 5), (7, .int x199), (6, .int x196), (5, .int x193), (4, .int x189), (3, .int x186), (2, .int x183), (1, .int x178), (10, .int 4), (9, .int x175), (0, .ref fl)] 282 [.double g231, .double r228] by
    have hp := hps
    refine r_if_ne (tgt := 275) C dL_isStore_268 (by decide) (fun c229 => ?_) (fun c229 => ?_)
    · have hp := hp.2 c229
      refine r_iload C dL_isStore_275 4 rfl ?_
      refine r_i2d C dL_isStore_277 ?_
      refine r_iload C dL_isStore_278 1 rfl ?_
      refine r_i2d C dL_isStore_280 ?_
      have h230 := hp
      refine r_ddiv C dL_isStore_281 h230 ?_
      exact K _ (by simp only [if_neg c229])
    · refine r_dconst1 C dL_isStore_271 ?_
      refine r_goto (tgt := 282) C dL_isStore_272 (by decide) ?_
      exact K _ (by simp only [if_pos c229])
  intro g231 e_g231
  have hp := hp g231 e_g231
  refine r_dcmp C dL_isStore_282 ?_
  obtain ⟨h232, hp⟩ := hp
  refine r_if_ne (tgt := 304) C dL_isStore_283 (by decide) (fun c => absurd h232 c) (fun _ => ?_)
  refine r_aload_n C dL_isStore_286 10 rfl ?_
  obtain ⟨h233, hp⟩ := hp
  refine r_callV (ci := 8) (wc := [sysB cI cL cP fl pl a L h v pl2 hi sa tx u w me fo fd taken st]) (wr := []) (st := []) C (m_S_meanLength l D cI cL cP cJ fl pl a L h v pl2 hi sa tx u w me fo fd taken st h233) k_X10_meanLength t_504 [0] (show ([0] : List Nat).Perm (List.range 1) by decide) rfl rfl rfl (q0 := 0) rfl rfl rfl (Nat.le_of_ble_eq_true rfl) ⟨Nat.le_of_ble_eq_true rfl, Nat.le_of_ble_eq_true rfl⟩ ⟨Nat.zero_le _, Nat.zero_le _⟩ dL_isStore_287 (fun r234 wr234 hw234 => ?_)
  obtain ⟨e_r234, rfl⟩ := hw234
  have hp := hp r234 e_r234
  refine r_ws (I' := [sysB cI cL cP fl pl a L h v pl2 hi sa tx u w me fo fd taken st]) rfl ?_
  refine r_iload C dL_isStore_290 4 rfl ?_
  refine r_i2f C dL_isStore_292 ?_
  refine r_ldcf (v := 1084227584) C t_509 dL_isStore_293 ?_
  obtain ⟨h235, hp⟩ := hp
  refine r_fdiv C dL_isStore_295 h235 ?_
  refine r_fcmp C dL_isStore_296 ?_
  have h236 := hp
  refine r_if_ne (tgt := 304) C dL_isStore_297 (by decide) (fun c => absurd h236 c) (fun _ => ?_)
  refine r_iconst (v := 1) C dL_isStore_300 (by decide) ?_
  refine r_goto (tgt := 305) C dL_isStore_301 (by decide) ?_
  exact r_zret (r := 1) C hA hr hlo (rfl) dL_isStore_305 [sysB cI cL cP fl pl a L h v pl2 hi sa tx u w me fo fd taken st] ⟨rfl, rfl⟩ rfl hQ

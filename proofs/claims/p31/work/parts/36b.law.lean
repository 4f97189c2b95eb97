theorem k_L_isLetter : kS yL_isLetter cL_isLetter 15 (some .boolean) 3 := ⟨t_410, t_6, t_411, by decide +kernel, by decide +kernel, by decide +kernel⟩
def F_L_isLetter_L50 (r8 : Int32) (st : St) (letter : Int32) : Nat → (Nat → Int32) → Int32 → (Nat → Int32) × Int32
  | 0, k9, y10 => (k9, y10)
  | nn + 1, k9, y10 => (if r8 ≤ y10 then ((k9, y10)) else ((if 60 ≤ y10 then ((k9, y10)) else (let r14 : Int32 := F_S_crease st letter y10; let g19 : Nat → Int32 := F_L_folds k9 r14; let x20 : Int32 := y10 + 1; F_L_isLetter_L50 r8 st letter nn g19 x20))))
def P_L_isLetter_L50 (r8 : Int32) (st : St) (letter : Int32) : Nat → (Nat → Int32) → Int32 → Prop
  | 0, _, _ => False
  | nn + 1, k9, y10 => ((r8 ≤ y10 → True) ∧ (¬ r8 ≤ y10 → ((60 ≤ y10 → True) ∧ (¬ 60 ≤ y10 → ((P_S_crease st letter y10) ∧ (∀ r14 : Int32, r14 = F_S_crease st letter y10 → ((¬ r14 < 0) ∧ ((r14 ≤ 3) ∧ ((P_L_folds k9 r14) ∧ (∀ g19 : Nat → Int32, g19 = F_L_folds k9 r14 → (∀ x20 : Int32, x20 = y10 + 1 → (P_L_isLetter_L50 r8 st letter nn g19 x20))))))))))))
set_option maxRecDepth 20000 in
def F_L_isLetter (st : St) (fA : Nat → Int32) (letter : Int32) : (Nat → Int32) := let g3 : Nat → Int32 := upd fA 0 1; let g4 : Nat → Int32 := upd g3 1 2; let g5 : Nat → Int32 := upd g4 2 3; let g6 : Nat → Int32 := upd g5 3 4; let r8 : Int32 := F_S_letter st letter 2; let f21 : Nat → Int32 := (F_L_isLetter_L50 r8 st letter 61 g6 0).1; let g99 : Nat → Int32 := F_L_folds f21 0; let g103 : Nat → Int32 := F_L_folds g99 0; let g127 : Nat → Int32 := F_L_folds g103 1; let g131 : Nat → Int32 := F_L_folds g127 1; let g155 : Nat → Int32 := F_L_folds g131 2; let g159 : Nat → Int32 := F_L_folds g155 2; let g183 : Nat → Int32 := F_L_folds g159 3; let g187 : Nat → Int32 := F_L_folds g183 3; g187
set_option maxRecDepth 20000 in
def P_L_isLetter (st : St) (fA : Nat → Int32) (letter : Int32) : Prop := ((P_S_letter st letter 0) ∧ (∀ r2 : Int32, r2 = F_S_letter st letter 0 → (∀ g3 : Nat → Int32, g3 = upd fA 0 1 → (∀ g4 : Nat → Int32, g4 = upd g3 1 2 → (∀ g5 : Nat → Int32, g5 = upd g4 2 3 → (∀ g6 : Nat → Int32, g6 = upd g5 3 4 → ((P_S_letter st letter 2) ∧ (∀ r8 : Int32, r8 = F_S_letter st letter 2 → ((P_L_isLetter_L50 r8 st letter 61 g6 0) ∧ (∀ f21 : Nat → Int32, f21 = (F_L_isLetter_L50 r8 st letter 61 g6 0).1 → (∀ z22 : Int32, z22 = (F_L_isLetter_L50 r8 st letter 61 g6 0).2 → ((P_S_layer letter 0) ∧ (∀ r24 : Int32, r24 = F_S_layer st letter 0 → (∀ r25 : Int32, r25 = F_L_size r24 → (∀ x26 : Int32, x26 = (0 : Int32) ||| ((1 : Int32) <<< (r25 &&& 31)) → (∀ x28 : Int32, x28 = ((if r24 = 1 then (1) else (0))) → (∀ x29 : Int32, x29 = (0 : Int32) + x28 → (∀ x31 : Int32, x31 = ((if 0 ≤ r24 then (0) else (1))) → (∀ x32 : Int32, x32 = (0 : Int32) + x31 → ((r24 = (f21 0)) ∧ ((P_S_letter st letter 7) ∧ (∀ r35 : Int32, r35 = F_S_letter st letter 7 → (((((r35 >>> ((0 : Int32) &&& 31)) &&& 1) = 1 → (r24 = 1)) ∧ (¬ ((r35 >>> ((0 : Int32) &&& 31)) &&& 1) = 1 → True)) ∧ ((P_S_layer letter 1) ∧ (∀ r39 : Int32, r39 = F_S_layer st letter 1 → (∀ r40 : Int32, r40 = F_L_size r39 → (∀ x41 : Int32, x41 = x26 ||| ((1 : Int32) <<< (r40 &&& 31)) → (∀ x43 : Int32, x43 = ((if r39 = 2 then (1) else (0))) → (∀ x44 : Int32, x44 = x29 + x43 → (∀ x46 : Int32, x46 = ((if 0 ≤ r39 then (0) else (1))) → (∀ x47 : Int32, x47 = x32 + x46 → ((r39 = (f21 1)) ∧ ((P_S_letter st letter 7) ∧ (∀ r50 : Int32, r50 = F_S_letter st letter 7 → (((((r50 >>> ((1 : Int32) &&& 31)) &&& 1) = 1 → (r39 = 2)) ∧ (¬ ((r50 >>> ((1 : Int32) &&& 31)) &&& 1) = 1 → True)) ∧ ((P_S_layer letter 2) ∧ (∀ r54 : Int32, r54 = F_S_layer st letter 2 → (∀ r55 : Int32, r55 = F_L_size r54 → (∀ x56 : Int32, x56 = x41 ||| ((1 : Int32) <<< (r55 &&& 31)) → (∀ x58 : Int32, x58 = ((if r54 = 3 then (1) else (0))) → (∀ x59 : Int32, x59 = x44 + x58 → (∀ x61 : Int32, x61 = ((if 0 ≤ r54 then (0) else (1))) → (∀ x62 : Int32, x62 = x47 + x61 → ((r54 = (f21 2)) ∧ ((P_S_letter st letter 7) ∧ (∀ r65 : Int32, r65 = F_S_letter st letter 7 → (((((r65 >>> ((2 : Int32) &&& 31)) &&& 1) = 1 → (r54 = 3)) ∧ (¬ ((r65 >>> ((2 : Int32) &&& 31)) &&& 1) = 1 → True)) ∧ ((P_S_layer letter 3) ∧ (∀ r69 : Int32, r69 = F_S_layer st letter 3 → (∀ r70 : Int32, r70 = F_L_size r69 → (∀ x71 : Int32, x71 = x56 ||| ((1 : Int32) <<< (r70 &&& 31)) → (∀ x73 : Int32, x73 = ((if r69 = 4 then (1) else (0))) → (∀ x74 : Int32, x74 = x59 + x73 → (∀ x76 : Int32, x76 = ((if 0 ≤ r69 then (0) else (1))) → (∀ x77 : Int32, x77 = x62 + x76 → ((r69 = (f21 3)) ∧ ((P_S_letter st letter 7) ∧ (∀ r80 : Int32, r80 = F_S_letter st letter 7 → (((((r80 >>> ((3 : Int32) &&& 31)) &&& 1) = 1 → (r69 = 4)) ∧ (¬ ((r80 >>> ((3 : Int32) &&& 31)) &&& 1) = 1 → True)) ∧ ((x71 = 30) ∧ (∀ r84 : Int32, r84 = F_L_length f21 → ((r2 = r84) ∧ ((P_S_letter st letter 1) ∧ (∀ r87 : Int32, r87 = F_S_letter st letter 1 → ((r87 = r2) ∧ ((P_S_letter st letter 5) ∧ (∀ r90 : Int32, r90 = F_S_letter st letter 5 → ((r90 = x74) ∧ ((P_S_letter st letter 6) ∧ (∀ r93 : Int32, r93 = F_S_letter st letter 6 → ((r93 = x77) ∧ ((¬ r8 < r2) ∧ ((((r8 - r2) - (r8 - r2) / 2 * 2) = 0) ∧ ((P_L_folds f21 0) ∧ (∀ g99 : Nat → Int32, g99 = F_L_folds f21 0 → (∀ r100 : Int32, r100 = F_L_length g99 → ((P_L_folds g99 0) ∧ (∀ g103 : Nat → Int32, g103 = F_L_folds g99 0 → (∀ x105 : Int32, x105 = ((if r2 ≤ r100 then (0) else (1))) → (∀ x106 : Int32, x106 = (0 : Int32) ||| x105 → ((P_S_letter st letter 7) ∧ (∀ r108 : Int32, r108 = F_S_letter st letter 7 → (∀ x110 : Int32, x110 = ((if (r108 &&& 1) = 1 then (1) else (0))) → (∀ x113 : Int32, x113 = ((if r8 = 60 then (1) else ((if x110 = 0 then (0) else (2))))) → (∀ x115 : Int32, x115 = ((if x113 ≤ 0 then (0) else (1))) → (∀ x116 : Int32, x116 = (0 : Int32) ||| x115 → ((P_S_ifFolded letter 0) ∧ (∀ r118 : Int32, r118 = F_S_ifFolded st letter 0 → ((r118 = r100) ∧ (∀ r120 : Int32, r120 = F_L_size (r100 - r2) → ((r120 = 1) ∧ ((P_S_why letter 0) ∧ (∀ r123 : Int32, r123 = F_S_why st letter 0 → ((r123 = x113) ∧ ((P_L_folds g103 1) ∧ (∀ g127 : Nat → Int32, g127 = F_L_folds g103 1 → (∀ r128 : Int32, r128 = F_L_length g127 → ((P_L_folds g127 1) ∧ (∀ g131 : Nat → Int32, g131 = F_L_folds g127 1 → (∀ x133 : Int32, x133 = ((if r2 ≤ r128 then (0) else (2))) → (∀ x134 : Int32, x134 = x106 ||| x133 → ((P_S_letter st letter 7) ∧ (∀ r136 : Int32, r136 = F_S_letter st letter 7 → (∀ x138 : Int32, x138 = ((if ((r136 >>> ((0 : Int32) &&& 31)) &&& 3) = 0 then (0) else (1))) → (∀ x141 : Int32, x141 = ((if r8 = 60 then (1) else ((if x138 = 0 then (0) else (2))))) → (∀ x143 : Int32, x143 = ((if x141 ≤ 0 then (0) else (2))) → (∀ x144 : Int32, x144 = x116 ||| x143 → ((P_S_ifFolded letter 1) ∧ (∀ r146 : Int32, r146 = F_S_ifFolded st letter 1 → ((r146 = r128) ∧ (∀ r148 : Int32, r148 = F_L_size (r128 - r2) → ((r148 = 1) ∧ ((P_S_why letter 1) ∧ (∀ r151 : Int32, r151 = F_S_why st letter 1 → ((r151 = x141) ∧ ((P_L_folds g131 2) ∧ (∀ g155 : Nat → Int32, g155 = F_L_folds g131 2 → (∀ r156 : Int32, r156 = F_L_length g155 → ((P_L_folds g155 2) ∧ (∀ g159 : Nat → Int32, g159 = F_L_folds g155 2 → (∀ x161 : Int32, x161 = ((if r2 ≤ r156 then (0) else (4))) → (∀ x162 : Int32, x162 = x134 ||| x161 → ((P_S_letter st letter 7) ∧ (∀ r164 : Int32, r164 = F_S_letter st letter 7 → (∀ x166 : Int32, x166 = ((if ((r164 >>> ((1 : Int32) &&& 31)) &&& 3) = 0 then (0) else (1))) → (∀ x169 : Int32, x169 = ((if r8 = 60 then (1) else ((if x166 = 0 then (0) else (2))))) → (∀ x171 : Int32, x171 = ((if x169 ≤ 0 then (0) else (4))) → (∀ x172 : Int32, x172 = x144 ||| x171 → ((P_S_ifFolded letter 2) ∧ (∀ r174 : Int32, r174 = F_S_ifFolded st letter 2 → ((r174 = r156) ∧ (∀ r176 : Int32, r176 = F_L_size (r156 - r2) → ((r176 = 1) ∧ ((P_S_why letter 2) ∧ (∀ r179 : Int32, r179 = F_S_why st letter 2 → ((r179 = x169) ∧ ((P_L_folds g159 3) ∧ (∀ g183 : Nat → Int32, g183 = F_L_folds g159 3 → (∀ r184 : Int32, r184 = F_L_length g183 → ((P_L_folds g183 3) ∧ (∀ g187 : Nat → Int32, g187 = F_L_folds g183 3 → (∀ x189 : Int32, x189 = ((if r2 ≤ r184 then (0) else (8))) → (∀ x190 : Int32, x190 = x162 ||| x189 → ((P_S_letter st letter 7) ∧ (∀ r192 : Int32, r192 = F_S_letter st letter 7 → (∀ x194 : Int32, x194 = ((if ((r192 >>> ((2 : Int32) &&& 31)) &&& 3) = 0 then (0) else (1))) → (∀ x197 : Int32, x197 = ((if r8 = 60 then (1) else ((if x194 = 0 then (0) else (2))))) → (∀ x199 : Int32, x199 = ((if x197 ≤ 0 then (0) else (8))) → (∀ x200 : Int32, x200 = x172 ||| x199 → ((P_S_ifFolded letter 3) ∧ (∀ r202 : Int32, r202 = F_S_ifFolded st letter 3 → ((r202 = r184) ∧ (∀ r204 : Int32, r204 = F_L_size (r184 - r2) → ((r204 = 1) ∧ ((P_S_why letter 3) ∧ (∀ r207 : Int32, r207 = F_S_why st letter 3 → ((r207 = x197) ∧ ((P_S_letter st letter 8) ∧ (∀ r210 : Int32, r210 = F_S_letter st letter 8 → ((r210 = x190) ∧ ((P_S_letter st letter 9) ∧ (∀ r213 : Int32, r213 = F_S_letter st letter 9 → ((r213 = x200) ∧ ((P_S_crease st letter r8) ∧ (∀ r216 : Int32, r216 = F_S_crease st letter r8 → (r216 = (-10)))))))))))))))))))))))))))))))))))))))))))))))))))))))))))))))))))))))))))))))))))))))))))))))))))))))))))))))))))))))))))))))))))))))))))))))))))))))))))))))))))))))
set_option maxRecDepth 20000 in
set_option maxHeartbeats 8000000 in
theorem m_L_isLetter (l : Launch) (D : va_G) (cI cL cP cJ : ClassId) (fl : Nat) (pl : Nat) (a : Nat) (L : Nat → Nat) (h : Nat → Nat) (v : Nat → Nat) (pl2 : Nat) (hi : Nat) (sa : Nat) (tx : Nat) (u : Nat) (w : Nat) (me : Nat) (fo : Nat) (fd : Nat) (taken : Int32) (st : St) (aA : Nat) (fA : Nat → Int32) (letter : Int32) (hp : P_L_isLetter st fA letter) : M vI l yL_isLetter cL_isLetter 15 (some .boolean) 6 131 D (tyF cI cL cP cJ) [.ref fl, .int letter, .ref aA] [sysB cI cL cP fl pl a L h v pl2 hi sa tx u w me fo fd taken st, [(aA, .inl (cI, 4, .inl fA))]] (fun (r : Int32) (w1 : List va_W) => r = 1 ∧ w1 = [sysB cI cL cP fl pl a L h v pl2 hi sa tx u w me fo fd taken st, [(aA, .inl (cI, 4, .inl (F_L_isLetter st fA letter)))]]) := by
  unfold P_L_isLetter at hp
  refine m_start (by decide +kernel) (Nat.le_of_ble_eq_true rfl) (fun p e s m args below meth c A Q hA hQ C hr hlo => ?_)
  refine r_Le (L' := [(0, .ref fl), (1, .int letter), (2, .ref aA)]) rfl ?_
  refine r_aload_n C dL_isLetter_0 0 rfl ?_
  refine r_iload_n C dL_isLetter_1 1 rfl ?_
  refine r_iconst (v := 0) C dL_isLetter_2 (by decide) ?_
  obtain ⟨h1, hp⟩ := hp
  refine r_callV (ci := 8) (wc := [sysB cI cL cP fl pl a L h v pl2 hi sa tx u w me fo fd taken st]) (wr := [[(aA, .inl (cI, 4, .inl fA))]]) (st := []) C (m_S_letter l D cI cL cP cJ fl pl a L h v pl2 hi sa tx u w me fo fd taken st letter 0 h1) k_X10_letter t_412 [0, 1] (show ([0, 1] : List Nat).Perm (List.range 2) by decide) rfl rfl rfl (q0 := 0) rfl rfl rfl (Nat.le_of_ble_eq_true rfl) ⟨Nat.le_of_ble_eq_true rfl, Nat.le_of_ble_eq_true rfl⟩ ⟨Nat.zero_le _, Nat.zero_le _⟩ dL_isLetter_3 (fun r2 wr2 hw2 => ?_)
  obtain ⟨e_r2, rfl⟩ := hw2
  have hp := hp r2 e_r2
  refine r_ws (I' := [sysB cI cL cP fl pl a L h v pl2 hi sa tx u w me fo fd taken st, [(aA, .inl (cI, 4, .inl fA))]]) rfl ?_
  refine r_istore_n (L' := [(3, .int r2), (0, .ref fl), (1, .int letter), (2, .ref aA)]) C dL_isLetter_6 (by decide) rfl ?_
  refine r_iconst (v := 0) C dL_isLetter_7 (by decide) ?_
  refine r_istore (L' := [(4, .int 0), (3, .int r2), (0, .ref fl), (1, .int letter), (2, .ref aA)]) C dL_isLetter_8 (by decide) rfl ?_
  refine r_iconst (v := 0) C dL_isLetter_10 (by decide) ?_
  refine r_istore (L' := [(5, .int 0), (4, .int 0), (3, .int r2), (0, .ref fl), (1, .int letter), (2, .ref aA)]) C dL_isLetter_11 (by decide) rfl ?_
  refine r_iconst (v := 0) C dL_isLetter_13 (by decide) ?_
  refine r_istore (L' := [(6, .int 0), (5, .int 0), (4, .int 0), (3, .int r2), (0, .ref fl), (1, .int letter), (2, .ref aA)]) C dL_isLetter_14 (by decide) rfl ?_
  refine r_iconst (v := 0) C dL_isLetter_16 (by decide) ?_
  refine r_istore (L' := [(7, .int 0), (6, .int 0), (5, .int 0), (4, .int 0), (3, .int r2), (0, .ref fl), (1, .int letter), (2, .ref aA)]) C dL_isLetter_17 (by decide) rfl ?_
  refine r_iload C dL_isLetter_19 0 rfl ?_
  refine r_iconst (v := 4) C dL_isLetter_21 (by decide) ?_
  refine r_icmp_ge (tgt := 39) C dL_isLetter_22 (by decide) (fun c => absurd c (by decide)) (fun _ => ?_)
  refine r_aload_n C dL_isLetter_25 7 rfl ?_
  refine r_iload C dL_isLetter_26 0 rfl ?_
  refine r_iload C dL_isLetter_28 0 rfl ?_
  refine r_iconst (v := 1) C dL_isLetter_30 (by decide) ?_
  refine r_iadd (z := 1) C dL_isLetter_31 (by decide) ?_
  obtain ⟨g3, e_g3⟩ : ∃ z : Nat → Int32, z = upd fA 0 1 := ⟨_, rfl⟩
  have hp := hp g3 e_g3
  refine r_iast C 1 0 rfl rfl (vp_in_nI (n := 0) (N := 4) (by decide) (by decide)) (I' := [sysB cI cL cP fl pl a L h v pl2 hi sa tx u w me fo fd taken st, [(aA, .inl (cI, 4, .inl g3))]]) (by rw [e_g3]; rfl) dL_isLetter_32 ?_
  refine r_iinc (v := 1) (L' := [(7, .int 1), (6, .int 0), (5, .int 0), (4, .int 0), (3, .int r2), (0, .ref fl), (1, .int letter), (2, .ref aA)]) C dL_isLetter_33 0 rfl (by decide) (by decide) rfl ?_
  refine r_goto (tgt := 19) C dL_isLetter_36 (by decide) ?_
  refine r_iload C dL_isLetter_19 0 rfl ?_
  refine r_iconst (v := 4) C dL_isLetter_21 (by decide) ?_
  refine r_icmp_ge (tgt := 39) C dL_isLetter_22 (by decide) (fun c => absurd c (by decide)) (fun _ => ?_)
  refine r_aload_n C dL_isLetter_25 7 rfl ?_
  refine r_iload C dL_isLetter_26 0 rfl ?_
  refine r_iload C dL_isLetter_28 0 rfl ?_
  refine r_iconst (v := 1) C dL_isLetter_30 (by decide) ?_
  refine r_iadd (z := 2) C dL_isLetter_31 (by decide) ?_
  obtain ⟨g4, e_g4⟩ : ∃ z : Nat → Int32, z = upd g3 1 2 := ⟨_, rfl⟩
  have hp := hp g4 e_g4
  refine r_iast C 1 0 rfl rfl (vp_in_nI (n := 1) (N := 4) (by decide) (by decide)) (I' := [sysB cI cL cP fl pl a L h v pl2 hi sa tx u w me fo fd taken st, [(aA, .inl (cI, 4, .inl g4))]]) (by rw [e_g4]; rfl) dL_isLetter_32 ?_
  refine r_iinc (v := 2) (L' := [(7, .int 2), (6, .int 0), (5, .int 0), (4, .int 0), (3, .int r2), (0, .ref fl), (1, .int letter), (2, .ref aA)]) C dL_isLetter_33 0 rfl (by decide) (by decide) rfl ?_
  refine r_goto (tgt := 19) C dL_isLetter_36 (by decide) ?_
  refine r_iload C dL_isLetter_19 0 rfl ?_
  refine r_iconst (v := 4) C dL_isLetter_21 (by decide) ?_
  refine r_icmp_ge (tgt := 39) C dL_isLetter_22 (by decide) (fun c => absurd c (by decide)) (fun _ => ?_)
  refine r_aload_n C dL_isLetter_25 7 rfl ?_
  refine r_iload C dL_isLetter_26 0 rfl ?_
  refine r_iload C dL_isLetter_28 0 rfl ?_
  refine r_iconst (v := 1) C dL_isLetter_30 (by decide) ?_
  refine r_iadd (z := 3) C dL_isLetter_31 (by decide) ?_
  obtain ⟨g5, e_g5⟩ : ∃ z : Nat → Int32, z = upd g4 2 3 := ⟨_, rfl⟩
  have hp := hp g5 e_g5
  refine r_iast C 1 0 rfl rfl (vp_in_nI (n := 2) (N := 4) (by decide) (by decide)) (I' := [sysB cI cL cP fl pl a L h v pl2 hi sa tx u w me fo fd taken st, [(aA, .inl (cI, 4, .inl g5))]]) (by rw [e_g5]; rfl) dL_isLetter_32 ?_
  refine r_iinc (v := 3) (L' := [(7, .int 3), (6, .int 0), (5, .int 0), (4, .int 0), (3, .int r2), (0, .ref fl), (1, .int letter), (2, .ref aA)]) C dL_isLetter_33 0 rfl (by decide) (by decide) rfl ?_
  refine r_goto (tgt := 19) C dL_isLetter_36 (by decide) ?_
  refine r_iload C dL_isLetter_19 0 rfl ?_
  refine r_iconst (v := 4) C dL_isLetter_21 (by decide) ?_
  refine r_icmp_ge (tgt := 39) C dL_isLetter_22 (by decide) (fun c => absurd c (by decide)) (fun _ => ?_)
  refine r_aload_n C dL_isLetter_25 7 rfl ?_
  refine r_iload C dL_isLetter_26 0 rfl ?_
  refine r_iload C dL_isLetter_28 0 rfl ?_
  refine r_iconst (v := 1) C dL_isLetter_30 (by decide) ?_
  refine r_iadd (z := 4) C dL_isLetter_31 (by decide) ?_
  obtain ⟨g6, e_g6⟩ : ∃ z : Nat → Int32, z = upd g5 3 4 := ⟨_, rfl⟩
  have hp := hp g6 e_g6
  refine r_iast C 1 0 rfl rfl (vp_in_nI (n := 3) (N := 4) (by decide) (by decide)) (I' := [sysB cI cL cP fl pl a L h v pl2 hi sa tx u w me fo fd taken st, [(aA, .inl (cI, 4, .inl g6))]]) (by rw [e_g6]; rfl) dL_isLetter_32 ?_
  refine r_iinc (v := 4) (L' := [(7, .int 4), (6, .int 0), (5, .int 0), (4, .int 0), (3, .int r2), (0, .ref fl), (1, .int letter), (2, .ref aA)]) C dL_isLetter_33 0 rfl (by decide) (by decide) rfl ?_
  refine r_goto (tgt := 19) C dL_isLetter_36 (by decide) ?_
  refine r_iload C dL_isLetter_19 0 rfl ?_
  refine r_iconst (v := 4) C dL_isLetter_21 (by decide) ?_
  refine r_icmp_ge (tgt := 39) C dL_isLetter_22 (by decide) (fun _ => ?_) (fun c => absurd c (by decide))
  refine r_aload_n C dL_isLetter_39 5 rfl ?_
  refine r_iload_n C dL_isLetter_40 6 rfl ?_
  refine r_iconst (v := 2) C dL_isLetter_41 (by decide) ?_
  obtain ⟨h7, hp⟩ := hp
  refine r_callV (ci := 8) (wc := [sysB cI cL cP fl pl a L h v pl2 hi sa tx u w me fo fd taken st]) (wr := [[(aA, .inl (cI, 4, .inl g6))]]) (st := []) C (m_S_letter l D cI cL cP cJ fl pl a L h v pl2 hi sa tx u w me fo fd taken st letter 2 h7) k_X10_letter t_412 [0, 1] (show ([0, 1] : List Nat).Perm (List.range 2) by decide) rfl rfl rfl (q0 := 0) rfl rfl rfl (Nat.le_of_ble_eq_true rfl) ⟨Nat.le_of_ble_eq_true rfl, Nat.le_of_ble_eq_true rfl⟩ ⟨Nat.zero_le _, Nat.zero_le _⟩ dL_isLetter_42 (fun r8 wr8 hw8 => ?_)
  obtain ⟨e_r8, rfl⟩ := hw8
  have hp := hp r8 e_r8
  refine r_ws (I' := [sysB cI cL cP fl pl a L h v pl2 hi sa tx u w me fo fd taken st, [(aA, .inl (cI, 4, .inl g6))]]) rfl ?_
  refine r_istore (L' := [(7, .int r8), (6, .int 0), (5, .int 0), (4, .int 0), (3, .int r2), (0, .ref fl), (1, .int letter), (2, .ref aA)]) C dL_isLetter_45 (by decide) rfl ?_
  refine r_iconst (v := 0) C dL_isLetter_47 (by decide) ?_
  refine r_istore (L' := [(8, .int 0), (7, .int r8), (6, .int 0), (5, .int 0), (4, .int 0), (3, .int r2), (0, .ref fl), (1, .int letter), (2, .ref aA)]) C dL_isLetter_48 (by decide) rfl ?_
  obtain ⟨hpl, hp⟩ := hp
  have hL : ∀ (nn : Nat) (k9 : Nat → Int32) (y10 : Int32), P_L_isLetter_L50 r8 st letter nn k9 y10 → (∀ f21 : Nat → Int32, f21 = (F_L_isLetter_L50 r8 st letter nn k9 y10).1 → ∀ z22 : Int32, z22 = (F_L_isLetter_L50 r8 st letter nn k9 y10).2 → V p l e (rmm 6 131) s m args below meth c 15 D A 0 0 Q [sysB cI cL cP fl pl a L h v pl2 hi sa tx u w me fo fd taken st, [(aA, .inl (cI, 4, .inl f21))]] [(8, .int z22), (7, .int r8), (6, .int 0), (5, .int 0), (4, .int 0), (3, .int r2), (0, .ref fl), (1, .int letter), (2, .ref aA)] 98 []) → V p l e (rmm 6 131) s m args below meth c 15 D A 0 0 Q [sysB cI cL cP fl pl a L h v pl2 hi sa tx u w me fo fd taken st, [(aA, .inl (cI, 4, .inl k9))]] [(8, .int y10), (7, .int r8), (6, .int 0), (5, .int 0), (4, .int 0), (3, .int r2), (0, .ref fl), (1, .int letter), (2, .ref aA)] 50 [] := by
    clear hpl hp
    intro nn
    induction nn with
    | zero => intro k9 y10 hp kk; rw [P_L_isLetter_L50] at hp; exact hp.elim
    | succ nn ih =>
      intro k9 y10 hp kk
      rw [P_L_isLetter_L50] at hp
      refine r_iload C dL_isLetter_50 0 rfl ?_
      refine r_iload C dL_isLetter_52 1 rfl ?_
      refine r_icmp_ge (tgt := 98) C dL_isLetter_54 (by decide) (fun c11 => ?_) (fun c11 => ?_)
      · have eF : F_L_isLetter_L50 r8 st letter (nn + 1) k9 y10 = (k9, y10) := by simp only [F_L_isLetter_L50, if_pos c11]
        exact kk _ (by rw [eF]) _ (by rw [eF])
      · have hp := hp.2 c11
        refine r_iload C dL_isLetter_57 0 rfl ?_
        refine r_bipush (v := 60) C dL_isLetter_59 (by decide) ?_
        refine r_icmp_ge (tgt := 98) C dL_isLetter_61 (by decide) (fun c12 => ?_) (fun c12 => ?_)
        · have eF : F_L_isLetter_L50 r8 st letter (nn + 1) k9 y10 = (k9, y10) := by simp only [F_L_isLetter_L50, if_neg c11, if_pos c12]
          exact kk _ (by rw [eF]) _ (by rw [eF])
        · have hp := hp.2 c12
          refine r_aload_n C dL_isLetter_64 6 rfl ?_
          refine r_iload_n C dL_isLetter_65 7 rfl ?_
          refine r_iload C dL_isLetter_66 0 rfl ?_
          obtain ⟨h13, hp⟩ := hp
          refine r_callV (ci := 8) (wc := [sysB cI cL cP fl pl a L h v pl2 hi sa tx u w me fo fd taken st]) (wr := [[(aA, .inl (cI, 4, .inl k9))]]) (st := []) C (m_S_crease l D cI cL cP cJ fl pl a L h v pl2 hi sa tx u w me fo fd taken st letter y10 h13) k_X10_crease t_419 [0, 1] (show ([0, 1] : List Nat).Perm (List.range 2) by decide) rfl rfl rfl (q0 := 0) rfl rfl rfl (Nat.le_of_ble_eq_true rfl) ⟨Nat.le_of_ble_eq_true rfl, Nat.le_of_ble_eq_true rfl⟩ ⟨Nat.zero_le _, Nat.zero_le _⟩ dL_isLetter_68 (fun r14 wr14 hw14 => ?_)
          obtain ⟨e_r14, rfl⟩ := hw14
          have hp := hp r14 e_r14
          refine r_ws (I' := [sysB cI cL cP fl pl a L h v pl2 hi sa tx u w me fo fd taken st, [(aA, .inl (cI, 4, .inl k9))]]) rfl ?_
          refine r_istore (L' := [(9, .int r14), (8, .int y10), (7, .int r8), (6, .int 0), (5, .int 0), (4, .int 0), (3, .int r2), (0, .ref fl), (1, .int letter), (2, .ref aA)]) C dL_isLetter_71 (by decide) rfl ?_
          refine r_iload C dL_isLetter_73 0 rfl ?_
          obtain ⟨h15, hp⟩ := hp
          refine r_if_lt (tgt := 84) C dL_isLetter_75 (by decide) (fun c => absurd c h15) (fun _ => ?_)
          refine r_iload C dL_isLetter_78 0 rfl ?_
          refine r_iconst (v := 3) C dL_isLetter_80 (by decide) ?_
          obtain ⟨h16, hp⟩ := hp
          refine r_icmp_le (tgt := 86) C dL_isLetter_81 (by decide) (fun _ => ?_) (fun c => absurd h16 c)
          refine r_aload_n C dL_isLetter_86 9 rfl ?_
          refine r_iload C dL_isLetter_87 0 rfl ?_
          obtain ⟨h17, hp⟩ := hp
          refine r_callS (wc := [[(aA, .inl (cI, 4, .inl k9))]]) (wr := [sysB cI cL cP fl pl a L h v pl2 hi sa tx u w me fo fd taken st]) (st := []) C (m_L_folds l D cI cL cP cJ aA k9 r14 h17) k_L_folds t_437 [1, 0] (show ([1, 0] : List Nat).Perm (List.range 2) by decide) rfl rfl rfl (Nat.le_of_ble_eq_true rfl) ⟨Nat.le_of_ble_eq_true rfl, Nat.le_of_ble_eq_true rfl⟩ ⟨Nat.zero_le _, Nat.zero_le _⟩ dL_isLetter_89 (fun r18 wr18 hw18 => ?_)
          obtain rfl := hw18
          obtain ⟨g19, e_g19⟩ : ∃ z : Nat → Int32, z = F_L_folds k9 r14 := ⟨_, rfl⟩
          have hp := hp g19 e_g19
          refine r_ws (I' := [[(aA, .inl (cI, 4, .inl g19))], sysB cI cL cP fl pl a L h v pl2 hi sa tx u w me fo fd taken st]) (by rw [e_g19]; rfl) ?_
          obtain ⟨x20, e_x20⟩ : ∃ z : Int32, z = y10 + 1 := ⟨_, rfl⟩
          have hp := hp x20 e_x20
          refine r_iinc (v := x20) (L' := [(8, .int x20), (9, .int r14), (7, .int r8), (6, .int 0), (5, .int 0), (4, .int 0), (3, .int r2), (0, .ref fl), (1, .int letter), (2, .ref aA)]) C dL_isLetter_92 1 rfl (by rw [e_x20]; exact ii (by decide)) (by decide) rfl ?_
          refine r_goto (tgt := 50) C dL_isLetter_95 (by decide) ?_
          refine r_pl (I' := [sysB cI cL cP fl pl a L h v pl2 hi sa tx u w me fo fd taken st, [(aA, .inl (cI, 4, .inl g19))]]) [1, 0] (show ([1, 0] : List Nat).Perm (List.range 2) by decide) rfl ?_
          refine r_L (L' := [(8, .int x20), (7, .int r8), (6, .int 0), (5, .int 0), (4, .int 0), (3, .int r2), (0, .ref fl), (1, .int letter), (2, .ref aA)]) [0, 2, 3, 4, 5, 6, 7, 8, 9] rfl ?_
          have eF : F_L_isLetter_L50 r8 st letter (nn + 1) k9 y10 = F_L_isLetter_L50 r8 st letter nn g19 x20 := by have q := e_r14.symm; subst q; have q := e_g19.symm; subst q; have q := e_x20.symm; subst q; simp only [F_L_isLetter_L50, if_neg c11, if_neg c12]
          exact ih g19 x20 hp (fun f21 e_f21 z22 e_z22 => kk f21 (by rw [eF]; exact e_f21) z22 (by rw [eF]; exact e_z22))
  refine hL 61 g6 0 hpl (fun f21 e_f21 z22 e_z22 => ?_)
  clear hL hpl
  have hp := hp f21 e_f21
  have hp := hp z22 e_z22
  refine r_iconst (v := 0) C dL_isLetter_98 (by decide) ?_
  refine r_istore (L' := [(8, .int 0), (7, .int r8), (6, .int 0), (5, .int 0), (4, .int 0), (3, .int r2), (0, .ref fl), (1, .int letter), (2, .ref aA)]) C dL_isLetter_99 (by decide) rfl ?_
  refine r_iload C dL_isLetter_101 0 rfl ?_
  refine r_iconst (v := 4) C dL_isLetter_103 (by decide) ?_
  refine r_icmp_ge (tgt := 204) C dL_isLetter_104 (by decide) (fun c => absurd c (by decide)) (fun _ => ?_)
  refine r_aload_n C dL_isLetter_107 6 rfl ?_
  refine r_iload_n C dL_isLetter_108 7 rfl ?_
  refine r_iload C dL_isLetter_109 0 rfl ?_
  obtain ⟨h23, hp⟩ := hp
  refine r_callV (ci := 8) (wc := [sysB cI cL cP fl pl a L h v pl2 hi sa tx u w me fo fd taken st]) (wr := [[(aA, .inl (cI, 4, .inl f21))]]) (st := []) C (m_S_layer l D cI cL cP cJ fl pl a L h v pl2 hi sa tx u w me fo fd taken st letter 0 h23) k_X10_layer t_440 [0, 1] (show ([0, 1] : List Nat).Perm (List.range 2) by decide) rfl rfl rfl (q0 := 0) rfl rfl rfl (Nat.le_of_ble_eq_true rfl) ⟨Nat.le_of_ble_eq_true rfl, Nat.le_of_ble_eq_true rfl⟩ ⟨Nat.zero_le _, Nat.zero_le _⟩ dL_isLetter_111 (fun r24 wr24 hw24 => ?_)
  obtain ⟨e_r24, rfl⟩ := hw24
  have hp := hp r24 e_r24
  refine r_ws (I' := [sysB cI cL cP fl pl a L h v pl2 hi sa tx u w me fo fd taken st, [(aA, .inl (cI, 4, .inl f21))]]) rfl ?_
  refine r_istore (L' := [(9, .int r24), (8, .int 0), (7, .int r8), (6, .int 0), (5, .int 0), (4, .int 0), (3, .int r2), (0, .ref fl), (1, .int letter), (2, .ref aA)]) C dL_isLetter_114 (by decide) rfl ?_
  refine r_iload C dL_isLetter_116 5 rfl ?_
  refine r_iconst (v := 1) C dL_isLetter_118 (by decide) ?_
  refine r_iload C dL_isLetter_119 0 rfl ?_
  refine r_callS (wc := []) (wr := [sysB cI cL cP fl pl a L h v pl2 hi sa tx u w me fo fd taken st, [(aA, .inl (cI, 4, .inl f21))]]) (st := [.int 1, .int 0]) C (m_L_size l D cI cL cP cJ r24) k_L_size t_450 [0, 1] (show ([0, 1] : List Nat).Perm (List.range 2) by decide) rfl rfl rfl (Nat.le_of_ble_eq_true rfl) ⟨Nat.le_of_ble_eq_true rfl, Nat.le_of_ble_eq_true rfl⟩ ⟨Nat.zero_le _, Nat.zero_le _⟩ dL_isLetter_121 (fun r25 wr25 hw25 => ?_)
  obtain ⟨e_r25, rfl⟩ := hw25
  have hp := hp r25 e_r25
  refine r_ws (I' := [sysB cI cL cP fl pl a L h v pl2 hi sa tx u w me fo fd taken st, [(aA, .inl (cI, 4, .inl f21))]]) rfl ?_
  refine r_ishl C dL_isLetter_124 rfl ?_
  refine r_ior C dL_isLetter_125 rfl ?_
  refine r_top (fun x26 e_x26 => ?_)
  have hp := hp x26 e_x26
  refine r_istore (L' := [(4, .int x26), (9, .int r24), (8, .int 0), (7, .int r8), (6, .int 0), (5, .int 0), (3, .int r2), (0, .ref fl), (1, .int letter), (2, .ref aA)]) C dL_isLetter_126 (by decide) rfl ?_
  refine r_iload C dL_isLetter_128 5 rfl ?_
  refine r_iload C dL_isLetter_130 1 rfl ?_
  refine r_iload C dL_isLetter_132 2 rfl ?_
  refine r_iconst (v := 1) C dL_isLetter_134 (by decide) ?_
  refine r_iadd (z := 1) C dL_isLetter_135 (by decide) ?_
  suffices K : ∀ x28 : Int32, x28 = ((if r24 = 1 then (1) else (0))) → V p l e (rmm 6 131) s m args below meth c 15 D A 0 0 Q [sysB cI cL cP fl pl a L h v pl2 hi sa tx u w me fo fd taken st, [(aA, .inl (cI, 4, .inl f21))]] [(4, .int x26), (9, .int r24), (8, .int 0), (7, .int r8), (6, .int 0), (5, .int 0), (3, .int r2), (0, .ref fl), (1, .int letter), (2, .ref aA)] 144 [.int x28, .int 0] by
    refine r_icmp_ne (tgt := 143) C dL_isLetter_136 (by decide) (fun c27 => ?_) (fun c27 => ?_)
    · refine r_iconst (v := 0) C dL_isLetter_143 (by decide) ?_
      exact K _ (by simp only [if_neg c27])
    · refine r_iconst (v := 1) C dL_isLetter_139 (by decide) ?_
      refine r_goto (tgt := 144) C dL_isLetter_140 (by decide) ?_
      exact K _ (by simp only [if_pos c27])
  intro x28 e_x28
  have hp := hp x28 e_x28
  refine r_iadd C dL_isLetter_144 rfl ?_
  refine r_top (fun x29 e_x29 => ?_)
  have hp := hp x29 e_x29
  refine r_istore (L' := [(5, .int x29), (4, .int x26), (9, .int r24), (8, .int 0), (7, .int r8), (6, .int 0), (3, .int r2), (0, .ref fl), (1, .int letter), (2, .ref aA)]) C dL_isLetter_145 (by decide) rfl ?_
  refine r_iload C dL_isLetter_147 5 rfl ?_
  refine r_iload C dL_isLetter_149 2 rfl ?_
  suffices K : ∀ x31 : Int32, x31 = ((if 0 ≤ r24 then (0) else (1))) → V p l e (rmm 6 131) s m args below meth c 15 D A 0 0 Q [sysB cI cL cP fl pl a L h v pl2 hi sa tx u w me fo fd taken st, [(aA, .inl (cI, 4, .inl f21))]] [(5, .int x29), (4, .int x26), (9, .int r24), (8, .int 0), (7, .int r8), (6, .int 0), (3, .int r2), (0, .ref fl), (1, .int letter), (2, .ref aA)] 159 [.int x31, .int 0] by
    refine r_if_ge (tgt := 158) C dL_isLetter_151 (by decide) (fun c30 => ?_) (fun c30 => ?_)
    · refine r_iconst (v := 0) C dL_isLetter_158 (by decide) ?_
      exact K _ (by simp only [if_pos c30])
    · refine r_iconst (v := 1) C dL_isLetter_154 (by decide) ?_
      refine r_goto (tgt := 159) C dL_isLetter_155 (by decide) ?_
      exact K _ (by simp only [if_neg c30])
  intro x31 e_x31
  have hp := hp x31 e_x31
  refine r_iadd C dL_isLetter_159 rfl ?_
  refine r_top (fun x32 e_x32 => ?_)
  have hp := hp x32 e_x32
  refine r_istore (L' := [(6, .int x32), (5, .int x29), (4, .int x26), (9, .int r24), (8, .int 0), (7, .int r8), (3, .int r2), (0, .ref fl), (1, .int letter), (2, .ref aA)]) C dL_isLetter_160 (by decide) rfl ?_
  refine r_iload C dL_isLetter_162 3 rfl ?_
  refine r_aload_n C dL_isLetter_164 9 rfl ?_
  refine r_iload C dL_isLetter_165 4 rfl ?_
  refine r_iald (z := f21 0) C 1 0 rfl rfl (vp_in_nI (n := 0) (N := 4) (by decide) (by decide)) dL_isLetter_167 (congrArg (f21) (by decide)) ?_
  obtain ⟨h33, hp⟩ := hp
  refine r_icmp_ne (tgt := 196) C dL_isLetter_168 (by decide) (fun c => absurd h33 c) (fun _ => ?_)
  refine r_aload_n C dL_isLetter_171 7 rfl ?_
  refine r_iload_n C dL_isLetter_172 8 rfl ?_
  refine r_bipush (v := 7) C dL_isLetter_173 (by decide) ?_
  obtain ⟨h34, hp⟩ := hp
  refine r_callV (ci := 8) (wc := [sysB cI cL cP fl pl a L h v pl2 hi sa tx u w me fo fd taken st]) (wr := [[(aA, .inl (cI, 4, .inl f21))]]) (st := []) C (m_S_letter l D cI cL cP cJ fl pl a L h v pl2 hi sa tx u w me fo fd taken st letter 7 h34) k_X10_letter t_412 [0, 1] (show ([0, 1] : List Nat).Perm (List.range 2) by decide) rfl rfl rfl (q0 := 0) rfl rfl rfl (Nat.le_of_ble_eq_true rfl) ⟨Nat.le_of_ble_eq_true rfl, Nat.le_of_ble_eq_true rfl⟩ ⟨Nat.zero_le _, Nat.zero_le _⟩ dL_isLetter_175 (fun r35 wr35 hw35 => ?_)
  obtain ⟨e_r35, rfl⟩ := hw35
  have hp := hp r35 e_r35
  refine r_ws (I' := [sysB cI cL cP fl pl a L h v pl2 hi sa tx u w me fo fd taken st, [(aA, .inl (cI, 4, .inl f21))]]) rfl ?_
  refine r_iload C dL_isLetter_178 4 rfl ?_
  refine r_ishr C dL_isLetter_180 rfl ?_
  refine r_iconst (v := 1) C dL_isLetter_181 (by decide) ?_
  refine r_iand C dL_isLetter_182 rfl ?_
  refine r_iconst (v := 1) C dL_isLetter_183 (by decide) ?_
  obtain ⟨hps, hp⟩ := hp
  suffices K :  V p l e (rmm 6 131) s m args below meth c 15 D A 0 0 Q [sysB cI cL cP fl pl a L h v pl2 hi sa tx u w me fo fd taken st, [(aA, .inl (cI, 4, .inl f21))]] [(6, .int x32), (5, .int x29), (4, .int x26), (9, .int r24), (8, .int 0), (7, .int r8), (3, .int r2), (0, .ref fl), (1, .int letter), (2, .ref aA)] 198 [] by
    have hp := hps
    refine r_icmp_ne (tgt := 198) C dL_isLetter_184 (by decide) (fun c36 => ?_) (fun c36 => ?_)
    · exact K 
    · have hp := hp.1 c36
      refine r_iload C dL_isLetter_187 3 rfl ?_
      refine r_iload C dL_isLetter_189 4 rfl ?_
      refine r_iconst (v := 1) C dL_isLetter_191 (by decide) ?_
      refine r_iadd (z := 1) C dL_isLetter_192 (by decide) ?_
      have h37 := hp
      refine r_icmp_eq (tgt := 198) C dL_isLetter_193 (by decide) (fun _ => ?_) (fun c => absurd h37 c)
      exact K 
  skip
  refine r_iinc (v := 1) (L' := [(8, .int 1), (6, .int x32), (5, .int x29), (4, .int x26), (9, .int r24), (7, .int r8), (3, .int r2), (0, .ref fl), (1, .int letter), (2, .ref aA)]) C dL_isLetter_198 4 rfl (by decide) (by decide) rfl ?_
  refine r_goto (tgt := 101) C dL_isLetter_201 (by decide) ?_
  refine r_iload C dL_isLetter_101 0 rfl ?_
  refine r_iconst (v := 4) C dL_isLetter_103 (by decide) ?_
  refine r_icmp_ge (tgt := 204) C dL_isLetter_104 (by decide) (fun c => absurd c (by decide)) (fun _ => ?_)
  refine r_aload_n C dL_isLetter_107 7 rfl ?_
  refine r_iload_n C dL_isLetter_108 8 rfl ?_
  refine r_iload C dL_isLetter_109 0 rfl ?_
  obtain ⟨h38, hp⟩ := hp
  refine r_callV (ci := 8) (wc := [sysB cI cL cP fl pl a L h v pl2 hi sa tx u w me fo fd taken st]) (wr := [[(aA, .inl (cI, 4, .inl f21))]]) (st := []) C (m_S_layer l D cI cL cP cJ fl pl a L h v pl2 hi sa tx u w me fo fd taken st letter 1 h38) k_X10_layer t_440 [0, 1] (show ([0, 1] : List Nat).Perm (List.range 2) by decide) rfl rfl rfl (q0 := 0) rfl rfl rfl (Nat.le_of_ble_eq_true rfl) ⟨Nat.le_of_ble_eq_true rfl, Nat.le_of_ble_eq_true rfl⟩ ⟨Nat.zero_le _, Nat.zero_le _⟩ dL_isLetter_111 (fun r39 wr39 hw39 => ?_)
  obtain ⟨e_r39, rfl⟩ := hw39
  have hp := hp r39 e_r39
  refine r_ws (I' := [sysB cI cL cP fl pl a L h v pl2 hi sa tx u w me fo fd taken st, [(aA, .inl (cI, 4, .inl f21))]]) rfl ?_
  refine r_istore (L' := [(9, .int r39), (8, .int 1), (6, .int x32), (5, .int x29), (4, .int x26), (7, .int r8), (3, .int r2), (0, .ref fl), (1, .int letter), (2, .ref aA)]) C dL_isLetter_114 (by decide) rfl ?_
  refine r_iload C dL_isLetter_116 4 rfl ?_
  refine r_iconst (v := 1) C dL_isLetter_118 (by decide) ?_
  refine r_iload C dL_isLetter_119 0 rfl ?_
  refine r_callS (wc := []) (wr := [sysB cI cL cP fl pl a L h v pl2 hi sa tx u w me fo fd taken st, [(aA, .inl (cI, 4, .inl f21))]]) (st := [.int 1, .int x26]) C (m_L_size l D cI cL cP cJ r39) k_L_size t_450 [0, 1] (show ([0, 1] : List Nat).Perm (List.range 2) by decide) rfl rfl rfl (Nat.le_of_ble_eq_true rfl) ⟨Nat.le_of_ble_eq_true rfl, Nat.le_of_ble_eq_true rfl⟩ ⟨Nat.zero_le _, Nat.zero_le _⟩ dL_isLetter_121 (fun r40 wr40 hw40 => ?_)
  obtain ⟨e_r40, rfl⟩ := hw40
  have hp := hp r40 e_r40
  refine r_ws (I' := [sysB cI cL cP fl pl a L h v pl2 hi sa tx u w me fo fd taken st, [(aA, .inl (cI, 4, .inl f21))]]) rfl ?_
  refine r_ishl C dL_isLetter_124 rfl ?_
  refine r_ior C dL_isLetter_125 rfl ?_
  refine r_top (fun x41 e_x41 => ?_)
  have hp := hp x41 e_x41
  refine r_istore (L' := [(4, .int x41), (9, .int r39), (8, .int 1), (6, .int x32), (5, .int x29), (7, .int r8), (3, .int r2), (0, .ref fl), (1, .int letter), (2, .ref aA)]) C dL_isLetter_126 (by decide) rfl ?_
  refine r_iload C dL_isLetter_128 4 rfl ?_
  refine r_iload C dL_isLetter_130 1 rfl ?_
  refine r_iload C dL_isLetter_132 2 rfl ?_
  refine r_iconst (v := 1) C dL_isLetter_134 (by decide) ?_
  refine r_iadd (z := 2) C dL_isLetter_135 (by decide) ?_
  suffices K : ∀ x43 : Int32, x43 = ((if r39 = 2 then (1) else (0))) → V p l e (rmm 6 131) s m args below meth c 15 D A 0 0 Q [sysB cI cL cP fl pl a L h v pl2 hi sa tx u w me fo fd taken st, [(aA, .inl (cI, 4, .inl f21))]] [(4, .int x41), (9, .int r39), (8, .int 1), (6, .int x32), (5, .int x29), (7, .int r8), (3, .int r2), (0, .ref fl), (1, .int letter), (2, .ref aA)] 144 [.int x43, .int x29] by
    refine r_icmp_ne (tgt := 143) C dL_isLetter_136 (by decide) (fun c42 => ?_) (fun c42 => ?_)
    · refine r_iconst (v := 0) C dL_isLetter_143 (by decide) ?_
      exact K _ (by simp only [if_neg c42])
    · refine r_iconst (v := 1) C dL_isLetter_139 (by decide) ?_
      refine r_goto (tgt := 144) C dL_isLetter_140 (by decide) ?_
      exact K _ (by simp only [if_pos c42])
  intro x43 e_x43
  have hp := hp x43 e_x43
  refine r_iadd C dL_isLetter_144 rfl ?_
  refine r_top (fun x44 e_x44 => ?_)
  have hp := hp x44 e_x44
  refine r_istore (L' := [(5, .int x44), (4, .int x41), (9, .int r39), (8, .int 1), (6, .int x32), (7, .int r8), (3, .int r2), (0, .ref fl), (1, .int letter), (2, .ref aA)]) C dL_isLetter_145 (by decide) rfl ?_
  refine r_iload C dL_isLetter_147 4 rfl ?_
  refine r_iload C dL_isLetter_149 2 rfl ?_
  suffices K : ∀ x46 : Int32, x46 = ((if 0 ≤ r39 then (0) else (1))) → V p l e (rmm 6 131) s m args below meth c 15 D A 0 0 Q [sysB cI cL cP fl pl a L h v pl2 hi sa tx u w me fo fd taken st, [(aA, .inl (cI, 4, .inl f21))]] [(5, .int x44), (4, .int x41), (9, .int r39), (8, .int 1), (6, .int x32), (7, .int r8), (3, .int r2), (0, .ref fl), (1, .int letter), (2, .ref aA)] 159 [.int x46, .int x32] by
    refine r_if_ge (tgt := 158) C dL_isLetter_151 (by decide) (fun c45 => ?_) (fun c45 => ?_)
    · refine r_iconst (v := 0) C dL_isLetter_158 (by decide) ?_
      exact K _ (by simp only [if_pos c45])
    · refine r_iconst (v := 1) C dL_isLetter_154 (by decide) ?_
      refine r_goto (tgt := 159) C dL_isLetter_155 (by decide) ?_
      exact K _ (by simp only [if_neg c45])
  intro x46 e_x46
  have hp := hp x46 e_x46
  refine r_iadd C dL_isLetter_159 rfl ?_
  refine r_top (fun x47 e_x47 => ?_)
  have hp := hp x47 e_x47
  refine r_istore (L' := [(6, .int x47), (5, .int x44), (4, .int x41), (9, .int r39), (8, .int 1), (7, .int r8), (3, .int r2), (0, .ref fl), (1, .int letter), (2, .ref aA)]) C dL_isLetter_160 (by decide) rfl ?_
  refine r_iload C dL_isLetter_162 3 rfl ?_
  refine r_aload_n C dL_isLetter_164 9 rfl ?_
  refine r_iload C dL_isLetter_165 4 rfl ?_
  refine r_iald (z := f21 1) C 1 0 rfl rfl (vp_in_nI (n := 1) (N := 4) (by decide) (by decide)) dL_isLetter_167 (congrArg (f21) (by decide)) ?_
  obtain ⟨h48, hp⟩ := hp
  refine r_icmp_ne (tgt := 196) C dL_isLetter_168 (by decide) (fun c => absurd h48 c) (fun _ => ?_)
  refine r_aload_n C dL_isLetter_171 7 rfl ?_
  refine r_iload_n C dL_isLetter_172 8 rfl ?_
  refine r_bipush (v := 7) C dL_isLetter_173 (by decide) ?_
  obtain ⟨h49, hp⟩ := hp
  refine r_callV (ci := 8) (wc := [sysB cI cL cP fl pl a L h v pl2 hi sa tx u w me fo fd taken st]) (wr := [[(aA, .inl (cI, 4, .inl f21))]]) (st := []) C (m_S_letter l D cI cL cP cJ fl pl a L h v pl2 hi sa tx u w me fo fd taken st letter 7 h49) k_X10_letter t_412 [0, 1] (show ([0, 1] : List Nat).Perm (List.range 2) by decide) rfl rfl rfl (q0 := 0) rfl rfl rfl (Nat.le_of_ble_eq_true rfl) ⟨Nat.le_of_ble_eq_true rfl, Nat.le_of_ble_eq_true rfl⟩ ⟨Nat.zero_le _, Nat.zero_le _⟩ dL_isLetter_175 (fun r50 wr50 hw50 => ?_)
  obtain ⟨e_r50, rfl⟩ := hw50
  have hp := hp r50 e_r50
  refine r_ws (I' := [sysB cI cL cP fl pl a L h v pl2 hi sa tx u w me fo fd taken st, [(aA, .inl (cI, 4, .inl f21))]]) rfl ?_
  refine r_iload C dL_isLetter_178 4 rfl ?_
  refine r_ishr C dL_isLetter_180 rfl ?_
  refine r_iconst (v := 1) C dL_isLetter_181 (by decide) ?_
  refine r_iand C dL_isLetter_182 rfl ?_
  refine r_iconst (v := 1) C dL_isLetter_183 (by decide) ?_
  obtain ⟨hps, hp⟩ := hp
  suffices K :  V p l e (rmm 6 131) s m args below meth c 15 D A 0 0 Q [sysB cI cL cP fl pl a L h v pl2 hi sa tx u w me fo fd taken st, [(aA, .inl (cI, 4, .inl f21))]] [(6, .int x47), (5, .int x44), (4, .int x41), (9, .int r39), (8, .int 1), (7, .int r8), (3, .int r2), (0, .ref fl), (1, .int letter), (2, .ref aA)] 198 [] by
    have hp := hps
    refine r_icmp_ne (tgt := 198) C dL_isLetter_184 (by decide) (fun c51 => ?_) (fun c51 => ?_)
    · exact K 
    · have hp := hp.1 c51
      refine r_iload C dL_isLetter_187 3 rfl ?_
      refine r_iload C dL_isLetter_189 4 rfl ?_
      refine r_iconst (v := 1) C dL_isLetter_191 (by decide) ?_
      refine r_iadd (z := 2) C dL_isLetter_192 (by decide) ?_
      have h52 := hp
      refine r_icmp_eq (tgt := 198) C dL_isLetter_193 (by decide) (fun _ => ?_) (fun c => absurd h52 c)
      exact K 
  skip
  refine r_iinc (v := 2) (L' := [(8, .int 2), (6, .int x47), (5, .int x44), (4, .int x41), (9, .int r39), (7, .int r8), (3, .int r2), (0, .ref fl), (1, .int letter), (2, .ref aA)]) C dL_isLetter_198 4 rfl (by decide) (by decide) rfl ?_
  refine r_goto (tgt := 101) C dL_isLetter_201 (by decide) ?_
  refine r_iload C dL_isLetter_101 0 rfl ?_
  refine r_iconst (v := 4) C dL_isLetter_103 (by decide) ?_
  refine r_icmp_ge (tgt := 204) C dL_isLetter_104 (by decide) (fun c => absurd c (by decide)) (fun _ => ?_)
  refine r_aload_n C dL_isLetter_107 7 rfl ?_
  refine r_iload_n C dL_isLetter_108 8 rfl ?_
  refine r_iload C dL_isLetter_109 0 rfl ?_
  obtain ⟨h53, hp⟩ := hp
  refine r_callV (ci := 8) (wc := [sysB cI cL cP fl pl a L h v pl2 hi sa tx u w me fo fd taken st]) (wr := [[(aA, .inl (cI, 4, .inl f21))]]) (st := []) C (m_S_layer l D cI cL cP cJ fl pl a L h v pl2 hi sa tx u w me fo fd taken st letter 2 h53) k_X10_layer t_440 [0, 1] (show ([0, 1] : List Nat).Perm (List.range 2) by decide) rfl rfl rfl (q0 := 0) rfl rfl rfl (Nat.le_of_ble_eq_true rfl) ⟨Nat.le_of_ble_eq_true rfl, Nat.le_of_ble_eq_true rfl⟩ ⟨Nat.zero_le _, Nat.zero_le _⟩ dL_isLetter_111 (fun r54 wr54 hw54 => ?_)
  obtain ⟨e_r54, rfl⟩ := hw54
  have hp := hp r54 e_r54
  refine r_ws (I' := [sysB cI cL cP fl pl a L h v pl2 hi sa tx u w me fo fd taken st, [(aA, .inl (cI, 4, .inl f21))]]) rfl ?_
  refine r_istore (L' := [(9, .int r54), (8, .int 2), (6, .int x47), (5, .int x44), (4, .int x41), (7, .int r8), (3, .int r2), (0, .ref fl), (1, .int letter), (2, .ref aA)]) C dL_isLetter_114 (by decide) rfl ?_
  refine r_iload C dL_isLetter_116 4 rfl ?_
  refine r_iconst (v := 1) C dL_isLetter_118 (by decide) ?_
  refine r_iload C dL_isLetter_119 0 rfl ?_
  refine r_callS (wc := []) (wr := [sysB cI cL cP fl pl a L h v pl2 hi sa tx u w me fo fd taken st, [(aA, .inl (cI, 4, .inl f21))]]) (st := [.int 1, .int x41]) C (m_L_size l D cI cL cP cJ r54) k_L_size t_450 [0, 1] (show ([0, 1] : List Nat).Perm (List.range 2) by decide) rfl rfl rfl (Nat.le_of_ble_eq_true rfl) ⟨Nat.le_of_ble_eq_true rfl, Nat.le_of_ble_eq_true rfl⟩ ⟨Nat.zero_le _, Nat.zero_le _⟩ dL_isLetter_121 (fun r55 wr55 hw55 => ?_)
  obtain ⟨e_r55, rfl⟩ := hw55
  have hp := hp r55 e_r55
  refine r_ws (I' := [sysB cI cL cP fl pl a L h v pl2 hi sa tx u w me fo fd taken st, [(aA, .inl (cI, 4, .inl f21))]]) rfl ?_
  refine r_ishl C dL_isLetter_124 rfl ?_
  refine r_ior C dL_isLetter_125 rfl ?_
  refine r_top (fun x56 e_x56 => ?_)
  have hp := hp x56 e_x56
  refine r_istore (L' := [(4, .int x56), (9, .int r54), (8, .int 2), (6, .int x47), (5, .int x44), (7, .int r8), (3, .int r2), (0, .ref fl), (1, .int letter), (2, .ref aA)]) C dL_isLetter_126 (by decide) rfl ?_
  refine r_iload C dL_isLetter_128 4 rfl ?_
  refine r_iload C dL_isLetter_130 1 rfl ?_
  refine r_iload C dL_isLetter_132 2 rfl ?_
  refine r_iconst (v := 1) C dL_isLetter_134 (by decide) ?_
  refine r_iadd (z := 3) C dL_isLetter_135 (by decide) ?_
  suffices K : ∀ x58 : Int32, x58 = ((if r54 = 3 then (1) else (0))) → V p l e (rmm 6 131) s m args below meth c 15 D A 0 0 Q [sysB cI cL cP fl pl a L h v pl2 hi sa tx u w me fo fd taken st, [(aA, .inl (cI, 4, .inl f21))]] [(4, .int x56), (9, .int r54), (8, .int 2), (6, .int x47), (5, .int x44), (7, .int r8), (3, .int r2), (0, .ref fl), (1, .int letter), (2, .ref aA)] 144 [.int x58, .int x44] by
    refine r_icmp_ne (tgt := 143) C dL_isLetter_136 (by decide) (fun c57 => ?_) (fun c57 => ?_)
    · refine r_iconst (v := 0) C dL_isLetter_143 (by decide) ?_
      exact K _ (by simp only [if_neg c57])
    · refine r_iconst (v := 1) C dL_isLetter_139 (by decide) ?_
      refine r_goto (tgt := 144) C dL_isLetter_140 (by decide) ?_
      exact K _ (by simp only [if_pos c57])
  intro x58 e_x58
  have hp := hp x58 e_x58
  refine r_iadd C dL_isLetter_144 rfl ?_
  refine r_top (fun x59 e_x59 => ?_)
  have hp := hp x59 e_x59
  refine r_istore (L' := [(5, .int x59), (4, .int x56), (9, .int r54), (8, .int 2), (6, .int x47), (7, .int r8), (3, .int r2), (0, .ref fl), (1, .int letter), (2, .ref aA)]) C dL_isLetter_145 (by decide) rfl ?_
  refine r_iload C dL_isLetter_147 4 rfl ?_
  refine r_iload C dL_isLetter_149 2 rfl ?_
  suffices K : ∀ x61 : Int32, x61 = ((if 0 ≤ r54 then (0) else (1))) → V p l e (rmm 6 131) s m args below meth c 15 D A 0 0 Q [sysB cI cL cP fl pl a L h v pl2 hi sa tx u w me fo fd taken st, [(aA, .inl (cI, 4, .inl f21))]] [(5, .int x59), (4, .int x56), (9, .int r54), (8, .int 2), (6, .int x47), (7, .int r8), (3, .int r2), (0, .ref fl), (1, .int letter), (2, .ref aA)] 159 [.int x61, .int x47] by
    refine r_if_ge (tgt := 158) C dL_isLetter_151 (by decide) (fun c60 => ?_) (fun c60 => ?_)
    · refine r_iconst (v := 0) C dL_isLetter_158 (by decide) ?_
      exact K _ (by simp only [if_pos c60])
    · refine r_iconst (v := 1) C dL_isLetter_154 (by decide) ?_
      refine r_goto (tgt := 159) C dL_isLetter_155 (by decide) ?_
      exact K _ (by simp only [if_neg c60])
  intro x61 e_x61
  have hp := hp x61 e_x61
  refine r_iadd C dL_isLetter_159 rfl ?_
  refine r_top (fun x62 e_x62 => ?_)
  have hp := hp x62 e_x62
  refine r_istore (L' := [(6, .int x62), (5, .int x59), (4, .int x56), (9, .int r54), (8, .int 2), (7, .int r8), (3, .int r2), (0, .ref fl), (1, .int letter), (2, .ref aA)]) C dL_isLetter_160 (by decide) rfl ?_
  refine r_iload C dL_isLetter_162 3 rfl ?_
  refine r_aload_n C dL_isLetter_164 9 rfl ?_
  refine r_iload C dL_isLetter_165 4 rfl ?_
  refine r_iald (z := f21 2) C 1 0 rfl rfl (vp_in_nI (n := 2) (N := 4) (by decide) (by decide)) dL_isLetter_167 (congrArg (f21) (by decide)) ?_
  obtain ⟨h63, hp⟩ := hp
  refine r_icmp_ne (tgt := 196) C dL_isLetter_168 (by decide) (fun c => absurd h63 c) (fun _ => ?_)
  refine r_aload_n C dL_isLetter_171 7 rfl ?_
  refine r_iload_n C dL_isLetter_172 8 rfl ?_
  refine r_bipush (v := 7) C dL_isLetter_173 (by decide) ?_
  obtain ⟨h64, hp⟩ := hp
  refine r_callV (ci := 8) (wc := [sysB cI cL cP fl pl a L h v pl2 hi sa tx u w me fo fd taken st]) (wr := [[(aA, .inl (cI, 4, .inl f21))]]) (st := []) C (m_S_letter l D cI cL cP cJ fl pl a L h v pl2 hi sa tx u w me fo fd taken st letter 7 h64) k_X10_letter t_412 [0, 1] (show ([0, 1] : List Nat).Perm (List.range 2) by decide) rfl rfl rfl (q0 := 0) rfl rfl rfl (Nat.le_of_ble_eq_true rfl) ⟨Nat.le_of_ble_eq_true rfl, Nat.le_of_ble_eq_true rfl⟩ ⟨Nat.zero_le _, Nat.zero_le _⟩ dL_isLetter_175 (fun r65 wr65 hw65 => ?_)
  obtain ⟨e_r65, rfl⟩ := hw65
  have hp := hp r65 e_r65
  refine r_ws (I' := [sysB cI cL cP fl pl a L h v pl2 hi sa tx u w me fo fd taken st, [(aA, .inl (cI, 4, .inl f21))]]) rfl ?_
  refine r_iload C dL_isLetter_178 4 rfl ?_
  refine r_ishr C dL_isLetter_180 rfl ?_
  refine r_iconst (v := 1) C dL_isLetter_181 (by decide) ?_
  refine r_iand C dL_isLetter_182 rfl ?_
  refine r_iconst (v := 1) C dL_isLetter_183 (by decide) ?_
  obtain ⟨hps, hp⟩ := hp
  suffices K :  V p l e (rmm 6 131) s m args below meth c 15 D A 0 0 Q [sysB cI cL cP fl pl a L h v pl2 hi sa tx u w me fo fd taken st, [(aA, .inl (cI, 4, .inl f21))]] [(6, .int x62), (5, .int x59), (4, .int x56), (9, .int r54), (8, .int 2), (7, .int r8), (3, .int r2), (0, .ref fl), (1, .int letter), (2, .ref aA)] 198 [] by
    have hp := hps
    refine r_icmp_ne (tgt := 198) C dL_isLetter_184 (by decide) (fun c66 => ?_) (fun c66 => ?_)
    · exact K 
    · have hp := hp.1 c66
      refine r_iload C dL_isLetter_187 3 rfl ?_
      refine r_iload C dL_isLetter_189 4 rfl ?_
      refine r_iconst (v := 1) C dL_isLetter_191 (by decide) ?_
      refine r_iadd (z := 3) C dL_isLetter_192 (by decide) ?_
      have h67 := hp
      refine r_icmp_eq (tgt := 198) C dL_isLetter_193 (by decide) (fun _ => ?_) (fun c => absurd h67 c)
      exact K 
  skip
  refine r_iinc (v := 3) (L' := [(8, .int 3), (6, .int x62), (5, .int x59), (4, .int x56), (9, .int r54), (7, .int r8), (3, .int r2), (0, .ref fl), (1, .int letter), (2, .ref aA)]) C dL_isLetter_198 4 rfl (by decide) (by decide) rfl ?_
  refine r_goto (tgt := 101) C dL_isLetter_201 (by decide) ?_
  refine r_iload C dL_isLetter_101 0 rfl ?_
  refine r_iconst (v := 4) C dL_isLetter_103 (by decide) ?_
  refine r_icmp_ge (tgt := 204) C dL_isLetter_104 (by decide) (fun c => absurd c (by decide)) (fun _ => ?_)
  refine r_aload_n C dL_isLetter_107 7 rfl ?_
  refine r_iload_n C dL_isLetter_108 8 rfl ?_
  refine r_iload C dL_isLetter_109 0 rfl ?_
  obtain ⟨h68, hp⟩ := hp
  refine r_callV (ci := 8) (wc := [sysB cI cL cP fl pl a L h v pl2 hi sa tx u w me fo fd taken st]) (wr := [[(aA, .inl (cI, 4, .inl f21))]]) (st := []) C (m_S_layer l D cI cL cP cJ fl pl a L h v pl2 hi sa tx u w me fo fd taken st letter 3 h68) k_X10_layer t_440 [0, 1] (show ([0, 1] : List Nat).Perm (List.range 2) by decide) rfl rfl rfl (q0 := 0) rfl rfl rfl (Nat.le_of_ble_eq_true rfl) ⟨Nat.le_of_ble_eq_true rfl, Nat.le_of_ble_eq_true rfl⟩ ⟨Nat.zero_le _, Nat.zero_le _⟩ dL_isLetter_111 (fun r69 wr69 hw69 => ?_)
  obtain ⟨e_r69, rfl⟩ := hw69
  have hp := hp r69 e_r69
  refine r_ws (I' := [sysB cI cL cP fl pl a L h v pl2 hi sa tx u w me fo fd taken st, [(aA, .inl (cI, 4, .inl f21))]]) rfl ?_
  refine r_istore (L' := [(9, .int r69), (8, .int 3), (6, .int x62), (5, .int x59), (4, .int x56), (7, .int r8), (3, .int r2), (0, .ref fl), (1, .int letter), (2, .ref aA)]) C dL_isLetter_114 (by decide) rfl ?_
  refine r_iload C dL_isLetter_116 4 rfl ?_
  refine r_iconst (v := 1) C dL_isLetter_118 (by decide) ?_
  refine r_iload C dL_isLetter_119 0 rfl ?_
  refine r_callS (wc := []) (wr := [sysB cI cL cP fl pl a L h v pl2 hi sa tx u w me fo fd taken st, [(aA, .inl (cI, 4, .inl f21))]]) (st := [.int 1, .int x56]) C (m_L_size l D cI cL cP cJ r69) k_L_size t_450 [0, 1] (show ([0, 1] : List Nat).Perm (List.range 2) by decide) rfl rfl rfl (Nat.le_of_ble_eq_true rfl) ⟨Nat.le_of_ble_eq_true rfl, Nat.le_of_ble_eq_true rfl⟩ ⟨Nat.zero_le _, Nat.zero_le _⟩ dL_isLetter_121 (fun r70 wr70 hw70 => ?_)
  obtain ⟨e_r70, rfl⟩ := hw70
  have hp := hp r70 e_r70
  refine r_ws (I' := [sysB cI cL cP fl pl a L h v pl2 hi sa tx u w me fo fd taken st, [(aA, .inl (cI, 4, .inl f21))]]) rfl ?_
  refine r_ishl C dL_isLetter_124 rfl ?_
  refine r_ior C dL_isLetter_125 rfl ?_
  refine r_top (fun x71 e_x71 => ?_)
  have hp := hp x71 e_x71
  refine r_istore (L' := [(4, .int x71), (9, .int r69), (8, .int 3), (6, .int x62), (5, .int x59), (7, .int r8), (3, .int r2), (0, .ref fl), (1, .int letter), (2, .ref aA)]) C dL_isLetter_126 (by decide) rfl ?_
  refine r_iload C dL_isLetter_128 4 rfl ?_
  refine r_iload C dL_isLetter_130 1 rfl ?_
  refine r_iload C dL_isLetter_132 2 rfl ?_
  refine r_iconst (v := 1) C dL_isLetter_134 (by decide) ?_
  refine r_iadd (z := 4) C dL_isLetter_135 (by decide) ?_
  suffices K : ∀ x73 : Int32, x73 = ((if r69 = 4 then (1) else (0))) → V p l e (rmm 6 131) s m args below meth c 15 D A 0 0 Q [sysB cI cL cP fl pl a L h v pl2 hi sa tx u w me fo fd taken st, [(aA, .inl (cI, 4, .inl f21))]] [(4, .int x71), (9, .int r69), (8, .int 3), (6, .int x62), (5, .int x59), (7, .int r8), (3, .int r2), (0, .ref fl), (1, .int letter), (2, .ref aA)] 144 [.int x73, .int x59] by
    refine r_icmp_ne (tgt := 143) C dL_isLetter_136 (by decide) (fun c72 => ?_) (fun c72 => ?_)
    · refine r_iconst (v := 0) C dL_isLetter_143 (by decide) ?_
      exact K _ (by simp only [if_neg c72])
    · refine r_iconst (v := 1) C dL_isLetter_139 (by decide) ?_
      refine r_goto (tgt := 144) C dL_isLetter_140 (by decide) ?_
      exact K _ (by simp only [if_pos c72])
  intro x73 e_x73
  have hp := hp x73 e_x73
  refine r_iadd C dL_isLetter_144 rfl ?_
  refine r_top (fun x74 e_x74 => ?_)
  have hp := hp x74 e_x74
  refine r_istore (L' := [(5, .int x74), (4, .int x71), (9, .int r69), (8, .int 3), (6, .int x62), (7, .int r8), (3, .int r2), (0, .ref fl), (1, .int letter), (2, .ref aA)]) C dL_isLetter_145 (by decide) rfl ?_
  refine r_iload C dL_isLetter_147 4 rfl ?_
  refine r_iload C dL_isLetter_149 2 rfl ?_
  suffices K : ∀ x76 : Int32, x76 = ((if 0 ≤ r69 then (0) else (1))) → V p l e (rmm 6 131) s m args below meth c 15 D A 0 0 Q [sysB cI cL cP fl pl a L h v pl2 hi sa tx u w me fo fd taken st, [(aA, .inl (cI, 4, .inl f21))]] [(5, .int x74), (4, .int x71), (9, .int r69), (8, .int 3), (6, .int x62), (7, .int r8), (3, .int r2), (0, .ref fl), (1, .int letter), (2, .ref aA)] 159 [.int x76, .int x62] by
    refine r_if_ge (tgt := 158) C dL_isLetter_151 (by decide) (fun c75 => ?_) (fun c75 => ?_)
    · refine r_iconst (v := 0) C dL_isLetter_158 (by decide) ?_
      exact K _ (by simp only [if_pos c75])
    · refine r_iconst (v := 1) C dL_isLetter_154 (by decide) ?_
      refine r_goto (tgt := 159) C dL_isLetter_155 (by decide) ?_
      exact K _ (by simp only [if_neg c75])
  intro x76 e_x76
  have hp := hp x76 e_x76
  refine r_iadd C dL_isLetter_159 rfl ?_
  refine r_top (fun x77 e_x77 => ?_)
  have hp := hp x77 e_x77
  refine r_istore (L' := [(6, .int x77), (5, .int x74), (4, .int x71), (9, .int r69), (8, .int 3), (7, .int r8), (3, .int r2), (0, .ref fl), (1, .int letter), (2, .ref aA)]) C dL_isLetter_160 (by decide) rfl ?_
  refine r_iload C dL_isLetter_162 3 rfl ?_
  refine r_aload_n C dL_isLetter_164 9 rfl ?_
  refine r_iload C dL_isLetter_165 4 rfl ?_
  refine r_iald (z := f21 3) C 1 0 rfl rfl (vp_in_nI (n := 3) (N := 4) (by decide) (by decide)) dL_isLetter_167 (congrArg (f21) (by decide)) ?_
  obtain ⟨h78, hp⟩ := hp
  refine r_icmp_ne (tgt := 196) C dL_isLetter_168 (by decide) (fun c => absurd h78 c) (fun _ => ?_)
  refine r_aload_n C dL_isLetter_171 7 rfl ?_
  refine r_iload_n C dL_isLetter_172 8 rfl ?_
  refine r_bipush (v := 7) C dL_isLetter_173 (by decide) ?_
  obtain ⟨h79, hp⟩ := hp
  refine r_callV (ci := 8) (wc := [sysB cI cL cP fl pl a L h v pl2 hi sa tx u w me fo fd taken st]) (wr := [[(aA, .inl (cI, 4, .inl f21))]]) (st := []) C (m_S_letter l D cI cL cP cJ fl pl a L h v pl2 hi sa tx u w me fo fd taken st letter 7 h79) k_X10_letter t_412 [0, 1] (show ([0, 1] : List Nat).Perm (List.range 2) by decide) rfl rfl rfl (q0 := 0) rfl rfl rfl (Nat.le_of_ble_eq_true rfl) ⟨Nat.le_of_ble_eq_true rfl, Nat.le_of_ble_eq_true rfl⟩ ⟨Nat.zero_le _, Nat.zero_le _⟩ dL_isLetter_175 (fun r80 wr80 hw80 => ?_)
  obtain ⟨e_r80, rfl⟩ := hw80
  have hp := hp r80 e_r80
  refine r_ws (I' := [sysB cI cL cP fl pl a L h v pl2 hi sa tx u w me fo fd taken st, [(aA, .inl (cI, 4, .inl f21))]]) rfl ?_
  refine r_iload C dL_isLetter_178 4 rfl ?_
  refine r_ishr C dL_isLetter_180 rfl ?_
  refine r_iconst (v := 1) C dL_isLetter_181 (by decide) ?_
  refine r_iand C dL_isLetter_182 rfl ?_
  refine r_iconst (v := 1) C dL_isLetter_183 (by decide) ?_
  obtain ⟨hps, hp⟩ := hp
  suffices K :  V p l e (rmm 6 131) s m args below meth c 15 D A 0 0 Q [sysB cI cL cP fl pl a L h v pl2 hi sa tx u w me fo fd taken st, [(aA, .inl (cI, 4, .inl f21))]] [(6, .int x77), (5, .int x74), (4, .int x71), (9, .int r69), (8, .int 3), (7, .int r8), (3, .int r2), (0, .ref fl), (1, .int letter), (2, .ref aA)] 198 [] by
    have hp := hps
    refine r_icmp_ne (tgt := 198) C dL_isLetter_184 (by decide) (fun c81 => ?_) (fun c81 => ?_)
    · exact K 
    · have hp := hp.1 c81
      refine r_iload C dL_isLetter_187 3 rfl ?_
      refine r_iload C dL_isLetter_189 4 rfl ?_
      refine r_iconst (v := 1) C dL_isLetter_191 (by decide) ?_
      refine r_iadd (z := 4) C dL_isLetter_192 (by decide) ?_
      have h82 := hp
      refine r_icmp_eq (tgt := 198) C dL_isLetter_193 (by decide) (fun _ => ?_) (fun c => absurd h82 c)
      exact K 
  skip
  refine r_iinc (v := 4) (L' := [(8, .int 4), (6, .int x77), (5, .int x74), (4, .int x71), (9, .int r69), (7, .int r8), (3, .int r2), (0, .ref fl), (1, .int letter), (2, .ref aA)]) C dL_isLetter_198 4 rfl (by decide) (by decide) rfl ?_
  refine r_goto (tgt := 101) C dL_isLetter_201 (by decide) ?_
  refine r_iload C dL_isLetter_101 0 rfl ?_
  refine r_iconst (v := 4) C dL_isLetter_103 (by decide) ?_
  refine r_icmp_ge (tgt := 204) C dL_isLetter_104 (by decide) (fun _ => ?_) (fun c => absurd c (by decide))
  refine r_iload C dL_isLetter_204 3 rfl ?_
  refine r_bipush (v := 30) C dL_isLetter_206 (by decide) ?_
  obtain ⟨h83, hp⟩ := hp
  refine r_icmp_ne (tgt := 267) C dL_isLetter_208 (by decide) (fun c => absurd h83 c) (fun _ => ?_)
  refine r_iload_n C dL_isLetter_211 6 rfl ?_
  refine r_aload_n C dL_isLetter_212 9 rfl ?_
  refine r_callS (wc := [[(aA, .inl (cI, 4, .inl f21))]]) (wr := [sysB cI cL cP fl pl a L h v pl2 hi sa tx u w me fo fd taken st]) (st := [.int r2]) C (m_L_length l D cI cL cP cJ aA f21) k_L_length t_453 [1, 0] (show ([1, 0] : List Nat).Perm (List.range 2) by decide) rfl rfl rfl (Nat.le_of_ble_eq_true rfl) ⟨Nat.le_of_ble_eq_true rfl, Nat.le_of_ble_eq_true rfl⟩ ⟨Nat.zero_le _, Nat.zero_le _⟩ dL_isLetter_213 (fun r84 wr84 hw84 => ?_)
  obtain ⟨e_r84, rfl⟩ := hw84
  have hp := hp r84 e_r84
  refine r_ws (I' := [[(aA, .inl (cI, 4, .inl f21))], sysB cI cL cP fl pl a L h v pl2 hi sa tx u w me fo fd taken st]) rfl ?_
  obtain ⟨h85, hp⟩ := hp
  refine r_icmp_ne (tgt := 267) C dL_isLetter_216 (by decide) (fun c => absurd h85 c) (fun _ => ?_)
  refine r_aload_n C dL_isLetter_219 7 rfl ?_
  refine r_iload_n C dL_isLetter_220 8 rfl ?_
  refine r_iconst (v := 1) C dL_isLetter_221 (by decide) ?_
  obtain ⟨h86, hp⟩ := hp
  refine r_callV (ci := 8) (wc := [sysB cI cL cP fl pl a L h v pl2 hi sa tx u w me fo fd taken st]) (wr := [[(aA, .inl (cI, 4, .inl f21))]]) (st := []) C (m_S_letter l D cI cL cP cJ fl pl a L h v pl2 hi sa tx u w me fo fd taken st letter 1 h86) k_X10_letter t_412 [1, 0] (show ([1, 0] : List Nat).Perm (List.range 2) by decide) rfl rfl rfl (q0 := 0) rfl rfl rfl (Nat.le_of_ble_eq_true rfl) ⟨Nat.le_of_ble_eq_true rfl, Nat.le_of_ble_eq_true rfl⟩ ⟨Nat.zero_le _, Nat.zero_le _⟩ dL_isLetter_222 (fun r87 wr87 hw87 => ?_)
  obtain ⟨e_r87, rfl⟩ := hw87
  have hp := hp r87 e_r87
  refine r_ws (I' := [sysB cI cL cP fl pl a L h v pl2 hi sa tx u w me fo fd taken st, [(aA, .inl (cI, 4, .inl f21))]]) rfl ?_
  refine r_iload_n C dL_isLetter_225 6 rfl ?_
  obtain ⟨h88, hp⟩ := hp
  refine r_icmp_ne (tgt := 267) C dL_isLetter_226 (by decide) (fun c => absurd h88 c) (fun _ => ?_)
  refine r_aload_n C dL_isLetter_229 7 rfl ?_
  refine r_iload_n C dL_isLetter_230 8 rfl ?_
  refine r_iconst (v := 5) C dL_isLetter_231 (by decide) ?_
  obtain ⟨h89, hp⟩ := hp
  refine r_callV (ci := 8) (wc := [sysB cI cL cP fl pl a L h v pl2 hi sa tx u w me fo fd taken st]) (wr := [[(aA, .inl (cI, 4, .inl f21))]]) (st := []) C (m_S_letter l D cI cL cP cJ fl pl a L h v pl2 hi sa tx u w me fo fd taken st letter 5 h89) k_X10_letter t_412 [0, 1] (show ([0, 1] : List Nat).Perm (List.range 2) by decide) rfl rfl rfl (q0 := 0) rfl rfl rfl (Nat.le_of_ble_eq_true rfl) ⟨Nat.le_of_ble_eq_true rfl, Nat.le_of_ble_eq_true rfl⟩ ⟨Nat.zero_le _, Nat.zero_le _⟩ dL_isLetter_232 (fun r90 wr90 hw90 => ?_)
  obtain ⟨e_r90, rfl⟩ := hw90
  have hp := hp r90 e_r90
  refine r_ws (I' := [sysB cI cL cP fl pl a L h v pl2 hi sa tx u w me fo fd taken st, [(aA, .inl (cI, 4, .inl f21))]]) rfl ?_
  refine r_iload C dL_isLetter_235 2 rfl ?_
  obtain ⟨h91, hp⟩ := hp
  refine r_icmp_ne (tgt := 267) C dL_isLetter_237 (by decide) (fun c => absurd h91 c) (fun _ => ?_)
  refine r_aload_n C dL_isLetter_240 7 rfl ?_
  refine r_iload_n C dL_isLetter_241 8 rfl ?_
  refine r_bipush (v := 6) C dL_isLetter_242 (by decide) ?_
  obtain ⟨h92, hp⟩ := hp
  refine r_callV (ci := 8) (wc := [sysB cI cL cP fl pl a L h v pl2 hi sa tx u w me fo fd taken st]) (wr := [[(aA, .inl (cI, 4, .inl f21))]]) (st := []) C (m_S_letter l D cI cL cP cJ fl pl a L h v pl2 hi sa tx u w me fo fd taken st letter 6 h92) k_X10_letter t_412 [0, 1] (show ([0, 1] : List Nat).Perm (List.range 2) by decide) rfl rfl rfl (q0 := 0) rfl rfl rfl (Nat.le_of_ble_eq_true rfl) ⟨Nat.le_of_ble_eq_true rfl, Nat.le_of_ble_eq_true rfl⟩ ⟨Nat.zero_le _, Nat.zero_le _⟩ dL_isLetter_244 (fun r93 wr93 hw93 => ?_)
  obtain ⟨e_r93, rfl⟩ := hw93
  have hp := hp r93 e_r93
  refine r_ws (I' := [sysB cI cL cP fl pl a L h v pl2 hi sa tx u w me fo fd taken st, [(aA, .inl (cI, 4, .inl f21))]]) rfl ?_
  refine r_iload C dL_isLetter_247 1 rfl ?_
  obtain ⟨h94, hp⟩ := hp
  refine r_icmp_ne (tgt := 267) C dL_isLetter_249 (by decide) (fun c => absurd h94 c) (fun _ => ?_)
  refine r_iload C dL_isLetter_252 5 rfl ?_
  refine r_iload_n C dL_isLetter_254 6 rfl ?_
  obtain ⟨h95, hp⟩ := hp
  refine r_icmp_lt (tgt := 267) C dL_isLetter_255 (by decide) (fun c => absurd c h95) (fun _ => ?_)
  refine r_iload C dL_isLetter_258 5 rfl ?_
  refine r_iload_n C dL_isLetter_260 6 rfl ?_
  refine r_isub C dL_isLetter_261 rfl ?_
  refine r_iconst (v := 2) C dL_isLetter_262 (by decide) ?_
  refine r_irem C dL_isLetter_263 (by decide) rfl ?_
  obtain ⟨h96, hp⟩ := hp
  refine r_if_eq (tgt := 269) C dL_isLetter_264 (by decide) (fun _ => ?_) (fun c => absurd h96 c)
  refine r_iconst (v := 0) C dL_isLetter_269 (by decide) ?_
  refine r_istore (L' := [(8, .int 0), (6, .int x77), (5, .int x74), (4, .int x71), (9, .int r69), (7, .int r8), (3, .int r2), (0, .ref fl), (1, .int letter), (2, .ref aA)]) C dL_isLetter_270 (by decide) rfl ?_
  refine r_iconst (v := 0) C dL_isLetter_272 (by decide) ?_
  refine r_istore (L' := [(9, .int 0), (8, .int 0), (6, .int x77), (5, .int x74), (4, .int x71), (7, .int r8), (3, .int r2), (0, .ref fl), (1, .int letter), (2, .ref aA)]) C dL_isLetter_273 (by decide) rfl ?_
  refine r_iconst (v := 0) C dL_isLetter_275 (by decide) ?_
  refine r_istore (L' := [(10, .int 0), (9, .int 0), (8, .int 0), (6, .int x77), (5, .int x74), (4, .int x71), (7, .int r8), (3, .int r2), (0, .ref fl), (1, .int letter), (2, .ref aA)]) C dL_isLetter_276 (by decide) rfl ?_
  refine r_iload C dL_isLetter_278 0 rfl ?_
  refine r_iconst (v := 4) C dL_isLetter_280 (by decide) ?_
  refine r_icmp_ge (tgt := 454) C dL_isLetter_281 (by decide) (fun c => absurd c (by decide)) (fun _ => ?_)
  refine r_aload_n C dL_isLetter_284 10 rfl ?_
  refine r_iload C dL_isLetter_285 0 rfl ?_
  obtain ⟨h97, hp⟩ := hp
  refine r_callS (wc := [[(aA, .inl (cI, 4, .inl f21))]]) (wr := [sysB cI cL cP fl pl a L h v pl2 hi sa tx u w me fo fd taken st]) (st := []) C (m_L_folds l D cI cL cP cJ aA f21 0 h97) k_L_folds t_437 [1, 0] (show ([1, 0] : List Nat).Perm (List.range 2) by decide) rfl rfl rfl (Nat.le_of_ble_eq_true rfl) ⟨Nat.le_of_ble_eq_true rfl, Nat.le_of_ble_eq_true rfl⟩ ⟨Nat.zero_le _, Nat.zero_le _⟩ dL_isLetter_287 (fun r98 wr98 hw98 => ?_)
  obtain rfl := hw98
  obtain ⟨g99, e_g99⟩ : ∃ z : Nat → Int32, z = F_L_folds f21 0 := ⟨_, rfl⟩
  have hp := hp g99 e_g99
  refine r_ws (I' := [[(aA, .inl (cI, 4, .inl g99))], sysB cI cL cP fl pl a L h v pl2 hi sa tx u w me fo fd taken st]) (by rw [e_g99]; rfl) ?_
  refine r_aload_n C dL_isLetter_290 10 rfl ?_
  refine r_callS (wc := [[(aA, .inl (cI, 4, .inl g99))]]) (wr := [sysB cI cL cP fl pl a L h v pl2 hi sa tx u w me fo fd taken st]) (st := []) C (m_L_length l D cI cL cP cJ aA g99) k_L_length t_453 [0, 1] (show ([0, 1] : List Nat).Perm (List.range 2) by decide) rfl rfl rfl (Nat.le_of_ble_eq_true rfl) ⟨Nat.le_of_ble_eq_true rfl, Nat.le_of_ble_eq_true rfl⟩ ⟨Nat.zero_le _, Nat.zero_le _⟩ dL_isLetter_291 (fun r100 wr100 hw100 => ?_)
  obtain ⟨e_r100, rfl⟩ := hw100
  have hp := hp r100 e_r100
  refine r_ws (I' := [[(aA, .inl (cI, 4, .inl g99))], sysB cI cL cP fl pl a L h v pl2 hi sa tx u w me fo fd taken st]) rfl ?_
  refine r_istore (L' := [(11, .int r100), (10, .int 0), (9, .int 0), (8, .int 0), (6, .int x77), (5, .int x74), (4, .int x71), (7, .int r8), (3, .int r2), (0, .ref fl), (1, .int letter), (2, .ref aA)]) C dL_isLetter_294 (by decide) rfl ?_
  refine r_aload_n C dL_isLetter_296 11 rfl ?_
  refine r_iload C dL_isLetter_297 1 rfl ?_
  obtain ⟨h101, hp⟩ := hp
  refine r_callS (wc := [[(aA, .inl (cI, 4, .inl g99))]]) (wr := [sysB cI cL cP fl pl a L h v pl2 hi sa tx u w me fo fd taken st]) (st := []) C (m_L_folds l D cI cL cP cJ aA g99 0 h101) k_L_folds t_437 [0, 1] (show ([0, 1] : List Nat).Perm (List.range 2) by decide) rfl rfl rfl (Nat.le_of_ble_eq_true rfl) ⟨Nat.le_of_ble_eq_true rfl, Nat.le_of_ble_eq_true rfl⟩ ⟨Nat.zero_le _, Nat.zero_le _⟩ dL_isLetter_299 (fun r102 wr102 hw102 => ?_)
  obtain rfl := hw102
  obtain ⟨g103, e_g103⟩ : ∃ z : Nat → Int32, z = F_L_folds g99 0 := ⟨_, rfl⟩
  have hp := hp g103 e_g103
  refine r_ws (I' := [[(aA, .inl (cI, 4, .inl g103))], sysB cI cL cP fl pl a L h v pl2 hi sa tx u w me fo fd taken st]) (by rw [e_g103]; rfl) ?_
  refine r_iload C dL_isLetter_302 3 rfl ?_
  refine r_iload C dL_isLetter_304 0 rfl ?_
  refine r_iload_n C dL_isLetter_306 8 rfl ?_
  suffices K : ∀ x105 : Int32, x105 = ((if r2 ≤ r100 then (0) else (1))) → V p l e (rmm 6 131) s m args below meth c 15 D A 0 0 Q [[(aA, .inl (cI, 4, .inl g103))], sysB cI cL cP fl pl a L h v pl2 hi sa tx u w me fo fd taken st] [(11, .int r100), (10, .int 0), (9, .int 0), (8, .int 0), (6, .int x77), (5, .int x74), (4, .int x71), (7, .int r8), (3, .int r2), (0, .ref fl), (1, .int letter), (2, .ref aA)] 318 [.int x105, .int 0] by
    refine r_icmp_ge (tgt := 317) C dL_isLetter_307 (by decide) (fun c104 => ?_) (fun c104 => ?_)
    · refine r_iconst (v := 0) C dL_isLetter_317 (by decide) ?_
      exact K _ (by simp only [if_pos c104])
    · refine r_iconst (v := 1) C dL_isLetter_310 (by decide) ?_
      refine r_iload C dL_isLetter_311 1 rfl ?_
      refine r_ishl (z := 1) C dL_isLetter_313 (by decide) ?_
      refine r_goto (tgt := 318) C dL_isLetter_314 (by decide) ?_
      exact K _ (by simp only [if_neg c104])
  intro x105 e_x105
  have hp := hp x105 e_x105
  refine r_ior C dL_isLetter_318 rfl ?_
  refine r_top (fun x106 e_x106 => ?_)
  have hp := hp x106 e_x106
  refine r_istore (L' := [(8, .int x106), (11, .int r100), (10, .int 0), (9, .int 0), (6, .int x77), (5, .int x74), (4, .int x71), (7, .int r8), (3, .int r2), (0, .ref fl), (1, .int letter), (2, .ref aA)]) C dL_isLetter_319 (by decide) rfl ?_
  refine r_aload_n C dL_isLetter_321 9 rfl ?_
  refine r_iload_n C dL_isLetter_322 10 rfl ?_
  refine r_bipush (v := 7) C dL_isLetter_323 (by decide) ?_
  obtain ⟨h107, hp⟩ := hp
  refine r_callV (ci := 8) (wc := [sysB cI cL cP fl pl a L h v pl2 hi sa tx u w me fo fd taken st]) (wr := [[(aA, .inl (cI, 4, .inl g103))]]) (st := []) C (m_S_letter l D cI cL cP cJ fl pl a L h v pl2 hi sa tx u w me fo fd taken st letter 7 h107) k_X10_letter t_412 [1, 0] (show ([1, 0] : List Nat).Perm (List.range 2) by decide) rfl rfl rfl (q0 := 0) rfl rfl rfl (Nat.le_of_ble_eq_true rfl) ⟨Nat.le_of_ble_eq_true rfl, Nat.le_of_ble_eq_true rfl⟩ ⟨Nat.zero_le _, Nat.zero_le _⟩ dL_isLetter_325 (fun r108 wr108 hw108 => ?_)
  obtain ⟨e_r108, rfl⟩ := hw108
  have hp := hp r108 e_r108
  refine r_ws (I' := [sysB cI cL cP fl pl a L h v pl2 hi sa tx u w me fo fd taken st, [(aA, .inl (cI, 4, .inl g103))]]) rfl ?_
  refine r_istore (L' := [(12, .int r108), (8, .int x106), (11, .int r100), (10, .int 0), (9, .int 0), (6, .int x77), (5, .int x74), (4, .int x71), (7, .int r8), (3, .int r2), (0, .ref fl), (1, .int letter), (2, .ref aA)]) C dL_isLetter_328 (by decide) rfl ?_
  refine r_iload C dL_isLetter_330 3 rfl ?_
  refine r_if_ne (tgt := 351) C dL_isLetter_332 (by decide) (fun c => absurd c (by decide)) (fun _ => ?_)
  refine r_iload C dL_isLetter_335 0 rfl ?_
  refine r_iconst (v := 1) C dL_isLetter_337 (by decide) ?_
  refine r_iand C dL_isLetter_338 rfl ?_
  refine r_iconst (v := 1) C dL_isLetter_339 (by decide) ?_
  suffices K : ∀ x110 : Int32, x110 = ((if (r108 &&& 1) = 1 then (1) else (0))) → V p l e (rmm 6 131) s m args below meth c 15 D A 0 0 Q [sysB cI cL cP fl pl a L h v pl2 hi sa tx u w me fo fd taken st, [(aA, .inl (cI, 4, .inl g103))]] [(12, .int r108), (8, .int x106), (11, .int r100), (10, .int 0), (9, .int 0), (6, .int x77), (5, .int x74), (4, .int x71), (7, .int r8), (3, .int r2), (0, .ref fl), (1, .int letter), (2, .ref aA)] 368 [.int x110] by
    refine r_icmp_ne (tgt := 347) C dL_isLetter_340 (by decide) (fun c109 => ?_) (fun c109 => ?_)
    · refine r_iconst (v := 0) C dL_isLetter_347 (by decide) ?_
      refine r_goto (tgt := 368) C dL_isLetter_348 (by decide) ?_
      exact K _ (by simp only [if_neg c109])
    · refine r_iconst (v := 1) C dL_isLetter_343 (by decide) ?_
      refine r_goto (tgt := 368) C dL_isLetter_344 (by decide) ?_
      exact K _ (by simp only [if_pos c109])
  intro x110 e_x110
  have hp := hp x110 e_x110
  refine r_istore (L' := [(13, .int x110), (12, .int r108), (8, .int x106), (11, .int r100), (10, .int 0), (9, .int 0), (6, .int x77), (5, .int x74), (4, .int x71), (7, .int r8), (3, .int r2), (0, .ref fl), (1, .int letter), (2, .ref aA)]) C dL_isLetter_368 (by decide) rfl ?_
  refine r_iload C dL_isLetter_370 9 rfl ?_
  refine r_bipush (v := 60) C dL_isLetter_372 (by decide) ?_
  suffices K : ∀ x113 : Int32, x113 = ((if r8 = 60 then (1) else ((if x110 = 0 then (0) else (2))))) → V p l e (rmm 6 131) s m args below meth c 15 D A 0 0 Q [sysB cI cL cP fl pl a L h v pl2 hi sa tx u w me fo fd taken st, [(aA, .inl (cI, 4, .inl g103))]] [(13, .int x110), (12, .int r108), (8, .int x106), (11, .int r100), (10, .int 0), (9, .int 0), (6, .int x77), (5, .int x74), (4, .int x71), (7, .int r8), (3, .int r2), (0, .ref fl), (1, .int letter), (2, .ref aA)] 391 [.int x113] by
    refine r_icmp_ne (tgt := 381) C dL_isLetter_374 (by decide) (fun c111 => ?_) (fun c111 => ?_)
    · refine r_iload C dL_isLetter_381 0 rfl ?_
      refine r_if_eq (tgt := 390) C dL_isLetter_383 (by decide) (fun c112 => ?_) (fun c112 => ?_)
      · refine r_iconst (v := 0) C dL_isLetter_390 (by decide) ?_
        exact K _ (by simp only [if_neg c111, if_pos c112])
      · refine r_iconst (v := 2) C dL_isLetter_386 (by decide) ?_
        refine r_goto (tgt := 391) C dL_isLetter_387 (by decide) ?_
        exact K _ (by simp only [if_neg c111, if_neg c112])
    · refine r_iconst (v := 1) C dL_isLetter_377 (by decide) ?_
      refine r_goto (tgt := 391) C dL_isLetter_378 (by decide) ?_
      exact K _ (by simp only [if_pos c111])
  intro x113 e_x113
  have hp := hp x113 e_x113
  refine r_istore (L' := [(14, .int x113), (13, .int x110), (12, .int r108), (8, .int x106), (11, .int r100), (10, .int 0), (9, .int 0), (6, .int x77), (5, .int x74), (4, .int x71), (7, .int r8), (3, .int r2), (0, .ref fl), (1, .int letter), (2, .ref aA)]) C dL_isLetter_391 (by decide) rfl ?_
  refine r_iload C dL_isLetter_393 6 rfl ?_
  refine r_iload C dL_isLetter_395 0 rfl ?_
  suffices K : ∀ x115 : Int32, x115 = ((if x113 ≤ 0 then (0) else (1))) → V p l e (rmm 6 131) s m args below meth c 15 D A 0 0 Q [sysB cI cL cP fl pl a L h v pl2 hi sa tx u w me fo fd taken st, [(aA, .inl (cI, 4, .inl g103))]] [(14, .int x113), (13, .int x110), (12, .int r108), (8, .int x106), (11, .int r100), (10, .int 0), (9, .int 0), (6, .int x77), (5, .int x74), (4, .int x71), (7, .int r8), (3, .int r2), (0, .ref fl), (1, .int letter), (2, .ref aA)] 408 [.int x115, .int 0] by
    refine r_if_le (tgt := 407) C dL_isLetter_397 (by decide) (fun c114 => ?_) (fun c114 => ?_)
    · refine r_iconst (v := 0) C dL_isLetter_407 (by decide) ?_
      exact K _ (by simp only [if_pos c114])
    · refine r_iconst (v := 1) C dL_isLetter_400 (by decide) ?_
      refine r_iload C dL_isLetter_401 5 rfl ?_
      refine r_ishl (z := 1) C dL_isLetter_403 (by decide) ?_
      refine r_goto (tgt := 408) C dL_isLetter_404 (by decide) ?_
      exact K _ (by simp only [if_neg c114])
  intro x115 e_x115
  have hp := hp x115 e_x115
  refine r_ior C dL_isLetter_408 rfl ?_
  refine r_top (fun x116 e_x116 => ?_)
  have hp := hp x116 e_x116
  refine r_istore (L' := [(9, .int x116), (14, .int x113), (13, .int x110), (12, .int r108), (8, .int x106), (11, .int r100), (10, .int 0), (6, .int x77), (5, .int x74), (4, .int x71), (7, .int r8), (3, .int r2), (0, .ref fl), (1, .int letter), (2, .ref aA)]) C dL_isLetter_409 (by decide) rfl ?_
  refine r_aload_n C dL_isLetter_411 12 rfl ?_
  refine r_iload_n C dL_isLetter_412 13 rfl ?_
  refine r_iload C dL_isLetter_413 6 rfl ?_
  obtain ⟨h117, hp⟩ := hp
  refine r_callV (ci := 8) (wc := [sysB cI cL cP fl pl a L h v pl2 hi sa tx u w me fo fd taken st]) (wr := [[(aA, .inl (cI, 4, .inl g103))]]) (st := []) C (m_S_ifFolded l D cI cL cP cJ fl pl a L h v pl2 hi sa tx u w me fo fd taken st letter 0 h117) k_X10_ifFolded t_456 [0, 1] (show ([0, 1] : List Nat).Perm (List.range 2) by decide) rfl rfl rfl (q0 := 0) rfl rfl rfl (Nat.le_of_ble_eq_true rfl) ⟨Nat.le_of_ble_eq_true rfl, Nat.le_of_ble_eq_true rfl⟩ ⟨Nat.zero_le _, Nat.zero_le _⟩ dL_isLetter_415 (fun r118 wr118 hw118 => ?_)
  obtain ⟨e_r118, rfl⟩ := hw118
  have hp := hp r118 e_r118
  refine r_ws (I' := [sysB cI cL cP fl pl a L h v pl2 hi sa tx u w me fo fd taken st, [(aA, .inl (cI, 4, .inl g103))]]) rfl ?_
  refine r_iload C dL_isLetter_418 5 rfl ?_
  obtain ⟨h119, hp⟩ := hp
  refine r_icmp_ne (tgt := 446) C dL_isLetter_420 (by decide) (fun c => absurd h119 c) (fun _ => ?_)
  refine r_iload C dL_isLetter_423 5 rfl ?_
  refine r_iload_n C dL_isLetter_425 11 rfl ?_
  refine r_isub C dL_isLetter_426 rfl ?_
  refine r_callS (wc := []) (wr := [sysB cI cL cP fl pl a L h v pl2 hi sa tx u w me fo fd taken st, [(aA, .inl (cI, 4, .inl g103))]]) (st := []) C (m_L_size l D cI cL cP cJ (r100 - r2)) k_L_size t_450 [0, 1] (show ([0, 1] : List Nat).Perm (List.range 2) by decide) rfl rfl rfl (Nat.le_of_ble_eq_true rfl) ⟨Nat.le_of_ble_eq_true rfl, Nat.le_of_ble_eq_true rfl⟩ ⟨Nat.zero_le _, Nat.zero_le _⟩ dL_isLetter_427 (fun r120 wr120 hw120 => ?_)
  obtain ⟨e_r120, rfl⟩ := hw120
  have hp := hp r120 e_r120
  refine r_ws (I' := [sysB cI cL cP fl pl a L h v pl2 hi sa tx u w me fo fd taken st, [(aA, .inl (cI, 4, .inl g103))]]) rfl ?_
  refine r_iconst (v := 1) C dL_isLetter_430 (by decide) ?_
  obtain ⟨h121, hp⟩ := hp
  refine r_icmp_ne (tgt := 446) C dL_isLetter_431 (by decide) (fun c => absurd h121 c) (fun _ => ?_)
  refine r_aload_n C dL_isLetter_434 12 rfl ?_
  refine r_iload_n C dL_isLetter_435 13 rfl ?_
  refine r_iload C dL_isLetter_436 6 rfl ?_
  obtain ⟨h122, hp⟩ := hp
  refine r_callV (ci := 8) (wc := [sysB cI cL cP fl pl a L h v pl2 hi sa tx u w me fo fd taken st]) (wr := [[(aA, .inl (cI, 4, .inl g103))]]) (st := []) C (m_S_why l D cI cL cP cJ fl pl a L h v pl2 hi sa tx u w me fo fd taken st letter 0 h122) k_X10_why t_466 [0, 1] (show ([0, 1] : List Nat).Perm (List.range 2) by decide) rfl rfl rfl (q0 := 0) rfl rfl rfl (Nat.le_of_ble_eq_true rfl) ⟨Nat.le_of_ble_eq_true rfl, Nat.le_of_ble_eq_true rfl⟩ ⟨Nat.zero_le _, Nat.zero_le _⟩ dL_isLetter_438 (fun r123 wr123 hw123 => ?_)
  obtain ⟨e_r123, rfl⟩ := hw123
  have hp := hp r123 e_r123
  refine r_ws (I' := [sysB cI cL cP fl pl a L h v pl2 hi sa tx u w me fo fd taken st, [(aA, .inl (cI, 4, .inl g103))]]) rfl ?_
  refine r_iload C dL_isLetter_441 1 rfl ?_
  obtain ⟨h124, hp⟩ := hp
  refine r_icmp_eq (tgt := 448) C dL_isLetter_443 (by decide) (fun _ => ?_) (fun c => absurd h124 c)
  refine r_iinc (v := 1) (L' := [(10, .int 1), (9, .int x116), (14, .int x113), (13, .int x110), (12, .int r108), (8, .int x106), (11, .int r100), (6, .int x77), (5, .int x74), (4, .int x71), (7, .int r8), (3, .int r2), (0, .ref fl), (1, .int letter), (2, .ref aA)]) C dL_isLetter_448 6 rfl (by decide) (by decide) rfl ?_
  refine r_goto (tgt := 278) C dL_isLetter_451 (by decide) ?_
  refine r_iload C dL_isLetter_278 0 rfl ?_
  refine r_iconst (v := 4) C dL_isLetter_280 (by decide) ?_
  refine r_icmp_ge (tgt := 454) C dL_isLetter_281 (by decide) (fun c => absurd c (by decide)) (fun _ => ?_)
  refine r_aload_n C dL_isLetter_284 14 rfl ?_
  refine r_iload C dL_isLetter_285 0 rfl ?_
  obtain ⟨h125, hp⟩ := hp
  refine r_callS (wc := [[(aA, .inl (cI, 4, .inl g103))]]) (wr := [sysB cI cL cP fl pl a L h v pl2 hi sa tx u w me fo fd taken st]) (st := []) C (m_L_folds l D cI cL cP cJ aA g103 1 h125) k_L_folds t_437 [1, 0] (show ([1, 0] : List Nat).Perm (List.range 2) by decide) rfl rfl rfl (Nat.le_of_ble_eq_true rfl) ⟨Nat.le_of_ble_eq_true rfl, Nat.le_of_ble_eq_true rfl⟩ ⟨Nat.zero_le _, Nat.zero_le _⟩ dL_isLetter_287 (fun r126 wr126 hw126 => ?_)
  obtain rfl := hw126
  obtain ⟨g127, e_g127⟩ : ∃ z : Nat → Int32, z = F_L_folds g103 1 := ⟨_, rfl⟩
  have hp := hp g127 e_g127
  refine r_ws (I' := [[(aA, .inl (cI, 4, .inl g127))], sysB cI cL cP fl pl a L h v pl2 hi sa tx u w me fo fd taken st]) (by rw [e_g127]; rfl) ?_
  refine r_aload_n C dL_isLetter_290 14 rfl ?_
  refine r_callS (wc := [[(aA, .inl (cI, 4, .inl g127))]]) (wr := [sysB cI cL cP fl pl a L h v pl2 hi sa tx u w me fo fd taken st]) (st := []) C (m_L_length l D cI cL cP cJ aA g127) k_L_length t_453 [0, 1] (show ([0, 1] : List Nat).Perm (List.range 2) by decide) rfl rfl rfl (Nat.le_of_ble_eq_true rfl) ⟨Nat.le_of_ble_eq_true rfl, Nat.le_of_ble_eq_true rfl⟩ ⟨Nat.zero_le _, Nat.zero_le _⟩ dL_isLetter_291 (fun r128 wr128 hw128 => ?_)
  obtain ⟨e_r128, rfl⟩ := hw128
  have hp := hp r128 e_r128
  refine r_ws (I' := [[(aA, .inl (cI, 4, .inl g127))], sysB cI cL cP fl pl a L h v pl2 hi sa tx u w me fo fd taken st]) rfl ?_
  refine r_istore (L' := [(11, .int r128), (10, .int 1), (9, .int x116), (14, .int x113), (13, .int x110), (12, .int r108), (8, .int x106), (6, .int x77), (5, .int x74), (4, .int x71), (7, .int r8), (3, .int r2), (0, .ref fl), (1, .int letter), (2, .ref aA)]) C dL_isLetter_294 (by decide) rfl ?_
  refine r_aload_n C dL_isLetter_296 14 rfl ?_
  refine r_iload C dL_isLetter_297 1 rfl ?_
  obtain ⟨h129, hp⟩ := hp
  refine r_callS (wc := [[(aA, .inl (cI, 4, .inl g127))]]) (wr := [sysB cI cL cP fl pl a L h v pl2 hi sa tx u w me fo fd taken st]) (st := []) C (m_L_folds l D cI cL cP cJ aA g127 1 h129) k_L_folds t_437 [0, 1] (show ([0, 1] : List Nat).Perm (List.range 2) by decide) rfl rfl rfl (Nat.le_of_ble_eq_true rfl) ⟨Nat.le_of_ble_eq_true rfl, Nat.le_of_ble_eq_true rfl⟩ ⟨Nat.zero_le _, Nat.zero_le _⟩ dL_isLetter_299 (fun r130 wr130 hw130 => ?_)
  obtain rfl := hw130
  obtain ⟨g131, e_g131⟩ : ∃ z : Nat → Int32, z = F_L_folds g127 1 := ⟨_, rfl⟩
  have hp := hp g131 e_g131
  refine r_ws (I' := [[(aA, .inl (cI, 4, .inl g131))], sysB cI cL cP fl pl a L h v pl2 hi sa tx u w me fo fd taken st]) (by rw [e_g131]; rfl) ?_
  refine r_iload C dL_isLetter_302 6 rfl ?_
  refine r_iload C dL_isLetter_304 0 rfl ?_
  refine r_iload_n C dL_isLetter_306 11 rfl ?_
  suffices K : ∀ x133 : Int32, x133 = ((if r2 ≤ r128 then (0) else (2))) → V p l e (rmm 6 131) s m args below meth c 15 D A 0 0 Q [[(aA, .inl (cI, 4, .inl g131))], sysB cI cL cP fl pl a L h v pl2 hi sa tx u w me fo fd taken st] [(11, .int r128), (10, .int 1), (9, .int x116), (14, .int x113), (13, .int x110), (12, .int r108), (8, .int x106), (6, .int x77), (5, .int x74), (4, .int x71), (7, .int r8), (3, .int r2), (0, .ref fl), (1, .int letter), (2, .ref aA)] 318 [.int x133, .int x106] by
    refine r_icmp_ge (tgt := 317) C dL_isLetter_307 (by decide) (fun c132 => ?_) (fun c132 => ?_)
    · refine r_iconst (v := 0) C dL_isLetter_317 (by decide) ?_
      exact K _ (by simp only [if_pos c132])
    · refine r_iconst (v := 1) C dL_isLetter_310 (by decide) ?_
      refine r_iload C dL_isLetter_311 1 rfl ?_
      refine r_ishl (z := 2) C dL_isLetter_313 (by decide) ?_
      refine r_goto (tgt := 318) C dL_isLetter_314 (by decide) ?_
      exact K _ (by simp only [if_neg c132])
  intro x133 e_x133
  have hp := hp x133 e_x133
  refine r_ior C dL_isLetter_318 rfl ?_
  refine r_top (fun x134 e_x134 => ?_)
  have hp := hp x134 e_x134
  refine r_istore (L' := [(8, .int x134), (11, .int r128), (10, .int 1), (9, .int x116), (14, .int x113), (13, .int x110), (12, .int r108), (6, .int x77), (5, .int x74), (4, .int x71), (7, .int r8), (3, .int r2), (0, .ref fl), (1, .int letter), (2, .ref aA)]) C dL_isLetter_319 (by decide) rfl ?_
  refine r_aload_n C dL_isLetter_321 12 rfl ?_
  refine r_iload_n C dL_isLetter_322 13 rfl ?_
  refine r_bipush (v := 7) C dL_isLetter_323 (by decide) ?_
  obtain ⟨h135, hp⟩ := hp
  refine r_callV (ci := 8) (wc := [sysB cI cL cP fl pl a L h v pl2 hi sa tx u w me fo fd taken st]) (wr := [[(aA, .inl (cI, 4, .inl g131))]]) (st := []) C (m_S_letter l D cI cL cP cJ fl pl a L h v pl2 hi sa tx u w me fo fd taken st letter 7 h135) k_X10_letter t_412 [1, 0] (show ([1, 0] : List Nat).Perm (List.range 2) by decide) rfl rfl rfl (q0 := 0) rfl rfl rfl (Nat.le_of_ble_eq_true rfl) ⟨Nat.le_of_ble_eq_true rfl, Nat.le_of_ble_eq_true rfl⟩ ⟨Nat.zero_le _, Nat.zero_le _⟩ dL_isLetter_325 (fun r136 wr136 hw136 => ?_)
  obtain ⟨e_r136, rfl⟩ := hw136
  have hp := hp r136 e_r136
  refine r_ws (I' := [sysB cI cL cP fl pl a L h v pl2 hi sa tx u w me fo fd taken st, [(aA, .inl (cI, 4, .inl g131))]]) rfl ?_
  refine r_istore (L' := [(12, .int r136), (8, .int x134), (11, .int r128), (10, .int 1), (9, .int x116), (14, .int x113), (13, .int x110), (6, .int x77), (5, .int x74), (4, .int x71), (7, .int r8), (3, .int r2), (0, .ref fl), (1, .int letter), (2, .ref aA)]) C dL_isLetter_328 (by decide) rfl ?_
  refine r_iload C dL_isLetter_330 3 rfl ?_
  refine r_if_ne (tgt := 351) C dL_isLetter_332 (by decide) (fun _ => ?_) (fun c => absurd c (by decide))
  refine r_iload C dL_isLetter_351 0 rfl ?_
  refine r_iload C dL_isLetter_353 3 rfl ?_
  refine r_iconst (v := 1) C dL_isLetter_355 (by decide) ?_
  refine r_isub (z := 0) C dL_isLetter_356 (by decide) ?_
  refine r_ishr C dL_isLetter_357 rfl ?_
  refine r_iconst (v := 3) C dL_isLetter_358 (by decide) ?_
  refine r_iand C dL_isLetter_359 rfl ?_
  suffices K : ∀ x138 : Int32, x138 = ((if ((r136 >>> ((0 : Int32) &&& 31)) &&& 3) = 0 then (0) else (1))) → V p l e (rmm 6 131) s m args below meth c 15 D A 0 0 Q [sysB cI cL cP fl pl a L h v pl2 hi sa tx u w me fo fd taken st, [(aA, .inl (cI, 4, .inl g131))]] [(12, .int r136), (8, .int x134), (11, .int r128), (10, .int 1), (9, .int x116), (14, .int x113), (13, .int x110), (6, .int x77), (5, .int x74), (4, .int x71), (7, .int r8), (3, .int r2), (0, .ref fl), (1, .int letter), (2, .ref aA)] 368 [.int x138] by
    refine r_if_eq (tgt := 367) C dL_isLetter_360 (by decide) (fun c137 => ?_) (fun c137 => ?_)
    · refine r_iconst (v := 0) C dL_isLetter_367 (by decide) ?_
      exact K _ (by simp only [if_pos c137])
    · refine r_iconst (v := 1) C dL_isLetter_363 (by decide) ?_
      refine r_goto (tgt := 368) C dL_isLetter_364 (by decide) ?_
      exact K _ (by simp only [if_neg c137])
  intro x138 e_x138
  have hp := hp x138 e_x138
  refine r_istore (L' := [(13, .int x138), (12, .int r136), (8, .int x134), (11, .int r128), (10, .int 1), (9, .int x116), (14, .int x113), (6, .int x77), (5, .int x74), (4, .int x71), (7, .int r8), (3, .int r2), (0, .ref fl), (1, .int letter), (2, .ref aA)]) C dL_isLetter_368 (by decide) rfl ?_
  refine r_iload C dL_isLetter_370 10 rfl ?_
  refine r_bipush (v := 60) C dL_isLetter_372 (by decide) ?_
  suffices K : ∀ x141 : Int32, x141 = ((if r8 = 60 then (1) else ((if x138 = 0 then (0) else (2))))) → V p l e (rmm 6 131) s m args below meth c 15 D A 0 0 Q [sysB cI cL cP fl pl a L h v pl2 hi sa tx u w me fo fd taken st, [(aA, .inl (cI, 4, .inl g131))]] [(13, .int x138), (12, .int r136), (8, .int x134), (11, .int r128), (10, .int 1), (9, .int x116), (14, .int x113), (6, .int x77), (5, .int x74), (4, .int x71), (7, .int r8), (3, .int r2), (0, .ref fl), (1, .int letter), (2, .ref aA)] 391 [.int x141] by
    refine r_icmp_ne (tgt := 381) C dL_isLetter_374 (by decide) (fun c139 => ?_) (fun c139 => ?_)
    · refine r_iload C dL_isLetter_381 0 rfl ?_
      refine r_if_eq (tgt := 390) C dL_isLetter_383 (by decide) (fun c140 => ?_) (fun c140 => ?_)
      · refine r_iconst (v := 0) C dL_isLetter_390 (by decide) ?_
        exact K _ (by simp only [if_neg c139, if_pos c140])
      · refine r_iconst (v := 2) C dL_isLetter_386 (by decide) ?_
        refine r_goto (tgt := 391) C dL_isLetter_387 (by decide) ?_
        exact K _ (by simp only [if_neg c139, if_neg c140])
    · refine r_iconst (v := 1) C dL_isLetter_377 (by decide) ?_
      refine r_goto (tgt := 391) C dL_isLetter_378 (by decide) ?_
      exact K _ (by simp only [if_pos c139])
  intro x141 e_x141
  have hp := hp x141 e_x141
  refine r_istore (L' := [(14, .int x141), (13, .int x138), (12, .int r136), (8, .int x134), (11, .int r128), (10, .int 1), (9, .int x116), (6, .int x77), (5, .int x74), (4, .int x71), (7, .int r8), (3, .int r2), (0, .ref fl), (1, .int letter), (2, .ref aA)]) C dL_isLetter_391 (by decide) rfl ?_
  refine r_iload C dL_isLetter_393 6 rfl ?_
  refine r_iload C dL_isLetter_395 0 rfl ?_
  suffices K : ∀ x143 : Int32, x143 = ((if x141 ≤ 0 then (0) else (2))) → V p l e (rmm 6 131) s m args below meth c 15 D A 0 0 Q [sysB cI cL cP fl pl a L h v pl2 hi sa tx u w me fo fd taken st, [(aA, .inl (cI, 4, .inl g131))]] [(14, .int x141), (13, .int x138), (12, .int r136), (8, .int x134), (11, .int r128), (10, .int 1), (9, .int x116), (6, .int x77), (5, .int x74), (4, .int x71), (7, .int r8), (3, .int r2), (0, .ref fl), (1, .int letter), (2, .ref aA)] 408 [.int x143, .int x116] by
    refine r_if_le (tgt := 407) C dL_isLetter_397 (by decide) (fun c142 => ?_) (fun c142 => ?_)
    · refine r_iconst (v := 0) C dL_isLetter_407 (by decide) ?_
      exact K _ (by simp only [if_pos c142])
    · refine r_iconst (v := 1) C dL_isLetter_400 (by decide) ?_
      refine r_iload C dL_isLetter_401 5 rfl ?_
      refine r_ishl (z := 2) C dL_isLetter_403 (by decide) ?_
      refine r_goto (tgt := 408) C dL_isLetter_404 (by decide) ?_
      exact K _ (by simp only [if_neg c142])
  intro x143 e_x143
  have hp := hp x143 e_x143
  refine r_ior C dL_isLetter_408 rfl ?_
  refine r_top (fun x144 e_x144 => ?_)
  have hp := hp x144 e_x144
  refine r_istore (L' := [(9, .int x144), (14, .int x141), (13, .int x138), (12, .int r136), (8, .int x134), (11, .int r128), (10, .int 1), (6, .int x77), (5, .int x74), (4, .int x71), (7, .int r8), (3, .int r2), (0, .ref fl), (1, .int letter), (2, .ref aA)]) C dL_isLetter_409 (by decide) rfl ?_
  refine r_aload_n C dL_isLetter_411 12 rfl ?_
  refine r_iload_n C dL_isLetter_412 13 rfl ?_
  refine r_iload C dL_isLetter_413 6 rfl ?_
  obtain ⟨h145, hp⟩ := hp
  refine r_callV (ci := 8) (wc := [sysB cI cL cP fl pl a L h v pl2 hi sa tx u w me fo fd taken st]) (wr := [[(aA, .inl (cI, 4, .inl g131))]]) (st := []) C (m_S_ifFolded l D cI cL cP cJ fl pl a L h v pl2 hi sa tx u w me fo fd taken st letter 1 h145) k_X10_ifFolded t_456 [0, 1] (show ([0, 1] : List Nat).Perm (List.range 2) by decide) rfl rfl rfl (q0 := 0) rfl rfl rfl (Nat.le_of_ble_eq_true rfl) ⟨Nat.le_of_ble_eq_true rfl, Nat.le_of_ble_eq_true rfl⟩ ⟨Nat.zero_le _, Nat.zero_le _⟩ dL_isLetter_415 (fun r146 wr146 hw146 => ?_)
  obtain ⟨e_r146, rfl⟩ := hw146
  have hp := hp r146 e_r146
  refine r_ws (I' := [sysB cI cL cP fl pl a L h v pl2 hi sa tx u w me fo fd taken st, [(aA, .inl (cI, 4, .inl g131))]]) rfl ?_
  refine r_iload C dL_isLetter_418 5 rfl ?_
  obtain ⟨h147, hp⟩ := hp
  refine r_icmp_ne (tgt := 446) C dL_isLetter_420 (by decide) (fun c => absurd h147 c) (fun _ => ?_)
  refine r_iload C dL_isLetter_423 5 rfl ?_
  refine r_iload_n C dL_isLetter_425 11 rfl ?_
  refine r_isub C dL_isLetter_426 rfl ?_
  refine r_callS (wc := []) (wr := [sysB cI cL cP fl pl a L h v pl2 hi sa tx u w me fo fd taken st, [(aA, .inl (cI, 4, .inl g131))]]) (st := []) C (m_L_size l D cI cL cP cJ (r128 - r2)) k_L_size t_450 [0, 1] (show ([0, 1] : List Nat).Perm (List.range 2) by decide) rfl rfl rfl (Nat.le_of_ble_eq_true rfl) ⟨Nat.le_of_ble_eq_true rfl, Nat.le_of_ble_eq_true rfl⟩ ⟨Nat.zero_le _, Nat.zero_le _⟩ dL_isLetter_427 (fun r148 wr148 hw148 => ?_)
  obtain ⟨e_r148, rfl⟩ := hw148
  have hp := hp r148 e_r148
  refine r_ws (I' := [sysB cI cL cP fl pl a L h v pl2 hi sa tx u w me fo fd taken st, [(aA, .inl (cI, 4, .inl g131))]]) rfl ?_
  refine r_iconst (v := 1) C dL_isLetter_430 (by decide) ?_
  obtain ⟨h149, hp⟩ := hp
  refine r_icmp_ne (tgt := 446) C dL_isLetter_431 (by decide) (fun c => absurd h149 c) (fun _ => ?_)
  refine r_aload_n C dL_isLetter_434 12 rfl ?_
  refine r_iload_n C dL_isLetter_435 13 rfl ?_
  refine r_iload C dL_isLetter_436 6 rfl ?_
  obtain ⟨h150, hp⟩ := hp
  refine r_callV (ci := 8) (wc := [sysB cI cL cP fl pl a L h v pl2 hi sa tx u w me fo fd taken st]) (wr := [[(aA, .inl (cI, 4, .inl g131))]]) (st := []) C (m_S_why l D cI cL cP cJ fl pl a L h v pl2 hi sa tx u w me fo fd taken st letter 1 h150) k_X10_why t_466 [0, 1] (show ([0, 1] : List Nat).Perm (List.range 2) by decide) rfl rfl rfl (q0 := 0) rfl rfl rfl (Nat.le_of_ble_eq_true rfl) ⟨Nat.le_of_ble_eq_true rfl, Nat.le_of_ble_eq_true rfl⟩ ⟨Nat.zero_le _, Nat.zero_le _⟩ dL_isLetter_438 (fun r151 wr151 hw151 => ?_)
  obtain ⟨e_r151, rfl⟩ := hw151
  have hp := hp r151 e_r151
  refine r_ws (I' := [sysB cI cL cP fl pl a L h v pl2 hi sa tx u w me fo fd taken st, [(aA, .inl (cI, 4, .inl g131))]]) rfl ?_
  refine r_iload C dL_isLetter_441 1 rfl ?_
  obtain ⟨h152, hp⟩ := hp
  refine r_icmp_eq (tgt := 448) C dL_isLetter_443 (by decide) (fun _ => ?_) (fun c => absurd h152 c)
  refine r_iinc (v := 2) (L' := [(10, .int 2), (9, .int x144), (14, .int x141), (13, .int x138), (12, .int r136), (8, .int x134), (11, .int r128), (6, .int x77), (5, .int x74), (4, .int x71), (7, .int r8), (3, .int r2), (0, .ref fl), (1, .int letter), (2, .ref aA)]) C dL_isLetter_448 6 rfl (by decide) (by decide) rfl ?_
  refine r_goto (tgt := 278) C dL_isLetter_451 (by decide) ?_
  refine r_iload C dL_isLetter_278 0 rfl ?_
  refine r_iconst (v := 4) C dL_isLetter_280 (by decide) ?_
  refine r_icmp_ge (tgt := 454) C dL_isLetter_281 (by decide) (fun c => absurd c (by decide)) (fun _ => ?_)
  refine r_aload_n C dL_isLetter_284 14 rfl ?_
  refine r_iload C dL_isLetter_285 0 rfl ?_
  obtain ⟨h153, hp⟩ := hp
  refine r_callS (wc := [[(aA, .inl (cI, 4, .inl g131))]]) (wr := [sysB cI cL cP fl pl a L h v pl2 hi sa tx u w me fo fd taken st]) (st := []) C (m_L_folds l D cI cL cP cJ aA g131 2 h153) k_L_folds t_437 [1, 0] (show ([1, 0] : List Nat).Perm (List.range 2) by decide) rfl rfl rfl (Nat.le_of_ble_eq_true rfl) ⟨Nat.le_of_ble_eq_true rfl, Nat.le_of_ble_eq_true rfl⟩ ⟨Nat.zero_le _, Nat.zero_le _⟩ dL_isLetter_287 (fun r154 wr154 hw154 => ?_)
  obtain rfl := hw154
  obtain ⟨g155, e_g155⟩ : ∃ z : Nat → Int32, z = F_L_folds g131 2 := ⟨_, rfl⟩
  have hp := hp g155 e_g155
  refine r_ws (I' := [[(aA, .inl (cI, 4, .inl g155))], sysB cI cL cP fl pl a L h v pl2 hi sa tx u w me fo fd taken st]) (by rw [e_g155]; rfl) ?_
  refine r_aload_n C dL_isLetter_290 14 rfl ?_
  refine r_callS (wc := [[(aA, .inl (cI, 4, .inl g155))]]) (wr := [sysB cI cL cP fl pl a L h v pl2 hi sa tx u w me fo fd taken st]) (st := []) C (m_L_length l D cI cL cP cJ aA g155) k_L_length t_453 [0, 1] (show ([0, 1] : List Nat).Perm (List.range 2) by decide) rfl rfl rfl (Nat.le_of_ble_eq_true rfl) ⟨Nat.le_of_ble_eq_true rfl, Nat.le_of_ble_eq_true rfl⟩ ⟨Nat.zero_le _, Nat.zero_le _⟩ dL_isLetter_291 (fun r156 wr156 hw156 => ?_)
  obtain ⟨e_r156, rfl⟩ := hw156
  have hp := hp r156 e_r156
  refine r_ws (I' := [[(aA, .inl (cI, 4, .inl g155))], sysB cI cL cP fl pl a L h v pl2 hi sa tx u w me fo fd taken st]) rfl ?_
  refine r_istore (L' := [(11, .int r156), (10, .int 2), (9, .int x144), (14, .int x141), (13, .int x138), (12, .int r136), (8, .int x134), (6, .int x77), (5, .int x74), (4, .int x71), (7, .int r8), (3, .int r2), (0, .ref fl), (1, .int letter), (2, .ref aA)]) C dL_isLetter_294 (by decide) rfl ?_
  refine r_aload_n C dL_isLetter_296 14 rfl ?_
  refine r_iload C dL_isLetter_297 1 rfl ?_
  obtain ⟨h157, hp⟩ := hp
  refine r_callS (wc := [[(aA, .inl (cI, 4, .inl g155))]]) (wr := [sysB cI cL cP fl pl a L h v pl2 hi sa tx u w me fo fd taken st]) (st := []) C (m_L_folds l D cI cL cP cJ aA g155 2 h157) k_L_folds t_437 [0, 1] (show ([0, 1] : List Nat).Perm (List.range 2) by decide) rfl rfl rfl (Nat.le_of_ble_eq_true rfl) ⟨Nat.le_of_ble_eq_true rfl, Nat.le_of_ble_eq_true rfl⟩ ⟨Nat.zero_le _, Nat.zero_le _⟩ dL_isLetter_299 (fun r158 wr158 hw158 => ?_)
  obtain rfl := hw158
  obtain ⟨g159, e_g159⟩ : ∃ z : Nat → Int32, z = F_L_folds g155 2 := ⟨_, rfl⟩
  have hp := hp g159 e_g159
  refine r_ws (I' := [[(aA, .inl (cI, 4, .inl g159))], sysB cI cL cP fl pl a L h v pl2 hi sa tx u w me fo fd taken st]) (by rw [e_g159]; rfl) ?_
  refine r_iload C dL_isLetter_302 6 rfl ?_
  refine r_iload C dL_isLetter_304 0 rfl ?_
  refine r_iload_n C dL_isLetter_306 11 rfl ?_
  suffices K : ∀ x161 : Int32, x161 = ((if r2 ≤ r156 then (0) else (4))) → V p l e (rmm 6 131) s m args below meth c 15 D A 0 0 Q [[(aA, .inl (cI, 4, .inl g159))], sysB cI cL cP fl pl a L h v pl2 hi sa tx u w me fo fd taken st] [(11, .int r156), (10, .int 2), (9, .int x144), (14, .int x141), (13, .int x138), (12, .int r136), (8, .int x134), (6, .int x77), (5, .int x74), (4, .int x71), (7, .int r8), (3, .int r2), (0, .ref fl), (1, .int letter), (2, .ref aA)] 318 [.int x161, .int x134] by
    refine r_icmp_ge (tgt := 317) C dL_isLetter_307 (by decide) (fun c160 => ?_) (fun c160 => ?_)
    · refine r_iconst (v := 0) C dL_isLetter_317 (by decide) ?_
      exact K _ (by simp only [if_pos c160])
    · refine r_iconst (v := 1) C dL_isLetter_310 (by decide) ?_
      refine r_iload C dL_isLetter_311 1 rfl ?_
      refine r_ishl (z := 4) C dL_isLetter_313 (by decide) ?_
      refine r_goto (tgt := 318) C dL_isLetter_314 (by decide) ?_
      exact K _ (by simp only [if_neg c160])
  intro x161 e_x161
  have hp := hp x161 e_x161
  refine r_ior C dL_isLetter_318 rfl ?_
  refine r_top (fun x162 e_x162 => ?_)
  have hp := hp x162 e_x162
  refine r_istore (L' := [(8, .int x162), (11, .int r156), (10, .int 2), (9, .int x144), (14, .int x141), (13, .int x138), (12, .int r136), (6, .int x77), (5, .int x74), (4, .int x71), (7, .int r8), (3, .int r2), (0, .ref fl), (1, .int letter), (2, .ref aA)]) C dL_isLetter_319 (by decide) rfl ?_
  refine r_aload_n C dL_isLetter_321 12 rfl ?_
  refine r_iload_n C dL_isLetter_322 13 rfl ?_
  refine r_bipush (v := 7) C dL_isLetter_323 (by decide) ?_
  obtain ⟨h163, hp⟩ := hp
  refine r_callV (ci := 8) (wc := [sysB cI cL cP fl pl a L h v pl2 hi sa tx u w me fo fd taken st]) (wr := [[(aA, .inl (cI, 4, .inl g159))]]) (st := []) C (m_S_letter l D cI cL cP cJ fl pl a L h v pl2 hi sa tx u w me fo fd taken st letter 7 h163) k_X10_letter t_412 [1, 0] (show ([1, 0] : List Nat).Perm (List.range 2) by decide) rfl rfl rfl (q0 := 0) rfl rfl rfl (Nat.le_of_ble_eq_true rfl) ⟨Nat.le_of_ble_eq_true rfl, Nat.le_of_ble_eq_true rfl⟩ ⟨Nat.zero_le _, Nat.zero_le _⟩ dL_isLetter_325 (fun r164 wr164 hw164 => ?_)
  obtain ⟨e_r164, rfl⟩ := hw164
  have hp := hp r164 e_r164
  refine r_ws (I' := [sysB cI cL cP fl pl a L h v pl2 hi sa tx u w me fo fd taken st, [(aA, .inl (cI, 4, .inl g159))]]) rfl ?_
  refine r_istore (L' := [(12, .int r164), (8, .int x162), (11, .int r156), (10, .int 2), (9, .int x144), (14, .int x141), (13, .int x138), (6, .int x77), (5, .int x74), (4, .int x71), (7, .int r8), (3, .int r2), (0, .ref fl), (1, .int letter), (2, .ref aA)]) C dL_isLetter_328 (by decide) rfl ?_
  refine r_iload C dL_isLetter_330 3 rfl ?_
  refine r_if_ne (tgt := 351) C dL_isLetter_332 (by decide) (fun _ => ?_) (fun c => absurd c (by decide))
  refine r_iload C dL_isLetter_351 0 rfl ?_
  refine r_iload C dL_isLetter_353 3 rfl ?_
  refine r_iconst (v := 1) C dL_isLetter_355 (by decide) ?_
  refine r_isub (z := 1) C dL_isLetter_356 (by decide) ?_
  refine r_ishr C dL_isLetter_357 rfl ?_
  refine r_iconst (v := 3) C dL_isLetter_358 (by decide) ?_
  refine r_iand C dL_isLetter_359 rfl ?_
  suffices K : ∀ x166 : Int32, x166 = ((if ((r164 >>> ((1 : Int32) &&& 31)) &&& 3) = 0 then (0) else (1))) → V p l e (rmm 6 131) s m args below meth c 15 D A 0 0 Q [sysB cI cL cP fl pl a L h v pl2 hi sa tx u w me fo fd taken st, [(aA, .inl (cI, 4, .inl g159))]] [(12, .int r164), (8, .int x162), (11, .int r156), (10, .int 2), (9, .int x144), (14, .int x141), (13, .int x138), (6, .int x77), (5, .int x74), (4, .int x71), (7, .int r8), (3, .int r2), (0, .ref fl), (1, .int letter), (2, .ref aA)] 368 [.int x166] by
    refine r_if_eq (tgt := 367) C dL_isLetter_360 (by decide) (fun c165 => ?_) (fun c165 => ?_)
    · refine r_iconst (v := 0) C dL_isLetter_367 (by decide) ?_
      exact K _ (by simp only [if_pos c165])
    · refine r_iconst (v := 1) C dL_isLetter_363 (by decide) ?_
      refine r_goto (tgt := 368) C dL_isLetter_364 (by decide) ?_
      exact K _ (by simp only [if_neg c165])
  intro x166 e_x166
  have hp := hp x166 e_x166
  refine r_istore (L' := [(13, .int x166), (12, .int r164), (8, .int x162), (11, .int r156), (10, .int 2), (9, .int x144), (14, .int x141), (6, .int x77), (5, .int x74), (4, .int x71), (7, .int r8), (3, .int r2), (0, .ref fl), (1, .int letter), (2, .ref aA)]) C dL_isLetter_368 (by decide) rfl ?_
  refine r_iload C dL_isLetter_370 10 rfl ?_
  refine r_bipush (v := 60) C dL_isLetter_372 (by decide) ?_
  suffices K : ∀ x169 : Int32, x169 = ((if r8 = 60 then (1) else ((if x166 = 0 then (0) else (2))))) → V p l e (rmm 6 131) s m args below meth c 15 D A 0 0 Q [sysB cI cL cP fl pl a L h v pl2 hi sa tx u w me fo fd taken st, [(aA, .inl (cI, 4, .inl g159))]] [(13, .int x166), (12, .int r164), (8, .int x162), (11, .int r156), (10, .int 2), (9, .int x144), (14, .int x141), (6, .int x77), (5, .int x74), (4, .int x71), (7, .int r8), (3, .int r2), (0, .ref fl), (1, .int letter), (2, .ref aA)] 391 [.int x169] by
    refine r_icmp_ne (tgt := 381) C dL_isLetter_374 (by decide) (fun c167 => ?_) (fun c167 => ?_)
    · refine r_iload C dL_isLetter_381 0 rfl ?_
      refine r_if_eq (tgt := 390) C dL_isLetter_383 (by decide) (fun c168 => ?_) (fun c168 => ?_)
      · refine r_iconst (v := 0) C dL_isLetter_390 (by decide) ?_
        exact K _ (by simp only [if_neg c167, if_pos c168])
      · refine r_iconst (v := 2) C dL_isLetter_386 (by decide) ?_
        refine r_goto (tgt := 391) C dL_isLetter_387 (by decide) ?_
        exact K _ (by simp only [if_neg c167, if_neg c168])
    · refine r_iconst (v := 1) C dL_isLetter_377 (by decide) ?_
      refine r_goto (tgt := 391) C dL_isLetter_378 (by decide) ?_
      exact K _ (by simp only [if_pos c167])
  intro x169 e_x169
  have hp := hp x169 e_x169
  refine r_istore (L' := [(14, .int x169), (13, .int x166), (12, .int r164), (8, .int x162), (11, .int r156), (10, .int 2), (9, .int x144), (6, .int x77), (5, .int x74), (4, .int x71), (7, .int r8), (3, .int r2), (0, .ref fl), (1, .int letter), (2, .ref aA)]) C dL_isLetter_391 (by decide) rfl ?_
  refine r_iload C dL_isLetter_393 6 rfl ?_
  refine r_iload C dL_isLetter_395 0 rfl ?_
  suffices K : ∀ x171 : Int32, x171 = ((if x169 ≤ 0 then (0) else (4))) → V p l e (rmm 6 131) s m args below meth c 15 D A 0 0 Q [sysB cI cL cP fl pl a L h v pl2 hi sa tx u w me fo fd taken st, [(aA, .inl (cI, 4, .inl g159))]] [(14, .int x169), (13, .int x166), (12, .int r164), (8, .int x162), (11, .int r156), (10, .int 2), (9, .int x144), (6, .int x77), (5, .int x74), (4, .int x71), (7, .int r8), (3, .int r2), (0, .ref fl), (1, .int letter), (2, .ref aA)] 408 [.int x171, .int x144] by
    refine r_if_le (tgt := 407) C dL_isLetter_397 (by decide) (fun c170 => ?_) (fun c170 => ?_)
    · refine r_iconst (v := 0) C dL_isLetter_407 (by decide) ?_
      exact K _ (by simp only [if_pos c170])
    · refine r_iconst (v := 1) C dL_isLetter_400 (by decide) ?_
      refine r_iload C dL_isLetter_401 5 rfl ?_
      refine r_ishl (z := 4) C dL_isLetter_403 (by decide) ?_
      refine r_goto (tgt := 408) C dL_isLetter_404 (by decide) ?_
      exact K _ (by simp only [if_neg c170])
  intro x171 e_x171
  have hp := hp x171 e_x171
  refine r_ior C dL_isLetter_408 rfl ?_
  refine r_top (fun x172 e_x172 => ?_)
  have hp := hp x172 e_x172
  refine r_istore (L' := [(9, .int x172), (14, .int x169), (13, .int x166), (12, .int r164), (8, .int x162), (11, .int r156), (10, .int 2), (6, .int x77), (5, .int x74), (4, .int x71), (7, .int r8), (3, .int r2), (0, .ref fl), (1, .int letter), (2, .ref aA)]) C dL_isLetter_409 (by decide) rfl ?_
  refine r_aload_n C dL_isLetter_411 12 rfl ?_
  refine r_iload_n C dL_isLetter_412 13 rfl ?_
  refine r_iload C dL_isLetter_413 6 rfl ?_
  obtain ⟨h173, hp⟩ := hp
  refine r_callV (ci := 8) (wc := [sysB cI cL cP fl pl a L h v pl2 hi sa tx u w me fo fd taken st]) (wr := [[(aA, .inl (cI, 4, .inl g159))]]) (st := []) C (m_S_ifFolded l D cI cL cP cJ fl pl a L h v pl2 hi sa tx u w me fo fd taken st letter 2 h173) k_X10_ifFolded t_456 [0, 1] (show ([0, 1] : List Nat).Perm (List.range 2) by decide) rfl rfl rfl (q0 := 0) rfl rfl rfl (Nat.le_of_ble_eq_true rfl) ⟨Nat.le_of_ble_eq_true rfl, Nat.le_of_ble_eq_true rfl⟩ ⟨Nat.zero_le _, Nat.zero_le _⟩ dL_isLetter_415 (fun r174 wr174 hw174 => ?_)
  obtain ⟨e_r174, rfl⟩ := hw174
  have hp := hp r174 e_r174
  refine r_ws (I' := [sysB cI cL cP fl pl a L h v pl2 hi sa tx u w me fo fd taken st, [(aA, .inl (cI, 4, .inl g159))]]) rfl ?_
  refine r_iload C dL_isLetter_418 5 rfl ?_
  obtain ⟨h175, hp⟩ := hp
  refine r_icmp_ne (tgt := 446) C dL_isLetter_420 (by decide) (fun c => absurd h175 c) (fun _ => ?_)
  refine r_iload C dL_isLetter_423 5 rfl ?_
  refine r_iload_n C dL_isLetter_425 11 rfl ?_
  refine r_isub C dL_isLetter_426 rfl ?_
  refine r_callS (wc := []) (wr := [sysB cI cL cP fl pl a L h v pl2 hi sa tx u w me fo fd taken st, [(aA, .inl (cI, 4, .inl g159))]]) (st := []) C (m_L_size l D cI cL cP cJ (r156 - r2)) k_L_size t_450 [0, 1] (show ([0, 1] : List Nat).Perm (List.range 2) by decide) rfl rfl rfl (Nat.le_of_ble_eq_true rfl) ⟨Nat.le_of_ble_eq_true rfl, Nat.le_of_ble_eq_true rfl⟩ ⟨Nat.zero_le _, Nat.zero_le _⟩ dL_isLetter_427 (fun r176 wr176 hw176 => ?_)
  obtain ⟨e_r176, rfl⟩ := hw176
  have hp := hp r176 e_r176
  refine r_ws (I' := [sysB cI cL cP fl pl a L h v pl2 hi sa tx u w me fo fd taken st, [(aA, .inl (cI, 4, .inl g159))]]) rfl ?_
  refine r_iconst (v := 1) C dL_isLetter_430 (by decide) ?_
  obtain ⟨h177, hp⟩ := hp
  refine r_icmp_ne (tgt := 446) C dL_isLetter_431 (by decide) (fun c => absurd h177 c) (fun _ => ?_)
  refine r_aload_n C dL_isLetter_434 12 rfl ?_
  refine r_iload_n C dL_isLetter_435 13 rfl ?_
  refine r_iload C dL_isLetter_436 6 rfl ?_
  obtain ⟨h178, hp⟩ := hp
  refine r_callV (ci := 8) (wc := [sysB cI cL cP fl pl a L h v pl2 hi sa tx u w me fo fd taken st]) (wr := [[(aA, .inl (cI, 4, .inl g159))]]) (st := []) C (m_S_why l D cI cL cP cJ fl pl a L h v pl2 hi sa tx u w me fo fd taken st letter 2 h178) k_X10_why t_466 [0, 1] (show ([0, 1] : List Nat).Perm (List.range 2) by decide) rfl rfl rfl (q0 := 0) rfl rfl rfl (Nat.le_of_ble_eq_true rfl) ⟨Nat.le_of_ble_eq_true rfl, Nat.le_of_ble_eq_true rfl⟩ ⟨Nat.zero_le _, Nat.zero_le _⟩ dL_isLetter_438 (fun r179 wr179 hw179 => ?_)
  obtain ⟨e_r179, rfl⟩ := hw179
  have hp := hp r179 e_r179
  refine r_ws (I' := [sysB cI cL cP fl pl a L h v pl2 hi sa tx u w me fo fd taken st, [(aA, .inl (cI, 4, .inl g159))]]) rfl ?_
  refine r_iload C dL_isLetter_441 1 rfl ?_
  obtain ⟨h180, hp⟩ := hp
  refine r_icmp_eq (tgt := 448) C dL_isLetter_443 (by decide) (fun _ => ?_) (fun c => absurd h180 c)
  refine r_iinc (v := 3) (L' := [(10, .int 3), (9, .int x172), (14, .int x169), (13, .int x166), (12, .int r164), (8, .int x162), (11, .int r156), (6, .int x77), (5, .int x74), (4, .int x71), (7, .int r8), (3, .int r2), (0, .ref fl), (1, .int letter), (2, .ref aA)]) C dL_isLetter_448 6 rfl (by decide) (by decide) rfl ?_
  refine r_goto (tgt := 278) C dL_isLetter_451 (by decide) ?_
  refine r_iload C dL_isLetter_278 0 rfl ?_
  refine r_iconst (v := 4) C dL_isLetter_280 (by decide) ?_
  refine r_icmp_ge (tgt := 454) C dL_isLetter_281 (by decide) (fun c => absurd c (by decide)) (fun _ => ?_)
  refine r_aload_n C dL_isLetter_284 14 rfl ?_
  refine r_iload C dL_isLetter_285 0 rfl ?_
  obtain ⟨h181, hp⟩ := hp
  refine r_callS (wc := [[(aA, .inl (cI, 4, .inl g159))]]) (wr := [sysB cI cL cP fl pl a L h v pl2 hi sa tx u w me fo fd taken st]) (st := []) C (m_L_folds l D cI cL cP cJ aA g159 3 h181) k_L_folds t_437 [1, 0] (show ([1, 0] : List Nat).Perm (List.range 2) by decide) rfl rfl rfl (Nat.le_of_ble_eq_true rfl) ⟨Nat.le_of_ble_eq_true rfl, Nat.le_of_ble_eq_true rfl⟩ ⟨Nat.zero_le _, Nat.zero_le _⟩ dL_isLetter_287 (fun r182 wr182 hw182 => ?_)
  obtain rfl := hw182
  obtain ⟨g183, e_g183⟩ : ∃ z : Nat → Int32, z = F_L_folds g159 3 := ⟨_, rfl⟩
  have hp := hp g183 e_g183
  refine r_ws (I' := [[(aA, .inl (cI, 4, .inl g183))], sysB cI cL cP fl pl a L h v pl2 hi sa tx u w me fo fd taken st]) (by rw [e_g183]; rfl) ?_
  refine r_aload_n C dL_isLetter_290 14 rfl ?_
  refine r_callS (wc := [[(aA, .inl (cI, 4, .inl g183))]]) (wr := [sysB cI cL cP fl pl a L h v pl2 hi sa tx u w me fo fd taken st]) (st := []) C (m_L_length l D cI cL cP cJ aA g183) k_L_length t_453 [0, 1] (show ([0, 1] : List Nat).Perm (List.range 2) by decide) rfl rfl rfl (Nat.le_of_ble_eq_true rfl) ⟨Nat.le_of_ble_eq_true rfl, Nat.le_of_ble_eq_true rfl⟩ ⟨Nat.zero_le _, Nat.zero_le _⟩ dL_isLetter_291 (fun r184 wr184 hw184 => ?_)
  obtain ⟨e_r184, rfl⟩ := hw184
  have hp := hp r184 e_r184
  refine r_ws (I' := [[(aA, .inl (cI, 4, .inl g183))], sysB cI cL cP fl pl a L h v pl2 hi sa tx u w me fo fd taken st]) rfl ?_
  refine r_istore (L' := [(11, .int r184), (10, .int 3), (9, .int x172), (14, .int x169), (13, .int x166), (12, .int r164), (8, .int x162), (6, .int x77), (5, .int x74), (4, .int x71), (7, .int r8), (3, .int r2), (0, .ref fl), (1, .int letter), (2, .ref aA)]) C dL_isLetter_294 (by decide) rfl ?_
  refine r_aload_n C dL_isLetter_296 14 rfl ?_
  refine r_iload C dL_isLetter_297 1 rfl ?_
  obtain ⟨h185, hp⟩ := hp
  refine r_callS (wc := [[(aA, .inl (cI, 4, .inl g183))]]) (wr := [sysB cI cL cP fl pl a L h v pl2 hi sa tx u w me fo fd taken st]) (st := []) C (m_L_folds l D cI cL cP cJ aA g183 3 h185) k_L_folds t_437 [0, 1] (show ([0, 1] : List Nat).Perm (List.range 2) by decide) rfl rfl rfl (Nat.le_of_ble_eq_true rfl) ⟨Nat.le_of_ble_eq_true rfl, Nat.le_of_ble_eq_true rfl⟩ ⟨Nat.zero_le _, Nat.zero_le _⟩ dL_isLetter_299 (fun r186 wr186 hw186 => ?_)
  obtain rfl := hw186
  obtain ⟨g187, e_g187⟩ : ∃ z : Nat → Int32, z = F_L_folds g183 3 := ⟨_, rfl⟩
  have hp := hp g187 e_g187
  refine r_ws (I' := [[(aA, .inl (cI, 4, .inl g187))], sysB cI cL cP fl pl a L h v pl2 hi sa tx u w me fo fd taken st]) (by rw [e_g187]; rfl) ?_
  refine r_iload C dL_isLetter_302 6 rfl ?_
  refine r_iload C dL_isLetter_304 0 rfl ?_
  refine r_iload_n C dL_isLetter_306 11 rfl ?_
  suffices K : ∀ x189 : Int32, x189 = ((if r2 ≤ r184 then (0) else (8))) → V p l e (rmm 6 131) s m args below meth c 15 D A 0 0 Q [[(aA, .inl (cI, 4, .inl g187))], sysB cI cL cP fl pl a L h v pl2 hi sa tx u w me fo fd taken st] [(11, .int r184), (10, .int 3), (9, .int x172), (14, .int x169), (13, .int x166), (12, .int r164), (8, .int x162), (6, .int x77), (5, .int x74), (4, .int x71), (7, .int r8), (3, .int r2), (0, .ref fl), (1, .int letter), (2, .ref aA)] 318 [.int x189, .int x162] by
    refine r_icmp_ge (tgt := 317) C dL_isLetter_307 (by decide) (fun c188 => ?_) (fun c188 => ?_)
    · refine r_iconst (v := 0) C dL_isLetter_317 (by decide) ?_
      exact K _ (by simp only [if_pos c188])
    · refine r_iconst (v := 1) C dL_isLetter_310 (by decide) ?_
      refine r_iload C dL_isLetter_311 1 rfl ?_
      refine r_ishl (z := 8) C dL_isLetter_313 (by decide) ?_
      refine r_goto (tgt := 318) C dL_isLetter_314 (by decide) ?_
      exact K _ (by simp only [if_neg c188])
  intro x189 e_x189
  have hp := hp x189 e_x189
  refine r_ior C dL_isLetter_318 rfl ?_
  refine r_top (fun x190 e_x190 => ?_)
  have hp := hp x190 e_x190
  refine r_istore (L' := [(8, .int x190), (11, .int r184), (10, .int 3), (9, .int x172), (14, .int x169), (13, .int x166), (12, .int r164), (6, .int x77), (5, .int x74), (4, .int x71), (7, .int r8), (3, .int r2), (0, .ref fl), (1, .int letter), (2, .ref aA)]) C dL_isLetter_319 (by decide) rfl ?_
  refine r_aload_n C dL_isLetter_321 12 rfl ?_
  refine r_iload_n C dL_isLetter_322 13 rfl ?_
  refine r_bipush (v := 7) C dL_isLetter_323 (by decide) ?_
  obtain ⟨h191, hp⟩ := hp
  refine r_callV (ci := 8) (wc := [sysB cI cL cP fl pl a L h v pl2 hi sa tx u w me fo fd taken st]) (wr := [[(aA, .inl (cI, 4, .inl g187))]]) (st := []) C (m_S_letter l D cI cL cP cJ fl pl a L h v pl2 hi sa tx u w me fo fd taken st letter 7 h191) k_X10_letter t_412 [1, 0] (show ([1, 0] : List Nat).Perm (List.range 2) by decide) rfl rfl rfl (q0 := 0) rfl rfl rfl (Nat.le_of_ble_eq_true rfl) ⟨Nat.le_of_ble_eq_true rfl, Nat.le_of_ble_eq_true rfl⟩ ⟨Nat.zero_le _, Nat.zero_le _⟩ dL_isLetter_325 (fun r192 wr192 hw192 => ?_)
  obtain ⟨e_r192, rfl⟩ := hw192
  have hp := hp r192 e_r192
  refine r_ws (I' := [sysB cI cL cP fl pl a L h v pl2 hi sa tx u w me fo fd taken st, [(aA, .inl (cI, 4, .inl g187))]]) rfl ?_
  refine r_istore (L' := [(12, .int r192), (8, .int x190), (11, .int r184), (10, .int 3), (9, .int x172), (14, .int x169), (13, .int x166), (6, .int x77), (5, .int x74), (4, .int x71), (7, .int r8), (3, .int r2), (0, .ref fl), (1, .int letter), (2, .ref aA)]) C dL_isLetter_328 (by decide) rfl ?_
  refine r_iload C dL_isLetter_330 3 rfl ?_
  refine r_if_ne (tgt := 351) C dL_isLetter_332 (by decide) (fun _ => ?_) (fun c => absurd c (by decide))
  refine r_iload C dL_isLetter_351 0 rfl ?_
  refine r_iload C dL_isLetter_353 3 rfl ?_
  refine r_iconst (v := 1) C dL_isLetter_355 (by decide) ?_
  refine r_isub (z := 2) C dL_isLetter_356 (by decide) ?_
  refine r_ishr C dL_isLetter_357 rfl ?_
  refine r_iconst (v := 3) C dL_isLetter_358 (by decide) ?_
  refine r_iand C dL_isLetter_359 rfl ?_
  suffices K : ∀ x194 : Int32, x194 = ((if ((r192 >>> ((2 : Int32) &&& 31)) &&& 3) = 0 then (0) else (1))) → V p l e (rmm 6 131) s m args below meth c 15 D A 0 0 Q [sysB cI cL cP fl pl a L h v pl2 hi sa tx u w me fo fd taken st, [(aA, .inl (cI, 4, .inl g187))]] [(12, .int r192), (8, .int x190), (11, .int r184), (10, .int 3), (9, .int x172), (14, .int x169), (13, .int x166), (6, .int x77), (5, .int x74), (4, .int x71), (7, .int r8), (3, .int r2), (0, .ref fl), (1, .int letter), (2, .ref aA)] 368 [.int x194] by
    refine r_if_eq (tgt := 367) C dL_isLetter_360 (by decide) (fun c193 => ?_) (fun c193 => ?_)
    · refine r_iconst (v := 0) C dL_isLetter_367 (by decide) ?_
      exact K _ (by simp only [if_pos c193])
    · refine r_iconst (v := 1) C dL_isLetter_363 (by decide) ?_
      refine r_goto (tgt := 368) C dL_isLetter_364 (by decide) ?_
      exact K _ (by simp only [if_neg c193])
  intro x194 e_x194
  have hp := hp x194 e_x194
  refine r_istore (L' := [(13, .int x194), (12, .int r192), (8, .int x190), (11, .int r184), (10, .int 3), (9, .int x172), (14, .int x169), (6, .int x77), (5, .int x74), (4, .int x71), (7, .int r8), (3, .int r2), (0, .ref fl), (1, .int letter), (2, .ref aA)]) C dL_isLetter_368 (by decide) rfl ?_
  refine r_iload C dL_isLetter_370 10 rfl ?_
  refine r_bipush (v := 60) C dL_isLetter_372 (by decide) ?_
  suffices K : ∀ x197 : Int32, x197 = ((if r8 = 60 then (1) else ((if x194 = 0 then (0) else (2))))) → V p l e (rmm 6 131) s m args below meth c 15 D A 0 0 Q [sysB cI cL cP fl pl a L h v pl2 hi sa tx u w me fo fd taken st, [(aA, .inl (cI, 4, .inl g187))]] [(13, .int x194), (12, .int r192), (8, .int x190), (11, .int r184), (10, .int 3), (9, .int x172), (14, .int x169), (6, .int x77), (5, .int x74), (4, .int x71), (7, .int r8), (3, .int r2), (0, .ref fl), (1, .int letter), (2, .ref aA)] 391 [.int x197] by
    refine r_icmp_ne (tgt := 381) C dL_isLetter_374 (by decide) (fun c195 => ?_) (fun c195 => ?_)
    · refine r_iload C dL_isLetter_381 0 rfl ?_
      refine r_if_eq (tgt := 390) C dL_isLetter_383 (by decide) (fun c196 => ?_) (fun c196 => ?_)
      · refine r_iconst (v := 0) C dL_isLetter_390 (by decide) ?_
        exact K _ (by simp only [if_neg c195, if_pos c196])
      · refine r_iconst (v := 2) C dL_isLetter_386 (by decide) ?_
        refine r_goto (tgt := 391) C dL_isLetter_387 (by decide) ?_
        exact K _ (by simp only [if_neg c195, if_neg c196])
    · refine r_iconst (v := 1) C dL_isLetter_377 (by decide) ?_
      refine r_goto (tgt := 391) C dL_isLetter_378 (by decide) ?_
      exact K _ (by simp only [if_pos c195])
  intro x197 e_x197
  have hp := hp x197 e_x197
  refine r_istore (L' := [(14, .int x197), (13, .int x194), (12, .int r192), (8, .int x190), (11, .int r184), (10, .int 3), (9, .int x172), (6, .int x77), (5, .int x74), (4, .int x71), (7, .int r8), (3, .int r2), (0, .ref fl), (1, .int letter), (2, .ref aA)]) C dL_isLetter_391 (by decide) rfl ?_
  refine r_iload C dL_isLetter_393 6 rfl ?_
  refine r_iload C dL_isLetter_395 0 rfl ?_
  suffices K : ∀ x199 : Int32, x199 = ((if x197 ≤ 0 then (0) else (8))) → V p l e (rmm 6 131) s m args below meth c 15 D A 0 0 Q [sysB cI cL cP fl pl a L h v pl2 hi sa tx u w me fo fd taken st, [(aA, .inl (cI, 4, .inl g187))]] [(14, .int x197), (13, .int x194), (12, .int r192), (8, .int x190), (11, .int r184), (10, .int 3), (9, .int x172), (6, .int x77), (5, .int x74), (4, .int x71), (7, .int r8), (3, .int r2), (0, .ref fl), (1, .int letter), (2, .ref aA)] 408 [.int x199, .int x172] by
    refine r_if_le (tgt := 407) C dL_isLetter_397 (by decide) (fun c198 => ?_) (fun c198 => ?_)
    · refine r_iconst (v := 0) C dL_isLetter_407 (by decide) ?_
      exact K _ (by simp only [if_pos c198])
    · refine r_iconst (v := 1) C dL_isLetter_400 (by decide) ?_
      refine r_iload C dL_isLetter_401 5 rfl ?_
      refine r_ishl (z := 8) C dL_isLetter_403 (by decide) ?_
      refine r_goto (tgt := 408) C dL_isLetter_404 (by decide) ?_
      exact K _ (by simp only [if_neg c198])
  intro x199 e_x199
  have hp := hp x199 e_x199
  refine r_ior C dL_isLetter_408 rfl ?_
  refine r_top (fun x200 e_x200 => ?_)
  have hp := hp x200 e_x200
  refine r_istore (L' := [(9, .int x200), (14, .int x197), (13, .int x194), (12, .int r192), (8, .int x190), (11, .int r184), (10, .int 3), (6, .int x77), (5, .int x74), (4, .int x71), (7, .int r8), (3, .int r2), (0, .ref fl), (1, .int letter), (2, .ref aA)]) C dL_isLetter_409 (by decide) rfl ?_
  refine r_aload_n C dL_isLetter_411 12 rfl ?_
  refine r_iload_n C dL_isLetter_412 13 rfl ?_
  refine r_iload C dL_isLetter_413 6 rfl ?_
  obtain ⟨h201, hp⟩ := hp
  refine r_callV (ci := 8) (wc := [sysB cI cL cP fl pl a L h v pl2 hi sa tx u w me fo fd taken st]) (wr := [[(aA, .inl (cI, 4, .inl g187))]]) (st := []) C (m_S_ifFolded l D cI cL cP cJ fl pl a L h v pl2 hi sa tx u w me fo fd taken st letter 3 h201) k_X10_ifFolded t_456 [0, 1] (show ([0, 1] : List Nat).Perm (List.range 2) by decide) rfl rfl rfl (q0 := 0) rfl rfl rfl (Nat.le_of_ble_eq_true rfl) ⟨Nat.le_of_ble_eq_true rfl, Nat.le_of_ble_eq_true rfl⟩ ⟨Nat.zero_le _, Nat.zero_le _⟩ dL_isLetter_415 (fun r202 wr202 hw202 => ?_)
  obtain ⟨e_r202, rfl⟩ := hw202
  have hp := hp r202 e_r202
  refine r_ws (I' := [sysB cI cL cP fl pl a L h v pl2 hi sa tx u w me fo fd taken st, [(aA, .inl (cI, 4, .inl g187))]]) rfl ?_
  refine r_iload C dL_isLetter_418 5 rfl ?_
  obtain ⟨h203, hp⟩ := hp
  refine r_icmp_ne (tgt := 446) C dL_isLetter_420 (by decide) (fun c => absurd h203 c) (fun _ => ?_)
  refine r_iload C dL_isLetter_423 5 rfl ?_
  refine r_iload_n C dL_isLetter_425 11 rfl ?_
  refine r_isub C dL_isLetter_426 rfl ?_
  refine r_callS (wc := []) (wr := [sysB cI cL cP fl pl a L h v pl2 hi sa tx u w me fo fd taken st, [(aA, .inl (cI, 4, .inl g187))]]) (st := []) C (m_L_size l D cI cL cP cJ (r184 - r2)) k_L_size t_450 [0, 1] (show ([0, 1] : List Nat).Perm (List.range 2) by decide) rfl rfl rfl (Nat.le_of_ble_eq_true rfl) ⟨Nat.le_of_ble_eq_true rfl, Nat.le_of_ble_eq_true rfl⟩ ⟨Nat.zero_le _, Nat.zero_le _⟩ dL_isLetter_427 (fun r204 wr204 hw204 => ?_)
  obtain ⟨e_r204, rfl⟩ := hw204
  have hp := hp r204 e_r204
  refine r_ws (I' := [sysB cI cL cP fl pl a L h v pl2 hi sa tx u w me fo fd taken st, [(aA, .inl (cI, 4, .inl g187))]]) rfl ?_
  refine r_iconst (v := 1) C dL_isLetter_430 (by decide) ?_
  obtain ⟨h205, hp⟩ := hp
  refine r_icmp_ne (tgt := 446) C dL_isLetter_431 (by decide) (fun c => absurd h205 c) (fun _ => ?_)
  refine r_aload_n C dL_isLetter_434 12 rfl ?_
  refine r_iload_n C dL_isLetter_435 13 rfl ?_
  refine r_iload C dL_isLetter_436 6 rfl ?_
  obtain ⟨h206, hp⟩ := hp
  refine r_callV (ci := 8) (wc := [sysB cI cL cP fl pl a L h v pl2 hi sa tx u w me fo fd taken st]) (wr := [[(aA, .inl (cI, 4, .inl g187))]]) (st := []) C (m_S_why l D cI cL cP cJ fl pl a L h v pl2 hi sa tx u w me fo fd taken st letter 3 h206) k_X10_why t_466 [0, 1] (show ([0, 1] : List Nat).Perm (List.range 2) by decide) rfl rfl rfl (q0 := 0) rfl rfl rfl (Nat.le_of_ble_eq_true rfl) ⟨Nat.le_of_ble_eq_true rfl, Nat.le_of_ble_eq_true rfl⟩ ⟨Nat.zero_le _, Nat.zero_le _⟩ dL_isLetter_438 (fun r207 wr207 hw207 => ?_)
  obtain ⟨e_r207, rfl⟩ := hw207
  have hp := hp r207 e_r207
  refine r_ws (I' := [sysB cI cL cP fl pl a L h v pl2 hi sa tx u w me fo fd taken st, [(aA, .inl (cI, 4, .inl g187))]]) rfl ?_
  refine r_iload C dL_isLetter_441 1 rfl ?_
  obtain ⟨h208, hp⟩ := hp
  refine r_icmp_eq (tgt := 448) C dL_isLetter_443 (by decide) (fun _ => ?_) (fun c => absurd h208 c)
  refine r_iinc (v := 4) (L' := [(10, .int 4), (9, .int x200), (14, .int x197), (13, .int x194), (12, .int r192), (8, .int x190), (11, .int r184), (6, .int x77), (5, .int x74), (4, .int x71), (7, .int r8), (3, .int r2), (0, .ref fl), (1, .int letter), (2, .ref aA)]) C dL_isLetter_448 6 rfl (by decide) (by decide) rfl ?_
  refine r_goto (tgt := 278) C dL_isLetter_451 (by decide) ?_
  refine r_iload C dL_isLetter_278 0 rfl ?_
  refine r_iconst (v := 4) C dL_isLetter_280 (by decide) ?_
  refine r_icmp_ge (tgt := 454) C dL_isLetter_281 (by decide) (fun _ => ?_) (fun c => absurd c (by decide))
  refine r_aload_n C dL_isLetter_454 12 rfl ?_
  refine r_iload_n C dL_isLetter_455 13 rfl ?_
  refine r_bipush (v := 8) C dL_isLetter_456 (by decide) ?_
  obtain ⟨h209, hp⟩ := hp
  refine r_callV (ci := 8) (wc := [sysB cI cL cP fl pl a L h v pl2 hi sa tx u w me fo fd taken st]) (wr := [[(aA, .inl (cI, 4, .inl g187))]]) (st := []) C (m_S_letter l D cI cL cP cJ fl pl a L h v pl2 hi sa tx u w me fo fd taken st letter 8 h209) k_X10_letter t_412 [0, 1] (show ([0, 1] : List Nat).Perm (List.range 2) by decide) rfl rfl rfl (q0 := 0) rfl rfl rfl (Nat.le_of_ble_eq_true rfl) ⟨Nat.le_of_ble_eq_true rfl, Nat.le_of_ble_eq_true rfl⟩ ⟨Nat.zero_le _, Nat.zero_le _⟩ dL_isLetter_458 (fun r210 wr210 hw210 => ?_)
  obtain ⟨e_r210, rfl⟩ := hw210
  have hp := hp r210 e_r210
  refine r_ws (I' := [sysB cI cL cP fl pl a L h v pl2 hi sa tx u w me fo fd taken st, [(aA, .inl (cI, 4, .inl g187))]]) rfl ?_
  refine r_iload C dL_isLetter_461 5 rfl ?_
  obtain ⟨h211, hp⟩ := hp
  refine r_icmp_ne (tgt := 494) C dL_isLetter_463 (by decide) (fun c => absurd h211 c) (fun _ => ?_)
  refine r_aload_n C dL_isLetter_466 12 rfl ?_
  refine r_iload_n C dL_isLetter_467 13 rfl ?_
  refine r_bipush (v := 9) C dL_isLetter_468 (by decide) ?_
  obtain ⟨h212, hp⟩ := hp
  refine r_callV (ci := 8) (wc := [sysB cI cL cP fl pl a L h v pl2 hi sa tx u w me fo fd taken st]) (wr := [[(aA, .inl (cI, 4, .inl g187))]]) (st := []) C (m_S_letter l D cI cL cP cJ fl pl a L h v pl2 hi sa tx u w me fo fd taken st letter 9 h212) k_X10_letter t_412 [0, 1] (show ([0, 1] : List Nat).Perm (List.range 2) by decide) rfl rfl rfl (q0 := 0) rfl rfl rfl (Nat.le_of_ble_eq_true rfl) ⟨Nat.le_of_ble_eq_true rfl, Nat.le_of_ble_eq_true rfl⟩ ⟨Nat.zero_le _, Nat.zero_le _⟩ dL_isLetter_470 (fun r213 wr213 hw213 => ?_)
  obtain ⟨e_r213, rfl⟩ := hw213
  have hp := hp r213 e_r213
  refine r_ws (I' := [sysB cI cL cP fl pl a L h v pl2 hi sa tx u w me fo fd taken st, [(aA, .inl (cI, 4, .inl g187))]]) rfl ?_
  refine r_iload C dL_isLetter_473 1 rfl ?_
  obtain ⟨h214, hp⟩ := hp
  refine r_icmp_ne (tgt := 494) C dL_isLetter_475 (by decide) (fun c => absurd h214 c) (fun _ => ?_)
  refine r_aload_n C dL_isLetter_478 12 rfl ?_
  refine r_iload_n C dL_isLetter_479 13 rfl ?_
  refine r_iload C dL_isLetter_480 10 rfl ?_
  obtain ⟨h215, hp⟩ := hp
  refine r_callV (ci := 8) (wc := [sysB cI cL cP fl pl a L h v pl2 hi sa tx u w me fo fd taken st]) (wr := [[(aA, .inl (cI, 4, .inl g187))]]) (st := []) C (m_S_crease l D cI cL cP cJ fl pl a L h v pl2 hi sa tx u w me fo fd taken st letter r8 h215) k_X10_crease t_419 [0, 1] (show ([0, 1] : List Nat).Perm (List.range 2) by decide) rfl rfl rfl (q0 := 0) rfl rfl rfl (Nat.le_of_ble_eq_true rfl) ⟨Nat.le_of_ble_eq_true rfl, Nat.le_of_ble_eq_true rfl⟩ ⟨Nat.zero_le _, Nat.zero_le _⟩ dL_isLetter_482 (fun r216 wr216 hw216 => ?_)
  obtain ⟨e_r216, rfl⟩ := hw216
  have hp := hp r216 e_r216
  refine r_ws (I' := [sysB cI cL cP fl pl a L h v pl2 hi sa tx u w me fo fd taken st, [(aA, .inl (cI, 4, .inl g187))]]) rfl ?_
  refine r_bipush (v := (-10)) C dL_isLetter_485 (by decide) ?_
  have h217 := hp
  refine r_icmp_ne (tgt := 494) C dL_isLetter_487 (by decide) (fun c => absurd h217 c) (fun _ => ?_)
  refine r_iconst (v := 1) C dL_isLetter_490 (by decide) ?_
  refine r_goto (tgt := 495) C dL_isLetter_491 (by decide) ?_
  have eF : F_L_isLetter st fA letter = g187 := by have q := e_r2.symm; subst q; have q := e_g3.symm; subst q; have q := e_g4.symm; subst q; have q := e_g5.symm; subst q; have q := e_g6.symm; subst q; have q := e_r8.symm; subst q; have q := e_f21.symm; subst q; have q := e_z22.symm; subst q; have q := e_r24.symm; subst q; have q := e_r25.symm; subst q; have q := e_x26.symm; subst q; have q := e_x28.symm; subst q; have q := e_x29.symm; subst q; have q := e_x31.symm; subst q; have q := e_x32.symm; subst q; have q := e_r35.symm; subst q; have q := e_r39.symm; subst q; have q := e_r40.symm; subst q; have q := e_x41.symm; subst q; have q := e_x43.symm; subst q; have q := e_x44.symm; subst q; have q := e_x46.symm; subst q; have q := e_x47.symm; subst q; have q := e_r50.symm; subst q; have q := e_r54.symm; subst q; have q := e_r55.symm; subst q; have q := e_x56.symm; subst q; have q := e_x58.symm; subst q; have q := e_x59.symm; subst q; have q := e_x61.symm; subst q; have q := e_x62.symm; subst q; have q := e_r65.symm; subst q; have q := e_r69.symm; subst q; have q := e_r70.symm; subst q; have q := e_x71.symm; subst q; have q := e_x73.symm; subst q; have q := e_x74.symm; subst q; have q := e_x76.symm; subst q; have q := e_x77.symm; subst q; have q := e_r80.symm; subst q; have q := e_r84.symm; subst q; have q := e_r87.symm; subst q; have q := e_r90.symm; subst q; have q := e_r93.symm; subst q; have q := e_g99.symm; subst q; have q := e_r100.symm; subst q; have q := e_g103.symm; subst q; have q := e_x105.symm; subst q; have q := e_x106.symm; subst q; have q := e_r108.symm; subst q; have q := e_x110.symm; subst q; have q := e_x113.symm; subst q; have q := e_x115.symm; subst q; have q := e_x116.symm; subst q; have q := e_r118.symm; subst q; have q := e_r120.symm; subst q; have q := e_r123.symm; subst q; have q := e_g127.symm; subst q; have q := e_r128.symm; subst q; have q := e_g131.symm; subst q; have q := e_x133.symm; subst q; have q := e_x134.symm; subst q; have q := e_r136.symm; subst q; have q := e_x138.symm; subst q; have q := e_x141.symm; subst q; have q := e_x143.symm; subst q; have q := e_x144.symm; subst q; have q := e_r146.symm; subst q; have q := e_r148.symm; subst q; have q := e_r151.symm; subst q; have q := e_g155.symm; subst q; have q := e_r156.symm; subst q; have q := e_g159.symm; subst q; have q := e_x161.symm; subst q; have q := e_x162.symm; subst q; have q := e_r164.symm; subst q; have q := e_x166.symm; subst q; have q := e_x169.symm; subst q; have q := e_x171.symm; subst q; have q := e_x172.symm; subst q; have q := e_r174.symm; subst q; have q := e_r176.symm; subst q; have q := e_r179.symm; subst q; have q := e_g183.symm; subst q; have q := e_r184.symm; subst q; have q := e_g187.symm; subst q; have q := e_x189.symm; subst q; have q := e_x190.symm; subst q; have q := e_r192.symm; subst q; have q := e_x194.symm; subst q; have q := e_x197.symm; subst q; have q := e_x199.symm; subst q; have q := e_x200.symm; subst q; have q := e_r202.symm; subst q; have q := e_r204.symm; subst q; have q := e_r207.symm; subst q; have q := e_r210.symm; subst q; have q := e_r213.symm; subst q; have q := e_r216.symm; subst q; rfl
  exact r_zret (r := 1) C hA hr hlo (rfl) dL_isLetter_495 [sysB cI cL cP fl pl a L h v pl2 hi sa tx u w me fo fd taken st, [(aA, .inl (cI, 4, .inl g187))]] ⟨rfl, by simp only [eF]⟩ rfl hQ

theorem k_L_does : kS yL_does cL_does 21 (some .boolean) 3 := ⟨t_511, t_6, t_512, by decide +kernel, by decide +kernel, by decide +kernel⟩
set_option maxRecDepth 20000 in
def F_L_does (st : St) (v_ : Int32) (w_ : Int32) : St := let r1 : Int32 := F_L_low_5 (v_ >>> ((5 : Int32) &&& 31)); let x2 : Int32 := (v_ >>> ((8 : Int32) &&& 31)) &&& 3; let r4 : Int32 := F_S_letter st r1 2; let r9 : Int32 := F_L_low_18 v_; (if (0 ≤ r9 ∧ r9 ≤ 7) then (let r11 : Int32 := F_S_why st r1 x2; (if r11 ≤ 0 then (let x17 : St := (F_S_fold st r1 x2).2; x17) else (st))) else ((if r9 = 8 then (let x35 : Int32 := (if r4 = 0 then ((-10)) else (let r34 : Int32 := F_S_crease st r1 (r4 - 1); r34)); let r37 : Int32 := F_S_letter st r1 7; let x42 : Int32 := (if x35 = 0 then ((if (r37 &&& 1) = 1 then (1) else (0))) else ((if x35 ≤ 0 then (0) else ((if ((r37 >>> ((x35 - 1) &&& 31)) &&& 3) = 0 then (0) else (1)))))); let g55 : St := (if x35 < 0 then (st) else ((if x42 = 0 then (let x47 : St := (F_S_unfold st r1).2; x47) else (st)))); g55) else ((if r9 = 9 then (let x58 : St := (F_S_press st r1).2; let x68 : St := (F_S_press x58 r1).2; x68) else ((if r9 = 10 then (let g84 : St := (if (w_ &&& 3) = 0 then (let x73 : St := (F_S_smooth st r1).2; x73) else (st)); g84) else ((if r9 = 11 then (let r85 : Int32 := F_L_low_5 w_; let r86 : Int32 := F_L_low_5 (w_ >>> ((3 : Int32) &&& 31)); let x94 : St := (F_S_product st r1 r85 r86).2; x94) else ((if r9 = 12 then (let r102 : Int32 := F_L_low_5 w_; let x107 : St := (F_S_opposite st r1 r102).2; x107) else ((if (13 ≤ r9 ∧ r9 ≤ 14) then (let x112 : Int32 := w_ &&& 3; let r114 : Int32 := F_S_letter st r1 7; let x116 : Int32 := (if ((r114 >>> (x112 &&& 31)) &&& 1) = 1 then (1) else (0)); let g132 : St := (if x116 = 0 then (let r126 : Int32 := F_S_layer st r1 x112; (if r126 = (x112 + 1) then (let x130 : St := (F_S_seal st r1 x112).2; x130) else (st))) else (let x123 : St := (F_S_seal st r1 x112).2; x123)); g132) else ((if r9 = 15 then (let r133 : Int32 := F_L_low_5 w_; let r134 : Int32 := F_L_low_5 (w_ >>> ((3 : Int32) &&& 31)); let x137 : St := F_L_areProducts st r133 r134 r1; x137) else (st))))))))))))))))
set_option maxRecDepth 20000 in
def P_L_does (st : St) (v_ : Int32) (w_ : Int32) : Prop := (∀ r1 : Int32, r1 = F_L_low_5 (v_ >>> ((5 : Int32) &&& 31)) → (∀ x2 : Int32, x2 = (v_ >>> ((8 : Int32) &&& 31)) &&& 3 → ((P_S_letter st r1 2) ∧ (∀ r4 : Int32, r4 = F_S_letter st r1 2 → ((P_S_letter st r1 10) ∧ (∀ r6 : Int32, r6 = F_S_letter st r1 10 → ((P_S_letter st r1 0) ∧ (∀ r8 : Int32, r8 = F_S_letter st r1 0 → (∀ r9 : Int32, r9 = F_L_low_18 v_ → (((0 ≤ r9 ∧ r9 ≤ 7) → ((P_S_why r1 x2) ∧ (∀ r11 : Int32, r11 = F_S_why st r1 x2 → ((r11 ≤ 0 → ((P_S_ifFolded r1 x2) ∧ (∀ r14 : Int32, r14 = F_S_ifFolded st r1 x2 → ((P_S_fold st r1 x2) ∧ (∀ r16 : Int32, r16 = (F_S_fold st r1 x2).1 → (∀ x17 : St, x17 = (F_S_fold st r1 x2).2 → ((r16 = r14) ∧ ((P_S_letter x17 r1 2) ∧ (∀ r20 : Int32, r20 = F_S_letter x17 r1 2 → ((r20 = (r4 + 1)) ∧ ((P_S_crease x17 r1 r4) ∧ (∀ r23 : Int32, r23 = F_S_crease x17 r1 r4 → ((r23 = x2) ∧ ((P_S_letter x17 r1 10) ∧ (∀ r26 : Int32, r26 = F_S_letter x17 r1 10 → (r26 = (r6 + 1))))))))))))))))) ∧ (¬ r11 ≤ 0 → ((r4 = 60 → True) ∧ (¬ r4 = 60 → ((P_S_letter st r1 7) ∧ (∀ r30 : Int32, r30 = F_S_letter st r1 7 → (¬ r30 ≤ 0)))))))))) ∧ (¬ (0 ≤ r9 ∧ r9 ≤ 7) → ((r9 = 8 → (((r4 = 0 → True) ∧ (¬ r4 = 0 → (P_S_crease st r1 (r4 - 1)))) ∧ (∀ x35 : Int32, x35 = ((if r4 = 0 then ((-10)) else (let r34 : Int32 := F_S_crease st r1 (r4 - 1); r34))) → ((P_S_letter st r1 7) ∧ (∀ r37 : Int32, r37 = F_S_letter st r1 7 → (∀ x42 : Int32, x42 = ((if x35 = 0 then ((if (r37 &&& 1) = 1 then (1) else (0))) else ((if x35 ≤ 0 then (0) else ((if ((r37 >>> ((x35 - 1) &&& 31)) &&& 3) = 0 then (0) else (1))))))) → ((x35 < 0 → True) ∧ (¬ x35 < 0 → ((x42 = 0 → ((P_S_unfold st r1) ∧ (∀ r46 : Int32, r46 = (F_S_unfold st r1).1 → (∀ x47 : St, x47 = (F_S_unfold st r1).2 → ((r46 = x35) ∧ ((P_S_letter x47 r1 2) ∧ (∀ r50 : Int32, r50 = F_S_letter x47 r1 2 → ((r50 = (r4 - 1)) ∧ ((P_S_letter x47 r1 10) ∧ (∀ r53 : Int32, r53 = F_S_letter x47 r1 10 → (r53 = (r6 + 1)))))))))))) ∧ (¬ x42 = 0 → True)))))))))) ∧ (¬ r9 = 8 → ((r9 = 9 → ((P_S_press st r1) ∧ (∀ r57 : Int32, r57 = (F_S_press st r1).1 → (∀ x58 : St, x58 = (F_S_press st r1).2 → ((r57 = (r4 - r8)) ∧ ((P_S_letter x58 r1 2) ∧ (∀ r61 : Int32, r61 = F_S_letter x58 r1 2 → ((r61 = r8) ∧ ((P_S_letter x58 r1 10) ∧ (∀ r64 : Int32, r64 = F_S_letter x58 r1 10 → ((r64 = r6) ∧ ((P_S_press x58 r1) ∧ (∀ r67 : Int32, r67 = (F_S_press x58 r1).1 → (∀ x68 : St, x68 = (F_S_press x58 r1).2 → (r67 = 0))))))))))))))) ∧ (¬ r9 = 9 → ((r9 = 10 → (((w_ &&& 3) = 0 → ((P_S_smooth st r1) ∧ (∀ r72 : Int32, r72 = (F_S_smooth st r1).1 → (∀ x73 : St, x73 = (F_S_smooth st r1).2 → ((r72 = r8) ∧ ((P_S_letter x73 r1 0) ∧ (∀ r76 : Int32, r76 = F_S_letter x73 r1 0 → ((r76 = 0) ∧ ((P_S_letter x73 r1 2) ∧ (∀ r79 : Int32, r79 = F_S_letter x73 r1 2 → ((r79 = 0) ∧ ((P_S_letter x73 r1 7) ∧ (∀ r82 : Int32, r82 = F_S_letter x73 r1 7 → (r82 = 0)))))))))))))) ∧ (¬ (w_ &&& 3) = 0 → True))) ∧ (¬ r9 = 10 → ((r9 = 11 → (∀ r85 : Int32, r85 = F_L_low_5 w_ → (∀ r86 : Int32, r86 = F_L_low_5 (w_ >>> ((3 : Int32) &&& 31)) → ((P_S_letter st r85 0) ∧ (∀ r88 : Int32, r88 = F_S_letter st r85 0 → ((P_S_letter st r86 0) ∧ (∀ r90 : Int32, r90 = F_S_letter st r86 0 → (∀ x91 : Int32, x91 = (r88 + r90) - (r88 + r90) / 2 * 2 → ((P_S_product st r1 r85 r86) ∧ (∀ r93 : Int32, r93 = (F_S_product st r1 r85 r86).1 → (∀ x94 : St, x94 = (F_S_product st r1 r85 r86).2 → ((P_S_letter x94 r1 0) ∧ (∀ r96 : Int32, r96 = F_S_letter x94 r1 0 → ((r93 = r96) ∧ (((r93 - r93 / 2 * 2) = x91) ∧ ((P_S_letter x94 r1 2) ∧ (∀ r100 : Int32, r100 = F_S_letter x94 r1 2 → (r100 = r93)))))))))))))))))) ∧ (¬ r9 = 11 → ((r9 = 12 → (∀ r102 : Int32, r102 = F_L_low_5 w_ → ((P_S_letter st r102 0) ∧ (∀ r104 : Int32, r104 = F_S_letter st r102 0 → ((P_S_opposite st r1 r102) ∧ (∀ r106 : Int32, r106 = (F_S_opposite st r1 r102).1 → (∀ x107 : St, x107 = (F_S_opposite st r1 r102).2 → ((r106 = r104) ∧ ((P_S_letter x107 r1 7) ∧ (∀ r110 : Int32, r110 = F_S_letter x107 r1 7 → (r110 = 0))))))))))) ∧ (¬ r9 = 12 → (((13 ≤ r9 ∧ r9 ≤ 14) → (∀ x112 : Int32, x112 = w_ &&& 3 → ((P_S_letter st r1 7) ∧ (∀ r114 : Int32, r114 = F_S_letter st r1 7 → (∀ x116 : Int32, x116 = ((if ((r114 >>> (x112 &&& 31)) &&& 1) = 1 then (1) else (0))) → ((P_S_letter st r1 7) ∧ (∀ r118 : Int32, r118 = F_S_letter st r1 7 → (∀ r119 : Int32, r119 = F_L_ones r118 → ((x116 = 0 → ((P_S_layer r1 x112) ∧ (∀ r126 : Int32, r126 = F_S_layer st r1 x112 → ((r126 = (x112 + 1) → ((P_S_seal st r1 x112) ∧ (∀ r129 : Int32, r129 = (F_S_seal st r1 x112).1 → (∀ x130 : St, x130 = (F_S_seal st r1 x112).2 → (r129 = (r119 + 1)))))) ∧ (¬ r126 = (x112 + 1) → True))))) ∧ (¬ x116 = 0 → ((P_S_seal st r1 x112) ∧ (∀ r122 : Int32, r122 = (F_S_seal st r1 x112).1 → (∀ x123 : St, x123 = (F_S_seal st r1 x112).2 → (r122 = (r119 - 1))))))))))))))) ∧ (¬ (13 ≤ r9 ∧ r9 ≤ 14) → ((r9 = 15 → (∀ r133 : Int32, r133 = F_L_low_5 w_ → (∀ r134 : Int32, r134 = F_L_low_5 (w_ >>> ((3 : Int32) &&& 31)) → (P_L_areProducts st r133 r134 r1)))) ∧ (¬ r9 = 15 → (P_L_areNear st r1))))))))))))))))))))))))))
set_option maxRecDepth 20000 in
set_option maxHeartbeats 8000000 in
theorem m_L_does (l : Launch) (D : va_G) (cI cL cP cJ : ClassId) (fl : Nat) (pl : Nat) (a : Nat) (L : Nat → Nat) (h : Nat → Nat) (v : Nat → Nat) (pl2 : Nat) (hi : Nat) (sa : Nat) (tx : Nat) (u : Nat) (w : Nat) (me : Nat) (fo : Nat) (fd : Nat) (taken : Int32) (st : St) (v_ : Int32) (w_ : Int32) (hp : P_L_does st v_ w_) : M vI l yL_does cL_does 21 (some .boolean) 8 186 D (tyF cI cL cP cJ) [.ref fl, .int v_, .int w_] [sysB cI cL cP fl pl a L h v pl2 hi sa tx u w me fo fd taken st] (fun (r : Int32) (w1 : List va_W) => r = 1 ∧ w1 = [sysB cI cL cP fl pl a L h v pl2 hi sa tx u w me fo fd taken (F_L_does st v_ w_)]) := by
  unfold P_L_does at hp
  refine m_start (by decide +kernel) (Nat.le_of_ble_eq_true rfl) (fun p e s m args below meth c A Q hA hQ C hr hlo => ?_)
  refine r_Le (L' := [(0, .ref fl), (1, .int v_), (2, .int w_)]) rfl ?_
  refine r_iload_n C dL_does_0 1 rfl ?_
  refine r_iconst (v := 5) C dL_does_1 (by decide) ?_
  refine r_ishr C dL_does_2 rfl ?_
  refine r_iconst (v := 5) C dL_does_3 (by decide) ?_
  refine r_callS (wc := []) (wr := [sysB cI cL cP fl pl a L h v pl2 hi sa tx u w me fo fd taken st]) (st := []) C (m_L_low_5 l D cI cL cP cJ (v_ >>> ((5 : Int32) &&& 31))) k_L_low t_405 [0] (show ([0] : List Nat).Perm (List.range 1) by decide) rfl rfl rfl (Nat.le_of_ble_eq_true rfl) ⟨Nat.le_of_ble_eq_true rfl, Nat.le_of_ble_eq_true rfl⟩ ⟨Nat.zero_le _, Nat.zero_le _⟩ dL_does_4 (fun r1 wr1 hw1 => ?_)
  obtain ⟨e_r1, rfl⟩ := hw1
  have hp := hp r1 e_r1
  refine r_ws (I' := [sysB cI cL cP fl pl a L h v pl2 hi sa tx u w me fo fd taken st]) rfl ?_
  refine r_istore_n (L' := [(3, .int r1), (0, .ref fl), (1, .int v_), (2, .int w_)]) C dL_does_7 (by decide) rfl ?_
  refine r_iload_n C dL_does_8 2 rfl ?_
  refine r_bipush (v := 8) C dL_does_9 (by decide) ?_
  refine r_ishr C dL_does_11 rfl ?_
  refine r_iconst (v := 3) C dL_does_12 (by decide) ?_
  refine r_iand C dL_does_13 rfl ?_
  refine r_top (fun x2 e_x2 => ?_)
  have hp := hp x2 e_x2
  refine r_istore (L' := [(4, .int x2), (3, .int r1), (0, .ref fl), (1, .int v_), (2, .int w_)]) C dL_does_14 (by decide) rfl ?_
  refine r_aload_n C dL_does_16 2 rfl ?_
  refine r_iload_n C dL_does_17 1 rfl ?_
  refine r_iconst (v := 2) C dL_does_18 (by decide) ?_
  obtain ⟨h3, hp⟩ := hp
  refine r_callV (ci := 8) (wc := [sysB cI cL cP fl pl a L h v pl2 hi sa tx u w me fo fd taken st]) (wr := []) (st := []) C (m_S_letter l D cI cL cP cJ fl pl a L h v pl2 hi sa tx u w me fo fd taken st r1 2 h3) k_X10_letter t_412 [0] (show ([0] : List Nat).Perm (List.range 1) by decide) rfl rfl rfl (q0 := 0) rfl rfl rfl (Nat.le_of_ble_eq_true rfl) ⟨Nat.le_of_ble_eq_true rfl, Nat.le_of_ble_eq_true rfl⟩ ⟨Nat.zero_le _, Nat.zero_le _⟩ dL_does_19 (fun r4 wr4 hw4 => ?_)
  obtain ⟨e_r4, rfl⟩ := hw4
  have hp := hp r4 e_r4
  refine r_ws (I' := [sysB cI cL cP fl pl a L h v pl2 hi sa tx u w me fo fd taken st]) rfl ?_
  refine r_istore (L' := [(5, .int r4), (4, .int x2), (3, .int r1), (0, .ref fl), (1, .int v_), (2, .int w_)]) C dL_does_22 (by decide) rfl ?_
  refine r_aload_n C dL_does_24 3 rfl ?_
  refine r_iload_n C dL_does_25 2 rfl ?_
  refine r_bipush (v := 10) C dL_does_26 (by decide) ?_
  obtain ⟨h5, hp⟩ := hp
  refine r_callV (ci := 8) (wc := [sysB cI cL cP fl pl a L h v pl2 hi sa tx u w me fo fd taken st]) (wr := []) (st := []) C (m_S_letter l D cI cL cP cJ fl pl a L h v pl2 hi sa tx u w me fo fd taken st r1 10 h5) k_X10_letter t_412 [0] (show ([0] : List Nat).Perm (List.range 1) by decide) rfl rfl rfl (q0 := 0) rfl rfl rfl (Nat.le_of_ble_eq_true rfl) ⟨Nat.le_of_ble_eq_true rfl, Nat.le_of_ble_eq_true rfl⟩ ⟨Nat.zero_le _, Nat.zero_le _⟩ dL_does_28 (fun r6 wr6 hw6 => ?_)
  obtain ⟨e_r6, rfl⟩ := hw6
  have hp := hp r6 e_r6
  refine r_ws (I' := [sysB cI cL cP fl pl a L h v pl2 hi sa tx u w me fo fd taken st]) rfl ?_
  refine r_istore (L' := [(6, .int r6), (5, .int r4), (4, .int x2), (3, .int r1), (0, .ref fl), (1, .int v_), (2, .int w_)]) C dL_does_31 (by decide) rfl ?_
  refine r_aload_n C dL_does_33 4 rfl ?_
  refine r_iload_n C dL_does_34 3 rfl ?_
  refine r_iconst (v := 0) C dL_does_35 (by decide) ?_
  obtain ⟨h7, hp⟩ := hp
  refine r_callV (ci := 8) (wc := [sysB cI cL cP fl pl a L h v pl2 hi sa tx u w me fo fd taken st]) (wr := []) (st := []) C (m_S_letter l D cI cL cP cJ fl pl a L h v pl2 hi sa tx u w me fo fd taken st r1 0 h7) k_X10_letter t_412 [0] (show ([0] : List Nat).Perm (List.range 1) by decide) rfl rfl rfl (q0 := 0) rfl rfl rfl (Nat.le_of_ble_eq_true rfl) ⟨Nat.le_of_ble_eq_true rfl, Nat.le_of_ble_eq_true rfl⟩ ⟨Nat.zero_le _, Nat.zero_le _⟩ dL_does_36 (fun r8 wr8 hw8 => ?_)
  obtain ⟨e_r8, rfl⟩ := hw8
  have hp := hp r8 e_r8
  refine r_ws (I' := [sysB cI cL cP fl pl a L h v pl2 hi sa tx u w me fo fd taken st]) rfl ?_
  refine r_istore (L' := [(7, .int r8), (6, .int r6), (5, .int r4), (4, .int x2), (3, .int r1), (0, .ref fl), (1, .int v_), (2, .int w_)]) C dL_does_39 (by decide) rfl ?_
  refine r_iload_n C dL_does_41 6 rfl ?_
  refine r_bipush (v := 18) C dL_does_42 (by decide) ?_
  refine r_callS (wc := []) (wr := [sysB cI cL cP fl pl a L h v pl2 hi sa tx u w me fo fd taken st]) (st := []) C (m_L_low_18 l D cI cL cP cJ v_) k_L_low t_405 [0] (show ([0] : List Nat).Perm (List.range 1) by decide) rfl rfl rfl (Nat.le_of_ble_eq_true rfl) ⟨Nat.le_of_ble_eq_true rfl, Nat.le_of_ble_eq_true rfl⟩ ⟨Nat.zero_le _, Nat.zero_le _⟩ dL_does_44 (fun r9 wr9 hw9 => ?_)
  obtain ⟨e_r9, rfl⟩ := hw9
  have hp := hp r9 e_r9
  refine r_ws (I' := [sysB cI cL cP fl pl a L h v pl2 hi sa tx u w me fo fd taken st]) rfl ?_
  by_cases c140 : (0 ≤ r9 ∧ r9 ≤ 7)
  · have hp := hp.1 c140
    refine r_tinR (tgt := 124) (off := 77) C dL_does_47 (sw_in c140 (by decide) (by decide) (by decide) (by decide) (by decide)) (by decide) ?_
    refine r_aload_n C dL_does_124 5 rfl ?_
    refine r_iload_n C dL_does_125 4 rfl ?_
    refine r_iload C dL_does_126 3 rfl ?_
    obtain ⟨h10, hp⟩ := hp
    refine r_callV (ci := 8) (wc := [sysB cI cL cP fl pl a L h v pl2 hi sa tx u w me fo fd taken st]) (wr := []) (st := []) C (m_S_why l D cI cL cP cJ fl pl a L h v pl2 hi sa tx u w me fo fd taken st r1 x2 h10) k_X10_why t_466 [0] (show ([0] : List Nat).Perm (List.range 1) by decide) rfl rfl rfl (q0 := 0) rfl rfl rfl (Nat.le_of_ble_eq_true rfl) ⟨Nat.le_of_ble_eq_true rfl, Nat.le_of_ble_eq_true rfl⟩ ⟨Nat.zero_le _, Nat.zero_le _⟩ dL_does_128 (fun r11 wr11 hw11 => ?_)
    obtain ⟨e_r11, rfl⟩ := hw11
    have hp := hp r11 e_r11
    refine r_ws (I' := [sysB cI cL cP fl pl a L h v pl2 hi sa tx u w me fo fd taken st]) rfl ?_
    refine r_if_le (tgt := 157) C dL_does_131 (by decide) (fun c12 => ?_) (fun c12 => ?_)
    · have hp := hp.1 c12
      refine r_aload_n C dL_does_157 5 rfl ?_
      refine r_iload_n C dL_does_158 4 rfl ?_
      refine r_iload C dL_does_159 3 rfl ?_
      obtain ⟨h13, hp⟩ := hp
      refine r_callV (ci := 8) (wc := [sysB cI cL cP fl pl a L h v pl2 hi sa tx u w me fo fd taken st]) (wr := []) (st := []) C (m_S_ifFolded l D cI cL cP cJ fl pl a L h v pl2 hi sa tx u w me fo fd taken st r1 x2 h13) k_X10_ifFolded t_456 [0] (show ([0] : List Nat).Perm (List.range 1) by decide) rfl rfl rfl (q0 := 0) rfl rfl rfl (Nat.le_of_ble_eq_true rfl) ⟨Nat.le_of_ble_eq_true rfl, Nat.le_of_ble_eq_true rfl⟩ ⟨Nat.zero_le _, Nat.zero_le _⟩ dL_does_161 (fun r14 wr14 hw14 => ?_)
      obtain ⟨e_r14, rfl⟩ := hw14
      have hp := hp r14 e_r14
      refine r_ws (I' := [sysB cI cL cP fl pl a L h v pl2 hi sa tx u w me fo fd taken st]) rfl ?_
      refine r_istore (L' := [(8, .int r14), (7, .int r8), (6, .int r6), (5, .int r4), (4, .int x2), (3, .int r1), (0, .ref fl), (1, .int v_), (2, .int w_)]) C dL_does_164 (by decide) rfl ?_
      refine r_aload_n C dL_does_166 6 rfl ?_
      refine r_iload_n C dL_does_167 5 rfl ?_
      refine r_iload C dL_does_168 4 rfl ?_
      obtain ⟨h15, hp⟩ := hp
      refine r_callV (ci := 8) (wc := [sysB cI cL cP fl pl a L h v pl2 hi sa tx u w me fo fd taken st]) (wr := []) (st := []) C (m_S_fold l D cI cL cP cJ fl pl a L h v pl2 hi sa tx u w me fo fd taken st r1 x2 h15) k_X10_fold t_513 [0] (show ([0] : List Nat).Perm (List.range 1) by decide) rfl rfl rfl (q0 := 0) rfl rfl rfl (Nat.le_of_ble_eq_true rfl) ⟨Nat.le_of_ble_eq_true rfl, Nat.le_of_ble_eq_true rfl⟩ ⟨Nat.zero_le _, Nat.zero_le _⟩ dL_does_170 (fun r16 wr16 hw16 => ?_)
      obtain ⟨e_r16, rfl⟩ := hw16
      have hp := hp r16 e_r16
      obtain ⟨x17, e_x17⟩ : ∃ z : St, z = (F_S_fold st r1 x2).2 := ⟨_, rfl⟩
      have hp := hp x17 e_x17
      refine r_ws (I' := [sysB cI cL cP fl pl a L h v pl2 hi sa tx u w me fo fd taken x17]) (by rw [e_x17]; rfl) ?_
      refine r_iload C dL_does_173 0 rfl ?_
      obtain ⟨h18, hp⟩ := hp
      refine r_icmp_ne (tgt := 221) C dL_does_175 (by decide) (fun c => absurd h18 c) (fun _ => ?_)
      refine r_aload_n C dL_does_178 6 rfl ?_
      refine r_iload_n C dL_does_179 5 rfl ?_
      refine r_iconst (v := 2) C dL_does_180 (by decide) ?_
      obtain ⟨h19, hp⟩ := hp
      refine r_callV (ci := 8) (wc := [sysB cI cL cP fl pl a L h v pl2 hi sa tx u w me fo fd taken x17]) (wr := []) (st := []) C (m_S_letter l D cI cL cP cJ fl pl a L h v pl2 hi sa tx u w me fo fd taken x17 r1 2 h19) k_X10_letter t_412 [0] (show ([0] : List Nat).Perm (List.range 1) by decide) rfl rfl rfl (q0 := 0) rfl rfl rfl (Nat.le_of_ble_eq_true rfl) ⟨Nat.le_of_ble_eq_true rfl, Nat.le_of_ble_eq_true rfl⟩ ⟨Nat.zero_le _, Nat.zero_le _⟩ dL_does_181 (fun r20 wr20 hw20 => ?_)
      obtain ⟨e_r20, rfl⟩ := hw20
      have hp := hp r20 e_r20
      refine r_ws (I' := [sysB cI cL cP fl pl a L h v pl2 hi sa tx u w me fo fd taken x17]) rfl ?_
      refine r_iload C dL_does_184 3 rfl ?_
      refine r_iconst (v := 1) C dL_does_186 (by decide) ?_
      refine r_iadd C dL_does_187 rfl ?_
      obtain ⟨h21, hp⟩ := hp
      refine r_icmp_ne (tgt := 221) C dL_does_188 (by decide) (fun c => absurd h21 c) (fun _ => ?_)
      refine r_aload_n C dL_does_191 6 rfl ?_
      refine r_iload_n C dL_does_192 5 rfl ?_
      refine r_iload C dL_does_193 3 rfl ?_
      obtain ⟨h22, hp⟩ := hp
      refine r_callV (ci := 8) (wc := [sysB cI cL cP fl pl a L h v pl2 hi sa tx u w me fo fd taken x17]) (wr := []) (st := []) C (m_S_crease l D cI cL cP cJ fl pl a L h v pl2 hi sa tx u w me fo fd taken x17 r1 r4 h22) k_X10_crease t_419 [0] (show ([0] : List Nat).Perm (List.range 1) by decide) rfl rfl rfl (q0 := 0) rfl rfl rfl (Nat.le_of_ble_eq_true rfl) ⟨Nat.le_of_ble_eq_true rfl, Nat.le_of_ble_eq_true rfl⟩ ⟨Nat.zero_le _, Nat.zero_le _⟩ dL_does_195 (fun r23 wr23 hw23 => ?_)
      obtain ⟨e_r23, rfl⟩ := hw23
      have hp := hp r23 e_r23
      refine r_ws (I' := [sysB cI cL cP fl pl a L h v pl2 hi sa tx u w me fo fd taken x17]) rfl ?_
      refine r_iload C dL_does_198 4 rfl ?_
      obtain ⟨h24, hp⟩ := hp
      refine r_icmp_ne (tgt := 221) C dL_does_200 (by decide) (fun c => absurd h24 c) (fun _ => ?_)
      refine r_aload_n C dL_does_203 6 rfl ?_
      refine r_iload_n C dL_does_204 5 rfl ?_
      refine r_bipush (v := 10) C dL_does_205 (by decide) ?_
      obtain ⟨h25, hp⟩ := hp
      refine r_callV (ci := 8) (wc := [sysB cI cL cP fl pl a L h v pl2 hi sa tx u w me fo fd taken x17]) (wr := []) (st := []) C (m_S_letter l D cI cL cP cJ fl pl a L h v pl2 hi sa tx u w me fo fd taken x17 r1 10 h25) k_X10_letter t_412 [0] (show ([0] : List Nat).Perm (List.range 1) by decide) rfl rfl rfl (q0 := 0) rfl rfl rfl (Nat.le_of_ble_eq_true rfl) ⟨Nat.le_of_ble_eq_true rfl, Nat.le_of_ble_eq_true rfl⟩ ⟨Nat.zero_le _, Nat.zero_le _⟩ dL_does_207 (fun r26 wr26 hw26 => ?_)
      obtain ⟨e_r26, rfl⟩ := hw26
      have hp := hp r26 e_r26
      refine r_ws (I' := [sysB cI cL cP fl pl a L h v pl2 hi sa tx u w me fo fd taken x17]) rfl ?_
      refine r_iload C dL_does_210 2 rfl ?_
      refine r_iconst (v := 1) C dL_does_212 (by decide) ?_
      refine r_iadd C dL_does_213 rfl ?_
      have h27 := hp
      refine r_icmp_ne (tgt := 221) C dL_does_214 (by decide) (fun c => absurd h27 c) (fun _ => ?_)
      refine r_iconst (v := 1) C dL_does_217 (by decide) ?_
      refine r_goto (tgt := 222) C dL_does_218 (by decide) ?_
      have eF : F_L_does st v_ w_ = x17 := by have q := e_r1.symm; subst q; have q := e_x2.symm; subst q; have q := e_r4.symm; subst q; have q := e_r6.symm; subst q; have q := e_r8.symm; subst q; have q := e_r9.symm; subst q; have q := e_r11.symm; subst q; have q := e_r14.symm; subst q; have q := e_r16.symm; subst q; have q := e_x17.symm; subst q; have q := e_r20.symm; subst q; have q := e_r23.symm; subst q; have q := e_r26.symm; subst q; simp only [F_L_does, if_pos c140, if_pos c12]
      exact r_zret (r := 1) C hA hr hlo (rfl) dL_does_222 [sysB cI cL cP fl pl a L h v pl2 hi sa tx u w me fo fd taken x17] ⟨rfl, by simp only [eF]⟩ rfl hQ
    · have hp := hp.2 c12
      refine r_iload C dL_does_134 2 rfl ?_
      refine r_bipush (v := 60) C dL_does_136 (by decide) ?_
      have hps := hp
      suffices K :  V p l e (rmm 8 186) s m args below meth c 21 D A 0 0 Q [sysB cI cL cP fl pl a L h v pl2 hi sa tx u w me fo fd taken st] [(7, .int r8), (6, .int r6), (5, .int r4), (4, .int x2), (3, .int r1), (0, .ref fl), (1, .int v_), (2, .int w_)] 151 [] by
        have hp := hps
        refine r_icmp_eq (tgt := 151) C dL_does_138 (by decide) (fun c28 => ?_) (fun c28 => ?_)
        · exact K 
        · have hp := hp.2 c28
          refine r_aload_n C dL_does_141 5 rfl ?_
          refine r_iload_n C dL_does_142 4 rfl ?_
          refine r_bipush (v := 7) C dL_does_143 (by decide) ?_
          obtain ⟨h29, hp⟩ := hp
          refine r_callV (ci := 8) (wc := [sysB cI cL cP fl pl a L h v pl2 hi sa tx u w me fo fd taken st]) (wr := []) (st := []) C (m_S_letter l D cI cL cP cJ fl pl a L h v pl2 hi sa tx u w me fo fd taken st r1 7 h29) k_X10_letter t_412 [0] (show ([0] : List Nat).Perm (List.range 1) by decide) rfl rfl rfl (q0 := 0) rfl rfl rfl (Nat.le_of_ble_eq_true rfl) ⟨Nat.le_of_ble_eq_true rfl, Nat.le_of_ble_eq_true rfl⟩ ⟨Nat.zero_le _, Nat.zero_le _⟩ dL_does_145 (fun r30 wr30 hw30 => ?_)
          obtain ⟨e_r30, rfl⟩ := hw30
          have hp := hp r30 e_r30
          refine r_ws (I' := [sysB cI cL cP fl pl a L h v pl2 hi sa tx u w me fo fd taken st]) rfl ?_
          have h31 := hp
          refine r_if_le (tgt := 155) C dL_does_148 (by decide) (fun c => absurd c h31) (fun _ => ?_)
          exact K 
      skip
      refine r_iconst (v := 1) C dL_does_151 (by decide) ?_
      refine r_goto (tgt := 156) C dL_does_152 (by decide) ?_
      have eF : F_L_does st v_ w_ = st := by have q := e_r1.symm; subst q; have q := e_x2.symm; subst q; have q := e_r4.symm; subst q; have q := e_r6.symm; subst q; have q := e_r8.symm; subst q; have q := e_r9.symm; subst q; have q := e_r11.symm; subst q; simp only [F_L_does, if_pos c140, if_neg c12]
      exact r_zret (r := 1) C hA hr hlo (rfl) dL_does_156 [sysB cI cL cP fl pl a L h v pl2 hi sa tx u w me fo fd taken st] ⟨rfl, by simp only [eF]⟩ rfl hQ
  have hp := hp.2 c140
  by_cases c141 : r9 = 8
  · have hp := hp.1 c141
    refine r_tin (tgt := 223) (off := 176) C dL_does_47 c141 (by decide) (by decide) (by decide) (by decide) ?_
    refine r_iload C dL_does_223 2 rfl ?_
    obtain ⟨hps, hp⟩ := hp
    suffices K : ∀ x35 : Int32, x35 = ((if r4 = 0 then ((-10)) else (let r34 : Int32 := F_S_crease st r1 (r4 - 1); r34))) → V p l e (rmm 8 186) s m args below meth c 21 D A 0 0 Q [sysB cI cL cP fl pl a L h v pl2 hi sa tx u w me fo fd taken st] [(7, .int r8), (6, .int r6), (5, .int r4), (4, .int x2), (3, .int r1), (0, .ref fl), (1, .int v_), (2, .int w_)] 242 [.int x35] by
      have hp := hps
      refine r_if_ne (tgt := 233) C dL_does_225 (by decide) (fun c32 => ?_) (fun c32 => ?_)
      · have hp := hp.2 c32
        refine r_aload_n C dL_does_233 5 rfl ?_
        refine r_iload_n C dL_does_234 4 rfl ?_
        refine r_iload C dL_does_235 2 rfl ?_
        refine r_iconst (v := 1) C dL_does_237 (by decide) ?_
        refine r_isub C dL_does_238 rfl ?_
        have h33 := hp
        refine r_callV (ci := 8) (wc := [sysB cI cL cP fl pl a L h v pl2 hi sa tx u w me fo fd taken st]) (wr := []) (st := []) C (m_S_crease l D cI cL cP cJ fl pl a L h v pl2 hi sa tx u w me fo fd taken st r1 (r4 - 1) h33) k_X10_crease t_419 [0] (show ([0] : List Nat).Perm (List.range 1) by decide) rfl rfl rfl (q0 := 0) rfl rfl rfl (Nat.le_of_ble_eq_true rfl) ⟨Nat.le_of_ble_eq_true rfl, Nat.le_of_ble_eq_true rfl⟩ ⟨Nat.zero_le _, Nat.zero_le _⟩ dL_does_239 (fun r34 wr34 hw34 => ?_)
        obtain ⟨e_r34, rfl⟩ := hw34
        refine r_ws (I' := [sysB cI cL cP fl pl a L h v pl2 hi sa tx u w me fo fd taken st]) rfl ?_
        exact K _ (by have q := e_r34.symm; subst q; simp only [if_neg c32])
      · refine r_bipush (v := (-10)) C dL_does_228 (by decide) ?_
        refine r_goto (tgt := 242) C dL_does_230 (by decide) ?_
        exact K _ (by simp only [if_pos c32])
    intro x35 e_x35
    have hp := hp x35 e_x35
    refine r_istore (L' := [(9, .int x35), (7, .int r8), (6, .int r6), (5, .int r4), (4, .int x2), (3, .int r1), (0, .ref fl), (1, .int v_), (2, .int w_)]) C dL_does_242 (by decide) rfl ?_
    refine r_aload_n C dL_does_244 6 rfl ?_
    refine r_iload_n C dL_does_245 5 rfl ?_
    refine r_bipush (v := 7) C dL_does_246 (by decide) ?_
    obtain ⟨h36, hp⟩ := hp
    refine r_callV (ci := 8) (wc := [sysB cI cL cP fl pl a L h v pl2 hi sa tx u w me fo fd taken st]) (wr := []) (st := []) C (m_S_letter l D cI cL cP cJ fl pl a L h v pl2 hi sa tx u w me fo fd taken st r1 7 h36) k_X10_letter t_412 [0] (show ([0] : List Nat).Perm (List.range 1) by decide) rfl rfl rfl (q0 := 0) rfl rfl rfl (Nat.le_of_ble_eq_true rfl) ⟨Nat.le_of_ble_eq_true rfl, Nat.le_of_ble_eq_true rfl⟩ ⟨Nat.zero_le _, Nat.zero_le _⟩ dL_does_248 (fun r37 wr37 hw37 => ?_)
    obtain ⟨e_r37, rfl⟩ := hw37
    have hp := hp r37 e_r37
    refine r_ws (I' := [sysB cI cL cP fl pl a L h v pl2 hi sa tx u w me fo fd taken st]) rfl ?_
    refine r_istore (L' := [(10, .int r37), (9, .int x35), (7, .int r8), (6, .int r6), (5, .int r4), (4, .int x2), (3, .int r1), (0, .ref fl), (1, .int v_), (2, .int w_)]) C dL_does_251 (by decide) rfl ?_
    refine r_iload C dL_does_253 1 rfl ?_
    suffices K : ∀ x42 : Int32, x42 = ((if x35 = 0 then ((if (r37 &&& 1) = 1 then (1) else (0))) else ((if x35 ≤ 0 then (0) else ((if ((r37 >>> ((x35 - 1) &&& 31)) &&& 3) = 0 then (0) else (1))))))) → V p l e (rmm 8 186) s m args below meth c 21 D A 0 0 Q [sysB cI cL cP fl pl a L h v pl2 hi sa tx u w me fo fd taken st] [(10, .int r37), (9, .int x35), (7, .int r8), (6, .int r6), (5, .int r4), (4, .int x2), (3, .int r1), (0, .ref fl), (1, .int v_), (2, .int w_)] 296 [.int x42] by
      refine r_if_ne (tgt := 274) C dL_does_255 (by decide) (fun c38 => ?_) (fun c38 => ?_)
      · refine r_iload C dL_does_274 1 rfl ?_
        refine r_if_le (tgt := 295) C dL_does_276 (by decide) (fun c39 => ?_) (fun c39 => ?_)
        · refine r_iconst (v := 0) C dL_does_295 (by decide) ?_
          exact K _ (by simp only [if_neg c38, if_pos c39])
        · refine r_iload C dL_does_279 0 rfl ?_
          refine r_iload C dL_does_281 1 rfl ?_
          refine r_iconst (v := 1) C dL_does_283 (by decide) ?_
          refine r_isub C dL_does_284 rfl ?_
          refine r_ishr C dL_does_285 rfl ?_
          refine r_iconst (v := 3) C dL_does_286 (by decide) ?_
          refine r_iand C dL_does_287 rfl ?_
          refine r_if_eq (tgt := 295) C dL_does_288 (by decide) (fun c40 => ?_) (fun c40 => ?_)
          · refine r_iconst (v := 0) C dL_does_295 (by decide) ?_
            exact K _ (by simp only [if_neg c38, if_neg c39, if_pos c40])
          · refine r_iconst (v := 1) C dL_does_291 (by decide) ?_
            refine r_goto (tgt := 296) C dL_does_292 (by decide) ?_
            exact K _ (by simp only [if_neg c38, if_neg c39, if_neg c40])
      · refine r_iload C dL_does_258 0 rfl ?_
        refine r_iconst (v := 1) C dL_does_260 (by decide) ?_
        refine r_iand C dL_does_261 rfl ?_
        refine r_iconst (v := 1) C dL_does_262 (by decide) ?_
        refine r_icmp_ne (tgt := 270) C dL_does_263 (by decide) (fun c41 => ?_) (fun c41 => ?_)
        · refine r_iconst (v := 0) C dL_does_270 (by decide) ?_
          refine r_goto (tgt := 296) C dL_does_271 (by decide) ?_
          exact K _ (by simp only [if_pos c38, if_neg c41])
        · refine r_iconst (v := 1) C dL_does_266 (by decide) ?_
          refine r_goto (tgt := 296) C dL_does_267 (by decide) ?_
          exact K _ (by simp only [if_pos c38, if_pos c41])
    intro x42 e_x42
    have hp := hp x42 e_x42
    refine r_istore (L' := [(11, .int x42), (10, .int r37), (9, .int x35), (7, .int r8), (6, .int r6), (5, .int r4), (4, .int x2), (3, .int r1), (0, .ref fl), (1, .int v_), (2, .int w_)]) C dL_does_296 (by decide) rfl ?_
    refine r_iload C dL_does_298 2 rfl ?_
    have hps := hp
    suffices K : ∀ g55 : St, g55 = ((if x35 < 0 then (st) else ((if x42 = 0 then (let x47 : St := (F_S_unfold st r1).2; x47) else (st))))) → V p l e (rmm 8 186) s m args below meth c 21 D A 0 0 Q [sysB cI cL cP fl pl a L h v pl2 hi sa tx u w me fo fd taken g55] [(11, .int x42), (10, .int r37), (9, .int x35), (7, .int r8), (6, .int r6), (5, .int r4), (4, .int x2), (3, .int r1), (0, .ref fl), (1, .int v_), (2, .int w_)] 345 [] by
      have hp := hps
      refine r_if_lt (tgt := 345) C dL_does_300 (by decide) (fun c43 => ?_) (fun c43 => ?_)
      · exact K _ (by simp only [if_pos c43])
      · have hp := hp.2 c43
        refine r_iload C dL_does_303 0 rfl ?_
        refine r_if_ne (tgt := 345) C dL_does_305 (by decide) (fun c44 => ?_) (fun c44 => ?_)
        · exact K _ (by simp only [if_neg c43, if_neg c44])
        · have hp := hp.1 c44
          refine r_aload_n C dL_does_308 8 rfl ?_
          refine r_iload_n C dL_does_309 7 rfl ?_
          obtain ⟨h45, hp⟩ := hp
          refine r_callV (ci := 8) (wc := [sysB cI cL cP fl pl a L h v pl2 hi sa tx u w me fo fd taken st]) (wr := []) (st := []) C (m_S_unfold l D cI cL cP cJ fl pl a L h v pl2 hi sa tx u w me fo fd taken st r1 h45) k_X10_unfold t_568 [0] (show ([0] : List Nat).Perm (List.range 1) by decide) rfl rfl rfl (q0 := 0) rfl rfl rfl (Nat.le_of_ble_eq_true rfl) ⟨Nat.le_of_ble_eq_true rfl, Nat.le_of_ble_eq_true rfl⟩ ⟨Nat.zero_le _, Nat.zero_le _⟩ dL_does_310 (fun r46 wr46 hw46 => ?_)
          obtain ⟨e_r46, rfl⟩ := hw46
          have hp := hp r46 e_r46
          obtain ⟨x47, e_x47⟩ : ∃ z : St, z = (F_S_unfold st r1).2 := ⟨_, rfl⟩
          have hp := hp x47 e_x47
          refine r_ws (I' := [sysB cI cL cP fl pl a L h v pl2 hi sa tx u w me fo fd taken x47]) (by rw [e_x47]; rfl) ?_
          refine r_iload C dL_does_313 2 rfl ?_
          obtain ⟨h48, hp⟩ := hp
          refine r_icmp_ne (tgt := 349) C dL_does_315 (by decide) (fun c => absurd h48 c) (fun _ => ?_)
          refine r_aload_n C dL_does_318 8 rfl ?_
          refine r_iload_n C dL_does_319 7 rfl ?_
          refine r_iconst (v := 2) C dL_does_320 (by decide) ?_
          obtain ⟨h49, hp⟩ := hp
          refine r_callV (ci := 8) (wc := [sysB cI cL cP fl pl a L h v pl2 hi sa tx u w me fo fd taken x47]) (wr := []) (st := []) C (m_S_letter l D cI cL cP cJ fl pl a L h v pl2 hi sa tx u w me fo fd taken x47 r1 2 h49) k_X10_letter t_412 [0] (show ([0] : List Nat).Perm (List.range 1) by decide) rfl rfl rfl (q0 := 0) rfl rfl rfl (Nat.le_of_ble_eq_true rfl) ⟨Nat.le_of_ble_eq_true rfl, Nat.le_of_ble_eq_true rfl⟩ ⟨Nat.zero_le _, Nat.zero_le _⟩ dL_does_321 (fun r50 wr50 hw50 => ?_)
          obtain ⟨e_r50, rfl⟩ := hw50
          have hp := hp r50 e_r50
          refine r_ws (I' := [sysB cI cL cP fl pl a L h v pl2 hi sa tx u w me fo fd taken x47]) rfl ?_
          refine r_iload C dL_does_324 5 rfl ?_
          refine r_iconst (v := 1) C dL_does_326 (by decide) ?_
          refine r_isub C dL_does_327 rfl ?_
          obtain ⟨h51, hp⟩ := hp
          refine r_icmp_ne (tgt := 349) C dL_does_328 (by decide) (fun c => absurd h51 c) (fun _ => ?_)
          refine r_aload_n C dL_does_331 8 rfl ?_
          refine r_iload_n C dL_does_332 7 rfl ?_
          refine r_bipush (v := 10) C dL_does_333 (by decide) ?_
          obtain ⟨h52, hp⟩ := hp
          refine r_callV (ci := 8) (wc := [sysB cI cL cP fl pl a L h v pl2 hi sa tx u w me fo fd taken x47]) (wr := []) (st := []) C (m_S_letter l D cI cL cP cJ fl pl a L h v pl2 hi sa tx u w me fo fd taken x47 r1 10 h52) k_X10_letter t_412 [0] (show ([0] : List Nat).Perm (List.range 1) by decide) rfl rfl rfl (q0 := 0) rfl rfl rfl (Nat.le_of_ble_eq_true rfl) ⟨Nat.le_of_ble_eq_true rfl, Nat.le_of_ble_eq_true rfl⟩ ⟨Nat.zero_le _, Nat.zero_le _⟩ dL_does_335 (fun r53 wr53 hw53 => ?_)
          obtain ⟨e_r53, rfl⟩ := hw53
          have hp := hp r53 e_r53
          refine r_ws (I' := [sysB cI cL cP fl pl a L h v pl2 hi sa tx u w me fo fd taken x47]) rfl ?_
          refine r_iload C dL_does_338 4 rfl ?_
          refine r_iconst (v := 1) C dL_does_340 (by decide) ?_
          refine r_iadd C dL_does_341 rfl ?_
          have h54 := hp
          refine r_icmp_ne (tgt := 349) C dL_does_342 (by decide) (fun c => absurd h54 c) (fun _ => ?_)
          exact K _ (by have q := e_r46.symm; subst q; have q := e_x47.symm; subst q; have q := e_r50.symm; subst q; have q := e_r53.symm; subst q; simp only [if_neg c43, if_pos c44])
    intro g55 e_g55
    refine r_iconst (v := 1) C dL_does_345 (by decide) ?_
    refine r_goto (tgt := 350) C dL_does_346 (by decide) ?_
    have eF : F_L_does st v_ w_ = g55 := by have q := e_r1.symm; subst q; have q := e_x2.symm; subst q; have q := e_r4.symm; subst q; have q := e_r6.symm; subst q; have q := e_r8.symm; subst q; have q := e_r9.symm; subst q; have q := e_x35.symm; subst q; have q := e_r37.symm; subst q; have q := e_x42.symm; subst q; have q := e_g55.symm; subst q; simp only [F_L_does, if_neg c140, if_pos c141]
    exact r_zret (r := 1) C hA hr hlo (rfl) dL_does_350 [sysB cI cL cP fl pl a L h v pl2 hi sa tx u w me fo fd taken g55] ⟨rfl, by simp only [eF]⟩ rfl hQ
  have hp := hp.2 c141
  by_cases c142 : r9 = 9
  · have hp := hp.1 c142
    refine r_tin (tgt := 351) (off := 304) C dL_does_47 c142 (by decide) (by decide) (by decide) (by decide) ?_
    refine r_aload_n C dL_does_351 5 rfl ?_
    refine r_iload_n C dL_does_352 4 rfl ?_
    obtain ⟨h56, hp⟩ := hp
    refine r_callV (ci := 8) (wc := [sysB cI cL cP fl pl a L h v pl2 hi sa tx u w me fo fd taken st]) (wr := []) (st := []) C (m_S_press l D cI cL cP cJ fl pl a L h v pl2 hi sa tx u w me fo fd taken st r1 h56) k_X10_press t_588 [0] (show ([0] : List Nat).Perm (List.range 1) by decide) rfl rfl rfl (q0 := 0) rfl rfl rfl (Nat.le_of_ble_eq_true rfl) ⟨Nat.le_of_ble_eq_true rfl, Nat.le_of_ble_eq_true rfl⟩ ⟨Nat.zero_le _, Nat.zero_le _⟩ dL_does_353 (fun r57 wr57 hw57 => ?_)
    obtain ⟨e_r57, rfl⟩ := hw57
    have hp := hp r57 e_r57
    obtain ⟨x58, e_x58⟩ : ∃ z : St, z = (F_S_press st r1).2 := ⟨_, rfl⟩
    have hp := hp x58 e_x58
    refine r_ws (I' := [sysB cI cL cP fl pl a L h v pl2 hi sa tx u w me fo fd taken x58]) (by rw [e_x58]; rfl) ?_
    refine r_iload C dL_does_356 2 rfl ?_
    refine r_iload C dL_does_358 0 rfl ?_
    refine r_isub C dL_does_360 rfl ?_
    obtain ⟨h59, hp⟩ := hp
    refine r_icmp_ne (tgt := 399) C dL_does_361 (by decide) (fun c => absurd h59 c) (fun _ => ?_)
    refine r_aload_n C dL_does_364 5 rfl ?_
    refine r_iload_n C dL_does_365 4 rfl ?_
    refine r_iconst (v := 2) C dL_does_366 (by decide) ?_
    obtain ⟨h60, hp⟩ := hp
    refine r_callV (ci := 8) (wc := [sysB cI cL cP fl pl a L h v pl2 hi sa tx u w me fo fd taken x58]) (wr := []) (st := []) C (m_S_letter l D cI cL cP cJ fl pl a L h v pl2 hi sa tx u w me fo fd taken x58 r1 2 h60) k_X10_letter t_412 [0] (show ([0] : List Nat).Perm (List.range 1) by decide) rfl rfl rfl (q0 := 0) rfl rfl rfl (Nat.le_of_ble_eq_true rfl) ⟨Nat.le_of_ble_eq_true rfl, Nat.le_of_ble_eq_true rfl⟩ ⟨Nat.zero_le _, Nat.zero_le _⟩ dL_does_367 (fun r61 wr61 hw61 => ?_)
    obtain ⟨e_r61, rfl⟩ := hw61
    have hp := hp r61 e_r61
    refine r_ws (I' := [sysB cI cL cP fl pl a L h v pl2 hi sa tx u w me fo fd taken x58]) rfl ?_
    refine r_iload C dL_does_370 0 rfl ?_
    obtain ⟨h62, hp⟩ := hp
    refine r_icmp_ne (tgt := 399) C dL_does_372 (by decide) (fun c => absurd h62 c) (fun _ => ?_)
    refine r_aload_n C dL_does_375 5 rfl ?_
    refine r_iload_n C dL_does_376 4 rfl ?_
    refine r_bipush (v := 10) C dL_does_377 (by decide) ?_
    obtain ⟨h63, hp⟩ := hp
    refine r_callV (ci := 8) (wc := [sysB cI cL cP fl pl a L h v pl2 hi sa tx u w me fo fd taken x58]) (wr := []) (st := []) C (m_S_letter l D cI cL cP cJ fl pl a L h v pl2 hi sa tx u w me fo fd taken x58 r1 10 h63) k_X10_letter t_412 [0] (show ([0] : List Nat).Perm (List.range 1) by decide) rfl rfl rfl (q0 := 0) rfl rfl rfl (Nat.le_of_ble_eq_true rfl) ⟨Nat.le_of_ble_eq_true rfl, Nat.le_of_ble_eq_true rfl⟩ ⟨Nat.zero_le _, Nat.zero_le _⟩ dL_does_379 (fun r64 wr64 hw64 => ?_)
    obtain ⟨e_r64, rfl⟩ := hw64
    have hp := hp r64 e_r64
    refine r_ws (I' := [sysB cI cL cP fl pl a L h v pl2 hi sa tx u w me fo fd taken x58]) rfl ?_
    refine r_iload C dL_does_382 1 rfl ?_
    obtain ⟨h65, hp⟩ := hp
    refine r_icmp_ne (tgt := 399) C dL_does_384 (by decide) (fun c => absurd h65 c) (fun _ => ?_)
    refine r_aload_n C dL_does_387 5 rfl ?_
    refine r_iload_n C dL_does_388 4 rfl ?_
    obtain ⟨h66, hp⟩ := hp
    refine r_callV (ci := 8) (wc := [sysB cI cL cP fl pl a L h v pl2 hi sa tx u w me fo fd taken x58]) (wr := []) (st := []) C (m_S_press l D cI cL cP cJ fl pl a L h v pl2 hi sa tx u w me fo fd taken x58 r1 h66) k_X10_press t_588 [0] (show ([0] : List Nat).Perm (List.range 1) by decide) rfl rfl rfl (q0 := 0) rfl rfl rfl (Nat.le_of_ble_eq_true rfl) ⟨Nat.le_of_ble_eq_true rfl, Nat.le_of_ble_eq_true rfl⟩ ⟨Nat.zero_le _, Nat.zero_le _⟩ dL_does_389 (fun r67 wr67 hw67 => ?_)
    obtain ⟨e_r67, rfl⟩ := hw67
    have hp := hp r67 e_r67
    obtain ⟨x68, e_x68⟩ : ∃ z : St, z = (F_S_press x58 r1).2 := ⟨_, rfl⟩
    have hp := hp x68 e_x68
    refine r_ws (I' := [sysB cI cL cP fl pl a L h v pl2 hi sa tx u w me fo fd taken x68]) (by rw [e_x68]; rfl) ?_
    have h69 := hp
    refine r_if_ne (tgt := 399) C dL_does_392 (by decide) (fun c => absurd h69 c) (fun _ => ?_)
    refine r_iconst (v := 1) C dL_does_395 (by decide) ?_
    refine r_goto (tgt := 400) C dL_does_396 (by decide) ?_
    have eF : F_L_does st v_ w_ = x68 := by have q := e_r1.symm; subst q; have q := e_x2.symm; subst q; have q := e_r4.symm; subst q; have q := e_r6.symm; subst q; have q := e_r8.symm; subst q; have q := e_r9.symm; subst q; have q := e_r57.symm; subst q; have q := e_x58.symm; subst q; have q := e_r61.symm; subst q; have q := e_r64.symm; subst q; have q := e_r67.symm; subst q; have q := e_x68.symm; subst q; simp only [F_L_does, if_neg c140, if_neg c141, if_pos c142]
    exact r_zret (r := 1) C hA hr hlo (rfl) dL_does_400 [sysB cI cL cP fl pl a L h v pl2 hi sa tx u w me fo fd taken x68] ⟨rfl, by simp only [eF]⟩ rfl hQ
  have hp := hp.2 c142
  by_cases c143 : r9 = 10
  · have hp := hp.1 c143
    refine r_tin (tgt := 401) (off := 354) C dL_does_47 c143 (by decide) (by decide) (by decide) (by decide) ?_
    refine r_iload_n C dL_does_401 7 rfl ?_
    refine r_iconst (v := 3) C dL_does_402 (by decide) ?_
    refine r_iand C dL_does_403 rfl ?_
    have hps := hp
    suffices K : ∀ g84 : St, g84 = ((if (w_ &&& 3) = 0 then (let x73 : St := (F_S_smooth st r1).2; x73) else (st))) → V p l e (rmm 8 186) s m args below meth c 21 D A 0 0 Q [sysB cI cL cP fl pl a L h v pl2 hi sa tx u w me fo fd taken g84] [(7, .int r8), (6, .int r6), (5, .int r4), (4, .int x2), (3, .int r1), (0, .ref fl), (1, .int v_), (2, .int w_)] 445 [] by
      have hp := hps
      refine r_if_ne (tgt := 445) C dL_does_404 (by decide) (fun c70 => ?_) (fun c70 => ?_)
      · exact K _ (by simp only [if_neg c70])
      · have hp := hp.1 c70
        refine r_aload_n C dL_does_407 5 rfl ?_
        refine r_iload_n C dL_does_408 4 rfl ?_
        obtain ⟨h71, hp⟩ := hp
        refine r_callV (ci := 8) (wc := [sysB cI cL cP fl pl a L h v pl2 hi sa tx u w me fo fd taken st]) (wr := []) (st := []) C (m_S_smooth l D cI cL cP cJ fl pl a L h v pl2 hi sa tx u w me fo fd taken st r1 h71) k_X10_smooth t_598 [0] (show ([0] : List Nat).Perm (List.range 1) by decide) rfl rfl rfl (q0 := 0) rfl rfl rfl (Nat.le_of_ble_eq_true rfl) ⟨Nat.le_of_ble_eq_true rfl, Nat.le_of_ble_eq_true rfl⟩ ⟨Nat.zero_le _, Nat.zero_le _⟩ dL_does_409 (fun r72 wr72 hw72 => ?_)
        obtain ⟨e_r72, rfl⟩ := hw72
        have hp := hp r72 e_r72
        obtain ⟨x73, e_x73⟩ : ∃ z : St, z = (F_S_smooth st r1).2 := ⟨_, rfl⟩
        have hp := hp x73 e_x73
        refine r_ws (I' := [sysB cI cL cP fl pl a L h v pl2 hi sa tx u w me fo fd taken x73]) (by rw [e_x73]; rfl) ?_
        refine r_iload C dL_does_412 0 rfl ?_
        obtain ⟨h74, hp⟩ := hp
        refine r_icmp_ne (tgt := 449) C dL_does_414 (by decide) (fun c => absurd h74 c) (fun _ => ?_)
        refine r_aload_n C dL_does_417 5 rfl ?_
        refine r_iload_n C dL_does_418 4 rfl ?_
        refine r_iconst (v := 0) C dL_does_419 (by decide) ?_
        obtain ⟨h75, hp⟩ := hp
        refine r_callV (ci := 8) (wc := [sysB cI cL cP fl pl a L h v pl2 hi sa tx u w me fo fd taken x73]) (wr := []) (st := []) C (m_S_letter l D cI cL cP cJ fl pl a L h v pl2 hi sa tx u w me fo fd taken x73 r1 0 h75) k_X10_letter t_412 [0] (show ([0] : List Nat).Perm (List.range 1) by decide) rfl rfl rfl (q0 := 0) rfl rfl rfl (Nat.le_of_ble_eq_true rfl) ⟨Nat.le_of_ble_eq_true rfl, Nat.le_of_ble_eq_true rfl⟩ ⟨Nat.zero_le _, Nat.zero_le _⟩ dL_does_420 (fun r76 wr76 hw76 => ?_)
        obtain ⟨e_r76, rfl⟩ := hw76
        have hp := hp r76 e_r76
        refine r_ws (I' := [sysB cI cL cP fl pl a L h v pl2 hi sa tx u w me fo fd taken x73]) rfl ?_
        obtain ⟨h77, hp⟩ := hp
        refine r_if_ne (tgt := 449) C dL_does_423 (by decide) (fun c => absurd h77 c) (fun _ => ?_)
        refine r_aload_n C dL_does_426 5 rfl ?_
        refine r_iload_n C dL_does_427 4 rfl ?_
        refine r_iconst (v := 2) C dL_does_428 (by decide) ?_
        obtain ⟨h78, hp⟩ := hp
        refine r_callV (ci := 8) (wc := [sysB cI cL cP fl pl a L h v pl2 hi sa tx u w me fo fd taken x73]) (wr := []) (st := []) C (m_S_letter l D cI cL cP cJ fl pl a L h v pl2 hi sa tx u w me fo fd taken x73 r1 2 h78) k_X10_letter t_412 [0] (show ([0] : List Nat).Perm (List.range 1) by decide) rfl rfl rfl (q0 := 0) rfl rfl rfl (Nat.le_of_ble_eq_true rfl) ⟨Nat.le_of_ble_eq_true rfl, Nat.le_of_ble_eq_true rfl⟩ ⟨Nat.zero_le _, Nat.zero_le _⟩ dL_does_429 (fun r79 wr79 hw79 => ?_)
        obtain ⟨e_r79, rfl⟩ := hw79
        have hp := hp r79 e_r79
        refine r_ws (I' := [sysB cI cL cP fl pl a L h v pl2 hi sa tx u w me fo fd taken x73]) rfl ?_
        obtain ⟨h80, hp⟩ := hp
        refine r_if_ne (tgt := 449) C dL_does_432 (by decide) (fun c => absurd h80 c) (fun _ => ?_)
        refine r_aload_n C dL_does_435 5 rfl ?_
        refine r_iload_n C dL_does_436 4 rfl ?_
        refine r_bipush (v := 7) C dL_does_437 (by decide) ?_
        obtain ⟨h81, hp⟩ := hp
        refine r_callV (ci := 8) (wc := [sysB cI cL cP fl pl a L h v pl2 hi sa tx u w me fo fd taken x73]) (wr := []) (st := []) C (m_S_letter l D cI cL cP cJ fl pl a L h v pl2 hi sa tx u w me fo fd taken x73 r1 7 h81) k_X10_letter t_412 [0] (show ([0] : List Nat).Perm (List.range 1) by decide) rfl rfl rfl (q0 := 0) rfl rfl rfl (Nat.le_of_ble_eq_true rfl) ⟨Nat.le_of_ble_eq_true rfl, Nat.le_of_ble_eq_true rfl⟩ ⟨Nat.zero_le _, Nat.zero_le _⟩ dL_does_439 (fun r82 wr82 hw82 => ?_)
        obtain ⟨e_r82, rfl⟩ := hw82
        have hp := hp r82 e_r82
        refine r_ws (I' := [sysB cI cL cP fl pl a L h v pl2 hi sa tx u w me fo fd taken x73]) rfl ?_
        have h83 := hp
        refine r_if_ne (tgt := 449) C dL_does_442 (by decide) (fun c => absurd h83 c) (fun _ => ?_)
        exact K _ (by have q := e_r72.symm; subst q; have q := e_x73.symm; subst q; have q := e_r76.symm; subst q; have q := e_r79.symm; subst q; have q := e_r82.symm; subst q; simp only [if_pos c70])
    intro g84 e_g84
    refine r_iconst (v := 1) C dL_does_445 (by decide) ?_
    refine r_goto (tgt := 450) C dL_does_446 (by decide) ?_
    have eF : F_L_does st v_ w_ = g84 := by have q := e_r1.symm; subst q; have q := e_x2.symm; subst q; have q := e_r4.symm; subst q; have q := e_r6.symm; subst q; have q := e_r8.symm; subst q; have q := e_r9.symm; subst q; have q := e_g84.symm; subst q; simp only [F_L_does, if_neg c140, if_neg c141, if_neg c142, if_pos c143]
    exact r_zret (r := 1) C hA hr hlo (rfl) dL_does_450 [sysB cI cL cP fl pl a L h v pl2 hi sa tx u w me fo fd taken g84] ⟨rfl, by simp only [eF]⟩ rfl hQ
  have hp := hp.2 c143
  by_cases c144 : r9 = 11
  · have hp := hp.1 c144
    refine r_tin (tgt := 451) (off := 404) C dL_does_47 c144 (by decide) (by decide) (by decide) (by decide) ?_
    refine r_iload_n C dL_does_451 7 rfl ?_
    refine r_iconst (v := 5) C dL_does_452 (by decide) ?_
    refine r_callS (wc := []) (wr := [sysB cI cL cP fl pl a L h v pl2 hi sa tx u w me fo fd taken st]) (st := []) C (m_L_low_5 l D cI cL cP cJ w_) k_L_low t_405 [0] (show ([0] : List Nat).Perm (List.range 1) by decide) rfl rfl rfl (Nat.le_of_ble_eq_true rfl) ⟨Nat.le_of_ble_eq_true rfl, Nat.le_of_ble_eq_true rfl⟩ ⟨Nat.zero_le _, Nat.zero_le _⟩ dL_does_453 (fun r85 wr85 hw85 => ?_)
    obtain ⟨e_r85, rfl⟩ := hw85
    have hp := hp r85 e_r85
    refine r_ws (I' := [sysB cI cL cP fl pl a L h v pl2 hi sa tx u w me fo fd taken st]) rfl ?_
    refine r_istore (L' := [(12, .int r85), (7, .int r8), (6, .int r6), (5, .int r4), (4, .int x2), (3, .int r1), (0, .ref fl), (1, .int v_), (2, .int w_)]) C dL_does_456 (by decide) rfl ?_
    refine r_iload_n C dL_does_458 8 rfl ?_
    refine r_iconst (v := 3) C dL_does_459 (by decide) ?_
    refine r_ishr C dL_does_460 rfl ?_
    refine r_iconst (v := 5) C dL_does_461 (by decide) ?_
    refine r_callS (wc := []) (wr := [sysB cI cL cP fl pl a L h v pl2 hi sa tx u w me fo fd taken st]) (st := []) C (m_L_low_5 l D cI cL cP cJ (w_ >>> ((3 : Int32) &&& 31))) k_L_low t_405 [0] (show ([0] : List Nat).Perm (List.range 1) by decide) rfl rfl rfl (Nat.le_of_ble_eq_true rfl) ⟨Nat.le_of_ble_eq_true rfl, Nat.le_of_ble_eq_true rfl⟩ ⟨Nat.zero_le _, Nat.zero_le _⟩ dL_does_462 (fun r86 wr86 hw86 => ?_)
    obtain ⟨e_r86, rfl⟩ := hw86
    have hp := hp r86 e_r86
    refine r_ws (I' := [sysB cI cL cP fl pl a L h v pl2 hi sa tx u w me fo fd taken st]) rfl ?_
    refine r_istore (L' := [(13, .int r86), (12, .int r85), (7, .int r8), (6, .int r6), (5, .int r4), (4, .int x2), (3, .int r1), (0, .ref fl), (1, .int v_), (2, .int w_)]) C dL_does_465 (by decide) rfl ?_
    refine r_aload_n C dL_does_467 7 rfl ?_
    refine r_iload C dL_does_468 1 rfl ?_
    refine r_iconst (v := 0) C dL_does_470 (by decide) ?_
    obtain ⟨h87, hp⟩ := hp
    refine r_callV (ci := 8) (wc := [sysB cI cL cP fl pl a L h v pl2 hi sa tx u w me fo fd taken st]) (wr := []) (st := []) C (m_S_letter l D cI cL cP cJ fl pl a L h v pl2 hi sa tx u w me fo fd taken st r85 0 h87) k_X10_letter t_412 [0] (show ([0] : List Nat).Perm (List.range 1) by decide) rfl rfl rfl (q0 := 0) rfl rfl rfl (Nat.le_of_ble_eq_true rfl) ⟨Nat.le_of_ble_eq_true rfl, Nat.le_of_ble_eq_true rfl⟩ ⟨Nat.zero_le _, Nat.zero_le _⟩ dL_does_471 (fun r88 wr88 hw88 => ?_)
    obtain ⟨e_r88, rfl⟩ := hw88
    have hp := hp r88 e_r88
    refine r_ws (I' := [sysB cI cL cP fl pl a L h v pl2 hi sa tx u w me fo fd taken st]) rfl ?_
    refine r_aload_n C dL_does_474 7 rfl ?_
    refine r_iload C dL_does_475 0 rfl ?_
    refine r_iconst (v := 0) C dL_does_477 (by decide) ?_
    obtain ⟨h89, hp⟩ := hp
    refine r_callV (ci := 8) (wc := [sysB cI cL cP fl pl a L h v pl2 hi sa tx u w me fo fd taken st]) (wr := []) (st := [.int r88]) C (m_S_letter l D cI cL cP cJ fl pl a L h v pl2 hi sa tx u w me fo fd taken st r86 0 h89) k_X10_letter t_412 [0] (show ([0] : List Nat).Perm (List.range 1) by decide) rfl rfl rfl (q0 := 0) rfl rfl rfl (Nat.le_of_ble_eq_true rfl) ⟨Nat.le_of_ble_eq_true rfl, Nat.le_of_ble_eq_true rfl⟩ ⟨Nat.zero_le _, Nat.zero_le _⟩ dL_does_478 (fun r90 wr90 hw90 => ?_)
    obtain ⟨e_r90, rfl⟩ := hw90
    have hp := hp r90 e_r90
    refine r_ws (I' := [sysB cI cL cP fl pl a L h v pl2 hi sa tx u w me fo fd taken st]) rfl ?_
    refine r_iadd C dL_does_481 rfl ?_
    refine r_iconst (v := 2) C dL_does_482 (by decide) ?_
    refine r_irem C dL_does_483 (by decide) rfl ?_
    refine r_top (fun x91 e_x91 => ?_)
    have hp := hp x91 e_x91
    refine r_istore (L' := [(14, .int x91), (13, .int r86), (12, .int r85), (7, .int r8), (6, .int r6), (5, .int r4), (4, .int x2), (3, .int r1), (0, .ref fl), (1, .int v_), (2, .int w_)]) C dL_does_484 (by decide) rfl ?_
    refine r_aload_n C dL_does_486 8 rfl ?_
    refine r_iload_n C dL_does_487 7 rfl ?_
    refine r_iload C dL_does_488 2 rfl ?_
    refine r_iload C dL_does_490 1 rfl ?_
    obtain ⟨h92, hp⟩ := hp
    refine r_callV (ci := 8) (wc := [sysB cI cL cP fl pl a L h v pl2 hi sa tx u w me fo fd taken st]) (wr := []) (st := []) C (m_S_product l D cI cL cP cJ fl pl a L h v pl2 hi sa tx u w me fo fd taken st r1 r85 r86 h92) k_X10_product t_607 [0] (show ([0] : List Nat).Perm (List.range 1) by decide) rfl rfl rfl (q0 := 0) rfl rfl rfl (Nat.le_of_ble_eq_true rfl) ⟨Nat.le_of_ble_eq_true rfl, Nat.le_of_ble_eq_true rfl⟩ ⟨Nat.zero_le _, Nat.zero_le _⟩ dL_does_492 (fun r93 wr93 hw93 => ?_)
    obtain ⟨e_r93, rfl⟩ := hw93
    have hp := hp r93 e_r93
    obtain ⟨x94, e_x94⟩ : ∃ z : St, z = (F_S_product st r1 r85 r86).2 := ⟨_, rfl⟩
    have hp := hp x94 e_x94
    refine r_ws (I' := [sysB cI cL cP fl pl a L h v pl2 hi sa tx u w me fo fd taken x94]) (by rw [e_x94]; rfl) ?_
    refine r_istore (L' := [(15, .int r93), (14, .int x91), (13, .int r86), (12, .int r85), (7, .int r8), (6, .int r6), (5, .int r4), (4, .int x2), (3, .int r1), (0, .ref fl), (1, .int v_), (2, .int w_)]) C dL_does_495 (by decide) rfl ?_
    refine r_iload C dL_does_497 0 rfl ?_
    refine r_aload_n C dL_does_499 9 rfl ?_
    refine r_iload_n C dL_does_500 8 rfl ?_
    refine r_iconst (v := 0) C dL_does_501 (by decide) ?_
    obtain ⟨h95, hp⟩ := hp
    refine r_callV (ci := 8) (wc := [sysB cI cL cP fl pl a L h v pl2 hi sa tx u w me fo fd taken x94]) (wr := []) (st := [.int r93]) C (m_S_letter l D cI cL cP cJ fl pl a L h v pl2 hi sa tx u w me fo fd taken x94 r1 0 h95) k_X10_letter t_412 [0] (show ([0] : List Nat).Perm (List.range 1) by decide) rfl rfl rfl (q0 := 0) rfl rfl rfl (Nat.le_of_ble_eq_true rfl) ⟨Nat.le_of_ble_eq_true rfl, Nat.le_of_ble_eq_true rfl⟩ ⟨Nat.zero_le _, Nat.zero_le _⟩ dL_does_502 (fun r96 wr96 hw96 => ?_)
    obtain ⟨e_r96, rfl⟩ := hw96
    have hp := hp r96 e_r96
    refine r_ws (I' := [sysB cI cL cP fl pl a L h v pl2 hi sa tx u w me fo fd taken x94]) rfl ?_
    obtain ⟨h97, hp⟩ := hp
    refine r_icmp_ne (tgt := 532) C dL_does_505 (by decide) (fun c => absurd h97 c) (fun _ => ?_)
    refine r_iload C dL_does_508 0 rfl ?_
    refine r_iconst (v := 2) C dL_does_510 (by decide) ?_
    refine r_irem C dL_does_511 (by decide) rfl ?_
    refine r_iload C dL_does_512 1 rfl ?_
    obtain ⟨h98, hp⟩ := hp
    refine r_icmp_ne (tgt := 532) C dL_does_514 (by decide) (fun c => absurd h98 c) (fun _ => ?_)
    refine r_aload_n C dL_does_517 9 rfl ?_
    refine r_iload_n C dL_does_518 8 rfl ?_
    refine r_iconst (v := 2) C dL_does_519 (by decide) ?_
    obtain ⟨h99, hp⟩ := hp
    refine r_callV (ci := 8) (wc := [sysB cI cL cP fl pl a L h v pl2 hi sa tx u w me fo fd taken x94]) (wr := []) (st := []) C (m_S_letter l D cI cL cP cJ fl pl a L h v pl2 hi sa tx u w me fo fd taken x94 r1 2 h99) k_X10_letter t_412 [0] (show ([0] : List Nat).Perm (List.range 1) by decide) rfl rfl rfl (q0 := 0) rfl rfl rfl (Nat.le_of_ble_eq_true rfl) ⟨Nat.le_of_ble_eq_true rfl, Nat.le_of_ble_eq_true rfl⟩ ⟨Nat.zero_le _, Nat.zero_le _⟩ dL_does_520 (fun r100 wr100 hw100 => ?_)
    obtain ⟨e_r100, rfl⟩ := hw100
    have hp := hp r100 e_r100
    refine r_ws (I' := [sysB cI cL cP fl pl a L h v pl2 hi sa tx u w me fo fd taken x94]) rfl ?_
    refine r_iload C dL_does_523 0 rfl ?_
    have h101 := hp
    refine r_icmp_ne (tgt := 532) C dL_does_525 (by decide) (fun c => absurd h101 c) (fun _ => ?_)
    refine r_iconst (v := 1) C dL_does_528 (by decide) ?_
    refine r_goto (tgt := 533) C dL_does_529 (by decide) ?_
    have eF : F_L_does st v_ w_ = x94 := by have q := e_r1.symm; subst q; have q := e_x2.symm; subst q; have q := e_r4.symm; subst q; have q := e_r6.symm; subst q; have q := e_r8.symm; subst q; have q := e_r9.symm; subst q; have q := e_r85.symm; subst q; have q := e_r86.symm; subst q; have q := e_r88.symm; subst q; have q := e_r90.symm; subst q; have q := e_x91.symm; subst q; have q := e_r93.symm; subst q; have q := e_x94.symm; subst q; have q := e_r96.symm; subst q; have q := e_r100.symm; subst q; simp only [F_L_does, if_neg c140, if_neg c141, if_neg c142, if_neg c143, if_pos c144]
    exact r_zret (r := 1) C hA hr hlo (rfl) dL_does_533 [sysB cI cL cP fl pl a L h v pl2 hi sa tx u w me fo fd taken x94] ⟨rfl, by simp only [eF]⟩ rfl hQ
  have hp := hp.2 c144
  by_cases c145 : r9 = 12
  · have hp := hp.1 c145
    refine r_tin (tgt := 534) (off := 487) C dL_does_47 c145 (by decide) (by decide) (by decide) (by decide) ?_
    refine r_iload_n C dL_does_534 7 rfl ?_
    refine r_iconst (v := 5) C dL_does_535 (by decide) ?_
    refine r_callS (wc := []) (wr := [sysB cI cL cP fl pl a L h v pl2 hi sa tx u w me fo fd taken st]) (st := []) C (m_L_low_5 l D cI cL cP cJ w_) k_L_low t_405 [0] (show ([0] : List Nat).Perm (List.range 1) by decide) rfl rfl rfl (Nat.le_of_ble_eq_true rfl) ⟨Nat.le_of_ble_eq_true rfl, Nat.le_of_ble_eq_true rfl⟩ ⟨Nat.zero_le _, Nat.zero_le _⟩ dL_does_536 (fun r102 wr102 hw102 => ?_)
    obtain ⟨e_r102, rfl⟩ := hw102
    have hp := hp r102 e_r102
    refine r_ws (I' := [sysB cI cL cP fl pl a L h v pl2 hi sa tx u w me fo fd taken st]) rfl ?_
    refine r_istore (L' := [(16, .int r102), (7, .int r8), (6, .int r6), (5, .int r4), (4, .int x2), (3, .int r1), (0, .ref fl), (1, .int v_), (2, .int w_)]) C dL_does_539 (by decide) rfl ?_
    refine r_aload_n C dL_does_541 6 rfl ?_
    refine r_iload C dL_does_542 0 rfl ?_
    refine r_iconst (v := 0) C dL_does_544 (by decide) ?_
    obtain ⟨h103, hp⟩ := hp
    refine r_callV (ci := 8) (wc := [sysB cI cL cP fl pl a L h v pl2 hi sa tx u w me fo fd taken st]) (wr := []) (st := []) C (m_S_letter l D cI cL cP cJ fl pl a L h v pl2 hi sa tx u w me fo fd taken st r102 0 h103) k_X10_letter t_412 [0] (show ([0] : List Nat).Perm (List.range 1) by decide) rfl rfl rfl (q0 := 0) rfl rfl rfl (Nat.le_of_ble_eq_true rfl) ⟨Nat.le_of_ble_eq_true rfl, Nat.le_of_ble_eq_true rfl⟩ ⟨Nat.zero_le _, Nat.zero_le _⟩ dL_does_545 (fun r104 wr104 hw104 => ?_)
    obtain ⟨e_r104, rfl⟩ := hw104
    have hp := hp r104 e_r104
    refine r_ws (I' := [sysB cI cL cP fl pl a L h v pl2 hi sa tx u w me fo fd taken st]) rfl ?_
    refine r_istore (L' := [(17, .int r104), (16, .int r102), (7, .int r8), (6, .int r6), (5, .int r4), (4, .int x2), (3, .int r1), (0, .ref fl), (1, .int v_), (2, .int w_)]) C dL_does_548 (by decide) rfl ?_
    refine r_aload_n C dL_does_550 7 rfl ?_
    refine r_iload_n C dL_does_551 6 rfl ?_
    refine r_iload C dL_does_552 1 rfl ?_
    obtain ⟨h105, hp⟩ := hp
    refine r_callV (ci := 8) (wc := [sysB cI cL cP fl pl a L h v pl2 hi sa tx u w me fo fd taken st]) (wr := []) (st := []) C (m_S_opposite l D cI cL cP cJ fl pl a L h v pl2 hi sa tx u w me fo fd taken st r1 r102 h105) k_X10_opposite t_612 [0] (show ([0] : List Nat).Perm (List.range 1) by decide) rfl rfl rfl (q0 := 0) rfl rfl rfl (Nat.le_of_ble_eq_true rfl) ⟨Nat.le_of_ble_eq_true rfl, Nat.le_of_ble_eq_true rfl⟩ ⟨Nat.zero_le _, Nat.zero_le _⟩ dL_does_554 (fun r106 wr106 hw106 => ?_)
    obtain ⟨e_r106, rfl⟩ := hw106
    have hp := hp r106 e_r106
    obtain ⟨x107, e_x107⟩ : ∃ z : St, z = (F_S_opposite st r1 r102).2 := ⟨_, rfl⟩
    have hp := hp x107 e_x107
    refine r_ws (I' := [sysB cI cL cP fl pl a L h v pl2 hi sa tx u w me fo fd taken x107]) (by rw [e_x107]; rfl) ?_
    refine r_iload C dL_does_557 0 rfl ?_
    obtain ⟨h108, hp⟩ := hp
    refine r_icmp_ne (tgt := 576) C dL_does_559 (by decide) (fun c => absurd h108 c) (fun _ => ?_)
    refine r_aload_n C dL_does_562 7 rfl ?_
    refine r_iload_n C dL_does_563 6 rfl ?_
    refine r_bipush (v := 7) C dL_does_564 (by decide) ?_
    obtain ⟨h109, hp⟩ := hp
    refine r_callV (ci := 8) (wc := [sysB cI cL cP fl pl a L h v pl2 hi sa tx u w me fo fd taken x107]) (wr := []) (st := []) C (m_S_letter l D cI cL cP cJ fl pl a L h v pl2 hi sa tx u w me fo fd taken x107 r1 7 h109) k_X10_letter t_412 [0] (show ([0] : List Nat).Perm (List.range 1) by decide) rfl rfl rfl (q0 := 0) rfl rfl rfl (Nat.le_of_ble_eq_true rfl) ⟨Nat.le_of_ble_eq_true rfl, Nat.le_of_ble_eq_true rfl⟩ ⟨Nat.zero_le _, Nat.zero_le _⟩ dL_does_566 (fun r110 wr110 hw110 => ?_)
    obtain ⟨e_r110, rfl⟩ := hw110
    have hp := hp r110 e_r110
    refine r_ws (I' := [sysB cI cL cP fl pl a L h v pl2 hi sa tx u w me fo fd taken x107]) rfl ?_
    have h111 := hp
    refine r_if_ne (tgt := 576) C dL_does_569 (by decide) (fun c => absurd h111 c) (fun _ => ?_)
    refine r_iconst (v := 1) C dL_does_572 (by decide) ?_
    refine r_goto (tgt := 577) C dL_does_573 (by decide) ?_
    have eF : F_L_does st v_ w_ = x107 := by have q := e_r1.symm; subst q; have q := e_x2.symm; subst q; have q := e_r4.symm; subst q; have q := e_r6.symm; subst q; have q := e_r8.symm; subst q; have q := e_r9.symm; subst q; have q := e_r102.symm; subst q; have q := e_r104.symm; subst q; have q := e_r106.symm; subst q; have q := e_x107.symm; subst q; have q := e_r110.symm; subst q; simp only [F_L_does, if_neg c140, if_neg c141, if_neg c142, if_neg c143, if_neg c144, if_pos c145]
    exact r_zret (r := 1) C hA hr hlo (rfl) dL_does_577 [sysB cI cL cP fl pl a L h v pl2 hi sa tx u w me fo fd taken x107] ⟨rfl, by simp only [eF]⟩ rfl hQ
  have hp := hp.2 c145
  by_cases c146 : (13 ≤ r9 ∧ r9 ≤ 14)
  · have hp := hp.1 c146
    refine r_tinR (tgt := 578) (off := 531) C dL_does_47 (sw_in c146 (by decide) (by decide) (by decide) (by decide) (by decide)) (by decide) ?_
    refine r_iload_n C dL_does_578 7 rfl ?_
    refine r_iconst (v := 3) C dL_does_579 (by decide) ?_
    refine r_iand C dL_does_580 rfl ?_
    refine r_top (fun x112 e_x112 => ?_)
    have hp := hp x112 e_x112
    refine r_istore (L' := [(18, .int x112), (7, .int r8), (6, .int r6), (5, .int r4), (4, .int x2), (3, .int r1), (0, .ref fl), (1, .int v_), (2, .int w_)]) C dL_does_581 (by decide) rfl ?_
    refine r_aload_n C dL_does_583 6 rfl ?_
    refine r_iload_n C dL_does_584 5 rfl ?_
    refine r_bipush (v := 7) C dL_does_585 (by decide) ?_
    obtain ⟨h113, hp⟩ := hp
    refine r_callV (ci := 8) (wc := [sysB cI cL cP fl pl a L h v pl2 hi sa tx u w me fo fd taken st]) (wr := []) (st := []) C (m_S_letter l D cI cL cP cJ fl pl a L h v pl2 hi sa tx u w me fo fd taken st r1 7 h113) k_X10_letter t_412 [0] (show ([0] : List Nat).Perm (List.range 1) by decide) rfl rfl rfl (q0 := 0) rfl rfl rfl (Nat.le_of_ble_eq_true rfl) ⟨Nat.le_of_ble_eq_true rfl, Nat.le_of_ble_eq_true rfl⟩ ⟨Nat.zero_le _, Nat.zero_le _⟩ dL_does_587 (fun r114 wr114 hw114 => ?_)
    obtain ⟨e_r114, rfl⟩ := hw114
    have hp := hp r114 e_r114
    refine r_ws (I' := [sysB cI cL cP fl pl a L h v pl2 hi sa tx u w me fo fd taken st]) rfl ?_
    refine r_iload C dL_does_590 0 rfl ?_
    refine r_ishr C dL_does_592 rfl ?_
    refine r_iconst (v := 1) C dL_does_593 (by decide) ?_
    refine r_iand C dL_does_594 rfl ?_
    refine r_iconst (v := 1) C dL_does_595 (by decide) ?_
    suffices K : ∀ x116 : Int32, x116 = ((if ((r114 >>> (x112 &&& 31)) &&& 1) = 1 then (1) else (0))) → V p l e (rmm 8 186) s m args below meth c 21 D A 0 0 Q [sysB cI cL cP fl pl a L h v pl2 hi sa tx u w me fo fd taken st] [(18, .int x112), (7, .int r8), (6, .int r6), (5, .int r4), (4, .int x2), (3, .int r1), (0, .ref fl), (1, .int v_), (2, .int w_)] 604 [.int x116] by
      refine r_icmp_ne (tgt := 603) C dL_does_596 (by decide) (fun c115 => ?_) (fun c115 => ?_)
      · refine r_iconst (v := 0) C dL_does_603 (by decide) ?_
        exact K _ (by simp only [if_neg c115])
      · refine r_iconst (v := 1) C dL_does_599 (by decide) ?_
        refine r_goto (tgt := 604) C dL_does_600 (by decide) ?_
        exact K _ (by simp only [if_pos c115])
    intro x116 e_x116
    have hp := hp x116 e_x116
    refine r_istore (L' := [(19, .int x116), (18, .int x112), (7, .int r8), (6, .int r6), (5, .int r4), (4, .int x2), (3, .int r1), (0, .ref fl), (1, .int v_), (2, .int w_)]) C dL_does_604 (by decide) rfl ?_
    refine r_aload_n C dL_does_606 7 rfl ?_
    refine r_iload_n C dL_does_607 6 rfl ?_
    refine r_bipush (v := 7) C dL_does_608 (by decide) ?_
    obtain ⟨h117, hp⟩ := hp
    refine r_callV (ci := 8) (wc := [sysB cI cL cP fl pl a L h v pl2 hi sa tx u w me fo fd taken st]) (wr := []) (st := []) C (m_S_letter l D cI cL cP cJ fl pl a L h v pl2 hi sa tx u w me fo fd taken st r1 7 h117) k_X10_letter t_412 [0] (show ([0] : List Nat).Perm (List.range 1) by decide) rfl rfl rfl (q0 := 0) rfl rfl rfl (Nat.le_of_ble_eq_true rfl) ⟨Nat.le_of_ble_eq_true rfl, Nat.le_of_ble_eq_true rfl⟩ ⟨Nat.zero_le _, Nat.zero_le _⟩ dL_does_610 (fun r118 wr118 hw118 => ?_)
    obtain ⟨e_r118, rfl⟩ := hw118
    have hp := hp r118 e_r118
    refine r_ws (I' := [sysB cI cL cP fl pl a L h v pl2 hi sa tx u w me fo fd taken st]) rfl ?_
    refine r_callS (wc := []) (wr := [sysB cI cL cP fl pl a L h v pl2 hi sa tx u w me fo fd taken st]) (st := []) C (m_L_ones l D cI cL cP cJ r118) k_L_ones t_497 [0] (show ([0] : List Nat).Perm (List.range 1) by decide) rfl rfl rfl (Nat.le_of_ble_eq_true rfl) ⟨Nat.le_of_ble_eq_true rfl, Nat.le_of_ble_eq_true rfl⟩ ⟨Nat.zero_le _, Nat.zero_le _⟩ dL_does_613 (fun r119 wr119 hw119 => ?_)
    obtain ⟨e_r119, rfl⟩ := hw119
    have hp := hp r119 e_r119
    refine r_ws (I' := [sysB cI cL cP fl pl a L h v pl2 hi sa tx u w me fo fd taken st]) rfl ?_
    refine r_istore (L' := [(20, .int r119), (19, .int x116), (18, .int x112), (7, .int r8), (6, .int r6), (5, .int r4), (4, .int x2), (3, .int r1), (0, .ref fl), (1, .int v_), (2, .int w_)]) C dL_does_616 (by decide) rfl ?_
    refine r_iload C dL_does_618 1 rfl ?_
    have hps := hp
    suffices K : ∀ g132 : St, g132 = ((if x116 = 0 then (let r126 : Int32 := F_S_layer st r1 x112; (if r126 = (x112 + 1) then (let x130 : St := (F_S_seal st r1 x112).2; x130) else (st))) else (let x123 : St := (F_S_seal st r1 x112).2; x123))) → V p l e (rmm 8 186) s m args below meth c 21 D A 0 0 Q [sysB cI cL cP fl pl a L h v pl2 hi sa tx u w me fo fd taken g132] [(20, .int r119), (19, .int x116), (18, .int x112), (7, .int r8), (6, .int r6), (5, .int r4), (4, .int x2), (3, .int r1), (0, .ref fl), (1, .int v_), (2, .int w_)] 663 [] by
      have hp := hps
      refine r_if_ne (tgt := 637) C dL_does_620 (by decide) (fun c120 => ?_) (fun c120 => ?_)
      · have hp := hp.2 c120
        refine r_aload_n C dL_does_637 8 rfl ?_
        refine r_iload_n C dL_does_638 7 rfl ?_
        refine r_iload C dL_does_639 2 rfl ?_
        obtain ⟨h121, hp⟩ := hp
        refine r_callV (ci := 8) (wc := [sysB cI cL cP fl pl a L h v pl2 hi sa tx u w me fo fd taken st]) (wr := []) (st := []) C (m_S_seal l D cI cL cP cJ fl pl a L h v pl2 hi sa tx u w me fo fd taken st r1 x112 h121) k_X10_seal t_617 [0] (show ([0] : List Nat).Perm (List.range 1) by decide) rfl rfl rfl (q0 := 0) rfl rfl rfl (Nat.le_of_ble_eq_true rfl) ⟨Nat.le_of_ble_eq_true rfl, Nat.le_of_ble_eq_true rfl⟩ ⟨Nat.zero_le _, Nat.zero_le _⟩ dL_does_641 (fun r122 wr122 hw122 => ?_)
        obtain ⟨e_r122, rfl⟩ := hw122
        have hp := hp r122 e_r122
        obtain ⟨x123, e_x123⟩ : ∃ z : St, z = (F_S_seal st r1 x112).2 := ⟨_, rfl⟩
        have hp := hp x123 e_x123
        refine r_ws (I' := [sysB cI cL cP fl pl a L h v pl2 hi sa tx u w me fo fd taken x123]) (by rw [e_x123]; rfl) ?_
        refine r_iload C dL_does_644 1 rfl ?_
        refine r_if_eq (tgt := 656) C dL_does_646 (by decide) (fun c => absurd c c120) (fun _ => ?_)
        refine r_iload C dL_does_649 0 rfl ?_
        refine r_iconst (v := 1) C dL_does_651 (by decide) ?_
        refine r_isub C dL_does_652 rfl ?_
        refine r_goto (tgt := 660) C dL_does_653 (by decide) ?_
        have h124 := hp
        refine r_icmp_ne (tgt := 667) C dL_does_660 (by decide) (fun c => absurd h124 c) (fun _ => ?_)
        exact K _ (by have q := e_r122.symm; subst q; have q := e_x123.symm; subst q; simp only [if_neg c120])
      · have hp := hp.1 c120
        refine r_aload_n C dL_does_623 8 rfl ?_
        refine r_iload_n C dL_does_624 7 rfl ?_
        refine r_iload C dL_does_625 2 rfl ?_
        obtain ⟨h125, hp⟩ := hp
        refine r_callV (ci := 8) (wc := [sysB cI cL cP fl pl a L h v pl2 hi sa tx u w me fo fd taken st]) (wr := []) (st := []) C (m_S_layer l D cI cL cP cJ fl pl a L h v pl2 hi sa tx u w me fo fd taken st r1 x112 h125) k_X10_layer t_440 [0] (show ([0] : List Nat).Perm (List.range 1) by decide) rfl rfl rfl (q0 := 0) rfl rfl rfl (Nat.le_of_ble_eq_true rfl) ⟨Nat.le_of_ble_eq_true rfl, Nat.le_of_ble_eq_true rfl⟩ ⟨Nat.zero_le _, Nat.zero_le _⟩ dL_does_627 (fun r126 wr126 hw126 => ?_)
        obtain ⟨e_r126, rfl⟩ := hw126
        have hp := hp r126 e_r126
        refine r_ws (I' := [sysB cI cL cP fl pl a L h v pl2 hi sa tx u w me fo fd taken st]) rfl ?_
        refine r_iload C dL_does_630 2 rfl ?_
        refine r_iconst (v := 1) C dL_does_632 (by decide) ?_
        refine r_iadd C dL_does_633 rfl ?_
        refine r_icmp_ne (tgt := 663) C dL_does_634 (by decide) (fun c127 => ?_) (fun c127 => ?_)
        · exact K _ (by have q := e_r126.symm; subst q; simp only [if_pos c120, if_neg c127])
        · have hp := hp.1 c127
          refine r_aload_n C dL_does_637 8 rfl ?_
          refine r_iload_n C dL_does_638 7 rfl ?_
          refine r_iload C dL_does_639 2 rfl ?_
          obtain ⟨h128, hp⟩ := hp
          refine r_callV (ci := 8) (wc := [sysB cI cL cP fl pl a L h v pl2 hi sa tx u w me fo fd taken st]) (wr := []) (st := []) C (m_S_seal l D cI cL cP cJ fl pl a L h v pl2 hi sa tx u w me fo fd taken st r1 x112 h128) k_X10_seal t_617 [0] (show ([0] : List Nat).Perm (List.range 1) by decide) rfl rfl rfl (q0 := 0) rfl rfl rfl (Nat.le_of_ble_eq_true rfl) ⟨Nat.le_of_ble_eq_true rfl, Nat.le_of_ble_eq_true rfl⟩ ⟨Nat.zero_le _, Nat.zero_le _⟩ dL_does_641 (fun r129 wr129 hw129 => ?_)
          obtain ⟨e_r129, rfl⟩ := hw129
          have hp := hp r129 e_r129
          obtain ⟨x130, e_x130⟩ : ∃ z : St, z = (F_S_seal st r1 x112).2 := ⟨_, rfl⟩
          have hp := hp x130 e_x130
          refine r_ws (I' := [sysB cI cL cP fl pl a L h v pl2 hi sa tx u w me fo fd taken x130]) (by rw [e_x130]; rfl) ?_
          refine r_iload C dL_does_644 1 rfl ?_
          refine r_if_eq (tgt := 656) C dL_does_646 (by decide) (fun _ => ?_) (fun c => absurd c120 c)
          refine r_iload C dL_does_656 0 rfl ?_
          refine r_iconst (v := 1) C dL_does_658 (by decide) ?_
          refine r_iadd C dL_does_659 rfl ?_
          have h131 := hp
          refine r_icmp_ne (tgt := 667) C dL_does_660 (by decide) (fun c => absurd h131 c) (fun _ => ?_)
          exact K _ (by have q := e_r126.symm; subst q; have q := e_r129.symm; subst q; have q := e_x130.symm; subst q; simp only [if_pos c120, if_pos c127])
    intro g132 e_g132
    refine r_iconst (v := 1) C dL_does_663 (by decide) ?_
    refine r_goto (tgt := 668) C dL_does_664 (by decide) ?_
    have eF : F_L_does st v_ w_ = g132 := by have q := e_r1.symm; subst q; have q := e_x2.symm; subst q; have q := e_r4.symm; subst q; have q := e_r6.symm; subst q; have q := e_r8.symm; subst q; have q := e_r9.symm; subst q; have q := e_x112.symm; subst q; have q := e_r114.symm; subst q; have q := e_x116.symm; subst q; have q := e_r118.symm; subst q; have q := e_r119.symm; subst q; have q := e_g132.symm; subst q; simp only [F_L_does, if_neg c140, if_neg c141, if_neg c142, if_neg c143, if_neg c144, if_neg c145, if_pos c146]
    exact r_zret (r := 1) C hA hr hlo (rfl) dL_does_668 [sysB cI cL cP fl pl a L h v pl2 hi sa tx u w me fo fd taken g132] ⟨rfl, by simp only [eF]⟩ rfl hQ
  have hp := hp.2 c146
  by_cases c147 : r9 = 15
  · have hp := hp.1 c147
    refine r_tin (tgt := 669) (off := 622) C dL_does_47 c147 (by decide) (by decide) (by decide) (by decide) ?_
    refine r_aload_n C dL_does_669 5 rfl ?_
    refine r_iload_n C dL_does_670 7 rfl ?_
    refine r_iconst (v := 5) C dL_does_671 (by decide) ?_
    refine r_callS (wc := []) (wr := [sysB cI cL cP fl pl a L h v pl2 hi sa tx u w me fo fd taken st]) (st := [.ref fl]) C (m_L_low_5 l D cI cL cP cJ w_) k_L_low t_405 [0] (show ([0] : List Nat).Perm (List.range 1) by decide) rfl rfl rfl (Nat.le_of_ble_eq_true rfl) ⟨Nat.le_of_ble_eq_true rfl, Nat.le_of_ble_eq_true rfl⟩ ⟨Nat.zero_le _, Nat.zero_le _⟩ dL_does_672 (fun r133 wr133 hw133 => ?_)
    obtain ⟨e_r133, rfl⟩ := hw133
    have hp := hp r133 e_r133
    refine r_ws (I' := [sysB cI cL cP fl pl a L h v pl2 hi sa tx u w me fo fd taken st]) rfl ?_
    refine r_iload_n C dL_does_675 7 rfl ?_
    refine r_iconst (v := 3) C dL_does_676 (by decide) ?_
    refine r_ishr C dL_does_677 rfl ?_
    refine r_iconst (v := 5) C dL_does_678 (by decide) ?_
    refine r_callS (wc := []) (wr := [sysB cI cL cP fl pl a L h v pl2 hi sa tx u w me fo fd taken st]) (st := [.int r133, .ref fl]) C (m_L_low_5 l D cI cL cP cJ (w_ >>> ((3 : Int32) &&& 31))) k_L_low t_405 [0] (show ([0] : List Nat).Perm (List.range 1) by decide) rfl rfl rfl (Nat.le_of_ble_eq_true rfl) ⟨Nat.le_of_ble_eq_true rfl, Nat.le_of_ble_eq_true rfl⟩ ⟨Nat.zero_le _, Nat.zero_le _⟩ dL_does_679 (fun r134 wr134 hw134 => ?_)
    obtain ⟨e_r134, rfl⟩ := hw134
    have hp := hp r134 e_r134
    refine r_ws (I' := [sysB cI cL cP fl pl a L h v pl2 hi sa tx u w me fo fd taken st]) rfl ?_
    refine r_iload_n C dL_does_682 4 rfl ?_
    have h135 := hp
    refine r_callS (wc := [sysB cI cL cP fl pl a L h v pl2 hi sa tx u w me fo fd taken st]) (wr := []) (st := []) C (m_L_areProducts l D cI cL cP cJ fl pl a L h v pl2 hi sa tx u w me fo fd taken st r133 r134 r1 h135) k_L_areProducts t_634 [0] (show ([0] : List Nat).Perm (List.range 1) by decide) rfl rfl rfl (Nat.le_of_ble_eq_true rfl) ⟨Nat.le_of_ble_eq_true rfl, Nat.le_of_ble_eq_true rfl⟩ ⟨Nat.zero_le _, Nat.zero_le _⟩ dL_does_683 (fun r136 wr136 hw136 => ?_)
    obtain ⟨rfl, rfl⟩ := hw136
    obtain ⟨x137, e_x137⟩ : ∃ z : St, z = F_L_areProducts st r133 r134 r1 := ⟨_, rfl⟩
    refine r_ws (I' := [sysB cI cL cP fl pl a L h v pl2 hi sa tx u w me fo fd taken x137]) (by rw [e_x137]; rfl) ?_
    have eF : F_L_does st v_ w_ = x137 := by have q := e_r1.symm; subst q; have q := e_x2.symm; subst q; have q := e_r4.symm; subst q; have q := e_r6.symm; subst q; have q := e_r8.symm; subst q; have q := e_r9.symm; subst q; have q := e_r133.symm; subst q; have q := e_r134.symm; subst q; have q := e_x137.symm; subst q; simp only [F_L_does, if_neg c140, if_neg c141, if_neg c142, if_neg c143, if_neg c144, if_neg c145, if_neg c146, if_pos c147]
    exact r_zret (r := 1) C hA hr hlo (rfl) dL_does_686 [sysB cI cL cP fl pl a L h v pl2 hi sa tx u w me fo fd taken x137] ⟨rfl, by simp only [eF]⟩ rfl hQ
  have hp := hp.2 c147
  refine r_tout (tgt := 687) C dL_does_47 (sw_outG 15 (by decide) (fun i hi => by rcases (show i = 0 ∨ i = 1 ∨ i = 2 ∨ i = 3 ∨ i = 4 ∨ i = 5 ∨ i = 6 ∨ i = 7 ∨ i = 8 ∨ i = 9 ∨ i = 10 ∨ i = 11 ∨ i = 12 ∨ i = 13 ∨ i = 14 ∨ i = 15 by omega) with rfl | rfl | rfl | rfl | rfl | rfl | rfl | rfl | rfl | rfl | rfl | rfl | rfl | rfl | rfl | rfl; exact sw_ne c140 (by decide) (by decide); exact sw_ne c140 (by decide) (by decide); exact sw_ne c140 (by decide) (by decide); exact sw_ne c140 (by decide) (by decide); exact sw_ne c140 (by decide) (by decide); exact sw_ne c140 (by decide) (by decide); exact sw_ne c140 (by decide) (by decide); exact sw_ne c140 (by decide) (by decide); exact c141; exact c142; exact c143; exact c144; exact c145; exact sw_ne c146 (by decide) (by decide); exact sw_ne c146 (by decide) (by decide); exact c147)) (by decide) ?_
  refine r_aload_n C dL_does_687 5 rfl ?_
  refine r_iload_n C dL_does_688 4 rfl ?_
  have h138 := hp
  refine r_callS (wc := [sysB cI cL cP fl pl a L h v pl2 hi sa tx u w me fo fd taken st]) (wr := []) (st := []) C (m_L_areNear l D cI cL cP cJ fl pl a L h v pl2 hi sa tx u w me fo fd taken st r1 h138) k_L_areNear t_637 [0] (show ([0] : List Nat).Perm (List.range 1) by decide) rfl rfl rfl (Nat.le_of_ble_eq_true rfl) ⟨Nat.le_of_ble_eq_true rfl, Nat.le_of_ble_eq_true rfl⟩ ⟨Nat.zero_le _, Nat.zero_le _⟩ dL_does_689 (fun r139 wr139 hw139 => ?_)
  obtain ⟨rfl, rfl⟩ := hw139
  refine r_ws (I' := [sysB cI cL cP fl pl a L h v pl2 hi sa tx u w me fo fd taken st]) rfl ?_
  have eF : F_L_does st v_ w_ = st := by have q := e_r1.symm; subst q; have q := e_x2.symm; subst q; have q := e_r4.symm; subst q; have q := e_r6.symm; subst q; have q := e_r8.symm; subst q; have q := e_r9.symm; subst q; simp only [F_L_does, if_neg c140, if_neg c141, if_neg c142, if_neg c143, if_neg c144, if_neg c145, if_neg c146, if_neg c147]
  exact r_zret (r := 1) C hA hr hlo (rfl) dL_does_692 [sysB cI cL cP fl pl a L h v pl2 hi sa tx u w me fo fd taken st] ⟨rfl, by simp only [eF]⟩ rfl hQ

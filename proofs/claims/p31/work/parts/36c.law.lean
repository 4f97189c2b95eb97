theorem k_L_rest : kS yL_rest cL_rest 6 (some .int) 5 := ⟨t_485, t_6, t_486, by decide +kernel, by decide +kernel, by decide +kernel⟩
def F_L_rest_L33 (st : St) (letter : Int32) : Nat → (Nat → Int32) → Int32 → (Nat → Int32) × Int32
  | 0, k8, y9 => (k8, y9)
  | nn + 1, k8, y9 => let r11 : Int32 := F_S_letter st letter 0; (if r11 ≤ y9 then ((k8, y9)) else (let r14 : Int32 := F_S_least st letter y9; let g17 : Nat → Int32 := F_L_folds k8 r14; let x18 : Int32 := y9 + 1; F_L_rest_L33 st letter nn g17 x18))
def P_L_rest_L33 (st : St) (letter : Int32) : Nat → (Nat → Int32) → Int32 → Prop
  | 0, _, _ => False
  | nn + 1, k8, y9 => ((P_S_letter st letter 0) ∧ (∀ r11 : Int32, r11 = F_S_letter st letter 0 → ((r11 ≤ y9 → True) ∧ (¬ r11 ≤ y9 → ((P_S_least st letter y9) ∧ (∀ r14 : Int32, r14 = F_S_least st letter y9 → ((P_L_folds k8 r14) ∧ (∀ g17 : Nat → Int32, g17 = F_L_folds k8 r14 → (∀ x18 : Int32, x18 = y9 + 1 → (P_L_rest_L33 st letter nn g17 x18))))))))))
set_option maxRecDepth 20000 in
def F_L_rest (st : St) (fA : Nat → Int32) (letter : Int32) (fro : Int32) (crease : Int32) : Int32 × (Nat → Int32) := let g1 : Nat → Int32 := upd fA 0 1; let g2 : Nat → Int32 := upd g1 1 2; let g3 : Nat → Int32 := upd g2 2 3; let g4 : Nat → Int32 := upd g3 3 4; let g7 : Nat → Int32 := F_L_folds g4 crease; let f19 : Nat → Int32 := (F_L_rest_L33 st letter 18 g7 fro).1; let r21 : Int32 := F_L_length f19; (r21, f19)
set_option maxRecDepth 20000 in
def P_L_rest (st : St) (fA : Nat → Int32) (letter : Int32) (fro : Int32) (crease : Int32) : Prop := (∀ g1 : Nat → Int32, g1 = upd fA 0 1 → (∀ g2 : Nat → Int32, g2 = upd g1 1 2 → (∀ g3 : Nat → Int32, g3 = upd g2 2 3 → (∀ g4 : Nat → Int32, g4 = upd g3 3 4 → ((P_L_folds g4 crease) ∧ (∀ g7 : Nat → Int32, g7 = F_L_folds g4 crease → (P_L_rest_L33 st letter 18 g7 fro)))))))
set_option maxRecDepth 20000 in
set_option maxHeartbeats 8000000 in
theorem m_L_rest (l : Launch) (D : va_G) (cI cL cP cJ : ClassId) (fl : Nat) (pl : Nat) (a : Nat) (L : Nat → Nat) (h : Nat → Nat) (v : Nat → Nat) (pl2 : Nat) (hi : Nat) (sa : Nat) (tx : Nat) (u : Nat) (w : Nat) (me : Nat) (fo : Nat) (fd : Nat) (taken : Int32) (st : St) (aA : Nat) (fA : Nat → Int32) (letter : Int32) (fro : Int32) (crease : Int32) (hp : P_L_rest st fA letter fro crease) : M vI l yL_rest cL_rest 6 (some .int) 6 131 D (tyF cI cL cP cJ) [.ref fl, .int letter, .int fro, .int crease, .ref aA] [sysB cI cL cP fl pl a L h v pl2 hi sa tx u w me fo fd taken st, [(aA, .inl (cI, 4, .inl fA))]] (fun (r : Int32) (w1 : List va_W) => r = (F_L_rest st fA letter fro crease).1 ∧ w1 = [sysB cI cL cP fl pl a L h v pl2 hi sa tx u w me fo fd taken st, [(aA, .inl (cI, 4, .inl ((F_L_rest st fA letter fro crease).2)))]]) := by
  unfold P_L_rest at hp
  refine m_start (by decide +kernel) (Nat.le_of_ble_eq_true rfl) (fun p e s m args below meth c A Q hA hQ C hr hlo => ?_)
  refine r_Le (L' := [(0, .ref fl), (1, .int letter), (2, .int fro), (3, .int crease), (4, .ref aA)]) rfl ?_
  refine r_iconst (v := 0) C dL_rest_0 (by decide) ?_
  refine r_istore (L' := [(5, .int 0), (0, .ref fl), (1, .int letter), (2, .int fro), (3, .int crease), (4, .ref aA)]) C dL_rest_1 (by decide) rfl ?_
  refine r_iload C dL_rest_3 0 rfl ?_
  refine r_iconst (v := 4) C dL_rest_5 (by decide) ?_
  refine r_icmp_ge (tgt := 24) C dL_rest_6 (by decide) (fun c => absurd c (by decide)) (fun _ => ?_)
  refine r_aload C dL_rest_9 5 rfl ?_
  refine r_iload C dL_rest_11 0 rfl ?_
  refine r_iload C dL_rest_13 0 rfl ?_
  refine r_iconst (v := 1) C dL_rest_15 (by decide) ?_
  refine r_iadd (z := 1) C dL_rest_16 (by decide) ?_
  obtain ⟨g1, e_g1⟩ : ∃ z : Nat → Int32, z = upd fA 0 1 := ⟨_, rfl⟩
  have hp := hp g1 e_g1
  refine r_iast C 1 0 rfl rfl (vp_in_nI (n := 0) (N := 4) (by decide) (by decide)) (I' := [sysB cI cL cP fl pl a L h v pl2 hi sa tx u w me fo fd taken st, [(aA, .inl (cI, 4, .inl g1))]]) (by rw [e_g1]; rfl) dL_rest_17 ?_
  refine r_iinc (v := 1) (L' := [(5, .int 1), (0, .ref fl), (1, .int letter), (2, .int fro), (3, .int crease), (4, .ref aA)]) C dL_rest_18 0 rfl (by decide) (by decide) rfl ?_
  refine r_goto (tgt := 3) C dL_rest_21 (by decide) ?_
  refine r_iload C dL_rest_3 0 rfl ?_
  refine r_iconst (v := 4) C dL_rest_5 (by decide) ?_
  refine r_icmp_ge (tgt := 24) C dL_rest_6 (by decide) (fun c => absurd c (by decide)) (fun _ => ?_)
  refine r_aload C dL_rest_9 5 rfl ?_
  refine r_iload C dL_rest_11 0 rfl ?_
  refine r_iload C dL_rest_13 0 rfl ?_
  refine r_iconst (v := 1) C dL_rest_15 (by decide) ?_
  refine r_iadd (z := 2) C dL_rest_16 (by decide) ?_
  obtain ⟨g2, e_g2⟩ : ∃ z : Nat → Int32, z = upd g1 1 2 := ⟨_, rfl⟩
  have hp := hp g2 e_g2
  refine r_iast C 1 0 rfl rfl (vp_in_nI (n := 1) (N := 4) (by decide) (by decide)) (I' := [sysB cI cL cP fl pl a L h v pl2 hi sa tx u w me fo fd taken st, [(aA, .inl (cI, 4, .inl g2))]]) (by rw [e_g2]; rfl) dL_rest_17 ?_
  refine r_iinc (v := 2) (L' := [(5, .int 2), (0, .ref fl), (1, .int letter), (2, .int fro), (3, .int crease), (4, .ref aA)]) C dL_rest_18 0 rfl (by decide) (by decide) rfl ?_
  refine r_goto (tgt := 3) C dL_rest_21 (by decide) ?_
  refine r_iload C dL_rest_3 0 rfl ?_
  refine r_iconst (v := 4) C dL_rest_5 (by decide) ?_
  refine r_icmp_ge (tgt := 24) C dL_rest_6 (by decide) (fun c => absurd c (by decide)) (fun _ => ?_)
  refine r_aload C dL_rest_9 5 rfl ?_
  refine r_iload C dL_rest_11 0 rfl ?_
  refine r_iload C dL_rest_13 0 rfl ?_
  refine r_iconst (v := 1) C dL_rest_15 (by decide) ?_
  refine r_iadd (z := 3) C dL_rest_16 (by decide) ?_
  obtain ⟨g3, e_g3⟩ : ∃ z : Nat → Int32, z = upd g2 2 3 := ⟨_, rfl⟩
  have hp := hp g3 e_g3
  refine r_iast C 1 0 rfl rfl (vp_in_nI (n := 2) (N := 4) (by decide) (by decide)) (I' := [sysB cI cL cP fl pl a L h v pl2 hi sa tx u w me fo fd taken st, [(aA, .inl (cI, 4, .inl g3))]]) (by rw [e_g3]; rfl) dL_rest_17 ?_
  refine r_iinc (v := 3) (L' := [(5, .int 3), (0, .ref fl), (1, .int letter), (2, .int fro), (3, .int crease), (4, .ref aA)]) C dL_rest_18 0 rfl (by decide) (by decide) rfl ?_
  refine r_goto (tgt := 3) C dL_rest_21 (by decide) ?_
  refine r_iload C dL_rest_3 0 rfl ?_
  refine r_iconst (v := 4) C dL_rest_5 (by decide) ?_
  refine r_icmp_ge (tgt := 24) C dL_rest_6 (by decide) (fun c => absurd c (by decide)) (fun _ => ?_)
  refine r_aload C dL_rest_9 5 rfl ?_
  refine r_iload C dL_rest_11 0 rfl ?_
  refine r_iload C dL_rest_13 0 rfl ?_
  refine r_iconst (v := 1) C dL_rest_15 (by decide) ?_
  refine r_iadd (z := 4) C dL_rest_16 (by decide) ?_
  obtain ⟨g4, e_g4⟩ : ∃ z : Nat → Int32, z = upd g3 3 4 := ⟨_, rfl⟩
  have hp := hp g4 e_g4
  refine r_iast C 1 0 rfl rfl (vp_in_nI (n := 3) (N := 4) (by decide) (by decide)) (I' := [sysB cI cL cP fl pl a L h v pl2 hi sa tx u w me fo fd taken st, [(aA, .inl (cI, 4, .inl g4))]]) (by rw [e_g4]; rfl) dL_rest_17 ?_
  refine r_iinc (v := 4) (L' := [(5, .int 4), (0, .ref fl), (1, .int letter), (2, .int fro), (3, .int crease), (4, .ref aA)]) C dL_rest_18 0 rfl (by decide) (by decide) rfl ?_
  refine r_goto (tgt := 3) C dL_rest_21 (by decide) ?_
  refine r_iload C dL_rest_3 0 rfl ?_
  refine r_iconst (v := 4) C dL_rest_5 (by decide) ?_
  refine r_icmp_ge (tgt := 24) C dL_rest_6 (by decide) (fun _ => ?_) (fun c => absurd c (by decide))
  refine r_aload C dL_rest_24 5 rfl ?_
  refine r_iload_n C dL_rest_26 4 rfl ?_
  obtain ⟨h5, hp⟩ := hp
  refine r_callS (wc := [[(aA, .inl (cI, 4, .inl g4))]]) (wr := [sysB cI cL cP fl pl a L h v pl2 hi sa tx u w me fo fd taken st]) (st := []) C (m_L_folds l D cI cL cP cJ aA g4 crease h5) k_L_folds t_437 [1, 0] (show ([1, 0] : List Nat).Perm (List.range 2) by decide) rfl rfl rfl (Nat.le_of_ble_eq_true rfl) ⟨Nat.le_of_ble_eq_true rfl, Nat.le_of_ble_eq_true rfl⟩ ⟨Nat.zero_le _, Nat.zero_le _⟩ dL_rest_27 (fun r6 wr6 hw6 => ?_)
  obtain rfl := hw6
  obtain ⟨g7, e_g7⟩ : ∃ z : Nat → Int32, z = F_L_folds g4 crease := ⟨_, rfl⟩
  have hp := hp g7 e_g7
  refine r_ws (I' := [[(aA, .inl (cI, 4, .inl g7))], sysB cI cL cP fl pl a L h v pl2 hi sa tx u w me fo fd taken st]) (by rw [e_g7]; rfl) ?_
  refine r_iload_n C dL_rest_30 3 rfl ?_
  refine r_istore (L' := [(5, .int fro), (0, .ref fl), (1, .int letter), (2, .int fro), (3, .int crease), (4, .ref aA)]) C dL_rest_31 (by decide) rfl ?_
  have hpl := hp
  have hL : ∀ (nn : Nat) (k8 : Nat → Int32) (y9 : Int32), P_L_rest_L33 st letter nn k8 y9 → (∀ f19 : Nat → Int32, f19 = (F_L_rest_L33 st letter nn k8 y9).1 → ∀ z20 : Int32, z20 = (F_L_rest_L33 st letter nn k8 y9).2 → V p l e (rmm 6 131) s m args below meth c 6 D A 0 0 Q [[(aA, .inl (cI, 4, .inl f19))], sysB cI cL cP fl pl a L h v pl2 hi sa tx u w me fo fd taken st] [(5, .int z20), (0, .ref fl), (1, .int letter), (2, .int fro), (3, .int crease), (4, .ref aA)] 62 []) → V p l e (rmm 6 131) s m args below meth c 6 D A 0 0 Q [[(aA, .inl (cI, 4, .inl k8))], sysB cI cL cP fl pl a L h v pl2 hi sa tx u w me fo fd taken st] [(5, .int y9), (0, .ref fl), (1, .int letter), (2, .int fro), (3, .int crease), (4, .ref aA)] 33 [] := by
    clear hpl
    intro nn
    induction nn with
    | zero => intro k8 y9 hp kk; rw [P_L_rest_L33] at hp; exact hp.elim
    | succ nn ih =>
      intro k8 y9 hp kk
      rw [P_L_rest_L33] at hp
      refine r_iload C dL_rest_33 0 rfl ?_
      refine r_aload_n C dL_rest_35 1 rfl ?_
      refine r_iload_n C dL_rest_36 2 rfl ?_
      refine r_iconst (v := 0) C dL_rest_37 (by decide) ?_
      obtain ⟨h10, hp⟩ := hp
      refine r_callV (ci := 8) (wc := [sysB cI cL cP fl pl a L h v pl2 hi sa tx u w me fo fd taken st]) (wr := [[(aA, .inl (cI, 4, .inl k8))]]) (st := [.int y9]) C (m_S_letter l D cI cL cP cJ fl pl a L h v pl2 hi sa tx u w me fo fd taken st letter 0 h10) k_X10_letter t_412 [1, 0] (show ([1, 0] : List Nat).Perm (List.range 2) by decide) rfl rfl rfl (q0 := 0) rfl rfl rfl (Nat.le_of_ble_eq_true rfl) ⟨Nat.le_of_ble_eq_true rfl, Nat.le_of_ble_eq_true rfl⟩ ⟨Nat.zero_le _, Nat.zero_le _⟩ dL_rest_38 (fun r11 wr11 hw11 => ?_)
      obtain ⟨e_r11, rfl⟩ := hw11
      have hp := hp r11 e_r11
      refine r_ws (I' := [sysB cI cL cP fl pl a L h v pl2 hi sa tx u w me fo fd taken st, [(aA, .inl (cI, 4, .inl k8))]]) rfl ?_
      refine r_icmp_ge (tgt := 62) C dL_rest_41 (by decide) (fun c12 => ?_) (fun c12 => ?_)
      · refine r_pl (I' := [[(aA, .inl (cI, 4, .inl k8))], sysB cI cL cP fl pl a L h v pl2 hi sa tx u w me fo fd taken st]) [1, 0] (show ([1, 0] : List Nat).Perm (List.range 2) by decide) rfl ?_
        have eF : F_L_rest_L33 st letter (nn + 1) k8 y9 = (k8, y9) := by have q := e_r11.symm; subst q; simp only [F_L_rest_L33, if_pos c12]
        exact kk _ (by rw [eF]) _ (by rw [eF])
      · have hp := hp.2 c12
        refine r_aload C dL_rest_44 5 rfl ?_
        refine r_aload_n C dL_rest_46 1 rfl ?_
        refine r_iload_n C dL_rest_47 2 rfl ?_
        refine r_iload C dL_rest_48 0 rfl ?_
        obtain ⟨h13, hp⟩ := hp
        refine r_callV (ci := 8) (wc := [sysB cI cL cP fl pl a L h v pl2 hi sa tx u w me fo fd taken st]) (wr := [[(aA, .inl (cI, 4, .inl k8))]]) (st := [.ref aA]) C (m_S_least l D cI cL cP cJ fl pl a L h v pl2 hi sa tx u w me fo fd taken st letter y9 h13) k_X10_least t_474 [0, 1] (show ([0, 1] : List Nat).Perm (List.range 2) by decide) rfl rfl rfl (q0 := 0) rfl rfl rfl (Nat.le_of_ble_eq_true rfl) ⟨Nat.le_of_ble_eq_true rfl, Nat.le_of_ble_eq_true rfl⟩ ⟨Nat.zero_le _, Nat.zero_le _⟩ dL_rest_50 (fun r14 wr14 hw14 => ?_)
        obtain ⟨e_r14, rfl⟩ := hw14
        have hp := hp r14 e_r14
        refine r_ws (I' := [sysB cI cL cP fl pl a L h v pl2 hi sa tx u w me fo fd taken st, [(aA, .inl (cI, 4, .inl k8))]]) rfl ?_
        obtain ⟨h15, hp⟩ := hp
        refine r_callS (wc := [[(aA, .inl (cI, 4, .inl k8))]]) (wr := [sysB cI cL cP fl pl a L h v pl2 hi sa tx u w me fo fd taken st]) (st := []) C (m_L_folds l D cI cL cP cJ aA k8 r14 h15) k_L_folds t_437 [1, 0] (show ([1, 0] : List Nat).Perm (List.range 2) by decide) rfl rfl rfl (Nat.le_of_ble_eq_true rfl) ⟨Nat.le_of_ble_eq_true rfl, Nat.le_of_ble_eq_true rfl⟩ ⟨Nat.zero_le _, Nat.zero_le _⟩ dL_rest_53 (fun r16 wr16 hw16 => ?_)
        obtain rfl := hw16
        obtain ⟨g17, e_g17⟩ : ∃ z : Nat → Int32, z = F_L_folds k8 r14 := ⟨_, rfl⟩
        have hp := hp g17 e_g17
        refine r_ws (I' := [[(aA, .inl (cI, 4, .inl g17))], sysB cI cL cP fl pl a L h v pl2 hi sa tx u w me fo fd taken st]) (by rw [e_g17]; rfl) ?_
        obtain ⟨x18, e_x18⟩ : ∃ z : Int32, z = y9 + 1 := ⟨_, rfl⟩
        have hp := hp x18 e_x18
        refine r_iinc (v := x18) (L' := [(5, .int x18), (0, .ref fl), (1, .int letter), (2, .int fro), (3, .int crease), (4, .ref aA)]) C dL_rest_56 0 rfl (by rw [e_x18]; exact ii (by decide)) (by decide) rfl ?_
        refine r_goto (tgt := 33) C dL_rest_59 (by decide) ?_
        have eF : F_L_rest_L33 st letter (nn + 1) k8 y9 = F_L_rest_L33 st letter nn g17 x18 := by have q := e_r11.symm; subst q; have q := e_r14.symm; subst q; have q := e_g17.symm; subst q; have q := e_x18.symm; subst q; simp only [F_L_rest_L33, if_neg c12]
        exact ih g17 x18 hp (fun f19 e_f19 z20 e_z20 => kk f19 (by rw [eF]; exact e_f19) z20 (by rw [eF]; exact e_z20))
  refine hL 18 g7 fro hpl (fun f19 e_f19 z20 e_z20 => ?_)
  clear hL hpl
  refine r_aload C dL_rest_62 5 rfl ?_
  refine r_callS (wc := [[(aA, .inl (cI, 4, .inl f19))]]) (wr := [sysB cI cL cP fl pl a L h v pl2 hi sa tx u w me fo fd taken st]) (st := []) C (m_L_length l D cI cL cP cJ aA f19) k_L_length t_453 [0, 1] (show ([0, 1] : List Nat).Perm (List.range 2) by decide) rfl rfl rfl (Nat.le_of_ble_eq_true rfl) ⟨Nat.le_of_ble_eq_true rfl, Nat.le_of_ble_eq_true rfl⟩ ⟨Nat.zero_le _, Nat.zero_le _⟩ dL_rest_64 (fun r21 wr21 hw21 => ?_)
  obtain ⟨e_r21, rfl⟩ := hw21
  refine r_ws (I' := [[(aA, .inl (cI, 4, .inl f19))], sysB cI cL cP fl pl a L h v pl2 hi sa tx u w me fo fd taken st]) rfl ?_
  refine r_pl (I' := [sysB cI cL cP fl pl a L h v pl2 hi sa tx u w me fo fd taken st, [(aA, .inl (cI, 4, .inl f19))]]) [1, 0] (show ([1, 0] : List Nat).Perm (List.range 2) by decide) rfl ?_
  have eF : F_L_rest st fA letter fro crease = (r21, f19) := by have q := e_g1.symm; subst q; have q := e_g2.symm; subst q; have q := e_g3.symm; subst q; have q := e_g4.symm; subst q; have q := e_g7.symm; subst q; have q := e_f19.symm; subst q; have q := e_z20.symm; subst q; have q := e_r21.symm; subst q; rfl
  exact r_iret (r := r21) C hA hr hlo dL_rest_67 [sysB cI cL cP fl pl a L h v pl2 hi sa tx u w me fo fd taken st, [(aA, .inl (cI, 4, .inl f19))]] ⟨by simp only [eF], by simp only [eF]⟩ rfl hQ
theorem k_L_isLeast : kS yL_isLeast cL_isLeast 7 (some .boolean) 3 := ⟨t_472, t_6, t_473, by decide +kernel, by decide +kernel, by decide +kernel⟩
def F_L_isLeast_L33 (r2 : Int32) (st : St) (letter : Int32) : Nat → (Nat → Int32) → Int32 → (Nat → Int32) × Int32
  | 0, k7, y8 => (k7, y8)
  | nn + 1, k7, y8 => (if r2 ≤ y8 then ((k7, y8)) else ((if 16 ≤ y8 then ((k7, y8)) else (let r12 : Int32 := F_S_least st letter y8; let g17 : Nat → Int32 := F_L_folds k7 r12; let x18 : Int32 := y8 + 1; F_L_isLeast_L33 r2 st letter nn g17 x18))))
def P_L_isLeast_L33 (r2 : Int32) (st : St) (letter : Int32) : Nat → (Nat → Int32) → Int32 → Prop
  | 0, _, _ => False
  | nn + 1, k7, y8 => ((r2 ≤ y8 → True) ∧ (¬ r2 ≤ y8 → ((16 ≤ y8 → True) ∧ (¬ 16 ≤ y8 → ((P_S_least st letter y8) ∧ (∀ r12 : Int32, r12 = F_S_least st letter y8 → ((¬ r12 < 0) ∧ ((r12 ≤ 3) ∧ ((P_L_folds k7 r12) ∧ (∀ g17 : Nat → Int32, g17 = F_L_folds k7 r12 → (∀ x18 : Int32, x18 = y8 + 1 → (P_L_isLeast_L33 r2 st letter nn g17 x18))))))))))))
def F_L_isLeast_L162 (st : St) (letter : Int32) (y38 : Int32) (r2 : Int32) : Nat → (Nat → Int32) → Int32 → (Nat → Int32) × Int32
  | 0, k40, y41 => (k40, y41)
  | nn + 1, k40, y41 => let r43 : Int32 := F_S_least st letter y38; (if r43 ≤ y41 then ((k40, y41)) else (let g47 : Nat → Int32 := (F_L_rest st k40 letter y38 y41).2; let x49 : Int32 := y41 + 1; F_L_isLeast_L162 st letter y38 r2 nn g47 x49))
def P_L_isLeast_L162 (st : St) (letter : Int32) (y38 : Int32) (r2 : Int32) : Nat → (Nat → Int32) → Int32 → Prop
  | 0, _, _ => False
  | nn + 1, k40, y41 => ((P_S_least st letter y38) ∧ (∀ r43 : Int32, r43 = F_S_least st letter y38 → ((r43 ≤ y41 → True) ∧ (¬ r43 ≤ y41 → ((P_L_rest st k40 letter y38 y41) ∧ (∀ r46 : Int32, r46 = (F_L_rest st k40 letter y38 y41).1 → (∀ g47 : Nat → Int32, g47 = (F_L_rest st k40 letter y38 y41).2 → ((¬ r46 ≤ (r2 - y38)) ∧ (∀ x49 : Int32, x49 = y41 + 1 → (P_L_isLeast_L162 st letter y38 r2 nn g47 x49))))))))))
def F_L_isLeast_L148 (r2 : Int32) (st : St) (letter : Int32) : Nat → (Nat → Int32) → Int32 → (Nat → Int32) × Int32
  | 0, k37, y38 => (k37, y38)
  | nn + 1, k37, y38 => (if r2 ≤ y38 then ((k37, y38)) else (let f50 : Nat → Int32 := (F_L_isLeast_L162 st letter y38 r2 5 k37 0).1; let x52 : Int32 := y38 + 1; F_L_isLeast_L148 r2 st letter nn f50 x52))
def P_L_isLeast_L148 (r2 : Int32) (st : St) (letter : Int32) : Nat → (Nat → Int32) → Int32 → Prop
  | 0, _, _ => False
  | nn + 1, k37, y38 => ((r2 ≤ y38 → True) ∧ (¬ r2 ≤ y38 → ((P_L_isLeast_L162 st letter y38 r2 5 k37 0) ∧ (∀ f50 : Nat → Int32, f50 = (F_L_isLeast_L162 st letter y38 r2 5 k37 0).1 → (∀ z51 : Int32, z51 = (F_L_isLeast_L162 st letter y38 r2 5 k37 0).2 → (∀ x52 : Int32, x52 = y38 + 1 → (P_L_isLeast_L148 r2 st letter nn f50 x52)))))))
set_option maxRecDepth 20000 in
def F_L_isLeast (st : St) (fA : Nat → Int32) (letter : Int32) : (Nat → Int32) := let r2 : Int32 := F_S_letter st letter 0; let g3 : Nat → Int32 := upd fA 0 1; let g4 : Nat → Int32 := upd g3 1 2; let g5 : Nat → Int32 := upd g4 2 3; let g6 : Nat → Int32 := upd g5 3 4; let f19 : Nat → Int32 := (F_L_isLeast_L33 r2 st letter 17 g6 0).1; let f53 : Nat → Int32 := (F_L_isLeast_L148 r2 st letter 17 f19 0).1; f53
set_option maxRecDepth 20000 in
def P_L_isLeast (st : St) (fA : Nat → Int32) (letter : Int32) : Prop := ((P_S_letter st letter 0) ∧ (∀ r2 : Int32, r2 = F_S_letter st letter 0 → (∀ g3 : Nat → Int32, g3 = upd fA 0 1 → (∀ g4 : Nat → Int32, g4 = upd g3 1 2 → (∀ g5 : Nat → Int32, g5 = upd g4 2 3 → (∀ g6 : Nat → Int32, g6 = upd g5 3 4 → ((P_L_isLeast_L33 r2 st letter 17 g6 0) ∧ (∀ f19 : Nat → Int32, f19 = (F_L_isLeast_L33 r2 st letter 17 g6 0).1 → (∀ z20 : Int32, z20 = (F_L_isLeast_L33 r2 st letter 17 g6 0).2 → ((P_S_least st letter r2) ∧ (∀ r22 : Int32, r22 = F_S_least st letter r2 → ((r22 = (-10)) ∧ ((¬ 16 < r2) ∧ ((P_S_layer letter 0) ∧ (∀ r26 : Int32, r26 = F_S_layer st letter 0 → (((f19 0) = r26) ∧ ((P_S_layer letter 1) ∧ (∀ r29 : Int32, r29 = F_S_layer st letter 1 → (((f19 1) = r29) ∧ ((P_S_layer letter 2) ∧ (∀ r32 : Int32, r32 = F_S_layer st letter 2 → (((f19 2) = r32) ∧ ((P_S_layer letter 3) ∧ (∀ r35 : Int32, r35 = F_S_layer st letter 3 → (((f19 3) = r35) ∧ (P_L_isLeast_L148 r2 st letter 17 f19 0))))))))))))))))))))))))))
set_option maxRecDepth 20000 in
set_option maxHeartbeats 8000000 in
theorem m_L_isLeast (l : Launch) (D : va_G) (cI cL cP cJ : ClassId) (fl : Nat) (pl : Nat) (a : Nat) (L : Nat → Nat) (h : Nat → Nat) (v : Nat → Nat) (pl2 : Nat) (hi : Nat) (sa : Nat) (tx : Nat) (u : Nat) (w : Nat) (me : Nat) (fo : Nat) (fd : Nat) (taken : Int32) (st : St) (aA : Nat) (fA : Nat → Int32) (letter : Int32) (hp : P_L_isLeast st fA letter) : M vI l yL_isLeast cL_isLeast 7 (some .boolean) 7 156 D (tyF cI cL cP cJ) [.ref fl, .int letter, .ref aA] [sysB cI cL cP fl pl a L h v pl2 hi sa tx u w me fo fd taken st, [(aA, .inl (cI, 4, .inl fA))]] (fun (r : Int32) (w1 : List va_W) => r = 1 ∧ w1 = [sysB cI cL cP fl pl a L h v pl2 hi sa tx u w me fo fd taken st, [(aA, .inl (cI, 4, .inl (F_L_isLeast st fA letter)))]]) := by
  unfold P_L_isLeast at hp
  refine m_start (by decide +kernel) (Nat.le_of_ble_eq_true rfl) (fun p e s m args below meth c A Q hA hQ C hr hlo => ?_)
  refine r_Le (L' := [(0, .ref fl), (1, .int letter), (2, .ref aA)]) rfl ?_
  refine r_aload_n C dL_isLeast_0 0 rfl ?_
  refine r_iload_n C dL_isLeast_1 1 rfl ?_
  refine r_iconst (v := 0) C dL_isLeast_2 (by decide) ?_
  obtain ⟨h1, hp⟩ := hp
  refine r_callV (ci := 8) (wc := [sysB cI cL cP fl pl a L h v pl2 hi sa tx u w me fo fd taken st]) (wr := [[(aA, .inl (cI, 4, .inl fA))]]) (st := []) C (m_S_letter l D cI cL cP cJ fl pl a L h v pl2 hi sa tx u w me fo fd taken st letter 0 h1) k_X10_letter t_412 [0, 1] (show ([0, 1] : List Nat).Perm (List.range 2) by decide) rfl rfl rfl (q0 := 0) rfl rfl rfl (Nat.le_of_ble_eq_true rfl) ⟨Nat.le_of_ble_eq_true rfl, Nat.le_of_ble_eq_true rfl⟩ ⟨Nat.zero_le _, Nat.zero_le _⟩ dL_isLeast_3 (fun r2 wr2 hw2 => ?_)
  obtain ⟨e_r2, rfl⟩ := hw2
  have hp := hp r2 e_r2
  refine r_ws (I' := [sysB cI cL cP fl pl a L h v pl2 hi sa tx u w me fo fd taken st, [(aA, .inl (cI, 4, .inl fA))]]) rfl ?_
  refine r_istore_n (L' := [(3, .int r2), (0, .ref fl), (1, .int letter), (2, .ref aA)]) C dL_isLeast_6 (by decide) rfl ?_
  refine r_iconst (v := 0) C dL_isLeast_7 (by decide) ?_
  refine r_istore (L' := [(4, .int 0), (3, .int r2), (0, .ref fl), (1, .int letter), (2, .ref aA)]) C dL_isLeast_8 (by decide) rfl ?_
  refine r_iload C dL_isLeast_10 0 rfl ?_
  refine r_iconst (v := 4) C dL_isLeast_12 (by decide) ?_
  refine r_icmp_ge (tgt := 30) C dL_isLeast_13 (by decide) (fun c => absurd c (by decide)) (fun _ => ?_)
  refine r_aload_n C dL_isLeast_16 4 rfl ?_
  refine r_iload C dL_isLeast_17 0 rfl ?_
  refine r_iload C dL_isLeast_19 0 rfl ?_
  refine r_iconst (v := 1) C dL_isLeast_21 (by decide) ?_
  refine r_iadd (z := 1) C dL_isLeast_22 (by decide) ?_
  obtain ⟨g3, e_g3⟩ : ∃ z : Nat → Int32, z = upd fA 0 1 := ⟨_, rfl⟩
  have hp := hp g3 e_g3
  refine r_iast C 1 0 rfl rfl (vp_in_nI (n := 0) (N := 4) (by decide) (by decide)) (I' := [sysB cI cL cP fl pl a L h v pl2 hi sa tx u w me fo fd taken st, [(aA, .inl (cI, 4, .inl g3))]]) (by rw [e_g3]; rfl) dL_isLeast_23 ?_
  refine r_iinc (v := 1) (L' := [(4, .int 1), (3, .int r2), (0, .ref fl), (1, .int letter), (2, .ref aA)]) C dL_isLeast_24 0 rfl (by decide) (by decide) rfl ?_
  refine r_goto (tgt := 10) C dL_isLeast_27 (by decide) ?_
  refine r_iload C dL_isLeast_10 0 rfl ?_
  refine r_iconst (v := 4) C dL_isLeast_12 (by decide) ?_
  refine r_icmp_ge (tgt := 30) C dL_isLeast_13 (by decide) (fun c => absurd c (by decide)) (fun _ => ?_)
  refine r_aload_n C dL_isLeast_16 4 rfl ?_
  refine r_iload C dL_isLeast_17 0 rfl ?_
  refine r_iload C dL_isLeast_19 0 rfl ?_
  refine r_iconst (v := 1) C dL_isLeast_21 (by decide) ?_
  refine r_iadd (z := 2) C dL_isLeast_22 (by decide) ?_
  obtain ⟨g4, e_g4⟩ : ∃ z : Nat → Int32, z = upd g3 1 2 := ⟨_, rfl⟩
  have hp := hp g4 e_g4
  refine r_iast C 1 0 rfl rfl (vp_in_nI (n := 1) (N := 4) (by decide) (by decide)) (I' := [sysB cI cL cP fl pl a L h v pl2 hi sa tx u w me fo fd taken st, [(aA, .inl (cI, 4, .inl g4))]]) (by rw [e_g4]; rfl) dL_isLeast_23 ?_
  refine r_iinc (v := 2) (L' := [(4, .int 2), (3, .int r2), (0, .ref fl), (1, .int letter), (2, .ref aA)]) C dL_isLeast_24 0 rfl (by decide) (by decide) rfl ?_
  refine r_goto (tgt := 10) C dL_isLeast_27 (by decide) ?_
  refine r_iload C dL_isLeast_10 0 rfl ?_
  refine r_iconst (v := 4) C dL_isLeast_12 (by decide) ?_
  refine r_icmp_ge (tgt := 30) C dL_isLeast_13 (by decide) (fun c => absurd c (by decide)) (fun _ => ?_)
  refine r_aload_n C dL_isLeast_16 4 rfl ?_
  refine r_iload C dL_isLeast_17 0 rfl ?_
  refine r_iload C dL_isLeast_19 0 rfl ?_
  refine r_iconst (v := 1) C dL_isLeast_21 (by decide) ?_
  refine r_iadd (z := 3) C dL_isLeast_22 (by decide) ?_
  obtain ⟨g5, e_g5⟩ : ∃ z : Nat → Int32, z = upd g4 2 3 := ⟨_, rfl⟩
  have hp := hp g5 e_g5
  refine r_iast C 1 0 rfl rfl (vp_in_nI (n := 2) (N := 4) (by decide) (by decide)) (I' := [sysB cI cL cP fl pl a L h v pl2 hi sa tx u w me fo fd taken st, [(aA, .inl (cI, 4, .inl g5))]]) (by rw [e_g5]; rfl) dL_isLeast_23 ?_
  refine r_iinc (v := 3) (L' := [(4, .int 3), (3, .int r2), (0, .ref fl), (1, .int letter), (2, .ref aA)]) C dL_isLeast_24 0 rfl (by decide) (by decide) rfl ?_
  refine r_goto (tgt := 10) C dL_isLeast_27 (by decide) ?_
  refine r_iload C dL_isLeast_10 0 rfl ?_
  refine r_iconst (v := 4) C dL_isLeast_12 (by decide) ?_
  refine r_icmp_ge (tgt := 30) C dL_isLeast_13 (by decide) (fun c => absurd c (by decide)) (fun _ => ?_)
  refine r_aload_n C dL_isLeast_16 4 rfl ?_
  refine r_iload C dL_isLeast_17 0 rfl ?_
  refine r_iload C dL_isLeast_19 0 rfl ?_
  refine r_iconst (v := 1) C dL_isLeast_21 (by decide) ?_
  refine r_iadd (z := 4) C dL_isLeast_22 (by decide) ?_
  obtain ⟨g6, e_g6⟩ : ∃ z : Nat → Int32, z = upd g5 3 4 := ⟨_, rfl⟩
  have hp := hp g6 e_g6
  refine r_iast C 1 0 rfl rfl (vp_in_nI (n := 3) (N := 4) (by decide) (by decide)) (I' := [sysB cI cL cP fl pl a L h v pl2 hi sa tx u w me fo fd taken st, [(aA, .inl (cI, 4, .inl g6))]]) (by rw [e_g6]; rfl) dL_isLeast_23 ?_
  refine r_iinc (v := 4) (L' := [(4, .int 4), (3, .int r2), (0, .ref fl), (1, .int letter), (2, .ref aA)]) C dL_isLeast_24 0 rfl (by decide) (by decide) rfl ?_
  refine r_goto (tgt := 10) C dL_isLeast_27 (by decide) ?_
  refine r_iload C dL_isLeast_10 0 rfl ?_
  refine r_iconst (v := 4) C dL_isLeast_12 (by decide) ?_
  refine r_icmp_ge (tgt := 30) C dL_isLeast_13 (by decide) (fun _ => ?_) (fun c => absurd c (by decide))
  refine r_iconst (v := 0) C dL_isLeast_30 (by decide) ?_
  refine r_istore (L' := [(4, .int 0), (3, .int r2), (0, .ref fl), (1, .int letter), (2, .ref aA)]) C dL_isLeast_31 (by decide) rfl ?_
  obtain ⟨hpl, hp⟩ := hp
  have hL : ∀ (nn : Nat) (k7 : Nat → Int32) (y8 : Int32), P_L_isLeast_L33 r2 st letter nn k7 y8 → (∀ f19 : Nat → Int32, f19 = (F_L_isLeast_L33 r2 st letter nn k7 y8).1 → ∀ z20 : Int32, z20 = (F_L_isLeast_L33 r2 st letter nn k7 y8).2 → V p l e (rmm 7 156) s m args below meth c 7 D A 0 0 Q [sysB cI cL cP fl pl a L h v pl2 hi sa tx u w me fo fd taken st, [(aA, .inl (cI, 4, .inl f19))]] [(4, .int z20), (3, .int r2), (0, .ref fl), (1, .int letter), (2, .ref aA)] 80 []) → V p l e (rmm 7 156) s m args below meth c 7 D A 0 0 Q [sysB cI cL cP fl pl a L h v pl2 hi sa tx u w me fo fd taken st, [(aA, .inl (cI, 4, .inl k7))]] [(4, .int y8), (3, .int r2), (0, .ref fl), (1, .int letter), (2, .ref aA)] 33 [] := by
    clear hpl hp
    intro nn
    induction nn with
    | zero => intro k7 y8 hp kk; rw [P_L_isLeast_L33] at hp; exact hp.elim
    | succ nn ih =>
      intro k7 y8 hp kk
      rw [P_L_isLeast_L33] at hp
      refine r_iload C dL_isLeast_33 0 rfl ?_
      refine r_iload_n C dL_isLeast_35 1 rfl ?_
      refine r_icmp_ge (tgt := 80) C dL_isLeast_36 (by decide) (fun c9 => ?_) (fun c9 => ?_)
      · have eF : F_L_isLeast_L33 r2 st letter (nn + 1) k7 y8 = (k7, y8) := by simp only [F_L_isLeast_L33, if_pos c9]
        exact kk _ (by rw [eF]) _ (by rw [eF])
      · have hp := hp.2 c9
        refine r_iload C dL_isLeast_39 0 rfl ?_
        refine r_bipush (v := 16) C dL_isLeast_41 (by decide) ?_
        refine r_icmp_ge (tgt := 80) C dL_isLeast_43 (by decide) (fun c10 => ?_) (fun c10 => ?_)
        · have eF : F_L_isLeast_L33 r2 st letter (nn + 1) k7 y8 = (k7, y8) := by simp only [F_L_isLeast_L33, if_neg c9, if_pos c10]
          exact kk _ (by rw [eF]) _ (by rw [eF])
        · have hp := hp.2 c10
          refine r_aload_n C dL_isLeast_46 2 rfl ?_
          refine r_iload_n C dL_isLeast_47 3 rfl ?_
          refine r_iload C dL_isLeast_48 0 rfl ?_
          obtain ⟨h11, hp⟩ := hp
          refine r_callV (ci := 8) (wc := [sysB cI cL cP fl pl a L h v pl2 hi sa tx u w me fo fd taken st]) (wr := [[(aA, .inl (cI, 4, .inl k7))]]) (st := []) C (m_S_least l D cI cL cP cJ fl pl a L h v pl2 hi sa tx u w me fo fd taken st letter y8 h11) k_X10_least t_474 [0, 1] (show ([0, 1] : List Nat).Perm (List.range 2) by decide) rfl rfl rfl (q0 := 0) rfl rfl rfl (Nat.le_of_ble_eq_true rfl) ⟨Nat.le_of_ble_eq_true rfl, Nat.le_of_ble_eq_true rfl⟩ ⟨Nat.zero_le _, Nat.zero_le _⟩ dL_isLeast_50 (fun r12 wr12 hw12 => ?_)
          obtain ⟨e_r12, rfl⟩ := hw12
          have hp := hp r12 e_r12
          refine r_ws (I' := [sysB cI cL cP fl pl a L h v pl2 hi sa tx u w me fo fd taken st, [(aA, .inl (cI, 4, .inl k7))]]) rfl ?_
          refine r_istore (L' := [(5, .int r12), (4, .int y8), (3, .int r2), (0, .ref fl), (1, .int letter), (2, .ref aA)]) C dL_isLeast_53 (by decide) rfl ?_
          refine r_iload C dL_isLeast_55 0 rfl ?_
          obtain ⟨h13, hp⟩ := hp
          refine r_if_lt (tgt := 66) C dL_isLeast_57 (by decide) (fun c => absurd c h13) (fun _ => ?_)
          refine r_iload C dL_isLeast_60 0 rfl ?_
          refine r_iconst (v := 3) C dL_isLeast_62 (by decide) ?_
          obtain ⟨h14, hp⟩ := hp
          refine r_icmp_le (tgt := 68) C dL_isLeast_63 (by decide) (fun _ => ?_) (fun c => absurd h14 c)
          refine r_aload_n C dL_isLeast_68 5 rfl ?_
          refine r_iload C dL_isLeast_69 0 rfl ?_
          obtain ⟨h15, hp⟩ := hp
          refine r_callS (wc := [[(aA, .inl (cI, 4, .inl k7))]]) (wr := [sysB cI cL cP fl pl a L h v pl2 hi sa tx u w me fo fd taken st]) (st := []) C (m_L_folds l D cI cL cP cJ aA k7 r12 h15) k_L_folds t_437 [1, 0] (show ([1, 0] : List Nat).Perm (List.range 2) by decide) rfl rfl rfl (Nat.le_of_ble_eq_true rfl) ⟨Nat.le_of_ble_eq_true rfl, Nat.le_of_ble_eq_true rfl⟩ ⟨Nat.zero_le _, Nat.zero_le _⟩ dL_isLeast_71 (fun r16 wr16 hw16 => ?_)
          obtain rfl := hw16
          obtain ⟨g17, e_g17⟩ : ∃ z : Nat → Int32, z = F_L_folds k7 r12 := ⟨_, rfl⟩
          have hp := hp g17 e_g17
          refine r_ws (I' := [[(aA, .inl (cI, 4, .inl g17))], sysB cI cL cP fl pl a L h v pl2 hi sa tx u w me fo fd taken st]) (by rw [e_g17]; rfl) ?_
          obtain ⟨x18, e_x18⟩ : ∃ z : Int32, z = y8 + 1 := ⟨_, rfl⟩
          have hp := hp x18 e_x18
          refine r_iinc (v := x18) (L' := [(4, .int x18), (5, .int r12), (3, .int r2), (0, .ref fl), (1, .int letter), (2, .ref aA)]) C dL_isLeast_74 1 rfl (by rw [e_x18]; exact ii (by decide)) (by decide) rfl ?_
          refine r_goto (tgt := 33) C dL_isLeast_77 (by decide) ?_
          refine r_pl (I' := [sysB cI cL cP fl pl a L h v pl2 hi sa tx u w me fo fd taken st, [(aA, .inl (cI, 4, .inl g17))]]) [1, 0] (show ([1, 0] : List Nat).Perm (List.range 2) by decide) rfl ?_
          refine r_L (L' := [(4, .int x18), (3, .int r2), (0, .ref fl), (1, .int letter), (2, .ref aA)]) [0, 2, 3, 4, 5] rfl ?_
          have eF : F_L_isLeast_L33 r2 st letter (nn + 1) k7 y8 = F_L_isLeast_L33 r2 st letter nn g17 x18 := by have q := e_r12.symm; subst q; have q := e_g17.symm; subst q; have q := e_x18.symm; subst q; simp only [F_L_isLeast_L33, if_neg c9, if_neg c10]
          exact ih g17 x18 hp (fun f19 e_f19 z20 e_z20 => kk f19 (by rw [eF]; exact e_f19) z20 (by rw [eF]; exact e_z20))
  refine hL 17 g6 0 hpl (fun f19 e_f19 z20 e_z20 => ?_)
  clear hL hpl
  have hp := hp f19 e_f19
  have hp := hp z20 e_z20
  refine r_aload_n C dL_isLeast_80 2 rfl ?_
  refine r_iload_n C dL_isLeast_81 3 rfl ?_
  refine r_iload_n C dL_isLeast_82 1 rfl ?_
  obtain ⟨h21, hp⟩ := hp
  refine r_callV (ci := 8) (wc := [sysB cI cL cP fl pl a L h v pl2 hi sa tx u w me fo fd taken st]) (wr := [[(aA, .inl (cI, 4, .inl f19))]]) (st := []) C (m_S_least l D cI cL cP cJ fl pl a L h v pl2 hi sa tx u w me fo fd taken st letter r2 h21) k_X10_least t_474 [0, 1] (show ([0, 1] : List Nat).Perm (List.range 2) by decide) rfl rfl rfl (q0 := 0) rfl rfl rfl (Nat.le_of_ble_eq_true rfl) ⟨Nat.le_of_ble_eq_true rfl, Nat.le_of_ble_eq_true rfl⟩ ⟨Nat.zero_le _, Nat.zero_le _⟩ dL_isLeast_83 (fun r22 wr22 hw22 => ?_)
  obtain ⟨e_r22, rfl⟩ := hw22
  have hp := hp r22 e_r22
  refine r_ws (I' := [sysB cI cL cP fl pl a L h v pl2 hi sa tx u w me fo fd taken st, [(aA, .inl (cI, 4, .inl f19))]]) rfl ?_
  refine r_bipush (v := (-10)) C dL_isLeast_86 (by decide) ?_
  obtain ⟨h23, hp⟩ := hp
  refine r_icmp_ne (tgt := 101) C dL_isLeast_88 (by decide) (fun c => absurd h23 c) (fun _ => ?_)
  refine r_iload_n C dL_isLeast_91 1 rfl ?_
  refine r_bipush (v := 16) C dL_isLeast_92 (by decide) ?_
  obtain ⟨h24, hp⟩ := hp
  refine r_icmp_gt (tgt := 101) C dL_isLeast_94 (by decide) (fun c => absurd c h24) (fun _ => ?_)
  refine r_iconst (v := 1) C dL_isLeast_97 (by decide) ?_
  refine r_goto (tgt := 102) C dL_isLeast_98 (by decide) ?_
  refine r_istore (L' := [(4, .int 1), (3, .int r2), (0, .ref fl), (1, .int letter), (2, .ref aA)]) C dL_isLeast_102 (by decide) rfl ?_
  refine r_iconst (v := 0) C dL_isLeast_104 (by decide) ?_
  refine r_istore (L' := [(5, .int 0), (4, .int 1), (3, .int r2), (0, .ref fl), (1, .int letter), (2, .ref aA)]) C dL_isLeast_105 (by decide) rfl ?_
  refine r_iload C dL_isLeast_107 0 rfl ?_
  refine r_iconst (v := 4) C dL_isLeast_109 (by decide) ?_
  refine r_icmp_ge (tgt := 145) C dL_isLeast_110 (by decide) (fun c => absurd c (by decide)) (fun _ => ?_)
  refine r_iload C dL_isLeast_113 1 rfl ?_
  refine r_if_eq (tgt := 136) C dL_isLeast_115 (by decide) (fun c => absurd c (by decide)) (fun _ => ?_)
  refine r_aload_n C dL_isLeast_118 5 rfl ?_
  refine r_iload C dL_isLeast_119 0 rfl ?_
  refine r_iald (z := f19 0) C 1 0 rfl rfl (vp_in_nI (n := 0) (N := 4) (by decide) (by decide)) dL_isLeast_121 (congrArg (f19) (by decide)) ?_
  refine r_aload_n C dL_isLeast_122 3 rfl ?_
  refine r_iload_n C dL_isLeast_123 4 rfl ?_
  refine r_iload C dL_isLeast_124 0 rfl ?_
  obtain ⟨h25, hp⟩ := hp
  refine r_callV (ci := 8) (wc := [sysB cI cL cP fl pl a L h v pl2 hi sa tx u w me fo fd taken st]) (wr := [[(aA, .inl (cI, 4, .inl f19))]]) (st := [.int (f19 0)]) C (m_S_layer l D cI cL cP cJ fl pl a L h v pl2 hi sa tx u w me fo fd taken st letter 0 h25) k_X10_layer t_440 [0, 1] (show ([0, 1] : List Nat).Perm (List.range 2) by decide) rfl rfl rfl (q0 := 0) rfl rfl rfl (Nat.le_of_ble_eq_true rfl) ⟨Nat.le_of_ble_eq_true rfl, Nat.le_of_ble_eq_true rfl⟩ ⟨Nat.zero_le _, Nat.zero_le _⟩ dL_isLeast_126 (fun r26 wr26 hw26 => ?_)
  obtain ⟨e_r26, rfl⟩ := hw26
  have hp := hp r26 e_r26
  refine r_ws (I' := [sysB cI cL cP fl pl a L h v pl2 hi sa tx u w me fo fd taken st, [(aA, .inl (cI, 4, .inl f19))]]) rfl ?_
  obtain ⟨h27, hp⟩ := hp
  refine r_icmp_ne (tgt := 136) C dL_isLeast_129 (by decide) (fun c => absurd h27 c) (fun _ => ?_)
  refine r_iconst (v := 1) C dL_isLeast_132 (by decide) ?_
  refine r_goto (tgt := 137) C dL_isLeast_133 (by decide) ?_
  refine r_istore (L' := [(4, .int 1), (5, .int 0), (3, .int r2), (0, .ref fl), (1, .int letter), (2, .ref aA)]) C dL_isLeast_137 (by decide) rfl ?_
  refine r_iinc (v := 1) (L' := [(5, .int 1), (4, .int 1), (3, .int r2), (0, .ref fl), (1, .int letter), (2, .ref aA)]) C dL_isLeast_139 1 rfl (by decide) (by decide) rfl ?_
  refine r_goto (tgt := 107) C dL_isLeast_142 (by decide) ?_
  refine r_iload C dL_isLeast_107 0 rfl ?_
  refine r_iconst (v := 4) C dL_isLeast_109 (by decide) ?_
  refine r_icmp_ge (tgt := 145) C dL_isLeast_110 (by decide) (fun c => absurd c (by decide)) (fun _ => ?_)
  refine r_iload C dL_isLeast_113 1 rfl ?_
  refine r_if_eq (tgt := 136) C dL_isLeast_115 (by decide) (fun c => absurd c (by decide)) (fun _ => ?_)
  refine r_aload_n C dL_isLeast_118 5 rfl ?_
  refine r_iload C dL_isLeast_119 0 rfl ?_
  refine r_iald (z := f19 1) C 1 0 rfl rfl (vp_in_nI (n := 1) (N := 4) (by decide) (by decide)) dL_isLeast_121 (congrArg (f19) (by decide)) ?_
  refine r_aload_n C dL_isLeast_122 3 rfl ?_
  refine r_iload_n C dL_isLeast_123 4 rfl ?_
  refine r_iload C dL_isLeast_124 0 rfl ?_
  obtain ⟨h28, hp⟩ := hp
  refine r_callV (ci := 8) (wc := [sysB cI cL cP fl pl a L h v pl2 hi sa tx u w me fo fd taken st]) (wr := [[(aA, .inl (cI, 4, .inl f19))]]) (st := [.int (f19 1)]) C (m_S_layer l D cI cL cP cJ fl pl a L h v pl2 hi sa tx u w me fo fd taken st letter 1 h28) k_X10_layer t_440 [0, 1] (show ([0, 1] : List Nat).Perm (List.range 2) by decide) rfl rfl rfl (q0 := 0) rfl rfl rfl (Nat.le_of_ble_eq_true rfl) ⟨Nat.le_of_ble_eq_true rfl, Nat.le_of_ble_eq_true rfl⟩ ⟨Nat.zero_le _, Nat.zero_le _⟩ dL_isLeast_126 (fun r29 wr29 hw29 => ?_)
  obtain ⟨e_r29, rfl⟩ := hw29
  have hp := hp r29 e_r29
  refine r_ws (I' := [sysB cI cL cP fl pl a L h v pl2 hi sa tx u w me fo fd taken st, [(aA, .inl (cI, 4, .inl f19))]]) rfl ?_
  obtain ⟨h30, hp⟩ := hp
  refine r_icmp_ne (tgt := 136) C dL_isLeast_129 (by decide) (fun c => absurd h30 c) (fun _ => ?_)
  refine r_iconst (v := 1) C dL_isLeast_132 (by decide) ?_
  refine r_goto (tgt := 137) C dL_isLeast_133 (by decide) ?_
  refine r_istore (L' := [(4, .int 1), (5, .int 1), (3, .int r2), (0, .ref fl), (1, .int letter), (2, .ref aA)]) C dL_isLeast_137 (by decide) rfl ?_
  refine r_iinc (v := 2) (L' := [(5, .int 2), (4, .int 1), (3, .int r2), (0, .ref fl), (1, .int letter), (2, .ref aA)]) C dL_isLeast_139 1 rfl (by decide) (by decide) rfl ?_
  refine r_goto (tgt := 107) C dL_isLeast_142 (by decide) ?_
  refine r_iload C dL_isLeast_107 0 rfl ?_
  refine r_iconst (v := 4) C dL_isLeast_109 (by decide) ?_
  refine r_icmp_ge (tgt := 145) C dL_isLeast_110 (by decide) (fun c => absurd c (by decide)) (fun _ => ?_)
  refine r_iload C dL_isLeast_113 1 rfl ?_
  refine r_if_eq (tgt := 136) C dL_isLeast_115 (by decide) (fun c => absurd c (by decide)) (fun _ => ?_)
  refine r_aload_n C dL_isLeast_118 5 rfl ?_
  refine r_iload C dL_isLeast_119 0 rfl ?_
  refine r_iald (z := f19 2) C 1 0 rfl rfl (vp_in_nI (n := 2) (N := 4) (by decide) (by decide)) dL_isLeast_121 (congrArg (f19) (by decide)) ?_
  refine r_aload_n C dL_isLeast_122 3 rfl ?_
  refine r_iload_n C dL_isLeast_123 4 rfl ?_
  refine r_iload C dL_isLeast_124 0 rfl ?_
  obtain ⟨h31, hp⟩ := hp
  refine r_callV (ci := 8) (wc := [sysB cI cL cP fl pl a L h v pl2 hi sa tx u w me fo fd taken st]) (wr := [[(aA, .inl (cI, 4, .inl f19))]]) (st := [.int (f19 2)]) C (m_S_layer l D cI cL cP cJ fl pl a L h v pl2 hi sa tx u w me fo fd taken st letter 2 h31) k_X10_layer t_440 [0, 1] (show ([0, 1] : List Nat).Perm (List.range 2) by decide) rfl rfl rfl (q0 := 0) rfl rfl rfl (Nat.le_of_ble_eq_true rfl) ⟨Nat.le_of_ble_eq_true rfl, Nat.le_of_ble_eq_true rfl⟩ ⟨Nat.zero_le _, Nat.zero_le _⟩ dL_isLeast_126 (fun r32 wr32 hw32 => ?_)
  obtain ⟨e_r32, rfl⟩ := hw32
  have hp := hp r32 e_r32
  refine r_ws (I' := [sysB cI cL cP fl pl a L h v pl2 hi sa tx u w me fo fd taken st, [(aA, .inl (cI, 4, .inl f19))]]) rfl ?_
  obtain ⟨h33, hp⟩ := hp
  refine r_icmp_ne (tgt := 136) C dL_isLeast_129 (by decide) (fun c => absurd h33 c) (fun _ => ?_)
  refine r_iconst (v := 1) C dL_isLeast_132 (by decide) ?_
  refine r_goto (tgt := 137) C dL_isLeast_133 (by decide) ?_
  refine r_istore (L' := [(4, .int 1), (5, .int 2), (3, .int r2), (0, .ref fl), (1, .int letter), (2, .ref aA)]) C dL_isLeast_137 (by decide) rfl ?_
  refine r_iinc (v := 3) (L' := [(5, .int 3), (4, .int 1), (3, .int r2), (0, .ref fl), (1, .int letter), (2, .ref aA)]) C dL_isLeast_139 1 rfl (by decide) (by decide) rfl ?_
  refine r_goto (tgt := 107) C dL_isLeast_142 (by decide) ?_
  refine r_iload C dL_isLeast_107 0 rfl ?_
  refine r_iconst (v := 4) C dL_isLeast_109 (by decide) ?_
  refine r_icmp_ge (tgt := 145) C dL_isLeast_110 (by decide) (fun c => absurd c (by decide)) (fun _ => ?_)
  refine r_iload C dL_isLeast_113 1 rfl ?_
  refine r_if_eq (tgt := 136) C dL_isLeast_115 (by decide) (fun c => absurd c (by decide)) (fun _ => ?_)
  refine r_aload_n C dL_isLeast_118 5 rfl ?_
  refine r_iload C dL_isLeast_119 0 rfl ?_
  refine r_iald (z := f19 3) C 1 0 rfl rfl (vp_in_nI (n := 3) (N := 4) (by decide) (by decide)) dL_isLeast_121 (congrArg (f19) (by decide)) ?_
  refine r_aload_n C dL_isLeast_122 3 rfl ?_
  refine r_iload_n C dL_isLeast_123 4 rfl ?_
  refine r_iload C dL_isLeast_124 0 rfl ?_
  obtain ⟨h34, hp⟩ := hp
  refine r_callV (ci := 8) (wc := [sysB cI cL cP fl pl a L h v pl2 hi sa tx u w me fo fd taken st]) (wr := [[(aA, .inl (cI, 4, .inl f19))]]) (st := [.int (f19 3)]) C (m_S_layer l D cI cL cP cJ fl pl a L h v pl2 hi sa tx u w me fo fd taken st letter 3 h34) k_X10_layer t_440 [0, 1] (show ([0, 1] : List Nat).Perm (List.range 2) by decide) rfl rfl rfl (q0 := 0) rfl rfl rfl (Nat.le_of_ble_eq_true rfl) ⟨Nat.le_of_ble_eq_true rfl, Nat.le_of_ble_eq_true rfl⟩ ⟨Nat.zero_le _, Nat.zero_le _⟩ dL_isLeast_126 (fun r35 wr35 hw35 => ?_)
  obtain ⟨e_r35, rfl⟩ := hw35
  have hp := hp r35 e_r35
  refine r_ws (I' := [sysB cI cL cP fl pl a L h v pl2 hi sa tx u w me fo fd taken st, [(aA, .inl (cI, 4, .inl f19))]]) rfl ?_
  obtain ⟨h36, hp⟩ := hp
  refine r_icmp_ne (tgt := 136) C dL_isLeast_129 (by decide) (fun c => absurd h36 c) (fun _ => ?_)
  refine r_iconst (v := 1) C dL_isLeast_132 (by decide) ?_
  refine r_goto (tgt := 137) C dL_isLeast_133 (by decide) ?_
  refine r_istore (L' := [(4, .int 1), (5, .int 3), (3, .int r2), (0, .ref fl), (1, .int letter), (2, .ref aA)]) C dL_isLeast_137 (by decide) rfl ?_
  refine r_iinc (v := 4) (L' := [(5, .int 4), (4, .int 1), (3, .int r2), (0, .ref fl), (1, .int letter), (2, .ref aA)]) C dL_isLeast_139 1 rfl (by decide) (by decide) rfl ?_
  refine r_goto (tgt := 107) C dL_isLeast_142 (by decide) ?_
  refine r_iload C dL_isLeast_107 0 rfl ?_
  refine r_iconst (v := 4) C dL_isLeast_109 (by decide) ?_
  refine r_icmp_ge (tgt := 145) C dL_isLeast_110 (by decide) (fun _ => ?_) (fun c => absurd c (by decide))
  refine r_iconst (v := 0) C dL_isLeast_145 (by decide) ?_
  refine r_istore (L' := [(5, .int 0), (4, .int 1), (3, .int r2), (0, .ref fl), (1, .int letter), (2, .ref aA)]) C dL_isLeast_146 (by decide) rfl ?_
  have hpl := hp
  have hL : ∀ (nn : Nat) (k37 : Nat → Int32) (y38 : Int32), P_L_isLeast_L148 r2 st letter nn k37 y38 → (∀ f53 : Nat → Int32, f53 = (F_L_isLeast_L148 r2 st letter nn k37 y38).1 → ∀ z54 : Int32, z54 = (F_L_isLeast_L148 r2 st letter nn k37 y38).2 → V p l e (rmm 7 156) s m args below meth c 7 D A 0 0 Q [sysB cI cL cP fl pl a L h v pl2 hi sa tx u w me fo fd taken st, [(aA, .inl (cI, 4, .inl f53))]] [(5, .int z54), (4, .int 1), (3, .int r2), (0, .ref fl), (1, .int letter), (2, .ref aA)] 215 []) → V p l e (rmm 7 156) s m args below meth c 7 D A 0 0 Q [sysB cI cL cP fl pl a L h v pl2 hi sa tx u w me fo fd taken st, [(aA, .inl (cI, 4, .inl k37))]] [(5, .int y38), (4, .int 1), (3, .int r2), (0, .ref fl), (1, .int letter), (2, .ref aA)] 148 [] := by
    clear hpl
    intro nn
    induction nn with
    | zero => intro k37 y38 hp kk; rw [P_L_isLeast_L148] at hp; exact hp.elim
    | succ nn ih =>
      intro k37 y38 hp kk
      rw [P_L_isLeast_L148] at hp
      refine r_iload C dL_isLeast_148 0 rfl ?_
      refine r_iload_n C dL_isLeast_150 2 rfl ?_
      refine r_icmp_ge (tgt := 215) C dL_isLeast_151 (by decide) (fun c39 => ?_) (fun c39 => ?_)
      · have eF : F_L_isLeast_L148 r2 st letter (nn + 1) k37 y38 = (k37, y38) := by simp only [F_L_isLeast_L148, if_pos c39]
        exact kk _ (by rw [eF]) _ (by rw [eF])
      · have hp := hp.2 c39
        refine r_iload C dL_isLeast_154 1 rfl ?_
        refine r_if_eq (tgt := 215) C dL_isLeast_156 (by decide) (fun c => absurd c (by decide)) (fun _ => ?_)
        refine r_iconst (v := 0) C dL_isLeast_159 (by decide) ?_
        refine r_istore (L' := [(6, .int 0), (5, .int y38), (4, .int 1), (3, .int r2), (0, .ref fl), (1, .int letter), (2, .ref aA)]) C dL_isLeast_160 (by decide) rfl ?_
        obtain ⟨hpl, hp⟩ := hp
        have hL : ∀ (nn : Nat) (k40 : Nat → Int32) (y41 : Int32), P_L_isLeast_L162 st letter y38 r2 nn k40 y41 → (∀ f50 : Nat → Int32, f50 = (F_L_isLeast_L162 st letter y38 r2 nn k40 y41).1 → ∀ z51 : Int32, z51 = (F_L_isLeast_L162 st letter y38 r2 nn k40 y41).2 → V p l e (rmm 7 156) s m args below meth c 7 D A 0 0 Q [sysB cI cL cP fl pl a L h v pl2 hi sa tx u w me fo fd taken st, [(aA, .inl (cI, 4, .inl f50))]] [(6, .int z51), (5, .int y38), (4, .int 1), (3, .int r2), (0, .ref fl), (1, .int letter), (2, .ref aA)] 209 []) → V p l e (rmm 7 156) s m args below meth c 7 D A 0 0 Q [sysB cI cL cP fl pl a L h v pl2 hi sa tx u w me fo fd taken st, [(aA, .inl (cI, 4, .inl k40))]] [(6, .int y41), (5, .int y38), (4, .int 1), (3, .int r2), (0, .ref fl), (1, .int letter), (2, .ref aA)] 162 [] := by
          clear hpl hp
          intro nn
          induction nn with
          | zero => intro k40 y41 hp kk; rw [P_L_isLeast_L162] at hp; exact hp.elim
          | succ nn ih =>
            intro k40 y41 hp kk
            rw [P_L_isLeast_L162] at hp
            refine r_iload C dL_isLeast_162 0 rfl ?_
            refine r_aload_n C dL_isLeast_164 4 rfl ?_
            refine r_iload_n C dL_isLeast_165 5 rfl ?_
            refine r_iload C dL_isLeast_166 1 rfl ?_
            obtain ⟨h42, hp⟩ := hp
            refine r_callV (ci := 8) (wc := [sysB cI cL cP fl pl a L h v pl2 hi sa tx u w me fo fd taken st]) (wr := [[(aA, .inl (cI, 4, .inl k40))]]) (st := [.int y41]) C (m_S_least l D cI cL cP cJ fl pl a L h v pl2 hi sa tx u w me fo fd taken st letter y38 h42) k_X10_least t_474 [0, 1] (show ([0, 1] : List Nat).Perm (List.range 2) by decide) rfl rfl rfl (q0 := 0) rfl rfl rfl (Nat.le_of_ble_eq_true rfl) ⟨Nat.le_of_ble_eq_true rfl, Nat.le_of_ble_eq_true rfl⟩ ⟨Nat.zero_le _, Nat.zero_le _⟩ dL_isLeast_168 (fun r43 wr43 hw43 => ?_)
            obtain ⟨e_r43, rfl⟩ := hw43
            have hp := hp r43 e_r43
            refine r_ws (I' := [sysB cI cL cP fl pl a L h v pl2 hi sa tx u w me fo fd taken st, [(aA, .inl (cI, 4, .inl k40))]]) rfl ?_
            refine r_icmp_ge (tgt := 209) C dL_isLeast_171 (by decide) (fun c44 => ?_) (fun c44 => ?_)
            · have eF : F_L_isLeast_L162 st letter y38 r2 (nn + 1) k40 y41 = (k40, y41) := by have q := e_r43.symm; subst q; simp only [F_L_isLeast_L162, if_pos c44]
              exact kk _ (by rw [eF]) _ (by rw [eF])
            · have hp := hp.2 c44
              refine r_iload C dL_isLeast_174 2 rfl ?_
              refine r_if_eq (tgt := 200) C dL_isLeast_176 (by decide) (fun c => absurd c (by decide)) (fun _ => ?_)
              refine r_aload_n C dL_isLeast_179 4 rfl ?_
              refine r_iload_n C dL_isLeast_180 5 rfl ?_
              refine r_iload C dL_isLeast_181 1 rfl ?_
              refine r_iload C dL_isLeast_183 0 rfl ?_
              refine r_aload_n C dL_isLeast_185 6 rfl ?_
              obtain ⟨h45, hp⟩ := hp
              refine r_callS (wc := [sysB cI cL cP fl pl a L h v pl2 hi sa tx u w me fo fd taken st, [(aA, .inl (cI, 4, .inl k40))]]) (wr := []) (st := []) C (m_L_rest l D cI cL cP cJ fl pl a L h v pl2 hi sa tx u w me fo fd taken st aA k40 letter y38 y41 h45) k_L_rest t_484 [0, 1] (show ([0, 1] : List Nat).Perm (List.range 2) by decide) rfl rfl rfl (Nat.le_of_ble_eq_true rfl) ⟨Nat.le_of_ble_eq_true rfl, Nat.le_of_ble_eq_true rfl⟩ ⟨Nat.zero_le _, Nat.zero_le _⟩ dL_isLeast_186 (fun r46 wr46 hw46 => ?_)
              obtain ⟨e_r46, rfl⟩ := hw46
              have hp := hp r46 e_r46
              obtain ⟨g47, e_g47⟩ : ∃ z : Nat → Int32, z = (F_L_rest st k40 letter y38 y41).2 := ⟨_, rfl⟩
              have hp := hp g47 e_g47
              refine r_ws (I' := [sysB cI cL cP fl pl a L h v pl2 hi sa tx u w me fo fd taken st, [(aA, .inl (cI, 4, .inl g47))]]) (by rw [e_g47]; rfl) ?_
              refine r_iload_n C dL_isLeast_189 3 rfl ?_
              refine r_iload C dL_isLeast_190 1 rfl ?_
              refine r_isub C dL_isLeast_192 rfl ?_
              obtain ⟨h48, hp⟩ := hp
              refine r_icmp_le (tgt := 200) C dL_isLeast_193 (by decide) (fun c => absurd c h48) (fun _ => ?_)
              refine r_iconst (v := 1) C dL_isLeast_196 (by decide) ?_
              refine r_goto (tgt := 201) C dL_isLeast_197 (by decide) ?_
              refine r_istore (L' := [(4, .int 1), (6, .int y41), (5, .int y38), (3, .int r2), (0, .ref fl), (1, .int letter), (2, .ref aA)]) C dL_isLeast_201 (by decide) rfl ?_
              obtain ⟨x49, e_x49⟩ : ∃ z : Int32, z = y41 + 1 := ⟨_, rfl⟩
              have hp := hp x49 e_x49
              refine r_iinc (v := x49) (L' := [(6, .int x49), (4, .int 1), (5, .int y38), (3, .int r2), (0, .ref fl), (1, .int letter), (2, .ref aA)]) C dL_isLeast_203 1 rfl (by rw [e_x49]; exact ii (by decide)) (by decide) rfl ?_
              refine r_goto (tgt := 162) C dL_isLeast_206 (by decide) ?_
              refine r_L (L' := [(6, .int x49), (5, .int y38), (4, .int 1), (3, .int r2), (0, .ref fl), (1, .int letter), (2, .ref aA)]) [0, 2, 1, 3, 4, 5, 6] rfl ?_
              have eF : F_L_isLeast_L162 st letter y38 r2 (nn + 1) k40 y41 = F_L_isLeast_L162 st letter y38 r2 nn g47 x49 := by have q := e_r43.symm; subst q; have q := e_r46.symm; subst q; have q := e_g47.symm; subst q; have q := e_x49.symm; subst q; simp only [F_L_isLeast_L162, if_neg c44]
              exact ih g47 x49 hp (fun f50 e_f50 z51 e_z51 => kk f50 (by rw [eF]; exact e_f50) z51 (by rw [eF]; exact e_z51))
        refine hL 5 k37 0 hpl (fun f50 e_f50 z51 e_z51 => ?_)
        clear hL hpl
        have hp := hp f50 e_f50
        have hp := hp z51 e_z51
        obtain ⟨x52, e_x52⟩ : ∃ z : Int32, z = y38 + 1 := ⟨_, rfl⟩
        have hp := hp x52 e_x52
        refine r_iinc (v := x52) (L' := [(5, .int x52), (6, .int z51), (4, .int 1), (3, .int r2), (0, .ref fl), (1, .int letter), (2, .ref aA)]) C dL_isLeast_209 1 rfl (by rw [e_x52]; exact ii (by decide)) (by decide) rfl ?_
        refine r_goto (tgt := 148) C dL_isLeast_212 (by decide) ?_
        refine r_L (L' := [(5, .int x52), (4, .int 1), (3, .int r2), (0, .ref fl), (1, .int letter), (2, .ref aA)]) [0, 2, 3, 4, 5, 6] rfl ?_
        have eF : F_L_isLeast_L148 r2 st letter (nn + 1) k37 y38 = F_L_isLeast_L148 r2 st letter nn f50 x52 := by have q := e_f50.symm; subst q; have q := e_z51.symm; subst q; have q := e_x52.symm; subst q; simp only [F_L_isLeast_L148, if_neg c39]
        exact ih f50 x52 hp (fun f53 e_f53 z54 e_z54 => kk f53 (by rw [eF]; exact e_f53) z54 (by rw [eF]; exact e_z54))
  refine hL 17 f19 0 hpl (fun f53 e_f53 z54 e_z54 => ?_)
  clear hL hpl
  refine r_iload C dL_isLeast_215 1 rfl ?_
  have eF : F_L_isLeast st fA letter = f53 := by have q := e_r2.symm; subst q; have q := e_g3.symm; subst q; have q := e_g4.symm; subst q; have q := e_g5.symm; subst q; have q := e_g6.symm; subst q; have q := e_f19.symm; subst q; have q := e_z20.symm; subst q; have q := e_r22.symm; subst q; have q := e_r26.symm; subst q; have q := e_r29.symm; subst q; have q := e_r32.symm; subst q; have q := e_r35.symm; subst q; have q := e_f53.symm; subst q; have q := e_z54.symm; subst q; rfl
  exact r_zret (r := 1) C hA hr hlo (rfl) dL_isLeast_217 [sysB cI cL cP fl pl a L h v pl2 hi sa tx u w me fo fd taken st, [(aA, .inl (cI, 4, .inl f53))]] ⟨rfl, by simp only [eF]⟩ rfl hQ

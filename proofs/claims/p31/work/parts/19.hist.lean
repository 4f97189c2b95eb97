theorem k_X4_liesAsOneBefore : kV yX4_liesAsOneBefore cX4_liesAsOneBefore 3 (some .boolean) 1 := ⟨t_285, t_1, t_8, t_286, by decide +kernel, by decide +kernel, by decide +kernel⟩
set_option maxRecDepth 20000 in
def F_X4_liesAsOneBefore_0  : Int32 := 0
set_option maxRecDepth 20000 in
set_option maxHeartbeats 8000000 in
theorem m_X4_liesAsOneBefore_0 (l : Launch) (D : va_G) (cI cL cP cJ : ClassId) (pl : Nat) (a : Nat) (L : Nat → Nat) (h : Nat → Nat) (v : Nat → Nat) (lie : Nat → Int32) (seals : Nat → Int32) (folds : Nat → Int32) (n : Nat → Int32) (f : Nat → Nat → Int32) : M vI l yX4_liesAsOneBefore cX4_liesAsOneBefore 3 (some .boolean) 0 0 D (tyF cI cL cP cJ) [.ref pl, .int 0] [pileB cI cL pl a L h v lie seals folds n f] (fun (r : Int32) (w1 : List va_W) => r = F_X4_liesAsOneBefore_0 ∧ w1 = [pileB cI cL pl a L h v lie seals folds n f]) := by
  refine m_start (by decide +kernel) (Nat.le_of_ble_eq_true rfl) (fun p e s m args below meth c A Q hA hQ C hr hlo => ?_)
  refine r_Le (L' := [(0, .ref pl), (1, .int 0)]) rfl ?_
  refine r_iconst (v := 0) C dX4_liesAsOneBefore_0 (by decide) ?_
  refine r_istore_n (L' := [(2, .int 0), (0, .ref pl), (1, .int 0)]) C dX4_liesAsOneBefore_1 (by decide) rfl ?_
  refine r_iload_n C dX4_liesAsOneBefore_2 0 rfl ?_
  refine r_iload_n C dX4_liesAsOneBefore_3 2 rfl ?_
  refine r_icmp_ge (tgt := 34) C dX4_liesAsOneBefore_4 (by decide) (fun _ => ?_) (fun c => absurd c (by decide))
  refine r_iconst (v := 0) C dX4_liesAsOneBefore_34 (by decide) ?_
  have eF : F_X4_liesAsOneBefore_0 = 0 := by rfl
  exact r_zret (r := 0) C hA hr hlo (rfl) dX4_liesAsOneBefore_35 [pileB cI cL pl a L h v lie seals folds n f] ⟨by simp only [eF], rfl⟩ rfl hQ
set_option maxRecDepth 20000 in
def F_X4_liesAsOneBefore_1 (lie : Nat → Int32) : Int32 := let r2 : Int32 := F_X2_lie (lie 0); let r4 : Int32 := F_X2_lie (lie 1); (if r2 = r4 then (1) else (0))
set_option maxRecDepth 20000 in
set_option maxHeartbeats 8000000 in
theorem m_X4_liesAsOneBefore_1 (l : Launch) (D : va_G) (cI cL cP cJ : ClassId) (pl : Nat) (a : Nat) (L : Nat → Nat) (h : Nat → Nat) (v : Nat → Nat) (lie : Nat → Int32) (seals : Nat → Int32) (folds : Nat → Int32) (n : Nat → Int32) (f : Nat → Nat → Int32) : M vI l yX4_liesAsOneBefore cX4_liesAsOneBefore 3 (some .boolean) 1 21 D (tyF cI cL cP cJ) [.ref pl, .int 1] [pileB cI cL pl a L h v lie seals folds n f] (fun (r : Int32) (w1 : List va_W) => r = (F_X4_liesAsOneBefore_1 lie) ∧ w1 = [pileB cI cL pl a L h v lie seals folds n f]) := by
  refine m_start (by decide +kernel) (Nat.le_of_ble_eq_true rfl) (fun p e s m args below meth c A Q hA hQ C hr hlo => ?_)
  refine r_Le (L' := [(0, .ref pl), (1, .int 1)]) rfl ?_
  refine r_iconst (v := 0) C dX4_liesAsOneBefore_0 (by decide) ?_
  refine r_istore_n (L' := [(2, .int 0), (0, .ref pl), (1, .int 1)]) C dX4_liesAsOneBefore_1 (by decide) rfl ?_
  refine r_iload_n C dX4_liesAsOneBefore_2 0 rfl ?_
  refine r_iload_n C dX4_liesAsOneBefore_3 2 rfl ?_
  refine r_icmp_ge (tgt := 34) C dX4_liesAsOneBefore_4 (by decide) (fun c => absurd c (by decide)) (fun _ => ?_)
  refine r_aload_n C dX4_liesAsOneBefore_7 1 rfl ?_
  refine r_iload_n C dX4_liesAsOneBefore_8 0 rfl ?_
  refine r_callV (ci := 2) (wc := [pileB cI cL pl a L h v lie seals folds n f]) (wr := []) (st := []) C (m_X4_atB l D cI cL cP cJ pl a L h v lie seals folds n f 0 (P_atB_k (k := 0) (by decide))) k_X4_at t_287 [0] (show ([0] : List Nat).Perm (List.range 1) by decide) rfl rfl rfl (q0 := 0) rfl rfl rfl (Nat.le_of_ble_eq_true rfl) ⟨Nat.le_of_ble_eq_true rfl, Nat.le_of_ble_eq_true rfl⟩ ⟨Nat.zero_le _, Nat.zero_le _⟩ dX4_liesAsOneBefore_9 (fun r1 wr1 hw1 => ?_)
  obtain ⟨rfl, rfl⟩ := hw1
  refine r_ws (I' := [pileB cI cL pl a L h v lie seals folds n f]) rfl ?_
  refine r_ws (I' := [[(pl, .inr (2, [.ref a]))], [(a, .inl (cL, 5, .inr (.inr (.inr (.inr (rfs L))))))], letB cI (L 0) (h 0) (v 0) (lie 0) (seals 0) (folds 0) (n 0) (f 0), letB cI (L 1) (h 1) (v 1) (lie 1) (seals 1) (folds 1) (n 1) (f 1), letB cI (L 2) (h 2) (v 2) (lie 2) (seals 2) (folds 2) (n 2) (f 2), letB cI (L 3) (h 3) (v 3) (lie 3) (seals 3) (folds 3) (n 3) (f 3), letB cI (L 4) (h 4) (v 4) (lie 4) (seals 4) (folds 4) (n 4) (f 4)]) rfl ?_
  refine r_callV (ci := 1) (wc := [letB cI (L 0) (h 0) (v 0) (lie 0) (seals 0) (folds 0) (n 0) (f 0)]) (wr := [[(pl, .inr (2, [.ref a]))], [(a, .inl (cL, 5, .inr (.inr (.inr (.inr (rfs L))))))], letB cI (L 1) (h 1) (v 1) (lie 1) (seals 1) (folds 1) (n 1) (f 1), letB cI (L 2) (h 2) (v 2) (lie 2) (seals 2) (folds 2) (n 2) (f 2), letB cI (L 3) (h 3) (v 3) (lie 3) (seals 3) (folds 3) (n 3) (f 3), letB cI (L 4) (h 4) (v 4) (lie 4) (seals 4) (folds 4) (n 4) (f 4)]) (st := []) C (m_X2_lie l D cI cL cP cJ (L 0) (h 0) (v 0) (lie 0) (seals 0) (folds 0) (n 0) (f 0)) k_X2_lie t_261 [2, 0, 1, 3, 4, 5, 6] (show ([2, 0, 1, 3, 4, 5, 6] : List Nat).Perm (List.range 7) by decide) rfl rfl rfl (q0 := 0) rfl rfl rfl (Nat.le_of_ble_eq_true rfl) ⟨Nat.le_of_ble_eq_true rfl, Nat.le_of_ble_eq_true rfl⟩ ⟨Nat.zero_le _, Nat.zero_le _⟩ dX4_liesAsOneBefore_12 (fun r2 wr2 hw2 => ?_)
  obtain ⟨e_r2, rfl⟩ := hw2
  refine r_ws (I' := [letB cI (L 0) (h 0) (v 0) (lie 0) (seals 0) (folds 0) (n 0) (f 0), [(pl, .inr (2, [.ref a]))], [(a, .inl (cL, 5, .inr (.inr (.inr (.inr (rfs L))))))], letB cI (L 1) (h 1) (v 1) (lie 1) (seals 1) (folds 1) (n 1) (f 1), letB cI (L 2) (h 2) (v 2) (lie 2) (seals 2) (folds 2) (n 2) (f 2), letB cI (L 3) (h 3) (v 3) (lie 3) (seals 3) (folds 3) (n 3) (f 3), letB cI (L 4) (h 4) (v 4) (lie 4) (seals 4) (folds 4) (n 4) (f 4)]) rfl ?_
  refine r_aload_n C dX4_liesAsOneBefore_15 1 rfl ?_
  refine r_iload_n C dX4_liesAsOneBefore_16 2 rfl ?_
  refine r_callV (ci := 2) (wc := [[(pl, .inr (2, [.ref a]))], [(a, .inl (cL, 5, .inr (.inr (.inr (.inr (rfs L))))))]]) (wr := [letB cI (L 0) (h 0) (v 0) (lie 0) (seals 0) (folds 0) (n 0) (f 0), letB cI (L 1) (h 1) (v 1) (lie 1) (seals 1) (folds 1) (n 1) (f 1), letB cI (L 2) (h 2) (v 2) (lie 2) (seals 2) (folds 2) (n 2) (f 2), letB cI (L 3) (h 3) (v 3) (lie 3) (seals 3) (folds 3) (n 3) (f 3), letB cI (L 4) (h 4) (v 4) (lie 4) (seals 4) (folds 4) (n 4) (f 4)]) (st := [.int r2]) C (m_X4_at l D cI cL cP cJ pl a L 1 (P_at_k (k := 1) (by decide))) k_X4_at t_287 [1, 2, 0, 3, 4, 5, 6] (show ([1, 2, 0, 3, 4, 5, 6] : List Nat).Perm (List.range 7) by decide) rfl rfl rfl (q0 := 0) rfl rfl rfl (Nat.le_of_ble_eq_true rfl) ⟨Nat.le_of_ble_eq_true rfl, Nat.le_of_ble_eq_true rfl⟩ ⟨Nat.zero_le _, Nat.zero_le _⟩ dX4_liesAsOneBefore_17 (fun r3 wr3 hw3 => ?_)
  obtain ⟨rfl, rfl⟩ := hw3
  refine r_ws (I' := [[(pl, .inr (2, [.ref a]))], [(a, .inl (cL, 5, .inr (.inr (.inr (.inr (rfs L))))))], letB cI (L 0) (h 0) (v 0) (lie 0) (seals 0) (folds 0) (n 0) (f 0), letB cI (L 1) (h 1) (v 1) (lie 1) (seals 1) (folds 1) (n 1) (f 1), letB cI (L 2) (h 2) (v 2) (lie 2) (seals 2) (folds 2) (n 2) (f 2), letB cI (L 3) (h 3) (v 3) (lie 3) (seals 3) (folds 3) (n 3) (f 3), letB cI (L 4) (h 4) (v 4) (lie 4) (seals 4) (folds 4) (n 4) (f 4)]) rfl ?_
  refine r_callV (ci := 1) (wc := [letB cI (L 1) (h 1) (v 1) (lie 1) (seals 1) (folds 1) (n 1) (f 1)]) (wr := [[(pl, .inr (2, [.ref a]))], [(a, .inl (cL, 5, .inr (.inr (.inr (.inr (rfs L))))))], letB cI (L 0) (h 0) (v 0) (lie 0) (seals 0) (folds 0) (n 0) (f 0), letB cI (L 2) (h 2) (v 2) (lie 2) (seals 2) (folds 2) (n 2) (f 2), letB cI (L 3) (h 3) (v 3) (lie 3) (seals 3) (folds 3) (n 3) (f 3), letB cI (L 4) (h 4) (v 4) (lie 4) (seals 4) (folds 4) (n 4) (f 4)]) (st := [.int r2]) C (m_X2_lie l D cI cL cP cJ (L 1) (h 1) (v 1) (lie 1) (seals 1) (folds 1) (n 1) (f 1)) k_X2_lie t_261 [3, 0, 1, 2, 4, 5, 6] (show ([3, 0, 1, 2, 4, 5, 6] : List Nat).Perm (List.range 7) by decide) rfl rfl rfl (q0 := 0) rfl rfl rfl (Nat.le_of_ble_eq_true rfl) ⟨Nat.le_of_ble_eq_true rfl, Nat.le_of_ble_eq_true rfl⟩ ⟨Nat.zero_le _, Nat.zero_le _⟩ dX4_liesAsOneBefore_20 (fun r4 wr4 hw4 => ?_)
  obtain ⟨e_r4, rfl⟩ := hw4
  refine r_ws (I' := [letB cI (L 1) (h 1) (v 1) (lie 1) (seals 1) (folds 1) (n 1) (f 1), [(pl, .inr (2, [.ref a]))], [(a, .inl (cL, 5, .inr (.inr (.inr (.inr (rfs L))))))], letB cI (L 0) (h 0) (v 0) (lie 0) (seals 0) (folds 0) (n 0) (f 0), letB cI (L 2) (h 2) (v 2) (lie 2) (seals 2) (folds 2) (n 2) (f 2), letB cI (L 3) (h 3) (v 3) (lie 3) (seals 3) (folds 3) (n 3) (f 3), letB cI (L 4) (h 4) (v 4) (lie 4) (seals 4) (folds 4) (n 4) (f 4)]) rfl ?_
  refine r_icmp_ne (tgt := 28) C dX4_liesAsOneBefore_23 (by decide) (fun c5 => ?_) (fun c5 => ?_)
  · refine r_iinc (v := 1) (L' := [(2, .int 1), (0, .ref pl), (1, .int 1)]) C dX4_liesAsOneBefore_28 0 rfl (by decide) (by decide) rfl ?_
    refine r_goto (tgt := 2) C dX4_liesAsOneBefore_31 (by decide) ?_
    refine r_iload_n C dX4_liesAsOneBefore_2 0 rfl ?_
    refine r_iload_n C dX4_liesAsOneBefore_3 2 rfl ?_
    refine r_icmp_ge (tgt := 34) C dX4_liesAsOneBefore_4 (by decide) (fun _ => ?_) (fun c => absurd c (by decide))
    refine r_iconst (v := 0) C dX4_liesAsOneBefore_34 (by decide) ?_
    refine r_pl (I' := [[(pl, .inr (2, [.ref a]))], [(a, .inl (cL, 5, .inr (.inr (.inr (.inr (rfs L))))))], letB cI (L 0) (h 0) (v 0) (lie 0) (seals 0) (folds 0) (n 0) (f 0), letB cI (L 1) (h 1) (v 1) (lie 1) (seals 1) (folds 1) (n 1) (f 1), letB cI (L 2) (h 2) (v 2) (lie 2) (seals 2) (folds 2) (n 2) (f 2), letB cI (L 3) (h 3) (v 3) (lie 3) (seals 3) (folds 3) (n 3) (f 3), letB cI (L 4) (h 4) (v 4) (lie 4) (seals 4) (folds 4) (n 4) (f 4)]) [1, 2, 3, 0, 4, 5, 6] (show ([1, 2, 3, 0, 4, 5, 6] : List Nat).Perm (List.range 7) by decide) rfl ?_
    refine r_ws (I' := [pileB cI cL pl a L h v lie seals folds n f]) rfl ?_
    have eF : F_X4_liesAsOneBefore_1 lie = 0 := by have q := e_r2.symm; subst q; have q := e_r4.symm; subst q; simp only [F_X4_liesAsOneBefore_1, if_neg c5]
    exact r_zret (r := 0) C hA hr hlo (rfl) dX4_liesAsOneBefore_35 [pileB cI cL pl a L h v lie seals folds n f] ⟨by simp only [eF], rfl⟩ rfl hQ
  · refine r_iconst (v := 1) C dX4_liesAsOneBefore_26 (by decide) ?_
    refine r_pl (I' := [[(pl, .inr (2, [.ref a]))], [(a, .inl (cL, 5, .inr (.inr (.inr (.inr (rfs L))))))], letB cI (L 0) (h 0) (v 0) (lie 0) (seals 0) (folds 0) (n 0) (f 0), letB cI (L 1) (h 1) (v 1) (lie 1) (seals 1) (folds 1) (n 1) (f 1), letB cI (L 2) (h 2) (v 2) (lie 2) (seals 2) (folds 2) (n 2) (f 2), letB cI (L 3) (h 3) (v 3) (lie 3) (seals 3) (folds 3) (n 3) (f 3), letB cI (L 4) (h 4) (v 4) (lie 4) (seals 4) (folds 4) (n 4) (f 4)]) [1, 2, 3, 0, 4, 5, 6] (show ([1, 2, 3, 0, 4, 5, 6] : List Nat).Perm (List.range 7) by decide) rfl ?_
    refine r_ws (I' := [pileB cI cL pl a L h v lie seals folds n f]) rfl ?_
    have eF : F_X4_liesAsOneBefore_1 lie = 1 := by have q := e_r2.symm; subst q; have q := e_r4.symm; subst q; simp only [F_X4_liesAsOneBefore_1, if_pos c5]
    exact r_zret (r := 1) C hA hr hlo (rfl) dX4_liesAsOneBefore_27 [pileB cI cL pl a L h v lie seals folds n f] ⟨by simp only [eF], rfl⟩ rfl hQ
set_option maxRecDepth 20000 in
def F_X4_liesAsOneBefore_2 (lie : Nat → Int32) : Int32 := let r2 : Int32 := F_X2_lie (lie 0); let r4 : Int32 := F_X2_lie (lie 2); (if r2 = r4 then (1) else (let r7 : Int32 := F_X2_lie (lie 1); let r9 : Int32 := F_X2_lie (lie 2); (if r7 = r9 then (1) else (0))))
set_option maxRecDepth 20000 in
set_option maxHeartbeats 8000000 in
theorem m_X4_liesAsOneBefore_2 (l : Launch) (D : va_G) (cI cL cP cJ : ClassId) (pl : Nat) (a : Nat) (L : Nat → Nat) (h : Nat → Nat) (v : Nat → Nat) (lie : Nat → Int32) (seals : Nat → Int32) (folds : Nat → Int32) (n : Nat → Int32) (f : Nat → Nat → Int32) : M vI l yX4_liesAsOneBefore cX4_liesAsOneBefore 3 (some .boolean) 1 21 D (tyF cI cL cP cJ) [.ref pl, .int 2] [pileB cI cL pl a L h v lie seals folds n f] (fun (r : Int32) (w1 : List va_W) => r = (F_X4_liesAsOneBefore_2 lie) ∧ w1 = [pileB cI cL pl a L h v lie seals folds n f]) := by
  refine m_start (by decide +kernel) (Nat.le_of_ble_eq_true rfl) (fun p e s m args below meth c A Q hA hQ C hr hlo => ?_)
  refine r_Le (L' := [(0, .ref pl), (1, .int 2)]) rfl ?_
  refine r_iconst (v := 0) C dX4_liesAsOneBefore_0 (by decide) ?_
  refine r_istore_n (L' := [(2, .int 0), (0, .ref pl), (1, .int 2)]) C dX4_liesAsOneBefore_1 (by decide) rfl ?_
  refine r_iload_n C dX4_liesAsOneBefore_2 0 rfl ?_
  refine r_iload_n C dX4_liesAsOneBefore_3 2 rfl ?_
  refine r_icmp_ge (tgt := 34) C dX4_liesAsOneBefore_4 (by decide) (fun c => absurd c (by decide)) (fun _ => ?_)
  refine r_aload_n C dX4_liesAsOneBefore_7 1 rfl ?_
  refine r_iload_n C dX4_liesAsOneBefore_8 0 rfl ?_
  refine r_callV (ci := 2) (wc := [pileB cI cL pl a L h v lie seals folds n f]) (wr := []) (st := []) C (m_X4_atB l D cI cL cP cJ pl a L h v lie seals folds n f 0 (P_atB_k (k := 0) (by decide))) k_X4_at t_287 [0] (show ([0] : List Nat).Perm (List.range 1) by decide) rfl rfl rfl (q0 := 0) rfl rfl rfl (Nat.le_of_ble_eq_true rfl) ⟨Nat.le_of_ble_eq_true rfl, Nat.le_of_ble_eq_true rfl⟩ ⟨Nat.zero_le _, Nat.zero_le _⟩ dX4_liesAsOneBefore_9 (fun r1 wr1 hw1 => ?_)
  obtain ⟨rfl, rfl⟩ := hw1
  refine r_ws (I' := [pileB cI cL pl a L h v lie seals folds n f]) rfl ?_
  refine r_ws (I' := [[(pl, .inr (2, [.ref a]))], [(a, .inl (cL, 5, .inr (.inr (.inr (.inr (rfs L))))))], letB cI (L 0) (h 0) (v 0) (lie 0) (seals 0) (folds 0) (n 0) (f 0), letB cI (L 1) (h 1) (v 1) (lie 1) (seals 1) (folds 1) (n 1) (f 1), letB cI (L 2) (h 2) (v 2) (lie 2) (seals 2) (folds 2) (n 2) (f 2), letB cI (L 3) (h 3) (v 3) (lie 3) (seals 3) (folds 3) (n 3) (f 3), letB cI (L 4) (h 4) (v 4) (lie 4) (seals 4) (folds 4) (n 4) (f 4)]) rfl ?_
  refine r_callV (ci := 1) (wc := [letB cI (L 0) (h 0) (v 0) (lie 0) (seals 0) (folds 0) (n 0) (f 0)]) (wr := [[(pl, .inr (2, [.ref a]))], [(a, .inl (cL, 5, .inr (.inr (.inr (.inr (rfs L))))))], letB cI (L 1) (h 1) (v 1) (lie 1) (seals 1) (folds 1) (n 1) (f 1), letB cI (L 2) (h 2) (v 2) (lie 2) (seals 2) (folds 2) (n 2) (f 2), letB cI (L 3) (h 3) (v 3) (lie 3) (seals 3) (folds 3) (n 3) (f 3), letB cI (L 4) (h 4) (v 4) (lie 4) (seals 4) (folds 4) (n 4) (f 4)]) (st := []) C (m_X2_lie l D cI cL cP cJ (L 0) (h 0) (v 0) (lie 0) (seals 0) (folds 0) (n 0) (f 0)) k_X2_lie t_261 [2, 0, 1, 3, 4, 5, 6] (show ([2, 0, 1, 3, 4, 5, 6] : List Nat).Perm (List.range 7) by decide) rfl rfl rfl (q0 := 0) rfl rfl rfl (Nat.le_of_ble_eq_true rfl) ⟨Nat.le_of_ble_eq_true rfl, Nat.le_of_ble_eq_true rfl⟩ ⟨Nat.zero_le _, Nat.zero_le _⟩ dX4_liesAsOneBefore_12 (fun r2 wr2 hw2 => ?_)
  obtain ⟨e_r2, rfl⟩ := hw2
  refine r_ws (I' := [letB cI (L 0) (h 0) (v 0) (lie 0) (seals 0) (folds 0) (n 0) (f 0), [(pl, .inr (2, [.ref a]))], [(a, .inl (cL, 5, .inr (.inr (.inr (.inr (rfs L))))))], letB cI (L 1) (h 1) (v 1) (lie 1) (seals 1) (folds 1) (n 1) (f 1), letB cI (L 2) (h 2) (v 2) (lie 2) (seals 2) (folds 2) (n 2) (f 2), letB cI (L 3) (h 3) (v 3) (lie 3) (seals 3) (folds 3) (n 3) (f 3), letB cI (L 4) (h 4) (v 4) (lie 4) (seals 4) (folds 4) (n 4) (f 4)]) rfl ?_
  refine r_aload_n C dX4_liesAsOneBefore_15 1 rfl ?_
  refine r_iload_n C dX4_liesAsOneBefore_16 2 rfl ?_
  refine r_callV (ci := 2) (wc := [[(pl, .inr (2, [.ref a]))], [(a, .inl (cL, 5, .inr (.inr (.inr (.inr (rfs L))))))]]) (wr := [letB cI (L 0) (h 0) (v 0) (lie 0) (seals 0) (folds 0) (n 0) (f 0), letB cI (L 1) (h 1) (v 1) (lie 1) (seals 1) (folds 1) (n 1) (f 1), letB cI (L 2) (h 2) (v 2) (lie 2) (seals 2) (folds 2) (n 2) (f 2), letB cI (L 3) (h 3) (v 3) (lie 3) (seals 3) (folds 3) (n 3) (f 3), letB cI (L 4) (h 4) (v 4) (lie 4) (seals 4) (folds 4) (n 4) (f 4)]) (st := [.int r2]) C (m_X4_at l D cI cL cP cJ pl a L 2 (P_at_k (k := 2) (by decide))) k_X4_at t_287 [1, 2, 0, 3, 4, 5, 6] (show ([1, 2, 0, 3, 4, 5, 6] : List Nat).Perm (List.range 7) by decide) rfl rfl rfl (q0 := 0) rfl rfl rfl (Nat.le_of_ble_eq_true rfl) ⟨Nat.le_of_ble_eq_true rfl, Nat.le_of_ble_eq_true rfl⟩ ⟨Nat.zero_le _, Nat.zero_le _⟩ dX4_liesAsOneBefore_17 (fun r3 wr3 hw3 => ?_)
  obtain ⟨rfl, rfl⟩ := hw3
  refine r_ws (I' := [[(pl, .inr (2, [.ref a]))], [(a, .inl (cL, 5, .inr (.inr (.inr (.inr (rfs L))))))], letB cI (L 0) (h 0) (v 0) (lie 0) (seals 0) (folds 0) (n 0) (f 0), letB cI (L 1) (h 1) (v 1) (lie 1) (seals 1) (folds 1) (n 1) (f 1), letB cI (L 2) (h 2) (v 2) (lie 2) (seals 2) (folds 2) (n 2) (f 2), letB cI (L 3) (h 3) (v 3) (lie 3) (seals 3) (folds 3) (n 3) (f 3), letB cI (L 4) (h 4) (v 4) (lie 4) (seals 4) (folds 4) (n 4) (f 4)]) rfl ?_
  refine r_callV (ci := 1) (wc := [letB cI (L 2) (h 2) (v 2) (lie 2) (seals 2) (folds 2) (n 2) (f 2)]) (wr := [[(pl, .inr (2, [.ref a]))], [(a, .inl (cL, 5, .inr (.inr (.inr (.inr (rfs L))))))], letB cI (L 0) (h 0) (v 0) (lie 0) (seals 0) (folds 0) (n 0) (f 0), letB cI (L 1) (h 1) (v 1) (lie 1) (seals 1) (folds 1) (n 1) (f 1), letB cI (L 3) (h 3) (v 3) (lie 3) (seals 3) (folds 3) (n 3) (f 3), letB cI (L 4) (h 4) (v 4) (lie 4) (seals 4) (folds 4) (n 4) (f 4)]) (st := [.int r2]) C (m_X2_lie l D cI cL cP cJ (L 2) (h 2) (v 2) (lie 2) (seals 2) (folds 2) (n 2) (f 2)) k_X2_lie t_261 [4, 0, 1, 2, 3, 5, 6] (show ([4, 0, 1, 2, 3, 5, 6] : List Nat).Perm (List.range 7) by decide) rfl rfl rfl (q0 := 0) rfl rfl rfl (Nat.le_of_ble_eq_true rfl) ⟨Nat.le_of_ble_eq_true rfl, Nat.le_of_ble_eq_true rfl⟩ ⟨Nat.zero_le _, Nat.zero_le _⟩ dX4_liesAsOneBefore_20 (fun r4 wr4 hw4 => ?_)
  obtain ⟨e_r4, rfl⟩ := hw4
  refine r_ws (I' := [letB cI (L 2) (h 2) (v 2) (lie 2) (seals 2) (folds 2) (n 2) (f 2), [(pl, .inr (2, [.ref a]))], [(a, .inl (cL, 5, .inr (.inr (.inr (.inr (rfs L))))))], letB cI (L 0) (h 0) (v 0) (lie 0) (seals 0) (folds 0) (n 0) (f 0), letB cI (L 1) (h 1) (v 1) (lie 1) (seals 1) (folds 1) (n 1) (f 1), letB cI (L 3) (h 3) (v 3) (lie 3) (seals 3) (folds 3) (n 3) (f 3), letB cI (L 4) (h 4) (v 4) (lie 4) (seals 4) (folds 4) (n 4) (f 4)]) rfl ?_
  refine r_icmp_ne (tgt := 28) C dX4_liesAsOneBefore_23 (by decide) (fun c5 => ?_) (fun c5 => ?_)
  · refine r_iinc (v := 1) (L' := [(2, .int 1), (0, .ref pl), (1, .int 2)]) C dX4_liesAsOneBefore_28 0 rfl (by decide) (by decide) rfl ?_
    refine r_goto (tgt := 2) C dX4_liesAsOneBefore_31 (by decide) ?_
    refine r_iload_n C dX4_liesAsOneBefore_2 0 rfl ?_
    refine r_iload_n C dX4_liesAsOneBefore_3 2 rfl ?_
    refine r_icmp_ge (tgt := 34) C dX4_liesAsOneBefore_4 (by decide) (fun c => absurd c (by decide)) (fun _ => ?_)
    refine r_aload_n C dX4_liesAsOneBefore_7 1 rfl ?_
    refine r_iload_n C dX4_liesAsOneBefore_8 0 rfl ?_
    refine r_callV (ci := 2) (wc := [[(pl, .inr (2, [.ref a]))], [(a, .inl (cL, 5, .inr (.inr (.inr (.inr (rfs L))))))]]) (wr := [letB cI (L 2) (h 2) (v 2) (lie 2) (seals 2) (folds 2) (n 2) (f 2), letB cI (L 0) (h 0) (v 0) (lie 0) (seals 0) (folds 0) (n 0) (f 0), letB cI (L 1) (h 1) (v 1) (lie 1) (seals 1) (folds 1) (n 1) (f 1), letB cI (L 3) (h 3) (v 3) (lie 3) (seals 3) (folds 3) (n 3) (f 3), letB cI (L 4) (h 4) (v 4) (lie 4) (seals 4) (folds 4) (n 4) (f 4)]) (st := []) C (m_X4_at l D cI cL cP cJ pl a L 1 (P_at_k (k := 1) (by decide))) k_X4_at t_287 [1, 2, 0, 3, 4, 5, 6] (show ([1, 2, 0, 3, 4, 5, 6] : List Nat).Perm (List.range 7) by decide) rfl rfl rfl (q0 := 0) rfl rfl rfl (Nat.le_of_ble_eq_true rfl) ⟨Nat.le_of_ble_eq_true rfl, Nat.le_of_ble_eq_true rfl⟩ ⟨Nat.zero_le _, Nat.zero_le _⟩ dX4_liesAsOneBefore_9 (fun r6 wr6 hw6 => ?_)
    obtain ⟨rfl, rfl⟩ := hw6
    refine r_ws (I' := [[(pl, .inr (2, [.ref a]))], [(a, .inl (cL, 5, .inr (.inr (.inr (.inr (rfs L))))))], letB cI (L 2) (h 2) (v 2) (lie 2) (seals 2) (folds 2) (n 2) (f 2), letB cI (L 0) (h 0) (v 0) (lie 0) (seals 0) (folds 0) (n 0) (f 0), letB cI (L 1) (h 1) (v 1) (lie 1) (seals 1) (folds 1) (n 1) (f 1), letB cI (L 3) (h 3) (v 3) (lie 3) (seals 3) (folds 3) (n 3) (f 3), letB cI (L 4) (h 4) (v 4) (lie 4) (seals 4) (folds 4) (n 4) (f 4)]) rfl ?_
    refine r_callV (ci := 1) (wc := [letB cI (L 1) (h 1) (v 1) (lie 1) (seals 1) (folds 1) (n 1) (f 1)]) (wr := [[(pl, .inr (2, [.ref a]))], [(a, .inl (cL, 5, .inr (.inr (.inr (.inr (rfs L))))))], letB cI (L 2) (h 2) (v 2) (lie 2) (seals 2) (folds 2) (n 2) (f 2), letB cI (L 0) (h 0) (v 0) (lie 0) (seals 0) (folds 0) (n 0) (f 0), letB cI (L 3) (h 3) (v 3) (lie 3) (seals 3) (folds 3) (n 3) (f 3), letB cI (L 4) (h 4) (v 4) (lie 4) (seals 4) (folds 4) (n 4) (f 4)]) (st := []) C (m_X2_lie l D cI cL cP cJ (L 1) (h 1) (v 1) (lie 1) (seals 1) (folds 1) (n 1) (f 1)) k_X2_lie t_261 [4, 0, 1, 2, 3, 5, 6] (show ([4, 0, 1, 2, 3, 5, 6] : List Nat).Perm (List.range 7) by decide) rfl rfl rfl (q0 := 0) rfl rfl rfl (Nat.le_of_ble_eq_true rfl) ⟨Nat.le_of_ble_eq_true rfl, Nat.le_of_ble_eq_true rfl⟩ ⟨Nat.zero_le _, Nat.zero_le _⟩ dX4_liesAsOneBefore_12 (fun r7 wr7 hw7 => ?_)
    obtain ⟨e_r7, rfl⟩ := hw7
    refine r_ws (I' := [letB cI (L 1) (h 1) (v 1) (lie 1) (seals 1) (folds 1) (n 1) (f 1), [(pl, .inr (2, [.ref a]))], [(a, .inl (cL, 5, .inr (.inr (.inr (.inr (rfs L))))))], letB cI (L 2) (h 2) (v 2) (lie 2) (seals 2) (folds 2) (n 2) (f 2), letB cI (L 0) (h 0) (v 0) (lie 0) (seals 0) (folds 0) (n 0) (f 0), letB cI (L 3) (h 3) (v 3) (lie 3) (seals 3) (folds 3) (n 3) (f 3), letB cI (L 4) (h 4) (v 4) (lie 4) (seals 4) (folds 4) (n 4) (f 4)]) rfl ?_
    refine r_aload_n C dX4_liesAsOneBefore_15 1 rfl ?_
    refine r_iload_n C dX4_liesAsOneBefore_16 2 rfl ?_
    refine r_callV (ci := 2) (wc := [[(pl, .inr (2, [.ref a]))], [(a, .inl (cL, 5, .inr (.inr (.inr (.inr (rfs L))))))]]) (wr := [letB cI (L 1) (h 1) (v 1) (lie 1) (seals 1) (folds 1) (n 1) (f 1), letB cI (L 2) (h 2) (v 2) (lie 2) (seals 2) (folds 2) (n 2) (f 2), letB cI (L 0) (h 0) (v 0) (lie 0) (seals 0) (folds 0) (n 0) (f 0), letB cI (L 3) (h 3) (v 3) (lie 3) (seals 3) (folds 3) (n 3) (f 3), letB cI (L 4) (h 4) (v 4) (lie 4) (seals 4) (folds 4) (n 4) (f 4)]) (st := [.int r7]) C (m_X4_at l D cI cL cP cJ pl a L 2 (P_at_k (k := 2) (by decide))) k_X4_at t_287 [1, 2, 0, 3, 4, 5, 6] (show ([1, 2, 0, 3, 4, 5, 6] : List Nat).Perm (List.range 7) by decide) rfl rfl rfl (q0 := 0) rfl rfl rfl (Nat.le_of_ble_eq_true rfl) ⟨Nat.le_of_ble_eq_true rfl, Nat.le_of_ble_eq_true rfl⟩ ⟨Nat.zero_le _, Nat.zero_le _⟩ dX4_liesAsOneBefore_17 (fun r8 wr8 hw8 => ?_)
    obtain ⟨rfl, rfl⟩ := hw8
    refine r_ws (I' := [[(pl, .inr (2, [.ref a]))], [(a, .inl (cL, 5, .inr (.inr (.inr (.inr (rfs L))))))], letB cI (L 1) (h 1) (v 1) (lie 1) (seals 1) (folds 1) (n 1) (f 1), letB cI (L 2) (h 2) (v 2) (lie 2) (seals 2) (folds 2) (n 2) (f 2), letB cI (L 0) (h 0) (v 0) (lie 0) (seals 0) (folds 0) (n 0) (f 0), letB cI (L 3) (h 3) (v 3) (lie 3) (seals 3) (folds 3) (n 3) (f 3), letB cI (L 4) (h 4) (v 4) (lie 4) (seals 4) (folds 4) (n 4) (f 4)]) rfl ?_
    refine r_callV (ci := 1) (wc := [letB cI (L 2) (h 2) (v 2) (lie 2) (seals 2) (folds 2) (n 2) (f 2)]) (wr := [[(pl, .inr (2, [.ref a]))], [(a, .inl (cL, 5, .inr (.inr (.inr (.inr (rfs L))))))], letB cI (L 1) (h 1) (v 1) (lie 1) (seals 1) (folds 1) (n 1) (f 1), letB cI (L 0) (h 0) (v 0) (lie 0) (seals 0) (folds 0) (n 0) (f 0), letB cI (L 3) (h 3) (v 3) (lie 3) (seals 3) (folds 3) (n 3) (f 3), letB cI (L 4) (h 4) (v 4) (lie 4) (seals 4) (folds 4) (n 4) (f 4)]) (st := [.int r7]) C (m_X2_lie l D cI cL cP cJ (L 2) (h 2) (v 2) (lie 2) (seals 2) (folds 2) (n 2) (f 2)) k_X2_lie t_261 [3, 0, 1, 2, 4, 5, 6] (show ([3, 0, 1, 2, 4, 5, 6] : List Nat).Perm (List.range 7) by decide) rfl rfl rfl (q0 := 0) rfl rfl rfl (Nat.le_of_ble_eq_true rfl) ⟨Nat.le_of_ble_eq_true rfl, Nat.le_of_ble_eq_true rfl⟩ ⟨Nat.zero_le _, Nat.zero_le _⟩ dX4_liesAsOneBefore_20 (fun r9 wr9 hw9 => ?_)
    obtain ⟨e_r9, rfl⟩ := hw9
    refine r_ws (I' := [letB cI (L 2) (h 2) (v 2) (lie 2) (seals 2) (folds 2) (n 2) (f 2), [(pl, .inr (2, [.ref a]))], [(a, .inl (cL, 5, .inr (.inr (.inr (.inr (rfs L))))))], letB cI (L 1) (h 1) (v 1) (lie 1) (seals 1) (folds 1) (n 1) (f 1), letB cI (L 0) (h 0) (v 0) (lie 0) (seals 0) (folds 0) (n 0) (f 0), letB cI (L 3) (h 3) (v 3) (lie 3) (seals 3) (folds 3) (n 3) (f 3), letB cI (L 4) (h 4) (v 4) (lie 4) (seals 4) (folds 4) (n 4) (f 4)]) rfl ?_
    refine r_icmp_ne (tgt := 28) C dX4_liesAsOneBefore_23 (by decide) (fun c10 => ?_) (fun c10 => ?_)
    · refine r_iinc (v := 2) (L' := [(2, .int 2), (0, .ref pl), (1, .int 2)]) C dX4_liesAsOneBefore_28 0 rfl (by decide) (by decide) rfl ?_
      refine r_goto (tgt := 2) C dX4_liesAsOneBefore_31 (by decide) ?_
      refine r_iload_n C dX4_liesAsOneBefore_2 0 rfl ?_
      refine r_iload_n C dX4_liesAsOneBefore_3 2 rfl ?_
      refine r_icmp_ge (tgt := 34) C dX4_liesAsOneBefore_4 (by decide) (fun _ => ?_) (fun c => absurd c (by decide))
      refine r_iconst (v := 0) C dX4_liesAsOneBefore_34 (by decide) ?_
      refine r_pl (I' := [[(pl, .inr (2, [.ref a]))], [(a, .inl (cL, 5, .inr (.inr (.inr (.inr (rfs L))))))], letB cI (L 0) (h 0) (v 0) (lie 0) (seals 0) (folds 0) (n 0) (f 0), letB cI (L 1) (h 1) (v 1) (lie 1) (seals 1) (folds 1) (n 1) (f 1), letB cI (L 2) (h 2) (v 2) (lie 2) (seals 2) (folds 2) (n 2) (f 2), letB cI (L 3) (h 3) (v 3) (lie 3) (seals 3) (folds 3) (n 3) (f 3), letB cI (L 4) (h 4) (v 4) (lie 4) (seals 4) (folds 4) (n 4) (f 4)]) [1, 2, 4, 3, 0, 5, 6] (show ([1, 2, 4, 3, 0, 5, 6] : List Nat).Perm (List.range 7) by decide) rfl ?_
      refine r_ws (I' := [pileB cI cL pl a L h v lie seals folds n f]) rfl ?_
      have eF : F_X4_liesAsOneBefore_2 lie = 0 := by have q := e_r2.symm; subst q; have q := e_r4.symm; subst q; have q := e_r7.symm; subst q; have q := e_r9.symm; subst q; simp only [F_X4_liesAsOneBefore_2, if_neg c5, if_neg c10]
      exact r_zret (r := 0) C hA hr hlo (rfl) dX4_liesAsOneBefore_35 [pileB cI cL pl a L h v lie seals folds n f] ⟨by simp only [eF], rfl⟩ rfl hQ
    · refine r_iconst (v := 1) C dX4_liesAsOneBefore_26 (by decide) ?_
      refine r_pl (I' := [[(pl, .inr (2, [.ref a]))], [(a, .inl (cL, 5, .inr (.inr (.inr (.inr (rfs L))))))], letB cI (L 0) (h 0) (v 0) (lie 0) (seals 0) (folds 0) (n 0) (f 0), letB cI (L 1) (h 1) (v 1) (lie 1) (seals 1) (folds 1) (n 1) (f 1), letB cI (L 2) (h 2) (v 2) (lie 2) (seals 2) (folds 2) (n 2) (f 2), letB cI (L 3) (h 3) (v 3) (lie 3) (seals 3) (folds 3) (n 3) (f 3), letB cI (L 4) (h 4) (v 4) (lie 4) (seals 4) (folds 4) (n 4) (f 4)]) [1, 2, 4, 3, 0, 5, 6] (show ([1, 2, 4, 3, 0, 5, 6] : List Nat).Perm (List.range 7) by decide) rfl ?_
      refine r_ws (I' := [pileB cI cL pl a L h v lie seals folds n f]) rfl ?_
      have eF : F_X4_liesAsOneBefore_2 lie = 1 := by have q := e_r2.symm; subst q; have q := e_r4.symm; subst q; have q := e_r7.symm; subst q; have q := e_r9.symm; subst q; simp only [F_X4_liesAsOneBefore_2, if_neg c5, if_pos c10]
      exact r_zret (r := 1) C hA hr hlo (rfl) dX4_liesAsOneBefore_27 [pileB cI cL pl a L h v lie seals folds n f] ⟨by simp only [eF], rfl⟩ rfl hQ
  · refine r_iconst (v := 1) C dX4_liesAsOneBefore_26 (by decide) ?_
    refine r_pl (I' := [[(pl, .inr (2, [.ref a]))], [(a, .inl (cL, 5, .inr (.inr (.inr (.inr (rfs L))))))], letB cI (L 0) (h 0) (v 0) (lie 0) (seals 0) (folds 0) (n 0) (f 0), letB cI (L 1) (h 1) (v 1) (lie 1) (seals 1) (folds 1) (n 1) (f 1), letB cI (L 2) (h 2) (v 2) (lie 2) (seals 2) (folds 2) (n 2) (f 2), letB cI (L 3) (h 3) (v 3) (lie 3) (seals 3) (folds 3) (n 3) (f 3), letB cI (L 4) (h 4) (v 4) (lie 4) (seals 4) (folds 4) (n 4) (f 4)]) [1, 2, 3, 4, 0, 5, 6] (show ([1, 2, 3, 4, 0, 5, 6] : List Nat).Perm (List.range 7) by decide) rfl ?_
    refine r_ws (I' := [pileB cI cL pl a L h v lie seals folds n f]) rfl ?_
    have eF : F_X4_liesAsOneBefore_2 lie = 1 := by have q := e_r2.symm; subst q; have q := e_r4.symm; subst q; simp only [F_X4_liesAsOneBefore_2, if_pos c5]
    exact r_zret (r := 1) C hA hr hlo (rfl) dX4_liesAsOneBefore_27 [pileB cI cL pl a L h v lie seals folds n f] ⟨by simp only [eF], rfl⟩ rfl hQ
set_option maxRecDepth 20000 in
def F_X4_liesAsOneBefore_3 (lie : Nat → Int32) : Int32 := let r2 : Int32 := F_X2_lie (lie 0); let r4 : Int32 := F_X2_lie (lie 3); (if r2 = r4 then (1) else (let r7 : Int32 := F_X2_lie (lie 1); let r9 : Int32 := F_X2_lie (lie 3); (if r7 = r9 then (1) else (let r12 : Int32 := F_X2_lie (lie 2); let r14 : Int32 := F_X2_lie (lie 3); (if r12 = r14 then (1) else (0))))))
set_option maxRecDepth 20000 in
set_option maxHeartbeats 8000000 in
theorem m_X4_liesAsOneBefore_3 (l : Launch) (D : va_G) (cI cL cP cJ : ClassId) (pl : Nat) (a : Nat) (L : Nat → Nat) (h : Nat → Nat) (v : Nat → Nat) (lie : Nat → Int32) (seals : Nat → Int32) (folds : Nat → Int32) (n : Nat → Int32) (f : Nat → Nat → Int32) : M vI l yX4_liesAsOneBefore cX4_liesAsOneBefore 3 (some .boolean) 1 21 D (tyF cI cL cP cJ) [.ref pl, .int 3] [pileB cI cL pl a L h v lie seals folds n f] (fun (r : Int32) (w1 : List va_W) => r = (F_X4_liesAsOneBefore_3 lie) ∧ w1 = [pileB cI cL pl a L h v lie seals folds n f]) := by
  refine m_start (by decide +kernel) (Nat.le_of_ble_eq_true rfl) (fun p e s m args below meth c A Q hA hQ C hr hlo => ?_)
  refine r_Le (L' := [(0, .ref pl), (1, .int 3)]) rfl ?_
  refine r_iconst (v := 0) C dX4_liesAsOneBefore_0 (by decide) ?_
  refine r_istore_n (L' := [(2, .int 0), (0, .ref pl), (1, .int 3)]) C dX4_liesAsOneBefore_1 (by decide) rfl ?_
  refine r_iload_n C dX4_liesAsOneBefore_2 0 rfl ?_
  refine r_iload_n C dX4_liesAsOneBefore_3 2 rfl ?_
  refine r_icmp_ge (tgt := 34) C dX4_liesAsOneBefore_4 (by decide) (fun c => absurd c (by decide)) (fun _ => ?_)
  refine r_aload_n C dX4_liesAsOneBefore_7 1 rfl ?_
  refine r_iload_n C dX4_liesAsOneBefore_8 0 rfl ?_
  refine r_callV (ci := 2) (wc := [pileB cI cL pl a L h v lie seals folds n f]) (wr := []) (st := []) C (m_X4_atB l D cI cL cP cJ pl a L h v lie seals folds n f 0 (P_atB_k (k := 0) (by decide))) k_X4_at t_287 [0] (show ([0] : List Nat).Perm (List.range 1) by decide) rfl rfl rfl (q0 := 0) rfl rfl rfl (Nat.le_of_ble_eq_true rfl) ⟨Nat.le_of_ble_eq_true rfl, Nat.le_of_ble_eq_true rfl⟩ ⟨Nat.zero_le _, Nat.zero_le _⟩ dX4_liesAsOneBefore_9 (fun r1 wr1 hw1 => ?_)
  obtain ⟨rfl, rfl⟩ := hw1
  refine r_ws (I' := [pileB cI cL pl a L h v lie seals folds n f]) rfl ?_
  refine r_ws (I' := [[(pl, .inr (2, [.ref a]))], [(a, .inl (cL, 5, .inr (.inr (.inr (.inr (rfs L))))))], letB cI (L 0) (h 0) (v 0) (lie 0) (seals 0) (folds 0) (n 0) (f 0), letB cI (L 1) (h 1) (v 1) (lie 1) (seals 1) (folds 1) (n 1) (f 1), letB cI (L 2) (h 2) (v 2) (lie 2) (seals 2) (folds 2) (n 2) (f 2), letB cI (L 3) (h 3) (v 3) (lie 3) (seals 3) (folds 3) (n 3) (f 3), letB cI (L 4) (h 4) (v 4) (lie 4) (seals 4) (folds 4) (n 4) (f 4)]) rfl ?_
  refine r_callV (ci := 1) (wc := [letB cI (L 0) (h 0) (v 0) (lie 0) (seals 0) (folds 0) (n 0) (f 0)]) (wr := [[(pl, .inr (2, [.ref a]))], [(a, .inl (cL, 5, .inr (.inr (.inr (.inr (rfs L))))))], letB cI (L 1) (h 1) (v 1) (lie 1) (seals 1) (folds 1) (n 1) (f 1), letB cI (L 2) (h 2) (v 2) (lie 2) (seals 2) (folds 2) (n 2) (f 2), letB cI (L 3) (h 3) (v 3) (lie 3) (seals 3) (folds 3) (n 3) (f 3), letB cI (L 4) (h 4) (v 4) (lie 4) (seals 4) (folds 4) (n 4) (f 4)]) (st := []) C (m_X2_lie l D cI cL cP cJ (L 0) (h 0) (v 0) (lie 0) (seals 0) (folds 0) (n 0) (f 0)) k_X2_lie t_261 [2, 0, 1, 3, 4, 5, 6] (show ([2, 0, 1, 3, 4, 5, 6] : List Nat).Perm (List.range 7) by decide) rfl rfl rfl (q0 := 0) rfl rfl rfl (Nat.le_of_ble_eq_true rfl) ⟨Nat.le_of_ble_eq_true rfl, Nat.le_of_ble_eq_true rfl⟩ ⟨Nat.zero_le _, Nat.zero_le _⟩ dX4_liesAsOneBefore_12 (fun r2 wr2 hw2 => ?_)
  obtain ⟨e_r2, rfl⟩ := hw2
  refine r_ws (I' := [letB cI (L 0) (h 0) (v 0) (lie 0) (seals 0) (folds 0) (n 0) (f 0), [(pl, .inr (2, [.ref a]))], [(a, .inl (cL, 5, .inr (.inr (.inr (.inr (rfs L))))))], letB cI (L 1) (h 1) (v 1) (lie 1) (seals 1) (folds 1) (n 1) (f 1), letB cI (L 2) (h 2) (v 2) (lie 2) (seals 2) (folds 2) (n 2) (f 2), letB cI (L 3) (h 3) (v 3) (lie 3) (seals 3) (folds 3) (n 3) (f 3), letB cI (L 4) (h 4) (v 4) (lie 4) (seals 4) (folds 4) (n 4) (f 4)]) rfl ?_
  refine r_aload_n C dX4_liesAsOneBefore_15 1 rfl ?_
  refine r_iload_n C dX4_liesAsOneBefore_16 2 rfl ?_
  refine r_callV (ci := 2) (wc := [[(pl, .inr (2, [.ref a]))], [(a, .inl (cL, 5, .inr (.inr (.inr (.inr (rfs L))))))]]) (wr := [letB cI (L 0) (h 0) (v 0) (lie 0) (seals 0) (folds 0) (n 0) (f 0), letB cI (L 1) (h 1) (v 1) (lie 1) (seals 1) (folds 1) (n 1) (f 1), letB cI (L 2) (h 2) (v 2) (lie 2) (seals 2) (folds 2) (n 2) (f 2), letB cI (L 3) (h 3) (v 3) (lie 3) (seals 3) (folds 3) (n 3) (f 3), letB cI (L 4) (h 4) (v 4) (lie 4) (seals 4) (folds 4) (n 4) (f 4)]) (st := [.int r2]) C (m_X4_at l D cI cL cP cJ pl a L 3 (P_at_k (k := 3) (by decide))) k_X4_at t_287 [1, 2, 0, 3, 4, 5, 6] (show ([1, 2, 0, 3, 4, 5, 6] : List Nat).Perm (List.range 7) by decide) rfl rfl rfl (q0 := 0) rfl rfl rfl (Nat.le_of_ble_eq_true rfl) ⟨Nat.le_of_ble_eq_true rfl, Nat.le_of_ble_eq_true rfl⟩ ⟨Nat.zero_le _, Nat.zero_le _⟩ dX4_liesAsOneBefore_17 (fun r3 wr3 hw3 => ?_)
  obtain ⟨rfl, rfl⟩ := hw3
  refine r_ws (I' := [[(pl, .inr (2, [.ref a]))], [(a, .inl (cL, 5, .inr (.inr (.inr (.inr (rfs L))))))], letB cI (L 0) (h 0) (v 0) (lie 0) (seals 0) (folds 0) (n 0) (f 0), letB cI (L 1) (h 1) (v 1) (lie 1) (seals 1) (folds 1) (n 1) (f 1), letB cI (L 2) (h 2) (v 2) (lie 2) (seals 2) (folds 2) (n 2) (f 2), letB cI (L 3) (h 3) (v 3) (lie 3) (seals 3) (folds 3) (n 3) (f 3), letB cI (L 4) (h 4) (v 4) (lie 4) (seals 4) (folds 4) (n 4) (f 4)]) rfl ?_
  refine r_callV (ci := 1) (wc := [letB cI (L 3) (h 3) (v 3) (lie 3) (seals 3) (folds 3) (n 3) (f 3)]) (wr := [[(pl, .inr (2, [.ref a]))], [(a, .inl (cL, 5, .inr (.inr (.inr (.inr (rfs L))))))], letB cI (L 0) (h 0) (v 0) (lie 0) (seals 0) (folds 0) (n 0) (f 0), letB cI (L 1) (h 1) (v 1) (lie 1) (seals 1) (folds 1) (n 1) (f 1), letB cI (L 2) (h 2) (v 2) (lie 2) (seals 2) (folds 2) (n 2) (f 2), letB cI (L 4) (h 4) (v 4) (lie 4) (seals 4) (folds 4) (n 4) (f 4)]) (st := [.int r2]) C (m_X2_lie l D cI cL cP cJ (L 3) (h 3) (v 3) (lie 3) (seals 3) (folds 3) (n 3) (f 3)) k_X2_lie t_261 [5, 0, 1, 2, 3, 4, 6] (show ([5, 0, 1, 2, 3, 4, 6] : List Nat).Perm (List.range 7) by decide) rfl rfl rfl (q0 := 0) rfl rfl rfl (Nat.le_of_ble_eq_true rfl) ⟨Nat.le_of_ble_eq_true rfl, Nat.le_of_ble_eq_true rfl⟩ ⟨Nat.zero_le _, Nat.zero_le _⟩ dX4_liesAsOneBefore_20 (fun r4 wr4 hw4 => ?_)
  obtain ⟨e_r4, rfl⟩ := hw4
  refine r_ws (I' := [letB cI (L 3) (h 3) (v 3) (lie 3) (seals 3) (folds 3) (n 3) (f 3), [(pl, .inr (2, [.ref a]))], [(a, .inl (cL, 5, .inr (.inr (.inr (.inr (rfs L))))))], letB cI (L 0) (h 0) (v 0) (lie 0) (seals 0) (folds 0) (n 0) (f 0), letB cI (L 1) (h 1) (v 1) (lie 1) (seals 1) (folds 1) (n 1) (f 1), letB cI (L 2) (h 2) (v 2) (lie 2) (seals 2) (folds 2) (n 2) (f 2), letB cI (L 4) (h 4) (v 4) (lie 4) (seals 4) (folds 4) (n 4) (f 4)]) rfl ?_
  refine r_icmp_ne (tgt := 28) C dX4_liesAsOneBefore_23 (by decide) (fun c5 => ?_) (fun c5 => ?_)
  · refine r_iinc (v := 1) (L' := [(2, .int 1), (0, .ref pl), (1, .int 3)]) C dX4_liesAsOneBefore_28 0 rfl (by decide) (by decide) rfl ?_
    refine r_goto (tgt := 2) C dX4_liesAsOneBefore_31 (by decide) ?_
    refine r_iload_n C dX4_liesAsOneBefore_2 0 rfl ?_
    refine r_iload_n C dX4_liesAsOneBefore_3 2 rfl ?_
    refine r_icmp_ge (tgt := 34) C dX4_liesAsOneBefore_4 (by decide) (fun c => absurd c (by decide)) (fun _ => ?_)
    refine r_aload_n C dX4_liesAsOneBefore_7 1 rfl ?_
    refine r_iload_n C dX4_liesAsOneBefore_8 0 rfl ?_
    refine r_callV (ci := 2) (wc := [[(pl, .inr (2, [.ref a]))], [(a, .inl (cL, 5, .inr (.inr (.inr (.inr (rfs L))))))]]) (wr := [letB cI (L 3) (h 3) (v 3) (lie 3) (seals 3) (folds 3) (n 3) (f 3), letB cI (L 0) (h 0) (v 0) (lie 0) (seals 0) (folds 0) (n 0) (f 0), letB cI (L 1) (h 1) (v 1) (lie 1) (seals 1) (folds 1) (n 1) (f 1), letB cI (L 2) (h 2) (v 2) (lie 2) (seals 2) (folds 2) (n 2) (f 2), letB cI (L 4) (h 4) (v 4) (lie 4) (seals 4) (folds 4) (n 4) (f 4)]) (st := []) C (m_X4_at l D cI cL cP cJ pl a L 1 (P_at_k (k := 1) (by decide))) k_X4_at t_287 [1, 2, 0, 3, 4, 5, 6] (show ([1, 2, 0, 3, 4, 5, 6] : List Nat).Perm (List.range 7) by decide) rfl rfl rfl (q0 := 0) rfl rfl rfl (Nat.le_of_ble_eq_true rfl) ⟨Nat.le_of_ble_eq_true rfl, Nat.le_of_ble_eq_true rfl⟩ ⟨Nat.zero_le _, Nat.zero_le _⟩ dX4_liesAsOneBefore_9 (fun r6 wr6 hw6 => ?_)
    obtain ⟨rfl, rfl⟩ := hw6
    refine r_ws (I' := [[(pl, .inr (2, [.ref a]))], [(a, .inl (cL, 5, .inr (.inr (.inr (.inr (rfs L))))))], letB cI (L 3) (h 3) (v 3) (lie 3) (seals 3) (folds 3) (n 3) (f 3), letB cI (L 0) (h 0) (v 0) (lie 0) (seals 0) (folds 0) (n 0) (f 0), letB cI (L 1) (h 1) (v 1) (lie 1) (seals 1) (folds 1) (n 1) (f 1), letB cI (L 2) (h 2) (v 2) (lie 2) (seals 2) (folds 2) (n 2) (f 2), letB cI (L 4) (h 4) (v 4) (lie 4) (seals 4) (folds 4) (n 4) (f 4)]) rfl ?_
    refine r_callV (ci := 1) (wc := [letB cI (L 1) (h 1) (v 1) (lie 1) (seals 1) (folds 1) (n 1) (f 1)]) (wr := [[(pl, .inr (2, [.ref a]))], [(a, .inl (cL, 5, .inr (.inr (.inr (.inr (rfs L))))))], letB cI (L 3) (h 3) (v 3) (lie 3) (seals 3) (folds 3) (n 3) (f 3), letB cI (L 0) (h 0) (v 0) (lie 0) (seals 0) (folds 0) (n 0) (f 0), letB cI (L 2) (h 2) (v 2) (lie 2) (seals 2) (folds 2) (n 2) (f 2), letB cI (L 4) (h 4) (v 4) (lie 4) (seals 4) (folds 4) (n 4) (f 4)]) (st := []) C (m_X2_lie l D cI cL cP cJ (L 1) (h 1) (v 1) (lie 1) (seals 1) (folds 1) (n 1) (f 1)) k_X2_lie t_261 [4, 0, 1, 2, 3, 5, 6] (show ([4, 0, 1, 2, 3, 5, 6] : List Nat).Perm (List.range 7) by decide) rfl rfl rfl (q0 := 0) rfl rfl rfl (Nat.le_of_ble_eq_true rfl) ⟨Nat.le_of_ble_eq_true rfl, Nat.le_of_ble_eq_true rfl⟩ ⟨Nat.zero_le _, Nat.zero_le _⟩ dX4_liesAsOneBefore_12 (fun r7 wr7 hw7 => ?_)
    obtain ⟨e_r7, rfl⟩ := hw7
    refine r_ws (I' := [letB cI (L 1) (h 1) (v 1) (lie 1) (seals 1) (folds 1) (n 1) (f 1), [(pl, .inr (2, [.ref a]))], [(a, .inl (cL, 5, .inr (.inr (.inr (.inr (rfs L))))))], letB cI (L 3) (h 3) (v 3) (lie 3) (seals 3) (folds 3) (n 3) (f 3), letB cI (L 0) (h 0) (v 0) (lie 0) (seals 0) (folds 0) (n 0) (f 0), letB cI (L 2) (h 2) (v 2) (lie 2) (seals 2) (folds 2) (n 2) (f 2), letB cI (L 4) (h 4) (v 4) (lie 4) (seals 4) (folds 4) (n 4) (f 4)]) rfl ?_
    refine r_aload_n C dX4_liesAsOneBefore_15 1 rfl ?_
    refine r_iload_n C dX4_liesAsOneBefore_16 2 rfl ?_
    refine r_callV (ci := 2) (wc := [[(pl, .inr (2, [.ref a]))], [(a, .inl (cL, 5, .inr (.inr (.inr (.inr (rfs L))))))]]) (wr := [letB cI (L 1) (h 1) (v 1) (lie 1) (seals 1) (folds 1) (n 1) (f 1), letB cI (L 3) (h 3) (v 3) (lie 3) (seals 3) (folds 3) (n 3) (f 3), letB cI (L 0) (h 0) (v 0) (lie 0) (seals 0) (folds 0) (n 0) (f 0), letB cI (L 2) (h 2) (v 2) (lie 2) (seals 2) (folds 2) (n 2) (f 2), letB cI (L 4) (h 4) (v 4) (lie 4) (seals 4) (folds 4) (n 4) (f 4)]) (st := [.int r7]) C (m_X4_at l D cI cL cP cJ pl a L 3 (P_at_k (k := 3) (by decide))) k_X4_at t_287 [1, 2, 0, 3, 4, 5, 6] (show ([1, 2, 0, 3, 4, 5, 6] : List Nat).Perm (List.range 7) by decide) rfl rfl rfl (q0 := 0) rfl rfl rfl (Nat.le_of_ble_eq_true rfl) ⟨Nat.le_of_ble_eq_true rfl, Nat.le_of_ble_eq_true rfl⟩ ⟨Nat.zero_le _, Nat.zero_le _⟩ dX4_liesAsOneBefore_17 (fun r8 wr8 hw8 => ?_)
    obtain ⟨rfl, rfl⟩ := hw8
    refine r_ws (I' := [[(pl, .inr (2, [.ref a]))], [(a, .inl (cL, 5, .inr (.inr (.inr (.inr (rfs L))))))], letB cI (L 1) (h 1) (v 1) (lie 1) (seals 1) (folds 1) (n 1) (f 1), letB cI (L 3) (h 3) (v 3) (lie 3) (seals 3) (folds 3) (n 3) (f 3), letB cI (L 0) (h 0) (v 0) (lie 0) (seals 0) (folds 0) (n 0) (f 0), letB cI (L 2) (h 2) (v 2) (lie 2) (seals 2) (folds 2) (n 2) (f 2), letB cI (L 4) (h 4) (v 4) (lie 4) (seals 4) (folds 4) (n 4) (f 4)]) rfl ?_
    refine r_callV (ci := 1) (wc := [letB cI (L 3) (h 3) (v 3) (lie 3) (seals 3) (folds 3) (n 3) (f 3)]) (wr := [[(pl, .inr (2, [.ref a]))], [(a, .inl (cL, 5, .inr (.inr (.inr (.inr (rfs L))))))], letB cI (L 1) (h 1) (v 1) (lie 1) (seals 1) (folds 1) (n 1) (f 1), letB cI (L 0) (h 0) (v 0) (lie 0) (seals 0) (folds 0) (n 0) (f 0), letB cI (L 2) (h 2) (v 2) (lie 2) (seals 2) (folds 2) (n 2) (f 2), letB cI (L 4) (h 4) (v 4) (lie 4) (seals 4) (folds 4) (n 4) (f 4)]) (st := [.int r7]) C (m_X2_lie l D cI cL cP cJ (L 3) (h 3) (v 3) (lie 3) (seals 3) (folds 3) (n 3) (f 3)) k_X2_lie t_261 [3, 0, 1, 2, 4, 5, 6] (show ([3, 0, 1, 2, 4, 5, 6] : List Nat).Perm (List.range 7) by decide) rfl rfl rfl (q0 := 0) rfl rfl rfl (Nat.le_of_ble_eq_true rfl) ⟨Nat.le_of_ble_eq_true rfl, Nat.le_of_ble_eq_true rfl⟩ ⟨Nat.zero_le _, Nat.zero_le _⟩ dX4_liesAsOneBefore_20 (fun r9 wr9 hw9 => ?_)
    obtain ⟨e_r9, rfl⟩ := hw9
    refine r_ws (I' := [letB cI (L 3) (h 3) (v 3) (lie 3) (seals 3) (folds 3) (n 3) (f 3), [(pl, .inr (2, [.ref a]))], [(a, .inl (cL, 5, .inr (.inr (.inr (.inr (rfs L))))))], letB cI (L 1) (h 1) (v 1) (lie 1) (seals 1) (folds 1) (n 1) (f 1), letB cI (L 0) (h 0) (v 0) (lie 0) (seals 0) (folds 0) (n 0) (f 0), letB cI (L 2) (h 2) (v 2) (lie 2) (seals 2) (folds 2) (n 2) (f 2), letB cI (L 4) (h 4) (v 4) (lie 4) (seals 4) (folds 4) (n 4) (f 4)]) rfl ?_
    refine r_icmp_ne (tgt := 28) C dX4_liesAsOneBefore_23 (by decide) (fun c10 => ?_) (fun c10 => ?_)
    · refine r_iinc (v := 2) (L' := [(2, .int 2), (0, .ref pl), (1, .int 3)]) C dX4_liesAsOneBefore_28 0 rfl (by decide) (by decide) rfl ?_
      refine r_goto (tgt := 2) C dX4_liesAsOneBefore_31 (by decide) ?_
      refine r_iload_n C dX4_liesAsOneBefore_2 0 rfl ?_
      refine r_iload_n C dX4_liesAsOneBefore_3 2 rfl ?_
      refine r_icmp_ge (tgt := 34) C dX4_liesAsOneBefore_4 (by decide) (fun c => absurd c (by decide)) (fun _ => ?_)
      refine r_aload_n C dX4_liesAsOneBefore_7 1 rfl ?_
      refine r_iload_n C dX4_liesAsOneBefore_8 0 rfl ?_
      refine r_callV (ci := 2) (wc := [[(pl, .inr (2, [.ref a]))], [(a, .inl (cL, 5, .inr (.inr (.inr (.inr (rfs L))))))]]) (wr := [letB cI (L 3) (h 3) (v 3) (lie 3) (seals 3) (folds 3) (n 3) (f 3), letB cI (L 1) (h 1) (v 1) (lie 1) (seals 1) (folds 1) (n 1) (f 1), letB cI (L 0) (h 0) (v 0) (lie 0) (seals 0) (folds 0) (n 0) (f 0), letB cI (L 2) (h 2) (v 2) (lie 2) (seals 2) (folds 2) (n 2) (f 2), letB cI (L 4) (h 4) (v 4) (lie 4) (seals 4) (folds 4) (n 4) (f 4)]) (st := []) C (m_X4_at l D cI cL cP cJ pl a L 2 (P_at_k (k := 2) (by decide))) k_X4_at t_287 [1, 2, 0, 3, 4, 5, 6] (show ([1, 2, 0, 3, 4, 5, 6] : List Nat).Perm (List.range 7) by decide) rfl rfl rfl (q0 := 0) rfl rfl rfl (Nat.le_of_ble_eq_true rfl) ⟨Nat.le_of_ble_eq_true rfl, Nat.le_of_ble_eq_true rfl⟩ ⟨Nat.zero_le _, Nat.zero_le _⟩ dX4_liesAsOneBefore_9 (fun r11 wr11 hw11 => ?_)
      obtain ⟨rfl, rfl⟩ := hw11
      refine r_ws (I' := [[(pl, .inr (2, [.ref a]))], [(a, .inl (cL, 5, .inr (.inr (.inr (.inr (rfs L))))))], letB cI (L 3) (h 3) (v 3) (lie 3) (seals 3) (folds 3) (n 3) (f 3), letB cI (L 1) (h 1) (v 1) (lie 1) (seals 1) (folds 1) (n 1) (f 1), letB cI (L 0) (h 0) (v 0) (lie 0) (seals 0) (folds 0) (n 0) (f 0), letB cI (L 2) (h 2) (v 2) (lie 2) (seals 2) (folds 2) (n 2) (f 2), letB cI (L 4) (h 4) (v 4) (lie 4) (seals 4) (folds 4) (n 4) (f 4)]) rfl ?_
      refine r_callV (ci := 1) (wc := [letB cI (L 2) (h 2) (v 2) (lie 2) (seals 2) (folds 2) (n 2) (f 2)]) (wr := [[(pl, .inr (2, [.ref a]))], [(a, .inl (cL, 5, .inr (.inr (.inr (.inr (rfs L))))))], letB cI (L 3) (h 3) (v 3) (lie 3) (seals 3) (folds 3) (n 3) (f 3), letB cI (L 1) (h 1) (v 1) (lie 1) (seals 1) (folds 1) (n 1) (f 1), letB cI (L 0) (h 0) (v 0) (lie 0) (seals 0) (folds 0) (n 0) (f 0), letB cI (L 4) (h 4) (v 4) (lie 4) (seals 4) (folds 4) (n 4) (f 4)]) (st := []) C (m_X2_lie l D cI cL cP cJ (L 2) (h 2) (v 2) (lie 2) (seals 2) (folds 2) (n 2) (f 2)) k_X2_lie t_261 [5, 0, 1, 2, 3, 4, 6] (show ([5, 0, 1, 2, 3, 4, 6] : List Nat).Perm (List.range 7) by decide) rfl rfl rfl (q0 := 0) rfl rfl rfl (Nat.le_of_ble_eq_true rfl) ⟨Nat.le_of_ble_eq_true rfl, Nat.le_of_ble_eq_true rfl⟩ ⟨Nat.zero_le _, Nat.zero_le _⟩ dX4_liesAsOneBefore_12 (fun r12 wr12 hw12 => ?_)
      obtain ⟨e_r12, rfl⟩ := hw12
      refine r_ws (I' := [letB cI (L 2) (h 2) (v 2) (lie 2) (seals 2) (folds 2) (n 2) (f 2), [(pl, .inr (2, [.ref a]))], [(a, .inl (cL, 5, .inr (.inr (.inr (.inr (rfs L))))))], letB cI (L 3) (h 3) (v 3) (lie 3) (seals 3) (folds 3) (n 3) (f 3), letB cI (L 1) (h 1) (v 1) (lie 1) (seals 1) (folds 1) (n 1) (f 1), letB cI (L 0) (h 0) (v 0) (lie 0) (seals 0) (folds 0) (n 0) (f 0), letB cI (L 4) (h 4) (v 4) (lie 4) (seals 4) (folds 4) (n 4) (f 4)]) rfl ?_
      refine r_aload_n C dX4_liesAsOneBefore_15 1 rfl ?_
      refine r_iload_n C dX4_liesAsOneBefore_16 2 rfl ?_
      refine r_callV (ci := 2) (wc := [[(pl, .inr (2, [.ref a]))], [(a, .inl (cL, 5, .inr (.inr (.inr (.inr (rfs L))))))]]) (wr := [letB cI (L 2) (h 2) (v 2) (lie 2) (seals 2) (folds 2) (n 2) (f 2), letB cI (L 3) (h 3) (v 3) (lie 3) (seals 3) (folds 3) (n 3) (f 3), letB cI (L 1) (h 1) (v 1) (lie 1) (seals 1) (folds 1) (n 1) (f 1), letB cI (L 0) (h 0) (v 0) (lie 0) (seals 0) (folds 0) (n 0) (f 0), letB cI (L 4) (h 4) (v 4) (lie 4) (seals 4) (folds 4) (n 4) (f 4)]) (st := [.int r12]) C (m_X4_at l D cI cL cP cJ pl a L 3 (P_at_k (k := 3) (by decide))) k_X4_at t_287 [1, 2, 0, 3, 4, 5, 6] (show ([1, 2, 0, 3, 4, 5, 6] : List Nat).Perm (List.range 7) by decide) rfl rfl rfl (q0 := 0) rfl rfl rfl (Nat.le_of_ble_eq_true rfl) ⟨Nat.le_of_ble_eq_true rfl, Nat.le_of_ble_eq_true rfl⟩ ⟨Nat.zero_le _, Nat.zero_le _⟩ dX4_liesAsOneBefore_17 (fun r13 wr13 hw13 => ?_)
      obtain ⟨rfl, rfl⟩ := hw13
      refine r_ws (I' := [[(pl, .inr (2, [.ref a]))], [(a, .inl (cL, 5, .inr (.inr (.inr (.inr (rfs L))))))], letB cI (L 2) (h 2) (v 2) (lie 2) (seals 2) (folds 2) (n 2) (f 2), letB cI (L 3) (h 3) (v 3) (lie 3) (seals 3) (folds 3) (n 3) (f 3), letB cI (L 1) (h 1) (v 1) (lie 1) (seals 1) (folds 1) (n 1) (f 1), letB cI (L 0) (h 0) (v 0) (lie 0) (seals 0) (folds 0) (n 0) (f 0), letB cI (L 4) (h 4) (v 4) (lie 4) (seals 4) (folds 4) (n 4) (f 4)]) rfl ?_
      refine r_callV (ci := 1) (wc := [letB cI (L 3) (h 3) (v 3) (lie 3) (seals 3) (folds 3) (n 3) (f 3)]) (wr := [[(pl, .inr (2, [.ref a]))], [(a, .inl (cL, 5, .inr (.inr (.inr (.inr (rfs L))))))], letB cI (L 2) (h 2) (v 2) (lie 2) (seals 2) (folds 2) (n 2) (f 2), letB cI (L 1) (h 1) (v 1) (lie 1) (seals 1) (folds 1) (n 1) (f 1), letB cI (L 0) (h 0) (v 0) (lie 0) (seals 0) (folds 0) (n 0) (f 0), letB cI (L 4) (h 4) (v 4) (lie 4) (seals 4) (folds 4) (n 4) (f 4)]) (st := [.int r12]) C (m_X2_lie l D cI cL cP cJ (L 3) (h 3) (v 3) (lie 3) (seals 3) (folds 3) (n 3) (f 3)) k_X2_lie t_261 [3, 0, 1, 2, 4, 5, 6] (show ([3, 0, 1, 2, 4, 5, 6] : List Nat).Perm (List.range 7) by decide) rfl rfl rfl (q0 := 0) rfl rfl rfl (Nat.le_of_ble_eq_true rfl) ⟨Nat.le_of_ble_eq_true rfl, Nat.le_of_ble_eq_true rfl⟩ ⟨Nat.zero_le _, Nat.zero_le _⟩ dX4_liesAsOneBefore_20 (fun r14 wr14 hw14 => ?_)
      obtain ⟨e_r14, rfl⟩ := hw14
      refine r_ws (I' := [letB cI (L 3) (h 3) (v 3) (lie 3) (seals 3) (folds 3) (n 3) (f 3), [(pl, .inr (2, [.ref a]))], [(a, .inl (cL, 5, .inr (.inr (.inr (.inr (rfs L))))))], letB cI (L 2) (h 2) (v 2) (lie 2) (seals 2) (folds 2) (n 2) (f 2), letB cI (L 1) (h 1) (v 1) (lie 1) (seals 1) (folds 1) (n 1) (f 1), letB cI (L 0) (h 0) (v 0) (lie 0) (seals 0) (folds 0) (n 0) (f 0), letB cI (L 4) (h 4) (v 4) (lie 4) (seals 4) (folds 4) (n 4) (f 4)]) rfl ?_
      refine r_icmp_ne (tgt := 28) C dX4_liesAsOneBefore_23 (by decide) (fun c15 => ?_) (fun c15 => ?_)
      · refine r_iinc (v := 3) (L' := [(2, .int 3), (0, .ref pl), (1, .int 3)]) C dX4_liesAsOneBefore_28 0 rfl (by decide) (by decide) rfl ?_
        refine r_goto (tgt := 2) C dX4_liesAsOneBefore_31 (by decide) ?_
        refine r_iload_n C dX4_liesAsOneBefore_2 0 rfl ?_
        refine r_iload_n C dX4_liesAsOneBefore_3 2 rfl ?_
        refine r_icmp_ge (tgt := 34) C dX4_liesAsOneBefore_4 (by decide) (fun _ => ?_) (fun c => absurd c (by decide))
        refine r_iconst (v := 0) C dX4_liesAsOneBefore_34 (by decide) ?_
        refine r_pl (I' := [[(pl, .inr (2, [.ref a]))], [(a, .inl (cL, 5, .inr (.inr (.inr (.inr (rfs L))))))], letB cI (L 0) (h 0) (v 0) (lie 0) (seals 0) (folds 0) (n 0) (f 0), letB cI (L 1) (h 1) (v 1) (lie 1) (seals 1) (folds 1) (n 1) (f 1), letB cI (L 2) (h 2) (v 2) (lie 2) (seals 2) (folds 2) (n 2) (f 2), letB cI (L 3) (h 3) (v 3) (lie 3) (seals 3) (folds 3) (n 3) (f 3), letB cI (L 4) (h 4) (v 4) (lie 4) (seals 4) (folds 4) (n 4) (f 4)]) [1, 2, 5, 4, 3, 0, 6] (show ([1, 2, 5, 4, 3, 0, 6] : List Nat).Perm (List.range 7) by decide) rfl ?_
        refine r_ws (I' := [pileB cI cL pl a L h v lie seals folds n f]) rfl ?_
        have eF : F_X4_liesAsOneBefore_3 lie = 0 := by have q := e_r2.symm; subst q; have q := e_r4.symm; subst q; have q := e_r7.symm; subst q; have q := e_r9.symm; subst q; have q := e_r12.symm; subst q; have q := e_r14.symm; subst q; simp only [F_X4_liesAsOneBefore_3, if_neg c5, if_neg c10, if_neg c15]
        exact r_zret (r := 0) C hA hr hlo (rfl) dX4_liesAsOneBefore_35 [pileB cI cL pl a L h v lie seals folds n f] ⟨by simp only [eF], rfl⟩ rfl hQ
      · refine r_iconst (v := 1) C dX4_liesAsOneBefore_26 (by decide) ?_
        refine r_pl (I' := [[(pl, .inr (2, [.ref a]))], [(a, .inl (cL, 5, .inr (.inr (.inr (.inr (rfs L))))))], letB cI (L 0) (h 0) (v 0) (lie 0) (seals 0) (folds 0) (n 0) (f 0), letB cI (L 1) (h 1) (v 1) (lie 1) (seals 1) (folds 1) (n 1) (f 1), letB cI (L 2) (h 2) (v 2) (lie 2) (seals 2) (folds 2) (n 2) (f 2), letB cI (L 3) (h 3) (v 3) (lie 3) (seals 3) (folds 3) (n 3) (f 3), letB cI (L 4) (h 4) (v 4) (lie 4) (seals 4) (folds 4) (n 4) (f 4)]) [1, 2, 5, 4, 3, 0, 6] (show ([1, 2, 5, 4, 3, 0, 6] : List Nat).Perm (List.range 7) by decide) rfl ?_
        refine r_ws (I' := [pileB cI cL pl a L h v lie seals folds n f]) rfl ?_
        have eF : F_X4_liesAsOneBefore_3 lie = 1 := by have q := e_r2.symm; subst q; have q := e_r4.symm; subst q; have q := e_r7.symm; subst q; have q := e_r9.symm; subst q; have q := e_r12.symm; subst q; have q := e_r14.symm; subst q; simp only [F_X4_liesAsOneBefore_3, if_neg c5, if_neg c10, if_pos c15]
        exact r_zret (r := 1) C hA hr hlo (rfl) dX4_liesAsOneBefore_27 [pileB cI cL pl a L h v lie seals folds n f] ⟨by simp only [eF], rfl⟩ rfl hQ
    · refine r_iconst (v := 1) C dX4_liesAsOneBefore_26 (by decide) ?_
      refine r_pl (I' := [[(pl, .inr (2, [.ref a]))], [(a, .inl (cL, 5, .inr (.inr (.inr (.inr (rfs L))))))], letB cI (L 0) (h 0) (v 0) (lie 0) (seals 0) (folds 0) (n 0) (f 0), letB cI (L 1) (h 1) (v 1) (lie 1) (seals 1) (folds 1) (n 1) (f 1), letB cI (L 2) (h 2) (v 2) (lie 2) (seals 2) (folds 2) (n 2) (f 2), letB cI (L 3) (h 3) (v 3) (lie 3) (seals 3) (folds 3) (n 3) (f 3), letB cI (L 4) (h 4) (v 4) (lie 4) (seals 4) (folds 4) (n 4) (f 4)]) [1, 2, 4, 3, 5, 0, 6] (show ([1, 2, 4, 3, 5, 0, 6] : List Nat).Perm (List.range 7) by decide) rfl ?_
      refine r_ws (I' := [pileB cI cL pl a L h v lie seals folds n f]) rfl ?_
      have eF : F_X4_liesAsOneBefore_3 lie = 1 := by have q := e_r2.symm; subst q; have q := e_r4.symm; subst q; have q := e_r7.symm; subst q; have q := e_r9.symm; subst q; simp only [F_X4_liesAsOneBefore_3, if_neg c5, if_pos c10]
      exact r_zret (r := 1) C hA hr hlo (rfl) dX4_liesAsOneBefore_27 [pileB cI cL pl a L h v lie seals folds n f] ⟨by simp only [eF], rfl⟩ rfl hQ
  · refine r_iconst (v := 1) C dX4_liesAsOneBefore_26 (by decide) ?_
    refine r_pl (I' := [[(pl, .inr (2, [.ref a]))], [(a, .inl (cL, 5, .inr (.inr (.inr (.inr (rfs L))))))], letB cI (L 0) (h 0) (v 0) (lie 0) (seals 0) (folds 0) (n 0) (f 0), letB cI (L 1) (h 1) (v 1) (lie 1) (seals 1) (folds 1) (n 1) (f 1), letB cI (L 2) (h 2) (v 2) (lie 2) (seals 2) (folds 2) (n 2) (f 2), letB cI (L 3) (h 3) (v 3) (lie 3) (seals 3) (folds 3) (n 3) (f 3), letB cI (L 4) (h 4) (v 4) (lie 4) (seals 4) (folds 4) (n 4) (f 4)]) [1, 2, 3, 4, 5, 0, 6] (show ([1, 2, 3, 4, 5, 0, 6] : List Nat).Perm (List.range 7) by decide) rfl ?_
    refine r_ws (I' := [pileB cI cL pl a L h v lie seals folds n f]) rfl ?_
    have eF : F_X4_liesAsOneBefore_3 lie = 1 := by have q := e_r2.symm; subst q; have q := e_r4.symm; subst q; simp only [F_X4_liesAsOneBefore_3, if_pos c5]
    exact r_zret (r := 1) C hA hr hlo (rfl) dX4_liesAsOneBefore_27 [pileB cI cL pl a L h v lie seals folds n f] ⟨by simp only [eF], rfl⟩ rfl hQ
set_option maxRecDepth 20000 in
def F_X4_liesAsOneBefore_4 (lie : Nat → Int32) : Int32 := let r2 : Int32 := F_X2_lie (lie 0); let r4 : Int32 := F_X2_lie (lie 4); (if r2 = r4 then (1) else (let r7 : Int32 := F_X2_lie (lie 1); let r9 : Int32 := F_X2_lie (lie 4); (if r7 = r9 then (1) else (let r12 : Int32 := F_X2_lie (lie 2); let r14 : Int32 := F_X2_lie (lie 4); (if r12 = r14 then (1) else (let r17 : Int32 := F_X2_lie (lie 3); let r19 : Int32 := F_X2_lie (lie 4); (if r17 = r19 then (1) else (0))))))))
set_option maxRecDepth 20000 in
set_option maxHeartbeats 8000000 in
theorem m_X4_liesAsOneBefore_4 (l : Launch) (D : va_G) (cI cL cP cJ : ClassId) (pl : Nat) (a : Nat) (L : Nat → Nat) (h : Nat → Nat) (v : Nat → Nat) (lie : Nat → Int32) (seals : Nat → Int32) (folds : Nat → Int32) (n : Nat → Int32) (f : Nat → Nat → Int32) : M vI l yX4_liesAsOneBefore cX4_liesAsOneBefore 3 (some .boolean) 1 21 D (tyF cI cL cP cJ) [.ref pl, .int 4] [pileB cI cL pl a L h v lie seals folds n f] (fun (r : Int32) (w1 : List va_W) => r = (F_X4_liesAsOneBefore_4 lie) ∧ w1 = [pileB cI cL pl a L h v lie seals folds n f]) := by
  refine m_start (by decide +kernel) (Nat.le_of_ble_eq_true rfl) (fun p e s m args below meth c A Q hA hQ C hr hlo => ?_)
  refine r_Le (L' := [(0, .ref pl), (1, .int 4)]) rfl ?_
  refine r_iconst (v := 0) C dX4_liesAsOneBefore_0 (by decide) ?_
  refine r_istore_n (L' := [(2, .int 0), (0, .ref pl), (1, .int 4)]) C dX4_liesAsOneBefore_1 (by decide) rfl ?_
  refine r_iload_n C dX4_liesAsOneBefore_2 0 rfl ?_
  refine r_iload_n C dX4_liesAsOneBefore_3 2 rfl ?_
  refine r_icmp_ge (tgt := 34) C dX4_liesAsOneBefore_4 (by decide) (fun c => absurd c (by decide)) (fun _ => ?_)
  refine r_aload_n C dX4_liesAsOneBefore_7 1 rfl ?_
  refine r_iload_n C dX4_liesAsOneBefore_8 0 rfl ?_
  refine r_callV (ci := 2) (wc := [pileB cI cL pl a L h v lie seals folds n f]) (wr := []) (st := []) C (m_X4_atB l D cI cL cP cJ pl a L h v lie seals folds n f 0 (P_atB_k (k := 0) (by decide))) k_X4_at t_287 [0] (show ([0] : List Nat).Perm (List.range 1) by decide) rfl rfl rfl (q0 := 0) rfl rfl rfl (Nat.le_of_ble_eq_true rfl) ⟨Nat.le_of_ble_eq_true rfl, Nat.le_of_ble_eq_true rfl⟩ ⟨Nat.zero_le _, Nat.zero_le _⟩ dX4_liesAsOneBefore_9 (fun r1 wr1 hw1 => ?_)
  obtain ⟨rfl, rfl⟩ := hw1
  refine r_ws (I' := [pileB cI cL pl a L h v lie seals folds n f]) rfl ?_
  refine r_ws (I' := [[(pl, .inr (2, [.ref a]))], [(a, .inl (cL, 5, .inr (.inr (.inr (.inr (rfs L))))))], letB cI (L 0) (h 0) (v 0) (lie 0) (seals 0) (folds 0) (n 0) (f 0), letB cI (L 1) (h 1) (v 1) (lie 1) (seals 1) (folds 1) (n 1) (f 1), letB cI (L 2) (h 2) (v 2) (lie 2) (seals 2) (folds 2) (n 2) (f 2), letB cI (L 3) (h 3) (v 3) (lie 3) (seals 3) (folds 3) (n 3) (f 3), letB cI (L 4) (h 4) (v 4) (lie 4) (seals 4) (folds 4) (n 4) (f 4)]) rfl ?_
  refine r_callV (ci := 1) (wc := [letB cI (L 0) (h 0) (v 0) (lie 0) (seals 0) (folds 0) (n 0) (f 0)]) (wr := [[(pl, .inr (2, [.ref a]))], [(a, .inl (cL, 5, .inr (.inr (.inr (.inr (rfs L))))))], letB cI (L 1) (h 1) (v 1) (lie 1) (seals 1) (folds 1) (n 1) (f 1), letB cI (L 2) (h 2) (v 2) (lie 2) (seals 2) (folds 2) (n 2) (f 2), letB cI (L 3) (h 3) (v 3) (lie 3) (seals 3) (folds 3) (n 3) (f 3), letB cI (L 4) (h 4) (v 4) (lie 4) (seals 4) (folds 4) (n 4) (f 4)]) (st := []) C (m_X2_lie l D cI cL cP cJ (L 0) (h 0) (v 0) (lie 0) (seals 0) (folds 0) (n 0) (f 0)) k_X2_lie t_261 [2, 0, 1, 3, 4, 5, 6] (show ([2, 0, 1, 3, 4, 5, 6] : List Nat).Perm (List.range 7) by decide) rfl rfl rfl (q0 := 0) rfl rfl rfl (Nat.le_of_ble_eq_true rfl) ⟨Nat.le_of_ble_eq_true rfl, Nat.le_of_ble_eq_true rfl⟩ ⟨Nat.zero_le _, Nat.zero_le _⟩ dX4_liesAsOneBefore_12 (fun r2 wr2 hw2 => ?_)
  obtain ⟨e_r2, rfl⟩ := hw2
  refine r_ws (I' := [letB cI (L 0) (h 0) (v 0) (lie 0) (seals 0) (folds 0) (n 0) (f 0), [(pl, .inr (2, [.ref a]))], [(a, .inl (cL, 5, .inr (.inr (.inr (.inr (rfs L))))))], letB cI (L 1) (h 1) (v 1) (lie 1) (seals 1) (folds 1) (n 1) (f 1), letB cI (L 2) (h 2) (v 2) (lie 2) (seals 2) (folds 2) (n 2) (f 2), letB cI (L 3) (h 3) (v 3) (lie 3) (seals 3) (folds 3) (n 3) (f 3), letB cI (L 4) (h 4) (v 4) (lie 4) (seals 4) (folds 4) (n 4) (f 4)]) rfl ?_
  refine r_aload_n C dX4_liesAsOneBefore_15 1 rfl ?_
  refine r_iload_n C dX4_liesAsOneBefore_16 2 rfl ?_
  refine r_callV (ci := 2) (wc := [[(pl, .inr (2, [.ref a]))], [(a, .inl (cL, 5, .inr (.inr (.inr (.inr (rfs L))))))]]) (wr := [letB cI (L 0) (h 0) (v 0) (lie 0) (seals 0) (folds 0) (n 0) (f 0), letB cI (L 1) (h 1) (v 1) (lie 1) (seals 1) (folds 1) (n 1) (f 1), letB cI (L 2) (h 2) (v 2) (lie 2) (seals 2) (folds 2) (n 2) (f 2), letB cI (L 3) (h 3) (v 3) (lie 3) (seals 3) (folds 3) (n 3) (f 3), letB cI (L 4) (h 4) (v 4) (lie 4) (seals 4) (folds 4) (n 4) (f 4)]) (st := [.int r2]) C (m_X4_at l D cI cL cP cJ pl a L 4 (P_at_k (k := 4) (by decide))) k_X4_at t_287 [1, 2, 0, 3, 4, 5, 6] (show ([1, 2, 0, 3, 4, 5, 6] : List Nat).Perm (List.range 7) by decide) rfl rfl rfl (q0 := 0) rfl rfl rfl (Nat.le_of_ble_eq_true rfl) ⟨Nat.le_of_ble_eq_true rfl, Nat.le_of_ble_eq_true rfl⟩ ⟨Nat.zero_le _, Nat.zero_le _⟩ dX4_liesAsOneBefore_17 (fun r3 wr3 hw3 => ?_)
  obtain ⟨rfl, rfl⟩ := hw3
  refine r_ws (I' := [[(pl, .inr (2, [.ref a]))], [(a, .inl (cL, 5, .inr (.inr (.inr (.inr (rfs L))))))], letB cI (L 0) (h 0) (v 0) (lie 0) (seals 0) (folds 0) (n 0) (f 0), letB cI (L 1) (h 1) (v 1) (lie 1) (seals 1) (folds 1) (n 1) (f 1), letB cI (L 2) (h 2) (v 2) (lie 2) (seals 2) (folds 2) (n 2) (f 2), letB cI (L 3) (h 3) (v 3) (lie 3) (seals 3) (folds 3) (n 3) (f 3), letB cI (L 4) (h 4) (v 4) (lie 4) (seals 4) (folds 4) (n 4) (f 4)]) rfl ?_
  refine r_callV (ci := 1) (wc := [letB cI (L 4) (h 4) (v 4) (lie 4) (seals 4) (folds 4) (n 4) (f 4)]) (wr := [[(pl, .inr (2, [.ref a]))], [(a, .inl (cL, 5, .inr (.inr (.inr (.inr (rfs L))))))], letB cI (L 0) (h 0) (v 0) (lie 0) (seals 0) (folds 0) (n 0) (f 0), letB cI (L 1) (h 1) (v 1) (lie 1) (seals 1) (folds 1) (n 1) (f 1), letB cI (L 2) (h 2) (v 2) (lie 2) (seals 2) (folds 2) (n 2) (f 2), letB cI (L 3) (h 3) (v 3) (lie 3) (seals 3) (folds 3) (n 3) (f 3)]) (st := [.int r2]) C (m_X2_lie l D cI cL cP cJ (L 4) (h 4) (v 4) (lie 4) (seals 4) (folds 4) (n 4) (f 4)) k_X2_lie t_261 [6, 0, 1, 2, 3, 4, 5] (show ([6, 0, 1, 2, 3, 4, 5] : List Nat).Perm (List.range 7) by decide) rfl rfl rfl (q0 := 0) rfl rfl rfl (Nat.le_of_ble_eq_true rfl) ⟨Nat.le_of_ble_eq_true rfl, Nat.le_of_ble_eq_true rfl⟩ ⟨Nat.zero_le _, Nat.zero_le _⟩ dX4_liesAsOneBefore_20 (fun r4 wr4 hw4 => ?_)
  obtain ⟨e_r4, rfl⟩ := hw4
  refine r_ws (I' := [letB cI (L 4) (h 4) (v 4) (lie 4) (seals 4) (folds 4) (n 4) (f 4), [(pl, .inr (2, [.ref a]))], [(a, .inl (cL, 5, .inr (.inr (.inr (.inr (rfs L))))))], letB cI (L 0) (h 0) (v 0) (lie 0) (seals 0) (folds 0) (n 0) (f 0), letB cI (L 1) (h 1) (v 1) (lie 1) (seals 1) (folds 1) (n 1) (f 1), letB cI (L 2) (h 2) (v 2) (lie 2) (seals 2) (folds 2) (n 2) (f 2), letB cI (L 3) (h 3) (v 3) (lie 3) (seals 3) (folds 3) (n 3) (f 3)]) rfl ?_
  refine r_icmp_ne (tgt := 28) C dX4_liesAsOneBefore_23 (by decide) (fun c5 => ?_) (fun c5 => ?_)
  · refine r_iinc (v := 1) (L' := [(2, .int 1), (0, .ref pl), (1, .int 4)]) C dX4_liesAsOneBefore_28 0 rfl (by decide) (by decide) rfl ?_
    refine r_goto (tgt := 2) C dX4_liesAsOneBefore_31 (by decide) ?_
    refine r_iload_n C dX4_liesAsOneBefore_2 0 rfl ?_
    refine r_iload_n C dX4_liesAsOneBefore_3 2 rfl ?_
    refine r_icmp_ge (tgt := 34) C dX4_liesAsOneBefore_4 (by decide) (fun c => absurd c (by decide)) (fun _ => ?_)
    refine r_aload_n C dX4_liesAsOneBefore_7 1 rfl ?_
    refine r_iload_n C dX4_liesAsOneBefore_8 0 rfl ?_
    refine r_callV (ci := 2) (wc := [[(pl, .inr (2, [.ref a]))], [(a, .inl (cL, 5, .inr (.inr (.inr (.inr (rfs L))))))]]) (wr := [letB cI (L 4) (h 4) (v 4) (lie 4) (seals 4) (folds 4) (n 4) (f 4), letB cI (L 0) (h 0) (v 0) (lie 0) (seals 0) (folds 0) (n 0) (f 0), letB cI (L 1) (h 1) (v 1) (lie 1) (seals 1) (folds 1) (n 1) (f 1), letB cI (L 2) (h 2) (v 2) (lie 2) (seals 2) (folds 2) (n 2) (f 2), letB cI (L 3) (h 3) (v 3) (lie 3) (seals 3) (folds 3) (n 3) (f 3)]) (st := []) C (m_X4_at l D cI cL cP cJ pl a L 1 (P_at_k (k := 1) (by decide))) k_X4_at t_287 [1, 2, 0, 3, 4, 5, 6] (show ([1, 2, 0, 3, 4, 5, 6] : List Nat).Perm (List.range 7) by decide) rfl rfl rfl (q0 := 0) rfl rfl rfl (Nat.le_of_ble_eq_true rfl) ⟨Nat.le_of_ble_eq_true rfl, Nat.le_of_ble_eq_true rfl⟩ ⟨Nat.zero_le _, Nat.zero_le _⟩ dX4_liesAsOneBefore_9 (fun r6 wr6 hw6 => ?_)
    obtain ⟨rfl, rfl⟩ := hw6
    refine r_ws (I' := [[(pl, .inr (2, [.ref a]))], [(a, .inl (cL, 5, .inr (.inr (.inr (.inr (rfs L))))))], letB cI (L 4) (h 4) (v 4) (lie 4) (seals 4) (folds 4) (n 4) (f 4), letB cI (L 0) (h 0) (v 0) (lie 0) (seals 0) (folds 0) (n 0) (f 0), letB cI (L 1) (h 1) (v 1) (lie 1) (seals 1) (folds 1) (n 1) (f 1), letB cI (L 2) (h 2) (v 2) (lie 2) (seals 2) (folds 2) (n 2) (f 2), letB cI (L 3) (h 3) (v 3) (lie 3) (seals 3) (folds 3) (n 3) (f 3)]) rfl ?_
    refine r_callV (ci := 1) (wc := [letB cI (L 1) (h 1) (v 1) (lie 1) (seals 1) (folds 1) (n 1) (f 1)]) (wr := [[(pl, .inr (2, [.ref a]))], [(a, .inl (cL, 5, .inr (.inr (.inr (.inr (rfs L))))))], letB cI (L 4) (h 4) (v 4) (lie 4) (seals 4) (folds 4) (n 4) (f 4), letB cI (L 0) (h 0) (v 0) (lie 0) (seals 0) (folds 0) (n 0) (f 0), letB cI (L 2) (h 2) (v 2) (lie 2) (seals 2) (folds 2) (n 2) (f 2), letB cI (L 3) (h 3) (v 3) (lie 3) (seals 3) (folds 3) (n 3) (f 3)]) (st := []) C (m_X2_lie l D cI cL cP cJ (L 1) (h 1) (v 1) (lie 1) (seals 1) (folds 1) (n 1) (f 1)) k_X2_lie t_261 [4, 0, 1, 2, 3, 5, 6] (show ([4, 0, 1, 2, 3, 5, 6] : List Nat).Perm (List.range 7) by decide) rfl rfl rfl (q0 := 0) rfl rfl rfl (Nat.le_of_ble_eq_true rfl) ⟨Nat.le_of_ble_eq_true rfl, Nat.le_of_ble_eq_true rfl⟩ ⟨Nat.zero_le _, Nat.zero_le _⟩ dX4_liesAsOneBefore_12 (fun r7 wr7 hw7 => ?_)
    obtain ⟨e_r7, rfl⟩ := hw7
    refine r_ws (I' := [letB cI (L 1) (h 1) (v 1) (lie 1) (seals 1) (folds 1) (n 1) (f 1), [(pl, .inr (2, [.ref a]))], [(a, .inl (cL, 5, .inr (.inr (.inr (.inr (rfs L))))))], letB cI (L 4) (h 4) (v 4) (lie 4) (seals 4) (folds 4) (n 4) (f 4), letB cI (L 0) (h 0) (v 0) (lie 0) (seals 0) (folds 0) (n 0) (f 0), letB cI (L 2) (h 2) (v 2) (lie 2) (seals 2) (folds 2) (n 2) (f 2), letB cI (L 3) (h 3) (v 3) (lie 3) (seals 3) (folds 3) (n 3) (f 3)]) rfl ?_
    refine r_aload_n C dX4_liesAsOneBefore_15 1 rfl ?_
    refine r_iload_n C dX4_liesAsOneBefore_16 2 rfl ?_
    refine r_callV (ci := 2) (wc := [[(pl, .inr (2, [.ref a]))], [(a, .inl (cL, 5, .inr (.inr (.inr (.inr (rfs L))))))]]) (wr := [letB cI (L 1) (h 1) (v 1) (lie 1) (seals 1) (folds 1) (n 1) (f 1), letB cI (L 4) (h 4) (v 4) (lie 4) (seals 4) (folds 4) (n 4) (f 4), letB cI (L 0) (h 0) (v 0) (lie 0) (seals 0) (folds 0) (n 0) (f 0), letB cI (L 2) (h 2) (v 2) (lie 2) (seals 2) (folds 2) (n 2) (f 2), letB cI (L 3) (h 3) (v 3) (lie 3) (seals 3) (folds 3) (n 3) (f 3)]) (st := [.int r7]) C (m_X4_at l D cI cL cP cJ pl a L 4 (P_at_k (k := 4) (by decide))) k_X4_at t_287 [1, 2, 0, 3, 4, 5, 6] (show ([1, 2, 0, 3, 4, 5, 6] : List Nat).Perm (List.range 7) by decide) rfl rfl rfl (q0 := 0) rfl rfl rfl (Nat.le_of_ble_eq_true rfl) ⟨Nat.le_of_ble_eq_true rfl, Nat.le_of_ble_eq_true rfl⟩ ⟨Nat.zero_le _, Nat.zero_le _⟩ dX4_liesAsOneBefore_17 (fun r8 wr8 hw8 => ?_)
    obtain ⟨rfl, rfl⟩ := hw8
    refine r_ws (I' := [[(pl, .inr (2, [.ref a]))], [(a, .inl (cL, 5, .inr (.inr (.inr (.inr (rfs L))))))], letB cI (L 1) (h 1) (v 1) (lie 1) (seals 1) (folds 1) (n 1) (f 1), letB cI (L 4) (h 4) (v 4) (lie 4) (seals 4) (folds 4) (n 4) (f 4), letB cI (L 0) (h 0) (v 0) (lie 0) (seals 0) (folds 0) (n 0) (f 0), letB cI (L 2) (h 2) (v 2) (lie 2) (seals 2) (folds 2) (n 2) (f 2), letB cI (L 3) (h 3) (v 3) (lie 3) (seals 3) (folds 3) (n 3) (f 3)]) rfl ?_
    refine r_callV (ci := 1) (wc := [letB cI (L 4) (h 4) (v 4) (lie 4) (seals 4) (folds 4) (n 4) (f 4)]) (wr := [[(pl, .inr (2, [.ref a]))], [(a, .inl (cL, 5, .inr (.inr (.inr (.inr (rfs L))))))], letB cI (L 1) (h 1) (v 1) (lie 1) (seals 1) (folds 1) (n 1) (f 1), letB cI (L 0) (h 0) (v 0) (lie 0) (seals 0) (folds 0) (n 0) (f 0), letB cI (L 2) (h 2) (v 2) (lie 2) (seals 2) (folds 2) (n 2) (f 2), letB cI (L 3) (h 3) (v 3) (lie 3) (seals 3) (folds 3) (n 3) (f 3)]) (st := [.int r7]) C (m_X2_lie l D cI cL cP cJ (L 4) (h 4) (v 4) (lie 4) (seals 4) (folds 4) (n 4) (f 4)) k_X2_lie t_261 [3, 0, 1, 2, 4, 5, 6] (show ([3, 0, 1, 2, 4, 5, 6] : List Nat).Perm (List.range 7) by decide) rfl rfl rfl (q0 := 0) rfl rfl rfl (Nat.le_of_ble_eq_true rfl) ⟨Nat.le_of_ble_eq_true rfl, Nat.le_of_ble_eq_true rfl⟩ ⟨Nat.zero_le _, Nat.zero_le _⟩ dX4_liesAsOneBefore_20 (fun r9 wr9 hw9 => ?_)
    obtain ⟨e_r9, rfl⟩ := hw9
    refine r_ws (I' := [letB cI (L 4) (h 4) (v 4) (lie 4) (seals 4) (folds 4) (n 4) (f 4), [(pl, .inr (2, [.ref a]))], [(a, .inl (cL, 5, .inr (.inr (.inr (.inr (rfs L))))))], letB cI (L 1) (h 1) (v 1) (lie 1) (seals 1) (folds 1) (n 1) (f 1), letB cI (L 0) (h 0) (v 0) (lie 0) (seals 0) (folds 0) (n 0) (f 0), letB cI (L 2) (h 2) (v 2) (lie 2) (seals 2) (folds 2) (n 2) (f 2), letB cI (L 3) (h 3) (v 3) (lie 3) (seals 3) (folds 3) (n 3) (f 3)]) rfl ?_
    refine r_icmp_ne (tgt := 28) C dX4_liesAsOneBefore_23 (by decide) (fun c10 => ?_) (fun c10 => ?_)
    · refine r_iinc (v := 2) (L' := [(2, .int 2), (0, .ref pl), (1, .int 4)]) C dX4_liesAsOneBefore_28 0 rfl (by decide) (by decide) rfl ?_
      refine r_goto (tgt := 2) C dX4_liesAsOneBefore_31 (by decide) ?_
      refine r_iload_n C dX4_liesAsOneBefore_2 0 rfl ?_
      refine r_iload_n C dX4_liesAsOneBefore_3 2 rfl ?_
      refine r_icmp_ge (tgt := 34) C dX4_liesAsOneBefore_4 (by decide) (fun c => absurd c (by decide)) (fun _ => ?_)
      refine r_aload_n C dX4_liesAsOneBefore_7 1 rfl ?_
      refine r_iload_n C dX4_liesAsOneBefore_8 0 rfl ?_
      refine r_callV (ci := 2) (wc := [[(pl, .inr (2, [.ref a]))], [(a, .inl (cL, 5, .inr (.inr (.inr (.inr (rfs L))))))]]) (wr := [letB cI (L 4) (h 4) (v 4) (lie 4) (seals 4) (folds 4) (n 4) (f 4), letB cI (L 1) (h 1) (v 1) (lie 1) (seals 1) (folds 1) (n 1) (f 1), letB cI (L 0) (h 0) (v 0) (lie 0) (seals 0) (folds 0) (n 0) (f 0), letB cI (L 2) (h 2) (v 2) (lie 2) (seals 2) (folds 2) (n 2) (f 2), letB cI (L 3) (h 3) (v 3) (lie 3) (seals 3) (folds 3) (n 3) (f 3)]) (st := []) C (m_X4_at l D cI cL cP cJ pl a L 2 (P_at_k (k := 2) (by decide))) k_X4_at t_287 [1, 2, 0, 3, 4, 5, 6] (show ([1, 2, 0, 3, 4, 5, 6] : List Nat).Perm (List.range 7) by decide) rfl rfl rfl (q0 := 0) rfl rfl rfl (Nat.le_of_ble_eq_true rfl) ⟨Nat.le_of_ble_eq_true rfl, Nat.le_of_ble_eq_true rfl⟩ ⟨Nat.zero_le _, Nat.zero_le _⟩ dX4_liesAsOneBefore_9 (fun r11 wr11 hw11 => ?_)
      obtain ⟨rfl, rfl⟩ := hw11
      refine r_ws (I' := [[(pl, .inr (2, [.ref a]))], [(a, .inl (cL, 5, .inr (.inr (.inr (.inr (rfs L))))))], letB cI (L 4) (h 4) (v 4) (lie 4) (seals 4) (folds 4) (n 4) (f 4), letB cI (L 1) (h 1) (v 1) (lie 1) (seals 1) (folds 1) (n 1) (f 1), letB cI (L 0) (h 0) (v 0) (lie 0) (seals 0) (folds 0) (n 0) (f 0), letB cI (L 2) (h 2) (v 2) (lie 2) (seals 2) (folds 2) (n 2) (f 2), letB cI (L 3) (h 3) (v 3) (lie 3) (seals 3) (folds 3) (n 3) (f 3)]) rfl ?_
      refine r_callV (ci := 1) (wc := [letB cI (L 2) (h 2) (v 2) (lie 2) (seals 2) (folds 2) (n 2) (f 2)]) (wr := [[(pl, .inr (2, [.ref a]))], [(a, .inl (cL, 5, .inr (.inr (.inr (.inr (rfs L))))))], letB cI (L 4) (h 4) (v 4) (lie 4) (seals 4) (folds 4) (n 4) (f 4), letB cI (L 1) (h 1) (v 1) (lie 1) (seals 1) (folds 1) (n 1) (f 1), letB cI (L 0) (h 0) (v 0) (lie 0) (seals 0) (folds 0) (n 0) (f 0), letB cI (L 3) (h 3) (v 3) (lie 3) (seals 3) (folds 3) (n 3) (f 3)]) (st := []) C (m_X2_lie l D cI cL cP cJ (L 2) (h 2) (v 2) (lie 2) (seals 2) (folds 2) (n 2) (f 2)) k_X2_lie t_261 [5, 0, 1, 2, 3, 4, 6] (show ([5, 0, 1, 2, 3, 4, 6] : List Nat).Perm (List.range 7) by decide) rfl rfl rfl (q0 := 0) rfl rfl rfl (Nat.le_of_ble_eq_true rfl) ⟨Nat.le_of_ble_eq_true rfl, Nat.le_of_ble_eq_true rfl⟩ ⟨Nat.zero_le _, Nat.zero_le _⟩ dX4_liesAsOneBefore_12 (fun r12 wr12 hw12 => ?_)
      obtain ⟨e_r12, rfl⟩ := hw12
      refine r_ws (I' := [letB cI (L 2) (h 2) (v 2) (lie 2) (seals 2) (folds 2) (n 2) (f 2), [(pl, .inr (2, [.ref a]))], [(a, .inl (cL, 5, .inr (.inr (.inr (.inr (rfs L))))))], letB cI (L 4) (h 4) (v 4) (lie 4) (seals 4) (folds 4) (n 4) (f 4), letB cI (L 1) (h 1) (v 1) (lie 1) (seals 1) (folds 1) (n 1) (f 1), letB cI (L 0) (h 0) (v 0) (lie 0) (seals 0) (folds 0) (n 0) (f 0), letB cI (L 3) (h 3) (v 3) (lie 3) (seals 3) (folds 3) (n 3) (f 3)]) rfl ?_
      refine r_aload_n C dX4_liesAsOneBefore_15 1 rfl ?_
      refine r_iload_n C dX4_liesAsOneBefore_16 2 rfl ?_
      refine r_callV (ci := 2) (wc := [[(pl, .inr (2, [.ref a]))], [(a, .inl (cL, 5, .inr (.inr (.inr (.inr (rfs L))))))]]) (wr := [letB cI (L 2) (h 2) (v 2) (lie 2) (seals 2) (folds 2) (n 2) (f 2), letB cI (L 4) (h 4) (v 4) (lie 4) (seals 4) (folds 4) (n 4) (f 4), letB cI (L 1) (h 1) (v 1) (lie 1) (seals 1) (folds 1) (n 1) (f 1), letB cI (L 0) (h 0) (v 0) (lie 0) (seals 0) (folds 0) (n 0) (f 0), letB cI (L 3) (h 3) (v 3) (lie 3) (seals 3) (folds 3) (n 3) (f 3)]) (st := [.int r12]) C (m_X4_at l D cI cL cP cJ pl a L 4 (P_at_k (k := 4) (by decide))) k_X4_at t_287 [1, 2, 0, 3, 4, 5, 6] (show ([1, 2, 0, 3, 4, 5, 6] : List Nat).Perm (List.range 7) by decide) rfl rfl rfl (q0 := 0) rfl rfl rfl (Nat.le_of_ble_eq_true rfl) ⟨Nat.le_of_ble_eq_true rfl, Nat.le_of_ble_eq_true rfl⟩ ⟨Nat.zero_le _, Nat.zero_le _⟩ dX4_liesAsOneBefore_17 (fun r13 wr13 hw13 => ?_)
      obtain ⟨rfl, rfl⟩ := hw13
      refine r_ws (I' := [[(pl, .inr (2, [.ref a]))], [(a, .inl (cL, 5, .inr (.inr (.inr (.inr (rfs L))))))], letB cI (L 2) (h 2) (v 2) (lie 2) (seals 2) (folds 2) (n 2) (f 2), letB cI (L 4) (h 4) (v 4) (lie 4) (seals 4) (folds 4) (n 4) (f 4), letB cI (L 1) (h 1) (v 1) (lie 1) (seals 1) (folds 1) (n 1) (f 1), letB cI (L 0) (h 0) (v 0) (lie 0) (seals 0) (folds 0) (n 0) (f 0), letB cI (L 3) (h 3) (v 3) (lie 3) (seals 3) (folds 3) (n 3) (f 3)]) rfl ?_
      refine r_callV (ci := 1) (wc := [letB cI (L 4) (h 4) (v 4) (lie 4) (seals 4) (folds 4) (n 4) (f 4)]) (wr := [[(pl, .inr (2, [.ref a]))], [(a, .inl (cL, 5, .inr (.inr (.inr (.inr (rfs L))))))], letB cI (L 2) (h 2) (v 2) (lie 2) (seals 2) (folds 2) (n 2) (f 2), letB cI (L 1) (h 1) (v 1) (lie 1) (seals 1) (folds 1) (n 1) (f 1), letB cI (L 0) (h 0) (v 0) (lie 0) (seals 0) (folds 0) (n 0) (f 0), letB cI (L 3) (h 3) (v 3) (lie 3) (seals 3) (folds 3) (n 3) (f 3)]) (st := [.int r12]) C (m_X2_lie l D cI cL cP cJ (L 4) (h 4) (v 4) (lie 4) (seals 4) (folds 4) (n 4) (f 4)) k_X2_lie t_261 [3, 0, 1, 2, 4, 5, 6] (show ([3, 0, 1, 2, 4, 5, 6] : List Nat).Perm (List.range 7) by decide) rfl rfl rfl (q0 := 0) rfl rfl rfl (Nat.le_of_ble_eq_true rfl) ⟨Nat.le_of_ble_eq_true rfl, Nat.le_of_ble_eq_true rfl⟩ ⟨Nat.zero_le _, Nat.zero_le _⟩ dX4_liesAsOneBefore_20 (fun r14 wr14 hw14 => ?_)
      obtain ⟨e_r14, rfl⟩ := hw14
      refine r_ws (I' := [letB cI (L 4) (h 4) (v 4) (lie 4) (seals 4) (folds 4) (n 4) (f 4), [(pl, .inr (2, [.ref a]))], [(a, .inl (cL, 5, .inr (.inr (.inr (.inr (rfs L))))))], letB cI (L 2) (h 2) (v 2) (lie 2) (seals 2) (folds 2) (n 2) (f 2), letB cI (L 1) (h 1) (v 1) (lie 1) (seals 1) (folds 1) (n 1) (f 1), letB cI (L 0) (h 0) (v 0) (lie 0) (seals 0) (folds 0) (n 0) (f 0), letB cI (L 3) (h 3) (v 3) (lie 3) (seals 3) (folds 3) (n 3) (f 3)]) rfl ?_
      refine r_icmp_ne (tgt := 28) C dX4_liesAsOneBefore_23 (by decide) (fun c15 => ?_) (fun c15 => ?_)
      · refine r_iinc (v := 3) (L' := [(2, .int 3), (0, .ref pl), (1, .int 4)]) C dX4_liesAsOneBefore_28 0 rfl (by decide) (by decide) rfl ?_
        refine r_goto (tgt := 2) C dX4_liesAsOneBefore_31 (by decide) ?_
        refine r_iload_n C dX4_liesAsOneBefore_2 0 rfl ?_
        refine r_iload_n C dX4_liesAsOneBefore_3 2 rfl ?_
        refine r_icmp_ge (tgt := 34) C dX4_liesAsOneBefore_4 (by decide) (fun c => absurd c (by decide)) (fun _ => ?_)
        refine r_aload_n C dX4_liesAsOneBefore_7 1 rfl ?_
        refine r_iload_n C dX4_liesAsOneBefore_8 0 rfl ?_
        refine r_callV (ci := 2) (wc := [[(pl, .inr (2, [.ref a]))], [(a, .inl (cL, 5, .inr (.inr (.inr (.inr (rfs L))))))]]) (wr := [letB cI (L 4) (h 4) (v 4) (lie 4) (seals 4) (folds 4) (n 4) (f 4), letB cI (L 2) (h 2) (v 2) (lie 2) (seals 2) (folds 2) (n 2) (f 2), letB cI (L 1) (h 1) (v 1) (lie 1) (seals 1) (folds 1) (n 1) (f 1), letB cI (L 0) (h 0) (v 0) (lie 0) (seals 0) (folds 0) (n 0) (f 0), letB cI (L 3) (h 3) (v 3) (lie 3) (seals 3) (folds 3) (n 3) (f 3)]) (st := []) C (m_X4_at l D cI cL cP cJ pl a L 3 (P_at_k (k := 3) (by decide))) k_X4_at t_287 [1, 2, 0, 3, 4, 5, 6] (show ([1, 2, 0, 3, 4, 5, 6] : List Nat).Perm (List.range 7) by decide) rfl rfl rfl (q0 := 0) rfl rfl rfl (Nat.le_of_ble_eq_true rfl) ⟨Nat.le_of_ble_eq_true rfl, Nat.le_of_ble_eq_true rfl⟩ ⟨Nat.zero_le _, Nat.zero_le _⟩ dX4_liesAsOneBefore_9 (fun r16 wr16 hw16 => ?_)
        obtain ⟨rfl, rfl⟩ := hw16
        refine r_ws (I' := [[(pl, .inr (2, [.ref a]))], [(a, .inl (cL, 5, .inr (.inr (.inr (.inr (rfs L))))))], letB cI (L 4) (h 4) (v 4) (lie 4) (seals 4) (folds 4) (n 4) (f 4), letB cI (L 2) (h 2) (v 2) (lie 2) (seals 2) (folds 2) (n 2) (f 2), letB cI (L 1) (h 1) (v 1) (lie 1) (seals 1) (folds 1) (n 1) (f 1), letB cI (L 0) (h 0) (v 0) (lie 0) (seals 0) (folds 0) (n 0) (f 0), letB cI (L 3) (h 3) (v 3) (lie 3) (seals 3) (folds 3) (n 3) (f 3)]) rfl ?_
        refine r_callV (ci := 1) (wc := [letB cI (L 3) (h 3) (v 3) (lie 3) (seals 3) (folds 3) (n 3) (f 3)]) (wr := [[(pl, .inr (2, [.ref a]))], [(a, .inl (cL, 5, .inr (.inr (.inr (.inr (rfs L))))))], letB cI (L 4) (h 4) (v 4) (lie 4) (seals 4) (folds 4) (n 4) (f 4), letB cI (L 2) (h 2) (v 2) (lie 2) (seals 2) (folds 2) (n 2) (f 2), letB cI (L 1) (h 1) (v 1) (lie 1) (seals 1) (folds 1) (n 1) (f 1), letB cI (L 0) (h 0) (v 0) (lie 0) (seals 0) (folds 0) (n 0) (f 0)]) (st := []) C (m_X2_lie l D cI cL cP cJ (L 3) (h 3) (v 3) (lie 3) (seals 3) (folds 3) (n 3) (f 3)) k_X2_lie t_261 [6, 0, 1, 2, 3, 4, 5] (show ([6, 0, 1, 2, 3, 4, 5] : List Nat).Perm (List.range 7) by decide) rfl rfl rfl (q0 := 0) rfl rfl rfl (Nat.le_of_ble_eq_true rfl) ⟨Nat.le_of_ble_eq_true rfl, Nat.le_of_ble_eq_true rfl⟩ ⟨Nat.zero_le _, Nat.zero_le _⟩ dX4_liesAsOneBefore_12 (fun r17 wr17 hw17 => ?_)
        obtain ⟨e_r17, rfl⟩ := hw17
        refine r_ws (I' := [letB cI (L 3) (h 3) (v 3) (lie 3) (seals 3) (folds 3) (n 3) (f 3), [(pl, .inr (2, [.ref a]))], [(a, .inl (cL, 5, .inr (.inr (.inr (.inr (rfs L))))))], letB cI (L 4) (h 4) (v 4) (lie 4) (seals 4) (folds 4) (n 4) (f 4), letB cI (L 2) (h 2) (v 2) (lie 2) (seals 2) (folds 2) (n 2) (f 2), letB cI (L 1) (h 1) (v 1) (lie 1) (seals 1) (folds 1) (n 1) (f 1), letB cI (L 0) (h 0) (v 0) (lie 0) (seals 0) (folds 0) (n 0) (f 0)]) rfl ?_
        refine r_aload_n C dX4_liesAsOneBefore_15 1 rfl ?_
        refine r_iload_n C dX4_liesAsOneBefore_16 2 rfl ?_
        refine r_callV (ci := 2) (wc := [[(pl, .inr (2, [.ref a]))], [(a, .inl (cL, 5, .inr (.inr (.inr (.inr (rfs L))))))]]) (wr := [letB cI (L 3) (h 3) (v 3) (lie 3) (seals 3) (folds 3) (n 3) (f 3), letB cI (L 4) (h 4) (v 4) (lie 4) (seals 4) (folds 4) (n 4) (f 4), letB cI (L 2) (h 2) (v 2) (lie 2) (seals 2) (folds 2) (n 2) (f 2), letB cI (L 1) (h 1) (v 1) (lie 1) (seals 1) (folds 1) (n 1) (f 1), letB cI (L 0) (h 0) (v 0) (lie 0) (seals 0) (folds 0) (n 0) (f 0)]) (st := [.int r17]) C (m_X4_at l D cI cL cP cJ pl a L 4 (P_at_k (k := 4) (by decide))) k_X4_at t_287 [1, 2, 0, 3, 4, 5, 6] (show ([1, 2, 0, 3, 4, 5, 6] : List Nat).Perm (List.range 7) by decide) rfl rfl rfl (q0 := 0) rfl rfl rfl (Nat.le_of_ble_eq_true rfl) ⟨Nat.le_of_ble_eq_true rfl, Nat.le_of_ble_eq_true rfl⟩ ⟨Nat.zero_le _, Nat.zero_le _⟩ dX4_liesAsOneBefore_17 (fun r18 wr18 hw18 => ?_)
        obtain ⟨rfl, rfl⟩ := hw18
        refine r_ws (I' := [[(pl, .inr (2, [.ref a]))], [(a, .inl (cL, 5, .inr (.inr (.inr (.inr (rfs L))))))], letB cI (L 3) (h 3) (v 3) (lie 3) (seals 3) (folds 3) (n 3) (f 3), letB cI (L 4) (h 4) (v 4) (lie 4) (seals 4) (folds 4) (n 4) (f 4), letB cI (L 2) (h 2) (v 2) (lie 2) (seals 2) (folds 2) (n 2) (f 2), letB cI (L 1) (h 1) (v 1) (lie 1) (seals 1) (folds 1) (n 1) (f 1), letB cI (L 0) (h 0) (v 0) (lie 0) (seals 0) (folds 0) (n 0) (f 0)]) rfl ?_
        refine r_callV (ci := 1) (wc := [letB cI (L 4) (h 4) (v 4) (lie 4) (seals 4) (folds 4) (n 4) (f 4)]) (wr := [[(pl, .inr (2, [.ref a]))], [(a, .inl (cL, 5, .inr (.inr (.inr (.inr (rfs L))))))], letB cI (L 3) (h 3) (v 3) (lie 3) (seals 3) (folds 3) (n 3) (f 3), letB cI (L 2) (h 2) (v 2) (lie 2) (seals 2) (folds 2) (n 2) (f 2), letB cI (L 1) (h 1) (v 1) (lie 1) (seals 1) (folds 1) (n 1) (f 1), letB cI (L 0) (h 0) (v 0) (lie 0) (seals 0) (folds 0) (n 0) (f 0)]) (st := [.int r17]) C (m_X2_lie l D cI cL cP cJ (L 4) (h 4) (v 4) (lie 4) (seals 4) (folds 4) (n 4) (f 4)) k_X2_lie t_261 [3, 0, 1, 2, 4, 5, 6] (show ([3, 0, 1, 2, 4, 5, 6] : List Nat).Perm (List.range 7) by decide) rfl rfl rfl (q0 := 0) rfl rfl rfl (Nat.le_of_ble_eq_true rfl) ⟨Nat.le_of_ble_eq_true rfl, Nat.le_of_ble_eq_true rfl⟩ ⟨Nat.zero_le _, Nat.zero_le _⟩ dX4_liesAsOneBefore_20 (fun r19 wr19 hw19 => ?_)
        obtain ⟨e_r19, rfl⟩ := hw19
        refine r_ws (I' := [letB cI (L 4) (h 4) (v 4) (lie 4) (seals 4) (folds 4) (n 4) (f 4), [(pl, .inr (2, [.ref a]))], [(a, .inl (cL, 5, .inr (.inr (.inr (.inr (rfs L))))))], letB cI (L 3) (h 3) (v 3) (lie 3) (seals 3) (folds 3) (n 3) (f 3), letB cI (L 2) (h 2) (v 2) (lie 2) (seals 2) (folds 2) (n 2) (f 2), letB cI (L 1) (h 1) (v 1) (lie 1) (seals 1) (folds 1) (n 1) (f 1), letB cI (L 0) (h 0) (v 0) (lie 0) (seals 0) (folds 0) (n 0) (f 0)]) rfl ?_
        refine r_icmp_ne (tgt := 28) C dX4_liesAsOneBefore_23 (by decide) (fun c20 => ?_) (fun c20 => ?_)
        · refine r_iinc (v := 4) (L' := [(2, .int 4), (0, .ref pl), (1, .int 4)]) C dX4_liesAsOneBefore_28 0 rfl (by decide) (by decide) rfl ?_
          refine r_goto (tgt := 2) C dX4_liesAsOneBefore_31 (by decide) ?_
          refine r_iload_n C dX4_liesAsOneBefore_2 0 rfl ?_
          refine r_iload_n C dX4_liesAsOneBefore_3 2 rfl ?_
          refine r_icmp_ge (tgt := 34) C dX4_liesAsOneBefore_4 (by decide) (fun _ => ?_) (fun c => absurd c (by decide))
          refine r_iconst (v := 0) C dX4_liesAsOneBefore_34 (by decide) ?_
          refine r_pl (I' := [[(pl, .inr (2, [.ref a]))], [(a, .inl (cL, 5, .inr (.inr (.inr (.inr (rfs L))))))], letB cI (L 0) (h 0) (v 0) (lie 0) (seals 0) (folds 0) (n 0) (f 0), letB cI (L 1) (h 1) (v 1) (lie 1) (seals 1) (folds 1) (n 1) (f 1), letB cI (L 2) (h 2) (v 2) (lie 2) (seals 2) (folds 2) (n 2) (f 2), letB cI (L 3) (h 3) (v 3) (lie 3) (seals 3) (folds 3) (n 3) (f 3), letB cI (L 4) (h 4) (v 4) (lie 4) (seals 4) (folds 4) (n 4) (f 4)]) [1, 2, 6, 5, 4, 3, 0] (show ([1, 2, 6, 5, 4, 3, 0] : List Nat).Perm (List.range 7) by decide) rfl ?_
          refine r_ws (I' := [pileB cI cL pl a L h v lie seals folds n f]) rfl ?_
          have eF : F_X4_liesAsOneBefore_4 lie = 0 := by have q := e_r2.symm; subst q; have q := e_r4.symm; subst q; have q := e_r7.symm; subst q; have q := e_r9.symm; subst q; have q := e_r12.symm; subst q; have q := e_r14.symm; subst q; have q := e_r17.symm; subst q; have q := e_r19.symm; subst q; simp only [F_X4_liesAsOneBefore_4, if_neg c5, if_neg c10, if_neg c15, if_neg c20]
          exact r_zret (r := 0) C hA hr hlo (rfl) dX4_liesAsOneBefore_35 [pileB cI cL pl a L h v lie seals folds n f] ⟨by simp only [eF], rfl⟩ rfl hQ
        · refine r_iconst (v := 1) C dX4_liesAsOneBefore_26 (by decide) ?_
          refine r_pl (I' := [[(pl, .inr (2, [.ref a]))], [(a, .inl (cL, 5, .inr (.inr (.inr (.inr (rfs L))))))], letB cI (L 0) (h 0) (v 0) (lie 0) (seals 0) (folds 0) (n 0) (f 0), letB cI (L 1) (h 1) (v 1) (lie 1) (seals 1) (folds 1) (n 1) (f 1), letB cI (L 2) (h 2) (v 2) (lie 2) (seals 2) (folds 2) (n 2) (f 2), letB cI (L 3) (h 3) (v 3) (lie 3) (seals 3) (folds 3) (n 3) (f 3), letB cI (L 4) (h 4) (v 4) (lie 4) (seals 4) (folds 4) (n 4) (f 4)]) [1, 2, 6, 5, 4, 3, 0] (show ([1, 2, 6, 5, 4, 3, 0] : List Nat).Perm (List.range 7) by decide) rfl ?_
          refine r_ws (I' := [pileB cI cL pl a L h v lie seals folds n f]) rfl ?_
          have eF : F_X4_liesAsOneBefore_4 lie = 1 := by have q := e_r2.symm; subst q; have q := e_r4.symm; subst q; have q := e_r7.symm; subst q; have q := e_r9.symm; subst q; have q := e_r12.symm; subst q; have q := e_r14.symm; subst q; have q := e_r17.symm; subst q; have q := e_r19.symm; subst q; simp only [F_X4_liesAsOneBefore_4, if_neg c5, if_neg c10, if_neg c15, if_pos c20]
          exact r_zret (r := 1) C hA hr hlo (rfl) dX4_liesAsOneBefore_27 [pileB cI cL pl a L h v lie seals folds n f] ⟨by simp only [eF], rfl⟩ rfl hQ
      · refine r_iconst (v := 1) C dX4_liesAsOneBefore_26 (by decide) ?_
        refine r_pl (I' := [[(pl, .inr (2, [.ref a]))], [(a, .inl (cL, 5, .inr (.inr (.inr (.inr (rfs L))))))], letB cI (L 0) (h 0) (v 0) (lie 0) (seals 0) (folds 0) (n 0) (f 0), letB cI (L 1) (h 1) (v 1) (lie 1) (seals 1) (folds 1) (n 1) (f 1), letB cI (L 2) (h 2) (v 2) (lie 2) (seals 2) (folds 2) (n 2) (f 2), letB cI (L 3) (h 3) (v 3) (lie 3) (seals 3) (folds 3) (n 3) (f 3), letB cI (L 4) (h 4) (v 4) (lie 4) (seals 4) (folds 4) (n 4) (f 4)]) [1, 2, 5, 4, 3, 6, 0] (show ([1, 2, 5, 4, 3, 6, 0] : List Nat).Perm (List.range 7) by decide) rfl ?_
        refine r_ws (I' := [pileB cI cL pl a L h v lie seals folds n f]) rfl ?_
        have eF : F_X4_liesAsOneBefore_4 lie = 1 := by have q := e_r2.symm; subst q; have q := e_r4.symm; subst q; have q := e_r7.symm; subst q; have q := e_r9.symm; subst q; have q := e_r12.symm; subst q; have q := e_r14.symm; subst q; simp only [F_X4_liesAsOneBefore_4, if_neg c5, if_neg c10, if_pos c15]
        exact r_zret (r := 1) C hA hr hlo (rfl) dX4_liesAsOneBefore_27 [pileB cI cL pl a L h v lie seals folds n f] ⟨by simp only [eF], rfl⟩ rfl hQ
    · refine r_iconst (v := 1) C dX4_liesAsOneBefore_26 (by decide) ?_
      refine r_pl (I' := [[(pl, .inr (2, [.ref a]))], [(a, .inl (cL, 5, .inr (.inr (.inr (.inr (rfs L))))))], letB cI (L 0) (h 0) (v 0) (lie 0) (seals 0) (folds 0) (n 0) (f 0), letB cI (L 1) (h 1) (v 1) (lie 1) (seals 1) (folds 1) (n 1) (f 1), letB cI (L 2) (h 2) (v 2) (lie 2) (seals 2) (folds 2) (n 2) (f 2), letB cI (L 3) (h 3) (v 3) (lie 3) (seals 3) (folds 3) (n 3) (f 3), letB cI (L 4) (h 4) (v 4) (lie 4) (seals 4) (folds 4) (n 4) (f 4)]) [1, 2, 4, 3, 5, 6, 0] (show ([1, 2, 4, 3, 5, 6, 0] : List Nat).Perm (List.range 7) by decide) rfl ?_
      refine r_ws (I' := [pileB cI cL pl a L h v lie seals folds n f]) rfl ?_
      have eF : F_X4_liesAsOneBefore_4 lie = 1 := by have q := e_r2.symm; subst q; have q := e_r4.symm; subst q; have q := e_r7.symm; subst q; have q := e_r9.symm; subst q; simp only [F_X4_liesAsOneBefore_4, if_neg c5, if_pos c10]
      exact r_zret (r := 1) C hA hr hlo (rfl) dX4_liesAsOneBefore_27 [pileB cI cL pl a L h v lie seals folds n f] ⟨by simp only [eF], rfl⟩ rfl hQ
  · refine r_iconst (v := 1) C dX4_liesAsOneBefore_26 (by decide) ?_
    refine r_pl (I' := [[(pl, .inr (2, [.ref a]))], [(a, .inl (cL, 5, .inr (.inr (.inr (.inr (rfs L))))))], letB cI (L 0) (h 0) (v 0) (lie 0) (seals 0) (folds 0) (n 0) (f 0), letB cI (L 1) (h 1) (v 1) (lie 1) (seals 1) (folds 1) (n 1) (f 1), letB cI (L 2) (h 2) (v 2) (lie 2) (seals 2) (folds 2) (n 2) (f 2), letB cI (L 3) (h 3) (v 3) (lie 3) (seals 3) (folds 3) (n 3) (f 3), letB cI (L 4) (h 4) (v 4) (lie 4) (seals 4) (folds 4) (n 4) (f 4)]) [1, 2, 3, 4, 5, 6, 0] (show ([1, 2, 3, 4, 5, 6, 0] : List Nat).Perm (List.range 7) by decide) rfl ?_
    refine r_ws (I' := [pileB cI cL pl a L h v lie seals folds n f]) rfl ?_
    have eF : F_X4_liesAsOneBefore_4 lie = 1 := by have q := e_r2.symm; subst q; have q := e_r4.symm; subst q; simp only [F_X4_liesAsOneBefore_4, if_pos c5]
    exact r_zret (r := 1) C hA hr hlo (rfl) dX4_liesAsOneBefore_27 [pileB cI cL pl a L h v lie seals folds n f] ⟨by simp only [eF], rfl⟩ rfl hQ
theorem k_X4_unlikeLies : kV yX4_unlikeLies cX4_unlikeLies 3 (some .int) 0 := ⟨t_280, t_281, t_8, t_282, by decide +kernel, by decide +kernel, by decide +kernel⟩
set_option maxRecDepth 20000 in
def F_X4_unlikeLies (lie : Nat → Int32) : Int32 := let r1 : Int32 := F_X4_liesAsOneBefore_0 ; let x3 : Int32 := (if r1 = 0 then (1) else (0)); let x4 : Int32 := (0 : Int32) + x3; let r5 : Int32 := F_X4_liesAsOneBefore_1 lie; let x7 : Int32 := (if r5 = 0 then (1) else (0)); let x8 : Int32 := x4 + x7; let r9 : Int32 := F_X4_liesAsOneBefore_2 lie; let x11 : Int32 := (if r9 = 0 then (1) else (0)); let x12 : Int32 := x8 + x11; let r13 : Int32 := F_X4_liesAsOneBefore_3 lie; let x15 : Int32 := (if r13 = 0 then (1) else (0)); let x16 : Int32 := x12 + x15; let r17 : Int32 := F_X4_liesAsOneBefore_4 lie; let x19 : Int32 := (if r17 = 0 then (1) else (0)); let x20 : Int32 := x16 + x19; x20
set_option maxRecDepth 20000 in
set_option maxHeartbeats 8000000 in
theorem m_X4_unlikeLies (l : Launch) (D : va_G) (cI cL cP cJ : ClassId) (pl : Nat) (a : Nat) (L : Nat → Nat) (h : Nat → Nat) (v : Nat → Nat) (lie : Nat → Int32) (seals : Nat → Int32) (folds : Nat → Int32) (n : Nat → Int32) (f : Nat → Nat → Int32) : M vI l yX4_unlikeLies cX4_unlikeLies 3 (some .int) 2 43 D (tyF cI cL cP cJ) [.ref pl] [pileB cI cL pl a L h v lie seals folds n f] (fun (r : Int32) (w1 : List va_W) => r = (F_X4_unlikeLies lie) ∧ w1 = [pileB cI cL pl a L h v lie seals folds n f]) := by
  refine m_start (by decide +kernel) (Nat.le_of_ble_eq_true rfl) (fun p e s m args below meth c A Q hA hQ C hr hlo => ?_)
  refine r_Le (L' := [(0, .ref pl)]) rfl ?_
  refine r_iconst (v := 0) C dX4_unlikeLies_0 (by decide) ?_
  refine r_istore_n (L' := [(1, .int 0), (0, .ref pl)]) C dX4_unlikeLies_1 (by decide) rfl ?_
  refine r_iconst (v := 0) C dX4_unlikeLies_2 (by decide) ?_
  refine r_istore_n (L' := [(2, .int 0), (1, .int 0), (0, .ref pl)]) C dX4_unlikeLies_3 (by decide) rfl ?_
  refine r_iload_n C dX4_unlikeLies_4 0 rfl ?_
  refine r_aload_n C dX4_unlikeLies_5 2 rfl ?_
  refine r_ws (I' := [[(pl, .inr (2, [.ref a]))], [(a, .inl (cL, 5, .inr (.inr (.inr (.inr (rfs L))))))], letB cI (L 0) (h 0) (v 0) (lie 0) (seals 0) (folds 0) (n 0) (f 0), letB cI (L 1) (h 1) (v 1) (lie 1) (seals 1) (folds 1) (n 1) (f 1), letB cI (L 2) (h 2) (v 2) (lie 2) (seals 2) (folds 2) (n 2) (f 2), letB cI (L 3) (h 3) (v 3) (lie 3) (seals 3) (folds 3) (n 3) (f 3), letB cI (L 4) (h 4) (v 4) (lie 4) (seals 4) (folds 4) (n 4) (f 4)]) rfl ?_
  refine r_get (Cn := RX4) (T := TX4) (N := 1) C inT4 0 rfl rfl 0 (by decide) t_73 rfl dX4_unlikeLies_6 ?_
  refine r_alen (v := 5) C 1 1 rfl rfl rfl dX4_unlikeLies_9 ?_
  refine r_icmp_ge (tgt := 35) C dX4_unlikeLies_10 (by decide) (fun c => absurd c (by decide)) (fun _ => ?_)
  refine r_iload_n C dX4_unlikeLies_13 1 rfl ?_
  refine r_aload_n C dX4_unlikeLies_14 2 rfl ?_
  refine r_iload_n C dX4_unlikeLies_15 0 rfl ?_
  refine r_ws (I' := [pileB cI cL pl a L h v lie seals folds n f]) rfl ?_
  refine r_callV (ci := 2) (wc := [pileB cI cL pl a L h v lie seals folds n f]) (wr := []) (st := [.int 0]) C (m_X4_liesAsOneBefore_0 l D cI cL cP cJ pl a L h v lie seals folds n f) k_X4_liesAsOneBefore t_283 [0] (show ([0] : List Nat).Perm (List.range 1) by decide) rfl rfl rfl (q0 := 0) rfl rfl rfl (Nat.le_of_ble_eq_true rfl) ⟨Nat.le_of_ble_eq_true rfl, Nat.le_of_ble_eq_true rfl⟩ ⟨Nat.zero_le _, Nat.zero_le _⟩ dX4_unlikeLies_16 (fun r1 wr1 hw1 => ?_)
  obtain ⟨e_r1, rfl⟩ := hw1
  refine r_ws (I' := [pileB cI cL pl a L h v lie seals folds n f]) rfl ?_
  suffices K : ∀ x3 : Int32, x3 = ((if r1 = 0 then (1) else (0))) → V p l e (rmm 2 43) s m args below meth c 3 D A 0 0 Q [pileB cI cL pl a L h v lie seals folds n f] [(2, .int 0), (1, .int 0), (0, .ref pl)] 27 [.int x3, .int 0] by
    refine r_if_eq (tgt := 26) C dX4_unlikeLies_19 (by decide) (fun c2 => ?_) (fun c2 => ?_)
    · refine r_iconst (v := 1) C dX4_unlikeLies_26 (by decide) ?_
      exact K _ (by simp only [if_pos c2])
    · refine r_iconst (v := 0) C dX4_unlikeLies_22 (by decide) ?_
      refine r_goto (tgt := 27) C dX4_unlikeLies_23 (by decide) ?_
      exact K _ (by simp only [if_neg c2])
  intro x3 e_x3
  refine r_iadd C dX4_unlikeLies_27 rfl ?_
  refine r_top (fun x4 e_x4 => ?_)
  refine r_istore_n (L' := [(1, .int x4), (2, .int 0), (0, .ref pl)]) C dX4_unlikeLies_28 (by decide) rfl ?_
  refine r_iinc (v := 1) (L' := [(2, .int 1), (1, .int x4), (0, .ref pl)]) C dX4_unlikeLies_29 1 rfl (by decide) (by decide) rfl ?_
  refine r_goto (tgt := 4) C dX4_unlikeLies_32 (by decide) ?_
  refine r_iload_n C dX4_unlikeLies_4 0 rfl ?_
  refine r_aload_n C dX4_unlikeLies_5 2 rfl ?_
  refine r_ws (I' := [[(pl, .inr (2, [.ref a]))], [(a, .inl (cL, 5, .inr (.inr (.inr (.inr (rfs L))))))], letB cI (L 0) (h 0) (v 0) (lie 0) (seals 0) (folds 0) (n 0) (f 0), letB cI (L 1) (h 1) (v 1) (lie 1) (seals 1) (folds 1) (n 1) (f 1), letB cI (L 2) (h 2) (v 2) (lie 2) (seals 2) (folds 2) (n 2) (f 2), letB cI (L 3) (h 3) (v 3) (lie 3) (seals 3) (folds 3) (n 3) (f 3), letB cI (L 4) (h 4) (v 4) (lie 4) (seals 4) (folds 4) (n 4) (f 4)]) rfl ?_
  refine r_get (Cn := RX4) (T := TX4) (N := 1) C inT4 0 rfl rfl 0 (by decide) t_73 rfl dX4_unlikeLies_6 ?_
  refine r_alen (v := 5) C 1 1 rfl rfl rfl dX4_unlikeLies_9 ?_
  refine r_icmp_ge (tgt := 35) C dX4_unlikeLies_10 (by decide) (fun c => absurd c (by decide)) (fun _ => ?_)
  refine r_iload_n C dX4_unlikeLies_13 1 rfl ?_
  refine r_aload_n C dX4_unlikeLies_14 2 rfl ?_
  refine r_iload_n C dX4_unlikeLies_15 0 rfl ?_
  refine r_ws (I' := [pileB cI cL pl a L h v lie seals folds n f]) rfl ?_
  refine r_callV (ci := 2) (wc := [pileB cI cL pl a L h v lie seals folds n f]) (wr := []) (st := [.int x4]) C (m_X4_liesAsOneBefore_1 l D cI cL cP cJ pl a L h v lie seals folds n f) k_X4_liesAsOneBefore t_283 [0] (show ([0] : List Nat).Perm (List.range 1) by decide) rfl rfl rfl (q0 := 0) rfl rfl rfl (Nat.le_of_ble_eq_true rfl) ⟨Nat.le_of_ble_eq_true rfl, Nat.le_of_ble_eq_true rfl⟩ ⟨Nat.zero_le _, Nat.zero_le _⟩ dX4_unlikeLies_16 (fun r5 wr5 hw5 => ?_)
  obtain ⟨e_r5, rfl⟩ := hw5
  refine r_ws (I' := [pileB cI cL pl a L h v lie seals folds n f]) rfl ?_
  suffices K : ∀ x7 : Int32, x7 = ((if r5 = 0 then (1) else (0))) → V p l e (rmm 2 43) s m args below meth c 3 D A 0 0 Q [pileB cI cL pl a L h v lie seals folds n f] [(2, .int 1), (1, .int x4), (0, .ref pl)] 27 [.int x7, .int x4] by
    refine r_if_eq (tgt := 26) C dX4_unlikeLies_19 (by decide) (fun c6 => ?_) (fun c6 => ?_)
    · refine r_iconst (v := 1) C dX4_unlikeLies_26 (by decide) ?_
      exact K _ (by simp only [if_pos c6])
    · refine r_iconst (v := 0) C dX4_unlikeLies_22 (by decide) ?_
      refine r_goto (tgt := 27) C dX4_unlikeLies_23 (by decide) ?_
      exact K _ (by simp only [if_neg c6])
  intro x7 e_x7
  refine r_iadd C dX4_unlikeLies_27 rfl ?_
  refine r_top (fun x8 e_x8 => ?_)
  refine r_istore_n (L' := [(1, .int x8), (2, .int 1), (0, .ref pl)]) C dX4_unlikeLies_28 (by decide) rfl ?_
  refine r_iinc (v := 2) (L' := [(2, .int 2), (1, .int x8), (0, .ref pl)]) C dX4_unlikeLies_29 1 rfl (by decide) (by decide) rfl ?_
  refine r_goto (tgt := 4) C dX4_unlikeLies_32 (by decide) ?_
  refine r_iload_n C dX4_unlikeLies_4 0 rfl ?_
  refine r_aload_n C dX4_unlikeLies_5 2 rfl ?_
  refine r_ws (I' := [[(pl, .inr (2, [.ref a]))], [(a, .inl (cL, 5, .inr (.inr (.inr (.inr (rfs L))))))], letB cI (L 0) (h 0) (v 0) (lie 0) (seals 0) (folds 0) (n 0) (f 0), letB cI (L 1) (h 1) (v 1) (lie 1) (seals 1) (folds 1) (n 1) (f 1), letB cI (L 2) (h 2) (v 2) (lie 2) (seals 2) (folds 2) (n 2) (f 2), letB cI (L 3) (h 3) (v 3) (lie 3) (seals 3) (folds 3) (n 3) (f 3), letB cI (L 4) (h 4) (v 4) (lie 4) (seals 4) (folds 4) (n 4) (f 4)]) rfl ?_
  refine r_get (Cn := RX4) (T := TX4) (N := 1) C inT4 0 rfl rfl 0 (by decide) t_73 rfl dX4_unlikeLies_6 ?_
  refine r_alen (v := 5) C 1 1 rfl rfl rfl dX4_unlikeLies_9 ?_
  refine r_icmp_ge (tgt := 35) C dX4_unlikeLies_10 (by decide) (fun c => absurd c (by decide)) (fun _ => ?_)
  refine r_iload_n C dX4_unlikeLies_13 1 rfl ?_
  refine r_aload_n C dX4_unlikeLies_14 2 rfl ?_
  refine r_iload_n C dX4_unlikeLies_15 0 rfl ?_
  refine r_ws (I' := [pileB cI cL pl a L h v lie seals folds n f]) rfl ?_
  refine r_callV (ci := 2) (wc := [pileB cI cL pl a L h v lie seals folds n f]) (wr := []) (st := [.int x8]) C (m_X4_liesAsOneBefore_2 l D cI cL cP cJ pl a L h v lie seals folds n f) k_X4_liesAsOneBefore t_283 [0] (show ([0] : List Nat).Perm (List.range 1) by decide) rfl rfl rfl (q0 := 0) rfl rfl rfl (Nat.le_of_ble_eq_true rfl) ⟨Nat.le_of_ble_eq_true rfl, Nat.le_of_ble_eq_true rfl⟩ ⟨Nat.zero_le _, Nat.zero_le _⟩ dX4_unlikeLies_16 (fun r9 wr9 hw9 => ?_)
  obtain ⟨e_r9, rfl⟩ := hw9
  refine r_ws (I' := [pileB cI cL pl a L h v lie seals folds n f]) rfl ?_
  suffices K : ∀ x11 : Int32, x11 = ((if r9 = 0 then (1) else (0))) → V p l e (rmm 2 43) s m args below meth c 3 D A 0 0 Q [pileB cI cL pl a L h v lie seals folds n f] [(2, .int 2), (1, .int x8), (0, .ref pl)] 27 [.int x11, .int x8] by
    refine r_if_eq (tgt := 26) C dX4_unlikeLies_19 (by decide) (fun c10 => ?_) (fun c10 => ?_)
    · refine r_iconst (v := 1) C dX4_unlikeLies_26 (by decide) ?_
      exact K _ (by simp only [if_pos c10])
    · refine r_iconst (v := 0) C dX4_unlikeLies_22 (by decide) ?_
      refine r_goto (tgt := 27) C dX4_unlikeLies_23 (by decide) ?_
      exact K _ (by simp only [if_neg c10])
  intro x11 e_x11
  refine r_iadd C dX4_unlikeLies_27 rfl ?_
  refine r_top (fun x12 e_x12 => ?_)
  refine r_istore_n (L' := [(1, .int x12), (2, .int 2), (0, .ref pl)]) C dX4_unlikeLies_28 (by decide) rfl ?_
  refine r_iinc (v := 3) (L' := [(2, .int 3), (1, .int x12), (0, .ref pl)]) C dX4_unlikeLies_29 1 rfl (by decide) (by decide) rfl ?_
  refine r_goto (tgt := 4) C dX4_unlikeLies_32 (by decide) ?_
  refine r_iload_n C dX4_unlikeLies_4 0 rfl ?_
  refine r_aload_n C dX4_unlikeLies_5 2 rfl ?_
  refine r_ws (I' := [[(pl, .inr (2, [.ref a]))], [(a, .inl (cL, 5, .inr (.inr (.inr (.inr (rfs L))))))], letB cI (L 0) (h 0) (v 0) (lie 0) (seals 0) (folds 0) (n 0) (f 0), letB cI (L 1) (h 1) (v 1) (lie 1) (seals 1) (folds 1) (n 1) (f 1), letB cI (L 2) (h 2) (v 2) (lie 2) (seals 2) (folds 2) (n 2) (f 2), letB cI (L 3) (h 3) (v 3) (lie 3) (seals 3) (folds 3) (n 3) (f 3), letB cI (L 4) (h 4) (v 4) (lie 4) (seals 4) (folds 4) (n 4) (f 4)]) rfl ?_
  refine r_get (Cn := RX4) (T := TX4) (N := 1) C inT4 0 rfl rfl 0 (by decide) t_73 rfl dX4_unlikeLies_6 ?_
  refine r_alen (v := 5) C 1 1 rfl rfl rfl dX4_unlikeLies_9 ?_
  refine r_icmp_ge (tgt := 35) C dX4_unlikeLies_10 (by decide) (fun c => absurd c (by decide)) (fun _ => ?_)
  refine r_iload_n C dX4_unlikeLies_13 1 rfl ?_
  refine r_aload_n C dX4_unlikeLies_14 2 rfl ?_
  refine r_iload_n C dX4_unlikeLies_15 0 rfl ?_
  refine r_ws (I' := [pileB cI cL pl a L h v lie seals folds n f]) rfl ?_
  refine r_callV (ci := 2) (wc := [pileB cI cL pl a L h v lie seals folds n f]) (wr := []) (st := [.int x12]) C (m_X4_liesAsOneBefore_3 l D cI cL cP cJ pl a L h v lie seals folds n f) k_X4_liesAsOneBefore t_283 [0] (show ([0] : List Nat).Perm (List.range 1) by decide) rfl rfl rfl (q0 := 0) rfl rfl rfl (Nat.le_of_ble_eq_true rfl) ⟨Nat.le_of_ble_eq_true rfl, Nat.le_of_ble_eq_true rfl⟩ ⟨Nat.zero_le _, Nat.zero_le _⟩ dX4_unlikeLies_16 (fun r13 wr13 hw13 => ?_)
  obtain ⟨e_r13, rfl⟩ := hw13
  refine r_ws (I' := [pileB cI cL pl a L h v lie seals folds n f]) rfl ?_
  suffices K : ∀ x15 : Int32, x15 = ((if r13 = 0 then (1) else (0))) → V p l e (rmm 2 43) s m args below meth c 3 D A 0 0 Q [pileB cI cL pl a L h v lie seals folds n f] [(2, .int 3), (1, .int x12), (0, .ref pl)] 27 [.int x15, .int x12] by
    refine r_if_eq (tgt := 26) C dX4_unlikeLies_19 (by decide) (fun c14 => ?_) (fun c14 => ?_)
    · refine r_iconst (v := 1) C dX4_unlikeLies_26 (by decide) ?_
      exact K _ (by simp only [if_pos c14])
    · refine r_iconst (v := 0) C dX4_unlikeLies_22 (by decide) ?_
      refine r_goto (tgt := 27) C dX4_unlikeLies_23 (by decide) ?_
      exact K _ (by simp only [if_neg c14])
  intro x15 e_x15
  refine r_iadd C dX4_unlikeLies_27 rfl ?_
  refine r_top (fun x16 e_x16 => ?_)
  refine r_istore_n (L' := [(1, .int x16), (2, .int 3), (0, .ref pl)]) C dX4_unlikeLies_28 (by decide) rfl ?_
  refine r_iinc (v := 4) (L' := [(2, .int 4), (1, .int x16), (0, .ref pl)]) C dX4_unlikeLies_29 1 rfl (by decide) (by decide) rfl ?_
  refine r_goto (tgt := 4) C dX4_unlikeLies_32 (by decide) ?_
  refine r_iload_n C dX4_unlikeLies_4 0 rfl ?_
  refine r_aload_n C dX4_unlikeLies_5 2 rfl ?_
  refine r_ws (I' := [[(pl, .inr (2, [.ref a]))], [(a, .inl (cL, 5, .inr (.inr (.inr (.inr (rfs L))))))], letB cI (L 0) (h 0) (v 0) (lie 0) (seals 0) (folds 0) (n 0) (f 0), letB cI (L 1) (h 1) (v 1) (lie 1) (seals 1) (folds 1) (n 1) (f 1), letB cI (L 2) (h 2) (v 2) (lie 2) (seals 2) (folds 2) (n 2) (f 2), letB cI (L 3) (h 3) (v 3) (lie 3) (seals 3) (folds 3) (n 3) (f 3), letB cI (L 4) (h 4) (v 4) (lie 4) (seals 4) (folds 4) (n 4) (f 4)]) rfl ?_
  refine r_get (Cn := RX4) (T := TX4) (N := 1) C inT4 0 rfl rfl 0 (by decide) t_73 rfl dX4_unlikeLies_6 ?_
  refine r_alen (v := 5) C 1 1 rfl rfl rfl dX4_unlikeLies_9 ?_
  refine r_icmp_ge (tgt := 35) C dX4_unlikeLies_10 (by decide) (fun c => absurd c (by decide)) (fun _ => ?_)
  refine r_iload_n C dX4_unlikeLies_13 1 rfl ?_
  refine r_aload_n C dX4_unlikeLies_14 2 rfl ?_
  refine r_iload_n C dX4_unlikeLies_15 0 rfl ?_
  refine r_ws (I' := [pileB cI cL pl a L h v lie seals folds n f]) rfl ?_
  refine r_callV (ci := 2) (wc := [pileB cI cL pl a L h v lie seals folds n f]) (wr := []) (st := [.int x16]) C (m_X4_liesAsOneBefore_4 l D cI cL cP cJ pl a L h v lie seals folds n f) k_X4_liesAsOneBefore t_283 [0] (show ([0] : List Nat).Perm (List.range 1) by decide) rfl rfl rfl (q0 := 0) rfl rfl rfl (Nat.le_of_ble_eq_true rfl) ⟨Nat.le_of_ble_eq_true rfl, Nat.le_of_ble_eq_true rfl⟩ ⟨Nat.zero_le _, Nat.zero_le _⟩ dX4_unlikeLies_16 (fun r17 wr17 hw17 => ?_)
  obtain ⟨e_r17, rfl⟩ := hw17
  refine r_ws (I' := [pileB cI cL pl a L h v lie seals folds n f]) rfl ?_
  suffices K : ∀ x19 : Int32, x19 = ((if r17 = 0 then (1) else (0))) → V p l e (rmm 2 43) s m args below meth c 3 D A 0 0 Q [pileB cI cL pl a L h v lie seals folds n f] [(2, .int 4), (1, .int x16), (0, .ref pl)] 27 [.int x19, .int x16] by
    refine r_if_eq (tgt := 26) C dX4_unlikeLies_19 (by decide) (fun c18 => ?_) (fun c18 => ?_)
    · refine r_iconst (v := 1) C dX4_unlikeLies_26 (by decide) ?_
      exact K _ (by simp only [if_pos c18])
    · refine r_iconst (v := 0) C dX4_unlikeLies_22 (by decide) ?_
      refine r_goto (tgt := 27) C dX4_unlikeLies_23 (by decide) ?_
      exact K _ (by simp only [if_neg c18])
  intro x19 e_x19
  refine r_iadd C dX4_unlikeLies_27 rfl ?_
  refine r_top (fun x20 e_x20 => ?_)
  refine r_istore_n (L' := [(1, .int x20), (2, .int 4), (0, .ref pl)]) C dX4_unlikeLies_28 (by decide) rfl ?_
  refine r_iinc (v := 5) (L' := [(2, .int 5), (1, .int x20), (0, .ref pl)]) C dX4_unlikeLies_29 1 rfl (by decide) (by decide) rfl ?_
  refine r_goto (tgt := 4) C dX4_unlikeLies_32 (by decide) ?_
  refine r_iload_n C dX4_unlikeLies_4 0 rfl ?_
  refine r_aload_n C dX4_unlikeLies_5 2 rfl ?_
  refine r_ws (I' := [[(pl, .inr (2, [.ref a]))], [(a, .inl (cL, 5, .inr (.inr (.inr (.inr (rfs L))))))], letB cI (L 0) (h 0) (v 0) (lie 0) (seals 0) (folds 0) (n 0) (f 0), letB cI (L 1) (h 1) (v 1) (lie 1) (seals 1) (folds 1) (n 1) (f 1), letB cI (L 2) (h 2) (v 2) (lie 2) (seals 2) (folds 2) (n 2) (f 2), letB cI (L 3) (h 3) (v 3) (lie 3) (seals 3) (folds 3) (n 3) (f 3), letB cI (L 4) (h 4) (v 4) (lie 4) (seals 4) (folds 4) (n 4) (f 4)]) rfl ?_
  refine r_get (Cn := RX4) (T := TX4) (N := 1) C inT4 0 rfl rfl 0 (by decide) t_73 rfl dX4_unlikeLies_6 ?_
  refine r_alen (v := 5) C 1 1 rfl rfl rfl dX4_unlikeLies_9 ?_
  refine r_icmp_ge (tgt := 35) C dX4_unlikeLies_10 (by decide) (fun _ => ?_) (fun c => absurd c (by decide))
  refine r_iload_n C dX4_unlikeLies_35 1 rfl ?_
  refine r_ws (I' := [pileB cI cL pl a L h v lie seals folds n f]) rfl ?_
  have eF : F_X4_unlikeLies lie = x20 := by have q := e_r1.symm; subst q; have q := e_x3.symm; subst q; have q := e_x4.symm; subst q; have q := e_r5.symm; subst q; have q := e_x7.symm; subst q; have q := e_x8.symm; subst q; have q := e_r9.symm; subst q; have q := e_x11.symm; subst q; have q := e_x12.symm; subst q; have q := e_r13.symm; subst q; have q := e_x15.symm; subst q; have q := e_x16.symm; subst q; have q := e_r17.symm; subst q; have q := e_x19.symm; subst q; have q := e_x20.symm; subst q; rfl
  exact r_iret (r := x20) C hA hr hlo dX4_unlikeLies_36 [pileB cI cL pl a L h v lie seals folds n f] ⟨by simp only [eF], rfl⟩ rfl hQ
abbrev histB (cI : ClassId) (cL : ClassId) (cP : ClassId) (hi : Nat) (sa : Nat) (PS : Nat → Nat) (AS : Nat → Nat) (LS : Nat → Nat → Nat) (hS_ : Nat → Nat → Nat) (vS : Nat → Nat → Nat) (lieS : Nat → Nat → Int32) (sealsS : Nat → Nat → Int32) (foldsS : Nat → Nat → Int32) (nS : Nat → Nat → Int32) (fS_ : Nat → Nat → Nat → Int32) (size : Int32) : va_W := [(hi, .inr (0, [.ref sa, .int size])), (sa, .inl (cP, 6, .inr (.inr (.inr (.inr (rfs PS))))))] ++ (pileB cI cL (PS 0) (AS 0) (LS 0) (hS_ 0) (vS 0) (lieS 0) (sealsS 0) (foldsS 0) (nS 0) (fS_ 0) ++ (pileB cI cL (PS 1) (AS 1) (LS 1) (hS_ 1) (vS 1) (lieS 1) (sealsS 1) (foldsS 1) (nS 1) (fS_ 1) ++ (pileB cI cL (PS 2) (AS 2) (LS 2) (hS_ 2) (vS 2) (lieS 2) (sealsS 2) (foldsS 2) (nS 2) (fS_ 2) ++ (pileB cI cL (PS 3) (AS 3) (LS 3) (hS_ 3) (vS 3) (lieS 3) (sealsS 3) (foldsS 3) (nS 3) (fS_ 3) ++ (pileB cI cL (PS 4) (AS 4) (LS 4) (hS_ 4) (vS 4) (lieS 4) (sealsS 4) (foldsS 4) (nS 4) (fS_ 4) ++ (pileB cI cL (PS 5) (AS 5) (LS 5) (hS_ 5) (vS 5) (lieS 5) (sealsS 5) (foldsS 5) (nS 5) (fS_ 5)))))))
theorem k_X1_size : kV yX1_size cX1_size 1 (some .int) 0 := ⟨t_360, t_361, t_11, t_362, by decide +kernel, by decide +kernel, by decide +kernel⟩
set_option maxRecDepth 20000 in
def F_X1_size (size : Int32) : Int32 := size
set_option maxRecDepth 20000 in
set_option maxHeartbeats 8000000 in
theorem m_X1_size (l : Launch) (D : va_G) (cI cL cP cJ : ClassId) (hi : Nat) (sa : Nat) (PS : Nat → Nat) (AS : Nat → Nat) (LS : Nat → Nat → Nat) (hS_ : Nat → Nat → Nat) (vS : Nat → Nat → Nat) (lieS : Nat → Nat → Int32) (sealsS : Nat → Nat → Int32) (foldsS : Nat → Nat → Int32) (nS : Nat → Nat → Int32) (fS_ : Nat → Nat → Nat → Int32) (size : Int32) : M vI l yX1_size cX1_size 1 (some .int) 0 0 D (tyF cI cL cP cJ) [.ref hi] [histB cI cL cP hi sa PS AS LS hS_ vS lieS sealsS foldsS nS fS_ size] (fun (r : Int32) (w1 : List va_W) => r = (F_X1_size size) ∧ w1 = [histB cI cL cP hi sa PS AS LS hS_ vS lieS sealsS foldsS nS fS_ size]) := by
  refine m_start (by decide +kernel) (Nat.le_of_ble_eq_true rfl) (fun p e s m args below meth c A Q hA hQ C hr hlo => ?_)
  refine r_Le (L' := [(0, .ref hi)]) rfl ?_
  refine r_aload_n C dX1_size_0 0 rfl ?_
  refine r_ws (I' := [[(hi, .inr (0, [.ref sa, .int size]))], [(sa, .inl (cP, 6, .inr (.inr (.inr (.inr (rfs PS))))))], pileB cI cL (PS 0) (AS 0) (LS 0) (hS_ 0) (vS 0) (lieS 0) (sealsS 0) (foldsS 0) (nS 0) (fS_ 0), pileB cI cL (PS 1) (AS 1) (LS 1) (hS_ 1) (vS 1) (lieS 1) (sealsS 1) (foldsS 1) (nS 1) (fS_ 1), pileB cI cL (PS 2) (AS 2) (LS 2) (hS_ 2) (vS 2) (lieS 2) (sealsS 2) (foldsS 2) (nS 2) (fS_ 2), pileB cI cL (PS 3) (AS 3) (LS 3) (hS_ 3) (vS 3) (lieS 3) (sealsS 3) (foldsS 3) (nS 3) (fS_ 3), pileB cI cL (PS 4) (AS 4) (LS 4) (hS_ 4) (vS 4) (lieS 4) (sealsS 4) (foldsS 4) (nS 4) (fS_ 4), pileB cI cL (PS 5) (AS 5) (LS 5) (hS_ 5) (vS 5) (lieS 5) (sealsS 5) (foldsS 5) (nS 5) (fS_ 5)]) rfl ?_
  refine r_get (Cn := RX1) (T := TX1) (N := 2) C inT1 0 rfl rfl 1 (by decide) t_87 rfl dX1_size_1 ?_
  refine r_ws (I' := [histB cI cL cP hi sa PS AS LS hS_ vS lieS sealsS foldsS nS fS_ size]) rfl ?_
  have eF : F_X1_size size = size := by rfl
  exact r_iret (r := size) C hA hr hlo dX1_size_4 [histB cI cL cP hi sa PS AS LS hS_ vS lieS sealsS foldsS nS fS_ size] ⟨by simp only [eF], rfl⟩ rfl hQ
theorem k_X1_dropOldest : kV yX1_dropOldest cX1_dropOldest 3 none 0 := ⟨t_539, t_5, t_11, t_540, by decide +kernel, by decide +kernel, by decide +kernel⟩
set_option maxRecDepth 20000 in
def F_X1_dropOldest (PS : Nat → Nat) (size : Int32) : Int32 × (Nat → Nat) := let g1 : Nat → Nat := va_up PS 0 (PS 1); let g2 : Nat → Nat := va_up g1 1 (PS 0); let g3 : Nat → Nat := va_up g2 1 (PS 2); let g4 : Nat → Nat := va_up g3 2 (PS 0); let g5 : Nat → Nat := va_up g4 2 (PS 3); let g6 : Nat → Nat := va_up g5 3 (PS 0); let g7 : Nat → Nat := va_up g6 3 (PS 4); let g8 : Nat → Nat := va_up g7 4 (PS 0); let g9 : Nat → Nat := va_up g8 4 (PS 5); let g10 : Nat → Nat := va_up g9 5 (PS 0); let x11 : Int32 := size - 1; (x11, g10)
set_option maxRecDepth 20000 in
set_option maxHeartbeats 8000000 in
theorem m_X1_dropOldest (l : Launch) (D : va_G) (cI cL cP cJ : ClassId) (hi : Nat) (sa : Nat) (PS : Nat → Nat) (AS : Nat → Nat) (size : Int32) : M vV l yX1_dropOldest cX1_dropOldest 3 none 0 0 D (tyF cI cL cP cJ) [.ref hi] [[(hi, .inr (0, [.ref sa, .int size]))], [(sa, .inl (cP, 6, .inr (.inr (.inr (.inr (rfs PS))))))], [((PS 0), .inr (2, [.ref (AS 0)]))], [((PS 1), .inr (2, [.ref (AS 1)]))], [((PS 2), .inr (2, [.ref (AS 2)]))], [((PS 3), .inr (2, [.ref (AS 3)]))], [((PS 4), .inr (2, [.ref (AS 4)]))], [((PS 5), .inr (2, [.ref (AS 5)]))]] (fun (r : Unit) (w1 : List va_W) => w1 = [[(hi, .inr (0, [.ref sa, .int ((F_X1_dropOldest PS size).1)]))], [(sa, .inl (cP, 6, .inr (.inr (.inr (.inr (rfs ((F_X1_dropOldest PS size).2)))))))], [((PS 0), .inr (2, [.ref (AS 0)]))], [((PS 1), .inr (2, [.ref (AS 1)]))], [((PS 2), .inr (2, [.ref (AS 2)]))], [((PS 3), .inr (2, [.ref (AS 3)]))], [((PS 4), .inr (2, [.ref (AS 4)]))], [((PS 5), .inr (2, [.ref (AS 5)]))]]) := by
  refine m_start (by decide +kernel) (Nat.le_of_ble_eq_true rfl) (fun p e s m args below meth c A Q hA hQ C hr hlo => ?_)
  refine r_Le (L' := [(0, .ref hi)]) rfl ?_
  refine r_iconst (v := 1) C dX1_dropOldest_0 (by decide) ?_
  refine r_istore_n (L' := [(1, .int 1), (0, .ref hi)]) C dX1_dropOldest_1 (by decide) rfl ?_
  refine r_iload_n C dX1_dropOldest_2 0 rfl ?_
  refine r_aload_n C dX1_dropOldest_3 1 rfl ?_
  refine r_get (Cn := RX1) (T := TX1) (N := 2) C inT1 0 rfl rfl 0 (by decide) t_86 rfl dX1_dropOldest_4 ?_
  refine r_alen (v := 6) C 1 2 rfl rfl rfl dX1_dropOldest_7 ?_
  refine r_icmp_ge (tgt := 47) C dX1_dropOldest_8 (by decide) (fun c => absurd c (by decide)) (fun _ => ?_)
  refine r_aload_n C dX1_dropOldest_11 1 rfl ?_
  refine r_get (Cn := RX1) (T := TX1) (N := 2) C inT1 0 rfl rfl 0 (by decide) t_86 rfl dX1_dropOldest_12 ?_
  refine r_iload_n C dX1_dropOldest_15 0 rfl ?_
  refine r_iconst (v := 1) C dX1_dropOldest_16 (by decide) ?_
  refine r_isub (z := 0) C dX1_dropOldest_17 (by decide) ?_
  refine r_aald (x := (PS 0)) C 1 2 rfl rfl (vp_in_nI (n := 0) (N := 6) (by decide) (by decide)) dX1_dropOldest_18 rfl ?_
  refine r_astore_n (L' := [(2, .ref (PS 0)), (1, .int 1), (0, .ref hi)]) C dX1_dropOldest_19 (by decide) rfl ?_
  refine r_aload_n C dX1_dropOldest_20 2 rfl ?_
  refine r_get (Cn := RX1) (T := TX1) (N := 2) C inT1 0 rfl rfl 0 (by decide) t_86 rfl dX1_dropOldest_21 ?_
  refine r_iload_n C dX1_dropOldest_24 1 rfl ?_
  refine r_iconst (v := 1) C dX1_dropOldest_25 (by decide) ?_
  refine r_isub (z := 0) C dX1_dropOldest_26 (by decide) ?_
  refine r_aload_n C dX1_dropOldest_27 2 rfl ?_
  refine r_get (Cn := RX1) (T := TX1) (N := 2) C inT1 0 rfl rfl 0 (by decide) t_86 rfl dX1_dropOldest_28 ?_
  refine r_iload_n C dX1_dropOldest_31 1 rfl ?_
  refine r_aald (x := (PS 1)) C 1 2 rfl rfl (vp_in_nI (n := 1) (N := 6) (by decide) (by decide)) dX1_dropOldest_32 rfl ?_
  obtain ⟨g1, e_g1⟩ : ∃ z : Nat → Nat, z = va_up PS 0 (PS 1) := ⟨_, rfl⟩
  refine r_aast (I' := [[(hi, .inr (0, [.ref sa, .int size]))], [(sa, .inl (cP, 6, .inr (.inr (.inr (.inr (rfs g1))))))], [((PS 0), .inr (2, [.ref (AS 0)]))], [((PS 1), .inr (2, [.ref (AS 1)]))], [((PS 2), .inr (2, [.ref (AS 2)]))], [((PS 3), .inr (2, [.ref (AS 3)]))], [((PS 4), .inr (2, [.ref (AS 4)]))], [((PS 5), .inr (2, [.ref (AS 5)]))]]) C 1 2 3 2 rfl rfl rfl rfl (vp_in_nI (n := 0) (N := 6) (by decide) (by decide)) (by rw [e_g1, ← rfs_fn]; rfl) dX1_dropOldest_33 ?_
  refine r_aload_n C dX1_dropOldest_34 2 rfl ?_
  refine r_get (Cn := RX1) (T := TX1) (N := 2) C inT1 0 rfl rfl 0 (by decide) t_86 rfl dX1_dropOldest_35 ?_
  refine r_iload_n C dX1_dropOldest_38 1 rfl ?_
  refine r_aload_n C dX1_dropOldest_39 0 rfl ?_
  obtain ⟨g2, e_g2⟩ : ∃ z : Nat → Nat, z = va_up g1 1 (PS 0) := ⟨_, rfl⟩
  refine r_aast (I' := [[(hi, .inr (0, [.ref sa, .int size]))], [(sa, .inl (cP, 6, .inr (.inr (.inr (.inr (rfs g2))))))], [((PS 0), .inr (2, [.ref (AS 0)]))], [((PS 1), .inr (2, [.ref (AS 1)]))], [((PS 2), .inr (2, [.ref (AS 2)]))], [((PS 3), .inr (2, [.ref (AS 3)]))], [((PS 4), .inr (2, [.ref (AS 4)]))], [((PS 5), .inr (2, [.ref (AS 5)]))]]) C 1 2 2 2 rfl rfl rfl rfl (vp_in_nI (n := 1) (N := 6) (by decide) (by decide)) (by rw [e_g2, ← rfs_fn]; rfl) dX1_dropOldest_40 ?_
  refine r_iinc (v := 2) (L' := [(1, .int 2), (2, .ref (PS 0)), (0, .ref hi)]) C dX1_dropOldest_41 1 rfl (by decide) (by decide) rfl ?_
  refine r_goto (tgt := 2) C dX1_dropOldest_44 (by decide) ?_
  refine r_iload_n C dX1_dropOldest_2 0 rfl ?_
  refine r_aload_n C dX1_dropOldest_3 2 rfl ?_
  refine r_get (Cn := RX1) (T := TX1) (N := 2) C inT1 0 rfl rfl 0 (by decide) t_86 rfl dX1_dropOldest_4 ?_
  refine r_alen (v := 6) C 1 2 rfl rfl rfl dX1_dropOldest_7 ?_
  refine r_icmp_ge (tgt := 47) C dX1_dropOldest_8 (by decide) (fun c => absurd c (by decide)) (fun _ => ?_)
  refine r_aload_n C dX1_dropOldest_11 2 rfl ?_
  refine r_get (Cn := RX1) (T := TX1) (N := 2) C inT1 0 rfl rfl 0 (by decide) t_86 rfl dX1_dropOldest_12 ?_
  refine r_iload_n C dX1_dropOldest_15 0 rfl ?_
  refine r_iconst (v := 1) C dX1_dropOldest_16 (by decide) ?_
  refine r_isub (z := 1) C dX1_dropOldest_17 (by decide) ?_
  refine r_aald (x := (PS 0)) C 1 2 rfl rfl (vp_in_nI (n := 1) (N := 6) (by decide) (by decide)) dX1_dropOldest_18 (by have q := e_g1.symm; subst q; have q := e_g2.symm; subst q; rfl) ?_
  refine r_astore_n (L' := [(2, .ref (PS 0)), (1, .int 2), (0, .ref hi)]) C dX1_dropOldest_19 (by decide) rfl ?_
  refine r_aload_n C dX1_dropOldest_20 2 rfl ?_
  refine r_get (Cn := RX1) (T := TX1) (N := 2) C inT1 0 rfl rfl 0 (by decide) t_86 rfl dX1_dropOldest_21 ?_
  refine r_iload_n C dX1_dropOldest_24 1 rfl ?_
  refine r_iconst (v := 1) C dX1_dropOldest_25 (by decide) ?_
  refine r_isub (z := 1) C dX1_dropOldest_26 (by decide) ?_
  refine r_aload_n C dX1_dropOldest_27 2 rfl ?_
  refine r_get (Cn := RX1) (T := TX1) (N := 2) C inT1 0 rfl rfl 0 (by decide) t_86 rfl dX1_dropOldest_28 ?_
  refine r_iload_n C dX1_dropOldest_31 1 rfl ?_
  refine r_aald (x := (PS 2)) C 1 2 rfl rfl (vp_in_nI (n := 2) (N := 6) (by decide) (by decide)) dX1_dropOldest_32 (by have q := e_g1.symm; subst q; have q := e_g2.symm; subst q; rfl) ?_
  obtain ⟨g3, e_g3⟩ : ∃ z : Nat → Nat, z = va_up g2 1 (PS 2) := ⟨_, rfl⟩
  refine r_aast (I' := [[(hi, .inr (0, [.ref sa, .int size]))], [(sa, .inl (cP, 6, .inr (.inr (.inr (.inr (rfs g3))))))], [((PS 0), .inr (2, [.ref (AS 0)]))], [((PS 1), .inr (2, [.ref (AS 1)]))], [((PS 2), .inr (2, [.ref (AS 2)]))], [((PS 3), .inr (2, [.ref (AS 3)]))], [((PS 4), .inr (2, [.ref (AS 4)]))], [((PS 5), .inr (2, [.ref (AS 5)]))]]) C 1 2 4 2 rfl rfl rfl rfl (vp_in_nI (n := 1) (N := 6) (by decide) (by decide)) (by rw [e_g3, ← rfs_fn]; rfl) dX1_dropOldest_33 ?_
  refine r_aload_n C dX1_dropOldest_34 2 rfl ?_
  refine r_get (Cn := RX1) (T := TX1) (N := 2) C inT1 0 rfl rfl 0 (by decide) t_86 rfl dX1_dropOldest_35 ?_
  refine r_iload_n C dX1_dropOldest_38 1 rfl ?_
  refine r_aload_n C dX1_dropOldest_39 0 rfl ?_
  obtain ⟨g4, e_g4⟩ : ∃ z : Nat → Nat, z = va_up g3 2 (PS 0) := ⟨_, rfl⟩
  refine r_aast (I' := [[(hi, .inr (0, [.ref sa, .int size]))], [(sa, .inl (cP, 6, .inr (.inr (.inr (.inr (rfs g4))))))], [((PS 0), .inr (2, [.ref (AS 0)]))], [((PS 1), .inr (2, [.ref (AS 1)]))], [((PS 2), .inr (2, [.ref (AS 2)]))], [((PS 3), .inr (2, [.ref (AS 3)]))], [((PS 4), .inr (2, [.ref (AS 4)]))], [((PS 5), .inr (2, [.ref (AS 5)]))]]) C 1 2 2 2 rfl rfl rfl rfl (vp_in_nI (n := 2) (N := 6) (by decide) (by decide)) (by rw [e_g4, ← rfs_fn]; rfl) dX1_dropOldest_40 ?_
  refine r_iinc (v := 3) (L' := [(1, .int 3), (2, .ref (PS 0)), (0, .ref hi)]) C dX1_dropOldest_41 1 rfl (by decide) (by decide) rfl ?_
  refine r_goto (tgt := 2) C dX1_dropOldest_44 (by decide) ?_
  refine r_iload_n C dX1_dropOldest_2 0 rfl ?_
  refine r_aload_n C dX1_dropOldest_3 2 rfl ?_
  refine r_get (Cn := RX1) (T := TX1) (N := 2) C inT1 0 rfl rfl 0 (by decide) t_86 rfl dX1_dropOldest_4 ?_
  refine r_alen (v := 6) C 1 2 rfl rfl rfl dX1_dropOldest_7 ?_
  refine r_icmp_ge (tgt := 47) C dX1_dropOldest_8 (by decide) (fun c => absurd c (by decide)) (fun _ => ?_)
  refine r_aload_n C dX1_dropOldest_11 2 rfl ?_
  refine r_get (Cn := RX1) (T := TX1) (N := 2) C inT1 0 rfl rfl 0 (by decide) t_86 rfl dX1_dropOldest_12 ?_
  refine r_iload_n C dX1_dropOldest_15 0 rfl ?_
  refine r_iconst (v := 1) C dX1_dropOldest_16 (by decide) ?_
  refine r_isub (z := 2) C dX1_dropOldest_17 (by decide) ?_
  refine r_aald (x := (PS 0)) C 1 2 rfl rfl (vp_in_nI (n := 2) (N := 6) (by decide) (by decide)) dX1_dropOldest_18 (by have q := e_g1.symm; subst q; have q := e_g2.symm; subst q; have q := e_g3.symm; subst q; have q := e_g4.symm; subst q; rfl) ?_
  refine r_astore_n (L' := [(2, .ref (PS 0)), (1, .int 3), (0, .ref hi)]) C dX1_dropOldest_19 (by decide) rfl ?_
  refine r_aload_n C dX1_dropOldest_20 2 rfl ?_
  refine r_get (Cn := RX1) (T := TX1) (N := 2) C inT1 0 rfl rfl 0 (by decide) t_86 rfl dX1_dropOldest_21 ?_
  refine r_iload_n C dX1_dropOldest_24 1 rfl ?_
  refine r_iconst (v := 1) C dX1_dropOldest_25 (by decide) ?_
  refine r_isub (z := 2) C dX1_dropOldest_26 (by decide) ?_
  refine r_aload_n C dX1_dropOldest_27 2 rfl ?_
  refine r_get (Cn := RX1) (T := TX1) (N := 2) C inT1 0 rfl rfl 0 (by decide) t_86 rfl dX1_dropOldest_28 ?_
  refine r_iload_n C dX1_dropOldest_31 1 rfl ?_
  refine r_aald (x := (PS 3)) C 1 2 rfl rfl (vp_in_nI (n := 3) (N := 6) (by decide) (by decide)) dX1_dropOldest_32 (by have q := e_g1.symm; subst q; have q := e_g2.symm; subst q; have q := e_g3.symm; subst q; have q := e_g4.symm; subst q; rfl) ?_
  obtain ⟨g5, e_g5⟩ : ∃ z : Nat → Nat, z = va_up g4 2 (PS 3) := ⟨_, rfl⟩
  refine r_aast (I' := [[(hi, .inr (0, [.ref sa, .int size]))], [(sa, .inl (cP, 6, .inr (.inr (.inr (.inr (rfs g5))))))], [((PS 0), .inr (2, [.ref (AS 0)]))], [((PS 1), .inr (2, [.ref (AS 1)]))], [((PS 2), .inr (2, [.ref (AS 2)]))], [((PS 3), .inr (2, [.ref (AS 3)]))], [((PS 4), .inr (2, [.ref (AS 4)]))], [((PS 5), .inr (2, [.ref (AS 5)]))]]) C 1 2 5 2 rfl rfl rfl rfl (vp_in_nI (n := 2) (N := 6) (by decide) (by decide)) (by rw [e_g5, ← rfs_fn]; rfl) dX1_dropOldest_33 ?_
  refine r_aload_n C dX1_dropOldest_34 2 rfl ?_
  refine r_get (Cn := RX1) (T := TX1) (N := 2) C inT1 0 rfl rfl 0 (by decide) t_86 rfl dX1_dropOldest_35 ?_
  refine r_iload_n C dX1_dropOldest_38 1 rfl ?_
  refine r_aload_n C dX1_dropOldest_39 0 rfl ?_
  obtain ⟨g6, e_g6⟩ : ∃ z : Nat → Nat, z = va_up g5 3 (PS 0) := ⟨_, rfl⟩
  refine r_aast (I' := [[(hi, .inr (0, [.ref sa, .int size]))], [(sa, .inl (cP, 6, .inr (.inr (.inr (.inr (rfs g6))))))], [((PS 0), .inr (2, [.ref (AS 0)]))], [((PS 1), .inr (2, [.ref (AS 1)]))], [((PS 2), .inr (2, [.ref (AS 2)]))], [((PS 3), .inr (2, [.ref (AS 3)]))], [((PS 4), .inr (2, [.ref (AS 4)]))], [((PS 5), .inr (2, [.ref (AS 5)]))]]) C 1 2 2 2 rfl rfl rfl rfl (vp_in_nI (n := 3) (N := 6) (by decide) (by decide)) (by rw [e_g6, ← rfs_fn]; rfl) dX1_dropOldest_40 ?_
  refine r_iinc (v := 4) (L' := [(1, .int 4), (2, .ref (PS 0)), (0, .ref hi)]) C dX1_dropOldest_41 1 rfl (by decide) (by decide) rfl ?_
  refine r_goto (tgt := 2) C dX1_dropOldest_44 (by decide) ?_
  refine r_iload_n C dX1_dropOldest_2 0 rfl ?_
  refine r_aload_n C dX1_dropOldest_3 2 rfl ?_
  refine r_get (Cn := RX1) (T := TX1) (N := 2) C inT1 0 rfl rfl 0 (by decide) t_86 rfl dX1_dropOldest_4 ?_
  refine r_alen (v := 6) C 1 2 rfl rfl rfl dX1_dropOldest_7 ?_
  refine r_icmp_ge (tgt := 47) C dX1_dropOldest_8 (by decide) (fun c => absurd c (by decide)) (fun _ => ?_)
  refine r_aload_n C dX1_dropOldest_11 2 rfl ?_
  refine r_get (Cn := RX1) (T := TX1) (N := 2) C inT1 0 rfl rfl 0 (by decide) t_86 rfl dX1_dropOldest_12 ?_
  refine r_iload_n C dX1_dropOldest_15 0 rfl ?_
  refine r_iconst (v := 1) C dX1_dropOldest_16 (by decide) ?_
  refine r_isub (z := 3) C dX1_dropOldest_17 (by decide) ?_
  refine r_aald (x := (PS 0)) C 1 2 rfl rfl (vp_in_nI (n := 3) (N := 6) (by decide) (by decide)) dX1_dropOldest_18 (by have q := e_g1.symm; subst q; have q := e_g2.symm; subst q; have q := e_g3.symm; subst q; have q := e_g4.symm; subst q; have q := e_g5.symm; subst q; have q := e_g6.symm; subst q; rfl) ?_
  refine r_astore_n (L' := [(2, .ref (PS 0)), (1, .int 4), (0, .ref hi)]) C dX1_dropOldest_19 (by decide) rfl ?_
  refine r_aload_n C dX1_dropOldest_20 2 rfl ?_
  refine r_get (Cn := RX1) (T := TX1) (N := 2) C inT1 0 rfl rfl 0 (by decide) t_86 rfl dX1_dropOldest_21 ?_
  refine r_iload_n C dX1_dropOldest_24 1 rfl ?_
  refine r_iconst (v := 1) C dX1_dropOldest_25 (by decide) ?_
  refine r_isub (z := 3) C dX1_dropOldest_26 (by decide) ?_
  refine r_aload_n C dX1_dropOldest_27 2 rfl ?_
  refine r_get (Cn := RX1) (T := TX1) (N := 2) C inT1 0 rfl rfl 0 (by decide) t_86 rfl dX1_dropOldest_28 ?_
  refine r_iload_n C dX1_dropOldest_31 1 rfl ?_
  refine r_aald (x := (PS 4)) C 1 2 rfl rfl (vp_in_nI (n := 4) (N := 6) (by decide) (by decide)) dX1_dropOldest_32 (by have q := e_g1.symm; subst q; have q := e_g2.symm; subst q; have q := e_g3.symm; subst q; have q := e_g4.symm; subst q; have q := e_g5.symm; subst q; have q := e_g6.symm; subst q; rfl) ?_
  obtain ⟨g7, e_g7⟩ : ∃ z : Nat → Nat, z = va_up g6 3 (PS 4) := ⟨_, rfl⟩
  refine r_aast (I' := [[(hi, .inr (0, [.ref sa, .int size]))], [(sa, .inl (cP, 6, .inr (.inr (.inr (.inr (rfs g7))))))], [((PS 0), .inr (2, [.ref (AS 0)]))], [((PS 1), .inr (2, [.ref (AS 1)]))], [((PS 2), .inr (2, [.ref (AS 2)]))], [((PS 3), .inr (2, [.ref (AS 3)]))], [((PS 4), .inr (2, [.ref (AS 4)]))], [((PS 5), .inr (2, [.ref (AS 5)]))]]) C 1 2 6 2 rfl rfl rfl rfl (vp_in_nI (n := 3) (N := 6) (by decide) (by decide)) (by rw [e_g7, ← rfs_fn]; rfl) dX1_dropOldest_33 ?_
  refine r_aload_n C dX1_dropOldest_34 2 rfl ?_
  refine r_get (Cn := RX1) (T := TX1) (N := 2) C inT1 0 rfl rfl 0 (by decide) t_86 rfl dX1_dropOldest_35 ?_
  refine r_iload_n C dX1_dropOldest_38 1 rfl ?_
  refine r_aload_n C dX1_dropOldest_39 0 rfl ?_
  obtain ⟨g8, e_g8⟩ : ∃ z : Nat → Nat, z = va_up g7 4 (PS 0) := ⟨_, rfl⟩
  refine r_aast (I' := [[(hi, .inr (0, [.ref sa, .int size]))], [(sa, .inl (cP, 6, .inr (.inr (.inr (.inr (rfs g8))))))], [((PS 0), .inr (2, [.ref (AS 0)]))], [((PS 1), .inr (2, [.ref (AS 1)]))], [((PS 2), .inr (2, [.ref (AS 2)]))], [((PS 3), .inr (2, [.ref (AS 3)]))], [((PS 4), .inr (2, [.ref (AS 4)]))], [((PS 5), .inr (2, [.ref (AS 5)]))]]) C 1 2 2 2 rfl rfl rfl rfl (vp_in_nI (n := 4) (N := 6) (by decide) (by decide)) (by rw [e_g8, ← rfs_fn]; rfl) dX1_dropOldest_40 ?_
  refine r_iinc (v := 5) (L' := [(1, .int 5), (2, .ref (PS 0)), (0, .ref hi)]) C dX1_dropOldest_41 1 rfl (by decide) (by decide) rfl ?_
  refine r_goto (tgt := 2) C dX1_dropOldest_44 (by decide) ?_
  refine r_iload_n C dX1_dropOldest_2 0 rfl ?_
  refine r_aload_n C dX1_dropOldest_3 2 rfl ?_
  refine r_get (Cn := RX1) (T := TX1) (N := 2) C inT1 0 rfl rfl 0 (by decide) t_86 rfl dX1_dropOldest_4 ?_
  refine r_alen (v := 6) C 1 2 rfl rfl rfl dX1_dropOldest_7 ?_
  refine r_icmp_ge (tgt := 47) C dX1_dropOldest_8 (by decide) (fun c => absurd c (by decide)) (fun _ => ?_)
  refine r_aload_n C dX1_dropOldest_11 2 rfl ?_
  refine r_get (Cn := RX1) (T := TX1) (N := 2) C inT1 0 rfl rfl 0 (by decide) t_86 rfl dX1_dropOldest_12 ?_
  refine r_iload_n C dX1_dropOldest_15 0 rfl ?_
  refine r_iconst (v := 1) C dX1_dropOldest_16 (by decide) ?_
  refine r_isub (z := 4) C dX1_dropOldest_17 (by decide) ?_
  refine r_aald (x := (PS 0)) C 1 2 rfl rfl (vp_in_nI (n := 4) (N := 6) (by decide) (by decide)) dX1_dropOldest_18 (by have q := e_g1.symm; subst q; have q := e_g2.symm; subst q; have q := e_g3.symm; subst q; have q := e_g4.symm; subst q; have q := e_g5.symm; subst q; have q := e_g6.symm; subst q; have q := e_g7.symm; subst q; have q := e_g8.symm; subst q; rfl) ?_
  refine r_astore_n (L' := [(2, .ref (PS 0)), (1, .int 5), (0, .ref hi)]) C dX1_dropOldest_19 (by decide) rfl ?_
  refine r_aload_n C dX1_dropOldest_20 2 rfl ?_
  refine r_get (Cn := RX1) (T := TX1) (N := 2) C inT1 0 rfl rfl 0 (by decide) t_86 rfl dX1_dropOldest_21 ?_
  refine r_iload_n C dX1_dropOldest_24 1 rfl ?_
  refine r_iconst (v := 1) C dX1_dropOldest_25 (by decide) ?_
  refine r_isub (z := 4) C dX1_dropOldest_26 (by decide) ?_
  refine r_aload_n C dX1_dropOldest_27 2 rfl ?_
  refine r_get (Cn := RX1) (T := TX1) (N := 2) C inT1 0 rfl rfl 0 (by decide) t_86 rfl dX1_dropOldest_28 ?_
  refine r_iload_n C dX1_dropOldest_31 1 rfl ?_
  refine r_aald (x := (PS 5)) C 1 2 rfl rfl (vp_in_nI (n := 5) (N := 6) (by decide) (by decide)) dX1_dropOldest_32 (by have q := e_g1.symm; subst q; have q := e_g2.symm; subst q; have q := e_g3.symm; subst q; have q := e_g4.symm; subst q; have q := e_g5.symm; subst q; have q := e_g6.symm; subst q; have q := e_g7.symm; subst q; have q := e_g8.symm; subst q; rfl) ?_
  obtain ⟨g9, e_g9⟩ : ∃ z : Nat → Nat, z = va_up g8 4 (PS 5) := ⟨_, rfl⟩
  refine r_aast (I' := [[(hi, .inr (0, [.ref sa, .int size]))], [(sa, .inl (cP, 6, .inr (.inr (.inr (.inr (rfs g9))))))], [((PS 0), .inr (2, [.ref (AS 0)]))], [((PS 1), .inr (2, [.ref (AS 1)]))], [((PS 2), .inr (2, [.ref (AS 2)]))], [((PS 3), .inr (2, [.ref (AS 3)]))], [((PS 4), .inr (2, [.ref (AS 4)]))], [((PS 5), .inr (2, [.ref (AS 5)]))]]) C 1 2 7 2 rfl rfl rfl rfl (vp_in_nI (n := 4) (N := 6) (by decide) (by decide)) (by rw [e_g9, ← rfs_fn]; rfl) dX1_dropOldest_33 ?_
  refine r_aload_n C dX1_dropOldest_34 2 rfl ?_
  refine r_get (Cn := RX1) (T := TX1) (N := 2) C inT1 0 rfl rfl 0 (by decide) t_86 rfl dX1_dropOldest_35 ?_
  refine r_iload_n C dX1_dropOldest_38 1 rfl ?_
  refine r_aload_n C dX1_dropOldest_39 0 rfl ?_
  obtain ⟨g10, e_g10⟩ : ∃ z : Nat → Nat, z = va_up g9 5 (PS 0) := ⟨_, rfl⟩
  refine r_aast (I' := [[(hi, .inr (0, [.ref sa, .int size]))], [(sa, .inl (cP, 6, .inr (.inr (.inr (.inr (rfs g10))))))], [((PS 0), .inr (2, [.ref (AS 0)]))], [((PS 1), .inr (2, [.ref (AS 1)]))], [((PS 2), .inr (2, [.ref (AS 2)]))], [((PS 3), .inr (2, [.ref (AS 3)]))], [((PS 4), .inr (2, [.ref (AS 4)]))], [((PS 5), .inr (2, [.ref (AS 5)]))]]) C 1 2 2 2 rfl rfl rfl rfl (vp_in_nI (n := 5) (N := 6) (by decide) (by decide)) (by rw [e_g10, ← rfs_fn]; rfl) dX1_dropOldest_40 ?_
  refine r_iinc (v := 6) (L' := [(1, .int 6), (2, .ref (PS 0)), (0, .ref hi)]) C dX1_dropOldest_41 1 rfl (by decide) (by decide) rfl ?_
  refine r_goto (tgt := 2) C dX1_dropOldest_44 (by decide) ?_
  refine r_iload_n C dX1_dropOldest_2 0 rfl ?_
  refine r_aload_n C dX1_dropOldest_3 2 rfl ?_
  refine r_get (Cn := RX1) (T := TX1) (N := 2) C inT1 0 rfl rfl 0 (by decide) t_86 rfl dX1_dropOldest_4 ?_
  refine r_alen (v := 6) C 1 2 rfl rfl rfl dX1_dropOldest_7 ?_
  refine r_icmp_ge (tgt := 47) C dX1_dropOldest_8 (by decide) (fun _ => ?_) (fun c => absurd c (by decide))
  refine r_aload_n C dX1_dropOldest_47 2 rfl ?_
  refine r_dup C dX1_dropOldest_48 rfl ?_
  refine r_get (Cn := RX1) (T := TX1) (N := 2) C inT1 0 rfl rfl 1 (by decide) t_87 rfl dX1_dropOldest_49 ?_
  refine r_iconst (v := 1) C dX1_dropOldest_52 (by decide) ?_
  refine r_isub C dX1_dropOldest_53 rfl ?_
  refine r_top (fun x11 e_x11 => ?_)
  refine r_put (Cn := RX1) (T := TX1) (N := 2) C inT1 0 rfl rfl 1 (by decide) t_87 tyX1 tyX1_ok nmX1 rfl rfl rfl (Nat.le_of_ble_eq_true rfl) (I' := [[(hi, .inr (0, [.ref sa, .int x11]))], [(sa, .inl (cP, 6, .inr (.inr (.inr (.inr (rfs g10))))))], [((PS 0), .inr (2, [.ref (AS 0)]))], [((PS 1), .inr (2, [.ref (AS 1)]))], [((PS 2), .inr (2, [.ref (AS 2)]))], [((PS 3), .inr (2, [.ref (AS 3)]))], [((PS 4), .inr (2, [.ref (AS 4)]))], [((PS 5), .inr (2, [.ref (AS 5)]))]]) rfl dX1_dropOldest_54 ?_
  have eF : F_X1_dropOldest PS size = (x11, g10) := by have q := e_g1.symm; subst q; have q := e_g2.symm; subst q; have q := e_g3.symm; subst q; have q := e_g4.symm; subst q; have q := e_g5.symm; subst q; have q := e_g6.symm; subst q; have q := e_g7.symm; subst q; have q := e_g8.symm; subst q; have q := e_g9.symm; subst q; have q := e_g10.symm; subst q; have q := e_x11.symm; subst q; rfl
  exact r_vret (r := ()) C hA hr hlo dX1_dropOldest_57 [[(hi, .inr (0, [.ref sa, .int x11]))], [(sa, .inl (cP, 6, .inr (.inr (.inr (.inr (rfs g10))))))], [((PS 0), .inr (2, [.ref (AS 0)]))], [((PS 1), .inr (2, [.ref (AS 1)]))], [((PS 2), .inr (2, [.ref (AS 2)]))], [((PS 3), .inr (2, [.ref (AS 3)]))], [((PS 4), .inr (2, [.ref (AS 4)]))], [((PS 5), .inr (2, [.ref (AS 5)]))]] (by simp only [eF]) rfl hQ
theorem k_X1_push : kV yX1_push cX1_push 2 none 1 := ⟨t_534, t_535, t_11, t_536, by decide +kernel, by decide +kernel, by decide +kernel⟩
set_option maxRecDepth 20000 in
def F_X1_push_0 (lieS : Nat → Nat → Int32) (sealsS : Nat → Nat → Int32) (foldsS : Nat → Nat → Int32) (nS : Nat → Nat → Int32) (fS_ : Nat → Nat → Nat → Int32) (lie : Nat → Int32) (seals : Nat → Int32) (folds : Nat → Int32) (n : Nat → Int32) (f : Nat → Nat → Int32) : (Nat → Nat → Int32) × (Nat → Nat → Int32) × (Nat → Nat → Int32) × (Nat → Nat → Int32) × (Nat → Nat → Nat → Int32) × Int32 := let g3 : Nat → Int32 := (F_X4_copy (fS_ 0) lie seals folds n f).1; let g4 : Nat → Int32 := (F_X4_copy (fS_ 0) lie seals folds n f).2.1; let g5 : Nat → Int32 := (F_X4_copy (fS_ 0) lie seals folds n f).2.2.1; let g6 : Nat → Int32 := (F_X4_copy (fS_ 0) lie seals folds n f).2.2.2.1; let g7 : Nat → Nat → Int32 := (F_X4_copy (fS_ 0) lie seals folds n f).2.2.2.2; ((fn6 g3 (lieS 1) (lieS 2) (lieS 3) (lieS 4) (lieS 5)), (fn6 g4 (sealsS 1) (sealsS 2) (sealsS 3) (sealsS 4) (sealsS 5)), (fn6 g5 (foldsS 1) (foldsS 2) (foldsS 3) (foldsS 4) (foldsS 5)), (fn6 g6 (nS 1) (nS 2) (nS 3) (nS 4) (nS 5)), (fn6 g7 (fS_ 1) (fS_ 2) (fS_ 3) (fS_ 4) (fS_ 5)), 1)
set_option maxRecDepth 20000 in
def P_X1_push_0 (fS_ : Nat → Nat → Nat → Int32) (lie : Nat → Int32) (seals : Nat → Int32) (folds : Nat → Int32) (n : Nat → Int32) (f : Nat → Nat → Int32) : Prop := (P_X4_copy (fS_ 0) lie seals folds n f)
set_option maxRecDepth 20000 in
set_option maxHeartbeats 8000000 in
theorem m_X1_push_0 (l : Launch) (D : va_G) (cI cL cP cJ : ClassId) (hi : Nat) (sa : Nat) (PS : Nat → Nat) (AS : Nat → Nat) (LS : Nat → Nat → Nat) (hS_ : Nat → Nat → Nat) (vS : Nat → Nat → Nat) (lieS : Nat → Nat → Int32) (sealsS : Nat → Nat → Int32) (foldsS : Nat → Nat → Int32) (nS : Nat → Nat → Int32) (fS_ : Nat → Nat → Nat → Int32) (pl : Nat) (a : Nat) (L : Nat → Nat) (h : Nat → Nat) (v : Nat → Nat) (lie : Nat → Int32) (seals : Nat → Int32) (folds : Nat → Int32) (n : Nat → Int32) (f : Nat → Nat → Int32) (hp : P_X1_push_0 fS_ lie seals folds n f) : M vV l yX1_push cX1_push 2 none 4 86 D (tyF cI cL cP cJ) [.ref hi, .ref pl] [histB cI cL cP hi sa PS AS LS hS_ vS lieS sealsS foldsS nS fS_ 0, pileB cI cL pl a L h v lie seals folds n f] (fun (r : Unit) (w1 : List va_W) => w1 = [histB cI cL cP hi sa PS AS LS hS_ vS ((F_X1_push_0 lieS sealsS foldsS nS fS_ lie seals folds n f).1) ((F_X1_push_0 lieS sealsS foldsS nS fS_ lie seals folds n f).2.1) ((F_X1_push_0 lieS sealsS foldsS nS fS_ lie seals folds n f).2.2.1) ((F_X1_push_0 lieS sealsS foldsS nS fS_ lie seals folds n f).2.2.2.1) ((F_X1_push_0 lieS sealsS foldsS nS fS_ lie seals folds n f).2.2.2.2.1) ((F_X1_push_0 lieS sealsS foldsS nS fS_ lie seals folds n f).2.2.2.2.2), pileB cI cL pl a L h v lie seals folds n f]) := by
  unfold P_X1_push_0 at hp
  refine m_start (by decide +kernel) (Nat.le_of_ble_eq_true rfl) (fun p e s m args below meth c A Q hA hQ C hr hlo => ?_)
  refine r_Le (L' := [(0, .ref hi), (1, .ref pl)]) rfl ?_
  refine r_aload_n C dX1_push_0 0 rfl ?_
  refine r_ws (I' := [[(hi, .inr (0, [.ref sa, .int 0]))], [(sa, .inl (cP, 6, .inr (.inr (.inr (.inr (rfs PS))))))], pileB cI cL (PS 0) (AS 0) (LS 0) (hS_ 0) (vS 0) (lieS 0) (sealsS 0) (foldsS 0) (nS 0) (fS_ 0), pileB cI cL (PS 1) (AS 1) (LS 1) (hS_ 1) (vS 1) (lieS 1) (sealsS 1) (foldsS 1) (nS 1) (fS_ 1), pileB cI cL (PS 2) (AS 2) (LS 2) (hS_ 2) (vS 2) (lieS 2) (sealsS 2) (foldsS 2) (nS 2) (fS_ 2), pileB cI cL (PS 3) (AS 3) (LS 3) (hS_ 3) (vS 3) (lieS 3) (sealsS 3) (foldsS 3) (nS 3) (fS_ 3), pileB cI cL (PS 4) (AS 4) (LS 4) (hS_ 4) (vS 4) (lieS 4) (sealsS 4) (foldsS 4) (nS 4) (fS_ 4), pileB cI cL (PS 5) (AS 5) (LS 5) (hS_ 5) (vS 5) (lieS 5) (sealsS 5) (foldsS 5) (nS 5) (fS_ 5), pileB cI cL pl a L h v lie seals folds n f]) rfl ?_
  refine r_get (Cn := RX1) (T := TX1) (N := 2) C inT1 0 rfl rfl 1 (by decide) t_87 rfl dX1_push_1 ?_
  refine r_aload_n C dX1_push_4 0 rfl ?_
  refine r_get (Cn := RX1) (T := TX1) (N := 2) C inT1 0 rfl rfl 0 (by decide) t_86 rfl dX1_push_5 ?_
  refine r_alen (v := 6) C 1 2 rfl rfl rfl dX1_push_8 ?_
  refine r_icmp_lt (tgt := 16) C dX1_push_9 (by decide) (fun _ => ?_) (fun c => absurd c (by decide))
  refine r_aload_n C dX1_push_16 0 rfl ?_
  refine r_get (Cn := RX1) (T := TX1) (N := 2) C inT1 0 rfl rfl 1 (by decide) t_87 rfl dX1_push_17 ?_
  refine r_if_lt (tgt := 58) C dX1_push_20 (by decide) (fun c => absurd c (by decide)) (fun _ => ?_)
  refine r_aload_n C dX1_push_23 0 rfl ?_
  refine r_get (Cn := RX1) (T := TX1) (N := 2) C inT1 0 rfl rfl 1 (by decide) t_87 rfl dX1_push_24 ?_
  refine r_aload_n C dX1_push_27 0 rfl ?_
  refine r_get (Cn := RX1) (T := TX1) (N := 2) C inT1 0 rfl rfl 0 (by decide) t_86 rfl dX1_push_28 ?_
  refine r_alen (v := 6) C 1 2 rfl rfl rfl dX1_push_31 ?_
  refine r_icmp_ge (tgt := 58) C dX1_push_32 (by decide) (fun c => absurd c (by decide)) (fun _ => ?_)
  refine r_aload_n C dX1_push_35 0 rfl ?_
  refine r_get (Cn := RX1) (T := TX1) (N := 2) C inT1 0 rfl rfl 0 (by decide) t_86 rfl dX1_push_36 ?_
  refine r_aload_n C dX1_push_39 0 rfl ?_
  refine r_get (Cn := RX1) (T := TX1) (N := 2) C inT1 0 rfl rfl 1 (by decide) t_87 rfl dX1_push_40 ?_
  refine r_aald (x := (PS 0)) C 1 2 rfl rfl (vp_in_nI (n := 0) (N := 6) (by decide) (by decide)) dX1_push_43 rfl ?_
  refine r_aload_n C dX1_push_44 1 rfl ?_
  have h1 := hp
  refine r_callV (ci := 2) (wc := [pileB cI cL (PS 0) (AS 0) (LS 0) (hS_ 0) (vS 0) (lieS 0) (sealsS 0) (foldsS 0) (nS 0) (fS_ 0), pileB cI cL pl a L h v lie seals folds n f]) (wr := [[(hi, .inr (0, [.ref sa, .int 0]))], [(sa, .inl (cP, 6, .inr (.inr (.inr (.inr (rfs PS))))))], pileB cI cL (PS 1) (AS 1) (LS 1) (hS_ 1) (vS 1) (lieS 1) (sealsS 1) (foldsS 1) (nS 1) (fS_ 1), pileB cI cL (PS 2) (AS 2) (LS 2) (hS_ 2) (vS 2) (lieS 2) (sealsS 2) (foldsS 2) (nS 2) (fS_ 2), pileB cI cL (PS 3) (AS 3) (LS 3) (hS_ 3) (vS 3) (lieS 3) (sealsS 3) (foldsS 3) (nS 3) (fS_ 3), pileB cI cL (PS 4) (AS 4) (LS 4) (hS_ 4) (vS 4) (lieS 4) (sealsS 4) (foldsS 4) (nS 4) (fS_ 4), pileB cI cL (PS 5) (AS 5) (LS 5) (hS_ 5) (vS 5) (lieS 5) (sealsS 5) (foldsS 5) (nS 5) (fS_ 5)]) (st := []) C (m_X4_copy l D cI cL cP cJ (PS 0) (AS 0) (LS 0) (hS_ 0) (vS 0) (lieS 0) (sealsS 0) (foldsS 0) (nS 0) (fS_ 0) pl a L h v lie seals folds n f h1) k_X4_copy t_541 [2, 8, 0, 1, 3, 4, 5, 6, 7] (show ([2, 8, 0, 1, 3, 4, 5, 6, 7] : List Nat).Perm (List.range 9) by decide) rfl rfl rfl (q0 := 0) rfl rfl rfl (Nat.le_of_ble_eq_true rfl) ⟨Nat.le_of_ble_eq_true rfl, Nat.le_of_ble_eq_true rfl⟩ ⟨Nat.zero_le _, Nat.zero_le _⟩ dX1_push_45 (fun r2 wr2 hw2 => ?_)
  obtain rfl := hw2
  obtain ⟨g3, e_g3⟩ : ∃ z : Nat → Int32, z = (F_X4_copy (fS_ 0) lie seals folds n f).1 := ⟨_, rfl⟩
  obtain ⟨g4, e_g4⟩ : ∃ z : Nat → Int32, z = (F_X4_copy (fS_ 0) lie seals folds n f).2.1 := ⟨_, rfl⟩
  obtain ⟨g5, e_g5⟩ : ∃ z : Nat → Int32, z = (F_X4_copy (fS_ 0) lie seals folds n f).2.2.1 := ⟨_, rfl⟩
  obtain ⟨g6, e_g6⟩ : ∃ z : Nat → Int32, z = (F_X4_copy (fS_ 0) lie seals folds n f).2.2.2.1 := ⟨_, rfl⟩
  obtain ⟨g7, e_g7⟩ : ∃ z : Nat → Nat → Int32, z = (F_X4_copy (fS_ 0) lie seals folds n f).2.2.2.2 := ⟨_, rfl⟩
  refine r_ws (I' := [pileB cI cL (PS 0) (AS 0) (LS 0) (hS_ 0) (vS 0) g3 g4 g5 g6 g7, pileB cI cL pl a L h v lie seals folds n f, [(hi, .inr (0, [.ref sa, .int 0]))], [(sa, .inl (cP, 6, .inr (.inr (.inr (.inr (rfs PS))))))], pileB cI cL (PS 1) (AS 1) (LS 1) (hS_ 1) (vS 1) (lieS 1) (sealsS 1) (foldsS 1) (nS 1) (fS_ 1), pileB cI cL (PS 2) (AS 2) (LS 2) (hS_ 2) (vS 2) (lieS 2) (sealsS 2) (foldsS 2) (nS 2) (fS_ 2), pileB cI cL (PS 3) (AS 3) (LS 3) (hS_ 3) (vS 3) (lieS 3) (sealsS 3) (foldsS 3) (nS 3) (fS_ 3), pileB cI cL (PS 4) (AS 4) (LS 4) (hS_ 4) (vS 4) (lieS 4) (sealsS 4) (foldsS 4) (nS 4) (fS_ 4), pileB cI cL (PS 5) (AS 5) (LS 5) (hS_ 5) (vS 5) (lieS 5) (sealsS 5) (foldsS 5) (nS 5) (fS_ 5)]) (by rw [e_g3, e_g4, e_g5, e_g6, e_g7]; rfl) ?_
  refine r_aload_n C dX1_push_48 0 rfl ?_
  refine r_dup C dX1_push_49 rfl ?_
  refine r_get (Cn := RX1) (T := TX1) (N := 2) C inT1 2 rfl rfl 1 (by decide) t_87 rfl dX1_push_50 ?_
  refine r_iconst (v := 1) C dX1_push_53 (by decide) ?_
  refine r_iadd (z := 1) C dX1_push_54 (by decide) ?_
  refine r_put (Cn := RX1) (T := TX1) (N := 2) C inT1 2 rfl rfl 1 (by decide) t_87 tyX1 tyX1_ok nmX1 rfl rfl rfl (Nat.le_of_ble_eq_true rfl) (I' := [pileB cI cL (PS 0) (AS 0) (LS 0) (hS_ 0) (vS 0) g3 g4 g5 g6 g7, pileB cI cL pl a L h v lie seals folds n f, [(hi, .inr (0, [.ref sa, .int 1]))], [(sa, .inl (cP, 6, .inr (.inr (.inr (.inr (rfs PS))))))], pileB cI cL (PS 1) (AS 1) (LS 1) (hS_ 1) (vS 1) (lieS 1) (sealsS 1) (foldsS 1) (nS 1) (fS_ 1), pileB cI cL (PS 2) (AS 2) (LS 2) (hS_ 2) (vS 2) (lieS 2) (sealsS 2) (foldsS 2) (nS 2) (fS_ 2), pileB cI cL (PS 3) (AS 3) (LS 3) (hS_ 3) (vS 3) (lieS 3) (sealsS 3) (foldsS 3) (nS 3) (fS_ 3), pileB cI cL (PS 4) (AS 4) (LS 4) (hS_ 4) (vS 4) (lieS 4) (sealsS 4) (foldsS 4) (nS 4) (fS_ 4), pileB cI cL (PS 5) (AS 5) (LS 5) (hS_ 5) (vS 5) (lieS 5) (sealsS 5) (foldsS 5) (nS 5) (fS_ 5)]) rfl dX1_push_55 ?_
  refine r_pl (I' := [[(hi, .inr (0, [.ref sa, .int 1]))], [(sa, .inl (cP, 6, .inr (.inr (.inr (.inr (rfs PS))))))], pileB cI cL (PS 0) (AS 0) (LS 0) (hS_ 0) (vS 0) g3 g4 g5 g6 g7, pileB cI cL (PS 1) (AS 1) (LS 1) (hS_ 1) (vS 1) (lieS 1) (sealsS 1) (foldsS 1) (nS 1) (fS_ 1), pileB cI cL (PS 2) (AS 2) (LS 2) (hS_ 2) (vS 2) (lieS 2) (sealsS 2) (foldsS 2) (nS 2) (fS_ 2), pileB cI cL (PS 3) (AS 3) (LS 3) (hS_ 3) (vS 3) (lieS 3) (sealsS 3) (foldsS 3) (nS 3) (fS_ 3), pileB cI cL (PS 4) (AS 4) (LS 4) (hS_ 4) (vS 4) (lieS 4) (sealsS 4) (foldsS 4) (nS 4) (fS_ 4), pileB cI cL (PS 5) (AS 5) (LS 5) (hS_ 5) (vS 5) (lieS 5) (sealsS 5) (foldsS 5) (nS 5) (fS_ 5), pileB cI cL pl a L h v lie seals folds n f]) [2, 3, 0, 4, 5, 6, 7, 8, 1] (show ([2, 3, 0, 4, 5, 6, 7, 8, 1] : List Nat).Perm (List.range 9) by decide) rfl ?_
  refine r_ws (I' := [histB cI cL cP hi sa PS AS LS hS_ vS (fn6 g3 (lieS 1) (lieS 2) (lieS 3) (lieS 4) (lieS 5)) (fn6 g4 (sealsS 1) (sealsS 2) (sealsS 3) (sealsS 4) (sealsS 5)) (fn6 g5 (foldsS 1) (foldsS 2) (foldsS 3) (foldsS 4) (foldsS 5)) (fn6 g6 (nS 1) (nS 2) (nS 3) (nS 4) (nS 5)) (fn6 g7 (fS_ 1) (fS_ 2) (fS_ 3) (fS_ 4) (fS_ 5)) 1, pileB cI cL pl a L h v lie seals folds n f]) rfl ?_
  have eF : F_X1_push_0 lieS sealsS foldsS nS fS_ lie seals folds n f = ((fn6 g3 (lieS 1) (lieS 2) (lieS 3) (lieS 4) (lieS 5)), (fn6 g4 (sealsS 1) (sealsS 2) (sealsS 3) (sealsS 4) (sealsS 5)), (fn6 g5 (foldsS 1) (foldsS 2) (foldsS 3) (foldsS 4) (foldsS 5)), (fn6 g6 (nS 1) (nS 2) (nS 3) (nS 4) (nS 5)), (fn6 g7 (fS_ 1) (fS_ 2) (fS_ 3) (fS_ 4) (fS_ 5)), 1) := by have q := e_g3.symm; subst q; have q := e_g4.symm; subst q; have q := e_g5.symm; subst q; have q := e_g6.symm; subst q; have q := e_g7.symm; subst q; rfl
  exact r_vret (r := ()) C hA hr hlo dX1_push_58 [histB cI cL cP hi sa PS AS LS hS_ vS (fn6 g3 (lieS 1) (lieS 2) (lieS 3) (lieS 4) (lieS 5)) (fn6 g4 (sealsS 1) (sealsS 2) (sealsS 3) (sealsS 4) (sealsS 5)) (fn6 g5 (foldsS 1) (foldsS 2) (foldsS 3) (foldsS 4) (foldsS 5)) (fn6 g6 (nS 1) (nS 2) (nS 3) (nS 4) (nS 5)) (fn6 g7 (fS_ 1) (fS_ 2) (fS_ 3) (fS_ 4) (fS_ 5)) 1, pileB cI cL pl a L h v lie seals folds n f] (by simp only [eF]) rfl hQ
set_option maxRecDepth 20000 in
def F_X1_push_1 (lieS : Nat → Nat → Int32) (sealsS : Nat → Nat → Int32) (foldsS : Nat → Nat → Int32) (nS : Nat → Nat → Int32) (fS_ : Nat → Nat → Nat → Int32) (lie : Nat → Int32) (seals : Nat → Int32) (folds : Nat → Int32) (n : Nat → Int32) (f : Nat → Nat → Int32) : (Nat → Nat → Int32) × (Nat → Nat → Int32) × (Nat → Nat → Int32) × (Nat → Nat → Int32) × (Nat → Nat → Nat → Int32) × Int32 := let g3 : Nat → Int32 := (F_X4_copy (fS_ 1) lie seals folds n f).1; let g4 : Nat → Int32 := (F_X4_copy (fS_ 1) lie seals folds n f).2.1; let g5 : Nat → Int32 := (F_X4_copy (fS_ 1) lie seals folds n f).2.2.1; let g6 : Nat → Int32 := (F_X4_copy (fS_ 1) lie seals folds n f).2.2.2.1; let g7 : Nat → Nat → Int32 := (F_X4_copy (fS_ 1) lie seals folds n f).2.2.2.2; ((fn6 (lieS 0) g3 (lieS 2) (lieS 3) (lieS 4) (lieS 5)), (fn6 (sealsS 0) g4 (sealsS 2) (sealsS 3) (sealsS 4) (sealsS 5)), (fn6 (foldsS 0) g5 (foldsS 2) (foldsS 3) (foldsS 4) (foldsS 5)), (fn6 (nS 0) g6 (nS 2) (nS 3) (nS 4) (nS 5)), (fn6 (fS_ 0) g7 (fS_ 2) (fS_ 3) (fS_ 4) (fS_ 5)), 2)
set_option maxRecDepth 20000 in
def P_X1_push_1 (fS_ : Nat → Nat → Nat → Int32) (lie : Nat → Int32) (seals : Nat → Int32) (folds : Nat → Int32) (n : Nat → Int32) (f : Nat → Nat → Int32) : Prop := (P_X4_copy (fS_ 1) lie seals folds n f)
set_option maxRecDepth 20000 in
set_option maxHeartbeats 8000000 in
theorem m_X1_push_1 (l : Launch) (D : va_G) (cI cL cP cJ : ClassId) (hi : Nat) (sa : Nat) (PS : Nat → Nat) (AS : Nat → Nat) (LS : Nat → Nat → Nat) (hS_ : Nat → Nat → Nat) (vS : Nat → Nat → Nat) (lieS : Nat → Nat → Int32) (sealsS : Nat → Nat → Int32) (foldsS : Nat → Nat → Int32) (nS : Nat → Nat → Int32) (fS_ : Nat → Nat → Nat → Int32) (pl : Nat) (a : Nat) (L : Nat → Nat) (h : Nat → Nat) (v : Nat → Nat) (lie : Nat → Int32) (seals : Nat → Int32) (folds : Nat → Int32) (n : Nat → Int32) (f : Nat → Nat → Int32) (hp : P_X1_push_1 fS_ lie seals folds n f) : M vV l yX1_push cX1_push 2 none 4 86 D (tyF cI cL cP cJ) [.ref hi, .ref pl] [histB cI cL cP hi sa PS AS LS hS_ vS lieS sealsS foldsS nS fS_ 1, pileB cI cL pl a L h v lie seals folds n f] (fun (r : Unit) (w1 : List va_W) => w1 = [histB cI cL cP hi sa PS AS LS hS_ vS ((F_X1_push_1 lieS sealsS foldsS nS fS_ lie seals folds n f).1) ((F_X1_push_1 lieS sealsS foldsS nS fS_ lie seals folds n f).2.1) ((F_X1_push_1 lieS sealsS foldsS nS fS_ lie seals folds n f).2.2.1) ((F_X1_push_1 lieS sealsS foldsS nS fS_ lie seals folds n f).2.2.2.1) ((F_X1_push_1 lieS sealsS foldsS nS fS_ lie seals folds n f).2.2.2.2.1) ((F_X1_push_1 lieS sealsS foldsS nS fS_ lie seals folds n f).2.2.2.2.2), pileB cI cL pl a L h v lie seals folds n f]) := by
  unfold P_X1_push_1 at hp
  refine m_start (by decide +kernel) (Nat.le_of_ble_eq_true rfl) (fun p e s m args below meth c A Q hA hQ C hr hlo => ?_)
  refine r_Le (L' := [(0, .ref hi), (1, .ref pl)]) rfl ?_
  refine r_aload_n C dX1_push_0 0 rfl ?_
  refine r_ws (I' := [[(hi, .inr (0, [.ref sa, .int 1]))], [(sa, .inl (cP, 6, .inr (.inr (.inr (.inr (rfs PS))))))], pileB cI cL (PS 0) (AS 0) (LS 0) (hS_ 0) (vS 0) (lieS 0) (sealsS 0) (foldsS 0) (nS 0) (fS_ 0), pileB cI cL (PS 1) (AS 1) (LS 1) (hS_ 1) (vS 1) (lieS 1) (sealsS 1) (foldsS 1) (nS 1) (fS_ 1), pileB cI cL (PS 2) (AS 2) (LS 2) (hS_ 2) (vS 2) (lieS 2) (sealsS 2) (foldsS 2) (nS 2) (fS_ 2), pileB cI cL (PS 3) (AS 3) (LS 3) (hS_ 3) (vS 3) (lieS 3) (sealsS 3) (foldsS 3) (nS 3) (fS_ 3), pileB cI cL (PS 4) (AS 4) (LS 4) (hS_ 4) (vS 4) (lieS 4) (sealsS 4) (foldsS 4) (nS 4) (fS_ 4), pileB cI cL (PS 5) (AS 5) (LS 5) (hS_ 5) (vS 5) (lieS 5) (sealsS 5) (foldsS 5) (nS 5) (fS_ 5), pileB cI cL pl a L h v lie seals folds n f]) rfl ?_
  refine r_get (Cn := RX1) (T := TX1) (N := 2) C inT1 0 rfl rfl 1 (by decide) t_87 rfl dX1_push_1 ?_
  refine r_aload_n C dX1_push_4 0 rfl ?_
  refine r_get (Cn := RX1) (T := TX1) (N := 2) C inT1 0 rfl rfl 0 (by decide) t_86 rfl dX1_push_5 ?_
  refine r_alen (v := 6) C 1 2 rfl rfl rfl dX1_push_8 ?_
  refine r_icmp_lt (tgt := 16) C dX1_push_9 (by decide) (fun _ => ?_) (fun c => absurd c (by decide))
  refine r_aload_n C dX1_push_16 0 rfl ?_
  refine r_get (Cn := RX1) (T := TX1) (N := 2) C inT1 0 rfl rfl 1 (by decide) t_87 rfl dX1_push_17 ?_
  refine r_if_lt (tgt := 58) C dX1_push_20 (by decide) (fun c => absurd c (by decide)) (fun _ => ?_)
  refine r_aload_n C dX1_push_23 0 rfl ?_
  refine r_get (Cn := RX1) (T := TX1) (N := 2) C inT1 0 rfl rfl 1 (by decide) t_87 rfl dX1_push_24 ?_
  refine r_aload_n C dX1_push_27 0 rfl ?_
  refine r_get (Cn := RX1) (T := TX1) (N := 2) C inT1 0 rfl rfl 0 (by decide) t_86 rfl dX1_push_28 ?_
  refine r_alen (v := 6) C 1 2 rfl rfl rfl dX1_push_31 ?_
  refine r_icmp_ge (tgt := 58) C dX1_push_32 (by decide) (fun c => absurd c (by decide)) (fun _ => ?_)
  refine r_aload_n C dX1_push_35 0 rfl ?_
  refine r_get (Cn := RX1) (T := TX1) (N := 2) C inT1 0 rfl rfl 0 (by decide) t_86 rfl dX1_push_36 ?_
  refine r_aload_n C dX1_push_39 0 rfl ?_
  refine r_get (Cn := RX1) (T := TX1) (N := 2) C inT1 0 rfl rfl 1 (by decide) t_87 rfl dX1_push_40 ?_
  refine r_aald (x := (PS 1)) C 1 2 rfl rfl (vp_in_nI (n := 1) (N := 6) (by decide) (by decide)) dX1_push_43 rfl ?_
  refine r_aload_n C dX1_push_44 1 rfl ?_
  have h1 := hp
  refine r_callV (ci := 2) (wc := [pileB cI cL (PS 1) (AS 1) (LS 1) (hS_ 1) (vS 1) (lieS 1) (sealsS 1) (foldsS 1) (nS 1) (fS_ 1), pileB cI cL pl a L h v lie seals folds n f]) (wr := [[(hi, .inr (0, [.ref sa, .int 1]))], [(sa, .inl (cP, 6, .inr (.inr (.inr (.inr (rfs PS))))))], pileB cI cL (PS 0) (AS 0) (LS 0) (hS_ 0) (vS 0) (lieS 0) (sealsS 0) (foldsS 0) (nS 0) (fS_ 0), pileB cI cL (PS 2) (AS 2) (LS 2) (hS_ 2) (vS 2) (lieS 2) (sealsS 2) (foldsS 2) (nS 2) (fS_ 2), pileB cI cL (PS 3) (AS 3) (LS 3) (hS_ 3) (vS 3) (lieS 3) (sealsS 3) (foldsS 3) (nS 3) (fS_ 3), pileB cI cL (PS 4) (AS 4) (LS 4) (hS_ 4) (vS 4) (lieS 4) (sealsS 4) (foldsS 4) (nS 4) (fS_ 4), pileB cI cL (PS 5) (AS 5) (LS 5) (hS_ 5) (vS 5) (lieS 5) (sealsS 5) (foldsS 5) (nS 5) (fS_ 5)]) (st := []) C (m_X4_copy l D cI cL cP cJ (PS 1) (AS 1) (LS 1) (hS_ 1) (vS 1) (lieS 1) (sealsS 1) (foldsS 1) (nS 1) (fS_ 1) pl a L h v lie seals folds n f h1) k_X4_copy t_541 [3, 8, 0, 1, 2, 4, 5, 6, 7] (show ([3, 8, 0, 1, 2, 4, 5, 6, 7] : List Nat).Perm (List.range 9) by decide) rfl rfl rfl (q0 := 0) rfl rfl rfl (Nat.le_of_ble_eq_true rfl) ⟨Nat.le_of_ble_eq_true rfl, Nat.le_of_ble_eq_true rfl⟩ ⟨Nat.zero_le _, Nat.zero_le _⟩ dX1_push_45 (fun r2 wr2 hw2 => ?_)
  obtain rfl := hw2
  obtain ⟨g3, e_g3⟩ : ∃ z : Nat → Int32, z = (F_X4_copy (fS_ 1) lie seals folds n f).1 := ⟨_, rfl⟩
  obtain ⟨g4, e_g4⟩ : ∃ z : Nat → Int32, z = (F_X4_copy (fS_ 1) lie seals folds n f).2.1 := ⟨_, rfl⟩
  obtain ⟨g5, e_g5⟩ : ∃ z : Nat → Int32, z = (F_X4_copy (fS_ 1) lie seals folds n f).2.2.1 := ⟨_, rfl⟩
  obtain ⟨g6, e_g6⟩ : ∃ z : Nat → Int32, z = (F_X4_copy (fS_ 1) lie seals folds n f).2.2.2.1 := ⟨_, rfl⟩
  obtain ⟨g7, e_g7⟩ : ∃ z : Nat → Nat → Int32, z = (F_X4_copy (fS_ 1) lie seals folds n f).2.2.2.2 := ⟨_, rfl⟩
  refine r_ws (I' := [pileB cI cL (PS 1) (AS 1) (LS 1) (hS_ 1) (vS 1) g3 g4 g5 g6 g7, pileB cI cL pl a L h v lie seals folds n f, [(hi, .inr (0, [.ref sa, .int 1]))], [(sa, .inl (cP, 6, .inr (.inr (.inr (.inr (rfs PS))))))], pileB cI cL (PS 0) (AS 0) (LS 0) (hS_ 0) (vS 0) (lieS 0) (sealsS 0) (foldsS 0) (nS 0) (fS_ 0), pileB cI cL (PS 2) (AS 2) (LS 2) (hS_ 2) (vS 2) (lieS 2) (sealsS 2) (foldsS 2) (nS 2) (fS_ 2), pileB cI cL (PS 3) (AS 3) (LS 3) (hS_ 3) (vS 3) (lieS 3) (sealsS 3) (foldsS 3) (nS 3) (fS_ 3), pileB cI cL (PS 4) (AS 4) (LS 4) (hS_ 4) (vS 4) (lieS 4) (sealsS 4) (foldsS 4) (nS 4) (fS_ 4), pileB cI cL (PS 5) (AS 5) (LS 5) (hS_ 5) (vS 5) (lieS 5) (sealsS 5) (foldsS 5) (nS 5) (fS_ 5)]) (by rw [e_g3, e_g4, e_g5, e_g6, e_g7]; rfl) ?_
  refine r_aload_n C dX1_push_48 0 rfl ?_
  refine r_dup C dX1_push_49 rfl ?_
  refine r_get (Cn := RX1) (T := TX1) (N := 2) C inT1 2 rfl rfl 1 (by decide) t_87 rfl dX1_push_50 ?_
  refine r_iconst (v := 1) C dX1_push_53 (by decide) ?_
  refine r_iadd (z := 2) C dX1_push_54 (by decide) ?_
  refine r_put (Cn := RX1) (T := TX1) (N := 2) C inT1 2 rfl rfl 1 (by decide) t_87 tyX1 tyX1_ok nmX1 rfl rfl rfl (Nat.le_of_ble_eq_true rfl) (I' := [pileB cI cL (PS 1) (AS 1) (LS 1) (hS_ 1) (vS 1) g3 g4 g5 g6 g7, pileB cI cL pl a L h v lie seals folds n f, [(hi, .inr (0, [.ref sa, .int 2]))], [(sa, .inl (cP, 6, .inr (.inr (.inr (.inr (rfs PS))))))], pileB cI cL (PS 0) (AS 0) (LS 0) (hS_ 0) (vS 0) (lieS 0) (sealsS 0) (foldsS 0) (nS 0) (fS_ 0), pileB cI cL (PS 2) (AS 2) (LS 2) (hS_ 2) (vS 2) (lieS 2) (sealsS 2) (foldsS 2) (nS 2) (fS_ 2), pileB cI cL (PS 3) (AS 3) (LS 3) (hS_ 3) (vS 3) (lieS 3) (sealsS 3) (foldsS 3) (nS 3) (fS_ 3), pileB cI cL (PS 4) (AS 4) (LS 4) (hS_ 4) (vS 4) (lieS 4) (sealsS 4) (foldsS 4) (nS 4) (fS_ 4), pileB cI cL (PS 5) (AS 5) (LS 5) (hS_ 5) (vS 5) (lieS 5) (sealsS 5) (foldsS 5) (nS 5) (fS_ 5)]) rfl dX1_push_55 ?_
  refine r_pl (I' := [[(hi, .inr (0, [.ref sa, .int 2]))], [(sa, .inl (cP, 6, .inr (.inr (.inr (.inr (rfs PS))))))], pileB cI cL (PS 0) (AS 0) (LS 0) (hS_ 0) (vS 0) (lieS 0) (sealsS 0) (foldsS 0) (nS 0) (fS_ 0), pileB cI cL (PS 1) (AS 1) (LS 1) (hS_ 1) (vS 1) g3 g4 g5 g6 g7, pileB cI cL (PS 2) (AS 2) (LS 2) (hS_ 2) (vS 2) (lieS 2) (sealsS 2) (foldsS 2) (nS 2) (fS_ 2), pileB cI cL (PS 3) (AS 3) (LS 3) (hS_ 3) (vS 3) (lieS 3) (sealsS 3) (foldsS 3) (nS 3) (fS_ 3), pileB cI cL (PS 4) (AS 4) (LS 4) (hS_ 4) (vS 4) (lieS 4) (sealsS 4) (foldsS 4) (nS 4) (fS_ 4), pileB cI cL (PS 5) (AS 5) (LS 5) (hS_ 5) (vS 5) (lieS 5) (sealsS 5) (foldsS 5) (nS 5) (fS_ 5), pileB cI cL pl a L h v lie seals folds n f]) [2, 3, 4, 0, 5, 6, 7, 8, 1] (show ([2, 3, 4, 0, 5, 6, 7, 8, 1] : List Nat).Perm (List.range 9) by decide) rfl ?_
  refine r_ws (I' := [histB cI cL cP hi sa PS AS LS hS_ vS (fn6 (lieS 0) g3 (lieS 2) (lieS 3) (lieS 4) (lieS 5)) (fn6 (sealsS 0) g4 (sealsS 2) (sealsS 3) (sealsS 4) (sealsS 5)) (fn6 (foldsS 0) g5 (foldsS 2) (foldsS 3) (foldsS 4) (foldsS 5)) (fn6 (nS 0) g6 (nS 2) (nS 3) (nS 4) (nS 5)) (fn6 (fS_ 0) g7 (fS_ 2) (fS_ 3) (fS_ 4) (fS_ 5)) 2, pileB cI cL pl a L h v lie seals folds n f]) rfl ?_
  have eF : F_X1_push_1 lieS sealsS foldsS nS fS_ lie seals folds n f = ((fn6 (lieS 0) g3 (lieS 2) (lieS 3) (lieS 4) (lieS 5)), (fn6 (sealsS 0) g4 (sealsS 2) (sealsS 3) (sealsS 4) (sealsS 5)), (fn6 (foldsS 0) g5 (foldsS 2) (foldsS 3) (foldsS 4) (foldsS 5)), (fn6 (nS 0) g6 (nS 2) (nS 3) (nS 4) (nS 5)), (fn6 (fS_ 0) g7 (fS_ 2) (fS_ 3) (fS_ 4) (fS_ 5)), 2) := by have q := e_g3.symm; subst q; have q := e_g4.symm; subst q; have q := e_g5.symm; subst q; have q := e_g6.symm; subst q; have q := e_g7.symm; subst q; rfl
  exact r_vret (r := ()) C hA hr hlo dX1_push_58 [histB cI cL cP hi sa PS AS LS hS_ vS (fn6 (lieS 0) g3 (lieS 2) (lieS 3) (lieS 4) (lieS 5)) (fn6 (sealsS 0) g4 (sealsS 2) (sealsS 3) (sealsS 4) (sealsS 5)) (fn6 (foldsS 0) g5 (foldsS 2) (foldsS 3) (foldsS 4) (foldsS 5)) (fn6 (nS 0) g6 (nS 2) (nS 3) (nS 4) (nS 5)) (fn6 (fS_ 0) g7 (fS_ 2) (fS_ 3) (fS_ 4) (fS_ 5)) 2, pileB cI cL pl a L h v lie seals folds n f] (by simp only [eF]) rfl hQ
set_option maxRecDepth 20000 in
def F_X1_push_2 (lieS : Nat → Nat → Int32) (sealsS : Nat → Nat → Int32) (foldsS : Nat → Nat → Int32) (nS : Nat → Nat → Int32) (fS_ : Nat → Nat → Nat → Int32) (lie : Nat → Int32) (seals : Nat → Int32) (folds : Nat → Int32) (n : Nat → Int32) (f : Nat → Nat → Int32) : (Nat → Nat → Int32) × (Nat → Nat → Int32) × (Nat → Nat → Int32) × (Nat → Nat → Int32) × (Nat → Nat → Nat → Int32) × Int32 := let g3 : Nat → Int32 := (F_X4_copy (fS_ 2) lie seals folds n f).1; let g4 : Nat → Int32 := (F_X4_copy (fS_ 2) lie seals folds n f).2.1; let g5 : Nat → Int32 := (F_X4_copy (fS_ 2) lie seals folds n f).2.2.1; let g6 : Nat → Int32 := (F_X4_copy (fS_ 2) lie seals folds n f).2.2.2.1; let g7 : Nat → Nat → Int32 := (F_X4_copy (fS_ 2) lie seals folds n f).2.2.2.2; ((fn6 (lieS 0) (lieS 1) g3 (lieS 3) (lieS 4) (lieS 5)), (fn6 (sealsS 0) (sealsS 1) g4 (sealsS 3) (sealsS 4) (sealsS 5)), (fn6 (foldsS 0) (foldsS 1) g5 (foldsS 3) (foldsS 4) (foldsS 5)), (fn6 (nS 0) (nS 1) g6 (nS 3) (nS 4) (nS 5)), (fn6 (fS_ 0) (fS_ 1) g7 (fS_ 3) (fS_ 4) (fS_ 5)), 3)
set_option maxRecDepth 20000 in
def P_X1_push_2 (fS_ : Nat → Nat → Nat → Int32) (lie : Nat → Int32) (seals : Nat → Int32) (folds : Nat → Int32) (n : Nat → Int32) (f : Nat → Nat → Int32) : Prop := (P_X4_copy (fS_ 2) lie seals folds n f)
set_option maxRecDepth 20000 in
set_option maxHeartbeats 8000000 in
theorem m_X1_push_2 (l : Launch) (D : va_G) (cI cL cP cJ : ClassId) (hi : Nat) (sa : Nat) (PS : Nat → Nat) (AS : Nat → Nat) (LS : Nat → Nat → Nat) (hS_ : Nat → Nat → Nat) (vS : Nat → Nat → Nat) (lieS : Nat → Nat → Int32) (sealsS : Nat → Nat → Int32) (foldsS : Nat → Nat → Int32) (nS : Nat → Nat → Int32) (fS_ : Nat → Nat → Nat → Int32) (pl : Nat) (a : Nat) (L : Nat → Nat) (h : Nat → Nat) (v : Nat → Nat) (lie : Nat → Int32) (seals : Nat → Int32) (folds : Nat → Int32) (n : Nat → Int32) (f : Nat → Nat → Int32) (hp : P_X1_push_2 fS_ lie seals folds n f) : M vV l yX1_push cX1_push 2 none 4 86 D (tyF cI cL cP cJ) [.ref hi, .ref pl] [histB cI cL cP hi sa PS AS LS hS_ vS lieS sealsS foldsS nS fS_ 2, pileB cI cL pl a L h v lie seals folds n f] (fun (r : Unit) (w1 : List va_W) => w1 = [histB cI cL cP hi sa PS AS LS hS_ vS ((F_X1_push_2 lieS sealsS foldsS nS fS_ lie seals folds n f).1) ((F_X1_push_2 lieS sealsS foldsS nS fS_ lie seals folds n f).2.1) ((F_X1_push_2 lieS sealsS foldsS nS fS_ lie seals folds n f).2.2.1) ((F_X1_push_2 lieS sealsS foldsS nS fS_ lie seals folds n f).2.2.2.1) ((F_X1_push_2 lieS sealsS foldsS nS fS_ lie seals folds n f).2.2.2.2.1) ((F_X1_push_2 lieS sealsS foldsS nS fS_ lie seals folds n f).2.2.2.2.2), pileB cI cL pl a L h v lie seals folds n f]) := by
  unfold P_X1_push_2 at hp
  refine m_start (by decide +kernel) (Nat.le_of_ble_eq_true rfl) (fun p e s m args below meth c A Q hA hQ C hr hlo => ?_)
  refine r_Le (L' := [(0, .ref hi), (1, .ref pl)]) rfl ?_
  refine r_aload_n C dX1_push_0 0 rfl ?_
  refine r_ws (I' := [[(hi, .inr (0, [.ref sa, .int 2]))], [(sa, .inl (cP, 6, .inr (.inr (.inr (.inr (rfs PS))))))], pileB cI cL (PS 0) (AS 0) (LS 0) (hS_ 0) (vS 0) (lieS 0) (sealsS 0) (foldsS 0) (nS 0) (fS_ 0), pileB cI cL (PS 1) (AS 1) (LS 1) (hS_ 1) (vS 1) (lieS 1) (sealsS 1) (foldsS 1) (nS 1) (fS_ 1), pileB cI cL (PS 2) (AS 2) (LS 2) (hS_ 2) (vS 2) (lieS 2) (sealsS 2) (foldsS 2) (nS 2) (fS_ 2), pileB cI cL (PS 3) (AS 3) (LS 3) (hS_ 3) (vS 3) (lieS 3) (sealsS 3) (foldsS 3) (nS 3) (fS_ 3), pileB cI cL (PS 4) (AS 4) (LS 4) (hS_ 4) (vS 4) (lieS 4) (sealsS 4) (foldsS 4) (nS 4) (fS_ 4), pileB cI cL (PS 5) (AS 5) (LS 5) (hS_ 5) (vS 5) (lieS 5) (sealsS 5) (foldsS 5) (nS 5) (fS_ 5), pileB cI cL pl a L h v lie seals folds n f]) rfl ?_
  refine r_get (Cn := RX1) (T := TX1) (N := 2) C inT1 0 rfl rfl 1 (by decide) t_87 rfl dX1_push_1 ?_
  refine r_aload_n C dX1_push_4 0 rfl ?_
  refine r_get (Cn := RX1) (T := TX1) (N := 2) C inT1 0 rfl rfl 0 (by decide) t_86 rfl dX1_push_5 ?_
  refine r_alen (v := 6) C 1 2 rfl rfl rfl dX1_push_8 ?_
  refine r_icmp_lt (tgt := 16) C dX1_push_9 (by decide) (fun _ => ?_) (fun c => absurd c (by decide))
  refine r_aload_n C dX1_push_16 0 rfl ?_
  refine r_get (Cn := RX1) (T := TX1) (N := 2) C inT1 0 rfl rfl 1 (by decide) t_87 rfl dX1_push_17 ?_
  refine r_if_lt (tgt := 58) C dX1_push_20 (by decide) (fun c => absurd c (by decide)) (fun _ => ?_)
  refine r_aload_n C dX1_push_23 0 rfl ?_
  refine r_get (Cn := RX1) (T := TX1) (N := 2) C inT1 0 rfl rfl 1 (by decide) t_87 rfl dX1_push_24 ?_
  refine r_aload_n C dX1_push_27 0 rfl ?_
  refine r_get (Cn := RX1) (T := TX1) (N := 2) C inT1 0 rfl rfl 0 (by decide) t_86 rfl dX1_push_28 ?_
  refine r_alen (v := 6) C 1 2 rfl rfl rfl dX1_push_31 ?_
  refine r_icmp_ge (tgt := 58) C dX1_push_32 (by decide) (fun c => absurd c (by decide)) (fun _ => ?_)
  refine r_aload_n C dX1_push_35 0 rfl ?_
  refine r_get (Cn := RX1) (T := TX1) (N := 2) C inT1 0 rfl rfl 0 (by decide) t_86 rfl dX1_push_36 ?_
  refine r_aload_n C dX1_push_39 0 rfl ?_
  refine r_get (Cn := RX1) (T := TX1) (N := 2) C inT1 0 rfl rfl 1 (by decide) t_87 rfl dX1_push_40 ?_
  refine r_aald (x := (PS 2)) C 1 2 rfl rfl (vp_in_nI (n := 2) (N := 6) (by decide) (by decide)) dX1_push_43 rfl ?_
  refine r_aload_n C dX1_push_44 1 rfl ?_
  have h1 := hp
  refine r_callV (ci := 2) (wc := [pileB cI cL (PS 2) (AS 2) (LS 2) (hS_ 2) (vS 2) (lieS 2) (sealsS 2) (foldsS 2) (nS 2) (fS_ 2), pileB cI cL pl a L h v lie seals folds n f]) (wr := [[(hi, .inr (0, [.ref sa, .int 2]))], [(sa, .inl (cP, 6, .inr (.inr (.inr (.inr (rfs PS))))))], pileB cI cL (PS 0) (AS 0) (LS 0) (hS_ 0) (vS 0) (lieS 0) (sealsS 0) (foldsS 0) (nS 0) (fS_ 0), pileB cI cL (PS 1) (AS 1) (LS 1) (hS_ 1) (vS 1) (lieS 1) (sealsS 1) (foldsS 1) (nS 1) (fS_ 1), pileB cI cL (PS 3) (AS 3) (LS 3) (hS_ 3) (vS 3) (lieS 3) (sealsS 3) (foldsS 3) (nS 3) (fS_ 3), pileB cI cL (PS 4) (AS 4) (LS 4) (hS_ 4) (vS 4) (lieS 4) (sealsS 4) (foldsS 4) (nS 4) (fS_ 4), pileB cI cL (PS 5) (AS 5) (LS 5) (hS_ 5) (vS 5) (lieS 5) (sealsS 5) (foldsS 5) (nS 5) (fS_ 5)]) (st := []) C (m_X4_copy l D cI cL cP cJ (PS 2) (AS 2) (LS 2) (hS_ 2) (vS 2) (lieS 2) (sealsS 2) (foldsS 2) (nS 2) (fS_ 2) pl a L h v lie seals folds n f h1) k_X4_copy t_541 [4, 8, 0, 1, 2, 3, 5, 6, 7] (show ([4, 8, 0, 1, 2, 3, 5, 6, 7] : List Nat).Perm (List.range 9) by decide) rfl rfl rfl (q0 := 0) rfl rfl rfl (Nat.le_of_ble_eq_true rfl) ⟨Nat.le_of_ble_eq_true rfl, Nat.le_of_ble_eq_true rfl⟩ ⟨Nat.zero_le _, Nat.zero_le _⟩ dX1_push_45 (fun r2 wr2 hw2 => ?_)
  obtain rfl := hw2
  obtain ⟨g3, e_g3⟩ : ∃ z : Nat → Int32, z = (F_X4_copy (fS_ 2) lie seals folds n f).1 := ⟨_, rfl⟩
  obtain ⟨g4, e_g4⟩ : ∃ z : Nat → Int32, z = (F_X4_copy (fS_ 2) lie seals folds n f).2.1 := ⟨_, rfl⟩
  obtain ⟨g5, e_g5⟩ : ∃ z : Nat → Int32, z = (F_X4_copy (fS_ 2) lie seals folds n f).2.2.1 := ⟨_, rfl⟩
  obtain ⟨g6, e_g6⟩ : ∃ z : Nat → Int32, z = (F_X4_copy (fS_ 2) lie seals folds n f).2.2.2.1 := ⟨_, rfl⟩
  obtain ⟨g7, e_g7⟩ : ∃ z : Nat → Nat → Int32, z = (F_X4_copy (fS_ 2) lie seals folds n f).2.2.2.2 := ⟨_, rfl⟩
  refine r_ws (I' := [pileB cI cL (PS 2) (AS 2) (LS 2) (hS_ 2) (vS 2) g3 g4 g5 g6 g7, pileB cI cL pl a L h v lie seals folds n f, [(hi, .inr (0, [.ref sa, .int 2]))], [(sa, .inl (cP, 6, .inr (.inr (.inr (.inr (rfs PS))))))], pileB cI cL (PS 0) (AS 0) (LS 0) (hS_ 0) (vS 0) (lieS 0) (sealsS 0) (foldsS 0) (nS 0) (fS_ 0), pileB cI cL (PS 1) (AS 1) (LS 1) (hS_ 1) (vS 1) (lieS 1) (sealsS 1) (foldsS 1) (nS 1) (fS_ 1), pileB cI cL (PS 3) (AS 3) (LS 3) (hS_ 3) (vS 3) (lieS 3) (sealsS 3) (foldsS 3) (nS 3) (fS_ 3), pileB cI cL (PS 4) (AS 4) (LS 4) (hS_ 4) (vS 4) (lieS 4) (sealsS 4) (foldsS 4) (nS 4) (fS_ 4), pileB cI cL (PS 5) (AS 5) (LS 5) (hS_ 5) (vS 5) (lieS 5) (sealsS 5) (foldsS 5) (nS 5) (fS_ 5)]) (by rw [e_g3, e_g4, e_g5, e_g6, e_g7]; rfl) ?_
  refine r_aload_n C dX1_push_48 0 rfl ?_
  refine r_dup C dX1_push_49 rfl ?_
  refine r_get (Cn := RX1) (T := TX1) (N := 2) C inT1 2 rfl rfl 1 (by decide) t_87 rfl dX1_push_50 ?_
  refine r_iconst (v := 1) C dX1_push_53 (by decide) ?_
  refine r_iadd (z := 3) C dX1_push_54 (by decide) ?_
  refine r_put (Cn := RX1) (T := TX1) (N := 2) C inT1 2 rfl rfl 1 (by decide) t_87 tyX1 tyX1_ok nmX1 rfl rfl rfl (Nat.le_of_ble_eq_true rfl) (I' := [pileB cI cL (PS 2) (AS 2) (LS 2) (hS_ 2) (vS 2) g3 g4 g5 g6 g7, pileB cI cL pl a L h v lie seals folds n f, [(hi, .inr (0, [.ref sa, .int 3]))], [(sa, .inl (cP, 6, .inr (.inr (.inr (.inr (rfs PS))))))], pileB cI cL (PS 0) (AS 0) (LS 0) (hS_ 0) (vS 0) (lieS 0) (sealsS 0) (foldsS 0) (nS 0) (fS_ 0), pileB cI cL (PS 1) (AS 1) (LS 1) (hS_ 1) (vS 1) (lieS 1) (sealsS 1) (foldsS 1) (nS 1) (fS_ 1), pileB cI cL (PS 3) (AS 3) (LS 3) (hS_ 3) (vS 3) (lieS 3) (sealsS 3) (foldsS 3) (nS 3) (fS_ 3), pileB cI cL (PS 4) (AS 4) (LS 4) (hS_ 4) (vS 4) (lieS 4) (sealsS 4) (foldsS 4) (nS 4) (fS_ 4), pileB cI cL (PS 5) (AS 5) (LS 5) (hS_ 5) (vS 5) (lieS 5) (sealsS 5) (foldsS 5) (nS 5) (fS_ 5)]) rfl dX1_push_55 ?_
  refine r_pl (I' := [[(hi, .inr (0, [.ref sa, .int 3]))], [(sa, .inl (cP, 6, .inr (.inr (.inr (.inr (rfs PS))))))], pileB cI cL (PS 0) (AS 0) (LS 0) (hS_ 0) (vS 0) (lieS 0) (sealsS 0) (foldsS 0) (nS 0) (fS_ 0), pileB cI cL (PS 1) (AS 1) (LS 1) (hS_ 1) (vS 1) (lieS 1) (sealsS 1) (foldsS 1) (nS 1) (fS_ 1), pileB cI cL (PS 2) (AS 2) (LS 2) (hS_ 2) (vS 2) g3 g4 g5 g6 g7, pileB cI cL (PS 3) (AS 3) (LS 3) (hS_ 3) (vS 3) (lieS 3) (sealsS 3) (foldsS 3) (nS 3) (fS_ 3), pileB cI cL (PS 4) (AS 4) (LS 4) (hS_ 4) (vS 4) (lieS 4) (sealsS 4) (foldsS 4) (nS 4) (fS_ 4), pileB cI cL (PS 5) (AS 5) (LS 5) (hS_ 5) (vS 5) (lieS 5) (sealsS 5) (foldsS 5) (nS 5) (fS_ 5), pileB cI cL pl a L h v lie seals folds n f]) [2, 3, 4, 5, 0, 6, 7, 8, 1] (show ([2, 3, 4, 5, 0, 6, 7, 8, 1] : List Nat).Perm (List.range 9) by decide) rfl ?_
  refine r_ws (I' := [histB cI cL cP hi sa PS AS LS hS_ vS (fn6 (lieS 0) (lieS 1) g3 (lieS 3) (lieS 4) (lieS 5)) (fn6 (sealsS 0) (sealsS 1) g4 (sealsS 3) (sealsS 4) (sealsS 5)) (fn6 (foldsS 0) (foldsS 1) g5 (foldsS 3) (foldsS 4) (foldsS 5)) (fn6 (nS 0) (nS 1) g6 (nS 3) (nS 4) (nS 5)) (fn6 (fS_ 0) (fS_ 1) g7 (fS_ 3) (fS_ 4) (fS_ 5)) 3, pileB cI cL pl a L h v lie seals folds n f]) rfl ?_
  have eF : F_X1_push_2 lieS sealsS foldsS nS fS_ lie seals folds n f = ((fn6 (lieS 0) (lieS 1) g3 (lieS 3) (lieS 4) (lieS 5)), (fn6 (sealsS 0) (sealsS 1) g4 (sealsS 3) (sealsS 4) (sealsS 5)), (fn6 (foldsS 0) (foldsS 1) g5 (foldsS 3) (foldsS 4) (foldsS 5)), (fn6 (nS 0) (nS 1) g6 (nS 3) (nS 4) (nS 5)), (fn6 (fS_ 0) (fS_ 1) g7 (fS_ 3) (fS_ 4) (fS_ 5)), 3) := by have q := e_g3.symm; subst q; have q := e_g4.symm; subst q; have q := e_g5.symm; subst q; have q := e_g6.symm; subst q; have q := e_g7.symm; subst q; rfl
  exact r_vret (r := ()) C hA hr hlo dX1_push_58 [histB cI cL cP hi sa PS AS LS hS_ vS (fn6 (lieS 0) (lieS 1) g3 (lieS 3) (lieS 4) (lieS 5)) (fn6 (sealsS 0) (sealsS 1) g4 (sealsS 3) (sealsS 4) (sealsS 5)) (fn6 (foldsS 0) (foldsS 1) g5 (foldsS 3) (foldsS 4) (foldsS 5)) (fn6 (nS 0) (nS 1) g6 (nS 3) (nS 4) (nS 5)) (fn6 (fS_ 0) (fS_ 1) g7 (fS_ 3) (fS_ 4) (fS_ 5)) 3, pileB cI cL pl a L h v lie seals folds n f] (by simp only [eF]) rfl hQ
set_option maxRecDepth 20000 in
def F_X1_push_3 (lieS : Nat → Nat → Int32) (sealsS : Nat → Nat → Int32) (foldsS : Nat → Nat → Int32) (nS : Nat → Nat → Int32) (fS_ : Nat → Nat → Nat → Int32) (lie : Nat → Int32) (seals : Nat → Int32) (folds : Nat → Int32) (n : Nat → Int32) (f : Nat → Nat → Int32) : (Nat → Nat → Int32) × (Nat → Nat → Int32) × (Nat → Nat → Int32) × (Nat → Nat → Int32) × (Nat → Nat → Nat → Int32) × Int32 := let g3 : Nat → Int32 := (F_X4_copy (fS_ 3) lie seals folds n f).1; let g4 : Nat → Int32 := (F_X4_copy (fS_ 3) lie seals folds n f).2.1; let g5 : Nat → Int32 := (F_X4_copy (fS_ 3) lie seals folds n f).2.2.1; let g6 : Nat → Int32 := (F_X4_copy (fS_ 3) lie seals folds n f).2.2.2.1; let g7 : Nat → Nat → Int32 := (F_X4_copy (fS_ 3) lie seals folds n f).2.2.2.2; ((fn6 (lieS 0) (lieS 1) (lieS 2) g3 (lieS 4) (lieS 5)), (fn6 (sealsS 0) (sealsS 1) (sealsS 2) g4 (sealsS 4) (sealsS 5)), (fn6 (foldsS 0) (foldsS 1) (foldsS 2) g5 (foldsS 4) (foldsS 5)), (fn6 (nS 0) (nS 1) (nS 2) g6 (nS 4) (nS 5)), (fn6 (fS_ 0) (fS_ 1) (fS_ 2) g7 (fS_ 4) (fS_ 5)), 4)
set_option maxRecDepth 20000 in
def P_X1_push_3 (fS_ : Nat → Nat → Nat → Int32) (lie : Nat → Int32) (seals : Nat → Int32) (folds : Nat → Int32) (n : Nat → Int32) (f : Nat → Nat → Int32) : Prop := (P_X4_copy (fS_ 3) lie seals folds n f)
set_option maxRecDepth 20000 in
set_option maxHeartbeats 8000000 in
theorem m_X1_push_3 (l : Launch) (D : va_G) (cI cL cP cJ : ClassId) (hi : Nat) (sa : Nat) (PS : Nat → Nat) (AS : Nat → Nat) (LS : Nat → Nat → Nat) (hS_ : Nat → Nat → Nat) (vS : Nat → Nat → Nat) (lieS : Nat → Nat → Int32) (sealsS : Nat → Nat → Int32) (foldsS : Nat → Nat → Int32) (nS : Nat → Nat → Int32) (fS_ : Nat → Nat → Nat → Int32) (pl : Nat) (a : Nat) (L : Nat → Nat) (h : Nat → Nat) (v : Nat → Nat) (lie : Nat → Int32) (seals : Nat → Int32) (folds : Nat → Int32) (n : Nat → Int32) (f : Nat → Nat → Int32) (hp : P_X1_push_3 fS_ lie seals folds n f) : M vV l yX1_push cX1_push 2 none 4 86 D (tyF cI cL cP cJ) [.ref hi, .ref pl] [histB cI cL cP hi sa PS AS LS hS_ vS lieS sealsS foldsS nS fS_ 3, pileB cI cL pl a L h v lie seals folds n f] (fun (r : Unit) (w1 : List va_W) => w1 = [histB cI cL cP hi sa PS AS LS hS_ vS ((F_X1_push_3 lieS sealsS foldsS nS fS_ lie seals folds n f).1) ((F_X1_push_3 lieS sealsS foldsS nS fS_ lie seals folds n f).2.1) ((F_X1_push_3 lieS sealsS foldsS nS fS_ lie seals folds n f).2.2.1) ((F_X1_push_3 lieS sealsS foldsS nS fS_ lie seals folds n f).2.2.2.1) ((F_X1_push_3 lieS sealsS foldsS nS fS_ lie seals folds n f).2.2.2.2.1) ((F_X1_push_3 lieS sealsS foldsS nS fS_ lie seals folds n f).2.2.2.2.2), pileB cI cL pl a L h v lie seals folds n f]) := by
  unfold P_X1_push_3 at hp
  refine m_start (by decide +kernel) (Nat.le_of_ble_eq_true rfl) (fun p e s m args below meth c A Q hA hQ C hr hlo => ?_)
  refine r_Le (L' := [(0, .ref hi), (1, .ref pl)]) rfl ?_
  refine r_aload_n C dX1_push_0 0 rfl ?_
  refine r_ws (I' := [[(hi, .inr (0, [.ref sa, .int 3]))], [(sa, .inl (cP, 6, .inr (.inr (.inr (.inr (rfs PS))))))], pileB cI cL (PS 0) (AS 0) (LS 0) (hS_ 0) (vS 0) (lieS 0) (sealsS 0) (foldsS 0) (nS 0) (fS_ 0), pileB cI cL (PS 1) (AS 1) (LS 1) (hS_ 1) (vS 1) (lieS 1) (sealsS 1) (foldsS 1) (nS 1) (fS_ 1), pileB cI cL (PS 2) (AS 2) (LS 2) (hS_ 2) (vS 2) (lieS 2) (sealsS 2) (foldsS 2) (nS 2) (fS_ 2), pileB cI cL (PS 3) (AS 3) (LS 3) (hS_ 3) (vS 3) (lieS 3) (sealsS 3) (foldsS 3) (nS 3) (fS_ 3), pileB cI cL (PS 4) (AS 4) (LS 4) (hS_ 4) (vS 4) (lieS 4) (sealsS 4) (foldsS 4) (nS 4) (fS_ 4), pileB cI cL (PS 5) (AS 5) (LS 5) (hS_ 5) (vS 5) (lieS 5) (sealsS 5) (foldsS 5) (nS 5) (fS_ 5), pileB cI cL pl a L h v lie seals folds n f]) rfl ?_
  refine r_get (Cn := RX1) (T := TX1) (N := 2) C inT1 0 rfl rfl 1 (by decide) t_87 rfl dX1_push_1 ?_
  refine r_aload_n C dX1_push_4 0 rfl ?_
  refine r_get (Cn := RX1) (T := TX1) (N := 2) C inT1 0 rfl rfl 0 (by decide) t_86 rfl dX1_push_5 ?_
  refine r_alen (v := 6) C 1 2 rfl rfl rfl dX1_push_8 ?_
  refine r_icmp_lt (tgt := 16) C dX1_push_9 (by decide) (fun _ => ?_) (fun c => absurd c (by decide))
  refine r_aload_n C dX1_push_16 0 rfl ?_
  refine r_get (Cn := RX1) (T := TX1) (N := 2) C inT1 0 rfl rfl 1 (by decide) t_87 rfl dX1_push_17 ?_
  refine r_if_lt (tgt := 58) C dX1_push_20 (by decide) (fun c => absurd c (by decide)) (fun _ => ?_)
  refine r_aload_n C dX1_push_23 0 rfl ?_
  refine r_get (Cn := RX1) (T := TX1) (N := 2) C inT1 0 rfl rfl 1 (by decide) t_87 rfl dX1_push_24 ?_
  refine r_aload_n C dX1_push_27 0 rfl ?_
  refine r_get (Cn := RX1) (T := TX1) (N := 2) C inT1 0 rfl rfl 0 (by decide) t_86 rfl dX1_push_28 ?_
  refine r_alen (v := 6) C 1 2 rfl rfl rfl dX1_push_31 ?_
  refine r_icmp_ge (tgt := 58) C dX1_push_32 (by decide) (fun c => absurd c (by decide)) (fun _ => ?_)
  refine r_aload_n C dX1_push_35 0 rfl ?_
  refine r_get (Cn := RX1) (T := TX1) (N := 2) C inT1 0 rfl rfl 0 (by decide) t_86 rfl dX1_push_36 ?_
  refine r_aload_n C dX1_push_39 0 rfl ?_
  refine r_get (Cn := RX1) (T := TX1) (N := 2) C inT1 0 rfl rfl 1 (by decide) t_87 rfl dX1_push_40 ?_
  refine r_aald (x := (PS 3)) C 1 2 rfl rfl (vp_in_nI (n := 3) (N := 6) (by decide) (by decide)) dX1_push_43 rfl ?_
  refine r_aload_n C dX1_push_44 1 rfl ?_
  have h1 := hp
  refine r_callV (ci := 2) (wc := [pileB cI cL (PS 3) (AS 3) (LS 3) (hS_ 3) (vS 3) (lieS 3) (sealsS 3) (foldsS 3) (nS 3) (fS_ 3), pileB cI cL pl a L h v lie seals folds n f]) (wr := [[(hi, .inr (0, [.ref sa, .int 3]))], [(sa, .inl (cP, 6, .inr (.inr (.inr (.inr (rfs PS))))))], pileB cI cL (PS 0) (AS 0) (LS 0) (hS_ 0) (vS 0) (lieS 0) (sealsS 0) (foldsS 0) (nS 0) (fS_ 0), pileB cI cL (PS 1) (AS 1) (LS 1) (hS_ 1) (vS 1) (lieS 1) (sealsS 1) (foldsS 1) (nS 1) (fS_ 1), pileB cI cL (PS 2) (AS 2) (LS 2) (hS_ 2) (vS 2) (lieS 2) (sealsS 2) (foldsS 2) (nS 2) (fS_ 2), pileB cI cL (PS 4) (AS 4) (LS 4) (hS_ 4) (vS 4) (lieS 4) (sealsS 4) (foldsS 4) (nS 4) (fS_ 4), pileB cI cL (PS 5) (AS 5) (LS 5) (hS_ 5) (vS 5) (lieS 5) (sealsS 5) (foldsS 5) (nS 5) (fS_ 5)]) (st := []) C (m_X4_copy l D cI cL cP cJ (PS 3) (AS 3) (LS 3) (hS_ 3) (vS 3) (lieS 3) (sealsS 3) (foldsS 3) (nS 3) (fS_ 3) pl a L h v lie seals folds n f h1) k_X4_copy t_541 [5, 8, 0, 1, 2, 3, 4, 6, 7] (show ([5, 8, 0, 1, 2, 3, 4, 6, 7] : List Nat).Perm (List.range 9) by decide) rfl rfl rfl (q0 := 0) rfl rfl rfl (Nat.le_of_ble_eq_true rfl) ⟨Nat.le_of_ble_eq_true rfl, Nat.le_of_ble_eq_true rfl⟩ ⟨Nat.zero_le _, Nat.zero_le _⟩ dX1_push_45 (fun r2 wr2 hw2 => ?_)
  obtain rfl := hw2
  obtain ⟨g3, e_g3⟩ : ∃ z : Nat → Int32, z = (F_X4_copy (fS_ 3) lie seals folds n f).1 := ⟨_, rfl⟩
  obtain ⟨g4, e_g4⟩ : ∃ z : Nat → Int32, z = (F_X4_copy (fS_ 3) lie seals folds n f).2.1 := ⟨_, rfl⟩
  obtain ⟨g5, e_g5⟩ : ∃ z : Nat → Int32, z = (F_X4_copy (fS_ 3) lie seals folds n f).2.2.1 := ⟨_, rfl⟩
  obtain ⟨g6, e_g6⟩ : ∃ z : Nat → Int32, z = (F_X4_copy (fS_ 3) lie seals folds n f).2.2.2.1 := ⟨_, rfl⟩
  obtain ⟨g7, e_g7⟩ : ∃ z : Nat → Nat → Int32, z = (F_X4_copy (fS_ 3) lie seals folds n f).2.2.2.2 := ⟨_, rfl⟩
  refine r_ws (I' := [pileB cI cL (PS 3) (AS 3) (LS 3) (hS_ 3) (vS 3) g3 g4 g5 g6 g7, pileB cI cL pl a L h v lie seals folds n f, [(hi, .inr (0, [.ref sa, .int 3]))], [(sa, .inl (cP, 6, .inr (.inr (.inr (.inr (rfs PS))))))], pileB cI cL (PS 0) (AS 0) (LS 0) (hS_ 0) (vS 0) (lieS 0) (sealsS 0) (foldsS 0) (nS 0) (fS_ 0), pileB cI cL (PS 1) (AS 1) (LS 1) (hS_ 1) (vS 1) (lieS 1) (sealsS 1) (foldsS 1) (nS 1) (fS_ 1), pileB cI cL (PS 2) (AS 2) (LS 2) (hS_ 2) (vS 2) (lieS 2) (sealsS 2) (foldsS 2) (nS 2) (fS_ 2), pileB cI cL (PS 4) (AS 4) (LS 4) (hS_ 4) (vS 4) (lieS 4) (sealsS 4) (foldsS 4) (nS 4) (fS_ 4), pileB cI cL (PS 5) (AS 5) (LS 5) (hS_ 5) (vS 5) (lieS 5) (sealsS 5) (foldsS 5) (nS 5) (fS_ 5)]) (by rw [e_g3, e_g4, e_g5, e_g6, e_g7]; rfl) ?_
  refine r_aload_n C dX1_push_48 0 rfl ?_
  refine r_dup C dX1_push_49 rfl ?_
  refine r_get (Cn := RX1) (T := TX1) (N := 2) C inT1 2 rfl rfl 1 (by decide) t_87 rfl dX1_push_50 ?_
  refine r_iconst (v := 1) C dX1_push_53 (by decide) ?_
  refine r_iadd (z := 4) C dX1_push_54 (by decide) ?_
  refine r_put (Cn := RX1) (T := TX1) (N := 2) C inT1 2 rfl rfl 1 (by decide) t_87 tyX1 tyX1_ok nmX1 rfl rfl rfl (Nat.le_of_ble_eq_true rfl) (I' := [pileB cI cL (PS 3) (AS 3) (LS 3) (hS_ 3) (vS 3) g3 g4 g5 g6 g7, pileB cI cL pl a L h v lie seals folds n f, [(hi, .inr (0, [.ref sa, .int 4]))], [(sa, .inl (cP, 6, .inr (.inr (.inr (.inr (rfs PS))))))], pileB cI cL (PS 0) (AS 0) (LS 0) (hS_ 0) (vS 0) (lieS 0) (sealsS 0) (foldsS 0) (nS 0) (fS_ 0), pileB cI cL (PS 1) (AS 1) (LS 1) (hS_ 1) (vS 1) (lieS 1) (sealsS 1) (foldsS 1) (nS 1) (fS_ 1), pileB cI cL (PS 2) (AS 2) (LS 2) (hS_ 2) (vS 2) (lieS 2) (sealsS 2) (foldsS 2) (nS 2) (fS_ 2), pileB cI cL (PS 4) (AS 4) (LS 4) (hS_ 4) (vS 4) (lieS 4) (sealsS 4) (foldsS 4) (nS 4) (fS_ 4), pileB cI cL (PS 5) (AS 5) (LS 5) (hS_ 5) (vS 5) (lieS 5) (sealsS 5) (foldsS 5) (nS 5) (fS_ 5)]) rfl dX1_push_55 ?_
  refine r_pl (I' := [[(hi, .inr (0, [.ref sa, .int 4]))], [(sa, .inl (cP, 6, .inr (.inr (.inr (.inr (rfs PS))))))], pileB cI cL (PS 0) (AS 0) (LS 0) (hS_ 0) (vS 0) (lieS 0) (sealsS 0) (foldsS 0) (nS 0) (fS_ 0), pileB cI cL (PS 1) (AS 1) (LS 1) (hS_ 1) (vS 1) (lieS 1) (sealsS 1) (foldsS 1) (nS 1) (fS_ 1), pileB cI cL (PS 2) (AS 2) (LS 2) (hS_ 2) (vS 2) (lieS 2) (sealsS 2) (foldsS 2) (nS 2) (fS_ 2), pileB cI cL (PS 3) (AS 3) (LS 3) (hS_ 3) (vS 3) g3 g4 g5 g6 g7, pileB cI cL (PS 4) (AS 4) (LS 4) (hS_ 4) (vS 4) (lieS 4) (sealsS 4) (foldsS 4) (nS 4) (fS_ 4), pileB cI cL (PS 5) (AS 5) (LS 5) (hS_ 5) (vS 5) (lieS 5) (sealsS 5) (foldsS 5) (nS 5) (fS_ 5), pileB cI cL pl a L h v lie seals folds n f]) [2, 3, 4, 5, 6, 0, 7, 8, 1] (show ([2, 3, 4, 5, 6, 0, 7, 8, 1] : List Nat).Perm (List.range 9) by decide) rfl ?_
  refine r_ws (I' := [histB cI cL cP hi sa PS AS LS hS_ vS (fn6 (lieS 0) (lieS 1) (lieS 2) g3 (lieS 4) (lieS 5)) (fn6 (sealsS 0) (sealsS 1) (sealsS 2) g4 (sealsS 4) (sealsS 5)) (fn6 (foldsS 0) (foldsS 1) (foldsS 2) g5 (foldsS 4) (foldsS 5)) (fn6 (nS 0) (nS 1) (nS 2) g6 (nS 4) (nS 5)) (fn6 (fS_ 0) (fS_ 1) (fS_ 2) g7 (fS_ 4) (fS_ 5)) 4, pileB cI cL pl a L h v lie seals folds n f]) rfl ?_
  have eF : F_X1_push_3 lieS sealsS foldsS nS fS_ lie seals folds n f = ((fn6 (lieS 0) (lieS 1) (lieS 2) g3 (lieS 4) (lieS 5)), (fn6 (sealsS 0) (sealsS 1) (sealsS 2) g4 (sealsS 4) (sealsS 5)), (fn6 (foldsS 0) (foldsS 1) (foldsS 2) g5 (foldsS 4) (foldsS 5)), (fn6 (nS 0) (nS 1) (nS 2) g6 (nS 4) (nS 5)), (fn6 (fS_ 0) (fS_ 1) (fS_ 2) g7 (fS_ 4) (fS_ 5)), 4) := by have q := e_g3.symm; subst q; have q := e_g4.symm; subst q; have q := e_g5.symm; subst q; have q := e_g6.symm; subst q; have q := e_g7.symm; subst q; rfl
  exact r_vret (r := ()) C hA hr hlo dX1_push_58 [histB cI cL cP hi sa PS AS LS hS_ vS (fn6 (lieS 0) (lieS 1) (lieS 2) g3 (lieS 4) (lieS 5)) (fn6 (sealsS 0) (sealsS 1) (sealsS 2) g4 (sealsS 4) (sealsS 5)) (fn6 (foldsS 0) (foldsS 1) (foldsS 2) g5 (foldsS 4) (foldsS 5)) (fn6 (nS 0) (nS 1) (nS 2) g6 (nS 4) (nS 5)) (fn6 (fS_ 0) (fS_ 1) (fS_ 2) g7 (fS_ 4) (fS_ 5)) 4, pileB cI cL pl a L h v lie seals folds n f] (by simp only [eF]) rfl hQ
set_option maxRecDepth 20000 in
def F_X1_push_4 (lieS : Nat → Nat → Int32) (sealsS : Nat → Nat → Int32) (foldsS : Nat → Nat → Int32) (nS : Nat → Nat → Int32) (fS_ : Nat → Nat → Nat → Int32) (lie : Nat → Int32) (seals : Nat → Int32) (folds : Nat → Int32) (n : Nat → Int32) (f : Nat → Nat → Int32) : (Nat → Nat → Int32) × (Nat → Nat → Int32) × (Nat → Nat → Int32) × (Nat → Nat → Int32) × (Nat → Nat → Nat → Int32) × Int32 := let g3 : Nat → Int32 := (F_X4_copy (fS_ 4) lie seals folds n f).1; let g4 : Nat → Int32 := (F_X4_copy (fS_ 4) lie seals folds n f).2.1; let g5 : Nat → Int32 := (F_X4_copy (fS_ 4) lie seals folds n f).2.2.1; let g6 : Nat → Int32 := (F_X4_copy (fS_ 4) lie seals folds n f).2.2.2.1; let g7 : Nat → Nat → Int32 := (F_X4_copy (fS_ 4) lie seals folds n f).2.2.2.2; ((fn6 (lieS 0) (lieS 1) (lieS 2) (lieS 3) g3 (lieS 5)), (fn6 (sealsS 0) (sealsS 1) (sealsS 2) (sealsS 3) g4 (sealsS 5)), (fn6 (foldsS 0) (foldsS 1) (foldsS 2) (foldsS 3) g5 (foldsS 5)), (fn6 (nS 0) (nS 1) (nS 2) (nS 3) g6 (nS 5)), (fn6 (fS_ 0) (fS_ 1) (fS_ 2) (fS_ 3) g7 (fS_ 5)), 5)
set_option maxRecDepth 20000 in
def P_X1_push_4 (fS_ : Nat → Nat → Nat → Int32) (lie : Nat → Int32) (seals : Nat → Int32) (folds : Nat → Int32) (n : Nat → Int32) (f : Nat → Nat → Int32) : Prop := (P_X4_copy (fS_ 4) lie seals folds n f)
set_option maxRecDepth 20000 in
set_option maxHeartbeats 8000000 in
theorem m_X1_push_4 (l : Launch) (D : va_G) (cI cL cP cJ : ClassId) (hi : Nat) (sa : Nat) (PS : Nat → Nat) (AS : Nat → Nat) (LS : Nat → Nat → Nat) (hS_ : Nat → Nat → Nat) (vS : Nat → Nat → Nat) (lieS : Nat → Nat → Int32) (sealsS : Nat → Nat → Int32) (foldsS : Nat → Nat → Int32) (nS : Nat → Nat → Int32) (fS_ : Nat → Nat → Nat → Int32) (pl : Nat) (a : Nat) (L : Nat → Nat) (h : Nat → Nat) (v : Nat → Nat) (lie : Nat → Int32) (seals : Nat → Int32) (folds : Nat → Int32) (n : Nat → Int32) (f : Nat → Nat → Int32) (hp : P_X1_push_4 fS_ lie seals folds n f) : M vV l yX1_push cX1_push 2 none 4 86 D (tyF cI cL cP cJ) [.ref hi, .ref pl] [histB cI cL cP hi sa PS AS LS hS_ vS lieS sealsS foldsS nS fS_ 4, pileB cI cL pl a L h v lie seals folds n f] (fun (r : Unit) (w1 : List va_W) => w1 = [histB cI cL cP hi sa PS AS LS hS_ vS ((F_X1_push_4 lieS sealsS foldsS nS fS_ lie seals folds n f).1) ((F_X1_push_4 lieS sealsS foldsS nS fS_ lie seals folds n f).2.1) ((F_X1_push_4 lieS sealsS foldsS nS fS_ lie seals folds n f).2.2.1) ((F_X1_push_4 lieS sealsS foldsS nS fS_ lie seals folds n f).2.2.2.1) ((F_X1_push_4 lieS sealsS foldsS nS fS_ lie seals folds n f).2.2.2.2.1) ((F_X1_push_4 lieS sealsS foldsS nS fS_ lie seals folds n f).2.2.2.2.2), pileB cI cL pl a L h v lie seals folds n f]) := by
  unfold P_X1_push_4 at hp
  refine m_start (by decide +kernel) (Nat.le_of_ble_eq_true rfl) (fun p e s m args below meth c A Q hA hQ C hr hlo => ?_)
  refine r_Le (L' := [(0, .ref hi), (1, .ref pl)]) rfl ?_
  refine r_aload_n C dX1_push_0 0 rfl ?_
  refine r_ws (I' := [[(hi, .inr (0, [.ref sa, .int 4]))], [(sa, .inl (cP, 6, .inr (.inr (.inr (.inr (rfs PS))))))], pileB cI cL (PS 0) (AS 0) (LS 0) (hS_ 0) (vS 0) (lieS 0) (sealsS 0) (foldsS 0) (nS 0) (fS_ 0), pileB cI cL (PS 1) (AS 1) (LS 1) (hS_ 1) (vS 1) (lieS 1) (sealsS 1) (foldsS 1) (nS 1) (fS_ 1), pileB cI cL (PS 2) (AS 2) (LS 2) (hS_ 2) (vS 2) (lieS 2) (sealsS 2) (foldsS 2) (nS 2) (fS_ 2), pileB cI cL (PS 3) (AS 3) (LS 3) (hS_ 3) (vS 3) (lieS 3) (sealsS 3) (foldsS 3) (nS 3) (fS_ 3), pileB cI cL (PS 4) (AS 4) (LS 4) (hS_ 4) (vS 4) (lieS 4) (sealsS 4) (foldsS 4) (nS 4) (fS_ 4), pileB cI cL (PS 5) (AS 5) (LS 5) (hS_ 5) (vS 5) (lieS 5) (sealsS 5) (foldsS 5) (nS 5) (fS_ 5), pileB cI cL pl a L h v lie seals folds n f]) rfl ?_
  refine r_get (Cn := RX1) (T := TX1) (N := 2) C inT1 0 rfl rfl 1 (by decide) t_87 rfl dX1_push_1 ?_
  refine r_aload_n C dX1_push_4 0 rfl ?_
  refine r_get (Cn := RX1) (T := TX1) (N := 2) C inT1 0 rfl rfl 0 (by decide) t_86 rfl dX1_push_5 ?_
  refine r_alen (v := 6) C 1 2 rfl rfl rfl dX1_push_8 ?_
  refine r_icmp_lt (tgt := 16) C dX1_push_9 (by decide) (fun _ => ?_) (fun c => absurd c (by decide))
  refine r_aload_n C dX1_push_16 0 rfl ?_
  refine r_get (Cn := RX1) (T := TX1) (N := 2) C inT1 0 rfl rfl 1 (by decide) t_87 rfl dX1_push_17 ?_
  refine r_if_lt (tgt := 58) C dX1_push_20 (by decide) (fun c => absurd c (by decide)) (fun _ => ?_)
  refine r_aload_n C dX1_push_23 0 rfl ?_
  refine r_get (Cn := RX1) (T := TX1) (N := 2) C inT1 0 rfl rfl 1 (by decide) t_87 rfl dX1_push_24 ?_
  refine r_aload_n C dX1_push_27 0 rfl ?_
  refine r_get (Cn := RX1) (T := TX1) (N := 2) C inT1 0 rfl rfl 0 (by decide) t_86 rfl dX1_push_28 ?_
  refine r_alen (v := 6) C 1 2 rfl rfl rfl dX1_push_31 ?_
  refine r_icmp_ge (tgt := 58) C dX1_push_32 (by decide) (fun c => absurd c (by decide)) (fun _ => ?_)
  refine r_aload_n C dX1_push_35 0 rfl ?_
  refine r_get (Cn := RX1) (T := TX1) (N := 2) C inT1 0 rfl rfl 0 (by decide) t_86 rfl dX1_push_36 ?_
  refine r_aload_n C dX1_push_39 0 rfl ?_
  refine r_get (Cn := RX1) (T := TX1) (N := 2) C inT1 0 rfl rfl 1 (by decide) t_87 rfl dX1_push_40 ?_
  refine r_aald (x := (PS 4)) C 1 2 rfl rfl (vp_in_nI (n := 4) (N := 6) (by decide) (by decide)) dX1_push_43 rfl ?_
  refine r_aload_n C dX1_push_44 1 rfl ?_
  have h1 := hp
  refine r_callV (ci := 2) (wc := [pileB cI cL (PS 4) (AS 4) (LS 4) (hS_ 4) (vS 4) (lieS 4) (sealsS 4) (foldsS 4) (nS 4) (fS_ 4), pileB cI cL pl a L h v lie seals folds n f]) (wr := [[(hi, .inr (0, [.ref sa, .int 4]))], [(sa, .inl (cP, 6, .inr (.inr (.inr (.inr (rfs PS))))))], pileB cI cL (PS 0) (AS 0) (LS 0) (hS_ 0) (vS 0) (lieS 0) (sealsS 0) (foldsS 0) (nS 0) (fS_ 0), pileB cI cL (PS 1) (AS 1) (LS 1) (hS_ 1) (vS 1) (lieS 1) (sealsS 1) (foldsS 1) (nS 1) (fS_ 1), pileB cI cL (PS 2) (AS 2) (LS 2) (hS_ 2) (vS 2) (lieS 2) (sealsS 2) (foldsS 2) (nS 2) (fS_ 2), pileB cI cL (PS 3) (AS 3) (LS 3) (hS_ 3) (vS 3) (lieS 3) (sealsS 3) (foldsS 3) (nS 3) (fS_ 3), pileB cI cL (PS 5) (AS 5) (LS 5) (hS_ 5) (vS 5) (lieS 5) (sealsS 5) (foldsS 5) (nS 5) (fS_ 5)]) (st := []) C (m_X4_copy l D cI cL cP cJ (PS 4) (AS 4) (LS 4) (hS_ 4) (vS 4) (lieS 4) (sealsS 4) (foldsS 4) (nS 4) (fS_ 4) pl a L h v lie seals folds n f h1) k_X4_copy t_541 [6, 8, 0, 1, 2, 3, 4, 5, 7] (show ([6, 8, 0, 1, 2, 3, 4, 5, 7] : List Nat).Perm (List.range 9) by decide) rfl rfl rfl (q0 := 0) rfl rfl rfl (Nat.le_of_ble_eq_true rfl) ⟨Nat.le_of_ble_eq_true rfl, Nat.le_of_ble_eq_true rfl⟩ ⟨Nat.zero_le _, Nat.zero_le _⟩ dX1_push_45 (fun r2 wr2 hw2 => ?_)
  obtain rfl := hw2
  obtain ⟨g3, e_g3⟩ : ∃ z : Nat → Int32, z = (F_X4_copy (fS_ 4) lie seals folds n f).1 := ⟨_, rfl⟩
  obtain ⟨g4, e_g4⟩ : ∃ z : Nat → Int32, z = (F_X4_copy (fS_ 4) lie seals folds n f).2.1 := ⟨_, rfl⟩
  obtain ⟨g5, e_g5⟩ : ∃ z : Nat → Int32, z = (F_X4_copy (fS_ 4) lie seals folds n f).2.2.1 := ⟨_, rfl⟩
  obtain ⟨g6, e_g6⟩ : ∃ z : Nat → Int32, z = (F_X4_copy (fS_ 4) lie seals folds n f).2.2.2.1 := ⟨_, rfl⟩
  obtain ⟨g7, e_g7⟩ : ∃ z : Nat → Nat → Int32, z = (F_X4_copy (fS_ 4) lie seals folds n f).2.2.2.2 := ⟨_, rfl⟩
  refine r_ws (I' := [pileB cI cL (PS 4) (AS 4) (LS 4) (hS_ 4) (vS 4) g3 g4 g5 g6 g7, pileB cI cL pl a L h v lie seals folds n f, [(hi, .inr (0, [.ref sa, .int 4]))], [(sa, .inl (cP, 6, .inr (.inr (.inr (.inr (rfs PS))))))], pileB cI cL (PS 0) (AS 0) (LS 0) (hS_ 0) (vS 0) (lieS 0) (sealsS 0) (foldsS 0) (nS 0) (fS_ 0), pileB cI cL (PS 1) (AS 1) (LS 1) (hS_ 1) (vS 1) (lieS 1) (sealsS 1) (foldsS 1) (nS 1) (fS_ 1), pileB cI cL (PS 2) (AS 2) (LS 2) (hS_ 2) (vS 2) (lieS 2) (sealsS 2) (foldsS 2) (nS 2) (fS_ 2), pileB cI cL (PS 3) (AS 3) (LS 3) (hS_ 3) (vS 3) (lieS 3) (sealsS 3) (foldsS 3) (nS 3) (fS_ 3), pileB cI cL (PS 5) (AS 5) (LS 5) (hS_ 5) (vS 5) (lieS 5) (sealsS 5) (foldsS 5) (nS 5) (fS_ 5)]) (by rw [e_g3, e_g4, e_g5, e_g6, e_g7]; rfl) ?_
  refine r_aload_n C dX1_push_48 0 rfl ?_
  refine r_dup C dX1_push_49 rfl ?_
  refine r_get (Cn := RX1) (T := TX1) (N := 2) C inT1 2 rfl rfl 1 (by decide) t_87 rfl dX1_push_50 ?_
  refine r_iconst (v := 1) C dX1_push_53 (by decide) ?_
  refine r_iadd (z := 5) C dX1_push_54 (by decide) ?_
  refine r_put (Cn := RX1) (T := TX1) (N := 2) C inT1 2 rfl rfl 1 (by decide) t_87 tyX1 tyX1_ok nmX1 rfl rfl rfl (Nat.le_of_ble_eq_true rfl) (I' := [pileB cI cL (PS 4) (AS 4) (LS 4) (hS_ 4) (vS 4) g3 g4 g5 g6 g7, pileB cI cL pl a L h v lie seals folds n f, [(hi, .inr (0, [.ref sa, .int 5]))], [(sa, .inl (cP, 6, .inr (.inr (.inr (.inr (rfs PS))))))], pileB cI cL (PS 0) (AS 0) (LS 0) (hS_ 0) (vS 0) (lieS 0) (sealsS 0) (foldsS 0) (nS 0) (fS_ 0), pileB cI cL (PS 1) (AS 1) (LS 1) (hS_ 1) (vS 1) (lieS 1) (sealsS 1) (foldsS 1) (nS 1) (fS_ 1), pileB cI cL (PS 2) (AS 2) (LS 2) (hS_ 2) (vS 2) (lieS 2) (sealsS 2) (foldsS 2) (nS 2) (fS_ 2), pileB cI cL (PS 3) (AS 3) (LS 3) (hS_ 3) (vS 3) (lieS 3) (sealsS 3) (foldsS 3) (nS 3) (fS_ 3), pileB cI cL (PS 5) (AS 5) (LS 5) (hS_ 5) (vS 5) (lieS 5) (sealsS 5) (foldsS 5) (nS 5) (fS_ 5)]) rfl dX1_push_55 ?_
  refine r_pl (I' := [[(hi, .inr (0, [.ref sa, .int 5]))], [(sa, .inl (cP, 6, .inr (.inr (.inr (.inr (rfs PS))))))], pileB cI cL (PS 0) (AS 0) (LS 0) (hS_ 0) (vS 0) (lieS 0) (sealsS 0) (foldsS 0) (nS 0) (fS_ 0), pileB cI cL (PS 1) (AS 1) (LS 1) (hS_ 1) (vS 1) (lieS 1) (sealsS 1) (foldsS 1) (nS 1) (fS_ 1), pileB cI cL (PS 2) (AS 2) (LS 2) (hS_ 2) (vS 2) (lieS 2) (sealsS 2) (foldsS 2) (nS 2) (fS_ 2), pileB cI cL (PS 3) (AS 3) (LS 3) (hS_ 3) (vS 3) (lieS 3) (sealsS 3) (foldsS 3) (nS 3) (fS_ 3), pileB cI cL (PS 4) (AS 4) (LS 4) (hS_ 4) (vS 4) g3 g4 g5 g6 g7, pileB cI cL (PS 5) (AS 5) (LS 5) (hS_ 5) (vS 5) (lieS 5) (sealsS 5) (foldsS 5) (nS 5) (fS_ 5), pileB cI cL pl a L h v lie seals folds n f]) [2, 3, 4, 5, 6, 7, 0, 8, 1] (show ([2, 3, 4, 5, 6, 7, 0, 8, 1] : List Nat).Perm (List.range 9) by decide) rfl ?_
  refine r_ws (I' := [histB cI cL cP hi sa PS AS LS hS_ vS (fn6 (lieS 0) (lieS 1) (lieS 2) (lieS 3) g3 (lieS 5)) (fn6 (sealsS 0) (sealsS 1) (sealsS 2) (sealsS 3) g4 (sealsS 5)) (fn6 (foldsS 0) (foldsS 1) (foldsS 2) (foldsS 3) g5 (foldsS 5)) (fn6 (nS 0) (nS 1) (nS 2) (nS 3) g6 (nS 5)) (fn6 (fS_ 0) (fS_ 1) (fS_ 2) (fS_ 3) g7 (fS_ 5)) 5, pileB cI cL pl a L h v lie seals folds n f]) rfl ?_
  have eF : F_X1_push_4 lieS sealsS foldsS nS fS_ lie seals folds n f = ((fn6 (lieS 0) (lieS 1) (lieS 2) (lieS 3) g3 (lieS 5)), (fn6 (sealsS 0) (sealsS 1) (sealsS 2) (sealsS 3) g4 (sealsS 5)), (fn6 (foldsS 0) (foldsS 1) (foldsS 2) (foldsS 3) g5 (foldsS 5)), (fn6 (nS 0) (nS 1) (nS 2) (nS 3) g6 (nS 5)), (fn6 (fS_ 0) (fS_ 1) (fS_ 2) (fS_ 3) g7 (fS_ 5)), 5) := by have q := e_g3.symm; subst q; have q := e_g4.symm; subst q; have q := e_g5.symm; subst q; have q := e_g6.symm; subst q; have q := e_g7.symm; subst q; rfl
  exact r_vret (r := ()) C hA hr hlo dX1_push_58 [histB cI cL cP hi sa PS AS LS hS_ vS (fn6 (lieS 0) (lieS 1) (lieS 2) (lieS 3) g3 (lieS 5)) (fn6 (sealsS 0) (sealsS 1) (sealsS 2) (sealsS 3) g4 (sealsS 5)) (fn6 (foldsS 0) (foldsS 1) (foldsS 2) (foldsS 3) g5 (foldsS 5)) (fn6 (nS 0) (nS 1) (nS 2) (nS 3) g6 (nS 5)) (fn6 (fS_ 0) (fS_ 1) (fS_ 2) (fS_ 3) g7 (fS_ 5)) 5, pileB cI cL pl a L h v lie seals folds n f] (by simp only [eF]) rfl hQ
set_option maxRecDepth 20000 in
def F_X1_push_5 (lieS : Nat → Nat → Int32) (sealsS : Nat → Nat → Int32) (foldsS : Nat → Nat → Int32) (nS : Nat → Nat → Int32) (fS_ : Nat → Nat → Nat → Int32) (lie : Nat → Int32) (seals : Nat → Int32) (folds : Nat → Int32) (n : Nat → Int32) (f : Nat → Nat → Int32) : (Nat → Nat → Int32) × (Nat → Nat → Int32) × (Nat → Nat → Int32) × (Nat → Nat → Int32) × (Nat → Nat → Nat → Int32) × Int32 := let g3 : Nat → Int32 := (F_X4_copy (fS_ 5) lie seals folds n f).1; let g4 : Nat → Int32 := (F_X4_copy (fS_ 5) lie seals folds n f).2.1; let g5 : Nat → Int32 := (F_X4_copy (fS_ 5) lie seals folds n f).2.2.1; let g6 : Nat → Int32 := (F_X4_copy (fS_ 5) lie seals folds n f).2.2.2.1; let g7 : Nat → Nat → Int32 := (F_X4_copy (fS_ 5) lie seals folds n f).2.2.2.2; ((fn6 (lieS 0) (lieS 1) (lieS 2) (lieS 3) (lieS 4) g3), (fn6 (sealsS 0) (sealsS 1) (sealsS 2) (sealsS 3) (sealsS 4) g4), (fn6 (foldsS 0) (foldsS 1) (foldsS 2) (foldsS 3) (foldsS 4) g5), (fn6 (nS 0) (nS 1) (nS 2) (nS 3) (nS 4) g6), (fn6 (fS_ 0) (fS_ 1) (fS_ 2) (fS_ 3) (fS_ 4) g7), 6)
set_option maxRecDepth 20000 in
def P_X1_push_5 (fS_ : Nat → Nat → Nat → Int32) (lie : Nat → Int32) (seals : Nat → Int32) (folds : Nat → Int32) (n : Nat → Int32) (f : Nat → Nat → Int32) : Prop := (P_X4_copy (fS_ 5) lie seals folds n f)
set_option maxRecDepth 20000 in
set_option maxHeartbeats 8000000 in
theorem m_X1_push_5 (l : Launch) (D : va_G) (cI cL cP cJ : ClassId) (hi : Nat) (sa : Nat) (PS : Nat → Nat) (AS : Nat → Nat) (LS : Nat → Nat → Nat) (hS_ : Nat → Nat → Nat) (vS : Nat → Nat → Nat) (lieS : Nat → Nat → Int32) (sealsS : Nat → Nat → Int32) (foldsS : Nat → Nat → Int32) (nS : Nat → Nat → Int32) (fS_ : Nat → Nat → Nat → Int32) (pl : Nat) (a : Nat) (L : Nat → Nat) (h : Nat → Nat) (v : Nat → Nat) (lie : Nat → Int32) (seals : Nat → Int32) (folds : Nat → Int32) (n : Nat → Int32) (f : Nat → Nat → Int32) (hp : P_X1_push_5 fS_ lie seals folds n f) : M vV l yX1_push cX1_push 2 none 4 86 D (tyF cI cL cP cJ) [.ref hi, .ref pl] [histB cI cL cP hi sa PS AS LS hS_ vS lieS sealsS foldsS nS fS_ 5, pileB cI cL pl a L h v lie seals folds n f] (fun (r : Unit) (w1 : List va_W) => w1 = [histB cI cL cP hi sa PS AS LS hS_ vS ((F_X1_push_5 lieS sealsS foldsS nS fS_ lie seals folds n f).1) ((F_X1_push_5 lieS sealsS foldsS nS fS_ lie seals folds n f).2.1) ((F_X1_push_5 lieS sealsS foldsS nS fS_ lie seals folds n f).2.2.1) ((F_X1_push_5 lieS sealsS foldsS nS fS_ lie seals folds n f).2.2.2.1) ((F_X1_push_5 lieS sealsS foldsS nS fS_ lie seals folds n f).2.2.2.2.1) ((F_X1_push_5 lieS sealsS foldsS nS fS_ lie seals folds n f).2.2.2.2.2), pileB cI cL pl a L h v lie seals folds n f]) := by
  unfold P_X1_push_5 at hp
  refine m_start (by decide +kernel) (Nat.le_of_ble_eq_true rfl) (fun p e s m args below meth c A Q hA hQ C hr hlo => ?_)
  refine r_Le (L' := [(0, .ref hi), (1, .ref pl)]) rfl ?_
  refine r_aload_n C dX1_push_0 0 rfl ?_
  refine r_ws (I' := [[(hi, .inr (0, [.ref sa, .int 5]))], [(sa, .inl (cP, 6, .inr (.inr (.inr (.inr (rfs PS))))))], pileB cI cL (PS 0) (AS 0) (LS 0) (hS_ 0) (vS 0) (lieS 0) (sealsS 0) (foldsS 0) (nS 0) (fS_ 0), pileB cI cL (PS 1) (AS 1) (LS 1) (hS_ 1) (vS 1) (lieS 1) (sealsS 1) (foldsS 1) (nS 1) (fS_ 1), pileB cI cL (PS 2) (AS 2) (LS 2) (hS_ 2) (vS 2) (lieS 2) (sealsS 2) (foldsS 2) (nS 2) (fS_ 2), pileB cI cL (PS 3) (AS 3) (LS 3) (hS_ 3) (vS 3) (lieS 3) (sealsS 3) (foldsS 3) (nS 3) (fS_ 3), pileB cI cL (PS 4) (AS 4) (LS 4) (hS_ 4) (vS 4) (lieS 4) (sealsS 4) (foldsS 4) (nS 4) (fS_ 4), pileB cI cL (PS 5) (AS 5) (LS 5) (hS_ 5) (vS 5) (lieS 5) (sealsS 5) (foldsS 5) (nS 5) (fS_ 5), pileB cI cL pl a L h v lie seals folds n f]) rfl ?_
  refine r_get (Cn := RX1) (T := TX1) (N := 2) C inT1 0 rfl rfl 1 (by decide) t_87 rfl dX1_push_1 ?_
  refine r_aload_n C dX1_push_4 0 rfl ?_
  refine r_get (Cn := RX1) (T := TX1) (N := 2) C inT1 0 rfl rfl 0 (by decide) t_86 rfl dX1_push_5 ?_
  refine r_alen (v := 6) C 1 2 rfl rfl rfl dX1_push_8 ?_
  refine r_icmp_lt (tgt := 16) C dX1_push_9 (by decide) (fun _ => ?_) (fun c => absurd c (by decide))
  refine r_aload_n C dX1_push_16 0 rfl ?_
  refine r_get (Cn := RX1) (T := TX1) (N := 2) C inT1 0 rfl rfl 1 (by decide) t_87 rfl dX1_push_17 ?_
  refine r_if_lt (tgt := 58) C dX1_push_20 (by decide) (fun c => absurd c (by decide)) (fun _ => ?_)
  refine r_aload_n C dX1_push_23 0 rfl ?_
  refine r_get (Cn := RX1) (T := TX1) (N := 2) C inT1 0 rfl rfl 1 (by decide) t_87 rfl dX1_push_24 ?_
  refine r_aload_n C dX1_push_27 0 rfl ?_
  refine r_get (Cn := RX1) (T := TX1) (N := 2) C inT1 0 rfl rfl 0 (by decide) t_86 rfl dX1_push_28 ?_
  refine r_alen (v := 6) C 1 2 rfl rfl rfl dX1_push_31 ?_
  refine r_icmp_ge (tgt := 58) C dX1_push_32 (by decide) (fun c => absurd c (by decide)) (fun _ => ?_)
  refine r_aload_n C dX1_push_35 0 rfl ?_
  refine r_get (Cn := RX1) (T := TX1) (N := 2) C inT1 0 rfl rfl 0 (by decide) t_86 rfl dX1_push_36 ?_
  refine r_aload_n C dX1_push_39 0 rfl ?_
  refine r_get (Cn := RX1) (T := TX1) (N := 2) C inT1 0 rfl rfl 1 (by decide) t_87 rfl dX1_push_40 ?_
  refine r_aald (x := (PS 5)) C 1 2 rfl rfl (vp_in_nI (n := 5) (N := 6) (by decide) (by decide)) dX1_push_43 rfl ?_
  refine r_aload_n C dX1_push_44 1 rfl ?_
  have h1 := hp
  refine r_callV (ci := 2) (wc := [pileB cI cL (PS 5) (AS 5) (LS 5) (hS_ 5) (vS 5) (lieS 5) (sealsS 5) (foldsS 5) (nS 5) (fS_ 5), pileB cI cL pl a L h v lie seals folds n f]) (wr := [[(hi, .inr (0, [.ref sa, .int 5]))], [(sa, .inl (cP, 6, .inr (.inr (.inr (.inr (rfs PS))))))], pileB cI cL (PS 0) (AS 0) (LS 0) (hS_ 0) (vS 0) (lieS 0) (sealsS 0) (foldsS 0) (nS 0) (fS_ 0), pileB cI cL (PS 1) (AS 1) (LS 1) (hS_ 1) (vS 1) (lieS 1) (sealsS 1) (foldsS 1) (nS 1) (fS_ 1), pileB cI cL (PS 2) (AS 2) (LS 2) (hS_ 2) (vS 2) (lieS 2) (sealsS 2) (foldsS 2) (nS 2) (fS_ 2), pileB cI cL (PS 3) (AS 3) (LS 3) (hS_ 3) (vS 3) (lieS 3) (sealsS 3) (foldsS 3) (nS 3) (fS_ 3), pileB cI cL (PS 4) (AS 4) (LS 4) (hS_ 4) (vS 4) (lieS 4) (sealsS 4) (foldsS 4) (nS 4) (fS_ 4)]) (st := []) C (m_X4_copy l D cI cL cP cJ (PS 5) (AS 5) (LS 5) (hS_ 5) (vS 5) (lieS 5) (sealsS 5) (foldsS 5) (nS 5) (fS_ 5) pl a L h v lie seals folds n f h1) k_X4_copy t_541 [7, 8, 0, 1, 2, 3, 4, 5, 6] (show ([7, 8, 0, 1, 2, 3, 4, 5, 6] : List Nat).Perm (List.range 9) by decide) rfl rfl rfl (q0 := 0) rfl rfl rfl (Nat.le_of_ble_eq_true rfl) ⟨Nat.le_of_ble_eq_true rfl, Nat.le_of_ble_eq_true rfl⟩ ⟨Nat.zero_le _, Nat.zero_le _⟩ dX1_push_45 (fun r2 wr2 hw2 => ?_)
  obtain rfl := hw2
  obtain ⟨g3, e_g3⟩ : ∃ z : Nat → Int32, z = (F_X4_copy (fS_ 5) lie seals folds n f).1 := ⟨_, rfl⟩
  obtain ⟨g4, e_g4⟩ : ∃ z : Nat → Int32, z = (F_X4_copy (fS_ 5) lie seals folds n f).2.1 := ⟨_, rfl⟩
  obtain ⟨g5, e_g5⟩ : ∃ z : Nat → Int32, z = (F_X4_copy (fS_ 5) lie seals folds n f).2.2.1 := ⟨_, rfl⟩
  obtain ⟨g6, e_g6⟩ : ∃ z : Nat → Int32, z = (F_X4_copy (fS_ 5) lie seals folds n f).2.2.2.1 := ⟨_, rfl⟩
  obtain ⟨g7, e_g7⟩ : ∃ z : Nat → Nat → Int32, z = (F_X4_copy (fS_ 5) lie seals folds n f).2.2.2.2 := ⟨_, rfl⟩
  refine r_ws (I' := [pileB cI cL (PS 5) (AS 5) (LS 5) (hS_ 5) (vS 5) g3 g4 g5 g6 g7, pileB cI cL pl a L h v lie seals folds n f, [(hi, .inr (0, [.ref sa, .int 5]))], [(sa, .inl (cP, 6, .inr (.inr (.inr (.inr (rfs PS))))))], pileB cI cL (PS 0) (AS 0) (LS 0) (hS_ 0) (vS 0) (lieS 0) (sealsS 0) (foldsS 0) (nS 0) (fS_ 0), pileB cI cL (PS 1) (AS 1) (LS 1) (hS_ 1) (vS 1) (lieS 1) (sealsS 1) (foldsS 1) (nS 1) (fS_ 1), pileB cI cL (PS 2) (AS 2) (LS 2) (hS_ 2) (vS 2) (lieS 2) (sealsS 2) (foldsS 2) (nS 2) (fS_ 2), pileB cI cL (PS 3) (AS 3) (LS 3) (hS_ 3) (vS 3) (lieS 3) (sealsS 3) (foldsS 3) (nS 3) (fS_ 3), pileB cI cL (PS 4) (AS 4) (LS 4) (hS_ 4) (vS 4) (lieS 4) (sealsS 4) (foldsS 4) (nS 4) (fS_ 4)]) (by rw [e_g3, e_g4, e_g5, e_g6, e_g7]; rfl) ?_
  refine r_aload_n C dX1_push_48 0 rfl ?_
  refine r_dup C dX1_push_49 rfl ?_
  refine r_get (Cn := RX1) (T := TX1) (N := 2) C inT1 2 rfl rfl 1 (by decide) t_87 rfl dX1_push_50 ?_
  refine r_iconst (v := 1) C dX1_push_53 (by decide) ?_
  refine r_iadd (z := 6) C dX1_push_54 (by decide) ?_
  refine r_put (Cn := RX1) (T := TX1) (N := 2) C inT1 2 rfl rfl 1 (by decide) t_87 tyX1 tyX1_ok nmX1 rfl rfl rfl (Nat.le_of_ble_eq_true rfl) (I' := [pileB cI cL (PS 5) (AS 5) (LS 5) (hS_ 5) (vS 5) g3 g4 g5 g6 g7, pileB cI cL pl a L h v lie seals folds n f, [(hi, .inr (0, [.ref sa, .int 6]))], [(sa, .inl (cP, 6, .inr (.inr (.inr (.inr (rfs PS))))))], pileB cI cL (PS 0) (AS 0) (LS 0) (hS_ 0) (vS 0) (lieS 0) (sealsS 0) (foldsS 0) (nS 0) (fS_ 0), pileB cI cL (PS 1) (AS 1) (LS 1) (hS_ 1) (vS 1) (lieS 1) (sealsS 1) (foldsS 1) (nS 1) (fS_ 1), pileB cI cL (PS 2) (AS 2) (LS 2) (hS_ 2) (vS 2) (lieS 2) (sealsS 2) (foldsS 2) (nS 2) (fS_ 2), pileB cI cL (PS 3) (AS 3) (LS 3) (hS_ 3) (vS 3) (lieS 3) (sealsS 3) (foldsS 3) (nS 3) (fS_ 3), pileB cI cL (PS 4) (AS 4) (LS 4) (hS_ 4) (vS 4) (lieS 4) (sealsS 4) (foldsS 4) (nS 4) (fS_ 4)]) rfl dX1_push_55 ?_
  refine r_pl (I' := [[(hi, .inr (0, [.ref sa, .int 6]))], [(sa, .inl (cP, 6, .inr (.inr (.inr (.inr (rfs PS))))))], pileB cI cL (PS 0) (AS 0) (LS 0) (hS_ 0) (vS 0) (lieS 0) (sealsS 0) (foldsS 0) (nS 0) (fS_ 0), pileB cI cL (PS 1) (AS 1) (LS 1) (hS_ 1) (vS 1) (lieS 1) (sealsS 1) (foldsS 1) (nS 1) (fS_ 1), pileB cI cL (PS 2) (AS 2) (LS 2) (hS_ 2) (vS 2) (lieS 2) (sealsS 2) (foldsS 2) (nS 2) (fS_ 2), pileB cI cL (PS 3) (AS 3) (LS 3) (hS_ 3) (vS 3) (lieS 3) (sealsS 3) (foldsS 3) (nS 3) (fS_ 3), pileB cI cL (PS 4) (AS 4) (LS 4) (hS_ 4) (vS 4) (lieS 4) (sealsS 4) (foldsS 4) (nS 4) (fS_ 4), pileB cI cL (PS 5) (AS 5) (LS 5) (hS_ 5) (vS 5) g3 g4 g5 g6 g7, pileB cI cL pl a L h v lie seals folds n f]) [2, 3, 4, 5, 6, 7, 8, 0, 1] (show ([2, 3, 4, 5, 6, 7, 8, 0, 1] : List Nat).Perm (List.range 9) by decide) rfl ?_
  refine r_ws (I' := [histB cI cL cP hi sa PS AS LS hS_ vS (fn6 (lieS 0) (lieS 1) (lieS 2) (lieS 3) (lieS 4) g3) (fn6 (sealsS 0) (sealsS 1) (sealsS 2) (sealsS 3) (sealsS 4) g4) (fn6 (foldsS 0) (foldsS 1) (foldsS 2) (foldsS 3) (foldsS 4) g5) (fn6 (nS 0) (nS 1) (nS 2) (nS 3) (nS 4) g6) (fn6 (fS_ 0) (fS_ 1) (fS_ 2) (fS_ 3) (fS_ 4) g7) 6, pileB cI cL pl a L h v lie seals folds n f]) rfl ?_
  have eF : F_X1_push_5 lieS sealsS foldsS nS fS_ lie seals folds n f = ((fn6 (lieS 0) (lieS 1) (lieS 2) (lieS 3) (lieS 4) g3), (fn6 (sealsS 0) (sealsS 1) (sealsS 2) (sealsS 3) (sealsS 4) g4), (fn6 (foldsS 0) (foldsS 1) (foldsS 2) (foldsS 3) (foldsS 4) g5), (fn6 (nS 0) (nS 1) (nS 2) (nS 3) (nS 4) g6), (fn6 (fS_ 0) (fS_ 1) (fS_ 2) (fS_ 3) (fS_ 4) g7), 6) := by have q := e_g3.symm; subst q; have q := e_g4.symm; subst q; have q := e_g5.symm; subst q; have q := e_g6.symm; subst q; have q := e_g7.symm; subst q; rfl
  exact r_vret (r := ()) C hA hr hlo dX1_push_58 [histB cI cL cP hi sa PS AS LS hS_ vS (fn6 (lieS 0) (lieS 1) (lieS 2) (lieS 3) (lieS 4) g3) (fn6 (sealsS 0) (sealsS 1) (sealsS 2) (sealsS 3) (sealsS 4) g4) (fn6 (foldsS 0) (foldsS 1) (foldsS 2) (foldsS 3) (foldsS 4) g5) (fn6 (nS 0) (nS 1) (nS 2) (nS 3) (nS 4) g6) (fn6 (fS_ 0) (fS_ 1) (fS_ 2) (fS_ 3) (fS_ 4) g7) 6, pileB cI cL pl a L h v lie seals folds n f] (by simp only [eF]) rfl hQ

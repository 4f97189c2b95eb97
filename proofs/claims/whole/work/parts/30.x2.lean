def PX_X10_fold_1 (letter : Int32) (crease : Int32) : Prop := ((PX_X4_atB_1 letter) ∨ ((P_X4_atB letter) ∧ (PX_X10_needCrease_1 crease)))
set_option maxRecDepth 20000 in
set_option maxHeartbeats 8000000 in
theorem mx_X10_fold_1 (l : Launch) (D : va_G) (cI cL cP cJ : ClassId) (fl : Nat) (pl : Nat) (a : Nat) (L : Nat → Nat) (h : Nat → Nat) (v : Nat → Nat) (lie : Nat → Int32) (seals : Nat → Int32) (folds : Nat → Int32) (n : Nat → Int32) (f : Nat → Nat → Int32) (pl2 : Nat) (hi : Nat) (sa : Nat) (PS : Nat → Nat) (AS : Nat → Nat) (LS : Nat → Nat → Nat) (hS_ : Nat → Nat → Nat) (vS : Nat → Nat → Nat) (lieS : Nat → Nat → Int32) (sealsS : Nat → Nat → Int32) (foldsS : Nat → Nat → Int32) (nS : Nat → Nat → Int32) (fS_ : Nat → Nat → Nat → Int32) (size : Int32) (tx : Nat) (u : Nat) (w : Nat) (taken : Int32) (letter : Int32) (crease : Int32) (hp : PX_X10_fold_1 letter crease) : MX l yX10_fold cX10_fold 4 (some .int) 7 119 D (tyF cI cL cP cJ) [.ref fl, .int letter, .int crease] [[(fl, .inr (8, [.ref pl, .ref pl2, .ref hi, .ref tx, .ref u, .ref w, .int taken]))], pileB cI cL pl a L h v lie seals folds n f, histB cI cL cP hi sa PS AS LS hS_ vS lieS sealsS foldsS nS fS_ size] [[(fl, .inr (8, [.ref pl, .ref pl2, .ref hi, .ref tx, .ref u, .ref w, .int taken]))], pileB cI cL pl a L h v lie seals folds n f, histB cI cL cP hi sa PS AS LS hS_ vS lieS sealsS foldsS nS fS_ size] "java/lang/IndexOutOfBoundsException" := by
  unfold PX_X10_fold_1 at hp
  refine mx_start (by decide +kernel) (Nat.le_of_ble_eq_true rfl) (fun p e s m args below meth c A Q hA hQ C X => ?_)
  refine r_Le (L' := [(0, .ref fl), (1, .int letter), (2, .int crease)]) rfl ?_
  refine r_aload_n C dX10_fold_0 0 rfl ?_
  refine r_get (Cn := RX10) (T := TX10) (N := 7) C inT10 0 rfl rfl 0 (by decide) t_219 rfl dX10_fold_1 ?_
  refine r_iload_n C dX10_fold_4 1 rfl ?_
  rcases hp with h1 | hp
  · refine r_xV (ci := 2) (wc := [pileB cI cL pl a L h v lie seals folds n f]) (wr := [[(fl, .inr (8, [.ref pl, .ref pl2, .ref hi, .ref tx, .ref u, .ref w, .int taken]))], histB cI cL cP hi sa PS AS LS hS_ vS lieS sealsS foldsS nS fS_ size]) (w1c := [pileB cI cL pl a L h v lie seals folds n f]) (st := []) C X.2.2.1 X.2.2.2.1 X.2.2.2.2 (mx_X4_atB_1 l D cI cL cP cJ pl a L h v lie seals folds n f letter h1) k_X4_at t_525 [1, 0, 2] (show ([1, 0, 2] : List Nat).Perm (List.range 3) by decide) rfl rfl rfl (q0 := 0) rfl rfl rfl (Nat.le_of_ble_eq_true rfl) ⟨Nat.le_of_ble_eq_true rfl, Nat.le_of_ble_eq_true rfl⟩ ⟨Nat.le_of_ble_eq_true rfl, Nat.le_of_ble_eq_true rfl⟩ dX10_fold_5 ?_
    exact r_out (w1 := [[(fl, .inr (8, [.ref pl, .ref pl2, .ref hi, .ref tx, .ref u, .ref w, .int taken]))], pileB cI cL pl a L h v lie seals folds n f, histB cI cL cP hi sa PS AS LS hS_ vS lieS sealsS foldsS nS fS_ size]) C X hA hQ [1, 0, 2] (show ([1, 0, 2] : List Nat).Perm (List.range 3) by decide) rfl
  · obtain ⟨h2, hp⟩ := hp
    refine r_callV (ci := 2) (wc := [pileB cI cL pl a L h v lie seals folds n f]) (wr := [[(fl, .inr (8, [.ref pl, .ref pl2, .ref hi, .ref tx, .ref u, .ref w, .int taken]))], histB cI cL cP hi sa PS AS LS hS_ vS lieS sealsS foldsS nS fS_ size]) (st := []) C (m_X4_atB l D cI cL cP cJ pl a L h v lie seals folds n f letter h2) k_X4_at t_525 [1, 0, 2] (show ([1, 0, 2] : List Nat).Perm (List.range 3) by decide) rfl rfl rfl (q0 := 0) rfl rfl rfl (Nat.le_of_ble_eq_true rfl) ⟨Nat.le_of_ble_eq_true rfl, Nat.le_of_ble_eq_true rfl⟩ ⟨Nat.zero_le _, Nat.zero_le _⟩ dX10_fold_5 (fun r3 wr3 hw3 => ?_)
    obtain ⟨rfl, rfl⟩ := hw3
    refine r_ws (I' := [pileB cI cL pl a L h v lie seals folds n f, [(fl, .inr (8, [.ref pl, .ref pl2, .ref hi, .ref tx, .ref u, .ref w, .int taken]))], histB cI cL cP hi sa PS AS LS hS_ vS lieS sealsS foldsS nS fS_ size]) rfl ?_
    refine r_astore_n (L' := [(3, .ref (L letter.toNatClampNeg)), (0, .ref fl), (1, .int letter), (2, .int crease)]) C dX10_fold_8 (by decide) rfl ?_
    refine r_iload_n C dX10_fold_9 3 rfl ?_
    have h4 := hp
    refine r_xS (wc := []) (wr := [pileB cI cL pl a L h v lie seals folds n f, [(fl, .inr (8, [.ref pl, .ref pl2, .ref hi, .ref tx, .ref u, .ref w, .int taken]))], histB cI cL cP hi sa PS AS LS hS_ vS lieS sealsS foldsS nS fS_ size]) (w1c := []) (st := []) C X.2.2.1 X.2.2.2.1 X.2.2.2.2 (mx_X10_needCrease_1 l D cI cL cP cJ crease h4) k_X10_needCrease t_562 [0, 1, 2] (show ([0, 1, 2] : List Nat).Perm (List.range 3) by decide) rfl rfl rfl (Nat.le_of_ble_eq_true rfl) ⟨Nat.le_of_ble_eq_true rfl, Nat.le_of_ble_eq_true rfl⟩ ⟨Nat.le_of_ble_eq_true rfl, Nat.le_of_ble_eq_true rfl⟩ dX10_fold_10 ?_
    exact r_out (w1 := [[(fl, .inr (8, [.ref pl, .ref pl2, .ref hi, .ref tx, .ref u, .ref w, .int taken]))], pileB cI cL pl a L h v lie seals folds n f, histB cI cL cP hi sa PS AS LS hS_ vS lieS sealsS foldsS nS fS_ size]) C X hA hQ [1, 0, 2] (show ([1, 0, 2] : List Nat).Perm (List.range 3) by decide) rfl
def PX_X10_fold_3 (seals : Nat → Int32) (n : Nat → Int32) (letter : Int32) (crease : Int32) : Prop := ((P_X4_atB letter) ∧ ((P_X10_needCrease crease) ∧ ((P_X2_reasonAgainst_P letter.toNatClampNeg) ∧ (∀ r6 : Int32, r6 = F_X2_reasonAgainst_P seals n letter.toNatClampNeg crease → (¬ r6 = 0)))))
set_option maxRecDepth 20000 in
set_option maxHeartbeats 8000000 in
theorem mx_X10_fold_3 (l : Launch) (D : va_G) (cI cL cP cJ : ClassId) (fl : Nat) (pl : Nat) (a : Nat) (L : Nat → Nat) (h : Nat → Nat) (v : Nat → Nat) (lie : Nat → Int32) (seals : Nat → Int32) (folds : Nat → Int32) (n : Nat → Int32) (f : Nat → Nat → Int32) (pl2 : Nat) (hi : Nat) (sa : Nat) (PS : Nat → Nat) (AS : Nat → Nat) (LS : Nat → Nat → Nat) (hS_ : Nat → Nat → Nat) (vS : Nat → Nat → Nat) (lieS : Nat → Nat → Int32) (sealsS : Nat → Nat → Int32) (foldsS : Nat → Nat → Int32) (nS : Nat → Nat → Int32) (fS_ : Nat → Nat → Nat → Int32) (size : Int32) (tx : Nat) (u : Nat) (w : Nat) (taken : Int32) (letter : Int32) (crease : Int32) (hp : PX_X10_fold_3 seals n letter crease) : MX l yX10_fold cX10_fold 4 (some .int) 6 108 D (tyF cI cL cP cJ) [.ref fl, .int letter, .int crease] [[(fl, .inr (8, [.ref pl, .ref pl2, .ref hi, .ref tx, .ref u, .ref w, .int taken]))], pileB cI cL pl a L h v lie seals folds n f, histB cI cL cP hi sa PS AS LS hS_ vS lieS sealsS foldsS nS fS_ size] [[(fl, .inr (8, [.ref pl, .ref pl2, .ref hi, .ref tx, .ref u, .ref w, .int taken]))], pileB cI cL pl a L h v lie seals folds n f, histB cI cL cP hi sa PS AS LS hS_ vS lieS sealsS foldsS nS fS_ size] "java/lang/IllegalStateException" := by
  unfold PX_X10_fold_3 at hp
  refine mx_start (by decide +kernel) (Nat.le_of_ble_eq_true rfl) (fun p e s m args below meth c A Q hA hQ C X => ?_)
  refine r_Le (L' := [(0, .ref fl), (1, .int letter), (2, .int crease)]) rfl ?_
  refine r_aload_n C dX10_fold_0 0 rfl ?_
  refine r_get (Cn := RX10) (T := TX10) (N := 7) C inT10 0 rfl rfl 0 (by decide) t_219 rfl dX10_fold_1 ?_
  refine r_iload_n C dX10_fold_4 1 rfl ?_
  obtain ⟨h1, hp⟩ := hp
  refine r_callV (ci := 2) (wc := [pileB cI cL pl a L h v lie seals folds n f]) (wr := [[(fl, .inr (8, [.ref pl, .ref pl2, .ref hi, .ref tx, .ref u, .ref w, .int taken]))], histB cI cL cP hi sa PS AS LS hS_ vS lieS sealsS foldsS nS fS_ size]) (st := []) C (m_X4_atB l D cI cL cP cJ pl a L h v lie seals folds n f letter h1) k_X4_at t_525 [1, 0, 2] (show ([1, 0, 2] : List Nat).Perm (List.range 3) by decide) rfl rfl rfl (q0 := 0) rfl rfl rfl (Nat.le_of_ble_eq_true rfl) ⟨Nat.le_of_ble_eq_true rfl, Nat.le_of_ble_eq_true rfl⟩ ⟨Nat.zero_le _, Nat.zero_le _⟩ dX10_fold_5 (fun r2 wr2 hw2 => ?_)
  obtain ⟨rfl, rfl⟩ := hw2
  refine r_ws (I' := [pileB cI cL pl a L h v lie seals folds n f, [(fl, .inr (8, [.ref pl, .ref pl2, .ref hi, .ref tx, .ref u, .ref w, .int taken]))], histB cI cL cP hi sa PS AS LS hS_ vS lieS sealsS foldsS nS fS_ size]) rfl ?_
  refine r_astore_n (L' := [(3, .ref (L letter.toNatClampNeg)), (0, .ref fl), (1, .int letter), (2, .int crease)]) C dX10_fold_8 (by decide) rfl ?_
  refine r_iload_n C dX10_fold_9 3 rfl ?_
  obtain ⟨h3, hp⟩ := hp
  refine r_callS (wc := []) (wr := [pileB cI cL pl a L h v lie seals folds n f, [(fl, .inr (8, [.ref pl, .ref pl2, .ref hi, .ref tx, .ref u, .ref w, .int taken]))], histB cI cL cP hi sa PS AS LS hS_ vS lieS sealsS foldsS nS fS_ size]) (st := []) C (m_X10_needCrease l D cI cL cP cJ crease h3) k_X10_needCrease t_562 [0, 1, 2] (show ([0, 1, 2] : List Nat).Perm (List.range 3) by decide) rfl rfl rfl (Nat.le_of_ble_eq_true rfl) ⟨Nat.le_of_ble_eq_true rfl, Nat.le_of_ble_eq_true rfl⟩ ⟨Nat.zero_le _, Nat.zero_le _⟩ dX10_fold_10 (fun r4 wr4 hw4 => ?_)
  obtain rfl := hw4
  refine r_ws (I' := [pileB cI cL pl a L h v lie seals folds n f, [(fl, .inr (8, [.ref pl, .ref pl2, .ref hi, .ref tx, .ref u, .ref w, .int taken]))], histB cI cL cP hi sa PS AS LS hS_ vS lieS sealsS foldsS nS fS_ size]) rfl ?_
  refine r_aload_n C dX10_fold_13 0 rfl ?_
  refine r_iload_n C dX10_fold_14 3 rfl ?_
  obtain ⟨h5, hp⟩ := hp
  refine r_callVX (ci := 1) (wc := [pileB cI cL pl a L h v lie seals folds n f]) (wr := [[(fl, .inr (8, [.ref pl, .ref pl2, .ref hi, .ref tx, .ref u, .ref w, .int taken]))], histB cI cL cP hi sa PS AS LS hS_ vS lieS sealsS foldsS nS fS_ size]) (st := []) C (m_X2_reasonAgainst_P l D cI cL cP cJ pl a L h v lie seals folds n f letter.toNatClampNeg crease h5) k_X2_reasonAgainst t_566 [0, 1, 2] (show ([0, 1, 2] : List Nat).Perm (List.range 3) by decide) rfl rfl rfl (pile_L (by have q := h5; unfold P_X2_reasonAgainst_P at q; exact q)) rfl rfl (Nat.le_of_ble_eq_true rfl) ⟨Nat.le_of_ble_eq_true rfl, Nat.le_of_ble_eq_true rfl⟩ ⟨Nat.zero_le _, Nat.zero_le _⟩ dX10_fold_15 (fun r6 wr6 hw6 => ?_)
  obtain ⟨e_r6, rfl⟩ := hw6
  have hp := hp r6 e_r6
  refine r_ws (I' := [pileB cI cL pl a L h v lie seals folds n f, [(fl, .inr (8, [.ref pl, .ref pl2, .ref hi, .ref tx, .ref u, .ref w, .int taken]))], histB cI cL cP hi sa PS AS LS hS_ vS lieS sealsS foldsS nS fS_ size]) rfl ?_
  refine r_if_eq (tgt := 31) C dX10_fold_18 (by decide) (fun c7 => ?_) (fun c7 => ?_)
  · exact absurd c7 hp
  · refine r_pl (I' := [[(fl, .inr (8, [.ref pl, .ref pl2, .ref hi, .ref tx, .ref u, .ref w, .int taken]))], pileB cI cL pl a L h v lie seals folds n f, histB cI cL cP hi sa PS AS LS hS_ vS lieS sealsS foldsS nS fS_ size]) [1, 0, 2] (show ([1, 0, 2] : List Nat).Perm (List.range 3) by decide) rfl ?_
    exact r_throw (E := "java/lang/IllegalStateException") (text := "the fold can not be done") (w1 := [[(fl, .inr (8, [.ref pl, .ref pl2, .ref hi, .ref tx, .ref u, .ref w, .int taken]))], pileB cI cL pl a L h v lie seals folds n f, histB cI cL cP hi sa PS AS LS hS_ vS lieS sealsS foldsS nS fS_ size]) C X hA t_629 t_72 (by decide) (by decide) xa_4 xb_4 xg_4 xf_3 xf_0 dX10_fold_21 dX10_fold_24 dX10_fold_25 dX10_fold_27 dX10_fold_30 ⟨Nat.le_of_ble_eq_true rfl, Nat.le_of_ble_eq_true rfl, Nat.le_of_ble_eq_true rfl, Nat.le_of_ble_eq_true rfl⟩ (Nat.le_of_ble_eq_true rfl) rfl hQ
def PX_X10_word_1 (letter : Int32) : Prop := (PX_X4_atB_1 letter)
set_option maxRecDepth 20000 in
set_option maxHeartbeats 8000000 in
theorem mx_X10_word_1 (l : Launch) (D : va_G) (cI cL cP cJ : ClassId) (fl : Nat) (pl : Nat) (a : Nat) (L : Nat → Nat) (h : Nat → Nat) (v : Nat → Nat) (lie : Nat → Int32) (seals : Nat → Int32) (folds : Nat → Int32) (n : Nat → Int32) (f : Nat → Nat → Int32) (pl2 : Nat) (hi : Nat) (sa : Nat) (PS : Nat → Nat) (AS : Nat → Nat) (LS : Nat → Nat → Nat) (hS_ : Nat → Nat → Nat) (vS : Nat → Nat → Nat) (lieS : Nat → Nat → Int32) (sealsS : Nat → Nat → Int32) (foldsS : Nat → Nat → Int32) (nS : Nat → Nat → Int32) (fS_ : Nat → Nat → Nat → Int32) (size : Int32) (tx : Nat) (ht : Nat) (vt : Nat) (rd : Nat) (nt : Int32) (ft : Nat → Int32) (opnt : Int32) (want : Int32) (u : Nat) (hu : Nat) (vu : Nat) (hb : Nat) (sb : Nat) (nu : Int32) (fu : Nat → Int32) (fhb : Nat → Int32) (fsb : Nat → Int32) (opnu : Int32) (usz : Int32) (w : Nat) (taken : Int32) (letter : Int32) (hp : PX_X10_word_1 letter) : MX l yX10_word cX10_word 3 (some .int) 7 119 D (tyF cI cL cP cJ) [.ref fl, .int letter] [[(fl, .inr (8, [.ref pl, .ref pl2, .ref hi, .ref tx, .ref u, .ref w, .int taken]))], pileB cI cL pl a L h v lie seals folds n f, histB cI cL cP hi sa PS AS LS hS_ vS lieS sealsS foldsS nS fS_ size, txtB cI tx ht vt rd nt ft opnt want, unrB cI u hu vu hb sb nu fu fhb fsb opnu usz] [[(fl, .inr (8, [.ref pl, .ref pl2, .ref hi, .ref tx, .ref u, .ref w, .int taken]))], pileB cI cL pl a L h v lie seals folds n f, histB cI cL cP hi sa PS AS LS hS_ vS lieS sealsS foldsS nS fS_ size, txtB cI tx ht vt rd nt ft opnt want, unrB cI u hu vu hb sb nu fu fhb fsb opnu usz] "java/lang/IndexOutOfBoundsException" := by
  unfold PX_X10_word_1 at hp
  refine mx_start (by decide +kernel) (Nat.le_of_ble_eq_true rfl) (fun p e s m args below meth c A Q hA hQ C X => ?_)
  refine r_Le (L' := [(0, .ref fl), (1, .int letter)]) rfl ?_
  refine r_aload_n C dX10_word_0 0 rfl ?_
  refine r_get (Cn := RX10) (T := TX10) (N := 7) C inT10 0 rfl rfl 0 (by decide) t_219 rfl dX10_word_1 ?_
  refine r_iload_n C dX10_word_4 1 rfl ?_
  have h1 := hp
  refine r_xV (ci := 2) (wc := [pileB cI cL pl a L h v lie seals folds n f]) (wr := [[(fl, .inr (8, [.ref pl, .ref pl2, .ref hi, .ref tx, .ref u, .ref w, .int taken]))], histB cI cL cP hi sa PS AS LS hS_ vS lieS sealsS foldsS nS fS_ size, txtB cI tx ht vt rd nt ft opnt want, unrB cI u hu vu hb sb nu fu fhb fsb opnu usz]) (w1c := [pileB cI cL pl a L h v lie seals folds n f]) (st := []) C X.2.2.1 X.2.2.2.1 X.2.2.2.2 (mx_X4_atB_1 l D cI cL cP cJ pl a L h v lie seals folds n f letter h1) k_X4_at t_525 [1, 0, 2, 3, 4] (show ([1, 0, 2, 3, 4] : List Nat).Perm (List.range 5) by decide) rfl rfl rfl (q0 := 0) rfl rfl rfl (Nat.le_of_ble_eq_true rfl) ⟨Nat.le_of_ble_eq_true rfl, Nat.le_of_ble_eq_true rfl⟩ ⟨Nat.le_of_ble_eq_true rfl, Nat.le_of_ble_eq_true rfl⟩ dX10_word_5 ?_
  exact r_out (w1 := [[(fl, .inr (8, [.ref pl, .ref pl2, .ref hi, .ref tx, .ref u, .ref w, .int taken]))], pileB cI cL pl a L h v lie seals folds n f, histB cI cL cP hi sa PS AS LS hS_ vS lieS sealsS foldsS nS fS_ size, txtB cI tx ht vt rd nt ft opnt want, unrB cI u hu vu hb sb nu fu fhb fsb opnu usz]) C X hA hQ [1, 0, 2, 3, 4] (show ([1, 0, 2, 3, 4] : List Nat).Perm (List.range 5) by decide) rfl
set_option maxRecDepth 20000 in
def FX_X10_word_2 (nt : Int32) (ft : Nat → Int32) : Int32 × Int32 := (((FX_X10_needWord_2 nt ft).1), ((FX_X10_needWord_2 nt ft).2))
def PX_X10_word_2 (nt : Int32) (ft : Nat → Int32) (letter : Int32) : Prop := ((P_X4_atB letter) ∧ (PX_X10_needWord_2 nt ft))
set_option maxRecDepth 20000 in
set_option maxHeartbeats 8000000 in
theorem mx_X10_word_2 (l : Launch) (D : va_G) (cI cL cP cJ : ClassId) (fl : Nat) (pl : Nat) (a : Nat) (L : Nat → Nat) (h : Nat → Nat) (v : Nat → Nat) (lie : Nat → Int32) (seals : Nat → Int32) (folds : Nat → Int32) (n : Nat → Int32) (f : Nat → Nat → Int32) (pl2 : Nat) (hi : Nat) (sa : Nat) (PS : Nat → Nat) (AS : Nat → Nat) (LS : Nat → Nat → Nat) (hS_ : Nat → Nat → Nat) (vS : Nat → Nat → Nat) (lieS : Nat → Nat → Int32) (sealsS : Nat → Nat → Int32) (foldsS : Nat → Nat → Int32) (nS : Nat → Nat → Int32) (fS_ : Nat → Nat → Nat → Int32) (size : Int32) (tx : Nat) (ht : Nat) (vt : Nat) (rd : Nat) (nt : Int32) (ft : Nat → Int32) (opnt : Int32) (want : Int32) (u : Nat) (hu : Nat) (vu : Nat) (hb : Nat) (sb : Nat) (nu : Int32) (fu : Nat → Int32) (fhb : Nat → Int32) (fsb : Nat → Int32) (opnu : Int32) (usz : Int32) (w : Nat) (taken : Int32) (letter : Int32) (hp : PX_X10_word_2 nt ft letter) : MX l yX10_word cX10_word 3 (some .int) 7 118 D (tyF cI cL cP cJ) [.ref fl, .int letter] [[(fl, .inr (8, [.ref pl, .ref pl2, .ref hi, .ref tx, .ref u, .ref w, .int taken]))], pileB cI cL pl a L h v lie seals folds n f, histB cI cL cP hi sa PS AS LS hS_ vS lieS sealsS foldsS nS fS_ size, txtB cI tx ht vt rd nt ft opnt want, unrB cI u hu vu hb sb nu fu fhb fsb opnu usz] [[(fl, .inr (8, [.ref pl, .ref pl2, .ref hi, .ref tx, .ref u, .ref w, .int taken]))], pileB cI cL pl a L h v lie seals folds n f, histB cI cL cP hi sa PS AS LS hS_ vS lieS sealsS foldsS nS fS_ size, txtB cI tx ht vt rd nt ft ((FX_X10_word_2 nt ft).1) ((FX_X10_word_2 nt ft).2), unrB cI u hu vu hb sb nu fu fhb fsb opnu usz] "java/lang/IllegalArgumentException" := by
  unfold PX_X10_word_2 at hp
  refine mx_start (by decide +kernel) (Nat.le_of_ble_eq_true rfl) (fun p e s m args below meth c A Q hA hQ C X => ?_)
  refine r_Le (L' := [(0, .ref fl), (1, .int letter)]) rfl ?_
  refine r_aload_n C dX10_word_0 0 rfl ?_
  refine r_get (Cn := RX10) (T := TX10) (N := 7) C inT10 0 rfl rfl 0 (by decide) t_219 rfl dX10_word_1 ?_
  refine r_iload_n C dX10_word_4 1 rfl ?_
  obtain ⟨h1, hp⟩ := hp
  refine r_callV (ci := 2) (wc := [pileB cI cL pl a L h v lie seals folds n f]) (wr := [[(fl, .inr (8, [.ref pl, .ref pl2, .ref hi, .ref tx, .ref u, .ref w, .int taken]))], histB cI cL cP hi sa PS AS LS hS_ vS lieS sealsS foldsS nS fS_ size, txtB cI tx ht vt rd nt ft opnt want, unrB cI u hu vu hb sb nu fu fhb fsb opnu usz]) (st := []) C (m_X4_atB l D cI cL cP cJ pl a L h v lie seals folds n f letter h1) k_X4_at t_525 [1, 0, 2, 3, 4] (show ([1, 0, 2, 3, 4] : List Nat).Perm (List.range 5) by decide) rfl rfl rfl (q0 := 0) rfl rfl rfl (Nat.le_of_ble_eq_true rfl) ⟨Nat.le_of_ble_eq_true rfl, Nat.le_of_ble_eq_true rfl⟩ ⟨Nat.zero_le _, Nat.zero_le _⟩ dX10_word_5 (fun r2 wr2 hw2 => ?_)
  obtain ⟨rfl, rfl⟩ := hw2
  refine r_ws (I' := [pileB cI cL pl a L h v lie seals folds n f, [(fl, .inr (8, [.ref pl, .ref pl2, .ref hi, .ref tx, .ref u, .ref w, .int taken]))], histB cI cL cP hi sa PS AS LS hS_ vS lieS sealsS foldsS nS fS_ size, txtB cI tx ht vt rd nt ft opnt want, unrB cI u hu vu hb sb nu fu fhb fsb opnu usz]) rfl ?_
  refine r_astore_n (L' := [(2, .ref (L letter.toNatClampNeg)), (0, .ref fl), (1, .int letter)]) C dX10_word_8 (by decide) rfl ?_
  refine r_aload_n C dX10_word_9 1 rfl ?_
  have h3 := hp
  refine r_xV (ci := 8) (wc := [[(fl, .inr (8, [.ref pl, .ref pl2, .ref hi, .ref tx, .ref u, .ref w, .int taken]))], txtB cI tx ht vt rd nt ft opnt want]) (wr := [pileB cI cL pl a L h v lie seals folds n f, histB cI cL cP hi sa PS AS LS hS_ vS lieS sealsS foldsS nS fS_ size, unrB cI u hu vu hb sb nu fu fhb fsb opnu usz]) (w1c := [[(fl, .inr (8, [.ref pl, .ref pl2, .ref hi, .ref tx, .ref u, .ref w, .int taken]))], txtB cI tx ht vt rd nt ft ((FX_X10_needWord_2 nt ft).1) ((FX_X10_needWord_2 nt ft).2)]) (st := []) C X.2.2.1 X.2.2.2.1 X.2.2.2.2 (mx_X10_needWord_2 l D cI cL cP cJ fl pl pl2 hi tx ht vt rd nt ft opnt want u w taken h3) k_X10_needWord t_668 [1, 3, 0, 2, 4] (show ([1, 3, 0, 2, 4] : List Nat).Perm (List.range 5) by decide) rfl rfl rfl (q0 := 0) rfl rfl rfl (Nat.le_of_ble_eq_true rfl) ⟨Nat.le_of_ble_eq_true rfl, Nat.le_of_ble_eq_true rfl⟩ ⟨Nat.le_of_ble_eq_true rfl, Nat.le_of_ble_eq_true rfl⟩ dX10_word_10 ?_
  have eF : FX_X10_word_2 nt ft = (((FX_X10_needWord_2 nt ft).1), ((FX_X10_needWord_2 nt ft).2)) := by rfl
  exact r_out (w1 := [[(fl, .inr (8, [.ref pl, .ref pl2, .ref hi, .ref tx, .ref u, .ref w, .int taken]))], pileB cI cL pl a L h v lie seals folds n f, histB cI cL cP hi sa PS AS LS hS_ vS lieS sealsS foldsS nS fS_ size, txtB cI tx ht vt rd nt ft ((FX_X10_word_2 nt ft).1) ((FX_X10_word_2 nt ft).2), unrB cI u hu vu hb sb nu fu fhb fsb opnu usz]) C X hA hQ [0, 2, 3, 1, 4] (show ([0, 2, 3, 1, 4] : List Nat).Perm (List.range 5) by decide) (by simp only [eF]; rfl)
def PX_X10_unfold_1 (letter : Int32) : Prop := (PX_X4_atB_1 letter)
set_option maxRecDepth 20000 in
set_option maxHeartbeats 8000000 in
theorem mx_X10_unfold_1 (l : Launch) (D : va_G) (cI cL cP cJ : ClassId) (fl : Nat) (pl : Nat) (a : Nat) (L : Nat → Nat) (h : Nat → Nat) (v : Nat → Nat) (lie : Nat → Int32) (seals : Nat → Int32) (folds : Nat → Int32) (n : Nat → Int32) (f : Nat → Nat → Int32) (pl2 : Nat) (hi : Nat) (sa : Nat) (PS : Nat → Nat) (AS : Nat → Nat) (LS : Nat → Nat → Nat) (hS_ : Nat → Nat → Nat) (vS : Nat → Nat → Nat) (lieS : Nat → Nat → Int32) (sealsS : Nat → Nat → Int32) (foldsS : Nat → Nat → Int32) (nS : Nat → Nat → Int32) (fS_ : Nat → Nat → Nat → Int32) (size : Int32) (tx : Nat) (u : Nat) (w : Nat) (taken : Int32) (letter : Int32) (hp : PX_X10_unfold_1 letter) : MX l yX10_unfold cX10_unfold 4 (some .int) 7 119 D (tyF cI cL cP cJ) [.ref fl, .int letter] [[(fl, .inr (8, [.ref pl, .ref pl2, .ref hi, .ref tx, .ref u, .ref w, .int taken]))], pileB cI cL pl a L h v lie seals folds n f, histB cI cL cP hi sa PS AS LS hS_ vS lieS sealsS foldsS nS fS_ size] [[(fl, .inr (8, [.ref pl, .ref pl2, .ref hi, .ref tx, .ref u, .ref w, .int taken]))], pileB cI cL pl a L h v lie seals folds n f, histB cI cL cP hi sa PS AS LS hS_ vS lieS sealsS foldsS nS fS_ size] "java/lang/IndexOutOfBoundsException" := by
  unfold PX_X10_unfold_1 at hp
  refine mx_start (by decide +kernel) (Nat.le_of_ble_eq_true rfl) (fun p e s m args below meth c A Q hA hQ C X => ?_)
  refine r_Le (L' := [(0, .ref fl), (1, .int letter)]) rfl ?_
  refine r_aload_n C dX10_unfold_0 0 rfl ?_
  refine r_get (Cn := RX10) (T := TX10) (N := 7) C inT10 0 rfl rfl 0 (by decide) t_219 rfl dX10_unfold_1 ?_
  refine r_iload_n C dX10_unfold_4 1 rfl ?_
  have h1 := hp
  refine r_xV (ci := 2) (wc := [pileB cI cL pl a L h v lie seals folds n f]) (wr := [[(fl, .inr (8, [.ref pl, .ref pl2, .ref hi, .ref tx, .ref u, .ref w, .int taken]))], histB cI cL cP hi sa PS AS LS hS_ vS lieS sealsS foldsS nS fS_ size]) (w1c := [pileB cI cL pl a L h v lie seals folds n f]) (st := []) C X.2.2.1 X.2.2.2.1 X.2.2.2.2 (mx_X4_atB_1 l D cI cL cP cJ pl a L h v lie seals folds n f letter h1) k_X4_at t_525 [1, 0, 2] (show ([1, 0, 2] : List Nat).Perm (List.range 3) by decide) rfl rfl rfl (q0 := 0) rfl rfl rfl (Nat.le_of_ble_eq_true rfl) ⟨Nat.le_of_ble_eq_true rfl, Nat.le_of_ble_eq_true rfl⟩ ⟨Nat.le_of_ble_eq_true rfl, Nat.le_of_ble_eq_true rfl⟩ dX10_unfold_5 ?_
  exact r_out (w1 := [[(fl, .inr (8, [.ref pl, .ref pl2, .ref hi, .ref tx, .ref u, .ref w, .int taken]))], pileB cI cL pl a L h v lie seals folds n f, histB cI cL cP hi sa PS AS LS hS_ vS lieS sealsS foldsS nS fS_ size]) C X hA hQ [1, 0, 2] (show ([1, 0, 2] : List Nat).Perm (List.range 3) by decide) rfl
def PX_X10_unfold_3 (seals : Nat → Int32) (n : Nat → Int32) (f : Nat → Nat → Int32) (letter : Int32) : Prop := ((P_X4_atB letter) ∧ ((P_X2_latestCrease_P n letter.toNatClampNeg) ∧ (∀ r4 : Int32, r4 = F_X2_latestCrease_P n f letter.toNatClampNeg → ((r4 = (-10) → True) ∧ (¬ r4 = (-10) → ((P_X2_touchesSeal_P letter.toNatClampNeg) ∧ (∀ r7 : Int32, r7 = F_X2_touchesSeal_P seals letter.toNatClampNeg r4 → (¬ r7 = 0))))))))
set_option maxRecDepth 20000 in
set_option maxHeartbeats 8000000 in
theorem mx_X10_unfold_3 (l : Launch) (D : va_G) (cI cL cP cJ : ClassId) (fl : Nat) (pl : Nat) (a : Nat) (L : Nat → Nat) (h : Nat → Nat) (v : Nat → Nat) (lie : Nat → Int32) (seals : Nat → Int32) (folds : Nat → Int32) (n : Nat → Int32) (f : Nat → Nat → Int32) (pl2 : Nat) (hi : Nat) (sa : Nat) (PS : Nat → Nat) (AS : Nat → Nat) (LS : Nat → Nat → Nat) (hS_ : Nat → Nat → Nat) (vS : Nat → Nat → Nat) (lieS : Nat → Nat → Int32) (sealsS : Nat → Nat → Int32) (foldsS : Nat → Nat → Int32) (nS : Nat → Nat → Int32) (fS_ : Nat → Nat → Nat → Int32) (size : Int32) (tx : Nat) (u : Nat) (w : Nat) (taken : Int32) (letter : Int32) (hp : PX_X10_unfold_3 seals n f letter) : MX l yX10_unfold cX10_unfold 4 (some .int) 6 107 D (tyF cI cL cP cJ) [.ref fl, .int letter] [[(fl, .inr (8, [.ref pl, .ref pl2, .ref hi, .ref tx, .ref u, .ref w, .int taken]))], pileB cI cL pl a L h v lie seals folds n f, histB cI cL cP hi sa PS AS LS hS_ vS lieS sealsS foldsS nS fS_ size] [[(fl, .inr (8, [.ref pl, .ref pl2, .ref hi, .ref tx, .ref u, .ref w, .int taken]))], pileB cI cL pl a L h v lie seals folds n f, histB cI cL cP hi sa PS AS LS hS_ vS lieS sealsS foldsS nS fS_ size] "java/lang/IllegalStateException" := by
  unfold PX_X10_unfold_3 at hp
  refine mx_start (by decide +kernel) (Nat.le_of_ble_eq_true rfl) (fun p e s m args below meth c A Q hA hQ C X => ?_)
  refine r_Le (L' := [(0, .ref fl), (1, .int letter)]) rfl ?_
  refine r_aload_n C dX10_unfold_0 0 rfl ?_
  refine r_get (Cn := RX10) (T := TX10) (N := 7) C inT10 0 rfl rfl 0 (by decide) t_219 rfl dX10_unfold_1 ?_
  refine r_iload_n C dX10_unfold_4 1 rfl ?_
  obtain ⟨h1, hp⟩ := hp
  refine r_callV (ci := 2) (wc := [pileB cI cL pl a L h v lie seals folds n f]) (wr := [[(fl, .inr (8, [.ref pl, .ref pl2, .ref hi, .ref tx, .ref u, .ref w, .int taken]))], histB cI cL cP hi sa PS AS LS hS_ vS lieS sealsS foldsS nS fS_ size]) (st := []) C (m_X4_atB l D cI cL cP cJ pl a L h v lie seals folds n f letter h1) k_X4_at t_525 [1, 0, 2] (show ([1, 0, 2] : List Nat).Perm (List.range 3) by decide) rfl rfl rfl (q0 := 0) rfl rfl rfl (Nat.le_of_ble_eq_true rfl) ⟨Nat.le_of_ble_eq_true rfl, Nat.le_of_ble_eq_true rfl⟩ ⟨Nat.zero_le _, Nat.zero_le _⟩ dX10_unfold_5 (fun r2 wr2 hw2 => ?_)
  obtain ⟨rfl, rfl⟩ := hw2
  refine r_ws (I' := [pileB cI cL pl a L h v lie seals folds n f, [(fl, .inr (8, [.ref pl, .ref pl2, .ref hi, .ref tx, .ref u, .ref w, .int taken]))], histB cI cL cP hi sa PS AS LS hS_ vS lieS sealsS foldsS nS fS_ size]) rfl ?_
  refine r_astore_n (L' := [(2, .ref (L letter.toNatClampNeg)), (0, .ref fl), (1, .int letter)]) C dX10_unfold_8 (by decide) rfl ?_
  refine r_aload_n C dX10_unfold_9 0 rfl ?_
  obtain ⟨h3, hp⟩ := hp
  refine r_callVX (ci := 1) (wc := [pileB cI cL pl a L h v lie seals folds n f]) (wr := [[(fl, .inr (8, [.ref pl, .ref pl2, .ref hi, .ref tx, .ref u, .ref w, .int taken]))], histB cI cL cP hi sa PS AS LS hS_ vS lieS sealsS foldsS nS fS_ size]) (st := []) C (m_X2_latestCrease_P l D cI cL cP cJ pl a L h v lie seals folds n f letter.toNatClampNeg h3) k_X2_latestCrease t_716 [0, 1, 2] (show ([0, 1, 2] : List Nat).Perm (List.range 3) by decide) rfl rfl rfl (pile_L (by have q := h3; unfold P_X2_latestCrease_P at q; exact q.1)) rfl rfl (Nat.le_of_ble_eq_true rfl) ⟨Nat.le_of_ble_eq_true rfl, Nat.le_of_ble_eq_true rfl⟩ ⟨Nat.zero_le _, Nat.zero_le _⟩ dX10_unfold_10 (fun r4 wr4 hw4 => ?_)
  obtain ⟨e_r4, rfl⟩ := hw4
  have hp := hp r4 e_r4
  refine r_ws (I' := [pileB cI cL pl a L h v lie seals folds n f, [(fl, .inr (8, [.ref pl, .ref pl2, .ref hi, .ref tx, .ref u, .ref w, .int taken]))], histB cI cL cP hi sa PS AS LS hS_ vS lieS sealsS foldsS nS fS_ size]) rfl ?_
  refine r_istore_n (L' := [(3, .int r4), (2, .ref (L letter.toNatClampNeg)), (0, .ref fl), (1, .int letter)]) C dX10_unfold_13 (by decide) rfl ?_
  refine r_iload_n C dX10_unfold_14 0 rfl ?_
  refine r_bipush (v := (-10)) C dX10_unfold_15 (by decide) ?_
  refine r_icmp_ne (tgt := 30) C dX10_unfold_17 (by decide) (fun c5 => ?_) (fun c5 => ?_)
  · have hp := hp.2 c5
    refine r_aload_n C dX10_unfold_30 1 rfl ?_
    refine r_iload_n C dX10_unfold_31 0 rfl ?_
    obtain ⟨h6, hp⟩ := hp
    refine r_callVX (ci := 1) (wc := [pileB cI cL pl a L h v lie seals folds n f]) (wr := [[(fl, .inr (8, [.ref pl, .ref pl2, .ref hi, .ref tx, .ref u, .ref w, .int taken]))], histB cI cL cP hi sa PS AS LS hS_ vS lieS sealsS foldsS nS fS_ size]) (st := []) C (m_X2_touchesSeal_P l D cI cL cP cJ pl a L h v lie seals folds n f letter.toNatClampNeg r4 h6) k_X2_touchesSeal t_721 [0, 1, 2] (show ([0, 1, 2] : List Nat).Perm (List.range 3) by decide) rfl rfl rfl (pile_L (by have q := h6; unfold P_X2_touchesSeal_P at q; exact q)) rfl rfl (Nat.le_of_ble_eq_true rfl) ⟨Nat.le_of_ble_eq_true rfl, Nat.le_of_ble_eq_true rfl⟩ ⟨Nat.zero_le _, Nat.zero_le _⟩ dX10_unfold_32 (fun r7 wr7 hw7 => ?_)
    obtain ⟨e_r7, rfl⟩ := hw7
    have hp := hp r7 e_r7
    refine r_ws (I' := [pileB cI cL pl a L h v lie seals folds n f, [(fl, .inr (8, [.ref pl, .ref pl2, .ref hi, .ref tx, .ref u, .ref w, .int taken]))], histB cI cL cP hi sa PS AS LS hS_ vS lieS sealsS foldsS nS fS_ size]) rfl ?_
    refine r_if_eq (tgt := 48) C dX10_unfold_35 (by decide) (fun c8 => ?_) (fun c8 => ?_)
    · exact absurd c8 hp
    · refine r_pl (I' := [[(fl, .inr (8, [.ref pl, .ref pl2, .ref hi, .ref tx, .ref u, .ref w, .int taken]))], pileB cI cL pl a L h v lie seals folds n f, histB cI cL cP hi sa PS AS LS hS_ vS lieS sealsS foldsS nS fS_ size]) [1, 0, 2] (show ([1, 0, 2] : List Nat).Perm (List.range 3) by decide) rfl ?_
      exact r_throw (E := "java/lang/IllegalStateException") (text := "the crease touches a sealed position") (w1 := [[(fl, .inr (8, [.ref pl, .ref pl2, .ref hi, .ref tx, .ref u, .ref w, .int taken]))], pileB cI cL pl a L h v lie seals folds n f, histB cI cL cP hi sa PS AS LS hS_ vS lieS sealsS foldsS nS fS_ size]) C X hA t_629 t_72 (by decide) (by decide) xa_4 xb_4 xg_4 xf_3 xf_0 dX10_unfold_38 dX10_unfold_41 dX10_unfold_42 dX10_unfold_44 dX10_unfold_47 ⟨Nat.le_of_ble_eq_true rfl, Nat.le_of_ble_eq_true rfl, Nat.le_of_ble_eq_true rfl, Nat.le_of_ble_eq_true rfl⟩ (Nat.le_of_ble_eq_true rfl) rfl hQ
  · refine r_pl (I' := [[(fl, .inr (8, [.ref pl, .ref pl2, .ref hi, .ref tx, .ref u, .ref w, .int taken]))], pileB cI cL pl a L h v lie seals folds n f, histB cI cL cP hi sa PS AS LS hS_ vS lieS sealsS foldsS nS fS_ size]) [1, 0, 2] (show ([1, 0, 2] : List Nat).Perm (List.range 3) by decide) rfl ?_
    exact r_throw (E := "java/lang/IllegalStateException") (text := "no fold is remembered") (w1 := [[(fl, .inr (8, [.ref pl, .ref pl2, .ref hi, .ref tx, .ref u, .ref w, .int taken]))], pileB cI cL pl a L h v lie seals folds n f, histB cI cL cP hi sa PS AS LS hS_ vS lieS sealsS foldsS nS fS_ size]) C X hA t_629 t_72 (by decide) (by decide) xa_4 xb_4 xg_4 xf_3 xf_0 dX10_unfold_20 dX10_unfold_23 dX10_unfold_24 dX10_unfold_26 dX10_unfold_29 ⟨Nat.le_of_ble_eq_true rfl, Nat.le_of_ble_eq_true rfl, Nat.le_of_ble_eq_true rfl, Nat.le_of_ble_eq_true rfl⟩ (Nat.le_of_ble_eq_true rfl) rfl hQ
def PX_X10_press_1 (letter : Int32) : Prop := (PX_X4_atB_1 letter)
set_option maxRecDepth 20000 in
set_option maxHeartbeats 8000000 in
theorem mx_X10_press_1 (l : Launch) (D : va_G) (cI cL cP cJ : ClassId) (fl : Nat) (pl : Nat) (a : Nat) (L : Nat → Nat) (h : Nat → Nat) (v : Nat → Nat) (lie : Nat → Int32) (seals : Nat → Int32) (folds : Nat → Int32) (n : Nat → Int32) (f : Nat → Nat → Int32) (pl2 : Nat) (hi : Nat) (sa : Nat) (PS : Nat → Nat) (AS : Nat → Nat) (LS : Nat → Nat → Nat) (hS_ : Nat → Nat → Nat) (vS : Nat → Nat → Nat) (lieS : Nat → Nat → Int32) (sealsS : Nat → Nat → Int32) (foldsS : Nat → Nat → Int32) (nS : Nat → Nat → Int32) (fS_ : Nat → Nat → Nat → Int32) (size : Int32) (tx : Nat) (u : Nat) (w : Nat) (taken : Int32) (letter : Int32) (hp : PX_X10_press_1 letter) : MX l yX10_press cX10_press 4 (some .int) 7 119 D (tyF cI cL cP cJ) [.ref fl, .int letter] [[(fl, .inr (8, [.ref pl, .ref pl2, .ref hi, .ref tx, .ref u, .ref w, .int taken]))], pileB cI cL pl a L h v lie seals folds n f, histB cI cL cP hi sa PS AS LS hS_ vS lieS sealsS foldsS nS fS_ size] [[(fl, .inr (8, [.ref pl, .ref pl2, .ref hi, .ref tx, .ref u, .ref w, .int taken]))], pileB cI cL pl a L h v lie seals folds n f, histB cI cL cP hi sa PS AS LS hS_ vS lieS sealsS foldsS nS fS_ size] "java/lang/IndexOutOfBoundsException" := by
  unfold PX_X10_press_1 at hp
  refine mx_start (by decide +kernel) (Nat.le_of_ble_eq_true rfl) (fun p e s m args below meth c A Q hA hQ C X => ?_)
  refine r_Le (L' := [(0, .ref fl), (1, .int letter)]) rfl ?_
  refine r_aload_n C dX10_press_0 0 rfl ?_
  refine r_get (Cn := RX10) (T := TX10) (N := 7) C inT10 0 rfl rfl 0 (by decide) t_219 rfl dX10_press_1 ?_
  refine r_iload_n C dX10_press_4 1 rfl ?_
  have h1 := hp
  refine r_xV (ci := 2) (wc := [pileB cI cL pl a L h v lie seals folds n f]) (wr := [[(fl, .inr (8, [.ref pl, .ref pl2, .ref hi, .ref tx, .ref u, .ref w, .int taken]))], histB cI cL cP hi sa PS AS LS hS_ vS lieS sealsS foldsS nS fS_ size]) (w1c := [pileB cI cL pl a L h v lie seals folds n f]) (st := []) C X.2.2.1 X.2.2.2.1 X.2.2.2.2 (mx_X4_atB_1 l D cI cL cP cJ pl a L h v lie seals folds n f letter h1) k_X4_at t_525 [1, 0, 2] (show ([1, 0, 2] : List Nat).Perm (List.range 3) by decide) rfl rfl rfl (q0 := 0) rfl rfl rfl (Nat.le_of_ble_eq_true rfl) ⟨Nat.le_of_ble_eq_true rfl, Nat.le_of_ble_eq_true rfl⟩ ⟨Nat.le_of_ble_eq_true rfl, Nat.le_of_ble_eq_true rfl⟩ dX10_press_5 ?_
  exact r_out (w1 := [[(fl, .inr (8, [.ref pl, .ref pl2, .ref hi, .ref tx, .ref u, .ref w, .int taken]))], pileB cI cL pl a L h v lie seals folds n f, histB cI cL cP hi sa PS AS LS hS_ vS lieS sealsS foldsS nS fS_ size]) C X hA hQ [1, 0, 2] (show ([1, 0, 2] : List Nat).Perm (List.range 3) by decide) rfl
def PX_X10_smooth_1 (letter : Int32) : Prop := (PX_X4_atB_1 letter)
set_option maxRecDepth 20000 in
set_option maxHeartbeats 8000000 in
theorem mx_X10_smooth_1 (l : Launch) (D : va_G) (cI cL cP cJ : ClassId) (fl : Nat) (pl : Nat) (a : Nat) (L : Nat → Nat) (h : Nat → Nat) (v : Nat → Nat) (lie : Nat → Int32) (seals : Nat → Int32) (folds : Nat → Int32) (n : Nat → Int32) (f : Nat → Nat → Int32) (pl2 : Nat) (hi : Nat) (sa : Nat) (PS : Nat → Nat) (AS : Nat → Nat) (LS : Nat → Nat → Nat) (hS_ : Nat → Nat → Nat) (vS : Nat → Nat → Nat) (lieS : Nat → Nat → Int32) (sealsS : Nat → Nat → Int32) (foldsS : Nat → Nat → Int32) (nS : Nat → Nat → Int32) (fS_ : Nat → Nat → Nat → Int32) (size : Int32) (tx : Nat) (u : Nat) (w : Nat) (taken : Int32) (letter : Int32) (hp : PX_X10_smooth_1 letter) : MX l yX10_smooth cX10_smooth 4 (some .int) 7 131 D (tyF cI cL cP cJ) [.ref fl, .int letter] [[(fl, .inr (8, [.ref pl, .ref pl2, .ref hi, .ref tx, .ref u, .ref w, .int taken]))], pileB cI cL pl a L h v lie seals folds n f, histB cI cL cP hi sa PS AS LS hS_ vS lieS sealsS foldsS nS fS_ size] [[(fl, .inr (8, [.ref pl, .ref pl2, .ref hi, .ref tx, .ref u, .ref w, .int taken]))], pileB cI cL pl a L h v lie seals folds n f, histB cI cL cP hi sa PS AS LS hS_ vS lieS sealsS foldsS nS fS_ size] "java/lang/IndexOutOfBoundsException" := by
  unfold PX_X10_smooth_1 at hp
  refine mx_start (by decide +kernel) (Nat.le_of_ble_eq_true rfl) (fun p e s m args below meth c A Q hA hQ C X => ?_)
  refine r_Le (L' := [(0, .ref fl), (1, .int letter)]) rfl ?_
  refine r_aload_n C dX10_smooth_0 0 rfl ?_
  refine r_get (Cn := RX10) (T := TX10) (N := 7) C inT10 0 rfl rfl 0 (by decide) t_219 rfl dX10_smooth_1 ?_
  refine r_iload_n C dX10_smooth_4 1 rfl ?_
  have h1 := hp
  refine r_xV (ci := 2) (wc := [pileB cI cL pl a L h v lie seals folds n f]) (wr := [[(fl, .inr (8, [.ref pl, .ref pl2, .ref hi, .ref tx, .ref u, .ref w, .int taken]))], histB cI cL cP hi sa PS AS LS hS_ vS lieS sealsS foldsS nS fS_ size]) (w1c := [pileB cI cL pl a L h v lie seals folds n f]) (st := []) C X.2.2.1 X.2.2.2.1 X.2.2.2.2 (mx_X4_atB_1 l D cI cL cP cJ pl a L h v lie seals folds n f letter h1) k_X4_at t_525 [1, 0, 2] (show ([1, 0, 2] : List Nat).Perm (List.range 3) by decide) rfl rfl rfl (q0 := 0) rfl rfl rfl (Nat.le_of_ble_eq_true rfl) ⟨Nat.le_of_ble_eq_true rfl, Nat.le_of_ble_eq_true rfl⟩ ⟨Nat.le_of_ble_eq_true rfl, Nat.le_of_ble_eq_true rfl⟩ dX10_smooth_5 ?_
  exact r_out (w1 := [[(fl, .inr (8, [.ref pl, .ref pl2, .ref hi, .ref tx, .ref u, .ref w, .int taken]))], pileB cI cL pl a L h v lie seals folds n f, histB cI cL cP hi sa PS AS LS hS_ vS lieS sealsS foldsS nS fS_ size]) C X hA hQ [1, 0, 2] (show ([1, 0, 2] : List Nat).Perm (List.range 3) by decide) rfl
def PX_X10_product_1 (lie : Nat → Int32) (letter : Int32) (fst : Int32) (snd : Int32) : Prop := ((PX_X4_atB_1 letter) ∨ ((P_X4_atB letter) ∧ ((PX_X4_atB_1 fst) ∨ ((P_X4_atB fst) ∧ ((P_X2_lie_P fst.toNatClampNeg) ∧ (∀ r8 : Int32, r8 = F_X2_lie_P lie fst.toNatClampNeg → (PX_X4_atB_1 snd)))))))
set_option maxRecDepth 20000 in
set_option maxHeartbeats 8000000 in
theorem mx_X10_product_1 (l : Launch) (D : va_G) (cI cL cP cJ : ClassId) (fl : Nat) (pl : Nat) (a : Nat) (L : Nat → Nat) (h : Nat → Nat) (v : Nat → Nat) (lie : Nat → Int32) (seals : Nat → Int32) (folds : Nat → Int32) (n : Nat → Int32) (f : Nat → Nat → Int32) (pl2 : Nat) (hi : Nat) (sa : Nat) (PS : Nat → Nat) (AS : Nat → Nat) (LS : Nat → Nat → Nat) (hS_ : Nat → Nat → Nat) (vS : Nat → Nat → Nat) (lieS : Nat → Nat → Int32) (sealsS : Nat → Nat → Int32) (foldsS : Nat → Nat → Int32) (nS : Nat → Nat → Int32) (fS_ : Nat → Nat → Nat → Int32) (size : Int32) (tx : Nat) (u : Nat) (w : Nat) (taken : Int32) (letter : Int32) (fst : Int32) (snd : Int32) (hp : PX_X10_product_1 lie letter fst snd) : MX l yX10_product cX10_product 6 (some .int) 7 131 D (tyF cI cL cP cJ) [.ref fl, .int letter, .int fst, .int snd] [[(fl, .inr (8, [.ref pl, .ref pl2, .ref hi, .ref tx, .ref u, .ref w, .int taken]))], pileB cI cL pl a L h v lie seals folds n f, histB cI cL cP hi sa PS AS LS hS_ vS lieS sealsS foldsS nS fS_ size] [[(fl, .inr (8, [.ref pl, .ref pl2, .ref hi, .ref tx, .ref u, .ref w, .int taken]))], pileB cI cL pl a L h v lie seals folds n f, histB cI cL cP hi sa PS AS LS hS_ vS lieS sealsS foldsS nS fS_ size] "java/lang/IndexOutOfBoundsException" := by
  unfold PX_X10_product_1 at hp
  refine mx_start (by decide +kernel) (Nat.le_of_ble_eq_true rfl) (fun p e s m args below meth c A Q hA hQ C X => ?_)
  refine r_Le (L' := [(0, .ref fl), (1, .int letter), (2, .int fst), (3, .int snd)]) rfl ?_
  refine r_aload_n C dX10_product_0 0 rfl ?_
  refine r_get (Cn := RX10) (T := TX10) (N := 7) C inT10 0 rfl rfl 0 (by decide) t_219 rfl dX10_product_1 ?_
  refine r_iload_n C dX10_product_4 1 rfl ?_
  rcases hp with h1 | hp
  · refine r_xV (ci := 2) (wc := [pileB cI cL pl a L h v lie seals folds n f]) (wr := [[(fl, .inr (8, [.ref pl, .ref pl2, .ref hi, .ref tx, .ref u, .ref w, .int taken]))], histB cI cL cP hi sa PS AS LS hS_ vS lieS sealsS foldsS nS fS_ size]) (w1c := [pileB cI cL pl a L h v lie seals folds n f]) (st := []) C X.2.2.1 X.2.2.2.1 X.2.2.2.2 (mx_X4_atB_1 l D cI cL cP cJ pl a L h v lie seals folds n f letter h1) k_X4_at t_525 [1, 0, 2] (show ([1, 0, 2] : List Nat).Perm (List.range 3) by decide) rfl rfl rfl (q0 := 0) rfl rfl rfl (Nat.le_of_ble_eq_true rfl) ⟨Nat.le_of_ble_eq_true rfl, Nat.le_of_ble_eq_true rfl⟩ ⟨Nat.le_of_ble_eq_true rfl, Nat.le_of_ble_eq_true rfl⟩ dX10_product_5 ?_
    exact r_out (w1 := [[(fl, .inr (8, [.ref pl, .ref pl2, .ref hi, .ref tx, .ref u, .ref w, .int taken]))], pileB cI cL pl a L h v lie seals folds n f, histB cI cL cP hi sa PS AS LS hS_ vS lieS sealsS foldsS nS fS_ size]) C X hA hQ [1, 0, 2] (show ([1, 0, 2] : List Nat).Perm (List.range 3) by decide) rfl
  · obtain ⟨h2, hp⟩ := hp
    refine r_callV (ci := 2) (wc := [pileB cI cL pl a L h v lie seals folds n f]) (wr := [[(fl, .inr (8, [.ref pl, .ref pl2, .ref hi, .ref tx, .ref u, .ref w, .int taken]))], histB cI cL cP hi sa PS AS LS hS_ vS lieS sealsS foldsS nS fS_ size]) (st := []) C (m_X4_atB l D cI cL cP cJ pl a L h v lie seals folds n f letter h2) k_X4_at t_525 [1, 0, 2] (show ([1, 0, 2] : List Nat).Perm (List.range 3) by decide) rfl rfl rfl (q0 := 0) rfl rfl rfl (Nat.le_of_ble_eq_true rfl) ⟨Nat.le_of_ble_eq_true rfl, Nat.le_of_ble_eq_true rfl⟩ ⟨Nat.zero_le _, Nat.zero_le _⟩ dX10_product_5 (fun r3 wr3 hw3 => ?_)
    obtain ⟨rfl, rfl⟩ := hw3
    refine r_ws (I' := [pileB cI cL pl a L h v lie seals folds n f, [(fl, .inr (8, [.ref pl, .ref pl2, .ref hi, .ref tx, .ref u, .ref w, .int taken]))], histB cI cL cP hi sa PS AS LS hS_ vS lieS sealsS foldsS nS fS_ size]) rfl ?_
    refine r_astore (L' := [(4, .ref (L letter.toNatClampNeg)), (0, .ref fl), (1, .int letter), (2, .int fst), (3, .int snd)]) C dX10_product_8 (by decide) rfl ?_
    refine r_aload_n C dX10_product_10 1 rfl ?_
    refine r_get (Cn := RX10) (T := TX10) (N := 7) C inT10 1 rfl rfl 0 (by decide) t_219 rfl dX10_product_11 ?_
    refine r_iload_n C dX10_product_14 3 rfl ?_
    rcases hp with h4 | hp
    · refine r_xV (ci := 2) (wc := [pileB cI cL pl a L h v lie seals folds n f]) (wr := [[(fl, .inr (8, [.ref pl, .ref pl2, .ref hi, .ref tx, .ref u, .ref w, .int taken]))], histB cI cL cP hi sa PS AS LS hS_ vS lieS sealsS foldsS nS fS_ size]) (w1c := [pileB cI cL pl a L h v lie seals folds n f]) (st := []) C X.2.2.1 X.2.2.2.1 X.2.2.2.2 (mx_X4_atB_1 l D cI cL cP cJ pl a L h v lie seals folds n f fst h4) k_X4_at t_525 [0, 1, 2] (show ([0, 1, 2] : List Nat).Perm (List.range 3) by decide) rfl rfl rfl (q0 := 0) rfl rfl rfl (Nat.le_of_ble_eq_true rfl) ⟨Nat.le_of_ble_eq_true rfl, Nat.le_of_ble_eq_true rfl⟩ ⟨Nat.le_of_ble_eq_true rfl, Nat.le_of_ble_eq_true rfl⟩ dX10_product_15 ?_
      exact r_out (w1 := [[(fl, .inr (8, [.ref pl, .ref pl2, .ref hi, .ref tx, .ref u, .ref w, .int taken]))], pileB cI cL pl a L h v lie seals folds n f, histB cI cL cP hi sa PS AS LS hS_ vS lieS sealsS foldsS nS fS_ size]) C X hA hQ [1, 0, 2] (show ([1, 0, 2] : List Nat).Perm (List.range 3) by decide) rfl
    · obtain ⟨h5, hp⟩ := hp
      refine r_callV (ci := 2) (wc := [pileB cI cL pl a L h v lie seals folds n f]) (wr := [[(fl, .inr (8, [.ref pl, .ref pl2, .ref hi, .ref tx, .ref u, .ref w, .int taken]))], histB cI cL cP hi sa PS AS LS hS_ vS lieS sealsS foldsS nS fS_ size]) (st := []) C (m_X4_atB l D cI cL cP cJ pl a L h v lie seals folds n f fst h5) k_X4_at t_525 [0, 1, 2] (show ([0, 1, 2] : List Nat).Perm (List.range 3) by decide) rfl rfl rfl (q0 := 0) rfl rfl rfl (Nat.le_of_ble_eq_true rfl) ⟨Nat.le_of_ble_eq_true rfl, Nat.le_of_ble_eq_true rfl⟩ ⟨Nat.zero_le _, Nat.zero_le _⟩ dX10_product_15 (fun r6 wr6 hw6 => ?_)
      obtain ⟨rfl, rfl⟩ := hw6
      refine r_ws (I' := [pileB cI cL pl a L h v lie seals folds n f, [(fl, .inr (8, [.ref pl, .ref pl2, .ref hi, .ref tx, .ref u, .ref w, .int taken]))], histB cI cL cP hi sa PS AS LS hS_ vS lieS sealsS foldsS nS fS_ size]) rfl ?_
      obtain ⟨h7, hp⟩ := hp
      refine r_callVX (ci := 1) (wc := [pileB cI cL pl a L h v lie seals folds n f]) (wr := [[(fl, .inr (8, [.ref pl, .ref pl2, .ref hi, .ref tx, .ref u, .ref w, .int taken]))], histB cI cL cP hi sa PS AS LS hS_ vS lieS sealsS foldsS nS fS_ size]) (st := []) C (m_X2_lie_P l D cI cL cP cJ pl a L h v lie seals folds n f fst.toNatClampNeg h7) k_X2_lie t_532 [0, 1, 2] (show ([0, 1, 2] : List Nat).Perm (List.range 3) by decide) rfl rfl rfl (pile_L (by have q := h7; unfold P_X2_lie_P at q; exact q)) rfl rfl (Nat.le_of_ble_eq_true rfl) ⟨Nat.le_of_ble_eq_true rfl, Nat.le_of_ble_eq_true rfl⟩ ⟨Nat.zero_le _, Nat.zero_le _⟩ dX10_product_18 (fun r8 wr8 hw8 => ?_)
      obtain ⟨e_r8, rfl⟩ := hw8
      have hp := hp r8 e_r8
      refine r_ws (I' := [pileB cI cL pl a L h v lie seals folds n f, [(fl, .inr (8, [.ref pl, .ref pl2, .ref hi, .ref tx, .ref u, .ref w, .int taken]))], histB cI cL cP hi sa PS AS LS hS_ vS lieS sealsS foldsS nS fS_ size]) rfl ?_
      refine r_aload_n C dX10_product_21 1 rfl ?_
      refine r_get (Cn := RX10) (T := TX10) (N := 7) C inT10 1 rfl rfl 0 (by decide) t_219 rfl dX10_product_22 ?_
      refine r_iload_n C dX10_product_25 4 rfl ?_
      have h9 := hp
      refine r_xV (ci := 2) (wc := [pileB cI cL pl a L h v lie seals folds n f]) (wr := [[(fl, .inr (8, [.ref pl, .ref pl2, .ref hi, .ref tx, .ref u, .ref w, .int taken]))], histB cI cL cP hi sa PS AS LS hS_ vS lieS sealsS foldsS nS fS_ size]) (w1c := [pileB cI cL pl a L h v lie seals folds n f]) (st := [.int r8]) C X.2.2.1 X.2.2.2.1 X.2.2.2.2 (mx_X4_atB_1 l D cI cL cP cJ pl a L h v lie seals folds n f snd h9) k_X4_at t_525 [0, 1, 2] (show ([0, 1, 2] : List Nat).Perm (List.range 3) by decide) rfl rfl rfl (q0 := 0) rfl rfl rfl (Nat.le_of_ble_eq_true rfl) ⟨Nat.le_of_ble_eq_true rfl, Nat.le_of_ble_eq_true rfl⟩ ⟨Nat.le_of_ble_eq_true rfl, Nat.le_of_ble_eq_true rfl⟩ dX10_product_26 ?_
      exact r_out (w1 := [[(fl, .inr (8, [.ref pl, .ref pl2, .ref hi, .ref tx, .ref u, .ref w, .int taken]))], pileB cI cL pl a L h v lie seals folds n f, histB cI cL cP hi sa PS AS LS hS_ vS lieS sealsS foldsS nS fS_ size]) C X hA hQ [1, 0, 2] (show ([1, 0, 2] : List Nat).Perm (List.range 3) by decide) rfl
def PX_X10_opposite_1 (letter : Int32) (other : Int32) : Prop := ((PX_X4_atB_1 letter) ∨ ((P_X4_atB letter) ∧ (PX_X4_atB_1 other)))
set_option maxRecDepth 20000 in
set_option maxHeartbeats 8000000 in
theorem mx_X10_opposite_1 (l : Launch) (D : va_G) (cI cL cP cJ : ClassId) (fl : Nat) (pl : Nat) (a : Nat) (L : Nat → Nat) (h : Nat → Nat) (v : Nat → Nat) (lie : Nat → Int32) (seals : Nat → Int32) (folds : Nat → Int32) (n : Nat → Int32) (f : Nat → Nat → Int32) (pl2 : Nat) (hi : Nat) (sa : Nat) (PS : Nat → Nat) (AS : Nat → Nat) (LS : Nat → Nat → Nat) (hS_ : Nat → Nat → Nat) (vS : Nat → Nat → Nat) (lieS : Nat → Nat → Int32) (sealsS : Nat → Nat → Int32) (foldsS : Nat → Nat → Int32) (nS : Nat → Nat → Int32) (fS_ : Nat → Nat → Nat → Int32) (size : Int32) (tx : Nat) (u : Nat) (w : Nat) (taken : Int32) (letter : Int32) (other : Int32) (hp : PX_X10_opposite_1 letter other) : MX l yX10_opposite cX10_opposite 5 (some .int) 7 131 D (tyF cI cL cP cJ) [.ref fl, .int letter, .int other] [[(fl, .inr (8, [.ref pl, .ref pl2, .ref hi, .ref tx, .ref u, .ref w, .int taken]))], pileB cI cL pl a L h v lie seals folds n f, histB cI cL cP hi sa PS AS LS hS_ vS lieS sealsS foldsS nS fS_ size] [[(fl, .inr (8, [.ref pl, .ref pl2, .ref hi, .ref tx, .ref u, .ref w, .int taken]))], pileB cI cL pl a L h v lie seals folds n f, histB cI cL cP hi sa PS AS LS hS_ vS lieS sealsS foldsS nS fS_ size] "java/lang/IndexOutOfBoundsException" := by
  unfold PX_X10_opposite_1 at hp
  refine mx_start (by decide +kernel) (Nat.le_of_ble_eq_true rfl) (fun p e s m args below meth c A Q hA hQ C X => ?_)
  refine r_Le (L' := [(0, .ref fl), (1, .int letter), (2, .int other)]) rfl ?_
  refine r_aload_n C dX10_opposite_0 0 rfl ?_
  refine r_get (Cn := RX10) (T := TX10) (N := 7) C inT10 0 rfl rfl 0 (by decide) t_219 rfl dX10_opposite_1 ?_
  refine r_iload_n C dX10_opposite_4 1 rfl ?_
  rcases hp with h1 | hp
  · refine r_xV (ci := 2) (wc := [pileB cI cL pl a L h v lie seals folds n f]) (wr := [[(fl, .inr (8, [.ref pl, .ref pl2, .ref hi, .ref tx, .ref u, .ref w, .int taken]))], histB cI cL cP hi sa PS AS LS hS_ vS lieS sealsS foldsS nS fS_ size]) (w1c := [pileB cI cL pl a L h v lie seals folds n f]) (st := []) C X.2.2.1 X.2.2.2.1 X.2.2.2.2 (mx_X4_atB_1 l D cI cL cP cJ pl a L h v lie seals folds n f letter h1) k_X4_at t_525 [1, 0, 2] (show ([1, 0, 2] : List Nat).Perm (List.range 3) by decide) rfl rfl rfl (q0 := 0) rfl rfl rfl (Nat.le_of_ble_eq_true rfl) ⟨Nat.le_of_ble_eq_true rfl, Nat.le_of_ble_eq_true rfl⟩ ⟨Nat.le_of_ble_eq_true rfl, Nat.le_of_ble_eq_true rfl⟩ dX10_opposite_5 ?_
    exact r_out (w1 := [[(fl, .inr (8, [.ref pl, .ref pl2, .ref hi, .ref tx, .ref u, .ref w, .int taken]))], pileB cI cL pl a L h v lie seals folds n f, histB cI cL cP hi sa PS AS LS hS_ vS lieS sealsS foldsS nS fS_ size]) C X hA hQ [1, 0, 2] (show ([1, 0, 2] : List Nat).Perm (List.range 3) by decide) rfl
  · obtain ⟨h2, hp⟩ := hp
    refine r_callV (ci := 2) (wc := [pileB cI cL pl a L h v lie seals folds n f]) (wr := [[(fl, .inr (8, [.ref pl, .ref pl2, .ref hi, .ref tx, .ref u, .ref w, .int taken]))], histB cI cL cP hi sa PS AS LS hS_ vS lieS sealsS foldsS nS fS_ size]) (st := []) C (m_X4_atB l D cI cL cP cJ pl a L h v lie seals folds n f letter h2) k_X4_at t_525 [1, 0, 2] (show ([1, 0, 2] : List Nat).Perm (List.range 3) by decide) rfl rfl rfl (q0 := 0) rfl rfl rfl (Nat.le_of_ble_eq_true rfl) ⟨Nat.le_of_ble_eq_true rfl, Nat.le_of_ble_eq_true rfl⟩ ⟨Nat.zero_le _, Nat.zero_le _⟩ dX10_opposite_5 (fun r3 wr3 hw3 => ?_)
    obtain ⟨rfl, rfl⟩ := hw3
    refine r_ws (I' := [pileB cI cL pl a L h v lie seals folds n f, [(fl, .inr (8, [.ref pl, .ref pl2, .ref hi, .ref tx, .ref u, .ref w, .int taken]))], histB cI cL cP hi sa PS AS LS hS_ vS lieS sealsS foldsS nS fS_ size]) rfl ?_
    refine r_astore_n (L' := [(3, .ref (L letter.toNatClampNeg)), (0, .ref fl), (1, .int letter), (2, .int other)]) C dX10_opposite_8 (by decide) rfl ?_
    refine r_aload_n C dX10_opposite_9 1 rfl ?_
    refine r_get (Cn := RX10) (T := TX10) (N := 7) C inT10 1 rfl rfl 0 (by decide) t_219 rfl dX10_opposite_10 ?_
    refine r_iload_n C dX10_opposite_13 3 rfl ?_
    have h4 := hp
    refine r_xV (ci := 2) (wc := [pileB cI cL pl a L h v lie seals folds n f]) (wr := [[(fl, .inr (8, [.ref pl, .ref pl2, .ref hi, .ref tx, .ref u, .ref w, .int taken]))], histB cI cL cP hi sa PS AS LS hS_ vS lieS sealsS foldsS nS fS_ size]) (w1c := [pileB cI cL pl a L h v lie seals folds n f]) (st := []) C X.2.2.1 X.2.2.2.1 X.2.2.2.2 (mx_X4_atB_1 l D cI cL cP cJ pl a L h v lie seals folds n f other h4) k_X4_at t_525 [0, 1, 2] (show ([0, 1, 2] : List Nat).Perm (List.range 3) by decide) rfl rfl rfl (q0 := 0) rfl rfl rfl (Nat.le_of_ble_eq_true rfl) ⟨Nat.le_of_ble_eq_true rfl, Nat.le_of_ble_eq_true rfl⟩ ⟨Nat.le_of_ble_eq_true rfl, Nat.le_of_ble_eq_true rfl⟩ dX10_opposite_14 ?_
    exact r_out (w1 := [[(fl, .inr (8, [.ref pl, .ref pl2, .ref hi, .ref tx, .ref u, .ref w, .int taken]))], pileB cI cL pl a L h v lie seals folds n f, histB cI cL cP hi sa PS AS LS hS_ vS lieS sealsS foldsS nS fS_ size]) C X hA hQ [1, 0, 2] (show ([1, 0, 2] : List Nat).Perm (List.range 3) by decide) rfl
def PX_X10_seal_1 (letter : Int32) (position : Int32) : Prop := ((PX_X4_atB_1 letter) ∨ ((P_X4_atB letter) ∧ (PX_X10_needPosition_1 position)))
set_option maxRecDepth 20000 in
set_option maxHeartbeats 8000000 in
theorem mx_X10_seal_1 (l : Launch) (D : va_G) (cI cL cP cJ : ClassId) (fl : Nat) (pl : Nat) (a : Nat) (L : Nat → Nat) (h : Nat → Nat) (v : Nat → Nat) (lie : Nat → Int32) (seals : Nat → Int32) (folds : Nat → Int32) (n : Nat → Int32) (f : Nat → Nat → Int32) (pl2 : Nat) (hi : Nat) (sa : Nat) (PS : Nat → Nat) (AS : Nat → Nat) (LS : Nat → Nat → Nat) (hS_ : Nat → Nat → Nat) (vS : Nat → Nat → Nat) (lieS : Nat → Nat → Int32) (sealsS : Nat → Nat → Int32) (foldsS : Nat → Nat → Int32) (nS : Nat → Nat → Int32) (fS_ : Nat → Nat → Nat → Int32) (size : Int32) (tx : Nat) (u : Nat) (w : Nat) (taken : Int32) (letter : Int32) (position : Int32) (hp : PX_X10_seal_1 letter position) : MX l yX10_seal cX10_seal 4 (some .int) 7 119 D (tyF cI cL cP cJ) [.ref fl, .int letter, .int position] [[(fl, .inr (8, [.ref pl, .ref pl2, .ref hi, .ref tx, .ref u, .ref w, .int taken]))], pileB cI cL pl a L h v lie seals folds n f, histB cI cL cP hi sa PS AS LS hS_ vS lieS sealsS foldsS nS fS_ size] [[(fl, .inr (8, [.ref pl, .ref pl2, .ref hi, .ref tx, .ref u, .ref w, .int taken]))], pileB cI cL pl a L h v lie seals folds n f, histB cI cL cP hi sa PS AS LS hS_ vS lieS sealsS foldsS nS fS_ size] "java/lang/IndexOutOfBoundsException" := by
  unfold PX_X10_seal_1 at hp
  refine mx_start (by decide +kernel) (Nat.le_of_ble_eq_true rfl) (fun p e s m args below meth c A Q hA hQ C X => ?_)
  refine r_Le (L' := [(0, .ref fl), (1, .int letter), (2, .int position)]) rfl ?_
  refine r_aload_n C dX10_seal_0 0 rfl ?_
  refine r_get (Cn := RX10) (T := TX10) (N := 7) C inT10 0 rfl rfl 0 (by decide) t_219 rfl dX10_seal_1 ?_
  refine r_iload_n C dX10_seal_4 1 rfl ?_
  rcases hp with h1 | hp
  · refine r_xV (ci := 2) (wc := [pileB cI cL pl a L h v lie seals folds n f]) (wr := [[(fl, .inr (8, [.ref pl, .ref pl2, .ref hi, .ref tx, .ref u, .ref w, .int taken]))], histB cI cL cP hi sa PS AS LS hS_ vS lieS sealsS foldsS nS fS_ size]) (w1c := [pileB cI cL pl a L h v lie seals folds n f]) (st := []) C X.2.2.1 X.2.2.2.1 X.2.2.2.2 (mx_X4_atB_1 l D cI cL cP cJ pl a L h v lie seals folds n f letter h1) k_X4_at t_525 [1, 0, 2] (show ([1, 0, 2] : List Nat).Perm (List.range 3) by decide) rfl rfl rfl (q0 := 0) rfl rfl rfl (Nat.le_of_ble_eq_true rfl) ⟨Nat.le_of_ble_eq_true rfl, Nat.le_of_ble_eq_true rfl⟩ ⟨Nat.le_of_ble_eq_true rfl, Nat.le_of_ble_eq_true rfl⟩ dX10_seal_5 ?_
    exact r_out (w1 := [[(fl, .inr (8, [.ref pl, .ref pl2, .ref hi, .ref tx, .ref u, .ref w, .int taken]))], pileB cI cL pl a L h v lie seals folds n f, histB cI cL cP hi sa PS AS LS hS_ vS lieS sealsS foldsS nS fS_ size]) C X hA hQ [1, 0, 2] (show ([1, 0, 2] : List Nat).Perm (List.range 3) by decide) rfl
  · obtain ⟨h2, hp⟩ := hp
    refine r_callV (ci := 2) (wc := [pileB cI cL pl a L h v lie seals folds n f]) (wr := [[(fl, .inr (8, [.ref pl, .ref pl2, .ref hi, .ref tx, .ref u, .ref w, .int taken]))], histB cI cL cP hi sa PS AS LS hS_ vS lieS sealsS foldsS nS fS_ size]) (st := []) C (m_X4_atB l D cI cL cP cJ pl a L h v lie seals folds n f letter h2) k_X4_at t_525 [1, 0, 2] (show ([1, 0, 2] : List Nat).Perm (List.range 3) by decide) rfl rfl rfl (q0 := 0) rfl rfl rfl (Nat.le_of_ble_eq_true rfl) ⟨Nat.le_of_ble_eq_true rfl, Nat.le_of_ble_eq_true rfl⟩ ⟨Nat.zero_le _, Nat.zero_le _⟩ dX10_seal_5 (fun r3 wr3 hw3 => ?_)
    obtain ⟨rfl, rfl⟩ := hw3
    refine r_ws (I' := [pileB cI cL pl a L h v lie seals folds n f, [(fl, .inr (8, [.ref pl, .ref pl2, .ref hi, .ref tx, .ref u, .ref w, .int taken]))], histB cI cL cP hi sa PS AS LS hS_ vS lieS sealsS foldsS nS fS_ size]) rfl ?_
    refine r_astore_n (L' := [(3, .ref (L letter.toNatClampNeg)), (0, .ref fl), (1, .int letter), (2, .int position)]) C dX10_seal_8 (by decide) rfl ?_
    refine r_iload_n C dX10_seal_9 3 rfl ?_
    have h4 := hp
    refine r_xS (wc := []) (wr := [pileB cI cL pl a L h v lie seals folds n f, [(fl, .inr (8, [.ref pl, .ref pl2, .ref hi, .ref tx, .ref u, .ref w, .int taken]))], histB cI cL cP hi sa PS AS LS hS_ vS lieS sealsS foldsS nS fS_ size]) (w1c := []) (st := []) C X.2.2.1 X.2.2.2.1 X.2.2.2.2 (mx_X10_needPosition_1 l D cI cL cP cJ position h4) k_X10_needPosition t_526 [0, 1, 2] (show ([0, 1, 2] : List Nat).Perm (List.range 3) by decide) rfl rfl rfl (Nat.le_of_ble_eq_true rfl) ⟨Nat.le_of_ble_eq_true rfl, Nat.le_of_ble_eq_true rfl⟩ ⟨Nat.le_of_ble_eq_true rfl, Nat.le_of_ble_eq_true rfl⟩ dX10_seal_10 ?_
    exact r_out (w1 := [[(fl, .inr (8, [.ref pl, .ref pl2, .ref hi, .ref tx, .ref u, .ref w, .int taken]))], pileB cI cL pl a L h v lie seals folds n f, histB cI cL cP hi sa PS AS LS hS_ vS lieS sealsS foldsS nS fS_ size]) C X hA hQ [1, 0, 2] (show ([1, 0, 2] : List Nat).Perm (List.range 3) by decide) rfl
def PX_X10_seal_3 (lie : Nat → Int32) (seals : Nat → Int32) (letter : Int32) (position : Int32) : Prop := ((P_X4_atB letter) ∧ ((P_X10_needPosition position) ∧ ((P_X2_isSealed_P letter.toNatClampNeg) ∧ (∀ r6 : Int32, r6 = F_X2_isSealed_P seals letter.toNatClampNeg position → (r6 = 0 ∧ ((P_X2_lie_P letter.toNatClampNeg) ∧ (∀ r27 : Int32, r27 = F_X2_lie_P lie letter.toNatClampNeg → (∀ r28 : Int32, r28 = F_X3_isHome r27 position → (r28 = 0)))))))))
set_option maxRecDepth 20000 in
set_option maxHeartbeats 8000000 in
theorem mx_X10_seal_3 (l : Launch) (D : va_G) (cI cL cP cJ : ClassId) (fl : Nat) (pl : Nat) (a : Nat) (L : Nat → Nat) (h : Nat → Nat) (v : Nat → Nat) (lie : Nat → Int32) (seals : Nat → Int32) (folds : Nat → Int32) (n : Nat → Int32) (f : Nat → Nat → Int32) (pl2 : Nat) (hi : Nat) (sa : Nat) (PS : Nat → Nat) (AS : Nat → Nat) (LS : Nat → Nat → Nat) (hS_ : Nat → Nat → Nat) (vS : Nat → Nat → Nat) (lieS : Nat → Nat → Int32) (sealsS : Nat → Nat → Int32) (foldsS : Nat → Nat → Int32) (nS : Nat → Nat → Int32) (fS_ : Nat → Nat → Nat → Int32) (size : Int32) (tx : Nat) (u : Nat) (w : Nat) (taken : Int32) (letter : Int32) (position : Int32) (hp : PX_X10_seal_3 lie seals letter position) : MX l yX10_seal cX10_seal 4 (some .int) 6 107 D (tyF cI cL cP cJ) [.ref fl, .int letter, .int position] [[(fl, .inr (8, [.ref pl, .ref pl2, .ref hi, .ref tx, .ref u, .ref w, .int taken]))], pileB cI cL pl a L h v lie seals folds n f, histB cI cL cP hi sa PS AS LS hS_ vS lieS sealsS foldsS nS fS_ size] [[(fl, .inr (8, [.ref pl, .ref pl2, .ref hi, .ref tx, .ref u, .ref w, .int taken]))], pileB cI cL pl a L h v lie seals folds n f, histB cI cL cP hi sa PS AS LS hS_ vS lieS sealsS foldsS nS fS_ size] "java/lang/IllegalStateException" := by
  unfold PX_X10_seal_3 at hp
  refine mx_start (by decide +kernel) (Nat.le_of_ble_eq_true rfl) (fun p e s m args below meth c A Q hA hQ C X => ?_)
  refine r_Le (L' := [(0, .ref fl), (1, .int letter), (2, .int position)]) rfl ?_
  refine r_aload_n C dX10_seal_0 0 rfl ?_
  refine r_get (Cn := RX10) (T := TX10) (N := 7) C inT10 0 rfl rfl 0 (by decide) t_219 rfl dX10_seal_1 ?_
  refine r_iload_n C dX10_seal_4 1 rfl ?_
  obtain ⟨h1, hp⟩ := hp
  refine r_callV (ci := 2) (wc := [pileB cI cL pl a L h v lie seals folds n f]) (wr := [[(fl, .inr (8, [.ref pl, .ref pl2, .ref hi, .ref tx, .ref u, .ref w, .int taken]))], histB cI cL cP hi sa PS AS LS hS_ vS lieS sealsS foldsS nS fS_ size]) (st := []) C (m_X4_atB l D cI cL cP cJ pl a L h v lie seals folds n f letter h1) k_X4_at t_525 [1, 0, 2] (show ([1, 0, 2] : List Nat).Perm (List.range 3) by decide) rfl rfl rfl (q0 := 0) rfl rfl rfl (Nat.le_of_ble_eq_true rfl) ⟨Nat.le_of_ble_eq_true rfl, Nat.le_of_ble_eq_true rfl⟩ ⟨Nat.zero_le _, Nat.zero_le _⟩ dX10_seal_5 (fun r2 wr2 hw2 => ?_)
  obtain ⟨rfl, rfl⟩ := hw2
  refine r_ws (I' := [pileB cI cL pl a L h v lie seals folds n f, [(fl, .inr (8, [.ref pl, .ref pl2, .ref hi, .ref tx, .ref u, .ref w, .int taken]))], histB cI cL cP hi sa PS AS LS hS_ vS lieS sealsS foldsS nS fS_ size]) rfl ?_
  refine r_astore_n (L' := [(3, .ref (L letter.toNatClampNeg)), (0, .ref fl), (1, .int letter), (2, .int position)]) C dX10_seal_8 (by decide) rfl ?_
  refine r_iload_n C dX10_seal_9 3 rfl ?_
  obtain ⟨h3, hp⟩ := hp
  refine r_callS (wc := []) (wr := [pileB cI cL pl a L h v lie seals folds n f, [(fl, .inr (8, [.ref pl, .ref pl2, .ref hi, .ref tx, .ref u, .ref w, .int taken]))], histB cI cL cP hi sa PS AS LS hS_ vS lieS sealsS foldsS nS fS_ size]) (st := []) C (m_X10_needPosition l D cI cL cP cJ position h3) k_X10_needPosition t_526 [0, 1, 2] (show ([0, 1, 2] : List Nat).Perm (List.range 3) by decide) rfl rfl rfl (Nat.le_of_ble_eq_true rfl) ⟨Nat.le_of_ble_eq_true rfl, Nat.le_of_ble_eq_true rfl⟩ ⟨Nat.zero_le _, Nat.zero_le _⟩ dX10_seal_10 (fun r4 wr4 hw4 => ?_)
  obtain rfl := hw4
  refine r_ws (I' := [pileB cI cL pl a L h v lie seals folds n f, [(fl, .inr (8, [.ref pl, .ref pl2, .ref hi, .ref tx, .ref u, .ref w, .int taken]))], histB cI cL cP hi sa PS AS LS hS_ vS lieS sealsS foldsS nS fS_ size]) rfl ?_
  refine r_aload_n C dX10_seal_13 0 rfl ?_
  refine r_iload_n C dX10_seal_14 3 rfl ?_
  obtain ⟨h5, hp⟩ := hp
  refine r_callVX (ci := 1) (wc := [pileB cI cL pl a L h v lie seals folds n f]) (wr := [[(fl, .inr (8, [.ref pl, .ref pl2, .ref hi, .ref tx, .ref u, .ref w, .int taken]))], histB cI cL cP hi sa PS AS LS hS_ vS lieS sealsS foldsS nS fS_ size]) (st := []) C (m_X2_isSealed_P l D cI cL cP cJ pl a L h v lie seals folds n f letter.toNatClampNeg position h5) k_X2_isSealed t_779 [0, 1, 2] (show ([0, 1, 2] : List Nat).Perm (List.range 3) by decide) rfl rfl rfl (pile_L (by have q := h5; unfold P_X2_isSealed_P at q; exact q)) rfl rfl (Nat.le_of_ble_eq_true rfl) ⟨Nat.le_of_ble_eq_true rfl, Nat.le_of_ble_eq_true rfl⟩ ⟨Nat.zero_le _, Nat.zero_le _⟩ dX10_seal_15 (fun r6 wr6 hw6 => ?_)
  obtain ⟨e_r6, rfl⟩ := hw6
  have hp := hp r6 e_r6
  refine r_ws (I' := [pileB cI cL pl a L h v lie seals folds n f, [(fl, .inr (8, [.ref pl, .ref pl2, .ref hi, .ref tx, .ref u, .ref w, .int taken]))], histB cI cL cP hi sa PS AS LS hS_ vS lieS sealsS foldsS nS fS_ size]) rfl ?_
  refine r_if_ne (tgt := 42) C dX10_seal_18 (by decide) (fun c7 => ?_) (fun c7 => ?_)
  · exact absurd hp.1 c7
  · have hp := hp.2
    refine r_aload_n C dX10_seal_21 0 rfl ?_
    obtain ⟨h26, hp⟩ := hp
    refine r_callVX (ci := 1) (wc := [pileB cI cL pl a L h v lie seals folds n f]) (wr := [[(fl, .inr (8, [.ref pl, .ref pl2, .ref hi, .ref tx, .ref u, .ref w, .int taken]))], histB cI cL cP hi sa PS AS LS hS_ vS lieS sealsS foldsS nS fS_ size]) (st := []) C (m_X2_lie_P l D cI cL cP cJ pl a L h v lie seals folds n f letter.toNatClampNeg h26) k_X2_lie t_532 [0, 1, 2] (show ([0, 1, 2] : List Nat).Perm (List.range 3) by decide) rfl rfl rfl (pile_L (by have q := h26; unfold P_X2_lie_P at q; exact q)) rfl rfl (Nat.le_of_ble_eq_true rfl) ⟨Nat.le_of_ble_eq_true rfl, Nat.le_of_ble_eq_true rfl⟩ ⟨Nat.zero_le _, Nat.zero_le _⟩ dX10_seal_22 (fun r27 wr27 hw27 => ?_)
    obtain ⟨e_r27, rfl⟩ := hw27
    have hp := hp r27 e_r27
    refine r_ws (I' := [pileB cI cL pl a L h v lie seals folds n f, [(fl, .inr (8, [.ref pl, .ref pl2, .ref hi, .ref tx, .ref u, .ref w, .int taken]))], histB cI cL cP hi sa PS AS LS hS_ vS lieS sealsS foldsS nS fS_ size]) rfl ?_
    refine r_iload_n C dX10_seal_25 3 rfl ?_
    refine r_callS (wc := []) (wr := [pileB cI cL pl a L h v lie seals folds n f, [(fl, .inr (8, [.ref pl, .ref pl2, .ref hi, .ref tx, .ref u, .ref w, .int taken]))], histB cI cL cP hi sa PS AS LS hS_ vS lieS sealsS foldsS nS fS_ size]) (st := []) C (m_X3_isHome l D cI cL cP cJ r27 position) k_X3_isHome t_783 [0, 1, 2] (show ([0, 1, 2] : List Nat).Perm (List.range 3) by decide) rfl rfl rfl (Nat.le_of_ble_eq_true rfl) ⟨Nat.le_of_ble_eq_true rfl, Nat.le_of_ble_eq_true rfl⟩ ⟨Nat.zero_le _, Nat.zero_le _⟩ dX10_seal_26 (fun r28 wr28 hw28 => ?_)
    obtain ⟨e_r28, rfl⟩ := hw28
    have hp := hp r28 e_r28
    refine r_ws (I' := [pileB cI cL pl a L h v lie seals folds n f, [(fl, .inr (8, [.ref pl, .ref pl2, .ref hi, .ref tx, .ref u, .ref w, .int taken]))], histB cI cL cP hi sa PS AS LS hS_ vS lieS sealsS foldsS nS fS_ size]) rfl ?_
    refine r_if_ne (tgt := 42) C dX10_seal_29 (by decide) (fun c29 => ?_) (fun c29 => ?_)
    · exact absurd hp c29
    · refine r_pl (I' := [[(fl, .inr (8, [.ref pl, .ref pl2, .ref hi, .ref tx, .ref u, .ref w, .int taken]))], pileB cI cL pl a L h v lie seals folds n f, histB cI cL cP hi sa PS AS LS hS_ vS lieS sealsS foldsS nS fS_ size]) [1, 0, 2] (show ([1, 0, 2] : List Nat).Perm (List.range 3) by decide) rfl ?_
      exact r_throw (E := "java/lang/IllegalStateException") (text := "the layer that belongs there does not lie there") (w1 := [[(fl, .inr (8, [.ref pl, .ref pl2, .ref hi, .ref tx, .ref u, .ref w, .int taken]))], pileB cI cL pl a L h v lie seals folds n f, histB cI cL cP hi sa PS AS LS hS_ vS lieS sealsS foldsS nS fS_ size]) C X hA t_629 t_72 (by decide) (by decide) xa_4 xb_4 xg_4 xf_3 xf_0 dX10_seal_32 dX10_seal_35 dX10_seal_36 dX10_seal_38 dX10_seal_41 ⟨Nat.le_of_ble_eq_true rfl, Nat.le_of_ble_eq_true rfl, Nat.le_of_ble_eq_true rfl, Nat.le_of_ble_eq_true rfl⟩ (Nat.le_of_ble_eq_true rfl) rfl hQ
def PX_X10_append_2 (code : Int32) : Prop := ((code < 33 → True) ∧ (¬ code < 33 → (¬ code ≤ 126)))
set_option maxRecDepth 20000 in
set_option maxHeartbeats 8000000 in
theorem mx_X10_append_2 (l : Launch) (D : va_G) (cI cL cP cJ : ClassId) (fl : Nat) (pl : Nat) (pl2 : Nat) (hi : Nat) (tx : Nat) (ht : Nat) (vt : Nat) (rd : Nat) (nt : Int32) (ft : Nat → Int32) (opnt : Int32) (want : Int32) (u : Nat) (w : Nat) (taken : Int32) (code : Int32) (hp : PX_X10_append_2 code) : MX l yX10_append cX10_append 2 (some .int) 6 98 D (tyF cI cL cP cJ) [.ref fl, .int code] [[(fl, .inr (8, [.ref pl, .ref pl2, .ref hi, .ref tx, .ref u, .ref w, .int taken]))], txtB cI tx ht vt rd nt ft opnt want] [[(fl, .inr (8, [.ref pl, .ref pl2, .ref hi, .ref tx, .ref u, .ref w, .int taken]))], txtB cI tx ht vt rd nt ft opnt want] "java/lang/IllegalArgumentException" := by
  unfold PX_X10_append_2 at hp
  refine mx_start (by decide +kernel) (Nat.le_of_ble_eq_true rfl) (fun p e s m args below meth c A Q hA hQ C X => ?_)
  refine r_Le (L' := [(0, .ref fl), (1, .int code)]) rfl ?_
  refine r_iload_n C dX10_append_0 1 rfl ?_
  refine r_bipush (v := 33) C dX10_append_1 (by decide) ?_
  refine r_icmp_lt (tgt := 12) C dX10_append_3 (by decide) (fun c1 => ?_) (fun c1 => ?_)
  · exact r_throw (E := "java/lang/IllegalArgumentException") (text := "no such character") (w1 := [[(fl, .inr (8, [.ref pl, .ref pl2, .ref hi, .ref tx, .ref u, .ref w, .int taken]))], txtB cI tx ht vt rd nt ft opnt want]) C X hA t_497 t_75 (by decide) (by decide) xa_3 xb_3 xg_3 xf_2 xf_0 dX10_append_12 dX10_append_15 dX10_append_16 dX10_append_18 dX10_append_21 ⟨Nat.le_of_ble_eq_true rfl, Nat.le_of_ble_eq_true rfl, Nat.le_of_ble_eq_true rfl, Nat.le_of_ble_eq_true rfl⟩ (Nat.le_of_ble_eq_true rfl) rfl hQ
  · have hp := hp.2 c1
    refine r_iload_n C dX10_append_6 1 rfl ?_
    refine r_bipush (v := 126) C dX10_append_7 (by decide) ?_
    refine r_icmp_le (tgt := 22) C dX10_append_9 (by decide) (fun c2 => ?_) (fun c2 => ?_)
    · exact absurd c2 hp
    · exact r_throw (E := "java/lang/IllegalArgumentException") (text := "no such character") (w1 := [[(fl, .inr (8, [.ref pl, .ref pl2, .ref hi, .ref tx, .ref u, .ref w, .int taken]))], txtB cI tx ht vt rd nt ft opnt want]) C X hA t_497 t_75 (by decide) (by decide) xa_3 xb_3 xg_3 xf_2 xf_0 dX10_append_12 dX10_append_15 dX10_append_16 dX10_append_18 dX10_append_21 ⟨Nat.le_of_ble_eq_true rfl, Nat.le_of_ble_eq_true rfl, Nat.le_of_ble_eq_true rfl, Nat.le_of_ble_eq_true rfl⟩ (Nat.le_of_ble_eq_true rfl) rfl hQ
def PX_X10_append_3 (nt : Int32) (code : Int32) : Prop := (¬ code < 33 ∧ (code ≤ 126 ∧ (∀ r4 : Int32, r4 = F_X6_isFull nt → (¬ r4 = 0))))
set_option maxRecDepth 20000 in
set_option maxHeartbeats 8000000 in
theorem mx_X10_append_3 (l : Launch) (D : va_G) (cI cL cP cJ : ClassId) (fl : Nat) (pl : Nat) (pl2 : Nat) (hi : Nat) (tx : Nat) (ht : Nat) (vt : Nat) (rd : Nat) (nt : Int32) (ft : Nat → Int32) (opnt : Int32) (want : Int32) (u : Nat) (w : Nat) (taken : Int32) (code : Int32) (hp : PX_X10_append_3 nt code) : MX l yX10_append cX10_append 2 (some .int) 6 98 D (tyF cI cL cP cJ) [.ref fl, .int code] [[(fl, .inr (8, [.ref pl, .ref pl2, .ref hi, .ref tx, .ref u, .ref w, .int taken]))], txtB cI tx ht vt rd nt ft opnt want] [[(fl, .inr (8, [.ref pl, .ref pl2, .ref hi, .ref tx, .ref u, .ref w, .int taken]))], txtB cI tx ht vt rd nt ft opnt want] "java/lang/IllegalStateException" := by
  unfold PX_X10_append_3 at hp
  refine mx_start (by decide +kernel) (Nat.le_of_ble_eq_true rfl) (fun p e s m args below meth c A Q hA hQ C X => ?_)
  refine r_Le (L' := [(0, .ref fl), (1, .int code)]) rfl ?_
  refine r_iload_n C dX10_append_0 1 rfl ?_
  refine r_bipush (v := 33) C dX10_append_1 (by decide) ?_
  refine r_icmp_lt (tgt := 12) C dX10_append_3 (by decide) (fun c1 => ?_) (fun c1 => ?_)
  · exact absurd c1 hp.1
  · have hp := hp.2
    refine r_iload_n C dX10_append_6 1 rfl ?_
    refine r_bipush (v := 126) C dX10_append_7 (by decide) ?_
    refine r_icmp_le (tgt := 22) C dX10_append_9 (by decide) (fun c2 => ?_) (fun c2 => ?_)
    · have hp := hp.2
      refine r_aload_n C dX10_append_22 0 rfl ?_
      refine r_get (Cn := RX10) (T := TX10) (N := 7) C inT10 0 rfl rfl 3 (by decide) t_222 rfl dX10_append_23 ?_
      refine r_callV (ci := 5) (wc := [txtB cI tx ht vt rd nt ft opnt want]) (wr := [[(fl, .inr (8, [.ref pl, .ref pl2, .ref hi, .ref tx, .ref u, .ref w, .int taken]))]]) (st := []) C (m_X7_codes l D cI cL cP cJ tx ht vt rd nt ft opnt want) k_X7_codes t_245 [1, 0] (show ([1, 0] : List Nat).Perm (List.range 2) by decide) rfl rfl rfl (q0 := 0) rfl rfl rfl (Nat.le_of_ble_eq_true rfl) ⟨Nat.le_of_ble_eq_true rfl, Nat.le_of_ble_eq_true rfl⟩ ⟨Nat.zero_le _, Nat.zero_le _⟩ dX10_append_26 (fun r3 wr3 hw3 => ?_)
      obtain ⟨e_r3, rfl⟩ := hw3; have q := e_r3.symm; subst q
      refine r_ws (I' := [txtB cI tx ht vt rd nt ft opnt want, [(fl, .inr (8, [.ref pl, .ref pl2, .ref hi, .ref tx, .ref u, .ref w, .int taken]))]]) rfl ?_
      refine r_ws (I' := [[(tx, .inr (5, [.ref ht, .ref rd]))], [(ht, .inr (4, [.ref vt, .int nt]))], [(vt, .inl (cI, 60, .inl ft))], [(rd, .inr (3, [.int opnt, .int want]))], [(fl, .inr (8, [.ref pl, .ref pl2, .ref hi, .ref tx, .ref u, .ref w, .int taken]))]]) rfl ?_
      refine r_ws (I' := [[(tx, .inr (5, [.ref ht, .ref rd]))], rowB cI ht vt nt ft, [(rd, .inr (3, [.int opnt, .int want]))], [(fl, .inr (8, [.ref pl, .ref pl2, .ref hi, .ref tx, .ref u, .ref w, .int taken]))]]) rfl ?_
      refine r_callV (ci := 4) (wc := [rowB cI ht vt nt ft]) (wr := [[(tx, .inr (5, [.ref ht, .ref rd]))], [(rd, .inr (3, [.int opnt, .int want]))], [(fl, .inr (8, [.ref pl, .ref pl2, .ref hi, .ref tx, .ref u, .ref w, .int taken]))]]) (st := []) C (m_X6_isFull l D cI cL cP cJ ht vt nt ft) k_X6_isFull t_800 [1, 0, 2, 3] (show ([1, 0, 2, 3] : List Nat).Perm (List.range 4) by decide) rfl rfl rfl (q0 := 0) rfl rfl rfl (Nat.le_of_ble_eq_true rfl) ⟨Nat.le_of_ble_eq_true rfl, Nat.le_of_ble_eq_true rfl⟩ ⟨Nat.zero_le _, Nat.zero_le _⟩ dX10_append_29 (fun r4 wr4 hw4 => ?_)
      obtain ⟨e_r4, rfl⟩ := hw4
      have hp := hp r4 e_r4
      refine r_ws (I' := [rowB cI ht vt nt ft, [(tx, .inr (5, [.ref ht, .ref rd]))], [(rd, .inr (3, [.int opnt, .int want]))], [(fl, .inr (8, [.ref pl, .ref pl2, .ref hi, .ref tx, .ref u, .ref w, .int taken]))]]) rfl ?_
      refine r_if_eq (tgt := 45) C dX10_append_32 (by decide) (fun c5 => ?_) (fun c5 => ?_)
      · exact absurd c5 hp
      · refine r_ws (I' := [[(ht, .inr (4, [.ref vt, .int nt]))], [(vt, .inl (cI, 60, .inl ft))], [(tx, .inr (5, [.ref ht, .ref rd]))], [(rd, .inr (3, [.int opnt, .int want]))], [(fl, .inr (8, [.ref pl, .ref pl2, .ref hi, .ref tx, .ref u, .ref w, .int taken]))]]) rfl ?_
        refine r_pl (I' := [[(tx, .inr (5, [.ref ht, .ref rd]))], [(ht, .inr (4, [.ref vt, .int nt]))], [(vt, .inl (cI, 60, .inl ft))], [(rd, .inr (3, [.int opnt, .int want]))], [(fl, .inr (8, [.ref pl, .ref pl2, .ref hi, .ref tx, .ref u, .ref w, .int taken]))]]) [2, 0, 1, 3, 4] (show ([2, 0, 1, 3, 4] : List Nat).Perm (List.range 5) by decide) rfl ?_
        refine r_ws (I' := [txtB cI tx ht vt rd nt ft opnt want, [(fl, .inr (8, [.ref pl, .ref pl2, .ref hi, .ref tx, .ref u, .ref w, .int taken]))]]) rfl ?_
        refine r_pl (I' := [[(fl, .inr (8, [.ref pl, .ref pl2, .ref hi, .ref tx, .ref u, .ref w, .int taken]))], txtB cI tx ht vt rd nt ft opnt want]) [1, 0] (show ([1, 0] : List Nat).Perm (List.range 2) by decide) rfl ?_
        exact r_throw (E := "java/lang/IllegalStateException") (text := "the buffer is full") (w1 := [[(fl, .inr (8, [.ref pl, .ref pl2, .ref hi, .ref tx, .ref u, .ref w, .int taken]))], txtB cI tx ht vt rd nt ft opnt want]) C X hA t_629 t_72 (by decide) (by decide) xa_4 xb_4 xg_4 xf_3 xf_0 dX10_append_35 dX10_append_38 dX10_append_39 dX10_append_41 dX10_append_44 ⟨Nat.le_of_ble_eq_true rfl, Nat.le_of_ble_eq_true rfl, Nat.le_of_ble_eq_true rfl, Nat.le_of_ble_eq_true rfl⟩ (Nat.le_of_ble_eq_true rfl) rfl hQ
    · exact absurd hp.1 c2
set_option maxRecDepth 20000 in
def FX_X10_creases_2 (nt : Int32) (ft : Nat → Int32) : Int32 × Int32 := (((FX_X10_needWord_2 nt ft).1), ((FX_X10_needWord_2 nt ft).2))
def PX_X10_creases_2 (nt : Int32) (ft : Nat → Int32) : Prop := (PX_X10_needWord_2 nt ft)
set_option maxRecDepth 20000 in
set_option maxHeartbeats 8000000 in
theorem mx_X10_creases_2 (l : Launch) (D : va_G) (cI cL cP cJ : ClassId) (fl : Nat) (pl : Nat) (pl2 : Nat) (hi : Nat) (tx : Nat) (ht : Nat) (vt : Nat) (rd : Nat) (nt : Int32) (ft : Nat → Int32) (opnt : Int32) (want : Int32) (u : Nat) (hu : Nat) (vu : Nat) (hb : Nat) (sb : Nat) (nu : Int32) (fu : Nat → Int32) (fhb : Nat → Int32) (fsb : Nat → Int32) (opnu : Int32) (usz : Int32) (w : Nat) (taken : Int32) (hp : PX_X10_creases_2 nt ft) : MX l yX10_creases cX10_creases 1 (some .int) 7 118 D (tyF cI cL cP cJ) [.ref fl] [[(fl, .inr (8, [.ref pl, .ref pl2, .ref hi, .ref tx, .ref u, .ref w, .int taken]))], txtB cI tx ht vt rd nt ft opnt want, unrB cI u hu vu hb sb nu fu fhb fsb opnu usz] [[(fl, .inr (8, [.ref pl, .ref pl2, .ref hi, .ref tx, .ref u, .ref w, .int taken]))], txtB cI tx ht vt rd nt ft ((FX_X10_creases_2 nt ft).1) ((FX_X10_creases_2 nt ft).2), unrB cI u hu vu hb sb nu fu fhb fsb opnu usz] "java/lang/IllegalArgumentException" := by
  unfold PX_X10_creases_2 at hp
  refine mx_start (by decide +kernel) (Nat.le_of_ble_eq_true rfl) (fun p e s m args below meth c A Q hA hQ C X => ?_)
  refine r_Le (L' := [(0, .ref fl)]) rfl ?_
  refine r_aload_n C dX10_creases_0 0 rfl ?_
  have h1 := hp
  refine r_xV (ci := 8) (wc := [[(fl, .inr (8, [.ref pl, .ref pl2, .ref hi, .ref tx, .ref u, .ref w, .int taken]))], txtB cI tx ht vt rd nt ft opnt want]) (wr := [unrB cI u hu vu hb sb nu fu fhb fsb opnu usz]) (w1c := [[(fl, .inr (8, [.ref pl, .ref pl2, .ref hi, .ref tx, .ref u, .ref w, .int taken]))], txtB cI tx ht vt rd nt ft ((FX_X10_needWord_2 nt ft).1) ((FX_X10_needWord_2 nt ft).2)]) (st := []) C X.2.2.1 X.2.2.2.1 X.2.2.2.2 (mx_X10_needWord_2 l D cI cL cP cJ fl pl pl2 hi tx ht vt rd nt ft opnt want u w taken h1) k_X10_needWord t_668 [0, 1, 2] (show ([0, 1, 2] : List Nat).Perm (List.range 3) by decide) rfl rfl rfl (q0 := 0) rfl rfl rfl (Nat.le_of_ble_eq_true rfl) ⟨Nat.le_of_ble_eq_true rfl, Nat.le_of_ble_eq_true rfl⟩ ⟨Nat.le_of_ble_eq_true rfl, Nat.le_of_ble_eq_true rfl⟩ dX10_creases_1 ?_
  have eF : FX_X10_creases_2 nt ft = (((FX_X10_needWord_2 nt ft).1), ((FX_X10_needWord_2 nt ft).2)) := by rfl
  exact r_out (w1 := [[(fl, .inr (8, [.ref pl, .ref pl2, .ref hi, .ref tx, .ref u, .ref w, .int taken]))], txtB cI tx ht vt rd nt ft ((FX_X10_creases_2 nt ft).1) ((FX_X10_creases_2 nt ft).2), unrB cI u hu vu hb sb nu fu fhb fsb opnu usz]) C X hA hQ [0, 1, 2] (show ([0, 1, 2] : List Nat).Perm (List.range 3) by decide) (by simp only [eF]; rfl)
def PX_X10_goBack_3 (taken : Int32) : Prop := (taken = 0)
set_option maxRecDepth 20000 in
set_option maxHeartbeats 8000000 in
theorem mx_X10_goBack_3 (l : Launch) (D : va_G) (cI cL cP cJ : ClassId) (fl : Nat) (pl : Nat) (a : Nat) (L : Nat → Nat) (h : Nat → Nat) (v : Nat → Nat) (lie : Nat → Int32) (seals : Nat → Int32) (folds : Nat → Int32) (n : Nat → Int32) (f : Nat → Nat → Int32) (pl2 : Nat) (a2 : Nat) (L2 : Nat → Nat) (h2 : Nat → Nat) (v2 : Nat → Nat) (lie2 : Nat → Int32) (seals2 : Nat → Int32) (folds2 : Nat → Int32) (n2 : Nat → Int32) (f2 : Nat → Nat → Int32) (hi : Nat) (sa : Nat) (PS : Nat → Nat) (AS : Nat → Nat) (LS : Nat → Nat → Nat) (hS_ : Nat → Nat → Nat) (vS : Nat → Nat → Nat) (lieS : Nat → Nat → Int32) (sealsS : Nat → Nat → Int32) (foldsS : Nat → Nat → Int32) (nS : Nat → Nat → Int32) (fS_ : Nat → Nat → Nat → Int32) (size : Int32) (tx : Nat) (u : Nat) (w : Nat) (taken : Int32) (hp : PX_X10_goBack_3 taken) : MX l yX10_goBack cX10_goBack 1 (some .int) 6 131 D (tyF cI cL cP cJ) [.ref fl] [[(fl, .inr (8, [.ref pl, .ref pl2, .ref hi, .ref tx, .ref u, .ref w, .int taken]))], pileB cI cL pl a L h v lie seals folds n f, pileB cI cL pl2 a2 L2 h2 v2 lie2 seals2 folds2 n2 f2, histB cI cL cP hi sa PS AS LS hS_ vS lieS sealsS foldsS nS fS_ size] [[(fl, .inr (8, [.ref pl, .ref pl2, .ref hi, .ref tx, .ref u, .ref w, .int taken]))], pileB cI cL pl a L h v lie seals folds n f, pileB cI cL pl2 a2 L2 h2 v2 lie2 seals2 folds2 n2 f2, histB cI cL cP hi sa PS AS LS hS_ vS lieS sealsS foldsS nS fS_ size] "java/lang/IllegalStateException" := by
  unfold PX_X10_goBack_3 at hp
  refine mx_start (by decide +kernel) (Nat.le_of_ble_eq_true rfl) (fun p e s m args below meth c A Q hA hQ C X => ?_)
  refine r_Le (L' := [(0, .ref fl)]) rfl ?_
  refine r_aload_n C dX10_goBack_0 0 rfl ?_
  refine r_get (Cn := RX10) (T := TX10) (N := 7) C inT10 0 rfl rfl 6 (by decide) t_225 rfl dX10_goBack_1 ?_
  refine r_if_ne (tgt := 17) C dX10_goBack_4 (by decide) (fun c1 => ?_) (fun c1 => ?_)
  · exact absurd hp c1
  · exact r_throw (E := "java/lang/IllegalStateException") (text := "there is no snapshot") (w1 := [[(fl, .inr (8, [.ref pl, .ref pl2, .ref hi, .ref tx, .ref u, .ref w, .int taken]))], pileB cI cL pl a L h v lie seals folds n f, pileB cI cL pl2 a2 L2 h2 v2 lie2 seals2 folds2 n2 f2, histB cI cL cP hi sa PS AS LS hS_ vS lieS sealsS foldsS nS fS_ size]) C X hA t_629 t_72 (by decide) (by decide) xa_4 xb_4 xg_4 xf_3 xf_0 dX10_goBack_7 dX10_goBack_10 dX10_goBack_11 dX10_goBack_13 dX10_goBack_16 ⟨Nat.le_of_ble_eq_true rfl, Nat.le_of_ble_eq_true rfl, Nat.le_of_ble_eq_true rfl, Nat.le_of_ble_eq_true rfl⟩ (Nat.le_of_ble_eq_true rfl) rfl hQ
def PX_X10_undo_3 (size : Int32) : Prop := (∀ r1 : Int32, r1 = F_X1_size size → (r1 = 0))
set_option maxRecDepth 20000 in
set_option maxHeartbeats 8000000 in
theorem mx_X10_undo_3 (l : Launch) (D : va_G) (cI cL cP cJ : ClassId) (fl : Nat) (pl : Nat) (a : Nat) (L : Nat → Nat) (h : Nat → Nat) (v : Nat → Nat) (lie : Nat → Int32) (seals : Nat → Int32) (folds : Nat → Int32) (n : Nat → Int32) (f : Nat → Nat → Int32) (pl2 : Nat) (hi : Nat) (sa : Nat) (PS : Nat → Nat) (AS : Nat → Nat) (LS : Nat → Nat → Nat) (hS_ : Nat → Nat → Nat) (vS : Nat → Nat → Nat) (lieS : Nat → Nat → Int32) (sealsS : Nat → Nat → Int32) (foldsS : Nat → Nat → Int32) (nS : Nat → Nat → Int32) (fS_ : Nat → Nat → Nat → Int32) (size : Int32) (tx : Nat) (u : Nat) (w : Nat) (taken : Int32) (hp : PX_X10_undo_3 size) : MX l yX10_undo cX10_undo 1 (some .int) 6 107 D (tyF cI cL cP cJ) [.ref fl] [[(fl, .inr (8, [.ref pl, .ref pl2, .ref hi, .ref tx, .ref u, .ref w, .int taken]))], pileB cI cL pl a L h v lie seals folds n f, histB cI cL cP hi sa PS AS LS hS_ vS lieS sealsS foldsS nS fS_ size] [[(fl, .inr (8, [.ref pl, .ref pl2, .ref hi, .ref tx, .ref u, .ref w, .int taken]))], pileB cI cL pl a L h v lie seals folds n f, histB cI cL cP hi sa PS AS LS hS_ vS lieS sealsS foldsS nS fS_ size] "java/lang/IllegalStateException" := by
  unfold PX_X10_undo_3 at hp
  refine mx_start (by decide +kernel) (Nat.le_of_ble_eq_true rfl) (fun p e s m args below meth c A Q hA hQ C X => ?_)
  refine r_Le (L' := [(0, .ref fl)]) rfl ?_
  refine r_aload_n C dX10_undo_0 0 rfl ?_
  refine r_get (Cn := RX10) (T := TX10) (N := 7) C inT10 0 rfl rfl 2 (by decide) t_221 rfl dX10_undo_1 ?_
  refine r_callV (ci := 0) (wc := [histB cI cL cP hi sa PS AS LS hS_ vS lieS sealsS foldsS nS fS_ size]) (wr := [[(fl, .inr (8, [.ref pl, .ref pl2, .ref hi, .ref tx, .ref u, .ref w, .int taken]))], pileB cI cL pl a L h v lie seals folds n f]) (st := []) C (m_X1_size l D cI cL cP cJ hi sa PS AS LS hS_ vS lieS sealsS foldsS nS fS_ size) k_X1_size t_493 [2, 0, 1] (show ([2, 0, 1] : List Nat).Perm (List.range 3) by decide) rfl rfl rfl (q0 := 0) rfl rfl rfl (Nat.le_of_ble_eq_true rfl) ⟨Nat.le_of_ble_eq_true rfl, Nat.le_of_ble_eq_true rfl⟩ ⟨Nat.zero_le _, Nat.zero_le _⟩ dX10_undo_4 (fun r1 wr1 hw1 => ?_)
  obtain ⟨e_r1, rfl⟩ := hw1
  have hp := hp r1 e_r1
  refine r_ws (I' := [histB cI cL cP hi sa PS AS LS hS_ vS lieS sealsS foldsS nS fS_ size, [(fl, .inr (8, [.ref pl, .ref pl2, .ref hi, .ref tx, .ref u, .ref w, .int taken]))], pileB cI cL pl a L h v lie seals folds n f]) rfl ?_
  refine r_if_ne (tgt := 20) C dX10_undo_7 (by decide) (fun c2 => ?_) (fun c2 => ?_)
  · exact absurd hp c2
  · refine r_pl (I' := [[(fl, .inr (8, [.ref pl, .ref pl2, .ref hi, .ref tx, .ref u, .ref w, .int taken]))], pileB cI cL pl a L h v lie seals folds n f, histB cI cL cP hi sa PS AS LS hS_ vS lieS sealsS foldsS nS fS_ size]) [1, 2, 0] (show ([1, 2, 0] : List Nat).Perm (List.range 3) by decide) rfl ?_
    exact r_throw (E := "java/lang/IllegalStateException") (text := "no state is saved") (w1 := [[(fl, .inr (8, [.ref pl, .ref pl2, .ref hi, .ref tx, .ref u, .ref w, .int taken]))], pileB cI cL pl a L h v lie seals folds n f, histB cI cL cP hi sa PS AS LS hS_ vS lieS sealsS foldsS nS fS_ size]) C X hA t_629 t_72 (by decide) (by decide) xa_4 xb_4 xg_4 xf_3 xf_0 dX10_undo_10 dX10_undo_13 dX10_undo_14 dX10_undo_16 dX10_undo_19 ⟨Nat.le_of_ble_eq_true rfl, Nat.le_of_ble_eq_true rfl, Nat.le_of_ble_eq_true rfl, Nat.le_of_ble_eq_true rfl⟩ (Nat.le_of_ble_eq_true rfl) rfl hQ
def PX_X10_layer_1 (letter : Int32) (position : Int32) : Prop := ((PX_X4_atB_1 letter) ∨ ((P_X4_atB letter) ∧ (PX_X10_needPosition_1 position)))
set_option maxRecDepth 20000 in
set_option maxHeartbeats 8000000 in
theorem mx_X10_layer_1 (l : Launch) (D : va_G) (cI cL cP cJ : ClassId) (fl : Nat) (pl : Nat) (a : Nat) (L : Nat → Nat) (h : Nat → Nat) (v : Nat → Nat) (lie : Nat → Int32) (seals : Nat → Int32) (folds : Nat → Int32) (n : Nat → Int32) (f : Nat → Nat → Int32) (pl2 : Nat) (hi : Nat) (tx : Nat) (u : Nat) (w : Nat) (taken : Int32) (letter : Int32) (position : Int32) (hp : PX_X10_layer_1 letter position) : MX l yX10_layer cX10_layer 4 (some .int) 7 119 D (tyF cI cL cP cJ) [.ref fl, .int letter, .int position] [[(fl, .inr (8, [.ref pl, .ref pl2, .ref hi, .ref tx, .ref u, .ref w, .int taken]))], pileB cI cL pl a L h v lie seals folds n f] [[(fl, .inr (8, [.ref pl, .ref pl2, .ref hi, .ref tx, .ref u, .ref w, .int taken]))], pileB cI cL pl a L h v lie seals folds n f] "java/lang/IndexOutOfBoundsException" := by
  unfold PX_X10_layer_1 at hp
  refine mx_start (by decide +kernel) (Nat.le_of_ble_eq_true rfl) (fun p e s m args below meth c A Q hA hQ C X => ?_)
  refine r_Le (L' := [(0, .ref fl), (1, .int letter), (2, .int position)]) rfl ?_
  refine r_aload_n C dX10_layer_0 0 rfl ?_
  refine r_get (Cn := RX10) (T := TX10) (N := 7) C inT10 0 rfl rfl 0 (by decide) t_219 rfl dX10_layer_1 ?_
  refine r_iload_n C dX10_layer_4 1 rfl ?_
  rcases hp with h1 | hp
  · refine r_xV (ci := 2) (wc := [pileB cI cL pl a L h v lie seals folds n f]) (wr := [[(fl, .inr (8, [.ref pl, .ref pl2, .ref hi, .ref tx, .ref u, .ref w, .int taken]))]]) (w1c := [pileB cI cL pl a L h v lie seals folds n f]) (st := []) C X.2.2.1 X.2.2.2.1 X.2.2.2.2 (mx_X4_atB_1 l D cI cL cP cJ pl a L h v lie seals folds n f letter h1) k_X4_at t_525 [1, 0] (show ([1, 0] : List Nat).Perm (List.range 2) by decide) rfl rfl rfl (q0 := 0) rfl rfl rfl (Nat.le_of_ble_eq_true rfl) ⟨Nat.le_of_ble_eq_true rfl, Nat.le_of_ble_eq_true rfl⟩ ⟨Nat.le_of_ble_eq_true rfl, Nat.le_of_ble_eq_true rfl⟩ dX10_layer_5 ?_
    exact r_out (w1 := [[(fl, .inr (8, [.ref pl, .ref pl2, .ref hi, .ref tx, .ref u, .ref w, .int taken]))], pileB cI cL pl a L h v lie seals folds n f]) C X hA hQ [1, 0] (show ([1, 0] : List Nat).Perm (List.range 2) by decide) rfl
  · obtain ⟨h2, hp⟩ := hp
    refine r_callV (ci := 2) (wc := [pileB cI cL pl a L h v lie seals folds n f]) (wr := [[(fl, .inr (8, [.ref pl, .ref pl2, .ref hi, .ref tx, .ref u, .ref w, .int taken]))]]) (st := []) C (m_X4_atB l D cI cL cP cJ pl a L h v lie seals folds n f letter h2) k_X4_at t_525 [1, 0] (show ([1, 0] : List Nat).Perm (List.range 2) by decide) rfl rfl rfl (q0 := 0) rfl rfl rfl (Nat.le_of_ble_eq_true rfl) ⟨Nat.le_of_ble_eq_true rfl, Nat.le_of_ble_eq_true rfl⟩ ⟨Nat.zero_le _, Nat.zero_le _⟩ dX10_layer_5 (fun r3 wr3 hw3 => ?_)
    obtain ⟨rfl, rfl⟩ := hw3
    refine r_ws (I' := [pileB cI cL pl a L h v lie seals folds n f, [(fl, .inr (8, [.ref pl, .ref pl2, .ref hi, .ref tx, .ref u, .ref w, .int taken]))]]) rfl ?_
    refine r_astore_n (L' := [(3, .ref (L letter.toNatClampNeg)), (0, .ref fl), (1, .int letter), (2, .int position)]) C dX10_layer_8 (by decide) rfl ?_
    refine r_iload_n C dX10_layer_9 3 rfl ?_
    have h4 := hp
    refine r_xS (wc := []) (wr := [pileB cI cL pl a L h v lie seals folds n f, [(fl, .inr (8, [.ref pl, .ref pl2, .ref hi, .ref tx, .ref u, .ref w, .int taken]))]]) (w1c := []) (st := []) C X.2.2.1 X.2.2.2.1 X.2.2.2.2 (mx_X10_needPosition_1 l D cI cL cP cJ position h4) k_X10_needPosition t_526 [0, 1] (show ([0, 1] : List Nat).Perm (List.range 2) by decide) rfl rfl rfl (Nat.le_of_ble_eq_true rfl) ⟨Nat.le_of_ble_eq_true rfl, Nat.le_of_ble_eq_true rfl⟩ ⟨Nat.le_of_ble_eq_true rfl, Nat.le_of_ble_eq_true rfl⟩ dX10_layer_10 ?_
    exact r_out (w1 := [[(fl, .inr (8, [.ref pl, .ref pl2, .ref hi, .ref tx, .ref u, .ref w, .int taken]))], pileB cI cL pl a L h v lie seals folds n f]) C X hA hQ [1, 0] (show ([1, 0] : List Nat).Perm (List.range 2) by decide) rfl
def PX_X10_letter_1 (letter : Int32) : Prop := (PX_X4_atB_1 letter)
set_option maxRecDepth 20000 in
set_option maxHeartbeats 8000000 in
theorem mx_X10_letter_1 (l : Launch) (D : va_G) (cI cL cP cJ : ClassId) (fl : Nat) (pl : Nat) (a : Nat) (L : Nat → Nat) (h : Nat → Nat) (v : Nat → Nat) (lie : Nat → Int32) (seals : Nat → Int32) (folds : Nat → Int32) (n : Nat → Int32) (f : Nat → Nat → Int32) (pl2 : Nat) (hi : Nat) (tx : Nat) (u : Nat) (w : Nat) (taken : Int32) (letter : Int32) (what : Int32) (hp : PX_X10_letter_1 letter) : MX l yX10_letter cX10_letter 4 (some .int) 7 119 D (tyF cI cL cP cJ) [.ref fl, .int letter, .int what] [[(fl, .inr (8, [.ref pl, .ref pl2, .ref hi, .ref tx, .ref u, .ref w, .int taken]))], pileB cI cL pl a L h v lie seals folds n f] [[(fl, .inr (8, [.ref pl, .ref pl2, .ref hi, .ref tx, .ref u, .ref w, .int taken]))], pileB cI cL pl a L h v lie seals folds n f] "java/lang/IndexOutOfBoundsException" := by
  unfold PX_X10_letter_1 at hp
  refine mx_start (by decide +kernel) (Nat.le_of_ble_eq_true rfl) (fun p e s m args below meth c A Q hA hQ C X => ?_)
  refine r_Le (L' := [(0, .ref fl), (1, .int letter), (2, .int what)]) rfl ?_
  refine r_aload_n C dX10_letter_0 0 rfl ?_
  refine r_get (Cn := RX10) (T := TX10) (N := 7) C inT10 0 rfl rfl 0 (by decide) t_219 rfl dX10_letter_1 ?_
  refine r_iload_n C dX10_letter_4 1 rfl ?_
  have h1 := hp
  refine r_xV (ci := 2) (wc := [pileB cI cL pl a L h v lie seals folds n f]) (wr := [[(fl, .inr (8, [.ref pl, .ref pl2, .ref hi, .ref tx, .ref u, .ref w, .int taken]))]]) (w1c := [pileB cI cL pl a L h v lie seals folds n f]) (st := []) C X.2.2.1 X.2.2.2.1 X.2.2.2.2 (mx_X4_atB_1 l D cI cL cP cJ pl a L h v lie seals folds n f letter h1) k_X4_at t_525 [1, 0] (show ([1, 0] : List Nat).Perm (List.range 2) by decide) rfl rfl rfl (q0 := 0) rfl rfl rfl (Nat.le_of_ble_eq_true rfl) ⟨Nat.le_of_ble_eq_true rfl, Nat.le_of_ble_eq_true rfl⟩ ⟨Nat.le_of_ble_eq_true rfl, Nat.le_of_ble_eq_true rfl⟩ dX10_letter_5 ?_
  exact r_out (w1 := [[(fl, .inr (8, [.ref pl, .ref pl2, .ref hi, .ref tx, .ref u, .ref w, .int taken]))], pileB cI cL pl a L h v lie seals folds n f]) C X hA hQ [1, 0] (show ([1, 0] : List Nat).Perm (List.range 2) by decide) rfl
def PX_X10_letter_2 (letter : Int32) (what : Int32) : Prop := ((P_X4_atB letter) ∧ ((what < 0 → True) ∧ (¬ what < 0 → (¬ what ≤ 10))))
set_option maxRecDepth 20000 in
set_option maxHeartbeats 8000000 in
theorem mx_X10_letter_2 (l : Launch) (D : va_G) (cI cL cP cJ : ClassId) (fl : Nat) (pl : Nat) (a : Nat) (L : Nat → Nat) (h : Nat → Nat) (v : Nat → Nat) (lie : Nat → Int32) (seals : Nat → Int32) (folds : Nat → Int32) (n : Nat → Int32) (f : Nat → Nat → Int32) (pl2 : Nat) (hi : Nat) (tx : Nat) (u : Nat) (w : Nat) (taken : Int32) (letter : Int32) (what : Int32) (hp : PX_X10_letter_2 letter what) : MX l yX10_letter cX10_letter 4 (some .int) 6 108 D (tyF cI cL cP cJ) [.ref fl, .int letter, .int what] [[(fl, .inr (8, [.ref pl, .ref pl2, .ref hi, .ref tx, .ref u, .ref w, .int taken]))], pileB cI cL pl a L h v lie seals folds n f] [[(fl, .inr (8, [.ref pl, .ref pl2, .ref hi, .ref tx, .ref u, .ref w, .int taken]))], pileB cI cL pl a L h v lie seals folds n f] "java/lang/IllegalArgumentException" := by
  unfold PX_X10_letter_2 at hp
  refine mx_start (by decide +kernel) (Nat.le_of_ble_eq_true rfl) (fun p e s m args below meth c A Q hA hQ C X => ?_)
  refine r_Le (L' := [(0, .ref fl), (1, .int letter), (2, .int what)]) rfl ?_
  refine r_aload_n C dX10_letter_0 0 rfl ?_
  refine r_get (Cn := RX10) (T := TX10) (N := 7) C inT10 0 rfl rfl 0 (by decide) t_219 rfl dX10_letter_1 ?_
  refine r_iload_n C dX10_letter_4 1 rfl ?_
  obtain ⟨h1, hp⟩ := hp
  refine r_callV (ci := 2) (wc := [pileB cI cL pl a L h v lie seals folds n f]) (wr := [[(fl, .inr (8, [.ref pl, .ref pl2, .ref hi, .ref tx, .ref u, .ref w, .int taken]))]]) (st := []) C (m_X4_atB l D cI cL cP cJ pl a L h v lie seals folds n f letter h1) k_X4_at t_525 [1, 0] (show ([1, 0] : List Nat).Perm (List.range 2) by decide) rfl rfl rfl (q0 := 0) rfl rfl rfl (Nat.le_of_ble_eq_true rfl) ⟨Nat.le_of_ble_eq_true rfl, Nat.le_of_ble_eq_true rfl⟩ ⟨Nat.zero_le _, Nat.zero_le _⟩ dX10_letter_5 (fun r2 wr2 hw2 => ?_)
  obtain ⟨rfl, rfl⟩ := hw2
  refine r_ws (I' := [pileB cI cL pl a L h v lie seals folds n f, [(fl, .inr (8, [.ref pl, .ref pl2, .ref hi, .ref tx, .ref u, .ref w, .int taken]))]]) rfl ?_
  refine r_astore_n (L' := [(3, .ref (L letter.toNatClampNeg)), (0, .ref fl), (1, .int letter), (2, .int what)]) C dX10_letter_8 (by decide) rfl ?_
  refine r_iload_n C dX10_letter_9 3 rfl ?_
  refine r_if_lt (tgt := 19) C dX10_letter_10 (by decide) (fun c3 => ?_) (fun c3 => ?_)
  · refine r_pl (I' := [[(fl, .inr (8, [.ref pl, .ref pl2, .ref hi, .ref tx, .ref u, .ref w, .int taken]))], pileB cI cL pl a L h v lie seals folds n f]) [1, 0] (show ([1, 0] : List Nat).Perm (List.range 2) by decide) rfl ?_
    exact r_throw (E := "java/lang/IllegalArgumentException") (text := "a letter has no such number") (w1 := [[(fl, .inr (8, [.ref pl, .ref pl2, .ref hi, .ref tx, .ref u, .ref w, .int taken]))], pileB cI cL pl a L h v lie seals folds n f]) C X hA t_497 t_75 (by decide) (by decide) xa_3 xb_3 xg_3 xf_2 xf_0 dX10_letter_19 dX10_letter_22 dX10_letter_23 dX10_letter_25 dX10_letter_28 ⟨Nat.le_of_ble_eq_true rfl, Nat.le_of_ble_eq_true rfl, Nat.le_of_ble_eq_true rfl, Nat.le_of_ble_eq_true rfl⟩ (Nat.le_of_ble_eq_true rfl) rfl hQ
  · have hp := hp.2 c3
    refine r_iload_n C dX10_letter_13 3 rfl ?_
    refine r_bipush (v := 10) C dX10_letter_14 (by decide) ?_
    refine r_icmp_le (tgt := 29) C dX10_letter_16 (by decide) (fun c4 => ?_) (fun c4 => ?_)
    · exact absurd c4 hp
    · refine r_pl (I' := [[(fl, .inr (8, [.ref pl, .ref pl2, .ref hi, .ref tx, .ref u, .ref w, .int taken]))], pileB cI cL pl a L h v lie seals folds n f]) [1, 0] (show ([1, 0] : List Nat).Perm (List.range 2) by decide) rfl ?_
      exact r_throw (E := "java/lang/IllegalArgumentException") (text := "a letter has no such number") (w1 := [[(fl, .inr (8, [.ref pl, .ref pl2, .ref hi, .ref tx, .ref u, .ref w, .int taken]))], pileB cI cL pl a L h v lie seals folds n f]) C X hA t_497 t_75 (by decide) (by decide) xa_3 xb_3 xg_3 xf_2 xf_0 dX10_letter_19 dX10_letter_22 dX10_letter_23 dX10_letter_25 dX10_letter_28 ⟨Nat.le_of_ble_eq_true rfl, Nat.le_of_ble_eq_true rfl, Nat.le_of_ble_eq_true rfl, Nat.le_of_ble_eq_true rfl⟩ (Nat.le_of_ble_eq_true rfl) rfl hQ
def PX_X10_crease_1 (letter : Int32) (place : Int32) : Prop := ((PX_X4_atB_1 letter) ∨ ((P_X4_atB letter) ∧ (PX_X10_needPlace_1 place)))
set_option maxRecDepth 20000 in
set_option maxHeartbeats 8000000 in
theorem mx_X10_crease_1 (l : Launch) (D : va_G) (cI cL cP cJ : ClassId) (fl : Nat) (pl : Nat) (a : Nat) (L : Nat → Nat) (h : Nat → Nat) (v : Nat → Nat) (lie : Nat → Int32) (seals : Nat → Int32) (folds : Nat → Int32) (n : Nat → Int32) (f : Nat → Nat → Int32) (pl2 : Nat) (hi : Nat) (tx : Nat) (u : Nat) (w : Nat) (taken : Int32) (letter : Int32) (place : Int32) (hp : PX_X10_crease_1 letter place) : MX l yX10_crease cX10_crease 4 (some .int) 7 119 D (tyF cI cL cP cJ) [.ref fl, .int letter, .int place] [[(fl, .inr (8, [.ref pl, .ref pl2, .ref hi, .ref tx, .ref u, .ref w, .int taken]))], pileB cI cL pl a L h v lie seals folds n f] [[(fl, .inr (8, [.ref pl, .ref pl2, .ref hi, .ref tx, .ref u, .ref w, .int taken]))], pileB cI cL pl a L h v lie seals folds n f] "java/lang/IndexOutOfBoundsException" := by
  unfold PX_X10_crease_1 at hp
  refine mx_start (by decide +kernel) (Nat.le_of_ble_eq_true rfl) (fun p e s m args below meth c A Q hA hQ C X => ?_)
  refine r_Le (L' := [(0, .ref fl), (1, .int letter), (2, .int place)]) rfl ?_
  refine r_aload_n C dX10_crease_0 0 rfl ?_
  refine r_get (Cn := RX10) (T := TX10) (N := 7) C inT10 0 rfl rfl 0 (by decide) t_219 rfl dX10_crease_1 ?_
  refine r_iload_n C dX10_crease_4 1 rfl ?_
  rcases hp with h1 | hp
  · refine r_xV (ci := 2) (wc := [pileB cI cL pl a L h v lie seals folds n f]) (wr := [[(fl, .inr (8, [.ref pl, .ref pl2, .ref hi, .ref tx, .ref u, .ref w, .int taken]))]]) (w1c := [pileB cI cL pl a L h v lie seals folds n f]) (st := []) C X.2.2.1 X.2.2.2.1 X.2.2.2.2 (mx_X4_atB_1 l D cI cL cP cJ pl a L h v lie seals folds n f letter h1) k_X4_at t_525 [1, 0] (show ([1, 0] : List Nat).Perm (List.range 2) by decide) rfl rfl rfl (q0 := 0) rfl rfl rfl (Nat.le_of_ble_eq_true rfl) ⟨Nat.le_of_ble_eq_true rfl, Nat.le_of_ble_eq_true rfl⟩ ⟨Nat.le_of_ble_eq_true rfl, Nat.le_of_ble_eq_true rfl⟩ dX10_crease_5 ?_
    exact r_out (w1 := [[(fl, .inr (8, [.ref pl, .ref pl2, .ref hi, .ref tx, .ref u, .ref w, .int taken]))], pileB cI cL pl a L h v lie seals folds n f]) C X hA hQ [1, 0] (show ([1, 0] : List Nat).Perm (List.range 2) by decide) rfl
  · obtain ⟨h2, hp⟩ := hp
    refine r_callV (ci := 2) (wc := [pileB cI cL pl a L h v lie seals folds n f]) (wr := [[(fl, .inr (8, [.ref pl, .ref pl2, .ref hi, .ref tx, .ref u, .ref w, .int taken]))]]) (st := []) C (m_X4_atB l D cI cL cP cJ pl a L h v lie seals folds n f letter h2) k_X4_at t_525 [1, 0] (show ([1, 0] : List Nat).Perm (List.range 2) by decide) rfl rfl rfl (q0 := 0) rfl rfl rfl (Nat.le_of_ble_eq_true rfl) ⟨Nat.le_of_ble_eq_true rfl, Nat.le_of_ble_eq_true rfl⟩ ⟨Nat.zero_le _, Nat.zero_le _⟩ dX10_crease_5 (fun r3 wr3 hw3 => ?_)
    obtain ⟨rfl, rfl⟩ := hw3
    refine r_ws (I' := [pileB cI cL pl a L h v lie seals folds n f, [(fl, .inr (8, [.ref pl, .ref pl2, .ref hi, .ref tx, .ref u, .ref w, .int taken]))]]) rfl ?_
    refine r_astore_n (L' := [(3, .ref (L letter.toNatClampNeg)), (0, .ref fl), (1, .int letter), (2, .int place)]) C dX10_crease_8 (by decide) rfl ?_
    refine r_iload_n C dX10_crease_9 3 rfl ?_
    have h4 := hp
    refine r_xS (wc := []) (wr := [pileB cI cL pl a L h v lie seals folds n f, [(fl, .inr (8, [.ref pl, .ref pl2, .ref hi, .ref tx, .ref u, .ref w, .int taken]))]]) (w1c := []) (st := []) C X.2.2.1 X.2.2.2.1 X.2.2.2.2 (mx_X10_needPlace_1 l D cI cL cP cJ place h4) k_X10_needPlace t_852 [0, 1] (show ([0, 1] : List Nat).Perm (List.range 2) by decide) rfl rfl rfl (Nat.le_of_ble_eq_true rfl) ⟨Nat.le_of_ble_eq_true rfl, Nat.le_of_ble_eq_true rfl⟩ ⟨Nat.le_of_ble_eq_true rfl, Nat.le_of_ble_eq_true rfl⟩ dX10_crease_10 ?_
    exact r_out (w1 := [[(fl, .inr (8, [.ref pl, .ref pl2, .ref hi, .ref tx, .ref u, .ref w, .int taken]))], pileB cI cL pl a L h v lie seals folds n f]) C X hA hQ [1, 0] (show ([1, 0] : List Nat).Perm (List.range 2) by decide) rfl
def PX_X10_least_1 (letter : Int32) (place : Int32) : Prop := ((PX_X4_atB_1 letter) ∨ ((P_X4_atB letter) ∧ (PX_X10_needPlace_1 place)))
set_option maxRecDepth 20000 in
set_option maxHeartbeats 8000000 in
theorem mx_X10_least_1 (l : Launch) (D : va_G) (cI cL cP cJ : ClassId) (fl : Nat) (pl : Nat) (a : Nat) (L : Nat → Nat) (h : Nat → Nat) (v : Nat → Nat) (lie : Nat → Int32) (seals : Nat → Int32) (folds : Nat → Int32) (n : Nat → Int32) (f : Nat → Nat → Int32) (pl2 : Nat) (hi : Nat) (tx : Nat) (u : Nat) (w : Nat) (taken : Int32) (letter : Int32) (place : Int32) (hp : PX_X10_least_1 letter place) : MX l yX10_least cX10_least 4 (some .int) 7 119 D (tyF cI cL cP cJ) [.ref fl, .int letter, .int place] [[(fl, .inr (8, [.ref pl, .ref pl2, .ref hi, .ref tx, .ref u, .ref w, .int taken]))], pileB cI cL pl a L h v lie seals folds n f] [[(fl, .inr (8, [.ref pl, .ref pl2, .ref hi, .ref tx, .ref u, .ref w, .int taken]))], pileB cI cL pl a L h v lie seals folds n f] "java/lang/IndexOutOfBoundsException" := by
  unfold PX_X10_least_1 at hp
  refine mx_start (by decide +kernel) (Nat.le_of_ble_eq_true rfl) (fun p e s m args below meth c A Q hA hQ C X => ?_)
  refine r_Le (L' := [(0, .ref fl), (1, .int letter), (2, .int place)]) rfl ?_
  refine r_aload_n C dX10_least_0 0 rfl ?_
  refine r_get (Cn := RX10) (T := TX10) (N := 7) C inT10 0 rfl rfl 0 (by decide) t_219 rfl dX10_least_1 ?_
  refine r_iload_n C dX10_least_4 1 rfl ?_
  rcases hp with h1 | hp
  · refine r_xV (ci := 2) (wc := [pileB cI cL pl a L h v lie seals folds n f]) (wr := [[(fl, .inr (8, [.ref pl, .ref pl2, .ref hi, .ref tx, .ref u, .ref w, .int taken]))]]) (w1c := [pileB cI cL pl a L h v lie seals folds n f]) (st := []) C X.2.2.1 X.2.2.2.1 X.2.2.2.2 (mx_X4_atB_1 l D cI cL cP cJ pl a L h v lie seals folds n f letter h1) k_X4_at t_525 [1, 0] (show ([1, 0] : List Nat).Perm (List.range 2) by decide) rfl rfl rfl (q0 := 0) rfl rfl rfl (Nat.le_of_ble_eq_true rfl) ⟨Nat.le_of_ble_eq_true rfl, Nat.le_of_ble_eq_true rfl⟩ ⟨Nat.le_of_ble_eq_true rfl, Nat.le_of_ble_eq_true rfl⟩ dX10_least_5 ?_
    exact r_out (w1 := [[(fl, .inr (8, [.ref pl, .ref pl2, .ref hi, .ref tx, .ref u, .ref w, .int taken]))], pileB cI cL pl a L h v lie seals folds n f]) C X hA hQ [1, 0] (show ([1, 0] : List Nat).Perm (List.range 2) by decide) rfl
  · obtain ⟨h2, hp⟩ := hp
    refine r_callV (ci := 2) (wc := [pileB cI cL pl a L h v lie seals folds n f]) (wr := [[(fl, .inr (8, [.ref pl, .ref pl2, .ref hi, .ref tx, .ref u, .ref w, .int taken]))]]) (st := []) C (m_X4_atB l D cI cL cP cJ pl a L h v lie seals folds n f letter h2) k_X4_at t_525 [1, 0] (show ([1, 0] : List Nat).Perm (List.range 2) by decide) rfl rfl rfl (q0 := 0) rfl rfl rfl (Nat.le_of_ble_eq_true rfl) ⟨Nat.le_of_ble_eq_true rfl, Nat.le_of_ble_eq_true rfl⟩ ⟨Nat.zero_le _, Nat.zero_le _⟩ dX10_least_5 (fun r3 wr3 hw3 => ?_)
    obtain ⟨rfl, rfl⟩ := hw3
    refine r_ws (I' := [pileB cI cL pl a L h v lie seals folds n f, [(fl, .inr (8, [.ref pl, .ref pl2, .ref hi, .ref tx, .ref u, .ref w, .int taken]))]]) rfl ?_
    refine r_astore_n (L' := [(3, .ref (L letter.toNatClampNeg)), (0, .ref fl), (1, .int letter), (2, .int place)]) C dX10_least_8 (by decide) rfl ?_
    refine r_iload_n C dX10_least_9 3 rfl ?_
    have h4 := hp
    refine r_xS (wc := []) (wr := [pileB cI cL pl a L h v lie seals folds n f, [(fl, .inr (8, [.ref pl, .ref pl2, .ref hi, .ref tx, .ref u, .ref w, .int taken]))]]) (w1c := []) (st := []) C X.2.2.1 X.2.2.2.1 X.2.2.2.2 (mx_X10_needPlace_1 l D cI cL cP cJ place h4) k_X10_needPlace t_852 [0, 1] (show ([0, 1] : List Nat).Perm (List.range 2) by decide) rfl rfl rfl (Nat.le_of_ble_eq_true rfl) ⟨Nat.le_of_ble_eq_true rfl, Nat.le_of_ble_eq_true rfl⟩ ⟨Nat.le_of_ble_eq_true rfl, Nat.le_of_ble_eq_true rfl⟩ dX10_least_10 ?_
    exact r_out (w1 := [[(fl, .inr (8, [.ref pl, .ref pl2, .ref hi, .ref tx, .ref u, .ref w, .int taken]))], pileB cI cL pl a L h v lie seals folds n f]) C X hA hQ [1, 0] (show ([1, 0] : List Nat).Perm (List.range 2) by decide) rfl
def PX_X10_count_2 (what : Int32) : Prop := ((what = 0 → False) ∧ (¬ what = 0 → ((what = 1 → False) ∧ (¬ what = 1 → ((what = 2 → False) ∧ (¬ what = 2 → ((what = 3 → False) ∧ (¬ what = 3 → ((what = 4 → False) ∧ (¬ what = 4 → ((what = 5 → False) ∧ (¬ what = 5 → ((what = 6 → False) ∧ (¬ what = 6 → True))))))))))))))
set_option maxRecDepth 20000 in
set_option maxHeartbeats 8000000 in
theorem mx_X10_count_2 (l : Launch) (D : va_G) (cI cL cP cJ : ClassId) (fl : Nat) (pl : Nat) (a : Nat) (L : Nat → Nat) (h : Nat → Nat) (v : Nat → Nat) (lie : Nat → Int32) (seals : Nat → Int32) (folds : Nat → Int32) (n : Nat → Int32) (f : Nat → Nat → Int32) (pl2 : Nat) (hi : Nat) (sa : Nat) (PS : Nat → Nat) (AS : Nat → Nat) (LS : Nat → Nat → Nat) (hS_ : Nat → Nat → Nat) (vS : Nat → Nat → Nat) (lieS : Nat → Nat → Int32) (sealsS : Nat → Nat → Int32) (foldsS : Nat → Nat → Int32) (nS : Nat → Nat → Int32) (fS_ : Nat → Nat → Nat → Int32) (size : Int32) (tx : Nat) (u : Nat) (w : Nat) (taken : Int32) (what : Int32) (hp : PX_X10_count_2 what) : MX l yX10_count cX10_count 2 (some .int) 6 131 D (tyF cI cL cP cJ) [.ref fl, .int what] [[(fl, .inr (8, [.ref pl, .ref pl2, .ref hi, .ref tx, .ref u, .ref w, .int taken]))], pileB cI cL pl a L h v lie seals folds n f, histB cI cL cP hi sa PS AS LS hS_ vS lieS sealsS foldsS nS fS_ size] [[(fl, .inr (8, [.ref pl, .ref pl2, .ref hi, .ref tx, .ref u, .ref w, .int taken]))], pileB cI cL pl a L h v lie seals folds n f, histB cI cL cP hi sa PS AS LS hS_ vS lieS sealsS foldsS nS fS_ size] "java/lang/IllegalArgumentException" := by
  unfold PX_X10_count_2 at hp
  refine mx_start (by decide +kernel) (Nat.le_of_ble_eq_true rfl) (fun p e s m args below meth c A Q hA hQ C X => ?_)
  refine r_Le (L' := [(0, .ref fl), (1, .int what)]) rfl ?_
  refine r_iload_n C dX10_count_0 1 rfl ?_
  by_cases c11 : what = 0
  · have hp := hp.1 c11
    refine r_tin (tgt := 44) (off := 43) C dX10_count_1 c11 (by decide) (by decide) (by decide) (by decide) ?_
    exact hp.elim
  have hp := hp.2 c11
  by_cases c12 : what = 1
  · have hp := hp.1 c12
    refine r_tin (tgt := 54) (off := 53) C dX10_count_1 c12 (by decide) (by decide) (by decide) (by decide) ?_
    exact hp.elim
  have hp := hp.2 c12
  by_cases c13 : what = 2
  · have hp := hp.1 c13
    refine r_tin (tgt := 62) (off := 61) C dX10_count_1 c13 (by decide) (by decide) (by decide) (by decide) ?_
    exact hp.elim
  have hp := hp.2 c13
  by_cases c14 : what = 3
  · have hp := hp.1 c14
    refine r_tin (tgt := 71) (off := 70) C dX10_count_1 c14 (by decide) (by decide) (by decide) (by decide) ?_
    exact hp.elim
  have hp := hp.2 c14
  by_cases c15 : what = 4
  · have hp := hp.1 c15
    refine r_tin (tgt := 80) (off := 79) C dX10_count_1 c15 (by decide) (by decide) (by decide) (by decide) ?_
    exact hp.elim
  have hp := hp.2 c15
  by_cases c16 : what = 5
  · have hp := hp.1 c16
    refine r_tin (tgt := 88) (off := 87) C dX10_count_1 c16 (by decide) (by decide) (by decide) (by decide) ?_
    exact hp.elim
  have hp := hp.2 c16
  by_cases c17 : what = 6
  · have hp := hp.1 c17
    refine r_tin (tgt := 96) (off := 95) C dX10_count_1 c17 (by decide) (by decide) (by decide) (by decide) ?_
    exact hp.elim
  have hp := hp.2 c17
  refine r_tout (tgt := 104) C dX10_count_1 (sw_out 6 (by decide) (fun i hi => by rcases (show i = 0 ∨ i = 1 ∨ i = 2 ∨ i = 3 ∨ i = 4 ∨ i = 5 ∨ i = 6 by omega) with rfl | rfl | rfl | rfl | rfl | rfl | rfl; exact c11; exact c12; exact c13; exact c14; exact c15; exact c16; exact c17)) (by decide) ?_
  exact r_throw (E := "java/lang/IllegalArgumentException") (text := "there is no such count") (w1 := [[(fl, .inr (8, [.ref pl, .ref pl2, .ref hi, .ref tx, .ref u, .ref w, .int taken]))], pileB cI cL pl a L h v lie seals folds n f, histB cI cL cP hi sa PS AS LS hS_ vS lieS sealsS foldsS nS fS_ size]) C X hA t_497 t_75 (by decide) (by decide) xa_3 xb_3 xg_3 xf_2 xf_0 dX10_count_104 dX10_count_107 dX10_count_108 dX10_count_110 dX10_count_113 ⟨Nat.le_of_ble_eq_true rfl, Nat.le_of_ble_eq_true rfl, Nat.le_of_ble_eq_true rfl, Nat.le_of_ble_eq_true rfl⟩ (Nat.le_of_ble_eq_true rfl) rfl hQ
def PX_X10_why_1 (letter : Int32) (crease : Int32) : Prop := ((PX_X4_atB_1 letter) ∨ ((P_X4_atB letter) ∧ (PX_X10_needCrease_1 crease)))
set_option maxRecDepth 20000 in
set_option maxHeartbeats 8000000 in
theorem mx_X10_why_1 (l : Launch) (D : va_G) (cI cL cP cJ : ClassId) (fl : Nat) (pl : Nat) (a : Nat) (L : Nat → Nat) (h : Nat → Nat) (v : Nat → Nat) (lie : Nat → Int32) (seals : Nat → Int32) (folds : Nat → Int32) (n : Nat → Int32) (f : Nat → Nat → Int32) (pl2 : Nat) (hi : Nat) (tx : Nat) (u : Nat) (w : Nat) (taken : Int32) (letter : Int32) (crease : Int32) (hp : PX_X10_why_1 letter crease) : MX l yX10_why cX10_why 4 (some .int) 7 119 D (tyF cI cL cP cJ) [.ref fl, .int letter, .int crease] [[(fl, .inr (8, [.ref pl, .ref pl2, .ref hi, .ref tx, .ref u, .ref w, .int taken]))], pileB cI cL pl a L h v lie seals folds n f] [[(fl, .inr (8, [.ref pl, .ref pl2, .ref hi, .ref tx, .ref u, .ref w, .int taken]))], pileB cI cL pl a L h v lie seals folds n f] "java/lang/IndexOutOfBoundsException" := by
  unfold PX_X10_why_1 at hp
  refine mx_start (by decide +kernel) (Nat.le_of_ble_eq_true rfl) (fun p e s m args below meth c A Q hA hQ C X => ?_)
  refine r_Le (L' := [(0, .ref fl), (1, .int letter), (2, .int crease)]) rfl ?_
  refine r_aload_n C dX10_why_0 0 rfl ?_
  refine r_get (Cn := RX10) (T := TX10) (N := 7) C inT10 0 rfl rfl 0 (by decide) t_219 rfl dX10_why_1 ?_
  refine r_iload_n C dX10_why_4 1 rfl ?_
  rcases hp with h1 | hp
  · refine r_xV (ci := 2) (wc := [pileB cI cL pl a L h v lie seals folds n f]) (wr := [[(fl, .inr (8, [.ref pl, .ref pl2, .ref hi, .ref tx, .ref u, .ref w, .int taken]))]]) (w1c := [pileB cI cL pl a L h v lie seals folds n f]) (st := []) C X.2.2.1 X.2.2.2.1 X.2.2.2.2 (mx_X4_atB_1 l D cI cL cP cJ pl a L h v lie seals folds n f letter h1) k_X4_at t_525 [1, 0] (show ([1, 0] : List Nat).Perm (List.range 2) by decide) rfl rfl rfl (q0 := 0) rfl rfl rfl (Nat.le_of_ble_eq_true rfl) ⟨Nat.le_of_ble_eq_true rfl, Nat.le_of_ble_eq_true rfl⟩ ⟨Nat.le_of_ble_eq_true rfl, Nat.le_of_ble_eq_true rfl⟩ dX10_why_5 ?_
    exact r_out (w1 := [[(fl, .inr (8, [.ref pl, .ref pl2, .ref hi, .ref tx, .ref u, .ref w, .int taken]))], pileB cI cL pl a L h v lie seals folds n f]) C X hA hQ [1, 0] (show ([1, 0] : List Nat).Perm (List.range 2) by decide) rfl
  · obtain ⟨h2, hp⟩ := hp
    refine r_callV (ci := 2) (wc := [pileB cI cL pl a L h v lie seals folds n f]) (wr := [[(fl, .inr (8, [.ref pl, .ref pl2, .ref hi, .ref tx, .ref u, .ref w, .int taken]))]]) (st := []) C (m_X4_atB l D cI cL cP cJ pl a L h v lie seals folds n f letter h2) k_X4_at t_525 [1, 0] (show ([1, 0] : List Nat).Perm (List.range 2) by decide) rfl rfl rfl (q0 := 0) rfl rfl rfl (Nat.le_of_ble_eq_true rfl) ⟨Nat.le_of_ble_eq_true rfl, Nat.le_of_ble_eq_true rfl⟩ ⟨Nat.zero_le _, Nat.zero_le _⟩ dX10_why_5 (fun r3 wr3 hw3 => ?_)
    obtain ⟨rfl, rfl⟩ := hw3
    refine r_ws (I' := [pileB cI cL pl a L h v lie seals folds n f, [(fl, .inr (8, [.ref pl, .ref pl2, .ref hi, .ref tx, .ref u, .ref w, .int taken]))]]) rfl ?_
    refine r_astore_n (L' := [(3, .ref (L letter.toNatClampNeg)), (0, .ref fl), (1, .int letter), (2, .int crease)]) C dX10_why_8 (by decide) rfl ?_
    refine r_iload_n C dX10_why_9 3 rfl ?_
    have h4 := hp
    refine r_xS (wc := []) (wr := [pileB cI cL pl a L h v lie seals folds n f, [(fl, .inr (8, [.ref pl, .ref pl2, .ref hi, .ref tx, .ref u, .ref w, .int taken]))]]) (w1c := []) (st := []) C X.2.2.1 X.2.2.2.1 X.2.2.2.2 (mx_X10_needCrease_1 l D cI cL cP cJ crease h4) k_X10_needCrease t_562 [0, 1] (show ([0, 1] : List Nat).Perm (List.range 2) by decide) rfl rfl rfl (Nat.le_of_ble_eq_true rfl) ⟨Nat.le_of_ble_eq_true rfl, Nat.le_of_ble_eq_true rfl⟩ ⟨Nat.le_of_ble_eq_true rfl, Nat.le_of_ble_eq_true rfl⟩ dX10_why_10 ?_
    exact r_out (w1 := [[(fl, .inr (8, [.ref pl, .ref pl2, .ref hi, .ref tx, .ref u, .ref w, .int taken]))], pileB cI cL pl a L h v lie seals folds n f]) C X hA hQ [1, 0] (show ([1, 0] : List Nat).Perm (List.range 2) by decide) rfl
def PX_X10_ifFolded_1 (letter : Int32) (crease : Int32) : Prop := ((PX_X4_atB_1 letter) ∨ ((P_X4_atB letter) ∧ (PX_X10_needCrease_1 crease)))
set_option maxRecDepth 20000 in
set_option maxHeartbeats 8000000 in
theorem mx_X10_ifFolded_1 (l : Launch) (D : va_G) (cI cL cP cJ : ClassId) (fl : Nat) (pl : Nat) (a : Nat) (L : Nat → Nat) (h : Nat → Nat) (v : Nat → Nat) (lie : Nat → Int32) (seals : Nat → Int32) (folds : Nat → Int32) (n : Nat → Int32) (f : Nat → Nat → Int32) (pl2 : Nat) (hi : Nat) (tx : Nat) (u : Nat) (w : Nat) (taken : Int32) (letter : Int32) (crease : Int32) (hp : PX_X10_ifFolded_1 letter crease) : MX l yX10_ifFolded cX10_ifFolded 4 (some .int) 7 119 D (tyF cI cL cP cJ) [.ref fl, .int letter, .int crease] [[(fl, .inr (8, [.ref pl, .ref pl2, .ref hi, .ref tx, .ref u, .ref w, .int taken]))], pileB cI cL pl a L h v lie seals folds n f] [[(fl, .inr (8, [.ref pl, .ref pl2, .ref hi, .ref tx, .ref u, .ref w, .int taken]))], pileB cI cL pl a L h v lie seals folds n f] "java/lang/IndexOutOfBoundsException" := by
  unfold PX_X10_ifFolded_1 at hp
  refine mx_start (by decide +kernel) (Nat.le_of_ble_eq_true rfl) (fun p e s m args below meth c A Q hA hQ C X => ?_)
  refine r_Le (L' := [(0, .ref fl), (1, .int letter), (2, .int crease)]) rfl ?_
  refine r_aload_n C dX10_ifFolded_0 0 rfl ?_
  refine r_get (Cn := RX10) (T := TX10) (N := 7) C inT10 0 rfl rfl 0 (by decide) t_219 rfl dX10_ifFolded_1 ?_
  refine r_iload_n C dX10_ifFolded_4 1 rfl ?_
  rcases hp with h1 | hp
  · refine r_xV (ci := 2) (wc := [pileB cI cL pl a L h v lie seals folds n f]) (wr := [[(fl, .inr (8, [.ref pl, .ref pl2, .ref hi, .ref tx, .ref u, .ref w, .int taken]))]]) (w1c := [pileB cI cL pl a L h v lie seals folds n f]) (st := []) C X.2.2.1 X.2.2.2.1 X.2.2.2.2 (mx_X4_atB_1 l D cI cL cP cJ pl a L h v lie seals folds n f letter h1) k_X4_at t_525 [1, 0] (show ([1, 0] : List Nat).Perm (List.range 2) by decide) rfl rfl rfl (q0 := 0) rfl rfl rfl (Nat.le_of_ble_eq_true rfl) ⟨Nat.le_of_ble_eq_true rfl, Nat.le_of_ble_eq_true rfl⟩ ⟨Nat.le_of_ble_eq_true rfl, Nat.le_of_ble_eq_true rfl⟩ dX10_ifFolded_5 ?_
    exact r_out (w1 := [[(fl, .inr (8, [.ref pl, .ref pl2, .ref hi, .ref tx, .ref u, .ref w, .int taken]))], pileB cI cL pl a L h v lie seals folds n f]) C X hA hQ [1, 0] (show ([1, 0] : List Nat).Perm (List.range 2) by decide) rfl
  · obtain ⟨h2, hp⟩ := hp
    refine r_callV (ci := 2) (wc := [pileB cI cL pl a L h v lie seals folds n f]) (wr := [[(fl, .inr (8, [.ref pl, .ref pl2, .ref hi, .ref tx, .ref u, .ref w, .int taken]))]]) (st := []) C (m_X4_atB l D cI cL cP cJ pl a L h v lie seals folds n f letter h2) k_X4_at t_525 [1, 0] (show ([1, 0] : List Nat).Perm (List.range 2) by decide) rfl rfl rfl (q0 := 0) rfl rfl rfl (Nat.le_of_ble_eq_true rfl) ⟨Nat.le_of_ble_eq_true rfl, Nat.le_of_ble_eq_true rfl⟩ ⟨Nat.zero_le _, Nat.zero_le _⟩ dX10_ifFolded_5 (fun r3 wr3 hw3 => ?_)
    obtain ⟨rfl, rfl⟩ := hw3
    refine r_ws (I' := [pileB cI cL pl a L h v lie seals folds n f, [(fl, .inr (8, [.ref pl, .ref pl2, .ref hi, .ref tx, .ref u, .ref w, .int taken]))]]) rfl ?_
    refine r_astore_n (L' := [(3, .ref (L letter.toNatClampNeg)), (0, .ref fl), (1, .int letter), (2, .int crease)]) C dX10_ifFolded_8 (by decide) rfl ?_
    refine r_iload_n C dX10_ifFolded_9 3 rfl ?_
    have h4 := hp
    refine r_xS (wc := []) (wr := [pileB cI cL pl a L h v lie seals folds n f, [(fl, .inr (8, [.ref pl, .ref pl2, .ref hi, .ref tx, .ref u, .ref w, .int taken]))]]) (w1c := []) (st := []) C X.2.2.1 X.2.2.2.1 X.2.2.2.2 (mx_X10_needCrease_1 l D cI cL cP cJ crease h4) k_X10_needCrease t_562 [0, 1] (show ([0, 1] : List Nat).Perm (List.range 2) by decide) rfl rfl rfl (Nat.le_of_ble_eq_true rfl) ⟨Nat.le_of_ble_eq_true rfl, Nat.le_of_ble_eq_true rfl⟩ ⟨Nat.le_of_ble_eq_true rfl, Nat.le_of_ble_eq_true rfl⟩ dX10_ifFolded_10 ?_
    exact r_out (w1 := [[(fl, .inr (8, [.ref pl, .ref pl2, .ref hi, .ref tx, .ref u, .ref w, .int taken]))], pileB cI cL pl a L h v lie seals folds n f]) C X hA hQ [1, 0] (show ([1, 0] : List Nat).Perm (List.range 2) by decide) rfl
def PX_X10_distance_1 (lie : Nat → Int32) (fst : Int32) (snd : Int32) : Prop := ((PX_X4_atB_1 fst) ∨ ((P_X4_atB fst) ∧ ((P_X2_lie_P fst.toNatClampNeg) ∧ (∀ r5 : Int32, r5 = F_X2_lie_P lie fst.toNatClampNeg → (PX_X4_atB_1 snd)))))
set_option maxRecDepth 20000 in
set_option maxHeartbeats 8000000 in
theorem mx_X10_distance_1 (l : Launch) (D : va_G) (cI cL cP cJ : ClassId) (fl : Nat) (pl : Nat) (a : Nat) (L : Nat → Nat) (h : Nat → Nat) (v : Nat → Nat) (lie : Nat → Int32) (seals : Nat → Int32) (folds : Nat → Int32) (n : Nat → Int32) (f : Nat → Nat → Int32) (pl2 : Nat) (hi : Nat) (tx : Nat) (u : Nat) (w : Nat) (taken : Int32) (fst : Int32) (snd : Int32) (hp : PX_X10_distance_1 lie fst snd) : MX l yX10_distance cX10_distance 3 (some .int) 7 119 D (tyF cI cL cP cJ) [.ref fl, .int fst, .int snd] [[(fl, .inr (8, [.ref pl, .ref pl2, .ref hi, .ref tx, .ref u, .ref w, .int taken]))], pileB cI cL pl a L h v lie seals folds n f] [[(fl, .inr (8, [.ref pl, .ref pl2, .ref hi, .ref tx, .ref u, .ref w, .int taken]))], pileB cI cL pl a L h v lie seals folds n f] "java/lang/IndexOutOfBoundsException" := by
  unfold PX_X10_distance_1 at hp
  refine mx_start (by decide +kernel) (Nat.le_of_ble_eq_true rfl) (fun p e s m args below meth c A Q hA hQ C X => ?_)
  refine r_Le (L' := [(0, .ref fl), (1, .int fst), (2, .int snd)]) rfl ?_
  refine r_aload_n C dX10_distance_0 0 rfl ?_
  refine r_get (Cn := RX10) (T := TX10) (N := 7) C inT10 0 rfl rfl 0 (by decide) t_219 rfl dX10_distance_1 ?_
  refine r_iload_n C dX10_distance_4 1 rfl ?_
  rcases hp with h1 | hp
  · refine r_xV (ci := 2) (wc := [pileB cI cL pl a L h v lie seals folds n f]) (wr := [[(fl, .inr (8, [.ref pl, .ref pl2, .ref hi, .ref tx, .ref u, .ref w, .int taken]))]]) (w1c := [pileB cI cL pl a L h v lie seals folds n f]) (st := []) C X.2.2.1 X.2.2.2.1 X.2.2.2.2 (mx_X4_atB_1 l D cI cL cP cJ pl a L h v lie seals folds n f fst h1) k_X4_at t_525 [1, 0] (show ([1, 0] : List Nat).Perm (List.range 2) by decide) rfl rfl rfl (q0 := 0) rfl rfl rfl (Nat.le_of_ble_eq_true rfl) ⟨Nat.le_of_ble_eq_true rfl, Nat.le_of_ble_eq_true rfl⟩ ⟨Nat.le_of_ble_eq_true rfl, Nat.le_of_ble_eq_true rfl⟩ dX10_distance_5 ?_
    exact r_out (w1 := [[(fl, .inr (8, [.ref pl, .ref pl2, .ref hi, .ref tx, .ref u, .ref w, .int taken]))], pileB cI cL pl a L h v lie seals folds n f]) C X hA hQ [1, 0] (show ([1, 0] : List Nat).Perm (List.range 2) by decide) rfl
  · obtain ⟨h2, hp⟩ := hp
    refine r_callV (ci := 2) (wc := [pileB cI cL pl a L h v lie seals folds n f]) (wr := [[(fl, .inr (8, [.ref pl, .ref pl2, .ref hi, .ref tx, .ref u, .ref w, .int taken]))]]) (st := []) C (m_X4_atB l D cI cL cP cJ pl a L h v lie seals folds n f fst h2) k_X4_at t_525 [1, 0] (show ([1, 0] : List Nat).Perm (List.range 2) by decide) rfl rfl rfl (q0 := 0) rfl rfl rfl (Nat.le_of_ble_eq_true rfl) ⟨Nat.le_of_ble_eq_true rfl, Nat.le_of_ble_eq_true rfl⟩ ⟨Nat.zero_le _, Nat.zero_le _⟩ dX10_distance_5 (fun r3 wr3 hw3 => ?_)
    obtain ⟨rfl, rfl⟩ := hw3
    refine r_ws (I' := [pileB cI cL pl a L h v lie seals folds n f, [(fl, .inr (8, [.ref pl, .ref pl2, .ref hi, .ref tx, .ref u, .ref w, .int taken]))]]) rfl ?_
    obtain ⟨h4, hp⟩ := hp
    refine r_callVX (ci := 1) (wc := [pileB cI cL pl a L h v lie seals folds n f]) (wr := [[(fl, .inr (8, [.ref pl, .ref pl2, .ref hi, .ref tx, .ref u, .ref w, .int taken]))]]) (st := []) C (m_X2_lie_P l D cI cL cP cJ pl a L h v lie seals folds n f fst.toNatClampNeg h4) k_X2_lie t_532 [0, 1] (show ([0, 1] : List Nat).Perm (List.range 2) by decide) rfl rfl rfl (pile_L (by have q := h4; unfold P_X2_lie_P at q; exact q)) rfl rfl (Nat.le_of_ble_eq_true rfl) ⟨Nat.le_of_ble_eq_true rfl, Nat.le_of_ble_eq_true rfl⟩ ⟨Nat.zero_le _, Nat.zero_le _⟩ dX10_distance_8 (fun r5 wr5 hw5 => ?_)
    obtain ⟨e_r5, rfl⟩ := hw5
    have hp := hp r5 e_r5
    refine r_ws (I' := [pileB cI cL pl a L h v lie seals folds n f, [(fl, .inr (8, [.ref pl, .ref pl2, .ref hi, .ref tx, .ref u, .ref w, .int taken]))]]) rfl ?_
    refine r_aload_n C dX10_distance_11 0 rfl ?_
    refine r_get (Cn := RX10) (T := TX10) (N := 7) C inT10 1 rfl rfl 0 (by decide) t_219 rfl dX10_distance_12 ?_
    refine r_iload_n C dX10_distance_15 2 rfl ?_
    have h6 := hp
    refine r_xV (ci := 2) (wc := [pileB cI cL pl a L h v lie seals folds n f]) (wr := [[(fl, .inr (8, [.ref pl, .ref pl2, .ref hi, .ref tx, .ref u, .ref w, .int taken]))]]) (w1c := [pileB cI cL pl a L h v lie seals folds n f]) (st := [.int r5]) C X.2.2.1 X.2.2.2.1 X.2.2.2.2 (mx_X4_atB_1 l D cI cL cP cJ pl a L h v lie seals folds n f snd h6) k_X4_at t_525 [0, 1] (show ([0, 1] : List Nat).Perm (List.range 2) by decide) rfl rfl rfl (q0 := 0) rfl rfl rfl (Nat.le_of_ble_eq_true rfl) ⟨Nat.le_of_ble_eq_true rfl, Nat.le_of_ble_eq_true rfl⟩ ⟨Nat.le_of_ble_eq_true rfl, Nat.le_of_ble_eq_true rfl⟩ dX10_distance_16 ?_
    exact r_out (w1 := [[(fl, .inr (8, [.ref pl, .ref pl2, .ref hi, .ref tx, .ref u, .ref w, .int taken]))], pileB cI cL pl a L h v lie seals folds n f]) C X hA hQ [1, 0] (show ([1, 0] : List Nat).Perm (List.range 2) by decide) rfl
def PX_X10_nearest_1 (letter : Int32) : Prop := (PX_X4_atB_1 letter)
set_option maxRecDepth 20000 in
set_option maxHeartbeats 8000000 in
theorem mx_X10_nearest_1 (l : Launch) (D : va_G) (cI cL cP cJ : ClassId) (fl : Nat) (pl : Nat) (a : Nat) (L : Nat → Nat) (h : Nat → Nat) (v : Nat → Nat) (lie : Nat → Int32) (seals : Nat → Int32) (folds : Nat → Int32) (n : Nat → Int32) (f : Nat → Nat → Int32) (pl2 : Nat) (hi : Nat) (tx : Nat) (u : Nat) (w : Nat) (taken : Int32) (letter : Int32) (hp : PX_X10_nearest_1 letter) : MX l yX10_nearest cX10_nearest 7 (some .int) 7 119 D (tyF cI cL cP cJ) [.ref fl, .int letter] [[(fl, .inr (8, [.ref pl, .ref pl2, .ref hi, .ref tx, .ref u, .ref w, .int taken]))], pileB cI cL pl a L h v lie seals folds n f] [[(fl, .inr (8, [.ref pl, .ref pl2, .ref hi, .ref tx, .ref u, .ref w, .int taken]))], pileB cI cL pl a L h v lie seals folds n f] "java/lang/IndexOutOfBoundsException" := by
  unfold PX_X10_nearest_1 at hp
  refine mx_start (by decide +kernel) (Nat.le_of_ble_eq_true rfl) (fun p e s m args below meth c A Q hA hQ C X => ?_)
  refine r_Le (L' := [(0, .ref fl), (1, .int letter)]) rfl ?_
  refine r_aload_n C dX10_nearest_0 0 rfl ?_
  refine r_get (Cn := RX10) (T := TX10) (N := 7) C inT10 0 rfl rfl 0 (by decide) t_219 rfl dX10_nearest_1 ?_
  refine r_iload_n C dX10_nearest_4 1 rfl ?_
  have h1 := hp
  refine r_xV (ci := 2) (wc := [pileB cI cL pl a L h v lie seals folds n f]) (wr := [[(fl, .inr (8, [.ref pl, .ref pl2, .ref hi, .ref tx, .ref u, .ref w, .int taken]))]]) (w1c := [pileB cI cL pl a L h v lie seals folds n f]) (st := []) C X.2.2.1 X.2.2.2.1 X.2.2.2.2 (mx_X4_atB_1 l D cI cL cP cJ pl a L h v lie seals folds n f letter h1) k_X4_at t_525 [1, 0] (show ([1, 0] : List Nat).Perm (List.range 2) by decide) rfl rfl rfl (q0 := 0) rfl rfl rfl (Nat.le_of_ble_eq_true rfl) ⟨Nat.le_of_ble_eq_true rfl, Nat.le_of_ble_eq_true rfl⟩ ⟨Nat.le_of_ble_eq_true rfl, Nat.le_of_ble_eq_true rfl⟩ dX10_nearest_5 ?_
  exact r_out (w1 := [[(fl, .inr (8, [.ref pl, .ref pl2, .ref hi, .ref tx, .ref u, .ref w, .int taken]))], pileB cI cL pl a L h v lie seals folds n f]) C X hA hQ [1, 0] (show ([1, 0] : List Nat).Perm (List.range 2) by decide) rfl
def PX_X10_ways_2 (length : Int32) (what : Int32) : Prop := ((length < 0 → True) ∧ (¬ length < 0 → ((length ≤ 20 → ((what < 0 → True) ∧ (¬ what < 0 → (¬ what ≤ 1)))) ∧ (¬ length ≤ 20 → True))))
set_option maxRecDepth 20000 in
set_option maxHeartbeats 8000000 in
theorem mx_X10_ways_2 (l : Launch) (D : va_G) (cI cL cP cJ : ClassId) (fl : Nat) (pl : Nat) (pl2 : Nat) (hi : Nat) (tx : Nat) (u : Nat) (w : Nat) (me : Nat) (fo : Nat) (fd : Nat) (fme : Nat → Int32) (ffo : Nat → Int32) (ffd : Nat → Int32) (kn : Int32) (taken : Int32) (length : Int32) (what : Int32) (hp : PX_X10_ways_2 length what) : MX l yX10_ways cX10_ways 3 (some .int) 6 109 D (tyF cI cL cP cJ) [.ref fl, .int length, .int what] [[(fl, .inr (8, [.ref pl, .ref pl2, .ref hi, .ref tx, .ref u, .ref w, .int taken]))], walB cI w me fo fd fme ffo ffd kn] [[(fl, .inr (8, [.ref pl, .ref pl2, .ref hi, .ref tx, .ref u, .ref w, .int taken]))], walB cI w me fo fd fme ffo ffd kn] "java/lang/IllegalArgumentException" := by
  unfold PX_X10_ways_2 at hp
  refine mx_start (by decide +kernel) (Nat.le_of_ble_eq_true rfl) (fun p e s m args below meth c A Q hA hQ C X => ?_)
  refine r_Le (L' := [(0, .ref fl), (1, .int length), (2, .int what)]) rfl ?_
  refine r_iload_n C dX10_ways_0 1 rfl ?_
  refine r_if_lt (tgt := 10) C dX10_ways_1 (by decide) (fun c1 => ?_) (fun c1 => ?_)
  · exact r_throw (E := "java/lang/IllegalArgumentException") (text := "no such length is asked for") (w1 := [[(fl, .inr (8, [.ref pl, .ref pl2, .ref hi, .ref tx, .ref u, .ref w, .int taken]))], walB cI w me fo fd fme ffo ffd kn]) C X hA t_497 t_75 (by decide) (by decide) xa_3 xb_3 xg_3 xf_2 xf_0 dX10_ways_10 dX10_ways_13 dX10_ways_14 dX10_ways_16 dX10_ways_19 ⟨Nat.le_of_ble_eq_true rfl, Nat.le_of_ble_eq_true rfl, Nat.le_of_ble_eq_true rfl, Nat.le_of_ble_eq_true rfl⟩ (Nat.le_of_ble_eq_true rfl) rfl hQ
  · have hp := hp.2 c1
    refine r_iload_n C dX10_ways_4 1 rfl ?_
    refine r_bipush (v := 20) C dX10_ways_5 (by decide) ?_
    refine r_icmp_le (tgt := 20) C dX10_ways_7 (by decide) (fun c2 => ?_) (fun c2 => ?_)
    · have hp := hp.1 c2
      refine r_iload_n C dX10_ways_20 2 rfl ?_
      refine r_if_lt (tgt := 29) C dX10_ways_21 (by decide) (fun c3 => ?_) (fun c3 => ?_)
      · exact r_throw (E := "java/lang/IllegalArgumentException") (text := "the ways are told in two ways alone") (w1 := [[(fl, .inr (8, [.ref pl, .ref pl2, .ref hi, .ref tx, .ref u, .ref w, .int taken]))], walB cI w me fo fd fme ffo ffd kn]) C X hA t_497 t_75 (by decide) (by decide) xa_3 xb_3 xg_3 xf_2 xf_0 dX10_ways_29 dX10_ways_32 dX10_ways_33 dX10_ways_35 dX10_ways_38 ⟨Nat.le_of_ble_eq_true rfl, Nat.le_of_ble_eq_true rfl, Nat.le_of_ble_eq_true rfl, Nat.le_of_ble_eq_true rfl⟩ (Nat.le_of_ble_eq_true rfl) rfl hQ
      · have hp := hp.2 c3
        refine r_iload_n C dX10_ways_24 2 rfl ?_
        refine r_iconst (v := 1) C dX10_ways_25 (by decide) ?_
        refine r_icmp_le (tgt := 39) C dX10_ways_26 (by decide) (fun c4 => ?_) (fun c4 => ?_)
        · exact absurd c4 hp
        · exact r_throw (E := "java/lang/IllegalArgumentException") (text := "the ways are told in two ways alone") (w1 := [[(fl, .inr (8, [.ref pl, .ref pl2, .ref hi, .ref tx, .ref u, .ref w, .int taken]))], walB cI w me fo fd fme ffo ffd kn]) C X hA t_497 t_75 (by decide) (by decide) xa_3 xb_3 xg_3 xf_2 xf_0 dX10_ways_29 dX10_ways_32 dX10_ways_33 dX10_ways_35 dX10_ways_38 ⟨Nat.le_of_ble_eq_true rfl, Nat.le_of_ble_eq_true rfl, Nat.le_of_ble_eq_true rfl, Nat.le_of_ble_eq_true rfl⟩ (Nat.le_of_ble_eq_true rfl) rfl hQ
    · exact r_throw (E := "java/lang/IllegalArgumentException") (text := "no such length is asked for") (w1 := [[(fl, .inr (8, [.ref pl, .ref pl2, .ref hi, .ref tx, .ref u, .ref w, .int taken]))], walB cI w me fo fd fme ffo ffd kn]) C X hA t_497 t_75 (by decide) (by decide) xa_3 xb_3 xg_3 xf_2 xf_0 dX10_ways_10 dX10_ways_13 dX10_ways_14 dX10_ways_16 dX10_ways_19 ⟨Nat.le_of_ble_eq_true rfl, Nat.le_of_ble_eq_true rfl, Nat.le_of_ble_eq_true rfl, Nat.le_of_ble_eq_true rfl⟩ (Nat.le_of_ble_eq_true rfl) rfl hQ

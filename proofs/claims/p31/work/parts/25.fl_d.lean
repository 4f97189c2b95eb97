theorem k_X10_layer : kV yX10_layer cX10_layer 4 (some .int) 2 := ⟨t_441, t_442, t_7, t_443, by decide +kernel, by decide +kernel, by decide +kernel⟩
set_option maxRecDepth 20000 in
def F_X10_layer (lie : Nat → Int32) (letter : Int32) (position : Int32) : Int32 := let r6 : Int32 := F_X2_lie_P lie letter.toNatClampNeg; let r7 : Int32 := F_X3_layerAt r6 position; r7
set_option maxRecDepth 20000 in
def P_X10_layer (letter : Int32) (position : Int32) : Prop := ((P_X4_atB letter) ∧ ((P_X10_needPosition position) ∧ (P_X2_lie_P letter.toNatClampNeg)))
set_option maxRecDepth 20000 in
set_option maxHeartbeats 8000000 in
theorem m_X10_layer (l : Launch) (D : va_G) (cI cL cP cJ : ClassId) (fl : Nat) (pl : Nat) (a : Nat) (L : Nat → Nat) (h : Nat → Nat) (v : Nat → Nat) (lie : Nat → Int32) (seals : Nat → Int32) (folds : Nat → Int32) (n : Nat → Int32) (f : Nat → Nat → Int32) (pl2 : Nat) (hi : Nat) (tx : Nat) (u : Nat) (w : Nat) (taken : Int32) (letter : Int32) (position : Int32) (hp : P_X10_layer letter position) : M vI l yX10_layer cX10_layer 4 (some .int) 1 23 D (tyF cI cL cP cJ) [.ref fl, .int letter, .int position] [[(fl, .inr (8, [.ref pl, .ref pl2, .ref hi, .ref tx, .ref u, .ref w, .int taken]))], pileB cI cL pl a L h v lie seals folds n f] (fun (r : Int32) (w1 : List va_W) => r = (F_X10_layer lie letter position) ∧ w1 = [[(fl, .inr (8, [.ref pl, .ref pl2, .ref hi, .ref tx, .ref u, .ref w, .int taken]))], pileB cI cL pl a L h v lie seals folds n f]) := by
  unfold P_X10_layer at hp
  refine m_start (by decide +kernel) (Nat.le_of_ble_eq_true rfl) (fun p e s m args below meth c A Q hA hQ C hr hlo => ?_)
  refine r_Le (L' := [(0, .ref fl), (1, .int letter), (2, .int position)]) rfl ?_
  refine r_aload_n C dX10_layer_0 0 rfl ?_
  refine r_get (Cn := RX10) (T := TX10) (N := 7) C inT10 0 rfl rfl 0 (by decide) t_160 rfl dX10_layer_1 ?_
  refine r_iload_n C dX10_layer_4 1 rfl ?_
  obtain ⟨h1, hp⟩ := hp
  refine r_callV (ci := 2) (wc := [pileB cI cL pl a L h v lie seals folds n f]) (wr := [[(fl, .inr (8, [.ref pl, .ref pl2, .ref hi, .ref tx, .ref u, .ref w, .int taken]))]]) (st := []) C (m_X4_atB l D cI cL cP cJ pl a L h v lie seals folds n f letter h1) k_X4_at t_416 [1, 0] (show ([1, 0] : List Nat).Perm (List.range 2) by decide) rfl rfl rfl (q0 := 0) rfl rfl rfl (Nat.le_of_ble_eq_true rfl) ⟨Nat.le_of_ble_eq_true rfl, Nat.le_of_ble_eq_true rfl⟩ ⟨Nat.zero_le _, Nat.zero_le _⟩ dX10_layer_5 (fun r2 wr2 hw2 => ?_)
  obtain ⟨rfl, rfl⟩ := hw2
  refine r_ws (I' := [pileB cI cL pl a L h v lie seals folds n f, [(fl, .inr (8, [.ref pl, .ref pl2, .ref hi, .ref tx, .ref u, .ref w, .int taken]))]]) rfl ?_
  refine r_astore_n (L' := [(3, .ref (L letter.toNatClampNeg)), (0, .ref fl), (1, .int letter), (2, .int position)]) C dX10_layer_8 (by decide) rfl ?_
  refine r_iload_n C dX10_layer_9 3 rfl ?_
  obtain ⟨h3, hp⟩ := hp
  refine r_callS (wc := []) (wr := [pileB cI cL pl a L h v lie seals folds n f, [(fl, .inr (8, [.ref pl, .ref pl2, .ref hi, .ref tx, .ref u, .ref w, .int taken]))]]) (st := []) C (m_X10_needPosition l D cI cL cP cJ position h3) k_X10_needPosition t_444 [0, 1] (show ([0, 1] : List Nat).Perm (List.range 2) by decide) rfl rfl rfl (Nat.le_of_ble_eq_true rfl) ⟨Nat.le_of_ble_eq_true rfl, Nat.le_of_ble_eq_true rfl⟩ ⟨Nat.zero_le _, Nat.zero_le _⟩ dX10_layer_10 (fun r4 wr4 hw4 => ?_)
  obtain rfl := hw4
  refine r_ws (I' := [pileB cI cL pl a L h v lie seals folds n f, [(fl, .inr (8, [.ref pl, .ref pl2, .ref hi, .ref tx, .ref u, .ref w, .int taken]))]]) rfl ?_
  refine r_aload_n C dX10_layer_13 0 rfl ?_
  have h5 := hp
  refine r_callVX (ci := 1) (wc := [pileB cI cL pl a L h v lie seals folds n f]) (wr := [[(fl, .inr (8, [.ref pl, .ref pl2, .ref hi, .ref tx, .ref u, .ref w, .int taken]))]]) (st := []) C (m_X2_lie_P l D cI cL cP cJ pl a L h v lie seals folds n f letter.toNatClampNeg h5) k_X2_lie t_448 [0, 1] (show ([0, 1] : List Nat).Perm (List.range 2) by decide) rfl rfl rfl (pile_L (by have q := h5; unfold P_X2_lie_P at q; exact q)) rfl rfl (Nat.le_of_ble_eq_true rfl) ⟨Nat.le_of_ble_eq_true rfl, Nat.le_of_ble_eq_true rfl⟩ ⟨Nat.zero_le _, Nat.zero_le _⟩ dX10_layer_14 (fun r6 wr6 hw6 => ?_)
  obtain ⟨e_r6, rfl⟩ := hw6
  refine r_ws (I' := [pileB cI cL pl a L h v lie seals folds n f, [(fl, .inr (8, [.ref pl, .ref pl2, .ref hi, .ref tx, .ref u, .ref w, .int taken]))]]) rfl ?_
  refine r_iload_n C dX10_layer_17 3 rfl ?_
  refine r_callS (wc := []) (wr := [pileB cI cL pl a L h v lie seals folds n f, [(fl, .inr (8, [.ref pl, .ref pl2, .ref hi, .ref tx, .ref u, .ref w, .int taken]))]]) (st := []) C (m_X3_layerAt l D cI cL cP cJ r6 position) k_X3_layerAt t_449 [0, 1] (show ([0, 1] : List Nat).Perm (List.range 2) by decide) rfl rfl rfl (Nat.le_of_ble_eq_true rfl) ⟨Nat.le_of_ble_eq_true rfl, Nat.le_of_ble_eq_true rfl⟩ ⟨Nat.zero_le _, Nat.zero_le _⟩ dX10_layer_18 (fun r7 wr7 hw7 => ?_)
  obtain ⟨e_r7, rfl⟩ := hw7
  refine r_ws (I' := [pileB cI cL pl a L h v lie seals folds n f, [(fl, .inr (8, [.ref pl, .ref pl2, .ref hi, .ref tx, .ref u, .ref w, .int taken]))]]) rfl ?_
  refine r_pl (I' := [[(fl, .inr (8, [.ref pl, .ref pl2, .ref hi, .ref tx, .ref u, .ref w, .int taken]))], pileB cI cL pl a L h v lie seals folds n f]) [1, 0] (show ([1, 0] : List Nat).Perm (List.range 2) by decide) rfl ?_
  have eF : F_X10_layer lie letter position = r7 := by have q := e_r6.symm; subst q; have q := e_r7.symm; subst q; rfl
  exact r_iret (r := r7) C hA hr hlo dX10_layer_21 [[(fl, .inr (8, [.ref pl, .ref pl2, .ref hi, .ref tx, .ref u, .ref w, .int taken]))], pileB cI cL pl a L h v lie seals folds n f] ⟨by simp only [eF], rfl⟩ rfl hQ
theorem k_X10_letter : kV yX10_letter cX10_letter 4 (some .int) 2 := ⟨t_413, t_414, t_7, t_415, by decide +kernel, by decide +kernel, by decide +kernel⟩
set_option maxRecDepth 20000 in
def F_X10_letter (lie : Nat → Int32) (seals : Nat → Int32) (folds : Nat → Int32) (n : Nat → Int32) (letter : Int32) (what : Int32) : Int32 := (if what < 0 then (0) else ((if what ≤ 10 then (let r6 : Int32 := F_X2_number_P lie seals folds n letter.toNatClampNeg what; r6) else (0))))
set_option maxRecDepth 20000 in
def P_X10_letter (lie : Nat → Int32) (letter : Int32) (what : Int32) : Prop := ((P_X4_atB letter) ∧ ((what < 0 → False) ∧ (¬ what < 0 → ((what ≤ 10 → (P_X2_number_P lie letter.toNatClampNeg what)) ∧ (¬ what ≤ 10 → False)))))
set_option maxRecDepth 20000 in
set_option maxHeartbeats 8000000 in
theorem m_X10_letter (l : Launch) (D : va_G) (cI cL cP cJ : ClassId) (fl : Nat) (pl : Nat) (a : Nat) (L : Nat → Nat) (h : Nat → Nat) (v : Nat → Nat) (lie : Nat → Int32) (seals : Nat → Int32) (folds : Nat → Int32) (n : Nat → Int32) (f : Nat → Nat → Int32) (pl2 : Nat) (hi : Nat) (tx : Nat) (u : Nat) (w : Nat) (taken : Int32) (letter : Int32) (what : Int32) (hp : P_X10_letter lie letter what) : M vI l yX10_letter cX10_letter 4 (some .int) 5 108 D (tyF cI cL cP cJ) [.ref fl, .int letter, .int what] [[(fl, .inr (8, [.ref pl, .ref pl2, .ref hi, .ref tx, .ref u, .ref w, .int taken]))], pileB cI cL pl a L h v lie seals folds n f] (fun (r : Int32) (w1 : List va_W) => r = (F_X10_letter lie seals folds n letter what) ∧ w1 = [[(fl, .inr (8, [.ref pl, .ref pl2, .ref hi, .ref tx, .ref u, .ref w, .int taken]))], pileB cI cL pl a L h v lie seals folds n f]) := by
  unfold P_X10_letter at hp
  refine m_start (by decide +kernel) (Nat.le_of_ble_eq_true rfl) (fun p e s m args below meth c A Q hA hQ C hr hlo => ?_)
  refine r_Le (L' := [(0, .ref fl), (1, .int letter), (2, .int what)]) rfl ?_
  refine r_aload_n C dX10_letter_0 0 rfl ?_
  refine r_get (Cn := RX10) (T := TX10) (N := 7) C inT10 0 rfl rfl 0 (by decide) t_160 rfl dX10_letter_1 ?_
  refine r_iload_n C dX10_letter_4 1 rfl ?_
  obtain ⟨h1, hp⟩ := hp
  refine r_callV (ci := 2) (wc := [pileB cI cL pl a L h v lie seals folds n f]) (wr := [[(fl, .inr (8, [.ref pl, .ref pl2, .ref hi, .ref tx, .ref u, .ref w, .int taken]))]]) (st := []) C (m_X4_atB l D cI cL cP cJ pl a L h v lie seals folds n f letter h1) k_X4_at t_416 [1, 0] (show ([1, 0] : List Nat).Perm (List.range 2) by decide) rfl rfl rfl (q0 := 0) rfl rfl rfl (Nat.le_of_ble_eq_true rfl) ⟨Nat.le_of_ble_eq_true rfl, Nat.le_of_ble_eq_true rfl⟩ ⟨Nat.zero_le _, Nat.zero_le _⟩ dX10_letter_5 (fun r2 wr2 hw2 => ?_)
  obtain ⟨rfl, rfl⟩ := hw2
  refine r_ws (I' := [pileB cI cL pl a L h v lie seals folds n f, [(fl, .inr (8, [.ref pl, .ref pl2, .ref hi, .ref tx, .ref u, .ref w, .int taken]))]]) rfl ?_
  refine r_astore_n (L' := [(3, .ref (L letter.toNatClampNeg)), (0, .ref fl), (1, .int letter), (2, .int what)]) C dX10_letter_8 (by decide) rfl ?_
  refine r_iload_n C dX10_letter_9 3 rfl ?_
  refine r_if_lt (tgt := 19) C dX10_letter_10 (by decide) (fun c3 => ?_) (fun c3 => ?_)
  · have hp := hp.1 c3
    exact hp.elim
  · have hp := hp.2 c3
    refine r_iload_n C dX10_letter_13 3 rfl ?_
    refine r_bipush (v := 10) C dX10_letter_14 (by decide) ?_
    refine r_icmp_le (tgt := 29) C dX10_letter_16 (by decide) (fun c4 => ?_) (fun c4 => ?_)
    · have hp := hp.1 c4
      refine r_aload_n C dX10_letter_29 0 rfl ?_
      refine r_iload_n C dX10_letter_30 3 rfl ?_
      have h5 := hp
      refine r_callVX (ci := 1) (wc := [pileB cI cL pl a L h v lie seals folds n f]) (wr := [[(fl, .inr (8, [.ref pl, .ref pl2, .ref hi, .ref tx, .ref u, .ref w, .int taken]))]]) (st := []) C (m_X2_number_P l D cI cL cP cJ pl a L h v lie seals folds n f letter.toNatClampNeg what h5) k_X2_number t_418 [0, 1] (show ([0, 1] : List Nat).Perm (List.range 2) by decide) rfl rfl rfl (pile_L (by have q := h5; unfold P_X2_number_P at q; exact q.1)) rfl rfl (Nat.le_of_ble_eq_true rfl) ⟨Nat.le_of_ble_eq_true rfl, Nat.le_of_ble_eq_true rfl⟩ ⟨Nat.zero_le _, Nat.zero_le _⟩ dX10_letter_31 (fun r6 wr6 hw6 => ?_)
      obtain ⟨e_r6, rfl⟩ := hw6
      refine r_ws (I' := [pileB cI cL pl a L h v lie seals folds n f, [(fl, .inr (8, [.ref pl, .ref pl2, .ref hi, .ref tx, .ref u, .ref w, .int taken]))]]) rfl ?_
      refine r_pl (I' := [[(fl, .inr (8, [.ref pl, .ref pl2, .ref hi, .ref tx, .ref u, .ref w, .int taken]))], pileB cI cL pl a L h v lie seals folds n f]) [1, 0] (show ([1, 0] : List Nat).Perm (List.range 2) by decide) rfl ?_
      have eF : F_X10_letter lie seals folds n letter what = r6 := by have q := e_r6.symm; subst q; simp only [F_X10_letter, if_neg c3, if_pos c4]
      exact r_iret (r := r6) C hA hr hlo dX10_letter_34 [[(fl, .inr (8, [.ref pl, .ref pl2, .ref hi, .ref tx, .ref u, .ref w, .int taken]))], pileB cI cL pl a L h v lie seals folds n f] ⟨by simp only [eF], rfl⟩ rfl hQ
    · have hp := hp.2 c4
      exact hp.elim
theorem k_X10_crease : kV yX10_crease cX10_crease 4 (some .int) 2 := ⟨t_420, t_421, t_7, t_422, by decide +kernel, by decide +kernel, by decide +kernel⟩
set_option maxRecDepth 20000 in
def F_X10_crease (n : Nat → Int32) (f : Nat → Nat → Int32) (letter : Int32) (place : Int32) : Int32 := let r8 : Int32 := F_X6_at_P n f letter.toNatClampNeg place; r8
set_option maxRecDepth 20000 in
def P_X10_crease (n : Nat → Int32) (letter : Int32) (place : Int32) : Prop := ((P_X4_atB letter) ∧ ((P_X10_needPlace place) ∧ ((P_X2_remembered_P letter.toNatClampNeg) ∧ (P_X6_at_P n letter.toNatClampNeg place))))
set_option maxRecDepth 20000 in
set_option maxHeartbeats 8000000 in
theorem m_X10_crease (l : Launch) (D : va_G) (cI cL cP cJ : ClassId) (fl : Nat) (pl : Nat) (a : Nat) (L : Nat → Nat) (h : Nat → Nat) (v : Nat → Nat) (lie : Nat → Int32) (seals : Nat → Int32) (folds : Nat → Int32) (n : Nat → Int32) (f : Nat → Nat → Int32) (pl2 : Nat) (hi : Nat) (tx : Nat) (u : Nat) (w : Nat) (taken : Int32) (letter : Int32) (place : Int32) (hp : P_X10_crease n letter place) : M vI l yX10_crease cX10_crease 4 (some .int) 1 21 D (tyF cI cL cP cJ) [.ref fl, .int letter, .int place] [[(fl, .inr (8, [.ref pl, .ref pl2, .ref hi, .ref tx, .ref u, .ref w, .int taken]))], pileB cI cL pl a L h v lie seals folds n f] (fun (r : Int32) (w1 : List va_W) => r = (F_X10_crease n f letter place) ∧ w1 = [[(fl, .inr (8, [.ref pl, .ref pl2, .ref hi, .ref tx, .ref u, .ref w, .int taken]))], pileB cI cL pl a L h v lie seals folds n f]) := by
  unfold P_X10_crease at hp
  refine m_start (by decide +kernel) (Nat.le_of_ble_eq_true rfl) (fun p e s m args below meth c A Q hA hQ C hr hlo => ?_)
  refine r_Le (L' := [(0, .ref fl), (1, .int letter), (2, .int place)]) rfl ?_
  refine r_aload_n C dX10_crease_0 0 rfl ?_
  refine r_get (Cn := RX10) (T := TX10) (N := 7) C inT10 0 rfl rfl 0 (by decide) t_160 rfl dX10_crease_1 ?_
  refine r_iload_n C dX10_crease_4 1 rfl ?_
  obtain ⟨h1, hp⟩ := hp
  refine r_callV (ci := 2) (wc := [pileB cI cL pl a L h v lie seals folds n f]) (wr := [[(fl, .inr (8, [.ref pl, .ref pl2, .ref hi, .ref tx, .ref u, .ref w, .int taken]))]]) (st := []) C (m_X4_atB l D cI cL cP cJ pl a L h v lie seals folds n f letter h1) k_X4_at t_416 [1, 0] (show ([1, 0] : List Nat).Perm (List.range 2) by decide) rfl rfl rfl (q0 := 0) rfl rfl rfl (Nat.le_of_ble_eq_true rfl) ⟨Nat.le_of_ble_eq_true rfl, Nat.le_of_ble_eq_true rfl⟩ ⟨Nat.zero_le _, Nat.zero_le _⟩ dX10_crease_5 (fun r2 wr2 hw2 => ?_)
  obtain ⟨rfl, rfl⟩ := hw2
  refine r_ws (I' := [pileB cI cL pl a L h v lie seals folds n f, [(fl, .inr (8, [.ref pl, .ref pl2, .ref hi, .ref tx, .ref u, .ref w, .int taken]))]]) rfl ?_
  refine r_astore_n (L' := [(3, .ref (L letter.toNatClampNeg)), (0, .ref fl), (1, .int letter), (2, .int place)]) C dX10_crease_8 (by decide) rfl ?_
  refine r_iload_n C dX10_crease_9 3 rfl ?_
  obtain ⟨h3, hp⟩ := hp
  refine r_callS (wc := []) (wr := [pileB cI cL pl a L h v lie seals folds n f, [(fl, .inr (8, [.ref pl, .ref pl2, .ref hi, .ref tx, .ref u, .ref w, .int taken]))]]) (st := []) C (m_X10_needPlace l D cI cL cP cJ place h3) k_X10_needPlace t_423 [0, 1] (show ([0, 1] : List Nat).Perm (List.range 2) by decide) rfl rfl rfl (Nat.le_of_ble_eq_true rfl) ⟨Nat.le_of_ble_eq_true rfl, Nat.le_of_ble_eq_true rfl⟩ ⟨Nat.zero_le _, Nat.zero_le _⟩ dX10_crease_10 (fun r4 wr4 hw4 => ?_)
  obtain rfl := hw4
  refine r_ws (I' := [pileB cI cL pl a L h v lie seals folds n f, [(fl, .inr (8, [.ref pl, .ref pl2, .ref hi, .ref tx, .ref u, .ref w, .int taken]))]]) rfl ?_
  refine r_aload_n C dX10_crease_13 0 rfl ?_
  obtain ⟨h5, hp⟩ := hp
  refine r_callVX (ci := 1) (wc := [pileB cI cL pl a L h v lie seals folds n f]) (wr := [[(fl, .inr (8, [.ref pl, .ref pl2, .ref hi, .ref tx, .ref u, .ref w, .int taken]))]]) (st := []) C (m_X2_remembered_P l D cI cL cP cJ pl a L h v lie seals folds n f letter.toNatClampNeg h5) k_X2_remembered t_429 [0, 1] (show ([0, 1] : List Nat).Perm (List.range 2) by decide) rfl rfl rfl (pile_L (by have q := h5; unfold P_X2_remembered_P at q; exact q)) rfl rfl (Nat.le_of_ble_eq_true rfl) ⟨Nat.le_of_ble_eq_true rfl, Nat.le_of_ble_eq_true rfl⟩ ⟨Nat.zero_le _, Nat.zero_le _⟩ dX10_crease_14 (fun r6 wr6 hw6 => ?_)
  obtain ⟨rfl, rfl⟩ := hw6
  refine r_ws (I' := [pileB cI cL pl a L h v lie seals folds n f, [(fl, .inr (8, [.ref pl, .ref pl2, .ref hi, .ref tx, .ref u, .ref w, .int taken]))]]) rfl ?_
  refine r_iload_n C dX10_crease_17 3 rfl ?_
  have h7 := hp
  refine r_callVX (ci := 4) (wc := [pileB cI cL pl a L h v lie seals folds n f]) (wr := [[(fl, .inr (8, [.ref pl, .ref pl2, .ref hi, .ref tx, .ref u, .ref w, .int taken]))]]) (st := []) C (m_X6_at_P l D cI cL cP cJ pl a L h v lie seals folds n f letter.toNatClampNeg place h7) k_X6_at t_433 [0, 1] (show ([0, 1] : List Nat).Perm (List.range 2) by decide) rfl rfl rfl (pile_h (by have q := h7; unfold P_X6_at_P at q; exact q.1)) rfl rfl (Nat.le_of_ble_eq_true rfl) ⟨Nat.le_of_ble_eq_true rfl, Nat.le_of_ble_eq_true rfl⟩ ⟨Nat.zero_le _, Nat.zero_le _⟩ dX10_crease_18 (fun r8 wr8 hw8 => ?_)
  obtain ⟨e_r8, rfl⟩ := hw8
  refine r_ws (I' := [pileB cI cL pl a L h v lie seals folds n f, [(fl, .inr (8, [.ref pl, .ref pl2, .ref hi, .ref tx, .ref u, .ref w, .int taken]))]]) rfl ?_
  refine r_pl (I' := [[(fl, .inr (8, [.ref pl, .ref pl2, .ref hi, .ref tx, .ref u, .ref w, .int taken]))], pileB cI cL pl a L h v lie seals folds n f]) [1, 0] (show ([1, 0] : List Nat).Perm (List.range 2) by decide) rfl ?_
  have eF : F_X10_crease n f letter place = r8 := by have q := e_r8.symm; subst q; rfl
  exact r_iret (r := r8) C hA hr hlo dX10_crease_21 [[(fl, .inr (8, [.ref pl, .ref pl2, .ref hi, .ref tx, .ref u, .ref w, .int taken]))], pileB cI cL pl a L h v lie seals folds n f] ⟨by simp only [eF], rfl⟩ rfl hQ
theorem k_X10_least : kV yX10_least cX10_least 4 (some .int) 2 := ⟨t_475, t_476, t_7, t_477, by decide +kernel, by decide +kernel, by decide +kernel⟩
set_option maxRecDepth 20000 in
def F_X10_least (lie : Nat → Int32) (letter : Int32) (place : Int32) : Int32 := let r6 : Int32 := F_X2_lie_P lie letter.toNatClampNeg; let r8 : Int32 := F_X3_leastCrease r6 place; r8
set_option maxRecDepth 20000 in
def P_X10_least (lie : Nat → Int32) (letter : Int32) (place : Int32) : Prop := ((P_X4_atB letter) ∧ ((P_X10_needPlace place) ∧ ((P_X2_lie_P letter.toNatClampNeg) ∧ (∀ r6 : Int32, r6 = F_X2_lie_P lie letter.toNatClampNeg → (P_X3_leastCrease r6 place)))))
set_option maxRecDepth 20000 in
set_option maxHeartbeats 8000000 in
theorem m_X10_least (l : Launch) (D : va_G) (cI cL cP cJ : ClassId) (fl : Nat) (pl : Nat) (a : Nat) (L : Nat → Nat) (h : Nat → Nat) (v : Nat → Nat) (lie : Nat → Int32) (seals : Nat → Int32) (folds : Nat → Int32) (n : Nat → Int32) (f : Nat → Nat → Int32) (pl2 : Nat) (hi : Nat) (tx : Nat) (u : Nat) (w : Nat) (taken : Int32) (letter : Int32) (place : Int32) (hp : P_X10_least lie letter place) : M vI l yX10_least cX10_least 4 (some .int) 4 88 D (tyF cI cL cP cJ) [.ref fl, .int letter, .int place] [[(fl, .inr (8, [.ref pl, .ref pl2, .ref hi, .ref tx, .ref u, .ref w, .int taken]))], pileB cI cL pl a L h v lie seals folds n f] (fun (r : Int32) (w1 : List va_W) => r = (F_X10_least lie letter place) ∧ w1 = [[(fl, .inr (8, [.ref pl, .ref pl2, .ref hi, .ref tx, .ref u, .ref w, .int taken]))], pileB cI cL pl a L h v lie seals folds n f]) := by
  unfold P_X10_least at hp
  refine m_start (by decide +kernel) (Nat.le_of_ble_eq_true rfl) (fun p e s m args below meth c A Q hA hQ C hr hlo => ?_)
  refine r_Le (L' := [(0, .ref fl), (1, .int letter), (2, .int place)]) rfl ?_
  refine r_aload_n C dX10_least_0 0 rfl ?_
  refine r_get (Cn := RX10) (T := TX10) (N := 7) C inT10 0 rfl rfl 0 (by decide) t_160 rfl dX10_least_1 ?_
  refine r_iload_n C dX10_least_4 1 rfl ?_
  obtain ⟨h1, hp⟩ := hp
  refine r_callV (ci := 2) (wc := [pileB cI cL pl a L h v lie seals folds n f]) (wr := [[(fl, .inr (8, [.ref pl, .ref pl2, .ref hi, .ref tx, .ref u, .ref w, .int taken]))]]) (st := []) C (m_X4_atB l D cI cL cP cJ pl a L h v lie seals folds n f letter h1) k_X4_at t_416 [1, 0] (show ([1, 0] : List Nat).Perm (List.range 2) by decide) rfl rfl rfl (q0 := 0) rfl rfl rfl (Nat.le_of_ble_eq_true rfl) ⟨Nat.le_of_ble_eq_true rfl, Nat.le_of_ble_eq_true rfl⟩ ⟨Nat.zero_le _, Nat.zero_le _⟩ dX10_least_5 (fun r2 wr2 hw2 => ?_)
  obtain ⟨rfl, rfl⟩ := hw2
  refine r_ws (I' := [pileB cI cL pl a L h v lie seals folds n f, [(fl, .inr (8, [.ref pl, .ref pl2, .ref hi, .ref tx, .ref u, .ref w, .int taken]))]]) rfl ?_
  refine r_astore_n (L' := [(3, .ref (L letter.toNatClampNeg)), (0, .ref fl), (1, .int letter), (2, .int place)]) C dX10_least_8 (by decide) rfl ?_
  refine r_iload_n C dX10_least_9 3 rfl ?_
  obtain ⟨h3, hp⟩ := hp
  refine r_callS (wc := []) (wr := [pileB cI cL pl a L h v lie seals folds n f, [(fl, .inr (8, [.ref pl, .ref pl2, .ref hi, .ref tx, .ref u, .ref w, .int taken]))]]) (st := []) C (m_X10_needPlace l D cI cL cP cJ place h3) k_X10_needPlace t_423 [0, 1] (show ([0, 1] : List Nat).Perm (List.range 2) by decide) rfl rfl rfl (Nat.le_of_ble_eq_true rfl) ⟨Nat.le_of_ble_eq_true rfl, Nat.le_of_ble_eq_true rfl⟩ ⟨Nat.zero_le _, Nat.zero_le _⟩ dX10_least_10 (fun r4 wr4 hw4 => ?_)
  obtain rfl := hw4
  refine r_ws (I' := [pileB cI cL pl a L h v lie seals folds n f, [(fl, .inr (8, [.ref pl, .ref pl2, .ref hi, .ref tx, .ref u, .ref w, .int taken]))]]) rfl ?_
  refine r_aload_n C dX10_least_13 0 rfl ?_
  obtain ⟨h5, hp⟩ := hp
  refine r_callVX (ci := 1) (wc := [pileB cI cL pl a L h v lie seals folds n f]) (wr := [[(fl, .inr (8, [.ref pl, .ref pl2, .ref hi, .ref tx, .ref u, .ref w, .int taken]))]]) (st := []) C (m_X2_lie_P l D cI cL cP cJ pl a L h v lie seals folds n f letter.toNatClampNeg h5) k_X2_lie t_448 [0, 1] (show ([0, 1] : List Nat).Perm (List.range 2) by decide) rfl rfl rfl (pile_L (by have q := h5; unfold P_X2_lie_P at q; exact q)) rfl rfl (Nat.le_of_ble_eq_true rfl) ⟨Nat.le_of_ble_eq_true rfl, Nat.le_of_ble_eq_true rfl⟩ ⟨Nat.zero_le _, Nat.zero_le _⟩ dX10_least_14 (fun r6 wr6 hw6 => ?_)
  obtain ⟨e_r6, rfl⟩ := hw6
  have hp := hp r6 e_r6
  refine r_ws (I' := [pileB cI cL pl a L h v lie seals folds n f, [(fl, .inr (8, [.ref pl, .ref pl2, .ref hi, .ref tx, .ref u, .ref w, .int taken]))]]) rfl ?_
  refine r_iload_n C dX10_least_17 3 rfl ?_
  have h7 := hp
  refine r_callS (wc := []) (wr := [pileB cI cL pl a L h v lie seals folds n f, [(fl, .inr (8, [.ref pl, .ref pl2, .ref hi, .ref tx, .ref u, .ref w, .int taken]))]]) (st := []) C (m_X3_leastCrease l D cI cL cP cJ r6 place h7) k_X3_leastCrease t_478 [0, 1] (show ([0, 1] : List Nat).Perm (List.range 2) by decide) rfl rfl rfl (Nat.le_of_ble_eq_true rfl) ⟨Nat.le_of_ble_eq_true rfl, Nat.le_of_ble_eq_true rfl⟩ ⟨Nat.zero_le _, Nat.zero_le _⟩ dX10_least_18 (fun r8 wr8 hw8 => ?_)
  obtain ⟨e_r8, rfl⟩ := hw8
  refine r_ws (I' := [pileB cI cL pl a L h v lie seals folds n f, [(fl, .inr (8, [.ref pl, .ref pl2, .ref hi, .ref tx, .ref u, .ref w, .int taken]))]]) rfl ?_
  refine r_pl (I' := [[(fl, .inr (8, [.ref pl, .ref pl2, .ref hi, .ref tx, .ref u, .ref w, .int taken]))], pileB cI cL pl a L h v lie seals folds n f]) [1, 0] (show ([1, 0] : List Nat).Perm (List.range 2) by decide) rfl ?_
  have eF : F_X10_least lie letter place = r8 := by have q := e_r6.symm; subst q; have q := e_r8.symm; subst q; rfl
  exact r_iret (r := r8) C hA hr hlo dX10_least_21 [[(fl, .inr (8, [.ref pl, .ref pl2, .ref hi, .ref tx, .ref u, .ref w, .int taken]))], pileB cI cL pl a L h v lie seals folds n f] ⟨by simp only [eF], rfl⟩ rfl hQ
theorem k_X10_count : kV yX10_count cX10_count 2 (some .int) 1 := ⟨t_182, t_183, t_7, t_184, by decide +kernel, by decide +kernel, by decide +kernel⟩
set_option maxRecDepth 20000 in
def F_X10_count (lie : Nat → Int32) (seals : Nat → Int32) (folds : Nat → Int32) (n : Nat → Int32) (size : Int32) (what : Int32) : Int32 := (if what = 0 then (let r2 : Int32 := F_X4_together lie seals folds n 10; r2) else ((if what = 1 then (let r3 : Int32 := F_X4_flatLetters lie; r3) else ((if what = 2 then (let r5 : Int32 := F_X4_together lie seals folds n 4; r5) else ((if what = 3 then (let r7 : Int32 := F_X4_together lie seals folds n 0; r7) else ((if what = 4 then (let r8 : Int32 := F_X4_sealedPositions seals; r8) else ((if what = 5 then (let r9 : Int32 := F_X4_unlikeLies lie; r9) else ((if what = 6 then (let r10 : Int32 := F_X1_size size; r10) else (0))))))))))))))
set_option maxRecDepth 20000 in
def P_X10_count (lie : Nat → Int32) (seals : Nat → Int32) (folds : Nat → Int32) (n : Nat → Int32) (what : Int32) : Prop := ((what = 0 → (P_X4_together lie seals folds n 10)) ∧ (¬ what = 0 → ((what = 1 → True) ∧ (¬ what = 1 → ((what = 2 → (P_X4_together lie seals folds n 4)) ∧ (¬ what = 2 → ((what = 3 → (P_X4_together lie seals folds n 0)) ∧ (¬ what = 3 → ((what = 4 → True) ∧ (¬ what = 4 → ((what = 5 → True) ∧ (¬ what = 5 → ((what = 6 → True) ∧ (¬ what = 6 → False))))))))))))))
set_option maxRecDepth 20000 in
set_option maxHeartbeats 8000000 in
theorem m_X10_count (l : Launch) (D : va_G) (cI cL cP cJ : ClassId) (fl : Nat) (pl : Nat) (a : Nat) (L : Nat → Nat) (h : Nat → Nat) (v : Nat → Nat) (lie : Nat → Int32) (seals : Nat → Int32) (folds : Nat → Int32) (n : Nat → Int32) (f : Nat → Nat → Int32) (pl2 : Nat) (hi : Nat) (sa : Nat) (PS : Nat → Nat) (AS : Nat → Nat) (LS : Nat → Nat → Nat) (hS_ : Nat → Nat → Nat) (vS : Nat → Nat → Nat) (lieS : Nat → Nat → Int32) (sealsS : Nat → Nat → Int32) (foldsS : Nat → Nat → Int32) (nS : Nat → Nat → Int32) (fS_ : Nat → Nat → Nat → Int32) (size : Int32) (tx : Nat) (u : Nat) (w : Nat) (taken : Int32) (what : Int32) (hp : P_X10_count lie seals folds n what) : M vI l yX10_count cX10_count 2 (some .int) 6 131 D (tyF cI cL cP cJ) [.ref fl, .int what] [[(fl, .inr (8, [.ref pl, .ref pl2, .ref hi, .ref tx, .ref u, .ref w, .int taken]))], pileB cI cL pl a L h v lie seals folds n f, histB cI cL cP hi sa PS AS LS hS_ vS lieS sealsS foldsS nS fS_ size] (fun (r : Int32) (w1 : List va_W) => r = (F_X10_count lie seals folds n size what) ∧ w1 = [[(fl, .inr (8, [.ref pl, .ref pl2, .ref hi, .ref tx, .ref u, .ref w, .int taken]))], pileB cI cL pl a L h v lie seals folds n f, histB cI cL cP hi sa PS AS LS hS_ vS lieS sealsS foldsS nS fS_ size]) := by
  unfold P_X10_count at hp
  refine m_start (by decide +kernel) (Nat.le_of_ble_eq_true rfl) (fun p e s m args below meth c A Q hA hQ C hr hlo => ?_)
  refine r_Le (L' := [(0, .ref fl), (1, .int what)]) rfl ?_
  refine r_iload_n C dX10_count_0 1 rfl ?_
  by_cases c11 : what = 0
  · have hp := hp.1 c11
    refine r_tin (tgt := 44) (off := 43) C dX10_count_1 c11 (by decide) (by decide) (by decide) (by decide) ?_
    refine r_aload_n C dX10_count_44 0 rfl ?_
    refine r_get (Cn := RX10) (T := TX10) (N := 7) C inT10 0 rfl rfl 0 (by decide) t_160 rfl dX10_count_45 ?_
    refine r_bipush (v := 10) C dX10_count_48 (by decide) ?_
    have h1 := hp
    refine r_callV (ci := 2) (wc := [pileB cI cL pl a L h v lie seals folds n f]) (wr := [[(fl, .inr (8, [.ref pl, .ref pl2, .ref hi, .ref tx, .ref u, .ref w, .int taken]))], histB cI cL cP hi sa PS AS LS hS_ vS lieS sealsS foldsS nS fS_ size]) (st := []) C (m_X4_together l D cI cL cP cJ pl a L h v lie seals folds n f 10 h1) k_X4_together t_185 [1, 0, 2] (show ([1, 0, 2] : List Nat).Perm (List.range 3) by decide) rfl rfl rfl (q0 := 0) rfl rfl rfl (Nat.le_of_ble_eq_true rfl) ⟨Nat.le_of_ble_eq_true rfl, Nat.le_of_ble_eq_true rfl⟩ ⟨Nat.zero_le _, Nat.zero_le _⟩ dX10_count_50 (fun r2 wr2 hw2 => ?_)
    obtain ⟨e_r2, rfl⟩ := hw2
    refine r_ws (I' := [pileB cI cL pl a L h v lie seals folds n f, [(fl, .inr (8, [.ref pl, .ref pl2, .ref hi, .ref tx, .ref u, .ref w, .int taken]))], histB cI cL cP hi sa PS AS LS hS_ vS lieS sealsS foldsS nS fS_ size]) rfl ?_
    refine r_pl (I' := [[(fl, .inr (8, [.ref pl, .ref pl2, .ref hi, .ref tx, .ref u, .ref w, .int taken]))], pileB cI cL pl a L h v lie seals folds n f, histB cI cL cP hi sa PS AS LS hS_ vS lieS sealsS foldsS nS fS_ size]) [1, 0, 2] (show ([1, 0, 2] : List Nat).Perm (List.range 3) by decide) rfl ?_
    have eF : F_X10_count lie seals folds n size what = r2 := by have q := e_r2.symm; subst q; simp only [F_X10_count, if_pos c11]
    exact r_iret (r := r2) C hA hr hlo dX10_count_53 [[(fl, .inr (8, [.ref pl, .ref pl2, .ref hi, .ref tx, .ref u, .ref w, .int taken]))], pileB cI cL pl a L h v lie seals folds n f, histB cI cL cP hi sa PS AS LS hS_ vS lieS sealsS foldsS nS fS_ size] ⟨by simp only [eF], rfl⟩ rfl hQ
  have hp := hp.2 c11
  by_cases c12 : what = 1
  · refine r_tin (tgt := 54) (off := 53) C dX10_count_1 c12 (by decide) (by decide) (by decide) (by decide) ?_
    refine r_aload_n C dX10_count_54 0 rfl ?_
    refine r_get (Cn := RX10) (T := TX10) (N := 7) C inT10 0 rfl rfl 0 (by decide) t_160 rfl dX10_count_55 ?_
    refine r_callV (ci := 2) (wc := [pileB cI cL pl a L h v lie seals folds n f]) (wr := [[(fl, .inr (8, [.ref pl, .ref pl2, .ref hi, .ref tx, .ref u, .ref w, .int taken]))], histB cI cL cP hi sa PS AS LS hS_ vS lieS sealsS foldsS nS fS_ size]) (st := []) C (m_X4_flatLetters l D cI cL cP cJ pl a L h v lie seals folds n f) k_X4_flatLetters t_257 [1, 0, 2] (show ([1, 0, 2] : List Nat).Perm (List.range 3) by decide) rfl rfl rfl (q0 := 0) rfl rfl rfl (Nat.le_of_ble_eq_true rfl) ⟨Nat.le_of_ble_eq_true rfl, Nat.le_of_ble_eq_true rfl⟩ ⟨Nat.zero_le _, Nat.zero_le _⟩ dX10_count_58 (fun r3 wr3 hw3 => ?_)
    obtain ⟨e_r3, rfl⟩ := hw3
    refine r_ws (I' := [pileB cI cL pl a L h v lie seals folds n f, [(fl, .inr (8, [.ref pl, .ref pl2, .ref hi, .ref tx, .ref u, .ref w, .int taken]))], histB cI cL cP hi sa PS AS LS hS_ vS lieS sealsS foldsS nS fS_ size]) rfl ?_
    refine r_pl (I' := [[(fl, .inr (8, [.ref pl, .ref pl2, .ref hi, .ref tx, .ref u, .ref w, .int taken]))], pileB cI cL pl a L h v lie seals folds n f, histB cI cL cP hi sa PS AS LS hS_ vS lieS sealsS foldsS nS fS_ size]) [1, 0, 2] (show ([1, 0, 2] : List Nat).Perm (List.range 3) by decide) rfl ?_
    have eF : F_X10_count lie seals folds n size what = r3 := by have q := e_r3.symm; subst q; simp only [F_X10_count, if_neg c11, if_pos c12]
    exact r_iret (r := r3) C hA hr hlo dX10_count_61 [[(fl, .inr (8, [.ref pl, .ref pl2, .ref hi, .ref tx, .ref u, .ref w, .int taken]))], pileB cI cL pl a L h v lie seals folds n f, histB cI cL cP hi sa PS AS LS hS_ vS lieS sealsS foldsS nS fS_ size] ⟨by simp only [eF], rfl⟩ rfl hQ
  have hp := hp.2 c12
  by_cases c13 : what = 2
  · have hp := hp.1 c13
    refine r_tin (tgt := 62) (off := 61) C dX10_count_1 c13 (by decide) (by decide) (by decide) (by decide) ?_
    refine r_aload_n C dX10_count_62 0 rfl ?_
    refine r_get (Cn := RX10) (T := TX10) (N := 7) C inT10 0 rfl rfl 0 (by decide) t_160 rfl dX10_count_63 ?_
    refine r_iconst (v := 4) C dX10_count_66 (by decide) ?_
    have h4 := hp
    refine r_callV (ci := 2) (wc := [pileB cI cL pl a L h v lie seals folds n f]) (wr := [[(fl, .inr (8, [.ref pl, .ref pl2, .ref hi, .ref tx, .ref u, .ref w, .int taken]))], histB cI cL cP hi sa PS AS LS hS_ vS lieS sealsS foldsS nS fS_ size]) (st := []) C (m_X4_together l D cI cL cP cJ pl a L h v lie seals folds n f 4 h4) k_X4_together t_185 [1, 0, 2] (show ([1, 0, 2] : List Nat).Perm (List.range 3) by decide) rfl rfl rfl (q0 := 0) rfl rfl rfl (Nat.le_of_ble_eq_true rfl) ⟨Nat.le_of_ble_eq_true rfl, Nat.le_of_ble_eq_true rfl⟩ ⟨Nat.zero_le _, Nat.zero_le _⟩ dX10_count_67 (fun r5 wr5 hw5 => ?_)
    obtain ⟨e_r5, rfl⟩ := hw5
    refine r_ws (I' := [pileB cI cL pl a L h v lie seals folds n f, [(fl, .inr (8, [.ref pl, .ref pl2, .ref hi, .ref tx, .ref u, .ref w, .int taken]))], histB cI cL cP hi sa PS AS LS hS_ vS lieS sealsS foldsS nS fS_ size]) rfl ?_
    refine r_pl (I' := [[(fl, .inr (8, [.ref pl, .ref pl2, .ref hi, .ref tx, .ref u, .ref w, .int taken]))], pileB cI cL pl a L h v lie seals folds n f, histB cI cL cP hi sa PS AS LS hS_ vS lieS sealsS foldsS nS fS_ size]) [1, 0, 2] (show ([1, 0, 2] : List Nat).Perm (List.range 3) by decide) rfl ?_
    have eF : F_X10_count lie seals folds n size what = r5 := by have q := e_r5.symm; subst q; simp only [F_X10_count, if_neg c11, if_neg c12, if_pos c13]
    exact r_iret (r := r5) C hA hr hlo dX10_count_70 [[(fl, .inr (8, [.ref pl, .ref pl2, .ref hi, .ref tx, .ref u, .ref w, .int taken]))], pileB cI cL pl a L h v lie seals folds n f, histB cI cL cP hi sa PS AS LS hS_ vS lieS sealsS foldsS nS fS_ size] ⟨by simp only [eF], rfl⟩ rfl hQ
  have hp := hp.2 c13
  by_cases c14 : what = 3
  · have hp := hp.1 c14
    refine r_tin (tgt := 71) (off := 70) C dX10_count_1 c14 (by decide) (by decide) (by decide) (by decide) ?_
    refine r_aload_n C dX10_count_71 0 rfl ?_
    refine r_get (Cn := RX10) (T := TX10) (N := 7) C inT10 0 rfl rfl 0 (by decide) t_160 rfl dX10_count_72 ?_
    refine r_iconst (v := 0) C dX10_count_75 (by decide) ?_
    have h6 := hp
    refine r_callV (ci := 2) (wc := [pileB cI cL pl a L h v lie seals folds n f]) (wr := [[(fl, .inr (8, [.ref pl, .ref pl2, .ref hi, .ref tx, .ref u, .ref w, .int taken]))], histB cI cL cP hi sa PS AS LS hS_ vS lieS sealsS foldsS nS fS_ size]) (st := []) C (m_X4_together l D cI cL cP cJ pl a L h v lie seals folds n f 0 h6) k_X4_together t_185 [1, 0, 2] (show ([1, 0, 2] : List Nat).Perm (List.range 3) by decide) rfl rfl rfl (q0 := 0) rfl rfl rfl (Nat.le_of_ble_eq_true rfl) ⟨Nat.le_of_ble_eq_true rfl, Nat.le_of_ble_eq_true rfl⟩ ⟨Nat.zero_le _, Nat.zero_le _⟩ dX10_count_76 (fun r7 wr7 hw7 => ?_)
    obtain ⟨e_r7, rfl⟩ := hw7
    refine r_ws (I' := [pileB cI cL pl a L h v lie seals folds n f, [(fl, .inr (8, [.ref pl, .ref pl2, .ref hi, .ref tx, .ref u, .ref w, .int taken]))], histB cI cL cP hi sa PS AS LS hS_ vS lieS sealsS foldsS nS fS_ size]) rfl ?_
    refine r_pl (I' := [[(fl, .inr (8, [.ref pl, .ref pl2, .ref hi, .ref tx, .ref u, .ref w, .int taken]))], pileB cI cL pl a L h v lie seals folds n f, histB cI cL cP hi sa PS AS LS hS_ vS lieS sealsS foldsS nS fS_ size]) [1, 0, 2] (show ([1, 0, 2] : List Nat).Perm (List.range 3) by decide) rfl ?_
    have eF : F_X10_count lie seals folds n size what = r7 := by have q := e_r7.symm; subst q; simp only [F_X10_count, if_neg c11, if_neg c12, if_neg c13, if_pos c14]
    exact r_iret (r := r7) C hA hr hlo dX10_count_79 [[(fl, .inr (8, [.ref pl, .ref pl2, .ref hi, .ref tx, .ref u, .ref w, .int taken]))], pileB cI cL pl a L h v lie seals folds n f, histB cI cL cP hi sa PS AS LS hS_ vS lieS sealsS foldsS nS fS_ size] ⟨by simp only [eF], rfl⟩ rfl hQ
  have hp := hp.2 c14
  by_cases c15 : what = 4
  · refine r_tin (tgt := 80) (off := 79) C dX10_count_1 c15 (by decide) (by decide) (by decide) (by decide) ?_
    refine r_aload_n C dX10_count_80 0 rfl ?_
    refine r_get (Cn := RX10) (T := TX10) (N := 7) C inT10 0 rfl rfl 0 (by decide) t_160 rfl dX10_count_81 ?_
    refine r_callV (ci := 2) (wc := [pileB cI cL pl a L h v lie seals folds n f]) (wr := [[(fl, .inr (8, [.ref pl, .ref pl2, .ref hi, .ref tx, .ref u, .ref w, .int taken]))], histB cI cL cP hi sa PS AS LS hS_ vS lieS sealsS foldsS nS fS_ size]) (st := []) C (m_X4_sealedPositions l D cI cL cP cJ pl a L h v lie seals folds n f) k_X4_sealedPositions t_265 [1, 0, 2] (show ([1, 0, 2] : List Nat).Perm (List.range 3) by decide) rfl rfl rfl (q0 := 0) rfl rfl rfl (Nat.le_of_ble_eq_true rfl) ⟨Nat.le_of_ble_eq_true rfl, Nat.le_of_ble_eq_true rfl⟩ ⟨Nat.zero_le _, Nat.zero_le _⟩ dX10_count_84 (fun r8 wr8 hw8 => ?_)
    obtain ⟨e_r8, rfl⟩ := hw8
    refine r_ws (I' := [pileB cI cL pl a L h v lie seals folds n f, [(fl, .inr (8, [.ref pl, .ref pl2, .ref hi, .ref tx, .ref u, .ref w, .int taken]))], histB cI cL cP hi sa PS AS LS hS_ vS lieS sealsS foldsS nS fS_ size]) rfl ?_
    refine r_pl (I' := [[(fl, .inr (8, [.ref pl, .ref pl2, .ref hi, .ref tx, .ref u, .ref w, .int taken]))], pileB cI cL pl a L h v lie seals folds n f, histB cI cL cP hi sa PS AS LS hS_ vS lieS sealsS foldsS nS fS_ size]) [1, 0, 2] (show ([1, 0, 2] : List Nat).Perm (List.range 3) by decide) rfl ?_
    have eF : F_X10_count lie seals folds n size what = r8 := by have q := e_r8.symm; subst q; simp only [F_X10_count, if_neg c11, if_neg c12, if_neg c13, if_neg c14, if_pos c15]
    exact r_iret (r := r8) C hA hr hlo dX10_count_87 [[(fl, .inr (8, [.ref pl, .ref pl2, .ref hi, .ref tx, .ref u, .ref w, .int taken]))], pileB cI cL pl a L h v lie seals folds n f, histB cI cL cP hi sa PS AS LS hS_ vS lieS sealsS foldsS nS fS_ size] ⟨by simp only [eF], rfl⟩ rfl hQ
  have hp := hp.2 c15
  by_cases c16 : what = 5
  · refine r_tin (tgt := 88) (off := 87) C dX10_count_1 c16 (by decide) (by decide) (by decide) (by decide) ?_
    refine r_aload_n C dX10_count_88 0 rfl ?_
    refine r_get (Cn := RX10) (T := TX10) (N := 7) C inT10 0 rfl rfl 0 (by decide) t_160 rfl dX10_count_89 ?_
    refine r_callV (ci := 2) (wc := [pileB cI cL pl a L h v lie seals folds n f]) (wr := [[(fl, .inr (8, [.ref pl, .ref pl2, .ref hi, .ref tx, .ref u, .ref w, .int taken]))], histB cI cL cP hi sa PS AS LS hS_ vS lieS sealsS foldsS nS fS_ size]) (st := []) C (m_X4_unlikeLies l D cI cL cP cJ pl a L h v lie seals folds n f) k_X4_unlikeLies t_279 [1, 0, 2] (show ([1, 0, 2] : List Nat).Perm (List.range 3) by decide) rfl rfl rfl (q0 := 0) rfl rfl rfl (Nat.le_of_ble_eq_true rfl) ⟨Nat.le_of_ble_eq_true rfl, Nat.le_of_ble_eq_true rfl⟩ ⟨Nat.zero_le _, Nat.zero_le _⟩ dX10_count_92 (fun r9 wr9 hw9 => ?_)
    obtain ⟨e_r9, rfl⟩ := hw9
    refine r_ws (I' := [pileB cI cL pl a L h v lie seals folds n f, [(fl, .inr (8, [.ref pl, .ref pl2, .ref hi, .ref tx, .ref u, .ref w, .int taken]))], histB cI cL cP hi sa PS AS LS hS_ vS lieS sealsS foldsS nS fS_ size]) rfl ?_
    refine r_pl (I' := [[(fl, .inr (8, [.ref pl, .ref pl2, .ref hi, .ref tx, .ref u, .ref w, .int taken]))], pileB cI cL pl a L h v lie seals folds n f, histB cI cL cP hi sa PS AS LS hS_ vS lieS sealsS foldsS nS fS_ size]) [1, 0, 2] (show ([1, 0, 2] : List Nat).Perm (List.range 3) by decide) rfl ?_
    have eF : F_X10_count lie seals folds n size what = r9 := by have q := e_r9.symm; subst q; simp only [F_X10_count, if_neg c11, if_neg c12, if_neg c13, if_neg c14, if_neg c15, if_pos c16]
    exact r_iret (r := r9) C hA hr hlo dX10_count_95 [[(fl, .inr (8, [.ref pl, .ref pl2, .ref hi, .ref tx, .ref u, .ref w, .int taken]))], pileB cI cL pl a L h v lie seals folds n f, histB cI cL cP hi sa PS AS LS hS_ vS lieS sealsS foldsS nS fS_ size] ⟨by simp only [eF], rfl⟩ rfl hQ
  have hp := hp.2 c16
  by_cases c17 : what = 6
  · refine r_tin (tgt := 96) (off := 95) C dX10_count_1 c17 (by decide) (by decide) (by decide) (by decide) ?_
    refine r_aload_n C dX10_count_96 0 rfl ?_
    refine r_get (Cn := RX10) (T := TX10) (N := 7) C inT10 0 rfl rfl 2 (by decide) t_162 rfl dX10_count_97 ?_
    refine r_callV (ci := 0) (wc := [histB cI cL cP hi sa PS AS LS hS_ vS lieS sealsS foldsS nS fS_ size]) (wr := [[(fl, .inr (8, [.ref pl, .ref pl2, .ref hi, .ref tx, .ref u, .ref w, .int taken]))], pileB cI cL pl a L h v lie seals folds n f]) (st := []) C (m_X1_size l D cI cL cP cJ hi sa PS AS LS hS_ vS lieS sealsS foldsS nS fS_ size) k_X1_size t_359 [2, 0, 1] (show ([2, 0, 1] : List Nat).Perm (List.range 3) by decide) rfl rfl rfl (q0 := 0) rfl rfl rfl (Nat.le_of_ble_eq_true rfl) ⟨Nat.le_of_ble_eq_true rfl, Nat.le_of_ble_eq_true rfl⟩ ⟨Nat.zero_le _, Nat.zero_le _⟩ dX10_count_100 (fun r10 wr10 hw10 => ?_)
    obtain ⟨e_r10, rfl⟩ := hw10
    refine r_ws (I' := [histB cI cL cP hi sa PS AS LS hS_ vS lieS sealsS foldsS nS fS_ size, [(fl, .inr (8, [.ref pl, .ref pl2, .ref hi, .ref tx, .ref u, .ref w, .int taken]))], pileB cI cL pl a L h v lie seals folds n f]) rfl ?_
    refine r_pl (I' := [[(fl, .inr (8, [.ref pl, .ref pl2, .ref hi, .ref tx, .ref u, .ref w, .int taken]))], pileB cI cL pl a L h v lie seals folds n f, histB cI cL cP hi sa PS AS LS hS_ vS lieS sealsS foldsS nS fS_ size]) [1, 2, 0] (show ([1, 2, 0] : List Nat).Perm (List.range 3) by decide) rfl ?_
    have eF : F_X10_count lie seals folds n size what = r10 := by have q := e_r10.symm; subst q; simp only [F_X10_count, if_neg c11, if_neg c12, if_neg c13, if_neg c14, if_neg c15, if_neg c16, if_pos c17]
    exact r_iret (r := r10) C hA hr hlo dX10_count_103 [[(fl, .inr (8, [.ref pl, .ref pl2, .ref hi, .ref tx, .ref u, .ref w, .int taken]))], pileB cI cL pl a L h v lie seals folds n f, histB cI cL cP hi sa PS AS LS hS_ vS lieS sealsS foldsS nS fS_ size] ⟨by simp only [eF], rfl⟩ rfl hQ
  have hp := hp.2 c17
  refine r_tout (tgt := 104) C dX10_count_1 (sw_out 6 (by decide) (fun i hi => by rcases (show i = 0 ∨ i = 1 ∨ i = 2 ∨ i = 3 ∨ i = 4 ∨ i = 5 ∨ i = 6 by omega) with rfl | rfl | rfl | rfl | rfl | rfl | rfl; exact c11; exact c12; exact c13; exact c14; exact c15; exact c16; exact c17)) (by decide) ?_
  exact hp.elim
theorem k_X10_why : kV yX10_why cX10_why 4 (some .int) 2 := ⟨t_467, t_468, t_7, t_469, by decide +kernel, by decide +kernel, by decide +kernel⟩
set_option maxRecDepth 20000 in
def F_X10_why (seals : Nat → Int32) (n : Nat → Int32) (letter : Int32) (crease : Int32) : Int32 := let r6 : Int32 := F_X2_reasonAgainst_P seals n letter.toNatClampNeg crease; r6
set_option maxRecDepth 20000 in
def P_X10_why (letter : Int32) (crease : Int32) : Prop := ((P_X4_atB letter) ∧ ((P_X10_needCrease crease) ∧ (P_X2_reasonAgainst_P letter.toNatClampNeg)))
set_option maxRecDepth 20000 in
set_option maxHeartbeats 8000000 in
theorem m_X10_why (l : Launch) (D : va_G) (cI cL cP cJ : ClassId) (fl : Nat) (pl : Nat) (a : Nat) (L : Nat → Nat) (h : Nat → Nat) (v : Nat → Nat) (lie : Nat → Int32) (seals : Nat → Int32) (folds : Nat → Int32) (n : Nat → Int32) (f : Nat → Nat → Int32) (pl2 : Nat) (hi : Nat) (tx : Nat) (u : Nat) (w : Nat) (taken : Int32) (letter : Int32) (crease : Int32) (hp : P_X10_why letter crease) : M vI l yX10_why cX10_why 4 (some .int) 2 43 D (tyF cI cL cP cJ) [.ref fl, .int letter, .int crease] [[(fl, .inr (8, [.ref pl, .ref pl2, .ref hi, .ref tx, .ref u, .ref w, .int taken]))], pileB cI cL pl a L h v lie seals folds n f] (fun (r : Int32) (w1 : List va_W) => r = (F_X10_why seals n letter crease) ∧ w1 = [[(fl, .inr (8, [.ref pl, .ref pl2, .ref hi, .ref tx, .ref u, .ref w, .int taken]))], pileB cI cL pl a L h v lie seals folds n f]) := by
  unfold P_X10_why at hp
  refine m_start (by decide +kernel) (Nat.le_of_ble_eq_true rfl) (fun p e s m args below meth c A Q hA hQ C hr hlo => ?_)
  refine r_Le (L' := [(0, .ref fl), (1, .int letter), (2, .int crease)]) rfl ?_
  refine r_aload_n C dX10_why_0 0 rfl ?_
  refine r_get (Cn := RX10) (T := TX10) (N := 7) C inT10 0 rfl rfl 0 (by decide) t_160 rfl dX10_why_1 ?_
  refine r_iload_n C dX10_why_4 1 rfl ?_
  obtain ⟨h1, hp⟩ := hp
  refine r_callV (ci := 2) (wc := [pileB cI cL pl a L h v lie seals folds n f]) (wr := [[(fl, .inr (8, [.ref pl, .ref pl2, .ref hi, .ref tx, .ref u, .ref w, .int taken]))]]) (st := []) C (m_X4_atB l D cI cL cP cJ pl a L h v lie seals folds n f letter h1) k_X4_at t_416 [1, 0] (show ([1, 0] : List Nat).Perm (List.range 2) by decide) rfl rfl rfl (q0 := 0) rfl rfl rfl (Nat.le_of_ble_eq_true rfl) ⟨Nat.le_of_ble_eq_true rfl, Nat.le_of_ble_eq_true rfl⟩ ⟨Nat.zero_le _, Nat.zero_le _⟩ dX10_why_5 (fun r2 wr2 hw2 => ?_)
  obtain ⟨rfl, rfl⟩ := hw2
  refine r_ws (I' := [pileB cI cL pl a L h v lie seals folds n f, [(fl, .inr (8, [.ref pl, .ref pl2, .ref hi, .ref tx, .ref u, .ref w, .int taken]))]]) rfl ?_
  refine r_astore_n (L' := [(3, .ref (L letter.toNatClampNeg)), (0, .ref fl), (1, .int letter), (2, .int crease)]) C dX10_why_8 (by decide) rfl ?_
  refine r_iload_n C dX10_why_9 3 rfl ?_
  obtain ⟨h3, hp⟩ := hp
  refine r_callS (wc := []) (wr := [pileB cI cL pl a L h v lie seals folds n f, [(fl, .inr (8, [.ref pl, .ref pl2, .ref hi, .ref tx, .ref u, .ref w, .int taken]))]]) (st := []) C (m_X10_needCrease l D cI cL cP cJ crease h3) k_X10_needCrease t_460 [0, 1] (show ([0, 1] : List Nat).Perm (List.range 2) by decide) rfl rfl rfl (Nat.le_of_ble_eq_true rfl) ⟨Nat.le_of_ble_eq_true rfl, Nat.le_of_ble_eq_true rfl⟩ ⟨Nat.zero_le _, Nat.zero_le _⟩ dX10_why_10 (fun r4 wr4 hw4 => ?_)
  obtain rfl := hw4
  refine r_ws (I' := [pileB cI cL pl a L h v lie seals folds n f, [(fl, .inr (8, [.ref pl, .ref pl2, .ref hi, .ref tx, .ref u, .ref w, .int taken]))]]) rfl ?_
  refine r_aload_n C dX10_why_13 0 rfl ?_
  refine r_iload_n C dX10_why_14 3 rfl ?_
  have h5 := hp
  refine r_callVX (ci := 1) (wc := [pileB cI cL pl a L h v lie seals folds n f]) (wr := [[(fl, .inr (8, [.ref pl, .ref pl2, .ref hi, .ref tx, .ref u, .ref w, .int taken]))]]) (st := []) C (m_X2_reasonAgainst_P l D cI cL cP cJ pl a L h v lie seals folds n f letter.toNatClampNeg crease h5) k_X2_reasonAgainst t_470 [0, 1] (show ([0, 1] : List Nat).Perm (List.range 2) by decide) rfl rfl rfl (pile_L (by have q := h5; unfold P_X2_reasonAgainst_P at q; exact q)) rfl rfl (Nat.le_of_ble_eq_true rfl) ⟨Nat.le_of_ble_eq_true rfl, Nat.le_of_ble_eq_true rfl⟩ ⟨Nat.zero_le _, Nat.zero_le _⟩ dX10_why_15 (fun r6 wr6 hw6 => ?_)
  obtain ⟨e_r6, rfl⟩ := hw6
  refine r_ws (I' := [pileB cI cL pl a L h v lie seals folds n f, [(fl, .inr (8, [.ref pl, .ref pl2, .ref hi, .ref tx, .ref u, .ref w, .int taken]))]]) rfl ?_
  refine r_pl (I' := [[(fl, .inr (8, [.ref pl, .ref pl2, .ref hi, .ref tx, .ref u, .ref w, .int taken]))], pileB cI cL pl a L h v lie seals folds n f]) [1, 0] (show ([1, 0] : List Nat).Perm (List.range 2) by decide) rfl ?_
  have eF : F_X10_why seals n letter crease = r6 := by have q := e_r6.symm; subst q; rfl
  exact r_iret (r := r6) C hA hr hlo dX10_why_18 [[(fl, .inr (8, [.ref pl, .ref pl2, .ref hi, .ref tx, .ref u, .ref w, .int taken]))], pileB cI cL pl a L h v lie seals folds n f] ⟨by simp only [eF], rfl⟩ rfl hQ
theorem k_X10_ifFolded : kV yX10_ifFolded cX10_ifFolded 4 (some .int) 2 := ⟨t_457, t_458, t_7, t_459, by decide +kernel, by decide +kernel, by decide +kernel⟩
set_option maxRecDepth 20000 in
def F_X10_ifFolded (lie : Nat → Int32) (letter : Int32) (crease : Int32) : Int32 := let r6 : Int32 := F_X2_lie_P lie letter.toNatClampNeg; let r7 : Int32 := F_X3_folded r6 crease; let r8 : Int32 := F_X3_length r7; r8
set_option maxRecDepth 20000 in
def P_X10_ifFolded (letter : Int32) (crease : Int32) : Prop := ((P_X4_atB letter) ∧ ((P_X10_needCrease crease) ∧ (P_X2_lie_P letter.toNatClampNeg)))
set_option maxRecDepth 20000 in
set_option maxHeartbeats 8000000 in
theorem m_X10_ifFolded (l : Launch) (D : va_G) (cI cL cP cJ : ClassId) (fl : Nat) (pl : Nat) (a : Nat) (L : Nat → Nat) (h : Nat → Nat) (v : Nat → Nat) (lie : Nat → Int32) (seals : Nat → Int32) (folds : Nat → Int32) (n : Nat → Int32) (f : Nat → Nat → Int32) (pl2 : Nat) (hi : Nat) (tx : Nat) (u : Nat) (w : Nat) (taken : Int32) (letter : Int32) (crease : Int32) (hp : P_X10_ifFolded letter crease) : M vI l yX10_ifFolded cX10_ifFolded 4 (some .int) 2 48 D (tyF cI cL cP cJ) [.ref fl, .int letter, .int crease] [[(fl, .inr (8, [.ref pl, .ref pl2, .ref hi, .ref tx, .ref u, .ref w, .int taken]))], pileB cI cL pl a L h v lie seals folds n f] (fun (r : Int32) (w1 : List va_W) => r = (F_X10_ifFolded lie letter crease) ∧ w1 = [[(fl, .inr (8, [.ref pl, .ref pl2, .ref hi, .ref tx, .ref u, .ref w, .int taken]))], pileB cI cL pl a L h v lie seals folds n f]) := by
  unfold P_X10_ifFolded at hp
  refine m_start (by decide +kernel) (Nat.le_of_ble_eq_true rfl) (fun p e s m args below meth c A Q hA hQ C hr hlo => ?_)
  refine r_Le (L' := [(0, .ref fl), (1, .int letter), (2, .int crease)]) rfl ?_
  refine r_aload_n C dX10_ifFolded_0 0 rfl ?_
  refine r_get (Cn := RX10) (T := TX10) (N := 7) C inT10 0 rfl rfl 0 (by decide) t_160 rfl dX10_ifFolded_1 ?_
  refine r_iload_n C dX10_ifFolded_4 1 rfl ?_
  obtain ⟨h1, hp⟩ := hp
  refine r_callV (ci := 2) (wc := [pileB cI cL pl a L h v lie seals folds n f]) (wr := [[(fl, .inr (8, [.ref pl, .ref pl2, .ref hi, .ref tx, .ref u, .ref w, .int taken]))]]) (st := []) C (m_X4_atB l D cI cL cP cJ pl a L h v lie seals folds n f letter h1) k_X4_at t_416 [1, 0] (show ([1, 0] : List Nat).Perm (List.range 2) by decide) rfl rfl rfl (q0 := 0) rfl rfl rfl (Nat.le_of_ble_eq_true rfl) ⟨Nat.le_of_ble_eq_true rfl, Nat.le_of_ble_eq_true rfl⟩ ⟨Nat.zero_le _, Nat.zero_le _⟩ dX10_ifFolded_5 (fun r2 wr2 hw2 => ?_)
  obtain ⟨rfl, rfl⟩ := hw2
  refine r_ws (I' := [pileB cI cL pl a L h v lie seals folds n f, [(fl, .inr (8, [.ref pl, .ref pl2, .ref hi, .ref tx, .ref u, .ref w, .int taken]))]]) rfl ?_
  refine r_astore_n (L' := [(3, .ref (L letter.toNatClampNeg)), (0, .ref fl), (1, .int letter), (2, .int crease)]) C dX10_ifFolded_8 (by decide) rfl ?_
  refine r_iload_n C dX10_ifFolded_9 3 rfl ?_
  obtain ⟨h3, hp⟩ := hp
  refine r_callS (wc := []) (wr := [pileB cI cL pl a L h v lie seals folds n f, [(fl, .inr (8, [.ref pl, .ref pl2, .ref hi, .ref tx, .ref u, .ref w, .int taken]))]]) (st := []) C (m_X10_needCrease l D cI cL cP cJ crease h3) k_X10_needCrease t_460 [0, 1] (show ([0, 1] : List Nat).Perm (List.range 2) by decide) rfl rfl rfl (Nat.le_of_ble_eq_true rfl) ⟨Nat.le_of_ble_eq_true rfl, Nat.le_of_ble_eq_true rfl⟩ ⟨Nat.zero_le _, Nat.zero_le _⟩ dX10_ifFolded_10 (fun r4 wr4 hw4 => ?_)
  obtain rfl := hw4
  refine r_ws (I' := [pileB cI cL pl a L h v lie seals folds n f, [(fl, .inr (8, [.ref pl, .ref pl2, .ref hi, .ref tx, .ref u, .ref w, .int taken]))]]) rfl ?_
  refine r_aload_n C dX10_ifFolded_13 0 rfl ?_
  have h5 := hp
  refine r_callVX (ci := 1) (wc := [pileB cI cL pl a L h v lie seals folds n f]) (wr := [[(fl, .inr (8, [.ref pl, .ref pl2, .ref hi, .ref tx, .ref u, .ref w, .int taken]))]]) (st := []) C (m_X2_lie_P l D cI cL cP cJ pl a L h v lie seals folds n f letter.toNatClampNeg h5) k_X2_lie t_448 [0, 1] (show ([0, 1] : List Nat).Perm (List.range 2) by decide) rfl rfl rfl (pile_L (by have q := h5; unfold P_X2_lie_P at q; exact q)) rfl rfl (Nat.le_of_ble_eq_true rfl) ⟨Nat.le_of_ble_eq_true rfl, Nat.le_of_ble_eq_true rfl⟩ ⟨Nat.zero_le _, Nat.zero_le _⟩ dX10_ifFolded_14 (fun r6 wr6 hw6 => ?_)
  obtain ⟨e_r6, rfl⟩ := hw6
  refine r_ws (I' := [pileB cI cL pl a L h v lie seals folds n f, [(fl, .inr (8, [.ref pl, .ref pl2, .ref hi, .ref tx, .ref u, .ref w, .int taken]))]]) rfl ?_
  refine r_iload_n C dX10_ifFolded_17 3 rfl ?_
  refine r_callS (wc := []) (wr := [pileB cI cL pl a L h v lie seals folds n f, [(fl, .inr (8, [.ref pl, .ref pl2, .ref hi, .ref tx, .ref u, .ref w, .int taken]))]]) (st := []) C (m_X3_folded l D cI cL cP cJ r6 crease) k_X3_folded t_464 [0, 1] (show ([0, 1] : List Nat).Perm (List.range 2) by decide) rfl rfl rfl (Nat.le_of_ble_eq_true rfl) ⟨Nat.le_of_ble_eq_true rfl, Nat.le_of_ble_eq_true rfl⟩ ⟨Nat.zero_le _, Nat.zero_le _⟩ dX10_ifFolded_18 (fun r7 wr7 hw7 => ?_)
  obtain ⟨e_r7, rfl⟩ := hw7
  refine r_ws (I' := [pileB cI cL pl a L h v lie seals folds n f, [(fl, .inr (8, [.ref pl, .ref pl2, .ref hi, .ref tx, .ref u, .ref w, .int taken]))]]) rfl ?_
  refine r_callS (wc := []) (wr := [pileB cI cL pl a L h v lie seals folds n f, [(fl, .inr (8, [.ref pl, .ref pl2, .ref hi, .ref tx, .ref u, .ref w, .int taken]))]]) (st := []) C (m_X3_length l D cI cL cP cJ r7) k_X3_length t_465 [0, 1] (show ([0, 1] : List Nat).Perm (List.range 2) by decide) rfl rfl rfl (Nat.le_of_ble_eq_true rfl) ⟨Nat.le_of_ble_eq_true rfl, Nat.le_of_ble_eq_true rfl⟩ ⟨Nat.zero_le _, Nat.zero_le _⟩ dX10_ifFolded_21 (fun r8 wr8 hw8 => ?_)
  obtain ⟨e_r8, rfl⟩ := hw8
  refine r_ws (I' := [pileB cI cL pl a L h v lie seals folds n f, [(fl, .inr (8, [.ref pl, .ref pl2, .ref hi, .ref tx, .ref u, .ref w, .int taken]))]]) rfl ?_
  refine r_pl (I' := [[(fl, .inr (8, [.ref pl, .ref pl2, .ref hi, .ref tx, .ref u, .ref w, .int taken]))], pileB cI cL pl a L h v lie seals folds n f]) [1, 0] (show ([1, 0] : List Nat).Perm (List.range 2) by decide) rfl ?_
  have eF : F_X10_ifFolded lie letter crease = r8 := by have q := e_r6.symm; subst q; have q := e_r7.symm; subst q; have q := e_r8.symm; subst q; rfl
  exact r_iret (r := r8) C hA hr hlo dX10_ifFolded_24 [[(fl, .inr (8, [.ref pl, .ref pl2, .ref hi, .ref tx, .ref u, .ref w, .int taken]))], pileB cI cL pl a L h v lie seals folds n f] ⟨by simp only [eF], rfl⟩ rfl hQ
theorem k_X10_distance : kV yX10_distance cX10_distance 3 (some .int) 2 := ⟨t_491, t_492, t_7, t_493, by decide +kernel, by decide +kernel, by decide +kernel⟩
set_option maxRecDepth 20000 in
def F_X10_distance (lie : Nat → Int32) (fst : Int32) (snd : Int32) : Int32 := let r4 : Int32 := F_X2_lie_P lie fst.toNatClampNeg; let r8 : Int32 := F_X2_lie_P lie snd.toNatClampNeg; let r9 : Int32 := F_X3_lengthBetween r4 r8; r9
set_option maxRecDepth 20000 in
def P_X10_distance (lie : Nat → Int32) (fst : Int32) (snd : Int32) : Prop := ((P_X4_atB fst) ∧ ((P_X2_lie_P fst.toNatClampNeg) ∧ (∀ r4 : Int32, r4 = F_X2_lie_P lie fst.toNatClampNeg → ((P_X4_atB snd) ∧ (P_X2_lie_P snd.toNatClampNeg)))))
set_option maxRecDepth 20000 in
set_option maxHeartbeats 8000000 in
theorem m_X10_distance (l : Launch) (D : va_G) (cI cL cP cJ : ClassId) (fl : Nat) (pl : Nat) (a : Nat) (L : Nat → Nat) (h : Nat → Nat) (v : Nat → Nat) (lie : Nat → Int32) (seals : Nat → Int32) (folds : Nat → Int32) (n : Nat → Int32) (f : Nat → Nat → Int32) (pl2 : Nat) (hi : Nat) (tx : Nat) (u : Nat) (w : Nat) (taken : Int32) (fst : Int32) (snd : Int32) (hp : P_X10_distance lie fst snd) : M vI l yX10_distance cX10_distance 3 (some .int) 3 69 D (tyF cI cL cP cJ) [.ref fl, .int fst, .int snd] [[(fl, .inr (8, [.ref pl, .ref pl2, .ref hi, .ref tx, .ref u, .ref w, .int taken]))], pileB cI cL pl a L h v lie seals folds n f] (fun (r : Int32) (w1 : List va_W) => r = (F_X10_distance lie fst snd) ∧ w1 = [[(fl, .inr (8, [.ref pl, .ref pl2, .ref hi, .ref tx, .ref u, .ref w, .int taken]))], pileB cI cL pl a L h v lie seals folds n f]) := by
  unfold P_X10_distance at hp
  refine m_start (by decide +kernel) (Nat.le_of_ble_eq_true rfl) (fun p e s m args below meth c A Q hA hQ C hr hlo => ?_)
  refine r_Le (L' := [(0, .ref fl), (1, .int fst), (2, .int snd)]) rfl ?_
  refine r_aload_n C dX10_distance_0 0 rfl ?_
  refine r_get (Cn := RX10) (T := TX10) (N := 7) C inT10 0 rfl rfl 0 (by decide) t_160 rfl dX10_distance_1 ?_
  refine r_iload_n C dX10_distance_4 1 rfl ?_
  obtain ⟨h1, hp⟩ := hp
  refine r_callV (ci := 2) (wc := [pileB cI cL pl a L h v lie seals folds n f]) (wr := [[(fl, .inr (8, [.ref pl, .ref pl2, .ref hi, .ref tx, .ref u, .ref w, .int taken]))]]) (st := []) C (m_X4_atB l D cI cL cP cJ pl a L h v lie seals folds n f fst h1) k_X4_at t_416 [1, 0] (show ([1, 0] : List Nat).Perm (List.range 2) by decide) rfl rfl rfl (q0 := 0) rfl rfl rfl (Nat.le_of_ble_eq_true rfl) ⟨Nat.le_of_ble_eq_true rfl, Nat.le_of_ble_eq_true rfl⟩ ⟨Nat.zero_le _, Nat.zero_le _⟩ dX10_distance_5 (fun r2 wr2 hw2 => ?_)
  obtain ⟨rfl, rfl⟩ := hw2
  refine r_ws (I' := [pileB cI cL pl a L h v lie seals folds n f, [(fl, .inr (8, [.ref pl, .ref pl2, .ref hi, .ref tx, .ref u, .ref w, .int taken]))]]) rfl ?_
  obtain ⟨h3, hp⟩ := hp
  refine r_callVX (ci := 1) (wc := [pileB cI cL pl a L h v lie seals folds n f]) (wr := [[(fl, .inr (8, [.ref pl, .ref pl2, .ref hi, .ref tx, .ref u, .ref w, .int taken]))]]) (st := []) C (m_X2_lie_P l D cI cL cP cJ pl a L h v lie seals folds n f fst.toNatClampNeg h3) k_X2_lie t_448 [0, 1] (show ([0, 1] : List Nat).Perm (List.range 2) by decide) rfl rfl rfl (pile_L (by have q := h3; unfold P_X2_lie_P at q; exact q)) rfl rfl (Nat.le_of_ble_eq_true rfl) ⟨Nat.le_of_ble_eq_true rfl, Nat.le_of_ble_eq_true rfl⟩ ⟨Nat.zero_le _, Nat.zero_le _⟩ dX10_distance_8 (fun r4 wr4 hw4 => ?_)
  obtain ⟨e_r4, rfl⟩ := hw4
  have hp := hp r4 e_r4
  refine r_ws (I' := [pileB cI cL pl a L h v lie seals folds n f, [(fl, .inr (8, [.ref pl, .ref pl2, .ref hi, .ref tx, .ref u, .ref w, .int taken]))]]) rfl ?_
  refine r_aload_n C dX10_distance_11 0 rfl ?_
  refine r_get (Cn := RX10) (T := TX10) (N := 7) C inT10 1 rfl rfl 0 (by decide) t_160 rfl dX10_distance_12 ?_
  refine r_iload_n C dX10_distance_15 2 rfl ?_
  obtain ⟨h5, hp⟩ := hp
  refine r_callV (ci := 2) (wc := [pileB cI cL pl a L h v lie seals folds n f]) (wr := [[(fl, .inr (8, [.ref pl, .ref pl2, .ref hi, .ref tx, .ref u, .ref w, .int taken]))]]) (st := [.int r4]) C (m_X4_atB l D cI cL cP cJ pl a L h v lie seals folds n f snd h5) k_X4_at t_416 [0, 1] (show ([0, 1] : List Nat).Perm (List.range 2) by decide) rfl rfl rfl (q0 := 0) rfl rfl rfl (Nat.le_of_ble_eq_true rfl) ⟨Nat.le_of_ble_eq_true rfl, Nat.le_of_ble_eq_true rfl⟩ ⟨Nat.zero_le _, Nat.zero_le _⟩ dX10_distance_16 (fun r6 wr6 hw6 => ?_)
  obtain ⟨rfl, rfl⟩ := hw6
  refine r_ws (I' := [pileB cI cL pl a L h v lie seals folds n f, [(fl, .inr (8, [.ref pl, .ref pl2, .ref hi, .ref tx, .ref u, .ref w, .int taken]))]]) rfl ?_
  have h7 := hp
  refine r_callVX (ci := 1) (wc := [pileB cI cL pl a L h v lie seals folds n f]) (wr := [[(fl, .inr (8, [.ref pl, .ref pl2, .ref hi, .ref tx, .ref u, .ref w, .int taken]))]]) (st := [.int r4]) C (m_X2_lie_P l D cI cL cP cJ pl a L h v lie seals folds n f snd.toNatClampNeg h7) k_X2_lie t_448 [0, 1] (show ([0, 1] : List Nat).Perm (List.range 2) by decide) rfl rfl rfl (pile_L (by have q := h7; unfold P_X2_lie_P at q; exact q)) rfl rfl (Nat.le_of_ble_eq_true rfl) ⟨Nat.le_of_ble_eq_true rfl, Nat.le_of_ble_eq_true rfl⟩ ⟨Nat.zero_le _, Nat.zero_le _⟩ dX10_distance_19 (fun r8 wr8 hw8 => ?_)
  obtain ⟨e_r8, rfl⟩ := hw8
  refine r_ws (I' := [pileB cI cL pl a L h v lie seals folds n f, [(fl, .inr (8, [.ref pl, .ref pl2, .ref hi, .ref tx, .ref u, .ref w, .int taken]))]]) rfl ?_
  refine r_callS (wc := []) (wr := [pileB cI cL pl a L h v lie seals folds n f, [(fl, .inr (8, [.ref pl, .ref pl2, .ref hi, .ref tx, .ref u, .ref w, .int taken]))]]) (st := []) C (m_X3_lengthBetween l D cI cL cP cJ r4 r8) k_X3_lengthBetween t_494 [0, 1] (show ([0, 1] : List Nat).Perm (List.range 2) by decide) rfl rfl rfl (Nat.le_of_ble_eq_true rfl) ⟨Nat.le_of_ble_eq_true rfl, Nat.le_of_ble_eq_true rfl⟩ ⟨Nat.zero_le _, Nat.zero_le _⟩ dX10_distance_22 (fun r9 wr9 hw9 => ?_)
  obtain ⟨e_r9, rfl⟩ := hw9
  refine r_ws (I' := [pileB cI cL pl a L h v lie seals folds n f, [(fl, .inr (8, [.ref pl, .ref pl2, .ref hi, .ref tx, .ref u, .ref w, .int taken]))]]) rfl ?_
  refine r_pl (I' := [[(fl, .inr (8, [.ref pl, .ref pl2, .ref hi, .ref tx, .ref u, .ref w, .int taken]))], pileB cI cL pl a L h v lie seals folds n f]) [1, 0] (show ([1, 0] : List Nat).Perm (List.range 2) by decide) rfl ?_
  have eF : F_X10_distance lie fst snd = r9 := by have q := e_r4.symm; subst q; have q := e_r8.symm; subst q; have q := e_r9.symm; subst q; rfl
  exact r_iret (r := r9) C hA hr hlo dX10_distance_25 [[(fl, .inr (8, [.ref pl, .ref pl2, .ref hi, .ref tx, .ref u, .ref w, .int taken]))], pileB cI cL pl a L h v lie seals folds n f] ⟨by simp only [eF], rfl⟩ rfl hQ
theorem k_X10_nearest : kV yX10_nearest cX10_nearest 7 (some .int) 1 := ⟨t_641, t_642, t_7, t_643, by decide +kernel, by decide +kernel, by decide +kernel⟩
set_option maxRecDepth 20000 in
def F_X10_nearest (lie : Nat → Int32) (letter : Int32) : Int32 := let r4 : Int32 := F_X2_lie_P lie letter.toNatClampNeg; let r6 : Int32 := F_X2_lie_P lie 0; let r7 : Int32 := F_X3_lengthBetween r4 r6; let x10 : Int32 := (if (0 : Int32) = letter then (17) else ((if 17 ≤ r7 then (17) else (r7)))); let x11 : Int32 := (if (0 : Int32) = letter then ((-10)) else ((if 17 ≤ r7 then ((-10)) else (0)))); let r13 : Int32 := F_X2_lie_P lie 1; let r14 : Int32 := F_X3_lengthBetween r4 r13; let x17 : Int32 := (if (1 : Int32) = letter then (x10) else ((if x10 ≤ r14 then (x10) else (r14)))); let x18 : Int32 := (if (1 : Int32) = letter then (x11) else ((if x10 ≤ r14 then (x11) else (1)))); let r20 : Int32 := F_X2_lie_P lie 2; let r21 : Int32 := F_X3_lengthBetween r4 r20; let x24 : Int32 := (if (2 : Int32) = letter then (x17) else ((if x17 ≤ r21 then (x17) else (r21)))); let x25 : Int32 := (if (2 : Int32) = letter then (x18) else ((if x17 ≤ r21 then (x18) else (2)))); let r27 : Int32 := F_X2_lie_P lie 3; let r28 : Int32 := F_X3_lengthBetween r4 r27; let x31 : Int32 := (if (3 : Int32) = letter then (x24) else ((if x24 ≤ r28 then (x24) else (r28)))); let x32 : Int32 := (if (3 : Int32) = letter then (x25) else ((if x24 ≤ r28 then (x25) else (3)))); let r34 : Int32 := F_X2_lie_P lie 4; let r35 : Int32 := F_X3_lengthBetween r4 r34; let x39 : Int32 := (if (4 : Int32) = letter then (x32) else ((if x31 ≤ r35 then (x32) else (4)))); x39
set_option maxRecDepth 20000 in
def P_X10_nearest (letter : Int32) : Prop := ((P_X4_atB letter) ∧ (P_X2_lie_P letter.toNatClampNeg))
set_option maxRecDepth 20000 in
set_option maxHeartbeats 8000000 in
theorem m_X10_nearest (l : Launch) (D : va_G) (cI cL cP cJ : ClassId) (fl : Nat) (pl : Nat) (a : Nat) (L : Nat → Nat) (h : Nat → Nat) (v : Nat → Nat) (lie : Nat → Int32) (seals : Nat → Int32) (folds : Nat → Int32) (n : Nat → Int32) (f : Nat → Nat → Int32) (pl2 : Nat) (hi : Nat) (tx : Nat) (u : Nat) (w : Nat) (taken : Int32) (letter : Int32) (hp : P_X10_nearest letter) : M vI l yX10_nearest cX10_nearest 7 (some .int) 3 69 D (tyF cI cL cP cJ) [.ref fl, .int letter] [[(fl, .inr (8, [.ref pl, .ref pl2, .ref hi, .ref tx, .ref u, .ref w, .int taken]))], pileB cI cL pl a L h v lie seals folds n f] (fun (r : Int32) (w1 : List va_W) => r = (F_X10_nearest lie letter) ∧ w1 = [[(fl, .inr (8, [.ref pl, .ref pl2, .ref hi, .ref tx, .ref u, .ref w, .int taken]))], pileB cI cL pl a L h v lie seals folds n f]) := by
  unfold P_X10_nearest at hp
  refine m_start (by decide +kernel) (Nat.le_of_ble_eq_true rfl) (fun p e s m args below meth c A Q hA hQ C hr hlo => ?_)
  refine r_Le (L' := [(0, .ref fl), (1, .int letter)]) rfl ?_
  refine r_aload_n C dX10_nearest_0 0 rfl ?_
  refine r_get (Cn := RX10) (T := TX10) (N := 7) C inT10 0 rfl rfl 0 (by decide) t_160 rfl dX10_nearest_1 ?_
  refine r_iload_n C dX10_nearest_4 1 rfl ?_
  obtain ⟨h1, hp⟩ := hp
  refine r_callV (ci := 2) (wc := [pileB cI cL pl a L h v lie seals folds n f]) (wr := [[(fl, .inr (8, [.ref pl, .ref pl2, .ref hi, .ref tx, .ref u, .ref w, .int taken]))]]) (st := []) C (m_X4_atB l D cI cL cP cJ pl a L h v lie seals folds n f letter h1) k_X4_at t_416 [1, 0] (show ([1, 0] : List Nat).Perm (List.range 2) by decide) rfl rfl rfl (q0 := 0) rfl rfl rfl (Nat.le_of_ble_eq_true rfl) ⟨Nat.le_of_ble_eq_true rfl, Nat.le_of_ble_eq_true rfl⟩ ⟨Nat.zero_le _, Nat.zero_le _⟩ dX10_nearest_5 (fun r2 wr2 hw2 => ?_)
  obtain ⟨rfl, rfl⟩ := hw2
  refine r_ws (I' := [pileB cI cL pl a L h v lie seals folds n f, [(fl, .inr (8, [.ref pl, .ref pl2, .ref hi, .ref tx, .ref u, .ref w, .int taken]))]]) rfl ?_
  have h3 := hp
  refine r_callVX (ci := 1) (wc := [pileB cI cL pl a L h v lie seals folds n f]) (wr := [[(fl, .inr (8, [.ref pl, .ref pl2, .ref hi, .ref tx, .ref u, .ref w, .int taken]))]]) (st := []) C (m_X2_lie_P l D cI cL cP cJ pl a L h v lie seals folds n f letter.toNatClampNeg h3) k_X2_lie t_448 [0, 1] (show ([0, 1] : List Nat).Perm (List.range 2) by decide) rfl rfl rfl (pile_L (by have q := h3; unfold P_X2_lie_P at q; exact q)) rfl rfl (Nat.le_of_ble_eq_true rfl) ⟨Nat.le_of_ble_eq_true rfl, Nat.le_of_ble_eq_true rfl⟩ ⟨Nat.zero_le _, Nat.zero_le _⟩ dX10_nearest_8 (fun r4 wr4 hw4 => ?_)
  obtain ⟨e_r4, rfl⟩ := hw4
  refine r_ws (I' := [pileB cI cL pl a L h v lie seals folds n f, [(fl, .inr (8, [.ref pl, .ref pl2, .ref hi, .ref tx, .ref u, .ref w, .int taken]))]]) rfl ?_
  refine r_istore_n (L' := [(2, .int r4), (0, .ref fl), (1, .int letter)]) C dX10_nearest_11 (by decide) rfl ?_
  refine r_bipush (v := (-10)) C dX10_nearest_12 (by decide) ?_
  refine r_istore_n (L' := [(3, .int (-10)), (2, .int r4), (0, .ref fl), (1, .int letter)]) C dX10_nearest_14 (by decide) rfl ?_
  refine r_bipush (v := 17) C dX10_nearest_15 (by decide) ?_
  refine r_istore (L' := [(4, .int 17), (3, .int (-10)), (2, .int r4), (0, .ref fl), (1, .int letter)]) C dX10_nearest_17 (by decide) rfl ?_
  refine r_iconst (v := 0) C dX10_nearest_19 (by decide) ?_
  refine r_istore (L' := [(5, .int 0), (4, .int 17), (3, .int (-10)), (2, .int r4), (0, .ref fl), (1, .int letter)]) C dX10_nearest_20 (by decide) rfl ?_
  refine r_iload C dX10_nearest_22 0 rfl ?_
  refine r_iconst (v := 5) C dX10_nearest_24 (by decide) ?_
  refine r_icmp_ge (tgt := 72) C dX10_nearest_25 (by decide) (fun c => absurd c (by decide)) (fun _ => ?_)
  refine r_iload_n C dX10_nearest_28 3 rfl ?_
  refine r_aload_n C dX10_nearest_29 4 rfl ?_
  refine r_get (Cn := RX10) (T := TX10) (N := 7) C inT10 1 rfl rfl 0 (by decide) t_160 rfl dX10_nearest_30 ?_
  refine r_iload C dX10_nearest_33 0 rfl ?_
  refine r_callV (ci := 2) (wc := [pileB cI cL pl a L h v lie seals folds n f]) (wr := [[(fl, .inr (8, [.ref pl, .ref pl2, .ref hi, .ref tx, .ref u, .ref w, .int taken]))]]) (st := [.int r4]) C (m_X4_atB l D cI cL cP cJ pl a L h v lie seals folds n f 0 (P_atB_k (k := 0) (by decide))) k_X4_at t_416 [0, 1] (show ([0, 1] : List Nat).Perm (List.range 2) by decide) rfl rfl rfl (q0 := 0) rfl rfl rfl (Nat.le_of_ble_eq_true rfl) ⟨Nat.le_of_ble_eq_true rfl, Nat.le_of_ble_eq_true rfl⟩ ⟨Nat.zero_le _, Nat.zero_le _⟩ dX10_nearest_35 (fun r5 wr5 hw5 => ?_)
  obtain ⟨rfl, rfl⟩ := hw5
  refine r_ws (I' := [pileB cI cL pl a L h v lie seals folds n f, [(fl, .inr (8, [.ref pl, .ref pl2, .ref hi, .ref tx, .ref u, .ref w, .int taken]))]]) rfl ?_
  refine r_callVX (ci := 1) (wc := [pileB cI cL pl a L h v lie seals folds n f]) (wr := [[(fl, .inr (8, [.ref pl, .ref pl2, .ref hi, .ref tx, .ref u, .ref w, .int taken]))]]) (st := [.int r4]) C (m_X2_lie_P l D cI cL cP cJ pl a L h v lie seals folds n f 0 (show P_X2_lie_P 0 from (by decide : 0 < 5))) k_X2_lie t_448 [0, 1] (show ([0, 1] : List Nat).Perm (List.range 2) by decide) rfl rfl rfl (pile_L (by decide)) rfl rfl (Nat.le_of_ble_eq_true rfl) ⟨Nat.le_of_ble_eq_true rfl, Nat.le_of_ble_eq_true rfl⟩ ⟨Nat.zero_le _, Nat.zero_le _⟩ dX10_nearest_38 (fun r6 wr6 hw6 => ?_)
  obtain ⟨e_r6, rfl⟩ := hw6
  refine r_ws (I' := [pileB cI cL pl a L h v lie seals folds n f, [(fl, .inr (8, [.ref pl, .ref pl2, .ref hi, .ref tx, .ref u, .ref w, .int taken]))]]) rfl ?_
  refine r_callS (wc := []) (wr := [pileB cI cL pl a L h v lie seals folds n f, [(fl, .inr (8, [.ref pl, .ref pl2, .ref hi, .ref tx, .ref u, .ref w, .int taken]))]]) (st := []) C (m_X3_lengthBetween l D cI cL cP cJ r4 r6) k_X3_lengthBetween t_494 [0, 1] (show ([0, 1] : List Nat).Perm (List.range 2) by decide) rfl rfl rfl (Nat.le_of_ble_eq_true rfl) ⟨Nat.le_of_ble_eq_true rfl, Nat.le_of_ble_eq_true rfl⟩ ⟨Nat.zero_le _, Nat.zero_le _⟩ dX10_nearest_41 (fun r7 wr7 hw7 => ?_)
  obtain ⟨e_r7, rfl⟩ := hw7
  refine r_ws (I' := [pileB cI cL pl a L h v lie seals folds n f, [(fl, .inr (8, [.ref pl, .ref pl2, .ref hi, .ref tx, .ref u, .ref w, .int taken]))]]) rfl ?_
  refine r_istore (L' := [(6, .int r7), (5, .int 0), (4, .int 17), (3, .int (-10)), (2, .int r4), (0, .ref fl), (1, .int letter)]) C dX10_nearest_44 (by decide) rfl ?_
  refine r_iload C dX10_nearest_46 1 rfl ?_
  refine r_iload_n C dX10_nearest_48 6 rfl ?_
  suffices K : ∀ x10 : Int32, x10 = ((if (0 : Int32) = letter then (17) else ((if 17 ≤ r7 then (17) else (r7))))) → ∀ x11 : Int32, x11 = ((if (0 : Int32) = letter then ((-10)) else ((if 17 ≤ r7 then ((-10)) else (0))))) → V p l e (rmm 3 69) s m args below meth c 7 D A 0 0 Q [pileB cI cL pl a L h v lie seals folds n f, [(fl, .inr (8, [.ref pl, .ref pl2, .ref hi, .ref tx, .ref u, .ref w, .int taken]))]] [(6, .int r7), (5, .int 0), (4, .int x10), (3, .int x11), (2, .int r4), (0, .ref fl), (1, .int letter)] 66 [] by
    refine r_icmp_eq (tgt := 66) C dX10_nearest_49 (by decide) (fun c8 => ?_) (fun c8 => ?_)
    · exact K _ (by simp only [if_pos c8]) _ (by simp only [if_pos c8])
    · refine r_iload C dX10_nearest_52 0 rfl ?_
      refine r_iload C dX10_nearest_54 2 rfl ?_
      refine r_icmp_ge (tgt := 66) C dX10_nearest_56 (by decide) (fun c9 => ?_) (fun c9 => ?_)
      · exact K _ (by simp only [if_neg c8, if_pos c9]) _ (by simp only [if_neg c8, if_pos c9])
      · refine r_iload C dX10_nearest_59 1 rfl ?_
        refine r_istore_n (L' := [(3, .int 0), (6, .int r7), (5, .int 0), (4, .int 17), (2, .int r4), (0, .ref fl), (1, .int letter)]) C dX10_nearest_61 (by decide) rfl ?_
        refine r_iload C dX10_nearest_62 1 rfl ?_
        refine r_istore (L' := [(4, .int r7), (3, .int 0), (6, .int r7), (5, .int 0), (2, .int r4), (0, .ref fl), (1, .int letter)]) C dX10_nearest_64 (by decide) rfl ?_
        refine r_L (L' := [(6, .int r7), (5, .int 0), (4, .int r7), (3, .int 0), (2, .int r4), (0, .ref fl), (1, .int letter)]) [2, 3, 0, 1, 4, 5, 6] rfl ?_
        exact K _ (by simp only [if_neg c8, if_neg c9]) _ (by simp only [if_neg c8, if_neg c9])
  intro x10 e_x10 x11 e_x11
  refine r_iinc (v := 1) (L' := [(5, .int 1), (6, .int r7), (4, .int x10), (3, .int x11), (2, .int r4), (0, .ref fl), (1, .int letter)]) C dX10_nearest_66 1 rfl (by decide) (by decide) rfl ?_
  refine r_goto (tgt := 22) C dX10_nearest_69 (by decide) ?_
  refine r_iload C dX10_nearest_22 0 rfl ?_
  refine r_iconst (v := 5) C dX10_nearest_24 (by decide) ?_
  refine r_icmp_ge (tgt := 72) C dX10_nearest_25 (by decide) (fun c => absurd c (by decide)) (fun _ => ?_)
  refine r_iload_n C dX10_nearest_28 4 rfl ?_
  refine r_aload_n C dX10_nearest_29 5 rfl ?_
  refine r_get (Cn := RX10) (T := TX10) (N := 7) C inT10 1 rfl rfl 0 (by decide) t_160 rfl dX10_nearest_30 ?_
  refine r_iload C dX10_nearest_33 0 rfl ?_
  refine r_callV (ci := 2) (wc := [pileB cI cL pl a L h v lie seals folds n f]) (wr := [[(fl, .inr (8, [.ref pl, .ref pl2, .ref hi, .ref tx, .ref u, .ref w, .int taken]))]]) (st := [.int r4]) C (m_X4_atB l D cI cL cP cJ pl a L h v lie seals folds n f 1 (P_atB_k (k := 1) (by decide))) k_X4_at t_416 [0, 1] (show ([0, 1] : List Nat).Perm (List.range 2) by decide) rfl rfl rfl (q0 := 0) rfl rfl rfl (Nat.le_of_ble_eq_true rfl) ⟨Nat.le_of_ble_eq_true rfl, Nat.le_of_ble_eq_true rfl⟩ ⟨Nat.zero_le _, Nat.zero_le _⟩ dX10_nearest_35 (fun r12 wr12 hw12 => ?_)
  obtain ⟨rfl, rfl⟩ := hw12
  refine r_ws (I' := [pileB cI cL pl a L h v lie seals folds n f, [(fl, .inr (8, [.ref pl, .ref pl2, .ref hi, .ref tx, .ref u, .ref w, .int taken]))]]) rfl ?_
  refine r_callVX (ci := 1) (wc := [pileB cI cL pl a L h v lie seals folds n f]) (wr := [[(fl, .inr (8, [.ref pl, .ref pl2, .ref hi, .ref tx, .ref u, .ref w, .int taken]))]]) (st := [.int r4]) C (m_X2_lie_P l D cI cL cP cJ pl a L h v lie seals folds n f 1 (show P_X2_lie_P 1 from (by decide : 1 < 5))) k_X2_lie t_448 [0, 1] (show ([0, 1] : List Nat).Perm (List.range 2) by decide) rfl rfl rfl (pile_L (by decide)) rfl rfl (Nat.le_of_ble_eq_true rfl) ⟨Nat.le_of_ble_eq_true rfl, Nat.le_of_ble_eq_true rfl⟩ ⟨Nat.zero_le _, Nat.zero_le _⟩ dX10_nearest_38 (fun r13 wr13 hw13 => ?_)
  obtain ⟨e_r13, rfl⟩ := hw13
  refine r_ws (I' := [pileB cI cL pl a L h v lie seals folds n f, [(fl, .inr (8, [.ref pl, .ref pl2, .ref hi, .ref tx, .ref u, .ref w, .int taken]))]]) rfl ?_
  refine r_callS (wc := []) (wr := [pileB cI cL pl a L h v lie seals folds n f, [(fl, .inr (8, [.ref pl, .ref pl2, .ref hi, .ref tx, .ref u, .ref w, .int taken]))]]) (st := []) C (m_X3_lengthBetween l D cI cL cP cJ r4 r13) k_X3_lengthBetween t_494 [0, 1] (show ([0, 1] : List Nat).Perm (List.range 2) by decide) rfl rfl rfl (Nat.le_of_ble_eq_true rfl) ⟨Nat.le_of_ble_eq_true rfl, Nat.le_of_ble_eq_true rfl⟩ ⟨Nat.zero_le _, Nat.zero_le _⟩ dX10_nearest_41 (fun r14 wr14 hw14 => ?_)
  obtain ⟨e_r14, rfl⟩ := hw14
  refine r_ws (I' := [pileB cI cL pl a L h v lie seals folds n f, [(fl, .inr (8, [.ref pl, .ref pl2, .ref hi, .ref tx, .ref u, .ref w, .int taken]))]]) rfl ?_
  refine r_istore (L' := [(6, .int r14), (5, .int 1), (4, .int x10), (3, .int x11), (2, .int r4), (0, .ref fl), (1, .int letter)]) C dX10_nearest_44 (by decide) rfl ?_
  refine r_iload C dX10_nearest_46 1 rfl ?_
  refine r_iload_n C dX10_nearest_48 6 rfl ?_
  suffices K : ∀ x17 : Int32, x17 = ((if (1 : Int32) = letter then (x10) else ((if x10 ≤ r14 then (x10) else (r14))))) → ∀ x18 : Int32, x18 = ((if (1 : Int32) = letter then (x11) else ((if x10 ≤ r14 then (x11) else (1))))) → V p l e (rmm 3 69) s m args below meth c 7 D A 0 0 Q [pileB cI cL pl a L h v lie seals folds n f, [(fl, .inr (8, [.ref pl, .ref pl2, .ref hi, .ref tx, .ref u, .ref w, .int taken]))]] [(6, .int r14), (5, .int 1), (4, .int x17), (3, .int x18), (2, .int r4), (0, .ref fl), (1, .int letter)] 66 [] by
    refine r_icmp_eq (tgt := 66) C dX10_nearest_49 (by decide) (fun c15 => ?_) (fun c15 => ?_)
    · exact K _ (by simp only [if_pos c15]) _ (by simp only [if_pos c15])
    · refine r_iload C dX10_nearest_52 0 rfl ?_
      refine r_iload C dX10_nearest_54 2 rfl ?_
      refine r_icmp_ge (tgt := 66) C dX10_nearest_56 (by decide) (fun c16 => ?_) (fun c16 => ?_)
      · exact K _ (by simp only [if_neg c15, if_pos c16]) _ (by simp only [if_neg c15, if_pos c16])
      · refine r_iload C dX10_nearest_59 1 rfl ?_
        refine r_istore_n (L' := [(3, .int 1), (6, .int r14), (5, .int 1), (4, .int x10), (2, .int r4), (0, .ref fl), (1, .int letter)]) C dX10_nearest_61 (by decide) rfl ?_
        refine r_iload C dX10_nearest_62 1 rfl ?_
        refine r_istore (L' := [(4, .int r14), (3, .int 1), (6, .int r14), (5, .int 1), (2, .int r4), (0, .ref fl), (1, .int letter)]) C dX10_nearest_64 (by decide) rfl ?_
        refine r_L (L' := [(6, .int r14), (5, .int 1), (4, .int r14), (3, .int 1), (2, .int r4), (0, .ref fl), (1, .int letter)]) [2, 3, 0, 1, 4, 5, 6] rfl ?_
        exact K _ (by simp only [if_neg c15, if_neg c16]) _ (by simp only [if_neg c15, if_neg c16])
  intro x17 e_x17 x18 e_x18
  refine r_iinc (v := 2) (L' := [(5, .int 2), (6, .int r14), (4, .int x17), (3, .int x18), (2, .int r4), (0, .ref fl), (1, .int letter)]) C dX10_nearest_66 1 rfl (by decide) (by decide) rfl ?_
  refine r_goto (tgt := 22) C dX10_nearest_69 (by decide) ?_
  refine r_iload C dX10_nearest_22 0 rfl ?_
  refine r_iconst (v := 5) C dX10_nearest_24 (by decide) ?_
  refine r_icmp_ge (tgt := 72) C dX10_nearest_25 (by decide) (fun c => absurd c (by decide)) (fun _ => ?_)
  refine r_iload_n C dX10_nearest_28 4 rfl ?_
  refine r_aload_n C dX10_nearest_29 5 rfl ?_
  refine r_get (Cn := RX10) (T := TX10) (N := 7) C inT10 1 rfl rfl 0 (by decide) t_160 rfl dX10_nearest_30 ?_
  refine r_iload C dX10_nearest_33 0 rfl ?_
  refine r_callV (ci := 2) (wc := [pileB cI cL pl a L h v lie seals folds n f]) (wr := [[(fl, .inr (8, [.ref pl, .ref pl2, .ref hi, .ref tx, .ref u, .ref w, .int taken]))]]) (st := [.int r4]) C (m_X4_atB l D cI cL cP cJ pl a L h v lie seals folds n f 2 (P_atB_k (k := 2) (by decide))) k_X4_at t_416 [0, 1] (show ([0, 1] : List Nat).Perm (List.range 2) by decide) rfl rfl rfl (q0 := 0) rfl rfl rfl (Nat.le_of_ble_eq_true rfl) ⟨Nat.le_of_ble_eq_true rfl, Nat.le_of_ble_eq_true rfl⟩ ⟨Nat.zero_le _, Nat.zero_le _⟩ dX10_nearest_35 (fun r19 wr19 hw19 => ?_)
  obtain ⟨rfl, rfl⟩ := hw19
  refine r_ws (I' := [pileB cI cL pl a L h v lie seals folds n f, [(fl, .inr (8, [.ref pl, .ref pl2, .ref hi, .ref tx, .ref u, .ref w, .int taken]))]]) rfl ?_
  refine r_callVX (ci := 1) (wc := [pileB cI cL pl a L h v lie seals folds n f]) (wr := [[(fl, .inr (8, [.ref pl, .ref pl2, .ref hi, .ref tx, .ref u, .ref w, .int taken]))]]) (st := [.int r4]) C (m_X2_lie_P l D cI cL cP cJ pl a L h v lie seals folds n f 2 (show P_X2_lie_P 2 from (by decide : 2 < 5))) k_X2_lie t_448 [0, 1] (show ([0, 1] : List Nat).Perm (List.range 2) by decide) rfl rfl rfl (pile_L (by decide)) rfl rfl (Nat.le_of_ble_eq_true rfl) ⟨Nat.le_of_ble_eq_true rfl, Nat.le_of_ble_eq_true rfl⟩ ⟨Nat.zero_le _, Nat.zero_le _⟩ dX10_nearest_38 (fun r20 wr20 hw20 => ?_)
  obtain ⟨e_r20, rfl⟩ := hw20
  refine r_ws (I' := [pileB cI cL pl a L h v lie seals folds n f, [(fl, .inr (8, [.ref pl, .ref pl2, .ref hi, .ref tx, .ref u, .ref w, .int taken]))]]) rfl ?_
  refine r_callS (wc := []) (wr := [pileB cI cL pl a L h v lie seals folds n f, [(fl, .inr (8, [.ref pl, .ref pl2, .ref hi, .ref tx, .ref u, .ref w, .int taken]))]]) (st := []) C (m_X3_lengthBetween l D cI cL cP cJ r4 r20) k_X3_lengthBetween t_494 [0, 1] (show ([0, 1] : List Nat).Perm (List.range 2) by decide) rfl rfl rfl (Nat.le_of_ble_eq_true rfl) ⟨Nat.le_of_ble_eq_true rfl, Nat.le_of_ble_eq_true rfl⟩ ⟨Nat.zero_le _, Nat.zero_le _⟩ dX10_nearest_41 (fun r21 wr21 hw21 => ?_)
  obtain ⟨e_r21, rfl⟩ := hw21
  refine r_ws (I' := [pileB cI cL pl a L h v lie seals folds n f, [(fl, .inr (8, [.ref pl, .ref pl2, .ref hi, .ref tx, .ref u, .ref w, .int taken]))]]) rfl ?_
  refine r_istore (L' := [(6, .int r21), (5, .int 2), (4, .int x17), (3, .int x18), (2, .int r4), (0, .ref fl), (1, .int letter)]) C dX10_nearest_44 (by decide) rfl ?_
  refine r_iload C dX10_nearest_46 1 rfl ?_
  refine r_iload_n C dX10_nearest_48 6 rfl ?_
  suffices K : ∀ x24 : Int32, x24 = ((if (2 : Int32) = letter then (x17) else ((if x17 ≤ r21 then (x17) else (r21))))) → ∀ x25 : Int32, x25 = ((if (2 : Int32) = letter then (x18) else ((if x17 ≤ r21 then (x18) else (2))))) → V p l e (rmm 3 69) s m args below meth c 7 D A 0 0 Q [pileB cI cL pl a L h v lie seals folds n f, [(fl, .inr (8, [.ref pl, .ref pl2, .ref hi, .ref tx, .ref u, .ref w, .int taken]))]] [(6, .int r21), (5, .int 2), (4, .int x24), (3, .int x25), (2, .int r4), (0, .ref fl), (1, .int letter)] 66 [] by
    refine r_icmp_eq (tgt := 66) C dX10_nearest_49 (by decide) (fun c22 => ?_) (fun c22 => ?_)
    · exact K _ (by simp only [if_pos c22]) _ (by simp only [if_pos c22])
    · refine r_iload C dX10_nearest_52 0 rfl ?_
      refine r_iload C dX10_nearest_54 2 rfl ?_
      refine r_icmp_ge (tgt := 66) C dX10_nearest_56 (by decide) (fun c23 => ?_) (fun c23 => ?_)
      · exact K _ (by simp only [if_neg c22, if_pos c23]) _ (by simp only [if_neg c22, if_pos c23])
      · refine r_iload C dX10_nearest_59 1 rfl ?_
        refine r_istore_n (L' := [(3, .int 2), (6, .int r21), (5, .int 2), (4, .int x17), (2, .int r4), (0, .ref fl), (1, .int letter)]) C dX10_nearest_61 (by decide) rfl ?_
        refine r_iload C dX10_nearest_62 1 rfl ?_
        refine r_istore (L' := [(4, .int r21), (3, .int 2), (6, .int r21), (5, .int 2), (2, .int r4), (0, .ref fl), (1, .int letter)]) C dX10_nearest_64 (by decide) rfl ?_
        refine r_L (L' := [(6, .int r21), (5, .int 2), (4, .int r21), (3, .int 2), (2, .int r4), (0, .ref fl), (1, .int letter)]) [2, 3, 0, 1, 4, 5, 6] rfl ?_
        exact K _ (by simp only [if_neg c22, if_neg c23]) _ (by simp only [if_neg c22, if_neg c23])
  intro x24 e_x24 x25 e_x25
  refine r_iinc (v := 3) (L' := [(5, .int 3), (6, .int r21), (4, .int x24), (3, .int x25), (2, .int r4), (0, .ref fl), (1, .int letter)]) C dX10_nearest_66 1 rfl (by decide) (by decide) rfl ?_
  refine r_goto (tgt := 22) C dX10_nearest_69 (by decide) ?_
  refine r_iload C dX10_nearest_22 0 rfl ?_
  refine r_iconst (v := 5) C dX10_nearest_24 (by decide) ?_
  refine r_icmp_ge (tgt := 72) C dX10_nearest_25 (by decide) (fun c => absurd c (by decide)) (fun _ => ?_)
  refine r_iload_n C dX10_nearest_28 4 rfl ?_
  refine r_aload_n C dX10_nearest_29 5 rfl ?_
  refine r_get (Cn := RX10) (T := TX10) (N := 7) C inT10 1 rfl rfl 0 (by decide) t_160 rfl dX10_nearest_30 ?_
  refine r_iload C dX10_nearest_33 0 rfl ?_
  refine r_callV (ci := 2) (wc := [pileB cI cL pl a L h v lie seals folds n f]) (wr := [[(fl, .inr (8, [.ref pl, .ref pl2, .ref hi, .ref tx, .ref u, .ref w, .int taken]))]]) (st := [.int r4]) C (m_X4_atB l D cI cL cP cJ pl a L h v lie seals folds n f 3 (P_atB_k (k := 3) (by decide))) k_X4_at t_416 [0, 1] (show ([0, 1] : List Nat).Perm (List.range 2) by decide) rfl rfl rfl (q0 := 0) rfl rfl rfl (Nat.le_of_ble_eq_true rfl) ⟨Nat.le_of_ble_eq_true rfl, Nat.le_of_ble_eq_true rfl⟩ ⟨Nat.zero_le _, Nat.zero_le _⟩ dX10_nearest_35 (fun r26 wr26 hw26 => ?_)
  obtain ⟨rfl, rfl⟩ := hw26
  refine r_ws (I' := [pileB cI cL pl a L h v lie seals folds n f, [(fl, .inr (8, [.ref pl, .ref pl2, .ref hi, .ref tx, .ref u, .ref w, .int taken]))]]) rfl ?_
  refine r_callVX (ci := 1) (wc := [pileB cI cL pl a L h v lie seals folds n f]) (wr := [[(fl, .inr (8, [.ref pl, .ref pl2, .ref hi, .ref tx, .ref u, .ref w, .int taken]))]]) (st := [.int r4]) C (m_X2_lie_P l D cI cL cP cJ pl a L h v lie seals folds n f 3 (show P_X2_lie_P 3 from (by decide : 3 < 5))) k_X2_lie t_448 [0, 1] (show ([0, 1] : List Nat).Perm (List.range 2) by decide) rfl rfl rfl (pile_L (by decide)) rfl rfl (Nat.le_of_ble_eq_true rfl) ⟨Nat.le_of_ble_eq_true rfl, Nat.le_of_ble_eq_true rfl⟩ ⟨Nat.zero_le _, Nat.zero_le _⟩ dX10_nearest_38 (fun r27 wr27 hw27 => ?_)
  obtain ⟨e_r27, rfl⟩ := hw27
  refine r_ws (I' := [pileB cI cL pl a L h v lie seals folds n f, [(fl, .inr (8, [.ref pl, .ref pl2, .ref hi, .ref tx, .ref u, .ref w, .int taken]))]]) rfl ?_
  refine r_callS (wc := []) (wr := [pileB cI cL pl a L h v lie seals folds n f, [(fl, .inr (8, [.ref pl, .ref pl2, .ref hi, .ref tx, .ref u, .ref w, .int taken]))]]) (st := []) C (m_X3_lengthBetween l D cI cL cP cJ r4 r27) k_X3_lengthBetween t_494 [0, 1] (show ([0, 1] : List Nat).Perm (List.range 2) by decide) rfl rfl rfl (Nat.le_of_ble_eq_true rfl) ⟨Nat.le_of_ble_eq_true rfl, Nat.le_of_ble_eq_true rfl⟩ ⟨Nat.zero_le _, Nat.zero_le _⟩ dX10_nearest_41 (fun r28 wr28 hw28 => ?_)
  obtain ⟨e_r28, rfl⟩ := hw28
  refine r_ws (I' := [pileB cI cL pl a L h v lie seals folds n f, [(fl, .inr (8, [.ref pl, .ref pl2, .ref hi, .ref tx, .ref u, .ref w, .int taken]))]]) rfl ?_
  refine r_istore (L' := [(6, .int r28), (5, .int 3), (4, .int x24), (3, .int x25), (2, .int r4), (0, .ref fl), (1, .int letter)]) C dX10_nearest_44 (by decide) rfl ?_
  refine r_iload C dX10_nearest_46 1 rfl ?_
  refine r_iload_n C dX10_nearest_48 6 rfl ?_
  suffices K : ∀ x31 : Int32, x31 = ((if (3 : Int32) = letter then (x24) else ((if x24 ≤ r28 then (x24) else (r28))))) → ∀ x32 : Int32, x32 = ((if (3 : Int32) = letter then (x25) else ((if x24 ≤ r28 then (x25) else (3))))) → V p l e (rmm 3 69) s m args below meth c 7 D A 0 0 Q [pileB cI cL pl a L h v lie seals folds n f, [(fl, .inr (8, [.ref pl, .ref pl2, .ref hi, .ref tx, .ref u, .ref w, .int taken]))]] [(6, .int r28), (5, .int 3), (4, .int x31), (3, .int x32), (2, .int r4), (0, .ref fl), (1, .int letter)] 66 [] by
    refine r_icmp_eq (tgt := 66) C dX10_nearest_49 (by decide) (fun c29 => ?_) (fun c29 => ?_)
    · exact K _ (by simp only [if_pos c29]) _ (by simp only [if_pos c29])
    · refine r_iload C dX10_nearest_52 0 rfl ?_
      refine r_iload C dX10_nearest_54 2 rfl ?_
      refine r_icmp_ge (tgt := 66) C dX10_nearest_56 (by decide) (fun c30 => ?_) (fun c30 => ?_)
      · exact K _ (by simp only [if_neg c29, if_pos c30]) _ (by simp only [if_neg c29, if_pos c30])
      · refine r_iload C dX10_nearest_59 1 rfl ?_
        refine r_istore_n (L' := [(3, .int 3), (6, .int r28), (5, .int 3), (4, .int x24), (2, .int r4), (0, .ref fl), (1, .int letter)]) C dX10_nearest_61 (by decide) rfl ?_
        refine r_iload C dX10_nearest_62 1 rfl ?_
        refine r_istore (L' := [(4, .int r28), (3, .int 3), (6, .int r28), (5, .int 3), (2, .int r4), (0, .ref fl), (1, .int letter)]) C dX10_nearest_64 (by decide) rfl ?_
        refine r_L (L' := [(6, .int r28), (5, .int 3), (4, .int r28), (3, .int 3), (2, .int r4), (0, .ref fl), (1, .int letter)]) [2, 3, 0, 1, 4, 5, 6] rfl ?_
        exact K _ (by simp only [if_neg c29, if_neg c30]) _ (by simp only [if_neg c29, if_neg c30])
  intro x31 e_x31 x32 e_x32
  refine r_iinc (v := 4) (L' := [(5, .int 4), (6, .int r28), (4, .int x31), (3, .int x32), (2, .int r4), (0, .ref fl), (1, .int letter)]) C dX10_nearest_66 1 rfl (by decide) (by decide) rfl ?_
  refine r_goto (tgt := 22) C dX10_nearest_69 (by decide) ?_
  refine r_iload C dX10_nearest_22 0 rfl ?_
  refine r_iconst (v := 5) C dX10_nearest_24 (by decide) ?_
  refine r_icmp_ge (tgt := 72) C dX10_nearest_25 (by decide) (fun c => absurd c (by decide)) (fun _ => ?_)
  refine r_iload_n C dX10_nearest_28 4 rfl ?_
  refine r_aload_n C dX10_nearest_29 5 rfl ?_
  refine r_get (Cn := RX10) (T := TX10) (N := 7) C inT10 1 rfl rfl 0 (by decide) t_160 rfl dX10_nearest_30 ?_
  refine r_iload C dX10_nearest_33 0 rfl ?_
  refine r_callV (ci := 2) (wc := [pileB cI cL pl a L h v lie seals folds n f]) (wr := [[(fl, .inr (8, [.ref pl, .ref pl2, .ref hi, .ref tx, .ref u, .ref w, .int taken]))]]) (st := [.int r4]) C (m_X4_atB l D cI cL cP cJ pl a L h v lie seals folds n f 4 (P_atB_k (k := 4) (by decide))) k_X4_at t_416 [0, 1] (show ([0, 1] : List Nat).Perm (List.range 2) by decide) rfl rfl rfl (q0 := 0) rfl rfl rfl (Nat.le_of_ble_eq_true rfl) ⟨Nat.le_of_ble_eq_true rfl, Nat.le_of_ble_eq_true rfl⟩ ⟨Nat.zero_le _, Nat.zero_le _⟩ dX10_nearest_35 (fun r33 wr33 hw33 => ?_)
  obtain ⟨rfl, rfl⟩ := hw33
  refine r_ws (I' := [pileB cI cL pl a L h v lie seals folds n f, [(fl, .inr (8, [.ref pl, .ref pl2, .ref hi, .ref tx, .ref u, .ref w, .int taken]))]]) rfl ?_
  refine r_callVX (ci := 1) (wc := [pileB cI cL pl a L h v lie seals folds n f]) (wr := [[(fl, .inr (8, [.ref pl, .ref pl2, .ref hi, .ref tx, .ref u, .ref w, .int taken]))]]) (st := [.int r4]) C (m_X2_lie_P l D cI cL cP cJ pl a L h v lie seals folds n f 4 (show P_X2_lie_P 4 from (by decide : 4 < 5))) k_X2_lie t_448 [0, 1] (show ([0, 1] : List Nat).Perm (List.range 2) by decide) rfl rfl rfl (pile_L (by decide)) rfl rfl (Nat.le_of_ble_eq_true rfl) ⟨Nat.le_of_ble_eq_true rfl, Nat.le_of_ble_eq_true rfl⟩ ⟨Nat.zero_le _, Nat.zero_le _⟩ dX10_nearest_38 (fun r34 wr34 hw34 => ?_)
  obtain ⟨e_r34, rfl⟩ := hw34
  refine r_ws (I' := [pileB cI cL pl a L h v lie seals folds n f, [(fl, .inr (8, [.ref pl, .ref pl2, .ref hi, .ref tx, .ref u, .ref w, .int taken]))]]) rfl ?_
  refine r_callS (wc := []) (wr := [pileB cI cL pl a L h v lie seals folds n f, [(fl, .inr (8, [.ref pl, .ref pl2, .ref hi, .ref tx, .ref u, .ref w, .int taken]))]]) (st := []) C (m_X3_lengthBetween l D cI cL cP cJ r4 r34) k_X3_lengthBetween t_494 [0, 1] (show ([0, 1] : List Nat).Perm (List.range 2) by decide) rfl rfl rfl (Nat.le_of_ble_eq_true rfl) ⟨Nat.le_of_ble_eq_true rfl, Nat.le_of_ble_eq_true rfl⟩ ⟨Nat.zero_le _, Nat.zero_le _⟩ dX10_nearest_41 (fun r35 wr35 hw35 => ?_)
  obtain ⟨e_r35, rfl⟩ := hw35
  refine r_ws (I' := [pileB cI cL pl a L h v lie seals folds n f, [(fl, .inr (8, [.ref pl, .ref pl2, .ref hi, .ref tx, .ref u, .ref w, .int taken]))]]) rfl ?_
  refine r_istore (L' := [(6, .int r35), (5, .int 4), (4, .int x31), (3, .int x32), (2, .int r4), (0, .ref fl), (1, .int letter)]) C dX10_nearest_44 (by decide) rfl ?_
  refine r_iload C dX10_nearest_46 1 rfl ?_
  refine r_iload_n C dX10_nearest_48 6 rfl ?_
  suffices K : ∀ x38 : Int32, x38 = ((if (4 : Int32) = letter then (x31) else ((if x31 ≤ r35 then (x31) else (r35))))) → ∀ x39 : Int32, x39 = ((if (4 : Int32) = letter then (x32) else ((if x31 ≤ r35 then (x32) else (4))))) → V p l e (rmm 3 69) s m args below meth c 7 D A 0 0 Q [pileB cI cL pl a L h v lie seals folds n f, [(fl, .inr (8, [.ref pl, .ref pl2, .ref hi, .ref tx, .ref u, .ref w, .int taken]))]] [(6, .int r35), (5, .int 4), (4, .int x38), (3, .int x39), (2, .int r4), (0, .ref fl), (1, .int letter)] 66 [] by
    refine r_icmp_eq (tgt := 66) C dX10_nearest_49 (by decide) (fun c36 => ?_) (fun c36 => ?_)
    · exact K _ (by simp only [if_pos c36]) _ (by simp only [if_pos c36])
    · refine r_iload C dX10_nearest_52 0 rfl ?_
      refine r_iload C dX10_nearest_54 2 rfl ?_
      refine r_icmp_ge (tgt := 66) C dX10_nearest_56 (by decide) (fun c37 => ?_) (fun c37 => ?_)
      · exact K _ (by simp only [if_neg c36, if_pos c37]) _ (by simp only [if_neg c36, if_pos c37])
      · refine r_iload C dX10_nearest_59 1 rfl ?_
        refine r_istore_n (L' := [(3, .int 4), (6, .int r35), (5, .int 4), (4, .int x31), (2, .int r4), (0, .ref fl), (1, .int letter)]) C dX10_nearest_61 (by decide) rfl ?_
        refine r_iload C dX10_nearest_62 1 rfl ?_
        refine r_istore (L' := [(4, .int r35), (3, .int 4), (6, .int r35), (5, .int 4), (2, .int r4), (0, .ref fl), (1, .int letter)]) C dX10_nearest_64 (by decide) rfl ?_
        refine r_L (L' := [(6, .int r35), (5, .int 4), (4, .int r35), (3, .int 4), (2, .int r4), (0, .ref fl), (1, .int letter)]) [2, 3, 0, 1, 4, 5, 6] rfl ?_
        exact K _ (by simp only [if_neg c36, if_neg c37]) _ (by simp only [if_neg c36, if_neg c37])
  intro x38 e_x38 x39 e_x39
  refine r_iinc (v := 5) (L' := [(5, .int 5), (6, .int r35), (4, .int x38), (3, .int x39), (2, .int r4), (0, .ref fl), (1, .int letter)]) C dX10_nearest_66 1 rfl (by decide) (by decide) rfl ?_
  refine r_goto (tgt := 22) C dX10_nearest_69 (by decide) ?_
  refine r_iload C dX10_nearest_22 0 rfl ?_
  refine r_iconst (v := 5) C dX10_nearest_24 (by decide) ?_
  refine r_icmp_ge (tgt := 72) C dX10_nearest_25 (by decide) (fun _ => ?_) (fun c => absurd c (by decide))
  refine r_iload_n C dX10_nearest_72 3 rfl ?_
  refine r_pl (I' := [[(fl, .inr (8, [.ref pl, .ref pl2, .ref hi, .ref tx, .ref u, .ref w, .int taken]))], pileB cI cL pl a L h v lie seals folds n f]) [1, 0] (show ([1, 0] : List Nat).Perm (List.range 2) by decide) rfl ?_
  have eF : F_X10_nearest lie letter = x39 := by have q := e_r4.symm; subst q; have q := e_r6.symm; subst q; have q := e_r7.symm; subst q; have q := e_x10.symm; subst q; have q := e_x11.symm; subst q; have q := e_r13.symm; subst q; have q := e_r14.symm; subst q; have q := e_x17.symm; subst q; have q := e_x18.symm; subst q; have q := e_r20.symm; subst q; have q := e_r21.symm; subst q; have q := e_x24.symm; subst q; have q := e_x25.symm; subst q; have q := e_r27.symm; subst q; have q := e_r28.symm; subst q; have q := e_x31.symm; subst q; have q := e_x32.symm; subst q; have q := e_r34.symm; subst q; have q := e_r35.symm; subst q; have q := e_x38.symm; subst q; have q := e_x39.symm; subst q; rfl
  exact r_iret (r := x39) C hA hr hlo dX10_nearest_73 [[(fl, .inr (8, [.ref pl, .ref pl2, .ref hi, .ref tx, .ref u, .ref w, .int taken]))], pileB cI cL pl a L h v lie seals folds n f] ⟨by simp only [eF], rfl⟩ rfl hQ
theorem k_X10_ways : kV yX10_ways cX10_ways 3 (some .int) 2 := ⟨t_380, t_381, t_7, t_382, by decide +kernel, by decide +kernel, by decide +kernel⟩
set_option maxRecDepth 20000 in
def F_X10_ways (fme : Nat → Int32) (ffo : Nat → Int32) (ffd : Nat → Int32) (kn : Int32) (length : Int32) (what : Int32) : Int32 × (Nat → Int32) × (Nat → Int32) × (Nat → Int32) × Int32 := (if length < 0 then ((0, (fun _ => 0), (fun _ => 0), (fun _ => 0), 0)) else ((if length ≤ 20 then ((if what < 0 then ((0, (fun _ => 0), (fun _ => 0), (fun _ => 0), 0)) else ((if what ≤ 1 then (let x14 : Int32 := (if what = 0 then (let r13 : Int32 := F_X10_waysAsSums length; r13) else (let r7 : Int32 := (F_X9_liesAfter fme ffo ffd kn length).1; r7)); let g15 : Nat → Int32 := (if what = 0 then (fme) else (let g8 : Nat → Int32 := (F_X9_liesAfter fme ffo ffd kn length).2.1; g8)); let g16 : Nat → Int32 := (if what = 0 then (ffo) else (let g9 : Nat → Int32 := (F_X9_liesAfter fme ffo ffd kn length).2.2.1; g9)); let g17 : Nat → Int32 := (if what = 0 then (ffd) else (let g10 : Nat → Int32 := (F_X9_liesAfter fme ffo ffd kn length).2.2.2.1; g10)); let x18 : Int32 := (if what = 0 then (kn) else (let x11 : Int32 := (F_X9_liesAfter fme ffo ffd kn length).2.2.2.2; x11)); (x14, g15, g16, g17, x18)) else ((0, (fun _ => 0), (fun _ => 0), (fun _ => 0), 0)))))) else ((0, (fun _ => 0), (fun _ => 0), (fun _ => 0), 0)))))
set_option maxRecDepth 20000 in
def P_X10_ways (fme : Nat → Int32) (ffo : Nat → Int32) (ffd : Nat → Int32) (kn : Int32) (length : Int32) (what : Int32) : Prop := ((length < 0 → False) ∧ (¬ length < 0 → ((length ≤ 20 → ((what < 0 → False) ∧ (¬ what < 0 → ((what ≤ 1 → ((what = 0 → (P_X10_waysAsSums length)) ∧ (¬ what = 0 → (P_X9_liesAfter fme ffo ffd kn length)))) ∧ (¬ what ≤ 1 → False))))) ∧ (¬ length ≤ 20 → False))))
set_option maxRecDepth 20000 in
set_option maxHeartbeats 8000000 in
theorem m_X10_ways (l : Launch) (D : va_G) (cI cL cP cJ : ClassId) (fl : Nat) (pl : Nat) (pl2 : Nat) (hi : Nat) (tx : Nat) (u : Nat) (w : Nat) (me : Nat) (fo : Nat) (fd : Nat) (fme : Nat → Int32) (ffo : Nat → Int32) (ffd : Nat → Int32) (kn : Int32) (taken : Int32) (length : Int32) (what : Int32) (hp : P_X10_ways fme ffo ffd kn length what) : M vI l yX10_ways cX10_ways 3 (some .int) 5 109 D (tyF cI cL cP cJ) [.ref fl, .int length, .int what] [[(fl, .inr (8, [.ref pl, .ref pl2, .ref hi, .ref tx, .ref u, .ref w, .int taken]))], walB cI w me fo fd fme ffo ffd kn] (fun (r : Int32) (w1 : List va_W) => r = (F_X10_ways fme ffo ffd kn length what).1 ∧ w1 = [[(fl, .inr (8, [.ref pl, .ref pl2, .ref hi, .ref tx, .ref u, .ref w, .int taken]))], walB cI w me fo fd ((F_X10_ways fme ffo ffd kn length what).2.1) ((F_X10_ways fme ffo ffd kn length what).2.2.1) ((F_X10_ways fme ffo ffd kn length what).2.2.2.1) ((F_X10_ways fme ffo ffd kn length what).2.2.2.2)]) := by
  unfold P_X10_ways at hp
  refine m_start (by decide +kernel) (Nat.le_of_ble_eq_true rfl) (fun p e s m args below meth c A Q hA hQ C hr hlo => ?_)
  refine r_Le (L' := [(0, .ref fl), (1, .int length), (2, .int what)]) rfl ?_
  refine r_iload_n C dX10_ways_0 1 rfl ?_
  refine r_if_lt (tgt := 10) C dX10_ways_1 (by decide) (fun c1 => ?_) (fun c1 => ?_)
  · have hp := hp.1 c1
    exact hp.elim
  · have hp := hp.2 c1
    refine r_iload_n C dX10_ways_4 1 rfl ?_
    refine r_bipush (v := 20) C dX10_ways_5 (by decide) ?_
    refine r_icmp_le (tgt := 20) C dX10_ways_7 (by decide) (fun c2 => ?_) (fun c2 => ?_)
    · have hp := hp.1 c2
      refine r_iload_n C dX10_ways_20 2 rfl ?_
      refine r_if_lt (tgt := 29) C dX10_ways_21 (by decide) (fun c3 => ?_) (fun c3 => ?_)
      · have hp := hp.1 c3
        exact hp.elim
      · have hp := hp.2 c3
        refine r_iload_n C dX10_ways_24 2 rfl ?_
        refine r_iconst (v := 1) C dX10_ways_25 (by decide) ?_
        refine r_icmp_le (tgt := 39) C dX10_ways_26 (by decide) (fun c4 => ?_) (fun c4 => ?_)
        · have hp := hp.1 c4
          refine r_iload_n C dX10_ways_39 2 rfl ?_
          have hps := hp
          suffices K : ∀ x14 : Int32, x14 = ((if what = 0 then (let r13 : Int32 := F_X10_waysAsSums length; r13) else (let r7 : Int32 := (F_X9_liesAfter fme ffo ffd kn length).1; r7))) → ∀ g15 : Nat → Int32, g15 = ((if what = 0 then (fme) else (let g8 : Nat → Int32 := (F_X9_liesAfter fme ffo ffd kn length).2.1; g8))) → ∀ g16 : Nat → Int32, g16 = ((if what = 0 then (ffo) else (let g9 : Nat → Int32 := (F_X9_liesAfter fme ffo ffd kn length).2.2.1; g9))) → ∀ g17 : Nat → Int32, g17 = ((if what = 0 then (ffd) else (let g10 : Nat → Int32 := (F_X9_liesAfter fme ffo ffd kn length).2.2.2.1; g10))) → ∀ x18 : Int32, x18 = ((if what = 0 then (kn) else (let x11 : Int32 := (F_X9_liesAfter fme ffo ffd kn length).2.2.2.2; x11))) → V p l e (rmm 5 109) s m args below meth c 3 D A 0 0 Q [walB cI w me fo fd g15 g16 g17 x18, [(fl, .inr (8, [.ref pl, .ref pl2, .ref hi, .ref tx, .ref u, .ref w, .int taken]))]] [(0, .ref fl), (1, .int length), (2, .int what)] 58 [.int x14] by
            have hp := hps
            refine r_if_ne (tgt := 50) C dX10_ways_40 (by decide) (fun c5 => ?_) (fun c5 => ?_)
            · have hp := hp.2 c5
              refine r_aload_n C dX10_ways_50 0 rfl ?_
              refine r_get (Cn := RX10) (T := TX10) (N := 7) C inT10 0 rfl rfl 5 (by decide) t_165 rfl dX10_ways_51 ?_
              refine r_iload_n C dX10_ways_54 1 rfl ?_
              have h6 := hp
              refine r_callV (ci := 7) (wc := [walB cI w me fo fd fme ffo ffd kn]) (wr := [[(fl, .inr (8, [.ref pl, .ref pl2, .ref hi, .ref tx, .ref u, .ref w, .int taken]))]]) (st := []) C (m_X9_liesAfter l D cI cL cP cJ w me fo fd fme ffo ffd kn length h6) k_X9_liesAfter t_388 [1, 0] (show ([1, 0] : List Nat).Perm (List.range 2) by decide) rfl rfl rfl (q0 := 0) rfl rfl rfl (Nat.le_of_ble_eq_true rfl) ⟨Nat.le_of_ble_eq_true rfl, Nat.le_of_ble_eq_true rfl⟩ ⟨Nat.zero_le _, Nat.zero_le _⟩ dX10_ways_55 (fun r7 wr7 hw7 => ?_)
              obtain ⟨e_r7, rfl⟩ := hw7
              obtain ⟨g8, e_g8⟩ : ∃ z : Nat → Int32, z = (F_X9_liesAfter fme ffo ffd kn length).2.1 := ⟨_, rfl⟩
              obtain ⟨g9, e_g9⟩ : ∃ z : Nat → Int32, z = (F_X9_liesAfter fme ffo ffd kn length).2.2.1 := ⟨_, rfl⟩
              obtain ⟨g10, e_g10⟩ : ∃ z : Nat → Int32, z = (F_X9_liesAfter fme ffo ffd kn length).2.2.2.1 := ⟨_, rfl⟩
              obtain ⟨x11, e_x11⟩ : ∃ z : Int32, z = (F_X9_liesAfter fme ffo ffd kn length).2.2.2.2 := ⟨_, rfl⟩
              refine r_ws (I' := [walB cI w me fo fd g8 g9 g10 x11, [(fl, .inr (8, [.ref pl, .ref pl2, .ref hi, .ref tx, .ref u, .ref w, .int taken]))]]) (by rw [e_g8, e_g9, e_g10, e_x11]; rfl) ?_
              exact K _ (by have q := e_r7.symm; subst q; have q := e_g8.symm; subst q; have q := e_g9.symm; subst q; have q := e_g10.symm; subst q; have q := e_x11.symm; subst q; simp only [if_neg c5]) _ (by have q := e_r7.symm; subst q; have q := e_g8.symm; subst q; have q := e_g9.symm; subst q; have q := e_g10.symm; subst q; have q := e_x11.symm; subst q; simp only [if_neg c5]) _ (by have q := e_r7.symm; subst q; have q := e_g8.symm; subst q; have q := e_g9.symm; subst q; have q := e_g10.symm; subst q; have q := e_x11.symm; subst q; simp only [if_neg c5]) _ (by have q := e_r7.symm; subst q; have q := e_g8.symm; subst q; have q := e_g9.symm; subst q; have q := e_g10.symm; subst q; have q := e_x11.symm; subst q; simp only [if_neg c5]) _ (by have q := e_r7.symm; subst q; have q := e_g8.symm; subst q; have q := e_g9.symm; subst q; have q := e_g10.symm; subst q; have q := e_x11.symm; subst q; simp only [if_neg c5])
            · have hp := hp.1 c5
              refine r_iload_n C dX10_ways_43 1 rfl ?_
              have h12 := hp
              refine r_callS (wc := []) (wr := [[(fl, .inr (8, [.ref pl, .ref pl2, .ref hi, .ref tx, .ref u, .ref w, .int taken]))], walB cI w me fo fd fme ffo ffd kn]) (st := []) C (m_X10_waysAsSums l D cI cL cP cJ length h12) k_X10_waysAsSums t_385 [0, 1] (show ([0, 1] : List Nat).Perm (List.range 2) by decide) rfl rfl rfl (Nat.le_of_ble_eq_true rfl) ⟨Nat.le_of_ble_eq_true rfl, Nat.le_of_ble_eq_true rfl⟩ ⟨Nat.zero_le _, Nat.zero_le _⟩ dX10_ways_44 (fun r13 wr13 hw13 => ?_)
              obtain ⟨e_r13, rfl⟩ := hw13
              refine r_ws (I' := [[(fl, .inr (8, [.ref pl, .ref pl2, .ref hi, .ref tx, .ref u, .ref w, .int taken]))], walB cI w me fo fd fme ffo ffd kn]) rfl ?_
              refine r_goto (tgt := 58) C dX10_ways_47 (by decide) ?_
              refine r_pl (I' := [walB cI w me fo fd fme ffo ffd kn, [(fl, .inr (8, [.ref pl, .ref pl2, .ref hi, .ref tx, .ref u, .ref w, .int taken]))]]) [1, 0] (show ([1, 0] : List Nat).Perm (List.range 2) by decide) rfl ?_
              exact K _ (by have q := e_r13.symm; subst q; simp only [if_pos c5]) _ (by have q := e_r13.symm; subst q; simp only [if_pos c5]) _ (by have q := e_r13.symm; subst q; simp only [if_pos c5]) _ (by have q := e_r13.symm; subst q; simp only [if_pos c5]) _ (by have q := e_r13.symm; subst q; simp only [if_pos c5])
          intro x14 e_x14 g15 e_g15 g16 e_g16 g17 e_g17 x18 e_x18
          refine r_pl (I' := [[(fl, .inr (8, [.ref pl, .ref pl2, .ref hi, .ref tx, .ref u, .ref w, .int taken]))], walB cI w me fo fd g15 g16 g17 x18]) [1, 0] (show ([1, 0] : List Nat).Perm (List.range 2) by decide) rfl ?_
          have eF : F_X10_ways fme ffo ffd kn length what = (x14, g15, g16, g17, x18) := by have q := e_x14.symm; subst q; have q := e_g15.symm; subst q; have q := e_g16.symm; subst q; have q := e_g17.symm; subst q; have q := e_x18.symm; subst q; simp only [F_X10_ways, if_neg c1, if_pos c2, if_neg c3, if_pos c4]
          exact r_iret (r := x14) C hA hr hlo dX10_ways_58 [[(fl, .inr (8, [.ref pl, .ref pl2, .ref hi, .ref tx, .ref u, .ref w, .int taken]))], walB cI w me fo fd g15 g16 g17 x18] ⟨by simp only [eF], by simp only [eF]⟩ rfl hQ
        · have hp := hp.2 c4
          exact hp.elim
    · have hp := hp.2 c2
      exact hp.elim
theorem k_X10_pressed : kV yX10_pressed cX10_pressed 2 (some .double) 0 := ⟨t_501, t_502, t_7, t_503, by decide +kernel, by decide +kernel, by decide +kernel⟩
set_option maxRecDepth 20000 in
def F_X10_pressed (lie : Nat → Int32) (seals : Nat → Int32) (folds : Nat → Int32) (n : Nat → Int32) : UInt64 := let r2 : Int32 := F_X4_together lie seals folds n 2; let g7 : UInt64 := (if r2 = 0 then (FP.dconst1) else (let r5 : Int32 := F_X4_together lie seals folds n 0; FP.ddiv (FP.i2d r5) (FP.i2d r2))); g7
set_option maxRecDepth 20000 in
def P_X10_pressed (lie : Nat → Int32) (seals : Nat → Int32) (folds : Nat → Int32) (n : Nat → Int32) : Prop := ((P_X4_together lie seals folds n 2) ∧ (∀ r2 : Int32, r2 = F_X4_together lie seals folds n 2 → ((r2 = 0 → True) ∧ (¬ r2 = 0 → ((P_X4_together lie seals folds n 0) ∧ (∀ r5 : Int32, r5 = F_X4_together lie seals folds n 0 → (vf_n64 (FP.ddiv (FP.i2d r5) (FP.i2d r2)))))))))
set_option maxRecDepth 20000 in
set_option maxHeartbeats 8000000 in
theorem m_X10_pressed (l : Launch) (D : va_G) (cI cL cP cJ : ClassId) (fl : Nat) (pl : Nat) (a : Nat) (L : Nat → Nat) (h : Nat → Nat) (v : Nat → Nat) (lie : Nat → Int32) (seals : Nat → Int32) (folds : Nat → Int32) (n : Nat → Int32) (f : Nat → Nat → Int32) (pl2 : Nat) (hi : Nat) (tx : Nat) (u : Nat) (w : Nat) (taken : Int32) (hp : P_X10_pressed lie seals folds n) : M vD l yX10_pressed cX10_pressed 2 (some .double) 6 131 D (tyF cI cL cP cJ) [.ref fl] [[(fl, .inr (8, [.ref pl, .ref pl2, .ref hi, .ref tx, .ref u, .ref w, .int taken]))], pileB cI cL pl a L h v lie seals folds n f] (fun (r : UInt64) (w1 : List va_W) => r = (F_X10_pressed lie seals folds n) ∧ w1 = [[(fl, .inr (8, [.ref pl, .ref pl2, .ref hi, .ref tx, .ref u, .ref w, .int taken]))], pileB cI cL pl a L h v lie seals folds n f]) := by
  unfold P_X10_pressed at hp
  refine m_start (by decide +kernel) (Nat.le_of_ble_eq_true rfl) (fun p e s m args below meth c A Q hA hQ C hr hlo => ?_)
  refine r_Le (L' := [(0, .ref fl)]) rfl ?_
  refine r_aload_n C dX10_pressed_0 0 rfl ?_
  refine r_get (Cn := RX10) (T := TX10) (N := 7) C inT10 0 rfl rfl 0 (by decide) t_160 rfl dX10_pressed_1 ?_
  refine r_iconst (v := 2) C dX10_pressed_4 (by decide) ?_
  obtain ⟨h1, hp⟩ := hp
  refine r_callV (ci := 2) (wc := [pileB cI cL pl a L h v lie seals folds n f]) (wr := [[(fl, .inr (8, [.ref pl, .ref pl2, .ref hi, .ref tx, .ref u, .ref w, .int taken]))]]) (st := []) C (m_X4_together l D cI cL cP cJ pl a L h v lie seals folds n f 2 h1) k_X4_together t_185 [1, 0] (show ([1, 0] : List Nat).Perm (List.range 2) by decide) rfl rfl rfl (q0 := 0) rfl rfl rfl (Nat.le_of_ble_eq_true rfl) ⟨Nat.le_of_ble_eq_true rfl, Nat.le_of_ble_eq_true rfl⟩ ⟨Nat.zero_le _, Nat.zero_le _⟩ dX10_pressed_5 (fun r2 wr2 hw2 => ?_)
  obtain ⟨e_r2, rfl⟩ := hw2
  have hp := hp r2 e_r2
  refine r_ws (I' := [pileB cI cL pl a L h v lie seals folds n f, [(fl, .inr (8, [.ref pl, .ref pl2, .ref hi, .ref tx, .ref u, .ref w, .int taken]))]]) rfl ?_
  refine r_istore_n (L' := [(1, .int r2), (0, .ref fl)]) C dX10_pressed_8 (by decide) rfl ?_
  refine r_iload_n C dX10_pressed_9 0 rfl ?_
  have hps := hp
  suffices K : ∀ g7 : UInt64, g7 = ((if r2 = 0 then (FP.dconst1) else (let r5 : Int32 := F_X4_together lie seals folds n 0; FP.ddiv (FP.i2d r5) (FP.i2d r2)))) → V p l e (rmm 6 131) s m args below meth c 2 D A 0 0 Q [pileB cI cL pl a L h v lie seals folds n f, [(fl, .inr (8, [.ref pl, .ref pl2, .ref hi, .ref tx, .ref u, .ref w, .int taken]))]] [(1, .int r2), (0, .ref fl)] 29 [.double g7] by
    have hp := hps
    refine r_if_ne (tgt := 17) C dX10_pressed_10 (by decide) (fun c3 => ?_) (fun c3 => ?_)
    · have hp := hp.2 c3
      refine r_aload_n C dX10_pressed_17 1 rfl ?_
      refine r_get (Cn := RX10) (T := TX10) (N := 7) C inT10 1 rfl rfl 0 (by decide) t_160 rfl dX10_pressed_18 ?_
      refine r_iconst (v := 0) C dX10_pressed_21 (by decide) ?_
      obtain ⟨h4, hp⟩ := hp
      refine r_callV (ci := 2) (wc := [pileB cI cL pl a L h v lie seals folds n f]) (wr := [[(fl, .inr (8, [.ref pl, .ref pl2, .ref hi, .ref tx, .ref u, .ref w, .int taken]))]]) (st := []) C (m_X4_together l D cI cL cP cJ pl a L h v lie seals folds n f 0 h4) k_X4_together t_185 [0, 1] (show ([0, 1] : List Nat).Perm (List.range 2) by decide) rfl rfl rfl (q0 := 0) rfl rfl rfl (Nat.le_of_ble_eq_true rfl) ⟨Nat.le_of_ble_eq_true rfl, Nat.le_of_ble_eq_true rfl⟩ ⟨Nat.zero_le _, Nat.zero_le _⟩ dX10_pressed_22 (fun r5 wr5 hw5 => ?_)
      obtain ⟨e_r5, rfl⟩ := hw5
      have hp := hp r5 e_r5
      refine r_ws (I' := [pileB cI cL pl a L h v lie seals folds n f, [(fl, .inr (8, [.ref pl, .ref pl2, .ref hi, .ref tx, .ref u, .ref w, .int taken]))]]) rfl ?_
      refine r_i2d C dX10_pressed_25 ?_
      refine r_iload_n C dX10_pressed_26 0 rfl ?_
      refine r_i2d C dX10_pressed_27 ?_
      have h6 := hp
      refine r_ddiv C dX10_pressed_28 h6 ?_
      exact K _ (by have q := e_r5.symm; subst q; simp only [if_neg c3])
    · refine r_dconst1 C dX10_pressed_13 ?_
      refine r_goto (tgt := 29) C dX10_pressed_14 (by decide) ?_
      exact K _ (by simp only [if_pos c3])
  intro g7 e_g7
  refine r_pl (I' := [[(fl, .inr (8, [.ref pl, .ref pl2, .ref hi, .ref tx, .ref u, .ref w, .int taken]))], pileB cI cL pl a L h v lie seals folds n f]) [1, 0] (show ([1, 0] : List Nat).Perm (List.range 2) by decide) rfl ?_
  have eF : F_X10_pressed lie seals folds n = g7 := by have q := e_r2.symm; subst q; have q := e_g7.symm; subst q; rfl
  exact r_dret (r := g7) C hA hr hlo dX10_pressed_29 [[(fl, .inr (8, [.ref pl, .ref pl2, .ref hi, .ref tx, .ref u, .ref w, .int taken]))], pileB cI cL pl a L h v lie seals folds n f] ⟨by simp only [eF], rfl⟩ rfl hQ
theorem k_X10_meanLength : kV yX10_meanLength cX10_meanLength 1 (some .float) 0 := ⟨t_505, t_506, t_7, t_507, by decide +kernel, by decide +kernel, by decide +kernel⟩
set_option maxRecDepth 20000 in
def F_X10_meanLength (lie : Nat → Int32) (seals : Nat → Int32) (folds : Nat → Int32) (n : Nat → Int32) : UInt32 := let r2 : Int32 := F_X4_together lie seals folds n 0; FP.fdiv (FP.i2f r2) 1084227584
set_option maxRecDepth 20000 in
def P_X10_meanLength (lie : Nat → Int32) (seals : Nat → Int32) (folds : Nat → Int32) (n : Nat → Int32) : Prop := ((P_X4_together lie seals folds n 0) ∧ (∀ r2 : Int32, r2 = F_X4_together lie seals folds n 0 → (vf_n32 (FP.fdiv (FP.i2f r2) 1084227584))))
set_option maxRecDepth 20000 in
set_option maxHeartbeats 8000000 in
theorem m_X10_meanLength (l : Launch) (D : va_G) (cI cL cP cJ : ClassId) (fl : Nat) (pl : Nat) (a : Nat) (L : Nat → Nat) (h : Nat → Nat) (v : Nat → Nat) (lie : Nat → Int32) (seals : Nat → Int32) (folds : Nat → Int32) (n : Nat → Int32) (f : Nat → Nat → Int32) (pl2 : Nat) (hi : Nat) (tx : Nat) (u : Nat) (w : Nat) (taken : Int32) (hp : P_X10_meanLength lie seals folds n) : M vF l yX10_meanLength cX10_meanLength 1 (some .float) 6 131 D (tyF cI cL cP cJ) [.ref fl] [[(fl, .inr (8, [.ref pl, .ref pl2, .ref hi, .ref tx, .ref u, .ref w, .int taken]))], pileB cI cL pl a L h v lie seals folds n f] (fun (r : UInt32) (w1 : List va_W) => r = (F_X10_meanLength lie seals folds n) ∧ w1 = [[(fl, .inr (8, [.ref pl, .ref pl2, .ref hi, .ref tx, .ref u, .ref w, .int taken]))], pileB cI cL pl a L h v lie seals folds n f]) := by
  unfold P_X10_meanLength at hp
  refine m_start (by decide +kernel) (Nat.le_of_ble_eq_true rfl) (fun p e s m args below meth c A Q hA hQ C hr hlo => ?_)
  refine r_Le (L' := [(0, .ref fl)]) rfl ?_
  refine r_aload_n C dX10_meanLength_0 0 rfl ?_
  refine r_get (Cn := RX10) (T := TX10) (N := 7) C inT10 0 rfl rfl 0 (by decide) t_160 rfl dX10_meanLength_1 ?_
  refine r_iconst (v := 0) C dX10_meanLength_4 (by decide) ?_
  obtain ⟨h1, hp⟩ := hp
  refine r_callV (ci := 2) (wc := [pileB cI cL pl a L h v lie seals folds n f]) (wr := [[(fl, .inr (8, [.ref pl, .ref pl2, .ref hi, .ref tx, .ref u, .ref w, .int taken]))]]) (st := []) C (m_X4_together l D cI cL cP cJ pl a L h v lie seals folds n f 0 h1) k_X4_together t_185 [1, 0] (show ([1, 0] : List Nat).Perm (List.range 2) by decide) rfl rfl rfl (q0 := 0) rfl rfl rfl (Nat.le_of_ble_eq_true rfl) ⟨Nat.le_of_ble_eq_true rfl, Nat.le_of_ble_eq_true rfl⟩ ⟨Nat.zero_le _, Nat.zero_le _⟩ dX10_meanLength_5 (fun r2 wr2 hw2 => ?_)
  obtain ⟨e_r2, rfl⟩ := hw2
  have hp := hp r2 e_r2
  refine r_ws (I' := [pileB cI cL pl a L h v lie seals folds n f, [(fl, .inr (8, [.ref pl, .ref pl2, .ref hi, .ref tx, .ref u, .ref w, .int taken]))]]) rfl ?_
  refine r_i2f C dX10_meanLength_8 ?_
  refine r_ldcf (v := 1084227584) C t_508 dX10_meanLength_9 ?_
  have h3 := hp
  refine r_fdiv C dX10_meanLength_11 h3 ?_
  refine r_pl (I' := [[(fl, .inr (8, [.ref pl, .ref pl2, .ref hi, .ref tx, .ref u, .ref w, .int taken]))], pileB cI cL pl a L h v lie seals folds n f]) [1, 0] (show ([1, 0] : List Nat).Perm (List.range 2) by decide) rfl ?_
  have eF : F_X10_meanLength lie seals folds n = FP.fdiv (FP.i2f r2) 1084227584 := by have q := e_r2.symm; subst q; rfl
  exact r_fret (r := FP.fdiv (FP.i2f r2) 1084227584) C hA hr hlo dX10_meanLength_12 [[(fl, .inr (8, [.ref pl, .ref pl2, .ref hi, .ref tx, .ref u, .ref w, .int taken]))], pileB cI cL pl a L h v lie seals folds n f] ⟨by simp only [eF], rfl⟩ rfl hQ

def PX_X4_atB_1 (index : Int32) : Prop := ((index < 0 → True) ∧ (¬ index < 0 → (¬ index < 5)))
set_option maxRecDepth 20000 in
set_option maxHeartbeats 8000000 in
theorem mx_X4_atB_1 (l : Launch) (D : va_G) (cI cL cP cJ : ClassId) (pl : Nat) (a : Nat) (L : Nat → Nat) (h : Nat → Nat) (v : Nat → Nat) (lie : Nat → Int32) (seals : Nat → Int32) (folds : Nat → Int32) (n : Nat → Int32) (f : Nat → Nat → Int32) (index : Int32) (hp : PX_X4_atB_1 index) : MX l yX4_at cX4_at 2 (some (.object "FoldedLetters$Letter")) 6 98 D (tyF cI cL cP cJ) [.ref pl, .int index] [pileB cI cL pl a L h v lie seals folds n f] [pileB cI cL pl a L h v lie seals folds n f] "java/lang/IndexOutOfBoundsException" := by
  unfold PX_X4_atB_1 at hp
  refine mx_start (by decide +kernel) (Nat.le_of_ble_eq_true rfl) (fun p e s m args below meth c A Q hA hQ C X => ?_)
  refine r_Le (L' := [(0, .ref pl), (1, .int index)]) rfl ?_
  refine r_iload_n C dX4_at_0 1 rfl ?_
  refine r_if_lt (tgt := 13) C dX4_at_1 (by decide) (fun c1 => ?_) (fun c1 => ?_)
  · exact r_throw (E := "java/lang/IndexOutOfBoundsException") (text := "there is no such letter") (w1 := [pileB cI cL pl a L h v lie seals folds n f]) C X hA t_294 t_71 (by decide) (by decide) xa_1 xb_1 xg_1 xf_1 xf_0 dX4_at_13 dX4_at_16 dX4_at_17 dX4_at_19 dX4_at_22 ⟨Nat.le_of_ble_eq_true rfl, Nat.le_of_ble_eq_true rfl, Nat.le_of_ble_eq_true rfl, Nat.le_of_ble_eq_true rfl⟩ (Nat.le_of_ble_eq_true rfl) rfl hQ
  · have hp := hp.2 c1
    refine r_iload_n C dX4_at_4 1 rfl ?_
    refine r_aload_n C dX4_at_5 0 rfl ?_
    refine r_ws (I' := [[(pl, .inr (2, [.ref a]))], [(a, .inl (cL, 5, .inr (.inr (.inr (.inr (rfs L))))))], letB cI (L 0) (h 0) (v 0) (lie 0) (seals 0) (folds 0) (n 0) (f 0), letB cI (L 1) (h 1) (v 1) (lie 1) (seals 1) (folds 1) (n 1) (f 1), letB cI (L 2) (h 2) (v 2) (lie 2) (seals 2) (folds 2) (n 2) (f 2), letB cI (L 3) (h 3) (v 3) (lie 3) (seals 3) (folds 3) (n 3) (f 3), letB cI (L 4) (h 4) (v 4) (lie 4) (seals 4) (folds 4) (n 4) (f 4)]) rfl ?_
    refine r_get (Cn := RX4) (T := TX4) (N := 1) C inT4 0 rfl rfl 0 (by decide) t_128 rfl dX4_at_6 ?_
    refine r_alen (v := 5) C 1 1 rfl rfl rfl dX4_at_9 ?_
    refine r_icmp_lt (tgt := 23) C dX4_at_10 (by decide) (fun c2 => ?_) (fun c2 => ?_)
    · exact absurd c2 hp
    · refine r_ws (I' := [pileB cI cL pl a L h v lie seals folds n f]) rfl ?_
      exact r_throw (E := "java/lang/IndexOutOfBoundsException") (text := "there is no such letter") (w1 := [pileB cI cL pl a L h v lie seals folds n f]) C X hA t_294 t_71 (by decide) (by decide) xa_1 xb_1 xg_1 xf_1 xf_0 dX4_at_13 dX4_at_16 dX4_at_17 dX4_at_19 dX4_at_22 ⟨Nat.le_of_ble_eq_true rfl, Nat.le_of_ble_eq_true rfl, Nat.le_of_ble_eq_true rfl, Nat.le_of_ble_eq_true rfl⟩ (Nat.le_of_ble_eq_true rfl) rfl hQ
def PX_X10_needCrease_1 (crease : Int32) : Prop := ((crease < 0 → True) ∧ (¬ crease < 0 → (¬ crease < 4)))
set_option maxRecDepth 20000 in
set_option maxHeartbeats 8000000 in
theorem mx_X10_needCrease_1 (l : Launch) (D : va_G) (cI cL cP cJ : ClassId) (crease : Int32) (hp : PX_X10_needCrease_1 crease) : MX l yX10_needCrease cX10_needCrease 1 none 6 98 D (tyF cI cL cP cJ) [.int crease] [] [] "java/lang/IndexOutOfBoundsException" := by
  unfold PX_X10_needCrease_1 at hp
  refine mx_start (by decide +kernel) (Nat.le_of_ble_eq_true rfl) (fun p e s m args below meth c A Q hA hQ C X => ?_)
  refine r_Le (L' := [(0, .int crease)]) rfl ?_
  refine r_iload_n C dX10_needCrease_0 0 rfl ?_
  refine r_if_lt (tgt := 9) C dX10_needCrease_1 (by decide) (fun c1 => ?_) (fun c1 => ?_)
  · exact r_throwW (E := "java/lang/IndexOutOfBoundsException") (text := "there is no such crease") (w1 := []) C X hA t_529 t_71 (by decide) (by decide) xa_2 xb_2 xg_2 xf_1 xf_0 dX10_needCrease_9 dX10_needCrease_12 dX10_needCrease_13 dX10_needCrease_16 dX10_needCrease_19 ⟨Nat.le_of_ble_eq_true rfl, Nat.le_of_ble_eq_true rfl, Nat.le_of_ble_eq_true rfl, Nat.le_of_ble_eq_true rfl⟩ (Nat.le_of_ble_eq_true rfl) rfl hQ
  · have hp := hp.2 c1
    refine r_iload_n C dX10_needCrease_4 0 rfl ?_
    refine r_iconst (v := 4) C dX10_needCrease_5 (by decide) ?_
    refine r_icmp_lt (tgt := 20) C dX10_needCrease_6 (by decide) (fun c2 => ?_) (fun c2 => ?_)
    · exact absurd c2 hp
    · exact r_throwW (E := "java/lang/IndexOutOfBoundsException") (text := "there is no such crease") (w1 := []) C X hA t_529 t_71 (by decide) (by decide) xa_2 xb_2 xg_2 xf_1 xf_0 dX10_needCrease_9 dX10_needCrease_12 dX10_needCrease_13 dX10_needCrease_16 dX10_needCrease_19 ⟨Nat.le_of_ble_eq_true rfl, Nat.le_of_ble_eq_true rfl, Nat.le_of_ble_eq_true rfl, Nat.le_of_ble_eq_true rfl⟩ (Nat.le_of_ble_eq_true rfl) rfl hQ
def PX_X10_needPosition_1 (position : Int32) : Prop := ((position < 0 → True) ∧ (¬ position < 0 → (¬ position < 4)))
set_option maxRecDepth 20000 in
set_option maxHeartbeats 8000000 in
theorem mx_X10_needPosition_1 (l : Launch) (D : va_G) (cI cL cP cJ : ClassId) (position : Int32) (hp : PX_X10_needPosition_1 position) : MX l yX10_needPosition cX10_needPosition 1 none 6 98 D (tyF cI cL cP cJ) [.int position] [] [] "java/lang/IndexOutOfBoundsException" := by
  unfold PX_X10_needPosition_1 at hp
  refine mx_start (by decide +kernel) (Nat.le_of_ble_eq_true rfl) (fun p e s m args below meth c A Q hA hQ C X => ?_)
  refine r_Le (L' := [(0, .int position)]) rfl ?_
  refine r_iload_n C dX10_needPosition_0 0 rfl ?_
  refine r_if_lt (tgt := 9) C dX10_needPosition_1 (by decide) (fun c1 => ?_) (fun c1 => ?_)
  · exact r_throwW (E := "java/lang/IndexOutOfBoundsException") (text := "there is no such position") (w1 := []) C X hA t_529 t_71 (by decide) (by decide) xa_2 xb_2 xg_2 xf_1 xf_0 dX10_needPosition_9 dX10_needPosition_12 dX10_needPosition_13 dX10_needPosition_16 dX10_needPosition_19 ⟨Nat.le_of_ble_eq_true rfl, Nat.le_of_ble_eq_true rfl, Nat.le_of_ble_eq_true rfl, Nat.le_of_ble_eq_true rfl⟩ (Nat.le_of_ble_eq_true rfl) rfl hQ
  · have hp := hp.2 c1
    refine r_iload_n C dX10_needPosition_4 0 rfl ?_
    refine r_iconst (v := 4) C dX10_needPosition_5 (by decide) ?_
    refine r_icmp_lt (tgt := 20) C dX10_needPosition_6 (by decide) (fun c2 => ?_) (fun c2 => ?_)
    · exact absurd c2 hp
    · exact r_throwW (E := "java/lang/IndexOutOfBoundsException") (text := "there is no such position") (w1 := []) C X hA t_529 t_71 (by decide) (by decide) xa_2 xb_2 xg_2 xf_1 xf_0 dX10_needPosition_9 dX10_needPosition_12 dX10_needPosition_13 dX10_needPosition_16 dX10_needPosition_19 ⟨Nat.le_of_ble_eq_true rfl, Nat.le_of_ble_eq_true rfl, Nat.le_of_ble_eq_true rfl, Nat.le_of_ble_eq_true rfl⟩ (Nat.le_of_ble_eq_true rfl) rfl hQ
def PX_X10_needPlace_1 (place : Int32) : Prop := (¬ 0 ≤ place)
set_option maxRecDepth 20000 in
set_option maxHeartbeats 8000000 in
theorem mx_X10_needPlace_1 (l : Launch) (D : va_G) (cI cL cP cJ : ClassId) (place : Int32) (hp : PX_X10_needPlace_1 place) : MX l yX10_needPlace cX10_needPlace 1 none 6 98 D (tyF cI cL cP cJ) [.int place] [] [] "java/lang/IndexOutOfBoundsException" := by
  unfold PX_X10_needPlace_1 at hp
  refine mx_start (by decide +kernel) (Nat.le_of_ble_eq_true rfl) (fun p e s m args below meth c A Q hA hQ C X => ?_)
  refine r_Le (L' := [(0, .int place)]) rfl ?_
  refine r_iload_n C dX10_needPlace_0 0 rfl ?_
  refine r_if_ge (tgt := 15) C dX10_needPlace_1 (by decide) (fun c1 => ?_) (fun c1 => ?_)
  · exact absurd c1 hp
  · exact r_throwW (E := "java/lang/IndexOutOfBoundsException") (text := "the place is below 0") (w1 := []) C X hA t_529 t_71 (by decide) (by decide) xa_2 xb_2 xg_2 xf_1 xf_0 dX10_needPlace_4 dX10_needPlace_7 dX10_needPlace_8 dX10_needPlace_11 dX10_needPlace_14 ⟨Nat.le_of_ble_eq_true rfl, Nat.le_of_ble_eq_true rfl, Nat.le_of_ble_eq_true rfl, Nat.le_of_ble_eq_true rfl⟩ (Nat.le_of_ble_eq_true rfl) rfl hQ
set_option maxRecDepth 20000 in
def FX_X10_needWord_2 (nt : Int32) (ft : Nat → Int32) : Int32 × Int32 := let r2 : Int32 := (F_X7_isWord nt ft).1; let x3 : Int32 := (F_X7_isWord nt ft).2.1; let x4 : Int32 := (F_X7_isWord nt ft).2.2; (if r2 = 0 then ((x3, x4)) else ((0, 0)))
def PX_X10_needWord_2 (nt : Int32) (ft : Nat → Int32) : Prop := ((P_X7_isWord nt ft) ∧ (∀ r2 : Int32, r2 = (F_X7_isWord nt ft).1 → (∀ x3 : Int32, x3 = (F_X7_isWord nt ft).2.1 → (∀ x4 : Int32, x4 = (F_X7_isWord nt ft).2.2 → (r2 = 0)))))
set_option maxRecDepth 20000 in
set_option maxHeartbeats 8000000 in
theorem mx_X10_needWord_2 (l : Launch) (D : va_G) (cI cL cP cJ : ClassId) (fl : Nat) (pl : Nat) (pl2 : Nat) (hi : Nat) (tx : Nat) (ht : Nat) (vt : Nat) (rd : Nat) (nt : Int32) (ft : Nat → Int32) (opnt : Int32) (want : Int32) (u : Nat) (w : Nat) (taken : Int32) (hp : PX_X10_needWord_2 nt ft) : MX l yX10_needWord cX10_needWord 1 none 6 98 D (tyF cI cL cP cJ) [.ref fl] [[(fl, .inr (8, [.ref pl, .ref pl2, .ref hi, .ref tx, .ref u, .ref w, .int taken]))], txtB cI tx ht vt rd nt ft opnt want] [[(fl, .inr (8, [.ref pl, .ref pl2, .ref hi, .ref tx, .ref u, .ref w, .int taken]))], txtB cI tx ht vt rd nt ft ((FX_X10_needWord_2 nt ft).1) ((FX_X10_needWord_2 nt ft).2)] "java/lang/IllegalArgumentException" := by
  unfold PX_X10_needWord_2 at hp
  refine mx_start (by decide +kernel) (Nat.le_of_ble_eq_true rfl) (fun p e s m args below meth c A Q hA hQ C X => ?_)
  refine r_Le (L' := [(0, .ref fl)]) rfl ?_
  refine r_aload_n C dX10_needWord_0 0 rfl ?_
  refine r_get (Cn := RX10) (T := TX10) (N := 7) C inT10 0 rfl rfl 3 (by decide) t_222 rfl dX10_needWord_1 ?_
  obtain ⟨h1, hp⟩ := hp
  refine r_callV (ci := 5) (wc := [txtB cI tx ht vt rd nt ft opnt want]) (wr := [[(fl, .inr (8, [.ref pl, .ref pl2, .ref hi, .ref tx, .ref u, .ref w, .int taken]))]]) (st := []) C (m_X7_isWord l D cI cL cP cJ tx ht vt rd nt ft opnt want h1) k_X7_isWord t_672 [1, 0] (show ([1, 0] : List Nat).Perm (List.range 2) by decide) rfl rfl rfl (q0 := 0) rfl rfl rfl (Nat.le_of_ble_eq_true rfl) ⟨Nat.le_of_ble_eq_true rfl, Nat.le_of_ble_eq_true rfl⟩ ⟨Nat.zero_le _, Nat.zero_le _⟩ dX10_needWord_4 (fun r2 wr2 hw2 => ?_)
  obtain ⟨e_r2, rfl⟩ := hw2
  have hp := hp r2 e_r2
  obtain ⟨x3, e_x3⟩ : ∃ z : Int32, z = (F_X7_isWord nt ft).2.1 := ⟨_, rfl⟩
  have hp := hp x3 e_x3
  obtain ⟨x4, e_x4⟩ : ∃ z : Int32, z = (F_X7_isWord nt ft).2.2 := ⟨_, rfl⟩
  have hp := hp x4 e_x4
  refine r_ws (I' := [txtB cI tx ht vt rd nt ft x3 x4, [(fl, .inr (8, [.ref pl, .ref pl2, .ref hi, .ref tx, .ref u, .ref w, .int taken]))]]) (by rw [e_x3, e_x4]; rfl) ?_
  refine r_if_ne (tgt := 21) C dX10_needWord_7 (by decide) (fun c5 => ?_) (fun c5 => ?_)
  · exact absurd hp c5
  · refine r_pl (I' := [[(fl, .inr (8, [.ref pl, .ref pl2, .ref hi, .ref tx, .ref u, .ref w, .int taken]))], txtB cI tx ht vt rd nt ft x3 x4]) [1, 0] (show ([1, 0] : List Nat).Perm (List.range 2) by decide) rfl ?_
    have eF : FX_X10_needWord_2 nt ft = (x3, x4) := by have q := e_r2.symm; subst q; have q := e_x3.symm; subst q; have q := e_x4.symm; subst q; simp only [FX_X10_needWord_2, if_pos c5]
    exact r_throwW (E := "java/lang/IllegalArgumentException") (text := "the buffer is not a complete word") (w1 := [[(fl, .inr (8, [.ref pl, .ref pl2, .ref hi, .ref tx, .ref u, .ref w, .int taken]))], txtB cI tx ht vt rd nt ft ((FX_X10_needWord_2 nt ft).1) ((FX_X10_needWord_2 nt ft).2)]) C X hA t_497 t_75 (by decide) (by decide) xa_3 xb_3 xg_3 xf_2 xf_0 dX10_needWord_10 dX10_needWord_13 dX10_needWord_14 dX10_needWord_17 dX10_needWord_20 ⟨Nat.le_of_ble_eq_true rfl, Nat.le_of_ble_eq_true rfl, Nat.le_of_ble_eq_true rfl, Nat.le_of_ble_eq_true rfl⟩ (Nat.le_of_ble_eq_true rfl) (by simp only [eF]) hQ

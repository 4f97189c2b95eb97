theorem k_X11_fold : kV yX11_fold cX11_fold 4 (some .int) 2 := ⟨t_953, t_954, t_67, t_955, by decide +kernel, by decide +kernel, by decide +kernel⟩
set_option maxRecDepth 20000 in
def F_X11_fold (known : Int32) (fS : Nat → Int32) (fPast : Nat → Int32) (fOne : Nat → Int32) (letter : Int32) (crease : Int32) : Int32 × Int32 × Int32 × (Nat → Int32) × (Nat → Int32) × (Nat → Int32) := let r1 : Int32 := F_X11_isLetter letter; let x5 : Int32 := (if r1 = 0 then (0) else (let r3 : Int32 := F_X11_in crease 0 3; (if r3 = 0 then (0) else (1)))); let x10 : Int32 := (if x5 = 0 then (1) else (let r8 : Int32 := F_X11_reason fS letter crease; (if r8 ≤ 0 then (0) else (2)))); let r11 : Int32 := (F_X11_throwsAt x10).1; let x12 : Int32 := (F_X11_throwsAt x10).2; (if r11 = 0 then (let x16 : Int32 := (F_X11_saves known fS fPast).1; let g17 : Nat → Int32 := (F_X11_saves known fS fPast).2; let g20 : Nat → Int32 := (F_X11_folds fS fOne letter crease).1; let g21 : Nat → Int32 := (F_X11_folds fS fOne letter crease).2; let r23 : Int32 := (F_X11_lengthOf g20 g21 letter).1; let g24 : Nat → Int32 := (F_X11_lengthOf g20 g21 letter).2; (r23, x16, x12, g20, g17, g24)) else ((0, known, x12, fS, fPast, fOne)))
set_option maxRecDepth 20000 in
def P_X11_fold (known : Int32) (fS : Nat → Int32) (fPast : Nat → Int32) (fOne : Nat → Int32) (letter : Int32) (crease : Int32) : Prop := (∀ r1 : Int32, r1 = F_X11_isLetter letter → (∀ x5 : Int32, x5 = ((if r1 = 0 then (0) else (let r3 : Int32 := F_X11_in crease 0 3; (if r3 = 0 then (0) else (1))))) → (((x5 = 0 → True) ∧ (¬ x5 = 0 → (P_X11_reason fS letter))) ∧ (∀ x10 : Int32, x10 = ((if x5 = 0 then (1) else (let r8 : Int32 := F_X11_reason fS letter crease; (if r8 ≤ 0 then (0) else (2))))) → (∀ r11 : Int32, r11 = (F_X11_throwsAt x10).1 → (∀ x12 : Int32, x12 = (F_X11_throwsAt x10).2 → ((r11 = 0 → ((P_X11_saves known fS fPast) ∧ (∀ x16 : Int32, x16 = (F_X11_saves known fS fPast).1 → (∀ g17 : Nat → Int32, g17 = (F_X11_saves known fS fPast).2 → ((P_X11_folds fS fOne letter crease) ∧ (∀ g20 : Nat → Int32, g20 = (F_X11_folds fS fOne letter crease).1 → (∀ g21 : Nat → Int32, g21 = (F_X11_folds fS fOne letter crease).2 → (P_X11_lengthOf g20 g21 letter)))))))) ∧ (¬ r11 = 0 → True))))))))
set_option maxRecDepth 20000 in
set_option maxHeartbeats 8000000 in
theorem m_X11_fold (l : Launch) (D : va_G) (cI cL cP cJ : ClassId) (o : Nat) (aS : Nat) (aPast : Nat) (aSnap : Nat) (aText : Nat) (aOne : Nat) (aTwo : Nat) (aBoth : Nat) (aWord : Nat) (aOpen : Nat) (aTimes : Nat) (aFar : Nat) (aQueue : Nat) (known : Int32) (kept : Int32) (len : Int32) (thr : Int32) (cre : Int32) (hash : Int64) (fS : Nat → Int32) (fPast : Nat → Int32) (fOne : Nat → Int32) (letter : Int32) (crease : Int32) (hp : P_X11_fold known fS fPast fOne letter crease) : M vI l yX11_fold cX11_fold 4 (some .int) 4 88 D (tyF cI cL cP cJ) [.ref o, .int letter, .int crease] [[(o, .inr (9, [.ref aS, .ref aPast, .int known, .ref aSnap, .int kept, .ref aText, .int len, .int thr, .ref aOne, .ref aTwo, .ref aBoth, .ref aWord, .int cre, .ref aOpen, .ref aTimes, .ref aFar, .ref aQueue, .long hash]))], [(aS, .inl (cI, 335, .inl fS))], [(aPast, .inl (cI, 2010, .inl fPast))], [(aOne, .inl (cI, 4, .inl fOne))]] (fun (r : Int32) (w1 : List va_W) => r = (F_X11_fold known fS fPast fOne letter crease).1 ∧ w1 = [[(o, .inr (9, [.ref aS, .ref aPast, .int ((F_X11_fold known fS fPast fOne letter crease).2.1), .ref aSnap, .int kept, .ref aText, .int len, .int ((F_X11_fold known fS fPast fOne letter crease).2.2.1), .ref aOne, .ref aTwo, .ref aBoth, .ref aWord, .int cre, .ref aOpen, .ref aTimes, .ref aFar, .ref aQueue, .long hash]))], [(aS, .inl (cI, 335, .inl ((F_X11_fold known fS fPast fOne letter crease).2.2.2.1)))], [(aPast, .inl (cI, 2010, .inl ((F_X11_fold known fS fPast fOne letter crease).2.2.2.2.1)))], [(aOne, .inl (cI, 4, .inl ((F_X11_fold known fS fPast fOne letter crease).2.2.2.2.2)))]]) := by
  unfold P_X11_fold at hp
  refine m_start (by decide +kernel) (Nat.le_of_ble_eq_true rfl) (fun p e s m args below meth c A Q hA hQ C hr hlo => ?_)
  refine r_Le (L' := [(0, .ref o), (1, .int letter), (2, .int crease)]) rfl ?_
  refine r_iload_n C dX11_fold_0 1 rfl ?_
  refine r_callS (wc := []) (wr := [[(o, .inr (9, [.ref aS, .ref aPast, .int known, .ref aSnap, .int kept, .ref aText, .int len, .int thr, .ref aOne, .ref aTwo, .ref aBoth, .ref aWord, .int cre, .ref aOpen, .ref aTimes, .ref aFar, .ref aQueue, .long hash]))], [(aS, .inl (cI, 335, .inl fS))], [(aPast, .inl (cI, 2010, .inl fPast))], [(aOne, .inl (cI, 4, .inl fOne))]]) (st := []) C (m_X11_isLetter l D cI cL cP cJ letter) k_X11_isLetter t_956 [0, 1, 2, 3] (show ([0, 1, 2, 3] : List Nat).Perm (List.range 4) by decide) rfl rfl rfl (Nat.le_of_ble_eq_true rfl) ⟨Nat.le_of_ble_eq_true rfl, Nat.le_of_ble_eq_true rfl⟩ ⟨Nat.zero_le _, Nat.zero_le _⟩ dX11_fold_1 (fun r1 wr1 hw1 => ?_)
  obtain ⟨e_r1, rfl⟩ := hw1
  have hp := hp r1 e_r1
  refine r_ws (I' := [[(o, .inr (9, [.ref aS, .ref aPast, .int known, .ref aSnap, .int kept, .ref aText, .int len, .int thr, .ref aOne, .ref aTwo, .ref aBoth, .ref aWord, .int cre, .ref aOpen, .ref aTimes, .ref aFar, .ref aQueue, .long hash]))], [(aS, .inl (cI, 335, .inl fS))], [(aPast, .inl (cI, 2010, .inl fPast))], [(aOne, .inl (cI, 4, .inl fOne))]]) rfl ?_
  suffices K : ∀ x5 : Int32, x5 = ((if r1 = 0 then (0) else (let r3 : Int32 := F_X11_in crease 0 3; (if r3 = 0 then (0) else (1))))) → V p l e (rmm 4 88) s m args below meth c 4 D A 0 0 Q [[(o, .inr (9, [.ref aS, .ref aPast, .int known, .ref aSnap, .int kept, .ref aText, .int len, .int thr, .ref aOne, .ref aTwo, .ref aBoth, .ref aWord, .int cre, .ref aOpen, .ref aTimes, .ref aFar, .ref aQueue, .long hash]))], [(aS, .inl (cI, 335, .inl fS))], [(aPast, .inl (cI, 2010, .inl fPast))], [(aOne, .inl (cI, 4, .inl fOne))]] [(0, .ref o), (1, .int letter), (2, .int crease)] 21 [.int x5] by
    refine r_if_eq (tgt := 20) C dX11_fold_4 (by decide) (fun c2 => ?_) (fun c2 => ?_)
    · refine r_iconst (v := 0) C dX11_fold_20 (by decide) ?_
      exact K _ (by simp only [if_pos c2])
    · refine r_iload_n C dX11_fold_7 2 rfl ?_
      refine r_iconst (v := 0) C dX11_fold_8 (by decide) ?_
      refine r_iconst (v := 3) C dX11_fold_9 (by decide) ?_
      refine r_callS (wc := []) (wr := [[(o, .inr (9, [.ref aS, .ref aPast, .int known, .ref aSnap, .int kept, .ref aText, .int len, .int thr, .ref aOne, .ref aTwo, .ref aBoth, .ref aWord, .int cre, .ref aOpen, .ref aTimes, .ref aFar, .ref aQueue, .long hash]))], [(aS, .inl (cI, 335, .inl fS))], [(aPast, .inl (cI, 2010, .inl fPast))], [(aOne, .inl (cI, 4, .inl fOne))]]) (st := []) C (m_X11_in l D cI cL cP cJ crease 0 3) k_X11_in t_959 [0, 1, 2, 3] (show ([0, 1, 2, 3] : List Nat).Perm (List.range 4) by decide) rfl rfl rfl (Nat.le_of_ble_eq_true rfl) ⟨Nat.le_of_ble_eq_true rfl, Nat.le_of_ble_eq_true rfl⟩ ⟨Nat.zero_le _, Nat.zero_le _⟩ dX11_fold_10 (fun r3 wr3 hw3 => ?_)
      obtain ⟨e_r3, rfl⟩ := hw3
      refine r_ws (I' := [[(o, .inr (9, [.ref aS, .ref aPast, .int known, .ref aSnap, .int kept, .ref aText, .int len, .int thr, .ref aOne, .ref aTwo, .ref aBoth, .ref aWord, .int cre, .ref aOpen, .ref aTimes, .ref aFar, .ref aQueue, .long hash]))], [(aS, .inl (cI, 335, .inl fS))], [(aPast, .inl (cI, 2010, .inl fPast))], [(aOne, .inl (cI, 4, .inl fOne))]]) rfl ?_
      refine r_if_eq (tgt := 20) C dX11_fold_13 (by decide) (fun c4 => ?_) (fun c4 => ?_)
      · refine r_iconst (v := 0) C dX11_fold_20 (by decide) ?_
        exact K _ (by have q := e_r3.symm; subst q; simp only [if_neg c2, if_pos c4])
      · refine r_iconst (v := 1) C dX11_fold_16 (by decide) ?_
        refine r_goto (tgt := 21) C dX11_fold_17 (by decide) ?_
        exact K _ (by have q := e_r3.symm; subst q; simp only [if_neg c2, if_neg c4])
  intro x5 e_x5
  have hp := hp x5 e_x5
  refine r_istore_n (L' := [(3, .int x5), (0, .ref o), (1, .int letter), (2, .int crease)]) C dX11_fold_21 (by decide) rfl ?_
  refine r_aload_n C dX11_fold_22 1 rfl ?_
  refine r_iload_n C dX11_fold_23 0 rfl ?_
  obtain ⟨hps, hp⟩ := hp
  suffices K : ∀ x10 : Int32, x10 = ((if x5 = 0 then (1) else (let r8 : Int32 := F_X11_reason fS letter crease; (if r8 ≤ 0 then (0) else (2))))) → V p l e (rmm 4 88) s m args below meth c 4 D A 0 0 Q [[(o, .inr (9, [.ref aS, .ref aPast, .int known, .ref aSnap, .int kept, .ref aText, .int len, .int thr, .ref aOne, .ref aTwo, .ref aBoth, .ref aWord, .int cre, .ref aOpen, .ref aTimes, .ref aFar, .ref aQueue, .long hash]))], [(aS, .inl (cI, 335, .inl fS))], [(aPast, .inl (cI, 2010, .inl fPast))], [(aOne, .inl (cI, 4, .inl fOne))]] [(3, .int x5), (0, .ref o), (1, .int letter), (2, .int crease)] 45 [.int x10, .ref o] by
    have hp := hps
    refine r_if_ne (tgt := 31) C dX11_fold_24 (by decide) (fun c6 => ?_) (fun c6 => ?_)
    · have hp := hp.2 c6
      refine r_aload_n C dX11_fold_31 1 rfl ?_
      refine r_iload_n C dX11_fold_32 2 rfl ?_
      refine r_iload_n C dX11_fold_33 3 rfl ?_
      have h7 := hp
      refine r_callV (ci := 9) (wc := [[(o, .inr (9, [.ref aS, .ref aPast, .int known, .ref aSnap, .int kept, .ref aText, .int len, .int thr, .ref aOne, .ref aTwo, .ref aBoth, .ref aWord, .int cre, .ref aOpen, .ref aTimes, .ref aFar, .ref aQueue, .long hash]))], [(aS, .inl (cI, 335, .inl fS))]]) (wr := [[(aPast, .inl (cI, 2010, .inl fPast))], [(aOne, .inl (cI, 4, .inl fOne))]]) (st := [.ref o]) C (m_X11_reason l D cI cL cP cJ o aS aPast aSnap aText aOne aTwo aBoth aWord aOpen aTimes aFar aQueue known kept len thr cre hash fS letter crease h7) k_X11_reason t_962 [0, 1, 2, 3] (show ([0, 1, 2, 3] : List Nat).Perm (List.range 4) by decide) rfl rfl rfl (q0 := 0) rfl rfl rfl (Nat.le_of_ble_eq_true rfl) ⟨Nat.le_of_ble_eq_true rfl, Nat.le_of_ble_eq_true rfl⟩ ⟨Nat.zero_le _, Nat.zero_le _⟩ dX11_fold_34 (fun r8 wr8 hw8 => ?_)
      obtain ⟨e_r8, rfl⟩ := hw8
      refine r_ws (I' := [[(o, .inr (9, [.ref aS, .ref aPast, .int known, .ref aSnap, .int kept, .ref aText, .int len, .int thr, .ref aOne, .ref aTwo, .ref aBoth, .ref aWord, .int cre, .ref aOpen, .ref aTimes, .ref aFar, .ref aQueue, .long hash]))], [(aS, .inl (cI, 335, .inl fS))], [(aPast, .inl (cI, 2010, .inl fPast))], [(aOne, .inl (cI, 4, .inl fOne))]]) rfl ?_
      refine r_if_le (tgt := 44) C dX11_fold_37 (by decide) (fun c9 => ?_) (fun c9 => ?_)
      · refine r_iconst (v := 0) C dX11_fold_44 (by decide) ?_
        exact K _ (by have q := e_r8.symm; subst q; simp only [if_neg c6, if_pos c9])
      · refine r_iconst (v := 2) C dX11_fold_40 (by decide) ?_
        refine r_goto (tgt := 45) C dX11_fold_41 (by decide) ?_
        exact K _ (by have q := e_r8.symm; subst q; simp only [if_neg c6, if_neg c9])
    · refine r_iconst (v := 1) C dX11_fold_27 (by decide) ?_
      refine r_goto (tgt := 45) C dX11_fold_28 (by decide) ?_
      exact K _ (by simp only [if_pos c6])
  intro x10 e_x10
  have hp := hp x10 e_x10
  refine r_callV (ci := 9) (wc := [[(o, .inr (9, [.ref aS, .ref aPast, .int known, .ref aSnap, .int kept, .ref aText, .int len, .int thr, .ref aOne, .ref aTwo, .ref aBoth, .ref aWord, .int cre, .ref aOpen, .ref aTimes, .ref aFar, .ref aQueue, .long hash]))]]) (wr := [[(aS, .inl (cI, 335, .inl fS))], [(aPast, .inl (cI, 2010, .inl fPast))], [(aOne, .inl (cI, 4, .inl fOne))]]) (st := []) C (m_X11_throwsAt l D cI cL cP cJ o aS aPast aSnap aText aOne aTwo aBoth aWord aOpen aTimes aFar aQueue known kept len thr cre hash x10) k_X11_throwsAt t_974 [0, 1, 2, 3] (show ([0, 1, 2, 3] : List Nat).Perm (List.range 4) by decide) rfl rfl rfl (q0 := 0) rfl rfl rfl (Nat.le_of_ble_eq_true rfl) ⟨Nat.le_of_ble_eq_true rfl, Nat.le_of_ble_eq_true rfl⟩ ⟨Nat.zero_le _, Nat.zero_le _⟩ dX11_fold_45 (fun r11 wr11 hw11 => ?_)
  obtain ⟨e_r11, rfl⟩ := hw11
  have hp := hp r11 e_r11
  obtain ⟨x12, e_x12⟩ : ∃ z : Int32, z = (F_X11_throwsAt x10).2 := ⟨_, rfl⟩
  have hp := hp x12 e_x12
  refine r_ws (I' := [[(o, .inr (9, [.ref aS, .ref aPast, .int known, .ref aSnap, .int kept, .ref aText, .int len, .int x12, .ref aOne, .ref aTwo, .ref aBoth, .ref aWord, .int cre, .ref aOpen, .ref aTimes, .ref aFar, .ref aQueue, .long hash]))], [(aS, .inl (cI, 335, .inl fS))], [(aPast, .inl (cI, 2010, .inl fPast))], [(aOne, .inl (cI, 4, .inl fOne))]]) (by rw [e_x12]; rfl) ?_
  refine r_if_eq (tgt := 53) C dX11_fold_48 (by decide) (fun c13 => ?_) (fun c13 => ?_)
  · have hp := hp.1 c13
    refine r_aload_n C dX11_fold_53 1 rfl ?_
    obtain ⟨h14, hp⟩ := hp
    refine r_callV (ci := 9) (wc := [[(o, .inr (9, [.ref aS, .ref aPast, .int known, .ref aSnap, .int kept, .ref aText, .int len, .int x12, .ref aOne, .ref aTwo, .ref aBoth, .ref aWord, .int cre, .ref aOpen, .ref aTimes, .ref aFar, .ref aQueue, .long hash]))], [(aS, .inl (cI, 335, .inl fS))], [(aPast, .inl (cI, 2010, .inl fPast))]]) (wr := [[(aOne, .inl (cI, 4, .inl fOne))]]) (st := []) C (m_X11_saves l D cI cL cP cJ o aS aPast aSnap aText aOne aTwo aBoth aWord aOpen aTimes aFar aQueue known kept len x12 cre hash fS fPast h14) k_X11_saves t_978 [0, 1, 2, 3] (show ([0, 1, 2, 3] : List Nat).Perm (List.range 4) by decide) rfl rfl rfl (q0 := 0) rfl rfl rfl (Nat.le_of_ble_eq_true rfl) ⟨Nat.le_of_ble_eq_true rfl, Nat.le_of_ble_eq_true rfl⟩ ⟨Nat.zero_le _, Nat.zero_le _⟩ dX11_fold_54 (fun r15 wr15 hw15 => ?_)
    obtain rfl := hw15
    obtain ⟨x16, e_x16⟩ : ∃ z : Int32, z = (F_X11_saves known fS fPast).1 := ⟨_, rfl⟩
    have hp := hp x16 e_x16
    obtain ⟨g17, e_g17⟩ : ∃ z : Nat → Int32, z = (F_X11_saves known fS fPast).2 := ⟨_, rfl⟩
    have hp := hp g17 e_g17
    refine r_ws (I' := [[(o, .inr (9, [.ref aS, .ref aPast, .int x16, .ref aSnap, .int kept, .ref aText, .int len, .int x12, .ref aOne, .ref aTwo, .ref aBoth, .ref aWord, .int cre, .ref aOpen, .ref aTimes, .ref aFar, .ref aQueue, .long hash]))], [(aS, .inl (cI, 335, .inl fS))], [(aPast, .inl (cI, 2010, .inl g17))], [(aOne, .inl (cI, 4, .inl fOne))]]) (by rw [e_x16, e_g17]; rfl) ?_
    refine r_aload_n C dX11_fold_57 1 rfl ?_
    refine r_iload_n C dX11_fold_58 2 rfl ?_
    refine r_iload_n C dX11_fold_59 3 rfl ?_
    obtain ⟨h18, hp⟩ := hp
    refine r_callV (ci := 9) (wc := [[(o, .inr (9, [.ref aS, .ref aPast, .int x16, .ref aSnap, .int kept, .ref aText, .int len, .int x12, .ref aOne, .ref aTwo, .ref aBoth, .ref aWord, .int cre, .ref aOpen, .ref aTimes, .ref aFar, .ref aQueue, .long hash]))], [(aS, .inl (cI, 335, .inl fS))], [(aOne, .inl (cI, 4, .inl fOne))]]) (wr := [[(aPast, .inl (cI, 2010, .inl g17))]]) (st := []) C (m_X11_folds l D cI cL cP cJ o aS aPast aSnap aText aOne aTwo aBoth aWord aOpen aTimes aFar aQueue x16 kept len x12 cre hash fS fOne letter crease h18) k_X11_folds t_982 [0, 1, 3, 2] (show ([0, 1, 3, 2] : List Nat).Perm (List.range 4) by decide) rfl rfl rfl (q0 := 0) rfl rfl rfl (Nat.le_of_ble_eq_true rfl) ⟨Nat.le_of_ble_eq_true rfl, Nat.le_of_ble_eq_true rfl⟩ ⟨Nat.zero_le _, Nat.zero_le _⟩ dX11_fold_60 (fun r19 wr19 hw19 => ?_)
    obtain rfl := hw19
    obtain ⟨g20, e_g20⟩ : ∃ z : Nat → Int32, z = (F_X11_folds fS fOne letter crease).1 := ⟨_, rfl⟩
    have hp := hp g20 e_g20
    obtain ⟨g21, e_g21⟩ : ∃ z : Nat → Int32, z = (F_X11_folds fS fOne letter crease).2 := ⟨_, rfl⟩
    have hp := hp g21 e_g21
    refine r_ws (I' := [[(o, .inr (9, [.ref aS, .ref aPast, .int x16, .ref aSnap, .int kept, .ref aText, .int len, .int x12, .ref aOne, .ref aTwo, .ref aBoth, .ref aWord, .int cre, .ref aOpen, .ref aTimes, .ref aFar, .ref aQueue, .long hash]))], [(aS, .inl (cI, 335, .inl g20))], [(aOne, .inl (cI, 4, .inl g21))], [(aPast, .inl (cI, 2010, .inl g17))]]) (by rw [e_g20, e_g21]; rfl) ?_
    refine r_aload_n C dX11_fold_63 1 rfl ?_
    refine r_iload_n C dX11_fold_64 2 rfl ?_
    have h22 := hp
    refine r_callV (ci := 9) (wc := [[(o, .inr (9, [.ref aS, .ref aPast, .int x16, .ref aSnap, .int kept, .ref aText, .int len, .int x12, .ref aOne, .ref aTwo, .ref aBoth, .ref aWord, .int cre, .ref aOpen, .ref aTimes, .ref aFar, .ref aQueue, .long hash]))], [(aS, .inl (cI, 335, .inl g20))], [(aOne, .inl (cI, 4, .inl g21))]]) (wr := [[(aPast, .inl (cI, 2010, .inl g17))]]) (st := []) C (m_X11_lengthOf l D cI cL cP cJ o aS aPast aSnap aText aOne aTwo aBoth aWord aOpen aTimes aFar aQueue x16 kept len x12 cre hash g20 g21 letter h22) k_X11_lengthOf t_1002 [0, 1, 2, 3] (show ([0, 1, 2, 3] : List Nat).Perm (List.range 4) by decide) rfl rfl rfl (q0 := 0) rfl rfl rfl (Nat.le_of_ble_eq_true rfl) ⟨Nat.le_of_ble_eq_true rfl, Nat.le_of_ble_eq_true rfl⟩ ⟨Nat.zero_le _, Nat.zero_le _⟩ dX11_fold_65 (fun r23 wr23 hw23 => ?_)
    obtain ⟨e_r23, rfl⟩ := hw23
    obtain ⟨g24, e_g24⟩ : ∃ z : Nat → Int32, z = (F_X11_lengthOf g20 g21 letter).2 := ⟨_, rfl⟩
    refine r_ws (I' := [[(o, .inr (9, [.ref aS, .ref aPast, .int x16, .ref aSnap, .int kept, .ref aText, .int len, .int x12, .ref aOne, .ref aTwo, .ref aBoth, .ref aWord, .int cre, .ref aOpen, .ref aTimes, .ref aFar, .ref aQueue, .long hash]))], [(aS, .inl (cI, 335, .inl g20))], [(aOne, .inl (cI, 4, .inl g24))], [(aPast, .inl (cI, 2010, .inl g17))]]) (by rw [e_g24]; rfl) ?_
    refine r_pl (I' := [[(o, .inr (9, [.ref aS, .ref aPast, .int x16, .ref aSnap, .int kept, .ref aText, .int len, .int x12, .ref aOne, .ref aTwo, .ref aBoth, .ref aWord, .int cre, .ref aOpen, .ref aTimes, .ref aFar, .ref aQueue, .long hash]))], [(aS, .inl (cI, 335, .inl g20))], [(aPast, .inl (cI, 2010, .inl g17))], [(aOne, .inl (cI, 4, .inl g24))]]) [0, 1, 3, 2] (show ([0, 1, 3, 2] : List Nat).Perm (List.range 4) by decide) rfl ?_
    have eF : F_X11_fold known fS fPast fOne letter crease = (r23, x16, x12, g20, g17, g24) := by have q := e_r1.symm; subst q; have q := e_x5.symm; subst q; have q := e_x10.symm; subst q; have q := e_r11.symm; subst q; have q := e_x12.symm; subst q; have q := e_x16.symm; subst q; have q := e_g17.symm; subst q; have q := e_g20.symm; subst q; have q := e_g21.symm; subst q; have q := e_r23.symm; subst q; have q := e_g24.symm; subst q; simp only [F_X11_fold, if_pos c13]
    exact r_iret (r := r23) C hA hr hlo dX11_fold_68 [[(o, .inr (9, [.ref aS, .ref aPast, .int x16, .ref aSnap, .int kept, .ref aText, .int len, .int x12, .ref aOne, .ref aTwo, .ref aBoth, .ref aWord, .int cre, .ref aOpen, .ref aTimes, .ref aFar, .ref aQueue, .long hash]))], [(aS, .inl (cI, 335, .inl g20))], [(aPast, .inl (cI, 2010, .inl g17))], [(aOne, .inl (cI, 4, .inl g24))]] ⟨by simp only [eF], by simp only [eF]⟩ rfl hQ
  · refine r_iconst (v := 0) C dX11_fold_51 (by decide) ?_
    have eF : F_X11_fold known fS fPast fOne letter crease = (0, known, x12, fS, fPast, fOne) := by have q := e_r1.symm; subst q; have q := e_x5.symm; subst q; have q := e_x10.symm; subst q; have q := e_r11.symm; subst q; have q := e_x12.symm; subst q; simp only [F_X11_fold, if_neg c13]
    exact r_iret (r := 0) C hA hr hlo dX11_fold_52 [[(o, .inr (9, [.ref aS, .ref aPast, .int known, .ref aSnap, .int kept, .ref aText, .int len, .int x12, .ref aOne, .ref aTwo, .ref aBoth, .ref aWord, .int cre, .ref aOpen, .ref aTimes, .ref aFar, .ref aQueue, .long hash]))], [(aS, .inl (cI, 335, .inl fS))], [(aPast, .inl (cI, 2010, .inl fPast))], [(aOne, .inl (cI, 4, .inl fOne))]] ⟨by simp only [eF], by simp only [eF]⟩ rfl hQ
theorem k_X11_unfold : kV yX11_unfold cX11_unfold 3 (some .int) 1 := ⟨t_1011, t_1012, t_67, t_1013, by decide +kernel, by decide +kernel, by decide +kernel⟩
set_option maxRecDepth 20000 in
def F_X11_unfold (known : Int32) (fS : Nat → Int32) (fPast : Nat → Int32) (fOne : Nat → Int32) (letter : Int32) : Int32 × Int32 × Int32 × (Nat → Int32) × (Nat → Int32) × (Nat → Int32) := let r1 : Int32 := F_X11_isLetter letter; let x10 : Int32 := (if r1 = 0 then ((-1)) else (let r4 : Int32 := F_X11_its fS letter 4; (if r4 ≤ 0 then ((-1)) else (let r7 : Int32 := F_X11_its fS letter 4; let r9 : Int32 := F_X11_its fS letter (((7 : Int32) + r7) - 1); r9)))); let r11 : Int32 := F_X11_isLetter letter; let x17 : Int32 := (if r11 = 0 then (1) else ((if x10 < 0 then (2) else (let r15 : Int32 := F_X11_touches fS letter x10; (if r15 = 0 then (0) else (2)))))); let r18 : Int32 := (F_X11_throwsAt x17).1; let x19 : Int32 := (F_X11_throwsAt x17).2; (if r18 = 0 then (let x23 : Int32 := (F_X11_saves known fS fPast).1; let g24 : Nat → Int32 := (F_X11_saves known fS fPast).2; let g27 : Nat → Int32 := (F_X11_turnsOver fS fOne letter x10).1; let g28 : Nat → Int32 := (F_X11_turnsOver fS fOne letter x10).2; let x30 : Int32 := (g27 (((67 : Int32) * letter) + 4).toNatClampNeg) - 1; let g32 : Nat → Int32 := upd g27 ((((67 : Int32) * letter) + 4).toNatClampNeg) x30; (x10, x23, x19, g32, g24, g28)) else ((0, known, x19, fS, fPast, fOne)))
set_option maxRecDepth 20000 in
def P_X11_unfold (known : Int32) (fS : Nat → Int32) (fPast : Nat → Int32) (fOne : Nat → Int32) (letter : Int32) : Prop := (∀ r1 : Int32, r1 = F_X11_isLetter letter → (((r1 = 0 → True) ∧ (¬ r1 = 0 → ((P_X11_its letter 4) ∧ (∀ r4 : Int32, r4 = F_X11_its fS letter 4 → ((r4 ≤ 0 → True) ∧ (¬ r4 ≤ 0 → ((P_X11_its letter 4) ∧ (∀ r7 : Int32, r7 = F_X11_its fS letter 4 → (P_X11_its letter (((7 : Int32) + r7) - 1)))))))))) ∧ (∀ x10 : Int32, x10 = ((if r1 = 0 then ((-1)) else (let r4 : Int32 := F_X11_its fS letter 4; (if r4 ≤ 0 then ((-1)) else (let r7 : Int32 := F_X11_its fS letter 4; let r9 : Int32 := F_X11_its fS letter (((7 : Int32) + r7) - 1); r9))))) → (∀ r11 : Int32, r11 = F_X11_isLetter letter → (((r11 = 0 → True) ∧ (¬ r11 = 0 → ((x10 < 0 → True) ∧ (¬ x10 < 0 → (P_X11_touches letter))))) ∧ (∀ x17 : Int32, x17 = ((if r11 = 0 then (1) else ((if x10 < 0 then (2) else (let r15 : Int32 := F_X11_touches fS letter x10; (if r15 = 0 then (0) else (2))))))) → (∀ r18 : Int32, r18 = (F_X11_throwsAt x17).1 → (∀ x19 : Int32, x19 = (F_X11_throwsAt x17).2 → ((r18 = 0 → ((P_X11_saves known fS fPast) ∧ (∀ x23 : Int32, x23 = (F_X11_saves known fS fPast).1 → (∀ g24 : Nat → Int32, g24 = (F_X11_saves known fS fPast).2 → ((P_X11_turnsOver fS fOne letter x10) ∧ (∀ g27 : Nat → Int32, g27 = (F_X11_turnsOver fS fOne letter x10).1 → (∀ g28 : Nat → Int32, g28 = (F_X11_turnsOver fS fOne letter x10).2 → ((vp_in (((67 : Int32) * letter) + 4) 335) ∧ (∀ x30 : Int32, x30 = (g27 (((67 : Int32) * letter) + 4).toNatClampNeg) - 1 → (vp_in (((67 : Int32) * letter) + 4) 335)))))))))) ∧ (¬ r18 = 0 → True))))))))))
set_option maxRecDepth 20000 in
set_option maxHeartbeats 8000000 in
theorem m_X11_unfold (l : Launch) (D : va_G) (cI cL cP cJ : ClassId) (o : Nat) (aS : Nat) (aPast : Nat) (aSnap : Nat) (aText : Nat) (aOne : Nat) (aTwo : Nat) (aBoth : Nat) (aWord : Nat) (aOpen : Nat) (aTimes : Nat) (aFar : Nat) (aQueue : Nat) (known : Int32) (kept : Int32) (len : Int32) (thr : Int32) (cre : Int32) (hash : Int64) (fS : Nat → Int32) (fPast : Nat → Int32) (fOne : Nat → Int32) (letter : Int32) (hp : P_X11_unfold known fS fPast fOne letter) : M vI l yX11_unfold cX11_unfold 3 (some .int) 3 66 D (tyF cI cL cP cJ) [.ref o, .int letter] [[(o, .inr (9, [.ref aS, .ref aPast, .int known, .ref aSnap, .int kept, .ref aText, .int len, .int thr, .ref aOne, .ref aTwo, .ref aBoth, .ref aWord, .int cre, .ref aOpen, .ref aTimes, .ref aFar, .ref aQueue, .long hash]))], [(aS, .inl (cI, 335, .inl fS))], [(aPast, .inl (cI, 2010, .inl fPast))], [(aOne, .inl (cI, 4, .inl fOne))]] (fun (r : Int32) (w1 : List va_W) => r = (F_X11_unfold known fS fPast fOne letter).1 ∧ w1 = [[(o, .inr (9, [.ref aS, .ref aPast, .int ((F_X11_unfold known fS fPast fOne letter).2.1), .ref aSnap, .int kept, .ref aText, .int len, .int ((F_X11_unfold known fS fPast fOne letter).2.2.1), .ref aOne, .ref aTwo, .ref aBoth, .ref aWord, .int cre, .ref aOpen, .ref aTimes, .ref aFar, .ref aQueue, .long hash]))], [(aS, .inl (cI, 335, .inl ((F_X11_unfold known fS fPast fOne letter).2.2.2.1)))], [(aPast, .inl (cI, 2010, .inl ((F_X11_unfold known fS fPast fOne letter).2.2.2.2.1)))], [(aOne, .inl (cI, 4, .inl ((F_X11_unfold known fS fPast fOne letter).2.2.2.2.2)))]]) := by
  unfold P_X11_unfold at hp
  refine m_start (by decide +kernel) (Nat.le_of_ble_eq_true rfl) (fun p e s m args below meth c A Q hA hQ C hr hlo => ?_)
  refine r_Le (L' := [(0, .ref o), (1, .int letter)]) rfl ?_
  refine r_iload_n C dX11_unfold_0 1 rfl ?_
  refine r_callS (wc := []) (wr := [[(o, .inr (9, [.ref aS, .ref aPast, .int known, .ref aSnap, .int kept, .ref aText, .int len, .int thr, .ref aOne, .ref aTwo, .ref aBoth, .ref aWord, .int cre, .ref aOpen, .ref aTimes, .ref aFar, .ref aQueue, .long hash]))], [(aS, .inl (cI, 335, .inl fS))], [(aPast, .inl (cI, 2010, .inl fPast))], [(aOne, .inl (cI, 4, .inl fOne))]]) (st := []) C (m_X11_isLetter l D cI cL cP cJ letter) k_X11_isLetter t_956 [0, 1, 2, 3] (show ([0, 1, 2, 3] : List Nat).Perm (List.range 4) by decide) rfl rfl rfl (Nat.le_of_ble_eq_true rfl) ⟨Nat.le_of_ble_eq_true rfl, Nat.le_of_ble_eq_true rfl⟩ ⟨Nat.zero_le _, Nat.zero_le _⟩ dX11_unfold_1 (fun r1 wr1 hw1 => ?_)
  obtain ⟨e_r1, rfl⟩ := hw1
  have hp := hp r1 e_r1
  refine r_ws (I' := [[(o, .inr (9, [.ref aS, .ref aPast, .int known, .ref aSnap, .int kept, .ref aText, .int len, .int thr, .ref aOne, .ref aTwo, .ref aBoth, .ref aWord, .int cre, .ref aOpen, .ref aTimes, .ref aFar, .ref aQueue, .long hash]))], [(aS, .inl (cI, 335, .inl fS))], [(aPast, .inl (cI, 2010, .inl fPast))], [(aOne, .inl (cI, 4, .inl fOne))]]) rfl ?_
  obtain ⟨hps, hp⟩ := hp
  suffices K : ∀ x10 : Int32, x10 = ((if r1 = 0 then ((-1)) else (let r4 : Int32 := F_X11_its fS letter 4; (if r4 ≤ 0 then ((-1)) else (let r7 : Int32 := F_X11_its fS letter 4; let r9 : Int32 := F_X11_its fS letter (((7 : Int32) + r7) - 1); r9))))) → V p l e (rmm 3 66) s m args below meth c 3 D A 0 0 Q [[(o, .inr (9, [.ref aS, .ref aPast, .int known, .ref aSnap, .int kept, .ref aText, .int len, .int thr, .ref aOne, .ref aTwo, .ref aBoth, .ref aWord, .int cre, .ref aOpen, .ref aTimes, .ref aFar, .ref aQueue, .long hash]))], [(aS, .inl (cI, 335, .inl fS))], [(aPast, .inl (cI, 2010, .inl fPast))], [(aOne, .inl (cI, 4, .inl fOne))]] [(0, .ref o), (1, .int letter)] 36 [.int x10] by
    have hp := hps
    refine r_if_eq (tgt := 35) C dX11_unfold_4 (by decide) (fun c2 => ?_) (fun c2 => ?_)
    · refine r_iconst (v := (-1)) C dX11_unfold_35 (by decide) ?_
      exact K _ (by simp only [if_pos c2])
    · have hp := hp.2 c2
      refine r_aload_n C dX11_unfold_7 0 rfl ?_
      refine r_iload_n C dX11_unfold_8 1 rfl ?_
      refine r_iconst (v := 4) C dX11_unfold_9 (by decide) ?_
      obtain ⟨h3, hp⟩ := hp
      refine r_callV (ci := 9) (wc := [[(o, .inr (9, [.ref aS, .ref aPast, .int known, .ref aSnap, .int kept, .ref aText, .int len, .int thr, .ref aOne, .ref aTwo, .ref aBoth, .ref aWord, .int cre, .ref aOpen, .ref aTimes, .ref aFar, .ref aQueue, .long hash]))], [(aS, .inl (cI, 335, .inl fS))]]) (wr := [[(aPast, .inl (cI, 2010, .inl fPast))], [(aOne, .inl (cI, 4, .inl fOne))]]) (st := []) C (m_X11_its l D cI cL cP cJ o aS aPast aSnap aText aOne aTwo aBoth aWord aOpen aTimes aFar aQueue known kept len thr cre hash fS letter 4 h3) k_X11_its t_966 [0, 1, 2, 3] (show ([0, 1, 2, 3] : List Nat).Perm (List.range 4) by decide) rfl rfl rfl (q0 := 0) rfl rfl rfl (Nat.le_of_ble_eq_true rfl) ⟨Nat.le_of_ble_eq_true rfl, Nat.le_of_ble_eq_true rfl⟩ ⟨Nat.zero_le _, Nat.zero_le _⟩ dX11_unfold_10 (fun r4 wr4 hw4 => ?_)
      obtain ⟨e_r4, rfl⟩ := hw4
      have hp := hp r4 e_r4
      refine r_ws (I' := [[(o, .inr (9, [.ref aS, .ref aPast, .int known, .ref aSnap, .int kept, .ref aText, .int len, .int thr, .ref aOne, .ref aTwo, .ref aBoth, .ref aWord, .int cre, .ref aOpen, .ref aTimes, .ref aFar, .ref aQueue, .long hash]))], [(aS, .inl (cI, 335, .inl fS))], [(aPast, .inl (cI, 2010, .inl fPast))], [(aOne, .inl (cI, 4, .inl fOne))]]) rfl ?_
      refine r_if_le (tgt := 35) C dX11_unfold_13 (by decide) (fun c5 => ?_) (fun c5 => ?_)
      · refine r_iconst (v := (-1)) C dX11_unfold_35 (by decide) ?_
        exact K _ (by have q := e_r4.symm; subst q; simp only [if_neg c2, if_pos c5])
      · have hp := hp.2 c5
        refine r_aload_n C dX11_unfold_16 0 rfl ?_
        refine r_iload_n C dX11_unfold_17 1 rfl ?_
        refine r_bipush (v := 7) C dX11_unfold_18 (by decide) ?_
        refine r_aload_n C dX11_unfold_20 0 rfl ?_
        refine r_iload_n C dX11_unfold_21 1 rfl ?_
        refine r_iconst (v := 4) C dX11_unfold_22 (by decide) ?_
        obtain ⟨h6, hp⟩ := hp
        refine r_callV (ci := 9) (wc := [[(o, .inr (9, [.ref aS, .ref aPast, .int known, .ref aSnap, .int kept, .ref aText, .int len, .int thr, .ref aOne, .ref aTwo, .ref aBoth, .ref aWord, .int cre, .ref aOpen, .ref aTimes, .ref aFar, .ref aQueue, .long hash]))], [(aS, .inl (cI, 335, .inl fS))]]) (wr := [[(aPast, .inl (cI, 2010, .inl fPast))], [(aOne, .inl (cI, 4, .inl fOne))]]) (st := [.int 7, .int letter, .ref o]) C (m_X11_its l D cI cL cP cJ o aS aPast aSnap aText aOne aTwo aBoth aWord aOpen aTimes aFar aQueue known kept len thr cre hash fS letter 4 h6) k_X11_its t_966 [0, 1, 2, 3] (show ([0, 1, 2, 3] : List Nat).Perm (List.range 4) by decide) rfl rfl rfl (q0 := 0) rfl rfl rfl (Nat.le_of_ble_eq_true rfl) ⟨Nat.le_of_ble_eq_true rfl, Nat.le_of_ble_eq_true rfl⟩ ⟨Nat.zero_le _, Nat.zero_le _⟩ dX11_unfold_23 (fun r7 wr7 hw7 => ?_)
        obtain ⟨e_r7, rfl⟩ := hw7
        have hp := hp r7 e_r7
        refine r_ws (I' := [[(o, .inr (9, [.ref aS, .ref aPast, .int known, .ref aSnap, .int kept, .ref aText, .int len, .int thr, .ref aOne, .ref aTwo, .ref aBoth, .ref aWord, .int cre, .ref aOpen, .ref aTimes, .ref aFar, .ref aQueue, .long hash]))], [(aS, .inl (cI, 335, .inl fS))], [(aPast, .inl (cI, 2010, .inl fPast))], [(aOne, .inl (cI, 4, .inl fOne))]]) rfl ?_
        refine r_iadd C dX11_unfold_26 rfl ?_
        refine r_iconst (v := 1) C dX11_unfold_27 (by decide) ?_
        refine r_isub C dX11_unfold_28 rfl ?_
        have h8 := hp
        refine r_callV (ci := 9) (wc := [[(o, .inr (9, [.ref aS, .ref aPast, .int known, .ref aSnap, .int kept, .ref aText, .int len, .int thr, .ref aOne, .ref aTwo, .ref aBoth, .ref aWord, .int cre, .ref aOpen, .ref aTimes, .ref aFar, .ref aQueue, .long hash]))], [(aS, .inl (cI, 335, .inl fS))]]) (wr := [[(aPast, .inl (cI, 2010, .inl fPast))], [(aOne, .inl (cI, 4, .inl fOne))]]) (st := []) C (m_X11_its l D cI cL cP cJ o aS aPast aSnap aText aOne aTwo aBoth aWord aOpen aTimes aFar aQueue known kept len thr cre hash fS letter (((7 : Int32) + r7) - 1) h8) k_X11_its t_966 [0, 1, 2, 3] (show ([0, 1, 2, 3] : List Nat).Perm (List.range 4) by decide) rfl rfl rfl (q0 := 0) rfl rfl rfl (Nat.le_of_ble_eq_true rfl) ⟨Nat.le_of_ble_eq_true rfl, Nat.le_of_ble_eq_true rfl⟩ ⟨Nat.zero_le _, Nat.zero_le _⟩ dX11_unfold_29 (fun r9 wr9 hw9 => ?_)
        obtain ⟨e_r9, rfl⟩ := hw9
        refine r_ws (I' := [[(o, .inr (9, [.ref aS, .ref aPast, .int known, .ref aSnap, .int kept, .ref aText, .int len, .int thr, .ref aOne, .ref aTwo, .ref aBoth, .ref aWord, .int cre, .ref aOpen, .ref aTimes, .ref aFar, .ref aQueue, .long hash]))], [(aS, .inl (cI, 335, .inl fS))], [(aPast, .inl (cI, 2010, .inl fPast))], [(aOne, .inl (cI, 4, .inl fOne))]]) rfl ?_
        refine r_goto (tgt := 36) C dX11_unfold_32 (by decide) ?_
        exact K _ (by have q := e_r4.symm; subst q; have q := e_r7.symm; subst q; have q := e_r9.symm; subst q; simp only [if_neg c2, if_neg c5])
  intro x10 e_x10
  have hp := hp x10 e_x10
  refine r_istore_n (L' := [(2, .int x10), (0, .ref o), (1, .int letter)]) C dX11_unfold_36 (by decide) rfl ?_
  refine r_aload_n C dX11_unfold_37 1 rfl ?_
  refine r_iload_n C dX11_unfold_38 2 rfl ?_
  refine r_callS (wc := []) (wr := [[(o, .inr (9, [.ref aS, .ref aPast, .int known, .ref aSnap, .int kept, .ref aText, .int len, .int thr, .ref aOne, .ref aTwo, .ref aBoth, .ref aWord, .int cre, .ref aOpen, .ref aTimes, .ref aFar, .ref aQueue, .long hash]))], [(aS, .inl (cI, 335, .inl fS))], [(aPast, .inl (cI, 2010, .inl fPast))], [(aOne, .inl (cI, 4, .inl fOne))]]) (st := [.ref o]) C (m_X11_isLetter l D cI cL cP cJ letter) k_X11_isLetter t_956 [0, 1, 2, 3] (show ([0, 1, 2, 3] : List Nat).Perm (List.range 4) by decide) rfl rfl rfl (Nat.le_of_ble_eq_true rfl) ⟨Nat.le_of_ble_eq_true rfl, Nat.le_of_ble_eq_true rfl⟩ ⟨Nat.zero_le _, Nat.zero_le _⟩ dX11_unfold_39 (fun r11 wr11 hw11 => ?_)
  obtain ⟨e_r11, rfl⟩ := hw11
  have hp := hp r11 e_r11
  refine r_ws (I' := [[(o, .inr (9, [.ref aS, .ref aPast, .int known, .ref aSnap, .int kept, .ref aText, .int len, .int thr, .ref aOne, .ref aTwo, .ref aBoth, .ref aWord, .int cre, .ref aOpen, .ref aTimes, .ref aFar, .ref aQueue, .long hash]))], [(aS, .inl (cI, 335, .inl fS))], [(aPast, .inl (cI, 2010, .inl fPast))], [(aOne, .inl (cI, 4, .inl fOne))]]) rfl ?_
  obtain ⟨hps, hp⟩ := hp
  suffices K : ∀ x17 : Int32, x17 = ((if r11 = 0 then (1) else ((if x10 < 0 then (2) else (let r15 : Int32 := F_X11_touches fS letter x10; (if r15 = 0 then (0) else (2))))))) → V p l e (rmm 3 66) s m args below meth c 3 D A 0 0 Q [[(o, .inr (9, [.ref aS, .ref aPast, .int known, .ref aSnap, .int kept, .ref aText, .int len, .int thr, .ref aOne, .ref aTwo, .ref aBoth, .ref aWord, .int cre, .ref aOpen, .ref aTimes, .ref aFar, .ref aQueue, .long hash]))], [(aS, .inl (cI, 335, .inl fS))], [(aPast, .inl (cI, 2010, .inl fPast))], [(aOne, .inl (cI, 4, .inl fOne))]] [(2, .int x10), (0, .ref o), (1, .int letter)] 67 [.int x17, .ref o] by
    have hp := hps
    refine r_if_ne (tgt := 49) C dX11_unfold_42 (by decide) (fun c12 => ?_) (fun c12 => ?_)
    · have hp := hp.2 c12
      refine r_iload_n C dX11_unfold_49 0 rfl ?_
      refine r_if_lt (tgt := 62) C dX11_unfold_50 (by decide) (fun c13 => ?_) (fun c13 => ?_)
      · refine r_iconst (v := 2) C dX11_unfold_62 (by decide) ?_
        refine r_goto (tgt := 67) C dX11_unfold_63 (by decide) ?_
        exact K _ (by simp only [if_neg c12, if_pos c13])
      · have hp := hp.2 c13
        refine r_aload_n C dX11_unfold_53 1 rfl ?_
        refine r_iload_n C dX11_unfold_54 2 rfl ?_
        refine r_iload_n C dX11_unfold_55 0 rfl ?_
        have h14 := hp
        refine r_callV (ci := 9) (wc := [[(o, .inr (9, [.ref aS, .ref aPast, .int known, .ref aSnap, .int kept, .ref aText, .int len, .int thr, .ref aOne, .ref aTwo, .ref aBoth, .ref aWord, .int cre, .ref aOpen, .ref aTimes, .ref aFar, .ref aQueue, .long hash]))], [(aS, .inl (cI, 335, .inl fS))]]) (wr := [[(aPast, .inl (cI, 2010, .inl fPast))], [(aOne, .inl (cI, 4, .inl fOne))]]) (st := [.ref o]) C (m_X11_touches l D cI cL cP cJ o aS aPast aSnap aText aOne aTwo aBoth aWord aOpen aTimes aFar aQueue known kept len thr cre hash fS letter x10 h14) k_X11_touches t_970 [0, 1, 2, 3] (show ([0, 1, 2, 3] : List Nat).Perm (List.range 4) by decide) rfl rfl rfl (q0 := 0) rfl rfl rfl (Nat.le_of_ble_eq_true rfl) ⟨Nat.le_of_ble_eq_true rfl, Nat.le_of_ble_eq_true rfl⟩ ⟨Nat.zero_le _, Nat.zero_le _⟩ dX11_unfold_56 (fun r15 wr15 hw15 => ?_)
        obtain ⟨e_r15, rfl⟩ := hw15
        refine r_ws (I' := [[(o, .inr (9, [.ref aS, .ref aPast, .int known, .ref aSnap, .int kept, .ref aText, .int len, .int thr, .ref aOne, .ref aTwo, .ref aBoth, .ref aWord, .int cre, .ref aOpen, .ref aTimes, .ref aFar, .ref aQueue, .long hash]))], [(aS, .inl (cI, 335, .inl fS))], [(aPast, .inl (cI, 2010, .inl fPast))], [(aOne, .inl (cI, 4, .inl fOne))]]) rfl ?_
        refine r_if_eq (tgt := 66) C dX11_unfold_59 (by decide) (fun c16 => ?_) (fun c16 => ?_)
        · refine r_iconst (v := 0) C dX11_unfold_66 (by decide) ?_
          exact K _ (by have q := e_r15.symm; subst q; simp only [if_neg c12, if_neg c13, if_pos c16])
        · refine r_iconst (v := 2) C dX11_unfold_62 (by decide) ?_
          refine r_goto (tgt := 67) C dX11_unfold_63 (by decide) ?_
          exact K _ (by have q := e_r15.symm; subst q; simp only [if_neg c12, if_neg c13, if_neg c16])
    · refine r_iconst (v := 1) C dX11_unfold_45 (by decide) ?_
      refine r_goto (tgt := 67) C dX11_unfold_46 (by decide) ?_
      exact K _ (by simp only [if_pos c12])
  intro x17 e_x17
  have hp := hp x17 e_x17
  refine r_callV (ci := 9) (wc := [[(o, .inr (9, [.ref aS, .ref aPast, .int known, .ref aSnap, .int kept, .ref aText, .int len, .int thr, .ref aOne, .ref aTwo, .ref aBoth, .ref aWord, .int cre, .ref aOpen, .ref aTimes, .ref aFar, .ref aQueue, .long hash]))]]) (wr := [[(aS, .inl (cI, 335, .inl fS))], [(aPast, .inl (cI, 2010, .inl fPast))], [(aOne, .inl (cI, 4, .inl fOne))]]) (st := []) C (m_X11_throwsAt l D cI cL cP cJ o aS aPast aSnap aText aOne aTwo aBoth aWord aOpen aTimes aFar aQueue known kept len thr cre hash x17) k_X11_throwsAt t_974 [0, 1, 2, 3] (show ([0, 1, 2, 3] : List Nat).Perm (List.range 4) by decide) rfl rfl rfl (q0 := 0) rfl rfl rfl (Nat.le_of_ble_eq_true rfl) ⟨Nat.le_of_ble_eq_true rfl, Nat.le_of_ble_eq_true rfl⟩ ⟨Nat.zero_le _, Nat.zero_le _⟩ dX11_unfold_67 (fun r18 wr18 hw18 => ?_)
  obtain ⟨e_r18, rfl⟩ := hw18
  have hp := hp r18 e_r18
  obtain ⟨x19, e_x19⟩ : ∃ z : Int32, z = (F_X11_throwsAt x17).2 := ⟨_, rfl⟩
  have hp := hp x19 e_x19
  refine r_ws (I' := [[(o, .inr (9, [.ref aS, .ref aPast, .int known, .ref aSnap, .int kept, .ref aText, .int len, .int x19, .ref aOne, .ref aTwo, .ref aBoth, .ref aWord, .int cre, .ref aOpen, .ref aTimes, .ref aFar, .ref aQueue, .long hash]))], [(aS, .inl (cI, 335, .inl fS))], [(aPast, .inl (cI, 2010, .inl fPast))], [(aOne, .inl (cI, 4, .inl fOne))]]) (by rw [e_x19]; rfl) ?_
  refine r_if_eq (tgt := 75) C dX11_unfold_70 (by decide) (fun c20 => ?_) (fun c20 => ?_)
  · have hp := hp.1 c20
    refine r_aload_n C dX11_unfold_75 1 rfl ?_
    obtain ⟨h21, hp⟩ := hp
    refine r_callV (ci := 9) (wc := [[(o, .inr (9, [.ref aS, .ref aPast, .int known, .ref aSnap, .int kept, .ref aText, .int len, .int x19, .ref aOne, .ref aTwo, .ref aBoth, .ref aWord, .int cre, .ref aOpen, .ref aTimes, .ref aFar, .ref aQueue, .long hash]))], [(aS, .inl (cI, 335, .inl fS))], [(aPast, .inl (cI, 2010, .inl fPast))]]) (wr := [[(aOne, .inl (cI, 4, .inl fOne))]]) (st := []) C (m_X11_saves l D cI cL cP cJ o aS aPast aSnap aText aOne aTwo aBoth aWord aOpen aTimes aFar aQueue known kept len x19 cre hash fS fPast h21) k_X11_saves t_978 [0, 1, 2, 3] (show ([0, 1, 2, 3] : List Nat).Perm (List.range 4) by decide) rfl rfl rfl (q0 := 0) rfl rfl rfl (Nat.le_of_ble_eq_true rfl) ⟨Nat.le_of_ble_eq_true rfl, Nat.le_of_ble_eq_true rfl⟩ ⟨Nat.zero_le _, Nat.zero_le _⟩ dX11_unfold_76 (fun r22 wr22 hw22 => ?_)
    obtain rfl := hw22
    obtain ⟨x23, e_x23⟩ : ∃ z : Int32, z = (F_X11_saves known fS fPast).1 := ⟨_, rfl⟩
    have hp := hp x23 e_x23
    obtain ⟨g24, e_g24⟩ : ∃ z : Nat → Int32, z = (F_X11_saves known fS fPast).2 := ⟨_, rfl⟩
    have hp := hp g24 e_g24
    refine r_ws (I' := [[(o, .inr (9, [.ref aS, .ref aPast, .int x23, .ref aSnap, .int kept, .ref aText, .int len, .int x19, .ref aOne, .ref aTwo, .ref aBoth, .ref aWord, .int cre, .ref aOpen, .ref aTimes, .ref aFar, .ref aQueue, .long hash]))], [(aS, .inl (cI, 335, .inl fS))], [(aPast, .inl (cI, 2010, .inl g24))], [(aOne, .inl (cI, 4, .inl fOne))]]) (by rw [e_x23, e_g24]; rfl) ?_
    refine r_aload_n C dX11_unfold_79 1 rfl ?_
    refine r_iload_n C dX11_unfold_80 2 rfl ?_
    refine r_iload_n C dX11_unfold_81 0 rfl ?_
    obtain ⟨h25, hp⟩ := hp
    refine r_callV (ci := 9) (wc := [[(o, .inr (9, [.ref aS, .ref aPast, .int x23, .ref aSnap, .int kept, .ref aText, .int len, .int x19, .ref aOne, .ref aTwo, .ref aBoth, .ref aWord, .int cre, .ref aOpen, .ref aTimes, .ref aFar, .ref aQueue, .long hash]))], [(aS, .inl (cI, 335, .inl fS))], [(aOne, .inl (cI, 4, .inl fOne))]]) (wr := [[(aPast, .inl (cI, 2010, .inl g24))]]) (st := []) C (m_X11_turnsOver l D cI cL cP cJ o aS aPast aSnap aText aOne aTwo aBoth aWord aOpen aTimes aFar aQueue x23 kept len x19 cre hash fS fOne letter x10 h25) k_X11_turnsOver t_986 [0, 1, 3, 2] (show ([0, 1, 3, 2] : List Nat).Perm (List.range 4) by decide) rfl rfl rfl (q0 := 0) rfl rfl rfl (Nat.le_of_ble_eq_true rfl) ⟨Nat.le_of_ble_eq_true rfl, Nat.le_of_ble_eq_true rfl⟩ ⟨Nat.zero_le _, Nat.zero_le _⟩ dX11_unfold_82 (fun r26 wr26 hw26 => ?_)
    obtain rfl := hw26
    obtain ⟨g27, e_g27⟩ : ∃ z : Nat → Int32, z = (F_X11_turnsOver fS fOne letter x10).1 := ⟨_, rfl⟩
    have hp := hp g27 e_g27
    obtain ⟨g28, e_g28⟩ : ∃ z : Nat → Int32, z = (F_X11_turnsOver fS fOne letter x10).2 := ⟨_, rfl⟩
    have hp := hp g28 e_g28
    refine r_ws (I' := [[(o, .inr (9, [.ref aS, .ref aPast, .int x23, .ref aSnap, .int kept, .ref aText, .int len, .int x19, .ref aOne, .ref aTwo, .ref aBoth, .ref aWord, .int cre, .ref aOpen, .ref aTimes, .ref aFar, .ref aQueue, .long hash]))], [(aS, .inl (cI, 335, .inl g27))], [(aOne, .inl (cI, 4, .inl g28))], [(aPast, .inl (cI, 2010, .inl g24))]]) (by rw [e_g27, e_g28]; rfl) ?_
    refine r_aload_n C dX11_unfold_85 1 rfl ?_
    refine r_get (Cn := RX11) (T := TX11) (N := 18) C inT11 0 rfl rfl 0 (by decide) t_893 rfl dX11_unfold_86 ?_
    refine r_bipush (v := 67) C dX11_unfold_89 (by decide) ?_
    refine r_iload_n C dX11_unfold_91 2 rfl ?_
    refine r_imul C dX11_unfold_92 rfl ?_
    refine r_iconst (v := 4) C dX11_unfold_93 (by decide) ?_
    refine r_iadd C dX11_unfold_94 rfl ?_
    refine r_dup2_11 C dX11_unfold_95 rfl rfl ?_
    obtain ⟨h29, hp⟩ := hp
    refine r_iald (z := g27 (((67 : Int32) * letter) + 4).toNatClampNeg) C 1 0 rfl rfl h29 dX11_unfold_96 rfl ?_
    refine r_iconst (v := 1) C dX11_unfold_97 (by decide) ?_
    refine r_isub C dX11_unfold_98 rfl ?_
    refine r_top (fun x30 e_x30 => ?_)
    have hp := hp x30 e_x30
    have h31 := hp
    obtain ⟨g32, e_g32⟩ : ∃ z : Nat → Int32, z = upd g27 ((((67 : Int32) * letter) + 4).toNatClampNeg) x30 := ⟨_, rfl⟩
    refine r_iast C 1 0 rfl rfl h31 (I' := [[(o, .inr (9, [.ref aS, .ref aPast, .int x23, .ref aSnap, .int kept, .ref aText, .int len, .int x19, .ref aOne, .ref aTwo, .ref aBoth, .ref aWord, .int cre, .ref aOpen, .ref aTimes, .ref aFar, .ref aQueue, .long hash]))], [(aS, .inl (cI, 335, .inl g32))], [(aOne, .inl (cI, 4, .inl g28))], [(aPast, .inl (cI, 2010, .inl g24))]]) (by rw [e_g32]; rfl) dX11_unfold_99 ?_
    refine r_iload_n C dX11_unfold_100 0 rfl ?_
    refine r_pl (I' := [[(o, .inr (9, [.ref aS, .ref aPast, .int x23, .ref aSnap, .int kept, .ref aText, .int len, .int x19, .ref aOne, .ref aTwo, .ref aBoth, .ref aWord, .int cre, .ref aOpen, .ref aTimes, .ref aFar, .ref aQueue, .long hash]))], [(aS, .inl (cI, 335, .inl g32))], [(aPast, .inl (cI, 2010, .inl g24))], [(aOne, .inl (cI, 4, .inl g28))]]) [0, 1, 3, 2] (show ([0, 1, 3, 2] : List Nat).Perm (List.range 4) by decide) rfl ?_
    have eF : F_X11_unfold known fS fPast fOne letter = (x10, x23, x19, g32, g24, g28) := by have q := e_r1.symm; subst q; have q := e_x10.symm; subst q; have q := e_r11.symm; subst q; have q := e_x17.symm; subst q; have q := e_r18.symm; subst q; have q := e_x19.symm; subst q; have q := e_x23.symm; subst q; have q := e_g24.symm; subst q; have q := e_g27.symm; subst q; have q := e_g28.symm; subst q; have q := e_x30.symm; subst q; have q := e_g32.symm; subst q; simp only [F_X11_unfold, if_pos c20]
    exact r_iret (r := x10) C hA hr hlo dX11_unfold_101 [[(o, .inr (9, [.ref aS, .ref aPast, .int x23, .ref aSnap, .int kept, .ref aText, .int len, .int x19, .ref aOne, .ref aTwo, .ref aBoth, .ref aWord, .int cre, .ref aOpen, .ref aTimes, .ref aFar, .ref aQueue, .long hash]))], [(aS, .inl (cI, 335, .inl g32))], [(aPast, .inl (cI, 2010, .inl g24))], [(aOne, .inl (cI, 4, .inl g28))]] ⟨by simp only [eF], by simp only [eF]⟩ rfl hQ
  · refine r_iconst (v := 0) C dX11_unfold_73 (by decide) ?_
    have eF : F_X11_unfold known fS fPast fOne letter = (0, known, x19, fS, fPast, fOne) := by have q := e_r1.symm; subst q; have q := e_x10.symm; subst q; have q := e_r11.symm; subst q; have q := e_x17.symm; subst q; have q := e_r18.symm; subst q; have q := e_x19.symm; subst q; simp only [F_X11_unfold, if_neg c20]
    exact r_iret (r := 0) C hA hr hlo dX11_unfold_74 [[(o, .inr (9, [.ref aS, .ref aPast, .int known, .ref aSnap, .int kept, .ref aText, .int len, .int x19, .ref aOne, .ref aTwo, .ref aBoth, .ref aWord, .int cre, .ref aOpen, .ref aTimes, .ref aFar, .ref aQueue, .long hash]))], [(aS, .inl (cI, 335, .inl fS))], [(aPast, .inl (cI, 2010, .inl fPast))], [(aOne, .inl (cI, 4, .inl fOne))]] ⟨by simp only [eF], by simp only [eF]⟩ rfl hQ
theorem k_X11_press : kV yX11_press cX11_press 3 (some .int) 1 := ⟨t_1015, t_1016, t_67, t_1017, by decide +kernel, by decide +kernel, by decide +kernel⟩
set_option maxRecDepth 20000 in
def F_X11_press (known : Int32) (cre : Int32) (fS : Nat → Int32) (fPast : Nat → Int32) (fOne : Nat → Int32) (fWord : Nat → Int32) (letter : Int32) : Int32 × Int32 × Int32 × Int32 × (Nat → Int32) × (Nat → Int32) × (Nat → Int32) × (Nat → Int32) := let r1 : Int32 := F_X11_isLetter letter; let x3 : Int32 := (if r1 = 0 then (1) else (0)); let r4 : Int32 := (F_X11_throwsAt x3).1; let x5 : Int32 := (F_X11_throwsAt x3).2; (if r4 = 0 then (let x9 : Int32 := (F_X11_saves known fS fPast).1; let g10 : Nat → Int32 := (F_X11_saves known fS fPast).2; let r12 : Int32 := F_X11_its fS letter 4; let x15 : Int32 := (F_X11_presses fS fOne fWord letter).1; let g16 : Nat → Int32 := (F_X11_presses fS fOne fWord letter).2.1; let g17 : Nat → Int32 := (F_X11_presses fS fOne fWord letter).2.2.1; let g18 : Nat → Int32 := (F_X11_presses fS fOne fWord letter).2.2.2; let r20 : Int32 := F_X11_its g16 letter 4; (r12 - r20, x9, x5, x15, g16, g10, g17, g18)) else ((0, known, x5, cre, fS, fPast, fOne, fWord)))
set_option maxRecDepth 20000 in
def P_X11_press (known : Int32) (fS : Nat → Int32) (fPast : Nat → Int32) (fOne : Nat → Int32) (fWord : Nat → Int32) (letter : Int32) : Prop := (∀ r1 : Int32, r1 = F_X11_isLetter letter → (∀ x3 : Int32, x3 = ((if r1 = 0 then (1) else (0))) → (∀ r4 : Int32, r4 = (F_X11_throwsAt x3).1 → (∀ x5 : Int32, x5 = (F_X11_throwsAt x3).2 → ((r4 = 0 → ((P_X11_saves known fS fPast) ∧ (∀ x9 : Int32, x9 = (F_X11_saves known fS fPast).1 → (∀ g10 : Nat → Int32, g10 = (F_X11_saves known fS fPast).2 → ((P_X11_its letter 4) ∧ (∀ r12 : Int32, r12 = F_X11_its fS letter 4 → ((P_X11_presses fS fOne fWord letter) ∧ (∀ x15 : Int32, x15 = (F_X11_presses fS fOne fWord letter).1 → (∀ g16 : Nat → Int32, g16 = (F_X11_presses fS fOne fWord letter).2.1 → (∀ g17 : Nat → Int32, g17 = (F_X11_presses fS fOne fWord letter).2.2.1 → (∀ g18 : Nat → Int32, g18 = (F_X11_presses fS fOne fWord letter).2.2.2 → (P_X11_its letter 4)))))))))))) ∧ (¬ r4 = 0 → True))))))
set_option maxRecDepth 20000 in
set_option maxHeartbeats 8000000 in
theorem m_X11_press (l : Launch) (D : va_G) (cI cL cP cJ : ClassId) (o : Nat) (aS : Nat) (aPast : Nat) (aSnap : Nat) (aText : Nat) (aOne : Nat) (aTwo : Nat) (aBoth : Nat) (aWord : Nat) (aOpen : Nat) (aTimes : Nat) (aFar : Nat) (aQueue : Nat) (known : Int32) (kept : Int32) (len : Int32) (thr : Int32) (cre : Int32) (hash : Int64) (fS : Nat → Int32) (fPast : Nat → Int32) (fOne : Nat → Int32) (fWord : Nat → Int32) (letter : Int32) (hp : P_X11_press known fS fPast fOne fWord letter) : M vI l yX11_press cX11_press 3 (some .int) 4 89 D (tyF cI cL cP cJ) [.ref o, .int letter] [[(o, .inr (9, [.ref aS, .ref aPast, .int known, .ref aSnap, .int kept, .ref aText, .int len, .int thr, .ref aOne, .ref aTwo, .ref aBoth, .ref aWord, .int cre, .ref aOpen, .ref aTimes, .ref aFar, .ref aQueue, .long hash]))], [(aS, .inl (cI, 335, .inl fS))], [(aPast, .inl (cI, 2010, .inl fPast))], [(aOne, .inl (cI, 4, .inl fOne))], [(aWord, .inl (cI, 20, .inl fWord))]] (fun (r : Int32) (w1 : List va_W) => r = (F_X11_press known cre fS fPast fOne fWord letter).1 ∧ w1 = [[(o, .inr (9, [.ref aS, .ref aPast, .int ((F_X11_press known cre fS fPast fOne fWord letter).2.1), .ref aSnap, .int kept, .ref aText, .int len, .int ((F_X11_press known cre fS fPast fOne fWord letter).2.2.1), .ref aOne, .ref aTwo, .ref aBoth, .ref aWord, .int ((F_X11_press known cre fS fPast fOne fWord letter).2.2.2.1), .ref aOpen, .ref aTimes, .ref aFar, .ref aQueue, .long hash]))], [(aS, .inl (cI, 335, .inl ((F_X11_press known cre fS fPast fOne fWord letter).2.2.2.2.1)))], [(aPast, .inl (cI, 2010, .inl ((F_X11_press known cre fS fPast fOne fWord letter).2.2.2.2.2.1)))], [(aOne, .inl (cI, 4, .inl ((F_X11_press known cre fS fPast fOne fWord letter).2.2.2.2.2.2.1)))], [(aWord, .inl (cI, 20, .inl ((F_X11_press known cre fS fPast fOne fWord letter).2.2.2.2.2.2.2)))]]) := by
  unfold P_X11_press at hp
  refine m_start (by decide +kernel) (Nat.le_of_ble_eq_true rfl) (fun p e s m args below meth c A Q hA hQ C hr hlo => ?_)
  refine r_Le (L' := [(0, .ref o), (1, .int letter)]) rfl ?_
  refine r_aload_n C dX11_press_0 0 rfl ?_
  refine r_iload_n C dX11_press_1 1 rfl ?_
  refine r_callS (wc := []) (wr := [[(o, .inr (9, [.ref aS, .ref aPast, .int known, .ref aSnap, .int kept, .ref aText, .int len, .int thr, .ref aOne, .ref aTwo, .ref aBoth, .ref aWord, .int cre, .ref aOpen, .ref aTimes, .ref aFar, .ref aQueue, .long hash]))], [(aS, .inl (cI, 335, .inl fS))], [(aPast, .inl (cI, 2010, .inl fPast))], [(aOne, .inl (cI, 4, .inl fOne))], [(aWord, .inl (cI, 20, .inl fWord))]]) (st := [.ref o]) C (m_X11_isLetter l D cI cL cP cJ letter) k_X11_isLetter t_956 [0, 1, 2, 3, 4] (show ([0, 1, 2, 3, 4] : List Nat).Perm (List.range 5) by decide) rfl rfl rfl (Nat.le_of_ble_eq_true rfl) ⟨Nat.le_of_ble_eq_true rfl, Nat.le_of_ble_eq_true rfl⟩ ⟨Nat.zero_le _, Nat.zero_le _⟩ dX11_press_2 (fun r1 wr1 hw1 => ?_)
  obtain ⟨e_r1, rfl⟩ := hw1
  have hp := hp r1 e_r1
  refine r_ws (I' := [[(o, .inr (9, [.ref aS, .ref aPast, .int known, .ref aSnap, .int kept, .ref aText, .int len, .int thr, .ref aOne, .ref aTwo, .ref aBoth, .ref aWord, .int cre, .ref aOpen, .ref aTimes, .ref aFar, .ref aQueue, .long hash]))], [(aS, .inl (cI, 335, .inl fS))], [(aPast, .inl (cI, 2010, .inl fPast))], [(aOne, .inl (cI, 4, .inl fOne))], [(aWord, .inl (cI, 20, .inl fWord))]]) rfl ?_
  suffices K : ∀ x3 : Int32, x3 = ((if r1 = 0 then (1) else (0))) → V p l e (rmm 4 89) s m args below meth c 3 D A 0 0 Q [[(o, .inr (9, [.ref aS, .ref aPast, .int known, .ref aSnap, .int kept, .ref aText, .int len, .int thr, .ref aOne, .ref aTwo, .ref aBoth, .ref aWord, .int cre, .ref aOpen, .ref aTimes, .ref aFar, .ref aQueue, .long hash]))], [(aS, .inl (cI, 335, .inl fS))], [(aPast, .inl (cI, 2010, .inl fPast))], [(aOne, .inl (cI, 4, .inl fOne))], [(aWord, .inl (cI, 20, .inl fWord))]] [(0, .ref o), (1, .int letter)] 13 [.int x3, .ref o] by
    refine r_if_eq (tgt := 12) C dX11_press_5 (by decide) (fun c2 => ?_) (fun c2 => ?_)
    · refine r_iconst (v := 1) C dX11_press_12 (by decide) ?_
      exact K _ (by simp only [if_pos c2])
    · refine r_iconst (v := 0) C dX11_press_8 (by decide) ?_
      refine r_goto (tgt := 13) C dX11_press_9 (by decide) ?_
      exact K _ (by simp only [if_neg c2])
  intro x3 e_x3
  have hp := hp x3 e_x3
  refine r_callV (ci := 9) (wc := [[(o, .inr (9, [.ref aS, .ref aPast, .int known, .ref aSnap, .int kept, .ref aText, .int len, .int thr, .ref aOne, .ref aTwo, .ref aBoth, .ref aWord, .int cre, .ref aOpen, .ref aTimes, .ref aFar, .ref aQueue, .long hash]))]]) (wr := [[(aS, .inl (cI, 335, .inl fS))], [(aPast, .inl (cI, 2010, .inl fPast))], [(aOne, .inl (cI, 4, .inl fOne))], [(aWord, .inl (cI, 20, .inl fWord))]]) (st := []) C (m_X11_throwsAt l D cI cL cP cJ o aS aPast aSnap aText aOne aTwo aBoth aWord aOpen aTimes aFar aQueue known kept len thr cre hash x3) k_X11_throwsAt t_974 [0, 1, 2, 3, 4] (show ([0, 1, 2, 3, 4] : List Nat).Perm (List.range 5) by decide) rfl rfl rfl (q0 := 0) rfl rfl rfl (Nat.le_of_ble_eq_true rfl) ⟨Nat.le_of_ble_eq_true rfl, Nat.le_of_ble_eq_true rfl⟩ ⟨Nat.zero_le _, Nat.zero_le _⟩ dX11_press_13 (fun r4 wr4 hw4 => ?_)
  obtain ⟨e_r4, rfl⟩ := hw4
  have hp := hp r4 e_r4
  obtain ⟨x5, e_x5⟩ : ∃ z : Int32, z = (F_X11_throwsAt x3).2 := ⟨_, rfl⟩
  have hp := hp x5 e_x5
  refine r_ws (I' := [[(o, .inr (9, [.ref aS, .ref aPast, .int known, .ref aSnap, .int kept, .ref aText, .int len, .int x5, .ref aOne, .ref aTwo, .ref aBoth, .ref aWord, .int cre, .ref aOpen, .ref aTimes, .ref aFar, .ref aQueue, .long hash]))], [(aS, .inl (cI, 335, .inl fS))], [(aPast, .inl (cI, 2010, .inl fPast))], [(aOne, .inl (cI, 4, .inl fOne))], [(aWord, .inl (cI, 20, .inl fWord))]]) (by rw [e_x5]; rfl) ?_
  refine r_if_eq (tgt := 21) C dX11_press_16 (by decide) (fun c6 => ?_) (fun c6 => ?_)
  · have hp := hp.1 c6
    refine r_aload_n C dX11_press_21 0 rfl ?_
    obtain ⟨h7, hp⟩ := hp
    refine r_callV (ci := 9) (wc := [[(o, .inr (9, [.ref aS, .ref aPast, .int known, .ref aSnap, .int kept, .ref aText, .int len, .int x5, .ref aOne, .ref aTwo, .ref aBoth, .ref aWord, .int cre, .ref aOpen, .ref aTimes, .ref aFar, .ref aQueue, .long hash]))], [(aS, .inl (cI, 335, .inl fS))], [(aPast, .inl (cI, 2010, .inl fPast))]]) (wr := [[(aOne, .inl (cI, 4, .inl fOne))], [(aWord, .inl (cI, 20, .inl fWord))]]) (st := []) C (m_X11_saves l D cI cL cP cJ o aS aPast aSnap aText aOne aTwo aBoth aWord aOpen aTimes aFar aQueue known kept len x5 cre hash fS fPast h7) k_X11_saves t_978 [0, 1, 2, 3, 4] (show ([0, 1, 2, 3, 4] : List Nat).Perm (List.range 5) by decide) rfl rfl rfl (q0 := 0) rfl rfl rfl (Nat.le_of_ble_eq_true rfl) ⟨Nat.le_of_ble_eq_true rfl, Nat.le_of_ble_eq_true rfl⟩ ⟨Nat.zero_le _, Nat.zero_le _⟩ dX11_press_22 (fun r8 wr8 hw8 => ?_)
    obtain rfl := hw8
    obtain ⟨x9, e_x9⟩ : ∃ z : Int32, z = (F_X11_saves known fS fPast).1 := ⟨_, rfl⟩
    have hp := hp x9 e_x9
    obtain ⟨g10, e_g10⟩ : ∃ z : Nat → Int32, z = (F_X11_saves known fS fPast).2 := ⟨_, rfl⟩
    have hp := hp g10 e_g10
    refine r_ws (I' := [[(o, .inr (9, [.ref aS, .ref aPast, .int x9, .ref aSnap, .int kept, .ref aText, .int len, .int x5, .ref aOne, .ref aTwo, .ref aBoth, .ref aWord, .int cre, .ref aOpen, .ref aTimes, .ref aFar, .ref aQueue, .long hash]))], [(aS, .inl (cI, 335, .inl fS))], [(aPast, .inl (cI, 2010, .inl g10))], [(aOne, .inl (cI, 4, .inl fOne))], [(aWord, .inl (cI, 20, .inl fWord))]]) (by rw [e_x9, e_g10]; rfl) ?_
    refine r_aload_n C dX11_press_25 0 rfl ?_
    refine r_iload_n C dX11_press_26 1 rfl ?_
    refine r_iconst (v := 4) C dX11_press_27 (by decide) ?_
    obtain ⟨h11, hp⟩ := hp
    refine r_callV (ci := 9) (wc := [[(o, .inr (9, [.ref aS, .ref aPast, .int x9, .ref aSnap, .int kept, .ref aText, .int len, .int x5, .ref aOne, .ref aTwo, .ref aBoth, .ref aWord, .int cre, .ref aOpen, .ref aTimes, .ref aFar, .ref aQueue, .long hash]))], [(aS, .inl (cI, 335, .inl fS))]]) (wr := [[(aPast, .inl (cI, 2010, .inl g10))], [(aOne, .inl (cI, 4, .inl fOne))], [(aWord, .inl (cI, 20, .inl fWord))]]) (st := []) C (m_X11_its l D cI cL cP cJ o aS aPast aSnap aText aOne aTwo aBoth aWord aOpen aTimes aFar aQueue x9 kept len x5 cre hash fS letter 4 h11) k_X11_its t_966 [0, 1, 2, 3, 4] (show ([0, 1, 2, 3, 4] : List Nat).Perm (List.range 5) by decide) rfl rfl rfl (q0 := 0) rfl rfl rfl (Nat.le_of_ble_eq_true rfl) ⟨Nat.le_of_ble_eq_true rfl, Nat.le_of_ble_eq_true rfl⟩ ⟨Nat.zero_le _, Nat.zero_le _⟩ dX11_press_28 (fun r12 wr12 hw12 => ?_)
    obtain ⟨e_r12, rfl⟩ := hw12
    have hp := hp r12 e_r12
    refine r_ws (I' := [[(o, .inr (9, [.ref aS, .ref aPast, .int x9, .ref aSnap, .int kept, .ref aText, .int len, .int x5, .ref aOne, .ref aTwo, .ref aBoth, .ref aWord, .int cre, .ref aOpen, .ref aTimes, .ref aFar, .ref aQueue, .long hash]))], [(aS, .inl (cI, 335, .inl fS))], [(aPast, .inl (cI, 2010, .inl g10))], [(aOne, .inl (cI, 4, .inl fOne))], [(aWord, .inl (cI, 20, .inl fWord))]]) rfl ?_
    refine r_istore_n (L' := [(2, .int r12), (0, .ref o), (1, .int letter)]) C dX11_press_31 (by decide) rfl ?_
    refine r_aload_n C dX11_press_32 1 rfl ?_
    refine r_iload_n C dX11_press_33 2 rfl ?_
    obtain ⟨h13, hp⟩ := hp
    refine r_callV (ci := 9) (wc := [[(o, .inr (9, [.ref aS, .ref aPast, .int x9, .ref aSnap, .int kept, .ref aText, .int len, .int x5, .ref aOne, .ref aTwo, .ref aBoth, .ref aWord, .int cre, .ref aOpen, .ref aTimes, .ref aFar, .ref aQueue, .long hash]))], [(aS, .inl (cI, 335, .inl fS))], [(aOne, .inl (cI, 4, .inl fOne))], [(aWord, .inl (cI, 20, .inl fWord))]]) (wr := [[(aPast, .inl (cI, 2010, .inl g10))]]) (st := []) C (m_X11_presses l D cI cL cP cJ o aS aPast aSnap aText aOne aTwo aBoth aWord aOpen aTimes aFar aQueue x9 kept len x5 cre hash fS fOne fWord letter h13) k_X11_presses t_1018 [0, 1, 3, 4, 2] (show ([0, 1, 3, 4, 2] : List Nat).Perm (List.range 5) by decide) rfl rfl rfl (q0 := 0) rfl rfl rfl (Nat.le_of_ble_eq_true rfl) ⟨Nat.le_of_ble_eq_true rfl, Nat.le_of_ble_eq_true rfl⟩ ⟨Nat.zero_le _, Nat.zero_le _⟩ dX11_press_34 (fun r14 wr14 hw14 => ?_)
    obtain rfl := hw14
    obtain ⟨x15, e_x15⟩ : ∃ z : Int32, z = (F_X11_presses fS fOne fWord letter).1 := ⟨_, rfl⟩
    have hp := hp x15 e_x15
    obtain ⟨g16, e_g16⟩ : ∃ z : Nat → Int32, z = (F_X11_presses fS fOne fWord letter).2.1 := ⟨_, rfl⟩
    have hp := hp g16 e_g16
    obtain ⟨g17, e_g17⟩ : ∃ z : Nat → Int32, z = (F_X11_presses fS fOne fWord letter).2.2.1 := ⟨_, rfl⟩
    have hp := hp g17 e_g17
    obtain ⟨g18, e_g18⟩ : ∃ z : Nat → Int32, z = (F_X11_presses fS fOne fWord letter).2.2.2 := ⟨_, rfl⟩
    have hp := hp g18 e_g18
    refine r_ws (I' := [[(o, .inr (9, [.ref aS, .ref aPast, .int x9, .ref aSnap, .int kept, .ref aText, .int len, .int x5, .ref aOne, .ref aTwo, .ref aBoth, .ref aWord, .int x15, .ref aOpen, .ref aTimes, .ref aFar, .ref aQueue, .long hash]))], [(aS, .inl (cI, 335, .inl g16))], [(aOne, .inl (cI, 4, .inl g17))], [(aWord, .inl (cI, 20, .inl g18))], [(aPast, .inl (cI, 2010, .inl g10))]]) (by rw [e_x15, e_g16, e_g17, e_g18]; rfl) ?_
    refine r_iload_n C dX11_press_37 0 rfl ?_
    refine r_aload_n C dX11_press_38 1 rfl ?_
    refine r_iload_n C dX11_press_39 2 rfl ?_
    refine r_iconst (v := 4) C dX11_press_40 (by decide) ?_
    have h19 := hp
    refine r_callV (ci := 9) (wc := [[(o, .inr (9, [.ref aS, .ref aPast, .int x9, .ref aSnap, .int kept, .ref aText, .int len, .int x5, .ref aOne, .ref aTwo, .ref aBoth, .ref aWord, .int x15, .ref aOpen, .ref aTimes, .ref aFar, .ref aQueue, .long hash]))], [(aS, .inl (cI, 335, .inl g16))]]) (wr := [[(aOne, .inl (cI, 4, .inl g17))], [(aWord, .inl (cI, 20, .inl g18))], [(aPast, .inl (cI, 2010, .inl g10))]]) (st := [.int r12]) C (m_X11_its l D cI cL cP cJ o aS aPast aSnap aText aOne aTwo aBoth aWord aOpen aTimes aFar aQueue x9 kept len x5 x15 hash g16 letter 4 h19) k_X11_its t_966 [0, 1, 2, 3, 4] (show ([0, 1, 2, 3, 4] : List Nat).Perm (List.range 5) by decide) rfl rfl rfl (q0 := 0) rfl rfl rfl (Nat.le_of_ble_eq_true rfl) ⟨Nat.le_of_ble_eq_true rfl, Nat.le_of_ble_eq_true rfl⟩ ⟨Nat.zero_le _, Nat.zero_le _⟩ dX11_press_41 (fun r20 wr20 hw20 => ?_)
    obtain ⟨e_r20, rfl⟩ := hw20
    refine r_ws (I' := [[(o, .inr (9, [.ref aS, .ref aPast, .int x9, .ref aSnap, .int kept, .ref aText, .int len, .int x5, .ref aOne, .ref aTwo, .ref aBoth, .ref aWord, .int x15, .ref aOpen, .ref aTimes, .ref aFar, .ref aQueue, .long hash]))], [(aS, .inl (cI, 335, .inl g16))], [(aOne, .inl (cI, 4, .inl g17))], [(aWord, .inl (cI, 20, .inl g18))], [(aPast, .inl (cI, 2010, .inl g10))]]) rfl ?_
    refine r_isub C dX11_press_44 rfl ?_
    refine r_pl (I' := [[(o, .inr (9, [.ref aS, .ref aPast, .int x9, .ref aSnap, .int kept, .ref aText, .int len, .int x5, .ref aOne, .ref aTwo, .ref aBoth, .ref aWord, .int x15, .ref aOpen, .ref aTimes, .ref aFar, .ref aQueue, .long hash]))], [(aS, .inl (cI, 335, .inl g16))], [(aPast, .inl (cI, 2010, .inl g10))], [(aOne, .inl (cI, 4, .inl g17))], [(aWord, .inl (cI, 20, .inl g18))]]) [0, 1, 4, 2, 3] (show ([0, 1, 4, 2, 3] : List Nat).Perm (List.range 5) by decide) rfl ?_
    have eF : F_X11_press known cre fS fPast fOne fWord letter = (r12 - r20, x9, x5, x15, g16, g10, g17, g18) := by have q := e_r1.symm; subst q; have q := e_x3.symm; subst q; have q := e_r4.symm; subst q; have q := e_x5.symm; subst q; have q := e_x9.symm; subst q; have q := e_g10.symm; subst q; have q := e_r12.symm; subst q; have q := e_x15.symm; subst q; have q := e_g16.symm; subst q; have q := e_g17.symm; subst q; have q := e_g18.symm; subst q; have q := e_r20.symm; subst q; simp only [F_X11_press, if_pos c6]
    exact r_iret (r := r12 - r20) C hA hr hlo dX11_press_45 [[(o, .inr (9, [.ref aS, .ref aPast, .int x9, .ref aSnap, .int kept, .ref aText, .int len, .int x5, .ref aOne, .ref aTwo, .ref aBoth, .ref aWord, .int x15, .ref aOpen, .ref aTimes, .ref aFar, .ref aQueue, .long hash]))], [(aS, .inl (cI, 335, .inl g16))], [(aPast, .inl (cI, 2010, .inl g10))], [(aOne, .inl (cI, 4, .inl g17))], [(aWord, .inl (cI, 20, .inl g18))]] ⟨by simp only [eF], by simp only [eF]⟩ rfl hQ
  · refine r_iconst (v := 0) C dX11_press_19 (by decide) ?_
    have eF : F_X11_press known cre fS fPast fOne fWord letter = (0, known, x5, cre, fS, fPast, fOne, fWord) := by have q := e_r1.symm; subst q; have q := e_x3.symm; subst q; have q := e_r4.symm; subst q; have q := e_x5.symm; subst q; simp only [F_X11_press, if_neg c6]
    exact r_iret (r := 0) C hA hr hlo dX11_press_20 [[(o, .inr (9, [.ref aS, .ref aPast, .int known, .ref aSnap, .int kept, .ref aText, .int len, .int x5, .ref aOne, .ref aTwo, .ref aBoth, .ref aWord, .int cre, .ref aOpen, .ref aTimes, .ref aFar, .ref aQueue, .long hash]))], [(aS, .inl (cI, 335, .inl fS))], [(aPast, .inl (cI, 2010, .inl fPast))], [(aOne, .inl (cI, 4, .inl fOne))], [(aWord, .inl (cI, 20, .inl fWord))]] ⟨by simp only [eF], by simp only [eF]⟩ rfl hQ
theorem k_X11_smooth : kV yX11_smooth cX11_smooth 4 (some .int) 1 := ⟨t_1038, t_1039, t_67, t_1040, by decide +kernel, by decide +kernel, by decide +kernel⟩
set_option maxRecDepth 20000 in
def F_X11_smooth (known : Int32) (fS : Nat → Int32) (fPast : Nat → Int32) (fOne : Nat → Int32) (letter : Int32) : Int32 × Int32 × Int32 × (Nat → Int32) × (Nat → Int32) × (Nat → Int32) := let r1 : Int32 := F_X11_isLetter letter; let x3 : Int32 := (if r1 = 0 then (1) else (0)); let r4 : Int32 := (F_X11_throwsAt x3).1; let x5 : Int32 := (F_X11_throwsAt x3).2; (if r4 = 0 then (let x9 : Int32 := (F_X11_saves known fS fPast).1; let g10 : Nat → Int32 := (F_X11_saves known fS fPast).2; let r12 : Int32 := (F_X11_lengthOf fS fOne letter).1; let g13 : Nat → Int32 := (F_X11_lengthOf fS fOne letter).2; let g15 : Nat → Int32 := upd fS ((((67 : Int32) * letter) + 0).toNatClampNeg) 1; let g17 : Nat → Int32 := upd g15 ((((67 : Int32) * letter) + 1).toNatClampNeg) 2; let g19 : Nat → Int32 := upd g17 ((((67 : Int32) * letter) + 2).toNatClampNeg) 3; let g21 : Nat → Int32 := upd g19 ((((67 : Int32) * letter) + 3).toNatClampNeg) 4; let g23 : Nat → Int32 := upd g21 ((((67 : Int32) * letter) + 4).toNatClampNeg) 0; let g25 : Nat → Int32 := upd g23 ((((67 : Int32) * letter) + 5).toNatClampNeg) 0; (r12, x9, x5, g25, g10, g13)) else ((0, known, x5, fS, fPast, fOne)))
set_option maxRecDepth 20000 in
def P_X11_smooth (known : Int32) (fS : Nat → Int32) (fPast : Nat → Int32) (fOne : Nat → Int32) (letter : Int32) : Prop := (∀ r1 : Int32, r1 = F_X11_isLetter letter → (∀ x3 : Int32, x3 = ((if r1 = 0 then (1) else (0))) → (∀ r4 : Int32, r4 = (F_X11_throwsAt x3).1 → (∀ x5 : Int32, x5 = (F_X11_throwsAt x3).2 → ((r4 = 0 → ((P_X11_saves known fS fPast) ∧ (∀ x9 : Int32, x9 = (F_X11_saves known fS fPast).1 → (∀ g10 : Nat → Int32, g10 = (F_X11_saves known fS fPast).2 → ((P_X11_lengthOf fS fOne letter) ∧ (∀ r12 : Int32, r12 = (F_X11_lengthOf fS fOne letter).1 → (∀ g13 : Nat → Int32, g13 = (F_X11_lengthOf fS fOne letter).2 → ((vp_in (((67 : Int32) * letter) + 0) 335) ∧ (∀ g15 : Nat → Int32, g15 = upd fS ((((67 : Int32) * letter) + 0).toNatClampNeg) 1 → ((vp_in (((67 : Int32) * letter) + 1) 335) ∧ (∀ g17 : Nat → Int32, g17 = upd g15 ((((67 : Int32) * letter) + 1).toNatClampNeg) 2 → ((vp_in (((67 : Int32) * letter) + 2) 335) ∧ (∀ g19 : Nat → Int32, g19 = upd g17 ((((67 : Int32) * letter) + 2).toNatClampNeg) 3 → ((vp_in (((67 : Int32) * letter) + 3) 335) ∧ (∀ g21 : Nat → Int32, g21 = upd g19 ((((67 : Int32) * letter) + 3).toNatClampNeg) 4 → ((vp_in (((67 : Int32) * letter) + 4) 335) ∧ (∀ g23 : Nat → Int32, g23 = upd g21 ((((67 : Int32) * letter) + 4).toNatClampNeg) 0 → (vp_in (((67 : Int32) * letter) + 5) 335)))))))))))))))))) ∧ (¬ r4 = 0 → True))))))
set_option maxRecDepth 20000 in
set_option maxHeartbeats 8000000 in
theorem m_X11_smooth (l : Launch) (D : va_G) (cI cL cP cJ : ClassId) (o : Nat) (aS : Nat) (aPast : Nat) (aSnap : Nat) (aText : Nat) (aOne : Nat) (aTwo : Nat) (aBoth : Nat) (aWord : Nat) (aOpen : Nat) (aTimes : Nat) (aFar : Nat) (aQueue : Nat) (known : Int32) (kept : Int32) (len : Int32) (thr : Int32) (cre : Int32) (hash : Int64) (fS : Nat → Int32) (fPast : Nat → Int32) (fOne : Nat → Int32) (letter : Int32) (hp : P_X11_smooth known fS fPast fOne letter) : M vI l yX11_smooth cX11_smooth 4 (some .int) 3 65 D (tyF cI cL cP cJ) [.ref o, .int letter] [[(o, .inr (9, [.ref aS, .ref aPast, .int known, .ref aSnap, .int kept, .ref aText, .int len, .int thr, .ref aOne, .ref aTwo, .ref aBoth, .ref aWord, .int cre, .ref aOpen, .ref aTimes, .ref aFar, .ref aQueue, .long hash]))], [(aS, .inl (cI, 335, .inl fS))], [(aPast, .inl (cI, 2010, .inl fPast))], [(aOne, .inl (cI, 4, .inl fOne))]] (fun (r : Int32) (w1 : List va_W) => r = (F_X11_smooth known fS fPast fOne letter).1 ∧ w1 = [[(o, .inr (9, [.ref aS, .ref aPast, .int ((F_X11_smooth known fS fPast fOne letter).2.1), .ref aSnap, .int kept, .ref aText, .int len, .int ((F_X11_smooth known fS fPast fOne letter).2.2.1), .ref aOne, .ref aTwo, .ref aBoth, .ref aWord, .int cre, .ref aOpen, .ref aTimes, .ref aFar, .ref aQueue, .long hash]))], [(aS, .inl (cI, 335, .inl ((F_X11_smooth known fS fPast fOne letter).2.2.2.1)))], [(aPast, .inl (cI, 2010, .inl ((F_X11_smooth known fS fPast fOne letter).2.2.2.2.1)))], [(aOne, .inl (cI, 4, .inl ((F_X11_smooth known fS fPast fOne letter).2.2.2.2.2)))]]) := by
  unfold P_X11_smooth at hp
  refine m_start (by decide +kernel) (Nat.le_of_ble_eq_true rfl) (fun p e s m args below meth c A Q hA hQ C hr hlo => ?_)
  refine r_Le (L' := [(0, .ref o), (1, .int letter)]) rfl ?_
  refine r_aload_n C dX11_smooth_0 0 rfl ?_
  refine r_iload_n C dX11_smooth_1 1 rfl ?_
  refine r_callS (wc := []) (wr := [[(o, .inr (9, [.ref aS, .ref aPast, .int known, .ref aSnap, .int kept, .ref aText, .int len, .int thr, .ref aOne, .ref aTwo, .ref aBoth, .ref aWord, .int cre, .ref aOpen, .ref aTimes, .ref aFar, .ref aQueue, .long hash]))], [(aS, .inl (cI, 335, .inl fS))], [(aPast, .inl (cI, 2010, .inl fPast))], [(aOne, .inl (cI, 4, .inl fOne))]]) (st := [.ref o]) C (m_X11_isLetter l D cI cL cP cJ letter) k_X11_isLetter t_956 [0, 1, 2, 3] (show ([0, 1, 2, 3] : List Nat).Perm (List.range 4) by decide) rfl rfl rfl (Nat.le_of_ble_eq_true rfl) ⟨Nat.le_of_ble_eq_true rfl, Nat.le_of_ble_eq_true rfl⟩ ⟨Nat.zero_le _, Nat.zero_le _⟩ dX11_smooth_2 (fun r1 wr1 hw1 => ?_)
  obtain ⟨e_r1, rfl⟩ := hw1
  have hp := hp r1 e_r1
  refine r_ws (I' := [[(o, .inr (9, [.ref aS, .ref aPast, .int known, .ref aSnap, .int kept, .ref aText, .int len, .int thr, .ref aOne, .ref aTwo, .ref aBoth, .ref aWord, .int cre, .ref aOpen, .ref aTimes, .ref aFar, .ref aQueue, .long hash]))], [(aS, .inl (cI, 335, .inl fS))], [(aPast, .inl (cI, 2010, .inl fPast))], [(aOne, .inl (cI, 4, .inl fOne))]]) rfl ?_
  suffices K : ∀ x3 : Int32, x3 = ((if r1 = 0 then (1) else (0))) → V p l e (rmm 3 65) s m args below meth c 4 D A 0 0 Q [[(o, .inr (9, [.ref aS, .ref aPast, .int known, .ref aSnap, .int kept, .ref aText, .int len, .int thr, .ref aOne, .ref aTwo, .ref aBoth, .ref aWord, .int cre, .ref aOpen, .ref aTimes, .ref aFar, .ref aQueue, .long hash]))], [(aS, .inl (cI, 335, .inl fS))], [(aPast, .inl (cI, 2010, .inl fPast))], [(aOne, .inl (cI, 4, .inl fOne))]] [(0, .ref o), (1, .int letter)] 13 [.int x3, .ref o] by
    refine r_if_eq (tgt := 12) C dX11_smooth_5 (by decide) (fun c2 => ?_) (fun c2 => ?_)
    · refine r_iconst (v := 1) C dX11_smooth_12 (by decide) ?_
      exact K _ (by simp only [if_pos c2])
    · refine r_iconst (v := 0) C dX11_smooth_8 (by decide) ?_
      refine r_goto (tgt := 13) C dX11_smooth_9 (by decide) ?_
      exact K _ (by simp only [if_neg c2])
  intro x3 e_x3
  have hp := hp x3 e_x3
  refine r_callV (ci := 9) (wc := [[(o, .inr (9, [.ref aS, .ref aPast, .int known, .ref aSnap, .int kept, .ref aText, .int len, .int thr, .ref aOne, .ref aTwo, .ref aBoth, .ref aWord, .int cre, .ref aOpen, .ref aTimes, .ref aFar, .ref aQueue, .long hash]))]]) (wr := [[(aS, .inl (cI, 335, .inl fS))], [(aPast, .inl (cI, 2010, .inl fPast))], [(aOne, .inl (cI, 4, .inl fOne))]]) (st := []) C (m_X11_throwsAt l D cI cL cP cJ o aS aPast aSnap aText aOne aTwo aBoth aWord aOpen aTimes aFar aQueue known kept len thr cre hash x3) k_X11_throwsAt t_974 [0, 1, 2, 3] (show ([0, 1, 2, 3] : List Nat).Perm (List.range 4) by decide) rfl rfl rfl (q0 := 0) rfl rfl rfl (Nat.le_of_ble_eq_true rfl) ⟨Nat.le_of_ble_eq_true rfl, Nat.le_of_ble_eq_true rfl⟩ ⟨Nat.zero_le _, Nat.zero_le _⟩ dX11_smooth_13 (fun r4 wr4 hw4 => ?_)
  obtain ⟨e_r4, rfl⟩ := hw4
  have hp := hp r4 e_r4
  obtain ⟨x5, e_x5⟩ : ∃ z : Int32, z = (F_X11_throwsAt x3).2 := ⟨_, rfl⟩
  have hp := hp x5 e_x5
  refine r_ws (I' := [[(o, .inr (9, [.ref aS, .ref aPast, .int known, .ref aSnap, .int kept, .ref aText, .int len, .int x5, .ref aOne, .ref aTwo, .ref aBoth, .ref aWord, .int cre, .ref aOpen, .ref aTimes, .ref aFar, .ref aQueue, .long hash]))], [(aS, .inl (cI, 335, .inl fS))], [(aPast, .inl (cI, 2010, .inl fPast))], [(aOne, .inl (cI, 4, .inl fOne))]]) (by rw [e_x5]; rfl) ?_
  refine r_if_eq (tgt := 21) C dX11_smooth_16 (by decide) (fun c6 => ?_) (fun c6 => ?_)
  · have hp := hp.1 c6
    refine r_aload_n C dX11_smooth_21 0 rfl ?_
    obtain ⟨h7, hp⟩ := hp
    refine r_callV (ci := 9) (wc := [[(o, .inr (9, [.ref aS, .ref aPast, .int known, .ref aSnap, .int kept, .ref aText, .int len, .int x5, .ref aOne, .ref aTwo, .ref aBoth, .ref aWord, .int cre, .ref aOpen, .ref aTimes, .ref aFar, .ref aQueue, .long hash]))], [(aS, .inl (cI, 335, .inl fS))], [(aPast, .inl (cI, 2010, .inl fPast))]]) (wr := [[(aOne, .inl (cI, 4, .inl fOne))]]) (st := []) C (m_X11_saves l D cI cL cP cJ o aS aPast aSnap aText aOne aTwo aBoth aWord aOpen aTimes aFar aQueue known kept len x5 cre hash fS fPast h7) k_X11_saves t_978 [0, 1, 2, 3] (show ([0, 1, 2, 3] : List Nat).Perm (List.range 4) by decide) rfl rfl rfl (q0 := 0) rfl rfl rfl (Nat.le_of_ble_eq_true rfl) ⟨Nat.le_of_ble_eq_true rfl, Nat.le_of_ble_eq_true rfl⟩ ⟨Nat.zero_le _, Nat.zero_le _⟩ dX11_smooth_22 (fun r8 wr8 hw8 => ?_)
    obtain rfl := hw8
    obtain ⟨x9, e_x9⟩ : ∃ z : Int32, z = (F_X11_saves known fS fPast).1 := ⟨_, rfl⟩
    have hp := hp x9 e_x9
    obtain ⟨g10, e_g10⟩ : ∃ z : Nat → Int32, z = (F_X11_saves known fS fPast).2 := ⟨_, rfl⟩
    have hp := hp g10 e_g10
    refine r_ws (I' := [[(o, .inr (9, [.ref aS, .ref aPast, .int x9, .ref aSnap, .int kept, .ref aText, .int len, .int x5, .ref aOne, .ref aTwo, .ref aBoth, .ref aWord, .int cre, .ref aOpen, .ref aTimes, .ref aFar, .ref aQueue, .long hash]))], [(aS, .inl (cI, 335, .inl fS))], [(aPast, .inl (cI, 2010, .inl g10))], [(aOne, .inl (cI, 4, .inl fOne))]]) (by rw [e_x9, e_g10]; rfl) ?_
    refine r_aload_n C dX11_smooth_25 0 rfl ?_
    refine r_iload_n C dX11_smooth_26 1 rfl ?_
    obtain ⟨h11, hp⟩ := hp
    refine r_callV (ci := 9) (wc := [[(o, .inr (9, [.ref aS, .ref aPast, .int x9, .ref aSnap, .int kept, .ref aText, .int len, .int x5, .ref aOne, .ref aTwo, .ref aBoth, .ref aWord, .int cre, .ref aOpen, .ref aTimes, .ref aFar, .ref aQueue, .long hash]))], [(aS, .inl (cI, 335, .inl fS))], [(aOne, .inl (cI, 4, .inl fOne))]]) (wr := [[(aPast, .inl (cI, 2010, .inl g10))]]) (st := []) C (m_X11_lengthOf l D cI cL cP cJ o aS aPast aSnap aText aOne aTwo aBoth aWord aOpen aTimes aFar aQueue x9 kept len x5 cre hash fS fOne letter h11) k_X11_lengthOf t_1002 [0, 1, 3, 2] (show ([0, 1, 3, 2] : List Nat).Perm (List.range 4) by decide) rfl rfl rfl (q0 := 0) rfl rfl rfl (Nat.le_of_ble_eq_true rfl) ⟨Nat.le_of_ble_eq_true rfl, Nat.le_of_ble_eq_true rfl⟩ ⟨Nat.zero_le _, Nat.zero_le _⟩ dX11_smooth_27 (fun r12 wr12 hw12 => ?_)
    obtain ⟨e_r12, rfl⟩ := hw12
    have hp := hp r12 e_r12
    obtain ⟨g13, e_g13⟩ : ∃ z : Nat → Int32, z = (F_X11_lengthOf fS fOne letter).2 := ⟨_, rfl⟩
    have hp := hp g13 e_g13
    refine r_ws (I' := [[(o, .inr (9, [.ref aS, .ref aPast, .int x9, .ref aSnap, .int kept, .ref aText, .int len, .int x5, .ref aOne, .ref aTwo, .ref aBoth, .ref aWord, .int cre, .ref aOpen, .ref aTimes, .ref aFar, .ref aQueue, .long hash]))], [(aS, .inl (cI, 335, .inl fS))], [(aOne, .inl (cI, 4, .inl g13))], [(aPast, .inl (cI, 2010, .inl g10))]]) (by rw [e_g13]; rfl) ?_
    refine r_istore_n (L' := [(2, .int r12), (0, .ref o), (1, .int letter)]) C dX11_smooth_30 (by decide) rfl ?_
    refine r_iconst (v := 0) C dX11_smooth_31 (by decide) ?_
    refine r_istore_n (L' := [(3, .int 0), (2, .int r12), (0, .ref o), (1, .int letter)]) C dX11_smooth_32 (by decide) rfl ?_
    refine r_iload_n C dX11_smooth_33 0 rfl ?_
    refine r_iconst (v := 4) C dX11_smooth_34 (by decide) ?_
    refine r_icmp_ge (tgt := 58) C dX11_smooth_35 (by decide) (fun c => absurd c (by decide)) (fun _ => ?_)
    refine r_aload_n C dX11_smooth_38 2 rfl ?_
    refine r_get (Cn := RX11) (T := TX11) (N := 18) C inT11 0 rfl rfl 0 (by decide) t_893 rfl dX11_smooth_39 ?_
    refine r_bipush (v := 67) C dX11_smooth_42 (by decide) ?_
    refine r_iload_n C dX11_smooth_44 3 rfl ?_
    refine r_imul C dX11_smooth_45 rfl ?_
    refine r_iload_n C dX11_smooth_46 0 rfl ?_
    refine r_iadd C dX11_smooth_47 rfl ?_
    refine r_iload_n C dX11_smooth_48 0 rfl ?_
    refine r_iconst (v := 1) C dX11_smooth_49 (by decide) ?_
    refine r_iadd (z := 1) C dX11_smooth_50 (by decide) ?_
    obtain ⟨h14, hp⟩ := hp
    obtain ⟨g15, e_g15⟩ : ∃ z : Nat → Int32, z = upd fS ((((67 : Int32) * letter) + 0).toNatClampNeg) 1 := ⟨_, rfl⟩
    have hp := hp g15 e_g15
    refine r_iast C 1 0 rfl rfl h14 (I' := [[(o, .inr (9, [.ref aS, .ref aPast, .int x9, .ref aSnap, .int kept, .ref aText, .int len, .int x5, .ref aOne, .ref aTwo, .ref aBoth, .ref aWord, .int cre, .ref aOpen, .ref aTimes, .ref aFar, .ref aQueue, .long hash]))], [(aS, .inl (cI, 335, .inl g15))], [(aOne, .inl (cI, 4, .inl g13))], [(aPast, .inl (cI, 2010, .inl g10))]]) (by rw [e_g15]; rfl) dX11_smooth_51 ?_
    refine r_iinc (v := 1) (L' := [(3, .int 1), (2, .int r12), (0, .ref o), (1, .int letter)]) C dX11_smooth_52 0 rfl (by decide) (by decide) rfl ?_
    refine r_goto (tgt := 33) C dX11_smooth_55 (by decide) ?_
    refine r_iload_n C dX11_smooth_33 0 rfl ?_
    refine r_iconst (v := 4) C dX11_smooth_34 (by decide) ?_
    refine r_icmp_ge (tgt := 58) C dX11_smooth_35 (by decide) (fun c => absurd c (by decide)) (fun _ => ?_)
    refine r_aload_n C dX11_smooth_38 2 rfl ?_
    refine r_get (Cn := RX11) (T := TX11) (N := 18) C inT11 0 rfl rfl 0 (by decide) t_893 rfl dX11_smooth_39 ?_
    refine r_bipush (v := 67) C dX11_smooth_42 (by decide) ?_
    refine r_iload_n C dX11_smooth_44 3 rfl ?_
    refine r_imul C dX11_smooth_45 rfl ?_
    refine r_iload_n C dX11_smooth_46 0 rfl ?_
    refine r_iadd C dX11_smooth_47 rfl ?_
    refine r_iload_n C dX11_smooth_48 0 rfl ?_
    refine r_iconst (v := 1) C dX11_smooth_49 (by decide) ?_
    refine r_iadd (z := 2) C dX11_smooth_50 (by decide) ?_
    obtain ⟨h16, hp⟩ := hp
    obtain ⟨g17, e_g17⟩ : ∃ z : Nat → Int32, z = upd g15 ((((67 : Int32) * letter) + 1).toNatClampNeg) 2 := ⟨_, rfl⟩
    have hp := hp g17 e_g17
    refine r_iast C 1 0 rfl rfl h16 (I' := [[(o, .inr (9, [.ref aS, .ref aPast, .int x9, .ref aSnap, .int kept, .ref aText, .int len, .int x5, .ref aOne, .ref aTwo, .ref aBoth, .ref aWord, .int cre, .ref aOpen, .ref aTimes, .ref aFar, .ref aQueue, .long hash]))], [(aS, .inl (cI, 335, .inl g17))], [(aOne, .inl (cI, 4, .inl g13))], [(aPast, .inl (cI, 2010, .inl g10))]]) (by rw [e_g17]; rfl) dX11_smooth_51 ?_
    refine r_iinc (v := 2) (L' := [(3, .int 2), (2, .int r12), (0, .ref o), (1, .int letter)]) C dX11_smooth_52 0 rfl (by decide) (by decide) rfl ?_
    refine r_goto (tgt := 33) C dX11_smooth_55 (by decide) ?_
    refine r_iload_n C dX11_smooth_33 0 rfl ?_
    refine r_iconst (v := 4) C dX11_smooth_34 (by decide) ?_
    refine r_icmp_ge (tgt := 58) C dX11_smooth_35 (by decide) (fun c => absurd c (by decide)) (fun _ => ?_)
    refine r_aload_n C dX11_smooth_38 2 rfl ?_
    refine r_get (Cn := RX11) (T := TX11) (N := 18) C inT11 0 rfl rfl 0 (by decide) t_893 rfl dX11_smooth_39 ?_
    refine r_bipush (v := 67) C dX11_smooth_42 (by decide) ?_
    refine r_iload_n C dX11_smooth_44 3 rfl ?_
    refine r_imul C dX11_smooth_45 rfl ?_
    refine r_iload_n C dX11_smooth_46 0 rfl ?_
    refine r_iadd C dX11_smooth_47 rfl ?_
    refine r_iload_n C dX11_smooth_48 0 rfl ?_
    refine r_iconst (v := 1) C dX11_smooth_49 (by decide) ?_
    refine r_iadd (z := 3) C dX11_smooth_50 (by decide) ?_
    obtain ⟨h18, hp⟩ := hp
    obtain ⟨g19, e_g19⟩ : ∃ z : Nat → Int32, z = upd g17 ((((67 : Int32) * letter) + 2).toNatClampNeg) 3 := ⟨_, rfl⟩
    have hp := hp g19 e_g19
    refine r_iast C 1 0 rfl rfl h18 (I' := [[(o, .inr (9, [.ref aS, .ref aPast, .int x9, .ref aSnap, .int kept, .ref aText, .int len, .int x5, .ref aOne, .ref aTwo, .ref aBoth, .ref aWord, .int cre, .ref aOpen, .ref aTimes, .ref aFar, .ref aQueue, .long hash]))], [(aS, .inl (cI, 335, .inl g19))], [(aOne, .inl (cI, 4, .inl g13))], [(aPast, .inl (cI, 2010, .inl g10))]]) (by rw [e_g19]; rfl) dX11_smooth_51 ?_
    refine r_iinc (v := 3) (L' := [(3, .int 3), (2, .int r12), (0, .ref o), (1, .int letter)]) C dX11_smooth_52 0 rfl (by decide) (by decide) rfl ?_
    refine r_goto (tgt := 33) C dX11_smooth_55 (by decide) ?_
    refine r_iload_n C dX11_smooth_33 0 rfl ?_
    refine r_iconst (v := 4) C dX11_smooth_34 (by decide) ?_
    refine r_icmp_ge (tgt := 58) C dX11_smooth_35 (by decide) (fun c => absurd c (by decide)) (fun _ => ?_)
    refine r_aload_n C dX11_smooth_38 2 rfl ?_
    refine r_get (Cn := RX11) (T := TX11) (N := 18) C inT11 0 rfl rfl 0 (by decide) t_893 rfl dX11_smooth_39 ?_
    refine r_bipush (v := 67) C dX11_smooth_42 (by decide) ?_
    refine r_iload_n C dX11_smooth_44 3 rfl ?_
    refine r_imul C dX11_smooth_45 rfl ?_
    refine r_iload_n C dX11_smooth_46 0 rfl ?_
    refine r_iadd C dX11_smooth_47 rfl ?_
    refine r_iload_n C dX11_smooth_48 0 rfl ?_
    refine r_iconst (v := 1) C dX11_smooth_49 (by decide) ?_
    refine r_iadd (z := 4) C dX11_smooth_50 (by decide) ?_
    obtain ⟨h20, hp⟩ := hp
    obtain ⟨g21, e_g21⟩ : ∃ z : Nat → Int32, z = upd g19 ((((67 : Int32) * letter) + 3).toNatClampNeg) 4 := ⟨_, rfl⟩
    have hp := hp g21 e_g21
    refine r_iast C 1 0 rfl rfl h20 (I' := [[(o, .inr (9, [.ref aS, .ref aPast, .int x9, .ref aSnap, .int kept, .ref aText, .int len, .int x5, .ref aOne, .ref aTwo, .ref aBoth, .ref aWord, .int cre, .ref aOpen, .ref aTimes, .ref aFar, .ref aQueue, .long hash]))], [(aS, .inl (cI, 335, .inl g21))], [(aOne, .inl (cI, 4, .inl g13))], [(aPast, .inl (cI, 2010, .inl g10))]]) (by rw [e_g21]; rfl) dX11_smooth_51 ?_
    refine r_iinc (v := 4) (L' := [(3, .int 4), (2, .int r12), (0, .ref o), (1, .int letter)]) C dX11_smooth_52 0 rfl (by decide) (by decide) rfl ?_
    refine r_goto (tgt := 33) C dX11_smooth_55 (by decide) ?_
    refine r_iload_n C dX11_smooth_33 0 rfl ?_
    refine r_iconst (v := 4) C dX11_smooth_34 (by decide) ?_
    refine r_icmp_ge (tgt := 58) C dX11_smooth_35 (by decide) (fun _ => ?_) (fun c => absurd c (by decide))
    refine r_aload_n C dX11_smooth_58 2 rfl ?_
    refine r_get (Cn := RX11) (T := TX11) (N := 18) C inT11 0 rfl rfl 0 (by decide) t_893 rfl dX11_smooth_59 ?_
    refine r_bipush (v := 67) C dX11_smooth_62 (by decide) ?_
    refine r_iload_n C dX11_smooth_64 3 rfl ?_
    refine r_imul C dX11_smooth_65 rfl ?_
    refine r_iconst (v := 4) C dX11_smooth_66 (by decide) ?_
    refine r_iadd C dX11_smooth_67 rfl ?_
    refine r_iconst (v := 0) C dX11_smooth_68 (by decide) ?_
    obtain ⟨h22, hp⟩ := hp
    obtain ⟨g23, e_g23⟩ : ∃ z : Nat → Int32, z = upd g21 ((((67 : Int32) * letter) + 4).toNatClampNeg) 0 := ⟨_, rfl⟩
    have hp := hp g23 e_g23
    refine r_iast C 1 0 rfl rfl h22 (I' := [[(o, .inr (9, [.ref aS, .ref aPast, .int x9, .ref aSnap, .int kept, .ref aText, .int len, .int x5, .ref aOne, .ref aTwo, .ref aBoth, .ref aWord, .int cre, .ref aOpen, .ref aTimes, .ref aFar, .ref aQueue, .long hash]))], [(aS, .inl (cI, 335, .inl g23))], [(aOne, .inl (cI, 4, .inl g13))], [(aPast, .inl (cI, 2010, .inl g10))]]) (by rw [e_g23]; rfl) dX11_smooth_69 ?_
    refine r_aload_n C dX11_smooth_70 2 rfl ?_
    refine r_get (Cn := RX11) (T := TX11) (N := 18) C inT11 0 rfl rfl 0 (by decide) t_893 rfl dX11_smooth_71 ?_
    refine r_bipush (v := 67) C dX11_smooth_74 (by decide) ?_
    refine r_iload_n C dX11_smooth_76 3 rfl ?_
    refine r_imul C dX11_smooth_77 rfl ?_
    refine r_iconst (v := 5) C dX11_smooth_78 (by decide) ?_
    refine r_iadd C dX11_smooth_79 rfl ?_
    refine r_iconst (v := 0) C dX11_smooth_80 (by decide) ?_
    have h24 := hp
    obtain ⟨g25, e_g25⟩ : ∃ z : Nat → Int32, z = upd g23 ((((67 : Int32) * letter) + 5).toNatClampNeg) 0 := ⟨_, rfl⟩
    refine r_iast C 1 0 rfl rfl h24 (I' := [[(o, .inr (9, [.ref aS, .ref aPast, .int x9, .ref aSnap, .int kept, .ref aText, .int len, .int x5, .ref aOne, .ref aTwo, .ref aBoth, .ref aWord, .int cre, .ref aOpen, .ref aTimes, .ref aFar, .ref aQueue, .long hash]))], [(aS, .inl (cI, 335, .inl g25))], [(aOne, .inl (cI, 4, .inl g13))], [(aPast, .inl (cI, 2010, .inl g10))]]) (by rw [e_g25]; rfl) dX11_smooth_81 ?_
    refine r_iload_n C dX11_smooth_82 1 rfl ?_
    refine r_pl (I' := [[(o, .inr (9, [.ref aS, .ref aPast, .int x9, .ref aSnap, .int kept, .ref aText, .int len, .int x5, .ref aOne, .ref aTwo, .ref aBoth, .ref aWord, .int cre, .ref aOpen, .ref aTimes, .ref aFar, .ref aQueue, .long hash]))], [(aS, .inl (cI, 335, .inl g25))], [(aPast, .inl (cI, 2010, .inl g10))], [(aOne, .inl (cI, 4, .inl g13))]]) [0, 1, 3, 2] (show ([0, 1, 3, 2] : List Nat).Perm (List.range 4) by decide) rfl ?_
    have eF : F_X11_smooth known fS fPast fOne letter = (r12, x9, x5, g25, g10, g13) := by have q := e_r1.symm; subst q; have q := e_x3.symm; subst q; have q := e_r4.symm; subst q; have q := e_x5.symm; subst q; have q := e_x9.symm; subst q; have q := e_g10.symm; subst q; have q := e_r12.symm; subst q; have q := e_g13.symm; subst q; have q := e_g15.symm; subst q; have q := e_g17.symm; subst q; have q := e_g19.symm; subst q; have q := e_g21.symm; subst q; have q := e_g23.symm; subst q; have q := e_g25.symm; subst q; simp only [F_X11_smooth, if_pos c6]
    exact r_iret (r := r12) C hA hr hlo dX11_smooth_83 [[(o, .inr (9, [.ref aS, .ref aPast, .int x9, .ref aSnap, .int kept, .ref aText, .int len, .int x5, .ref aOne, .ref aTwo, .ref aBoth, .ref aWord, .int cre, .ref aOpen, .ref aTimes, .ref aFar, .ref aQueue, .long hash]))], [(aS, .inl (cI, 335, .inl g25))], [(aPast, .inl (cI, 2010, .inl g10))], [(aOne, .inl (cI, 4, .inl g13))]] ⟨by simp only [eF], by simp only [eF]⟩ rfl hQ
  · refine r_iconst (v := 0) C dX11_smooth_19 (by decide) ?_
    have eF : F_X11_smooth known fS fPast fOne letter = (0, known, x5, fS, fPast, fOne) := by have q := e_r1.symm; subst q; have q := e_x3.symm; subst q; have q := e_r4.symm; subst q; have q := e_x5.symm; subst q; simp only [F_X11_smooth, if_neg c6]
    exact r_iret (r := 0) C hA hr hlo dX11_smooth_20 [[(o, .inr (9, [.ref aS, .ref aPast, .int known, .ref aSnap, .int kept, .ref aText, .int len, .int x5, .ref aOne, .ref aTwo, .ref aBoth, .ref aWord, .int cre, .ref aOpen, .ref aTimes, .ref aFar, .ref aQueue, .long hash]))], [(aS, .inl (cI, 335, .inl fS))], [(aPast, .inl (cI, 2010, .inl fPast))], [(aOne, .inl (cI, 4, .inl fOne))]] ⟨by simp only [eF], by simp only [eF]⟩ rfl hQ
theorem k_X11_becomes : kV yX11_becomes cX11_becomes 2 (some .int) 1 := ⟨t_1055, t_29, t_67, t_1056, by decide +kernel, by decide +kernel, by decide +kernel⟩
set_option maxRecDepth 20000 in
def F_X11_becomes (fS : Nat → Int32) (fOne : Nat → Int32) (fWord : Nat → Int32) (letter : Int32) : Int32 × Int32 × (Nat → Int32) × (Nat → Int32) × (Nat → Int32) := let g3 : Nat → Int32 := F_X11_lays fS fOne letter; let g5 : Nat → Int32 := upd g3 ((((67 : Int32) * letter) + 5).toNatClampNeg) 0; let x8 : Int32 := (F_X11_presses g5 fOne fWord letter).1; let g9 : Nat → Int32 := (F_X11_presses g5 fOne fWord letter).2.1; let g10 : Nat → Int32 := (F_X11_presses g5 fOne fWord letter).2.2.1; let g11 : Nat → Int32 := (F_X11_presses g5 fOne fWord letter).2.2.2; let r13 : Int32 := F_X11_its g9 letter 4; (r13, x8, g9, g10, g11)
set_option maxRecDepth 20000 in
def P_X11_becomes (fS : Nat → Int32) (fOne : Nat → Int32) (fWord : Nat → Int32) (letter : Int32) : Prop := ((P_X11_lays fS fOne letter) ∧ (∀ g3 : Nat → Int32, g3 = F_X11_lays fS fOne letter → ((vp_in (((67 : Int32) * letter) + 5) 335) ∧ (∀ g5 : Nat → Int32, g5 = upd g3 ((((67 : Int32) * letter) + 5).toNatClampNeg) 0 → ((P_X11_presses g5 fOne fWord letter) ∧ (∀ x8 : Int32, x8 = (F_X11_presses g5 fOne fWord letter).1 → (∀ g9 : Nat → Int32, g9 = (F_X11_presses g5 fOne fWord letter).2.1 → (∀ g10 : Nat → Int32, g10 = (F_X11_presses g5 fOne fWord letter).2.2.1 → (∀ g11 : Nat → Int32, g11 = (F_X11_presses g5 fOne fWord letter).2.2.2 → (P_X11_its letter 4))))))))))
set_option maxRecDepth 20000 in
set_option maxHeartbeats 8000000 in
theorem m_X11_becomes (l : Launch) (D : va_G) (cI cL cP cJ : ClassId) (o : Nat) (aS : Nat) (aPast : Nat) (aSnap : Nat) (aText : Nat) (aOne : Nat) (aTwo : Nat) (aBoth : Nat) (aWord : Nat) (aOpen : Nat) (aTimes : Nat) (aFar : Nat) (aQueue : Nat) (known : Int32) (kept : Int32) (len : Int32) (thr : Int32) (cre : Int32) (hash : Int64) (fS : Nat → Int32) (fOne : Nat → Int32) (fWord : Nat → Int32) (letter : Int32) (hp : P_X11_becomes fS fOne fWord letter) : M vI l yX11_becomes cX11_becomes 2 (some .int) 4 89 D (tyF cI cL cP cJ) [.ref o, .int letter] [[(o, .inr (9, [.ref aS, .ref aPast, .int known, .ref aSnap, .int kept, .ref aText, .int len, .int thr, .ref aOne, .ref aTwo, .ref aBoth, .ref aWord, .int cre, .ref aOpen, .ref aTimes, .ref aFar, .ref aQueue, .long hash]))], [(aS, .inl (cI, 335, .inl fS))], [(aOne, .inl (cI, 4, .inl fOne))], [(aWord, .inl (cI, 20, .inl fWord))]] (fun (r : Int32) (w1 : List va_W) => r = (F_X11_becomes fS fOne fWord letter).1 ∧ w1 = [[(o, .inr (9, [.ref aS, .ref aPast, .int known, .ref aSnap, .int kept, .ref aText, .int len, .int thr, .ref aOne, .ref aTwo, .ref aBoth, .ref aWord, .int ((F_X11_becomes fS fOne fWord letter).2.1), .ref aOpen, .ref aTimes, .ref aFar, .ref aQueue, .long hash]))], [(aS, .inl (cI, 335, .inl ((F_X11_becomes fS fOne fWord letter).2.2.1)))], [(aOne, .inl (cI, 4, .inl ((F_X11_becomes fS fOne fWord letter).2.2.2.1)))], [(aWord, .inl (cI, 20, .inl ((F_X11_becomes fS fOne fWord letter).2.2.2.2)))]]) := by
  unfold P_X11_becomes at hp
  refine m_start (by decide +kernel) (Nat.le_of_ble_eq_true rfl) (fun p e s m args below meth c A Q hA hQ C hr hlo => ?_)
  refine r_Le (L' := [(0, .ref o), (1, .int letter)]) rfl ?_
  refine r_aload_n C dX11_becomes_0 0 rfl ?_
  refine r_iload_n C dX11_becomes_1 1 rfl ?_
  obtain ⟨h1, hp⟩ := hp
  refine r_callV (ci := 9) (wc := [[(o, .inr (9, [.ref aS, .ref aPast, .int known, .ref aSnap, .int kept, .ref aText, .int len, .int thr, .ref aOne, .ref aTwo, .ref aBoth, .ref aWord, .int cre, .ref aOpen, .ref aTimes, .ref aFar, .ref aQueue, .long hash]))], [(aS, .inl (cI, 335, .inl fS))], [(aOne, .inl (cI, 4, .inl fOne))]]) (wr := [[(aWord, .inl (cI, 20, .inl fWord))]]) (st := []) C (m_X11_lays l D cI cL cP cJ o aS aPast aSnap aText aOne aTwo aBoth aWord aOpen aTimes aFar aQueue known kept len thr cre hash fS fOne letter h1) k_X11_lays t_998 [0, 1, 2, 3] (show ([0, 1, 2, 3] : List Nat).Perm (List.range 4) by decide) rfl rfl rfl (q0 := 0) rfl rfl rfl (Nat.le_of_ble_eq_true rfl) ⟨Nat.le_of_ble_eq_true rfl, Nat.le_of_ble_eq_true rfl⟩ ⟨Nat.zero_le _, Nat.zero_le _⟩ dX11_becomes_2 (fun r2 wr2 hw2 => ?_)
  obtain rfl := hw2
  obtain ⟨g3, e_g3⟩ : ∃ z : Nat → Int32, z = F_X11_lays fS fOne letter := ⟨_, rfl⟩
  have hp := hp g3 e_g3
  refine r_ws (I' := [[(o, .inr (9, [.ref aS, .ref aPast, .int known, .ref aSnap, .int kept, .ref aText, .int len, .int thr, .ref aOne, .ref aTwo, .ref aBoth, .ref aWord, .int cre, .ref aOpen, .ref aTimes, .ref aFar, .ref aQueue, .long hash]))], [(aS, .inl (cI, 335, .inl g3))], [(aOne, .inl (cI, 4, .inl fOne))], [(aWord, .inl (cI, 20, .inl fWord))]]) (by rw [e_g3]; rfl) ?_
  refine r_aload_n C dX11_becomes_5 0 rfl ?_
  refine r_get (Cn := RX11) (T := TX11) (N := 18) C inT11 0 rfl rfl 0 (by decide) t_893 rfl dX11_becomes_6 ?_
  refine r_bipush (v := 67) C dX11_becomes_9 (by decide) ?_
  refine r_iload_n C dX11_becomes_11 1 rfl ?_
  refine r_imul C dX11_becomes_12 rfl ?_
  refine r_iconst (v := 5) C dX11_becomes_13 (by decide) ?_
  refine r_iadd C dX11_becomes_14 rfl ?_
  refine r_iconst (v := 0) C dX11_becomes_15 (by decide) ?_
  obtain ⟨h4, hp⟩ := hp
  obtain ⟨g5, e_g5⟩ : ∃ z : Nat → Int32, z = upd g3 ((((67 : Int32) * letter) + 5).toNatClampNeg) 0 := ⟨_, rfl⟩
  have hp := hp g5 e_g5
  refine r_iast C 1 0 rfl rfl h4 (I' := [[(o, .inr (9, [.ref aS, .ref aPast, .int known, .ref aSnap, .int kept, .ref aText, .int len, .int thr, .ref aOne, .ref aTwo, .ref aBoth, .ref aWord, .int cre, .ref aOpen, .ref aTimes, .ref aFar, .ref aQueue, .long hash]))], [(aS, .inl (cI, 335, .inl g5))], [(aOne, .inl (cI, 4, .inl fOne))], [(aWord, .inl (cI, 20, .inl fWord))]]) (by rw [e_g5]; rfl) dX11_becomes_16 ?_
  refine r_aload_n C dX11_becomes_17 0 rfl ?_
  refine r_iload_n C dX11_becomes_18 1 rfl ?_
  obtain ⟨h6, hp⟩ := hp
  refine r_callV (ci := 9) (wc := [[(o, .inr (9, [.ref aS, .ref aPast, .int known, .ref aSnap, .int kept, .ref aText, .int len, .int thr, .ref aOne, .ref aTwo, .ref aBoth, .ref aWord, .int cre, .ref aOpen, .ref aTimes, .ref aFar, .ref aQueue, .long hash]))], [(aS, .inl (cI, 335, .inl g5))], [(aOne, .inl (cI, 4, .inl fOne))], [(aWord, .inl (cI, 20, .inl fWord))]]) (wr := []) (st := []) C (m_X11_presses l D cI cL cP cJ o aS aPast aSnap aText aOne aTwo aBoth aWord aOpen aTimes aFar aQueue known kept len thr cre hash g5 fOne fWord letter h6) k_X11_presses t_1018 [0, 1, 2, 3] (show ([0, 1, 2, 3] : List Nat).Perm (List.range 4) by decide) rfl rfl rfl (q0 := 0) rfl rfl rfl (Nat.le_of_ble_eq_true rfl) ⟨Nat.le_of_ble_eq_true rfl, Nat.le_of_ble_eq_true rfl⟩ ⟨Nat.zero_le _, Nat.zero_le _⟩ dX11_becomes_19 (fun r7 wr7 hw7 => ?_)
  obtain rfl := hw7
  obtain ⟨x8, e_x8⟩ : ∃ z : Int32, z = (F_X11_presses g5 fOne fWord letter).1 := ⟨_, rfl⟩
  have hp := hp x8 e_x8
  obtain ⟨g9, e_g9⟩ : ∃ z : Nat → Int32, z = (F_X11_presses g5 fOne fWord letter).2.1 := ⟨_, rfl⟩
  have hp := hp g9 e_g9
  obtain ⟨g10, e_g10⟩ : ∃ z : Nat → Int32, z = (F_X11_presses g5 fOne fWord letter).2.2.1 := ⟨_, rfl⟩
  have hp := hp g10 e_g10
  obtain ⟨g11, e_g11⟩ : ∃ z : Nat → Int32, z = (F_X11_presses g5 fOne fWord letter).2.2.2 := ⟨_, rfl⟩
  have hp := hp g11 e_g11
  refine r_ws (I' := [[(o, .inr (9, [.ref aS, .ref aPast, .int known, .ref aSnap, .int kept, .ref aText, .int len, .int thr, .ref aOne, .ref aTwo, .ref aBoth, .ref aWord, .int x8, .ref aOpen, .ref aTimes, .ref aFar, .ref aQueue, .long hash]))], [(aS, .inl (cI, 335, .inl g9))], [(aOne, .inl (cI, 4, .inl g10))], [(aWord, .inl (cI, 20, .inl g11))]]) (by rw [e_x8, e_g9, e_g10, e_g11]; rfl) ?_
  refine r_aload_n C dX11_becomes_22 0 rfl ?_
  refine r_iload_n C dX11_becomes_23 1 rfl ?_
  refine r_iconst (v := 4) C dX11_becomes_24 (by decide) ?_
  have h12 := hp
  refine r_callV (ci := 9) (wc := [[(o, .inr (9, [.ref aS, .ref aPast, .int known, .ref aSnap, .int kept, .ref aText, .int len, .int thr, .ref aOne, .ref aTwo, .ref aBoth, .ref aWord, .int x8, .ref aOpen, .ref aTimes, .ref aFar, .ref aQueue, .long hash]))], [(aS, .inl (cI, 335, .inl g9))]]) (wr := [[(aOne, .inl (cI, 4, .inl g10))], [(aWord, .inl (cI, 20, .inl g11))]]) (st := []) C (m_X11_its l D cI cL cP cJ o aS aPast aSnap aText aOne aTwo aBoth aWord aOpen aTimes aFar aQueue known kept len thr x8 hash g9 letter 4 h12) k_X11_its t_966 [0, 1, 2, 3] (show ([0, 1, 2, 3] : List Nat).Perm (List.range 4) by decide) rfl rfl rfl (q0 := 0) rfl rfl rfl (Nat.le_of_ble_eq_true rfl) ⟨Nat.le_of_ble_eq_true rfl, Nat.le_of_ble_eq_true rfl⟩ ⟨Nat.zero_le _, Nat.zero_le _⟩ dX11_becomes_25 (fun r13 wr13 hw13 => ?_)
  obtain ⟨e_r13, rfl⟩ := hw13
  refine r_ws (I' := [[(o, .inr (9, [.ref aS, .ref aPast, .int known, .ref aSnap, .int kept, .ref aText, .int len, .int thr, .ref aOne, .ref aTwo, .ref aBoth, .ref aWord, .int x8, .ref aOpen, .ref aTimes, .ref aFar, .ref aQueue, .long hash]))], [(aS, .inl (cI, 335, .inl g9))], [(aOne, .inl (cI, 4, .inl g10))], [(aWord, .inl (cI, 20, .inl g11))]]) rfl ?_
  have eF : F_X11_becomes fS fOne fWord letter = (r13, x8, g9, g10, g11) := by have q := e_g3.symm; subst q; have q := e_g5.symm; subst q; have q := e_x8.symm; subst q; have q := e_g9.symm; subst q; have q := e_g10.symm; subst q; have q := e_g11.symm; subst q; have q := e_r13.symm; subst q; rfl
  exact r_iret (r := r13) C hA hr hlo dX11_becomes_28 [[(o, .inr (9, [.ref aS, .ref aPast, .int known, .ref aSnap, .int kept, .ref aText, .int len, .int thr, .ref aOne, .ref aTwo, .ref aBoth, .ref aWord, .int x8, .ref aOpen, .ref aTimes, .ref aFar, .ref aQueue, .long hash]))], [(aS, .inl (cI, 335, .inl g9))], [(aOne, .inl (cI, 4, .inl g10))], [(aWord, .inl (cI, 20, .inl g11))]] ⟨by simp only [eF], by simp only [eF]⟩ rfl hQ
theorem k_X11_product : kV yX11_product cX11_product 4 (some .int) 3 := ⟨t_1042, t_1043, t_67, t_1044, by decide +kernel, by decide +kernel, by decide +kernel⟩
set_option maxRecDepth 20000 in
def F_X11_product (known : Int32) (cre : Int32) (fS : Nat → Int32) (fPast : Nat → Int32) (fOne : Nat → Int32) (fTwo : Nat → Int32) (fBoth : Nat → Int32) (fWord : Nat → Int32) (letter : Int32) (fst : Int32) (snd : Int32) : Int32 × Int32 × Int32 × Int32 × (Nat → Int32) × (Nat → Int32) × (Nat → Int32) × (Nat → Int32) × (Nat → Int32) × (Nat → Int32) := let r1 : Int32 := F_X11_isLetter letter; let x7 : Int32 := (if r1 = 0 then (1) else (let r3 : Int32 := F_X11_isLetter fst; (if r3 = 0 then (1) else (let r5 : Int32 := F_X11_isLetter snd; (if r5 = 0 then (1) else (0)))))); let r8 : Int32 := (F_X11_throwsAt x7).1; let x9 : Int32 := (F_X11_throwsAt x7).2; (if r8 = 0 then (let x13 : Int32 := (F_X11_saves known fS fPast).1; let g14 : Nat → Int32 := (F_X11_saves known fS fPast).2; let g17 : Nat → Int32 := F_X11_takes fS fOne fst; let g20 : Nat → Int32 := F_X11_takesOther fS fTwo snd; let g23 : Nat → Int32 := (F_X11_multiplies g17 g20 fBoth).1; let g24 : Nat → Int32 := (F_X11_multiplies g17 g20 fBoth).2; let r26 : Int32 := (F_X11_becomes fS g23 fWord letter).1; let x27 : Int32 := (F_X11_becomes fS g23 fWord letter).2.1; let g28 : Nat → Int32 := (F_X11_becomes fS g23 fWord letter).2.2.1; let g29 : Nat → Int32 := (F_X11_becomes fS g23 fWord letter).2.2.2.1; let g30 : Nat → Int32 := (F_X11_becomes fS g23 fWord letter).2.2.2.2; (r26, x13, x9, x27, g28, g14, g29, g20, g24, g30)) else ((0, known, x9, cre, fS, fPast, fOne, fTwo, fBoth, fWord)))
set_option maxRecDepth 20000 in
def P_X11_product (known : Int32) (fS : Nat → Int32) (fPast : Nat → Int32) (fOne : Nat → Int32) (fTwo : Nat → Int32) (fBoth : Nat → Int32) (fWord : Nat → Int32) (letter : Int32) (fst : Int32) (snd : Int32) : Prop := (∀ r1 : Int32, r1 = F_X11_isLetter letter → (∀ x7 : Int32, x7 = ((if r1 = 0 then (1) else (let r3 : Int32 := F_X11_isLetter fst; (if r3 = 0 then (1) else (let r5 : Int32 := F_X11_isLetter snd; (if r5 = 0 then (1) else (0))))))) → (∀ r8 : Int32, r8 = (F_X11_throwsAt x7).1 → (∀ x9 : Int32, x9 = (F_X11_throwsAt x7).2 → ((r8 = 0 → ((P_X11_saves known fS fPast) ∧ (∀ x13 : Int32, x13 = (F_X11_saves known fS fPast).1 → (∀ g14 : Nat → Int32, g14 = (F_X11_saves known fS fPast).2 → ((P_X11_takes fS fOne fst) ∧ (∀ g17 : Nat → Int32, g17 = F_X11_takes fS fOne fst → ((P_X11_takesOther fS fTwo snd) ∧ (∀ g20 : Nat → Int32, g20 = F_X11_takesOther fS fTwo snd → ((P_X11_multiplies g17 g20 fBoth) ∧ (∀ g23 : Nat → Int32, g23 = (F_X11_multiplies g17 g20 fBoth).1 → (∀ g24 : Nat → Int32, g24 = (F_X11_multiplies g17 g20 fBoth).2 → (P_X11_becomes fS g23 fWord letter)))))))))))) ∧ (¬ r8 = 0 → True))))))
set_option maxRecDepth 20000 in
set_option maxHeartbeats 8000000 in
theorem m_X11_product (l : Launch) (D : va_G) (cI cL cP cJ : ClassId) (o : Nat) (aS : Nat) (aPast : Nat) (aSnap : Nat) (aText : Nat) (aOne : Nat) (aTwo : Nat) (aBoth : Nat) (aWord : Nat) (aOpen : Nat) (aTimes : Nat) (aFar : Nat) (aQueue : Nat) (known : Int32) (kept : Int32) (len : Int32) (thr : Int32) (cre : Int32) (hash : Int64) (fS : Nat → Int32) (fPast : Nat → Int32) (fOne : Nat → Int32) (fTwo : Nat → Int32) (fBoth : Nat → Int32) (fWord : Nat → Int32) (letter : Int32) (fst : Int32) (snd : Int32) (hp : P_X11_product known fS fPast fOne fTwo fBoth fWord letter fst snd) : M vI l yX11_product cX11_product 4 (some .int) 5 110 D (tyF cI cL cP cJ) [.ref o, .int letter, .int fst, .int snd] [[(o, .inr (9, [.ref aS, .ref aPast, .int known, .ref aSnap, .int kept, .ref aText, .int len, .int thr, .ref aOne, .ref aTwo, .ref aBoth, .ref aWord, .int cre, .ref aOpen, .ref aTimes, .ref aFar, .ref aQueue, .long hash]))], [(aS, .inl (cI, 335, .inl fS))], [(aPast, .inl (cI, 2010, .inl fPast))], [(aOne, .inl (cI, 4, .inl fOne))], [(aTwo, .inl (cI, 4, .inl fTwo))], [(aBoth, .inl (cI, 4, .inl fBoth))], [(aWord, .inl (cI, 20, .inl fWord))]] (fun (r : Int32) (w1 : List va_W) => r = (F_X11_product known cre fS fPast fOne fTwo fBoth fWord letter fst snd).1 ∧ w1 = [[(o, .inr (9, [.ref aS, .ref aPast, .int ((F_X11_product known cre fS fPast fOne fTwo fBoth fWord letter fst snd).2.1), .ref aSnap, .int kept, .ref aText, .int len, .int ((F_X11_product known cre fS fPast fOne fTwo fBoth fWord letter fst snd).2.2.1), .ref aOne, .ref aTwo, .ref aBoth, .ref aWord, .int ((F_X11_product known cre fS fPast fOne fTwo fBoth fWord letter fst snd).2.2.2.1), .ref aOpen, .ref aTimes, .ref aFar, .ref aQueue, .long hash]))], [(aS, .inl (cI, 335, .inl ((F_X11_product known cre fS fPast fOne fTwo fBoth fWord letter fst snd).2.2.2.2.1)))], [(aPast, .inl (cI, 2010, .inl ((F_X11_product known cre fS fPast fOne fTwo fBoth fWord letter fst snd).2.2.2.2.2.1)))], [(aOne, .inl (cI, 4, .inl ((F_X11_product known cre fS fPast fOne fTwo fBoth fWord letter fst snd).2.2.2.2.2.2.1)))], [(aTwo, .inl (cI, 4, .inl ((F_X11_product known cre fS fPast fOne fTwo fBoth fWord letter fst snd).2.2.2.2.2.2.2.1)))], [(aBoth, .inl (cI, 4, .inl ((F_X11_product known cre fS fPast fOne fTwo fBoth fWord letter fst snd).2.2.2.2.2.2.2.2.1)))], [(aWord, .inl (cI, 20, .inl ((F_X11_product known cre fS fPast fOne fTwo fBoth fWord letter fst snd).2.2.2.2.2.2.2.2.2)))]]) := by
  unfold P_X11_product at hp
  refine m_start (by decide +kernel) (Nat.le_of_ble_eq_true rfl) (fun p e s m args below meth c A Q hA hQ C hr hlo => ?_)
  refine r_Le (L' := [(0, .ref o), (1, .int letter), (2, .int fst), (3, .int snd)]) rfl ?_
  refine r_aload_n C dX11_product_0 0 rfl ?_
  refine r_iload_n C dX11_product_1 1 rfl ?_
  refine r_callS (wc := []) (wr := [[(o, .inr (9, [.ref aS, .ref aPast, .int known, .ref aSnap, .int kept, .ref aText, .int len, .int thr, .ref aOne, .ref aTwo, .ref aBoth, .ref aWord, .int cre, .ref aOpen, .ref aTimes, .ref aFar, .ref aQueue, .long hash]))], [(aS, .inl (cI, 335, .inl fS))], [(aPast, .inl (cI, 2010, .inl fPast))], [(aOne, .inl (cI, 4, .inl fOne))], [(aTwo, .inl (cI, 4, .inl fTwo))], [(aBoth, .inl (cI, 4, .inl fBoth))], [(aWord, .inl (cI, 20, .inl fWord))]]) (st := [.ref o]) C (m_X11_isLetter l D cI cL cP cJ letter) k_X11_isLetter t_956 [0, 1, 2, 3, 4, 5, 6] (show ([0, 1, 2, 3, 4, 5, 6] : List Nat).Perm (List.range 7) by decide) rfl rfl rfl (Nat.le_of_ble_eq_true rfl) ⟨Nat.le_of_ble_eq_true rfl, Nat.le_of_ble_eq_true rfl⟩ ⟨Nat.zero_le _, Nat.zero_le _⟩ dX11_product_2 (fun r1 wr1 hw1 => ?_)
  obtain ⟨e_r1, rfl⟩ := hw1
  have hp := hp r1 e_r1
  refine r_ws (I' := [[(o, .inr (9, [.ref aS, .ref aPast, .int known, .ref aSnap, .int kept, .ref aText, .int len, .int thr, .ref aOne, .ref aTwo, .ref aBoth, .ref aWord, .int cre, .ref aOpen, .ref aTimes, .ref aFar, .ref aQueue, .long hash]))], [(aS, .inl (cI, 335, .inl fS))], [(aPast, .inl (cI, 2010, .inl fPast))], [(aOne, .inl (cI, 4, .inl fOne))], [(aTwo, .inl (cI, 4, .inl fTwo))], [(aBoth, .inl (cI, 4, .inl fBoth))], [(aWord, .inl (cI, 20, .inl fWord))]]) rfl ?_
  suffices K : ∀ x7 : Int32, x7 = ((if r1 = 0 then (1) else (let r3 : Int32 := F_X11_isLetter fst; (if r3 = 0 then (1) else (let r5 : Int32 := F_X11_isLetter snd; (if r5 = 0 then (1) else (0))))))) → V p l e (rmm 5 110) s m args below meth c 4 D A 0 0 Q [[(o, .inr (9, [.ref aS, .ref aPast, .int known, .ref aSnap, .int kept, .ref aText, .int len, .int thr, .ref aOne, .ref aTwo, .ref aBoth, .ref aWord, .int cre, .ref aOpen, .ref aTimes, .ref aFar, .ref aQueue, .long hash]))], [(aS, .inl (cI, 335, .inl fS))], [(aPast, .inl (cI, 2010, .inl fPast))], [(aOne, .inl (cI, 4, .inl fOne))], [(aTwo, .inl (cI, 4, .inl fTwo))], [(aBoth, .inl (cI, 4, .inl fBoth))], [(aWord, .inl (cI, 20, .inl fWord))]] [(0, .ref o), (1, .int letter), (2, .int fst), (3, .int snd)] 27 [.int x7, .ref o] by
    refine r_if_eq (tgt := 26) C dX11_product_5 (by decide) (fun c2 => ?_) (fun c2 => ?_)
    · refine r_iconst (v := 1) C dX11_product_26 (by decide) ?_
      exact K _ (by simp only [if_pos c2])
    · refine r_iload_n C dX11_product_8 2 rfl ?_
      refine r_callS (wc := []) (wr := [[(o, .inr (9, [.ref aS, .ref aPast, .int known, .ref aSnap, .int kept, .ref aText, .int len, .int thr, .ref aOne, .ref aTwo, .ref aBoth, .ref aWord, .int cre, .ref aOpen, .ref aTimes, .ref aFar, .ref aQueue, .long hash]))], [(aS, .inl (cI, 335, .inl fS))], [(aPast, .inl (cI, 2010, .inl fPast))], [(aOne, .inl (cI, 4, .inl fOne))], [(aTwo, .inl (cI, 4, .inl fTwo))], [(aBoth, .inl (cI, 4, .inl fBoth))], [(aWord, .inl (cI, 20, .inl fWord))]]) (st := [.ref o]) C (m_X11_isLetter l D cI cL cP cJ fst) k_X11_isLetter t_956 [0, 1, 2, 3, 4, 5, 6] (show ([0, 1, 2, 3, 4, 5, 6] : List Nat).Perm (List.range 7) by decide) rfl rfl rfl (Nat.le_of_ble_eq_true rfl) ⟨Nat.le_of_ble_eq_true rfl, Nat.le_of_ble_eq_true rfl⟩ ⟨Nat.zero_le _, Nat.zero_le _⟩ dX11_product_9 (fun r3 wr3 hw3 => ?_)
      obtain ⟨e_r3, rfl⟩ := hw3
      refine r_ws (I' := [[(o, .inr (9, [.ref aS, .ref aPast, .int known, .ref aSnap, .int kept, .ref aText, .int len, .int thr, .ref aOne, .ref aTwo, .ref aBoth, .ref aWord, .int cre, .ref aOpen, .ref aTimes, .ref aFar, .ref aQueue, .long hash]))], [(aS, .inl (cI, 335, .inl fS))], [(aPast, .inl (cI, 2010, .inl fPast))], [(aOne, .inl (cI, 4, .inl fOne))], [(aTwo, .inl (cI, 4, .inl fTwo))], [(aBoth, .inl (cI, 4, .inl fBoth))], [(aWord, .inl (cI, 20, .inl fWord))]]) rfl ?_
      refine r_if_eq (tgt := 26) C dX11_product_12 (by decide) (fun c4 => ?_) (fun c4 => ?_)
      · refine r_iconst (v := 1) C dX11_product_26 (by decide) ?_
        exact K _ (by have q := e_r3.symm; subst q; simp only [if_neg c2, if_pos c4])
      · refine r_iload_n C dX11_product_15 3 rfl ?_
        refine r_callS (wc := []) (wr := [[(o, .inr (9, [.ref aS, .ref aPast, .int known, .ref aSnap, .int kept, .ref aText, .int len, .int thr, .ref aOne, .ref aTwo, .ref aBoth, .ref aWord, .int cre, .ref aOpen, .ref aTimes, .ref aFar, .ref aQueue, .long hash]))], [(aS, .inl (cI, 335, .inl fS))], [(aPast, .inl (cI, 2010, .inl fPast))], [(aOne, .inl (cI, 4, .inl fOne))], [(aTwo, .inl (cI, 4, .inl fTwo))], [(aBoth, .inl (cI, 4, .inl fBoth))], [(aWord, .inl (cI, 20, .inl fWord))]]) (st := [.ref o]) C (m_X11_isLetter l D cI cL cP cJ snd) k_X11_isLetter t_956 [0, 1, 2, 3, 4, 5, 6] (show ([0, 1, 2, 3, 4, 5, 6] : List Nat).Perm (List.range 7) by decide) rfl rfl rfl (Nat.le_of_ble_eq_true rfl) ⟨Nat.le_of_ble_eq_true rfl, Nat.le_of_ble_eq_true rfl⟩ ⟨Nat.zero_le _, Nat.zero_le _⟩ dX11_product_16 (fun r5 wr5 hw5 => ?_)
        obtain ⟨e_r5, rfl⟩ := hw5
        refine r_ws (I' := [[(o, .inr (9, [.ref aS, .ref aPast, .int known, .ref aSnap, .int kept, .ref aText, .int len, .int thr, .ref aOne, .ref aTwo, .ref aBoth, .ref aWord, .int cre, .ref aOpen, .ref aTimes, .ref aFar, .ref aQueue, .long hash]))], [(aS, .inl (cI, 335, .inl fS))], [(aPast, .inl (cI, 2010, .inl fPast))], [(aOne, .inl (cI, 4, .inl fOne))], [(aTwo, .inl (cI, 4, .inl fTwo))], [(aBoth, .inl (cI, 4, .inl fBoth))], [(aWord, .inl (cI, 20, .inl fWord))]]) rfl ?_
        refine r_if_eq (tgt := 26) C dX11_product_19 (by decide) (fun c6 => ?_) (fun c6 => ?_)
        · refine r_iconst (v := 1) C dX11_product_26 (by decide) ?_
          exact K _ (by have q := e_r3.symm; subst q; have q := e_r5.symm; subst q; simp only [if_neg c2, if_neg c4, if_pos c6])
        · refine r_iconst (v := 0) C dX11_product_22 (by decide) ?_
          refine r_goto (tgt := 27) C dX11_product_23 (by decide) ?_
          exact K _ (by have q := e_r3.symm; subst q; have q := e_r5.symm; subst q; simp only [if_neg c2, if_neg c4, if_neg c6])
  intro x7 e_x7
  have hp := hp x7 e_x7
  refine r_callV (ci := 9) (wc := [[(o, .inr (9, [.ref aS, .ref aPast, .int known, .ref aSnap, .int kept, .ref aText, .int len, .int thr, .ref aOne, .ref aTwo, .ref aBoth, .ref aWord, .int cre, .ref aOpen, .ref aTimes, .ref aFar, .ref aQueue, .long hash]))]]) (wr := [[(aS, .inl (cI, 335, .inl fS))], [(aPast, .inl (cI, 2010, .inl fPast))], [(aOne, .inl (cI, 4, .inl fOne))], [(aTwo, .inl (cI, 4, .inl fTwo))], [(aBoth, .inl (cI, 4, .inl fBoth))], [(aWord, .inl (cI, 20, .inl fWord))]]) (st := []) C (m_X11_throwsAt l D cI cL cP cJ o aS aPast aSnap aText aOne aTwo aBoth aWord aOpen aTimes aFar aQueue known kept len thr cre hash x7) k_X11_throwsAt t_974 [0, 1, 2, 3, 4, 5, 6] (show ([0, 1, 2, 3, 4, 5, 6] : List Nat).Perm (List.range 7) by decide) rfl rfl rfl (q0 := 0) rfl rfl rfl (Nat.le_of_ble_eq_true rfl) ⟨Nat.le_of_ble_eq_true rfl, Nat.le_of_ble_eq_true rfl⟩ ⟨Nat.zero_le _, Nat.zero_le _⟩ dX11_product_27 (fun r8 wr8 hw8 => ?_)
  obtain ⟨e_r8, rfl⟩ := hw8
  have hp := hp r8 e_r8
  obtain ⟨x9, e_x9⟩ : ∃ z : Int32, z = (F_X11_throwsAt x7).2 := ⟨_, rfl⟩
  have hp := hp x9 e_x9
  refine r_ws (I' := [[(o, .inr (9, [.ref aS, .ref aPast, .int known, .ref aSnap, .int kept, .ref aText, .int len, .int x9, .ref aOne, .ref aTwo, .ref aBoth, .ref aWord, .int cre, .ref aOpen, .ref aTimes, .ref aFar, .ref aQueue, .long hash]))], [(aS, .inl (cI, 335, .inl fS))], [(aPast, .inl (cI, 2010, .inl fPast))], [(aOne, .inl (cI, 4, .inl fOne))], [(aTwo, .inl (cI, 4, .inl fTwo))], [(aBoth, .inl (cI, 4, .inl fBoth))], [(aWord, .inl (cI, 20, .inl fWord))]]) (by rw [e_x9]; rfl) ?_
  refine r_if_eq (tgt := 35) C dX11_product_30 (by decide) (fun c10 => ?_) (fun c10 => ?_)
  · have hp := hp.1 c10
    refine r_aload_n C dX11_product_35 0 rfl ?_
    obtain ⟨h11, hp⟩ := hp
    refine r_callV (ci := 9) (wc := [[(o, .inr (9, [.ref aS, .ref aPast, .int known, .ref aSnap, .int kept, .ref aText, .int len, .int x9, .ref aOne, .ref aTwo, .ref aBoth, .ref aWord, .int cre, .ref aOpen, .ref aTimes, .ref aFar, .ref aQueue, .long hash]))], [(aS, .inl (cI, 335, .inl fS))], [(aPast, .inl (cI, 2010, .inl fPast))]]) (wr := [[(aOne, .inl (cI, 4, .inl fOne))], [(aTwo, .inl (cI, 4, .inl fTwo))], [(aBoth, .inl (cI, 4, .inl fBoth))], [(aWord, .inl (cI, 20, .inl fWord))]]) (st := []) C (m_X11_saves l D cI cL cP cJ o aS aPast aSnap aText aOne aTwo aBoth aWord aOpen aTimes aFar aQueue known kept len x9 cre hash fS fPast h11) k_X11_saves t_978 [0, 1, 2, 3, 4, 5, 6] (show ([0, 1, 2, 3, 4, 5, 6] : List Nat).Perm (List.range 7) by decide) rfl rfl rfl (q0 := 0) rfl rfl rfl (Nat.le_of_ble_eq_true rfl) ⟨Nat.le_of_ble_eq_true rfl, Nat.le_of_ble_eq_true rfl⟩ ⟨Nat.zero_le _, Nat.zero_le _⟩ dX11_product_36 (fun r12 wr12 hw12 => ?_)
    obtain rfl := hw12
    obtain ⟨x13, e_x13⟩ : ∃ z : Int32, z = (F_X11_saves known fS fPast).1 := ⟨_, rfl⟩
    have hp := hp x13 e_x13
    obtain ⟨g14, e_g14⟩ : ∃ z : Nat → Int32, z = (F_X11_saves known fS fPast).2 := ⟨_, rfl⟩
    have hp := hp g14 e_g14
    refine r_ws (I' := [[(o, .inr (9, [.ref aS, .ref aPast, .int x13, .ref aSnap, .int kept, .ref aText, .int len, .int x9, .ref aOne, .ref aTwo, .ref aBoth, .ref aWord, .int cre, .ref aOpen, .ref aTimes, .ref aFar, .ref aQueue, .long hash]))], [(aS, .inl (cI, 335, .inl fS))], [(aPast, .inl (cI, 2010, .inl g14))], [(aOne, .inl (cI, 4, .inl fOne))], [(aTwo, .inl (cI, 4, .inl fTwo))], [(aBoth, .inl (cI, 4, .inl fBoth))], [(aWord, .inl (cI, 20, .inl fWord))]]) (by rw [e_x13, e_g14]; rfl) ?_
    refine r_aload_n C dX11_product_39 0 rfl ?_
    refine r_iload_n C dX11_product_40 2 rfl ?_
    obtain ⟨h15, hp⟩ := hp
    refine r_callV (ci := 9) (wc := [[(o, .inr (9, [.ref aS, .ref aPast, .int x13, .ref aSnap, .int kept, .ref aText, .int len, .int x9, .ref aOne, .ref aTwo, .ref aBoth, .ref aWord, .int cre, .ref aOpen, .ref aTimes, .ref aFar, .ref aQueue, .long hash]))], [(aS, .inl (cI, 335, .inl fS))], [(aOne, .inl (cI, 4, .inl fOne))]]) (wr := [[(aPast, .inl (cI, 2010, .inl g14))], [(aTwo, .inl (cI, 4, .inl fTwo))], [(aBoth, .inl (cI, 4, .inl fBoth))], [(aWord, .inl (cI, 20, .inl fWord))]]) (st := []) C (m_X11_takes l D cI cL cP cJ o aS aPast aSnap aText aOne aTwo aBoth aWord aOpen aTimes aFar aQueue x13 kept len x9 cre hash fS fOne fst h15) k_X11_takes t_990 [0, 1, 3, 2, 4, 5, 6] (show ([0, 1, 3, 2, 4, 5, 6] : List Nat).Perm (List.range 7) by decide) rfl rfl rfl (q0 := 0) rfl rfl rfl (Nat.le_of_ble_eq_true rfl) ⟨Nat.le_of_ble_eq_true rfl, Nat.le_of_ble_eq_true rfl⟩ ⟨Nat.zero_le _, Nat.zero_le _⟩ dX11_product_41 (fun r16 wr16 hw16 => ?_)
    obtain rfl := hw16
    obtain ⟨g17, e_g17⟩ : ∃ z : Nat → Int32, z = F_X11_takes fS fOne fst := ⟨_, rfl⟩
    have hp := hp g17 e_g17
    refine r_ws (I' := [[(o, .inr (9, [.ref aS, .ref aPast, .int x13, .ref aSnap, .int kept, .ref aText, .int len, .int x9, .ref aOne, .ref aTwo, .ref aBoth, .ref aWord, .int cre, .ref aOpen, .ref aTimes, .ref aFar, .ref aQueue, .long hash]))], [(aS, .inl (cI, 335, .inl fS))], [(aOne, .inl (cI, 4, .inl g17))], [(aPast, .inl (cI, 2010, .inl g14))], [(aTwo, .inl (cI, 4, .inl fTwo))], [(aBoth, .inl (cI, 4, .inl fBoth))], [(aWord, .inl (cI, 20, .inl fWord))]]) (by rw [e_g17]; rfl) ?_
    refine r_aload_n C dX11_product_44 0 rfl ?_
    refine r_iload_n C dX11_product_45 3 rfl ?_
    obtain ⟨h18, hp⟩ := hp
    refine r_callV (ci := 9) (wc := [[(o, .inr (9, [.ref aS, .ref aPast, .int x13, .ref aSnap, .int kept, .ref aText, .int len, .int x9, .ref aOne, .ref aTwo, .ref aBoth, .ref aWord, .int cre, .ref aOpen, .ref aTimes, .ref aFar, .ref aQueue, .long hash]))], [(aS, .inl (cI, 335, .inl fS))], [(aTwo, .inl (cI, 4, .inl fTwo))]]) (wr := [[(aOne, .inl (cI, 4, .inl g17))], [(aPast, .inl (cI, 2010, .inl g14))], [(aBoth, .inl (cI, 4, .inl fBoth))], [(aWord, .inl (cI, 20, .inl fWord))]]) (st := []) C (m_X11_takesOther l D cI cL cP cJ o aS aPast aSnap aText aOne aTwo aBoth aWord aOpen aTimes aFar aQueue x13 kept len x9 cre hash fS fTwo snd h18) k_X11_takesOther t_1045 [0, 1, 4, 2, 3, 5, 6] (show ([0, 1, 4, 2, 3, 5, 6] : List Nat).Perm (List.range 7) by decide) rfl rfl rfl (q0 := 0) rfl rfl rfl (Nat.le_of_ble_eq_true rfl) ⟨Nat.le_of_ble_eq_true rfl, Nat.le_of_ble_eq_true rfl⟩ ⟨Nat.zero_le _, Nat.zero_le _⟩ dX11_product_46 (fun r19 wr19 hw19 => ?_)
    obtain rfl := hw19
    obtain ⟨g20, e_g20⟩ : ∃ z : Nat → Int32, z = F_X11_takesOther fS fTwo snd := ⟨_, rfl⟩
    have hp := hp g20 e_g20
    refine r_ws (I' := [[(o, .inr (9, [.ref aS, .ref aPast, .int x13, .ref aSnap, .int kept, .ref aText, .int len, .int x9, .ref aOne, .ref aTwo, .ref aBoth, .ref aWord, .int cre, .ref aOpen, .ref aTimes, .ref aFar, .ref aQueue, .long hash]))], [(aS, .inl (cI, 335, .inl fS))], [(aTwo, .inl (cI, 4, .inl g20))], [(aOne, .inl (cI, 4, .inl g17))], [(aPast, .inl (cI, 2010, .inl g14))], [(aBoth, .inl (cI, 4, .inl fBoth))], [(aWord, .inl (cI, 20, .inl fWord))]]) (by rw [e_g20]; rfl) ?_
    refine r_aload_n C dX11_product_49 0 rfl ?_
    obtain ⟨h21, hp⟩ := hp
    refine r_callV (ci := 9) (wc := [[(o, .inr (9, [.ref aS, .ref aPast, .int x13, .ref aSnap, .int kept, .ref aText, .int len, .int x9, .ref aOne, .ref aTwo, .ref aBoth, .ref aWord, .int cre, .ref aOpen, .ref aTimes, .ref aFar, .ref aQueue, .long hash]))], [(aOne, .inl (cI, 4, .inl g17))], [(aTwo, .inl (cI, 4, .inl g20))], [(aBoth, .inl (cI, 4, .inl fBoth))]]) (wr := [[(aS, .inl (cI, 335, .inl fS))], [(aPast, .inl (cI, 2010, .inl g14))], [(aWord, .inl (cI, 20, .inl fWord))]]) (st := []) C (m_X11_multiplies l D cI cL cP cJ o aS aPast aSnap aText aOne aTwo aBoth aWord aOpen aTimes aFar aQueue x13 kept len x9 cre hash g17 g20 fBoth h21) k_X11_multiplies t_1049 [0, 3, 2, 5, 1, 4, 6] (show ([0, 3, 2, 5, 1, 4, 6] : List Nat).Perm (List.range 7) by decide) rfl rfl rfl (q0 := 0) rfl rfl rfl (Nat.le_of_ble_eq_true rfl) ⟨Nat.le_of_ble_eq_true rfl, Nat.le_of_ble_eq_true rfl⟩ ⟨Nat.zero_le _, Nat.zero_le _⟩ dX11_product_50 (fun r22 wr22 hw22 => ?_)
    obtain rfl := hw22
    obtain ⟨g23, e_g23⟩ : ∃ z : Nat → Int32, z = (F_X11_multiplies g17 g20 fBoth).1 := ⟨_, rfl⟩
    have hp := hp g23 e_g23
    obtain ⟨g24, e_g24⟩ : ∃ z : Nat → Int32, z = (F_X11_multiplies g17 g20 fBoth).2 := ⟨_, rfl⟩
    have hp := hp g24 e_g24
    refine r_ws (I' := [[(o, .inr (9, [.ref aS, .ref aPast, .int x13, .ref aSnap, .int kept, .ref aText, .int len, .int x9, .ref aOne, .ref aTwo, .ref aBoth, .ref aWord, .int cre, .ref aOpen, .ref aTimes, .ref aFar, .ref aQueue, .long hash]))], [(aOne, .inl (cI, 4, .inl g23))], [(aTwo, .inl (cI, 4, .inl g20))], [(aBoth, .inl (cI, 4, .inl g24))], [(aS, .inl (cI, 335, .inl fS))], [(aPast, .inl (cI, 2010, .inl g14))], [(aWord, .inl (cI, 20, .inl fWord))]]) (by rw [e_g23, e_g24]; rfl) ?_
    refine r_aload_n C dX11_product_53 0 rfl ?_
    refine r_iload_n C dX11_product_54 1 rfl ?_
    have h25 := hp
    refine r_callV (ci := 9) (wc := [[(o, .inr (9, [.ref aS, .ref aPast, .int x13, .ref aSnap, .int kept, .ref aText, .int len, .int x9, .ref aOne, .ref aTwo, .ref aBoth, .ref aWord, .int cre, .ref aOpen, .ref aTimes, .ref aFar, .ref aQueue, .long hash]))], [(aS, .inl (cI, 335, .inl fS))], [(aOne, .inl (cI, 4, .inl g23))], [(aWord, .inl (cI, 20, .inl fWord))]]) (wr := [[(aTwo, .inl (cI, 4, .inl g20))], [(aBoth, .inl (cI, 4, .inl g24))], [(aPast, .inl (cI, 2010, .inl g14))]]) (st := []) C (m_X11_becomes l D cI cL cP cJ o aS aPast aSnap aText aOne aTwo aBoth aWord aOpen aTimes aFar aQueue x13 kept len x9 cre hash fS g23 fWord letter h25) k_X11_becomes t_1053 [0, 4, 1, 6, 2, 3, 5] (show ([0, 4, 1, 6, 2, 3, 5] : List Nat).Perm (List.range 7) by decide) rfl rfl rfl (q0 := 0) rfl rfl rfl (Nat.le_of_ble_eq_true rfl) ⟨Nat.le_of_ble_eq_true rfl, Nat.le_of_ble_eq_true rfl⟩ ⟨Nat.zero_le _, Nat.zero_le _⟩ dX11_product_55 (fun r26 wr26 hw26 => ?_)
    obtain ⟨e_r26, rfl⟩ := hw26
    obtain ⟨x27, e_x27⟩ : ∃ z : Int32, z = (F_X11_becomes fS g23 fWord letter).2.1 := ⟨_, rfl⟩
    obtain ⟨g28, e_g28⟩ : ∃ z : Nat → Int32, z = (F_X11_becomes fS g23 fWord letter).2.2.1 := ⟨_, rfl⟩
    obtain ⟨g29, e_g29⟩ : ∃ z : Nat → Int32, z = (F_X11_becomes fS g23 fWord letter).2.2.2.1 := ⟨_, rfl⟩
    obtain ⟨g30, e_g30⟩ : ∃ z : Nat → Int32, z = (F_X11_becomes fS g23 fWord letter).2.2.2.2 := ⟨_, rfl⟩
    refine r_ws (I' := [[(o, .inr (9, [.ref aS, .ref aPast, .int x13, .ref aSnap, .int kept, .ref aText, .int len, .int x9, .ref aOne, .ref aTwo, .ref aBoth, .ref aWord, .int x27, .ref aOpen, .ref aTimes, .ref aFar, .ref aQueue, .long hash]))], [(aS, .inl (cI, 335, .inl g28))], [(aOne, .inl (cI, 4, .inl g29))], [(aWord, .inl (cI, 20, .inl g30))], [(aTwo, .inl (cI, 4, .inl g20))], [(aBoth, .inl (cI, 4, .inl g24))], [(aPast, .inl (cI, 2010, .inl g14))]]) (by rw [e_x27, e_g28, e_g29, e_g30]; rfl) ?_
    refine r_pl (I' := [[(o, .inr (9, [.ref aS, .ref aPast, .int x13, .ref aSnap, .int kept, .ref aText, .int len, .int x9, .ref aOne, .ref aTwo, .ref aBoth, .ref aWord, .int x27, .ref aOpen, .ref aTimes, .ref aFar, .ref aQueue, .long hash]))], [(aS, .inl (cI, 335, .inl g28))], [(aPast, .inl (cI, 2010, .inl g14))], [(aOne, .inl (cI, 4, .inl g29))], [(aTwo, .inl (cI, 4, .inl g20))], [(aBoth, .inl (cI, 4, .inl g24))], [(aWord, .inl (cI, 20, .inl g30))]]) [0, 1, 6, 2, 4, 5, 3] (show ([0, 1, 6, 2, 4, 5, 3] : List Nat).Perm (List.range 7) by decide) rfl ?_
    have eF : F_X11_product known cre fS fPast fOne fTwo fBoth fWord letter fst snd = (r26, x13, x9, x27, g28, g14, g29, g20, g24, g30) := by have q := e_r1.symm; subst q; have q := e_x7.symm; subst q; have q := e_r8.symm; subst q; have q := e_x9.symm; subst q; have q := e_x13.symm; subst q; have q := e_g14.symm; subst q; have q := e_g17.symm; subst q; have q := e_g20.symm; subst q; have q := e_g23.symm; subst q; have q := e_g24.symm; subst q; have q := e_r26.symm; subst q; have q := e_x27.symm; subst q; have q := e_g28.symm; subst q; have q := e_g29.symm; subst q; have q := e_g30.symm; subst q; simp only [F_X11_product, if_pos c10]
    exact r_iret (r := r26) C hA hr hlo dX11_product_58 [[(o, .inr (9, [.ref aS, .ref aPast, .int x13, .ref aSnap, .int kept, .ref aText, .int len, .int x9, .ref aOne, .ref aTwo, .ref aBoth, .ref aWord, .int x27, .ref aOpen, .ref aTimes, .ref aFar, .ref aQueue, .long hash]))], [(aS, .inl (cI, 335, .inl g28))], [(aPast, .inl (cI, 2010, .inl g14))], [(aOne, .inl (cI, 4, .inl g29))], [(aTwo, .inl (cI, 4, .inl g20))], [(aBoth, .inl (cI, 4, .inl g24))], [(aWord, .inl (cI, 20, .inl g30))]] ⟨by simp only [eF], by simp only [eF]⟩ rfl hQ
  · refine r_iconst (v := 0) C dX11_product_33 (by decide) ?_
    have eF : F_X11_product known cre fS fPast fOne fTwo fBoth fWord letter fst snd = (0, known, x9, cre, fS, fPast, fOne, fTwo, fBoth, fWord) := by have q := e_r1.symm; subst q; have q := e_x7.symm; subst q; have q := e_r8.symm; subst q; have q := e_x9.symm; subst q; simp only [F_X11_product, if_neg c10]
    exact r_iret (r := 0) C hA hr hlo dX11_product_34 [[(o, .inr (9, [.ref aS, .ref aPast, .int known, .ref aSnap, .int kept, .ref aText, .int len, .int x9, .ref aOne, .ref aTwo, .ref aBoth, .ref aWord, .int cre, .ref aOpen, .ref aTimes, .ref aFar, .ref aQueue, .long hash]))], [(aS, .inl (cI, 335, .inl fS))], [(aPast, .inl (cI, 2010, .inl fPast))], [(aOne, .inl (cI, 4, .inl fOne))], [(aTwo, .inl (cI, 4, .inl fTwo))], [(aBoth, .inl (cI, 4, .inl fBoth))], [(aWord, .inl (cI, 20, .inl fWord))]] ⟨by simp only [eF], by simp only [eF]⟩ rfl hQ
theorem k_X11_opposite : kV yX11_opposite cX11_opposite 3 (some .int) 2 := ⟨t_1058, t_1059, t_67, t_1060, by decide +kernel, by decide +kernel, by decide +kernel⟩
set_option maxRecDepth 20000 in
def F_X11_opposite (known : Int32) (cre : Int32) (fS : Nat → Int32) (fPast : Nat → Int32) (fOne : Nat → Int32) (fBoth : Nat → Int32) (fWord : Nat → Int32) (letter : Int32) (other : Int32) : Int32 × Int32 × Int32 × Int32 × (Nat → Int32) × (Nat → Int32) × (Nat → Int32) × (Nat → Int32) × (Nat → Int32) := let r1 : Int32 := F_X11_isLetter letter; let x5 : Int32 := (if r1 = 0 then (1) else (let r3 : Int32 := F_X11_isLetter other; (if r3 = 0 then (1) else (0)))); let r6 : Int32 := (F_X11_throwsAt x5).1; let x7 : Int32 := (F_X11_throwsAt x5).2; (if r6 = 0 then (let x11 : Int32 := (F_X11_saves known fS fPast).1; let g12 : Nat → Int32 := (F_X11_saves known fS fPast).2; let g15 : Nat → Int32 := F_X11_takes fS fOne other; let g18 : Nat → Int32 := (F_X11_turns g15 fBoth).1; let g19 : Nat → Int32 := (F_X11_turns g15 fBoth).2; let r21 : Int32 := (F_X11_becomes fS g18 fWord letter).1; let x22 : Int32 := (F_X11_becomes fS g18 fWord letter).2.1; let g23 : Nat → Int32 := (F_X11_becomes fS g18 fWord letter).2.2.1; let g24 : Nat → Int32 := (F_X11_becomes fS g18 fWord letter).2.2.2.1; let g25 : Nat → Int32 := (F_X11_becomes fS g18 fWord letter).2.2.2.2; (r21, x11, x7, x22, g23, g12, g24, g19, g25)) else ((0, known, x7, cre, fS, fPast, fOne, fBoth, fWord)))
set_option maxRecDepth 20000 in
def P_X11_opposite (known : Int32) (fS : Nat → Int32) (fPast : Nat → Int32) (fOne : Nat → Int32) (fBoth : Nat → Int32) (fWord : Nat → Int32) (letter : Int32) (other : Int32) : Prop := (∀ r1 : Int32, r1 = F_X11_isLetter letter → (∀ x5 : Int32, x5 = ((if r1 = 0 then (1) else (let r3 : Int32 := F_X11_isLetter other; (if r3 = 0 then (1) else (0))))) → (∀ r6 : Int32, r6 = (F_X11_throwsAt x5).1 → (∀ x7 : Int32, x7 = (F_X11_throwsAt x5).2 → ((r6 = 0 → ((P_X11_saves known fS fPast) ∧ (∀ x11 : Int32, x11 = (F_X11_saves known fS fPast).1 → (∀ g12 : Nat → Int32, g12 = (F_X11_saves known fS fPast).2 → ((P_X11_takes fS fOne other) ∧ (∀ g15 : Nat → Int32, g15 = F_X11_takes fS fOne other → ((P_X11_turns g15 fBoth) ∧ (∀ g18 : Nat → Int32, g18 = (F_X11_turns g15 fBoth).1 → (∀ g19 : Nat → Int32, g19 = (F_X11_turns g15 fBoth).2 → (P_X11_becomes fS g18 fWord letter)))))))))) ∧ (¬ r6 = 0 → True))))))
set_option maxRecDepth 20000 in
set_option maxHeartbeats 8000000 in
theorem m_X11_opposite (l : Launch) (D : va_G) (cI cL cP cJ : ClassId) (o : Nat) (aS : Nat) (aPast : Nat) (aSnap : Nat) (aText : Nat) (aOne : Nat) (aTwo : Nat) (aBoth : Nat) (aWord : Nat) (aOpen : Nat) (aTimes : Nat) (aFar : Nat) (aQueue : Nat) (known : Int32) (kept : Int32) (len : Int32) (thr : Int32) (cre : Int32) (hash : Int64) (fS : Nat → Int32) (fPast : Nat → Int32) (fOne : Nat → Int32) (fBoth : Nat → Int32) (fWord : Nat → Int32) (letter : Int32) (other : Int32) (hp : P_X11_opposite known fS fPast fOne fBoth fWord letter other) : M vI l yX11_opposite cX11_opposite 3 (some .int) 5 110 D (tyF cI cL cP cJ) [.ref o, .int letter, .int other] [[(o, .inr (9, [.ref aS, .ref aPast, .int known, .ref aSnap, .int kept, .ref aText, .int len, .int thr, .ref aOne, .ref aTwo, .ref aBoth, .ref aWord, .int cre, .ref aOpen, .ref aTimes, .ref aFar, .ref aQueue, .long hash]))], [(aS, .inl (cI, 335, .inl fS))], [(aPast, .inl (cI, 2010, .inl fPast))], [(aOne, .inl (cI, 4, .inl fOne))], [(aBoth, .inl (cI, 4, .inl fBoth))], [(aWord, .inl (cI, 20, .inl fWord))]] (fun (r : Int32) (w1 : List va_W) => r = (F_X11_opposite known cre fS fPast fOne fBoth fWord letter other).1 ∧ w1 = [[(o, .inr (9, [.ref aS, .ref aPast, .int ((F_X11_opposite known cre fS fPast fOne fBoth fWord letter other).2.1), .ref aSnap, .int kept, .ref aText, .int len, .int ((F_X11_opposite known cre fS fPast fOne fBoth fWord letter other).2.2.1), .ref aOne, .ref aTwo, .ref aBoth, .ref aWord, .int ((F_X11_opposite known cre fS fPast fOne fBoth fWord letter other).2.2.2.1), .ref aOpen, .ref aTimes, .ref aFar, .ref aQueue, .long hash]))], [(aS, .inl (cI, 335, .inl ((F_X11_opposite known cre fS fPast fOne fBoth fWord letter other).2.2.2.2.1)))], [(aPast, .inl (cI, 2010, .inl ((F_X11_opposite known cre fS fPast fOne fBoth fWord letter other).2.2.2.2.2.1)))], [(aOne, .inl (cI, 4, .inl ((F_X11_opposite known cre fS fPast fOne fBoth fWord letter other).2.2.2.2.2.2.1)))], [(aBoth, .inl (cI, 4, .inl ((F_X11_opposite known cre fS fPast fOne fBoth fWord letter other).2.2.2.2.2.2.2.1)))], [(aWord, .inl (cI, 20, .inl ((F_X11_opposite known cre fS fPast fOne fBoth fWord letter other).2.2.2.2.2.2.2.2)))]]) := by
  unfold P_X11_opposite at hp
  refine m_start (by decide +kernel) (Nat.le_of_ble_eq_true rfl) (fun p e s m args below meth c A Q hA hQ C hr hlo => ?_)
  refine r_Le (L' := [(0, .ref o), (1, .int letter), (2, .int other)]) rfl ?_
  refine r_aload_n C dX11_opposite_0 0 rfl ?_
  refine r_iload_n C dX11_opposite_1 1 rfl ?_
  refine r_callS (wc := []) (wr := [[(o, .inr (9, [.ref aS, .ref aPast, .int known, .ref aSnap, .int kept, .ref aText, .int len, .int thr, .ref aOne, .ref aTwo, .ref aBoth, .ref aWord, .int cre, .ref aOpen, .ref aTimes, .ref aFar, .ref aQueue, .long hash]))], [(aS, .inl (cI, 335, .inl fS))], [(aPast, .inl (cI, 2010, .inl fPast))], [(aOne, .inl (cI, 4, .inl fOne))], [(aBoth, .inl (cI, 4, .inl fBoth))], [(aWord, .inl (cI, 20, .inl fWord))]]) (st := [.ref o]) C (m_X11_isLetter l D cI cL cP cJ letter) k_X11_isLetter t_956 [0, 1, 2, 3, 4, 5] (show ([0, 1, 2, 3, 4, 5] : List Nat).Perm (List.range 6) by decide) rfl rfl rfl (Nat.le_of_ble_eq_true rfl) ⟨Nat.le_of_ble_eq_true rfl, Nat.le_of_ble_eq_true rfl⟩ ⟨Nat.zero_le _, Nat.zero_le _⟩ dX11_opposite_2 (fun r1 wr1 hw1 => ?_)
  obtain ⟨e_r1, rfl⟩ := hw1
  have hp := hp r1 e_r1
  refine r_ws (I' := [[(o, .inr (9, [.ref aS, .ref aPast, .int known, .ref aSnap, .int kept, .ref aText, .int len, .int thr, .ref aOne, .ref aTwo, .ref aBoth, .ref aWord, .int cre, .ref aOpen, .ref aTimes, .ref aFar, .ref aQueue, .long hash]))], [(aS, .inl (cI, 335, .inl fS))], [(aPast, .inl (cI, 2010, .inl fPast))], [(aOne, .inl (cI, 4, .inl fOne))], [(aBoth, .inl (cI, 4, .inl fBoth))], [(aWord, .inl (cI, 20, .inl fWord))]]) rfl ?_
  suffices K : ∀ x5 : Int32, x5 = ((if r1 = 0 then (1) else (let r3 : Int32 := F_X11_isLetter other; (if r3 = 0 then (1) else (0))))) → V p l e (rmm 5 110) s m args below meth c 3 D A 0 0 Q [[(o, .inr (9, [.ref aS, .ref aPast, .int known, .ref aSnap, .int kept, .ref aText, .int len, .int thr, .ref aOne, .ref aTwo, .ref aBoth, .ref aWord, .int cre, .ref aOpen, .ref aTimes, .ref aFar, .ref aQueue, .long hash]))], [(aS, .inl (cI, 335, .inl fS))], [(aPast, .inl (cI, 2010, .inl fPast))], [(aOne, .inl (cI, 4, .inl fOne))], [(aBoth, .inl (cI, 4, .inl fBoth))], [(aWord, .inl (cI, 20, .inl fWord))]] [(0, .ref o), (1, .int letter), (2, .int other)] 20 [.int x5, .ref o] by
    refine r_if_eq (tgt := 19) C dX11_opposite_5 (by decide) (fun c2 => ?_) (fun c2 => ?_)
    · refine r_iconst (v := 1) C dX11_opposite_19 (by decide) ?_
      exact K _ (by simp only [if_pos c2])
    · refine r_iload_n C dX11_opposite_8 2 rfl ?_
      refine r_callS (wc := []) (wr := [[(o, .inr (9, [.ref aS, .ref aPast, .int known, .ref aSnap, .int kept, .ref aText, .int len, .int thr, .ref aOne, .ref aTwo, .ref aBoth, .ref aWord, .int cre, .ref aOpen, .ref aTimes, .ref aFar, .ref aQueue, .long hash]))], [(aS, .inl (cI, 335, .inl fS))], [(aPast, .inl (cI, 2010, .inl fPast))], [(aOne, .inl (cI, 4, .inl fOne))], [(aBoth, .inl (cI, 4, .inl fBoth))], [(aWord, .inl (cI, 20, .inl fWord))]]) (st := [.ref o]) C (m_X11_isLetter l D cI cL cP cJ other) k_X11_isLetter t_956 [0, 1, 2, 3, 4, 5] (show ([0, 1, 2, 3, 4, 5] : List Nat).Perm (List.range 6) by decide) rfl rfl rfl (Nat.le_of_ble_eq_true rfl) ⟨Nat.le_of_ble_eq_true rfl, Nat.le_of_ble_eq_true rfl⟩ ⟨Nat.zero_le _, Nat.zero_le _⟩ dX11_opposite_9 (fun r3 wr3 hw3 => ?_)
      obtain ⟨e_r3, rfl⟩ := hw3
      refine r_ws (I' := [[(o, .inr (9, [.ref aS, .ref aPast, .int known, .ref aSnap, .int kept, .ref aText, .int len, .int thr, .ref aOne, .ref aTwo, .ref aBoth, .ref aWord, .int cre, .ref aOpen, .ref aTimes, .ref aFar, .ref aQueue, .long hash]))], [(aS, .inl (cI, 335, .inl fS))], [(aPast, .inl (cI, 2010, .inl fPast))], [(aOne, .inl (cI, 4, .inl fOne))], [(aBoth, .inl (cI, 4, .inl fBoth))], [(aWord, .inl (cI, 20, .inl fWord))]]) rfl ?_
      refine r_if_eq (tgt := 19) C dX11_opposite_12 (by decide) (fun c4 => ?_) (fun c4 => ?_)
      · refine r_iconst (v := 1) C dX11_opposite_19 (by decide) ?_
        exact K _ (by have q := e_r3.symm; subst q; simp only [if_neg c2, if_pos c4])
      · refine r_iconst (v := 0) C dX11_opposite_15 (by decide) ?_
        refine r_goto (tgt := 20) C dX11_opposite_16 (by decide) ?_
        exact K _ (by have q := e_r3.symm; subst q; simp only [if_neg c2, if_neg c4])
  intro x5 e_x5
  have hp := hp x5 e_x5
  refine r_callV (ci := 9) (wc := [[(o, .inr (9, [.ref aS, .ref aPast, .int known, .ref aSnap, .int kept, .ref aText, .int len, .int thr, .ref aOne, .ref aTwo, .ref aBoth, .ref aWord, .int cre, .ref aOpen, .ref aTimes, .ref aFar, .ref aQueue, .long hash]))]]) (wr := [[(aS, .inl (cI, 335, .inl fS))], [(aPast, .inl (cI, 2010, .inl fPast))], [(aOne, .inl (cI, 4, .inl fOne))], [(aBoth, .inl (cI, 4, .inl fBoth))], [(aWord, .inl (cI, 20, .inl fWord))]]) (st := []) C (m_X11_throwsAt l D cI cL cP cJ o aS aPast aSnap aText aOne aTwo aBoth aWord aOpen aTimes aFar aQueue known kept len thr cre hash x5) k_X11_throwsAt t_974 [0, 1, 2, 3, 4, 5] (show ([0, 1, 2, 3, 4, 5] : List Nat).Perm (List.range 6) by decide) rfl rfl rfl (q0 := 0) rfl rfl rfl (Nat.le_of_ble_eq_true rfl) ⟨Nat.le_of_ble_eq_true rfl, Nat.le_of_ble_eq_true rfl⟩ ⟨Nat.zero_le _, Nat.zero_le _⟩ dX11_opposite_20 (fun r6 wr6 hw6 => ?_)
  obtain ⟨e_r6, rfl⟩ := hw6
  have hp := hp r6 e_r6
  obtain ⟨x7, e_x7⟩ : ∃ z : Int32, z = (F_X11_throwsAt x5).2 := ⟨_, rfl⟩
  have hp := hp x7 e_x7
  refine r_ws (I' := [[(o, .inr (9, [.ref aS, .ref aPast, .int known, .ref aSnap, .int kept, .ref aText, .int len, .int x7, .ref aOne, .ref aTwo, .ref aBoth, .ref aWord, .int cre, .ref aOpen, .ref aTimes, .ref aFar, .ref aQueue, .long hash]))], [(aS, .inl (cI, 335, .inl fS))], [(aPast, .inl (cI, 2010, .inl fPast))], [(aOne, .inl (cI, 4, .inl fOne))], [(aBoth, .inl (cI, 4, .inl fBoth))], [(aWord, .inl (cI, 20, .inl fWord))]]) (by rw [e_x7]; rfl) ?_
  refine r_if_eq (tgt := 28) C dX11_opposite_23 (by decide) (fun c8 => ?_) (fun c8 => ?_)
  · have hp := hp.1 c8
    refine r_aload_n C dX11_opposite_28 0 rfl ?_
    obtain ⟨h9, hp⟩ := hp
    refine r_callV (ci := 9) (wc := [[(o, .inr (9, [.ref aS, .ref aPast, .int known, .ref aSnap, .int kept, .ref aText, .int len, .int x7, .ref aOne, .ref aTwo, .ref aBoth, .ref aWord, .int cre, .ref aOpen, .ref aTimes, .ref aFar, .ref aQueue, .long hash]))], [(aS, .inl (cI, 335, .inl fS))], [(aPast, .inl (cI, 2010, .inl fPast))]]) (wr := [[(aOne, .inl (cI, 4, .inl fOne))], [(aBoth, .inl (cI, 4, .inl fBoth))], [(aWord, .inl (cI, 20, .inl fWord))]]) (st := []) C (m_X11_saves l D cI cL cP cJ o aS aPast aSnap aText aOne aTwo aBoth aWord aOpen aTimes aFar aQueue known kept len x7 cre hash fS fPast h9) k_X11_saves t_978 [0, 1, 2, 3, 4, 5] (show ([0, 1, 2, 3, 4, 5] : List Nat).Perm (List.range 6) by decide) rfl rfl rfl (q0 := 0) rfl rfl rfl (Nat.le_of_ble_eq_true rfl) ⟨Nat.le_of_ble_eq_true rfl, Nat.le_of_ble_eq_true rfl⟩ ⟨Nat.zero_le _, Nat.zero_le _⟩ dX11_opposite_29 (fun r10 wr10 hw10 => ?_)
    obtain rfl := hw10
    obtain ⟨x11, e_x11⟩ : ∃ z : Int32, z = (F_X11_saves known fS fPast).1 := ⟨_, rfl⟩
    have hp := hp x11 e_x11
    obtain ⟨g12, e_g12⟩ : ∃ z : Nat → Int32, z = (F_X11_saves known fS fPast).2 := ⟨_, rfl⟩
    have hp := hp g12 e_g12
    refine r_ws (I' := [[(o, .inr (9, [.ref aS, .ref aPast, .int x11, .ref aSnap, .int kept, .ref aText, .int len, .int x7, .ref aOne, .ref aTwo, .ref aBoth, .ref aWord, .int cre, .ref aOpen, .ref aTimes, .ref aFar, .ref aQueue, .long hash]))], [(aS, .inl (cI, 335, .inl fS))], [(aPast, .inl (cI, 2010, .inl g12))], [(aOne, .inl (cI, 4, .inl fOne))], [(aBoth, .inl (cI, 4, .inl fBoth))], [(aWord, .inl (cI, 20, .inl fWord))]]) (by rw [e_x11, e_g12]; rfl) ?_
    refine r_aload_n C dX11_opposite_32 0 rfl ?_
    refine r_iload_n C dX11_opposite_33 2 rfl ?_
    obtain ⟨h13, hp⟩ := hp
    refine r_callV (ci := 9) (wc := [[(o, .inr (9, [.ref aS, .ref aPast, .int x11, .ref aSnap, .int kept, .ref aText, .int len, .int x7, .ref aOne, .ref aTwo, .ref aBoth, .ref aWord, .int cre, .ref aOpen, .ref aTimes, .ref aFar, .ref aQueue, .long hash]))], [(aS, .inl (cI, 335, .inl fS))], [(aOne, .inl (cI, 4, .inl fOne))]]) (wr := [[(aPast, .inl (cI, 2010, .inl g12))], [(aBoth, .inl (cI, 4, .inl fBoth))], [(aWord, .inl (cI, 20, .inl fWord))]]) (st := []) C (m_X11_takes l D cI cL cP cJ o aS aPast aSnap aText aOne aTwo aBoth aWord aOpen aTimes aFar aQueue x11 kept len x7 cre hash fS fOne other h13) k_X11_takes t_990 [0, 1, 3, 2, 4, 5] (show ([0, 1, 3, 2, 4, 5] : List Nat).Perm (List.range 6) by decide) rfl rfl rfl (q0 := 0) rfl rfl rfl (Nat.le_of_ble_eq_true rfl) ⟨Nat.le_of_ble_eq_true rfl, Nat.le_of_ble_eq_true rfl⟩ ⟨Nat.zero_le _, Nat.zero_le _⟩ dX11_opposite_34 (fun r14 wr14 hw14 => ?_)
    obtain rfl := hw14
    obtain ⟨g15, e_g15⟩ : ∃ z : Nat → Int32, z = F_X11_takes fS fOne other := ⟨_, rfl⟩
    have hp := hp g15 e_g15
    refine r_ws (I' := [[(o, .inr (9, [.ref aS, .ref aPast, .int x11, .ref aSnap, .int kept, .ref aText, .int len, .int x7, .ref aOne, .ref aTwo, .ref aBoth, .ref aWord, .int cre, .ref aOpen, .ref aTimes, .ref aFar, .ref aQueue, .long hash]))], [(aS, .inl (cI, 335, .inl fS))], [(aOne, .inl (cI, 4, .inl g15))], [(aPast, .inl (cI, 2010, .inl g12))], [(aBoth, .inl (cI, 4, .inl fBoth))], [(aWord, .inl (cI, 20, .inl fWord))]]) (by rw [e_g15]; rfl) ?_
    refine r_aload_n C dX11_opposite_37 0 rfl ?_
    obtain ⟨h16, hp⟩ := hp
    refine r_callV (ci := 9) (wc := [[(o, .inr (9, [.ref aS, .ref aPast, .int x11, .ref aSnap, .int kept, .ref aText, .int len, .int x7, .ref aOne, .ref aTwo, .ref aBoth, .ref aWord, .int cre, .ref aOpen, .ref aTimes, .ref aFar, .ref aQueue, .long hash]))], [(aOne, .inl (cI, 4, .inl g15))], [(aBoth, .inl (cI, 4, .inl fBoth))]]) (wr := [[(aS, .inl (cI, 335, .inl fS))], [(aPast, .inl (cI, 2010, .inl g12))], [(aWord, .inl (cI, 20, .inl fWord))]]) (st := []) C (m_X11_turns l D cI cL cP cJ o aS aPast aSnap aText aOne aTwo aBoth aWord aOpen aTimes aFar aQueue x11 kept len x7 cre hash g15 fBoth h16) k_X11_turns t_1061 [0, 2, 4, 1, 3, 5] (show ([0, 2, 4, 1, 3, 5] : List Nat).Perm (List.range 6) by decide) rfl rfl rfl (q0 := 0) rfl rfl rfl (Nat.le_of_ble_eq_true rfl) ⟨Nat.le_of_ble_eq_true rfl, Nat.le_of_ble_eq_true rfl⟩ ⟨Nat.zero_le _, Nat.zero_le _⟩ dX11_opposite_38 (fun r17 wr17 hw17 => ?_)
    obtain rfl := hw17
    obtain ⟨g18, e_g18⟩ : ∃ z : Nat → Int32, z = (F_X11_turns g15 fBoth).1 := ⟨_, rfl⟩
    have hp := hp g18 e_g18
    obtain ⟨g19, e_g19⟩ : ∃ z : Nat → Int32, z = (F_X11_turns g15 fBoth).2 := ⟨_, rfl⟩
    have hp := hp g19 e_g19
    refine r_ws (I' := [[(o, .inr (9, [.ref aS, .ref aPast, .int x11, .ref aSnap, .int kept, .ref aText, .int len, .int x7, .ref aOne, .ref aTwo, .ref aBoth, .ref aWord, .int cre, .ref aOpen, .ref aTimes, .ref aFar, .ref aQueue, .long hash]))], [(aOne, .inl (cI, 4, .inl g18))], [(aBoth, .inl (cI, 4, .inl g19))], [(aS, .inl (cI, 335, .inl fS))], [(aPast, .inl (cI, 2010, .inl g12))], [(aWord, .inl (cI, 20, .inl fWord))]]) (by rw [e_g18, e_g19]; rfl) ?_
    refine r_aload_n C dX11_opposite_41 0 rfl ?_
    refine r_iload_n C dX11_opposite_42 1 rfl ?_
    have h20 := hp
    refine r_callV (ci := 9) (wc := [[(o, .inr (9, [.ref aS, .ref aPast, .int x11, .ref aSnap, .int kept, .ref aText, .int len, .int x7, .ref aOne, .ref aTwo, .ref aBoth, .ref aWord, .int cre, .ref aOpen, .ref aTimes, .ref aFar, .ref aQueue, .long hash]))], [(aS, .inl (cI, 335, .inl fS))], [(aOne, .inl (cI, 4, .inl g18))], [(aWord, .inl (cI, 20, .inl fWord))]]) (wr := [[(aBoth, .inl (cI, 4, .inl g19))], [(aPast, .inl (cI, 2010, .inl g12))]]) (st := []) C (m_X11_becomes l D cI cL cP cJ o aS aPast aSnap aText aOne aTwo aBoth aWord aOpen aTimes aFar aQueue x11 kept len x7 cre hash fS g18 fWord letter h20) k_X11_becomes t_1053 [0, 3, 1, 5, 2, 4] (show ([0, 3, 1, 5, 2, 4] : List Nat).Perm (List.range 6) by decide) rfl rfl rfl (q0 := 0) rfl rfl rfl (Nat.le_of_ble_eq_true rfl) ⟨Nat.le_of_ble_eq_true rfl, Nat.le_of_ble_eq_true rfl⟩ ⟨Nat.zero_le _, Nat.zero_le _⟩ dX11_opposite_43 (fun r21 wr21 hw21 => ?_)
    obtain ⟨e_r21, rfl⟩ := hw21
    obtain ⟨x22, e_x22⟩ : ∃ z : Int32, z = (F_X11_becomes fS g18 fWord letter).2.1 := ⟨_, rfl⟩
    obtain ⟨g23, e_g23⟩ : ∃ z : Nat → Int32, z = (F_X11_becomes fS g18 fWord letter).2.2.1 := ⟨_, rfl⟩
    obtain ⟨g24, e_g24⟩ : ∃ z : Nat → Int32, z = (F_X11_becomes fS g18 fWord letter).2.2.2.1 := ⟨_, rfl⟩
    obtain ⟨g25, e_g25⟩ : ∃ z : Nat → Int32, z = (F_X11_becomes fS g18 fWord letter).2.2.2.2 := ⟨_, rfl⟩
    refine r_ws (I' := [[(o, .inr (9, [.ref aS, .ref aPast, .int x11, .ref aSnap, .int kept, .ref aText, .int len, .int x7, .ref aOne, .ref aTwo, .ref aBoth, .ref aWord, .int x22, .ref aOpen, .ref aTimes, .ref aFar, .ref aQueue, .long hash]))], [(aS, .inl (cI, 335, .inl g23))], [(aOne, .inl (cI, 4, .inl g24))], [(aWord, .inl (cI, 20, .inl g25))], [(aBoth, .inl (cI, 4, .inl g19))], [(aPast, .inl (cI, 2010, .inl g12))]]) (by rw [e_x22, e_g23, e_g24, e_g25]; rfl) ?_
    refine r_pl (I' := [[(o, .inr (9, [.ref aS, .ref aPast, .int x11, .ref aSnap, .int kept, .ref aText, .int len, .int x7, .ref aOne, .ref aTwo, .ref aBoth, .ref aWord, .int x22, .ref aOpen, .ref aTimes, .ref aFar, .ref aQueue, .long hash]))], [(aS, .inl (cI, 335, .inl g23))], [(aPast, .inl (cI, 2010, .inl g12))], [(aOne, .inl (cI, 4, .inl g24))], [(aBoth, .inl (cI, 4, .inl g19))], [(aWord, .inl (cI, 20, .inl g25))]]) [0, 1, 5, 2, 4, 3] (show ([0, 1, 5, 2, 4, 3] : List Nat).Perm (List.range 6) by decide) rfl ?_
    have eF : F_X11_opposite known cre fS fPast fOne fBoth fWord letter other = (r21, x11, x7, x22, g23, g12, g24, g19, g25) := by have q := e_r1.symm; subst q; have q := e_x5.symm; subst q; have q := e_r6.symm; subst q; have q := e_x7.symm; subst q; have q := e_x11.symm; subst q; have q := e_g12.symm; subst q; have q := e_g15.symm; subst q; have q := e_g18.symm; subst q; have q := e_g19.symm; subst q; have q := e_r21.symm; subst q; have q := e_x22.symm; subst q; have q := e_g23.symm; subst q; have q := e_g24.symm; subst q; have q := e_g25.symm; subst q; simp only [F_X11_opposite, if_pos c8]
    exact r_iret (r := r21) C hA hr hlo dX11_opposite_46 [[(o, .inr (9, [.ref aS, .ref aPast, .int x11, .ref aSnap, .int kept, .ref aText, .int len, .int x7, .ref aOne, .ref aTwo, .ref aBoth, .ref aWord, .int x22, .ref aOpen, .ref aTimes, .ref aFar, .ref aQueue, .long hash]))], [(aS, .inl (cI, 335, .inl g23))], [(aPast, .inl (cI, 2010, .inl g12))], [(aOne, .inl (cI, 4, .inl g24))], [(aBoth, .inl (cI, 4, .inl g19))], [(aWord, .inl (cI, 20, .inl g25))]] ⟨by simp only [eF], by simp only [eF]⟩ rfl hQ
  · refine r_iconst (v := 0) C dX11_opposite_26 (by decide) ?_
    have eF : F_X11_opposite known cre fS fPast fOne fBoth fWord letter other = (0, known, x7, cre, fS, fPast, fOne, fBoth, fWord) := by have q := e_r1.symm; subst q; have q := e_x5.symm; subst q; have q := e_r6.symm; subst q; have q := e_x7.symm; subst q; simp only [F_X11_opposite, if_neg c8]
    exact r_iret (r := 0) C hA hr hlo dX11_opposite_27 [[(o, .inr (9, [.ref aS, .ref aPast, .int known, .ref aSnap, .int kept, .ref aText, .int len, .int x7, .ref aOne, .ref aTwo, .ref aBoth, .ref aWord, .int cre, .ref aOpen, .ref aTimes, .ref aFar, .ref aQueue, .long hash]))], [(aS, .inl (cI, 335, .inl fS))], [(aPast, .inl (cI, 2010, .inl fPast))], [(aOne, .inl (cI, 4, .inl fOne))], [(aBoth, .inl (cI, 4, .inl fBoth))], [(aWord, .inl (cI, 20, .inl fWord))]] ⟨by simp only [eF], by simp only [eF]⟩ rfl hQ
theorem k_X11_seal : kV yX11_seal cX11_seal 6 (some .int) 2 := ⟨t_1066, t_1067, t_67, t_1068, by decide +kernel, by decide +kernel, by decide +kernel⟩
set_option maxRecDepth 20000 in
def F_X11_seal (known : Int32) (fS : Nat → Int32) (fPast : Nat → Int32) (letter : Int32) (position : Int32) : Int32 × Int32 × Int32 × (Nat → Int32) × (Nat → Int32) := let r1 : Int32 := F_X11_isLetter letter; let x5 : Int32 := (if r1 = 0 then (0) else (let r3 : Int32 := F_X11_isPlace position; (if r3 = 0 then (0) else (1)))); let x10 : Int32 := (if x5 = 0 then (0) else (let r8 : Int32 := F_X11_its fS letter 5; (if ((r8 >>> (position &&& 31)) &&& 1) = 1 then (1) else (0)))); let x16 : Int32 := (if x5 = 0 then (0) else ((if x10 = 0 then (let r14 : Int32 := F_X11_its fS letter position; (if r14 = (position + 1) then (1) else (0))) else (1)))); let x19 : Int32 := (if x5 = 0 then (1) else ((if x16 = 0 then (2) else (0)))); let r20 : Int32 := (F_X11_throwsAt x19).1; let x21 : Int32 := (F_X11_throwsAt x19).2; (if r20 = 0 then (let x25 : Int32 := (F_X11_saves known fS fPast).1; let g26 : Nat → Int32 := (F_X11_saves known fS fPast).2; let x28 : Int32 := (fS (((67 : Int32) * letter) + 5).toNatClampNeg) ^^^ ((1 : Int32) <<< (position &&& 31)); let g30 : Nat → Int32 := upd fS ((((67 : Int32) * letter) + 5).toNatClampNeg) x28; let r32 : Int32 := F_X11_its g30 letter 5; let r33 : Int32 := F_X11_ones r32; (r33, x25, x21, g30, g26)) else ((0, known, x21, fS, fPast)))
set_option maxRecDepth 20000 in
def P_X11_seal (known : Int32) (fS : Nat → Int32) (fPast : Nat → Int32) (letter : Int32) (position : Int32) : Prop := (∀ r1 : Int32, r1 = F_X11_isLetter letter → (∀ x5 : Int32, x5 = ((if r1 = 0 then (0) else (let r3 : Int32 := F_X11_isPlace position; (if r3 = 0 then (0) else (1))))) → (((x5 = 0 → True) ∧ (¬ x5 = 0 → (P_X11_its letter 5))) ∧ (∀ x10 : Int32, x10 = ((if x5 = 0 then (0) else (let r8 : Int32 := F_X11_its fS letter 5; (if ((r8 >>> (position &&& 31)) &&& 1) = 1 then (1) else (0))))) → (((x5 = 0 → True) ∧ (¬ x5 = 0 → ((x10 = 0 → (P_X11_its letter position)) ∧ (¬ x10 = 0 → True)))) ∧ (∀ x16 : Int32, x16 = ((if x5 = 0 then (0) else ((if x10 = 0 then (let r14 : Int32 := F_X11_its fS letter position; (if r14 = (position + 1) then (1) else (0))) else (1))))) → (∀ x19 : Int32, x19 = ((if x5 = 0 then (1) else ((if x16 = 0 then (2) else (0))))) → (∀ r20 : Int32, r20 = (F_X11_throwsAt x19).1 → (∀ x21 : Int32, x21 = (F_X11_throwsAt x19).2 → ((r20 = 0 → ((P_X11_saves known fS fPast) ∧ (∀ x25 : Int32, x25 = (F_X11_saves known fS fPast).1 → (∀ g26 : Nat → Int32, g26 = (F_X11_saves known fS fPast).2 → ((vp_in (((67 : Int32) * letter) + 5) 335) ∧ (∀ x28 : Int32, x28 = (fS (((67 : Int32) * letter) + 5).toNatClampNeg) ^^^ ((1 : Int32) <<< (position &&& 31)) → ((vp_in (((67 : Int32) * letter) + 5) 335) ∧ (∀ g30 : Nat → Int32, g30 = upd fS ((((67 : Int32) * letter) + 5).toNatClampNeg) x28 → (P_X11_its letter 5))))))))) ∧ (¬ r20 = 0 → True)))))))))))
set_option maxRecDepth 20000 in
set_option maxHeartbeats 8000000 in
theorem m_X11_seal (l : Launch) (D : va_G) (cI cL cP cJ : ClassId) (o : Nat) (aS : Nat) (aPast : Nat) (aSnap : Nat) (aText : Nat) (aOne : Nat) (aTwo : Nat) (aBoth : Nat) (aWord : Nat) (aOpen : Nat) (aTimes : Nat) (aFar : Nat) (aQueue : Nat) (known : Int32) (kept : Int32) (len : Int32) (thr : Int32) (cre : Int32) (hash : Int64) (fS : Nat → Int32) (fPast : Nat → Int32) (letter : Int32) (position : Int32) (hp : P_X11_seal known fS fPast letter position) : M vI l yX11_seal cX11_seal 6 (some .int) 2 42 D (tyF cI cL cP cJ) [.ref o, .int letter, .int position] [[(o, .inr (9, [.ref aS, .ref aPast, .int known, .ref aSnap, .int kept, .ref aText, .int len, .int thr, .ref aOne, .ref aTwo, .ref aBoth, .ref aWord, .int cre, .ref aOpen, .ref aTimes, .ref aFar, .ref aQueue, .long hash]))], [(aS, .inl (cI, 335, .inl fS))], [(aPast, .inl (cI, 2010, .inl fPast))]] (fun (r : Int32) (w1 : List va_W) => r = (F_X11_seal known fS fPast letter position).1 ∧ w1 = [[(o, .inr (9, [.ref aS, .ref aPast, .int ((F_X11_seal known fS fPast letter position).2.1), .ref aSnap, .int kept, .ref aText, .int len, .int ((F_X11_seal known fS fPast letter position).2.2.1), .ref aOne, .ref aTwo, .ref aBoth, .ref aWord, .int cre, .ref aOpen, .ref aTimes, .ref aFar, .ref aQueue, .long hash]))], [(aS, .inl (cI, 335, .inl ((F_X11_seal known fS fPast letter position).2.2.2.1)))], [(aPast, .inl (cI, 2010, .inl ((F_X11_seal known fS fPast letter position).2.2.2.2)))]]) := by
  unfold P_X11_seal at hp
  refine m_start (by decide +kernel) (Nat.le_of_ble_eq_true rfl) (fun p e s m args below meth c A Q hA hQ C hr hlo => ?_)
  refine r_Le (L' := [(0, .ref o), (1, .int letter), (2, .int position)]) rfl ?_
  refine r_iload_n C dX11_seal_0 1 rfl ?_
  refine r_callS (wc := []) (wr := [[(o, .inr (9, [.ref aS, .ref aPast, .int known, .ref aSnap, .int kept, .ref aText, .int len, .int thr, .ref aOne, .ref aTwo, .ref aBoth, .ref aWord, .int cre, .ref aOpen, .ref aTimes, .ref aFar, .ref aQueue, .long hash]))], [(aS, .inl (cI, 335, .inl fS))], [(aPast, .inl (cI, 2010, .inl fPast))]]) (st := []) C (m_X11_isLetter l D cI cL cP cJ letter) k_X11_isLetter t_956 [0, 1, 2] (show ([0, 1, 2] : List Nat).Perm (List.range 3) by decide) rfl rfl rfl (Nat.le_of_ble_eq_true rfl) ⟨Nat.le_of_ble_eq_true rfl, Nat.le_of_ble_eq_true rfl⟩ ⟨Nat.zero_le _, Nat.zero_le _⟩ dX11_seal_1 (fun r1 wr1 hw1 => ?_)
  obtain ⟨e_r1, rfl⟩ := hw1
  have hp := hp r1 e_r1
  refine r_ws (I' := [[(o, .inr (9, [.ref aS, .ref aPast, .int known, .ref aSnap, .int kept, .ref aText, .int len, .int thr, .ref aOne, .ref aTwo, .ref aBoth, .ref aWord, .int cre, .ref aOpen, .ref aTimes, .ref aFar, .ref aQueue, .long hash]))], [(aS, .inl (cI, 335, .inl fS))], [(aPast, .inl (cI, 2010, .inl fPast))]]) rfl ?_
  suffices K : ∀ x5 : Int32, x5 = ((if r1 = 0 then (0) else (let r3 : Int32 := F_X11_isPlace position; (if r3 = 0 then (0) else (1))))) → V p l e (rmm 2 42) s m args below meth c 6 D A 0 0 Q [[(o, .inr (9, [.ref aS, .ref aPast, .int known, .ref aSnap, .int kept, .ref aText, .int len, .int thr, .ref aOne, .ref aTwo, .ref aBoth, .ref aWord, .int cre, .ref aOpen, .ref aTimes, .ref aFar, .ref aQueue, .long hash]))], [(aS, .inl (cI, 335, .inl fS))], [(aPast, .inl (cI, 2010, .inl fPast))]] [(0, .ref o), (1, .int letter), (2, .int position)] 19 [.int x5] by
    refine r_if_eq (tgt := 18) C dX11_seal_4 (by decide) (fun c2 => ?_) (fun c2 => ?_)
    · refine r_iconst (v := 0) C dX11_seal_18 (by decide) ?_
      exact K _ (by simp only [if_pos c2])
    · refine r_iload_n C dX11_seal_7 2 rfl ?_
      refine r_callS (wc := []) (wr := [[(o, .inr (9, [.ref aS, .ref aPast, .int known, .ref aSnap, .int kept, .ref aText, .int len, .int thr, .ref aOne, .ref aTwo, .ref aBoth, .ref aWord, .int cre, .ref aOpen, .ref aTimes, .ref aFar, .ref aQueue, .long hash]))], [(aS, .inl (cI, 335, .inl fS))], [(aPast, .inl (cI, 2010, .inl fPast))]]) (st := []) C (m_X11_isPlace l D cI cL cP cJ position) k_X11_isPlace t_1069 [0, 1, 2] (show ([0, 1, 2] : List Nat).Perm (List.range 3) by decide) rfl rfl rfl (Nat.le_of_ble_eq_true rfl) ⟨Nat.le_of_ble_eq_true rfl, Nat.le_of_ble_eq_true rfl⟩ ⟨Nat.zero_le _, Nat.zero_le _⟩ dX11_seal_8 (fun r3 wr3 hw3 => ?_)
      obtain ⟨e_r3, rfl⟩ := hw3
      refine r_ws (I' := [[(o, .inr (9, [.ref aS, .ref aPast, .int known, .ref aSnap, .int kept, .ref aText, .int len, .int thr, .ref aOne, .ref aTwo, .ref aBoth, .ref aWord, .int cre, .ref aOpen, .ref aTimes, .ref aFar, .ref aQueue, .long hash]))], [(aS, .inl (cI, 335, .inl fS))], [(aPast, .inl (cI, 2010, .inl fPast))]]) rfl ?_
      refine r_if_eq (tgt := 18) C dX11_seal_11 (by decide) (fun c4 => ?_) (fun c4 => ?_)
      · refine r_iconst (v := 0) C dX11_seal_18 (by decide) ?_
        exact K _ (by have q := e_r3.symm; subst q; simp only [if_neg c2, if_pos c4])
      · refine r_iconst (v := 1) C dX11_seal_14 (by decide) ?_
        refine r_goto (tgt := 19) C dX11_seal_15 (by decide) ?_
        exact K _ (by have q := e_r3.symm; subst q; simp only [if_neg c2, if_neg c4])
  intro x5 e_x5
  have hp := hp x5 e_x5
  refine r_istore_n (L' := [(3, .int x5), (0, .ref o), (1, .int letter), (2, .int position)]) C dX11_seal_19 (by decide) rfl ?_
  refine r_iload_n C dX11_seal_20 0 rfl ?_
  obtain ⟨hps, hp⟩ := hp
  suffices K : ∀ x10 : Int32, x10 = ((if x5 = 0 then (0) else (let r8 : Int32 := F_X11_its fS letter 5; (if ((r8 >>> (position &&& 31)) &&& 1) = 1 then (1) else (0))))) → V p l e (rmm 2 42) s m args below meth c 6 D A 0 0 Q [[(o, .inr (9, [.ref aS, .ref aPast, .int known, .ref aSnap, .int kept, .ref aText, .int len, .int thr, .ref aOne, .ref aTwo, .ref aBoth, .ref aWord, .int cre, .ref aOpen, .ref aTimes, .ref aFar, .ref aQueue, .long hash]))], [(aS, .inl (cI, 335, .inl fS))], [(aPast, .inl (cI, 2010, .inl fPast))]] [(3, .int x5), (0, .ref o), (1, .int letter), (2, .int position)] 43 [.int x10] by
    have hp := hps
    refine r_if_eq (tgt := 42) C dX11_seal_21 (by decide) (fun c6 => ?_) (fun c6 => ?_)
    · refine r_iconst (v := 0) C dX11_seal_42 (by decide) ?_
      exact K _ (by simp only [if_pos c6])
    · have hp := hp.2 c6
      refine r_aload_n C dX11_seal_24 1 rfl ?_
      refine r_iload_n C dX11_seal_25 2 rfl ?_
      refine r_iconst (v := 5) C dX11_seal_26 (by decide) ?_
      have h7 := hp
      refine r_callV (ci := 9) (wc := [[(o, .inr (9, [.ref aS, .ref aPast, .int known, .ref aSnap, .int kept, .ref aText, .int len, .int thr, .ref aOne, .ref aTwo, .ref aBoth, .ref aWord, .int cre, .ref aOpen, .ref aTimes, .ref aFar, .ref aQueue, .long hash]))], [(aS, .inl (cI, 335, .inl fS))]]) (wr := [[(aPast, .inl (cI, 2010, .inl fPast))]]) (st := []) C (m_X11_its l D cI cL cP cJ o aS aPast aSnap aText aOne aTwo aBoth aWord aOpen aTimes aFar aQueue known kept len thr cre hash fS letter 5 h7) k_X11_its t_966 [0, 1, 2] (show ([0, 1, 2] : List Nat).Perm (List.range 3) by decide) rfl rfl rfl (q0 := 0) rfl rfl rfl (Nat.le_of_ble_eq_true rfl) ⟨Nat.le_of_ble_eq_true rfl, Nat.le_of_ble_eq_true rfl⟩ ⟨Nat.zero_le _, Nat.zero_le _⟩ dX11_seal_27 (fun r8 wr8 hw8 => ?_)
      obtain ⟨e_r8, rfl⟩ := hw8
      refine r_ws (I' := [[(o, .inr (9, [.ref aS, .ref aPast, .int known, .ref aSnap, .int kept, .ref aText, .int len, .int thr, .ref aOne, .ref aTwo, .ref aBoth, .ref aWord, .int cre, .ref aOpen, .ref aTimes, .ref aFar, .ref aQueue, .long hash]))], [(aS, .inl (cI, 335, .inl fS))], [(aPast, .inl (cI, 2010, .inl fPast))]]) rfl ?_
      refine r_iload_n C dX11_seal_30 3 rfl ?_
      refine r_ishr C dX11_seal_31 rfl ?_
      refine r_iconst (v := 1) C dX11_seal_32 (by decide) ?_
      refine r_iand C dX11_seal_33 rfl ?_
      refine r_iconst (v := 1) C dX11_seal_34 (by decide) ?_
      refine r_icmp_ne (tgt := 42) C dX11_seal_35 (by decide) (fun c9 => ?_) (fun c9 => ?_)
      · refine r_iconst (v := 0) C dX11_seal_42 (by decide) ?_
        exact K _ (by have q := e_r8.symm; subst q; simp only [if_neg c6, if_neg c9])
      · refine r_iconst (v := 1) C dX11_seal_38 (by decide) ?_
        refine r_goto (tgt := 43) C dX11_seal_39 (by decide) ?_
        exact K _ (by have q := e_r8.symm; subst q; simp only [if_neg c6, if_pos c9])
  intro x10 e_x10
  have hp := hp x10 e_x10
  refine r_istore (L' := [(4, .int x10), (3, .int x5), (0, .ref o), (1, .int letter), (2, .int position)]) C dX11_seal_43 (by decide) rfl ?_
  refine r_iload_n C dX11_seal_45 1 rfl ?_
  obtain ⟨hps, hp⟩ := hp
  suffices K : ∀ x16 : Int32, x16 = ((if x5 = 0 then (0) else ((if x10 = 0 then (let r14 : Int32 := F_X11_its fS letter position; (if r14 = (position + 1) then (1) else (0))) else (1))))) → V p l e (rmm 2 42) s m args below meth c 6 D A 0 0 Q [[(o, .inr (9, [.ref aS, .ref aPast, .int known, .ref aSnap, .int kept, .ref aText, .int len, .int thr, .ref aOne, .ref aTwo, .ref aBoth, .ref aWord, .int cre, .ref aOpen, .ref aTimes, .ref aFar, .ref aQueue, .long hash]))], [(aS, .inl (cI, 335, .inl fS))], [(aPast, .inl (cI, 2010, .inl fPast))]] [(4, .int x10), (3, .int x5), (0, .ref o), (1, .int letter), (2, .int position)] 71 [.int x16] by
    have hp := hps
    refine r_if_eq (tgt := 70) C dX11_seal_46 (by decide) (fun c11 => ?_) (fun c11 => ?_)
    · refine r_iconst (v := 0) C dX11_seal_70 (by decide) ?_
      exact K _ (by simp only [if_pos c11])
    · have hp := hp.2 c11
      refine r_iload C dX11_seal_49 0 rfl ?_
      refine r_if_ne (tgt := 66) C dX11_seal_51 (by decide) (fun c12 => ?_) (fun c12 => ?_)
      · refine r_iconst (v := 1) C dX11_seal_66 (by decide) ?_
        refine r_goto (tgt := 71) C dX11_seal_67 (by decide) ?_
        exact K _ (by simp only [if_neg c11, if_neg c12])
      · have hp := hp.1 c12
        refine r_aload_n C dX11_seal_54 2 rfl ?_
        refine r_iload_n C dX11_seal_55 3 rfl ?_
        refine r_iload_n C dX11_seal_56 4 rfl ?_
        have h13 := hp
        refine r_callV (ci := 9) (wc := [[(o, .inr (9, [.ref aS, .ref aPast, .int known, .ref aSnap, .int kept, .ref aText, .int len, .int thr, .ref aOne, .ref aTwo, .ref aBoth, .ref aWord, .int cre, .ref aOpen, .ref aTimes, .ref aFar, .ref aQueue, .long hash]))], [(aS, .inl (cI, 335, .inl fS))]]) (wr := [[(aPast, .inl (cI, 2010, .inl fPast))]]) (st := []) C (m_X11_its l D cI cL cP cJ o aS aPast aSnap aText aOne aTwo aBoth aWord aOpen aTimes aFar aQueue known kept len thr cre hash fS letter position h13) k_X11_its t_966 [0, 1, 2] (show ([0, 1, 2] : List Nat).Perm (List.range 3) by decide) rfl rfl rfl (q0 := 0) rfl rfl rfl (Nat.le_of_ble_eq_true rfl) ⟨Nat.le_of_ble_eq_true rfl, Nat.le_of_ble_eq_true rfl⟩ ⟨Nat.zero_le _, Nat.zero_le _⟩ dX11_seal_57 (fun r14 wr14 hw14 => ?_)
        obtain ⟨e_r14, rfl⟩ := hw14
        refine r_ws (I' := [[(o, .inr (9, [.ref aS, .ref aPast, .int known, .ref aSnap, .int kept, .ref aText, .int len, .int thr, .ref aOne, .ref aTwo, .ref aBoth, .ref aWord, .int cre, .ref aOpen, .ref aTimes, .ref aFar, .ref aQueue, .long hash]))], [(aS, .inl (cI, 335, .inl fS))], [(aPast, .inl (cI, 2010, .inl fPast))]]) rfl ?_
        refine r_iload_n C dX11_seal_60 4 rfl ?_
        refine r_iconst (v := 1) C dX11_seal_61 (by decide) ?_
        refine r_iadd C dX11_seal_62 rfl ?_
        refine r_icmp_ne (tgt := 70) C dX11_seal_63 (by decide) (fun c15 => ?_) (fun c15 => ?_)
        · refine r_iconst (v := 0) C dX11_seal_70 (by decide) ?_
          exact K _ (by have q := e_r14.symm; subst q; simp only [if_neg c11, if_pos c12, if_neg c15])
        · refine r_iconst (v := 1) C dX11_seal_66 (by decide) ?_
          refine r_goto (tgt := 71) C dX11_seal_67 (by decide) ?_
          exact K _ (by have q := e_r14.symm; subst q; simp only [if_neg c11, if_pos c12, if_pos c15])
  intro x16 e_x16
  have hp := hp x16 e_x16
  refine r_istore (L' := [(5, .int x16), (4, .int x10), (3, .int x5), (0, .ref o), (1, .int letter), (2, .int position)]) C dX11_seal_71 (by decide) rfl ?_
  refine r_aload_n C dX11_seal_73 3 rfl ?_
  refine r_iload_n C dX11_seal_74 2 rfl ?_
  suffices K : ∀ x19 : Int32, x19 = ((if x5 = 0 then (1) else ((if x16 = 0 then (2) else (0))))) → V p l e (rmm 2 42) s m args below meth c 6 D A 0 0 Q [[(o, .inr (9, [.ref aS, .ref aPast, .int known, .ref aSnap, .int kept, .ref aText, .int len, .int thr, .ref aOne, .ref aTwo, .ref aBoth, .ref aWord, .int cre, .ref aOpen, .ref aTimes, .ref aFar, .ref aQueue, .long hash]))], [(aS, .inl (cI, 335, .inl fS))], [(aPast, .inl (cI, 2010, .inl fPast))]] [(5, .int x16), (4, .int x10), (3, .int x5), (0, .ref o), (1, .int letter), (2, .int position)] 92 [.int x19, .ref o] by
    refine r_if_ne (tgt := 82) C dX11_seal_75 (by decide) (fun c17 => ?_) (fun c17 => ?_)
    · refine r_iload C dX11_seal_82 0 rfl ?_
      refine r_if_eq (tgt := 91) C dX11_seal_84 (by decide) (fun c18 => ?_) (fun c18 => ?_)
      · refine r_iconst (v := 2) C dX11_seal_91 (by decide) ?_
        exact K _ (by simp only [if_neg c17, if_pos c18])
      · refine r_iconst (v := 0) C dX11_seal_87 (by decide) ?_
        refine r_goto (tgt := 92) C dX11_seal_88 (by decide) ?_
        exact K _ (by simp only [if_neg c17, if_neg c18])
    · refine r_iconst (v := 1) C dX11_seal_78 (by decide) ?_
      refine r_goto (tgt := 92) C dX11_seal_79 (by decide) ?_
      exact K _ (by simp only [if_pos c17])
  intro x19 e_x19
  have hp := hp x19 e_x19
  refine r_callV (ci := 9) (wc := [[(o, .inr (9, [.ref aS, .ref aPast, .int known, .ref aSnap, .int kept, .ref aText, .int len, .int thr, .ref aOne, .ref aTwo, .ref aBoth, .ref aWord, .int cre, .ref aOpen, .ref aTimes, .ref aFar, .ref aQueue, .long hash]))]]) (wr := [[(aS, .inl (cI, 335, .inl fS))], [(aPast, .inl (cI, 2010, .inl fPast))]]) (st := []) C (m_X11_throwsAt l D cI cL cP cJ o aS aPast aSnap aText aOne aTwo aBoth aWord aOpen aTimes aFar aQueue known kept len thr cre hash x19) k_X11_throwsAt t_974 [0, 1, 2] (show ([0, 1, 2] : List Nat).Perm (List.range 3) by decide) rfl rfl rfl (q0 := 0) rfl rfl rfl (Nat.le_of_ble_eq_true rfl) ⟨Nat.le_of_ble_eq_true rfl, Nat.le_of_ble_eq_true rfl⟩ ⟨Nat.zero_le _, Nat.zero_le _⟩ dX11_seal_92 (fun r20 wr20 hw20 => ?_)
  obtain ⟨e_r20, rfl⟩ := hw20
  have hp := hp r20 e_r20
  obtain ⟨x21, e_x21⟩ : ∃ z : Int32, z = (F_X11_throwsAt x19).2 := ⟨_, rfl⟩
  have hp := hp x21 e_x21
  refine r_ws (I' := [[(o, .inr (9, [.ref aS, .ref aPast, .int known, .ref aSnap, .int kept, .ref aText, .int len, .int x21, .ref aOne, .ref aTwo, .ref aBoth, .ref aWord, .int cre, .ref aOpen, .ref aTimes, .ref aFar, .ref aQueue, .long hash]))], [(aS, .inl (cI, 335, .inl fS))], [(aPast, .inl (cI, 2010, .inl fPast))]]) (by rw [e_x21]; rfl) ?_
  refine r_if_eq (tgt := 100) C dX11_seal_95 (by decide) (fun c22 => ?_) (fun c22 => ?_)
  · have hp := hp.1 c22
    refine r_aload_n C dX11_seal_100 3 rfl ?_
    obtain ⟨h23, hp⟩ := hp
    refine r_callV (ci := 9) (wc := [[(o, .inr (9, [.ref aS, .ref aPast, .int known, .ref aSnap, .int kept, .ref aText, .int len, .int x21, .ref aOne, .ref aTwo, .ref aBoth, .ref aWord, .int cre, .ref aOpen, .ref aTimes, .ref aFar, .ref aQueue, .long hash]))], [(aS, .inl (cI, 335, .inl fS))], [(aPast, .inl (cI, 2010, .inl fPast))]]) (wr := []) (st := []) C (m_X11_saves l D cI cL cP cJ o aS aPast aSnap aText aOne aTwo aBoth aWord aOpen aTimes aFar aQueue known kept len x21 cre hash fS fPast h23) k_X11_saves t_978 [0, 1, 2] (show ([0, 1, 2] : List Nat).Perm (List.range 3) by decide) rfl rfl rfl (q0 := 0) rfl rfl rfl (Nat.le_of_ble_eq_true rfl) ⟨Nat.le_of_ble_eq_true rfl, Nat.le_of_ble_eq_true rfl⟩ ⟨Nat.zero_le _, Nat.zero_le _⟩ dX11_seal_101 (fun r24 wr24 hw24 => ?_)
    obtain rfl := hw24
    obtain ⟨x25, e_x25⟩ : ∃ z : Int32, z = (F_X11_saves known fS fPast).1 := ⟨_, rfl⟩
    have hp := hp x25 e_x25
    obtain ⟨g26, e_g26⟩ : ∃ z : Nat → Int32, z = (F_X11_saves known fS fPast).2 := ⟨_, rfl⟩
    have hp := hp g26 e_g26
    refine r_ws (I' := [[(o, .inr (9, [.ref aS, .ref aPast, .int x25, .ref aSnap, .int kept, .ref aText, .int len, .int x21, .ref aOne, .ref aTwo, .ref aBoth, .ref aWord, .int cre, .ref aOpen, .ref aTimes, .ref aFar, .ref aQueue, .long hash]))], [(aS, .inl (cI, 335, .inl fS))], [(aPast, .inl (cI, 2010, .inl g26))]]) (by rw [e_x25, e_g26]; rfl) ?_
    refine r_aload_n C dX11_seal_104 3 rfl ?_
    refine r_get (Cn := RX11) (T := TX11) (N := 18) C inT11 0 rfl rfl 0 (by decide) t_893 rfl dX11_seal_105 ?_
    refine r_bipush (v := 67) C dX11_seal_108 (by decide) ?_
    refine r_iload_n C dX11_seal_110 4 rfl ?_
    refine r_imul C dX11_seal_111 rfl ?_
    refine r_iconst (v := 5) C dX11_seal_112 (by decide) ?_
    refine r_iadd C dX11_seal_113 rfl ?_
    refine r_dup2_11 C dX11_seal_114 rfl rfl ?_
    obtain ⟨h27, hp⟩ := hp
    refine r_iald (z := fS (((67 : Int32) * letter) + 5).toNatClampNeg) C 1 0 rfl rfl h27 dX11_seal_115 rfl ?_
    refine r_iconst (v := 1) C dX11_seal_116 (by decide) ?_
    refine r_iload_n C dX11_seal_117 5 rfl ?_
    refine r_ishl C dX11_seal_118 rfl ?_
    refine r_ixor C dX11_seal_119 rfl ?_
    refine r_top (fun x28 e_x28 => ?_)
    have hp := hp x28 e_x28
    obtain ⟨h29, hp⟩ := hp
    obtain ⟨g30, e_g30⟩ : ∃ z : Nat → Int32, z = upd fS ((((67 : Int32) * letter) + 5).toNatClampNeg) x28 := ⟨_, rfl⟩
    have hp := hp g30 e_g30
    refine r_iast C 1 0 rfl rfl h29 (I' := [[(o, .inr (9, [.ref aS, .ref aPast, .int x25, .ref aSnap, .int kept, .ref aText, .int len, .int x21, .ref aOne, .ref aTwo, .ref aBoth, .ref aWord, .int cre, .ref aOpen, .ref aTimes, .ref aFar, .ref aQueue, .long hash]))], [(aS, .inl (cI, 335, .inl g30))], [(aPast, .inl (cI, 2010, .inl g26))]]) (by rw [e_g30]; rfl) dX11_seal_120 ?_
    refine r_aload_n C dX11_seal_121 3 rfl ?_
    refine r_iload_n C dX11_seal_122 4 rfl ?_
    refine r_iconst (v := 5) C dX11_seal_123 (by decide) ?_
    have h31 := hp
    refine r_callV (ci := 9) (wc := [[(o, .inr (9, [.ref aS, .ref aPast, .int x25, .ref aSnap, .int kept, .ref aText, .int len, .int x21, .ref aOne, .ref aTwo, .ref aBoth, .ref aWord, .int cre, .ref aOpen, .ref aTimes, .ref aFar, .ref aQueue, .long hash]))], [(aS, .inl (cI, 335, .inl g30))]]) (wr := [[(aPast, .inl (cI, 2010, .inl g26))]]) (st := []) C (m_X11_its l D cI cL cP cJ o aS aPast aSnap aText aOne aTwo aBoth aWord aOpen aTimes aFar aQueue x25 kept len x21 cre hash g30 letter 5 h31) k_X11_its t_966 [0, 1, 2] (show ([0, 1, 2] : List Nat).Perm (List.range 3) by decide) rfl rfl rfl (q0 := 0) rfl rfl rfl (Nat.le_of_ble_eq_true rfl) ⟨Nat.le_of_ble_eq_true rfl, Nat.le_of_ble_eq_true rfl⟩ ⟨Nat.zero_le _, Nat.zero_le _⟩ dX11_seal_124 (fun r32 wr32 hw32 => ?_)
    obtain ⟨e_r32, rfl⟩ := hw32
    refine r_ws (I' := [[(o, .inr (9, [.ref aS, .ref aPast, .int x25, .ref aSnap, .int kept, .ref aText, .int len, .int x21, .ref aOne, .ref aTwo, .ref aBoth, .ref aWord, .int cre, .ref aOpen, .ref aTimes, .ref aFar, .ref aQueue, .long hash]))], [(aS, .inl (cI, 335, .inl g30))], [(aPast, .inl (cI, 2010, .inl g26))]]) rfl ?_
    refine r_callS (wc := []) (wr := [[(o, .inr (9, [.ref aS, .ref aPast, .int x25, .ref aSnap, .int kept, .ref aText, .int len, .int x21, .ref aOne, .ref aTwo, .ref aBoth, .ref aWord, .int cre, .ref aOpen, .ref aTimes, .ref aFar, .ref aQueue, .long hash]))], [(aS, .inl (cI, 335, .inl g30))], [(aPast, .inl (cI, 2010, .inl g26))]]) (st := []) C (m_X11_ones l D cI cL cP cJ r32) k_X11_ones t_1072 [0, 1, 2] (show ([0, 1, 2] : List Nat).Perm (List.range 3) by decide) rfl rfl rfl (Nat.le_of_ble_eq_true rfl) ⟨Nat.le_of_ble_eq_true rfl, Nat.le_of_ble_eq_true rfl⟩ ⟨Nat.zero_le _, Nat.zero_le _⟩ dX11_seal_127 (fun r33 wr33 hw33 => ?_)
    obtain ⟨e_r33, rfl⟩ := hw33
    refine r_ws (I' := [[(o, .inr (9, [.ref aS, .ref aPast, .int x25, .ref aSnap, .int kept, .ref aText, .int len, .int x21, .ref aOne, .ref aTwo, .ref aBoth, .ref aWord, .int cre, .ref aOpen, .ref aTimes, .ref aFar, .ref aQueue, .long hash]))], [(aS, .inl (cI, 335, .inl g30))], [(aPast, .inl (cI, 2010, .inl g26))]]) rfl ?_
    have eF : F_X11_seal known fS fPast letter position = (r33, x25, x21, g30, g26) := by have q := e_r1.symm; subst q; have q := e_x5.symm; subst q; have q := e_x10.symm; subst q; have q := e_x16.symm; subst q; have q := e_x19.symm; subst q; have q := e_r20.symm; subst q; have q := e_x21.symm; subst q; have q := e_x25.symm; subst q; have q := e_g26.symm; subst q; have q := e_x28.symm; subst q; have q := e_g30.symm; subst q; have q := e_r32.symm; subst q; have q := e_r33.symm; subst q; simp only [F_X11_seal, if_pos c22]
    exact r_iret (r := r33) C hA hr hlo dX11_seal_130 [[(o, .inr (9, [.ref aS, .ref aPast, .int x25, .ref aSnap, .int kept, .ref aText, .int len, .int x21, .ref aOne, .ref aTwo, .ref aBoth, .ref aWord, .int cre, .ref aOpen, .ref aTimes, .ref aFar, .ref aQueue, .long hash]))], [(aS, .inl (cI, 335, .inl g30))], [(aPast, .inl (cI, 2010, .inl g26))]] ⟨by simp only [eF], by simp only [eF]⟩ rfl hQ
  · refine r_iconst (v := 0) C dX11_seal_98 (by decide) ?_
    have eF : F_X11_seal known fS fPast letter position = (0, known, x21, fS, fPast) := by have q := e_r1.symm; subst q; have q := e_x5.symm; subst q; have q := e_x10.symm; subst q; have q := e_x16.symm; subst q; have q := e_x19.symm; subst q; have q := e_r20.symm; subst q; have q := e_x21.symm; subst q; simp only [F_X11_seal, if_neg c22]
    exact r_iret (r := 0) C hA hr hlo dX11_seal_99 [[(o, .inr (9, [.ref aS, .ref aPast, .int known, .ref aSnap, .int kept, .ref aText, .int len, .int x21, .ref aOne, .ref aTwo, .ref aBoth, .ref aWord, .int cre, .ref aOpen, .ref aTimes, .ref aFar, .ref aQueue, .long hash]))], [(aS, .inl (cI, 335, .inl fS))], [(aPast, .inl (cI, 2010, .inl fPast))]] ⟨by simp only [eF], by simp only [eF]⟩ rfl hQ
theorem k_X11_append : kV yX11_append cX11_append 2 (some .int) 1 := ⟨t_1076, t_1077, t_67, t_1078, by decide +kernel, by decide +kernel, by decide +kernel⟩
set_option maxRecDepth 20000 in
def F_X11_append (len : Int32) (fText : Nat → Int32) (code : Int32) : Int32 × Int32 × Int32 × (Nat → Int32) := let r1 : Int32 := F_X11_in code 33 126; let x4 : Int32 := (if r1 = 0 then (1) else ((if len = 60 then (2) else (0)))); let r5 : Int32 := (F_X11_throwsAt x4).1; let x6 : Int32 := (F_X11_throwsAt x4).2; (if r5 = 0 then (let g9 : Nat → Int32 := upd fText (len.toNatClampNeg) code; let x10 : Int32 := len + 1; (x10, x10, x6, g9)) else ((0, len, x6, fText)))
set_option maxRecDepth 20000 in
def P_X11_append (len : Int32) (code : Int32) : Prop := (∀ r1 : Int32, r1 = F_X11_in code 33 126 → (∀ x4 : Int32, x4 = ((if r1 = 0 then (1) else ((if len = 60 then (2) else (0))))) → (∀ r5 : Int32, r5 = (F_X11_throwsAt x4).1 → (∀ x6 : Int32, x6 = (F_X11_throwsAt x4).2 → ((r5 = 0 → (vp_in len 60)) ∧ (¬ r5 = 0 → True))))))
set_option maxRecDepth 20000 in
set_option maxHeartbeats 8000000 in
theorem m_X11_append (l : Launch) (D : va_G) (cI cL cP cJ : ClassId) (o : Nat) (aS : Nat) (aPast : Nat) (aSnap : Nat) (aText : Nat) (aOne : Nat) (aTwo : Nat) (aBoth : Nat) (aWord : Nat) (aOpen : Nat) (aTimes : Nat) (aFar : Nat) (aQueue : Nat) (known : Int32) (kept : Int32) (len : Int32) (thr : Int32) (cre : Int32) (hash : Int64) (fText : Nat → Int32) (code : Int32) (hp : P_X11_append len code) : M vI l yX11_append cX11_append 2 (some .int) 1 22 D (tyF cI cL cP cJ) [.ref o, .int code] [[(o, .inr (9, [.ref aS, .ref aPast, .int known, .ref aSnap, .int kept, .ref aText, .int len, .int thr, .ref aOne, .ref aTwo, .ref aBoth, .ref aWord, .int cre, .ref aOpen, .ref aTimes, .ref aFar, .ref aQueue, .long hash]))], [(aText, .inl (cI, 60, .inl fText))]] (fun (r : Int32) (w1 : List va_W) => r = (F_X11_append len fText code).1 ∧ w1 = [[(o, .inr (9, [.ref aS, .ref aPast, .int known, .ref aSnap, .int kept, .ref aText, .int ((F_X11_append len fText code).2.1), .int ((F_X11_append len fText code).2.2.1), .ref aOne, .ref aTwo, .ref aBoth, .ref aWord, .int cre, .ref aOpen, .ref aTimes, .ref aFar, .ref aQueue, .long hash]))], [(aText, .inl (cI, 60, .inl ((F_X11_append len fText code).2.2.2)))]]) := by
  unfold P_X11_append at hp
  refine m_start (by decide +kernel) (Nat.le_of_ble_eq_true rfl) (fun p e s m args below meth c A Q hA hQ C hr hlo => ?_)
  refine r_Le (L' := [(0, .ref o), (1, .int code)]) rfl ?_
  refine r_aload_n C dX11_append_0 0 rfl ?_
  refine r_iload_n C dX11_append_1 1 rfl ?_
  refine r_bipush (v := 33) C dX11_append_2 (by decide) ?_
  refine r_bipush (v := 126) C dX11_append_4 (by decide) ?_
  refine r_callS (wc := []) (wr := [[(o, .inr (9, [.ref aS, .ref aPast, .int known, .ref aSnap, .int kept, .ref aText, .int len, .int thr, .ref aOne, .ref aTwo, .ref aBoth, .ref aWord, .int cre, .ref aOpen, .ref aTimes, .ref aFar, .ref aQueue, .long hash]))], [(aText, .inl (cI, 60, .inl fText))]]) (st := [.ref o]) C (m_X11_in l D cI cL cP cJ code 33 126) k_X11_in t_959 [0, 1] (show ([0, 1] : List Nat).Perm (List.range 2) by decide) rfl rfl rfl (Nat.le_of_ble_eq_true rfl) ⟨Nat.le_of_ble_eq_true rfl, Nat.le_of_ble_eq_true rfl⟩ ⟨Nat.zero_le _, Nat.zero_le _⟩ dX11_append_6 (fun r1 wr1 hw1 => ?_)
  obtain ⟨e_r1, rfl⟩ := hw1
  have hp := hp r1 e_r1
  refine r_ws (I' := [[(o, .inr (9, [.ref aS, .ref aPast, .int known, .ref aSnap, .int kept, .ref aText, .int len, .int thr, .ref aOne, .ref aTwo, .ref aBoth, .ref aWord, .int cre, .ref aOpen, .ref aTimes, .ref aFar, .ref aQueue, .long hash]))], [(aText, .inl (cI, 60, .inl fText))]]) rfl ?_
  suffices K : ∀ x4 : Int32, x4 = ((if r1 = 0 then (1) else ((if len = 60 then (2) else (0))))) → V p l e (rmm 1 22) s m args below meth c 2 D A 0 0 Q [[(o, .inr (9, [.ref aS, .ref aPast, .int known, .ref aSnap, .int kept, .ref aText, .int len, .int thr, .ref aOne, .ref aTwo, .ref aBoth, .ref aWord, .int cre, .ref aOpen, .ref aTimes, .ref aFar, .ref aQueue, .long hash]))], [(aText, .inl (cI, 60, .inl fText))]] [(0, .ref o), (1, .int code)] 30 [.int x4, .ref o] by
    refine r_if_ne (tgt := 16) C dX11_append_9 (by decide) (fun c2 => ?_) (fun c2 => ?_)
    · refine r_aload_n C dX11_append_16 0 rfl ?_
      refine r_get (Cn := RX11) (T := TX11) (N := 18) C inT11 0 rfl rfl 6 (by decide) t_899 rfl dX11_append_17 ?_
      refine r_bipush (v := 60) C dX11_append_20 (by decide) ?_
      refine r_icmp_ne (tgt := 29) C dX11_append_22 (by decide) (fun c3 => ?_) (fun c3 => ?_)
      · refine r_iconst (v := 0) C dX11_append_29 (by decide) ?_
        exact K _ (by simp only [if_neg c2, if_neg c3])
      · refine r_iconst (v := 2) C dX11_append_25 (by decide) ?_
        refine r_goto (tgt := 30) C dX11_append_26 (by decide) ?_
        exact K _ (by simp only [if_neg c2, if_pos c3])
    · refine r_iconst (v := 1) C dX11_append_12 (by decide) ?_
      refine r_goto (tgt := 30) C dX11_append_13 (by decide) ?_
      exact K _ (by simp only [if_pos c2])
  intro x4 e_x4
  have hp := hp x4 e_x4
  refine r_callV (ci := 9) (wc := [[(o, .inr (9, [.ref aS, .ref aPast, .int known, .ref aSnap, .int kept, .ref aText, .int len, .int thr, .ref aOne, .ref aTwo, .ref aBoth, .ref aWord, .int cre, .ref aOpen, .ref aTimes, .ref aFar, .ref aQueue, .long hash]))]]) (wr := [[(aText, .inl (cI, 60, .inl fText))]]) (st := []) C (m_X11_throwsAt l D cI cL cP cJ o aS aPast aSnap aText aOne aTwo aBoth aWord aOpen aTimes aFar aQueue known kept len thr cre hash x4) k_X11_throwsAt t_974 [0, 1] (show ([0, 1] : List Nat).Perm (List.range 2) by decide) rfl rfl rfl (q0 := 0) rfl rfl rfl (Nat.le_of_ble_eq_true rfl) ⟨Nat.le_of_ble_eq_true rfl, Nat.le_of_ble_eq_true rfl⟩ ⟨Nat.zero_le _, Nat.zero_le _⟩ dX11_append_30 (fun r5 wr5 hw5 => ?_)
  obtain ⟨e_r5, rfl⟩ := hw5
  have hp := hp r5 e_r5
  obtain ⟨x6, e_x6⟩ : ∃ z : Int32, z = (F_X11_throwsAt x4).2 := ⟨_, rfl⟩
  have hp := hp x6 e_x6
  refine r_ws (I' := [[(o, .inr (9, [.ref aS, .ref aPast, .int known, .ref aSnap, .int kept, .ref aText, .int len, .int x6, .ref aOne, .ref aTwo, .ref aBoth, .ref aWord, .int cre, .ref aOpen, .ref aTimes, .ref aFar, .ref aQueue, .long hash]))], [(aText, .inl (cI, 60, .inl fText))]]) (by rw [e_x6]; rfl) ?_
  refine r_if_eq (tgt := 38) C dX11_append_33 (by decide) (fun c7 => ?_) (fun c7 => ?_)
  · have hp := hp.1 c7
    refine r_aload_n C dX11_append_38 0 rfl ?_
    refine r_get (Cn := RX11) (T := TX11) (N := 18) C inT11 0 rfl rfl 5 (by decide) t_898 rfl dX11_append_39 ?_
    refine r_aload_n C dX11_append_42 0 rfl ?_
    refine r_get (Cn := RX11) (T := TX11) (N := 18) C inT11 0 rfl rfl 6 (by decide) t_899 rfl dX11_append_43 ?_
    refine r_iload_n C dX11_append_46 1 rfl ?_
    have h8 := hp
    obtain ⟨g9, e_g9⟩ : ∃ z : Nat → Int32, z = upd fText (len.toNatClampNeg) code := ⟨_, rfl⟩
    refine r_iast C 1 0 rfl rfl h8 (I' := [[(o, .inr (9, [.ref aS, .ref aPast, .int known, .ref aSnap, .int kept, .ref aText, .int len, .int x6, .ref aOne, .ref aTwo, .ref aBoth, .ref aWord, .int cre, .ref aOpen, .ref aTimes, .ref aFar, .ref aQueue, .long hash]))], [(aText, .inl (cI, 60, .inl g9))]]) (by rw [e_g9]; rfl) dX11_append_47 ?_
    refine r_aload_n C dX11_append_48 0 rfl ?_
    refine r_dup C dX11_append_49 rfl ?_
    refine r_get (Cn := RX11) (T := TX11) (N := 18) C inT11 0 rfl rfl 6 (by decide) t_899 rfl dX11_append_50 ?_
    refine r_iconst (v := 1) C dX11_append_53 (by decide) ?_
    refine r_iadd C dX11_append_54 rfl ?_
    refine r_top (fun x10 e_x10 => ?_)
    refine r_put (Cn := RX11) (T := TX11) (N := 18) C inT11 0 rfl rfl 6 (by decide) t_899 tyX11 tyX11_ok nmX11 rfl rfl rfl (Nat.le_of_ble_eq_true rfl) (I' := [[(o, .inr (9, [.ref aS, .ref aPast, .int known, .ref aSnap, .int kept, .ref aText, .int x10, .int x6, .ref aOne, .ref aTwo, .ref aBoth, .ref aWord, .int cre, .ref aOpen, .ref aTimes, .ref aFar, .ref aQueue, .long hash]))], [(aText, .inl (cI, 60, .inl g9))]]) rfl dX11_append_55 ?_
    refine r_aload_n C dX11_append_58 0 rfl ?_
    refine r_get (Cn := RX11) (T := TX11) (N := 18) C inT11 0 rfl rfl 6 (by decide) t_899 rfl dX11_append_59 ?_
    have eF : F_X11_append len fText code = (x10, x10, x6, g9) := by have q := e_r1.symm; subst q; have q := e_x4.symm; subst q; have q := e_r5.symm; subst q; have q := e_x6.symm; subst q; have q := e_g9.symm; subst q; have q := e_x10.symm; subst q; simp only [F_X11_append, if_pos c7]
    exact r_iret (r := x10) C hA hr hlo dX11_append_62 [[(o, .inr (9, [.ref aS, .ref aPast, .int known, .ref aSnap, .int kept, .ref aText, .int x10, .int x6, .ref aOne, .ref aTwo, .ref aBoth, .ref aWord, .int cre, .ref aOpen, .ref aTimes, .ref aFar, .ref aQueue, .long hash]))], [(aText, .inl (cI, 60, .inl g9))]] ⟨by simp only [eF], by simp only [eF]⟩ rfl hQ
  · refine r_iconst (v := 0) C dX11_append_36 (by decide) ?_
    have eF : F_X11_append len fText code = (0, len, x6, fText) := by have q := e_r1.symm; subst q; have q := e_x4.symm; subst q; have q := e_r5.symm; subst q; have q := e_x6.symm; subst q; simp only [F_X11_append, if_neg c7]
    exact r_iret (r := 0) C hA hr hlo dX11_append_37 [[(o, .inr (9, [.ref aS, .ref aPast, .int known, .ref aSnap, .int kept, .ref aText, .int len, .int x6, .ref aOne, .ref aTwo, .ref aBoth, .ref aWord, .int cre, .ref aOpen, .ref aTimes, .ref aFar, .ref aQueue, .long hash]))], [(aText, .inl (cI, 60, .inl fText))]] ⟨by simp only [eF], by simp only [eF]⟩ rfl hQ
theorem k_X11_clearBuffer : kV yX11_clearBuffer cX11_clearBuffer 2 (some .int) 0 := ⟨t_1080, t_1081, t_67, t_1082, by decide +kernel, by decide +kernel, by decide +kernel⟩
set_option maxRecDepth 20000 in
def F_X11_clearBuffer (len : Int32) : Int32 × Int32 × Int32 := (len, 0, 0)
set_option maxRecDepth 20000 in
set_option maxHeartbeats 8000000 in
theorem m_X11_clearBuffer (l : Launch) (D : va_G) (cI cL cP cJ : ClassId) (o : Nat) (aS : Nat) (aPast : Nat) (aSnap : Nat) (aText : Nat) (aOne : Nat) (aTwo : Nat) (aBoth : Nat) (aWord : Nat) (aOpen : Nat) (aTimes : Nat) (aFar : Nat) (aQueue : Nat) (known : Int32) (kept : Int32) (len : Int32) (thr : Int32) (cre : Int32) (hash : Int64) : M vI l yX11_clearBuffer cX11_clearBuffer 2 (some .int) 0 0 D (tyF cI cL cP cJ) [.ref o] [[(o, .inr (9, [.ref aS, .ref aPast, .int known, .ref aSnap, .int kept, .ref aText, .int len, .int thr, .ref aOne, .ref aTwo, .ref aBoth, .ref aWord, .int cre, .ref aOpen, .ref aTimes, .ref aFar, .ref aQueue, .long hash]))]] (fun (r : Int32) (w1 : List va_W) => r = (F_X11_clearBuffer len).1 ∧ w1 = [[(o, .inr (9, [.ref aS, .ref aPast, .int known, .ref aSnap, .int kept, .ref aText, .int ((F_X11_clearBuffer len).2.1), .int ((F_X11_clearBuffer len).2.2), .ref aOne, .ref aTwo, .ref aBoth, .ref aWord, .int cre, .ref aOpen, .ref aTimes, .ref aFar, .ref aQueue, .long hash]))]]) := by
  refine m_start (by decide +kernel) (Nat.le_of_ble_eq_true rfl) (fun p e s m args below meth c A Q hA hQ C hr hlo => ?_)
  refine r_Le (L' := [(0, .ref o)]) rfl ?_
  refine r_aload_n C dX11_clearBuffer_0 0 rfl ?_
  refine r_iconst (v := 0) C dX11_clearBuffer_1 (by decide) ?_
  refine r_put (Cn := RX11) (T := TX11) (N := 18) C inT11 0 rfl rfl 7 (by decide) t_900 tyX11 tyX11_ok nmX11 rfl rfl rfl (Nat.le_of_ble_eq_true rfl) (I' := [[(o, .inr (9, [.ref aS, .ref aPast, .int known, .ref aSnap, .int kept, .ref aText, .int len, .int 0, .ref aOne, .ref aTwo, .ref aBoth, .ref aWord, .int cre, .ref aOpen, .ref aTimes, .ref aFar, .ref aQueue, .long hash]))]]) rfl dX11_clearBuffer_2 ?_
  refine r_aload_n C dX11_clearBuffer_5 0 rfl ?_
  refine r_get (Cn := RX11) (T := TX11) (N := 18) C inT11 0 rfl rfl 6 (by decide) t_899 rfl dX11_clearBuffer_6 ?_
  refine r_istore_n (L' := [(1, .int len), (0, .ref o)]) C dX11_clearBuffer_9 (by decide) rfl ?_
  refine r_aload_n C dX11_clearBuffer_10 1 rfl ?_
  refine r_iconst (v := 0) C dX11_clearBuffer_11 (by decide) ?_
  refine r_put (Cn := RX11) (T := TX11) (N := 18) C inT11 0 rfl rfl 6 (by decide) t_899 tyX11 tyX11_ok nmX11 rfl rfl rfl (Nat.le_of_ble_eq_true rfl) (I' := [[(o, .inr (9, [.ref aS, .ref aPast, .int known, .ref aSnap, .int kept, .ref aText, .int 0, .int 0, .ref aOne, .ref aTwo, .ref aBoth, .ref aWord, .int cre, .ref aOpen, .ref aTimes, .ref aFar, .ref aQueue, .long hash]))]]) rfl dX11_clearBuffer_12 ?_
  refine r_iload_n C dX11_clearBuffer_15 0 rfl ?_
  have eF : F_X11_clearBuffer len = (len, 0, 0) := by rfl
  exact r_iret (r := len) C hA hr hlo dX11_clearBuffer_16 [[(o, .inr (9, [.ref aS, .ref aPast, .int known, .ref aSnap, .int kept, .ref aText, .int 0, .int 0, .ref aOne, .ref aTwo, .ref aBoth, .ref aWord, .int cre, .ref aOpen, .ref aTimes, .ref aFar, .ref aQueue, .long hash]))]] ⟨by simp only [eF], by simp only [eF]⟩ rfl hQ
theorem k_X11_sign : kV yX11_sign cX11_sign 2 (some .int) 1 := ⟨t_1097, t_33, t_67, t_1098, by decide +kernel, by decide +kernel, by decide +kernel⟩
set_option maxRecDepth 20000 in
def F_X11_sign (len : Int32) (fText : Nat → Int32) (place : Int32) : Int32 := let x4 : Int32 := (if place < 0 then ((-1)) else ((if place < len then (fText place.toNatClampNeg) else ((-1))))); x4
set_option maxRecDepth 20000 in
def P_X11_sign (len : Int32) (place : Int32) : Prop := ((place < 0 → True) ∧ (¬ place < 0 → ((place < len → (vp_in place 60)) ∧ (¬ place < len → True))))
set_option maxRecDepth 20000 in
set_option maxHeartbeats 8000000 in
theorem m_X11_sign (l : Launch) (D : va_G) (cI cL cP cJ : ClassId) (o : Nat) (aS : Nat) (aPast : Nat) (aSnap : Nat) (aText : Nat) (aOne : Nat) (aTwo : Nat) (aBoth : Nat) (aWord : Nat) (aOpen : Nat) (aTimes : Nat) (aFar : Nat) (aQueue : Nat) (known : Int32) (kept : Int32) (len : Int32) (thr : Int32) (cre : Int32) (hash : Int64) (fText : Nat → Int32) (place : Int32) (hp : P_X11_sign len place) : M vI l yX11_sign cX11_sign 2 (some .int) 0 0 D (tyF cI cL cP cJ) [.ref o, .int place] [[(o, .inr (9, [.ref aS, .ref aPast, .int known, .ref aSnap, .int kept, .ref aText, .int len, .int thr, .ref aOne, .ref aTwo, .ref aBoth, .ref aWord, .int cre, .ref aOpen, .ref aTimes, .ref aFar, .ref aQueue, .long hash]))], [(aText, .inl (cI, 60, .inl fText))]] (fun (r : Int32) (w1 : List va_W) => r = (F_X11_sign len fText place) ∧ w1 = [[(o, .inr (9, [.ref aS, .ref aPast, .int known, .ref aSnap, .int kept, .ref aText, .int len, .int thr, .ref aOne, .ref aTwo, .ref aBoth, .ref aWord, .int cre, .ref aOpen, .ref aTimes, .ref aFar, .ref aQueue, .long hash]))], [(aText, .inl (cI, 60, .inl fText))]]) := by
  unfold P_X11_sign at hp
  refine m_start (by decide +kernel) (Nat.le_of_ble_eq_true rfl) (fun p e s m args below meth c A Q hA hQ C hr hlo => ?_)
  refine r_Le (L' := [(0, .ref o), (1, .int place)]) rfl ?_
  refine r_iload_n C dX11_sign_0 1 rfl ?_
  have hps := hp
  suffices K : ∀ x4 : Int32, x4 = ((if place < 0 then ((-1)) else ((if place < len then (fText place.toNatClampNeg) else ((-1)))))) → V p l e (rmm 0 0) s m args below meth c 2 D A 0 0 Q [[(o, .inr (9, [.ref aS, .ref aPast, .int known, .ref aSnap, .int kept, .ref aText, .int len, .int thr, .ref aOne, .ref aTwo, .ref aBoth, .ref aWord, .int cre, .ref aOpen, .ref aTimes, .ref aFar, .ref aQueue, .long hash]))], [(aText, .inl (cI, 60, .inl fText))]] [(0, .ref o), (1, .int place)] 22 [.int x4] by
    have hp := hps
    refine r_if_lt (tgt := 12) C dX11_sign_1 (by decide) (fun c1 => ?_) (fun c1 => ?_)
    · refine r_iconst (v := (-1)) C dX11_sign_12 (by decide) ?_
      refine r_goto (tgt := 22) C dX11_sign_13 (by decide) ?_
      exact K _ (by simp only [if_pos c1])
    · have hp := hp.2 c1
      refine r_iload_n C dX11_sign_4 1 rfl ?_
      refine r_aload_n C dX11_sign_5 0 rfl ?_
      refine r_get (Cn := RX11) (T := TX11) (N := 18) C inT11 0 rfl rfl 6 (by decide) t_899 rfl dX11_sign_6 ?_
      refine r_icmp_lt (tgt := 16) C dX11_sign_9 (by decide) (fun c2 => ?_) (fun c2 => ?_)
      · have hp := hp.1 c2
        refine r_aload_n C dX11_sign_16 0 rfl ?_
        refine r_get (Cn := RX11) (T := TX11) (N := 18) C inT11 0 rfl rfl 5 (by decide) t_898 rfl dX11_sign_17 ?_
        refine r_iload_n C dX11_sign_20 1 rfl ?_
        have h3 := hp
        refine r_iald (z := fText place.toNatClampNeg) C 1 0 rfl rfl h3 dX11_sign_21 rfl ?_
        exact K _ (by simp only [if_neg c1, if_pos c2])
      · refine r_iconst (v := (-1)) C dX11_sign_12 (by decide) ?_
        refine r_goto (tgt := 22) C dX11_sign_13 (by decide) ?_
        exact K _ (by simp only [if_neg c1, if_neg c2])
  intro x4 e_x4
  have eF : F_X11_sign len fText place = x4 := by have q := e_x4.symm; subst q; rfl
  exact r_iret (r := x4) C hA hr hlo dX11_sign_22 [[(o, .inr (9, [.ref aS, .ref aPast, .int known, .ref aSnap, .int kept, .ref aText, .int len, .int thr, .ref aOne, .ref aTwo, .ref aBoth, .ref aWord, .int cre, .ref aOpen, .ref aTimes, .ref aFar, .ref aQueue, .long hash]))], [(aText, .inl (cI, 60, .inl fText))]] ⟨by simp only [eF], rfl⟩ rfl hQ
theorem k_X11_depth : kV yX11_depth cX11_depth 4 (some .int) 1 := ⟨t_1105, t_35, t_67, t_1106, by decide +kernel, by decide +kernel, by decide +kernel⟩
def F_X11_depth_L4 (place : Int32) (len : Int32) (fText : Nat → Int32) : Nat → Int32 → Int32 → Int32 × Int32
  | 0, y1, y2 => (y1, y2)
  | nn + 1, y1, y2 => (if place ≤ y2 then ((y1, y2)) else (let r5 : Int32 := F_X11_sign len fText y2; let x10 : Int32 := (if r5 = 40 then (1) else (let r8 : Int32 := F_X11_sign len fText y2; (if r8 = 41 then ((-1)) else (0)))); let x11 : Int32 := y1 + x10; let x12 : Int32 := y2 + 1; F_X11_depth_L4 place len fText nn x11 x12))
def P_X11_depth_L4 (place : Int32) (len : Int32) (fText : Nat → Int32) : Nat → Int32 → Int32 → Prop
  | 0, _, _ => False
  | nn + 1, y1, y2 => ((place ≤ y2 → True) ∧ (¬ place ≤ y2 → ((P_X11_sign len y2) ∧ (∀ r5 : Int32, r5 = F_X11_sign len fText y2 → (((r5 = 40 → True) ∧ (¬ r5 = 40 → (P_X11_sign len y2))) ∧ (∀ x10 : Int32, x10 = ((if r5 = 40 then (1) else (let r8 : Int32 := F_X11_sign len fText y2; (if r8 = 41 then ((-1)) else (0))))) → (∀ x11 : Int32, x11 = y1 + x10 → (∀ x12 : Int32, x12 = y2 + 1 → (P_X11_depth_L4 place len fText nn x11 x12)))))))))
set_option maxRecDepth 20000 in
def F_X11_depth (len : Int32) (fText : Nat → Int32) (place : Int32) : Int32 := let z13 : Int32 := (F_X11_depth_L4 place len fText 62 0 0).1; z13
set_option maxRecDepth 20000 in
def P_X11_depth (len : Int32) (fText : Nat → Int32) (place : Int32) : Prop := (P_X11_depth_L4 place len fText 62 0 0)
set_option maxRecDepth 20000 in
set_option maxHeartbeats 8000000 in
theorem m_X11_depth (l : Launch) (D : va_G) (cI cL cP cJ : ClassId) (o : Nat) (aS : Nat) (aPast : Nat) (aSnap : Nat) (aText : Nat) (aOne : Nat) (aTwo : Nat) (aBoth : Nat) (aWord : Nat) (aOpen : Nat) (aTimes : Nat) (aFar : Nat) (aQueue : Nat) (known : Int32) (kept : Int32) (len : Int32) (thr : Int32) (cre : Int32) (hash : Int64) (fText : Nat → Int32) (place : Int32) (hp : P_X11_depth len fText place) : M vI l yX11_depth cX11_depth 4 (some .int) 1 21 D (tyF cI cL cP cJ) [.ref o, .int place] [[(o, .inr (9, [.ref aS, .ref aPast, .int known, .ref aSnap, .int kept, .ref aText, .int len, .int thr, .ref aOne, .ref aTwo, .ref aBoth, .ref aWord, .int cre, .ref aOpen, .ref aTimes, .ref aFar, .ref aQueue, .long hash]))], [(aText, .inl (cI, 60, .inl fText))]] (fun (r : Int32) (w1 : List va_W) => r = (F_X11_depth len fText place) ∧ w1 = [[(o, .inr (9, [.ref aS, .ref aPast, .int known, .ref aSnap, .int kept, .ref aText, .int len, .int thr, .ref aOne, .ref aTwo, .ref aBoth, .ref aWord, .int cre, .ref aOpen, .ref aTimes, .ref aFar, .ref aQueue, .long hash]))], [(aText, .inl (cI, 60, .inl fText))]]) := by
  unfold P_X11_depth at hp
  refine m_start (by decide +kernel) (Nat.le_of_ble_eq_true rfl) (fun p e s m args below meth c A Q hA hQ C hr hlo => ?_)
  refine r_Le (L' := [(0, .ref o), (1, .int place)]) rfl ?_
  refine r_iconst (v := 0) C dX11_depth_0 (by decide) ?_
  refine r_istore_n (L' := [(2, .int 0), (0, .ref o), (1, .int place)]) C dX11_depth_1 (by decide) rfl ?_
  refine r_iconst (v := 0) C dX11_depth_2 (by decide) ?_
  refine r_istore_n (L' := [(3, .int 0), (2, .int 0), (0, .ref o), (1, .int place)]) C dX11_depth_3 (by decide) rfl ?_
  have hpl := hp
  have hL : ∀ (nn : Nat) (y1 : Int32) (y2 : Int32), P_X11_depth_L4 place len fText nn y1 y2 → (∀ z13 : Int32, z13 = (F_X11_depth_L4 place len fText nn y1 y2).1 → ∀ z14 : Int32, z14 = (F_X11_depth_L4 place len fText nn y1 y2).2 → V p l e (rmm 1 21) s m args below meth c 4 D A 0 0 Q [[(o, .inr (9, [.ref aS, .ref aPast, .int known, .ref aSnap, .int kept, .ref aText, .int len, .int thr, .ref aOne, .ref aTwo, .ref aBoth, .ref aWord, .int cre, .ref aOpen, .ref aTimes, .ref aFar, .ref aQueue, .long hash]))], [(aText, .inl (cI, 60, .inl fText))]] [(3, .int z14), (2, .int z13), (0, .ref o), (1, .int place)] 47 []) → V p l e (rmm 1 21) s m args below meth c 4 D A 0 0 Q [[(o, .inr (9, [.ref aS, .ref aPast, .int known, .ref aSnap, .int kept, .ref aText, .int len, .int thr, .ref aOne, .ref aTwo, .ref aBoth, .ref aWord, .int cre, .ref aOpen, .ref aTimes, .ref aFar, .ref aQueue, .long hash]))], [(aText, .inl (cI, 60, .inl fText))]] [(3, .int y2), (2, .int y1), (0, .ref o), (1, .int place)] 4 [] := by
    clear hpl
    intro nn
    induction nn with
    | zero => intro y1 y2 hp kk; rw [P_X11_depth_L4] at hp; exact hp.elim
    | succ nn ih =>
      intro y1 y2 hp kk
      rw [P_X11_depth_L4] at hp
      refine r_iload_n C dX11_depth_4 0 rfl ?_
      refine r_iload_n C dX11_depth_5 3 rfl ?_
      refine r_icmp_ge (tgt := 47) C dX11_depth_6 (by decide) (fun c3 => ?_) (fun c3 => ?_)
      · have eF : F_X11_depth_L4 place len fText (nn + 1) y1 y2 = (y1, y2) := by simp only [F_X11_depth_L4, if_pos c3]
        exact kk _ (by rw [eF]) _ (by rw [eF])
      · have hp := hp.2 c3
        refine r_iload_n C dX11_depth_9 1 rfl ?_
        refine r_aload_n C dX11_depth_10 2 rfl ?_
        refine r_iload_n C dX11_depth_11 0 rfl ?_
        obtain ⟨h4, hp⟩ := hp
        refine r_callV (ci := 9) (wc := [[(o, .inr (9, [.ref aS, .ref aPast, .int known, .ref aSnap, .int kept, .ref aText, .int len, .int thr, .ref aOne, .ref aTwo, .ref aBoth, .ref aWord, .int cre, .ref aOpen, .ref aTimes, .ref aFar, .ref aQueue, .long hash]))], [(aText, .inl (cI, 60, .inl fText))]]) (wr := []) (st := [.int y1]) C (m_X11_sign l D cI cL cP cJ o aS aPast aSnap aText aOne aTwo aBoth aWord aOpen aTimes aFar aQueue known kept len thr cre hash fText y2 h4) k_X11_sign t_1095 [0, 1] (show ([0, 1] : List Nat).Perm (List.range 2) by decide) rfl rfl rfl (q0 := 0) rfl rfl rfl (Nat.le_of_ble_eq_true rfl) ⟨Nat.le_of_ble_eq_true rfl, Nat.le_of_ble_eq_true rfl⟩ ⟨Nat.zero_le _, Nat.zero_le _⟩ dX11_depth_12 (fun r5 wr5 hw5 => ?_)
        obtain ⟨e_r5, rfl⟩ := hw5
        have hp := hp r5 e_r5
        refine r_ws (I' := [[(o, .inr (9, [.ref aS, .ref aPast, .int known, .ref aSnap, .int kept, .ref aText, .int len, .int thr, .ref aOne, .ref aTwo, .ref aBoth, .ref aWord, .int cre, .ref aOpen, .ref aTimes, .ref aFar, .ref aQueue, .long hash]))], [(aText, .inl (cI, 60, .inl fText))]]) rfl ?_
        refine r_bipush (v := 40) C dX11_depth_15 (by decide) ?_
        obtain ⟨hps, hp⟩ := hp
        suffices K : ∀ x10 : Int32, x10 = ((if r5 = 40 then (1) else (let r8 : Int32 := F_X11_sign len fText y2; (if r8 = 41 then ((-1)) else (0))))) → V p l e (rmm 1 21) s m args below meth c 4 D A 0 0 Q [[(o, .inr (9, [.ref aS, .ref aPast, .int known, .ref aSnap, .int kept, .ref aText, .int len, .int thr, .ref aOne, .ref aTwo, .ref aBoth, .ref aWord, .int cre, .ref aOpen, .ref aTimes, .ref aFar, .ref aQueue, .long hash]))], [(aText, .inl (cI, 60, .inl fText))]] [(3, .int y2), (2, .int y1), (0, .ref o), (1, .int place)] 39 [.int x10, .int y1] by
          have hp := hps
          refine r_icmp_ne (tgt := 24) C dX11_depth_17 (by decide) (fun c6 => ?_) (fun c6 => ?_)
          · have hp := hp.2 c6
            refine r_aload_n C dX11_depth_24 2 rfl ?_
            refine r_iload_n C dX11_depth_25 0 rfl ?_
            have h7 := hp
            refine r_callV (ci := 9) (wc := [[(o, .inr (9, [.ref aS, .ref aPast, .int known, .ref aSnap, .int kept, .ref aText, .int len, .int thr, .ref aOne, .ref aTwo, .ref aBoth, .ref aWord, .int cre, .ref aOpen, .ref aTimes, .ref aFar, .ref aQueue, .long hash]))], [(aText, .inl (cI, 60, .inl fText))]]) (wr := []) (st := [.int y1]) C (m_X11_sign l D cI cL cP cJ o aS aPast aSnap aText aOne aTwo aBoth aWord aOpen aTimes aFar aQueue known kept len thr cre hash fText y2 h7) k_X11_sign t_1095 [0, 1] (show ([0, 1] : List Nat).Perm (List.range 2) by decide) rfl rfl rfl (q0 := 0) rfl rfl rfl (Nat.le_of_ble_eq_true rfl) ⟨Nat.le_of_ble_eq_true rfl, Nat.le_of_ble_eq_true rfl⟩ ⟨Nat.zero_le _, Nat.zero_le _⟩ dX11_depth_26 (fun r8 wr8 hw8 => ?_)
            obtain ⟨e_r8, rfl⟩ := hw8
            refine r_ws (I' := [[(o, .inr (9, [.ref aS, .ref aPast, .int known, .ref aSnap, .int kept, .ref aText, .int len, .int thr, .ref aOne, .ref aTwo, .ref aBoth, .ref aWord, .int cre, .ref aOpen, .ref aTimes, .ref aFar, .ref aQueue, .long hash]))], [(aText, .inl (cI, 60, .inl fText))]]) rfl ?_
            refine r_bipush (v := 41) C dX11_depth_29 (by decide) ?_
            refine r_icmp_ne (tgt := 38) C dX11_depth_31 (by decide) (fun c9 => ?_) (fun c9 => ?_)
            · refine r_iconst (v := 0) C dX11_depth_38 (by decide) ?_
              exact K _ (by have q := e_r8.symm; subst q; simp only [if_neg c6, if_neg c9])
            · refine r_iconst (v := (-1)) C dX11_depth_34 (by decide) ?_
              refine r_goto (tgt := 39) C dX11_depth_35 (by decide) ?_
              exact K _ (by have q := e_r8.symm; subst q; simp only [if_neg c6, if_pos c9])
          · refine r_iconst (v := 1) C dX11_depth_20 (by decide) ?_
            refine r_goto (tgt := 39) C dX11_depth_21 (by decide) ?_
            exact K _ (by simp only [if_pos c6])
        intro x10 e_x10
        have hp := hp x10 e_x10
        refine r_iadd C dX11_depth_39 rfl ?_
        refine r_top (fun x11 e_x11 => ?_)
        have hp := hp x11 e_x11
        refine r_istore_n (L' := [(2, .int x11), (3, .int y2), (0, .ref o), (1, .int place)]) C dX11_depth_40 (by decide) rfl ?_
        obtain ⟨x12, e_x12⟩ : ∃ z : Int32, z = y2 + 1 := ⟨_, rfl⟩
        have hp := hp x12 e_x12
        refine r_iinc (v := x12) (L' := [(3, .int x12), (2, .int x11), (0, .ref o), (1, .int place)]) C dX11_depth_41 1 rfl (by rw [e_x12]; exact ii (by decide)) (by decide) rfl ?_
        refine r_goto (tgt := 4) C dX11_depth_44 (by decide) ?_
        have eF : F_X11_depth_L4 place len fText (nn + 1) y1 y2 = F_X11_depth_L4 place len fText nn x11 x12 := by have q := e_r5.symm; subst q; have q := e_x10.symm; subst q; have q := e_x11.symm; subst q; have q := e_x12.symm; subst q; simp only [F_X11_depth_L4, if_neg c3]
        exact ih x11 x12 hp (fun z13 e_z13 z14 e_z14 => kk z13 (by rw [eF]; exact e_z13) z14 (by rw [eF]; exact e_z14))
  refine hL 62 0 0 hpl (fun z13 e_z13 z14 e_z14 => ?_)
  clear hL hpl
  refine r_iload_n C dX11_depth_47 1 rfl ?_
  have eF : F_X11_depth len fText place = z13 := by have q := e_z13.symm; subst q; have q := e_z14.symm; subst q; rfl
  exact r_iret (r := z13) C hA hr hlo dX11_depth_48 [[(o, .inr (9, [.ref aS, .ref aPast, .int known, .ref aSnap, .int kept, .ref aText, .int len, .int thr, .ref aOne, .ref aTwo, .ref aBoth, .ref aWord, .int cre, .ref aOpen, .ref aTimes, .ref aFar, .ref aQueue, .long hash]))], [(aText, .inl (cI, 60, .inl fText))]] ⟨by simp only [eF], rfl⟩ rfl hQ
theorem k_X11_isFigure : kV yX11_isFigure cX11_isFigure 2 (some .boolean) 1 := ⟨t_1101, t_34, t_67, t_1102, by decide +kernel, by decide +kernel, by decide +kernel⟩
set_option maxRecDepth 20000 in
def F_X11_isFigure (len : Int32) (fText : Nat → Int32) (place : Int32) : Int32 := let r2 : Int32 := F_X11_sign len fText (place - 1); let x4 : Int32 := (if r2 = 41 then (1) else (0)); x4
set_option maxRecDepth 20000 in
def P_X11_isFigure (len : Int32) (place : Int32) : Prop := (P_X11_sign len (place - 1))
set_option maxRecDepth 20000 in
set_option maxHeartbeats 8000000 in
theorem m_X11_isFigure (l : Launch) (D : va_G) (cI cL cP cJ : ClassId) (o : Nat) (aS : Nat) (aPast : Nat) (aSnap : Nat) (aText : Nat) (aOne : Nat) (aTwo : Nat) (aBoth : Nat) (aWord : Nat) (aOpen : Nat) (aTimes : Nat) (aFar : Nat) (aQueue : Nat) (known : Int32) (kept : Int32) (len : Int32) (thr : Int32) (cre : Int32) (hash : Int64) (fText : Nat → Int32) (place : Int32) (hp : P_X11_isFigure len place) : M vI l yX11_isFigure cX11_isFigure 2 (some .boolean) 1 21 D (tyF cI cL cP cJ) [.ref o, .int place] [[(o, .inr (9, [.ref aS, .ref aPast, .int known, .ref aSnap, .int kept, .ref aText, .int len, .int thr, .ref aOne, .ref aTwo, .ref aBoth, .ref aWord, .int cre, .ref aOpen, .ref aTimes, .ref aFar, .ref aQueue, .long hash]))], [(aText, .inl (cI, 60, .inl fText))]] (fun (r : Int32) (w1 : List va_W) => r = (F_X11_isFigure len fText place) ∧ w1 = [[(o, .inr (9, [.ref aS, .ref aPast, .int known, .ref aSnap, .int kept, .ref aText, .int len, .int thr, .ref aOne, .ref aTwo, .ref aBoth, .ref aWord, .int cre, .ref aOpen, .ref aTimes, .ref aFar, .ref aQueue, .long hash]))], [(aText, .inl (cI, 60, .inl fText))]]) := by
  unfold P_X11_isFigure at hp
  refine m_start (by decide +kernel) (Nat.le_of_ble_eq_true rfl) (fun p e s m args below meth c A Q hA hQ C hr hlo => ?_)
  refine r_Le (L' := [(0, .ref o), (1, .int place)]) rfl ?_
  refine r_aload_n C dX11_isFigure_0 0 rfl ?_
  refine r_iload_n C dX11_isFigure_1 1 rfl ?_
  refine r_iconst (v := 1) C dX11_isFigure_2 (by decide) ?_
  refine r_isub C dX11_isFigure_3 rfl ?_
  have h1 := hp
  refine r_callV (ci := 9) (wc := [[(o, .inr (9, [.ref aS, .ref aPast, .int known, .ref aSnap, .int kept, .ref aText, .int len, .int thr, .ref aOne, .ref aTwo, .ref aBoth, .ref aWord, .int cre, .ref aOpen, .ref aTimes, .ref aFar, .ref aQueue, .long hash]))], [(aText, .inl (cI, 60, .inl fText))]]) (wr := []) (st := []) C (m_X11_sign l D cI cL cP cJ o aS aPast aSnap aText aOne aTwo aBoth aWord aOpen aTimes aFar aQueue known kept len thr cre hash fText (place - 1) h1) k_X11_sign t_1095 [0, 1] (show ([0, 1] : List Nat).Perm (List.range 2) by decide) rfl rfl rfl (q0 := 0) rfl rfl rfl (Nat.le_of_ble_eq_true rfl) ⟨Nat.le_of_ble_eq_true rfl, Nat.le_of_ble_eq_true rfl⟩ ⟨Nat.zero_le _, Nat.zero_le _⟩ dX11_isFigure_4 (fun r2 wr2 hw2 => ?_)
  obtain ⟨e_r2, rfl⟩ := hw2
  refine r_ws (I' := [[(o, .inr (9, [.ref aS, .ref aPast, .int known, .ref aSnap, .int kept, .ref aText, .int len, .int thr, .ref aOne, .ref aTwo, .ref aBoth, .ref aWord, .int cre, .ref aOpen, .ref aTimes, .ref aFar, .ref aQueue, .long hash]))], [(aText, .inl (cI, 60, .inl fText))]]) rfl ?_
  refine r_bipush (v := 41) C dX11_isFigure_7 (by decide) ?_
  suffices K : ∀ x4 : Int32, x4 = ((if r2 = 41 then (1) else (0))) → V p l e (rmm 1 21) s m args below meth c 2 D A 0 0 Q [[(o, .inr (9, [.ref aS, .ref aPast, .int known, .ref aSnap, .int kept, .ref aText, .int len, .int thr, .ref aOne, .ref aTwo, .ref aBoth, .ref aWord, .int cre, .ref aOpen, .ref aTimes, .ref aFar, .ref aQueue, .long hash]))], [(aText, .inl (cI, 60, .inl fText))]] [(0, .ref o), (1, .int place)] 17 [.int x4] by
    refine r_icmp_ne (tgt := 16) C dX11_isFigure_9 (by decide) (fun c3 => ?_) (fun c3 => ?_)
    · refine r_iconst (v := 0) C dX11_isFigure_16 (by decide) ?_
      exact K _ (by simp only [if_neg c3])
    · refine r_iconst (v := 1) C dX11_isFigure_12 (by decide) ?_
      refine r_goto (tgt := 17) C dX11_isFigure_13 (by decide) ?_
      exact K _ (by simp only [if_pos c3])
  intro x4 e_x4
  have eF : F_X11_isFigure len fText place = x4 := by have q := e_r2.symm; subst q; have q := e_x4.symm; subst q; rfl
  exact r_zret (r := x4) C hA hr hlo (nb01 (by first | (rw [e_x4]; (try dsimp only); ((repeat' split) <;> (first | exact Or.inl rfl | exact Or.inr rfl))) | (have q := e_r2.symm; subst q; have q := e_x4.symm; subst q; (try dsimp only); ((repeat' split) <;> (first | exact Or.inl rfl | exact Or.inr rfl))))) dX11_isFigure_17 [[(o, .inr (9, [.ref aS, .ref aPast, .int known, .ref aSnap, .int kept, .ref aText, .int len, .int thr, .ref aOne, .ref aTwo, .ref aBoth, .ref aWord, .int cre, .ref aOpen, .ref aTimes, .ref aFar, .ref aQueue, .long hash]))], [(aText, .inl (cI, 60, .inl fText))]] ⟨by simp only [eF], rfl⟩ rfl hQ
theorem k_X11_fits : kV yX11_fits cX11_fits 4 (some .boolean) 1 := ⟨t_1093, t_32, t_67, t_1094, by decide +kernel, by decide +kernel, by decide +kernel⟩
set_option maxRecDepth 20000 in
def F_X11_fits (len : Int32) (fText : Nat → Int32) (place : Int32) : Int32 := let r2 : Int32 := F_X11_sign len fText place; let r4 : Int32 := F_X11_isFigure len fText place; (if r4 = 0 then (let r6 : Int32 := F_X11_in r2 48 51; (if r6 = 0 then (let x12 : Int32 := (if place ≤ 0 then (0) else (let r10 : Int32 := F_X11_sign len fText (place - 1); (if r10 = 40 then (0) else (1)))); let x22 : Int32 := (if r2 = 40 then (let r20 : Int32 := F_X11_depth len fText place; (if 5 ≤ r20 then (0) else (1))) else ((if r2 = 41 then ((if x12 = 0 then (0) else (let r17 : Int32 := F_X11_depth len fText place; (if r17 ≤ 0 then (0) else (1))))) else (0)))); x22) else (1))) else (let r23 : Int32 := F_X11_in r2 50 57; r23))
set_option maxRecDepth 20000 in
def P_X11_fits (len : Int32) (fText : Nat → Int32) (place : Int32) : Prop := ((P_X11_sign len place) ∧ (∀ r2 : Int32, r2 = F_X11_sign len fText place → ((P_X11_isFigure len place) ∧ (∀ r4 : Int32, r4 = F_X11_isFigure len fText place → ((r4 = 0 → (∀ r6 : Int32, r6 = F_X11_in r2 48 51 → ((r6 = 0 → (((place ≤ 0 → True) ∧ (¬ place ≤ 0 → (P_X11_sign len (place - 1)))) ∧ (∀ x12 : Int32, x12 = ((if place ≤ 0 then (0) else (let r10 : Int32 := F_X11_sign len fText (place - 1); (if r10 = 40 then (0) else (1))))) → ((r2 = 40 → (P_X11_depth len fText place)) ∧ (¬ r2 = 40 → ((r2 = 41 → ((x12 = 0 → True) ∧ (¬ x12 = 0 → (P_X11_depth len fText place)))) ∧ (¬ r2 = 41 → True))))))) ∧ (¬ r6 = 0 → True)))) ∧ (¬ r4 = 0 → True))))))
set_option maxRecDepth 20000 in
set_option maxHeartbeats 8000000 in
theorem m_X11_fits (l : Launch) (D : va_G) (cI cL cP cJ : ClassId) (o : Nat) (aS : Nat) (aPast : Nat) (aSnap : Nat) (aText : Nat) (aOne : Nat) (aTwo : Nat) (aBoth : Nat) (aWord : Nat) (aOpen : Nat) (aTimes : Nat) (aFar : Nat) (aQueue : Nat) (known : Int32) (kept : Int32) (len : Int32) (thr : Int32) (cre : Int32) (hash : Int64) (fText : Nat → Int32) (place : Int32) (hp : P_X11_fits len fText place) : M vI l yX11_fits cX11_fits 4 (some .boolean) 2 44 D (tyF cI cL cP cJ) [.ref o, .int place] [[(o, .inr (9, [.ref aS, .ref aPast, .int known, .ref aSnap, .int kept, .ref aText, .int len, .int thr, .ref aOne, .ref aTwo, .ref aBoth, .ref aWord, .int cre, .ref aOpen, .ref aTimes, .ref aFar, .ref aQueue, .long hash]))], [(aText, .inl (cI, 60, .inl fText))]] (fun (r : Int32) (w1 : List va_W) => r = (F_X11_fits len fText place) ∧ w1 = [[(o, .inr (9, [.ref aS, .ref aPast, .int known, .ref aSnap, .int kept, .ref aText, .int len, .int thr, .ref aOne, .ref aTwo, .ref aBoth, .ref aWord, .int cre, .ref aOpen, .ref aTimes, .ref aFar, .ref aQueue, .long hash]))], [(aText, .inl (cI, 60, .inl fText))]]) := by
  unfold P_X11_fits at hp
  refine m_start (by decide +kernel) (Nat.le_of_ble_eq_true rfl) (fun p e s m args below meth c A Q hA hQ C hr hlo => ?_)
  refine r_Le (L' := [(0, .ref o), (1, .int place)]) rfl ?_
  refine r_aload_n C dX11_fits_0 0 rfl ?_
  refine r_iload_n C dX11_fits_1 1 rfl ?_
  obtain ⟨h1, hp⟩ := hp
  refine r_callV (ci := 9) (wc := [[(o, .inr (9, [.ref aS, .ref aPast, .int known, .ref aSnap, .int kept, .ref aText, .int len, .int thr, .ref aOne, .ref aTwo, .ref aBoth, .ref aWord, .int cre, .ref aOpen, .ref aTimes, .ref aFar, .ref aQueue, .long hash]))], [(aText, .inl (cI, 60, .inl fText))]]) (wr := []) (st := []) C (m_X11_sign l D cI cL cP cJ o aS aPast aSnap aText aOne aTwo aBoth aWord aOpen aTimes aFar aQueue known kept len thr cre hash fText place h1) k_X11_sign t_1095 [0, 1] (show ([0, 1] : List Nat).Perm (List.range 2) by decide) rfl rfl rfl (q0 := 0) rfl rfl rfl (Nat.le_of_ble_eq_true rfl) ⟨Nat.le_of_ble_eq_true rfl, Nat.le_of_ble_eq_true rfl⟩ ⟨Nat.zero_le _, Nat.zero_le _⟩ dX11_fits_2 (fun r2 wr2 hw2 => ?_)
  obtain ⟨e_r2, rfl⟩ := hw2
  have hp := hp r2 e_r2
  refine r_ws (I' := [[(o, .inr (9, [.ref aS, .ref aPast, .int known, .ref aSnap, .int kept, .ref aText, .int len, .int thr, .ref aOne, .ref aTwo, .ref aBoth, .ref aWord, .int cre, .ref aOpen, .ref aTimes, .ref aFar, .ref aQueue, .long hash]))], [(aText, .inl (cI, 60, .inl fText))]]) rfl ?_
  refine r_istore_n (L' := [(2, .int r2), (0, .ref o), (1, .int place)]) C dX11_fits_5 (by decide) rfl ?_
  refine r_aload_n C dX11_fits_6 1 rfl ?_
  refine r_iload_n C dX11_fits_7 2 rfl ?_
  obtain ⟨h3, hp⟩ := hp
  refine r_callV (ci := 9) (wc := [[(o, .inr (9, [.ref aS, .ref aPast, .int known, .ref aSnap, .int kept, .ref aText, .int len, .int thr, .ref aOne, .ref aTwo, .ref aBoth, .ref aWord, .int cre, .ref aOpen, .ref aTimes, .ref aFar, .ref aQueue, .long hash]))], [(aText, .inl (cI, 60, .inl fText))]]) (wr := []) (st := []) C (m_X11_isFigure l D cI cL cP cJ o aS aPast aSnap aText aOne aTwo aBoth aWord aOpen aTimes aFar aQueue known kept len thr cre hash fText place h3) k_X11_isFigure t_1099 [0, 1] (show ([0, 1] : List Nat).Perm (List.range 2) by decide) rfl rfl rfl (q0 := 0) rfl rfl rfl (Nat.le_of_ble_eq_true rfl) ⟨Nat.le_of_ble_eq_true rfl, Nat.le_of_ble_eq_true rfl⟩ ⟨Nat.zero_le _, Nat.zero_le _⟩ dX11_fits_8 (fun r4 wr4 hw4 => ?_)
  obtain ⟨e_r4, rfl⟩ := hw4
  have hp := hp r4 e_r4
  refine r_ws (I' := [[(o, .inr (9, [.ref aS, .ref aPast, .int known, .ref aSnap, .int kept, .ref aText, .int len, .int thr, .ref aOne, .ref aTwo, .ref aBoth, .ref aWord, .int cre, .ref aOpen, .ref aTimes, .ref aFar, .ref aQueue, .long hash]))], [(aText, .inl (cI, 60, .inl fText))]]) rfl ?_
  refine r_if_eq (tgt := 23) C dX11_fits_11 (by decide) (fun c5 => ?_) (fun c5 => ?_)
  · have hp := hp.1 c5
    refine r_iload_n C dX11_fits_23 0 rfl ?_
    refine r_bipush (v := 48) C dX11_fits_24 (by decide) ?_
    refine r_bipush (v := 51) C dX11_fits_26 (by decide) ?_
    refine r_callS (wc := []) (wr := [[(o, .inr (9, [.ref aS, .ref aPast, .int known, .ref aSnap, .int kept, .ref aText, .int len, .int thr, .ref aOne, .ref aTwo, .ref aBoth, .ref aWord, .int cre, .ref aOpen, .ref aTimes, .ref aFar, .ref aQueue, .long hash]))], [(aText, .inl (cI, 60, .inl fText))]]) (st := []) C (m_X11_in l D cI cL cP cJ r2 48 51) k_X11_in t_959 [0, 1] (show ([0, 1] : List Nat).Perm (List.range 2) by decide) rfl rfl rfl (Nat.le_of_ble_eq_true rfl) ⟨Nat.le_of_ble_eq_true rfl, Nat.le_of_ble_eq_true rfl⟩ ⟨Nat.zero_le _, Nat.zero_le _⟩ dX11_fits_28 (fun r6 wr6 hw6 => ?_)
    obtain ⟨e_r6, rfl⟩ := hw6
    have hp := hp r6 e_r6
    refine r_ws (I' := [[(o, .inr (9, [.ref aS, .ref aPast, .int known, .ref aSnap, .int kept, .ref aText, .int len, .int thr, .ref aOne, .ref aTwo, .ref aBoth, .ref aWord, .int cre, .ref aOpen, .ref aTimes, .ref aFar, .ref aQueue, .long hash]))], [(aText, .inl (cI, 60, .inl fText))]]) rfl ?_
    refine r_if_eq (tgt := 36) C dX11_fits_31 (by decide) (fun c7 => ?_) (fun c7 => ?_)
    · have hp := hp.1 c7
      refine r_iload_n C dX11_fits_36 2 rfl ?_
      obtain ⟨hps, hp⟩ := hp
      suffices K : ∀ x12 : Int32, x12 = ((if place ≤ 0 then (0) else (let r10 : Int32 := F_X11_sign len fText (place - 1); (if r10 = 40 then (0) else (1))))) → V p l e (rmm 2 44) s m args below meth c 4 D A 0 0 Q [[(o, .inr (9, [.ref aS, .ref aPast, .int known, .ref aSnap, .int kept, .ref aText, .int len, .int thr, .ref aOne, .ref aTwo, .ref aBoth, .ref aWord, .int cre, .ref aOpen, .ref aTimes, .ref aFar, .ref aQueue, .long hash]))], [(aText, .inl (cI, 60, .inl fText))]] [(2, .int r2), (0, .ref o), (1, .int place)] 57 [.int x12] by
        have hp := hps
        refine r_if_le (tgt := 56) C dX11_fits_37 (by decide) (fun c8 => ?_) (fun c8 => ?_)
        · refine r_iconst (v := 0) C dX11_fits_56 (by decide) ?_
          exact K _ (by simp only [if_pos c8])
        · have hp := hp.2 c8
          refine r_aload_n C dX11_fits_40 1 rfl ?_
          refine r_iload_n C dX11_fits_41 2 rfl ?_
          refine r_iconst (v := 1) C dX11_fits_42 (by decide) ?_
          refine r_isub C dX11_fits_43 rfl ?_
          have h9 := hp
          refine r_callV (ci := 9) (wc := [[(o, .inr (9, [.ref aS, .ref aPast, .int known, .ref aSnap, .int kept, .ref aText, .int len, .int thr, .ref aOne, .ref aTwo, .ref aBoth, .ref aWord, .int cre, .ref aOpen, .ref aTimes, .ref aFar, .ref aQueue, .long hash]))], [(aText, .inl (cI, 60, .inl fText))]]) (wr := []) (st := []) C (m_X11_sign l D cI cL cP cJ o aS aPast aSnap aText aOne aTwo aBoth aWord aOpen aTimes aFar aQueue known kept len thr cre hash fText (place - 1) h9) k_X11_sign t_1095 [0, 1] (show ([0, 1] : List Nat).Perm (List.range 2) by decide) rfl rfl rfl (q0 := 0) rfl rfl rfl (Nat.le_of_ble_eq_true rfl) ⟨Nat.le_of_ble_eq_true rfl, Nat.le_of_ble_eq_true rfl⟩ ⟨Nat.zero_le _, Nat.zero_le _⟩ dX11_fits_44 (fun r10 wr10 hw10 => ?_)
          obtain ⟨e_r10, rfl⟩ := hw10
          refine r_ws (I' := [[(o, .inr (9, [.ref aS, .ref aPast, .int known, .ref aSnap, .int kept, .ref aText, .int len, .int thr, .ref aOne, .ref aTwo, .ref aBoth, .ref aWord, .int cre, .ref aOpen, .ref aTimes, .ref aFar, .ref aQueue, .long hash]))], [(aText, .inl (cI, 60, .inl fText))]]) rfl ?_
          refine r_bipush (v := 40) C dX11_fits_47 (by decide) ?_
          refine r_icmp_eq (tgt := 56) C dX11_fits_49 (by decide) (fun c11 => ?_) (fun c11 => ?_)
          · refine r_iconst (v := 0) C dX11_fits_56 (by decide) ?_
            exact K _ (by have q := e_r10.symm; subst q; simp only [if_neg c8, if_pos c11])
          · refine r_iconst (v := 1) C dX11_fits_52 (by decide) ?_
            refine r_goto (tgt := 57) C dX11_fits_53 (by decide) ?_
            exact K _ (by have q := e_r10.symm; subst q; simp only [if_neg c8, if_neg c11])
      intro x12 e_x12
      have hp := hp x12 e_x12
      refine r_istore_n (L' := [(3, .int x12), (2, .int r2), (0, .ref o), (1, .int place)]) C dX11_fits_57 (by decide) rfl ?_
      refine r_iload_n C dX11_fits_58 1 rfl ?_
      refine r_bipush (v := 40) C dX11_fits_59 (by decide) ?_
      have hps := hp
      suffices K : ∀ x22 : Int32, x22 = ((if r2 = 40 then (let r20 : Int32 := F_X11_depth len fText place; (if 5 ≤ r20 then (0) else (1))) else ((if r2 = 41 then ((if x12 = 0 then (0) else (let r17 : Int32 := F_X11_depth len fText place; (if r17 ≤ 0 then (0) else (1))))) else (0))))) → V p l e (rmm 2 44) s m args below meth c 4 D A 0 0 Q [[(o, .inr (9, [.ref aS, .ref aPast, .int known, .ref aSnap, .int kept, .ref aText, .int len, .int thr, .ref aOne, .ref aTwo, .ref aBoth, .ref aWord, .int cre, .ref aOpen, .ref aTimes, .ref aFar, .ref aQueue, .long hash]))], [(aText, .inl (cI, 60, .inl fText))]] [(3, .int x12), (2, .int r2), (0, .ref o), (1, .int place)] 104 [.int x22] by
        have hp := hps
        refine r_icmp_ne (tgt := 81) C dX11_fits_61 (by decide) (fun c13 => ?_) (fun c13 => ?_)
        · have hp := hp.2 c13
          refine r_iload_n C dX11_fits_81 1 rfl ?_
          refine r_bipush (v := 41) C dX11_fits_82 (by decide) ?_
          refine r_icmp_ne (tgt := 103) C dX11_fits_84 (by decide) (fun c14 => ?_) (fun c14 => ?_)
          · refine r_iconst (v := 0) C dX11_fits_103 (by decide) ?_
            exact K _ (by simp only [if_neg c13, if_neg c14])
          · have hp := hp.1 c14
            refine r_iload_n C dX11_fits_87 0 rfl ?_
            refine r_if_eq (tgt := 103) C dX11_fits_88 (by decide) (fun c15 => ?_) (fun c15 => ?_)
            · refine r_iconst (v := 0) C dX11_fits_103 (by decide) ?_
              exact K _ (by simp only [if_neg c13, if_pos c14, if_pos c15])
            · have hp := hp.2 c15
              refine r_aload_n C dX11_fits_91 2 rfl ?_
              refine r_iload_n C dX11_fits_92 3 rfl ?_
              have h16 := hp
              refine r_callV (ci := 9) (wc := [[(o, .inr (9, [.ref aS, .ref aPast, .int known, .ref aSnap, .int kept, .ref aText, .int len, .int thr, .ref aOne, .ref aTwo, .ref aBoth, .ref aWord, .int cre, .ref aOpen, .ref aTimes, .ref aFar, .ref aQueue, .long hash]))], [(aText, .inl (cI, 60, .inl fText))]]) (wr := []) (st := []) C (m_X11_depth l D cI cL cP cJ o aS aPast aSnap aText aOne aTwo aBoth aWord aOpen aTimes aFar aQueue known kept len thr cre hash fText place h16) k_X11_depth t_1103 [0, 1] (show ([0, 1] : List Nat).Perm (List.range 2) by decide) rfl rfl rfl (q0 := 0) rfl rfl rfl (Nat.le_of_ble_eq_true rfl) ⟨Nat.le_of_ble_eq_true rfl, Nat.le_of_ble_eq_true rfl⟩ ⟨Nat.zero_le _, Nat.zero_le _⟩ dX11_fits_93 (fun r17 wr17 hw17 => ?_)
              obtain ⟨e_r17, rfl⟩ := hw17
              refine r_ws (I' := [[(o, .inr (9, [.ref aS, .ref aPast, .int known, .ref aSnap, .int kept, .ref aText, .int len, .int thr, .ref aOne, .ref aTwo, .ref aBoth, .ref aWord, .int cre, .ref aOpen, .ref aTimes, .ref aFar, .ref aQueue, .long hash]))], [(aText, .inl (cI, 60, .inl fText))]]) rfl ?_
              refine r_if_le (tgt := 103) C dX11_fits_96 (by decide) (fun c18 => ?_) (fun c18 => ?_)
              · refine r_iconst (v := 0) C dX11_fits_103 (by decide) ?_
                exact K _ (by have q := e_r17.symm; subst q; simp only [if_neg c13, if_pos c14, if_neg c15, if_pos c18])
              · refine r_iconst (v := 1) C dX11_fits_99 (by decide) ?_
                refine r_goto (tgt := 104) C dX11_fits_100 (by decide) ?_
                exact K _ (by have q := e_r17.symm; subst q; simp only [if_neg c13, if_pos c14, if_neg c15, if_neg c18])
        · have hp := hp.1 c13
          refine r_aload_n C dX11_fits_64 2 rfl ?_
          refine r_iload_n C dX11_fits_65 3 rfl ?_
          have h19 := hp
          refine r_callV (ci := 9) (wc := [[(o, .inr (9, [.ref aS, .ref aPast, .int known, .ref aSnap, .int kept, .ref aText, .int len, .int thr, .ref aOne, .ref aTwo, .ref aBoth, .ref aWord, .int cre, .ref aOpen, .ref aTimes, .ref aFar, .ref aQueue, .long hash]))], [(aText, .inl (cI, 60, .inl fText))]]) (wr := []) (st := []) C (m_X11_depth l D cI cL cP cJ o aS aPast aSnap aText aOne aTwo aBoth aWord aOpen aTimes aFar aQueue known kept len thr cre hash fText place h19) k_X11_depth t_1103 [0, 1] (show ([0, 1] : List Nat).Perm (List.range 2) by decide) rfl rfl rfl (q0 := 0) rfl rfl rfl (Nat.le_of_ble_eq_true rfl) ⟨Nat.le_of_ble_eq_true rfl, Nat.le_of_ble_eq_true rfl⟩ ⟨Nat.zero_le _, Nat.zero_le _⟩ dX11_fits_66 (fun r20 wr20 hw20 => ?_)
          obtain ⟨e_r20, rfl⟩ := hw20
          refine r_ws (I' := [[(o, .inr (9, [.ref aS, .ref aPast, .int known, .ref aSnap, .int kept, .ref aText, .int len, .int thr, .ref aOne, .ref aTwo, .ref aBoth, .ref aWord, .int cre, .ref aOpen, .ref aTimes, .ref aFar, .ref aQueue, .long hash]))], [(aText, .inl (cI, 60, .inl fText))]]) rfl ?_
          refine r_iconst (v := 5) C dX11_fits_69 (by decide) ?_
          refine r_icmp_ge (tgt := 77) C dX11_fits_70 (by decide) (fun c21 => ?_) (fun c21 => ?_)
          · refine r_iconst (v := 0) C dX11_fits_77 (by decide) ?_
            refine r_goto (tgt := 104) C dX11_fits_78 (by decide) ?_
            exact K _ (by have q := e_r20.symm; subst q; simp only [if_pos c13, if_pos c21])
          · refine r_iconst (v := 1) C dX11_fits_73 (by decide) ?_
            refine r_goto (tgt := 104) C dX11_fits_74 (by decide) ?_
            exact K _ (by have q := e_r20.symm; subst q; simp only [if_pos c13, if_neg c21])
      intro x22 e_x22
      have eF : F_X11_fits len fText place = x22 := by have q := e_r2.symm; subst q; have q := e_r4.symm; subst q; have q := e_r6.symm; subst q; have q := e_x12.symm; subst q; have q := e_x22.symm; subst q; simp only [F_X11_fits, if_pos c5, if_pos c7]
      exact r_zret (r := x22) C hA hr hlo (nb01 (by first | (rw [e_x22]; (try dsimp only); ((repeat' split) <;> (first | exact Or.inl rfl | exact Or.inr rfl | exact hb_X11_in _ _ _))) | (have q := e_r2.symm; subst q; have q := e_r4.symm; subst q; have q := e_r6.symm; subst q; have q := e_x12.symm; subst q; have q := e_x22.symm; subst q; (try dsimp only); ((repeat' split) <;> (first | exact Or.inl rfl | exact Or.inr rfl | exact hb_X11_in _ _ _))))) dX11_fits_104 [[(o, .inr (9, [.ref aS, .ref aPast, .int known, .ref aSnap, .int kept, .ref aText, .int len, .int thr, .ref aOne, .ref aTwo, .ref aBoth, .ref aWord, .int cre, .ref aOpen, .ref aTimes, .ref aFar, .ref aQueue, .long hash]))], [(aText, .inl (cI, 60, .inl fText))]] ⟨by simp only [eF], rfl⟩ rfl hQ
    · refine r_iconst (v := 1) C dX11_fits_34 (by decide) ?_
      have eF : F_X11_fits len fText place = 1 := by have q := e_r2.symm; subst q; have q := e_r4.symm; subst q; have q := e_r6.symm; subst q; simp only [F_X11_fits, if_pos c5, if_neg c7]
      exact r_zret (r := 1) C hA hr hlo (rfl) dX11_fits_35 [[(o, .inr (9, [.ref aS, .ref aPast, .int known, .ref aSnap, .int kept, .ref aText, .int len, .int thr, .ref aOne, .ref aTwo, .ref aBoth, .ref aWord, .int cre, .ref aOpen, .ref aTimes, .ref aFar, .ref aQueue, .long hash]))], [(aText, .inl (cI, 60, .inl fText))]] ⟨by simp only [eF], rfl⟩ rfl hQ
  · refine r_iload_n C dX11_fits_14 0 rfl ?_
    refine r_bipush (v := 50) C dX11_fits_15 (by decide) ?_
    refine r_bipush (v := 57) C dX11_fits_17 (by decide) ?_
    refine r_callS (wc := []) (wr := [[(o, .inr (9, [.ref aS, .ref aPast, .int known, .ref aSnap, .int kept, .ref aText, .int len, .int thr, .ref aOne, .ref aTwo, .ref aBoth, .ref aWord, .int cre, .ref aOpen, .ref aTimes, .ref aFar, .ref aQueue, .long hash]))], [(aText, .inl (cI, 60, .inl fText))]]) (st := []) C (m_X11_in l D cI cL cP cJ r2 50 57) k_X11_in t_959 [0, 1] (show ([0, 1] : List Nat).Perm (List.range 2) by decide) rfl rfl rfl (Nat.le_of_ble_eq_true rfl) ⟨Nat.le_of_ble_eq_true rfl, Nat.le_of_ble_eq_true rfl⟩ ⟨Nat.zero_le _, Nat.zero_le _⟩ dX11_fits_19 (fun r23 wr23 hw23 => ?_)
    obtain ⟨e_r23, rfl⟩ := hw23
    refine r_ws (I' := [[(o, .inr (9, [.ref aS, .ref aPast, .int known, .ref aSnap, .int kept, .ref aText, .int len, .int thr, .ref aOne, .ref aTwo, .ref aBoth, .ref aWord, .int cre, .ref aOpen, .ref aTimes, .ref aFar, .ref aQueue, .long hash]))], [(aText, .inl (cI, 60, .inl fText))]]) rfl ?_
    have eF : F_X11_fits len fText place = r23 := by have q := e_r2.symm; subst q; have q := e_r4.symm; subst q; have q := e_r23.symm; subst q; simp only [F_X11_fits, if_neg c5]
    exact r_zret (r := r23) C hA hr hlo (nb01 (by first | (rw [e_r23]; (try dsimp only); ((repeat' split) <;> (first | exact Or.inl rfl | exact Or.inr rfl | exact hb_X11_in _ _ _))) | (have q := e_r2.symm; subst q; have q := e_r4.symm; subst q; have q := e_r23.symm; subst q; (try dsimp only); ((repeat' split) <;> (first | exact Or.inl rfl | exact Or.inr rfl | exact hb_X11_in _ _ _))))) dX11_fits_22 [[(o, .inr (9, [.ref aS, .ref aPast, .int known, .ref aSnap, .int kept, .ref aText, .int len, .int thr, .ref aOne, .ref aTwo, .ref aBoth, .ref aWord, .int cre, .ref aOpen, .ref aTimes, .ref aFar, .ref aQueue, .long hash]))], [(aText, .inl (cI, 60, .inl fText))]] ⟨by simp only [eF], rfl⟩ rfl hQ
theorem k_X11_errorAt : kV yX11_errorAt cX11_errorAt 2 (some .int) 0 := ⟨t_1089, t_31, t_67, t_1090, by decide +kernel, by decide +kernel, by decide +kernel⟩
def F_X11_errorAt_L2 (len : Int32) (fText : Nat → Int32) : Nat → Int32 → Int32
  | 0, _ => 0
  | nn + 1, y1 => (if len ≤ y1 then (len) else (let r4 : Int32 := F_X11_fits len fText y1; (if r4 = 0 then (y1) else (let x6 : Int32 := y1 + 1; F_X11_errorAt_L2 len fText nn x6))))
def P_X11_errorAt_L2 (len : Int32) (fText : Nat → Int32) : Nat → Int32 → Prop
  | 0, _ => False
  | nn + 1, y1 => ((len ≤ y1 → True) ∧ (¬ len ≤ y1 → ((P_X11_fits len fText y1) ∧ (∀ r4 : Int32, r4 = F_X11_fits len fText y1 → ((r4 = 0 → True) ∧ (¬ r4 = 0 → (∀ x6 : Int32, x6 = y1 + 1 → (P_X11_errorAt_L2 len fText nn x6))))))))
set_option maxRecDepth 20000 in
def F_X11_errorAt (len : Int32) (fText : Nat → Int32) : Int32 := F_X11_errorAt_L2 len fText 62 0
set_option maxRecDepth 20000 in
def P_X11_errorAt (len : Int32) (fText : Nat → Int32) : Prop := (P_X11_errorAt_L2 len fText 62 0)
set_option maxRecDepth 20000 in
set_option maxHeartbeats 8000000 in
theorem m_X11_errorAt (l : Launch) (D : va_G) (cI cL cP cJ : ClassId) (o : Nat) (aS : Nat) (aPast : Nat) (aSnap : Nat) (aText : Nat) (aOne : Nat) (aTwo : Nat) (aBoth : Nat) (aWord : Nat) (aOpen : Nat) (aTimes : Nat) (aFar : Nat) (aQueue : Nat) (known : Int32) (kept : Int32) (len : Int32) (thr : Int32) (cre : Int32) (hash : Int64) (fText : Nat → Int32) (hp : P_X11_errorAt len fText) : M vI l yX11_errorAt cX11_errorAt 2 (some .int) 3 67 D (tyF cI cL cP cJ) [.ref o] [[(o, .inr (9, [.ref aS, .ref aPast, .int known, .ref aSnap, .int kept, .ref aText, .int len, .int thr, .ref aOne, .ref aTwo, .ref aBoth, .ref aWord, .int cre, .ref aOpen, .ref aTimes, .ref aFar, .ref aQueue, .long hash]))], [(aText, .inl (cI, 60, .inl fText))]] (fun (r : Int32) (w1 : List va_W) => r = (F_X11_errorAt len fText) ∧ w1 = [[(o, .inr (9, [.ref aS, .ref aPast, .int known, .ref aSnap, .int kept, .ref aText, .int len, .int thr, .ref aOne, .ref aTwo, .ref aBoth, .ref aWord, .int cre, .ref aOpen, .ref aTimes, .ref aFar, .ref aQueue, .long hash]))], [(aText, .inl (cI, 60, .inl fText))]]) := by
  unfold P_X11_errorAt at hp
  refine m_start (by decide +kernel) (Nat.le_of_ble_eq_true rfl) (fun p e s m args below meth c A Q hA hQ C hr hlo => ?_)
  refine r_Le (L' := [(0, .ref o)]) rfl ?_
  refine r_iconst (v := 0) C dX11_errorAt_0 (by decide) ?_
  refine r_istore_n (L' := [(1, .int 0), (0, .ref o)]) C dX11_errorAt_1 (by decide) rfl ?_
  have hL : ∀ (nn : Nat) (y1 : Int32), P_X11_errorAt_L2 len fText nn y1 → F_X11_errorAt len fText = F_X11_errorAt_L2 len fText nn y1 → V p l e (rmm 3 67) s m args below meth c 2 D A 0 0 Q [[(o, .inr (9, [.ref aS, .ref aPast, .int known, .ref aSnap, .int kept, .ref aText, .int len, .int thr, .ref aOne, .ref aTwo, .ref aBoth, .ref aWord, .int cre, .ref aOpen, .ref aTimes, .ref aFar, .ref aQueue, .long hash]))], [(aText, .inl (cI, 60, .inl fText))]] [(1, .int y1), (0, .ref o)] 2 [] := by
    clear hp
    intro nn
    induction nn with
    | zero => intro y1 hp hF; rw [P_X11_errorAt_L2] at hp; exact hp.elim
    | succ nn ih =>
      intro y1 hp hF
      rw [P_X11_errorAt_L2] at hp
      refine r_iload_n C dX11_errorAt_2 0 rfl ?_
      refine r_aload_n C dX11_errorAt_3 1 rfl ?_
      refine r_get (Cn := RX11) (T := TX11) (N := 18) C inT11 0 rfl rfl 6 (by decide) t_899 rfl dX11_errorAt_4 ?_
      refine r_icmp_ge (tgt := 26) C dX11_errorAt_7 (by decide) (fun c2 => ?_) (fun c2 => ?_)
      · refine r_aload_n C dX11_errorAt_26 1 rfl ?_
        refine r_get (Cn := RX11) (T := TX11) (N := 18) C inT11 0 rfl rfl 6 (by decide) t_899 rfl dX11_errorAt_27 ?_
        have eF : F_X11_errorAt len fText = len := by exact hF.trans (by simp only [F_X11_errorAt_L2, if_pos c2])
        exact r_iret (r := len) C hA hr hlo dX11_errorAt_30 [[(o, .inr (9, [.ref aS, .ref aPast, .int known, .ref aSnap, .int kept, .ref aText, .int len, .int thr, .ref aOne, .ref aTwo, .ref aBoth, .ref aWord, .int cre, .ref aOpen, .ref aTimes, .ref aFar, .ref aQueue, .long hash]))], [(aText, .inl (cI, 60, .inl fText))]] ⟨by simp only [eF], rfl⟩ rfl hQ
      · have hp := hp.2 c2
        refine r_aload_n C dX11_errorAt_10 1 rfl ?_
        refine r_iload_n C dX11_errorAt_11 0 rfl ?_
        obtain ⟨h3, hp⟩ := hp
        refine r_callV (ci := 9) (wc := [[(o, .inr (9, [.ref aS, .ref aPast, .int known, .ref aSnap, .int kept, .ref aText, .int len, .int thr, .ref aOne, .ref aTwo, .ref aBoth, .ref aWord, .int cre, .ref aOpen, .ref aTimes, .ref aFar, .ref aQueue, .long hash]))], [(aText, .inl (cI, 60, .inl fText))]]) (wr := []) (st := []) C (m_X11_fits l D cI cL cP cJ o aS aPast aSnap aText aOne aTwo aBoth aWord aOpen aTimes aFar aQueue known kept len thr cre hash fText y1 h3) k_X11_fits t_1091 [0, 1] (show ([0, 1] : List Nat).Perm (List.range 2) by decide) rfl rfl rfl (q0 := 0) rfl rfl rfl (Nat.le_of_ble_eq_true rfl) ⟨Nat.le_of_ble_eq_true rfl, Nat.le_of_ble_eq_true rfl⟩ ⟨Nat.zero_le _, Nat.zero_le _⟩ dX11_errorAt_12 (fun r4 wr4 hw4 => ?_)
        obtain ⟨e_r4, rfl⟩ := hw4
        have hp := hp r4 e_r4
        refine r_ws (I' := [[(o, .inr (9, [.ref aS, .ref aPast, .int known, .ref aSnap, .int kept, .ref aText, .int len, .int thr, .ref aOne, .ref aTwo, .ref aBoth, .ref aWord, .int cre, .ref aOpen, .ref aTimes, .ref aFar, .ref aQueue, .long hash]))], [(aText, .inl (cI, 60, .inl fText))]]) rfl ?_
        refine r_if_ne (tgt := 20) C dX11_errorAt_15 (by decide) (fun c5 => ?_) (fun c5 => ?_)
        · have hp := hp.2 c5
          obtain ⟨x6, e_x6⟩ : ∃ z : Int32, z = y1 + 1 := ⟨_, rfl⟩
          have hp := hp x6 e_x6
          refine r_iinc (v := x6) (L' := [(1, .int x6), (0, .ref o)]) C dX11_errorAt_20 0 rfl (by rw [e_x6]; exact ii (by decide)) (by decide) rfl ?_
          refine r_goto (tgt := 2) C dX11_errorAt_23 (by decide) ?_
          have eF : F_X11_errorAt_L2 len fText (nn + 1) y1 = F_X11_errorAt_L2 len fText nn x6 := by have q := e_r4.symm; subst q; have q := e_x6.symm; subst q; simp only [F_X11_errorAt_L2, if_neg c2, if_neg c5]
          exact ih x6 hp (hF.trans eF)
        · refine r_iload_n C dX11_errorAt_18 0 rfl ?_
          have eF : F_X11_errorAt len fText = y1 := by exact hF.trans (by have q := e_r4.symm; subst q; simp only [F_X11_errorAt_L2, if_neg c2, if_pos c5])
          exact r_iret (r := y1) C hA hr hlo dX11_errorAt_19 [[(o, .inr (9, [.ref aS, .ref aPast, .int known, .ref aSnap, .int kept, .ref aText, .int len, .int thr, .ref aOne, .ref aTwo, .ref aBoth, .ref aWord, .int cre, .ref aOpen, .ref aTimes, .ref aFar, .ref aQueue, .long hash]))], [(aText, .inl (cI, 60, .inl fText))]] ⟨by simp only [eF], rfl⟩ rfl hQ
  exact hL 62 0 hp (by rfl)
theorem k_X11_firstError : kV yX11_firstError cX11_firstError 1 (some .int) 0 := ⟨t_1084, t_1085, t_67, t_1086, by decide +kernel, by decide +kernel, by decide +kernel⟩
set_option maxRecDepth 20000 in
def F_X11_firstError (len : Int32) (fText : Nat → Int32) : Int32 × Int32 := let r2 : Int32 := F_X11_errorAt len fText; (r2, 0)
set_option maxRecDepth 20000 in
def P_X11_firstError (len : Int32) (fText : Nat → Int32) : Prop := (P_X11_errorAt len fText)
set_option maxRecDepth 20000 in
set_option maxHeartbeats 8000000 in
theorem m_X11_firstError (l : Launch) (D : va_G) (cI cL cP cJ : ClassId) (o : Nat) (aS : Nat) (aPast : Nat) (aSnap : Nat) (aText : Nat) (aOne : Nat) (aTwo : Nat) (aBoth : Nat) (aWord : Nat) (aOpen : Nat) (aTimes : Nat) (aFar : Nat) (aQueue : Nat) (known : Int32) (kept : Int32) (len : Int32) (thr : Int32) (cre : Int32) (hash : Int64) (fText : Nat → Int32) (hp : P_X11_firstError len fText) : M vI l yX11_firstError cX11_firstError 1 (some .int) 4 88 D (tyF cI cL cP cJ) [.ref o] [[(o, .inr (9, [.ref aS, .ref aPast, .int known, .ref aSnap, .int kept, .ref aText, .int len, .int thr, .ref aOne, .ref aTwo, .ref aBoth, .ref aWord, .int cre, .ref aOpen, .ref aTimes, .ref aFar, .ref aQueue, .long hash]))], [(aText, .inl (cI, 60, .inl fText))]] (fun (r : Int32) (w1 : List va_W) => r = (F_X11_firstError len fText).1 ∧ w1 = [[(o, .inr (9, [.ref aS, .ref aPast, .int known, .ref aSnap, .int kept, .ref aText, .int len, .int ((F_X11_firstError len fText).2), .ref aOne, .ref aTwo, .ref aBoth, .ref aWord, .int cre, .ref aOpen, .ref aTimes, .ref aFar, .ref aQueue, .long hash]))], [(aText, .inl (cI, 60, .inl fText))]]) := by
  unfold P_X11_firstError at hp
  refine m_start (by decide +kernel) (Nat.le_of_ble_eq_true rfl) (fun p e s m args below meth c A Q hA hQ C hr hlo => ?_)
  refine r_Le (L' := [(0, .ref o)]) rfl ?_
  refine r_aload_n C dX11_firstError_0 0 rfl ?_
  refine r_iconst (v := 0) C dX11_firstError_1 (by decide) ?_
  refine r_put (Cn := RX11) (T := TX11) (N := 18) C inT11 0 rfl rfl 7 (by decide) t_900 tyX11 tyX11_ok nmX11 rfl rfl rfl (Nat.le_of_ble_eq_true rfl) (I' := [[(o, .inr (9, [.ref aS, .ref aPast, .int known, .ref aSnap, .int kept, .ref aText, .int len, .int 0, .ref aOne, .ref aTwo, .ref aBoth, .ref aWord, .int cre, .ref aOpen, .ref aTimes, .ref aFar, .ref aQueue, .long hash]))], [(aText, .inl (cI, 60, .inl fText))]]) rfl dX11_firstError_2 ?_
  refine r_aload_n C dX11_firstError_5 0 rfl ?_
  have h1 := hp
  refine r_callV (ci := 9) (wc := [[(o, .inr (9, [.ref aS, .ref aPast, .int known, .ref aSnap, .int kept, .ref aText, .int len, .int 0, .ref aOne, .ref aTwo, .ref aBoth, .ref aWord, .int cre, .ref aOpen, .ref aTimes, .ref aFar, .ref aQueue, .long hash]))], [(aText, .inl (cI, 60, .inl fText))]]) (wr := []) (st := []) C (m_X11_errorAt l D cI cL cP cJ o aS aPast aSnap aText aOne aTwo aBoth aWord aOpen aTimes aFar aQueue known kept len 0 cre hash fText h1) k_X11_errorAt t_1087 [0, 1] (show ([0, 1] : List Nat).Perm (List.range 2) by decide) rfl rfl rfl (q0 := 0) rfl rfl rfl (Nat.le_of_ble_eq_true rfl) ⟨Nat.le_of_ble_eq_true rfl, Nat.le_of_ble_eq_true rfl⟩ ⟨Nat.zero_le _, Nat.zero_le _⟩ dX11_firstError_6 (fun r2 wr2 hw2 => ?_)
  obtain ⟨e_r2, rfl⟩ := hw2
  refine r_ws (I' := [[(o, .inr (9, [.ref aS, .ref aPast, .int known, .ref aSnap, .int kept, .ref aText, .int len, .int 0, .ref aOne, .ref aTwo, .ref aBoth, .ref aWord, .int cre, .ref aOpen, .ref aTimes, .ref aFar, .ref aQueue, .long hash]))], [(aText, .inl (cI, 60, .inl fText))]]) rfl ?_
  have eF : F_X11_firstError len fText = (r2, 0) := by have q := e_r2.symm; subst q; rfl
  exact r_iret (r := r2) C hA hr hlo dX11_firstError_9 [[(o, .inr (9, [.ref aS, .ref aPast, .int known, .ref aSnap, .int kept, .ref aText, .int len, .int 0, .ref aOne, .ref aTwo, .ref aBoth, .ref aWord, .int cre, .ref aOpen, .ref aTimes, .ref aFar, .ref aQueue, .long hash]))], [(aText, .inl (cI, 60, .inl fText))]] ⟨by simp only [eF], by simp only [eF]⟩ rfl hQ
theorem k_X11_isComplete : kV yX11_isComplete cX11_isComplete 1 (some .boolean) 0 := ⟨t_1113, t_36, t_67, t_1114, by decide +kernel, by decide +kernel, by decide +kernel⟩
set_option maxRecDepth 20000 in
def F_X11_isComplete (len : Int32) (fText : Nat → Int32) : Int32 := let x11 : Int32 := (if len ≤ 0 then (0) else (let r3 : Int32 := F_X11_errorAt len fText; (if r3 = len then (let r6 : Int32 := F_X11_depth len fText len; (if r6 = 0 then (let r9 : Int32 := F_X11_sign len fText (len - 1); (if r9 = 41 then (0) else (1))) else (0))) else (0)))); x11
set_option maxRecDepth 20000 in
def P_X11_isComplete (len : Int32) (fText : Nat → Int32) : Prop := ((len ≤ 0 → True) ∧ (¬ len ≤ 0 → ((P_X11_errorAt len fText) ∧ (∀ r3 : Int32, r3 = F_X11_errorAt len fText → ((r3 = len → ((P_X11_depth len fText len) ∧ (∀ r6 : Int32, r6 = F_X11_depth len fText len → ((r6 = 0 → (P_X11_sign len (len - 1))) ∧ (¬ r6 = 0 → True))))) ∧ (¬ r3 = len → True))))))
set_option maxRecDepth 20000 in
set_option maxHeartbeats 8000000 in
theorem m_X11_isComplete (l : Launch) (D : va_G) (cI cL cP cJ : ClassId) (o : Nat) (aS : Nat) (aPast : Nat) (aSnap : Nat) (aText : Nat) (aOne : Nat) (aTwo : Nat) (aBoth : Nat) (aWord : Nat) (aOpen : Nat) (aTimes : Nat) (aFar : Nat) (aQueue : Nat) (known : Int32) (kept : Int32) (len : Int32) (thr : Int32) (cre : Int32) (hash : Int64) (fText : Nat → Int32) (hp : P_X11_isComplete len fText) : M vI l yX11_isComplete cX11_isComplete 1 (some .boolean) 4 88 D (tyF cI cL cP cJ) [.ref o] [[(o, .inr (9, [.ref aS, .ref aPast, .int known, .ref aSnap, .int kept, .ref aText, .int len, .int thr, .ref aOne, .ref aTwo, .ref aBoth, .ref aWord, .int cre, .ref aOpen, .ref aTimes, .ref aFar, .ref aQueue, .long hash]))], [(aText, .inl (cI, 60, .inl fText))]] (fun (r : Int32) (w1 : List va_W) => r = (F_X11_isComplete len fText) ∧ w1 = [[(o, .inr (9, [.ref aS, .ref aPast, .int known, .ref aSnap, .int kept, .ref aText, .int len, .int thr, .ref aOne, .ref aTwo, .ref aBoth, .ref aWord, .int cre, .ref aOpen, .ref aTimes, .ref aFar, .ref aQueue, .long hash]))], [(aText, .inl (cI, 60, .inl fText))]]) := by
  unfold P_X11_isComplete at hp
  refine m_start (by decide +kernel) (Nat.le_of_ble_eq_true rfl) (fun p e s m args below meth c A Q hA hQ C hr hlo => ?_)
  refine r_Le (L' := [(0, .ref o)]) rfl ?_
  refine r_aload_n C dX11_isComplete_0 0 rfl ?_
  refine r_get (Cn := RX11) (T := TX11) (N := 18) C inT11 0 rfl rfl 6 (by decide) t_899 rfl dX11_isComplete_1 ?_
  have hps := hp
  suffices K : ∀ x11 : Int32, x11 = ((if len ≤ 0 then (0) else (let r3 : Int32 := F_X11_errorAt len fText; (if r3 = len then (let r6 : Int32 := F_X11_depth len fText len; (if r6 = 0 then (let r9 : Int32 := F_X11_sign len fText (len - 1); (if r9 = 41 then (0) else (1))) else (0))) else (0))))) → V p l e (rmm 4 88) s m args below meth c 1 D A 0 0 Q [[(o, .inr (9, [.ref aS, .ref aPast, .int known, .ref aSnap, .int kept, .ref aText, .int len, .int thr, .ref aOne, .ref aTwo, .ref aBoth, .ref aWord, .int cre, .ref aOpen, .ref aTimes, .ref aFar, .ref aQueue, .long hash]))], [(aText, .inl (cI, 60, .inl fText))]] [(0, .ref o)] 49 [.int x11] by
    have hp := hps
    refine r_if_le (tgt := 48) C dX11_isComplete_4 (by decide) (fun c1 => ?_) (fun c1 => ?_)
    · refine r_iconst (v := 0) C dX11_isComplete_48 (by decide) ?_
      exact K _ (by simp only [if_pos c1])
    · have hp := hp.2 c1
      refine r_aload_n C dX11_isComplete_7 0 rfl ?_
      obtain ⟨h2, hp⟩ := hp
      refine r_callV (ci := 9) (wc := [[(o, .inr (9, [.ref aS, .ref aPast, .int known, .ref aSnap, .int kept, .ref aText, .int len, .int thr, .ref aOne, .ref aTwo, .ref aBoth, .ref aWord, .int cre, .ref aOpen, .ref aTimes, .ref aFar, .ref aQueue, .long hash]))], [(aText, .inl (cI, 60, .inl fText))]]) (wr := []) (st := []) C (m_X11_errorAt l D cI cL cP cJ o aS aPast aSnap aText aOne aTwo aBoth aWord aOpen aTimes aFar aQueue known kept len thr cre hash fText h2) k_X11_errorAt t_1087 [0, 1] (show ([0, 1] : List Nat).Perm (List.range 2) by decide) rfl rfl rfl (q0 := 0) rfl rfl rfl (Nat.le_of_ble_eq_true rfl) ⟨Nat.le_of_ble_eq_true rfl, Nat.le_of_ble_eq_true rfl⟩ ⟨Nat.zero_le _, Nat.zero_le _⟩ dX11_isComplete_8 (fun r3 wr3 hw3 => ?_)
      obtain ⟨e_r3, rfl⟩ := hw3
      have hp := hp r3 e_r3
      refine r_ws (I' := [[(o, .inr (9, [.ref aS, .ref aPast, .int known, .ref aSnap, .int kept, .ref aText, .int len, .int thr, .ref aOne, .ref aTwo, .ref aBoth, .ref aWord, .int cre, .ref aOpen, .ref aTimes, .ref aFar, .ref aQueue, .long hash]))], [(aText, .inl (cI, 60, .inl fText))]]) rfl ?_
      refine r_aload_n C dX11_isComplete_11 0 rfl ?_
      refine r_get (Cn := RX11) (T := TX11) (N := 18) C inT11 0 rfl rfl 6 (by decide) t_899 rfl dX11_isComplete_12 ?_
      refine r_icmp_ne (tgt := 48) C dX11_isComplete_15 (by decide) (fun c4 => ?_) (fun c4 => ?_)
      · refine r_iconst (v := 0) C dX11_isComplete_48 (by decide) ?_
        exact K _ (by have q := e_r3.symm; subst q; simp only [if_neg c1, if_neg c4])
      · have hp := hp.1 c4
        refine r_aload_n C dX11_isComplete_18 0 rfl ?_
        refine r_aload_n C dX11_isComplete_19 0 rfl ?_
        refine r_get (Cn := RX11) (T := TX11) (N := 18) C inT11 0 rfl rfl 6 (by decide) t_899 rfl dX11_isComplete_20 ?_
        obtain ⟨h5, hp⟩ := hp
        refine r_callV (ci := 9) (wc := [[(o, .inr (9, [.ref aS, .ref aPast, .int known, .ref aSnap, .int kept, .ref aText, .int len, .int thr, .ref aOne, .ref aTwo, .ref aBoth, .ref aWord, .int cre, .ref aOpen, .ref aTimes, .ref aFar, .ref aQueue, .long hash]))], [(aText, .inl (cI, 60, .inl fText))]]) (wr := []) (st := []) C (m_X11_depth l D cI cL cP cJ o aS aPast aSnap aText aOne aTwo aBoth aWord aOpen aTimes aFar aQueue known kept len thr cre hash fText len h5) k_X11_depth t_1103 [0, 1] (show ([0, 1] : List Nat).Perm (List.range 2) by decide) rfl rfl rfl (q0 := 0) rfl rfl rfl (Nat.le_of_ble_eq_true rfl) ⟨Nat.le_of_ble_eq_true rfl, Nat.le_of_ble_eq_true rfl⟩ ⟨Nat.zero_le _, Nat.zero_le _⟩ dX11_isComplete_23 (fun r6 wr6 hw6 => ?_)
        obtain ⟨e_r6, rfl⟩ := hw6
        have hp := hp r6 e_r6
        refine r_ws (I' := [[(o, .inr (9, [.ref aS, .ref aPast, .int known, .ref aSnap, .int kept, .ref aText, .int len, .int thr, .ref aOne, .ref aTwo, .ref aBoth, .ref aWord, .int cre, .ref aOpen, .ref aTimes, .ref aFar, .ref aQueue, .long hash]))], [(aText, .inl (cI, 60, .inl fText))]]) rfl ?_
        refine r_if_ne (tgt := 48) C dX11_isComplete_26 (by decide) (fun c7 => ?_) (fun c7 => ?_)
        · refine r_iconst (v := 0) C dX11_isComplete_48 (by decide) ?_
          exact K _ (by have q := e_r3.symm; subst q; have q := e_r6.symm; subst q; simp only [if_neg c1, if_pos c4, if_neg c7])
        · have hp := hp.1 c7
          refine r_aload_n C dX11_isComplete_29 0 rfl ?_
          refine r_aload_n C dX11_isComplete_30 0 rfl ?_
          refine r_get (Cn := RX11) (T := TX11) (N := 18) C inT11 0 rfl rfl 6 (by decide) t_899 rfl dX11_isComplete_31 ?_
          refine r_iconst (v := 1) C dX11_isComplete_34 (by decide) ?_
          refine r_isub C dX11_isComplete_35 rfl ?_
          have h8 := hp
          refine r_callV (ci := 9) (wc := [[(o, .inr (9, [.ref aS, .ref aPast, .int known, .ref aSnap, .int kept, .ref aText, .int len, .int thr, .ref aOne, .ref aTwo, .ref aBoth, .ref aWord, .int cre, .ref aOpen, .ref aTimes, .ref aFar, .ref aQueue, .long hash]))], [(aText, .inl (cI, 60, .inl fText))]]) (wr := []) (st := []) C (m_X11_sign l D cI cL cP cJ o aS aPast aSnap aText aOne aTwo aBoth aWord aOpen aTimes aFar aQueue known kept len thr cre hash fText (len - 1) h8) k_X11_sign t_1095 [0, 1] (show ([0, 1] : List Nat).Perm (List.range 2) by decide) rfl rfl rfl (q0 := 0) rfl rfl rfl (Nat.le_of_ble_eq_true rfl) ⟨Nat.le_of_ble_eq_true rfl, Nat.le_of_ble_eq_true rfl⟩ ⟨Nat.zero_le _, Nat.zero_le _⟩ dX11_isComplete_36 (fun r9 wr9 hw9 => ?_)
          obtain ⟨e_r9, rfl⟩ := hw9
          refine r_ws (I' := [[(o, .inr (9, [.ref aS, .ref aPast, .int known, .ref aSnap, .int kept, .ref aText, .int len, .int thr, .ref aOne, .ref aTwo, .ref aBoth, .ref aWord, .int cre, .ref aOpen, .ref aTimes, .ref aFar, .ref aQueue, .long hash]))], [(aText, .inl (cI, 60, .inl fText))]]) rfl ?_
          refine r_bipush (v := 41) C dX11_isComplete_39 (by decide) ?_
          refine r_icmp_eq (tgt := 48) C dX11_isComplete_41 (by decide) (fun c10 => ?_) (fun c10 => ?_)
          · refine r_iconst (v := 0) C dX11_isComplete_48 (by decide) ?_
            exact K _ (by have q := e_r3.symm; subst q; have q := e_r6.symm; subst q; have q := e_r9.symm; subst q; simp only [if_neg c1, if_pos c4, if_pos c7, if_pos c10])
          · refine r_iconst (v := 1) C dX11_isComplete_44 (by decide) ?_
            refine r_goto (tgt := 49) C dX11_isComplete_45 (by decide) ?_
            exact K _ (by have q := e_r3.symm; subst q; have q := e_r6.symm; subst q; have q := e_r9.symm; subst q; simp only [if_neg c1, if_pos c4, if_pos c7, if_neg c10])
  intro x11 e_x11
  have eF : F_X11_isComplete len fText = x11 := by have q := e_x11.symm; subst q; rfl
  exact r_zret (r := x11) C hA hr hlo (nb01 (by first | (rw [e_x11]; (try dsimp only); ((repeat' split) <;> (first | exact Or.inl rfl | exact Or.inr rfl))) | (have q := e_x11.symm; subst q; (try dsimp only); ((repeat' split) <;> (first | exact Or.inl rfl | exact Or.inr rfl))))) dX11_isComplete_49 [[(o, .inr (9, [.ref aS, .ref aPast, .int known, .ref aSnap, .int kept, .ref aText, .int len, .int thr, .ref aOne, .ref aTwo, .ref aBoth, .ref aWord, .int cre, .ref aOpen, .ref aTimes, .ref aFar, .ref aQueue, .long hash]))], [(aText, .inl (cI, 60, .inl fText))]] ⟨by simp only [eF], rfl⟩ rfl hQ
theorem k_X11_goes : kV yX11_goes cX11_goes 3 (some .int) 2 := ⟨t_1117, t_37, t_67, t_1118, by decide +kernel, by decide +kernel, by decide +kernel⟩
set_option maxRecDepth 20000 in
def F_X11_goes (len : Int32) (fText : Nat → Int32) (fOpen : Nat → Int32) (fTimes : Nat → Int32) (place : Int32) (dep : Int32) : Int32 × (Nat → Int32) × (Nat → Int32) := let r2 : Int32 := F_X11_sign len fText place; (if r2 = 40 then (let g25 : Nat → Int32 := upd fOpen (dep.toNatClampNeg) place; let g27 : Nat → Int32 := upd fTimes (dep.toNatClampNeg) 1; (place + 1, g25, g27)) else (let r5 : Int32 := F_X11_sign len fText place; (if r5 = 41 then (let r13 : Int32 := F_X11_sign len fText (place + 1); (if (r13 - 48) ≤ (fTimes (dep - 1).toNatClampNeg) then (let r16 : Int32 := F_X11_sign len fText place; let x18 : Int32 := (if r16 = 41 then (place + 2) else (place + 1)); (x18, fOpen, fTimes)) else (let x20 : Int32 := (fTimes (dep - 1).toNatClampNeg) + 1; let g22 : Nat → Int32 := upd fTimes ((dep - 1).toNatClampNeg) x20; ((fOpen (dep - 1).toNatClampNeg) + 1, fOpen, g22)))) else (let r8 : Int32 := F_X11_sign len fText place; let x10 : Int32 := (if r8 = 41 then (place + 2) else (place + 1)); (x10, fOpen, fTimes)))))
set_option maxRecDepth 20000 in
def P_X11_goes (len : Int32) (fText : Nat → Int32) (fOpen : Nat → Int32) (fTimes : Nat → Int32) (place : Int32) (dep : Int32) : Prop := ((P_X11_sign len place) ∧ (∀ r2 : Int32, r2 = F_X11_sign len fText place → ((r2 = 40 → ((vp_in dep 6) ∧ (∀ g25 : Nat → Int32, g25 = upd fOpen (dep.toNatClampNeg) place → (vp_in dep 6)))) ∧ (¬ r2 = 40 → ((P_X11_sign len place) ∧ (∀ r5 : Int32, r5 = F_X11_sign len fText place → ((r5 = 41 → ((vp_in (dep - 1) 6) ∧ ((P_X11_sign len (place + 1)) ∧ (∀ r13 : Int32, r13 = F_X11_sign len fText (place + 1) → (((r13 - 48) ≤ (fTimes (dep - 1).toNatClampNeg) → (P_X11_sign len place)) ∧ (¬ (r13 - 48) ≤ (fTimes (dep - 1).toNatClampNeg) → ((vp_in (dep - 1) 6) ∧ (∀ x20 : Int32, x20 = (fTimes (dep - 1).toNatClampNeg) + 1 → ((vp_in (dep - 1) 6) ∧ (∀ g22 : Nat → Int32, g22 = upd fTimes ((dep - 1).toNatClampNeg) x20 → (vp_in (dep - 1) 6))))))))))) ∧ (¬ r5 = 41 → (P_X11_sign len place)))))))))
set_option maxRecDepth 20000 in
set_option maxHeartbeats 8000000 in
theorem m_X11_goes (l : Launch) (D : va_G) (cI cL cP cJ : ClassId) (o : Nat) (aS : Nat) (aPast : Nat) (aSnap : Nat) (aText : Nat) (aOne : Nat) (aTwo : Nat) (aBoth : Nat) (aWord : Nat) (aOpen : Nat) (aTimes : Nat) (aFar : Nat) (aQueue : Nat) (known : Int32) (kept : Int32) (len : Int32) (thr : Int32) (cre : Int32) (hash : Int64) (fText : Nat → Int32) (fOpen : Nat → Int32) (fTimes : Nat → Int32) (place : Int32) (dep : Int32) (hp : P_X11_goes len fText fOpen fTimes place dep) : M vI l yX11_goes cX11_goes 3 (some .int) 1 21 D (tyF cI cL cP cJ) [.ref o, .int place, .int dep] [[(o, .inr (9, [.ref aS, .ref aPast, .int known, .ref aSnap, .int kept, .ref aText, .int len, .int thr, .ref aOne, .ref aTwo, .ref aBoth, .ref aWord, .int cre, .ref aOpen, .ref aTimes, .ref aFar, .ref aQueue, .long hash]))], [(aText, .inl (cI, 60, .inl fText))], [(aOpen, .inl (cI, 6, .inl fOpen))], [(aTimes, .inl (cI, 6, .inl fTimes))]] (fun (r : Int32) (w1 : List va_W) => r = (F_X11_goes len fText fOpen fTimes place dep).1 ∧ w1 = [[(o, .inr (9, [.ref aS, .ref aPast, .int known, .ref aSnap, .int kept, .ref aText, .int len, .int thr, .ref aOne, .ref aTwo, .ref aBoth, .ref aWord, .int cre, .ref aOpen, .ref aTimes, .ref aFar, .ref aQueue, .long hash]))], [(aText, .inl (cI, 60, .inl fText))], [(aOpen, .inl (cI, 6, .inl ((F_X11_goes len fText fOpen fTimes place dep).2.1)))], [(aTimes, .inl (cI, 6, .inl ((F_X11_goes len fText fOpen fTimes place dep).2.2)))]]) := by
  unfold P_X11_goes at hp
  refine m_start (by decide +kernel) (Nat.le_of_ble_eq_true rfl) (fun p e s m args below meth c A Q hA hQ C hr hlo => ?_)
  refine r_Le (L' := [(0, .ref o), (1, .int place), (2, .int dep)]) rfl ?_
  refine r_aload_n C dX11_goes_0 0 rfl ?_
  refine r_iload_n C dX11_goes_1 1 rfl ?_
  obtain ⟨h1, hp⟩ := hp
  refine r_callV (ci := 9) (wc := [[(o, .inr (9, [.ref aS, .ref aPast, .int known, .ref aSnap, .int kept, .ref aText, .int len, .int thr, .ref aOne, .ref aTwo, .ref aBoth, .ref aWord, .int cre, .ref aOpen, .ref aTimes, .ref aFar, .ref aQueue, .long hash]))], [(aText, .inl (cI, 60, .inl fText))]]) (wr := [[(aOpen, .inl (cI, 6, .inl fOpen))], [(aTimes, .inl (cI, 6, .inl fTimes))]]) (st := []) C (m_X11_sign l D cI cL cP cJ o aS aPast aSnap aText aOne aTwo aBoth aWord aOpen aTimes aFar aQueue known kept len thr cre hash fText place h1) k_X11_sign t_1095 [0, 1, 2, 3] (show ([0, 1, 2, 3] : List Nat).Perm (List.range 4) by decide) rfl rfl rfl (q0 := 0) rfl rfl rfl (Nat.le_of_ble_eq_true rfl) ⟨Nat.le_of_ble_eq_true rfl, Nat.le_of_ble_eq_true rfl⟩ ⟨Nat.zero_le _, Nat.zero_le _⟩ dX11_goes_2 (fun r2 wr2 hw2 => ?_)
  obtain ⟨e_r2, rfl⟩ := hw2
  have hp := hp r2 e_r2
  refine r_ws (I' := [[(o, .inr (9, [.ref aS, .ref aPast, .int known, .ref aSnap, .int kept, .ref aText, .int len, .int thr, .ref aOne, .ref aTwo, .ref aBoth, .ref aWord, .int cre, .ref aOpen, .ref aTimes, .ref aFar, .ref aQueue, .long hash]))], [(aText, .inl (cI, 60, .inl fText))], [(aOpen, .inl (cI, 6, .inl fOpen))], [(aTimes, .inl (cI, 6, .inl fTimes))]]) rfl ?_
  refine r_bipush (v := 40) C dX11_goes_5 (by decide) ?_
  refine r_icmp_ne (tgt := 28) C dX11_goes_7 (by decide) (fun c3 => ?_) (fun c3 => ?_)
  · have hp := hp.2 c3
    refine r_aload_n C dX11_goes_28 0 rfl ?_
    refine r_iload_n C dX11_goes_29 1 rfl ?_
    obtain ⟨h4, hp⟩ := hp
    refine r_callV (ci := 9) (wc := [[(o, .inr (9, [.ref aS, .ref aPast, .int known, .ref aSnap, .int kept, .ref aText, .int len, .int thr, .ref aOne, .ref aTwo, .ref aBoth, .ref aWord, .int cre, .ref aOpen, .ref aTimes, .ref aFar, .ref aQueue, .long hash]))], [(aText, .inl (cI, 60, .inl fText))]]) (wr := [[(aOpen, .inl (cI, 6, .inl fOpen))], [(aTimes, .inl (cI, 6, .inl fTimes))]]) (st := []) C (m_X11_sign l D cI cL cP cJ o aS aPast aSnap aText aOne aTwo aBoth aWord aOpen aTimes aFar aQueue known kept len thr cre hash fText place h4) k_X11_sign t_1095 [0, 1, 2, 3] (show ([0, 1, 2, 3] : List Nat).Perm (List.range 4) by decide) rfl rfl rfl (q0 := 0) rfl rfl rfl (Nat.le_of_ble_eq_true rfl) ⟨Nat.le_of_ble_eq_true rfl, Nat.le_of_ble_eq_true rfl⟩ ⟨Nat.zero_le _, Nat.zero_le _⟩ dX11_goes_30 (fun r5 wr5 hw5 => ?_)
    obtain ⟨e_r5, rfl⟩ := hw5
    have hp := hp r5 e_r5
    refine r_ws (I' := [[(o, .inr (9, [.ref aS, .ref aPast, .int known, .ref aSnap, .int kept, .ref aText, .int len, .int thr, .ref aOne, .ref aTwo, .ref aBoth, .ref aWord, .int cre, .ref aOpen, .ref aTimes, .ref aFar, .ref aQueue, .long hash]))], [(aText, .inl (cI, 60, .inl fText))], [(aOpen, .inl (cI, 6, .inl fOpen))], [(aTimes, .inl (cI, 6, .inl fTimes))]]) rfl ?_
    refine r_bipush (v := 41) C dX11_goes_33 (by decide) ?_
    refine r_icmp_ne (tgt := 82) C dX11_goes_35 (by decide) (fun c6 => ?_) (fun c6 => ?_)
    · have hp := hp.2 c6
      refine r_aload_n C dX11_goes_82 0 rfl ?_
      refine r_iload_n C dX11_goes_83 1 rfl ?_
      have h7 := hp
      refine r_callV (ci := 9) (wc := [[(o, .inr (9, [.ref aS, .ref aPast, .int known, .ref aSnap, .int kept, .ref aText, .int len, .int thr, .ref aOne, .ref aTwo, .ref aBoth, .ref aWord, .int cre, .ref aOpen, .ref aTimes, .ref aFar, .ref aQueue, .long hash]))], [(aText, .inl (cI, 60, .inl fText))]]) (wr := [[(aOpen, .inl (cI, 6, .inl fOpen))], [(aTimes, .inl (cI, 6, .inl fTimes))]]) (st := []) C (m_X11_sign l D cI cL cP cJ o aS aPast aSnap aText aOne aTwo aBoth aWord aOpen aTimes aFar aQueue known kept len thr cre hash fText place h7) k_X11_sign t_1095 [0, 1, 2, 3] (show ([0, 1, 2, 3] : List Nat).Perm (List.range 4) by decide) rfl rfl rfl (q0 := 0) rfl rfl rfl (Nat.le_of_ble_eq_true rfl) ⟨Nat.le_of_ble_eq_true rfl, Nat.le_of_ble_eq_true rfl⟩ ⟨Nat.zero_le _, Nat.zero_le _⟩ dX11_goes_84 (fun r8 wr8 hw8 => ?_)
      obtain ⟨e_r8, rfl⟩ := hw8
      refine r_ws (I' := [[(o, .inr (9, [.ref aS, .ref aPast, .int known, .ref aSnap, .int kept, .ref aText, .int len, .int thr, .ref aOne, .ref aTwo, .ref aBoth, .ref aWord, .int cre, .ref aOpen, .ref aTimes, .ref aFar, .ref aQueue, .long hash]))], [(aText, .inl (cI, 60, .inl fText))], [(aOpen, .inl (cI, 6, .inl fOpen))], [(aTimes, .inl (cI, 6, .inl fTimes))]]) rfl ?_
      refine r_bipush (v := 41) C dX11_goes_87 (by decide) ?_
      suffices K : ∀ x10 : Int32, x10 = ((if r8 = 41 then (place + 2) else (place + 1))) → V p l e (rmm 1 21) s m args below meth c 3 D A 0 0 Q [[(o, .inr (9, [.ref aS, .ref aPast, .int known, .ref aSnap, .int kept, .ref aText, .int len, .int thr, .ref aOne, .ref aTwo, .ref aBoth, .ref aWord, .int cre, .ref aOpen, .ref aTimes, .ref aFar, .ref aQueue, .long hash]))], [(aText, .inl (cI, 60, .inl fText))], [(aOpen, .inl (cI, 6, .inl fOpen))], [(aTimes, .inl (cI, 6, .inl fTimes))]] [(0, .ref o), (1, .int place), (2, .int dep)] 101 [.int x10] by
        refine r_icmp_ne (tgt := 98) C dX11_goes_89 (by decide) (fun c9 => ?_) (fun c9 => ?_)
        · refine r_iload_n C dX11_goes_98 1 rfl ?_
          refine r_iconst (v := 1) C dX11_goes_99 (by decide) ?_
          refine r_iadd C dX11_goes_100 rfl ?_
          exact K _ (by simp only [if_neg c9])
        · refine r_iload_n C dX11_goes_92 1 rfl ?_
          refine r_iconst (v := 2) C dX11_goes_93 (by decide) ?_
          refine r_iadd C dX11_goes_94 rfl ?_
          refine r_goto (tgt := 101) C dX11_goes_95 (by decide) ?_
          exact K _ (by simp only [if_pos c9])
      intro x10 e_x10
      have eF : F_X11_goes len fText fOpen fTimes place dep = (x10, fOpen, fTimes) := by have q := e_r2.symm; subst q; have q := e_r5.symm; subst q; have q := e_r8.symm; subst q; have q := e_x10.symm; subst q; simp only [F_X11_goes, if_neg c3, if_neg c6]
      exact r_iret (r := x10) C hA hr hlo dX11_goes_101 [[(o, .inr (9, [.ref aS, .ref aPast, .int known, .ref aSnap, .int kept, .ref aText, .int len, .int thr, .ref aOne, .ref aTwo, .ref aBoth, .ref aWord, .int cre, .ref aOpen, .ref aTimes, .ref aFar, .ref aQueue, .long hash]))], [(aText, .inl (cI, 60, .inl fText))], [(aOpen, .inl (cI, 6, .inl fOpen))], [(aTimes, .inl (cI, 6, .inl fTimes))]] ⟨by simp only [eF], by simp only [eF]⟩ rfl hQ
    · have hp := hp.1 c6
      refine r_aload_n C dX11_goes_38 0 rfl ?_
      refine r_get (Cn := RX11) (T := TX11) (N := 18) C inT11 0 rfl rfl 14 (by decide) t_907 rfl dX11_goes_39 ?_
      refine r_iload_n C dX11_goes_42 2 rfl ?_
      refine r_iconst (v := 1) C dX11_goes_43 (by decide) ?_
      refine r_isub C dX11_goes_44 rfl ?_
      obtain ⟨h11, hp⟩ := hp
      refine r_iald (z := fTimes (dep - 1).toNatClampNeg) C 3 0 rfl rfl h11 dX11_goes_45 rfl ?_
      refine r_aload_n C dX11_goes_46 0 rfl ?_
      refine r_iload_n C dX11_goes_47 1 rfl ?_
      refine r_iconst (v := 1) C dX11_goes_48 (by decide) ?_
      refine r_iadd C dX11_goes_49 rfl ?_
      obtain ⟨h12, hp⟩ := hp
      refine r_callV (ci := 9) (wc := [[(o, .inr (9, [.ref aS, .ref aPast, .int known, .ref aSnap, .int kept, .ref aText, .int len, .int thr, .ref aOne, .ref aTwo, .ref aBoth, .ref aWord, .int cre, .ref aOpen, .ref aTimes, .ref aFar, .ref aQueue, .long hash]))], [(aText, .inl (cI, 60, .inl fText))]]) (wr := [[(aOpen, .inl (cI, 6, .inl fOpen))], [(aTimes, .inl (cI, 6, .inl fTimes))]]) (st := [.int (fTimes (dep - 1).toNatClampNeg)]) C (m_X11_sign l D cI cL cP cJ o aS aPast aSnap aText aOne aTwo aBoth aWord aOpen aTimes aFar aQueue known kept len thr cre hash fText (place + 1) h12) k_X11_sign t_1095 [0, 1, 2, 3] (show ([0, 1, 2, 3] : List Nat).Perm (List.range 4) by decide) rfl rfl rfl (q0 := 0) rfl rfl rfl (Nat.le_of_ble_eq_true rfl) ⟨Nat.le_of_ble_eq_true rfl, Nat.le_of_ble_eq_true rfl⟩ ⟨Nat.zero_le _, Nat.zero_le _⟩ dX11_goes_50 (fun r13 wr13 hw13 => ?_)
      obtain ⟨e_r13, rfl⟩ := hw13
      have hp := hp r13 e_r13
      refine r_ws (I' := [[(o, .inr (9, [.ref aS, .ref aPast, .int known, .ref aSnap, .int kept, .ref aText, .int len, .int thr, .ref aOne, .ref aTwo, .ref aBoth, .ref aWord, .int cre, .ref aOpen, .ref aTimes, .ref aFar, .ref aQueue, .long hash]))], [(aText, .inl (cI, 60, .inl fText))], [(aOpen, .inl (cI, 6, .inl fOpen))], [(aTimes, .inl (cI, 6, .inl fTimes))]]) rfl ?_
      refine r_bipush (v := 48) C dX11_goes_53 (by decide) ?_
      refine r_isub C dX11_goes_55 rfl ?_
      refine r_icmp_ge (tgt := 82) C dX11_goes_56 (by decide) (fun c14 => ?_) (fun c14 => ?_)
      · have hp := hp.1 c14
        refine r_aload_n C dX11_goes_82 0 rfl ?_
        refine r_iload_n C dX11_goes_83 1 rfl ?_
        have h15 := hp
        refine r_callV (ci := 9) (wc := [[(o, .inr (9, [.ref aS, .ref aPast, .int known, .ref aSnap, .int kept, .ref aText, .int len, .int thr, .ref aOne, .ref aTwo, .ref aBoth, .ref aWord, .int cre, .ref aOpen, .ref aTimes, .ref aFar, .ref aQueue, .long hash]))], [(aText, .inl (cI, 60, .inl fText))]]) (wr := [[(aOpen, .inl (cI, 6, .inl fOpen))], [(aTimes, .inl (cI, 6, .inl fTimes))]]) (st := []) C (m_X11_sign l D cI cL cP cJ o aS aPast aSnap aText aOne aTwo aBoth aWord aOpen aTimes aFar aQueue known kept len thr cre hash fText place h15) k_X11_sign t_1095 [0, 1, 2, 3] (show ([0, 1, 2, 3] : List Nat).Perm (List.range 4) by decide) rfl rfl rfl (q0 := 0) rfl rfl rfl (Nat.le_of_ble_eq_true rfl) ⟨Nat.le_of_ble_eq_true rfl, Nat.le_of_ble_eq_true rfl⟩ ⟨Nat.zero_le _, Nat.zero_le _⟩ dX11_goes_84 (fun r16 wr16 hw16 => ?_)
        obtain ⟨e_r16, rfl⟩ := hw16
        refine r_ws (I' := [[(o, .inr (9, [.ref aS, .ref aPast, .int known, .ref aSnap, .int kept, .ref aText, .int len, .int thr, .ref aOne, .ref aTwo, .ref aBoth, .ref aWord, .int cre, .ref aOpen, .ref aTimes, .ref aFar, .ref aQueue, .long hash]))], [(aText, .inl (cI, 60, .inl fText))], [(aOpen, .inl (cI, 6, .inl fOpen))], [(aTimes, .inl (cI, 6, .inl fTimes))]]) rfl ?_
        refine r_bipush (v := 41) C dX11_goes_87 (by decide) ?_
        suffices K : ∀ x18 : Int32, x18 = ((if r16 = 41 then (place + 2) else (place + 1))) → V p l e (rmm 1 21) s m args below meth c 3 D A 0 0 Q [[(o, .inr (9, [.ref aS, .ref aPast, .int known, .ref aSnap, .int kept, .ref aText, .int len, .int thr, .ref aOne, .ref aTwo, .ref aBoth, .ref aWord, .int cre, .ref aOpen, .ref aTimes, .ref aFar, .ref aQueue, .long hash]))], [(aText, .inl (cI, 60, .inl fText))], [(aOpen, .inl (cI, 6, .inl fOpen))], [(aTimes, .inl (cI, 6, .inl fTimes))]] [(0, .ref o), (1, .int place), (2, .int dep)] 101 [.int x18] by
          refine r_icmp_ne (tgt := 98) C dX11_goes_89 (by decide) (fun c17 => ?_) (fun c17 => ?_)
          · refine r_iload_n C dX11_goes_98 1 rfl ?_
            refine r_iconst (v := 1) C dX11_goes_99 (by decide) ?_
            refine r_iadd C dX11_goes_100 rfl ?_
            exact K _ (by simp only [if_neg c17])
          · refine r_iload_n C dX11_goes_92 1 rfl ?_
            refine r_iconst (v := 2) C dX11_goes_93 (by decide) ?_
            refine r_iadd C dX11_goes_94 rfl ?_
            refine r_goto (tgt := 101) C dX11_goes_95 (by decide) ?_
            exact K _ (by simp only [if_pos c17])
        intro x18 e_x18
        have eF : F_X11_goes len fText fOpen fTimes place dep = (x18, fOpen, fTimes) := by have q := e_r2.symm; subst q; have q := e_r5.symm; subst q; have q := e_r13.symm; subst q; have q := e_r16.symm; subst q; have q := e_x18.symm; subst q; simp only [F_X11_goes, if_neg c3, if_pos c6, if_pos c14]
        exact r_iret (r := x18) C hA hr hlo dX11_goes_101 [[(o, .inr (9, [.ref aS, .ref aPast, .int known, .ref aSnap, .int kept, .ref aText, .int len, .int thr, .ref aOne, .ref aTwo, .ref aBoth, .ref aWord, .int cre, .ref aOpen, .ref aTimes, .ref aFar, .ref aQueue, .long hash]))], [(aText, .inl (cI, 60, .inl fText))], [(aOpen, .inl (cI, 6, .inl fOpen))], [(aTimes, .inl (cI, 6, .inl fTimes))]] ⟨by simp only [eF], by simp only [eF]⟩ rfl hQ
      · have hp := hp.2 c14
        refine r_aload_n C dX11_goes_59 0 rfl ?_
        refine r_get (Cn := RX11) (T := TX11) (N := 18) C inT11 0 rfl rfl 14 (by decide) t_907 rfl dX11_goes_60 ?_
        refine r_iload_n C dX11_goes_63 2 rfl ?_
        refine r_iconst (v := 1) C dX11_goes_64 (by decide) ?_
        refine r_isub C dX11_goes_65 rfl ?_
        refine r_dup2_11 C dX11_goes_66 rfl rfl ?_
        obtain ⟨h19, hp⟩ := hp
        refine r_iald (z := fTimes (dep - 1).toNatClampNeg) C 3 0 rfl rfl h19 dX11_goes_67 rfl ?_
        refine r_iconst (v := 1) C dX11_goes_68 (by decide) ?_
        refine r_iadd C dX11_goes_69 rfl ?_
        refine r_top (fun x20 e_x20 => ?_)
        have hp := hp x20 e_x20
        obtain ⟨h21, hp⟩ := hp
        obtain ⟨g22, e_g22⟩ : ∃ z : Nat → Int32, z = upd fTimes ((dep - 1).toNatClampNeg) x20 := ⟨_, rfl⟩
        have hp := hp g22 e_g22
        refine r_iast C 3 0 rfl rfl h21 (I' := [[(o, .inr (9, [.ref aS, .ref aPast, .int known, .ref aSnap, .int kept, .ref aText, .int len, .int thr, .ref aOne, .ref aTwo, .ref aBoth, .ref aWord, .int cre, .ref aOpen, .ref aTimes, .ref aFar, .ref aQueue, .long hash]))], [(aText, .inl (cI, 60, .inl fText))], [(aOpen, .inl (cI, 6, .inl fOpen))], [(aTimes, .inl (cI, 6, .inl g22))]]) (by rw [e_g22]; rfl) dX11_goes_70 ?_
        refine r_aload_n C dX11_goes_71 0 rfl ?_
        refine r_get (Cn := RX11) (T := TX11) (N := 18) C inT11 0 rfl rfl 13 (by decide) t_906 rfl dX11_goes_72 ?_
        refine r_iload_n C dX11_goes_75 2 rfl ?_
        refine r_iconst (v := 1) C dX11_goes_76 (by decide) ?_
        refine r_isub C dX11_goes_77 rfl ?_
        have h23 := hp
        refine r_iald (z := fOpen (dep - 1).toNatClampNeg) C 2 0 rfl rfl h23 dX11_goes_78 rfl ?_
        refine r_iconst (v := 1) C dX11_goes_79 (by decide) ?_
        refine r_iadd C dX11_goes_80 rfl ?_
        have eF : F_X11_goes len fText fOpen fTimes place dep = ((fOpen (dep - 1).toNatClampNeg) + 1, fOpen, g22) := by have q := e_r2.symm; subst q; have q := e_r5.symm; subst q; have q := e_r13.symm; subst q; have q := e_x20.symm; subst q; have q := e_g22.symm; subst q; simp only [F_X11_goes, if_neg c3, if_pos c6, if_neg c14]
        exact r_iret (r := (fOpen (dep - 1).toNatClampNeg) + 1) C hA hr hlo dX11_goes_81 [[(o, .inr (9, [.ref aS, .ref aPast, .int known, .ref aSnap, .int kept, .ref aText, .int len, .int thr, .ref aOne, .ref aTwo, .ref aBoth, .ref aWord, .int cre, .ref aOpen, .ref aTimes, .ref aFar, .ref aQueue, .long hash]))], [(aText, .inl (cI, 60, .inl fText))], [(aOpen, .inl (cI, 6, .inl fOpen))], [(aTimes, .inl (cI, 6, .inl g22))]] ⟨by simp only [eF], by simp only [eF]⟩ rfl hQ
  · have hp := hp.1 c3
    refine r_aload_n C dX11_goes_10 0 rfl ?_
    refine r_get (Cn := RX11) (T := TX11) (N := 18) C inT11 0 rfl rfl 13 (by decide) t_906 rfl dX11_goes_11 ?_
    refine r_iload_n C dX11_goes_14 2 rfl ?_
    refine r_iload_n C dX11_goes_15 1 rfl ?_
    obtain ⟨h24, hp⟩ := hp
    obtain ⟨g25, e_g25⟩ : ∃ z : Nat → Int32, z = upd fOpen (dep.toNatClampNeg) place := ⟨_, rfl⟩
    have hp := hp g25 e_g25
    refine r_iast C 2 0 rfl rfl h24 (I' := [[(o, .inr (9, [.ref aS, .ref aPast, .int known, .ref aSnap, .int kept, .ref aText, .int len, .int thr, .ref aOne, .ref aTwo, .ref aBoth, .ref aWord, .int cre, .ref aOpen, .ref aTimes, .ref aFar, .ref aQueue, .long hash]))], [(aText, .inl (cI, 60, .inl fText))], [(aOpen, .inl (cI, 6, .inl g25))], [(aTimes, .inl (cI, 6, .inl fTimes))]]) (by rw [e_g25]; rfl) dX11_goes_16 ?_
    refine r_aload_n C dX11_goes_17 0 rfl ?_
    refine r_get (Cn := RX11) (T := TX11) (N := 18) C inT11 0 rfl rfl 14 (by decide) t_907 rfl dX11_goes_18 ?_
    refine r_iload_n C dX11_goes_21 2 rfl ?_
    refine r_iconst (v := 1) C dX11_goes_22 (by decide) ?_
    have h26 := hp
    obtain ⟨g27, e_g27⟩ : ∃ z : Nat → Int32, z = upd fTimes (dep.toNatClampNeg) 1 := ⟨_, rfl⟩
    refine r_iast C 3 0 rfl rfl h26 (I' := [[(o, .inr (9, [.ref aS, .ref aPast, .int known, .ref aSnap, .int kept, .ref aText, .int len, .int thr, .ref aOne, .ref aTwo, .ref aBoth, .ref aWord, .int cre, .ref aOpen, .ref aTimes, .ref aFar, .ref aQueue, .long hash]))], [(aText, .inl (cI, 60, .inl fText))], [(aOpen, .inl (cI, 6, .inl g25))], [(aTimes, .inl (cI, 6, .inl g27))]]) (by rw [e_g27]; rfl) dX11_goes_23 ?_
    refine r_iload_n C dX11_goes_24 1 rfl ?_
    refine r_iconst (v := 1) C dX11_goes_25 (by decide) ?_
    refine r_iadd C dX11_goes_26 rfl ?_
    have eF : F_X11_goes len fText fOpen fTimes place dep = (place + 1, g25, g27) := by have q := e_r2.symm; subst q; have q := e_g25.symm; subst q; have q := e_g27.symm; subst q; simp only [F_X11_goes, if_pos c3]
    exact r_iret (r := place + 1) C hA hr hlo dX11_goes_27 [[(o, .inr (9, [.ref aS, .ref aPast, .int known, .ref aSnap, .int kept, .ref aText, .int len, .int thr, .ref aOne, .ref aTwo, .ref aBoth, .ref aWord, .int cre, .ref aOpen, .ref aTimes, .ref aFar, .ref aQueue, .long hash]))], [(aText, .inl (cI, 60, .inl fText))], [(aOpen, .inl (cI, 6, .inl g25))], [(aTimes, .inl (cI, 6, .inl g27))]] ⟨by simp only [eF], by simp only [eF]⟩ rfl hQ
theorem k_X11_word : kV yX11_word cX11_word 7 (some .int) 1 := ⟨t_1108, t_1109, t_67, t_1110, by decide +kernel, by decide +kernel, by decide +kernel⟩
def F_X11_word_L43 (len : Int32) (fText : Nat → Int32) (letter : Int32) : Nat → (Nat → Int32) → (Nat → Int32) → (Nat → Int32) → (Nat → Int32) → Int32 → Int32 → Int32 → (Nat → Int32) × (Nat → Int32) × (Nat → Int32) × (Nat → Int32) × Int32 × Int32 × Int32
  | 0, k14, k15, k16, k17, y18, y19, y20 => (k14, k15, k16, k17, y18, y19, y20)
  | nn + 1, k14, k15, k16, k17, y18, y19, y20 => (if len ≤ y19 then ((k14, k15, k16, k17, y18, y19, y20)) else ((if y20 = 0 then ((k14, k15, k16, k17, y18, y19, y20)) else (let r24 : Int32 := F_X11_sign len fText y19; let x29 : Int32 := (if r24 = 40 then (0) else (let r27 : Int32 := F_X11_sign len fText y19; (if r27 = 41 then (0) else (1)))); let x44 : Int32 := (if x29 = 0 then (y20) else (let r32 : Int32 := F_X11_sign len fText y19; let x33 : Int32 := r32 - 48; let r35 : Int32 := F_X11_reason k14 letter x33; let x37 : Int32 := (if r35 = 0 then (1) else (0)); (if x37 = 0 then (x37) else (x37)))); let x45 : Int32 := (if x29 = 0 then (y18) else (let r32 : Int32 := F_X11_sign len fText y19; let x33 : Int32 := r32 - 48; let r35 : Int32 := F_X11_reason k14 letter x33; let x37 : Int32 := (if r35 = 0 then (1) else (0)); (if x37 = 0 then (y18) else (let x43 : Int32 := y18 + 1; x43)))); let g46 : Nat → Int32 := (if x29 = 0 then (k14) else (let r32 : Int32 := F_X11_sign len fText y19; let x33 : Int32 := r32 - 48; let r35 : Int32 := F_X11_reason k14 letter x33; let x37 : Int32 := (if r35 = 0 then (1) else (0)); (if x37 = 0 then (k14) else (let g41 : Nat → Int32 := (F_X11_folds k14 k15 letter x33).1; g41)))); let g47 : Nat → Int32 := (if x29 = 0 then (k15) else (let r32 : Int32 := F_X11_sign len fText y19; let x33 : Int32 := r32 - 48; let r35 : Int32 := F_X11_reason k14 letter x33; let x37 : Int32 := (if r35 = 0 then (1) else (0)); (if x37 = 0 then (k15) else (let g42 : Nat → Int32 := (F_X11_folds k14 k15 letter x33).2; g42)))); let r49 : Int32 := F_X11_depth len fText y19; let r51 : Int32 := (F_X11_goes len fText k16 k17 y19 r49).1; let g52 : Nat → Int32 := (F_X11_goes len fText k16 k17 y19 r49).2.1; let g53 : Nat → Int32 := (F_X11_goes len fText k16 k17 y19 r49).2.2; F_X11_word_L43 len fText letter nn g46 g47 g52 g53 x45 r51 x44))))
def P_X11_word_L43 (len : Int32) (fText : Nat → Int32) (letter : Int32) : Nat → (Nat → Int32) → (Nat → Int32) → (Nat → Int32) → (Nat → Int32) → Int32 → Int32 → Int32 → Prop
  | 0, _, _, _, _, _, _, _ => False
  | nn + 1, k14, k15, k16, k17, y18, y19, y20 => ((len ≤ y19 → True) ∧ (¬ len ≤ y19 → ((y20 = 0 → True) ∧ (¬ y20 = 0 → ((P_X11_sign len y19) ∧ (∀ r24 : Int32, r24 = F_X11_sign len fText y19 → (((r24 = 40 → True) ∧ (¬ r24 = 40 → (P_X11_sign len y19))) ∧ (∀ x29 : Int32, x29 = ((if r24 = 40 then (0) else (let r27 : Int32 := F_X11_sign len fText y19; (if r27 = 41 then (0) else (1))))) → (((x29 = 0 → True) ∧ (¬ x29 = 0 → ((P_X11_sign len y19) ∧ (∀ r32 : Int32, r32 = F_X11_sign len fText y19 → (∀ x33 : Int32, x33 = r32 - 48 → ((P_X11_reason k14 letter) ∧ (∀ r35 : Int32, r35 = F_X11_reason k14 letter x33 → (∀ x37 : Int32, x37 = ((if r35 = 0 then (1) else (0))) → ((x37 = 0 → True) ∧ (¬ x37 = 0 → (P_X11_folds k14 k15 letter x33))))))))))) ∧ (∀ x44 : Int32, x44 = ((if x29 = 0 then (y20) else (let r32 : Int32 := F_X11_sign len fText y19; let x33 : Int32 := r32 - 48; let r35 : Int32 := F_X11_reason k14 letter x33; let x37 : Int32 := (if r35 = 0 then (1) else (0)); (if x37 = 0 then (x37) else (x37))))) → (∀ x45 : Int32, x45 = ((if x29 = 0 then (y18) else (let r32 : Int32 := F_X11_sign len fText y19; let x33 : Int32 := r32 - 48; let r35 : Int32 := F_X11_reason k14 letter x33; let x37 : Int32 := (if r35 = 0 then (1) else (0)); (if x37 = 0 then (y18) else (let x43 : Int32 := y18 + 1; x43))))) → (∀ g46 : Nat → Int32, g46 = ((if x29 = 0 then (k14) else (let r32 : Int32 := F_X11_sign len fText y19; let x33 : Int32 := r32 - 48; let r35 : Int32 := F_X11_reason k14 letter x33; let x37 : Int32 := (if r35 = 0 then (1) else (0)); (if x37 = 0 then (k14) else (let g41 : Nat → Int32 := (F_X11_folds k14 k15 letter x33).1; g41))))) → (∀ g47 : Nat → Int32, g47 = ((if x29 = 0 then (k15) else (let r32 : Int32 := F_X11_sign len fText y19; let x33 : Int32 := r32 - 48; let r35 : Int32 := F_X11_reason k14 letter x33; let x37 : Int32 := (if r35 = 0 then (1) else (0)); (if x37 = 0 then (k15) else (let g42 : Nat → Int32 := (F_X11_folds k14 k15 letter x33).2; g42))))) → ((P_X11_depth len fText y19) ∧ (∀ r49 : Int32, r49 = F_X11_depth len fText y19 → ((P_X11_goes len fText k16 k17 y19 r49) ∧ (∀ r51 : Int32, r51 = (F_X11_goes len fText k16 k17 y19 r49).1 → (∀ g52 : Nat → Int32, g52 = (F_X11_goes len fText k16 k17 y19 r49).2.1 → (∀ g53 : Nat → Int32, g53 = (F_X11_goes len fText k16 k17 y19 r49).2.2 → (P_X11_word_L43 len fText letter nn g46 g47 g52 g53 x45 r51 x44))))))))))))))))))))
set_option maxRecDepth 20000 in
def F_X11_word (known : Int32) (len : Int32) (fS : Nat → Int32) (fPast : Nat → Int32) (fText : Nat → Int32) (fOne : Nat → Int32) (fOpen : Nat → Int32) (fTimes : Nat → Int32) (letter : Int32) : Int32 × Int32 × Int32 × Int32 × (Nat → Int32) × (Nat → Int32) × (Nat → Int32) × (Nat → Int32) × (Nat → Int32) := let r1 : Int32 := F_X11_isLetter letter; let x6 : Int32 := (if r1 = 0 then (1) else (let r4 : Int32 := F_X11_isComplete len fText; (if r4 = 0 then (2) else (0)))); let r7 : Int32 := (F_X11_throwsAt x6).1; let x8 : Int32 := (F_X11_throwsAt x6).2; (if r7 = 0 then (let x12 : Int32 := (F_X11_saves known fS fPast).1; let g13 : Nat → Int32 := (F_X11_saves known fS fPast).2; let f54 : Nat → Int32 := (F_X11_word_L43 len fText letter fuelW fS fOne fOpen fTimes 0 0 1).1; let f55 : Nat → Int32 := (F_X11_word_L43 len fText letter fuelW fS fOne fOpen fTimes 0 0 1).2.1; let f56 : Nat → Int32 := (F_X11_word_L43 len fText letter fuelW fS fOne fOpen fTimes 0 0 1).2.2.1; let f57 : Nat → Int32 := (F_X11_word_L43 len fText letter fuelW fS fOne fOpen fTimes 0 0 1).2.2.2.1; let z58 : Int32 := (F_X11_word_L43 len fText letter fuelW fS fOne fOpen fTimes 0 0 1).2.2.2.2.1; (z58, x12, 0, x8, f54, g13, f55, f56, f57)) else ((0, known, len, x8, fS, fPast, fOne, fOpen, fTimes)))
set_option maxRecDepth 20000 in
def P_X11_word (known : Int32) (len : Int32) (fS : Nat → Int32) (fPast : Nat → Int32) (fText : Nat → Int32) (fOne : Nat → Int32) (fOpen : Nat → Int32) (fTimes : Nat → Int32) (letter : Int32) : Prop := (∀ r1 : Int32, r1 = F_X11_isLetter letter → (((r1 = 0 → True) ∧ (¬ r1 = 0 → (P_X11_isComplete len fText))) ∧ (∀ x6 : Int32, x6 = ((if r1 = 0 then (1) else (let r4 : Int32 := F_X11_isComplete len fText; (if r4 = 0 then (2) else (0))))) → (∀ r7 : Int32, r7 = (F_X11_throwsAt x6).1 → (∀ x8 : Int32, x8 = (F_X11_throwsAt x6).2 → ((r7 = 0 → ((P_X11_saves known fS fPast) ∧ (∀ x12 : Int32, x12 = (F_X11_saves known fS fPast).1 → (∀ g13 : Nat → Int32, g13 = (F_X11_saves known fS fPast).2 → (P_X11_word_L43 len fText letter fuelW fS fOne fOpen fTimes 0 0 1))))) ∧ (¬ r7 = 0 → True)))))))
set_option maxRecDepth 20000 in
set_option maxHeartbeats 8000000 in
theorem m_X11_word (l : Launch) (D : va_G) (cI cL cP cJ : ClassId) (o : Nat) (aS : Nat) (aPast : Nat) (aSnap : Nat) (aText : Nat) (aOne : Nat) (aTwo : Nat) (aBoth : Nat) (aWord : Nat) (aOpen : Nat) (aTimes : Nat) (aFar : Nat) (aQueue : Nat) (known : Int32) (kept : Int32) (len : Int32) (thr : Int32) (cre : Int32) (hash : Int64) (fS : Nat → Int32) (fPast : Nat → Int32) (fText : Nat → Int32) (fOne : Nat → Int32) (fOpen : Nat → Int32) (fTimes : Nat → Int32) (letter : Int32) (hp : P_X11_word known len fS fPast fText fOne fOpen fTimes letter) : M vI l yX11_word cX11_word 7 (some .int) 5 108 D (tyF cI cL cP cJ) [.ref o, .int letter] [[(o, .inr (9, [.ref aS, .ref aPast, .int known, .ref aSnap, .int kept, .ref aText, .int len, .int thr, .ref aOne, .ref aTwo, .ref aBoth, .ref aWord, .int cre, .ref aOpen, .ref aTimes, .ref aFar, .ref aQueue, .long hash]))], [(aS, .inl (cI, 335, .inl fS))], [(aPast, .inl (cI, 2010, .inl fPast))], [(aText, .inl (cI, 60, .inl fText))], [(aOne, .inl (cI, 4, .inl fOne))], [(aOpen, .inl (cI, 6, .inl fOpen))], [(aTimes, .inl (cI, 6, .inl fTimes))]] (fun (r : Int32) (w1 : List va_W) => r = (F_X11_word known len fS fPast fText fOne fOpen fTimes letter).1 ∧ w1 = [[(o, .inr (9, [.ref aS, .ref aPast, .int ((F_X11_word known len fS fPast fText fOne fOpen fTimes letter).2.1), .ref aSnap, .int kept, .ref aText, .int ((F_X11_word known len fS fPast fText fOne fOpen fTimes letter).2.2.1), .int ((F_X11_word known len fS fPast fText fOne fOpen fTimes letter).2.2.2.1), .ref aOne, .ref aTwo, .ref aBoth, .ref aWord, .int cre, .ref aOpen, .ref aTimes, .ref aFar, .ref aQueue, .long hash]))], [(aS, .inl (cI, 335, .inl ((F_X11_word known len fS fPast fText fOne fOpen fTimes letter).2.2.2.2.1)))], [(aPast, .inl (cI, 2010, .inl ((F_X11_word known len fS fPast fText fOne fOpen fTimes letter).2.2.2.2.2.1)))], [(aText, .inl (cI, 60, .inl fText))], [(aOne, .inl (cI, 4, .inl ((F_X11_word known len fS fPast fText fOne fOpen fTimes letter).2.2.2.2.2.2.1)))], [(aOpen, .inl (cI, 6, .inl ((F_X11_word known len fS fPast fText fOne fOpen fTimes letter).2.2.2.2.2.2.2.1)))], [(aTimes, .inl (cI, 6, .inl ((F_X11_word known len fS fPast fText fOne fOpen fTimes letter).2.2.2.2.2.2.2.2)))]]) := by
  unfold P_X11_word at hp
  refine m_start (by decide +kernel) (Nat.le_of_ble_eq_true rfl) (fun p e s m args below meth c A Q hA hQ C hr hlo => ?_)
  refine r_Le (L' := [(0, .ref o), (1, .int letter)]) rfl ?_
  refine r_aload_n C dX11_word_0 0 rfl ?_
  refine r_iload_n C dX11_word_1 1 rfl ?_
  refine r_callS (wc := []) (wr := [[(o, .inr (9, [.ref aS, .ref aPast, .int known, .ref aSnap, .int kept, .ref aText, .int len, .int thr, .ref aOne, .ref aTwo, .ref aBoth, .ref aWord, .int cre, .ref aOpen, .ref aTimes, .ref aFar, .ref aQueue, .long hash]))], [(aS, .inl (cI, 335, .inl fS))], [(aPast, .inl (cI, 2010, .inl fPast))], [(aText, .inl (cI, 60, .inl fText))], [(aOne, .inl (cI, 4, .inl fOne))], [(aOpen, .inl (cI, 6, .inl fOpen))], [(aTimes, .inl (cI, 6, .inl fTimes))]]) (st := [.ref o]) C (m_X11_isLetter l D cI cL cP cJ letter) k_X11_isLetter t_956 [0, 1, 2, 3, 4, 5, 6] (show ([0, 1, 2, 3, 4, 5, 6] : List Nat).Perm (List.range 7) by decide) rfl rfl rfl (Nat.le_of_ble_eq_true rfl) ⟨Nat.le_of_ble_eq_true rfl, Nat.le_of_ble_eq_true rfl⟩ ⟨Nat.zero_le _, Nat.zero_le _⟩ dX11_word_2 (fun r1 wr1 hw1 => ?_)
  obtain ⟨e_r1, rfl⟩ := hw1
  have hp := hp r1 e_r1
  refine r_ws (I' := [[(o, .inr (9, [.ref aS, .ref aPast, .int known, .ref aSnap, .int kept, .ref aText, .int len, .int thr, .ref aOne, .ref aTwo, .ref aBoth, .ref aWord, .int cre, .ref aOpen, .ref aTimes, .ref aFar, .ref aQueue, .long hash]))], [(aS, .inl (cI, 335, .inl fS))], [(aPast, .inl (cI, 2010, .inl fPast))], [(aText, .inl (cI, 60, .inl fText))], [(aOne, .inl (cI, 4, .inl fOne))], [(aOpen, .inl (cI, 6, .inl fOpen))], [(aTimes, .inl (cI, 6, .inl fTimes))]]) rfl ?_
  obtain ⟨hps, hp⟩ := hp
  suffices K : ∀ x6 : Int32, x6 = ((if r1 = 0 then (1) else (let r4 : Int32 := F_X11_isComplete len fText; (if r4 = 0 then (2) else (0))))) → V p l e (rmm 5 108) s m args below meth c 7 D A 0 0 Q [[(o, .inr (9, [.ref aS, .ref aPast, .int known, .ref aSnap, .int kept, .ref aText, .int len, .int thr, .ref aOne, .ref aTwo, .ref aBoth, .ref aWord, .int cre, .ref aOpen, .ref aTimes, .ref aFar, .ref aQueue, .long hash]))], [(aText, .inl (cI, 60, .inl fText))], [(aS, .inl (cI, 335, .inl fS))], [(aPast, .inl (cI, 2010, .inl fPast))], [(aOne, .inl (cI, 4, .inl fOne))], [(aOpen, .inl (cI, 6, .inl fOpen))], [(aTimes, .inl (cI, 6, .inl fTimes))]] [(0, .ref o), (1, .int letter)] 24 [.int x6, .ref o] by
    have hp := hps
    refine r_if_ne (tgt := 12) C dX11_word_5 (by decide) (fun c2 => ?_) (fun c2 => ?_)
    · have hp := hp.2 c2
      refine r_aload_n C dX11_word_12 0 rfl ?_
      have h3 := hp
      refine r_callV (ci := 9) (wc := [[(o, .inr (9, [.ref aS, .ref aPast, .int known, .ref aSnap, .int kept, .ref aText, .int len, .int thr, .ref aOne, .ref aTwo, .ref aBoth, .ref aWord, .int cre, .ref aOpen, .ref aTimes, .ref aFar, .ref aQueue, .long hash]))], [(aText, .inl (cI, 60, .inl fText))]]) (wr := [[(aS, .inl (cI, 335, .inl fS))], [(aPast, .inl (cI, 2010, .inl fPast))], [(aOne, .inl (cI, 4, .inl fOne))], [(aOpen, .inl (cI, 6, .inl fOpen))], [(aTimes, .inl (cI, 6, .inl fTimes))]]) (st := [.ref o]) C (m_X11_isComplete l D cI cL cP cJ o aS aPast aSnap aText aOne aTwo aBoth aWord aOpen aTimes aFar aQueue known kept len thr cre hash fText h3) k_X11_isComplete t_1111 [0, 3, 1, 2, 4, 5, 6] (show ([0, 3, 1, 2, 4, 5, 6] : List Nat).Perm (List.range 7) by decide) rfl rfl rfl (q0 := 0) rfl rfl rfl (Nat.le_of_ble_eq_true rfl) ⟨Nat.le_of_ble_eq_true rfl, Nat.le_of_ble_eq_true rfl⟩ ⟨Nat.zero_le _, Nat.zero_le _⟩ dX11_word_13 (fun r4 wr4 hw4 => ?_)
      obtain ⟨e_r4, rfl⟩ := hw4
      refine r_ws (I' := [[(o, .inr (9, [.ref aS, .ref aPast, .int known, .ref aSnap, .int kept, .ref aText, .int len, .int thr, .ref aOne, .ref aTwo, .ref aBoth, .ref aWord, .int cre, .ref aOpen, .ref aTimes, .ref aFar, .ref aQueue, .long hash]))], [(aText, .inl (cI, 60, .inl fText))], [(aS, .inl (cI, 335, .inl fS))], [(aPast, .inl (cI, 2010, .inl fPast))], [(aOne, .inl (cI, 4, .inl fOne))], [(aOpen, .inl (cI, 6, .inl fOpen))], [(aTimes, .inl (cI, 6, .inl fTimes))]]) rfl ?_
      refine r_if_eq (tgt := 23) C dX11_word_16 (by decide) (fun c5 => ?_) (fun c5 => ?_)
      · refine r_iconst (v := 2) C dX11_word_23 (by decide) ?_
        exact K _ (by have q := e_r4.symm; subst q; simp only [if_neg c2, if_pos c5])
      · refine r_iconst (v := 0) C dX11_word_19 (by decide) ?_
        refine r_goto (tgt := 24) C dX11_word_20 (by decide) ?_
        exact K _ (by have q := e_r4.symm; subst q; simp only [if_neg c2, if_neg c5])
    · refine r_iconst (v := 1) C dX11_word_8 (by decide) ?_
      refine r_goto (tgt := 24) C dX11_word_9 (by decide) ?_
      refine r_pl (I' := [[(o, .inr (9, [.ref aS, .ref aPast, .int known, .ref aSnap, .int kept, .ref aText, .int len, .int thr, .ref aOne, .ref aTwo, .ref aBoth, .ref aWord, .int cre, .ref aOpen, .ref aTimes, .ref aFar, .ref aQueue, .long hash]))], [(aText, .inl (cI, 60, .inl fText))], [(aS, .inl (cI, 335, .inl fS))], [(aPast, .inl (cI, 2010, .inl fPast))], [(aOne, .inl (cI, 4, .inl fOne))], [(aOpen, .inl (cI, 6, .inl fOpen))], [(aTimes, .inl (cI, 6, .inl fTimes))]]) [0, 3, 1, 2, 4, 5, 6] (show ([0, 3, 1, 2, 4, 5, 6] : List Nat).Perm (List.range 7) by decide) rfl ?_
      exact K _ (by simp only [if_pos c2])
  intro x6 e_x6
  have hp := hp x6 e_x6
  refine r_callV (ci := 9) (wc := [[(o, .inr (9, [.ref aS, .ref aPast, .int known, .ref aSnap, .int kept, .ref aText, .int len, .int thr, .ref aOne, .ref aTwo, .ref aBoth, .ref aWord, .int cre, .ref aOpen, .ref aTimes, .ref aFar, .ref aQueue, .long hash]))]]) (wr := [[(aText, .inl (cI, 60, .inl fText))], [(aS, .inl (cI, 335, .inl fS))], [(aPast, .inl (cI, 2010, .inl fPast))], [(aOne, .inl (cI, 4, .inl fOne))], [(aOpen, .inl (cI, 6, .inl fOpen))], [(aTimes, .inl (cI, 6, .inl fTimes))]]) (st := []) C (m_X11_throwsAt l D cI cL cP cJ o aS aPast aSnap aText aOne aTwo aBoth aWord aOpen aTimes aFar aQueue known kept len thr cre hash x6) k_X11_throwsAt t_974 [0, 1, 2, 3, 4, 5, 6] (show ([0, 1, 2, 3, 4, 5, 6] : List Nat).Perm (List.range 7) by decide) rfl rfl rfl (q0 := 0) rfl rfl rfl (Nat.le_of_ble_eq_true rfl) ⟨Nat.le_of_ble_eq_true rfl, Nat.le_of_ble_eq_true rfl⟩ ⟨Nat.zero_le _, Nat.zero_le _⟩ dX11_word_24 (fun r7 wr7 hw7 => ?_)
  obtain ⟨e_r7, rfl⟩ := hw7
  have hp := hp r7 e_r7
  obtain ⟨x8, e_x8⟩ : ∃ z : Int32, z = (F_X11_throwsAt x6).2 := ⟨_, rfl⟩
  have hp := hp x8 e_x8
  refine r_ws (I' := [[(o, .inr (9, [.ref aS, .ref aPast, .int known, .ref aSnap, .int kept, .ref aText, .int len, .int x8, .ref aOne, .ref aTwo, .ref aBoth, .ref aWord, .int cre, .ref aOpen, .ref aTimes, .ref aFar, .ref aQueue, .long hash]))], [(aText, .inl (cI, 60, .inl fText))], [(aS, .inl (cI, 335, .inl fS))], [(aPast, .inl (cI, 2010, .inl fPast))], [(aOne, .inl (cI, 4, .inl fOne))], [(aOpen, .inl (cI, 6, .inl fOpen))], [(aTimes, .inl (cI, 6, .inl fTimes))]]) (by rw [e_x8]; rfl) ?_
  refine r_if_eq (tgt := 32) C dX11_word_27 (by decide) (fun c9 => ?_) (fun c9 => ?_)
  · have hp := hp.1 c9
    refine r_aload_n C dX11_word_32 0 rfl ?_
    obtain ⟨h10, hp⟩ := hp
    refine r_callV (ci := 9) (wc := [[(o, .inr (9, [.ref aS, .ref aPast, .int known, .ref aSnap, .int kept, .ref aText, .int len, .int x8, .ref aOne, .ref aTwo, .ref aBoth, .ref aWord, .int cre, .ref aOpen, .ref aTimes, .ref aFar, .ref aQueue, .long hash]))], [(aS, .inl (cI, 335, .inl fS))], [(aPast, .inl (cI, 2010, .inl fPast))]]) (wr := [[(aText, .inl (cI, 60, .inl fText))], [(aOne, .inl (cI, 4, .inl fOne))], [(aOpen, .inl (cI, 6, .inl fOpen))], [(aTimes, .inl (cI, 6, .inl fTimes))]]) (st := []) C (m_X11_saves l D cI cL cP cJ o aS aPast aSnap aText aOne aTwo aBoth aWord aOpen aTimes aFar aQueue known kept len x8 cre hash fS fPast h10) k_X11_saves t_978 [0, 2, 3, 1, 4, 5, 6] (show ([0, 2, 3, 1, 4, 5, 6] : List Nat).Perm (List.range 7) by decide) rfl rfl rfl (q0 := 0) rfl rfl rfl (Nat.le_of_ble_eq_true rfl) ⟨Nat.le_of_ble_eq_true rfl, Nat.le_of_ble_eq_true rfl⟩ ⟨Nat.zero_le _, Nat.zero_le _⟩ dX11_word_33 (fun r11 wr11 hw11 => ?_)
    obtain rfl := hw11
    obtain ⟨x12, e_x12⟩ : ∃ z : Int32, z = (F_X11_saves known fS fPast).1 := ⟨_, rfl⟩
    have hp := hp x12 e_x12
    obtain ⟨g13, e_g13⟩ : ∃ z : Nat → Int32, z = (F_X11_saves known fS fPast).2 := ⟨_, rfl⟩
    have hp := hp g13 e_g13
    refine r_ws (I' := [[(o, .inr (9, [.ref aS, .ref aPast, .int x12, .ref aSnap, .int kept, .ref aText, .int len, .int x8, .ref aOne, .ref aTwo, .ref aBoth, .ref aWord, .int cre, .ref aOpen, .ref aTimes, .ref aFar, .ref aQueue, .long hash]))], [(aS, .inl (cI, 335, .inl fS))], [(aPast, .inl (cI, 2010, .inl g13))], [(aText, .inl (cI, 60, .inl fText))], [(aOne, .inl (cI, 4, .inl fOne))], [(aOpen, .inl (cI, 6, .inl fOpen))], [(aTimes, .inl (cI, 6, .inl fTimes))]]) (by rw [e_x12, e_g13]; rfl) ?_
    refine r_iconst (v := 0) C dX11_word_36 (by decide) ?_
    refine r_istore_n (L' := [(2, .int 0), (0, .ref o), (1, .int letter)]) C dX11_word_37 (by decide) rfl ?_
    refine r_iconst (v := 0) C dX11_word_38 (by decide) ?_
    refine r_istore_n (L' := [(3, .int 0), (2, .int 0), (0, .ref o), (1, .int letter)]) C dX11_word_39 (by decide) rfl ?_
    refine r_iconst (v := 1) C dX11_word_40 (by decide) ?_
    refine r_istore (L' := [(4, .int 1), (3, .int 0), (2, .int 0), (0, .ref o), (1, .int letter)]) C dX11_word_41 (by decide) rfl ?_
    have hpl := hp
    have hL : ∀ (nn : Nat) (k14 : Nat → Int32) (k15 : Nat → Int32) (k16 : Nat → Int32) (k17 : Nat → Int32) (y18 : Int32) (y19 : Int32) (y20 : Int32), P_X11_word_L43 len fText letter nn k14 k15 k16 k17 y18 y19 y20 → (∀ f54 : Nat → Int32, f54 = (F_X11_word_L43 len fText letter nn k14 k15 k16 k17 y18 y19 y20).1 → ∀ f55 : Nat → Int32, f55 = (F_X11_word_L43 len fText letter nn k14 k15 k16 k17 y18 y19 y20).2.1 → ∀ f56 : Nat → Int32, f56 = (F_X11_word_L43 len fText letter nn k14 k15 k16 k17 y18 y19 y20).2.2.1 → ∀ f57 : Nat → Int32, f57 = (F_X11_word_L43 len fText letter nn k14 k15 k16 k17 y18 y19 y20).2.2.2.1 → ∀ z58 : Int32, z58 = (F_X11_word_L43 len fText letter nn k14 k15 k16 k17 y18 y19 y20).2.2.2.2.1 → ∀ z59 : Int32, z59 = (F_X11_word_L43 len fText letter nn k14 k15 k16 k17 y18 y19 y20).2.2.2.2.2.1 → ∀ z60 : Int32, z60 = (F_X11_word_L43 len fText letter nn k14 k15 k16 k17 y18 y19 y20).2.2.2.2.2.2 → V p l e (rmm 5 108) s m args below meth c 7 D A 0 0 Q [[(o, .inr (9, [.ref aS, .ref aPast, .int x12, .ref aSnap, .int kept, .ref aText, .int len, .int x8, .ref aOne, .ref aTwo, .ref aBoth, .ref aWord, .int cre, .ref aOpen, .ref aTimes, .ref aFar, .ref aQueue, .long hash]))], [(aS, .inl (cI, 335, .inl f54))], [(aPast, .inl (cI, 2010, .inl g13))], [(aText, .inl (cI, 60, .inl fText))], [(aOne, .inl (cI, 4, .inl f55))], [(aOpen, .inl (cI, 6, .inl f56))], [(aTimes, .inl (cI, 6, .inl f57))]] [(4, .int z60), (3, .int z59), (2, .int z58), (0, .ref o), (1, .int letter)] 144 []) → V p l e (rmm 5 108) s m args below meth c 7 D A 0 0 Q [[(o, .inr (9, [.ref aS, .ref aPast, .int x12, .ref aSnap, .int kept, .ref aText, .int len, .int x8, .ref aOne, .ref aTwo, .ref aBoth, .ref aWord, .int cre, .ref aOpen, .ref aTimes, .ref aFar, .ref aQueue, .long hash]))], [(aS, .inl (cI, 335, .inl k14))], [(aPast, .inl (cI, 2010, .inl g13))], [(aText, .inl (cI, 60, .inl fText))], [(aOne, .inl (cI, 4, .inl k15))], [(aOpen, .inl (cI, 6, .inl k16))], [(aTimes, .inl (cI, 6, .inl k17))]] [(4, .int y20), (3, .int y19), (2, .int y18), (0, .ref o), (1, .int letter)] 43 [] := by
      clear hpl
      intro nn
      induction nn with
      | zero => intro k14 k15 k16 k17 y18 y19 y20 hp kk; rw [P_X11_word_L43] at hp; exact hp.elim
      | succ nn ih =>
        intro k14 k15 k16 k17 y18 y19 y20 hp kk
        rw [P_X11_word_L43] at hp
        refine r_iload_n C dX11_word_43 1 rfl ?_
        refine r_aload_n C dX11_word_44 3 rfl ?_
        refine r_get (Cn := RX11) (T := TX11) (N := 18) C inT11 0 rfl rfl 6 (by decide) t_899 rfl dX11_word_45 ?_
        refine r_icmp_ge (tgt := 144) C dX11_word_48 (by decide) (fun c21 => ?_) (fun c21 => ?_)
        · have eF : F_X11_word_L43 len fText letter (nn + 1) k14 k15 k16 k17 y18 y19 y20 = (k14, k15, k16, k17, y18, y19, y20) := by simp only [F_X11_word_L43, if_pos c21]
          exact kk _ (by rw [eF]) _ (by rw [eF]) _ (by rw [eF]) _ (by rw [eF]) _ (by rw [eF]) _ (by rw [eF]) _ (by rw [eF])
        · have hp := hp.2 c21
          refine r_iload C dX11_word_51 0 rfl ?_
          refine r_if_eq (tgt := 144) C dX11_word_53 (by decide) (fun c22 => ?_) (fun c22 => ?_)
          · have eF : F_X11_word_L43 len fText letter (nn + 1) k14 k15 k16 k17 y18 y19 y20 = (k14, k15, k16, k17, y18, y19, y20) := by simp only [F_X11_word_L43, if_neg c21, if_pos c22]
            exact kk _ (by rw [eF]) _ (by rw [eF]) _ (by rw [eF]) _ (by rw [eF]) _ (by rw [eF]) _ (by rw [eF]) _ (by rw [eF])
          · have hp := hp.2 c22
            refine r_aload_n C dX11_word_56 3 rfl ?_
            refine r_iload_n C dX11_word_57 1 rfl ?_
            obtain ⟨h23, hp⟩ := hp
            refine r_callV (ci := 9) (wc := [[(o, .inr (9, [.ref aS, .ref aPast, .int x12, .ref aSnap, .int kept, .ref aText, .int len, .int x8, .ref aOne, .ref aTwo, .ref aBoth, .ref aWord, .int cre, .ref aOpen, .ref aTimes, .ref aFar, .ref aQueue, .long hash]))], [(aText, .inl (cI, 60, .inl fText))]]) (wr := [[(aS, .inl (cI, 335, .inl k14))], [(aPast, .inl (cI, 2010, .inl g13))], [(aOne, .inl (cI, 4, .inl k15))], [(aOpen, .inl (cI, 6, .inl k16))], [(aTimes, .inl (cI, 6, .inl k17))]]) (st := []) C (m_X11_sign l D cI cL cP cJ o aS aPast aSnap aText aOne aTwo aBoth aWord aOpen aTimes aFar aQueue x12 kept len x8 cre hash fText y19 h23) k_X11_sign t_1095 [0, 3, 1, 2, 4, 5, 6] (show ([0, 3, 1, 2, 4, 5, 6] : List Nat).Perm (List.range 7) by decide) rfl rfl rfl (q0 := 0) rfl rfl rfl (Nat.le_of_ble_eq_true rfl) ⟨Nat.le_of_ble_eq_true rfl, Nat.le_of_ble_eq_true rfl⟩ ⟨Nat.zero_le _, Nat.zero_le _⟩ dX11_word_58 (fun r24 wr24 hw24 => ?_)
            obtain ⟨e_r24, rfl⟩ := hw24
            have hp := hp r24 e_r24
            refine r_ws (I' := [[(o, .inr (9, [.ref aS, .ref aPast, .int x12, .ref aSnap, .int kept, .ref aText, .int len, .int x8, .ref aOne, .ref aTwo, .ref aBoth, .ref aWord, .int cre, .ref aOpen, .ref aTimes, .ref aFar, .ref aQueue, .long hash]))], [(aText, .inl (cI, 60, .inl fText))], [(aS, .inl (cI, 335, .inl k14))], [(aPast, .inl (cI, 2010, .inl g13))], [(aOne, .inl (cI, 4, .inl k15))], [(aOpen, .inl (cI, 6, .inl k16))], [(aTimes, .inl (cI, 6, .inl k17))]]) rfl ?_
            refine r_bipush (v := 40) C dX11_word_61 (by decide) ?_
            obtain ⟨hps, hp⟩ := hp
            suffices K : ∀ x29 : Int32, x29 = ((if r24 = 40 then (0) else (let r27 : Int32 := F_X11_sign len fText y19; (if r27 = 41 then (0) else (1))))) → V p l e (rmm 5 108) s m args below meth c 7 D A 0 0 Q [[(o, .inr (9, [.ref aS, .ref aPast, .int x12, .ref aSnap, .int kept, .ref aText, .int len, .int x8, .ref aOne, .ref aTwo, .ref aBoth, .ref aWord, .int cre, .ref aOpen, .ref aTimes, .ref aFar, .ref aQueue, .long hash]))], [(aText, .inl (cI, 60, .inl fText))], [(aS, .inl (cI, 335, .inl k14))], [(aPast, .inl (cI, 2010, .inl g13))], [(aOne, .inl (cI, 4, .inl k15))], [(aOpen, .inl (cI, 6, .inl k16))], [(aTimes, .inl (cI, 6, .inl k17))]] [(4, .int y20), (3, .int y19), (2, .int y18), (0, .ref o), (1, .int letter)] 81 [.int x29] by
              have hp := hps
              refine r_icmp_eq (tgt := 80) C dX11_word_63 (by decide) (fun c25 => ?_) (fun c25 => ?_)
              · refine r_iconst (v := 0) C dX11_word_80 (by decide) ?_
                exact K _ (by simp only [if_pos c25])
              · have hp := hp.2 c25
                refine r_aload_n C dX11_word_66 3 rfl ?_
                refine r_iload_n C dX11_word_67 1 rfl ?_
                have h26 := hp
                refine r_callV (ci := 9) (wc := [[(o, .inr (9, [.ref aS, .ref aPast, .int x12, .ref aSnap, .int kept, .ref aText, .int len, .int x8, .ref aOne, .ref aTwo, .ref aBoth, .ref aWord, .int cre, .ref aOpen, .ref aTimes, .ref aFar, .ref aQueue, .long hash]))], [(aText, .inl (cI, 60, .inl fText))]]) (wr := [[(aS, .inl (cI, 335, .inl k14))], [(aPast, .inl (cI, 2010, .inl g13))], [(aOne, .inl (cI, 4, .inl k15))], [(aOpen, .inl (cI, 6, .inl k16))], [(aTimes, .inl (cI, 6, .inl k17))]]) (st := []) C (m_X11_sign l D cI cL cP cJ o aS aPast aSnap aText aOne aTwo aBoth aWord aOpen aTimes aFar aQueue x12 kept len x8 cre hash fText y19 h26) k_X11_sign t_1095 [0, 1, 2, 3, 4, 5, 6] (show ([0, 1, 2, 3, 4, 5, 6] : List Nat).Perm (List.range 7) by decide) rfl rfl rfl (q0 := 0) rfl rfl rfl (Nat.le_of_ble_eq_true rfl) ⟨Nat.le_of_ble_eq_true rfl, Nat.le_of_ble_eq_true rfl⟩ ⟨Nat.zero_le _, Nat.zero_le _⟩ dX11_word_68 (fun r27 wr27 hw27 => ?_)
                obtain ⟨e_r27, rfl⟩ := hw27
                refine r_ws (I' := [[(o, .inr (9, [.ref aS, .ref aPast, .int x12, .ref aSnap, .int kept, .ref aText, .int len, .int x8, .ref aOne, .ref aTwo, .ref aBoth, .ref aWord, .int cre, .ref aOpen, .ref aTimes, .ref aFar, .ref aQueue, .long hash]))], [(aText, .inl (cI, 60, .inl fText))], [(aS, .inl (cI, 335, .inl k14))], [(aPast, .inl (cI, 2010, .inl g13))], [(aOne, .inl (cI, 4, .inl k15))], [(aOpen, .inl (cI, 6, .inl k16))], [(aTimes, .inl (cI, 6, .inl k17))]]) rfl ?_
                refine r_bipush (v := 41) C dX11_word_71 (by decide) ?_
                refine r_icmp_eq (tgt := 80) C dX11_word_73 (by decide) (fun c28 => ?_) (fun c28 => ?_)
                · refine r_iconst (v := 0) C dX11_word_80 (by decide) ?_
                  exact K _ (by have q := e_r27.symm; subst q; simp only [if_neg c25, if_pos c28])
                · refine r_iconst (v := 1) C dX11_word_76 (by decide) ?_
                  refine r_goto (tgt := 81) C dX11_word_77 (by decide) ?_
                  exact K _ (by have q := e_r27.symm; subst q; simp only [if_neg c25, if_neg c28])
            intro x29 e_x29
            have hp := hp x29 e_x29
            refine r_istore (L' := [(5, .int x29), (4, .int y20), (3, .int y19), (2, .int y18), (0, .ref o), (1, .int letter)]) C dX11_word_81 (by decide) rfl ?_
            refine r_iload C dX11_word_83 0 rfl ?_
            obtain ⟨hps, hp⟩ := hp
            suffices K : ∀ x44 : Int32, x44 = ((if x29 = 0 then (y20) else (let r32 : Int32 := F_X11_sign len fText y19; let x33 : Int32 := r32 - 48; let r35 : Int32 := F_X11_reason k14 letter x33; let x37 : Int32 := (if r35 = 0 then (1) else (0)); (if x37 = 0 then (x37) else (x37))))) → ∀ x45 : Int32, x45 = ((if x29 = 0 then (y18) else (let r32 : Int32 := F_X11_sign len fText y19; let x33 : Int32 := r32 - 48; let r35 : Int32 := F_X11_reason k14 letter x33; let x37 : Int32 := (if r35 = 0 then (1) else (0)); (if x37 = 0 then (y18) else (let x43 : Int32 := y18 + 1; x43))))) → ∀ g46 : Nat → Int32, g46 = ((if x29 = 0 then (k14) else (let r32 : Int32 := F_X11_sign len fText y19; let x33 : Int32 := r32 - 48; let r35 : Int32 := F_X11_reason k14 letter x33; let x37 : Int32 := (if r35 = 0 then (1) else (0)); (if x37 = 0 then (k14) else (let g41 : Nat → Int32 := (F_X11_folds k14 k15 letter x33).1; g41))))) → ∀ g47 : Nat → Int32, g47 = ((if x29 = 0 then (k15) else (let r32 : Int32 := F_X11_sign len fText y19; let x33 : Int32 := r32 - 48; let r35 : Int32 := F_X11_reason k14 letter x33; let x37 : Int32 := (if r35 = 0 then (1) else (0)); (if x37 = 0 then (k15) else (let g42 : Nat → Int32 := (F_X11_folds k14 k15 letter x33).2; g42))))) → V p l e (rmm 5 108) s m args below meth c 7 D A 0 0 Q [[(o, .inr (9, [.ref aS, .ref aPast, .int x12, .ref aSnap, .int kept, .ref aText, .int len, .int x8, .ref aOne, .ref aTwo, .ref aBoth, .ref aWord, .int cre, .ref aOpen, .ref aTimes, .ref aFar, .ref aQueue, .long hash]))], [(aText, .inl (cI, 60, .inl fText))], [(aS, .inl (cI, 335, .inl g46))], [(aPast, .inl (cI, 2010, .inl g13))], [(aOne, .inl (cI, 4, .inl g47))], [(aOpen, .inl (cI, 6, .inl k16))], [(aTimes, .inl (cI, 6, .inl k17))]] [(5, .int x29), (4, .int x44), (3, .int y19), (2, .int x45), (0, .ref o), (1, .int letter)] 130 [] by
              have hp := hps
              refine r_if_eq (tgt := 130) C dX11_word_85 (by decide) (fun c30 => ?_) (fun c30 => ?_)
              · exact K _ (by simp only [if_pos c30]) _ (by simp only [if_pos c30]) _ (by simp only [if_pos c30]) _ (by simp only [if_pos c30])
              · have hp := hp.2 c30
                refine r_aload_n C dX11_word_88 4 rfl ?_
                refine r_iload_n C dX11_word_89 2 rfl ?_
                obtain ⟨h31, hp⟩ := hp
                refine r_callV (ci := 9) (wc := [[(o, .inr (9, [.ref aS, .ref aPast, .int x12, .ref aSnap, .int kept, .ref aText, .int len, .int x8, .ref aOne, .ref aTwo, .ref aBoth, .ref aWord, .int cre, .ref aOpen, .ref aTimes, .ref aFar, .ref aQueue, .long hash]))], [(aText, .inl (cI, 60, .inl fText))]]) (wr := [[(aS, .inl (cI, 335, .inl k14))], [(aPast, .inl (cI, 2010, .inl g13))], [(aOne, .inl (cI, 4, .inl k15))], [(aOpen, .inl (cI, 6, .inl k16))], [(aTimes, .inl (cI, 6, .inl k17))]]) (st := []) C (m_X11_sign l D cI cL cP cJ o aS aPast aSnap aText aOne aTwo aBoth aWord aOpen aTimes aFar aQueue x12 kept len x8 cre hash fText y19 h31) k_X11_sign t_1095 [0, 1, 2, 3, 4, 5, 6] (show ([0, 1, 2, 3, 4, 5, 6] : List Nat).Perm (List.range 7) by decide) rfl rfl rfl (q0 := 0) rfl rfl rfl (Nat.le_of_ble_eq_true rfl) ⟨Nat.le_of_ble_eq_true rfl, Nat.le_of_ble_eq_true rfl⟩ ⟨Nat.zero_le _, Nat.zero_le _⟩ dX11_word_90 (fun r32 wr32 hw32 => ?_)
                obtain ⟨e_r32, rfl⟩ := hw32
                have hp := hp r32 e_r32
                refine r_ws (I' := [[(o, .inr (9, [.ref aS, .ref aPast, .int x12, .ref aSnap, .int kept, .ref aText, .int len, .int x8, .ref aOne, .ref aTwo, .ref aBoth, .ref aWord, .int cre, .ref aOpen, .ref aTimes, .ref aFar, .ref aQueue, .long hash]))], [(aText, .inl (cI, 60, .inl fText))], [(aS, .inl (cI, 335, .inl k14))], [(aPast, .inl (cI, 2010, .inl g13))], [(aOne, .inl (cI, 4, .inl k15))], [(aOpen, .inl (cI, 6, .inl k16))], [(aTimes, .inl (cI, 6, .inl k17))]]) rfl ?_
                refine r_bipush (v := 48) C dX11_word_93 (by decide) ?_
                refine r_isub C dX11_word_95 rfl ?_
                refine r_top (fun x33 e_x33 => ?_)
                have hp := hp x33 e_x33
                refine r_istore (L' := [(6, .int x33), (5, .int x29), (4, .int y20), (3, .int y19), (2, .int y18), (0, .ref o), (1, .int letter)]) C dX11_word_96 (by decide) rfl ?_
                refine r_aload_n C dX11_word_98 5 rfl ?_
                refine r_iload_n C dX11_word_99 6 rfl ?_
                refine r_iload C dX11_word_100 0 rfl ?_
                obtain ⟨h34, hp⟩ := hp
                refine r_callV (ci := 9) (wc := [[(o, .inr (9, [.ref aS, .ref aPast, .int x12, .ref aSnap, .int kept, .ref aText, .int len, .int x8, .ref aOne, .ref aTwo, .ref aBoth, .ref aWord, .int cre, .ref aOpen, .ref aTimes, .ref aFar, .ref aQueue, .long hash]))], [(aS, .inl (cI, 335, .inl k14))]]) (wr := [[(aText, .inl (cI, 60, .inl fText))], [(aPast, .inl (cI, 2010, .inl g13))], [(aOne, .inl (cI, 4, .inl k15))], [(aOpen, .inl (cI, 6, .inl k16))], [(aTimes, .inl (cI, 6, .inl k17))]]) (st := []) C (m_X11_reason l D cI cL cP cJ o aS aPast aSnap aText aOne aTwo aBoth aWord aOpen aTimes aFar aQueue x12 kept len x8 cre hash k14 letter x33 h34) k_X11_reason t_962 [0, 2, 1, 3, 4, 5, 6] (show ([0, 2, 1, 3, 4, 5, 6] : List Nat).Perm (List.range 7) by decide) rfl rfl rfl (q0 := 0) rfl rfl rfl (Nat.le_of_ble_eq_true rfl) ⟨Nat.le_of_ble_eq_true rfl, Nat.le_of_ble_eq_true rfl⟩ ⟨Nat.zero_le _, Nat.zero_le _⟩ dX11_word_102 (fun r35 wr35 hw35 => ?_)
                obtain ⟨e_r35, rfl⟩ := hw35
                have hp := hp r35 e_r35
                refine r_ws (I' := [[(o, .inr (9, [.ref aS, .ref aPast, .int x12, .ref aSnap, .int kept, .ref aText, .int len, .int x8, .ref aOne, .ref aTwo, .ref aBoth, .ref aWord, .int cre, .ref aOpen, .ref aTimes, .ref aFar, .ref aQueue, .long hash]))], [(aS, .inl (cI, 335, .inl k14))], [(aText, .inl (cI, 60, .inl fText))], [(aPast, .inl (cI, 2010, .inl g13))], [(aOne, .inl (cI, 4, .inl k15))], [(aOpen, .inl (cI, 6, .inl k16))], [(aTimes, .inl (cI, 6, .inl k17))]]) rfl ?_
                suffices K : ∀ x37 : Int32, x37 = ((if r35 = 0 then (1) else (0))) → V p l e (rmm 5 108) s m args below meth c 7 D A 0 0 Q [[(o, .inr (9, [.ref aS, .ref aPast, .int x12, .ref aSnap, .int kept, .ref aText, .int len, .int x8, .ref aOne, .ref aTwo, .ref aBoth, .ref aWord, .int cre, .ref aOpen, .ref aTimes, .ref aFar, .ref aQueue, .long hash]))], [(aS, .inl (cI, 335, .inl k14))], [(aText, .inl (cI, 60, .inl fText))], [(aPast, .inl (cI, 2010, .inl g13))], [(aOne, .inl (cI, 4, .inl k15))], [(aOpen, .inl (cI, 6, .inl k16))], [(aTimes, .inl (cI, 6, .inl k17))]] [(6, .int x33), (5, .int x29), (4, .int y20), (3, .int y19), (2, .int y18), (0, .ref o), (1, .int letter)] 113 [.int x37] by
                  refine r_if_ne (tgt := 112) C dX11_word_105 (by decide) (fun c36 => ?_) (fun c36 => ?_)
                  · refine r_iconst (v := 0) C dX11_word_112 (by decide) ?_
                    exact K _ (by simp only [if_neg c36])
                  · refine r_iconst (v := 1) C dX11_word_108 (by decide) ?_
                    refine r_goto (tgt := 113) C dX11_word_109 (by decide) ?_
                    exact K _ (by simp only [if_pos c36])
                intro x37 e_x37
                have hp := hp x37 e_x37
                refine r_istore (L' := [(4, .int x37), (6, .int x33), (5, .int x29), (3, .int y19), (2, .int y18), (0, .ref o), (1, .int letter)]) C dX11_word_113 (by decide) rfl ?_
                refine r_iload C dX11_word_115 0 rfl ?_
                refine r_if_eq (tgt := 130) C dX11_word_117 (by decide) (fun c38 => ?_) (fun c38 => ?_)
                · refine r_pl (I' := [[(o, .inr (9, [.ref aS, .ref aPast, .int x12, .ref aSnap, .int kept, .ref aText, .int len, .int x8, .ref aOne, .ref aTwo, .ref aBoth, .ref aWord, .int cre, .ref aOpen, .ref aTimes, .ref aFar, .ref aQueue, .long hash]))], [(aText, .inl (cI, 60, .inl fText))], [(aS, .inl (cI, 335, .inl k14))], [(aPast, .inl (cI, 2010, .inl g13))], [(aOne, .inl (cI, 4, .inl k15))], [(aOpen, .inl (cI, 6, .inl k16))], [(aTimes, .inl (cI, 6, .inl k17))]]) [0, 2, 1, 3, 4, 5, 6] (show ([0, 2, 1, 3, 4, 5, 6] : List Nat).Perm (List.range 7) by decide) rfl ?_
                  refine r_L (L' := [(5, .int x29), (4, .int x37), (3, .int y19), (2, .int y18), (0, .ref o), (1, .int letter)]) [2, 0, 3, 4, 5, 6] rfl ?_
                  exact K _ (by have q := e_r32.symm; subst q; have q := e_x33.symm; subst q; have q := e_r35.symm; subst q; have q := e_x37.symm; subst q; simp only [if_neg c30, if_pos c38]) _ (by have q := e_r32.symm; subst q; have q := e_x33.symm; subst q; have q := e_r35.symm; subst q; have q := e_x37.symm; subst q; simp only [if_neg c30, if_pos c38]) _ (by have q := e_r32.symm; subst q; have q := e_x33.symm; subst q; have q := e_r35.symm; subst q; have q := e_x37.symm; subst q; simp only [if_neg c30, if_pos c38]) _ (by have q := e_r32.symm; subst q; have q := e_x33.symm; subst q; have q := e_r35.symm; subst q; have q := e_x37.symm; subst q; simp only [if_neg c30, if_pos c38])
                · have hp := hp.2 c38
                  refine r_aload_n C dX11_word_120 5 rfl ?_
                  refine r_iload_n C dX11_word_121 6 rfl ?_
                  refine r_iload C dX11_word_122 1 rfl ?_
                  have h39 := hp
                  refine r_callV (ci := 9) (wc := [[(o, .inr (9, [.ref aS, .ref aPast, .int x12, .ref aSnap, .int kept, .ref aText, .int len, .int x8, .ref aOne, .ref aTwo, .ref aBoth, .ref aWord, .int cre, .ref aOpen, .ref aTimes, .ref aFar, .ref aQueue, .long hash]))], [(aS, .inl (cI, 335, .inl k14))], [(aOne, .inl (cI, 4, .inl k15))]]) (wr := [[(aText, .inl (cI, 60, .inl fText))], [(aPast, .inl (cI, 2010, .inl g13))], [(aOpen, .inl (cI, 6, .inl k16))], [(aTimes, .inl (cI, 6, .inl k17))]]) (st := []) C (m_X11_folds l D cI cL cP cJ o aS aPast aSnap aText aOne aTwo aBoth aWord aOpen aTimes aFar aQueue x12 kept len x8 cre hash k14 k15 letter x33 h39) k_X11_folds t_982 [0, 1, 4, 2, 3, 5, 6] (show ([0, 1, 4, 2, 3, 5, 6] : List Nat).Perm (List.range 7) by decide) rfl rfl rfl (q0 := 0) rfl rfl rfl (Nat.le_of_ble_eq_true rfl) ⟨Nat.le_of_ble_eq_true rfl, Nat.le_of_ble_eq_true rfl⟩ ⟨Nat.zero_le _, Nat.zero_le _⟩ dX11_word_124 (fun r40 wr40 hw40 => ?_)
                  obtain rfl := hw40
                  obtain ⟨g41, e_g41⟩ : ∃ z : Nat → Int32, z = (F_X11_folds k14 k15 letter x33).1 := ⟨_, rfl⟩
                  obtain ⟨g42, e_g42⟩ : ∃ z : Nat → Int32, z = (F_X11_folds k14 k15 letter x33).2 := ⟨_, rfl⟩
                  refine r_ws (I' := [[(o, .inr (9, [.ref aS, .ref aPast, .int x12, .ref aSnap, .int kept, .ref aText, .int len, .int x8, .ref aOne, .ref aTwo, .ref aBoth, .ref aWord, .int cre, .ref aOpen, .ref aTimes, .ref aFar, .ref aQueue, .long hash]))], [(aS, .inl (cI, 335, .inl g41))], [(aOne, .inl (cI, 4, .inl g42))], [(aText, .inl (cI, 60, .inl fText))], [(aPast, .inl (cI, 2010, .inl g13))], [(aOpen, .inl (cI, 6, .inl k16))], [(aTimes, .inl (cI, 6, .inl k17))]]) (by rw [e_g41, e_g42]; rfl) ?_
                  obtain ⟨x43, e_x43⟩ : ∃ z : Int32, z = y18 + 1 := ⟨_, rfl⟩
                  refine r_iinc (v := x43) (L' := [(2, .int x43), (4, .int x37), (6, .int x33), (5, .int x29), (3, .int y19), (0, .ref o), (1, .int letter)]) C dX11_word_127 4 rfl (by rw [e_x43]; exact ii (by decide)) (by decide) rfl ?_
                  refine r_pl (I' := [[(o, .inr (9, [.ref aS, .ref aPast, .int x12, .ref aSnap, .int kept, .ref aText, .int len, .int x8, .ref aOne, .ref aTwo, .ref aBoth, .ref aWord, .int cre, .ref aOpen, .ref aTimes, .ref aFar, .ref aQueue, .long hash]))], [(aText, .inl (cI, 60, .inl fText))], [(aS, .inl (cI, 335, .inl g41))], [(aPast, .inl (cI, 2010, .inl g13))], [(aOne, .inl (cI, 4, .inl g42))], [(aOpen, .inl (cI, 6, .inl k16))], [(aTimes, .inl (cI, 6, .inl k17))]]) [0, 3, 1, 4, 2, 5, 6] (show ([0, 3, 1, 4, 2, 5, 6] : List Nat).Perm (List.range 7) by decide) rfl ?_
                  refine r_L (L' := [(5, .int x29), (4, .int x37), (3, .int y19), (2, .int x43), (0, .ref o), (1, .int letter)]) [3, 1, 4, 0, 5, 6] rfl ?_
                  exact K _ (by have q := e_r32.symm; subst q; have q := e_x33.symm; subst q; have q := e_r35.symm; subst q; have q := e_x37.symm; subst q; have q := e_g41.symm; subst q; have q := e_g42.symm; subst q; have q := e_x43.symm; subst q; simp only [if_neg c30, if_neg c38]) _ (by have q := e_r32.symm; subst q; have q := e_x33.symm; subst q; have q := e_r35.symm; subst q; have q := e_x37.symm; subst q; have q := e_g41.symm; subst q; have q := e_g42.symm; subst q; have q := e_x43.symm; subst q; simp only [if_neg c30, if_neg c38]) _ (by have q := e_r32.symm; subst q; have q := e_x33.symm; subst q; have q := e_r35.symm; subst q; have q := e_x37.symm; subst q; have q := e_g41.symm; subst q; have q := e_g42.symm; subst q; have q := e_x43.symm; subst q; simp only [if_neg c30, if_neg c38]) _ (by have q := e_r32.symm; subst q; have q := e_x33.symm; subst q; have q := e_r35.symm; subst q; have q := e_x37.symm; subst q; have q := e_g41.symm; subst q; have q := e_g42.symm; subst q; have q := e_x43.symm; subst q; simp only [if_neg c30, if_neg c38])
            intro x44 e_x44 x45 e_x45 g46 e_g46 g47 e_g47
            have hp := hp x44 e_x44
            have hp := hp x45 e_x45
            have hp := hp g46 e_g46
            have hp := hp g47 e_g47
            refine r_aload_n C dX11_word_130 4 rfl ?_
            refine r_iload_n C dX11_word_131 2 rfl ?_
            refine r_aload_n C dX11_word_132 4 rfl ?_
            refine r_iload_n C dX11_word_133 2 rfl ?_
            obtain ⟨h48, hp⟩ := hp
            refine r_callV (ci := 9) (wc := [[(o, .inr (9, [.ref aS, .ref aPast, .int x12, .ref aSnap, .int kept, .ref aText, .int len, .int x8, .ref aOne, .ref aTwo, .ref aBoth, .ref aWord, .int cre, .ref aOpen, .ref aTimes, .ref aFar, .ref aQueue, .long hash]))], [(aText, .inl (cI, 60, .inl fText))]]) (wr := [[(aS, .inl (cI, 335, .inl g46))], [(aPast, .inl (cI, 2010, .inl g13))], [(aOne, .inl (cI, 4, .inl g47))], [(aOpen, .inl (cI, 6, .inl k16))], [(aTimes, .inl (cI, 6, .inl k17))]]) (st := [.int y19, .ref o]) C (m_X11_depth l D cI cL cP cJ o aS aPast aSnap aText aOne aTwo aBoth aWord aOpen aTimes aFar aQueue x12 kept len x8 cre hash fText y19 h48) k_X11_depth t_1103 [0, 1, 2, 3, 4, 5, 6] (show ([0, 1, 2, 3, 4, 5, 6] : List Nat).Perm (List.range 7) by decide) rfl rfl rfl (q0 := 0) rfl rfl rfl (Nat.le_of_ble_eq_true rfl) ⟨Nat.le_of_ble_eq_true rfl, Nat.le_of_ble_eq_true rfl⟩ ⟨Nat.zero_le _, Nat.zero_le _⟩ dX11_word_134 (fun r49 wr49 hw49 => ?_)
            obtain ⟨e_r49, rfl⟩ := hw49
            have hp := hp r49 e_r49
            refine r_ws (I' := [[(o, .inr (9, [.ref aS, .ref aPast, .int x12, .ref aSnap, .int kept, .ref aText, .int len, .int x8, .ref aOne, .ref aTwo, .ref aBoth, .ref aWord, .int cre, .ref aOpen, .ref aTimes, .ref aFar, .ref aQueue, .long hash]))], [(aText, .inl (cI, 60, .inl fText))], [(aS, .inl (cI, 335, .inl g46))], [(aPast, .inl (cI, 2010, .inl g13))], [(aOne, .inl (cI, 4, .inl g47))], [(aOpen, .inl (cI, 6, .inl k16))], [(aTimes, .inl (cI, 6, .inl k17))]]) rfl ?_
            obtain ⟨h50, hp⟩ := hp
            refine r_callV (ci := 9) (wc := [[(o, .inr (9, [.ref aS, .ref aPast, .int x12, .ref aSnap, .int kept, .ref aText, .int len, .int x8, .ref aOne, .ref aTwo, .ref aBoth, .ref aWord, .int cre, .ref aOpen, .ref aTimes, .ref aFar, .ref aQueue, .long hash]))], [(aText, .inl (cI, 60, .inl fText))], [(aOpen, .inl (cI, 6, .inl k16))], [(aTimes, .inl (cI, 6, .inl k17))]]) (wr := [[(aS, .inl (cI, 335, .inl g46))], [(aPast, .inl (cI, 2010, .inl g13))], [(aOne, .inl (cI, 4, .inl g47))]]) (st := []) C (m_X11_goes l D cI cL cP cJ o aS aPast aSnap aText aOne aTwo aBoth aWord aOpen aTimes aFar aQueue x12 kept len x8 cre hash fText k16 k17 y19 r49 h50) k_X11_goes t_1115 [0, 1, 5, 6, 2, 3, 4] (show ([0, 1, 5, 6, 2, 3, 4] : List Nat).Perm (List.range 7) by decide) rfl rfl rfl (q0 := 0) rfl rfl rfl (Nat.le_of_ble_eq_true rfl) ⟨Nat.le_of_ble_eq_true rfl, Nat.le_of_ble_eq_true rfl⟩ ⟨Nat.zero_le _, Nat.zero_le _⟩ dX11_word_137 (fun r51 wr51 hw51 => ?_)
            obtain ⟨e_r51, rfl⟩ := hw51
            have hp := hp r51 e_r51
            obtain ⟨g52, e_g52⟩ : ∃ z : Nat → Int32, z = (F_X11_goes len fText k16 k17 y19 r49).2.1 := ⟨_, rfl⟩
            have hp := hp g52 e_g52
            obtain ⟨g53, e_g53⟩ : ∃ z : Nat → Int32, z = (F_X11_goes len fText k16 k17 y19 r49).2.2 := ⟨_, rfl⟩
            have hp := hp g53 e_g53
            refine r_ws (I' := [[(o, .inr (9, [.ref aS, .ref aPast, .int x12, .ref aSnap, .int kept, .ref aText, .int len, .int x8, .ref aOne, .ref aTwo, .ref aBoth, .ref aWord, .int cre, .ref aOpen, .ref aTimes, .ref aFar, .ref aQueue, .long hash]))], [(aText, .inl (cI, 60, .inl fText))], [(aOpen, .inl (cI, 6, .inl g52))], [(aTimes, .inl (cI, 6, .inl g53))], [(aS, .inl (cI, 335, .inl g46))], [(aPast, .inl (cI, 2010, .inl g13))], [(aOne, .inl (cI, 4, .inl g47))]]) (by rw [e_g52, e_g53]; rfl) ?_
            refine r_istore_n (L' := [(3, .int r51), (5, .int x29), (4, .int x44), (2, .int x45), (0, .ref o), (1, .int letter)]) C dX11_word_140 (by decide) rfl ?_
            refine r_goto (tgt := 43) C dX11_word_141 (by decide) ?_
            refine r_pl (I' := [[(o, .inr (9, [.ref aS, .ref aPast, .int x12, .ref aSnap, .int kept, .ref aText, .int len, .int x8, .ref aOne, .ref aTwo, .ref aBoth, .ref aWord, .int cre, .ref aOpen, .ref aTimes, .ref aFar, .ref aQueue, .long hash]))], [(aS, .inl (cI, 335, .inl g46))], [(aPast, .inl (cI, 2010, .inl g13))], [(aText, .inl (cI, 60, .inl fText))], [(aOne, .inl (cI, 4, .inl g47))], [(aOpen, .inl (cI, 6, .inl g52))], [(aTimes, .inl (cI, 6, .inl g53))]]) [0, 4, 5, 1, 6, 2, 3] (show ([0, 4, 5, 1, 6, 2, 3] : List Nat).Perm (List.range 7) by decide) rfl ?_
            refine r_L (L' := [(4, .int x44), (3, .int r51), (2, .int x45), (0, .ref o), (1, .int letter)]) [2, 0, 3, 4, 5] rfl ?_
            have eF : F_X11_word_L43 len fText letter (nn + 1) k14 k15 k16 k17 y18 y19 y20 = F_X11_word_L43 len fText letter nn g46 g47 g52 g53 x45 r51 x44 := by have q := e_r24.symm; subst q; have q := e_x29.symm; subst q; have q := e_x44.symm; subst q; have q := e_x45.symm; subst q; have q := e_g46.symm; subst q; have q := e_g47.symm; subst q; have q := e_r49.symm; subst q; have q := e_r51.symm; subst q; have q := e_g52.symm; subst q; have q := e_g53.symm; subst q; simp only [F_X11_word_L43, if_neg c21, if_neg c22]
            exact ih g46 g47 g52 g53 x45 r51 x44 hp (fun f54 e_f54 f55 e_f55 f56 e_f56 f57 e_f57 z58 e_z58 z59 e_z59 z60 e_z60 => kk f54 (by rw [eF]; exact e_f54) f55 (by rw [eF]; exact e_f55) f56 (by rw [eF]; exact e_f56) f57 (by rw [eF]; exact e_f57) z58 (by rw [eF]; exact e_z58) z59 (by rw [eF]; exact e_z59) z60 (by rw [eF]; exact e_z60))
    refine hL fuelW fS fOne fOpen fTimes 0 0 1 hpl (fun f54 e_f54 f55 e_f55 f56 e_f56 f57 e_f57 z58 e_z58 z59 e_z59 z60 e_z60 => ?_)
    clear hL hpl
    refine r_aload_n C dX11_word_144 3 rfl ?_
    refine r_iconst (v := 0) C dX11_word_145 (by decide) ?_
    refine r_put (Cn := RX11) (T := TX11) (N := 18) C inT11 0 rfl rfl 6 (by decide) t_899 tyX11 tyX11_ok nmX11 rfl rfl rfl (Nat.le_of_ble_eq_true rfl) (I' := [[(o, .inr (9, [.ref aS, .ref aPast, .int x12, .ref aSnap, .int kept, .ref aText, .int 0, .int x8, .ref aOne, .ref aTwo, .ref aBoth, .ref aWord, .int cre, .ref aOpen, .ref aTimes, .ref aFar, .ref aQueue, .long hash]))], [(aS, .inl (cI, 335, .inl f54))], [(aPast, .inl (cI, 2010, .inl g13))], [(aText, .inl (cI, 60, .inl fText))], [(aOne, .inl (cI, 4, .inl f55))], [(aOpen, .inl (cI, 6, .inl f56))], [(aTimes, .inl (cI, 6, .inl f57))]]) rfl dX11_word_146 ?_
    refine r_iload_n C dX11_word_149 2 rfl ?_
    have eF : F_X11_word known len fS fPast fText fOne fOpen fTimes letter = (z58, x12, 0, x8, f54, g13, f55, f56, f57) := by have q := e_r1.symm; subst q; have q := e_x6.symm; subst q; have q := e_r7.symm; subst q; have q := e_x8.symm; subst q; have q := e_x12.symm; subst q; have q := e_g13.symm; subst q; have q := e_f54.symm; subst q; have q := e_f55.symm; subst q; have q := e_f56.symm; subst q; have q := e_f57.symm; subst q; have q := e_z58.symm; subst q; have q := e_z59.symm; subst q; have q := e_z60.symm; subst q; simp only [F_X11_word, if_pos c9]
    exact r_iret (r := z58) C hA hr hlo dX11_word_150 [[(o, .inr (9, [.ref aS, .ref aPast, .int x12, .ref aSnap, .int kept, .ref aText, .int 0, .int x8, .ref aOne, .ref aTwo, .ref aBoth, .ref aWord, .int cre, .ref aOpen, .ref aTimes, .ref aFar, .ref aQueue, .long hash]))], [(aS, .inl (cI, 335, .inl f54))], [(aPast, .inl (cI, 2010, .inl g13))], [(aText, .inl (cI, 60, .inl fText))], [(aOne, .inl (cI, 4, .inl f55))], [(aOpen, .inl (cI, 6, .inl f56))], [(aTimes, .inl (cI, 6, .inl f57))]] ⟨by simp only [eF], by simp only [eF]⟩ rfl hQ
  · refine r_iconst (v := 0) C dX11_word_30 (by decide) ?_
    refine r_pl (I' := [[(o, .inr (9, [.ref aS, .ref aPast, .int known, .ref aSnap, .int kept, .ref aText, .int len, .int x8, .ref aOne, .ref aTwo, .ref aBoth, .ref aWord, .int cre, .ref aOpen, .ref aTimes, .ref aFar, .ref aQueue, .long hash]))], [(aS, .inl (cI, 335, .inl fS))], [(aPast, .inl (cI, 2010, .inl fPast))], [(aText, .inl (cI, 60, .inl fText))], [(aOne, .inl (cI, 4, .inl fOne))], [(aOpen, .inl (cI, 6, .inl fOpen))], [(aTimes, .inl (cI, 6, .inl fTimes))]]) [0, 2, 3, 1, 4, 5, 6] (show ([0, 2, 3, 1, 4, 5, 6] : List Nat).Perm (List.range 7) by decide) rfl ?_
    have eF : F_X11_word known len fS fPast fText fOne fOpen fTimes letter = (0, known, len, x8, fS, fPast, fOne, fOpen, fTimes) := by have q := e_r1.symm; subst q; have q := e_x6.symm; subst q; have q := e_r7.symm; subst q; have q := e_x8.symm; subst q; simp only [F_X11_word, if_neg c9]
    exact r_iret (r := 0) C hA hr hlo dX11_word_31 [[(o, .inr (9, [.ref aS, .ref aPast, .int known, .ref aSnap, .int kept, .ref aText, .int len, .int x8, .ref aOne, .ref aTwo, .ref aBoth, .ref aWord, .int cre, .ref aOpen, .ref aTimes, .ref aFar, .ref aQueue, .long hash]))], [(aS, .inl (cI, 335, .inl fS))], [(aPast, .inl (cI, 2010, .inl fPast))], [(aText, .inl (cI, 60, .inl fText))], [(aOne, .inl (cI, 4, .inl fOne))], [(aOpen, .inl (cI, 6, .inl fOpen))], [(aTimes, .inl (cI, 6, .inl fTimes))]] ⟨by simp only [eF], by simp only [eF]⟩ rfl hQ
theorem k_X11_creases : kV yX11_creases cX11_creases 3 (some .int) 0 := ⟨t_1120, t_1121, t_67, t_1122, by decide +kernel, by decide +kernel, by decide +kernel⟩
def F_X11_creases_L32 (len : Int32) (fText : Nat → Int32) : Nat → (Nat → Int32) → Int32 → Int32 → (Nat → Int32) × Int32 × Int32
  | 0, k9, y10, y11 => (k9, y10, y11)
  | nn + 1, k9, y10, y11 => (if len ≤ y11 then ((k9, y10, y11)) else (let r14 : Int32 := F_X11_sign len fText y11; let x37 : Int32 := (if r14 = 40 then (let x36 : Int32 := y11 + 1; x36) else (let r17 : Int32 := F_X11_sign len fText y11; (if r17 = 41 then (let x32 : Int32 := y11 + 2; x32) else (let x23 : Int32 := y11 + 1; x23)))); let x38 : Int32 := (if r14 = 40 then (let x33 : Int32 := y10 + 1; x33) else (let r17 : Int32 := F_X11_sign len fText y11; (if r17 = 41 then (let x24 : Int32 := y10 + (-1); x24) else (y10)))); let g39 : Nat → Int32 := (if r14 = 40 then (let x33 : Int32 := y10 + 1; let g35 : Nat → Int32 := upd k9 (x33.toNatClampNeg) 0; g35) else (let r17 : Int32 := F_X11_sign len fText y11; (if r17 = 41 then (let x24 : Int32 := y10 + (-1); let r28 : Int32 := F_X11_sign len fText (y11 + 1); let x29 : Int32 := (k9 x24.toNatClampNeg) + ((k9 (x24 + 1).toNatClampNeg) * (r28 - 48)); let g31 : Nat → Int32 := upd k9 (x24.toNatClampNeg) x29; g31) else (let x20 : Int32 := (k9 y10.toNatClampNeg) + 1; let g22 : Nat → Int32 := upd k9 (y10.toNatClampNeg) x20; g22)))); let x43 : Int32 := (if (g39 x38.toNatClampNeg) ≤ 1000 then (g39 x38.toNatClampNeg) else (1000)); let g45 : Nat → Int32 := upd g39 (x38.toNatClampNeg) x43; F_X11_creases_L32 len fText nn g45 x38 x37))
def P_X11_creases_L32 (len : Int32) (fText : Nat → Int32) : Nat → (Nat → Int32) → Int32 → Int32 → Prop
  | 0, _, _, _ => False
  | nn + 1, k9, y10, y11 => ((len ≤ y11 → True) ∧ (¬ len ≤ y11 → ((P_X11_sign len y11) ∧ (∀ r14 : Int32, r14 = F_X11_sign len fText y11 → (((r14 = 40 → (∀ x33 : Int32, x33 = y10 + 1 → (vp_in x33 6))) ∧ (¬ r14 = 40 → ((P_X11_sign len y11) ∧ (∀ r17 : Int32, r17 = F_X11_sign len fText y11 → ((r17 = 41 → (∀ x24 : Int32, x24 = y10 + (-1) → ((vp_in x24 6) ∧ ((vp_in (x24 + 1) 6) ∧ ((P_X11_sign len (y11 + 1)) ∧ (∀ r28 : Int32, r28 = F_X11_sign len fText (y11 + 1) → (∀ x29 : Int32, x29 = (k9 x24.toNatClampNeg) + ((k9 (x24 + 1).toNatClampNeg) * (r28 - 48)) → (vp_in x24 6)))))))) ∧ (¬ r17 = 41 → ((vp_in y10 6) ∧ (∀ x20 : Int32, x20 = (k9 y10.toNatClampNeg) + 1 → (vp_in y10 6))))))))) ∧ (∀ x37 : Int32, x37 = ((if r14 = 40 then (let x36 : Int32 := y11 + 1; x36) else (let r17 : Int32 := F_X11_sign len fText y11; (if r17 = 41 then (let x32 : Int32 := y11 + 2; x32) else (let x23 : Int32 := y11 + 1; x23))))) → (∀ x38 : Int32, x38 = ((if r14 = 40 then (let x33 : Int32 := y10 + 1; x33) else (let r17 : Int32 := F_X11_sign len fText y11; (if r17 = 41 then (let x24 : Int32 := y10 + (-1); x24) else (y10))))) → (∀ g39 : Nat → Int32, g39 = ((if r14 = 40 then (let x33 : Int32 := y10 + 1; let g35 : Nat → Int32 := upd k9 (x33.toNatClampNeg) 0; g35) else (let r17 : Int32 := F_X11_sign len fText y11; (if r17 = 41 then (let x24 : Int32 := y10 + (-1); let r28 : Int32 := F_X11_sign len fText (y11 + 1); let x29 : Int32 := (k9 x24.toNatClampNeg) + ((k9 (x24 + 1).toNatClampNeg) * (r28 - 48)); let g31 : Nat → Int32 := upd k9 (x24.toNatClampNeg) x29; g31) else (let x20 : Int32 := (k9 y10.toNatClampNeg) + 1; let g22 : Nat → Int32 := upd k9 (y10.toNatClampNeg) x20; g22))))) → ((vp_in x38 6) ∧ ((((g39 x38.toNatClampNeg) ≤ 1000 → (vp_in x38 6)) ∧ (¬ (g39 x38.toNatClampNeg) ≤ 1000 → True)) ∧ (∀ x43 : Int32, x43 = ((if (g39 x38.toNatClampNeg) ≤ 1000 then (g39 x38.toNatClampNeg) else (1000))) → ((vp_in x38 6) ∧ (∀ g45 : Nat → Int32, g45 = upd g39 (x38.toNatClampNeg) x43 → (P_X11_creases_L32 len fText nn g45 x38 x37))))))))))))))
set_option maxRecDepth 20000 in
def F_X11_creases (len : Int32) (fText : Nat → Int32) (fTimes : Nat → Int32) : Int32 × Int32 × (Nat → Int32) := let r2 : Int32 := F_X11_isComplete len fText; let x4 : Int32 := (if r2 = 0 then (1) else (0)); let r5 : Int32 := (F_X11_throwsAt x4).1; let x6 : Int32 := (F_X11_throwsAt x4).2; (if r5 = 0 then (let g8 : Nat → Int32 := upd fTimes 0 0; let f46 : Nat → Int32 := (F_X11_creases_L32 len fText 62 g8 0 0).1; (f46 0, x6, f46)) else ((0, x6, fTimes)))
set_option maxRecDepth 20000 in
def P_X11_creases (len : Int32) (fText : Nat → Int32) (fTimes : Nat → Int32) : Prop := ((P_X11_isComplete len fText) ∧ (∀ r2 : Int32, r2 = F_X11_isComplete len fText → (∀ x4 : Int32, x4 = ((if r2 = 0 then (1) else (0))) → (∀ r5 : Int32, r5 = (F_X11_throwsAt x4).1 → (∀ x6 : Int32, x6 = (F_X11_throwsAt x4).2 → ((r5 = 0 → (∀ g8 : Nat → Int32, g8 = upd fTimes 0 0 → (P_X11_creases_L32 len fText 62 g8 0 0))) ∧ (¬ r5 = 0 → True)))))))
set_option maxRecDepth 20000 in
set_option maxHeartbeats 8000000 in
theorem m_X11_creases (l : Launch) (D : va_G) (cI cL cP cJ : ClassId) (o : Nat) (aS : Nat) (aPast : Nat) (aSnap : Nat) (aText : Nat) (aOne : Nat) (aTwo : Nat) (aBoth : Nat) (aWord : Nat) (aOpen : Nat) (aTimes : Nat) (aFar : Nat) (aQueue : Nat) (known : Int32) (kept : Int32) (len : Int32) (thr : Int32) (cre : Int32) (hash : Int64) (fText : Nat → Int32) (fTimes : Nat → Int32) (hp : P_X11_creases len fText fTimes) : M vI l yX11_creases cX11_creases 3 (some .int) 5 108 D (tyF cI cL cP cJ) [.ref o] [[(o, .inr (9, [.ref aS, .ref aPast, .int known, .ref aSnap, .int kept, .ref aText, .int len, .int thr, .ref aOne, .ref aTwo, .ref aBoth, .ref aWord, .int cre, .ref aOpen, .ref aTimes, .ref aFar, .ref aQueue, .long hash]))], [(aText, .inl (cI, 60, .inl fText))], [(aTimes, .inl (cI, 6, .inl fTimes))]] (fun (r : Int32) (w1 : List va_W) => r = (F_X11_creases len fText fTimes).1 ∧ w1 = [[(o, .inr (9, [.ref aS, .ref aPast, .int known, .ref aSnap, .int kept, .ref aText, .int len, .int ((F_X11_creases len fText fTimes).2.1), .ref aOne, .ref aTwo, .ref aBoth, .ref aWord, .int cre, .ref aOpen, .ref aTimes, .ref aFar, .ref aQueue, .long hash]))], [(aText, .inl (cI, 60, .inl fText))], [(aTimes, .inl (cI, 6, .inl ((F_X11_creases len fText fTimes).2.2)))]]) := by
  unfold P_X11_creases at hp
  refine m_start (by decide +kernel) (Nat.le_of_ble_eq_true rfl) (fun p e s m args below meth c A Q hA hQ C hr hlo => ?_)
  refine r_Le (L' := [(0, .ref o)]) rfl ?_
  refine r_aload_n C dX11_creases_0 0 rfl ?_
  refine r_aload_n C dX11_creases_1 0 rfl ?_
  obtain ⟨h1, hp⟩ := hp
  refine r_callV (ci := 9) (wc := [[(o, .inr (9, [.ref aS, .ref aPast, .int known, .ref aSnap, .int kept, .ref aText, .int len, .int thr, .ref aOne, .ref aTwo, .ref aBoth, .ref aWord, .int cre, .ref aOpen, .ref aTimes, .ref aFar, .ref aQueue, .long hash]))], [(aText, .inl (cI, 60, .inl fText))]]) (wr := [[(aTimes, .inl (cI, 6, .inl fTimes))]]) (st := [.ref o]) C (m_X11_isComplete l D cI cL cP cJ o aS aPast aSnap aText aOne aTwo aBoth aWord aOpen aTimes aFar aQueue known kept len thr cre hash fText h1) k_X11_isComplete t_1111 [0, 1, 2] (show ([0, 1, 2] : List Nat).Perm (List.range 3) by decide) rfl rfl rfl (q0 := 0) rfl rfl rfl (Nat.le_of_ble_eq_true rfl) ⟨Nat.le_of_ble_eq_true rfl, Nat.le_of_ble_eq_true rfl⟩ ⟨Nat.zero_le _, Nat.zero_le _⟩ dX11_creases_2 (fun r2 wr2 hw2 => ?_)
  obtain ⟨e_r2, rfl⟩ := hw2
  have hp := hp r2 e_r2
  refine r_ws (I' := [[(o, .inr (9, [.ref aS, .ref aPast, .int known, .ref aSnap, .int kept, .ref aText, .int len, .int thr, .ref aOne, .ref aTwo, .ref aBoth, .ref aWord, .int cre, .ref aOpen, .ref aTimes, .ref aFar, .ref aQueue, .long hash]))], [(aText, .inl (cI, 60, .inl fText))], [(aTimes, .inl (cI, 6, .inl fTimes))]]) rfl ?_
  suffices K : ∀ x4 : Int32, x4 = ((if r2 = 0 then (1) else (0))) → V p l e (rmm 5 108) s m args below meth c 3 D A 0 0 Q [[(o, .inr (9, [.ref aS, .ref aPast, .int known, .ref aSnap, .int kept, .ref aText, .int len, .int thr, .ref aOne, .ref aTwo, .ref aBoth, .ref aWord, .int cre, .ref aOpen, .ref aTimes, .ref aFar, .ref aQueue, .long hash]))], [(aText, .inl (cI, 60, .inl fText))], [(aTimes, .inl (cI, 6, .inl fTimes))]] [(0, .ref o)] 13 [.int x4, .ref o] by
    refine r_if_eq (tgt := 12) C dX11_creases_5 (by decide) (fun c3 => ?_) (fun c3 => ?_)
    · refine r_iconst (v := 1) C dX11_creases_12 (by decide) ?_
      exact K _ (by simp only [if_pos c3])
    · refine r_iconst (v := 0) C dX11_creases_8 (by decide) ?_
      refine r_goto (tgt := 13) C dX11_creases_9 (by decide) ?_
      exact K _ (by simp only [if_neg c3])
  intro x4 e_x4
  have hp := hp x4 e_x4
  refine r_callV (ci := 9) (wc := [[(o, .inr (9, [.ref aS, .ref aPast, .int known, .ref aSnap, .int kept, .ref aText, .int len, .int thr, .ref aOne, .ref aTwo, .ref aBoth, .ref aWord, .int cre, .ref aOpen, .ref aTimes, .ref aFar, .ref aQueue, .long hash]))]]) (wr := [[(aText, .inl (cI, 60, .inl fText))], [(aTimes, .inl (cI, 6, .inl fTimes))]]) (st := []) C (m_X11_throwsAt l D cI cL cP cJ o aS aPast aSnap aText aOne aTwo aBoth aWord aOpen aTimes aFar aQueue known kept len thr cre hash x4) k_X11_throwsAt t_974 [0, 1, 2] (show ([0, 1, 2] : List Nat).Perm (List.range 3) by decide) rfl rfl rfl (q0 := 0) rfl rfl rfl (Nat.le_of_ble_eq_true rfl) ⟨Nat.le_of_ble_eq_true rfl, Nat.le_of_ble_eq_true rfl⟩ ⟨Nat.zero_le _, Nat.zero_le _⟩ dX11_creases_13 (fun r5 wr5 hw5 => ?_)
  obtain ⟨e_r5, rfl⟩ := hw5
  have hp := hp r5 e_r5
  obtain ⟨x6, e_x6⟩ : ∃ z : Int32, z = (F_X11_throwsAt x4).2 := ⟨_, rfl⟩
  have hp := hp x6 e_x6
  refine r_ws (I' := [[(o, .inr (9, [.ref aS, .ref aPast, .int known, .ref aSnap, .int kept, .ref aText, .int len, .int x6, .ref aOne, .ref aTwo, .ref aBoth, .ref aWord, .int cre, .ref aOpen, .ref aTimes, .ref aFar, .ref aQueue, .long hash]))], [(aText, .inl (cI, 60, .inl fText))], [(aTimes, .inl (cI, 6, .inl fTimes))]]) (by rw [e_x6]; rfl) ?_
  refine r_if_eq (tgt := 21) C dX11_creases_16 (by decide) (fun c7 => ?_) (fun c7 => ?_)
  · have hp := hp.1 c7
    refine r_iconst (v := 0) C dX11_creases_21 (by decide) ?_
    refine r_istore_n (L' := [(1, .int 0), (0, .ref o)]) C dX11_creases_22 (by decide) rfl ?_
    refine r_aload_n C dX11_creases_23 1 rfl ?_
    refine r_get (Cn := RX11) (T := TX11) (N := 18) C inT11 0 rfl rfl 14 (by decide) t_907 rfl dX11_creases_24 ?_
    refine r_iconst (v := 0) C dX11_creases_27 (by decide) ?_
    refine r_iconst (v := 0) C dX11_creases_28 (by decide) ?_
    obtain ⟨g8, e_g8⟩ : ∃ z : Nat → Int32, z = upd fTimes 0 0 := ⟨_, rfl⟩
    have hp := hp g8 e_g8
    refine r_iast C 2 0 rfl rfl (vp_in_nI (n := 0) (N := 6) (by decide) (by decide)) (I' := [[(o, .inr (9, [.ref aS, .ref aPast, .int known, .ref aSnap, .int kept, .ref aText, .int len, .int x6, .ref aOne, .ref aTwo, .ref aBoth, .ref aWord, .int cre, .ref aOpen, .ref aTimes, .ref aFar, .ref aQueue, .long hash]))], [(aText, .inl (cI, 60, .inl fText))], [(aTimes, .inl (cI, 6, .inl g8))]]) (by rw [e_g8]; rfl) dX11_creases_29 ?_
    refine r_iconst (v := 0) C dX11_creases_30 (by decide) ?_
    refine r_istore_n (L' := [(2, .int 0), (1, .int 0), (0, .ref o)]) C dX11_creases_31 (by decide) rfl ?_
    have hpl := hp
    have hL : ∀ (nn : Nat) (k9 : Nat → Int32) (y10 : Int32) (y11 : Int32), P_X11_creases_L32 len fText nn k9 y10 y11 → (∀ f46 : Nat → Int32, f46 = (F_X11_creases_L32 len fText nn k9 y10 y11).1 → ∀ z47 : Int32, z47 = (F_X11_creases_L32 len fText nn k9 y10 y11).2.1 → ∀ z48 : Int32, z48 = (F_X11_creases_L32 len fText nn k9 y10 y11).2.2 → V p l e (rmm 5 108) s m args below meth c 3 D A 0 0 Q [[(o, .inr (9, [.ref aS, .ref aPast, .int known, .ref aSnap, .int kept, .ref aText, .int len, .int x6, .ref aOne, .ref aTwo, .ref aBoth, .ref aWord, .int cre, .ref aOpen, .ref aTimes, .ref aFar, .ref aQueue, .long hash]))], [(aText, .inl (cI, 60, .inl fText))], [(aTimes, .inl (cI, 6, .inl f46))]] [(2, .int z48), (1, .int z47), (0, .ref o)] 159 []) → V p l e (rmm 5 108) s m args below meth c 3 D A 0 0 Q [[(o, .inr (9, [.ref aS, .ref aPast, .int known, .ref aSnap, .int kept, .ref aText, .int len, .int x6, .ref aOne, .ref aTwo, .ref aBoth, .ref aWord, .int cre, .ref aOpen, .ref aTimes, .ref aFar, .ref aQueue, .long hash]))], [(aText, .inl (cI, 60, .inl fText))], [(aTimes, .inl (cI, 6, .inl k9))]] [(2, .int y11), (1, .int y10), (0, .ref o)] 32 [] := by
      clear hpl
      intro nn
      induction nn with
      | zero => intro k9 y10 y11 hp kk; rw [P_X11_creases_L32] at hp; exact hp.elim
      | succ nn ih =>
        intro k9 y10 y11 hp kk
        rw [P_X11_creases_L32] at hp
        refine r_iload_n C dX11_creases_32 0 rfl ?_
        refine r_aload_n C dX11_creases_33 2 rfl ?_
        refine r_get (Cn := RX11) (T := TX11) (N := 18) C inT11 0 rfl rfl 6 (by decide) t_899 rfl dX11_creases_34 ?_
        refine r_icmp_ge (tgt := 159) C dX11_creases_37 (by decide) (fun c12 => ?_) (fun c12 => ?_)
        · have eF : F_X11_creases_L32 len fText (nn + 1) k9 y10 y11 = (k9, y10, y11) := by simp only [F_X11_creases_L32, if_pos c12]
          exact kk _ (by rw [eF]) _ (by rw [eF]) _ (by rw [eF])
        · have hp := hp.2 c12
          refine r_aload_n C dX11_creases_40 2 rfl ?_
          refine r_iload_n C dX11_creases_41 0 rfl ?_
          obtain ⟨h13, hp⟩ := hp
          refine r_callV (ci := 9) (wc := [[(o, .inr (9, [.ref aS, .ref aPast, .int known, .ref aSnap, .int kept, .ref aText, .int len, .int x6, .ref aOne, .ref aTwo, .ref aBoth, .ref aWord, .int cre, .ref aOpen, .ref aTimes, .ref aFar, .ref aQueue, .long hash]))], [(aText, .inl (cI, 60, .inl fText))]]) (wr := [[(aTimes, .inl (cI, 6, .inl k9))]]) (st := []) C (m_X11_sign l D cI cL cP cJ o aS aPast aSnap aText aOne aTwo aBoth aWord aOpen aTimes aFar aQueue known kept len x6 cre hash fText y11 h13) k_X11_sign t_1095 [0, 1, 2] (show ([0, 1, 2] : List Nat).Perm (List.range 3) by decide) rfl rfl rfl (q0 := 0) rfl rfl rfl (Nat.le_of_ble_eq_true rfl) ⟨Nat.le_of_ble_eq_true rfl, Nat.le_of_ble_eq_true rfl⟩ ⟨Nat.zero_le _, Nat.zero_le _⟩ dX11_creases_42 (fun r14 wr14 hw14 => ?_)
          obtain ⟨e_r14, rfl⟩ := hw14
          have hp := hp r14 e_r14
          refine r_ws (I' := [[(o, .inr (9, [.ref aS, .ref aPast, .int known, .ref aSnap, .int kept, .ref aText, .int len, .int x6, .ref aOne, .ref aTwo, .ref aBoth, .ref aWord, .int cre, .ref aOpen, .ref aTimes, .ref aFar, .ref aQueue, .long hash]))], [(aText, .inl (cI, 60, .inl fText))], [(aTimes, .inl (cI, 6, .inl k9))]]) rfl ?_
          refine r_bipush (v := 40) C dX11_creases_45 (by decide) ?_
          obtain ⟨hps, hp⟩ := hp
          suffices K : ∀ x37 : Int32, x37 = ((if r14 = 40 then (let x36 : Int32 := y11 + 1; x36) else (let r17 : Int32 := F_X11_sign len fText y11; (if r17 = 41 then (let x32 : Int32 := y11 + 2; x32) else (let x23 : Int32 := y11 + 1; x23))))) → ∀ x38 : Int32, x38 = ((if r14 = 40 then (let x33 : Int32 := y10 + 1; x33) else (let r17 : Int32 := F_X11_sign len fText y11; (if r17 = 41 then (let x24 : Int32 := y10 + (-1); x24) else (y10))))) → ∀ g39 : Nat → Int32, g39 = ((if r14 = 40 then (let x33 : Int32 := y10 + 1; let g35 : Nat → Int32 := upd k9 (x33.toNatClampNeg) 0; g35) else (let r17 : Int32 := F_X11_sign len fText y11; (if r17 = 41 then (let x24 : Int32 := y10 + (-1); let r28 : Int32 := F_X11_sign len fText (y11 + 1); let x29 : Int32 := (k9 x24.toNatClampNeg) + ((k9 (x24 + 1).toNatClampNeg) * (r28 - 48)); let g31 : Nat → Int32 := upd k9 (x24.toNatClampNeg) x29; g31) else (let x20 : Int32 := (k9 y10.toNatClampNeg) + 1; let g22 : Nat → Int32 := upd k9 (y10.toNatClampNeg) x20; g22))))) → V p l e (rmm 5 108) s m args below meth c 3 D A 0 0 Q [[(o, .inr (9, [.ref aS, .ref aPast, .int known, .ref aSnap, .int kept, .ref aText, .int len, .int x6, .ref aOne, .ref aTwo, .ref aBoth, .ref aWord, .int cre, .ref aOpen, .ref aTimes, .ref aFar, .ref aQueue, .long hash]))], [(aText, .inl (cI, 60, .inl fText))], [(aTimes, .inl (cI, 6, .inl g39))]] [(2, .int x37), (1, .int x38), (0, .ref o)] 126 [] by
            have hp := hps
            refine r_icmp_ne (tgt := 66) C dX11_creases_47 (by decide) (fun c15 => ?_) (fun c15 => ?_)
            · have hp := hp.2 c15
              refine r_aload_n C dX11_creases_66 2 rfl ?_
              refine r_iload_n C dX11_creases_67 0 rfl ?_
              obtain ⟨h16, hp⟩ := hp
              refine r_callV (ci := 9) (wc := [[(o, .inr (9, [.ref aS, .ref aPast, .int known, .ref aSnap, .int kept, .ref aText, .int len, .int x6, .ref aOne, .ref aTwo, .ref aBoth, .ref aWord, .int cre, .ref aOpen, .ref aTimes, .ref aFar, .ref aQueue, .long hash]))], [(aText, .inl (cI, 60, .inl fText))]]) (wr := [[(aTimes, .inl (cI, 6, .inl k9))]]) (st := []) C (m_X11_sign l D cI cL cP cJ o aS aPast aSnap aText aOne aTwo aBoth aWord aOpen aTimes aFar aQueue known kept len x6 cre hash fText y11 h16) k_X11_sign t_1095 [0, 1, 2] (show ([0, 1, 2] : List Nat).Perm (List.range 3) by decide) rfl rfl rfl (q0 := 0) rfl rfl rfl (Nat.le_of_ble_eq_true rfl) ⟨Nat.le_of_ble_eq_true rfl, Nat.le_of_ble_eq_true rfl⟩ ⟨Nat.zero_le _, Nat.zero_le _⟩ dX11_creases_68 (fun r17 wr17 hw17 => ?_)
              obtain ⟨e_r17, rfl⟩ := hw17
              have hp := hp r17 e_r17
              refine r_ws (I' := [[(o, .inr (9, [.ref aS, .ref aPast, .int known, .ref aSnap, .int kept, .ref aText, .int len, .int x6, .ref aOne, .ref aTwo, .ref aBoth, .ref aWord, .int cre, .ref aOpen, .ref aTimes, .ref aFar, .ref aQueue, .long hash]))], [(aText, .inl (cI, 60, .inl fText))], [(aTimes, .inl (cI, 6, .inl k9))]]) rfl ?_
              refine r_bipush (v := 41) C dX11_creases_71 (by decide) ?_
              refine r_icmp_ne (tgt := 113) C dX11_creases_73 (by decide) (fun c18 => ?_) (fun c18 => ?_)
              · have hp := hp.2 c18
                refine r_aload_n C dX11_creases_113 2 rfl ?_
                refine r_get (Cn := RX11) (T := TX11) (N := 18) C inT11 0 rfl rfl 14 (by decide) t_907 rfl dX11_creases_114 ?_
                refine r_iload_n C dX11_creases_117 1 rfl ?_
                refine r_dup2_11 C dX11_creases_118 rfl rfl ?_
                obtain ⟨h19, hp⟩ := hp
                refine r_iald (z := k9 y10.toNatClampNeg) C 2 0 rfl rfl h19 dX11_creases_119 rfl ?_
                refine r_iconst (v := 1) C dX11_creases_120 (by decide) ?_
                refine r_iadd C dX11_creases_121 rfl ?_
                refine r_top (fun x20 e_x20 => ?_)
                have hp := hp x20 e_x20
                have h21 := hp
                obtain ⟨g22, e_g22⟩ : ∃ z : Nat → Int32, z = upd k9 (y10.toNatClampNeg) x20 := ⟨_, rfl⟩
                refine r_iast C 2 0 rfl rfl h21 (I' := [[(o, .inr (9, [.ref aS, .ref aPast, .int known, .ref aSnap, .int kept, .ref aText, .int len, .int x6, .ref aOne, .ref aTwo, .ref aBoth, .ref aWord, .int cre, .ref aOpen, .ref aTimes, .ref aFar, .ref aQueue, .long hash]))], [(aText, .inl (cI, 60, .inl fText))], [(aTimes, .inl (cI, 6, .inl g22))]]) (by rw [e_g22]; rfl) dX11_creases_122 ?_
                obtain ⟨x23, e_x23⟩ : ∃ z : Int32, z = y11 + 1 := ⟨_, rfl⟩
                refine r_iinc (v := x23) (L' := [(2, .int x23), (1, .int y10), (0, .ref o)]) C dX11_creases_123 0 rfl (by rw [e_x23]; exact ii (by decide)) (by decide) rfl ?_
                exact K _ (by have q := e_r17.symm; subst q; have q := e_x20.symm; subst q; have q := e_g22.symm; subst q; have q := e_x23.symm; subst q; simp only [if_neg c15, if_neg c18]) _ (by have q := e_r17.symm; subst q; have q := e_x20.symm; subst q; have q := e_g22.symm; subst q; have q := e_x23.symm; subst q; simp only [if_neg c15, if_neg c18]) _ (by have q := e_r17.symm; subst q; have q := e_x20.symm; subst q; have q := e_g22.symm; subst q; have q := e_x23.symm; subst q; simp only [if_neg c15, if_neg c18])
              · have hp := hp.1 c18
                obtain ⟨x24, e_x24⟩ : ∃ z : Int32, z = y10 + (-1) := ⟨_, rfl⟩
                have hp := hp x24 e_x24
                refine r_iinc (v := x24) (L' := [(1, .int x24), (2, .int y11), (0, .ref o)]) C dX11_creases_76 1 rfl (by rw [e_x24]; exact ii (by decide)) (by decide) rfl ?_
                refine r_aload_n C dX11_creases_79 2 rfl ?_
                refine r_get (Cn := RX11) (T := TX11) (N := 18) C inT11 0 rfl rfl 14 (by decide) t_907 rfl dX11_creases_80 ?_
                refine r_iload_n C dX11_creases_83 0 rfl ?_
                refine r_dup2_11 C dX11_creases_84 rfl rfl ?_
                obtain ⟨h25, hp⟩ := hp
                refine r_iald (z := k9 x24.toNatClampNeg) C 2 0 rfl rfl h25 dX11_creases_85 rfl ?_
                refine r_aload_n C dX11_creases_86 2 rfl ?_
                refine r_get (Cn := RX11) (T := TX11) (N := 18) C inT11 0 rfl rfl 14 (by decide) t_907 rfl dX11_creases_87 ?_
                refine r_iload_n C dX11_creases_90 0 rfl ?_
                refine r_iconst (v := 1) C dX11_creases_91 (by decide) ?_
                refine r_iadd C dX11_creases_92 rfl ?_
                obtain ⟨h26, hp⟩ := hp
                refine r_iald (z := k9 (x24 + 1).toNatClampNeg) C 2 0 rfl rfl h26 dX11_creases_93 rfl ?_
                refine r_aload_n C dX11_creases_94 2 rfl ?_
                refine r_iload_n C dX11_creases_95 1 rfl ?_
                refine r_iconst (v := 1) C dX11_creases_96 (by decide) ?_
                refine r_iadd C dX11_creases_97 rfl ?_
                obtain ⟨h27, hp⟩ := hp
                refine r_callV (ci := 9) (wc := [[(o, .inr (9, [.ref aS, .ref aPast, .int known, .ref aSnap, .int kept, .ref aText, .int len, .int x6, .ref aOne, .ref aTwo, .ref aBoth, .ref aWord, .int cre, .ref aOpen, .ref aTimes, .ref aFar, .ref aQueue, .long hash]))], [(aText, .inl (cI, 60, .inl fText))]]) (wr := [[(aTimes, .inl (cI, 6, .inl k9))]]) (st := [.int (k9 (x24 + 1).toNatClampNeg), .int (k9 x24.toNatClampNeg), .int x24, .ref aTimes]) C (m_X11_sign l D cI cL cP cJ o aS aPast aSnap aText aOne aTwo aBoth aWord aOpen aTimes aFar aQueue known kept len x6 cre hash fText (y11 + 1) h27) k_X11_sign t_1095 [0, 1, 2] (show ([0, 1, 2] : List Nat).Perm (List.range 3) by decide) rfl rfl rfl (q0 := 0) rfl rfl rfl (Nat.le_of_ble_eq_true rfl) ⟨Nat.le_of_ble_eq_true rfl, Nat.le_of_ble_eq_true rfl⟩ ⟨Nat.zero_le _, Nat.zero_le _⟩ dX11_creases_98 (fun r28 wr28 hw28 => ?_)
                obtain ⟨e_r28, rfl⟩ := hw28
                have hp := hp r28 e_r28
                refine r_ws (I' := [[(o, .inr (9, [.ref aS, .ref aPast, .int known, .ref aSnap, .int kept, .ref aText, .int len, .int x6, .ref aOne, .ref aTwo, .ref aBoth, .ref aWord, .int cre, .ref aOpen, .ref aTimes, .ref aFar, .ref aQueue, .long hash]))], [(aText, .inl (cI, 60, .inl fText))], [(aTimes, .inl (cI, 6, .inl k9))]]) rfl ?_
                refine r_bipush (v := 48) C dX11_creases_101 (by decide) ?_
                refine r_isub C dX11_creases_103 rfl ?_
                refine r_imul C dX11_creases_104 rfl ?_
                refine r_iadd C dX11_creases_105 rfl ?_
                refine r_top (fun x29 e_x29 => ?_)
                have hp := hp x29 e_x29
                have h30 := hp
                obtain ⟨g31, e_g31⟩ : ∃ z : Nat → Int32, z = upd k9 (x24.toNatClampNeg) x29 := ⟨_, rfl⟩
                refine r_iast C 2 0 rfl rfl h30 (I' := [[(o, .inr (9, [.ref aS, .ref aPast, .int known, .ref aSnap, .int kept, .ref aText, .int len, .int x6, .ref aOne, .ref aTwo, .ref aBoth, .ref aWord, .int cre, .ref aOpen, .ref aTimes, .ref aFar, .ref aQueue, .long hash]))], [(aText, .inl (cI, 60, .inl fText))], [(aTimes, .inl (cI, 6, .inl g31))]]) (by rw [e_g31]; rfl) dX11_creases_106 ?_
                obtain ⟨x32, e_x32⟩ : ∃ z : Int32, z = y11 + 2 := ⟨_, rfl⟩
                refine r_iinc (v := x32) (L' := [(2, .int x32), (1, .int x24), (0, .ref o)]) C dX11_creases_107 1 rfl (by rw [e_x32]; exact ii (by decide)) (by decide) rfl ?_
                refine r_goto (tgt := 126) C dX11_creases_110 (by decide) ?_
                exact K _ (by have q := e_r17.symm; subst q; have q := e_x24.symm; subst q; have q := e_r28.symm; subst q; have q := e_x29.symm; subst q; have q := e_g31.symm; subst q; have q := e_x32.symm; subst q; simp only [if_neg c15, if_pos c18]) _ (by have q := e_r17.symm; subst q; have q := e_x24.symm; subst q; have q := e_r28.symm; subst q; have q := e_x29.symm; subst q; have q := e_g31.symm; subst q; have q := e_x32.symm; subst q; simp only [if_neg c15, if_pos c18]) _ (by have q := e_r17.symm; subst q; have q := e_x24.symm; subst q; have q := e_r28.symm; subst q; have q := e_x29.symm; subst q; have q := e_g31.symm; subst q; have q := e_x32.symm; subst q; simp only [if_neg c15, if_pos c18])
            · have hp := hp.1 c15
              obtain ⟨x33, e_x33⟩ : ∃ z : Int32, z = y10 + 1 := ⟨_, rfl⟩
              have hp := hp x33 e_x33
              refine r_iinc (v := x33) (L' := [(1, .int x33), (2, .int y11), (0, .ref o)]) C dX11_creases_50 1 rfl (by rw [e_x33]; exact ii (by decide)) (by decide) rfl ?_
              refine r_aload_n C dX11_creases_53 2 rfl ?_
              refine r_get (Cn := RX11) (T := TX11) (N := 18) C inT11 0 rfl rfl 14 (by decide) t_907 rfl dX11_creases_54 ?_
              refine r_iload_n C dX11_creases_57 0 rfl ?_
              refine r_iconst (v := 0) C dX11_creases_58 (by decide) ?_
              have h34 := hp
              obtain ⟨g35, e_g35⟩ : ∃ z : Nat → Int32, z = upd k9 (x33.toNatClampNeg) 0 := ⟨_, rfl⟩
              refine r_iast C 2 0 rfl rfl h34 (I' := [[(o, .inr (9, [.ref aS, .ref aPast, .int known, .ref aSnap, .int kept, .ref aText, .int len, .int x6, .ref aOne, .ref aTwo, .ref aBoth, .ref aWord, .int cre, .ref aOpen, .ref aTimes, .ref aFar, .ref aQueue, .long hash]))], [(aText, .inl (cI, 60, .inl fText))], [(aTimes, .inl (cI, 6, .inl g35))]]) (by rw [e_g35]; rfl) dX11_creases_59 ?_
              obtain ⟨x36, e_x36⟩ : ∃ z : Int32, z = y11 + 1 := ⟨_, rfl⟩
              refine r_iinc (v := x36) (L' := [(2, .int x36), (1, .int x33), (0, .ref o)]) C dX11_creases_60 1 rfl (by rw [e_x36]; exact ii (by decide)) (by decide) rfl ?_
              refine r_goto (tgt := 126) C dX11_creases_63 (by decide) ?_
              exact K _ (by have q := e_x33.symm; subst q; have q := e_g35.symm; subst q; have q := e_x36.symm; subst q; simp only [if_pos c15]) _ (by have q := e_x33.symm; subst q; have q := e_g35.symm; subst q; have q := e_x36.symm; subst q; simp only [if_pos c15]) _ (by have q := e_x33.symm; subst q; have q := e_g35.symm; subst q; have q := e_x36.symm; subst q; simp only [if_pos c15])
          intro x37 e_x37 x38 e_x38 g39 e_g39
          have hp := hp x37 e_x37
          have hp := hp x38 e_x38
          have hp := hp g39 e_g39
          refine r_aload_n C dX11_creases_126 2 rfl ?_
          refine r_get (Cn := RX11) (T := TX11) (N := 18) C inT11 0 rfl rfl 14 (by decide) t_907 rfl dX11_creases_127 ?_
          refine r_iload_n C dX11_creases_130 1 rfl ?_
          refine r_aload_n C dX11_creases_131 2 rfl ?_
          refine r_get (Cn := RX11) (T := TX11) (N := 18) C inT11 0 rfl rfl 14 (by decide) t_907 rfl dX11_creases_132 ?_
          refine r_iload_n C dX11_creases_135 1 rfl ?_
          obtain ⟨h40, hp⟩ := hp
          refine r_iald (z := g39 x38.toNatClampNeg) C 2 0 rfl rfl h40 dX11_creases_136 rfl ?_
          refine r_sipush (v := 1000) C dX11_creases_137 (by decide) ?_
          obtain ⟨hps, hp⟩ := hp
          suffices K : ∀ x43 : Int32, x43 = ((if (g39 x38.toNatClampNeg) ≤ 1000 then (g39 x38.toNatClampNeg) else (1000))) → V p l e (rmm 5 108) s m args below meth c 3 D A 0 0 Q [[(o, .inr (9, [.ref aS, .ref aPast, .int known, .ref aSnap, .int kept, .ref aText, .int len, .int x6, .ref aOne, .ref aTwo, .ref aBoth, .ref aWord, .int cre, .ref aOpen, .ref aTimes, .ref aFar, .ref aQueue, .long hash]))], [(aText, .inl (cI, 60, .inl fText))], [(aTimes, .inl (cI, 6, .inl g39))]] [(2, .int x37), (1, .int x38), (0, .ref o)] 155 [.int x43, .int x38, .ref aTimes] by
            have hp := hps
            refine r_icmp_le (tgt := 149) C dX11_creases_140 (by decide) (fun c41 => ?_) (fun c41 => ?_)
            · have hp := hp.1 c41
              refine r_aload_n C dX11_creases_149 2 rfl ?_
              refine r_get (Cn := RX11) (T := TX11) (N := 18) C inT11 0 rfl rfl 14 (by decide) t_907 rfl dX11_creases_150 ?_
              refine r_iload_n C dX11_creases_153 1 rfl ?_
              have h42 := hp
              refine r_iald (z := g39 x38.toNatClampNeg) C 2 0 rfl rfl h42 dX11_creases_154 rfl ?_
              exact K _ (by simp only [if_pos c41])
            · refine r_sipush (v := 1000) C dX11_creases_143 (by decide) ?_
              refine r_goto (tgt := 155) C dX11_creases_146 (by decide) ?_
              exact K _ (by simp only [if_neg c41])
          intro x43 e_x43
          have hp := hp x43 e_x43
          obtain ⟨h44, hp⟩ := hp
          obtain ⟨g45, e_g45⟩ : ∃ z : Nat → Int32, z = upd g39 (x38.toNatClampNeg) x43 := ⟨_, rfl⟩
          have hp := hp g45 e_g45
          refine r_iast C 2 0 rfl rfl h44 (I' := [[(o, .inr (9, [.ref aS, .ref aPast, .int known, .ref aSnap, .int kept, .ref aText, .int len, .int x6, .ref aOne, .ref aTwo, .ref aBoth, .ref aWord, .int cre, .ref aOpen, .ref aTimes, .ref aFar, .ref aQueue, .long hash]))], [(aText, .inl (cI, 60, .inl fText))], [(aTimes, .inl (cI, 6, .inl g45))]]) (by rw [e_g45]; rfl) dX11_creases_155 ?_
          refine r_goto (tgt := 32) C dX11_creases_156 (by decide) ?_
          have eF : F_X11_creases_L32 len fText (nn + 1) k9 y10 y11 = F_X11_creases_L32 len fText nn g45 x38 x37 := by have q := e_r14.symm; subst q; have q := e_x37.symm; subst q; have q := e_x38.symm; subst q; have q := e_g39.symm; subst q; have q := e_x43.symm; subst q; have q := e_g45.symm; subst q; simp only [F_X11_creases_L32, if_neg c12]
          exact ih g45 x38 x37 hp (fun f46 e_f46 z47 e_z47 z48 e_z48 => kk f46 (by rw [eF]; exact e_f46) z47 (by rw [eF]; exact e_z47) z48 (by rw [eF]; exact e_z48))
    refine hL 62 g8 0 0 hpl (fun f46 e_f46 z47 e_z47 z48 e_z48 => ?_)
    clear hL hpl
    refine r_aload_n C dX11_creases_159 2 rfl ?_
    refine r_get (Cn := RX11) (T := TX11) (N := 18) C inT11 0 rfl rfl 14 (by decide) t_907 rfl dX11_creases_160 ?_
    refine r_iconst (v := 0) C dX11_creases_163 (by decide) ?_
    refine r_iald (z := f46 0) C 2 0 rfl rfl (vp_in_nI (n := 0) (N := 6) (by decide) (by decide)) dX11_creases_164 (congrArg (f46) (by decide)) ?_
    have eF : F_X11_creases len fText fTimes = (f46 0, x6, f46) := by have q := e_r2.symm; subst q; have q := e_x4.symm; subst q; have q := e_r5.symm; subst q; have q := e_x6.symm; subst q; have q := e_g8.symm; subst q; have q := e_f46.symm; subst q; have q := e_z47.symm; subst q; have q := e_z48.symm; subst q; simp only [F_X11_creases, if_pos c7]
    exact r_iret (r := f46 0) C hA hr hlo dX11_creases_165 [[(o, .inr (9, [.ref aS, .ref aPast, .int known, .ref aSnap, .int kept, .ref aText, .int len, .int x6, .ref aOne, .ref aTwo, .ref aBoth, .ref aWord, .int cre, .ref aOpen, .ref aTimes, .ref aFar, .ref aQueue, .long hash]))], [(aText, .inl (cI, 60, .inl fText))], [(aTimes, .inl (cI, 6, .inl f46))]] ⟨by simp only [eF], by simp only [eF]⟩ rfl hQ
  · refine r_iconst (v := 0) C dX11_creases_19 (by decide) ?_
    have eF : F_X11_creases len fText fTimes = (0, x6, fTimes) := by have q := e_r2.symm; subst q; have q := e_x4.symm; subst q; have q := e_r5.symm; subst q; have q := e_x6.symm; subst q; simp only [F_X11_creases, if_neg c7]
    exact r_iret (r := 0) C hA hr hlo dX11_creases_20 [[(o, .inr (9, [.ref aS, .ref aPast, .int known, .ref aSnap, .int kept, .ref aText, .int len, .int x6, .ref aOne, .ref aTwo, .ref aBoth, .ref aWord, .int cre, .ref aOpen, .ref aTimes, .ref aFar, .ref aQueue, .long hash]))], [(aText, .inl (cI, 60, .inl fText))], [(aTimes, .inl (cI, 6, .inl fTimes))]] ⟨by simp only [eF], by simp only [eF]⟩ rfl hQ
theorem k_X11_keep : kV yX11_keep cX11_keep 2 (some .int) 0 := ⟨t_1124, t_1125, t_67, t_1126, by decide +kernel, by decide +kernel, by decide +kernel⟩
def F_X11_keep_L7 (fS : Nat → Int32) : Nat → (Nat → Int32) → Int32 → (Nat → Int32) × Int32
  | 0, k1, y2 => (k1, y2)
  | nn + 1, k1, y2 => (if 335 ≤ y2 then ((k1, y2)) else (let x5 : Int32 := fS y2.toNatClampNeg; let g7 : Nat → Int32 := upd k1 (y2.toNatClampNeg) x5; let x8 : Int32 := y2 + 1; F_X11_keep_L7 fS nn g7 x8))
def P_X11_keep_L7 (fS : Nat → Int32) : Nat → (Nat → Int32) → Int32 → Prop
  | 0, _, _ => False
  | nn + 1, k1, y2 => ((335 ≤ y2 → True) ∧ (¬ 335 ≤ y2 → ((vp_in y2 335) ∧ (∀ x5 : Int32, x5 = fS y2.toNatClampNeg → ((vp_in y2 335) ∧ (∀ g7 : Nat → Int32, g7 = upd k1 (y2.toNatClampNeg) x5 → (∀ x8 : Int32, x8 = y2 + 1 → (P_X11_keep_L7 fS nn g7 x8))))))))
set_option maxRecDepth 20000 in
def F_X11_keep (fS : Nat → Int32) (fSnap : Nat → Int32) (fOne : Nat → Int32) : Int32 × Int32 × Int32 × (Nat → Int32) × (Nat → Int32) := let f9 : Nat → Int32 := (F_X11_keep_L7 fS 336 fSnap 0).1; let r12 : Int32 := (F_X11_lengths fS fOne).1; let g13 : Nat → Int32 := (F_X11_lengths fS fOne).2; (r12, 1, 0, f9, g13)
set_option maxRecDepth 20000 in
def P_X11_keep (fS : Nat → Int32) (fSnap : Nat → Int32) (fOne : Nat → Int32) : Prop := ((P_X11_keep_L7 fS 336 fSnap 0) ∧ (∀ f9 : Nat → Int32, f9 = (F_X11_keep_L7 fS 336 fSnap 0).1 → (∀ z10 : Int32, z10 = (F_X11_keep_L7 fS 336 fSnap 0).2 → (P_X11_lengths fS fOne))))
set_option maxRecDepth 20000 in
set_option maxHeartbeats 8000000 in
theorem m_X11_keep (l : Launch) (D : va_G) (cI cL cP cJ : ClassId) (o : Nat) (aS : Nat) (aPast : Nat) (aSnap : Nat) (aText : Nat) (aOne : Nat) (aTwo : Nat) (aBoth : Nat) (aWord : Nat) (aOpen : Nat) (aTimes : Nat) (aFar : Nat) (aQueue : Nat) (known : Int32) (kept : Int32) (len : Int32) (thr : Int32) (cre : Int32) (hash : Int64) (fS : Nat → Int32) (fSnap : Nat → Int32) (fOne : Nat → Int32) (hp : P_X11_keep fS fSnap fOne) : M vI l yX11_keep cX11_keep 2 (some .int) 4 87 D (tyF cI cL cP cJ) [.ref o] [[(o, .inr (9, [.ref aS, .ref aPast, .int known, .ref aSnap, .int kept, .ref aText, .int len, .int thr, .ref aOne, .ref aTwo, .ref aBoth, .ref aWord, .int cre, .ref aOpen, .ref aTimes, .ref aFar, .ref aQueue, .long hash]))], [(aS, .inl (cI, 335, .inl fS))], [(aSnap, .inl (cI, 335, .inl fSnap))], [(aOne, .inl (cI, 4, .inl fOne))]] (fun (r : Int32) (w1 : List va_W) => r = (F_X11_keep fS fSnap fOne).1 ∧ w1 = [[(o, .inr (9, [.ref aS, .ref aPast, .int known, .ref aSnap, .int ((F_X11_keep fS fSnap fOne).2.1), .ref aText, .int len, .int ((F_X11_keep fS fSnap fOne).2.2.1), .ref aOne, .ref aTwo, .ref aBoth, .ref aWord, .int cre, .ref aOpen, .ref aTimes, .ref aFar, .ref aQueue, .long hash]))], [(aS, .inl (cI, 335, .inl fS))], [(aSnap, .inl (cI, 335, .inl ((F_X11_keep fS fSnap fOne).2.2.2.1)))], [(aOne, .inl (cI, 4, .inl ((F_X11_keep fS fSnap fOne).2.2.2.2)))]]) := by
  unfold P_X11_keep at hp
  refine m_start (by decide +kernel) (Nat.le_of_ble_eq_true rfl) (fun p e s m args below meth c A Q hA hQ C hr hlo => ?_)
  refine r_Le (L' := [(0, .ref o)]) rfl ?_
  refine r_aload_n C dX11_keep_0 0 rfl ?_
  refine r_iconst (v := 0) C dX11_keep_1 (by decide) ?_
  refine r_put (Cn := RX11) (T := TX11) (N := 18) C inT11 0 rfl rfl 7 (by decide) t_900 tyX11 tyX11_ok nmX11 rfl rfl rfl (Nat.le_of_ble_eq_true rfl) (I' := [[(o, .inr (9, [.ref aS, .ref aPast, .int known, .ref aSnap, .int kept, .ref aText, .int len, .int 0, .ref aOne, .ref aTwo, .ref aBoth, .ref aWord, .int cre, .ref aOpen, .ref aTimes, .ref aFar, .ref aQueue, .long hash]))], [(aS, .inl (cI, 335, .inl fS))], [(aSnap, .inl (cI, 335, .inl fSnap))], [(aOne, .inl (cI, 4, .inl fOne))]]) rfl dX11_keep_2 ?_
  refine r_iconst (v := 0) C dX11_keep_5 (by decide) ?_
  refine r_istore_n (L' := [(1, .int 0), (0, .ref o)]) C dX11_keep_6 (by decide) rfl ?_
  obtain ⟨hpl, hp⟩ := hp
  have hL : ∀ (nn : Nat) (k1 : Nat → Int32) (y2 : Int32), P_X11_keep_L7 fS nn k1 y2 → (∀ f9 : Nat → Int32, f9 = (F_X11_keep_L7 fS nn k1 y2).1 → ∀ z10 : Int32, z10 = (F_X11_keep_L7 fS nn k1 y2).2 → V p l e (rmm 4 87) s m args below meth c 2 D A 0 0 Q [[(o, .inr (9, [.ref aS, .ref aPast, .int known, .ref aSnap, .int kept, .ref aText, .int len, .int 0, .ref aOne, .ref aTwo, .ref aBoth, .ref aWord, .int cre, .ref aOpen, .ref aTimes, .ref aFar, .ref aQueue, .long hash]))], [(aS, .inl (cI, 335, .inl fS))], [(aSnap, .inl (cI, 335, .inl f9))], [(aOne, .inl (cI, 4, .inl fOne))]] [(1, .int z10), (0, .ref o)] 32 []) → V p l e (rmm 4 87) s m args below meth c 2 D A 0 0 Q [[(o, .inr (9, [.ref aS, .ref aPast, .int known, .ref aSnap, .int kept, .ref aText, .int len, .int 0, .ref aOne, .ref aTwo, .ref aBoth, .ref aWord, .int cre, .ref aOpen, .ref aTimes, .ref aFar, .ref aQueue, .long hash]))], [(aS, .inl (cI, 335, .inl fS))], [(aSnap, .inl (cI, 335, .inl k1))], [(aOne, .inl (cI, 4, .inl fOne))]] [(1, .int y2), (0, .ref o)] 7 [] := by
    clear hpl hp
    intro nn
    induction nn with
    | zero => intro k1 y2 hp kk; rw [P_X11_keep_L7] at hp; exact hp.elim
    | succ nn ih =>
      intro k1 y2 hp kk
      rw [P_X11_keep_L7] at hp
      refine r_iload_n C dX11_keep_7 0 rfl ?_
      refine r_sipush (v := 335) C dX11_keep_8 (by decide) ?_
      refine r_icmp_ge (tgt := 32) C dX11_keep_11 (by decide) (fun c3 => ?_) (fun c3 => ?_)
      · have eF : F_X11_keep_L7 fS (nn + 1) k1 y2 = (k1, y2) := by simp only [F_X11_keep_L7, if_pos c3]
        exact kk _ (by rw [eF]) _ (by rw [eF])
      · have hp := hp.2 c3
        refine r_aload_n C dX11_keep_14 1 rfl ?_
        refine r_get (Cn := RX11) (T := TX11) (N := 18) C inT11 0 rfl rfl 3 (by decide) t_896 rfl dX11_keep_15 ?_
        refine r_iload_n C dX11_keep_18 0 rfl ?_
        refine r_aload_n C dX11_keep_19 1 rfl ?_
        refine r_get (Cn := RX11) (T := TX11) (N := 18) C inT11 0 rfl rfl 0 (by decide) t_893 rfl dX11_keep_20 ?_
        refine r_iload_n C dX11_keep_23 0 rfl ?_
        obtain ⟨h4, hp⟩ := hp
        refine r_iald (z := fS y2.toNatClampNeg) C 1 0 rfl rfl h4 dX11_keep_24 rfl ?_
        refine r_top (fun x5 e_x5 => ?_)
        have hp := hp x5 e_x5
        obtain ⟨h6, hp⟩ := hp
        obtain ⟨g7, e_g7⟩ : ∃ z : Nat → Int32, z = upd k1 (y2.toNatClampNeg) x5 := ⟨_, rfl⟩
        have hp := hp g7 e_g7
        refine r_iast C 2 0 rfl rfl h6 (I' := [[(o, .inr (9, [.ref aS, .ref aPast, .int known, .ref aSnap, .int kept, .ref aText, .int len, .int 0, .ref aOne, .ref aTwo, .ref aBoth, .ref aWord, .int cre, .ref aOpen, .ref aTimes, .ref aFar, .ref aQueue, .long hash]))], [(aS, .inl (cI, 335, .inl fS))], [(aSnap, .inl (cI, 335, .inl g7))], [(aOne, .inl (cI, 4, .inl fOne))]]) (by rw [e_g7]; rfl) dX11_keep_25 ?_
        obtain ⟨x8, e_x8⟩ : ∃ z : Int32, z = y2 + 1 := ⟨_, rfl⟩
        have hp := hp x8 e_x8
        refine r_iinc (v := x8) (L' := [(1, .int x8), (0, .ref o)]) C dX11_keep_26 0 rfl (by rw [e_x8]; exact ii (by decide)) (by decide) rfl ?_
        refine r_goto (tgt := 7) C dX11_keep_29 (by decide) ?_
        have eF : F_X11_keep_L7 fS (nn + 1) k1 y2 = F_X11_keep_L7 fS nn g7 x8 := by have q := e_x5.symm; subst q; have q := e_g7.symm; subst q; have q := e_x8.symm; subst q; simp only [F_X11_keep_L7, if_neg c3]
        exact ih g7 x8 hp (fun f9 e_f9 z10 e_z10 => kk f9 (by rw [eF]; exact e_f9) z10 (by rw [eF]; exact e_z10))
  refine hL 336 fSnap 0 hpl (fun f9 e_f9 z10 e_z10 => ?_)
  clear hL hpl
  have hp := hp f9 e_f9
  have hp := hp z10 e_z10
  refine r_aload_n C dX11_keep_32 1 rfl ?_
  refine r_iconst (v := 1) C dX11_keep_33 (by decide) ?_
  refine r_put (Cn := RX11) (T := TX11) (N := 18) C inT11 0 rfl rfl 4 (by decide) t_897 tyX11 tyX11_ok nmX11 rfl rfl rfl (Nat.le_of_ble_eq_true rfl) (I' := [[(o, .inr (9, [.ref aS, .ref aPast, .int known, .ref aSnap, .int 1, .ref aText, .int len, .int 0, .ref aOne, .ref aTwo, .ref aBoth, .ref aWord, .int cre, .ref aOpen, .ref aTimes, .ref aFar, .ref aQueue, .long hash]))], [(aS, .inl (cI, 335, .inl fS))], [(aSnap, .inl (cI, 335, .inl f9))], [(aOne, .inl (cI, 4, .inl fOne))]]) rfl dX11_keep_34 ?_
  refine r_aload_n C dX11_keep_37 1 rfl ?_
  have h11 := hp
  refine r_callV (ci := 9) (wc := [[(o, .inr (9, [.ref aS, .ref aPast, .int known, .ref aSnap, .int 1, .ref aText, .int len, .int 0, .ref aOne, .ref aTwo, .ref aBoth, .ref aWord, .int cre, .ref aOpen, .ref aTimes, .ref aFar, .ref aQueue, .long hash]))], [(aS, .inl (cI, 335, .inl fS))], [(aOne, .inl (cI, 4, .inl fOne))]]) (wr := [[(aSnap, .inl (cI, 335, .inl f9))]]) (st := []) C (m_X11_lengths l D cI cL cP cJ o aS aPast aSnap aText aOne aTwo aBoth aWord aOpen aTimes aFar aQueue known 1 len 0 cre hash fS fOne h11) k_X11_lengths t_1127 [0, 1, 3, 2] (show ([0, 1, 3, 2] : List Nat).Perm (List.range 4) by decide) rfl rfl rfl (q0 := 0) rfl rfl rfl (Nat.le_of_ble_eq_true rfl) ⟨Nat.le_of_ble_eq_true rfl, Nat.le_of_ble_eq_true rfl⟩ ⟨Nat.zero_le _, Nat.zero_le _⟩ dX11_keep_38 (fun r12 wr12 hw12 => ?_)
  obtain ⟨e_r12, rfl⟩ := hw12
  obtain ⟨g13, e_g13⟩ : ∃ z : Nat → Int32, z = (F_X11_lengths fS fOne).2 := ⟨_, rfl⟩
  refine r_ws (I' := [[(o, .inr (9, [.ref aS, .ref aPast, .int known, .ref aSnap, .int 1, .ref aText, .int len, .int 0, .ref aOne, .ref aTwo, .ref aBoth, .ref aWord, .int cre, .ref aOpen, .ref aTimes, .ref aFar, .ref aQueue, .long hash]))], [(aS, .inl (cI, 335, .inl fS))], [(aOne, .inl (cI, 4, .inl g13))], [(aSnap, .inl (cI, 335, .inl f9))]]) (by rw [e_g13]; rfl) ?_
  refine r_pl (I' := [[(o, .inr (9, [.ref aS, .ref aPast, .int known, .ref aSnap, .int 1, .ref aText, .int len, .int 0, .ref aOne, .ref aTwo, .ref aBoth, .ref aWord, .int cre, .ref aOpen, .ref aTimes, .ref aFar, .ref aQueue, .long hash]))], [(aS, .inl (cI, 335, .inl fS))], [(aSnap, .inl (cI, 335, .inl f9))], [(aOne, .inl (cI, 4, .inl g13))]]) [0, 1, 3, 2] (show ([0, 1, 3, 2] : List Nat).Perm (List.range 4) by decide) rfl ?_
  have eF : F_X11_keep fS fSnap fOne = (r12, 1, 0, f9, g13) := by have q := e_f9.symm; subst q; have q := e_z10.symm; subst q; have q := e_r12.symm; subst q; have q := e_g13.symm; subst q; rfl
  exact r_iret (r := r12) C hA hr hlo dX11_keep_41 [[(o, .inr (9, [.ref aS, .ref aPast, .int known, .ref aSnap, .int 1, .ref aText, .int len, .int 0, .ref aOne, .ref aTwo, .ref aBoth, .ref aWord, .int cre, .ref aOpen, .ref aTimes, .ref aFar, .ref aQueue, .long hash]))], [(aS, .inl (cI, 335, .inl fS))], [(aSnap, .inl (cI, 335, .inl f9))], [(aOne, .inl (cI, 4, .inl g13))]] ⟨by simp only [eF], by simp only [eF]⟩ rfl hQ
theorem k_X11_goBack : kV yX11_goBack cX11_goBack 2 (some .int) 0 := ⟨t_1132, t_1133, t_67, t_1134, by decide +kernel, by decide +kernel, by decide +kernel⟩
def F_X11_goBack_L27 (fSnap : Nat → Int32) : Nat → (Nat → Int32) → Int32 → (Nat → Int32) × Int32
  | 0, k10, y11 => (k10, y11)
  | nn + 1, k10, y11 => (if 335 ≤ y11 then ((k10, y11)) else (let x14 : Int32 := fSnap y11.toNatClampNeg; let g16 : Nat → Int32 := upd k10 (y11.toNatClampNeg) x14; let x17 : Int32 := y11 + 1; F_X11_goBack_L27 fSnap nn g16 x17))
def P_X11_goBack_L27 (fSnap : Nat → Int32) : Nat → (Nat → Int32) → Int32 → Prop
  | 0, _, _ => False
  | nn + 1, k10, y11 => ((335 ≤ y11 → True) ∧ (¬ 335 ≤ y11 → ((vp_in y11 335) ∧ (∀ x14 : Int32, x14 = fSnap y11.toNatClampNeg → ((vp_in y11 335) ∧ (∀ g16 : Nat → Int32, g16 = upd k10 (y11.toNatClampNeg) x14 → (∀ x17 : Int32, x17 = y11 + 1 → (P_X11_goBack_L27 fSnap nn g16 x17))))))))
set_option maxRecDepth 20000 in
def F_X11_goBack (known : Int32) (kept : Int32) (fS : Nat → Int32) (fPast : Nat → Int32) (fSnap : Nat → Int32) (fOne : Nat → Int32) : Int32 × Int32 × Int32 × (Nat → Int32) × (Nat → Int32) × (Nat → Int32) := let x2 : Int32 := (if kept = 0 then (1) else (0)); let r3 : Int32 := (F_X11_throwsAt x2).1; let x4 : Int32 := (F_X11_throwsAt x2).2; (if r3 = 0 then (let x8 : Int32 := (F_X11_saves known fS fPast).1; let g9 : Nat → Int32 := (F_X11_saves known fS fPast).2; let f18 : Nat → Int32 := (F_X11_goBack_L27 fSnap 336 fS 0).1; let r21 : Int32 := (F_X11_lengths f18 fOne).1; let g22 : Nat → Int32 := (F_X11_lengths f18 fOne).2; (r21, x8, x4, f18, g9, g22)) else ((0, known, x4, fS, fPast, fOne)))
set_option maxRecDepth 20000 in
def P_X11_goBack (known : Int32) (kept : Int32) (fS : Nat → Int32) (fPast : Nat → Int32) (fSnap : Nat → Int32) (fOne : Nat → Int32) : Prop := (∀ x2 : Int32, x2 = ((if kept = 0 then (1) else (0))) → (∀ r3 : Int32, r3 = (F_X11_throwsAt x2).1 → (∀ x4 : Int32, x4 = (F_X11_throwsAt x2).2 → ((r3 = 0 → ((P_X11_saves known fS fPast) ∧ (∀ x8 : Int32, x8 = (F_X11_saves known fS fPast).1 → (∀ g9 : Nat → Int32, g9 = (F_X11_saves known fS fPast).2 → ((P_X11_goBack_L27 fSnap 336 fS 0) ∧ (∀ f18 : Nat → Int32, f18 = (F_X11_goBack_L27 fSnap 336 fS 0).1 → (∀ z19 : Int32, z19 = (F_X11_goBack_L27 fSnap 336 fS 0).2 → (P_X11_lengths f18 fOne)))))))) ∧ (¬ r3 = 0 → True)))))
set_option maxRecDepth 20000 in
set_option maxHeartbeats 8000000 in
theorem m_X11_goBack (l : Launch) (D : va_G) (cI cL cP cJ : ClassId) (o : Nat) (aS : Nat) (aPast : Nat) (aSnap : Nat) (aText : Nat) (aOne : Nat) (aTwo : Nat) (aBoth : Nat) (aWord : Nat) (aOpen : Nat) (aTimes : Nat) (aFar : Nat) (aQueue : Nat) (known : Int32) (kept : Int32) (len : Int32) (thr : Int32) (cre : Int32) (hash : Int64) (fS : Nat → Int32) (fPast : Nat → Int32) (fSnap : Nat → Int32) (fOne : Nat → Int32) (hp : P_X11_goBack known kept fS fPast fSnap fOne) : M vI l yX11_goBack cX11_goBack 2 (some .int) 4 87 D (tyF cI cL cP cJ) [.ref o] [[(o, .inr (9, [.ref aS, .ref aPast, .int known, .ref aSnap, .int kept, .ref aText, .int len, .int thr, .ref aOne, .ref aTwo, .ref aBoth, .ref aWord, .int cre, .ref aOpen, .ref aTimes, .ref aFar, .ref aQueue, .long hash]))], [(aS, .inl (cI, 335, .inl fS))], [(aPast, .inl (cI, 2010, .inl fPast))], [(aSnap, .inl (cI, 335, .inl fSnap))], [(aOne, .inl (cI, 4, .inl fOne))]] (fun (r : Int32) (w1 : List va_W) => r = (F_X11_goBack known kept fS fPast fSnap fOne).1 ∧ w1 = [[(o, .inr (9, [.ref aS, .ref aPast, .int ((F_X11_goBack known kept fS fPast fSnap fOne).2.1), .ref aSnap, .int kept, .ref aText, .int len, .int ((F_X11_goBack known kept fS fPast fSnap fOne).2.2.1), .ref aOne, .ref aTwo, .ref aBoth, .ref aWord, .int cre, .ref aOpen, .ref aTimes, .ref aFar, .ref aQueue, .long hash]))], [(aS, .inl (cI, 335, .inl ((F_X11_goBack known kept fS fPast fSnap fOne).2.2.2.1)))], [(aPast, .inl (cI, 2010, .inl ((F_X11_goBack known kept fS fPast fSnap fOne).2.2.2.2.1)))], [(aSnap, .inl (cI, 335, .inl fSnap))], [(aOne, .inl (cI, 4, .inl ((F_X11_goBack known kept fS fPast fSnap fOne).2.2.2.2.2)))]]) := by
  unfold P_X11_goBack at hp
  refine m_start (by decide +kernel) (Nat.le_of_ble_eq_true rfl) (fun p e s m args below meth c A Q hA hQ C hr hlo => ?_)
  refine r_Le (L' := [(0, .ref o)]) rfl ?_
  refine r_aload_n C dX11_goBack_0 0 rfl ?_
  refine r_aload_n C dX11_goBack_1 0 rfl ?_
  refine r_get (Cn := RX11) (T := TX11) (N := 18) C inT11 0 rfl rfl 4 (by decide) t_897 rfl dX11_goBack_2 ?_
  suffices K : ∀ x2 : Int32, x2 = ((if kept = 0 then (1) else (0))) → V p l e (rmm 4 87) s m args below meth c 2 D A 0 0 Q [[(o, .inr (9, [.ref aS, .ref aPast, .int known, .ref aSnap, .int kept, .ref aText, .int len, .int thr, .ref aOne, .ref aTwo, .ref aBoth, .ref aWord, .int cre, .ref aOpen, .ref aTimes, .ref aFar, .ref aQueue, .long hash]))], [(aS, .inl (cI, 335, .inl fS))], [(aPast, .inl (cI, 2010, .inl fPast))], [(aSnap, .inl (cI, 335, .inl fSnap))], [(aOne, .inl (cI, 4, .inl fOne))]] [(0, .ref o)] 13 [.int x2, .ref o] by
    refine r_if_eq (tgt := 12) C dX11_goBack_5 (by decide) (fun c1 => ?_) (fun c1 => ?_)
    · refine r_iconst (v := 1) C dX11_goBack_12 (by decide) ?_
      exact K _ (by simp only [if_pos c1])
    · refine r_iconst (v := 0) C dX11_goBack_8 (by decide) ?_
      refine r_goto (tgt := 13) C dX11_goBack_9 (by decide) ?_
      exact K _ (by simp only [if_neg c1])
  intro x2 e_x2
  have hp := hp x2 e_x2
  refine r_callV (ci := 9) (wc := [[(o, .inr (9, [.ref aS, .ref aPast, .int known, .ref aSnap, .int kept, .ref aText, .int len, .int thr, .ref aOne, .ref aTwo, .ref aBoth, .ref aWord, .int cre, .ref aOpen, .ref aTimes, .ref aFar, .ref aQueue, .long hash]))]]) (wr := [[(aS, .inl (cI, 335, .inl fS))], [(aPast, .inl (cI, 2010, .inl fPast))], [(aSnap, .inl (cI, 335, .inl fSnap))], [(aOne, .inl (cI, 4, .inl fOne))]]) (st := []) C (m_X11_throwsAt l D cI cL cP cJ o aS aPast aSnap aText aOne aTwo aBoth aWord aOpen aTimes aFar aQueue known kept len thr cre hash x2) k_X11_throwsAt t_974 [0, 1, 2, 3, 4] (show ([0, 1, 2, 3, 4] : List Nat).Perm (List.range 5) by decide) rfl rfl rfl (q0 := 0) rfl rfl rfl (Nat.le_of_ble_eq_true rfl) ⟨Nat.le_of_ble_eq_true rfl, Nat.le_of_ble_eq_true rfl⟩ ⟨Nat.zero_le _, Nat.zero_le _⟩ dX11_goBack_13 (fun r3 wr3 hw3 => ?_)
  obtain ⟨e_r3, rfl⟩ := hw3
  have hp := hp r3 e_r3
  obtain ⟨x4, e_x4⟩ : ∃ z : Int32, z = (F_X11_throwsAt x2).2 := ⟨_, rfl⟩
  have hp := hp x4 e_x4
  refine r_ws (I' := [[(o, .inr (9, [.ref aS, .ref aPast, .int known, .ref aSnap, .int kept, .ref aText, .int len, .int x4, .ref aOne, .ref aTwo, .ref aBoth, .ref aWord, .int cre, .ref aOpen, .ref aTimes, .ref aFar, .ref aQueue, .long hash]))], [(aS, .inl (cI, 335, .inl fS))], [(aPast, .inl (cI, 2010, .inl fPast))], [(aSnap, .inl (cI, 335, .inl fSnap))], [(aOne, .inl (cI, 4, .inl fOne))]]) (by rw [e_x4]; rfl) ?_
  refine r_if_eq (tgt := 21) C dX11_goBack_16 (by decide) (fun c5 => ?_) (fun c5 => ?_)
  · have hp := hp.1 c5
    refine r_aload_n C dX11_goBack_21 0 rfl ?_
    obtain ⟨h6, hp⟩ := hp
    refine r_callV (ci := 9) (wc := [[(o, .inr (9, [.ref aS, .ref aPast, .int known, .ref aSnap, .int kept, .ref aText, .int len, .int x4, .ref aOne, .ref aTwo, .ref aBoth, .ref aWord, .int cre, .ref aOpen, .ref aTimes, .ref aFar, .ref aQueue, .long hash]))], [(aS, .inl (cI, 335, .inl fS))], [(aPast, .inl (cI, 2010, .inl fPast))]]) (wr := [[(aSnap, .inl (cI, 335, .inl fSnap))], [(aOne, .inl (cI, 4, .inl fOne))]]) (st := []) C (m_X11_saves l D cI cL cP cJ o aS aPast aSnap aText aOne aTwo aBoth aWord aOpen aTimes aFar aQueue known kept len x4 cre hash fS fPast h6) k_X11_saves t_978 [0, 1, 2, 3, 4] (show ([0, 1, 2, 3, 4] : List Nat).Perm (List.range 5) by decide) rfl rfl rfl (q0 := 0) rfl rfl rfl (Nat.le_of_ble_eq_true rfl) ⟨Nat.le_of_ble_eq_true rfl, Nat.le_of_ble_eq_true rfl⟩ ⟨Nat.zero_le _, Nat.zero_le _⟩ dX11_goBack_22 (fun r7 wr7 hw7 => ?_)
    obtain rfl := hw7
    obtain ⟨x8, e_x8⟩ : ∃ z : Int32, z = (F_X11_saves known fS fPast).1 := ⟨_, rfl⟩
    have hp := hp x8 e_x8
    obtain ⟨g9, e_g9⟩ : ∃ z : Nat → Int32, z = (F_X11_saves known fS fPast).2 := ⟨_, rfl⟩
    have hp := hp g9 e_g9
    refine r_ws (I' := [[(o, .inr (9, [.ref aS, .ref aPast, .int x8, .ref aSnap, .int kept, .ref aText, .int len, .int x4, .ref aOne, .ref aTwo, .ref aBoth, .ref aWord, .int cre, .ref aOpen, .ref aTimes, .ref aFar, .ref aQueue, .long hash]))], [(aS, .inl (cI, 335, .inl fS))], [(aPast, .inl (cI, 2010, .inl g9))], [(aSnap, .inl (cI, 335, .inl fSnap))], [(aOne, .inl (cI, 4, .inl fOne))]]) (by rw [e_x8, e_g9]; rfl) ?_
    refine r_iconst (v := 0) C dX11_goBack_25 (by decide) ?_
    refine r_istore_n (L' := [(1, .int 0), (0, .ref o)]) C dX11_goBack_26 (by decide) rfl ?_
    obtain ⟨hpl, hp⟩ := hp
    have hL : ∀ (nn : Nat) (k10 : Nat → Int32) (y11 : Int32), P_X11_goBack_L27 fSnap nn k10 y11 → (∀ f18 : Nat → Int32, f18 = (F_X11_goBack_L27 fSnap nn k10 y11).1 → ∀ z19 : Int32, z19 = (F_X11_goBack_L27 fSnap nn k10 y11).2 → V p l e (rmm 4 87) s m args below meth c 2 D A 0 0 Q [[(o, .inr (9, [.ref aS, .ref aPast, .int x8, .ref aSnap, .int kept, .ref aText, .int len, .int x4, .ref aOne, .ref aTwo, .ref aBoth, .ref aWord, .int cre, .ref aOpen, .ref aTimes, .ref aFar, .ref aQueue, .long hash]))], [(aS, .inl (cI, 335, .inl f18))], [(aPast, .inl (cI, 2010, .inl g9))], [(aSnap, .inl (cI, 335, .inl fSnap))], [(aOne, .inl (cI, 4, .inl fOne))]] [(1, .int z19), (0, .ref o)] 52 []) → V p l e (rmm 4 87) s m args below meth c 2 D A 0 0 Q [[(o, .inr (9, [.ref aS, .ref aPast, .int x8, .ref aSnap, .int kept, .ref aText, .int len, .int x4, .ref aOne, .ref aTwo, .ref aBoth, .ref aWord, .int cre, .ref aOpen, .ref aTimes, .ref aFar, .ref aQueue, .long hash]))], [(aS, .inl (cI, 335, .inl k10))], [(aPast, .inl (cI, 2010, .inl g9))], [(aSnap, .inl (cI, 335, .inl fSnap))], [(aOne, .inl (cI, 4, .inl fOne))]] [(1, .int y11), (0, .ref o)] 27 [] := by
      clear hpl hp
      intro nn
      induction nn with
      | zero => intro k10 y11 hp kk; rw [P_X11_goBack_L27] at hp; exact hp.elim
      | succ nn ih =>
        intro k10 y11 hp kk
        rw [P_X11_goBack_L27] at hp
        refine r_iload_n C dX11_goBack_27 0 rfl ?_
        refine r_sipush (v := 335) C dX11_goBack_28 (by decide) ?_
        refine r_icmp_ge (tgt := 52) C dX11_goBack_31 (by decide) (fun c12 => ?_) (fun c12 => ?_)
        · have eF : F_X11_goBack_L27 fSnap (nn + 1) k10 y11 = (k10, y11) := by simp only [F_X11_goBack_L27, if_pos c12]
          exact kk _ (by rw [eF]) _ (by rw [eF])
        · have hp := hp.2 c12
          refine r_aload_n C dX11_goBack_34 1 rfl ?_
          refine r_get (Cn := RX11) (T := TX11) (N := 18) C inT11 0 rfl rfl 0 (by decide) t_893 rfl dX11_goBack_35 ?_
          refine r_iload_n C dX11_goBack_38 0 rfl ?_
          refine r_aload_n C dX11_goBack_39 1 rfl ?_
          refine r_get (Cn := RX11) (T := TX11) (N := 18) C inT11 0 rfl rfl 3 (by decide) t_896 rfl dX11_goBack_40 ?_
          refine r_iload_n C dX11_goBack_43 0 rfl ?_
          obtain ⟨h13, hp⟩ := hp
          refine r_iald (z := fSnap y11.toNatClampNeg) C 3 0 rfl rfl h13 dX11_goBack_44 rfl ?_
          refine r_top (fun x14 e_x14 => ?_)
          have hp := hp x14 e_x14
          obtain ⟨h15, hp⟩ := hp
          obtain ⟨g16, e_g16⟩ : ∃ z : Nat → Int32, z = upd k10 (y11.toNatClampNeg) x14 := ⟨_, rfl⟩
          have hp := hp g16 e_g16
          refine r_iast C 1 0 rfl rfl h15 (I' := [[(o, .inr (9, [.ref aS, .ref aPast, .int x8, .ref aSnap, .int kept, .ref aText, .int len, .int x4, .ref aOne, .ref aTwo, .ref aBoth, .ref aWord, .int cre, .ref aOpen, .ref aTimes, .ref aFar, .ref aQueue, .long hash]))], [(aS, .inl (cI, 335, .inl g16))], [(aPast, .inl (cI, 2010, .inl g9))], [(aSnap, .inl (cI, 335, .inl fSnap))], [(aOne, .inl (cI, 4, .inl fOne))]]) (by rw [e_g16]; rfl) dX11_goBack_45 ?_
          obtain ⟨x17, e_x17⟩ : ∃ z : Int32, z = y11 + 1 := ⟨_, rfl⟩
          have hp := hp x17 e_x17
          refine r_iinc (v := x17) (L' := [(1, .int x17), (0, .ref o)]) C dX11_goBack_46 0 rfl (by rw [e_x17]; exact ii (by decide)) (by decide) rfl ?_
          refine r_goto (tgt := 27) C dX11_goBack_49 (by decide) ?_
          have eF : F_X11_goBack_L27 fSnap (nn + 1) k10 y11 = F_X11_goBack_L27 fSnap nn g16 x17 := by have q := e_x14.symm; subst q; have q := e_g16.symm; subst q; have q := e_x17.symm; subst q; simp only [F_X11_goBack_L27, if_neg c12]
          exact ih g16 x17 hp (fun f18 e_f18 z19 e_z19 => kk f18 (by rw [eF]; exact e_f18) z19 (by rw [eF]; exact e_z19))
    refine hL 336 fS 0 hpl (fun f18 e_f18 z19 e_z19 => ?_)
    clear hL hpl
    have hp := hp f18 e_f18
    have hp := hp z19 e_z19
    refine r_aload_n C dX11_goBack_52 1 rfl ?_
    have h20 := hp
    refine r_callV (ci := 9) (wc := [[(o, .inr (9, [.ref aS, .ref aPast, .int x8, .ref aSnap, .int kept, .ref aText, .int len, .int x4, .ref aOne, .ref aTwo, .ref aBoth, .ref aWord, .int cre, .ref aOpen, .ref aTimes, .ref aFar, .ref aQueue, .long hash]))], [(aS, .inl (cI, 335, .inl f18))], [(aOne, .inl (cI, 4, .inl fOne))]]) (wr := [[(aPast, .inl (cI, 2010, .inl g9))], [(aSnap, .inl (cI, 335, .inl fSnap))]]) (st := []) C (m_X11_lengths l D cI cL cP cJ o aS aPast aSnap aText aOne aTwo aBoth aWord aOpen aTimes aFar aQueue x8 kept len x4 cre hash f18 fOne h20) k_X11_lengths t_1127 [0, 1, 4, 2, 3] (show ([0, 1, 4, 2, 3] : List Nat).Perm (List.range 5) by decide) rfl rfl rfl (q0 := 0) rfl rfl rfl (Nat.le_of_ble_eq_true rfl) ⟨Nat.le_of_ble_eq_true rfl, Nat.le_of_ble_eq_true rfl⟩ ⟨Nat.zero_le _, Nat.zero_le _⟩ dX11_goBack_53 (fun r21 wr21 hw21 => ?_)
    obtain ⟨e_r21, rfl⟩ := hw21
    obtain ⟨g22, e_g22⟩ : ∃ z : Nat → Int32, z = (F_X11_lengths f18 fOne).2 := ⟨_, rfl⟩
    refine r_ws (I' := [[(o, .inr (9, [.ref aS, .ref aPast, .int x8, .ref aSnap, .int kept, .ref aText, .int len, .int x4, .ref aOne, .ref aTwo, .ref aBoth, .ref aWord, .int cre, .ref aOpen, .ref aTimes, .ref aFar, .ref aQueue, .long hash]))], [(aS, .inl (cI, 335, .inl f18))], [(aOne, .inl (cI, 4, .inl g22))], [(aPast, .inl (cI, 2010, .inl g9))], [(aSnap, .inl (cI, 335, .inl fSnap))]]) (by rw [e_g22]; rfl) ?_
    refine r_pl (I' := [[(o, .inr (9, [.ref aS, .ref aPast, .int x8, .ref aSnap, .int kept, .ref aText, .int len, .int x4, .ref aOne, .ref aTwo, .ref aBoth, .ref aWord, .int cre, .ref aOpen, .ref aTimes, .ref aFar, .ref aQueue, .long hash]))], [(aS, .inl (cI, 335, .inl f18))], [(aPast, .inl (cI, 2010, .inl g9))], [(aSnap, .inl (cI, 335, .inl fSnap))], [(aOne, .inl (cI, 4, .inl g22))]]) [0, 1, 3, 4, 2] (show ([0, 1, 3, 4, 2] : List Nat).Perm (List.range 5) by decide) rfl ?_
    have eF : F_X11_goBack known kept fS fPast fSnap fOne = (r21, x8, x4, f18, g9, g22) := by have q := e_x2.symm; subst q; have q := e_r3.symm; subst q; have q := e_x4.symm; subst q; have q := e_x8.symm; subst q; have q := e_g9.symm; subst q; have q := e_f18.symm; subst q; have q := e_z19.symm; subst q; have q := e_r21.symm; subst q; have q := e_g22.symm; subst q; simp only [F_X11_goBack, if_pos c5]
    exact r_iret (r := r21) C hA hr hlo dX11_goBack_56 [[(o, .inr (9, [.ref aS, .ref aPast, .int x8, .ref aSnap, .int kept, .ref aText, .int len, .int x4, .ref aOne, .ref aTwo, .ref aBoth, .ref aWord, .int cre, .ref aOpen, .ref aTimes, .ref aFar, .ref aQueue, .long hash]))], [(aS, .inl (cI, 335, .inl f18))], [(aPast, .inl (cI, 2010, .inl g9))], [(aSnap, .inl (cI, 335, .inl fSnap))], [(aOne, .inl (cI, 4, .inl g22))]] ⟨by simp only [eF], by simp only [eF]⟩ rfl hQ
  · refine r_iconst (v := 0) C dX11_goBack_19 (by decide) ?_
    have eF : F_X11_goBack known kept fS fPast fSnap fOne = (0, known, x4, fS, fPast, fOne) := by have q := e_x2.symm; subst q; have q := e_r3.symm; subst q; have q := e_x4.symm; subst q; simp only [F_X11_goBack, if_neg c5]
    exact r_iret (r := 0) C hA hr hlo dX11_goBack_20 [[(o, .inr (9, [.ref aS, .ref aPast, .int known, .ref aSnap, .int kept, .ref aText, .int len, .int x4, .ref aOne, .ref aTwo, .ref aBoth, .ref aWord, .int cre, .ref aOpen, .ref aTimes, .ref aFar, .ref aQueue, .long hash]))], [(aS, .inl (cI, 335, .inl fS))], [(aPast, .inl (cI, 2010, .inl fPast))], [(aSnap, .inl (cI, 335, .inl fSnap))], [(aOne, .inl (cI, 4, .inl fOne))]] ⟨by simp only [eF], by simp only [eF]⟩ rfl hQ
theorem k_X11_undo : kV yX11_undo cX11_undo 2 (some .int) 0 := ⟨t_1136, t_1137, t_67, t_1138, by decide +kernel, by decide +kernel, by decide +kernel⟩
def F_X11_undo_L33 (fPast : Nat → Int32) (x6 : Int32) : Nat → (Nat → Int32) → Int32 → (Nat → Int32) × Int32
  | 0, k7, y8 => (k7, y8)
  | nn + 1, k7, y8 => (if 335 ≤ y8 then ((k7, y8)) else (let x11 : Int32 := fPast (((335 : Int32) * x6) + y8).toNatClampNeg; let g13 : Nat → Int32 := upd k7 (y8.toNatClampNeg) x11; let x14 : Int32 := y8 + 1; F_X11_undo_L33 fPast x6 nn g13 x14))
def P_X11_undo_L33 (fPast : Nat → Int32) (x6 : Int32) : Nat → (Nat → Int32) → Int32 → Prop
  | 0, _, _ => False
  | nn + 1, k7, y8 => ((335 ≤ y8 → True) ∧ (¬ 335 ≤ y8 → ((vp_in (((335 : Int32) * x6) + y8) 2010) ∧ (∀ x11 : Int32, x11 = fPast (((335 : Int32) * x6) + y8).toNatClampNeg → ((vp_in y8 335) ∧ (∀ g13 : Nat → Int32, g13 = upd k7 (y8.toNatClampNeg) x11 → (∀ x14 : Int32, x14 = y8 + 1 → (P_X11_undo_L33 fPast x6 nn g13 x14))))))))
set_option maxRecDepth 20000 in
def F_X11_undo (known : Int32) (fS : Nat → Int32) (fPast : Nat → Int32) : Int32 × Int32 × Int32 × (Nat → Int32) := let x2 : Int32 := (if known ≤ 0 then (1) else (0)); let r3 : Int32 := (F_X11_throwsAt x2).1; let x4 : Int32 := (F_X11_throwsAt x2).2; (if r3 = 0 then (let x6 : Int32 := known - 1; let f15 : Nat → Int32 := (F_X11_undo_L33 fPast x6 336 fS 0).1; (x6, x6, x4, f15)) else ((0, known, x4, fS)))
set_option maxRecDepth 20000 in
def P_X11_undo (known : Int32) (fS : Nat → Int32) (fPast : Nat → Int32) : Prop := (∀ x2 : Int32, x2 = ((if known ≤ 0 then (1) else (0))) → (∀ r3 : Int32, r3 = (F_X11_throwsAt x2).1 → (∀ x4 : Int32, x4 = (F_X11_throwsAt x2).2 → ((r3 = 0 → (∀ x6 : Int32, x6 = known - 1 → (P_X11_undo_L33 fPast x6 336 fS 0))) ∧ (¬ r3 = 0 → True)))))
set_option maxRecDepth 20000 in
set_option maxHeartbeats 8000000 in
theorem m_X11_undo (l : Launch) (D : va_G) (cI cL cP cJ : ClassId) (o : Nat) (aS : Nat) (aPast : Nat) (aSnap : Nat) (aText : Nat) (aOne : Nat) (aTwo : Nat) (aBoth : Nat) (aWord : Nat) (aOpen : Nat) (aTimes : Nat) (aFar : Nat) (aQueue : Nat) (known : Int32) (kept : Int32) (len : Int32) (thr : Int32) (cre : Int32) (hash : Int64) (fS : Nat → Int32) (fPast : Nat → Int32) (hp : P_X11_undo known fS fPast) : M vI l yX11_undo cX11_undo 2 (some .int) 1 21 D (tyF cI cL cP cJ) [.ref o] [[(o, .inr (9, [.ref aS, .ref aPast, .int known, .ref aSnap, .int kept, .ref aText, .int len, .int thr, .ref aOne, .ref aTwo, .ref aBoth, .ref aWord, .int cre, .ref aOpen, .ref aTimes, .ref aFar, .ref aQueue, .long hash]))], [(aS, .inl (cI, 335, .inl fS))], [(aPast, .inl (cI, 2010, .inl fPast))]] (fun (r : Int32) (w1 : List va_W) => r = (F_X11_undo known fS fPast).1 ∧ w1 = [[(o, .inr (9, [.ref aS, .ref aPast, .int ((F_X11_undo known fS fPast).2.1), .ref aSnap, .int kept, .ref aText, .int len, .int ((F_X11_undo known fS fPast).2.2.1), .ref aOne, .ref aTwo, .ref aBoth, .ref aWord, .int cre, .ref aOpen, .ref aTimes, .ref aFar, .ref aQueue, .long hash]))], [(aS, .inl (cI, 335, .inl ((F_X11_undo known fS fPast).2.2.2)))], [(aPast, .inl (cI, 2010, .inl fPast))]]) := by
  unfold P_X11_undo at hp
  refine m_start (by decide +kernel) (Nat.le_of_ble_eq_true rfl) (fun p e s m args below meth c A Q hA hQ C hr hlo => ?_)
  refine r_Le (L' := [(0, .ref o)]) rfl ?_
  refine r_aload_n C dX11_undo_0 0 rfl ?_
  refine r_aload_n C dX11_undo_1 0 rfl ?_
  refine r_get (Cn := RX11) (T := TX11) (N := 18) C inT11 0 rfl rfl 2 (by decide) t_895 rfl dX11_undo_2 ?_
  suffices K : ∀ x2 : Int32, x2 = ((if known ≤ 0 then (1) else (0))) → V p l e (rmm 1 21) s m args below meth c 2 D A 0 0 Q [[(o, .inr (9, [.ref aS, .ref aPast, .int known, .ref aSnap, .int kept, .ref aText, .int len, .int thr, .ref aOne, .ref aTwo, .ref aBoth, .ref aWord, .int cre, .ref aOpen, .ref aTimes, .ref aFar, .ref aQueue, .long hash]))], [(aS, .inl (cI, 335, .inl fS))], [(aPast, .inl (cI, 2010, .inl fPast))]] [(0, .ref o)] 13 [.int x2, .ref o] by
    refine r_if_le (tgt := 12) C dX11_undo_5 (by decide) (fun c1 => ?_) (fun c1 => ?_)
    · refine r_iconst (v := 1) C dX11_undo_12 (by decide) ?_
      exact K _ (by simp only [if_pos c1])
    · refine r_iconst (v := 0) C dX11_undo_8 (by decide) ?_
      refine r_goto (tgt := 13) C dX11_undo_9 (by decide) ?_
      exact K _ (by simp only [if_neg c1])
  intro x2 e_x2
  have hp := hp x2 e_x2
  refine r_callV (ci := 9) (wc := [[(o, .inr (9, [.ref aS, .ref aPast, .int known, .ref aSnap, .int kept, .ref aText, .int len, .int thr, .ref aOne, .ref aTwo, .ref aBoth, .ref aWord, .int cre, .ref aOpen, .ref aTimes, .ref aFar, .ref aQueue, .long hash]))]]) (wr := [[(aS, .inl (cI, 335, .inl fS))], [(aPast, .inl (cI, 2010, .inl fPast))]]) (st := []) C (m_X11_throwsAt l D cI cL cP cJ o aS aPast aSnap aText aOne aTwo aBoth aWord aOpen aTimes aFar aQueue known kept len thr cre hash x2) k_X11_throwsAt t_974 [0, 1, 2] (show ([0, 1, 2] : List Nat).Perm (List.range 3) by decide) rfl rfl rfl (q0 := 0) rfl rfl rfl (Nat.le_of_ble_eq_true rfl) ⟨Nat.le_of_ble_eq_true rfl, Nat.le_of_ble_eq_true rfl⟩ ⟨Nat.zero_le _, Nat.zero_le _⟩ dX11_undo_13 (fun r3 wr3 hw3 => ?_)
  obtain ⟨e_r3, rfl⟩ := hw3
  have hp := hp r3 e_r3
  obtain ⟨x4, e_x4⟩ : ∃ z : Int32, z = (F_X11_throwsAt x2).2 := ⟨_, rfl⟩
  have hp := hp x4 e_x4
  refine r_ws (I' := [[(o, .inr (9, [.ref aS, .ref aPast, .int known, .ref aSnap, .int kept, .ref aText, .int len, .int x4, .ref aOne, .ref aTwo, .ref aBoth, .ref aWord, .int cre, .ref aOpen, .ref aTimes, .ref aFar, .ref aQueue, .long hash]))], [(aS, .inl (cI, 335, .inl fS))], [(aPast, .inl (cI, 2010, .inl fPast))]]) (by rw [e_x4]; rfl) ?_
  refine r_if_eq (tgt := 21) C dX11_undo_16 (by decide) (fun c5 => ?_) (fun c5 => ?_)
  · have hp := hp.1 c5
    refine r_aload_n C dX11_undo_21 0 rfl ?_
    refine r_dup C dX11_undo_22 rfl ?_
    refine r_get (Cn := RX11) (T := TX11) (N := 18) C inT11 0 rfl rfl 2 (by decide) t_895 rfl dX11_undo_23 ?_
    refine r_iconst (v := 1) C dX11_undo_26 (by decide) ?_
    refine r_isub C dX11_undo_27 rfl ?_
    refine r_top (fun x6 e_x6 => ?_)
    have hp := hp x6 e_x6
    refine r_put (Cn := RX11) (T := TX11) (N := 18) C inT11 0 rfl rfl 2 (by decide) t_895 tyX11 tyX11_ok nmX11 rfl rfl rfl (Nat.le_of_ble_eq_true rfl) (I' := [[(o, .inr (9, [.ref aS, .ref aPast, .int x6, .ref aSnap, .int kept, .ref aText, .int len, .int x4, .ref aOne, .ref aTwo, .ref aBoth, .ref aWord, .int cre, .ref aOpen, .ref aTimes, .ref aFar, .ref aQueue, .long hash]))], [(aS, .inl (cI, 335, .inl fS))], [(aPast, .inl (cI, 2010, .inl fPast))]]) rfl dX11_undo_28 ?_
    refine r_iconst (v := 0) C dX11_undo_31 (by decide) ?_
    refine r_istore_n (L' := [(1, .int 0), (0, .ref o)]) C dX11_undo_32 (by decide) rfl ?_
    have hpl := hp
    have hL : ∀ (nn : Nat) (k7 : Nat → Int32) (y8 : Int32), P_X11_undo_L33 fPast x6 nn k7 y8 → (∀ f15 : Nat → Int32, f15 = (F_X11_undo_L33 fPast x6 nn k7 y8).1 → ∀ z16 : Int32, z16 = (F_X11_undo_L33 fPast x6 nn k7 y8).2 → V p l e (rmm 1 21) s m args below meth c 2 D A 0 0 Q [[(o, .inr (9, [.ref aS, .ref aPast, .int x6, .ref aSnap, .int kept, .ref aText, .int len, .int x4, .ref aOne, .ref aTwo, .ref aBoth, .ref aWord, .int cre, .ref aOpen, .ref aTimes, .ref aFar, .ref aQueue, .long hash]))], [(aS, .inl (cI, 335, .inl f15))], [(aPast, .inl (cI, 2010, .inl fPast))]] [(1, .int z16), (0, .ref o)] 67 []) → V p l e (rmm 1 21) s m args below meth c 2 D A 0 0 Q [[(o, .inr (9, [.ref aS, .ref aPast, .int x6, .ref aSnap, .int kept, .ref aText, .int len, .int x4, .ref aOne, .ref aTwo, .ref aBoth, .ref aWord, .int cre, .ref aOpen, .ref aTimes, .ref aFar, .ref aQueue, .long hash]))], [(aS, .inl (cI, 335, .inl k7))], [(aPast, .inl (cI, 2010, .inl fPast))]] [(1, .int y8), (0, .ref o)] 33 [] := by
      clear hpl
      intro nn
      induction nn with
      | zero => intro k7 y8 hp kk; rw [P_X11_undo_L33] at hp; exact hp.elim
      | succ nn ih =>
        intro k7 y8 hp kk
        rw [P_X11_undo_L33] at hp
        refine r_iload_n C dX11_undo_33 0 rfl ?_
        refine r_sipush (v := 335) C dX11_undo_34 (by decide) ?_
        refine r_icmp_ge (tgt := 67) C dX11_undo_37 (by decide) (fun c9 => ?_) (fun c9 => ?_)
        · have eF : F_X11_undo_L33 fPast x6 (nn + 1) k7 y8 = (k7, y8) := by simp only [F_X11_undo_L33, if_pos c9]
          exact kk _ (by rw [eF]) _ (by rw [eF])
        · have hp := hp.2 c9
          refine r_aload_n C dX11_undo_40 1 rfl ?_
          refine r_get (Cn := RX11) (T := TX11) (N := 18) C inT11 0 rfl rfl 0 (by decide) t_893 rfl dX11_undo_41 ?_
          refine r_iload_n C dX11_undo_44 0 rfl ?_
          refine r_aload_n C dX11_undo_45 1 rfl ?_
          refine r_get (Cn := RX11) (T := TX11) (N := 18) C inT11 0 rfl rfl 1 (by decide) t_894 rfl dX11_undo_46 ?_
          refine r_sipush (v := 335) C dX11_undo_49 (by decide) ?_
          refine r_aload_n C dX11_undo_52 1 rfl ?_
          refine r_get (Cn := RX11) (T := TX11) (N := 18) C inT11 0 rfl rfl 2 (by decide) t_895 rfl dX11_undo_53 ?_
          refine r_imul C dX11_undo_56 rfl ?_
          refine r_iload_n C dX11_undo_57 0 rfl ?_
          refine r_iadd C dX11_undo_58 rfl ?_
          obtain ⟨h10, hp⟩ := hp
          refine r_iald (z := fPast (((335 : Int32) * x6) + y8).toNatClampNeg) C 2 0 rfl rfl h10 dX11_undo_59 rfl ?_
          refine r_top (fun x11 e_x11 => ?_)
          have hp := hp x11 e_x11
          obtain ⟨h12, hp⟩ := hp
          obtain ⟨g13, e_g13⟩ : ∃ z : Nat → Int32, z = upd k7 (y8.toNatClampNeg) x11 := ⟨_, rfl⟩
          have hp := hp g13 e_g13
          refine r_iast C 1 0 rfl rfl h12 (I' := [[(o, .inr (9, [.ref aS, .ref aPast, .int x6, .ref aSnap, .int kept, .ref aText, .int len, .int x4, .ref aOne, .ref aTwo, .ref aBoth, .ref aWord, .int cre, .ref aOpen, .ref aTimes, .ref aFar, .ref aQueue, .long hash]))], [(aS, .inl (cI, 335, .inl g13))], [(aPast, .inl (cI, 2010, .inl fPast))]]) (by rw [e_g13]; rfl) dX11_undo_60 ?_
          obtain ⟨x14, e_x14⟩ : ∃ z : Int32, z = y8 + 1 := ⟨_, rfl⟩
          have hp := hp x14 e_x14
          refine r_iinc (v := x14) (L' := [(1, .int x14), (0, .ref o)]) C dX11_undo_61 0 rfl (by rw [e_x14]; exact ii (by decide)) (by decide) rfl ?_
          refine r_goto (tgt := 33) C dX11_undo_64 (by decide) ?_
          have eF : F_X11_undo_L33 fPast x6 (nn + 1) k7 y8 = F_X11_undo_L33 fPast x6 nn g13 x14 := by have q := e_x11.symm; subst q; have q := e_g13.symm; subst q; have q := e_x14.symm; subst q; simp only [F_X11_undo_L33, if_neg c9]
          exact ih g13 x14 hp (fun f15 e_f15 z16 e_z16 => kk f15 (by rw [eF]; exact e_f15) z16 (by rw [eF]; exact e_z16))
    refine hL 336 fS 0 hpl (fun f15 e_f15 z16 e_z16 => ?_)
    clear hL hpl
    refine r_aload_n C dX11_undo_67 1 rfl ?_
    refine r_get (Cn := RX11) (T := TX11) (N := 18) C inT11 0 rfl rfl 2 (by decide) t_895 rfl dX11_undo_68 ?_
    have eF : F_X11_undo known fS fPast = (x6, x6, x4, f15) := by have q := e_x2.symm; subst q; have q := e_r3.symm; subst q; have q := e_x4.symm; subst q; have q := e_x6.symm; subst q; have q := e_f15.symm; subst q; have q := e_z16.symm; subst q; simp only [F_X11_undo, if_pos c5]
    exact r_iret (r := x6) C hA hr hlo dX11_undo_71 [[(o, .inr (9, [.ref aS, .ref aPast, .int x6, .ref aSnap, .int kept, .ref aText, .int len, .int x4, .ref aOne, .ref aTwo, .ref aBoth, .ref aWord, .int cre, .ref aOpen, .ref aTimes, .ref aFar, .ref aQueue, .long hash]))], [(aS, .inl (cI, 335, .inl f15))], [(aPast, .inl (cI, 2010, .inl fPast))]] ⟨by simp only [eF], by simp only [eF]⟩ rfl hQ
  · refine r_iconst (v := 0) C dX11_undo_19 (by decide) ?_
    have eF : F_X11_undo known fS fPast = (0, known, x4, fS) := by have q := e_x2.symm; subst q; have q := e_r3.symm; subst q; have q := e_x4.symm; subst q; simp only [F_X11_undo, if_neg c5]
    exact r_iret (r := 0) C hA hr hlo dX11_undo_20 [[(o, .inr (9, [.ref aS, .ref aPast, .int known, .ref aSnap, .int kept, .ref aText, .int len, .int x4, .ref aOne, .ref aTwo, .ref aBoth, .ref aWord, .int cre, .ref aOpen, .ref aTimes, .ref aFar, .ref aQueue, .long hash]))], [(aS, .inl (cI, 335, .inl fS))], [(aPast, .inl (cI, 2010, .inl fPast))]] ⟨by simp only [eF], by simp only [eF]⟩ rfl hQ

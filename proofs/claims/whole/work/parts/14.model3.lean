theorem k_X11_layer : kV yX11_layer cX11_layer 3 (some .int) 2 := ⟨t_1140, t_1141, t_67, t_1142, by decide +kernel, by decide +kernel, by decide +kernel⟩
set_option maxRecDepth 20000 in
def F_X11_layer (fS : Nat → Int32) (letter : Int32) (position : Int32) : Int32 × Int32 := let r1 : Int32 := F_X11_isLetter letter; let x5 : Int32 := (if r1 = 0 then (1) else (let r3 : Int32 := F_X11_isPlace position; (if r3 = 0 then (1) else (0)))); let r6 : Int32 := (F_X11_throwsAt x5).1; let x7 : Int32 := (F_X11_throwsAt x5).2; let x11 : Int32 := (if r6 = 0 then (let r10 : Int32 := F_X11_its fS letter position; r10) else (0)); (x11, x7)
set_option maxRecDepth 20000 in
def P_X11_layer (letter : Int32) (position : Int32) : Prop := (∀ r1 : Int32, r1 = F_X11_isLetter letter → (∀ x5 : Int32, x5 = ((if r1 = 0 then (1) else (let r3 : Int32 := F_X11_isPlace position; (if r3 = 0 then (1) else (0))))) → (∀ r6 : Int32, r6 = (F_X11_throwsAt x5).1 → (∀ x7 : Int32, x7 = (F_X11_throwsAt x5).2 → ((r6 = 0 → (P_X11_its letter position)) ∧ (¬ r6 = 0 → True))))))
set_option maxRecDepth 20000 in
set_option maxHeartbeats 8000000 in
theorem m_X11_layer (l : Launch) (D : va_G) (cI cL cP cJ : ClassId) (o : Nat) (aS : Nat) (aPast : Nat) (aSnap : Nat) (aText : Nat) (aOne : Nat) (aTwo : Nat) (aBoth : Nat) (aWord : Nat) (aOpen : Nat) (aTimes : Nat) (aFar : Nat) (aQueue : Nat) (known : Int32) (kept : Int32) (len : Int32) (thr : Int32) (cre : Int32) (hash : Int64) (fS : Nat → Int32) (letter : Int32) (position : Int32) (hp : P_X11_layer letter position) : M vI l yX11_layer cX11_layer 3 (some .int) 2 42 D (tyF cI cL cP cJ) [.ref o, .int letter, .int position] [[(o, .inr (9, [.ref aS, .ref aPast, .int known, .ref aSnap, .int kept, .ref aText, .int len, .int thr, .ref aOne, .ref aTwo, .ref aBoth, .ref aWord, .int cre, .ref aOpen, .ref aTimes, .ref aFar, .ref aQueue, .long hash]))], [(aS, .inl (cI, 335, .inl fS))]] (fun (r : Int32) (w1 : List va_W) => r = (F_X11_layer fS letter position).1 ∧ w1 = [[(o, .inr (9, [.ref aS, .ref aPast, .int known, .ref aSnap, .int kept, .ref aText, .int len, .int ((F_X11_layer fS letter position).2), .ref aOne, .ref aTwo, .ref aBoth, .ref aWord, .int cre, .ref aOpen, .ref aTimes, .ref aFar, .ref aQueue, .long hash]))], [(aS, .inl (cI, 335, .inl fS))]]) := by
  unfold P_X11_layer at hp
  refine m_start (by decide +kernel) (Nat.le_of_ble_eq_true rfl) (fun p e s m args below meth c A Q hA hQ C hr hlo => ?_)
  refine r_Le (L' := [(0, .ref o), (1, .int letter), (2, .int position)]) rfl ?_
  refine r_aload_n C dX11_layer_0 0 rfl ?_
  refine r_iload_n C dX11_layer_1 1 rfl ?_
  refine r_callS (wc := []) (wr := [[(o, .inr (9, [.ref aS, .ref aPast, .int known, .ref aSnap, .int kept, .ref aText, .int len, .int thr, .ref aOne, .ref aTwo, .ref aBoth, .ref aWord, .int cre, .ref aOpen, .ref aTimes, .ref aFar, .ref aQueue, .long hash]))], [(aS, .inl (cI, 335, .inl fS))]]) (st := [.ref o]) C (m_X11_isLetter l D cI cL cP cJ letter) k_X11_isLetter t_956 [0, 1] (show ([0, 1] : List Nat).Perm (List.range 2) by decide) rfl rfl rfl (Nat.le_of_ble_eq_true rfl) ⟨Nat.le_of_ble_eq_true rfl, Nat.le_of_ble_eq_true rfl⟩ ⟨Nat.zero_le _, Nat.zero_le _⟩ dX11_layer_2 (fun r1 wr1 hw1 => ?_)
  obtain ⟨e_r1, rfl⟩ := hw1
  have hp := hp r1 e_r1
  refine r_ws (I' := [[(o, .inr (9, [.ref aS, .ref aPast, .int known, .ref aSnap, .int kept, .ref aText, .int len, .int thr, .ref aOne, .ref aTwo, .ref aBoth, .ref aWord, .int cre, .ref aOpen, .ref aTimes, .ref aFar, .ref aQueue, .long hash]))], [(aS, .inl (cI, 335, .inl fS))]]) rfl ?_
  suffices K : ∀ x5 : Int32, x5 = ((if r1 = 0 then (1) else (let r3 : Int32 := F_X11_isPlace position; (if r3 = 0 then (1) else (0))))) → V p l e (rmm 2 42) s m args below meth c 3 D A 0 0 Q [[(o, .inr (9, [.ref aS, .ref aPast, .int known, .ref aSnap, .int kept, .ref aText, .int len, .int thr, .ref aOne, .ref aTwo, .ref aBoth, .ref aWord, .int cre, .ref aOpen, .ref aTimes, .ref aFar, .ref aQueue, .long hash]))], [(aS, .inl (cI, 335, .inl fS))]] [(0, .ref o), (1, .int letter), (2, .int position)] 20 [.int x5, .ref o] by
    refine r_if_eq (tgt := 19) C dX11_layer_5 (by decide) (fun c2 => ?_) (fun c2 => ?_)
    · refine r_iconst (v := 1) C dX11_layer_19 (by decide) ?_
      exact K _ (by simp only [if_pos c2])
    · refine r_iload_n C dX11_layer_8 2 rfl ?_
      refine r_callS (wc := []) (wr := [[(o, .inr (9, [.ref aS, .ref aPast, .int known, .ref aSnap, .int kept, .ref aText, .int len, .int thr, .ref aOne, .ref aTwo, .ref aBoth, .ref aWord, .int cre, .ref aOpen, .ref aTimes, .ref aFar, .ref aQueue, .long hash]))], [(aS, .inl (cI, 335, .inl fS))]]) (st := [.ref o]) C (m_X11_isPlace l D cI cL cP cJ position) k_X11_isPlace t_1069 [0, 1] (show ([0, 1] : List Nat).Perm (List.range 2) by decide) rfl rfl rfl (Nat.le_of_ble_eq_true rfl) ⟨Nat.le_of_ble_eq_true rfl, Nat.le_of_ble_eq_true rfl⟩ ⟨Nat.zero_le _, Nat.zero_le _⟩ dX11_layer_9 (fun r3 wr3 hw3 => ?_)
      obtain ⟨e_r3, rfl⟩ := hw3
      refine r_ws (I' := [[(o, .inr (9, [.ref aS, .ref aPast, .int known, .ref aSnap, .int kept, .ref aText, .int len, .int thr, .ref aOne, .ref aTwo, .ref aBoth, .ref aWord, .int cre, .ref aOpen, .ref aTimes, .ref aFar, .ref aQueue, .long hash]))], [(aS, .inl (cI, 335, .inl fS))]]) rfl ?_
      refine r_if_eq (tgt := 19) C dX11_layer_12 (by decide) (fun c4 => ?_) (fun c4 => ?_)
      · refine r_iconst (v := 1) C dX11_layer_19 (by decide) ?_
        exact K _ (by have q := e_r3.symm; subst q; simp only [if_neg c2, if_pos c4])
      · refine r_iconst (v := 0) C dX11_layer_15 (by decide) ?_
        refine r_goto (tgt := 20) C dX11_layer_16 (by decide) ?_
        exact K _ (by have q := e_r3.symm; subst q; simp only [if_neg c2, if_neg c4])
  intro x5 e_x5
  have hp := hp x5 e_x5
  refine r_callV (ci := 9) (wc := [[(o, .inr (9, [.ref aS, .ref aPast, .int known, .ref aSnap, .int kept, .ref aText, .int len, .int thr, .ref aOne, .ref aTwo, .ref aBoth, .ref aWord, .int cre, .ref aOpen, .ref aTimes, .ref aFar, .ref aQueue, .long hash]))]]) (wr := [[(aS, .inl (cI, 335, .inl fS))]]) (st := []) C (m_X11_throwsAt l D cI cL cP cJ o aS aPast aSnap aText aOne aTwo aBoth aWord aOpen aTimes aFar aQueue known kept len thr cre hash x5) k_X11_throwsAt t_974 [0, 1] (show ([0, 1] : List Nat).Perm (List.range 2) by decide) rfl rfl rfl (q0 := 0) rfl rfl rfl (Nat.le_of_ble_eq_true rfl) ⟨Nat.le_of_ble_eq_true rfl, Nat.le_of_ble_eq_true rfl⟩ ⟨Nat.zero_le _, Nat.zero_le _⟩ dX11_layer_20 (fun r6 wr6 hw6 => ?_)
  obtain ⟨e_r6, rfl⟩ := hw6
  have hp := hp r6 e_r6
  obtain ⟨x7, e_x7⟩ : ∃ z : Int32, z = (F_X11_throwsAt x5).2 := ⟨_, rfl⟩
  have hp := hp x7 e_x7
  refine r_ws (I' := [[(o, .inr (9, [.ref aS, .ref aPast, .int known, .ref aSnap, .int kept, .ref aText, .int len, .int x7, .ref aOne, .ref aTwo, .ref aBoth, .ref aWord, .int cre, .ref aOpen, .ref aTimes, .ref aFar, .ref aQueue, .long hash]))], [(aS, .inl (cI, 335, .inl fS))]]) (by rw [e_x7]; rfl) ?_
  have hps := hp
  suffices K : ∀ x11 : Int32, x11 = ((if r6 = 0 then (let r10 : Int32 := F_X11_its fS letter position; r10) else (0))) → V p l e (rmm 2 42) s m args below meth c 3 D A 0 0 Q [[(o, .inr (9, [.ref aS, .ref aPast, .int known, .ref aSnap, .int kept, .ref aText, .int len, .int x7, .ref aOne, .ref aTwo, .ref aBoth, .ref aWord, .int cre, .ref aOpen, .ref aTimes, .ref aFar, .ref aQueue, .long hash]))], [(aS, .inl (cI, 335, .inl fS))]] [(0, .ref o), (1, .int letter), (2, .int position)] 36 [.int x11] by
    have hp := hps
    refine r_if_eq (tgt := 30) C dX11_layer_23 (by decide) (fun c8 => ?_) (fun c8 => ?_)
    · have hp := hp.1 c8
      refine r_aload_n C dX11_layer_30 0 rfl ?_
      refine r_iload_n C dX11_layer_31 1 rfl ?_
      refine r_iload_n C dX11_layer_32 2 rfl ?_
      have h9 := hp
      refine r_callV (ci := 9) (wc := [[(o, .inr (9, [.ref aS, .ref aPast, .int known, .ref aSnap, .int kept, .ref aText, .int len, .int x7, .ref aOne, .ref aTwo, .ref aBoth, .ref aWord, .int cre, .ref aOpen, .ref aTimes, .ref aFar, .ref aQueue, .long hash]))], [(aS, .inl (cI, 335, .inl fS))]]) (wr := []) (st := []) C (m_X11_its l D cI cL cP cJ o aS aPast aSnap aText aOne aTwo aBoth aWord aOpen aTimes aFar aQueue known kept len x7 cre hash fS letter position h9) k_X11_its t_966 [0, 1] (show ([0, 1] : List Nat).Perm (List.range 2) by decide) rfl rfl rfl (q0 := 0) rfl rfl rfl (Nat.le_of_ble_eq_true rfl) ⟨Nat.le_of_ble_eq_true rfl, Nat.le_of_ble_eq_true rfl⟩ ⟨Nat.zero_le _, Nat.zero_le _⟩ dX11_layer_33 (fun r10 wr10 hw10 => ?_)
      obtain ⟨e_r10, rfl⟩ := hw10
      refine r_ws (I' := [[(o, .inr (9, [.ref aS, .ref aPast, .int known, .ref aSnap, .int kept, .ref aText, .int len, .int x7, .ref aOne, .ref aTwo, .ref aBoth, .ref aWord, .int cre, .ref aOpen, .ref aTimes, .ref aFar, .ref aQueue, .long hash]))], [(aS, .inl (cI, 335, .inl fS))]]) rfl ?_
      exact K _ (by have q := e_r10.symm; subst q; simp only [if_pos c8])
    · refine r_iconst (v := 0) C dX11_layer_26 (by decide) ?_
      refine r_goto (tgt := 36) C dX11_layer_27 (by decide) ?_
      exact K _ (by simp only [if_neg c8])
  intro x11 e_x11
  have eF : F_X11_layer fS letter position = (x11, x7) := by have q := e_r1.symm; subst q; have q := e_x5.symm; subst q; have q := e_r6.symm; subst q; have q := e_x7.symm; subst q; have q := e_x11.symm; subst q; rfl
  exact r_iret (r := x11) C hA hr hlo dX11_layer_36 [[(o, .inr (9, [.ref aS, .ref aPast, .int known, .ref aSnap, .int kept, .ref aText, .int len, .int x7, .ref aOne, .ref aTwo, .ref aBoth, .ref aWord, .int cre, .ref aOpen, .ref aTimes, .ref aFar, .ref aQueue, .long hash]))], [(aS, .inl (cI, 335, .inl fS))]] ⟨by simp only [eF], by simp only [eF]⟩ rfl hQ
theorem k_X11_layers : kV yX11_layers cX11_layers 6 (some .int) 2 := ⟨t_1165, t_43, t_67, t_1166, by decide +kernel, by decide +kernel, by decide +kernel⟩
set_option maxRecDepth 20000 in
def F_X11_layers (fS : Nat → Int32) (letter : Int32) (what : Int32) : Int32 := let x8 : Int32 := (if what = 5 then (let r6 : Int32 := F_X11_its fS letter 0; (if r6 = 1 then (1) else (0))) else (let r3 : Int32 := F_X11_its fS letter 0; (if 0 ≤ r3 then (0) else (1)))); let x10 : Int32 := (if x8 = 0 then (0) else (1)); let x11 : Int32 := (0 : Int32) + x10; let x19 : Int32 := (if what = 5 then (let r17 : Int32 := F_X11_its fS letter 1; (if r17 = 2 then (1) else (0))) else (let r14 : Int32 := F_X11_its fS letter 1; (if 0 ≤ r14 then (0) else (1)))); let x21 : Int32 := (if x19 = 0 then (0) else (1)); let x22 : Int32 := x11 + x21; let x30 : Int32 := (if what = 5 then (let r28 : Int32 := F_X11_its fS letter 2; (if r28 = 3 then (1) else (0))) else (let r25 : Int32 := F_X11_its fS letter 2; (if 0 ≤ r25 then (0) else (1)))); let x32 : Int32 := (if x30 = 0 then (0) else (1)); let x33 : Int32 := x22 + x32; let x41 : Int32 := (if what = 5 then (let r39 : Int32 := F_X11_its fS letter 3; (if r39 = 4 then (1) else (0))) else (let r36 : Int32 := F_X11_its fS letter 3; (if 0 ≤ r36 then (0) else (1)))); let x43 : Int32 := (if x41 = 0 then (0) else (1)); let x44 : Int32 := x33 + x43; x44
set_option maxRecDepth 20000 in
def P_X11_layers (fS : Nat → Int32) (letter : Int32) (what : Int32) : Prop := (((what = 5 → (P_X11_its letter 0)) ∧ (¬ what = 5 → (P_X11_its letter 0))) ∧ (∀ x8 : Int32, x8 = ((if what = 5 then (let r6 : Int32 := F_X11_its fS letter 0; (if r6 = 1 then (1) else (0))) else (let r3 : Int32 := F_X11_its fS letter 0; (if 0 ≤ r3 then (0) else (1))))) → (∀ x10 : Int32, x10 = ((if x8 = 0 then (0) else (1))) → (∀ x11 : Int32, x11 = (0 : Int32) + x10 → (((what = 5 → (P_X11_its letter 1)) ∧ (¬ what = 5 → (P_X11_its letter 1))) ∧ (∀ x19 : Int32, x19 = ((if what = 5 then (let r17 : Int32 := F_X11_its fS letter 1; (if r17 = 2 then (1) else (0))) else (let r14 : Int32 := F_X11_its fS letter 1; (if 0 ≤ r14 then (0) else (1))))) → (∀ x21 : Int32, x21 = ((if x19 = 0 then (0) else (1))) → (∀ x22 : Int32, x22 = x11 + x21 → (((what = 5 → (P_X11_its letter 2)) ∧ (¬ what = 5 → (P_X11_its letter 2))) ∧ (∀ x30 : Int32, x30 = ((if what = 5 then (let r28 : Int32 := F_X11_its fS letter 2; (if r28 = 3 then (1) else (0))) else (let r25 : Int32 := F_X11_its fS letter 2; (if 0 ≤ r25 then (0) else (1))))) → (∀ x32 : Int32, x32 = ((if x30 = 0 then (0) else (1))) → (∀ x33 : Int32, x33 = x22 + x32 → ((what = 5 → (P_X11_its letter 3)) ∧ (¬ what = 5 → (P_X11_its letter 3)))))))))))))))
set_option maxRecDepth 20000 in
set_option maxHeartbeats 8000000 in
theorem m_X11_layers (l : Launch) (D : va_G) (cI cL cP cJ : ClassId) (o : Nat) (aS : Nat) (aPast : Nat) (aSnap : Nat) (aText : Nat) (aOne : Nat) (aTwo : Nat) (aBoth : Nat) (aWord : Nat) (aOpen : Nat) (aTimes : Nat) (aFar : Nat) (aQueue : Nat) (known : Int32) (kept : Int32) (len : Int32) (thr : Int32) (cre : Int32) (hash : Int64) (fS : Nat → Int32) (letter : Int32) (what : Int32) (hp : P_X11_layers fS letter what) : M vI l yX11_layers cX11_layers 6 (some .int) 1 22 D (tyF cI cL cP cJ) [.ref o, .int letter, .int what] [[(o, .inr (9, [.ref aS, .ref aPast, .int known, .ref aSnap, .int kept, .ref aText, .int len, .int thr, .ref aOne, .ref aTwo, .ref aBoth, .ref aWord, .int cre, .ref aOpen, .ref aTimes, .ref aFar, .ref aQueue, .long hash]))], [(aS, .inl (cI, 335, .inl fS))]] (fun (r : Int32) (w1 : List va_W) => r = (F_X11_layers fS letter what) ∧ w1 = [[(o, .inr (9, [.ref aS, .ref aPast, .int known, .ref aSnap, .int kept, .ref aText, .int len, .int thr, .ref aOne, .ref aTwo, .ref aBoth, .ref aWord, .int cre, .ref aOpen, .ref aTimes, .ref aFar, .ref aQueue, .long hash]))], [(aS, .inl (cI, 335, .inl fS))]]) := by
  unfold P_X11_layers at hp
  refine m_start (by decide +kernel) (Nat.le_of_ble_eq_true rfl) (fun p e s m args below meth c A Q hA hQ C hr hlo => ?_)
  refine r_Le (L' := [(0, .ref o), (1, .int letter), (2, .int what)]) rfl ?_
  refine r_iconst (v := 0) C dX11_layers_0 (by decide) ?_
  refine r_istore_n (L' := [(3, .int 0), (0, .ref o), (1, .int letter), (2, .int what)]) C dX11_layers_1 (by decide) rfl ?_
  refine r_iconst (v := 0) C dX11_layers_2 (by decide) ?_
  refine r_istore (L' := [(4, .int 0), (3, .int 0), (0, .ref o), (1, .int letter), (2, .int what)]) C dX11_layers_3 (by decide) rfl ?_
  refine r_iload C dX11_layers_5 0 rfl ?_
  refine r_iconst (v := 4) C dX11_layers_7 (by decide) ?_
  refine r_icmp_ge (tgt := 74) C dX11_layers_8 (by decide) (fun c => absurd c (by decide)) (fun _ => ?_)
  refine r_iload_n C dX11_layers_11 4 rfl ?_
  refine r_iconst (v := 5) C dX11_layers_12 (by decide) ?_
  obtain ⟨hps, hp⟩ := hp
  suffices K : ∀ x8 : Int32, x8 = ((if what = 5 then (let r6 : Int32 := F_X11_its fS letter 0; (if r6 = 1 then (1) else (0))) else (let r3 : Int32 := F_X11_its fS letter 0; (if 0 ≤ r3 then (0) else (1))))) → V p l e (rmm 1 22) s m args below meth c 6 D A 0 0 Q [[(o, .inr (9, [.ref aS, .ref aPast, .int known, .ref aSnap, .int kept, .ref aText, .int len, .int thr, .ref aOne, .ref aTwo, .ref aBoth, .ref aWord, .int cre, .ref aOpen, .ref aTimes, .ref aFar, .ref aQueue, .long hash]))], [(aS, .inl (cI, 335, .inl fS))]] [(4, .int 0), (3, .int 0), (0, .ref o), (1, .int letter), (2, .int what)] 53 [.int x8] by
    have hp := hps
    refine r_icmp_ne (tgt := 38) C dX11_layers_13 (by decide) (fun c1 => ?_) (fun c1 => ?_)
    · have hp := hp.2 c1
      refine r_aload_n C dX11_layers_38 2 rfl ?_
      refine r_iload_n C dX11_layers_39 3 rfl ?_
      refine r_iload C dX11_layers_40 0 rfl ?_
      have h2 := hp
      refine r_callV (ci := 9) (wc := [[(o, .inr (9, [.ref aS, .ref aPast, .int known, .ref aSnap, .int kept, .ref aText, .int len, .int thr, .ref aOne, .ref aTwo, .ref aBoth, .ref aWord, .int cre, .ref aOpen, .ref aTimes, .ref aFar, .ref aQueue, .long hash]))], [(aS, .inl (cI, 335, .inl fS))]]) (wr := []) (st := []) C (m_X11_its l D cI cL cP cJ o aS aPast aSnap aText aOne aTwo aBoth aWord aOpen aTimes aFar aQueue known kept len thr cre hash fS letter 0 h2) k_X11_its t_966 [0, 1] (show ([0, 1] : List Nat).Perm (List.range 2) by decide) rfl rfl rfl (q0 := 0) rfl rfl rfl (Nat.le_of_ble_eq_true rfl) ⟨Nat.le_of_ble_eq_true rfl, Nat.le_of_ble_eq_true rfl⟩ ⟨Nat.zero_le _, Nat.zero_le _⟩ dX11_layers_42 (fun r3 wr3 hw3 => ?_)
      obtain ⟨e_r3, rfl⟩ := hw3
      refine r_ws (I' := [[(o, .inr (9, [.ref aS, .ref aPast, .int known, .ref aSnap, .int kept, .ref aText, .int len, .int thr, .ref aOne, .ref aTwo, .ref aBoth, .ref aWord, .int cre, .ref aOpen, .ref aTimes, .ref aFar, .ref aQueue, .long hash]))], [(aS, .inl (cI, 335, .inl fS))]]) rfl ?_
      refine r_if_ge (tgt := 52) C dX11_layers_45 (by decide) (fun c4 => ?_) (fun c4 => ?_)
      · refine r_iconst (v := 0) C dX11_layers_52 (by decide) ?_
        exact K _ (by have q := e_r3.symm; subst q; simp only [if_neg c1, if_pos c4])
      · refine r_iconst (v := 1) C dX11_layers_48 (by decide) ?_
        refine r_goto (tgt := 53) C dX11_layers_49 (by decide) ?_
        exact K _ (by have q := e_r3.symm; subst q; simp only [if_neg c1, if_neg c4])
    · have hp := hp.1 c1
      refine r_aload_n C dX11_layers_16 2 rfl ?_
      refine r_iload_n C dX11_layers_17 3 rfl ?_
      refine r_iload C dX11_layers_18 0 rfl ?_
      have h5 := hp
      refine r_callV (ci := 9) (wc := [[(o, .inr (9, [.ref aS, .ref aPast, .int known, .ref aSnap, .int kept, .ref aText, .int len, .int thr, .ref aOne, .ref aTwo, .ref aBoth, .ref aWord, .int cre, .ref aOpen, .ref aTimes, .ref aFar, .ref aQueue, .long hash]))], [(aS, .inl (cI, 335, .inl fS))]]) (wr := []) (st := []) C (m_X11_its l D cI cL cP cJ o aS aPast aSnap aText aOne aTwo aBoth aWord aOpen aTimes aFar aQueue known kept len thr cre hash fS letter 0 h5) k_X11_its t_966 [0, 1] (show ([0, 1] : List Nat).Perm (List.range 2) by decide) rfl rfl rfl (q0 := 0) rfl rfl rfl (Nat.le_of_ble_eq_true rfl) ⟨Nat.le_of_ble_eq_true rfl, Nat.le_of_ble_eq_true rfl⟩ ⟨Nat.zero_le _, Nat.zero_le _⟩ dX11_layers_20 (fun r6 wr6 hw6 => ?_)
      obtain ⟨e_r6, rfl⟩ := hw6
      refine r_ws (I' := [[(o, .inr (9, [.ref aS, .ref aPast, .int known, .ref aSnap, .int kept, .ref aText, .int len, .int thr, .ref aOne, .ref aTwo, .ref aBoth, .ref aWord, .int cre, .ref aOpen, .ref aTimes, .ref aFar, .ref aQueue, .long hash]))], [(aS, .inl (cI, 335, .inl fS))]]) rfl ?_
      refine r_iload C dX11_layers_23 0 rfl ?_
      refine r_iconst (v := 1) C dX11_layers_25 (by decide) ?_
      refine r_iadd (z := 1) C dX11_layers_26 (by decide) ?_
      refine r_icmp_ne (tgt := 34) C dX11_layers_27 (by decide) (fun c7 => ?_) (fun c7 => ?_)
      · refine r_iconst (v := 0) C dX11_layers_34 (by decide) ?_
        refine r_goto (tgt := 53) C dX11_layers_35 (by decide) ?_
        exact K _ (by have q := e_r6.symm; subst q; simp only [if_pos c1, if_neg c7])
      · refine r_iconst (v := 1) C dX11_layers_30 (by decide) ?_
        refine r_goto (tgt := 53) C dX11_layers_31 (by decide) ?_
        exact K _ (by have q := e_r6.symm; subst q; simp only [if_pos c1, if_pos c7])
  intro x8 e_x8
  have hp := hp x8 e_x8
  refine r_istore (L' := [(5, .int x8), (4, .int 0), (3, .int 0), (0, .ref o), (1, .int letter), (2, .int what)]) C dX11_layers_53 (by decide) rfl ?_
  refine r_iload_n C dX11_layers_55 2 rfl ?_
  refine r_iload C dX11_layers_56 0 rfl ?_
  suffices K : ∀ x10 : Int32, x10 = ((if x8 = 0 then (0) else (1))) → V p l e (rmm 1 22) s m args below meth c 6 D A 0 0 Q [[(o, .inr (9, [.ref aS, .ref aPast, .int known, .ref aSnap, .int kept, .ref aText, .int len, .int thr, .ref aOne, .ref aTwo, .ref aBoth, .ref aWord, .int cre, .ref aOpen, .ref aTimes, .ref aFar, .ref aQueue, .long hash]))], [(aS, .inl (cI, 335, .inl fS))]] [(5, .int x8), (4, .int 0), (3, .int 0), (0, .ref o), (1, .int letter), (2, .int what)] 66 [.int x10, .int 0] by
    refine r_if_eq (tgt := 65) C dX11_layers_58 (by decide) (fun c9 => ?_) (fun c9 => ?_)
    · refine r_iconst (v := 0) C dX11_layers_65 (by decide) ?_
      exact K _ (by simp only [if_pos c9])
    · refine r_iconst (v := 1) C dX11_layers_61 (by decide) ?_
      refine r_goto (tgt := 66) C dX11_layers_62 (by decide) ?_
      exact K _ (by simp only [if_neg c9])
  intro x10 e_x10
  have hp := hp x10 e_x10
  refine r_iadd C dX11_layers_66 rfl ?_
  refine r_top (fun x11 e_x11 => ?_)
  have hp := hp x11 e_x11
  refine r_istore_n (L' := [(3, .int x11), (5, .int x8), (4, .int 0), (0, .ref o), (1, .int letter), (2, .int what)]) C dX11_layers_67 (by decide) rfl ?_
  refine r_iinc (v := 1) (L' := [(4, .int 1), (3, .int x11), (5, .int x8), (0, .ref o), (1, .int letter), (2, .int what)]) C dX11_layers_68 2 rfl (by decide) (by decide) rfl ?_
  refine r_goto (tgt := 5) C dX11_layers_71 (by decide) ?_
  refine r_iload C dX11_layers_5 0 rfl ?_
  refine r_iconst (v := 4) C dX11_layers_7 (by decide) ?_
  refine r_icmp_ge (tgt := 74) C dX11_layers_8 (by decide) (fun c => absurd c (by decide)) (fun _ => ?_)
  refine r_iload_n C dX11_layers_11 5 rfl ?_
  refine r_iconst (v := 5) C dX11_layers_12 (by decide) ?_
  obtain ⟨hps, hp⟩ := hp
  suffices K : ∀ x19 : Int32, x19 = ((if what = 5 then (let r17 : Int32 := F_X11_its fS letter 1; (if r17 = 2 then (1) else (0))) else (let r14 : Int32 := F_X11_its fS letter 1; (if 0 ≤ r14 then (0) else (1))))) → V p l e (rmm 1 22) s m args below meth c 6 D A 0 0 Q [[(o, .inr (9, [.ref aS, .ref aPast, .int known, .ref aSnap, .int kept, .ref aText, .int len, .int thr, .ref aOne, .ref aTwo, .ref aBoth, .ref aWord, .int cre, .ref aOpen, .ref aTimes, .ref aFar, .ref aQueue, .long hash]))], [(aS, .inl (cI, 335, .inl fS))]] [(4, .int 1), (3, .int x11), (5, .int x8), (0, .ref o), (1, .int letter), (2, .int what)] 53 [.int x19] by
    have hp := hps
    refine r_icmp_ne (tgt := 38) C dX11_layers_13 (by decide) (fun c12 => ?_) (fun c12 => ?_)
    · have hp := hp.2 c12
      refine r_aload_n C dX11_layers_38 3 rfl ?_
      refine r_iload_n C dX11_layers_39 4 rfl ?_
      refine r_iload C dX11_layers_40 0 rfl ?_
      have h13 := hp
      refine r_callV (ci := 9) (wc := [[(o, .inr (9, [.ref aS, .ref aPast, .int known, .ref aSnap, .int kept, .ref aText, .int len, .int thr, .ref aOne, .ref aTwo, .ref aBoth, .ref aWord, .int cre, .ref aOpen, .ref aTimes, .ref aFar, .ref aQueue, .long hash]))], [(aS, .inl (cI, 335, .inl fS))]]) (wr := []) (st := []) C (m_X11_its l D cI cL cP cJ o aS aPast aSnap aText aOne aTwo aBoth aWord aOpen aTimes aFar aQueue known kept len thr cre hash fS letter 1 h13) k_X11_its t_966 [0, 1] (show ([0, 1] : List Nat).Perm (List.range 2) by decide) rfl rfl rfl (q0 := 0) rfl rfl rfl (Nat.le_of_ble_eq_true rfl) ⟨Nat.le_of_ble_eq_true rfl, Nat.le_of_ble_eq_true rfl⟩ ⟨Nat.zero_le _, Nat.zero_le _⟩ dX11_layers_42 (fun r14 wr14 hw14 => ?_)
      obtain ⟨e_r14, rfl⟩ := hw14
      refine r_ws (I' := [[(o, .inr (9, [.ref aS, .ref aPast, .int known, .ref aSnap, .int kept, .ref aText, .int len, .int thr, .ref aOne, .ref aTwo, .ref aBoth, .ref aWord, .int cre, .ref aOpen, .ref aTimes, .ref aFar, .ref aQueue, .long hash]))], [(aS, .inl (cI, 335, .inl fS))]]) rfl ?_
      refine r_if_ge (tgt := 52) C dX11_layers_45 (by decide) (fun c15 => ?_) (fun c15 => ?_)
      · refine r_iconst (v := 0) C dX11_layers_52 (by decide) ?_
        exact K _ (by have q := e_r14.symm; subst q; simp only [if_neg c12, if_pos c15])
      · refine r_iconst (v := 1) C dX11_layers_48 (by decide) ?_
        refine r_goto (tgt := 53) C dX11_layers_49 (by decide) ?_
        exact K _ (by have q := e_r14.symm; subst q; simp only [if_neg c12, if_neg c15])
    · have hp := hp.1 c12
      refine r_aload_n C dX11_layers_16 3 rfl ?_
      refine r_iload_n C dX11_layers_17 4 rfl ?_
      refine r_iload C dX11_layers_18 0 rfl ?_
      have h16 := hp
      refine r_callV (ci := 9) (wc := [[(o, .inr (9, [.ref aS, .ref aPast, .int known, .ref aSnap, .int kept, .ref aText, .int len, .int thr, .ref aOne, .ref aTwo, .ref aBoth, .ref aWord, .int cre, .ref aOpen, .ref aTimes, .ref aFar, .ref aQueue, .long hash]))], [(aS, .inl (cI, 335, .inl fS))]]) (wr := []) (st := []) C (m_X11_its l D cI cL cP cJ o aS aPast aSnap aText aOne aTwo aBoth aWord aOpen aTimes aFar aQueue known kept len thr cre hash fS letter 1 h16) k_X11_its t_966 [0, 1] (show ([0, 1] : List Nat).Perm (List.range 2) by decide) rfl rfl rfl (q0 := 0) rfl rfl rfl (Nat.le_of_ble_eq_true rfl) ⟨Nat.le_of_ble_eq_true rfl, Nat.le_of_ble_eq_true rfl⟩ ⟨Nat.zero_le _, Nat.zero_le _⟩ dX11_layers_20 (fun r17 wr17 hw17 => ?_)
      obtain ⟨e_r17, rfl⟩ := hw17
      refine r_ws (I' := [[(o, .inr (9, [.ref aS, .ref aPast, .int known, .ref aSnap, .int kept, .ref aText, .int len, .int thr, .ref aOne, .ref aTwo, .ref aBoth, .ref aWord, .int cre, .ref aOpen, .ref aTimes, .ref aFar, .ref aQueue, .long hash]))], [(aS, .inl (cI, 335, .inl fS))]]) rfl ?_
      refine r_iload C dX11_layers_23 0 rfl ?_
      refine r_iconst (v := 1) C dX11_layers_25 (by decide) ?_
      refine r_iadd (z := 2) C dX11_layers_26 (by decide) ?_
      refine r_icmp_ne (tgt := 34) C dX11_layers_27 (by decide) (fun c18 => ?_) (fun c18 => ?_)
      · refine r_iconst (v := 0) C dX11_layers_34 (by decide) ?_
        refine r_goto (tgt := 53) C dX11_layers_35 (by decide) ?_
        exact K _ (by have q := e_r17.symm; subst q; simp only [if_pos c12, if_neg c18])
      · refine r_iconst (v := 1) C dX11_layers_30 (by decide) ?_
        refine r_goto (tgt := 53) C dX11_layers_31 (by decide) ?_
        exact K _ (by have q := e_r17.symm; subst q; simp only [if_pos c12, if_pos c18])
  intro x19 e_x19
  have hp := hp x19 e_x19
  refine r_istore (L' := [(5, .int x19), (4, .int 1), (3, .int x11), (0, .ref o), (1, .int letter), (2, .int what)]) C dX11_layers_53 (by decide) rfl ?_
  refine r_iload_n C dX11_layers_55 2 rfl ?_
  refine r_iload C dX11_layers_56 0 rfl ?_
  suffices K : ∀ x21 : Int32, x21 = ((if x19 = 0 then (0) else (1))) → V p l e (rmm 1 22) s m args below meth c 6 D A 0 0 Q [[(o, .inr (9, [.ref aS, .ref aPast, .int known, .ref aSnap, .int kept, .ref aText, .int len, .int thr, .ref aOne, .ref aTwo, .ref aBoth, .ref aWord, .int cre, .ref aOpen, .ref aTimes, .ref aFar, .ref aQueue, .long hash]))], [(aS, .inl (cI, 335, .inl fS))]] [(5, .int x19), (4, .int 1), (3, .int x11), (0, .ref o), (1, .int letter), (2, .int what)] 66 [.int x21, .int x11] by
    refine r_if_eq (tgt := 65) C dX11_layers_58 (by decide) (fun c20 => ?_) (fun c20 => ?_)
    · refine r_iconst (v := 0) C dX11_layers_65 (by decide) ?_
      exact K _ (by simp only [if_pos c20])
    · refine r_iconst (v := 1) C dX11_layers_61 (by decide) ?_
      refine r_goto (tgt := 66) C dX11_layers_62 (by decide) ?_
      exact K _ (by simp only [if_neg c20])
  intro x21 e_x21
  have hp := hp x21 e_x21
  refine r_iadd C dX11_layers_66 rfl ?_
  refine r_top (fun x22 e_x22 => ?_)
  have hp := hp x22 e_x22
  refine r_istore_n (L' := [(3, .int x22), (5, .int x19), (4, .int 1), (0, .ref o), (1, .int letter), (2, .int what)]) C dX11_layers_67 (by decide) rfl ?_
  refine r_iinc (v := 2) (L' := [(4, .int 2), (3, .int x22), (5, .int x19), (0, .ref o), (1, .int letter), (2, .int what)]) C dX11_layers_68 2 rfl (by decide) (by decide) rfl ?_
  refine r_goto (tgt := 5) C dX11_layers_71 (by decide) ?_
  refine r_iload C dX11_layers_5 0 rfl ?_
  refine r_iconst (v := 4) C dX11_layers_7 (by decide) ?_
  refine r_icmp_ge (tgt := 74) C dX11_layers_8 (by decide) (fun c => absurd c (by decide)) (fun _ => ?_)
  refine r_iload_n C dX11_layers_11 5 rfl ?_
  refine r_iconst (v := 5) C dX11_layers_12 (by decide) ?_
  obtain ⟨hps, hp⟩ := hp
  suffices K : ∀ x30 : Int32, x30 = ((if what = 5 then (let r28 : Int32 := F_X11_its fS letter 2; (if r28 = 3 then (1) else (0))) else (let r25 : Int32 := F_X11_its fS letter 2; (if 0 ≤ r25 then (0) else (1))))) → V p l e (rmm 1 22) s m args below meth c 6 D A 0 0 Q [[(o, .inr (9, [.ref aS, .ref aPast, .int known, .ref aSnap, .int kept, .ref aText, .int len, .int thr, .ref aOne, .ref aTwo, .ref aBoth, .ref aWord, .int cre, .ref aOpen, .ref aTimes, .ref aFar, .ref aQueue, .long hash]))], [(aS, .inl (cI, 335, .inl fS))]] [(4, .int 2), (3, .int x22), (5, .int x19), (0, .ref o), (1, .int letter), (2, .int what)] 53 [.int x30] by
    have hp := hps
    refine r_icmp_ne (tgt := 38) C dX11_layers_13 (by decide) (fun c23 => ?_) (fun c23 => ?_)
    · have hp := hp.2 c23
      refine r_aload_n C dX11_layers_38 3 rfl ?_
      refine r_iload_n C dX11_layers_39 4 rfl ?_
      refine r_iload C dX11_layers_40 0 rfl ?_
      have h24 := hp
      refine r_callV (ci := 9) (wc := [[(o, .inr (9, [.ref aS, .ref aPast, .int known, .ref aSnap, .int kept, .ref aText, .int len, .int thr, .ref aOne, .ref aTwo, .ref aBoth, .ref aWord, .int cre, .ref aOpen, .ref aTimes, .ref aFar, .ref aQueue, .long hash]))], [(aS, .inl (cI, 335, .inl fS))]]) (wr := []) (st := []) C (m_X11_its l D cI cL cP cJ o aS aPast aSnap aText aOne aTwo aBoth aWord aOpen aTimes aFar aQueue known kept len thr cre hash fS letter 2 h24) k_X11_its t_966 [0, 1] (show ([0, 1] : List Nat).Perm (List.range 2) by decide) rfl rfl rfl (q0 := 0) rfl rfl rfl (Nat.le_of_ble_eq_true rfl) ⟨Nat.le_of_ble_eq_true rfl, Nat.le_of_ble_eq_true rfl⟩ ⟨Nat.zero_le _, Nat.zero_le _⟩ dX11_layers_42 (fun r25 wr25 hw25 => ?_)
      obtain ⟨e_r25, rfl⟩ := hw25
      refine r_ws (I' := [[(o, .inr (9, [.ref aS, .ref aPast, .int known, .ref aSnap, .int kept, .ref aText, .int len, .int thr, .ref aOne, .ref aTwo, .ref aBoth, .ref aWord, .int cre, .ref aOpen, .ref aTimes, .ref aFar, .ref aQueue, .long hash]))], [(aS, .inl (cI, 335, .inl fS))]]) rfl ?_
      refine r_if_ge (tgt := 52) C dX11_layers_45 (by decide) (fun c26 => ?_) (fun c26 => ?_)
      · refine r_iconst (v := 0) C dX11_layers_52 (by decide) ?_
        exact K _ (by have q := e_r25.symm; subst q; simp only [if_neg c23, if_pos c26])
      · refine r_iconst (v := 1) C dX11_layers_48 (by decide) ?_
        refine r_goto (tgt := 53) C dX11_layers_49 (by decide) ?_
        exact K _ (by have q := e_r25.symm; subst q; simp only [if_neg c23, if_neg c26])
    · have hp := hp.1 c23
      refine r_aload_n C dX11_layers_16 3 rfl ?_
      refine r_iload_n C dX11_layers_17 4 rfl ?_
      refine r_iload C dX11_layers_18 0 rfl ?_
      have h27 := hp
      refine r_callV (ci := 9) (wc := [[(o, .inr (9, [.ref aS, .ref aPast, .int known, .ref aSnap, .int kept, .ref aText, .int len, .int thr, .ref aOne, .ref aTwo, .ref aBoth, .ref aWord, .int cre, .ref aOpen, .ref aTimes, .ref aFar, .ref aQueue, .long hash]))], [(aS, .inl (cI, 335, .inl fS))]]) (wr := []) (st := []) C (m_X11_its l D cI cL cP cJ o aS aPast aSnap aText aOne aTwo aBoth aWord aOpen aTimes aFar aQueue known kept len thr cre hash fS letter 2 h27) k_X11_its t_966 [0, 1] (show ([0, 1] : List Nat).Perm (List.range 2) by decide) rfl rfl rfl (q0 := 0) rfl rfl rfl (Nat.le_of_ble_eq_true rfl) ⟨Nat.le_of_ble_eq_true rfl, Nat.le_of_ble_eq_true rfl⟩ ⟨Nat.zero_le _, Nat.zero_le _⟩ dX11_layers_20 (fun r28 wr28 hw28 => ?_)
      obtain ⟨e_r28, rfl⟩ := hw28
      refine r_ws (I' := [[(o, .inr (9, [.ref aS, .ref aPast, .int known, .ref aSnap, .int kept, .ref aText, .int len, .int thr, .ref aOne, .ref aTwo, .ref aBoth, .ref aWord, .int cre, .ref aOpen, .ref aTimes, .ref aFar, .ref aQueue, .long hash]))], [(aS, .inl (cI, 335, .inl fS))]]) rfl ?_
      refine r_iload C dX11_layers_23 0 rfl ?_
      refine r_iconst (v := 1) C dX11_layers_25 (by decide) ?_
      refine r_iadd (z := 3) C dX11_layers_26 (by decide) ?_
      refine r_icmp_ne (tgt := 34) C dX11_layers_27 (by decide) (fun c29 => ?_) (fun c29 => ?_)
      · refine r_iconst (v := 0) C dX11_layers_34 (by decide) ?_
        refine r_goto (tgt := 53) C dX11_layers_35 (by decide) ?_
        exact K _ (by have q := e_r28.symm; subst q; simp only [if_pos c23, if_neg c29])
      · refine r_iconst (v := 1) C dX11_layers_30 (by decide) ?_
        refine r_goto (tgt := 53) C dX11_layers_31 (by decide) ?_
        exact K _ (by have q := e_r28.symm; subst q; simp only [if_pos c23, if_pos c29])
  intro x30 e_x30
  have hp := hp x30 e_x30
  refine r_istore (L' := [(5, .int x30), (4, .int 2), (3, .int x22), (0, .ref o), (1, .int letter), (2, .int what)]) C dX11_layers_53 (by decide) rfl ?_
  refine r_iload_n C dX11_layers_55 2 rfl ?_
  refine r_iload C dX11_layers_56 0 rfl ?_
  suffices K : ∀ x32 : Int32, x32 = ((if x30 = 0 then (0) else (1))) → V p l e (rmm 1 22) s m args below meth c 6 D A 0 0 Q [[(o, .inr (9, [.ref aS, .ref aPast, .int known, .ref aSnap, .int kept, .ref aText, .int len, .int thr, .ref aOne, .ref aTwo, .ref aBoth, .ref aWord, .int cre, .ref aOpen, .ref aTimes, .ref aFar, .ref aQueue, .long hash]))], [(aS, .inl (cI, 335, .inl fS))]] [(5, .int x30), (4, .int 2), (3, .int x22), (0, .ref o), (1, .int letter), (2, .int what)] 66 [.int x32, .int x22] by
    refine r_if_eq (tgt := 65) C dX11_layers_58 (by decide) (fun c31 => ?_) (fun c31 => ?_)
    · refine r_iconst (v := 0) C dX11_layers_65 (by decide) ?_
      exact K _ (by simp only [if_pos c31])
    · refine r_iconst (v := 1) C dX11_layers_61 (by decide) ?_
      refine r_goto (tgt := 66) C dX11_layers_62 (by decide) ?_
      exact K _ (by simp only [if_neg c31])
  intro x32 e_x32
  have hp := hp x32 e_x32
  refine r_iadd C dX11_layers_66 rfl ?_
  refine r_top (fun x33 e_x33 => ?_)
  have hp := hp x33 e_x33
  refine r_istore_n (L' := [(3, .int x33), (5, .int x30), (4, .int 2), (0, .ref o), (1, .int letter), (2, .int what)]) C dX11_layers_67 (by decide) rfl ?_
  refine r_iinc (v := 3) (L' := [(4, .int 3), (3, .int x33), (5, .int x30), (0, .ref o), (1, .int letter), (2, .int what)]) C dX11_layers_68 2 rfl (by decide) (by decide) rfl ?_
  refine r_goto (tgt := 5) C dX11_layers_71 (by decide) ?_
  refine r_iload C dX11_layers_5 0 rfl ?_
  refine r_iconst (v := 4) C dX11_layers_7 (by decide) ?_
  refine r_icmp_ge (tgt := 74) C dX11_layers_8 (by decide) (fun c => absurd c (by decide)) (fun _ => ?_)
  refine r_iload_n C dX11_layers_11 5 rfl ?_
  refine r_iconst (v := 5) C dX11_layers_12 (by decide) ?_
  have hps := hp
  suffices K : ∀ x41 : Int32, x41 = ((if what = 5 then (let r39 : Int32 := F_X11_its fS letter 3; (if r39 = 4 then (1) else (0))) else (let r36 : Int32 := F_X11_its fS letter 3; (if 0 ≤ r36 then (0) else (1))))) → V p l e (rmm 1 22) s m args below meth c 6 D A 0 0 Q [[(o, .inr (9, [.ref aS, .ref aPast, .int known, .ref aSnap, .int kept, .ref aText, .int len, .int thr, .ref aOne, .ref aTwo, .ref aBoth, .ref aWord, .int cre, .ref aOpen, .ref aTimes, .ref aFar, .ref aQueue, .long hash]))], [(aS, .inl (cI, 335, .inl fS))]] [(4, .int 3), (3, .int x33), (5, .int x30), (0, .ref o), (1, .int letter), (2, .int what)] 53 [.int x41] by
    have hp := hps
    refine r_icmp_ne (tgt := 38) C dX11_layers_13 (by decide) (fun c34 => ?_) (fun c34 => ?_)
    · have hp := hp.2 c34
      refine r_aload_n C dX11_layers_38 3 rfl ?_
      refine r_iload_n C dX11_layers_39 4 rfl ?_
      refine r_iload C dX11_layers_40 0 rfl ?_
      have h35 := hp
      refine r_callV (ci := 9) (wc := [[(o, .inr (9, [.ref aS, .ref aPast, .int known, .ref aSnap, .int kept, .ref aText, .int len, .int thr, .ref aOne, .ref aTwo, .ref aBoth, .ref aWord, .int cre, .ref aOpen, .ref aTimes, .ref aFar, .ref aQueue, .long hash]))], [(aS, .inl (cI, 335, .inl fS))]]) (wr := []) (st := []) C (m_X11_its l D cI cL cP cJ o aS aPast aSnap aText aOne aTwo aBoth aWord aOpen aTimes aFar aQueue known kept len thr cre hash fS letter 3 h35) k_X11_its t_966 [0, 1] (show ([0, 1] : List Nat).Perm (List.range 2) by decide) rfl rfl rfl (q0 := 0) rfl rfl rfl (Nat.le_of_ble_eq_true rfl) ⟨Nat.le_of_ble_eq_true rfl, Nat.le_of_ble_eq_true rfl⟩ ⟨Nat.zero_le _, Nat.zero_le _⟩ dX11_layers_42 (fun r36 wr36 hw36 => ?_)
      obtain ⟨e_r36, rfl⟩ := hw36
      refine r_ws (I' := [[(o, .inr (9, [.ref aS, .ref aPast, .int known, .ref aSnap, .int kept, .ref aText, .int len, .int thr, .ref aOne, .ref aTwo, .ref aBoth, .ref aWord, .int cre, .ref aOpen, .ref aTimes, .ref aFar, .ref aQueue, .long hash]))], [(aS, .inl (cI, 335, .inl fS))]]) rfl ?_
      refine r_if_ge (tgt := 52) C dX11_layers_45 (by decide) (fun c37 => ?_) (fun c37 => ?_)
      · refine r_iconst (v := 0) C dX11_layers_52 (by decide) ?_
        exact K _ (by have q := e_r36.symm; subst q; simp only [if_neg c34, if_pos c37])
      · refine r_iconst (v := 1) C dX11_layers_48 (by decide) ?_
        refine r_goto (tgt := 53) C dX11_layers_49 (by decide) ?_
        exact K _ (by have q := e_r36.symm; subst q; simp only [if_neg c34, if_neg c37])
    · have hp := hp.1 c34
      refine r_aload_n C dX11_layers_16 3 rfl ?_
      refine r_iload_n C dX11_layers_17 4 rfl ?_
      refine r_iload C dX11_layers_18 0 rfl ?_
      have h38 := hp
      refine r_callV (ci := 9) (wc := [[(o, .inr (9, [.ref aS, .ref aPast, .int known, .ref aSnap, .int kept, .ref aText, .int len, .int thr, .ref aOne, .ref aTwo, .ref aBoth, .ref aWord, .int cre, .ref aOpen, .ref aTimes, .ref aFar, .ref aQueue, .long hash]))], [(aS, .inl (cI, 335, .inl fS))]]) (wr := []) (st := []) C (m_X11_its l D cI cL cP cJ o aS aPast aSnap aText aOne aTwo aBoth aWord aOpen aTimes aFar aQueue known kept len thr cre hash fS letter 3 h38) k_X11_its t_966 [0, 1] (show ([0, 1] : List Nat).Perm (List.range 2) by decide) rfl rfl rfl (q0 := 0) rfl rfl rfl (Nat.le_of_ble_eq_true rfl) ⟨Nat.le_of_ble_eq_true rfl, Nat.le_of_ble_eq_true rfl⟩ ⟨Nat.zero_le _, Nat.zero_le _⟩ dX11_layers_20 (fun r39 wr39 hw39 => ?_)
      obtain ⟨e_r39, rfl⟩ := hw39
      refine r_ws (I' := [[(o, .inr (9, [.ref aS, .ref aPast, .int known, .ref aSnap, .int kept, .ref aText, .int len, .int thr, .ref aOne, .ref aTwo, .ref aBoth, .ref aWord, .int cre, .ref aOpen, .ref aTimes, .ref aFar, .ref aQueue, .long hash]))], [(aS, .inl (cI, 335, .inl fS))]]) rfl ?_
      refine r_iload C dX11_layers_23 0 rfl ?_
      refine r_iconst (v := 1) C dX11_layers_25 (by decide) ?_
      refine r_iadd (z := 4) C dX11_layers_26 (by decide) ?_
      refine r_icmp_ne (tgt := 34) C dX11_layers_27 (by decide) (fun c40 => ?_) (fun c40 => ?_)
      · refine r_iconst (v := 0) C dX11_layers_34 (by decide) ?_
        refine r_goto (tgt := 53) C dX11_layers_35 (by decide) ?_
        exact K _ (by have q := e_r39.symm; subst q; simp only [if_pos c34, if_neg c40])
      · refine r_iconst (v := 1) C dX11_layers_30 (by decide) ?_
        refine r_goto (tgt := 53) C dX11_layers_31 (by decide) ?_
        exact K _ (by have q := e_r39.symm; subst q; simp only [if_pos c34, if_pos c40])
  intro x41 e_x41
  refine r_istore (L' := [(5, .int x41), (4, .int 3), (3, .int x33), (0, .ref o), (1, .int letter), (2, .int what)]) C dX11_layers_53 (by decide) rfl ?_
  refine r_iload_n C dX11_layers_55 2 rfl ?_
  refine r_iload C dX11_layers_56 0 rfl ?_
  suffices K : ∀ x43 : Int32, x43 = ((if x41 = 0 then (0) else (1))) → V p l e (rmm 1 22) s m args below meth c 6 D A 0 0 Q [[(o, .inr (9, [.ref aS, .ref aPast, .int known, .ref aSnap, .int kept, .ref aText, .int len, .int thr, .ref aOne, .ref aTwo, .ref aBoth, .ref aWord, .int cre, .ref aOpen, .ref aTimes, .ref aFar, .ref aQueue, .long hash]))], [(aS, .inl (cI, 335, .inl fS))]] [(5, .int x41), (4, .int 3), (3, .int x33), (0, .ref o), (1, .int letter), (2, .int what)] 66 [.int x43, .int x33] by
    refine r_if_eq (tgt := 65) C dX11_layers_58 (by decide) (fun c42 => ?_) (fun c42 => ?_)
    · refine r_iconst (v := 0) C dX11_layers_65 (by decide) ?_
      exact K _ (by simp only [if_pos c42])
    · refine r_iconst (v := 1) C dX11_layers_61 (by decide) ?_
      refine r_goto (tgt := 66) C dX11_layers_62 (by decide) ?_
      exact K _ (by simp only [if_neg c42])
  intro x43 e_x43
  refine r_iadd C dX11_layers_66 rfl ?_
  refine r_top (fun x44 e_x44 => ?_)
  refine r_istore_n (L' := [(3, .int x44), (5, .int x41), (4, .int 3), (0, .ref o), (1, .int letter), (2, .int what)]) C dX11_layers_67 (by decide) rfl ?_
  refine r_iinc (v := 4) (L' := [(4, .int 4), (3, .int x44), (5, .int x41), (0, .ref o), (1, .int letter), (2, .int what)]) C dX11_layers_68 2 rfl (by decide) (by decide) rfl ?_
  refine r_goto (tgt := 5) C dX11_layers_71 (by decide) ?_
  refine r_iload C dX11_layers_5 0 rfl ?_
  refine r_iconst (v := 4) C dX11_layers_7 (by decide) ?_
  refine r_icmp_ge (tgt := 74) C dX11_layers_8 (by decide) (fun _ => ?_) (fun c => absurd c (by decide))
  refine r_iload_n C dX11_layers_74 1 rfl ?_
  have eF : F_X11_layers fS letter what = x44 := by have q := e_x8.symm; subst q; have q := e_x10.symm; subst q; have q := e_x11.symm; subst q; have q := e_x19.symm; subst q; have q := e_x21.symm; subst q; have q := e_x22.symm; subst q; have q := e_x30.symm; subst q; have q := e_x32.symm; subst q; have q := e_x33.symm; subst q; have q := e_x41.symm; subst q; have q := e_x43.symm; subst q; have q := e_x44.symm; subst q; rfl
  exact r_iret (r := x44) C hA hr hlo dX11_layers_75 [[(o, .inr (9, [.ref aS, .ref aPast, .int known, .ref aSnap, .int kept, .ref aText, .int len, .int thr, .ref aOne, .ref aTwo, .ref aBoth, .ref aWord, .int cre, .ref aOpen, .ref aTimes, .ref aFar, .ref aQueue, .long hash]))], [(aS, .inl (cI, 335, .inl fS))]] ⟨by simp only [eF], rfl⟩ rfl hQ
theorem k_X11_foldedLength : kV yX11_foldedLength cX11_foldedLength 3 (some .int) 2 := ⟨t_1173, t_45, t_67, t_1174, by decide +kernel, by decide +kernel, by decide +kernel⟩
set_option maxRecDepth 20000 in
def F_X11_foldedLength (fS : Nat → Int32) (fOne : Nat → Int32) (letter : Int32) (crease : Int32) : Int32 × (Nat → Int32) := let g3 : Nat → Int32 := F_X11_takes fS fOne letter; let g6 : Nat → Int32 := F_X11_foldsOne g3 crease; let r7 : Int32 := F_X11_lengthOfOne g6; (r7, g6)
set_option maxRecDepth 20000 in
def P_X11_foldedLength (fS : Nat → Int32) (fOne : Nat → Int32) (letter : Int32) (crease : Int32) : Prop := ((P_X11_takes fS fOne letter) ∧ (∀ g3 : Nat → Int32, g3 = F_X11_takes fS fOne letter → (P_X11_foldsOne g3 crease)))
set_option maxRecDepth 20000 in
set_option maxHeartbeats 8000000 in
theorem m_X11_foldedLength (l : Launch) (D : va_G) (cI cL cP cJ : ClassId) (o : Nat) (aS : Nat) (aPast : Nat) (aSnap : Nat) (aText : Nat) (aOne : Nat) (aTwo : Nat) (aBoth : Nat) (aWord : Nat) (aOpen : Nat) (aTimes : Nat) (aFar : Nat) (aQueue : Nat) (known : Int32) (kept : Int32) (len : Int32) (thr : Int32) (cre : Int32) (hash : Int64) (fS : Nat → Int32) (fOne : Nat → Int32) (letter : Int32) (crease : Int32) (hp : P_X11_foldedLength fS fOne letter crease) : M vI l yX11_foldedLength cX11_foldedLength 3 (some .int) 2 44 D (tyF cI cL cP cJ) [.ref o, .int letter, .int crease] [[(o, .inr (9, [.ref aS, .ref aPast, .int known, .ref aSnap, .int kept, .ref aText, .int len, .int thr, .ref aOne, .ref aTwo, .ref aBoth, .ref aWord, .int cre, .ref aOpen, .ref aTimes, .ref aFar, .ref aQueue, .long hash]))], [(aS, .inl (cI, 335, .inl fS))], [(aOne, .inl (cI, 4, .inl fOne))]] (fun (r : Int32) (w1 : List va_W) => r = (F_X11_foldedLength fS fOne letter crease).1 ∧ w1 = [[(o, .inr (9, [.ref aS, .ref aPast, .int known, .ref aSnap, .int kept, .ref aText, .int len, .int thr, .ref aOne, .ref aTwo, .ref aBoth, .ref aWord, .int cre, .ref aOpen, .ref aTimes, .ref aFar, .ref aQueue, .long hash]))], [(aS, .inl (cI, 335, .inl fS))], [(aOne, .inl (cI, 4, .inl ((F_X11_foldedLength fS fOne letter crease).2)))]]) := by
  unfold P_X11_foldedLength at hp
  refine m_start (by decide +kernel) (Nat.le_of_ble_eq_true rfl) (fun p e s m args below meth c A Q hA hQ C hr hlo => ?_)
  refine r_Le (L' := [(0, .ref o), (1, .int letter), (2, .int crease)]) rfl ?_
  refine r_aload_n C dX11_foldedLength_0 0 rfl ?_
  refine r_iload_n C dX11_foldedLength_1 1 rfl ?_
  obtain ⟨h1, hp⟩ := hp
  refine r_callV (ci := 9) (wc := [[(o, .inr (9, [.ref aS, .ref aPast, .int known, .ref aSnap, .int kept, .ref aText, .int len, .int thr, .ref aOne, .ref aTwo, .ref aBoth, .ref aWord, .int cre, .ref aOpen, .ref aTimes, .ref aFar, .ref aQueue, .long hash]))], [(aS, .inl (cI, 335, .inl fS))], [(aOne, .inl (cI, 4, .inl fOne))]]) (wr := []) (st := []) C (m_X11_takes l D cI cL cP cJ o aS aPast aSnap aText aOne aTwo aBoth aWord aOpen aTimes aFar aQueue known kept len thr cre hash fS fOne letter h1) k_X11_takes t_990 [0, 1, 2] (show ([0, 1, 2] : List Nat).Perm (List.range 3) by decide) rfl rfl rfl (q0 := 0) rfl rfl rfl (Nat.le_of_ble_eq_true rfl) ⟨Nat.le_of_ble_eq_true rfl, Nat.le_of_ble_eq_true rfl⟩ ⟨Nat.zero_le _, Nat.zero_le _⟩ dX11_foldedLength_2 (fun r2 wr2 hw2 => ?_)
  obtain rfl := hw2
  obtain ⟨g3, e_g3⟩ : ∃ z : Nat → Int32, z = F_X11_takes fS fOne letter := ⟨_, rfl⟩
  have hp := hp g3 e_g3
  refine r_ws (I' := [[(o, .inr (9, [.ref aS, .ref aPast, .int known, .ref aSnap, .int kept, .ref aText, .int len, .int thr, .ref aOne, .ref aTwo, .ref aBoth, .ref aWord, .int cre, .ref aOpen, .ref aTimes, .ref aFar, .ref aQueue, .long hash]))], [(aS, .inl (cI, 335, .inl fS))], [(aOne, .inl (cI, 4, .inl g3))]]) (by rw [e_g3]; rfl) ?_
  refine r_aload_n C dX11_foldedLength_5 0 rfl ?_
  refine r_iload_n C dX11_foldedLength_6 2 rfl ?_
  have h4 := hp
  refine r_callV (ci := 9) (wc := [[(o, .inr (9, [.ref aS, .ref aPast, .int known, .ref aSnap, .int kept, .ref aText, .int len, .int thr, .ref aOne, .ref aTwo, .ref aBoth, .ref aWord, .int cre, .ref aOpen, .ref aTimes, .ref aFar, .ref aQueue, .long hash]))], [(aOne, .inl (cI, 4, .inl g3))]]) (wr := [[(aS, .inl (cI, 335, .inl fS))]]) (st := []) C (m_X11_foldsOne l D cI cL cP cJ o aS aPast aSnap aText aOne aTwo aBoth aWord aOpen aTimes aFar aQueue known kept len thr cre hash g3 crease h4) k_X11_foldsOne t_994 [0, 2, 1] (show ([0, 2, 1] : List Nat).Perm (List.range 3) by decide) rfl rfl rfl (q0 := 0) rfl rfl rfl (Nat.le_of_ble_eq_true rfl) ⟨Nat.le_of_ble_eq_true rfl, Nat.le_of_ble_eq_true rfl⟩ ⟨Nat.zero_le _, Nat.zero_le _⟩ dX11_foldedLength_7 (fun r5 wr5 hw5 => ?_)
  obtain rfl := hw5
  obtain ⟨g6, e_g6⟩ : ∃ z : Nat → Int32, z = F_X11_foldsOne g3 crease := ⟨_, rfl⟩
  refine r_ws (I' := [[(o, .inr (9, [.ref aS, .ref aPast, .int known, .ref aSnap, .int kept, .ref aText, .int len, .int thr, .ref aOne, .ref aTwo, .ref aBoth, .ref aWord, .int cre, .ref aOpen, .ref aTimes, .ref aFar, .ref aQueue, .long hash]))], [(aOne, .inl (cI, 4, .inl g6))], [(aS, .inl (cI, 335, .inl fS))]]) (by rw [e_g6]; rfl) ?_
  refine r_aload_n C dX11_foldedLength_10 0 rfl ?_
  refine r_callV (ci := 9) (wc := [[(o, .inr (9, [.ref aS, .ref aPast, .int known, .ref aSnap, .int kept, .ref aText, .int len, .int thr, .ref aOne, .ref aTwo, .ref aBoth, .ref aWord, .int cre, .ref aOpen, .ref aTimes, .ref aFar, .ref aQueue, .long hash]))], [(aOne, .inl (cI, 4, .inl g6))]]) (wr := [[(aS, .inl (cI, 335, .inl fS))]]) (st := []) C (m_X11_lengthOfOne l D cI cL cP cJ o aS aPast aSnap aText aOne aTwo aBoth aWord aOpen aTimes aFar aQueue known kept len thr cre hash g6) k_X11_lengthOfOne t_1006 [0, 1, 2] (show ([0, 1, 2] : List Nat).Perm (List.range 3) by decide) rfl rfl rfl (q0 := 0) rfl rfl rfl (Nat.le_of_ble_eq_true rfl) ⟨Nat.le_of_ble_eq_true rfl, Nat.le_of_ble_eq_true rfl⟩ ⟨Nat.zero_le _, Nat.zero_le _⟩ dX11_foldedLength_11 (fun r7 wr7 hw7 => ?_)
  obtain ⟨e_r7, rfl⟩ := hw7
  refine r_ws (I' := [[(o, .inr (9, [.ref aS, .ref aPast, .int known, .ref aSnap, .int kept, .ref aText, .int len, .int thr, .ref aOne, .ref aTwo, .ref aBoth, .ref aWord, .int cre, .ref aOpen, .ref aTimes, .ref aFar, .ref aQueue, .long hash]))], [(aOne, .inl (cI, 4, .inl g6))], [(aS, .inl (cI, 335, .inl fS))]]) rfl ?_
  refine r_pl (I' := [[(o, .inr (9, [.ref aS, .ref aPast, .int known, .ref aSnap, .int kept, .ref aText, .int len, .int thr, .ref aOne, .ref aTwo, .ref aBoth, .ref aWord, .int cre, .ref aOpen, .ref aTimes, .ref aFar, .ref aQueue, .long hash]))], [(aS, .inl (cI, 335, .inl fS))], [(aOne, .inl (cI, 4, .inl g6))]]) [0, 2, 1] (show ([0, 2, 1] : List Nat).Perm (List.range 3) by decide) rfl ?_
  have eF : F_X11_foldedLength fS fOne letter crease = (r7, g6) := by have q := e_g3.symm; subst q; have q := e_g6.symm; subst q; have q := e_r7.symm; subst q; rfl
  exact r_iret (r := r7) C hA hr hlo dX11_foldedLength_14 [[(o, .inr (9, [.ref aS, .ref aPast, .int known, .ref aSnap, .int kept, .ref aText, .int len, .int thr, .ref aOne, .ref aTwo, .ref aBoth, .ref aWord, .int cre, .ref aOpen, .ref aTimes, .ref aFar, .ref aQueue, .long hash]))], [(aS, .inl (cI, 335, .inl fS))], [(aOne, .inl (cI, 4, .inl g6))]] ⟨by simp only [eF], by simp only [eF]⟩ rfl hQ
theorem k_X11_creasesOf : kV yX11_creasesOf cX11_creasesOf 7 (some .int) 2 := ⟨t_1169, t_44, t_67, t_1170, by decide +kernel, by decide +kernel, by decide +kernel⟩
set_option maxRecDepth 20000 in
def F_X11_creasesOf (fS : Nat → Int32) (fOne : Nat → Int32) (letter : Int32) (what : Int32) : Int32 × (Nat → Int32) := let r2 : Int32 := (F_X11_lengthOf fS fOne letter).1; let g3 : Nat → Int32 := (F_X11_lengthOf fS fOne letter).2; let x12 : Int32 := (if what = 8 then (let r9 : Int32 := (F_X11_foldedLength fS g3 letter 0).1; (if r2 ≤ r9 then (0) else (1))) else (let r6 : Int32 := F_X11_reason fS letter 0; (if r6 ≤ 0 then (0) else (1)))); let g13 : Nat → Int32 := (if what = 8 then (let r9 : Int32 := (F_X11_foldedLength fS g3 letter 0).1; let g10 : Nat → Int32 := (F_X11_foldedLength fS g3 letter 0).2; (if r2 ≤ r9 then (g10) else (g10))) else (let r6 : Int32 := F_X11_reason fS letter 0; (if r6 ≤ 0 then (g3) else (g3)))); let x15 : Int32 := (if x12 = 0 then (0) else (1)); let x16 : Int32 := (0 : Int32) ||| x15; let x25 : Int32 := (if what = 8 then (let r22 : Int32 := (F_X11_foldedLength fS g13 letter 1).1; (if r2 ≤ r22 then (0) else (1))) else (let r19 : Int32 := F_X11_reason fS letter 1; (if r19 ≤ 0 then (0) else (1)))); let g26 : Nat → Int32 := (if what = 8 then (let r22 : Int32 := (F_X11_foldedLength fS g13 letter 1).1; let g23 : Nat → Int32 := (F_X11_foldedLength fS g13 letter 1).2; (if r2 ≤ r22 then (g23) else (g23))) else (let r19 : Int32 := F_X11_reason fS letter 1; (if r19 ≤ 0 then (g13) else (g13)))); let x28 : Int32 := (if x25 = 0 then (0) else (2)); let x29 : Int32 := x16 ||| x28; let x38 : Int32 := (if what = 8 then (let r35 : Int32 := (F_X11_foldedLength fS g26 letter 2).1; (if r2 ≤ r35 then (0) else (1))) else (let r32 : Int32 := F_X11_reason fS letter 2; (if r32 ≤ 0 then (0) else (1)))); let g39 : Nat → Int32 := (if what = 8 then (let r35 : Int32 := (F_X11_foldedLength fS g26 letter 2).1; let g36 : Nat → Int32 := (F_X11_foldedLength fS g26 letter 2).2; (if r2 ≤ r35 then (g36) else (g36))) else (let r32 : Int32 := F_X11_reason fS letter 2; (if r32 ≤ 0 then (g26) else (g26)))); let x41 : Int32 := (if x38 = 0 then (0) else (4)); let x42 : Int32 := x29 ||| x41; let x51 : Int32 := (if what = 8 then (let r48 : Int32 := (F_X11_foldedLength fS g39 letter 3).1; (if r2 ≤ r48 then (0) else (1))) else (let r45 : Int32 := F_X11_reason fS letter 3; (if r45 ≤ 0 then (0) else (1)))); let g52 : Nat → Int32 := (if what = 8 then (let r48 : Int32 := (F_X11_foldedLength fS g39 letter 3).1; let g49 : Nat → Int32 := (F_X11_foldedLength fS g39 letter 3).2; (if r2 ≤ r48 then (g49) else (g49))) else (let r45 : Int32 := F_X11_reason fS letter 3; (if r45 ≤ 0 then (g39) else (g39)))); let x54 : Int32 := (if x51 = 0 then (0) else (8)); let x55 : Int32 := x42 ||| x54; (x55, g52)
set_option maxRecDepth 20000 in
def P_X11_creasesOf (fS : Nat → Int32) (fOne : Nat → Int32) (letter : Int32) (what : Int32) : Prop := ((P_X11_lengthOf fS fOne letter) ∧ (∀ r2 : Int32, r2 = (F_X11_lengthOf fS fOne letter).1 → (∀ g3 : Nat → Int32, g3 = (F_X11_lengthOf fS fOne letter).2 → (((what = 8 → (P_X11_foldedLength fS g3 letter 0)) ∧ (¬ what = 8 → (P_X11_reason fS letter))) ∧ (∀ x12 : Int32, x12 = ((if what = 8 then (let r9 : Int32 := (F_X11_foldedLength fS g3 letter 0).1; (if r2 ≤ r9 then (0) else (1))) else (let r6 : Int32 := F_X11_reason fS letter 0; (if r6 ≤ 0 then (0) else (1))))) → (∀ g13 : Nat → Int32, g13 = ((if what = 8 then (let r9 : Int32 := (F_X11_foldedLength fS g3 letter 0).1; let g10 : Nat → Int32 := (F_X11_foldedLength fS g3 letter 0).2; (if r2 ≤ r9 then (g10) else (g10))) else (let r6 : Int32 := F_X11_reason fS letter 0; (if r6 ≤ 0 then (g3) else (g3))))) → (∀ x15 : Int32, x15 = ((if x12 = 0 then (0) else (1))) → (∀ x16 : Int32, x16 = (0 : Int32) ||| x15 → (((what = 8 → (P_X11_foldedLength fS g13 letter 1)) ∧ (¬ what = 8 → (P_X11_reason fS letter))) ∧ (∀ x25 : Int32, x25 = ((if what = 8 then (let r22 : Int32 := (F_X11_foldedLength fS g13 letter 1).1; (if r2 ≤ r22 then (0) else (1))) else (let r19 : Int32 := F_X11_reason fS letter 1; (if r19 ≤ 0 then (0) else (1))))) → (∀ g26 : Nat → Int32, g26 = ((if what = 8 then (let r22 : Int32 := (F_X11_foldedLength fS g13 letter 1).1; let g23 : Nat → Int32 := (F_X11_foldedLength fS g13 letter 1).2; (if r2 ≤ r22 then (g23) else (g23))) else (let r19 : Int32 := F_X11_reason fS letter 1; (if r19 ≤ 0 then (g13) else (g13))))) → (∀ x28 : Int32, x28 = ((if x25 = 0 then (0) else (2))) → (∀ x29 : Int32, x29 = x16 ||| x28 → (((what = 8 → (P_X11_foldedLength fS g26 letter 2)) ∧ (¬ what = 8 → (P_X11_reason fS letter))) ∧ (∀ x38 : Int32, x38 = ((if what = 8 then (let r35 : Int32 := (F_X11_foldedLength fS g26 letter 2).1; (if r2 ≤ r35 then (0) else (1))) else (let r32 : Int32 := F_X11_reason fS letter 2; (if r32 ≤ 0 then (0) else (1))))) → (∀ g39 : Nat → Int32, g39 = ((if what = 8 then (let r35 : Int32 := (F_X11_foldedLength fS g26 letter 2).1; let g36 : Nat → Int32 := (F_X11_foldedLength fS g26 letter 2).2; (if r2 ≤ r35 then (g36) else (g36))) else (let r32 : Int32 := F_X11_reason fS letter 2; (if r32 ≤ 0 then (g26) else (g26))))) → (∀ x41 : Int32, x41 = ((if x38 = 0 then (0) else (4))) → (∀ x42 : Int32, x42 = x29 ||| x41 → ((what = 8 → (P_X11_foldedLength fS g39 letter 3)) ∧ (¬ what = 8 → (P_X11_reason fS letter)))))))))))))))))))))
set_option maxRecDepth 20000 in
set_option maxHeartbeats 8000000 in
theorem m_X11_creasesOf (l : Launch) (D : va_G) (cI cL cP cJ : ClassId) (o : Nat) (aS : Nat) (aPast : Nat) (aSnap : Nat) (aText : Nat) (aOne : Nat) (aTwo : Nat) (aBoth : Nat) (aWord : Nat) (aOpen : Nat) (aTimes : Nat) (aFar : Nat) (aQueue : Nat) (known : Int32) (kept : Int32) (len : Int32) (thr : Int32) (cre : Int32) (hash : Int64) (fS : Nat → Int32) (fOne : Nat → Int32) (letter : Int32) (what : Int32) (hp : P_X11_creasesOf fS fOne letter what) : M vI l yX11_creasesOf cX11_creasesOf 7 (some .int) 3 67 D (tyF cI cL cP cJ) [.ref o, .int letter, .int what] [[(o, .inr (9, [.ref aS, .ref aPast, .int known, .ref aSnap, .int kept, .ref aText, .int len, .int thr, .ref aOne, .ref aTwo, .ref aBoth, .ref aWord, .int cre, .ref aOpen, .ref aTimes, .ref aFar, .ref aQueue, .long hash]))], [(aS, .inl (cI, 335, .inl fS))], [(aOne, .inl (cI, 4, .inl fOne))]] (fun (r : Int32) (w1 : List va_W) => r = (F_X11_creasesOf fS fOne letter what).1 ∧ w1 = [[(o, .inr (9, [.ref aS, .ref aPast, .int known, .ref aSnap, .int kept, .ref aText, .int len, .int thr, .ref aOne, .ref aTwo, .ref aBoth, .ref aWord, .int cre, .ref aOpen, .ref aTimes, .ref aFar, .ref aQueue, .long hash]))], [(aS, .inl (cI, 335, .inl fS))], [(aOne, .inl (cI, 4, .inl ((F_X11_creasesOf fS fOne letter what).2)))]]) := by
  unfold P_X11_creasesOf at hp
  refine m_start (by decide +kernel) (Nat.le_of_ble_eq_true rfl) (fun p e s m args below meth c A Q hA hQ C hr hlo => ?_)
  refine r_Le (L' := [(0, .ref o), (1, .int letter), (2, .int what)]) rfl ?_
  refine r_iconst (v := 0) C dX11_creasesOf_0 (by decide) ?_
  refine r_istore_n (L' := [(3, .int 0), (0, .ref o), (1, .int letter), (2, .int what)]) C dX11_creasesOf_1 (by decide) rfl ?_
  refine r_aload_n C dX11_creasesOf_2 1 rfl ?_
  refine r_iload_n C dX11_creasesOf_3 2 rfl ?_
  obtain ⟨h1, hp⟩ := hp
  refine r_callV (ci := 9) (wc := [[(o, .inr (9, [.ref aS, .ref aPast, .int known, .ref aSnap, .int kept, .ref aText, .int len, .int thr, .ref aOne, .ref aTwo, .ref aBoth, .ref aWord, .int cre, .ref aOpen, .ref aTimes, .ref aFar, .ref aQueue, .long hash]))], [(aS, .inl (cI, 335, .inl fS))], [(aOne, .inl (cI, 4, .inl fOne))]]) (wr := []) (st := []) C (m_X11_lengthOf l D cI cL cP cJ o aS aPast aSnap aText aOne aTwo aBoth aWord aOpen aTimes aFar aQueue known kept len thr cre hash fS fOne letter h1) k_X11_lengthOf t_1002 [0, 1, 2] (show ([0, 1, 2] : List Nat).Perm (List.range 3) by decide) rfl rfl rfl (q0 := 0) rfl rfl rfl (Nat.le_of_ble_eq_true rfl) ⟨Nat.le_of_ble_eq_true rfl, Nat.le_of_ble_eq_true rfl⟩ ⟨Nat.zero_le _, Nat.zero_le _⟩ dX11_creasesOf_4 (fun r2 wr2 hw2 => ?_)
  obtain ⟨e_r2, rfl⟩ := hw2
  have hp := hp r2 e_r2
  obtain ⟨g3, e_g3⟩ : ∃ z : Nat → Int32, z = (F_X11_lengthOf fS fOne letter).2 := ⟨_, rfl⟩
  have hp := hp g3 e_g3
  refine r_ws (I' := [[(o, .inr (9, [.ref aS, .ref aPast, .int known, .ref aSnap, .int kept, .ref aText, .int len, .int thr, .ref aOne, .ref aTwo, .ref aBoth, .ref aWord, .int cre, .ref aOpen, .ref aTimes, .ref aFar, .ref aQueue, .long hash]))], [(aS, .inl (cI, 335, .inl fS))], [(aOne, .inl (cI, 4, .inl g3))]]) (by rw [e_g3]; rfl) ?_
  refine r_istore (L' := [(4, .int r2), (3, .int 0), (0, .ref o), (1, .int letter), (2, .int what)]) C dX11_creasesOf_7 (by decide) rfl ?_
  refine r_iconst (v := 0) C dX11_creasesOf_9 (by decide) ?_
  refine r_istore (L' := [(5, .int 0), (4, .int r2), (3, .int 0), (0, .ref o), (1, .int letter), (2, .int what)]) C dX11_creasesOf_10 (by decide) rfl ?_
  refine r_iload C dX11_creasesOf_12 0 rfl ?_
  refine r_iconst (v := 4) C dX11_creasesOf_14 (by decide) ?_
  refine r_icmp_ge (tgt := 83) C dX11_creasesOf_15 (by decide) (fun c => absurd c (by decide)) (fun _ => ?_)
  refine r_iload_n C dX11_creasesOf_18 5 rfl ?_
  refine r_bipush (v := 8) C dX11_creasesOf_19 (by decide) ?_
  obtain ⟨hps, hp⟩ := hp
  suffices K : ∀ x12 : Int32, x12 = ((if what = 8 then (let r9 : Int32 := (F_X11_foldedLength fS g3 letter 0).1; (if r2 ≤ r9 then (0) else (1))) else (let r6 : Int32 := F_X11_reason fS letter 0; (if r6 ≤ 0 then (0) else (1))))) → ∀ g13 : Nat → Int32, g13 = ((if what = 8 then (let r9 : Int32 := (F_X11_foldedLength fS g3 letter 0).1; let g10 : Nat → Int32 := (F_X11_foldedLength fS g3 letter 0).2; (if r2 ≤ r9 then (g10) else (g10))) else (let r6 : Int32 := F_X11_reason fS letter 0; (if r6 ≤ 0 then (g3) else (g3))))) → V p l e (rmm 3 67) s m args below meth c 7 D A 0 0 Q [[(o, .inr (9, [.ref aS, .ref aPast, .int known, .ref aSnap, .int kept, .ref aText, .int len, .int thr, .ref aOne, .ref aTwo, .ref aBoth, .ref aWord, .int cre, .ref aOpen, .ref aTimes, .ref aFar, .ref aQueue, .long hash]))], [(aS, .inl (cI, 335, .inl fS))], [(aOne, .inl (cI, 4, .inl g13))]] [(5, .int 0), (4, .int r2), (3, .int 0), (0, .ref o), (1, .int letter), (2, .int what)] 59 [.int x12] by
    have hp := hps
    refine r_icmp_ne (tgt := 44) C dX11_creasesOf_21 (by decide) (fun c4 => ?_) (fun c4 => ?_)
    · have hp := hp.2 c4
      refine r_aload_n C dX11_creasesOf_44 3 rfl ?_
      refine r_iload_n C dX11_creasesOf_45 4 rfl ?_
      refine r_iload C dX11_creasesOf_46 0 rfl ?_
      have h5 := hp
      refine r_callV (ci := 9) (wc := [[(o, .inr (9, [.ref aS, .ref aPast, .int known, .ref aSnap, .int kept, .ref aText, .int len, .int thr, .ref aOne, .ref aTwo, .ref aBoth, .ref aWord, .int cre, .ref aOpen, .ref aTimes, .ref aFar, .ref aQueue, .long hash]))], [(aS, .inl (cI, 335, .inl fS))]]) (wr := [[(aOne, .inl (cI, 4, .inl g3))]]) (st := []) C (m_X11_reason l D cI cL cP cJ o aS aPast aSnap aText aOne aTwo aBoth aWord aOpen aTimes aFar aQueue known kept len thr cre hash fS letter 0 h5) k_X11_reason t_962 [0, 1, 2] (show ([0, 1, 2] : List Nat).Perm (List.range 3) by decide) rfl rfl rfl (q0 := 0) rfl rfl rfl (Nat.le_of_ble_eq_true rfl) ⟨Nat.le_of_ble_eq_true rfl, Nat.le_of_ble_eq_true rfl⟩ ⟨Nat.zero_le _, Nat.zero_le _⟩ dX11_creasesOf_48 (fun r6 wr6 hw6 => ?_)
      obtain ⟨e_r6, rfl⟩ := hw6
      refine r_ws (I' := [[(o, .inr (9, [.ref aS, .ref aPast, .int known, .ref aSnap, .int kept, .ref aText, .int len, .int thr, .ref aOne, .ref aTwo, .ref aBoth, .ref aWord, .int cre, .ref aOpen, .ref aTimes, .ref aFar, .ref aQueue, .long hash]))], [(aS, .inl (cI, 335, .inl fS))], [(aOne, .inl (cI, 4, .inl g3))]]) rfl ?_
      refine r_if_le (tgt := 58) C dX11_creasesOf_51 (by decide) (fun c7 => ?_) (fun c7 => ?_)
      · refine r_iconst (v := 0) C dX11_creasesOf_58 (by decide) ?_
        exact K _ (by have q := e_r6.symm; subst q; simp only [if_neg c4, if_pos c7]) _ (by have q := e_r6.symm; subst q; simp only [if_neg c4, if_pos c7])
      · refine r_iconst (v := 1) C dX11_creasesOf_54 (by decide) ?_
        refine r_goto (tgt := 59) C dX11_creasesOf_55 (by decide) ?_
        exact K _ (by have q := e_r6.symm; subst q; simp only [if_neg c4, if_neg c7]) _ (by have q := e_r6.symm; subst q; simp only [if_neg c4, if_neg c7])
    · have hp := hp.1 c4
      refine r_aload_n C dX11_creasesOf_24 3 rfl ?_
      refine r_iload_n C dX11_creasesOf_25 4 rfl ?_
      refine r_iload C dX11_creasesOf_26 0 rfl ?_
      have h8 := hp
      refine r_callV (ci := 9) (wc := [[(o, .inr (9, [.ref aS, .ref aPast, .int known, .ref aSnap, .int kept, .ref aText, .int len, .int thr, .ref aOne, .ref aTwo, .ref aBoth, .ref aWord, .int cre, .ref aOpen, .ref aTimes, .ref aFar, .ref aQueue, .long hash]))], [(aS, .inl (cI, 335, .inl fS))], [(aOne, .inl (cI, 4, .inl g3))]]) (wr := []) (st := []) C (m_X11_foldedLength l D cI cL cP cJ o aS aPast aSnap aText aOne aTwo aBoth aWord aOpen aTimes aFar aQueue known kept len thr cre hash fS g3 letter 0 h8) k_X11_foldedLength t_1171 [0, 1, 2] (show ([0, 1, 2] : List Nat).Perm (List.range 3) by decide) rfl rfl rfl (q0 := 0) rfl rfl rfl (Nat.le_of_ble_eq_true rfl) ⟨Nat.le_of_ble_eq_true rfl, Nat.le_of_ble_eq_true rfl⟩ ⟨Nat.zero_le _, Nat.zero_le _⟩ dX11_creasesOf_28 (fun r9 wr9 hw9 => ?_)
      obtain ⟨e_r9, rfl⟩ := hw9
      obtain ⟨g10, e_g10⟩ : ∃ z : Nat → Int32, z = (F_X11_foldedLength fS g3 letter 0).2 := ⟨_, rfl⟩
      refine r_ws (I' := [[(o, .inr (9, [.ref aS, .ref aPast, .int known, .ref aSnap, .int kept, .ref aText, .int len, .int thr, .ref aOne, .ref aTwo, .ref aBoth, .ref aWord, .int cre, .ref aOpen, .ref aTimes, .ref aFar, .ref aQueue, .long hash]))], [(aS, .inl (cI, 335, .inl fS))], [(aOne, .inl (cI, 4, .inl g10))]]) (by rw [e_g10]; rfl) ?_
      refine r_iload C dX11_creasesOf_31 1 rfl ?_
      refine r_icmp_ge (tgt := 40) C dX11_creasesOf_33 (by decide) (fun c11 => ?_) (fun c11 => ?_)
      · refine r_iconst (v := 0) C dX11_creasesOf_40 (by decide) ?_
        refine r_goto (tgt := 59) C dX11_creasesOf_41 (by decide) ?_
        exact K _ (by have q := e_r9.symm; subst q; have q := e_g10.symm; subst q; simp only [if_pos c4, if_pos c11]) _ (by have q := e_r9.symm; subst q; have q := e_g10.symm; subst q; simp only [if_pos c4, if_pos c11])
      · refine r_iconst (v := 1) C dX11_creasesOf_36 (by decide) ?_
        refine r_goto (tgt := 59) C dX11_creasesOf_37 (by decide) ?_
        exact K _ (by have q := e_r9.symm; subst q; have q := e_g10.symm; subst q; simp only [if_pos c4, if_neg c11]) _ (by have q := e_r9.symm; subst q; have q := e_g10.symm; subst q; simp only [if_pos c4, if_neg c11])
  intro x12 e_x12 g13 e_g13
  have hp := hp x12 e_x12
  have hp := hp g13 e_g13
  refine r_istore (L' := [(6, .int x12), (5, .int 0), (4, .int r2), (3, .int 0), (0, .ref o), (1, .int letter), (2, .int what)]) C dX11_creasesOf_59 (by decide) rfl ?_
  refine r_iload_n C dX11_creasesOf_61 3 rfl ?_
  refine r_iload C dX11_creasesOf_62 0 rfl ?_
  suffices K : ∀ x15 : Int32, x15 = ((if x12 = 0 then (0) else (1))) → V p l e (rmm 3 67) s m args below meth c 7 D A 0 0 Q [[(o, .inr (9, [.ref aS, .ref aPast, .int known, .ref aSnap, .int kept, .ref aText, .int len, .int thr, .ref aOne, .ref aTwo, .ref aBoth, .ref aWord, .int cre, .ref aOpen, .ref aTimes, .ref aFar, .ref aQueue, .long hash]))], [(aS, .inl (cI, 335, .inl fS))], [(aOne, .inl (cI, 4, .inl g13))]] [(6, .int x12), (5, .int 0), (4, .int r2), (3, .int 0), (0, .ref o), (1, .int letter), (2, .int what)] 75 [.int x15, .int 0] by
    refine r_if_eq (tgt := 74) C dX11_creasesOf_64 (by decide) (fun c14 => ?_) (fun c14 => ?_)
    · refine r_iconst (v := 0) C dX11_creasesOf_74 (by decide) ?_
      exact K _ (by simp only [if_pos c14])
    · refine r_iconst (v := 1) C dX11_creasesOf_67 (by decide) ?_
      refine r_iload C dX11_creasesOf_68 1 rfl ?_
      refine r_ishl (z := 1) C dX11_creasesOf_70 (by decide) ?_
      refine r_goto (tgt := 75) C dX11_creasesOf_71 (by decide) ?_
      exact K _ (by simp only [if_neg c14])
  intro x15 e_x15
  have hp := hp x15 e_x15
  refine r_ior C dX11_creasesOf_75 rfl ?_
  refine r_top (fun x16 e_x16 => ?_)
  have hp := hp x16 e_x16
  refine r_istore_n (L' := [(3, .int x16), (6, .int x12), (5, .int 0), (4, .int r2), (0, .ref o), (1, .int letter), (2, .int what)]) C dX11_creasesOf_76 (by decide) rfl ?_
  refine r_iinc (v := 1) (L' := [(5, .int 1), (3, .int x16), (6, .int x12), (4, .int r2), (0, .ref o), (1, .int letter), (2, .int what)]) C dX11_creasesOf_77 2 rfl (by decide) (by decide) rfl ?_
  refine r_goto (tgt := 12) C dX11_creasesOf_80 (by decide) ?_
  refine r_iload C dX11_creasesOf_12 0 rfl ?_
  refine r_iconst (v := 4) C dX11_creasesOf_14 (by decide) ?_
  refine r_icmp_ge (tgt := 83) C dX11_creasesOf_15 (by decide) (fun c => absurd c (by decide)) (fun _ => ?_)
  refine r_iload_n C dX11_creasesOf_18 6 rfl ?_
  refine r_bipush (v := 8) C dX11_creasesOf_19 (by decide) ?_
  obtain ⟨hps, hp⟩ := hp
  suffices K : ∀ x25 : Int32, x25 = ((if what = 8 then (let r22 : Int32 := (F_X11_foldedLength fS g13 letter 1).1; (if r2 ≤ r22 then (0) else (1))) else (let r19 : Int32 := F_X11_reason fS letter 1; (if r19 ≤ 0 then (0) else (1))))) → ∀ g26 : Nat → Int32, g26 = ((if what = 8 then (let r22 : Int32 := (F_X11_foldedLength fS g13 letter 1).1; let g23 : Nat → Int32 := (F_X11_foldedLength fS g13 letter 1).2; (if r2 ≤ r22 then (g23) else (g23))) else (let r19 : Int32 := F_X11_reason fS letter 1; (if r19 ≤ 0 then (g13) else (g13))))) → V p l e (rmm 3 67) s m args below meth c 7 D A 0 0 Q [[(o, .inr (9, [.ref aS, .ref aPast, .int known, .ref aSnap, .int kept, .ref aText, .int len, .int thr, .ref aOne, .ref aTwo, .ref aBoth, .ref aWord, .int cre, .ref aOpen, .ref aTimes, .ref aFar, .ref aQueue, .long hash]))], [(aS, .inl (cI, 335, .inl fS))], [(aOne, .inl (cI, 4, .inl g26))]] [(5, .int 1), (3, .int x16), (6, .int x12), (4, .int r2), (0, .ref o), (1, .int letter), (2, .int what)] 59 [.int x25] by
    have hp := hps
    refine r_icmp_ne (tgt := 44) C dX11_creasesOf_21 (by decide) (fun c17 => ?_) (fun c17 => ?_)
    · have hp := hp.2 c17
      refine r_aload_n C dX11_creasesOf_44 4 rfl ?_
      refine r_iload_n C dX11_creasesOf_45 5 rfl ?_
      refine r_iload C dX11_creasesOf_46 0 rfl ?_
      have h18 := hp
      refine r_callV (ci := 9) (wc := [[(o, .inr (9, [.ref aS, .ref aPast, .int known, .ref aSnap, .int kept, .ref aText, .int len, .int thr, .ref aOne, .ref aTwo, .ref aBoth, .ref aWord, .int cre, .ref aOpen, .ref aTimes, .ref aFar, .ref aQueue, .long hash]))], [(aS, .inl (cI, 335, .inl fS))]]) (wr := [[(aOne, .inl (cI, 4, .inl g13))]]) (st := []) C (m_X11_reason l D cI cL cP cJ o aS aPast aSnap aText aOne aTwo aBoth aWord aOpen aTimes aFar aQueue known kept len thr cre hash fS letter 1 h18) k_X11_reason t_962 [0, 1, 2] (show ([0, 1, 2] : List Nat).Perm (List.range 3) by decide) rfl rfl rfl (q0 := 0) rfl rfl rfl (Nat.le_of_ble_eq_true rfl) ⟨Nat.le_of_ble_eq_true rfl, Nat.le_of_ble_eq_true rfl⟩ ⟨Nat.zero_le _, Nat.zero_le _⟩ dX11_creasesOf_48 (fun r19 wr19 hw19 => ?_)
      obtain ⟨e_r19, rfl⟩ := hw19
      refine r_ws (I' := [[(o, .inr (9, [.ref aS, .ref aPast, .int known, .ref aSnap, .int kept, .ref aText, .int len, .int thr, .ref aOne, .ref aTwo, .ref aBoth, .ref aWord, .int cre, .ref aOpen, .ref aTimes, .ref aFar, .ref aQueue, .long hash]))], [(aS, .inl (cI, 335, .inl fS))], [(aOne, .inl (cI, 4, .inl g13))]]) rfl ?_
      refine r_if_le (tgt := 58) C dX11_creasesOf_51 (by decide) (fun c20 => ?_) (fun c20 => ?_)
      · refine r_iconst (v := 0) C dX11_creasesOf_58 (by decide) ?_
        exact K _ (by have q := e_r19.symm; subst q; simp only [if_neg c17, if_pos c20]) _ (by have q := e_r19.symm; subst q; simp only [if_neg c17, if_pos c20])
      · refine r_iconst (v := 1) C dX11_creasesOf_54 (by decide) ?_
        refine r_goto (tgt := 59) C dX11_creasesOf_55 (by decide) ?_
        exact K _ (by have q := e_r19.symm; subst q; simp only [if_neg c17, if_neg c20]) _ (by have q := e_r19.symm; subst q; simp only [if_neg c17, if_neg c20])
    · have hp := hp.1 c17
      refine r_aload_n C dX11_creasesOf_24 4 rfl ?_
      refine r_iload_n C dX11_creasesOf_25 5 rfl ?_
      refine r_iload C dX11_creasesOf_26 0 rfl ?_
      have h21 := hp
      refine r_callV (ci := 9) (wc := [[(o, .inr (9, [.ref aS, .ref aPast, .int known, .ref aSnap, .int kept, .ref aText, .int len, .int thr, .ref aOne, .ref aTwo, .ref aBoth, .ref aWord, .int cre, .ref aOpen, .ref aTimes, .ref aFar, .ref aQueue, .long hash]))], [(aS, .inl (cI, 335, .inl fS))], [(aOne, .inl (cI, 4, .inl g13))]]) (wr := []) (st := []) C (m_X11_foldedLength l D cI cL cP cJ o aS aPast aSnap aText aOne aTwo aBoth aWord aOpen aTimes aFar aQueue known kept len thr cre hash fS g13 letter 1 h21) k_X11_foldedLength t_1171 [0, 1, 2] (show ([0, 1, 2] : List Nat).Perm (List.range 3) by decide) rfl rfl rfl (q0 := 0) rfl rfl rfl (Nat.le_of_ble_eq_true rfl) ⟨Nat.le_of_ble_eq_true rfl, Nat.le_of_ble_eq_true rfl⟩ ⟨Nat.zero_le _, Nat.zero_le _⟩ dX11_creasesOf_28 (fun r22 wr22 hw22 => ?_)
      obtain ⟨e_r22, rfl⟩ := hw22
      obtain ⟨g23, e_g23⟩ : ∃ z : Nat → Int32, z = (F_X11_foldedLength fS g13 letter 1).2 := ⟨_, rfl⟩
      refine r_ws (I' := [[(o, .inr (9, [.ref aS, .ref aPast, .int known, .ref aSnap, .int kept, .ref aText, .int len, .int thr, .ref aOne, .ref aTwo, .ref aBoth, .ref aWord, .int cre, .ref aOpen, .ref aTimes, .ref aFar, .ref aQueue, .long hash]))], [(aS, .inl (cI, 335, .inl fS))], [(aOne, .inl (cI, 4, .inl g23))]]) (by rw [e_g23]; rfl) ?_
      refine r_iload C dX11_creasesOf_31 3 rfl ?_
      refine r_icmp_ge (tgt := 40) C dX11_creasesOf_33 (by decide) (fun c24 => ?_) (fun c24 => ?_)
      · refine r_iconst (v := 0) C dX11_creasesOf_40 (by decide) ?_
        refine r_goto (tgt := 59) C dX11_creasesOf_41 (by decide) ?_
        exact K _ (by have q := e_r22.symm; subst q; have q := e_g23.symm; subst q; simp only [if_pos c17, if_pos c24]) _ (by have q := e_r22.symm; subst q; have q := e_g23.symm; subst q; simp only [if_pos c17, if_pos c24])
      · refine r_iconst (v := 1) C dX11_creasesOf_36 (by decide) ?_
        refine r_goto (tgt := 59) C dX11_creasesOf_37 (by decide) ?_
        exact K _ (by have q := e_r22.symm; subst q; have q := e_g23.symm; subst q; simp only [if_pos c17, if_neg c24]) _ (by have q := e_r22.symm; subst q; have q := e_g23.symm; subst q; simp only [if_pos c17, if_neg c24])
  intro x25 e_x25 g26 e_g26
  have hp := hp x25 e_x25
  have hp := hp g26 e_g26
  refine r_istore (L' := [(6, .int x25), (5, .int 1), (3, .int x16), (4, .int r2), (0, .ref o), (1, .int letter), (2, .int what)]) C dX11_creasesOf_59 (by decide) rfl ?_
  refine r_iload_n C dX11_creasesOf_61 2 rfl ?_
  refine r_iload C dX11_creasesOf_62 0 rfl ?_
  suffices K : ∀ x28 : Int32, x28 = ((if x25 = 0 then (0) else (2))) → V p l e (rmm 3 67) s m args below meth c 7 D A 0 0 Q [[(o, .inr (9, [.ref aS, .ref aPast, .int known, .ref aSnap, .int kept, .ref aText, .int len, .int thr, .ref aOne, .ref aTwo, .ref aBoth, .ref aWord, .int cre, .ref aOpen, .ref aTimes, .ref aFar, .ref aQueue, .long hash]))], [(aS, .inl (cI, 335, .inl fS))], [(aOne, .inl (cI, 4, .inl g26))]] [(6, .int x25), (5, .int 1), (3, .int x16), (4, .int r2), (0, .ref o), (1, .int letter), (2, .int what)] 75 [.int x28, .int x16] by
    refine r_if_eq (tgt := 74) C dX11_creasesOf_64 (by decide) (fun c27 => ?_) (fun c27 => ?_)
    · refine r_iconst (v := 0) C dX11_creasesOf_74 (by decide) ?_
      exact K _ (by simp only [if_pos c27])
    · refine r_iconst (v := 1) C dX11_creasesOf_67 (by decide) ?_
      refine r_iload C dX11_creasesOf_68 1 rfl ?_
      refine r_ishl (z := 2) C dX11_creasesOf_70 (by decide) ?_
      refine r_goto (tgt := 75) C dX11_creasesOf_71 (by decide) ?_
      exact K _ (by simp only [if_neg c27])
  intro x28 e_x28
  have hp := hp x28 e_x28
  refine r_ior C dX11_creasesOf_75 rfl ?_
  refine r_top (fun x29 e_x29 => ?_)
  have hp := hp x29 e_x29
  refine r_istore_n (L' := [(3, .int x29), (6, .int x25), (5, .int 1), (4, .int r2), (0, .ref o), (1, .int letter), (2, .int what)]) C dX11_creasesOf_76 (by decide) rfl ?_
  refine r_iinc (v := 2) (L' := [(5, .int 2), (3, .int x29), (6, .int x25), (4, .int r2), (0, .ref o), (1, .int letter), (2, .int what)]) C dX11_creasesOf_77 2 rfl (by decide) (by decide) rfl ?_
  refine r_goto (tgt := 12) C dX11_creasesOf_80 (by decide) ?_
  refine r_iload C dX11_creasesOf_12 0 rfl ?_
  refine r_iconst (v := 4) C dX11_creasesOf_14 (by decide) ?_
  refine r_icmp_ge (tgt := 83) C dX11_creasesOf_15 (by decide) (fun c => absurd c (by decide)) (fun _ => ?_)
  refine r_iload_n C dX11_creasesOf_18 6 rfl ?_
  refine r_bipush (v := 8) C dX11_creasesOf_19 (by decide) ?_
  obtain ⟨hps, hp⟩ := hp
  suffices K : ∀ x38 : Int32, x38 = ((if what = 8 then (let r35 : Int32 := (F_X11_foldedLength fS g26 letter 2).1; (if r2 ≤ r35 then (0) else (1))) else (let r32 : Int32 := F_X11_reason fS letter 2; (if r32 ≤ 0 then (0) else (1))))) → ∀ g39 : Nat → Int32, g39 = ((if what = 8 then (let r35 : Int32 := (F_X11_foldedLength fS g26 letter 2).1; let g36 : Nat → Int32 := (F_X11_foldedLength fS g26 letter 2).2; (if r2 ≤ r35 then (g36) else (g36))) else (let r32 : Int32 := F_X11_reason fS letter 2; (if r32 ≤ 0 then (g26) else (g26))))) → V p l e (rmm 3 67) s m args below meth c 7 D A 0 0 Q [[(o, .inr (9, [.ref aS, .ref aPast, .int known, .ref aSnap, .int kept, .ref aText, .int len, .int thr, .ref aOne, .ref aTwo, .ref aBoth, .ref aWord, .int cre, .ref aOpen, .ref aTimes, .ref aFar, .ref aQueue, .long hash]))], [(aS, .inl (cI, 335, .inl fS))], [(aOne, .inl (cI, 4, .inl g39))]] [(5, .int 2), (3, .int x29), (6, .int x25), (4, .int r2), (0, .ref o), (1, .int letter), (2, .int what)] 59 [.int x38] by
    have hp := hps
    refine r_icmp_ne (tgt := 44) C dX11_creasesOf_21 (by decide) (fun c30 => ?_) (fun c30 => ?_)
    · have hp := hp.2 c30
      refine r_aload_n C dX11_creasesOf_44 4 rfl ?_
      refine r_iload_n C dX11_creasesOf_45 5 rfl ?_
      refine r_iload C dX11_creasesOf_46 0 rfl ?_
      have h31 := hp
      refine r_callV (ci := 9) (wc := [[(o, .inr (9, [.ref aS, .ref aPast, .int known, .ref aSnap, .int kept, .ref aText, .int len, .int thr, .ref aOne, .ref aTwo, .ref aBoth, .ref aWord, .int cre, .ref aOpen, .ref aTimes, .ref aFar, .ref aQueue, .long hash]))], [(aS, .inl (cI, 335, .inl fS))]]) (wr := [[(aOne, .inl (cI, 4, .inl g26))]]) (st := []) C (m_X11_reason l D cI cL cP cJ o aS aPast aSnap aText aOne aTwo aBoth aWord aOpen aTimes aFar aQueue known kept len thr cre hash fS letter 2 h31) k_X11_reason t_962 [0, 1, 2] (show ([0, 1, 2] : List Nat).Perm (List.range 3) by decide) rfl rfl rfl (q0 := 0) rfl rfl rfl (Nat.le_of_ble_eq_true rfl) ⟨Nat.le_of_ble_eq_true rfl, Nat.le_of_ble_eq_true rfl⟩ ⟨Nat.zero_le _, Nat.zero_le _⟩ dX11_creasesOf_48 (fun r32 wr32 hw32 => ?_)
      obtain ⟨e_r32, rfl⟩ := hw32
      refine r_ws (I' := [[(o, .inr (9, [.ref aS, .ref aPast, .int known, .ref aSnap, .int kept, .ref aText, .int len, .int thr, .ref aOne, .ref aTwo, .ref aBoth, .ref aWord, .int cre, .ref aOpen, .ref aTimes, .ref aFar, .ref aQueue, .long hash]))], [(aS, .inl (cI, 335, .inl fS))], [(aOne, .inl (cI, 4, .inl g26))]]) rfl ?_
      refine r_if_le (tgt := 58) C dX11_creasesOf_51 (by decide) (fun c33 => ?_) (fun c33 => ?_)
      · refine r_iconst (v := 0) C dX11_creasesOf_58 (by decide) ?_
        exact K _ (by have q := e_r32.symm; subst q; simp only [if_neg c30, if_pos c33]) _ (by have q := e_r32.symm; subst q; simp only [if_neg c30, if_pos c33])
      · refine r_iconst (v := 1) C dX11_creasesOf_54 (by decide) ?_
        refine r_goto (tgt := 59) C dX11_creasesOf_55 (by decide) ?_
        exact K _ (by have q := e_r32.symm; subst q; simp only [if_neg c30, if_neg c33]) _ (by have q := e_r32.symm; subst q; simp only [if_neg c30, if_neg c33])
    · have hp := hp.1 c30
      refine r_aload_n C dX11_creasesOf_24 4 rfl ?_
      refine r_iload_n C dX11_creasesOf_25 5 rfl ?_
      refine r_iload C dX11_creasesOf_26 0 rfl ?_
      have h34 := hp
      refine r_callV (ci := 9) (wc := [[(o, .inr (9, [.ref aS, .ref aPast, .int known, .ref aSnap, .int kept, .ref aText, .int len, .int thr, .ref aOne, .ref aTwo, .ref aBoth, .ref aWord, .int cre, .ref aOpen, .ref aTimes, .ref aFar, .ref aQueue, .long hash]))], [(aS, .inl (cI, 335, .inl fS))], [(aOne, .inl (cI, 4, .inl g26))]]) (wr := []) (st := []) C (m_X11_foldedLength l D cI cL cP cJ o aS aPast aSnap aText aOne aTwo aBoth aWord aOpen aTimes aFar aQueue known kept len thr cre hash fS g26 letter 2 h34) k_X11_foldedLength t_1171 [0, 1, 2] (show ([0, 1, 2] : List Nat).Perm (List.range 3) by decide) rfl rfl rfl (q0 := 0) rfl rfl rfl (Nat.le_of_ble_eq_true rfl) ⟨Nat.le_of_ble_eq_true rfl, Nat.le_of_ble_eq_true rfl⟩ ⟨Nat.zero_le _, Nat.zero_le _⟩ dX11_creasesOf_28 (fun r35 wr35 hw35 => ?_)
      obtain ⟨e_r35, rfl⟩ := hw35
      obtain ⟨g36, e_g36⟩ : ∃ z : Nat → Int32, z = (F_X11_foldedLength fS g26 letter 2).2 := ⟨_, rfl⟩
      refine r_ws (I' := [[(o, .inr (9, [.ref aS, .ref aPast, .int known, .ref aSnap, .int kept, .ref aText, .int len, .int thr, .ref aOne, .ref aTwo, .ref aBoth, .ref aWord, .int cre, .ref aOpen, .ref aTimes, .ref aFar, .ref aQueue, .long hash]))], [(aS, .inl (cI, 335, .inl fS))], [(aOne, .inl (cI, 4, .inl g36))]]) (by rw [e_g36]; rfl) ?_
      refine r_iload C dX11_creasesOf_31 3 rfl ?_
      refine r_icmp_ge (tgt := 40) C dX11_creasesOf_33 (by decide) (fun c37 => ?_) (fun c37 => ?_)
      · refine r_iconst (v := 0) C dX11_creasesOf_40 (by decide) ?_
        refine r_goto (tgt := 59) C dX11_creasesOf_41 (by decide) ?_
        exact K _ (by have q := e_r35.symm; subst q; have q := e_g36.symm; subst q; simp only [if_pos c30, if_pos c37]) _ (by have q := e_r35.symm; subst q; have q := e_g36.symm; subst q; simp only [if_pos c30, if_pos c37])
      · refine r_iconst (v := 1) C dX11_creasesOf_36 (by decide) ?_
        refine r_goto (tgt := 59) C dX11_creasesOf_37 (by decide) ?_
        exact K _ (by have q := e_r35.symm; subst q; have q := e_g36.symm; subst q; simp only [if_pos c30, if_neg c37]) _ (by have q := e_r35.symm; subst q; have q := e_g36.symm; subst q; simp only [if_pos c30, if_neg c37])
  intro x38 e_x38 g39 e_g39
  have hp := hp x38 e_x38
  have hp := hp g39 e_g39
  refine r_istore (L' := [(6, .int x38), (5, .int 2), (3, .int x29), (4, .int r2), (0, .ref o), (1, .int letter), (2, .int what)]) C dX11_creasesOf_59 (by decide) rfl ?_
  refine r_iload_n C dX11_creasesOf_61 2 rfl ?_
  refine r_iload C dX11_creasesOf_62 0 rfl ?_
  suffices K : ∀ x41 : Int32, x41 = ((if x38 = 0 then (0) else (4))) → V p l e (rmm 3 67) s m args below meth c 7 D A 0 0 Q [[(o, .inr (9, [.ref aS, .ref aPast, .int known, .ref aSnap, .int kept, .ref aText, .int len, .int thr, .ref aOne, .ref aTwo, .ref aBoth, .ref aWord, .int cre, .ref aOpen, .ref aTimes, .ref aFar, .ref aQueue, .long hash]))], [(aS, .inl (cI, 335, .inl fS))], [(aOne, .inl (cI, 4, .inl g39))]] [(6, .int x38), (5, .int 2), (3, .int x29), (4, .int r2), (0, .ref o), (1, .int letter), (2, .int what)] 75 [.int x41, .int x29] by
    refine r_if_eq (tgt := 74) C dX11_creasesOf_64 (by decide) (fun c40 => ?_) (fun c40 => ?_)
    · refine r_iconst (v := 0) C dX11_creasesOf_74 (by decide) ?_
      exact K _ (by simp only [if_pos c40])
    · refine r_iconst (v := 1) C dX11_creasesOf_67 (by decide) ?_
      refine r_iload C dX11_creasesOf_68 1 rfl ?_
      refine r_ishl (z := 4) C dX11_creasesOf_70 (by decide) ?_
      refine r_goto (tgt := 75) C dX11_creasesOf_71 (by decide) ?_
      exact K _ (by simp only [if_neg c40])
  intro x41 e_x41
  have hp := hp x41 e_x41
  refine r_ior C dX11_creasesOf_75 rfl ?_
  refine r_top (fun x42 e_x42 => ?_)
  have hp := hp x42 e_x42
  refine r_istore_n (L' := [(3, .int x42), (6, .int x38), (5, .int 2), (4, .int r2), (0, .ref o), (1, .int letter), (2, .int what)]) C dX11_creasesOf_76 (by decide) rfl ?_
  refine r_iinc (v := 3) (L' := [(5, .int 3), (3, .int x42), (6, .int x38), (4, .int r2), (0, .ref o), (1, .int letter), (2, .int what)]) C dX11_creasesOf_77 2 rfl (by decide) (by decide) rfl ?_
  refine r_goto (tgt := 12) C dX11_creasesOf_80 (by decide) ?_
  refine r_iload C dX11_creasesOf_12 0 rfl ?_
  refine r_iconst (v := 4) C dX11_creasesOf_14 (by decide) ?_
  refine r_icmp_ge (tgt := 83) C dX11_creasesOf_15 (by decide) (fun c => absurd c (by decide)) (fun _ => ?_)
  refine r_iload_n C dX11_creasesOf_18 6 rfl ?_
  refine r_bipush (v := 8) C dX11_creasesOf_19 (by decide) ?_
  have hps := hp
  suffices K : ∀ x51 : Int32, x51 = ((if what = 8 then (let r48 : Int32 := (F_X11_foldedLength fS g39 letter 3).1; (if r2 ≤ r48 then (0) else (1))) else (let r45 : Int32 := F_X11_reason fS letter 3; (if r45 ≤ 0 then (0) else (1))))) → ∀ g52 : Nat → Int32, g52 = ((if what = 8 then (let r48 : Int32 := (F_X11_foldedLength fS g39 letter 3).1; let g49 : Nat → Int32 := (F_X11_foldedLength fS g39 letter 3).2; (if r2 ≤ r48 then (g49) else (g49))) else (let r45 : Int32 := F_X11_reason fS letter 3; (if r45 ≤ 0 then (g39) else (g39))))) → V p l e (rmm 3 67) s m args below meth c 7 D A 0 0 Q [[(o, .inr (9, [.ref aS, .ref aPast, .int known, .ref aSnap, .int kept, .ref aText, .int len, .int thr, .ref aOne, .ref aTwo, .ref aBoth, .ref aWord, .int cre, .ref aOpen, .ref aTimes, .ref aFar, .ref aQueue, .long hash]))], [(aS, .inl (cI, 335, .inl fS))], [(aOne, .inl (cI, 4, .inl g52))]] [(5, .int 3), (3, .int x42), (6, .int x38), (4, .int r2), (0, .ref o), (1, .int letter), (2, .int what)] 59 [.int x51] by
    have hp := hps
    refine r_icmp_ne (tgt := 44) C dX11_creasesOf_21 (by decide) (fun c43 => ?_) (fun c43 => ?_)
    · have hp := hp.2 c43
      refine r_aload_n C dX11_creasesOf_44 4 rfl ?_
      refine r_iload_n C dX11_creasesOf_45 5 rfl ?_
      refine r_iload C dX11_creasesOf_46 0 rfl ?_
      have h44 := hp
      refine r_callV (ci := 9) (wc := [[(o, .inr (9, [.ref aS, .ref aPast, .int known, .ref aSnap, .int kept, .ref aText, .int len, .int thr, .ref aOne, .ref aTwo, .ref aBoth, .ref aWord, .int cre, .ref aOpen, .ref aTimes, .ref aFar, .ref aQueue, .long hash]))], [(aS, .inl (cI, 335, .inl fS))]]) (wr := [[(aOne, .inl (cI, 4, .inl g39))]]) (st := []) C (m_X11_reason l D cI cL cP cJ o aS aPast aSnap aText aOne aTwo aBoth aWord aOpen aTimes aFar aQueue known kept len thr cre hash fS letter 3 h44) k_X11_reason t_962 [0, 1, 2] (show ([0, 1, 2] : List Nat).Perm (List.range 3) by decide) rfl rfl rfl (q0 := 0) rfl rfl rfl (Nat.le_of_ble_eq_true rfl) ⟨Nat.le_of_ble_eq_true rfl, Nat.le_of_ble_eq_true rfl⟩ ⟨Nat.zero_le _, Nat.zero_le _⟩ dX11_creasesOf_48 (fun r45 wr45 hw45 => ?_)
      obtain ⟨e_r45, rfl⟩ := hw45
      refine r_ws (I' := [[(o, .inr (9, [.ref aS, .ref aPast, .int known, .ref aSnap, .int kept, .ref aText, .int len, .int thr, .ref aOne, .ref aTwo, .ref aBoth, .ref aWord, .int cre, .ref aOpen, .ref aTimes, .ref aFar, .ref aQueue, .long hash]))], [(aS, .inl (cI, 335, .inl fS))], [(aOne, .inl (cI, 4, .inl g39))]]) rfl ?_
      refine r_if_le (tgt := 58) C dX11_creasesOf_51 (by decide) (fun c46 => ?_) (fun c46 => ?_)
      · refine r_iconst (v := 0) C dX11_creasesOf_58 (by decide) ?_
        exact K _ (by have q := e_r45.symm; subst q; simp only [if_neg c43, if_pos c46]) _ (by have q := e_r45.symm; subst q; simp only [if_neg c43, if_pos c46])
      · refine r_iconst (v := 1) C dX11_creasesOf_54 (by decide) ?_
        refine r_goto (tgt := 59) C dX11_creasesOf_55 (by decide) ?_
        exact K _ (by have q := e_r45.symm; subst q; simp only [if_neg c43, if_neg c46]) _ (by have q := e_r45.symm; subst q; simp only [if_neg c43, if_neg c46])
    · have hp := hp.1 c43
      refine r_aload_n C dX11_creasesOf_24 4 rfl ?_
      refine r_iload_n C dX11_creasesOf_25 5 rfl ?_
      refine r_iload C dX11_creasesOf_26 0 rfl ?_
      have h47 := hp
      refine r_callV (ci := 9) (wc := [[(o, .inr (9, [.ref aS, .ref aPast, .int known, .ref aSnap, .int kept, .ref aText, .int len, .int thr, .ref aOne, .ref aTwo, .ref aBoth, .ref aWord, .int cre, .ref aOpen, .ref aTimes, .ref aFar, .ref aQueue, .long hash]))], [(aS, .inl (cI, 335, .inl fS))], [(aOne, .inl (cI, 4, .inl g39))]]) (wr := []) (st := []) C (m_X11_foldedLength l D cI cL cP cJ o aS aPast aSnap aText aOne aTwo aBoth aWord aOpen aTimes aFar aQueue known kept len thr cre hash fS g39 letter 3 h47) k_X11_foldedLength t_1171 [0, 1, 2] (show ([0, 1, 2] : List Nat).Perm (List.range 3) by decide) rfl rfl rfl (q0 := 0) rfl rfl rfl (Nat.le_of_ble_eq_true rfl) ⟨Nat.le_of_ble_eq_true rfl, Nat.le_of_ble_eq_true rfl⟩ ⟨Nat.zero_le _, Nat.zero_le _⟩ dX11_creasesOf_28 (fun r48 wr48 hw48 => ?_)
      obtain ⟨e_r48, rfl⟩ := hw48
      obtain ⟨g49, e_g49⟩ : ∃ z : Nat → Int32, z = (F_X11_foldedLength fS g39 letter 3).2 := ⟨_, rfl⟩
      refine r_ws (I' := [[(o, .inr (9, [.ref aS, .ref aPast, .int known, .ref aSnap, .int kept, .ref aText, .int len, .int thr, .ref aOne, .ref aTwo, .ref aBoth, .ref aWord, .int cre, .ref aOpen, .ref aTimes, .ref aFar, .ref aQueue, .long hash]))], [(aS, .inl (cI, 335, .inl fS))], [(aOne, .inl (cI, 4, .inl g49))]]) (by rw [e_g49]; rfl) ?_
      refine r_iload C dX11_creasesOf_31 3 rfl ?_
      refine r_icmp_ge (tgt := 40) C dX11_creasesOf_33 (by decide) (fun c50 => ?_) (fun c50 => ?_)
      · refine r_iconst (v := 0) C dX11_creasesOf_40 (by decide) ?_
        refine r_goto (tgt := 59) C dX11_creasesOf_41 (by decide) ?_
        exact K _ (by have q := e_r48.symm; subst q; have q := e_g49.symm; subst q; simp only [if_pos c43, if_pos c50]) _ (by have q := e_r48.symm; subst q; have q := e_g49.symm; subst q; simp only [if_pos c43, if_pos c50])
      · refine r_iconst (v := 1) C dX11_creasesOf_36 (by decide) ?_
        refine r_goto (tgt := 59) C dX11_creasesOf_37 (by decide) ?_
        exact K _ (by have q := e_r48.symm; subst q; have q := e_g49.symm; subst q; simp only [if_pos c43, if_neg c50]) _ (by have q := e_r48.symm; subst q; have q := e_g49.symm; subst q; simp only [if_pos c43, if_neg c50])
  intro x51 e_x51 g52 e_g52
  refine r_istore (L' := [(6, .int x51), (5, .int 3), (3, .int x42), (4, .int r2), (0, .ref o), (1, .int letter), (2, .int what)]) C dX11_creasesOf_59 (by decide) rfl ?_
  refine r_iload_n C dX11_creasesOf_61 2 rfl ?_
  refine r_iload C dX11_creasesOf_62 0 rfl ?_
  suffices K : ∀ x54 : Int32, x54 = ((if x51 = 0 then (0) else (8))) → V p l e (rmm 3 67) s m args below meth c 7 D A 0 0 Q [[(o, .inr (9, [.ref aS, .ref aPast, .int known, .ref aSnap, .int kept, .ref aText, .int len, .int thr, .ref aOne, .ref aTwo, .ref aBoth, .ref aWord, .int cre, .ref aOpen, .ref aTimes, .ref aFar, .ref aQueue, .long hash]))], [(aS, .inl (cI, 335, .inl fS))], [(aOne, .inl (cI, 4, .inl g52))]] [(6, .int x51), (5, .int 3), (3, .int x42), (4, .int r2), (0, .ref o), (1, .int letter), (2, .int what)] 75 [.int x54, .int x42] by
    refine r_if_eq (tgt := 74) C dX11_creasesOf_64 (by decide) (fun c53 => ?_) (fun c53 => ?_)
    · refine r_iconst (v := 0) C dX11_creasesOf_74 (by decide) ?_
      exact K _ (by simp only [if_pos c53])
    · refine r_iconst (v := 1) C dX11_creasesOf_67 (by decide) ?_
      refine r_iload C dX11_creasesOf_68 1 rfl ?_
      refine r_ishl (z := 8) C dX11_creasesOf_70 (by decide) ?_
      refine r_goto (tgt := 75) C dX11_creasesOf_71 (by decide) ?_
      exact K _ (by simp only [if_neg c53])
  intro x54 e_x54
  refine r_ior C dX11_creasesOf_75 rfl ?_
  refine r_top (fun x55 e_x55 => ?_)
  refine r_istore_n (L' := [(3, .int x55), (6, .int x51), (5, .int 3), (4, .int r2), (0, .ref o), (1, .int letter), (2, .int what)]) C dX11_creasesOf_76 (by decide) rfl ?_
  refine r_iinc (v := 4) (L' := [(5, .int 4), (3, .int x55), (6, .int x51), (4, .int r2), (0, .ref o), (1, .int letter), (2, .int what)]) C dX11_creasesOf_77 2 rfl (by decide) (by decide) rfl ?_
  refine r_goto (tgt := 12) C dX11_creasesOf_80 (by decide) ?_
  refine r_iload C dX11_creasesOf_12 0 rfl ?_
  refine r_iconst (v := 4) C dX11_creasesOf_14 (by decide) ?_
  refine r_icmp_ge (tgt := 83) C dX11_creasesOf_15 (by decide) (fun _ => ?_) (fun c => absurd c (by decide))
  refine r_iload_n C dX11_creasesOf_83 1 rfl ?_
  have eF : F_X11_creasesOf fS fOne letter what = (x55, g52) := by have q := e_r2.symm; subst q; have q := e_g3.symm; subst q; have q := e_x12.symm; subst q; have q := e_g13.symm; subst q; have q := e_x15.symm; subst q; have q := e_x16.symm; subst q; have q := e_x25.symm; subst q; have q := e_g26.symm; subst q; have q := e_x28.symm; subst q; have q := e_x29.symm; subst q; have q := e_x38.symm; subst q; have q := e_g39.symm; subst q; have q := e_x41.symm; subst q; have q := e_x42.symm; subst q; have q := e_x51.symm; subst q; have q := e_g52.symm; subst q; have q := e_x54.symm; subst q; have q := e_x55.symm; subst q; rfl
  exact r_iret (r := x55) C hA hr hlo dX11_creasesOf_84 [[(o, .inr (9, [.ref aS, .ref aPast, .int known, .ref aSnap, .int kept, .ref aText, .int len, .int thr, .ref aOne, .ref aTwo, .ref aBoth, .ref aWord, .int cre, .ref aOpen, .ref aTimes, .ref aFar, .ref aQueue, .long hash]))], [(aS, .inl (cI, 335, .inl fS))], [(aOne, .inl (cI, 4, .inl g52))]] ⟨by simp only [eF], by simp only [eF]⟩ rfl hQ
theorem k_X11_number : kV yX11_number cX11_number 3 (some .int) 2 := ⟨t_1149, t_39, t_67, t_1150, by decide +kernel, by decide +kernel, by decide +kernel⟩
set_option maxRecDepth 20000 in
def F_X11_number (fS : Nat → Int32) (fOne : Nat → Int32) (fTwo : Nat → Int32) (fBoth : Nat → Int32) (letter : Int32) (what : Int32) : Int32 × (Nat → Int32) × (Nat → Int32) × (Nat → Int32) := (if what = 0 then (let r2 : Int32 := (F_X11_lengthOf fS fOne letter).1; let g3 : Nat → Int32 := (F_X11_lengthOf fS fOne letter).2; (r2, g3, fTwo, fBoth)) else ((if what = 1 then (let r5 : Int32 := (F_X11_foldedBack fS fOne letter).1; let g6 : Nat → Int32 := (F_X11_foldedBack fS fOne letter).2; (r5, g6, fTwo, fBoth)) else ((if what = 2 then (let r8 : Int32 := F_X11_its fS letter 4; (r8, fOne, fTwo, fBoth)) else ((if what = 3 then (let r10 : Int32 := (F_X11_period fS fOne fTwo fBoth letter).1; let g11 : Nat → Int32 := (F_X11_period fS fOne fTwo fBoth letter).2.1; let g12 : Nat → Int32 := (F_X11_period fS fOne fTwo fBoth letter).2.2.1; let g13 : Nat → Int32 := (F_X11_period fS fOne fTwo fBoth letter).2.2.2; (r10, g11, g12, g13)) else ((if what = 4 then (let r15 : Int32 := F_X11_isMirror fS letter; let x17 : Int32 := (if r15 = 0 then (0) else (1)); (x17, fOne, fTwo, fBoth)) else ((if what = 5 then (let r19 : Int32 := F_X11_layers fS letter what; (r19, fOne, fTwo, fBoth)) else ((if what = 6 then (let r21 : Int32 := F_X11_layers fS letter what; (r21, fOne, fTwo, fBoth)) else ((if what = 7 then (let r23 : Int32 := F_X11_its fS letter 5; (r23, fOne, fTwo, fBoth)) else ((if what = 8 then (let r25 : Int32 := (F_X11_creasesOf fS fOne letter what).1; let g26 : Nat → Int32 := (F_X11_creasesOf fS fOne letter what).2; (r25, g26, fTwo, fBoth)) else ((if what = 9 then (let r28 : Int32 := (F_X11_creasesOf fS fOne letter what).1; let g29 : Nat → Int32 := (F_X11_creasesOf fS fOne letter what).2; (r28, g29, fTwo, fBoth)) else (let r31 : Int32 := F_X11_its fS letter 6; (r31, fOne, fTwo, fBoth)))))))))))))))))))))
set_option maxRecDepth 20000 in
def P_X11_number (fS : Nat → Int32) (fOne : Nat → Int32) (fTwo : Nat → Int32) (fBoth : Nat → Int32) (letter : Int32) (what : Int32) : Prop := ((what = 0 → (P_X11_lengthOf fS fOne letter)) ∧ (¬ what = 0 → ((what = 1 → (P_X11_foldedBack fS fOne letter)) ∧ (¬ what = 1 → ((what = 2 → (P_X11_its letter 4)) ∧ (¬ what = 2 → ((what = 3 → (P_X11_period fS fOne fTwo fBoth letter)) ∧ (¬ what = 3 → ((what = 4 → (P_X11_isMirror fS letter)) ∧ (¬ what = 4 → ((what = 5 → (P_X11_layers fS letter what)) ∧ (¬ what = 5 → ((what = 6 → (P_X11_layers fS letter what)) ∧ (¬ what = 6 → ((what = 7 → (P_X11_its letter 5)) ∧ (¬ what = 7 → ((what = 8 → (P_X11_creasesOf fS fOne letter what)) ∧ (¬ what = 8 → ((what = 9 → (P_X11_creasesOf fS fOne letter what)) ∧ (¬ what = 9 → (P_X11_its letter 6)))))))))))))))))))))
set_option maxRecDepth 20000 in
set_option maxHeartbeats 8000000 in
theorem m_X11_number (l : Launch) (D : va_G) (cI cL cP cJ : ClassId) (o : Nat) (aS : Nat) (aPast : Nat) (aSnap : Nat) (aText : Nat) (aOne : Nat) (aTwo : Nat) (aBoth : Nat) (aWord : Nat) (aOpen : Nat) (aTimes : Nat) (aFar : Nat) (aQueue : Nat) (known : Int32) (kept : Int32) (len : Int32) (thr : Int32) (cre : Int32) (hash : Int64) (fS : Nat → Int32) (fOne : Nat → Int32) (fTwo : Nat → Int32) (fBoth : Nat → Int32) (letter : Int32) (what : Int32) (hp : P_X11_number fS fOne fTwo fBoth letter what) : M vI l yX11_number cX11_number 3 (some .int) 4 93 D (tyF cI cL cP cJ) [.ref o, .int letter, .int what] [[(o, .inr (9, [.ref aS, .ref aPast, .int known, .ref aSnap, .int kept, .ref aText, .int len, .int thr, .ref aOne, .ref aTwo, .ref aBoth, .ref aWord, .int cre, .ref aOpen, .ref aTimes, .ref aFar, .ref aQueue, .long hash]))], [(aS, .inl (cI, 335, .inl fS))], [(aOne, .inl (cI, 4, .inl fOne))], [(aTwo, .inl (cI, 4, .inl fTwo))], [(aBoth, .inl (cI, 4, .inl fBoth))]] (fun (r : Int32) (w1 : List va_W) => r = (F_X11_number fS fOne fTwo fBoth letter what).1 ∧ w1 = [[(o, .inr (9, [.ref aS, .ref aPast, .int known, .ref aSnap, .int kept, .ref aText, .int len, .int thr, .ref aOne, .ref aTwo, .ref aBoth, .ref aWord, .int cre, .ref aOpen, .ref aTimes, .ref aFar, .ref aQueue, .long hash]))], [(aS, .inl (cI, 335, .inl fS))], [(aOne, .inl (cI, 4, .inl ((F_X11_number fS fOne fTwo fBoth letter what).2.1)))], [(aTwo, .inl (cI, 4, .inl ((F_X11_number fS fOne fTwo fBoth letter what).2.2.1)))], [(aBoth, .inl (cI, 4, .inl ((F_X11_number fS fOne fTwo fBoth letter what).2.2.2)))]]) := by
  unfold P_X11_number at hp
  refine m_start (by decide +kernel) (Nat.le_of_ble_eq_true rfl) (fun p e s m args below meth c A Q hA hQ C hr hlo => ?_)
  refine r_Le (L' := [(0, .ref o), (1, .int letter), (2, .int what)]) rfl ?_
  refine r_iload_n C dX11_number_0 2 rfl ?_
  by_cases c32 : what = 0
  · have hp := hp.1 c32
    refine r_tin (tgt := 56) (off := 55) C dX11_number_1 c32 (by decide) (by decide) (by decide) (by decide) ?_
    refine r_aload_n C dX11_number_56 0 rfl ?_
    refine r_iload_n C dX11_number_57 1 rfl ?_
    have h1 := hp
    refine r_callV (ci := 9) (wc := [[(o, .inr (9, [.ref aS, .ref aPast, .int known, .ref aSnap, .int kept, .ref aText, .int len, .int thr, .ref aOne, .ref aTwo, .ref aBoth, .ref aWord, .int cre, .ref aOpen, .ref aTimes, .ref aFar, .ref aQueue, .long hash]))], [(aS, .inl (cI, 335, .inl fS))], [(aOne, .inl (cI, 4, .inl fOne))]]) (wr := [[(aTwo, .inl (cI, 4, .inl fTwo))], [(aBoth, .inl (cI, 4, .inl fBoth))]]) (st := []) C (m_X11_lengthOf l D cI cL cP cJ o aS aPast aSnap aText aOne aTwo aBoth aWord aOpen aTimes aFar aQueue known kept len thr cre hash fS fOne letter h1) k_X11_lengthOf t_1002 [0, 1, 2, 3, 4] (show ([0, 1, 2, 3, 4] : List Nat).Perm (List.range 5) by decide) rfl rfl rfl (q0 := 0) rfl rfl rfl (Nat.le_of_ble_eq_true rfl) ⟨Nat.le_of_ble_eq_true rfl, Nat.le_of_ble_eq_true rfl⟩ ⟨Nat.zero_le _, Nat.zero_le _⟩ dX11_number_58 (fun r2 wr2 hw2 => ?_)
    obtain ⟨e_r2, rfl⟩ := hw2
    obtain ⟨g3, e_g3⟩ : ∃ z : Nat → Int32, z = (F_X11_lengthOf fS fOne letter).2 := ⟨_, rfl⟩
    refine r_ws (I' := [[(o, .inr (9, [.ref aS, .ref aPast, .int known, .ref aSnap, .int kept, .ref aText, .int len, .int thr, .ref aOne, .ref aTwo, .ref aBoth, .ref aWord, .int cre, .ref aOpen, .ref aTimes, .ref aFar, .ref aQueue, .long hash]))], [(aS, .inl (cI, 335, .inl fS))], [(aOne, .inl (cI, 4, .inl g3))], [(aTwo, .inl (cI, 4, .inl fTwo))], [(aBoth, .inl (cI, 4, .inl fBoth))]]) (by rw [e_g3]; rfl) ?_
    have eF : F_X11_number fS fOne fTwo fBoth letter what = (r2, g3, fTwo, fBoth) := by have q := e_r2.symm; subst q; have q := e_g3.symm; subst q; simp only [F_X11_number, if_pos c32]
    exact r_iret (r := r2) C hA hr hlo dX11_number_61 [[(o, .inr (9, [.ref aS, .ref aPast, .int known, .ref aSnap, .int kept, .ref aText, .int len, .int thr, .ref aOne, .ref aTwo, .ref aBoth, .ref aWord, .int cre, .ref aOpen, .ref aTimes, .ref aFar, .ref aQueue, .long hash]))], [(aS, .inl (cI, 335, .inl fS))], [(aOne, .inl (cI, 4, .inl g3))], [(aTwo, .inl (cI, 4, .inl fTwo))], [(aBoth, .inl (cI, 4, .inl fBoth))]] ⟨by simp only [eF], by simp only [eF]⟩ rfl hQ
  have hp := hp.2 c32
  by_cases c33 : what = 1
  · have hp := hp.1 c33
    refine r_tin (tgt := 62) (off := 61) C dX11_number_1 c33 (by decide) (by decide) (by decide) (by decide) ?_
    refine r_aload_n C dX11_number_62 0 rfl ?_
    refine r_iload_n C dX11_number_63 1 rfl ?_
    have h4 := hp
    refine r_callV (ci := 9) (wc := [[(o, .inr (9, [.ref aS, .ref aPast, .int known, .ref aSnap, .int kept, .ref aText, .int len, .int thr, .ref aOne, .ref aTwo, .ref aBoth, .ref aWord, .int cre, .ref aOpen, .ref aTimes, .ref aFar, .ref aQueue, .long hash]))], [(aS, .inl (cI, 335, .inl fS))], [(aOne, .inl (cI, 4, .inl fOne))]]) (wr := [[(aTwo, .inl (cI, 4, .inl fTwo))], [(aBoth, .inl (cI, 4, .inl fBoth))]]) (st := []) C (m_X11_foldedBack l D cI cL cP cJ o aS aPast aSnap aText aOne aTwo aBoth aWord aOpen aTimes aFar aQueue known kept len thr cre hash fS fOne letter h4) k_X11_foldedBack t_1151 [0, 1, 2, 3, 4] (show ([0, 1, 2, 3, 4] : List Nat).Perm (List.range 5) by decide) rfl rfl rfl (q0 := 0) rfl rfl rfl (Nat.le_of_ble_eq_true rfl) ⟨Nat.le_of_ble_eq_true rfl, Nat.le_of_ble_eq_true rfl⟩ ⟨Nat.zero_le _, Nat.zero_le _⟩ dX11_number_64 (fun r5 wr5 hw5 => ?_)
    obtain ⟨e_r5, rfl⟩ := hw5
    obtain ⟨g6, e_g6⟩ : ∃ z : Nat → Int32, z = (F_X11_foldedBack fS fOne letter).2 := ⟨_, rfl⟩
    refine r_ws (I' := [[(o, .inr (9, [.ref aS, .ref aPast, .int known, .ref aSnap, .int kept, .ref aText, .int len, .int thr, .ref aOne, .ref aTwo, .ref aBoth, .ref aWord, .int cre, .ref aOpen, .ref aTimes, .ref aFar, .ref aQueue, .long hash]))], [(aS, .inl (cI, 335, .inl fS))], [(aOne, .inl (cI, 4, .inl g6))], [(aTwo, .inl (cI, 4, .inl fTwo))], [(aBoth, .inl (cI, 4, .inl fBoth))]]) (by rw [e_g6]; rfl) ?_
    have eF : F_X11_number fS fOne fTwo fBoth letter what = (r5, g6, fTwo, fBoth) := by have q := e_r5.symm; subst q; have q := e_g6.symm; subst q; simp only [F_X11_number, if_neg c32, if_pos c33]
    exact r_iret (r := r5) C hA hr hlo dX11_number_67 [[(o, .inr (9, [.ref aS, .ref aPast, .int known, .ref aSnap, .int kept, .ref aText, .int len, .int thr, .ref aOne, .ref aTwo, .ref aBoth, .ref aWord, .int cre, .ref aOpen, .ref aTimes, .ref aFar, .ref aQueue, .long hash]))], [(aS, .inl (cI, 335, .inl fS))], [(aOne, .inl (cI, 4, .inl g6))], [(aTwo, .inl (cI, 4, .inl fTwo))], [(aBoth, .inl (cI, 4, .inl fBoth))]] ⟨by simp only [eF], by simp only [eF]⟩ rfl hQ
  have hp := hp.2 c33
  by_cases c34 : what = 2
  · have hp := hp.1 c34
    refine r_tin (tgt := 68) (off := 67) C dX11_number_1 c34 (by decide) (by decide) (by decide) (by decide) ?_
    refine r_aload_n C dX11_number_68 0 rfl ?_
    refine r_iload_n C dX11_number_69 1 rfl ?_
    refine r_iconst (v := 4) C dX11_number_70 (by decide) ?_
    have h7 := hp
    refine r_callV (ci := 9) (wc := [[(o, .inr (9, [.ref aS, .ref aPast, .int known, .ref aSnap, .int kept, .ref aText, .int len, .int thr, .ref aOne, .ref aTwo, .ref aBoth, .ref aWord, .int cre, .ref aOpen, .ref aTimes, .ref aFar, .ref aQueue, .long hash]))], [(aS, .inl (cI, 335, .inl fS))]]) (wr := [[(aOne, .inl (cI, 4, .inl fOne))], [(aTwo, .inl (cI, 4, .inl fTwo))], [(aBoth, .inl (cI, 4, .inl fBoth))]]) (st := []) C (m_X11_its l D cI cL cP cJ o aS aPast aSnap aText aOne aTwo aBoth aWord aOpen aTimes aFar aQueue known kept len thr cre hash fS letter 4 h7) k_X11_its t_966 [0, 1, 2, 3, 4] (show ([0, 1, 2, 3, 4] : List Nat).Perm (List.range 5) by decide) rfl rfl rfl (q0 := 0) rfl rfl rfl (Nat.le_of_ble_eq_true rfl) ⟨Nat.le_of_ble_eq_true rfl, Nat.le_of_ble_eq_true rfl⟩ ⟨Nat.zero_le _, Nat.zero_le _⟩ dX11_number_71 (fun r8 wr8 hw8 => ?_)
    obtain ⟨e_r8, rfl⟩ := hw8
    refine r_ws (I' := [[(o, .inr (9, [.ref aS, .ref aPast, .int known, .ref aSnap, .int kept, .ref aText, .int len, .int thr, .ref aOne, .ref aTwo, .ref aBoth, .ref aWord, .int cre, .ref aOpen, .ref aTimes, .ref aFar, .ref aQueue, .long hash]))], [(aS, .inl (cI, 335, .inl fS))], [(aOne, .inl (cI, 4, .inl fOne))], [(aTwo, .inl (cI, 4, .inl fTwo))], [(aBoth, .inl (cI, 4, .inl fBoth))]]) rfl ?_
    have eF : F_X11_number fS fOne fTwo fBoth letter what = (r8, fOne, fTwo, fBoth) := by have q := e_r8.symm; subst q; simp only [F_X11_number, if_neg c32, if_neg c33, if_pos c34]
    exact r_iret (r := r8) C hA hr hlo dX11_number_74 [[(o, .inr (9, [.ref aS, .ref aPast, .int known, .ref aSnap, .int kept, .ref aText, .int len, .int thr, .ref aOne, .ref aTwo, .ref aBoth, .ref aWord, .int cre, .ref aOpen, .ref aTimes, .ref aFar, .ref aQueue, .long hash]))], [(aS, .inl (cI, 335, .inl fS))], [(aOne, .inl (cI, 4, .inl fOne))], [(aTwo, .inl (cI, 4, .inl fTwo))], [(aBoth, .inl (cI, 4, .inl fBoth))]] ⟨by simp only [eF], by simp only [eF]⟩ rfl hQ
  have hp := hp.2 c34
  by_cases c35 : what = 3
  · have hp := hp.1 c35
    refine r_tin (tgt := 75) (off := 74) C dX11_number_1 c35 (by decide) (by decide) (by decide) (by decide) ?_
    refine r_aload_n C dX11_number_75 0 rfl ?_
    refine r_iload_n C dX11_number_76 1 rfl ?_
    have h9 := hp
    refine r_callV (ci := 9) (wc := [[(o, .inr (9, [.ref aS, .ref aPast, .int known, .ref aSnap, .int kept, .ref aText, .int len, .int thr, .ref aOne, .ref aTwo, .ref aBoth, .ref aWord, .int cre, .ref aOpen, .ref aTimes, .ref aFar, .ref aQueue, .long hash]))], [(aS, .inl (cI, 335, .inl fS))], [(aOne, .inl (cI, 4, .inl fOne))], [(aTwo, .inl (cI, 4, .inl fTwo))], [(aBoth, .inl (cI, 4, .inl fBoth))]]) (wr := []) (st := []) C (m_X11_period l D cI cL cP cJ o aS aPast aSnap aText aOne aTwo aBoth aWord aOpen aTimes aFar aQueue known kept len thr cre hash fS fOne fTwo fBoth letter h9) k_X11_period t_1155 [0, 1, 2, 3, 4] (show ([0, 1, 2, 3, 4] : List Nat).Perm (List.range 5) by decide) rfl rfl rfl (q0 := 0) rfl rfl rfl (Nat.le_of_ble_eq_true rfl) ⟨Nat.le_of_ble_eq_true rfl, Nat.le_of_ble_eq_true rfl⟩ ⟨Nat.zero_le _, Nat.zero_le _⟩ dX11_number_77 (fun r10 wr10 hw10 => ?_)
    obtain ⟨e_r10, rfl⟩ := hw10
    obtain ⟨g11, e_g11⟩ : ∃ z : Nat → Int32, z = (F_X11_period fS fOne fTwo fBoth letter).2.1 := ⟨_, rfl⟩
    obtain ⟨g12, e_g12⟩ : ∃ z : Nat → Int32, z = (F_X11_period fS fOne fTwo fBoth letter).2.2.1 := ⟨_, rfl⟩
    obtain ⟨g13, e_g13⟩ : ∃ z : Nat → Int32, z = (F_X11_period fS fOne fTwo fBoth letter).2.2.2 := ⟨_, rfl⟩
    refine r_ws (I' := [[(o, .inr (9, [.ref aS, .ref aPast, .int known, .ref aSnap, .int kept, .ref aText, .int len, .int thr, .ref aOne, .ref aTwo, .ref aBoth, .ref aWord, .int cre, .ref aOpen, .ref aTimes, .ref aFar, .ref aQueue, .long hash]))], [(aS, .inl (cI, 335, .inl fS))], [(aOne, .inl (cI, 4, .inl g11))], [(aTwo, .inl (cI, 4, .inl g12))], [(aBoth, .inl (cI, 4, .inl g13))]]) (by rw [e_g11, e_g12, e_g13]; rfl) ?_
    have eF : F_X11_number fS fOne fTwo fBoth letter what = (r10, g11, g12, g13) := by have q := e_r10.symm; subst q; have q := e_g11.symm; subst q; have q := e_g12.symm; subst q; have q := e_g13.symm; subst q; simp only [F_X11_number, if_neg c32, if_neg c33, if_neg c34, if_pos c35]
    exact r_iret (r := r10) C hA hr hlo dX11_number_80 [[(o, .inr (9, [.ref aS, .ref aPast, .int known, .ref aSnap, .int kept, .ref aText, .int len, .int thr, .ref aOne, .ref aTwo, .ref aBoth, .ref aWord, .int cre, .ref aOpen, .ref aTimes, .ref aFar, .ref aQueue, .long hash]))], [(aS, .inl (cI, 335, .inl fS))], [(aOne, .inl (cI, 4, .inl g11))], [(aTwo, .inl (cI, 4, .inl g12))], [(aBoth, .inl (cI, 4, .inl g13))]] ⟨by simp only [eF], by simp only [eF]⟩ rfl hQ
  have hp := hp.2 c35
  by_cases c36 : what = 4
  · have hp := hp.1 c36
    refine r_tin (tgt := 81) (off := 80) C dX11_number_1 c36 (by decide) (by decide) (by decide) (by decide) ?_
    refine r_aload_n C dX11_number_81 0 rfl ?_
    refine r_iload_n C dX11_number_82 1 rfl ?_
    have h14 := hp
    refine r_callV (ci := 9) (wc := [[(o, .inr (9, [.ref aS, .ref aPast, .int known, .ref aSnap, .int kept, .ref aText, .int len, .int thr, .ref aOne, .ref aTwo, .ref aBoth, .ref aWord, .int cre, .ref aOpen, .ref aTimes, .ref aFar, .ref aQueue, .long hash]))], [(aS, .inl (cI, 335, .inl fS))]]) (wr := [[(aOne, .inl (cI, 4, .inl fOne))], [(aTwo, .inl (cI, 4, .inl fTwo))], [(aBoth, .inl (cI, 4, .inl fBoth))]]) (st := []) C (m_X11_isMirror l D cI cL cP cJ o aS aPast aSnap aText aOne aTwo aBoth aWord aOpen aTimes aFar aQueue known kept len thr cre hash fS letter h14) k_X11_isMirror t_1159 [0, 1, 2, 3, 4] (show ([0, 1, 2, 3, 4] : List Nat).Perm (List.range 5) by decide) rfl rfl rfl (q0 := 0) rfl rfl rfl (Nat.le_of_ble_eq_true rfl) ⟨Nat.le_of_ble_eq_true rfl, Nat.le_of_ble_eq_true rfl⟩ ⟨Nat.zero_le _, Nat.zero_le _⟩ dX11_number_83 (fun r15 wr15 hw15 => ?_)
    obtain ⟨e_r15, rfl⟩ := hw15
    refine r_ws (I' := [[(o, .inr (9, [.ref aS, .ref aPast, .int known, .ref aSnap, .int kept, .ref aText, .int len, .int thr, .ref aOne, .ref aTwo, .ref aBoth, .ref aWord, .int cre, .ref aOpen, .ref aTimes, .ref aFar, .ref aQueue, .long hash]))], [(aS, .inl (cI, 335, .inl fS))], [(aOne, .inl (cI, 4, .inl fOne))], [(aTwo, .inl (cI, 4, .inl fTwo))], [(aBoth, .inl (cI, 4, .inl fBoth))]]) rfl ?_
    suffices K : ∀ x17 : Int32, x17 = ((if r15 = 0 then (0) else (1))) → V p l e (rmm 4 93) s m args below meth c 3 D A 0 0 Q [[(o, .inr (9, [.ref aS, .ref aPast, .int known, .ref aSnap, .int kept, .ref aText, .int len, .int thr, .ref aOne, .ref aTwo, .ref aBoth, .ref aWord, .int cre, .ref aOpen, .ref aTimes, .ref aFar, .ref aQueue, .long hash]))], [(aS, .inl (cI, 335, .inl fS))], [(aOne, .inl (cI, 4, .inl fOne))], [(aTwo, .inl (cI, 4, .inl fTwo))], [(aBoth, .inl (cI, 4, .inl fBoth))]] [(0, .ref o), (1, .int letter), (2, .int what)] 94 [.int x17] by
      refine r_if_eq (tgt := 93) C dX11_number_86 (by decide) (fun c16 => ?_) (fun c16 => ?_)
      · refine r_iconst (v := 0) C dX11_number_93 (by decide) ?_
        exact K _ (by simp only [if_pos c16])
      · refine r_iconst (v := 1) C dX11_number_89 (by decide) ?_
        refine r_goto (tgt := 94) C dX11_number_90 (by decide) ?_
        exact K _ (by simp only [if_neg c16])
    intro x17 e_x17
    have eF : F_X11_number fS fOne fTwo fBoth letter what = (x17, fOne, fTwo, fBoth) := by have q := e_r15.symm; subst q; have q := e_x17.symm; subst q; simp only [F_X11_number, if_neg c32, if_neg c33, if_neg c34, if_neg c35, if_pos c36]
    exact r_iret (r := x17) C hA hr hlo dX11_number_94 [[(o, .inr (9, [.ref aS, .ref aPast, .int known, .ref aSnap, .int kept, .ref aText, .int len, .int thr, .ref aOne, .ref aTwo, .ref aBoth, .ref aWord, .int cre, .ref aOpen, .ref aTimes, .ref aFar, .ref aQueue, .long hash]))], [(aS, .inl (cI, 335, .inl fS))], [(aOne, .inl (cI, 4, .inl fOne))], [(aTwo, .inl (cI, 4, .inl fTwo))], [(aBoth, .inl (cI, 4, .inl fBoth))]] ⟨by simp only [eF], by simp only [eF]⟩ rfl hQ
  have hp := hp.2 c36
  by_cases c37 : what = 5
  · have hp := hp.1 c37
    refine r_tin (tgt := 95) (off := 94) C dX11_number_1 c37 (by decide) (by decide) (by decide) (by decide) ?_
    refine r_aload_n C dX11_number_95 0 rfl ?_
    refine r_iload_n C dX11_number_96 1 rfl ?_
    refine r_iload_n C dX11_number_97 2 rfl ?_
    have h18 := hp
    refine r_callV (ci := 9) (wc := [[(o, .inr (9, [.ref aS, .ref aPast, .int known, .ref aSnap, .int kept, .ref aText, .int len, .int thr, .ref aOne, .ref aTwo, .ref aBoth, .ref aWord, .int cre, .ref aOpen, .ref aTimes, .ref aFar, .ref aQueue, .long hash]))], [(aS, .inl (cI, 335, .inl fS))]]) (wr := [[(aOne, .inl (cI, 4, .inl fOne))], [(aTwo, .inl (cI, 4, .inl fTwo))], [(aBoth, .inl (cI, 4, .inl fBoth))]]) (st := []) C (m_X11_layers l D cI cL cP cJ o aS aPast aSnap aText aOne aTwo aBoth aWord aOpen aTimes aFar aQueue known kept len thr cre hash fS letter what h18) k_X11_layers t_1163 [0, 1, 2, 3, 4] (show ([0, 1, 2, 3, 4] : List Nat).Perm (List.range 5) by decide) rfl rfl rfl (q0 := 0) rfl rfl rfl (Nat.le_of_ble_eq_true rfl) ⟨Nat.le_of_ble_eq_true rfl, Nat.le_of_ble_eq_true rfl⟩ ⟨Nat.zero_le _, Nat.zero_le _⟩ dX11_number_98 (fun r19 wr19 hw19 => ?_)
    obtain ⟨e_r19, rfl⟩ := hw19
    refine r_ws (I' := [[(o, .inr (9, [.ref aS, .ref aPast, .int known, .ref aSnap, .int kept, .ref aText, .int len, .int thr, .ref aOne, .ref aTwo, .ref aBoth, .ref aWord, .int cre, .ref aOpen, .ref aTimes, .ref aFar, .ref aQueue, .long hash]))], [(aS, .inl (cI, 335, .inl fS))], [(aOne, .inl (cI, 4, .inl fOne))], [(aTwo, .inl (cI, 4, .inl fTwo))], [(aBoth, .inl (cI, 4, .inl fBoth))]]) rfl ?_
    have eF : F_X11_number fS fOne fTwo fBoth letter what = (r19, fOne, fTwo, fBoth) := by have q := e_r19.symm; subst q; simp only [F_X11_number, if_neg c32, if_neg c33, if_neg c34, if_neg c35, if_neg c36, if_pos c37]
    exact r_iret (r := r19) C hA hr hlo dX11_number_101 [[(o, .inr (9, [.ref aS, .ref aPast, .int known, .ref aSnap, .int kept, .ref aText, .int len, .int thr, .ref aOne, .ref aTwo, .ref aBoth, .ref aWord, .int cre, .ref aOpen, .ref aTimes, .ref aFar, .ref aQueue, .long hash]))], [(aS, .inl (cI, 335, .inl fS))], [(aOne, .inl (cI, 4, .inl fOne))], [(aTwo, .inl (cI, 4, .inl fTwo))], [(aBoth, .inl (cI, 4, .inl fBoth))]] ⟨by simp only [eF], by simp only [eF]⟩ rfl hQ
  have hp := hp.2 c37
  by_cases c38 : what = 6
  · have hp := hp.1 c38
    refine r_tin (tgt := 95) (off := 94) C dX11_number_1 c38 (by decide) (by decide) (by decide) (by decide) ?_
    refine r_aload_n C dX11_number_95 0 rfl ?_
    refine r_iload_n C dX11_number_96 1 rfl ?_
    refine r_iload_n C dX11_number_97 2 rfl ?_
    have h20 := hp
    refine r_callV (ci := 9) (wc := [[(o, .inr (9, [.ref aS, .ref aPast, .int known, .ref aSnap, .int kept, .ref aText, .int len, .int thr, .ref aOne, .ref aTwo, .ref aBoth, .ref aWord, .int cre, .ref aOpen, .ref aTimes, .ref aFar, .ref aQueue, .long hash]))], [(aS, .inl (cI, 335, .inl fS))]]) (wr := [[(aOne, .inl (cI, 4, .inl fOne))], [(aTwo, .inl (cI, 4, .inl fTwo))], [(aBoth, .inl (cI, 4, .inl fBoth))]]) (st := []) C (m_X11_layers l D cI cL cP cJ o aS aPast aSnap aText aOne aTwo aBoth aWord aOpen aTimes aFar aQueue known kept len thr cre hash fS letter what h20) k_X11_layers t_1163 [0, 1, 2, 3, 4] (show ([0, 1, 2, 3, 4] : List Nat).Perm (List.range 5) by decide) rfl rfl rfl (q0 := 0) rfl rfl rfl (Nat.le_of_ble_eq_true rfl) ⟨Nat.le_of_ble_eq_true rfl, Nat.le_of_ble_eq_true rfl⟩ ⟨Nat.zero_le _, Nat.zero_le _⟩ dX11_number_98 (fun r21 wr21 hw21 => ?_)
    obtain ⟨e_r21, rfl⟩ := hw21
    refine r_ws (I' := [[(o, .inr (9, [.ref aS, .ref aPast, .int known, .ref aSnap, .int kept, .ref aText, .int len, .int thr, .ref aOne, .ref aTwo, .ref aBoth, .ref aWord, .int cre, .ref aOpen, .ref aTimes, .ref aFar, .ref aQueue, .long hash]))], [(aS, .inl (cI, 335, .inl fS))], [(aOne, .inl (cI, 4, .inl fOne))], [(aTwo, .inl (cI, 4, .inl fTwo))], [(aBoth, .inl (cI, 4, .inl fBoth))]]) rfl ?_
    have eF : F_X11_number fS fOne fTwo fBoth letter what = (r21, fOne, fTwo, fBoth) := by have q := e_r21.symm; subst q; simp only [F_X11_number, if_neg c32, if_neg c33, if_neg c34, if_neg c35, if_neg c36, if_neg c37, if_pos c38]
    exact r_iret (r := r21) C hA hr hlo dX11_number_101 [[(o, .inr (9, [.ref aS, .ref aPast, .int known, .ref aSnap, .int kept, .ref aText, .int len, .int thr, .ref aOne, .ref aTwo, .ref aBoth, .ref aWord, .int cre, .ref aOpen, .ref aTimes, .ref aFar, .ref aQueue, .long hash]))], [(aS, .inl (cI, 335, .inl fS))], [(aOne, .inl (cI, 4, .inl fOne))], [(aTwo, .inl (cI, 4, .inl fTwo))], [(aBoth, .inl (cI, 4, .inl fBoth))]] ⟨by simp only [eF], by simp only [eF]⟩ rfl hQ
  have hp := hp.2 c38
  by_cases c39 : what = 7
  · have hp := hp.1 c39
    refine r_tin (tgt := 102) (off := 101) C dX11_number_1 c39 (by decide) (by decide) (by decide) (by decide) ?_
    refine r_aload_n C dX11_number_102 0 rfl ?_
    refine r_iload_n C dX11_number_103 1 rfl ?_
    refine r_iconst (v := 5) C dX11_number_104 (by decide) ?_
    have h22 := hp
    refine r_callV (ci := 9) (wc := [[(o, .inr (9, [.ref aS, .ref aPast, .int known, .ref aSnap, .int kept, .ref aText, .int len, .int thr, .ref aOne, .ref aTwo, .ref aBoth, .ref aWord, .int cre, .ref aOpen, .ref aTimes, .ref aFar, .ref aQueue, .long hash]))], [(aS, .inl (cI, 335, .inl fS))]]) (wr := [[(aOne, .inl (cI, 4, .inl fOne))], [(aTwo, .inl (cI, 4, .inl fTwo))], [(aBoth, .inl (cI, 4, .inl fBoth))]]) (st := []) C (m_X11_its l D cI cL cP cJ o aS aPast aSnap aText aOne aTwo aBoth aWord aOpen aTimes aFar aQueue known kept len thr cre hash fS letter 5 h22) k_X11_its t_966 [0, 1, 2, 3, 4] (show ([0, 1, 2, 3, 4] : List Nat).Perm (List.range 5) by decide) rfl rfl rfl (q0 := 0) rfl rfl rfl (Nat.le_of_ble_eq_true rfl) ⟨Nat.le_of_ble_eq_true rfl, Nat.le_of_ble_eq_true rfl⟩ ⟨Nat.zero_le _, Nat.zero_le _⟩ dX11_number_105 (fun r23 wr23 hw23 => ?_)
    obtain ⟨e_r23, rfl⟩ := hw23
    refine r_ws (I' := [[(o, .inr (9, [.ref aS, .ref aPast, .int known, .ref aSnap, .int kept, .ref aText, .int len, .int thr, .ref aOne, .ref aTwo, .ref aBoth, .ref aWord, .int cre, .ref aOpen, .ref aTimes, .ref aFar, .ref aQueue, .long hash]))], [(aS, .inl (cI, 335, .inl fS))], [(aOne, .inl (cI, 4, .inl fOne))], [(aTwo, .inl (cI, 4, .inl fTwo))], [(aBoth, .inl (cI, 4, .inl fBoth))]]) rfl ?_
    have eF : F_X11_number fS fOne fTwo fBoth letter what = (r23, fOne, fTwo, fBoth) := by have q := e_r23.symm; subst q; simp only [F_X11_number, if_neg c32, if_neg c33, if_neg c34, if_neg c35, if_neg c36, if_neg c37, if_neg c38, if_pos c39]
    exact r_iret (r := r23) C hA hr hlo dX11_number_108 [[(o, .inr (9, [.ref aS, .ref aPast, .int known, .ref aSnap, .int kept, .ref aText, .int len, .int thr, .ref aOne, .ref aTwo, .ref aBoth, .ref aWord, .int cre, .ref aOpen, .ref aTimes, .ref aFar, .ref aQueue, .long hash]))], [(aS, .inl (cI, 335, .inl fS))], [(aOne, .inl (cI, 4, .inl fOne))], [(aTwo, .inl (cI, 4, .inl fTwo))], [(aBoth, .inl (cI, 4, .inl fBoth))]] ⟨by simp only [eF], by simp only [eF]⟩ rfl hQ
  have hp := hp.2 c39
  by_cases c40 : what = 8
  · have hp := hp.1 c40
    refine r_tin (tgt := 109) (off := 108) C dX11_number_1 c40 (by decide) (by decide) (by decide) (by decide) ?_
    refine r_aload_n C dX11_number_109 0 rfl ?_
    refine r_iload_n C dX11_number_110 1 rfl ?_
    refine r_iload_n C dX11_number_111 2 rfl ?_
    have h24 := hp
    refine r_callV (ci := 9) (wc := [[(o, .inr (9, [.ref aS, .ref aPast, .int known, .ref aSnap, .int kept, .ref aText, .int len, .int thr, .ref aOne, .ref aTwo, .ref aBoth, .ref aWord, .int cre, .ref aOpen, .ref aTimes, .ref aFar, .ref aQueue, .long hash]))], [(aS, .inl (cI, 335, .inl fS))], [(aOne, .inl (cI, 4, .inl fOne))]]) (wr := [[(aTwo, .inl (cI, 4, .inl fTwo))], [(aBoth, .inl (cI, 4, .inl fBoth))]]) (st := []) C (m_X11_creasesOf l D cI cL cP cJ o aS aPast aSnap aText aOne aTwo aBoth aWord aOpen aTimes aFar aQueue known kept len thr cre hash fS fOne letter what h24) k_X11_creasesOf t_1167 [0, 1, 2, 3, 4] (show ([0, 1, 2, 3, 4] : List Nat).Perm (List.range 5) by decide) rfl rfl rfl (q0 := 0) rfl rfl rfl (Nat.le_of_ble_eq_true rfl) ⟨Nat.le_of_ble_eq_true rfl, Nat.le_of_ble_eq_true rfl⟩ ⟨Nat.zero_le _, Nat.zero_le _⟩ dX11_number_112 (fun r25 wr25 hw25 => ?_)
    obtain ⟨e_r25, rfl⟩ := hw25
    obtain ⟨g26, e_g26⟩ : ∃ z : Nat → Int32, z = (F_X11_creasesOf fS fOne letter what).2 := ⟨_, rfl⟩
    refine r_ws (I' := [[(o, .inr (9, [.ref aS, .ref aPast, .int known, .ref aSnap, .int kept, .ref aText, .int len, .int thr, .ref aOne, .ref aTwo, .ref aBoth, .ref aWord, .int cre, .ref aOpen, .ref aTimes, .ref aFar, .ref aQueue, .long hash]))], [(aS, .inl (cI, 335, .inl fS))], [(aOne, .inl (cI, 4, .inl g26))], [(aTwo, .inl (cI, 4, .inl fTwo))], [(aBoth, .inl (cI, 4, .inl fBoth))]]) (by rw [e_g26]; rfl) ?_
    have eF : F_X11_number fS fOne fTwo fBoth letter what = (r25, g26, fTwo, fBoth) := by have q := e_r25.symm; subst q; have q := e_g26.symm; subst q; simp only [F_X11_number, if_neg c32, if_neg c33, if_neg c34, if_neg c35, if_neg c36, if_neg c37, if_neg c38, if_neg c39, if_pos c40]
    exact r_iret (r := r25) C hA hr hlo dX11_number_115 [[(o, .inr (9, [.ref aS, .ref aPast, .int known, .ref aSnap, .int kept, .ref aText, .int len, .int thr, .ref aOne, .ref aTwo, .ref aBoth, .ref aWord, .int cre, .ref aOpen, .ref aTimes, .ref aFar, .ref aQueue, .long hash]))], [(aS, .inl (cI, 335, .inl fS))], [(aOne, .inl (cI, 4, .inl g26))], [(aTwo, .inl (cI, 4, .inl fTwo))], [(aBoth, .inl (cI, 4, .inl fBoth))]] ⟨by simp only [eF], by simp only [eF]⟩ rfl hQ
  have hp := hp.2 c40
  by_cases c41 : what = 9
  · have hp := hp.1 c41
    refine r_tin (tgt := 109) (off := 108) C dX11_number_1 c41 (by decide) (by decide) (by decide) (by decide) ?_
    refine r_aload_n C dX11_number_109 0 rfl ?_
    refine r_iload_n C dX11_number_110 1 rfl ?_
    refine r_iload_n C dX11_number_111 2 rfl ?_
    have h27 := hp
    refine r_callV (ci := 9) (wc := [[(o, .inr (9, [.ref aS, .ref aPast, .int known, .ref aSnap, .int kept, .ref aText, .int len, .int thr, .ref aOne, .ref aTwo, .ref aBoth, .ref aWord, .int cre, .ref aOpen, .ref aTimes, .ref aFar, .ref aQueue, .long hash]))], [(aS, .inl (cI, 335, .inl fS))], [(aOne, .inl (cI, 4, .inl fOne))]]) (wr := [[(aTwo, .inl (cI, 4, .inl fTwo))], [(aBoth, .inl (cI, 4, .inl fBoth))]]) (st := []) C (m_X11_creasesOf l D cI cL cP cJ o aS aPast aSnap aText aOne aTwo aBoth aWord aOpen aTimes aFar aQueue known kept len thr cre hash fS fOne letter what h27) k_X11_creasesOf t_1167 [0, 1, 2, 3, 4] (show ([0, 1, 2, 3, 4] : List Nat).Perm (List.range 5) by decide) rfl rfl rfl (q0 := 0) rfl rfl rfl (Nat.le_of_ble_eq_true rfl) ⟨Nat.le_of_ble_eq_true rfl, Nat.le_of_ble_eq_true rfl⟩ ⟨Nat.zero_le _, Nat.zero_le _⟩ dX11_number_112 (fun r28 wr28 hw28 => ?_)
    obtain ⟨e_r28, rfl⟩ := hw28
    obtain ⟨g29, e_g29⟩ : ∃ z : Nat → Int32, z = (F_X11_creasesOf fS fOne letter what).2 := ⟨_, rfl⟩
    refine r_ws (I' := [[(o, .inr (9, [.ref aS, .ref aPast, .int known, .ref aSnap, .int kept, .ref aText, .int len, .int thr, .ref aOne, .ref aTwo, .ref aBoth, .ref aWord, .int cre, .ref aOpen, .ref aTimes, .ref aFar, .ref aQueue, .long hash]))], [(aS, .inl (cI, 335, .inl fS))], [(aOne, .inl (cI, 4, .inl g29))], [(aTwo, .inl (cI, 4, .inl fTwo))], [(aBoth, .inl (cI, 4, .inl fBoth))]]) (by rw [e_g29]; rfl) ?_
    have eF : F_X11_number fS fOne fTwo fBoth letter what = (r28, g29, fTwo, fBoth) := by have q := e_r28.symm; subst q; have q := e_g29.symm; subst q; simp only [F_X11_number, if_neg c32, if_neg c33, if_neg c34, if_neg c35, if_neg c36, if_neg c37, if_neg c38, if_neg c39, if_neg c40, if_pos c41]
    exact r_iret (r := r28) C hA hr hlo dX11_number_115 [[(o, .inr (9, [.ref aS, .ref aPast, .int known, .ref aSnap, .int kept, .ref aText, .int len, .int thr, .ref aOne, .ref aTwo, .ref aBoth, .ref aWord, .int cre, .ref aOpen, .ref aTimes, .ref aFar, .ref aQueue, .long hash]))], [(aS, .inl (cI, 335, .inl fS))], [(aOne, .inl (cI, 4, .inl g29))], [(aTwo, .inl (cI, 4, .inl fTwo))], [(aBoth, .inl (cI, 4, .inl fBoth))]] ⟨by simp only [eF], by simp only [eF]⟩ rfl hQ
  have hp := hp.2 c41
  refine r_tout (tgt := 116) C dX11_number_1 (sw_out 9 (by decide) (fun i hi => by rcases (show i = 0 ∨ i = 1 ∨ i = 2 ∨ i = 3 ∨ i = 4 ∨ i = 5 ∨ i = 6 ∨ i = 7 ∨ i = 8 ∨ i = 9 by omega) with rfl | rfl | rfl | rfl | rfl | rfl | rfl | rfl | rfl | rfl; exact c32; exact c33; exact c34; exact c35; exact c36; exact c37; exact c38; exact c39; exact c40; exact c41)) (by decide) ?_
  refine r_aload_n C dX11_number_116 0 rfl ?_
  refine r_iload_n C dX11_number_117 1 rfl ?_
  refine r_bipush (v := 6) C dX11_number_118 (by decide) ?_
  have h30 := hp
  refine r_callV (ci := 9) (wc := [[(o, .inr (9, [.ref aS, .ref aPast, .int known, .ref aSnap, .int kept, .ref aText, .int len, .int thr, .ref aOne, .ref aTwo, .ref aBoth, .ref aWord, .int cre, .ref aOpen, .ref aTimes, .ref aFar, .ref aQueue, .long hash]))], [(aS, .inl (cI, 335, .inl fS))]]) (wr := [[(aOne, .inl (cI, 4, .inl fOne))], [(aTwo, .inl (cI, 4, .inl fTwo))], [(aBoth, .inl (cI, 4, .inl fBoth))]]) (st := []) C (m_X11_its l D cI cL cP cJ o aS aPast aSnap aText aOne aTwo aBoth aWord aOpen aTimes aFar aQueue known kept len thr cre hash fS letter 6 h30) k_X11_its t_966 [0, 1, 2, 3, 4] (show ([0, 1, 2, 3, 4] : List Nat).Perm (List.range 5) by decide) rfl rfl rfl (q0 := 0) rfl rfl rfl (Nat.le_of_ble_eq_true rfl) ⟨Nat.le_of_ble_eq_true rfl, Nat.le_of_ble_eq_true rfl⟩ ⟨Nat.zero_le _, Nat.zero_le _⟩ dX11_number_120 (fun r31 wr31 hw31 => ?_)
  obtain ⟨e_r31, rfl⟩ := hw31
  refine r_ws (I' := [[(o, .inr (9, [.ref aS, .ref aPast, .int known, .ref aSnap, .int kept, .ref aText, .int len, .int thr, .ref aOne, .ref aTwo, .ref aBoth, .ref aWord, .int cre, .ref aOpen, .ref aTimes, .ref aFar, .ref aQueue, .long hash]))], [(aS, .inl (cI, 335, .inl fS))], [(aOne, .inl (cI, 4, .inl fOne))], [(aTwo, .inl (cI, 4, .inl fTwo))], [(aBoth, .inl (cI, 4, .inl fBoth))]]) rfl ?_
  have eF : F_X11_number fS fOne fTwo fBoth letter what = (r31, fOne, fTwo, fBoth) := by have q := e_r31.symm; subst q; simp only [F_X11_number, if_neg c32, if_neg c33, if_neg c34, if_neg c35, if_neg c36, if_neg c37, if_neg c38, if_neg c39, if_neg c40, if_neg c41]
  exact r_iret (r := r31) C hA hr hlo dX11_number_123 [[(o, .inr (9, [.ref aS, .ref aPast, .int known, .ref aSnap, .int kept, .ref aText, .int len, .int thr, .ref aOne, .ref aTwo, .ref aBoth, .ref aWord, .int cre, .ref aOpen, .ref aTimes, .ref aFar, .ref aQueue, .long hash]))], [(aS, .inl (cI, 335, .inl fS))], [(aOne, .inl (cI, 4, .inl fOne))], [(aTwo, .inl (cI, 4, .inl fTwo))], [(aBoth, .inl (cI, 4, .inl fBoth))]] ⟨by simp only [eF], by simp only [eF]⟩ rfl hQ
theorem k_X11_letter : kV yX11_letter cX11_letter 3 (some .int) 2 := ⟨t_1144, t_1145, t_67, t_1146, by decide +kernel, by decide +kernel, by decide +kernel⟩
set_option maxRecDepth 20000 in
def F_X11_letter (fS : Nat → Int32) (fOne : Nat → Int32) (fTwo : Nat → Int32) (fBoth : Nat → Int32) (letter : Int32) (what : Int32) : Int32 × Int32 × (Nat → Int32) × (Nat → Int32) × (Nat → Int32) := let r1 : Int32 := F_X11_isLetter letter; let x5 : Int32 := (if r1 = 0 then (1) else (let r3 : Int32 := F_X11_in what 0 10; (if r3 = 0 then (2) else (0)))); let r6 : Int32 := (F_X11_throwsAt x5).1; let x7 : Int32 := (F_X11_throwsAt x5).2; let x14 : Int32 := (if r6 = 0 then (let r10 : Int32 := (F_X11_number fS fOne fTwo fBoth letter what).1; r10) else (0)); let g15 : Nat → Int32 := (if r6 = 0 then (let g11 : Nat → Int32 := (F_X11_number fS fOne fTwo fBoth letter what).2.1; g11) else (fOne)); let g16 : Nat → Int32 := (if r6 = 0 then (let g12 : Nat → Int32 := (F_X11_number fS fOne fTwo fBoth letter what).2.2.1; g12) else (fTwo)); let g17 : Nat → Int32 := (if r6 = 0 then (let g13 : Nat → Int32 := (F_X11_number fS fOne fTwo fBoth letter what).2.2.2; g13) else (fBoth)); (x14, x7, g15, g16, g17)
set_option maxRecDepth 20000 in
def P_X11_letter (fS : Nat → Int32) (fOne : Nat → Int32) (fTwo : Nat → Int32) (fBoth : Nat → Int32) (letter : Int32) (what : Int32) : Prop := (∀ r1 : Int32, r1 = F_X11_isLetter letter → (∀ x5 : Int32, x5 = ((if r1 = 0 then (1) else (let r3 : Int32 := F_X11_in what 0 10; (if r3 = 0 then (2) else (0))))) → (∀ r6 : Int32, r6 = (F_X11_throwsAt x5).1 → (∀ x7 : Int32, x7 = (F_X11_throwsAt x5).2 → ((r6 = 0 → (P_X11_number fS fOne fTwo fBoth letter what)) ∧ (¬ r6 = 0 → True))))))
set_option maxRecDepth 20000 in
set_option maxHeartbeats 8000000 in
theorem m_X11_letter (l : Launch) (D : va_G) (cI cL cP cJ : ClassId) (o : Nat) (aS : Nat) (aPast : Nat) (aSnap : Nat) (aText : Nat) (aOne : Nat) (aTwo : Nat) (aBoth : Nat) (aWord : Nat) (aOpen : Nat) (aTimes : Nat) (aFar : Nat) (aQueue : Nat) (known : Int32) (kept : Int32) (len : Int32) (thr : Int32) (cre : Int32) (hash : Int64) (fS : Nat → Int32) (fOne : Nat → Int32) (fTwo : Nat → Int32) (fBoth : Nat → Int32) (letter : Int32) (what : Int32) (hp : P_X11_letter fS fOne fTwo fBoth letter what) : M vI l yX11_letter cX11_letter 3 (some .int) 5 115 D (tyF cI cL cP cJ) [.ref o, .int letter, .int what] [[(o, .inr (9, [.ref aS, .ref aPast, .int known, .ref aSnap, .int kept, .ref aText, .int len, .int thr, .ref aOne, .ref aTwo, .ref aBoth, .ref aWord, .int cre, .ref aOpen, .ref aTimes, .ref aFar, .ref aQueue, .long hash]))], [(aS, .inl (cI, 335, .inl fS))], [(aOne, .inl (cI, 4, .inl fOne))], [(aTwo, .inl (cI, 4, .inl fTwo))], [(aBoth, .inl (cI, 4, .inl fBoth))]] (fun (r : Int32) (w1 : List va_W) => r = (F_X11_letter fS fOne fTwo fBoth letter what).1 ∧ w1 = [[(o, .inr (9, [.ref aS, .ref aPast, .int known, .ref aSnap, .int kept, .ref aText, .int len, .int ((F_X11_letter fS fOne fTwo fBoth letter what).2.1), .ref aOne, .ref aTwo, .ref aBoth, .ref aWord, .int cre, .ref aOpen, .ref aTimes, .ref aFar, .ref aQueue, .long hash]))], [(aS, .inl (cI, 335, .inl fS))], [(aOne, .inl (cI, 4, .inl ((F_X11_letter fS fOne fTwo fBoth letter what).2.2.1)))], [(aTwo, .inl (cI, 4, .inl ((F_X11_letter fS fOne fTwo fBoth letter what).2.2.2.1)))], [(aBoth, .inl (cI, 4, .inl ((F_X11_letter fS fOne fTwo fBoth letter what).2.2.2.2)))]]) := by
  unfold P_X11_letter at hp
  refine m_start (by decide +kernel) (Nat.le_of_ble_eq_true rfl) (fun p e s m args below meth c A Q hA hQ C hr hlo => ?_)
  refine r_Le (L' := [(0, .ref o), (1, .int letter), (2, .int what)]) rfl ?_
  refine r_aload_n C dX11_letter_0 0 rfl ?_
  refine r_iload_n C dX11_letter_1 1 rfl ?_
  refine r_callS (wc := []) (wr := [[(o, .inr (9, [.ref aS, .ref aPast, .int known, .ref aSnap, .int kept, .ref aText, .int len, .int thr, .ref aOne, .ref aTwo, .ref aBoth, .ref aWord, .int cre, .ref aOpen, .ref aTimes, .ref aFar, .ref aQueue, .long hash]))], [(aS, .inl (cI, 335, .inl fS))], [(aOne, .inl (cI, 4, .inl fOne))], [(aTwo, .inl (cI, 4, .inl fTwo))], [(aBoth, .inl (cI, 4, .inl fBoth))]]) (st := [.ref o]) C (m_X11_isLetter l D cI cL cP cJ letter) k_X11_isLetter t_956 [0, 1, 2, 3, 4] (show ([0, 1, 2, 3, 4] : List Nat).Perm (List.range 5) by decide) rfl rfl rfl (Nat.le_of_ble_eq_true rfl) ⟨Nat.le_of_ble_eq_true rfl, Nat.le_of_ble_eq_true rfl⟩ ⟨Nat.zero_le _, Nat.zero_le _⟩ dX11_letter_2 (fun r1 wr1 hw1 => ?_)
  obtain ⟨e_r1, rfl⟩ := hw1
  have hp := hp r1 e_r1
  refine r_ws (I' := [[(o, .inr (9, [.ref aS, .ref aPast, .int known, .ref aSnap, .int kept, .ref aText, .int len, .int thr, .ref aOne, .ref aTwo, .ref aBoth, .ref aWord, .int cre, .ref aOpen, .ref aTimes, .ref aFar, .ref aQueue, .long hash]))], [(aS, .inl (cI, 335, .inl fS))], [(aOne, .inl (cI, 4, .inl fOne))], [(aTwo, .inl (cI, 4, .inl fTwo))], [(aBoth, .inl (cI, 4, .inl fBoth))]]) rfl ?_
  suffices K : ∀ x5 : Int32, x5 = ((if r1 = 0 then (1) else (let r3 : Int32 := F_X11_in what 0 10; (if r3 = 0 then (2) else (0))))) → V p l e (rmm 5 115) s m args below meth c 3 D A 0 0 Q [[(o, .inr (9, [.ref aS, .ref aPast, .int known, .ref aSnap, .int kept, .ref aText, .int len, .int thr, .ref aOne, .ref aTwo, .ref aBoth, .ref aWord, .int cre, .ref aOpen, .ref aTimes, .ref aFar, .ref aQueue, .long hash]))], [(aS, .inl (cI, 335, .inl fS))], [(aOne, .inl (cI, 4, .inl fOne))], [(aTwo, .inl (cI, 4, .inl fTwo))], [(aBoth, .inl (cI, 4, .inl fBoth))]] [(0, .ref o), (1, .int letter), (2, .int what)] 27 [.int x5, .ref o] by
    refine r_if_ne (tgt := 12) C dX11_letter_5 (by decide) (fun c2 => ?_) (fun c2 => ?_)
    · refine r_iload_n C dX11_letter_12 2 rfl ?_
      refine r_iconst (v := 0) C dX11_letter_13 (by decide) ?_
      refine r_bipush (v := 10) C dX11_letter_14 (by decide) ?_
      refine r_callS (wc := []) (wr := [[(o, .inr (9, [.ref aS, .ref aPast, .int known, .ref aSnap, .int kept, .ref aText, .int len, .int thr, .ref aOne, .ref aTwo, .ref aBoth, .ref aWord, .int cre, .ref aOpen, .ref aTimes, .ref aFar, .ref aQueue, .long hash]))], [(aS, .inl (cI, 335, .inl fS))], [(aOne, .inl (cI, 4, .inl fOne))], [(aTwo, .inl (cI, 4, .inl fTwo))], [(aBoth, .inl (cI, 4, .inl fBoth))]]) (st := [.ref o]) C (m_X11_in l D cI cL cP cJ what 0 10) k_X11_in t_959 [0, 1, 2, 3, 4] (show ([0, 1, 2, 3, 4] : List Nat).Perm (List.range 5) by decide) rfl rfl rfl (Nat.le_of_ble_eq_true rfl) ⟨Nat.le_of_ble_eq_true rfl, Nat.le_of_ble_eq_true rfl⟩ ⟨Nat.zero_le _, Nat.zero_le _⟩ dX11_letter_16 (fun r3 wr3 hw3 => ?_)
      obtain ⟨e_r3, rfl⟩ := hw3
      refine r_ws (I' := [[(o, .inr (9, [.ref aS, .ref aPast, .int known, .ref aSnap, .int kept, .ref aText, .int len, .int thr, .ref aOne, .ref aTwo, .ref aBoth, .ref aWord, .int cre, .ref aOpen, .ref aTimes, .ref aFar, .ref aQueue, .long hash]))], [(aS, .inl (cI, 335, .inl fS))], [(aOne, .inl (cI, 4, .inl fOne))], [(aTwo, .inl (cI, 4, .inl fTwo))], [(aBoth, .inl (cI, 4, .inl fBoth))]]) rfl ?_
      refine r_if_eq (tgt := 26) C dX11_letter_19 (by decide) (fun c4 => ?_) (fun c4 => ?_)
      · refine r_iconst (v := 2) C dX11_letter_26 (by decide) ?_
        exact K _ (by have q := e_r3.symm; subst q; simp only [if_neg c2, if_pos c4])
      · refine r_iconst (v := 0) C dX11_letter_22 (by decide) ?_
        refine r_goto (tgt := 27) C dX11_letter_23 (by decide) ?_
        exact K _ (by have q := e_r3.symm; subst q; simp only [if_neg c2, if_neg c4])
    · refine r_iconst (v := 1) C dX11_letter_8 (by decide) ?_
      refine r_goto (tgt := 27) C dX11_letter_9 (by decide) ?_
      exact K _ (by simp only [if_pos c2])
  intro x5 e_x5
  have hp := hp x5 e_x5
  refine r_callV (ci := 9) (wc := [[(o, .inr (9, [.ref aS, .ref aPast, .int known, .ref aSnap, .int kept, .ref aText, .int len, .int thr, .ref aOne, .ref aTwo, .ref aBoth, .ref aWord, .int cre, .ref aOpen, .ref aTimes, .ref aFar, .ref aQueue, .long hash]))]]) (wr := [[(aS, .inl (cI, 335, .inl fS))], [(aOne, .inl (cI, 4, .inl fOne))], [(aTwo, .inl (cI, 4, .inl fTwo))], [(aBoth, .inl (cI, 4, .inl fBoth))]]) (st := []) C (m_X11_throwsAt l D cI cL cP cJ o aS aPast aSnap aText aOne aTwo aBoth aWord aOpen aTimes aFar aQueue known kept len thr cre hash x5) k_X11_throwsAt t_974 [0, 1, 2, 3, 4] (show ([0, 1, 2, 3, 4] : List Nat).Perm (List.range 5) by decide) rfl rfl rfl (q0 := 0) rfl rfl rfl (Nat.le_of_ble_eq_true rfl) ⟨Nat.le_of_ble_eq_true rfl, Nat.le_of_ble_eq_true rfl⟩ ⟨Nat.zero_le _, Nat.zero_le _⟩ dX11_letter_27 (fun r6 wr6 hw6 => ?_)
  obtain ⟨e_r6, rfl⟩ := hw6
  have hp := hp r6 e_r6
  obtain ⟨x7, e_x7⟩ : ∃ z : Int32, z = (F_X11_throwsAt x5).2 := ⟨_, rfl⟩
  have hp := hp x7 e_x7
  refine r_ws (I' := [[(o, .inr (9, [.ref aS, .ref aPast, .int known, .ref aSnap, .int kept, .ref aText, .int len, .int x7, .ref aOne, .ref aTwo, .ref aBoth, .ref aWord, .int cre, .ref aOpen, .ref aTimes, .ref aFar, .ref aQueue, .long hash]))], [(aS, .inl (cI, 335, .inl fS))], [(aOne, .inl (cI, 4, .inl fOne))], [(aTwo, .inl (cI, 4, .inl fTwo))], [(aBoth, .inl (cI, 4, .inl fBoth))]]) (by rw [e_x7]; rfl) ?_
  have hps := hp
  suffices K : ∀ x14 : Int32, x14 = ((if r6 = 0 then (let r10 : Int32 := (F_X11_number fS fOne fTwo fBoth letter what).1; r10) else (0))) → ∀ g15 : Nat → Int32, g15 = ((if r6 = 0 then (let g11 : Nat → Int32 := (F_X11_number fS fOne fTwo fBoth letter what).2.1; g11) else (fOne))) → ∀ g16 : Nat → Int32, g16 = ((if r6 = 0 then (let g12 : Nat → Int32 := (F_X11_number fS fOne fTwo fBoth letter what).2.2.1; g12) else (fTwo))) → ∀ g17 : Nat → Int32, g17 = ((if r6 = 0 then (let g13 : Nat → Int32 := (F_X11_number fS fOne fTwo fBoth letter what).2.2.2; g13) else (fBoth))) → V p l e (rmm 5 115) s m args below meth c 3 D A 0 0 Q [[(o, .inr (9, [.ref aS, .ref aPast, .int known, .ref aSnap, .int kept, .ref aText, .int len, .int x7, .ref aOne, .ref aTwo, .ref aBoth, .ref aWord, .int cre, .ref aOpen, .ref aTimes, .ref aFar, .ref aQueue, .long hash]))], [(aS, .inl (cI, 335, .inl fS))], [(aOne, .inl (cI, 4, .inl g15))], [(aTwo, .inl (cI, 4, .inl g16))], [(aBoth, .inl (cI, 4, .inl g17))]] [(0, .ref o), (1, .int letter), (2, .int what)] 43 [.int x14] by
    have hp := hps
    refine r_if_eq (tgt := 37) C dX11_letter_30 (by decide) (fun c8 => ?_) (fun c8 => ?_)
    · have hp := hp.1 c8
      refine r_aload_n C dX11_letter_37 0 rfl ?_
      refine r_iload_n C dX11_letter_38 1 rfl ?_
      refine r_iload_n C dX11_letter_39 2 rfl ?_
      have h9 := hp
      refine r_callV (ci := 9) (wc := [[(o, .inr (9, [.ref aS, .ref aPast, .int known, .ref aSnap, .int kept, .ref aText, .int len, .int x7, .ref aOne, .ref aTwo, .ref aBoth, .ref aWord, .int cre, .ref aOpen, .ref aTimes, .ref aFar, .ref aQueue, .long hash]))], [(aS, .inl (cI, 335, .inl fS))], [(aOne, .inl (cI, 4, .inl fOne))], [(aTwo, .inl (cI, 4, .inl fTwo))], [(aBoth, .inl (cI, 4, .inl fBoth))]]) (wr := []) (st := []) C (m_X11_number l D cI cL cP cJ o aS aPast aSnap aText aOne aTwo aBoth aWord aOpen aTimes aFar aQueue known kept len x7 cre hash fS fOne fTwo fBoth letter what h9) k_X11_number t_1147 [0, 1, 2, 3, 4] (show ([0, 1, 2, 3, 4] : List Nat).Perm (List.range 5) by decide) rfl rfl rfl (q0 := 0) rfl rfl rfl (Nat.le_of_ble_eq_true rfl) ⟨Nat.le_of_ble_eq_true rfl, Nat.le_of_ble_eq_true rfl⟩ ⟨Nat.zero_le _, Nat.zero_le _⟩ dX11_letter_40 (fun r10 wr10 hw10 => ?_)
      obtain ⟨e_r10, rfl⟩ := hw10
      obtain ⟨g11, e_g11⟩ : ∃ z : Nat → Int32, z = (F_X11_number fS fOne fTwo fBoth letter what).2.1 := ⟨_, rfl⟩
      obtain ⟨g12, e_g12⟩ : ∃ z : Nat → Int32, z = (F_X11_number fS fOne fTwo fBoth letter what).2.2.1 := ⟨_, rfl⟩
      obtain ⟨g13, e_g13⟩ : ∃ z : Nat → Int32, z = (F_X11_number fS fOne fTwo fBoth letter what).2.2.2 := ⟨_, rfl⟩
      refine r_ws (I' := [[(o, .inr (9, [.ref aS, .ref aPast, .int known, .ref aSnap, .int kept, .ref aText, .int len, .int x7, .ref aOne, .ref aTwo, .ref aBoth, .ref aWord, .int cre, .ref aOpen, .ref aTimes, .ref aFar, .ref aQueue, .long hash]))], [(aS, .inl (cI, 335, .inl fS))], [(aOne, .inl (cI, 4, .inl g11))], [(aTwo, .inl (cI, 4, .inl g12))], [(aBoth, .inl (cI, 4, .inl g13))]]) (by rw [e_g11, e_g12, e_g13]; rfl) ?_
      exact K _ (by have q := e_r10.symm; subst q; have q := e_g11.symm; subst q; have q := e_g12.symm; subst q; have q := e_g13.symm; subst q; simp only [if_pos c8]) _ (by have q := e_r10.symm; subst q; have q := e_g11.symm; subst q; have q := e_g12.symm; subst q; have q := e_g13.symm; subst q; simp only [if_pos c8]) _ (by have q := e_r10.symm; subst q; have q := e_g11.symm; subst q; have q := e_g12.symm; subst q; have q := e_g13.symm; subst q; simp only [if_pos c8]) _ (by have q := e_r10.symm; subst q; have q := e_g11.symm; subst q; have q := e_g12.symm; subst q; have q := e_g13.symm; subst q; simp only [if_pos c8])
    · refine r_iconst (v := 0) C dX11_letter_33 (by decide) ?_
      refine r_goto (tgt := 43) C dX11_letter_34 (by decide) ?_
      exact K _ (by simp only [if_neg c8]) _ (by simp only [if_neg c8]) _ (by simp only [if_neg c8]) _ (by simp only [if_neg c8])
  intro x14 e_x14 g15 e_g15 g16 e_g16 g17 e_g17
  have eF : F_X11_letter fS fOne fTwo fBoth letter what = (x14, x7, g15, g16, g17) := by have q := e_r1.symm; subst q; have q := e_x5.symm; subst q; have q := e_r6.symm; subst q; have q := e_x7.symm; subst q; have q := e_x14.symm; subst q; have q := e_g15.symm; subst q; have q := e_g16.symm; subst q; have q := e_g17.symm; subst q; rfl
  exact r_iret (r := x14) C hA hr hlo dX11_letter_43 [[(o, .inr (9, [.ref aS, .ref aPast, .int known, .ref aSnap, .int kept, .ref aText, .int len, .int x7, .ref aOne, .ref aTwo, .ref aBoth, .ref aWord, .int cre, .ref aOpen, .ref aTimes, .ref aFar, .ref aQueue, .long hash]))], [(aS, .inl (cI, 335, .inl fS))], [(aOne, .inl (cI, 4, .inl g15))], [(aTwo, .inl (cI, 4, .inl g16))], [(aBoth, .inl (cI, 4, .inl g17))]] ⟨by simp only [eF], by simp only [eF]⟩ rfl hQ
theorem k_X11_crease : kV yX11_crease cX11_crease 3 (some .int) 2 := ⟨t_1176, t_1177, t_67, t_1178, by decide +kernel, by decide +kernel, by decide +kernel⟩
set_option maxRecDepth 20000 in
def F_X11_crease (fS : Nat → Int32) (letter : Int32) (place : Int32) : Int32 × Int32 := let r1 : Int32 := F_X11_isLetter letter; let x4 : Int32 := (if r1 = 0 then (1) else ((if place < 0 then (1) else (0)))); let r5 : Int32 := (F_X11_throwsAt x4).1; let x6 : Int32 := (F_X11_throwsAt x4).2; (if r5 = 0 then (let r9 : Int32 := F_X11_its fS letter 4; let x13 : Int32 := (if r9 ≤ place then ((-10)) else (let r12 : Int32 := F_X11_its fS letter ((7 : Int32) + place); r12)); (x13, x6)) else ((0, x6)))
set_option maxRecDepth 20000 in
def P_X11_crease (fS : Nat → Int32) (letter : Int32) (place : Int32) : Prop := (∀ r1 : Int32, r1 = F_X11_isLetter letter → (∀ x4 : Int32, x4 = ((if r1 = 0 then (1) else ((if place < 0 then (1) else (0))))) → (∀ r5 : Int32, r5 = (F_X11_throwsAt x4).1 → (∀ x6 : Int32, x6 = (F_X11_throwsAt x4).2 → ((r5 = 0 → ((P_X11_its letter 4) ∧ (∀ r9 : Int32, r9 = F_X11_its fS letter 4 → ((r9 ≤ place → True) ∧ (¬ r9 ≤ place → (P_X11_its letter ((7 : Int32) + place))))))) ∧ (¬ r5 = 0 → True))))))
set_option maxRecDepth 20000 in
set_option maxHeartbeats 8000000 in
theorem m_X11_crease (l : Launch) (D : va_G) (cI cL cP cJ : ClassId) (o : Nat) (aS : Nat) (aPast : Nat) (aSnap : Nat) (aText : Nat) (aOne : Nat) (aTwo : Nat) (aBoth : Nat) (aWord : Nat) (aOpen : Nat) (aTimes : Nat) (aFar : Nat) (aQueue : Nat) (known : Int32) (kept : Int32) (len : Int32) (thr : Int32) (cre : Int32) (hash : Int64) (fS : Nat → Int32) (letter : Int32) (place : Int32) (hp : P_X11_crease fS letter place) : M vI l yX11_crease cX11_crease 3 (some .int) 2 42 D (tyF cI cL cP cJ) [.ref o, .int letter, .int place] [[(o, .inr (9, [.ref aS, .ref aPast, .int known, .ref aSnap, .int kept, .ref aText, .int len, .int thr, .ref aOne, .ref aTwo, .ref aBoth, .ref aWord, .int cre, .ref aOpen, .ref aTimes, .ref aFar, .ref aQueue, .long hash]))], [(aS, .inl (cI, 335, .inl fS))]] (fun (r : Int32) (w1 : List va_W) => r = (F_X11_crease fS letter place).1 ∧ w1 = [[(o, .inr (9, [.ref aS, .ref aPast, .int known, .ref aSnap, .int kept, .ref aText, .int len, .int ((F_X11_crease fS letter place).2), .ref aOne, .ref aTwo, .ref aBoth, .ref aWord, .int cre, .ref aOpen, .ref aTimes, .ref aFar, .ref aQueue, .long hash]))], [(aS, .inl (cI, 335, .inl fS))]]) := by
  unfold P_X11_crease at hp
  refine m_start (by decide +kernel) (Nat.le_of_ble_eq_true rfl) (fun p e s m args below meth c A Q hA hQ C hr hlo => ?_)
  refine r_Le (L' := [(0, .ref o), (1, .int letter), (2, .int place)]) rfl ?_
  refine r_aload_n C dX11_crease_0 0 rfl ?_
  refine r_iload_n C dX11_crease_1 1 rfl ?_
  refine r_callS (wc := []) (wr := [[(o, .inr (9, [.ref aS, .ref aPast, .int known, .ref aSnap, .int kept, .ref aText, .int len, .int thr, .ref aOne, .ref aTwo, .ref aBoth, .ref aWord, .int cre, .ref aOpen, .ref aTimes, .ref aFar, .ref aQueue, .long hash]))], [(aS, .inl (cI, 335, .inl fS))]]) (st := [.ref o]) C (m_X11_isLetter l D cI cL cP cJ letter) k_X11_isLetter t_956 [0, 1] (show ([0, 1] : List Nat).Perm (List.range 2) by decide) rfl rfl rfl (Nat.le_of_ble_eq_true rfl) ⟨Nat.le_of_ble_eq_true rfl, Nat.le_of_ble_eq_true rfl⟩ ⟨Nat.zero_le _, Nat.zero_le _⟩ dX11_crease_2 (fun r1 wr1 hw1 => ?_)
  obtain ⟨e_r1, rfl⟩ := hw1
  have hp := hp r1 e_r1
  refine r_ws (I' := [[(o, .inr (9, [.ref aS, .ref aPast, .int known, .ref aSnap, .int kept, .ref aText, .int len, .int thr, .ref aOne, .ref aTwo, .ref aBoth, .ref aWord, .int cre, .ref aOpen, .ref aTimes, .ref aFar, .ref aQueue, .long hash]))], [(aS, .inl (cI, 335, .inl fS))]]) rfl ?_
  suffices K : ∀ x4 : Int32, x4 = ((if r1 = 0 then (1) else ((if place < 0 then (1) else (0))))) → V p l e (rmm 2 42) s m args below meth c 3 D A 0 0 Q [[(o, .inr (9, [.ref aS, .ref aPast, .int known, .ref aSnap, .int kept, .ref aText, .int len, .int thr, .ref aOne, .ref aTwo, .ref aBoth, .ref aWord, .int cre, .ref aOpen, .ref aTimes, .ref aFar, .ref aQueue, .long hash]))], [(aS, .inl (cI, 335, .inl fS))]] [(0, .ref o), (1, .int letter), (2, .int place)] 17 [.int x4, .ref o] by
    refine r_if_eq (tgt := 16) C dX11_crease_5 (by decide) (fun c2 => ?_) (fun c2 => ?_)
    · refine r_iconst (v := 1) C dX11_crease_16 (by decide) ?_
      exact K _ (by simp only [if_pos c2])
    · refine r_iload_n C dX11_crease_8 2 rfl ?_
      refine r_if_lt (tgt := 16) C dX11_crease_9 (by decide) (fun c3 => ?_) (fun c3 => ?_)
      · refine r_iconst (v := 1) C dX11_crease_16 (by decide) ?_
        exact K _ (by simp only [if_neg c2, if_pos c3])
      · refine r_iconst (v := 0) C dX11_crease_12 (by decide) ?_
        refine r_goto (tgt := 17) C dX11_crease_13 (by decide) ?_
        exact K _ (by simp only [if_neg c2, if_neg c3])
  intro x4 e_x4
  have hp := hp x4 e_x4
  refine r_callV (ci := 9) (wc := [[(o, .inr (9, [.ref aS, .ref aPast, .int known, .ref aSnap, .int kept, .ref aText, .int len, .int thr, .ref aOne, .ref aTwo, .ref aBoth, .ref aWord, .int cre, .ref aOpen, .ref aTimes, .ref aFar, .ref aQueue, .long hash]))]]) (wr := [[(aS, .inl (cI, 335, .inl fS))]]) (st := []) C (m_X11_throwsAt l D cI cL cP cJ o aS aPast aSnap aText aOne aTwo aBoth aWord aOpen aTimes aFar aQueue known kept len thr cre hash x4) k_X11_throwsAt t_974 [0, 1] (show ([0, 1] : List Nat).Perm (List.range 2) by decide) rfl rfl rfl (q0 := 0) rfl rfl rfl (Nat.le_of_ble_eq_true rfl) ⟨Nat.le_of_ble_eq_true rfl, Nat.le_of_ble_eq_true rfl⟩ ⟨Nat.zero_le _, Nat.zero_le _⟩ dX11_crease_17 (fun r5 wr5 hw5 => ?_)
  obtain ⟨e_r5, rfl⟩ := hw5
  have hp := hp r5 e_r5
  obtain ⟨x6, e_x6⟩ : ∃ z : Int32, z = (F_X11_throwsAt x4).2 := ⟨_, rfl⟩
  have hp := hp x6 e_x6
  refine r_ws (I' := [[(o, .inr (9, [.ref aS, .ref aPast, .int known, .ref aSnap, .int kept, .ref aText, .int len, .int x6, .ref aOne, .ref aTwo, .ref aBoth, .ref aWord, .int cre, .ref aOpen, .ref aTimes, .ref aFar, .ref aQueue, .long hash]))], [(aS, .inl (cI, 335, .inl fS))]]) (by rw [e_x6]; rfl) ?_
  refine r_if_eq (tgt := 25) C dX11_crease_20 (by decide) (fun c7 => ?_) (fun c7 => ?_)
  · have hp := hp.1 c7
    refine r_iload_n C dX11_crease_25 2 rfl ?_
    refine r_aload_n C dX11_crease_26 0 rfl ?_
    refine r_iload_n C dX11_crease_27 1 rfl ?_
    refine r_iconst (v := 4) C dX11_crease_28 (by decide) ?_
    obtain ⟨h8, hp⟩ := hp
    refine r_callV (ci := 9) (wc := [[(o, .inr (9, [.ref aS, .ref aPast, .int known, .ref aSnap, .int kept, .ref aText, .int len, .int x6, .ref aOne, .ref aTwo, .ref aBoth, .ref aWord, .int cre, .ref aOpen, .ref aTimes, .ref aFar, .ref aQueue, .long hash]))], [(aS, .inl (cI, 335, .inl fS))]]) (wr := []) (st := [.int place]) C (m_X11_its l D cI cL cP cJ o aS aPast aSnap aText aOne aTwo aBoth aWord aOpen aTimes aFar aQueue known kept len x6 cre hash fS letter 4 h8) k_X11_its t_966 [0, 1] (show ([0, 1] : List Nat).Perm (List.range 2) by decide) rfl rfl rfl (q0 := 0) rfl rfl rfl (Nat.le_of_ble_eq_true rfl) ⟨Nat.le_of_ble_eq_true rfl, Nat.le_of_ble_eq_true rfl⟩ ⟨Nat.zero_le _, Nat.zero_le _⟩ dX11_crease_29 (fun r9 wr9 hw9 => ?_)
    obtain ⟨e_r9, rfl⟩ := hw9
    have hp := hp r9 e_r9
    refine r_ws (I' := [[(o, .inr (9, [.ref aS, .ref aPast, .int known, .ref aSnap, .int kept, .ref aText, .int len, .int x6, .ref aOne, .ref aTwo, .ref aBoth, .ref aWord, .int cre, .ref aOpen, .ref aTimes, .ref aFar, .ref aQueue, .long hash]))], [(aS, .inl (cI, 335, .inl fS))]]) rfl ?_
    have hps := hp
    suffices K : ∀ x13 : Int32, x13 = ((if r9 ≤ place then ((-10)) else (let r12 : Int32 := F_X11_its fS letter ((7 : Int32) + place); r12))) → V p l e (rmm 2 42) s m args below meth c 3 D A 0 0 Q [[(o, .inr (9, [.ref aS, .ref aPast, .int known, .ref aSnap, .int kept, .ref aText, .int len, .int x6, .ref aOne, .ref aTwo, .ref aBoth, .ref aWord, .int cre, .ref aOpen, .ref aTimes, .ref aFar, .ref aQueue, .long hash]))], [(aS, .inl (cI, 335, .inl fS))]] [(0, .ref o), (1, .int letter), (2, .int place)] 49 [.int x13] by
      have hp := hps
      refine r_icmp_ge (tgt := 47) C dX11_crease_32 (by decide) (fun c10 => ?_) (fun c10 => ?_)
      · refine r_bipush (v := (-10)) C dX11_crease_47 (by decide) ?_
        exact K _ (by simp only [if_pos c10])
      · have hp := hp.2 c10
        refine r_aload_n C dX11_crease_35 0 rfl ?_
        refine r_iload_n C dX11_crease_36 1 rfl ?_
        refine r_bipush (v := 7) C dX11_crease_37 (by decide) ?_
        refine r_iload_n C dX11_crease_39 2 rfl ?_
        refine r_iadd C dX11_crease_40 rfl ?_
        have h11 := hp
        refine r_callV (ci := 9) (wc := [[(o, .inr (9, [.ref aS, .ref aPast, .int known, .ref aSnap, .int kept, .ref aText, .int len, .int x6, .ref aOne, .ref aTwo, .ref aBoth, .ref aWord, .int cre, .ref aOpen, .ref aTimes, .ref aFar, .ref aQueue, .long hash]))], [(aS, .inl (cI, 335, .inl fS))]]) (wr := []) (st := []) C (m_X11_its l D cI cL cP cJ o aS aPast aSnap aText aOne aTwo aBoth aWord aOpen aTimes aFar aQueue known kept len x6 cre hash fS letter ((7 : Int32) + place) h11) k_X11_its t_966 [0, 1] (show ([0, 1] : List Nat).Perm (List.range 2) by decide) rfl rfl rfl (q0 := 0) rfl rfl rfl (Nat.le_of_ble_eq_true rfl) ⟨Nat.le_of_ble_eq_true rfl, Nat.le_of_ble_eq_true rfl⟩ ⟨Nat.zero_le _, Nat.zero_le _⟩ dX11_crease_41 (fun r12 wr12 hw12 => ?_)
        obtain ⟨e_r12, rfl⟩ := hw12
        refine r_ws (I' := [[(o, .inr (9, [.ref aS, .ref aPast, .int known, .ref aSnap, .int kept, .ref aText, .int len, .int x6, .ref aOne, .ref aTwo, .ref aBoth, .ref aWord, .int cre, .ref aOpen, .ref aTimes, .ref aFar, .ref aQueue, .long hash]))], [(aS, .inl (cI, 335, .inl fS))]]) rfl ?_
        refine r_goto (tgt := 49) C dX11_crease_44 (by decide) ?_
        exact K _ (by have q := e_r12.symm; subst q; simp only [if_neg c10])
    intro x13 e_x13
    have eF : F_X11_crease fS letter place = (x13, x6) := by have q := e_r1.symm; subst q; have q := e_x4.symm; subst q; have q := e_r5.symm; subst q; have q := e_x6.symm; subst q; have q := e_r9.symm; subst q; have q := e_x13.symm; subst q; simp only [F_X11_crease, if_pos c7]
    exact r_iret (r := x13) C hA hr hlo dX11_crease_49 [[(o, .inr (9, [.ref aS, .ref aPast, .int known, .ref aSnap, .int kept, .ref aText, .int len, .int x6, .ref aOne, .ref aTwo, .ref aBoth, .ref aWord, .int cre, .ref aOpen, .ref aTimes, .ref aFar, .ref aQueue, .long hash]))], [(aS, .inl (cI, 335, .inl fS))]] ⟨by simp only [eF], by simp only [eF]⟩ rfl hQ
  · refine r_iconst (v := 0) C dX11_crease_23 (by decide) ?_
    have eF : F_X11_crease fS letter place = (0, x6) := by have q := e_r1.symm; subst q; have q := e_x4.symm; subst q; have q := e_r5.symm; subst q; have q := e_x6.symm; subst q; simp only [F_X11_crease, if_neg c7]
    exact r_iret (r := 0) C hA hr hlo dX11_crease_24 [[(o, .inr (9, [.ref aS, .ref aPast, .int known, .ref aSnap, .int kept, .ref aText, .int len, .int x6, .ref aOne, .ref aTwo, .ref aBoth, .ref aWord, .int cre, .ref aOpen, .ref aTimes, .ref aFar, .ref aQueue, .long hash]))], [(aS, .inl (cI, 335, .inl fS))]] ⟨by simp only [eF], by simp only [eF]⟩ rfl hQ
theorem k_X11_least : kV yX11_least cX11_least 3 (some .int) 2 := ⟨t_1180, t_1181, t_67, t_1182, by decide +kernel, by decide +kernel, by decide +kernel⟩
set_option maxRecDepth 20000 in
def F_X11_least (cre : Int32) (fS : Nat → Int32) (fOne : Nat → Int32) (fWord : Nat → Int32) (letter : Int32) (place : Int32) : Int32 × Int32 × Int32 × (Nat → Int32) × (Nat → Int32) := let r1 : Int32 := F_X11_isLetter letter; let x4 : Int32 := (if r1 = 0 then (1) else ((if place < 0 then (1) else (0)))); let r5 : Int32 := (F_X11_throwsAt x4).1; let x6 : Int32 := (F_X11_throwsAt x4).2; (if r5 = 0 then (let g10 : Nat → Int32 := F_X11_takes fS fOne letter; let x13 : Int32 := (F_X11_words g10 fWord).1; let g14 : Nat → Int32 := (F_X11_words g10 fWord).2.1; let g15 : Nat → Int32 := (F_X11_words g10 fWord).2.2; let x18 : Int32 := (if x13 ≤ place then ((-10)) else (g15 place.toNatClampNeg)); (x18, x6, x13, g14, g15)) else ((0, x6, cre, fOne, fWord)))
set_option maxRecDepth 20000 in
def P_X11_least (fS : Nat → Int32) (fOne : Nat → Int32) (fWord : Nat → Int32) (letter : Int32) (place : Int32) : Prop := (∀ r1 : Int32, r1 = F_X11_isLetter letter → (∀ x4 : Int32, x4 = ((if r1 = 0 then (1) else ((if place < 0 then (1) else (0))))) → (∀ r5 : Int32, r5 = (F_X11_throwsAt x4).1 → (∀ x6 : Int32, x6 = (F_X11_throwsAt x4).2 → ((r5 = 0 → ((P_X11_takes fS fOne letter) ∧ (∀ g10 : Nat → Int32, g10 = F_X11_takes fS fOne letter → ((P_X11_words g10 fWord) ∧ (∀ x13 : Int32, x13 = (F_X11_words g10 fWord).1 → (∀ g14 : Nat → Int32, g14 = (F_X11_words g10 fWord).2.1 → (∀ g15 : Nat → Int32, g15 = (F_X11_words g10 fWord).2.2 → ((x13 ≤ place → True) ∧ (¬ x13 ≤ place → (vp_in place 20)))))))))) ∧ (¬ r5 = 0 → True))))))
set_option maxRecDepth 20000 in
set_option maxHeartbeats 8000000 in
theorem m_X11_least (l : Launch) (D : va_G) (cI cL cP cJ : ClassId) (o : Nat) (aS : Nat) (aPast : Nat) (aSnap : Nat) (aText : Nat) (aOne : Nat) (aTwo : Nat) (aBoth : Nat) (aWord : Nat) (aOpen : Nat) (aTimes : Nat) (aFar : Nat) (aQueue : Nat) (known : Int32) (kept : Int32) (len : Int32) (thr : Int32) (cre : Int32) (hash : Int64) (fS : Nat → Int32) (fOne : Nat → Int32) (fWord : Nat → Int32) (letter : Int32) (place : Int32) (hp : P_X11_least fS fOne fWord letter place) : M vI l yX11_least cX11_least 3 (some .int) 3 67 D (tyF cI cL cP cJ) [.ref o, .int letter, .int place] [[(o, .inr (9, [.ref aS, .ref aPast, .int known, .ref aSnap, .int kept, .ref aText, .int len, .int thr, .ref aOne, .ref aTwo, .ref aBoth, .ref aWord, .int cre, .ref aOpen, .ref aTimes, .ref aFar, .ref aQueue, .long hash]))], [(aS, .inl (cI, 335, .inl fS))], [(aOne, .inl (cI, 4, .inl fOne))], [(aWord, .inl (cI, 20, .inl fWord))]] (fun (r : Int32) (w1 : List va_W) => r = (F_X11_least cre fS fOne fWord letter place).1 ∧ w1 = [[(o, .inr (9, [.ref aS, .ref aPast, .int known, .ref aSnap, .int kept, .ref aText, .int len, .int ((F_X11_least cre fS fOne fWord letter place).2.1), .ref aOne, .ref aTwo, .ref aBoth, .ref aWord, .int ((F_X11_least cre fS fOne fWord letter place).2.2.1), .ref aOpen, .ref aTimes, .ref aFar, .ref aQueue, .long hash]))], [(aS, .inl (cI, 335, .inl fS))], [(aOne, .inl (cI, 4, .inl ((F_X11_least cre fS fOne fWord letter place).2.2.2.1)))], [(aWord, .inl (cI, 20, .inl ((F_X11_least cre fS fOne fWord letter place).2.2.2.2)))]]) := by
  unfold P_X11_least at hp
  refine m_start (by decide +kernel) (Nat.le_of_ble_eq_true rfl) (fun p e s m args below meth c A Q hA hQ C hr hlo => ?_)
  refine r_Le (L' := [(0, .ref o), (1, .int letter), (2, .int place)]) rfl ?_
  refine r_aload_n C dX11_least_0 0 rfl ?_
  refine r_iload_n C dX11_least_1 1 rfl ?_
  refine r_callS (wc := []) (wr := [[(o, .inr (9, [.ref aS, .ref aPast, .int known, .ref aSnap, .int kept, .ref aText, .int len, .int thr, .ref aOne, .ref aTwo, .ref aBoth, .ref aWord, .int cre, .ref aOpen, .ref aTimes, .ref aFar, .ref aQueue, .long hash]))], [(aS, .inl (cI, 335, .inl fS))], [(aOne, .inl (cI, 4, .inl fOne))], [(aWord, .inl (cI, 20, .inl fWord))]]) (st := [.ref o]) C (m_X11_isLetter l D cI cL cP cJ letter) k_X11_isLetter t_956 [0, 1, 2, 3] (show ([0, 1, 2, 3] : List Nat).Perm (List.range 4) by decide) rfl rfl rfl (Nat.le_of_ble_eq_true rfl) ⟨Nat.le_of_ble_eq_true rfl, Nat.le_of_ble_eq_true rfl⟩ ⟨Nat.zero_le _, Nat.zero_le _⟩ dX11_least_2 (fun r1 wr1 hw1 => ?_)
  obtain ⟨e_r1, rfl⟩ := hw1
  have hp := hp r1 e_r1
  refine r_ws (I' := [[(o, .inr (9, [.ref aS, .ref aPast, .int known, .ref aSnap, .int kept, .ref aText, .int len, .int thr, .ref aOne, .ref aTwo, .ref aBoth, .ref aWord, .int cre, .ref aOpen, .ref aTimes, .ref aFar, .ref aQueue, .long hash]))], [(aS, .inl (cI, 335, .inl fS))], [(aOne, .inl (cI, 4, .inl fOne))], [(aWord, .inl (cI, 20, .inl fWord))]]) rfl ?_
  suffices K : ∀ x4 : Int32, x4 = ((if r1 = 0 then (1) else ((if place < 0 then (1) else (0))))) → V p l e (rmm 3 67) s m args below meth c 3 D A 0 0 Q [[(o, .inr (9, [.ref aS, .ref aPast, .int known, .ref aSnap, .int kept, .ref aText, .int len, .int thr, .ref aOne, .ref aTwo, .ref aBoth, .ref aWord, .int cre, .ref aOpen, .ref aTimes, .ref aFar, .ref aQueue, .long hash]))], [(aS, .inl (cI, 335, .inl fS))], [(aOne, .inl (cI, 4, .inl fOne))], [(aWord, .inl (cI, 20, .inl fWord))]] [(0, .ref o), (1, .int letter), (2, .int place)] 17 [.int x4, .ref o] by
    refine r_if_eq (tgt := 16) C dX11_least_5 (by decide) (fun c2 => ?_) (fun c2 => ?_)
    · refine r_iconst (v := 1) C dX11_least_16 (by decide) ?_
      exact K _ (by simp only [if_pos c2])
    · refine r_iload_n C dX11_least_8 2 rfl ?_
      refine r_if_lt (tgt := 16) C dX11_least_9 (by decide) (fun c3 => ?_) (fun c3 => ?_)
      · refine r_iconst (v := 1) C dX11_least_16 (by decide) ?_
        exact K _ (by simp only [if_neg c2, if_pos c3])
      · refine r_iconst (v := 0) C dX11_least_12 (by decide) ?_
        refine r_goto (tgt := 17) C dX11_least_13 (by decide) ?_
        exact K _ (by simp only [if_neg c2, if_neg c3])
  intro x4 e_x4
  have hp := hp x4 e_x4
  refine r_callV (ci := 9) (wc := [[(o, .inr (9, [.ref aS, .ref aPast, .int known, .ref aSnap, .int kept, .ref aText, .int len, .int thr, .ref aOne, .ref aTwo, .ref aBoth, .ref aWord, .int cre, .ref aOpen, .ref aTimes, .ref aFar, .ref aQueue, .long hash]))]]) (wr := [[(aS, .inl (cI, 335, .inl fS))], [(aOne, .inl (cI, 4, .inl fOne))], [(aWord, .inl (cI, 20, .inl fWord))]]) (st := []) C (m_X11_throwsAt l D cI cL cP cJ o aS aPast aSnap aText aOne aTwo aBoth aWord aOpen aTimes aFar aQueue known kept len thr cre hash x4) k_X11_throwsAt t_974 [0, 1, 2, 3] (show ([0, 1, 2, 3] : List Nat).Perm (List.range 4) by decide) rfl rfl rfl (q0 := 0) rfl rfl rfl (Nat.le_of_ble_eq_true rfl) ⟨Nat.le_of_ble_eq_true rfl, Nat.le_of_ble_eq_true rfl⟩ ⟨Nat.zero_le _, Nat.zero_le _⟩ dX11_least_17 (fun r5 wr5 hw5 => ?_)
  obtain ⟨e_r5, rfl⟩ := hw5
  have hp := hp r5 e_r5
  obtain ⟨x6, e_x6⟩ : ∃ z : Int32, z = (F_X11_throwsAt x4).2 := ⟨_, rfl⟩
  have hp := hp x6 e_x6
  refine r_ws (I' := [[(o, .inr (9, [.ref aS, .ref aPast, .int known, .ref aSnap, .int kept, .ref aText, .int len, .int x6, .ref aOne, .ref aTwo, .ref aBoth, .ref aWord, .int cre, .ref aOpen, .ref aTimes, .ref aFar, .ref aQueue, .long hash]))], [(aS, .inl (cI, 335, .inl fS))], [(aOne, .inl (cI, 4, .inl fOne))], [(aWord, .inl (cI, 20, .inl fWord))]]) (by rw [e_x6]; rfl) ?_
  refine r_if_eq (tgt := 25) C dX11_least_20 (by decide) (fun c7 => ?_) (fun c7 => ?_)
  · have hp := hp.1 c7
    refine r_aload_n C dX11_least_25 0 rfl ?_
    refine r_iload_n C dX11_least_26 1 rfl ?_
    obtain ⟨h8, hp⟩ := hp
    refine r_callV (ci := 9) (wc := [[(o, .inr (9, [.ref aS, .ref aPast, .int known, .ref aSnap, .int kept, .ref aText, .int len, .int x6, .ref aOne, .ref aTwo, .ref aBoth, .ref aWord, .int cre, .ref aOpen, .ref aTimes, .ref aFar, .ref aQueue, .long hash]))], [(aS, .inl (cI, 335, .inl fS))], [(aOne, .inl (cI, 4, .inl fOne))]]) (wr := [[(aWord, .inl (cI, 20, .inl fWord))]]) (st := []) C (m_X11_takes l D cI cL cP cJ o aS aPast aSnap aText aOne aTwo aBoth aWord aOpen aTimes aFar aQueue known kept len x6 cre hash fS fOne letter h8) k_X11_takes t_990 [0, 1, 2, 3] (show ([0, 1, 2, 3] : List Nat).Perm (List.range 4) by decide) rfl rfl rfl (q0 := 0) rfl rfl rfl (Nat.le_of_ble_eq_true rfl) ⟨Nat.le_of_ble_eq_true rfl, Nat.le_of_ble_eq_true rfl⟩ ⟨Nat.zero_le _, Nat.zero_le _⟩ dX11_least_27 (fun r9 wr9 hw9 => ?_)
    obtain rfl := hw9
    obtain ⟨g10, e_g10⟩ : ∃ z : Nat → Int32, z = F_X11_takes fS fOne letter := ⟨_, rfl⟩
    have hp := hp g10 e_g10
    refine r_ws (I' := [[(o, .inr (9, [.ref aS, .ref aPast, .int known, .ref aSnap, .int kept, .ref aText, .int len, .int x6, .ref aOne, .ref aTwo, .ref aBoth, .ref aWord, .int cre, .ref aOpen, .ref aTimes, .ref aFar, .ref aQueue, .long hash]))], [(aS, .inl (cI, 335, .inl fS))], [(aOne, .inl (cI, 4, .inl g10))], [(aWord, .inl (cI, 20, .inl fWord))]]) (by rw [e_g10]; rfl) ?_
    refine r_aload_n C dX11_least_30 0 rfl ?_
    obtain ⟨h11, hp⟩ := hp
    refine r_callV (ci := 9) (wc := [[(o, .inr (9, [.ref aS, .ref aPast, .int known, .ref aSnap, .int kept, .ref aText, .int len, .int x6, .ref aOne, .ref aTwo, .ref aBoth, .ref aWord, .int cre, .ref aOpen, .ref aTimes, .ref aFar, .ref aQueue, .long hash]))], [(aOne, .inl (cI, 4, .inl g10))], [(aWord, .inl (cI, 20, .inl fWord))]]) (wr := [[(aS, .inl (cI, 335, .inl fS))]]) (st := []) C (m_X11_words l D cI cL cP cJ o aS aPast aSnap aText aOne aTwo aBoth aWord aOpen aTimes aFar aQueue known kept len x6 cre hash g10 fWord h11) k_X11_words t_1022 [0, 2, 3, 1] (show ([0, 2, 3, 1] : List Nat).Perm (List.range 4) by decide) rfl rfl rfl (q0 := 0) rfl rfl rfl (Nat.le_of_ble_eq_true rfl) ⟨Nat.le_of_ble_eq_true rfl, Nat.le_of_ble_eq_true rfl⟩ ⟨Nat.zero_le _, Nat.zero_le _⟩ dX11_least_31 (fun r12 wr12 hw12 => ?_)
    obtain rfl := hw12
    obtain ⟨x13, e_x13⟩ : ∃ z : Int32, z = (F_X11_words g10 fWord).1 := ⟨_, rfl⟩
    have hp := hp x13 e_x13
    obtain ⟨g14, e_g14⟩ : ∃ z : Nat → Int32, z = (F_X11_words g10 fWord).2.1 := ⟨_, rfl⟩
    have hp := hp g14 e_g14
    obtain ⟨g15, e_g15⟩ : ∃ z : Nat → Int32, z = (F_X11_words g10 fWord).2.2 := ⟨_, rfl⟩
    have hp := hp g15 e_g15
    refine r_ws (I' := [[(o, .inr (9, [.ref aS, .ref aPast, .int known, .ref aSnap, .int kept, .ref aText, .int len, .int x6, .ref aOne, .ref aTwo, .ref aBoth, .ref aWord, .int x13, .ref aOpen, .ref aTimes, .ref aFar, .ref aQueue, .long hash]))], [(aOne, .inl (cI, 4, .inl g14))], [(aWord, .inl (cI, 20, .inl g15))], [(aS, .inl (cI, 335, .inl fS))]]) (by rw [e_x13, e_g14, e_g15]; rfl) ?_
    refine r_iload_n C dX11_least_34 2 rfl ?_
    refine r_aload_n C dX11_least_35 0 rfl ?_
    refine r_get (Cn := RX11) (T := TX11) (N := 18) C inT11 0 rfl rfl 12 (by decide) t_905 rfl dX11_least_36 ?_
    have hps := hp
    suffices K : ∀ x18 : Int32, x18 = ((if x13 ≤ place then ((-10)) else (g15 place.toNatClampNeg))) → V p l e (rmm 3 67) s m args below meth c 3 D A 0 0 Q [[(o, .inr (9, [.ref aS, .ref aPast, .int known, .ref aSnap, .int kept, .ref aText, .int len, .int x6, .ref aOne, .ref aTwo, .ref aBoth, .ref aWord, .int x13, .ref aOpen, .ref aTimes, .ref aFar, .ref aQueue, .long hash]))], [(aOne, .inl (cI, 4, .inl g14))], [(aWord, .inl (cI, 20, .inl g15))], [(aS, .inl (cI, 335, .inl fS))]] [(0, .ref o), (1, .int letter), (2, .int place)] 53 [.int x18] by
      have hp := hps
      refine r_icmp_ge (tgt := 51) C dX11_least_39 (by decide) (fun c16 => ?_) (fun c16 => ?_)
      · refine r_bipush (v := (-10)) C dX11_least_51 (by decide) ?_
        exact K _ (by simp only [if_pos c16])
      · have hp := hp.2 c16
        refine r_aload_n C dX11_least_42 0 rfl ?_
        refine r_get (Cn := RX11) (T := TX11) (N := 18) C inT11 0 rfl rfl 11 (by decide) t_904 rfl dX11_least_43 ?_
        refine r_iload_n C dX11_least_46 2 rfl ?_
        have h17 := hp
        refine r_iald (z := g15 place.toNatClampNeg) C 2 0 rfl rfl h17 dX11_least_47 rfl ?_
        refine r_goto (tgt := 53) C dX11_least_48 (by decide) ?_
        exact K _ (by simp only [if_neg c16])
    intro x18 e_x18
    refine r_pl (I' := [[(o, .inr (9, [.ref aS, .ref aPast, .int known, .ref aSnap, .int kept, .ref aText, .int len, .int x6, .ref aOne, .ref aTwo, .ref aBoth, .ref aWord, .int x13, .ref aOpen, .ref aTimes, .ref aFar, .ref aQueue, .long hash]))], [(aS, .inl (cI, 335, .inl fS))], [(aOne, .inl (cI, 4, .inl g14))], [(aWord, .inl (cI, 20, .inl g15))]]) [0, 3, 1, 2] (show ([0, 3, 1, 2] : List Nat).Perm (List.range 4) by decide) rfl ?_
    have eF : F_X11_least cre fS fOne fWord letter place = (x18, x6, x13, g14, g15) := by have q := e_r1.symm; subst q; have q := e_x4.symm; subst q; have q := e_r5.symm; subst q; have q := e_x6.symm; subst q; have q := e_g10.symm; subst q; have q := e_x13.symm; subst q; have q := e_g14.symm; subst q; have q := e_g15.symm; subst q; have q := e_x18.symm; subst q; simp only [F_X11_least, if_pos c7]
    exact r_iret (r := x18) C hA hr hlo dX11_least_53 [[(o, .inr (9, [.ref aS, .ref aPast, .int known, .ref aSnap, .int kept, .ref aText, .int len, .int x6, .ref aOne, .ref aTwo, .ref aBoth, .ref aWord, .int x13, .ref aOpen, .ref aTimes, .ref aFar, .ref aQueue, .long hash]))], [(aS, .inl (cI, 335, .inl fS))], [(aOne, .inl (cI, 4, .inl g14))], [(aWord, .inl (cI, 20, .inl g15))]] ⟨by simp only [eF], by simp only [eF]⟩ rfl hQ
  · refine r_iconst (v := 0) C dX11_least_23 (by decide) ?_
    have eF : F_X11_least cre fS fOne fWord letter place = (0, x6, cre, fOne, fWord) := by have q := e_r1.symm; subst q; have q := e_x4.symm; subst q; have q := e_r5.symm; subst q; have q := e_x6.symm; subst q; simp only [F_X11_least, if_neg c7]
    exact r_iret (r := 0) C hA hr hlo dX11_least_24 [[(o, .inr (9, [.ref aS, .ref aPast, .int known, .ref aSnap, .int kept, .ref aText, .int len, .int x6, .ref aOne, .ref aTwo, .ref aBoth, .ref aWord, .int cre, .ref aOpen, .ref aTimes, .ref aFar, .ref aQueue, .long hash]))], [(aS, .inl (cI, 335, .inl fS))], [(aOne, .inl (cI, 4, .inl fOne))], [(aWord, .inl (cI, 20, .inl fWord))]] ⟨by simp only [eF], by simp only [eF]⟩ rfl hQ
theorem k_X11_areAlike : kV yX11_areAlike cX11_areAlike 5 (some .boolean) 2 := ⟨t_1193, t_47, t_67, t_1194, by decide +kernel, by decide +kernel, by decide +kernel⟩
set_option maxRecDepth 20000 in
def F_X11_areAlike (fS : Nat → Int32) (letter : Int32) (other : Int32) : Int32 := let r2 : Int32 := F_X11_its fS letter 0; let r4 : Int32 := F_X11_its fS other 0; let x6 : Int32 := (if r2 = r4 then (1) else (0)); let x13 : Int32 := (if x6 = 0 then (0) else (let r9 : Int32 := F_X11_its fS letter 1; let r11 : Int32 := F_X11_its fS other 1; (if r9 = r11 then (1) else (0)))); let x20 : Int32 := (if x13 = 0 then (0) else (let r16 : Int32 := F_X11_its fS letter 2; let r18 : Int32 := F_X11_its fS other 2; (if r16 = r18 then (1) else (0)))); let x27 : Int32 := (if x20 = 0 then (0) else (let r23 : Int32 := F_X11_its fS letter 3; let r25 : Int32 := F_X11_its fS other 3; (if r23 = r25 then (1) else (0)))); x27
set_option maxRecDepth 20000 in
def P_X11_areAlike (fS : Nat → Int32) (letter : Int32) (other : Int32) : Prop := ((P_X11_its letter 0) ∧ (∀ r2 : Int32, r2 = F_X11_its fS letter 0 → ((P_X11_its other 0) ∧ (∀ r4 : Int32, r4 = F_X11_its fS other 0 → (∀ x6 : Int32, x6 = ((if r2 = r4 then (1) else (0))) → (((x6 = 0 → True) ∧ (¬ x6 = 0 → ((P_X11_its letter 1) ∧ (∀ r9 : Int32, r9 = F_X11_its fS letter 1 → (P_X11_its other 1))))) ∧ (∀ x13 : Int32, x13 = ((if x6 = 0 then (0) else (let r9 : Int32 := F_X11_its fS letter 1; let r11 : Int32 := F_X11_its fS other 1; (if r9 = r11 then (1) else (0))))) → (((x13 = 0 → True) ∧ (¬ x13 = 0 → ((P_X11_its letter 2) ∧ (∀ r16 : Int32, r16 = F_X11_its fS letter 2 → (P_X11_its other 2))))) ∧ (∀ x20 : Int32, x20 = ((if x13 = 0 then (0) else (let r16 : Int32 := F_X11_its fS letter 2; let r18 : Int32 := F_X11_its fS other 2; (if r16 = r18 then (1) else (0))))) → ((x20 = 0 → True) ∧ (¬ x20 = 0 → ((P_X11_its letter 3) ∧ (∀ r23 : Int32, r23 = F_X11_its fS letter 3 → (P_X11_its other 3))))))))))))))
set_option maxRecDepth 20000 in
set_option maxHeartbeats 8000000 in
theorem m_X11_areAlike (l : Launch) (D : va_G) (cI cL cP cJ : ClassId) (o : Nat) (aS : Nat) (aPast : Nat) (aSnap : Nat) (aText : Nat) (aOne : Nat) (aTwo : Nat) (aBoth : Nat) (aWord : Nat) (aOpen : Nat) (aTimes : Nat) (aFar : Nat) (aQueue : Nat) (known : Int32) (kept : Int32) (len : Int32) (thr : Int32) (cre : Int32) (hash : Int64) (fS : Nat → Int32) (letter : Int32) (other : Int32) (hp : P_X11_areAlike fS letter other) : M vI l yX11_areAlike cX11_areAlike 5 (some .boolean) 1 22 D (tyF cI cL cP cJ) [.ref o, .int letter, .int other] [[(o, .inr (9, [.ref aS, .ref aPast, .int known, .ref aSnap, .int kept, .ref aText, .int len, .int thr, .ref aOne, .ref aTwo, .ref aBoth, .ref aWord, .int cre, .ref aOpen, .ref aTimes, .ref aFar, .ref aQueue, .long hash]))], [(aS, .inl (cI, 335, .inl fS))]] (fun (r : Int32) (w1 : List va_W) => r = (F_X11_areAlike fS letter other) ∧ w1 = [[(o, .inr (9, [.ref aS, .ref aPast, .int known, .ref aSnap, .int kept, .ref aText, .int len, .int thr, .ref aOne, .ref aTwo, .ref aBoth, .ref aWord, .int cre, .ref aOpen, .ref aTimes, .ref aFar, .ref aQueue, .long hash]))], [(aS, .inl (cI, 335, .inl fS))]]) := by
  unfold P_X11_areAlike at hp
  refine m_start (by decide +kernel) (Nat.le_of_ble_eq_true rfl) (fun p e s m args below meth c A Q hA hQ C hr hlo => ?_)
  refine r_Le (L' := [(0, .ref o), (1, .int letter), (2, .int other)]) rfl ?_
  refine r_iconst (v := 1) C dX11_areAlike_0 (by decide) ?_
  refine r_istore_n (L' := [(3, .int 1), (0, .ref o), (1, .int letter), (2, .int other)]) C dX11_areAlike_1 (by decide) rfl ?_
  refine r_iconst (v := 0) C dX11_areAlike_2 (by decide) ?_
  refine r_istore (L' := [(4, .int 0), (3, .int 1), (0, .ref o), (1, .int letter), (2, .int other)]) C dX11_areAlike_3 (by decide) rfl ?_
  refine r_iload C dX11_areAlike_5 0 rfl ?_
  refine r_iconst (v := 4) C dX11_areAlike_7 (by decide) ?_
  refine r_icmp_ge (tgt := 44) C dX11_areAlike_8 (by decide) (fun c => absurd c (by decide)) (fun _ => ?_)
  refine r_iload_n C dX11_areAlike_11 1 rfl ?_
  refine r_if_eq (tgt := 36) C dX11_areAlike_12 (by decide) (fun c => absurd c (by decide)) (fun _ => ?_)
  refine r_aload_n C dX11_areAlike_15 2 rfl ?_
  refine r_iload_n C dX11_areAlike_16 3 rfl ?_
  refine r_iload C dX11_areAlike_17 0 rfl ?_
  obtain ⟨h1, hp⟩ := hp
  refine r_callV (ci := 9) (wc := [[(o, .inr (9, [.ref aS, .ref aPast, .int known, .ref aSnap, .int kept, .ref aText, .int len, .int thr, .ref aOne, .ref aTwo, .ref aBoth, .ref aWord, .int cre, .ref aOpen, .ref aTimes, .ref aFar, .ref aQueue, .long hash]))], [(aS, .inl (cI, 335, .inl fS))]]) (wr := []) (st := []) C (m_X11_its l D cI cL cP cJ o aS aPast aSnap aText aOne aTwo aBoth aWord aOpen aTimes aFar aQueue known kept len thr cre hash fS letter 0 h1) k_X11_its t_966 [0, 1] (show ([0, 1] : List Nat).Perm (List.range 2) by decide) rfl rfl rfl (q0 := 0) rfl rfl rfl (Nat.le_of_ble_eq_true rfl) ⟨Nat.le_of_ble_eq_true rfl, Nat.le_of_ble_eq_true rfl⟩ ⟨Nat.zero_le _, Nat.zero_le _⟩ dX11_areAlike_19 (fun r2 wr2 hw2 => ?_)
  obtain ⟨e_r2, rfl⟩ := hw2
  have hp := hp r2 e_r2
  refine r_ws (I' := [[(o, .inr (9, [.ref aS, .ref aPast, .int known, .ref aSnap, .int kept, .ref aText, .int len, .int thr, .ref aOne, .ref aTwo, .ref aBoth, .ref aWord, .int cre, .ref aOpen, .ref aTimes, .ref aFar, .ref aQueue, .long hash]))], [(aS, .inl (cI, 335, .inl fS))]]) rfl ?_
  refine r_aload_n C dX11_areAlike_22 2 rfl ?_
  refine r_iload_n C dX11_areAlike_23 4 rfl ?_
  refine r_iload C dX11_areAlike_24 0 rfl ?_
  obtain ⟨h3, hp⟩ := hp
  refine r_callV (ci := 9) (wc := [[(o, .inr (9, [.ref aS, .ref aPast, .int known, .ref aSnap, .int kept, .ref aText, .int len, .int thr, .ref aOne, .ref aTwo, .ref aBoth, .ref aWord, .int cre, .ref aOpen, .ref aTimes, .ref aFar, .ref aQueue, .long hash]))], [(aS, .inl (cI, 335, .inl fS))]]) (wr := []) (st := [.int r2]) C (m_X11_its l D cI cL cP cJ o aS aPast aSnap aText aOne aTwo aBoth aWord aOpen aTimes aFar aQueue known kept len thr cre hash fS other 0 h3) k_X11_its t_966 [0, 1] (show ([0, 1] : List Nat).Perm (List.range 2) by decide) rfl rfl rfl (q0 := 0) rfl rfl rfl (Nat.le_of_ble_eq_true rfl) ⟨Nat.le_of_ble_eq_true rfl, Nat.le_of_ble_eq_true rfl⟩ ⟨Nat.zero_le _, Nat.zero_le _⟩ dX11_areAlike_26 (fun r4 wr4 hw4 => ?_)
  obtain ⟨e_r4, rfl⟩ := hw4
  have hp := hp r4 e_r4
  refine r_ws (I' := [[(o, .inr (9, [.ref aS, .ref aPast, .int known, .ref aSnap, .int kept, .ref aText, .int len, .int thr, .ref aOne, .ref aTwo, .ref aBoth, .ref aWord, .int cre, .ref aOpen, .ref aTimes, .ref aFar, .ref aQueue, .long hash]))], [(aS, .inl (cI, 335, .inl fS))]]) rfl ?_
  suffices K : ∀ x6 : Int32, x6 = ((if r2 = r4 then (1) else (0))) → V p l e (rmm 1 22) s m args below meth c 5 D A 0 0 Q [[(o, .inr (9, [.ref aS, .ref aPast, .int known, .ref aSnap, .int kept, .ref aText, .int len, .int thr, .ref aOne, .ref aTwo, .ref aBoth, .ref aWord, .int cre, .ref aOpen, .ref aTimes, .ref aFar, .ref aQueue, .long hash]))], [(aS, .inl (cI, 335, .inl fS))]] [(4, .int 0), (3, .int 1), (0, .ref o), (1, .int letter), (2, .int other)] 37 [.int x6] by
    refine r_icmp_ne (tgt := 36) C dX11_areAlike_29 (by decide) (fun c5 => ?_) (fun c5 => ?_)
    · refine r_iconst (v := 0) C dX11_areAlike_36 (by decide) ?_
      exact K _ (by simp only [if_neg c5])
    · refine r_iconst (v := 1) C dX11_areAlike_32 (by decide) ?_
      refine r_goto (tgt := 37) C dX11_areAlike_33 (by decide) ?_
      exact K _ (by simp only [if_pos c5])
  intro x6 e_x6
  have hp := hp x6 e_x6
  refine r_istore_n (L' := [(3, .int x6), (4, .int 0), (0, .ref o), (1, .int letter), (2, .int other)]) C dX11_areAlike_37 (by decide) rfl ?_
  refine r_iinc (v := 1) (L' := [(4, .int 1), (3, .int x6), (0, .ref o), (1, .int letter), (2, .int other)]) C dX11_areAlike_38 1 rfl (by decide) (by decide) rfl ?_
  refine r_goto (tgt := 5) C dX11_areAlike_41 (by decide) ?_
  refine r_iload C dX11_areAlike_5 0 rfl ?_
  refine r_iconst (v := 4) C dX11_areAlike_7 (by decide) ?_
  refine r_icmp_ge (tgt := 44) C dX11_areAlike_8 (by decide) (fun c => absurd c (by decide)) (fun _ => ?_)
  refine r_iload_n C dX11_areAlike_11 1 rfl ?_
  obtain ⟨hps, hp⟩ := hp
  suffices K : ∀ x13 : Int32, x13 = ((if x6 = 0 then (0) else (let r9 : Int32 := F_X11_its fS letter 1; let r11 : Int32 := F_X11_its fS other 1; (if r9 = r11 then (1) else (0))))) → V p l e (rmm 1 22) s m args below meth c 5 D A 0 0 Q [[(o, .inr (9, [.ref aS, .ref aPast, .int known, .ref aSnap, .int kept, .ref aText, .int len, .int thr, .ref aOne, .ref aTwo, .ref aBoth, .ref aWord, .int cre, .ref aOpen, .ref aTimes, .ref aFar, .ref aQueue, .long hash]))], [(aS, .inl (cI, 335, .inl fS))]] [(4, .int 1), (3, .int x6), (0, .ref o), (1, .int letter), (2, .int other)] 37 [.int x13] by
    have hp := hps
    refine r_if_eq (tgt := 36) C dX11_areAlike_12 (by decide) (fun c7 => ?_) (fun c7 => ?_)
    · refine r_iconst (v := 0) C dX11_areAlike_36 (by decide) ?_
      exact K _ (by simp only [if_pos c7])
    · have hp := hp.2 c7
      refine r_aload_n C dX11_areAlike_15 2 rfl ?_
      refine r_iload_n C dX11_areAlike_16 3 rfl ?_
      refine r_iload C dX11_areAlike_17 0 rfl ?_
      obtain ⟨h8, hp⟩ := hp
      refine r_callV (ci := 9) (wc := [[(o, .inr (9, [.ref aS, .ref aPast, .int known, .ref aSnap, .int kept, .ref aText, .int len, .int thr, .ref aOne, .ref aTwo, .ref aBoth, .ref aWord, .int cre, .ref aOpen, .ref aTimes, .ref aFar, .ref aQueue, .long hash]))], [(aS, .inl (cI, 335, .inl fS))]]) (wr := []) (st := []) C (m_X11_its l D cI cL cP cJ o aS aPast aSnap aText aOne aTwo aBoth aWord aOpen aTimes aFar aQueue known kept len thr cre hash fS letter 1 h8) k_X11_its t_966 [0, 1] (show ([0, 1] : List Nat).Perm (List.range 2) by decide) rfl rfl rfl (q0 := 0) rfl rfl rfl (Nat.le_of_ble_eq_true rfl) ⟨Nat.le_of_ble_eq_true rfl, Nat.le_of_ble_eq_true rfl⟩ ⟨Nat.zero_le _, Nat.zero_le _⟩ dX11_areAlike_19 (fun r9 wr9 hw9 => ?_)
      obtain ⟨e_r9, rfl⟩ := hw9
      have hp := hp r9 e_r9
      refine r_ws (I' := [[(o, .inr (9, [.ref aS, .ref aPast, .int known, .ref aSnap, .int kept, .ref aText, .int len, .int thr, .ref aOne, .ref aTwo, .ref aBoth, .ref aWord, .int cre, .ref aOpen, .ref aTimes, .ref aFar, .ref aQueue, .long hash]))], [(aS, .inl (cI, 335, .inl fS))]]) rfl ?_
      refine r_aload_n C dX11_areAlike_22 2 rfl ?_
      refine r_iload_n C dX11_areAlike_23 4 rfl ?_
      refine r_iload C dX11_areAlike_24 0 rfl ?_
      have h10 := hp
      refine r_callV (ci := 9) (wc := [[(o, .inr (9, [.ref aS, .ref aPast, .int known, .ref aSnap, .int kept, .ref aText, .int len, .int thr, .ref aOne, .ref aTwo, .ref aBoth, .ref aWord, .int cre, .ref aOpen, .ref aTimes, .ref aFar, .ref aQueue, .long hash]))], [(aS, .inl (cI, 335, .inl fS))]]) (wr := []) (st := [.int r9]) C (m_X11_its l D cI cL cP cJ o aS aPast aSnap aText aOne aTwo aBoth aWord aOpen aTimes aFar aQueue known kept len thr cre hash fS other 1 h10) k_X11_its t_966 [0, 1] (show ([0, 1] : List Nat).Perm (List.range 2) by decide) rfl rfl rfl (q0 := 0) rfl rfl rfl (Nat.le_of_ble_eq_true rfl) ⟨Nat.le_of_ble_eq_true rfl, Nat.le_of_ble_eq_true rfl⟩ ⟨Nat.zero_le _, Nat.zero_le _⟩ dX11_areAlike_26 (fun r11 wr11 hw11 => ?_)
      obtain ⟨e_r11, rfl⟩ := hw11
      refine r_ws (I' := [[(o, .inr (9, [.ref aS, .ref aPast, .int known, .ref aSnap, .int kept, .ref aText, .int len, .int thr, .ref aOne, .ref aTwo, .ref aBoth, .ref aWord, .int cre, .ref aOpen, .ref aTimes, .ref aFar, .ref aQueue, .long hash]))], [(aS, .inl (cI, 335, .inl fS))]]) rfl ?_
      refine r_icmp_ne (tgt := 36) C dX11_areAlike_29 (by decide) (fun c12 => ?_) (fun c12 => ?_)
      · refine r_iconst (v := 0) C dX11_areAlike_36 (by decide) ?_
        exact K _ (by have q := e_r9.symm; subst q; have q := e_r11.symm; subst q; simp only [if_neg c7, if_neg c12])
      · refine r_iconst (v := 1) C dX11_areAlike_32 (by decide) ?_
        refine r_goto (tgt := 37) C dX11_areAlike_33 (by decide) ?_
        exact K _ (by have q := e_r9.symm; subst q; have q := e_r11.symm; subst q; simp only [if_neg c7, if_pos c12])
  intro x13 e_x13
  have hp := hp x13 e_x13
  refine r_istore_n (L' := [(3, .int x13), (4, .int 1), (0, .ref o), (1, .int letter), (2, .int other)]) C dX11_areAlike_37 (by decide) rfl ?_
  refine r_iinc (v := 2) (L' := [(4, .int 2), (3, .int x13), (0, .ref o), (1, .int letter), (2, .int other)]) C dX11_areAlike_38 1 rfl (by decide) (by decide) rfl ?_
  refine r_goto (tgt := 5) C dX11_areAlike_41 (by decide) ?_
  refine r_iload C dX11_areAlike_5 0 rfl ?_
  refine r_iconst (v := 4) C dX11_areAlike_7 (by decide) ?_
  refine r_icmp_ge (tgt := 44) C dX11_areAlike_8 (by decide) (fun c => absurd c (by decide)) (fun _ => ?_)
  refine r_iload_n C dX11_areAlike_11 1 rfl ?_
  obtain ⟨hps, hp⟩ := hp
  suffices K : ∀ x20 : Int32, x20 = ((if x13 = 0 then (0) else (let r16 : Int32 := F_X11_its fS letter 2; let r18 : Int32 := F_X11_its fS other 2; (if r16 = r18 then (1) else (0))))) → V p l e (rmm 1 22) s m args below meth c 5 D A 0 0 Q [[(o, .inr (9, [.ref aS, .ref aPast, .int known, .ref aSnap, .int kept, .ref aText, .int len, .int thr, .ref aOne, .ref aTwo, .ref aBoth, .ref aWord, .int cre, .ref aOpen, .ref aTimes, .ref aFar, .ref aQueue, .long hash]))], [(aS, .inl (cI, 335, .inl fS))]] [(4, .int 2), (3, .int x13), (0, .ref o), (1, .int letter), (2, .int other)] 37 [.int x20] by
    have hp := hps
    refine r_if_eq (tgt := 36) C dX11_areAlike_12 (by decide) (fun c14 => ?_) (fun c14 => ?_)
    · refine r_iconst (v := 0) C dX11_areAlike_36 (by decide) ?_
      exact K _ (by simp only [if_pos c14])
    · have hp := hp.2 c14
      refine r_aload_n C dX11_areAlike_15 2 rfl ?_
      refine r_iload_n C dX11_areAlike_16 3 rfl ?_
      refine r_iload C dX11_areAlike_17 0 rfl ?_
      obtain ⟨h15, hp⟩ := hp
      refine r_callV (ci := 9) (wc := [[(o, .inr (9, [.ref aS, .ref aPast, .int known, .ref aSnap, .int kept, .ref aText, .int len, .int thr, .ref aOne, .ref aTwo, .ref aBoth, .ref aWord, .int cre, .ref aOpen, .ref aTimes, .ref aFar, .ref aQueue, .long hash]))], [(aS, .inl (cI, 335, .inl fS))]]) (wr := []) (st := []) C (m_X11_its l D cI cL cP cJ o aS aPast aSnap aText aOne aTwo aBoth aWord aOpen aTimes aFar aQueue known kept len thr cre hash fS letter 2 h15) k_X11_its t_966 [0, 1] (show ([0, 1] : List Nat).Perm (List.range 2) by decide) rfl rfl rfl (q0 := 0) rfl rfl rfl (Nat.le_of_ble_eq_true rfl) ⟨Nat.le_of_ble_eq_true rfl, Nat.le_of_ble_eq_true rfl⟩ ⟨Nat.zero_le _, Nat.zero_le _⟩ dX11_areAlike_19 (fun r16 wr16 hw16 => ?_)
      obtain ⟨e_r16, rfl⟩ := hw16
      have hp := hp r16 e_r16
      refine r_ws (I' := [[(o, .inr (9, [.ref aS, .ref aPast, .int known, .ref aSnap, .int kept, .ref aText, .int len, .int thr, .ref aOne, .ref aTwo, .ref aBoth, .ref aWord, .int cre, .ref aOpen, .ref aTimes, .ref aFar, .ref aQueue, .long hash]))], [(aS, .inl (cI, 335, .inl fS))]]) rfl ?_
      refine r_aload_n C dX11_areAlike_22 2 rfl ?_
      refine r_iload_n C dX11_areAlike_23 4 rfl ?_
      refine r_iload C dX11_areAlike_24 0 rfl ?_
      have h17 := hp
      refine r_callV (ci := 9) (wc := [[(o, .inr (9, [.ref aS, .ref aPast, .int known, .ref aSnap, .int kept, .ref aText, .int len, .int thr, .ref aOne, .ref aTwo, .ref aBoth, .ref aWord, .int cre, .ref aOpen, .ref aTimes, .ref aFar, .ref aQueue, .long hash]))], [(aS, .inl (cI, 335, .inl fS))]]) (wr := []) (st := [.int r16]) C (m_X11_its l D cI cL cP cJ o aS aPast aSnap aText aOne aTwo aBoth aWord aOpen aTimes aFar aQueue known kept len thr cre hash fS other 2 h17) k_X11_its t_966 [0, 1] (show ([0, 1] : List Nat).Perm (List.range 2) by decide) rfl rfl rfl (q0 := 0) rfl rfl rfl (Nat.le_of_ble_eq_true rfl) ⟨Nat.le_of_ble_eq_true rfl, Nat.le_of_ble_eq_true rfl⟩ ⟨Nat.zero_le _, Nat.zero_le _⟩ dX11_areAlike_26 (fun r18 wr18 hw18 => ?_)
      obtain ⟨e_r18, rfl⟩ := hw18
      refine r_ws (I' := [[(o, .inr (9, [.ref aS, .ref aPast, .int known, .ref aSnap, .int kept, .ref aText, .int len, .int thr, .ref aOne, .ref aTwo, .ref aBoth, .ref aWord, .int cre, .ref aOpen, .ref aTimes, .ref aFar, .ref aQueue, .long hash]))], [(aS, .inl (cI, 335, .inl fS))]]) rfl ?_
      refine r_icmp_ne (tgt := 36) C dX11_areAlike_29 (by decide) (fun c19 => ?_) (fun c19 => ?_)
      · refine r_iconst (v := 0) C dX11_areAlike_36 (by decide) ?_
        exact K _ (by have q := e_r16.symm; subst q; have q := e_r18.symm; subst q; simp only [if_neg c14, if_neg c19])
      · refine r_iconst (v := 1) C dX11_areAlike_32 (by decide) ?_
        refine r_goto (tgt := 37) C dX11_areAlike_33 (by decide) ?_
        exact K _ (by have q := e_r16.symm; subst q; have q := e_r18.symm; subst q; simp only [if_neg c14, if_pos c19])
  intro x20 e_x20
  have hp := hp x20 e_x20
  refine r_istore_n (L' := [(3, .int x20), (4, .int 2), (0, .ref o), (1, .int letter), (2, .int other)]) C dX11_areAlike_37 (by decide) rfl ?_
  refine r_iinc (v := 3) (L' := [(4, .int 3), (3, .int x20), (0, .ref o), (1, .int letter), (2, .int other)]) C dX11_areAlike_38 1 rfl (by decide) (by decide) rfl ?_
  refine r_goto (tgt := 5) C dX11_areAlike_41 (by decide) ?_
  refine r_iload C dX11_areAlike_5 0 rfl ?_
  refine r_iconst (v := 4) C dX11_areAlike_7 (by decide) ?_
  refine r_icmp_ge (tgt := 44) C dX11_areAlike_8 (by decide) (fun c => absurd c (by decide)) (fun _ => ?_)
  refine r_iload_n C dX11_areAlike_11 1 rfl ?_
  have hps := hp
  suffices K : ∀ x27 : Int32, x27 = ((if x20 = 0 then (0) else (let r23 : Int32 := F_X11_its fS letter 3; let r25 : Int32 := F_X11_its fS other 3; (if r23 = r25 then (1) else (0))))) → V p l e (rmm 1 22) s m args below meth c 5 D A 0 0 Q [[(o, .inr (9, [.ref aS, .ref aPast, .int known, .ref aSnap, .int kept, .ref aText, .int len, .int thr, .ref aOne, .ref aTwo, .ref aBoth, .ref aWord, .int cre, .ref aOpen, .ref aTimes, .ref aFar, .ref aQueue, .long hash]))], [(aS, .inl (cI, 335, .inl fS))]] [(4, .int 3), (3, .int x20), (0, .ref o), (1, .int letter), (2, .int other)] 37 [.int x27] by
    have hp := hps
    refine r_if_eq (tgt := 36) C dX11_areAlike_12 (by decide) (fun c21 => ?_) (fun c21 => ?_)
    · refine r_iconst (v := 0) C dX11_areAlike_36 (by decide) ?_
      exact K _ (by simp only [if_pos c21])
    · have hp := hp.2 c21
      refine r_aload_n C dX11_areAlike_15 2 rfl ?_
      refine r_iload_n C dX11_areAlike_16 3 rfl ?_
      refine r_iload C dX11_areAlike_17 0 rfl ?_
      obtain ⟨h22, hp⟩ := hp
      refine r_callV (ci := 9) (wc := [[(o, .inr (9, [.ref aS, .ref aPast, .int known, .ref aSnap, .int kept, .ref aText, .int len, .int thr, .ref aOne, .ref aTwo, .ref aBoth, .ref aWord, .int cre, .ref aOpen, .ref aTimes, .ref aFar, .ref aQueue, .long hash]))], [(aS, .inl (cI, 335, .inl fS))]]) (wr := []) (st := []) C (m_X11_its l D cI cL cP cJ o aS aPast aSnap aText aOne aTwo aBoth aWord aOpen aTimes aFar aQueue known kept len thr cre hash fS letter 3 h22) k_X11_its t_966 [0, 1] (show ([0, 1] : List Nat).Perm (List.range 2) by decide) rfl rfl rfl (q0 := 0) rfl rfl rfl (Nat.le_of_ble_eq_true rfl) ⟨Nat.le_of_ble_eq_true rfl, Nat.le_of_ble_eq_true rfl⟩ ⟨Nat.zero_le _, Nat.zero_le _⟩ dX11_areAlike_19 (fun r23 wr23 hw23 => ?_)
      obtain ⟨e_r23, rfl⟩ := hw23
      have hp := hp r23 e_r23
      refine r_ws (I' := [[(o, .inr (9, [.ref aS, .ref aPast, .int known, .ref aSnap, .int kept, .ref aText, .int len, .int thr, .ref aOne, .ref aTwo, .ref aBoth, .ref aWord, .int cre, .ref aOpen, .ref aTimes, .ref aFar, .ref aQueue, .long hash]))], [(aS, .inl (cI, 335, .inl fS))]]) rfl ?_
      refine r_aload_n C dX11_areAlike_22 2 rfl ?_
      refine r_iload_n C dX11_areAlike_23 4 rfl ?_
      refine r_iload C dX11_areAlike_24 0 rfl ?_
      have h24 := hp
      refine r_callV (ci := 9) (wc := [[(o, .inr (9, [.ref aS, .ref aPast, .int known, .ref aSnap, .int kept, .ref aText, .int len, .int thr, .ref aOne, .ref aTwo, .ref aBoth, .ref aWord, .int cre, .ref aOpen, .ref aTimes, .ref aFar, .ref aQueue, .long hash]))], [(aS, .inl (cI, 335, .inl fS))]]) (wr := []) (st := [.int r23]) C (m_X11_its l D cI cL cP cJ o aS aPast aSnap aText aOne aTwo aBoth aWord aOpen aTimes aFar aQueue known kept len thr cre hash fS other 3 h24) k_X11_its t_966 [0, 1] (show ([0, 1] : List Nat).Perm (List.range 2) by decide) rfl rfl rfl (q0 := 0) rfl rfl rfl (Nat.le_of_ble_eq_true rfl) ⟨Nat.le_of_ble_eq_true rfl, Nat.le_of_ble_eq_true rfl⟩ ⟨Nat.zero_le _, Nat.zero_le _⟩ dX11_areAlike_26 (fun r25 wr25 hw25 => ?_)
      obtain ⟨e_r25, rfl⟩ := hw25
      refine r_ws (I' := [[(o, .inr (9, [.ref aS, .ref aPast, .int known, .ref aSnap, .int kept, .ref aText, .int len, .int thr, .ref aOne, .ref aTwo, .ref aBoth, .ref aWord, .int cre, .ref aOpen, .ref aTimes, .ref aFar, .ref aQueue, .long hash]))], [(aS, .inl (cI, 335, .inl fS))]]) rfl ?_
      refine r_icmp_ne (tgt := 36) C dX11_areAlike_29 (by decide) (fun c26 => ?_) (fun c26 => ?_)
      · refine r_iconst (v := 0) C dX11_areAlike_36 (by decide) ?_
        exact K _ (by have q := e_r23.symm; subst q; have q := e_r25.symm; subst q; simp only [if_neg c21, if_neg c26])
      · refine r_iconst (v := 1) C dX11_areAlike_32 (by decide) ?_
        refine r_goto (tgt := 37) C dX11_areAlike_33 (by decide) ?_
        exact K _ (by have q := e_r23.symm; subst q; have q := e_r25.symm; subst q; simp only [if_neg c21, if_pos c26])
  intro x27 e_x27
  refine r_istore_n (L' := [(3, .int x27), (4, .int 3), (0, .ref o), (1, .int letter), (2, .int other)]) C dX11_areAlike_37 (by decide) rfl ?_
  refine r_iinc (v := 4) (L' := [(4, .int 4), (3, .int x27), (0, .ref o), (1, .int letter), (2, .int other)]) C dX11_areAlike_38 1 rfl (by decide) (by decide) rfl ?_
  refine r_goto (tgt := 5) C dX11_areAlike_41 (by decide) ?_
  refine r_iload C dX11_areAlike_5 0 rfl ?_
  refine r_iconst (v := 4) C dX11_areAlike_7 (by decide) ?_
  refine r_icmp_ge (tgt := 44) C dX11_areAlike_8 (by decide) (fun _ => ?_) (fun c => absurd c (by decide))
  refine r_iload_n C dX11_areAlike_44 1 rfl ?_
  have eF : F_X11_areAlike fS letter other = x27 := by have q := e_r2.symm; subst q; have q := e_r4.symm; subst q; have q := e_x6.symm; subst q; have q := e_x13.symm; subst q; have q := e_x20.symm; subst q; have q := e_x27.symm; subst q; rfl
  exact r_zret (r := x27) C hA hr hlo (nb01 (by first | (rw [e_x27]; (try dsimp only); ((repeat' split) <;> (first | exact Or.inl rfl | exact Or.inr rfl))) | (have q := e_r2.symm; subst q; have q := e_r4.symm; subst q; have q := e_x6.symm; subst q; have q := e_x13.symm; subst q; have q := e_x20.symm; subst q; have q := e_x27.symm; subst q; (try dsimp only); ((repeat' split) <;> (first | exact Or.inl rfl | exact Or.inr rfl))))) dX11_areAlike_45 [[(o, .inr (9, [.ref aS, .ref aPast, .int known, .ref aSnap, .int kept, .ref aText, .int len, .int thr, .ref aOne, .ref aTwo, .ref aBoth, .ref aWord, .int cre, .ref aOpen, .ref aTimes, .ref aFar, .ref aQueue, .long hash]))], [(aS, .inl (cI, 335, .inl fS))]] ⟨by simp only [eF], rfl⟩ rfl hQ
theorem k_X11_counted : kV yX11_counted cX11_counted 6 (some .int) 1 := ⟨t_1189, t_46, t_67, t_1190, by decide +kernel, by decide +kernel, by decide +kernel⟩
set_option maxRecDepth 20000 in
def F_X11_counted (known : Int32) (fS : Nat → Int32) (fOne : Nat → Int32) (fTwo : Nat → Int32) (fBoth : Nat → Int32) (what : Int32) : Int32 × (Nat → Int32) × (Nat → Int32) × (Nat → Int32) := let r2 : Int32 := (F_X11_lengthOf fS fOne 0).1; let g3 : Nat → Int32 := (F_X11_lengthOf fS fOne 0).2; let x5 : Int32 := (if r2 = 0 then (1) else (0)); let x24 : Int32 := (if what = 0 then (let r23 : Int32 := F_X11_its fS 0 6; r23) else ((if what = 1 then (x5) else ((if what = 2 then (let r18 : Int32 := (F_X11_number fS g3 fTwo fBoth 0 4).1; r18) else ((if what = 3 then (let r15 : Int32 := (F_X11_lengthOf fS g3 0).1; r15) else ((if what = 4 then (let r12 : Int32 := F_X11_its fS 0 5; let r13 : Int32 := F_X11_ones r12; r13) else (1)))))))))); let g25 : Nat → Int32 := (if what = 0 then (g3) else ((if what = 1 then (g3) else ((if what = 2 then (let g19 : Nat → Int32 := (F_X11_number fS g3 fTwo fBoth 0 4).2.1; g19) else ((if what = 3 then (let g16 : Nat → Int32 := (F_X11_lengthOf fS g3 0).2; g16) else ((if what = 4 then (g3) else (g3)))))))))); let g26 : Nat → Int32 := (if what = 0 then (fTwo) else ((if what = 1 then (fTwo) else ((if what = 2 then (let g20 : Nat → Int32 := (F_X11_number fS g3 fTwo fBoth 0 4).2.2.1; g20) else ((if what = 3 then (fTwo) else ((if what = 4 then (fTwo) else (fTwo)))))))))); let g27 : Nat → Int32 := (if what = 0 then (fBoth) else ((if what = 1 then (fBoth) else ((if what = 2 then (let g21 : Nat → Int32 := (F_X11_number fS g3 fTwo fBoth 0 4).2.2.2; g21) else ((if what = 3 then (fBoth) else ((if what = 4 then (fBoth) else (fBoth)))))))))); let x28 : Int32 := (0 : Int32) + x24; let r30 : Int32 := F_X11_areAlike fS 1 0; let x32 : Int32 := (if r30 = 0 then (1) else (0)); let r34 : Int32 := (F_X11_lengthOf fS g25 1).1; let g35 : Nat → Int32 := (F_X11_lengthOf fS g25 1).2; let x37 : Int32 := (if r34 = 0 then (1) else (0)); let x57 : Int32 := (if what = 0 then (let r56 : Int32 := F_X11_its fS 1 6; r56) else ((if what = 1 then (x37) else ((if what = 2 then (let r51 : Int32 := (F_X11_number fS g35 g26 g27 1 4).1; r51) else ((if what = 3 then (let r48 : Int32 := (F_X11_lengthOf fS g35 1).1; r48) else ((if what = 4 then (let r45 : Int32 := F_X11_its fS 1 5; let r46 : Int32 := F_X11_ones r45; r46) else ((if x32 = 0 then (0) else (1)))))))))))); let g58 : Nat → Int32 := (if what = 0 then (g35) else ((if what = 1 then (g35) else ((if what = 2 then (let g52 : Nat → Int32 := (F_X11_number fS g35 g26 g27 1 4).2.1; g52) else ((if what = 3 then (let g49 : Nat → Int32 := (F_X11_lengthOf fS g35 1).2; g49) else ((if what = 4 then (g35) else ((if x32 = 0 then (g35) else (g35)))))))))))); let g59 : Nat → Int32 := (if what = 0 then (g26) else ((if what = 1 then (g26) else ((if what = 2 then (let g53 : Nat → Int32 := (F_X11_number fS g35 g26 g27 1 4).2.2.1; g53) else ((if what = 3 then (g26) else ((if what = 4 then (g26) else ((if x32 = 0 then (g26) else (g26)))))))))))); let g60 : Nat → Int32 := (if what = 0 then (g27) else ((if what = 1 then (g27) else ((if what = 2 then (let g54 : Nat → Int32 := (F_X11_number fS g35 g26 g27 1 4).2.2.2; g54) else ((if what = 3 then (g27) else ((if what = 4 then (g27) else ((if x32 = 0 then (g27) else (g27)))))))))))); let x61 : Int32 := x28 + x57; let r63 : Int32 := F_X11_areAlike fS 2 0; let x65 : Int32 := (if r63 = 0 then (1) else (0)); let x70 : Int32 := (if x65 = 0 then (0) else (let r68 : Int32 := F_X11_areAlike fS 2 1; (if r68 = 0 then (1) else (0)))); let r72 : Int32 := (F_X11_lengthOf fS g58 2).1; let g73 : Nat → Int32 := (F_X11_lengthOf fS g58 2).2; let x75 : Int32 := (if r72 = 0 then (1) else (0)); let x95 : Int32 := (if what = 0 then (let r94 : Int32 := F_X11_its fS 2 6; r94) else ((if what = 1 then (x75) else ((if what = 2 then (let r89 : Int32 := (F_X11_number fS g73 g59 g60 2 4).1; r89) else ((if what = 3 then (let r86 : Int32 := (F_X11_lengthOf fS g73 2).1; r86) else ((if what = 4 then (let r83 : Int32 := F_X11_its fS 2 5; let r84 : Int32 := F_X11_ones r83; r84) else ((if x70 = 0 then (0) else (1)))))))))))); let g96 : Nat → Int32 := (if what = 0 then (g73) else ((if what = 1 then (g73) else ((if what = 2 then (let g90 : Nat → Int32 := (F_X11_number fS g73 g59 g60 2 4).2.1; g90) else ((if what = 3 then (let g87 : Nat → Int32 := (F_X11_lengthOf fS g73 2).2; g87) else ((if what = 4 then (g73) else ((if x70 = 0 then (g73) else (g73)))))))))))); let g97 : Nat → Int32 := (if what = 0 then (g59) else ((if what = 1 then (g59) else ((if what = 2 then (let g91 : Nat → Int32 := (F_X11_number fS g73 g59 g60 2 4).2.2.1; g91) else ((if what = 3 then (g59) else ((if what = 4 then (g59) else ((if x70 = 0 then (g59) else (g59)))))))))))); let g98 : Nat → Int32 := (if what = 0 then (g60) else ((if what = 1 then (g60) else ((if what = 2 then (let g92 : Nat → Int32 := (F_X11_number fS g73 g59 g60 2 4).2.2.2; g92) else ((if what = 3 then (g60) else ((if what = 4 then (g60) else ((if x70 = 0 then (g60) else (g60)))))))))))); let x99 : Int32 := x61 + x95; let r101 : Int32 := F_X11_areAlike fS 3 0; let x103 : Int32 := (if r101 = 0 then (1) else (0)); let x108 : Int32 := (if x103 = 0 then (0) else (let r106 : Int32 := F_X11_areAlike fS 3 1; (if r106 = 0 then (1) else (0)))); let x113 : Int32 := (if x108 = 0 then (0) else (let r111 : Int32 := F_X11_areAlike fS 3 2; (if r111 = 0 then (1) else (0)))); let r115 : Int32 := (F_X11_lengthOf fS g96 3).1; let g116 : Nat → Int32 := (F_X11_lengthOf fS g96 3).2; let x118 : Int32 := (if r115 = 0 then (1) else (0)); let x138 : Int32 := (if what = 0 then (let r137 : Int32 := F_X11_its fS 3 6; r137) else ((if what = 1 then (x118) else ((if what = 2 then (let r132 : Int32 := (F_X11_number fS g116 g97 g98 3 4).1; r132) else ((if what = 3 then (let r129 : Int32 := (F_X11_lengthOf fS g116 3).1; r129) else ((if what = 4 then (let r126 : Int32 := F_X11_its fS 3 5; let r127 : Int32 := F_X11_ones r126; r127) else ((if x113 = 0 then (0) else (1)))))))))))); let g139 : Nat → Int32 := (if what = 0 then (g116) else ((if what = 1 then (g116) else ((if what = 2 then (let g133 : Nat → Int32 := (F_X11_number fS g116 g97 g98 3 4).2.1; g133) else ((if what = 3 then (let g130 : Nat → Int32 := (F_X11_lengthOf fS g116 3).2; g130) else ((if what = 4 then (g116) else ((if x113 = 0 then (g116) else (g116)))))))))))); let g140 : Nat → Int32 := (if what = 0 then (g97) else ((if what = 1 then (g97) else ((if what = 2 then (let g134 : Nat → Int32 := (F_X11_number fS g116 g97 g98 3 4).2.2.1; g134) else ((if what = 3 then (g97) else ((if what = 4 then (g97) else ((if x113 = 0 then (g97) else (g97)))))))))))); let g141 : Nat → Int32 := (if what = 0 then (g98) else ((if what = 1 then (g98) else ((if what = 2 then (let g135 : Nat → Int32 := (F_X11_number fS g116 g97 g98 3 4).2.2.2; g135) else ((if what = 3 then (g98) else ((if what = 4 then (g98) else ((if x113 = 0 then (g98) else (g98)))))))))))); let x142 : Int32 := x99 + x138; let r144 : Int32 := F_X11_areAlike fS 4 0; let x146 : Int32 := (if r144 = 0 then (1) else (0)); let x151 : Int32 := (if x146 = 0 then (0) else (let r149 : Int32 := F_X11_areAlike fS 4 1; (if r149 = 0 then (1) else (0)))); let x156 : Int32 := (if x151 = 0 then (0) else (let r154 : Int32 := F_X11_areAlike fS 4 2; (if r154 = 0 then (1) else (0)))); let x161 : Int32 := (if x156 = 0 then (0) else (let r159 : Int32 := F_X11_areAlike fS 4 3; (if r159 = 0 then (1) else (0)))); let r163 : Int32 := (F_X11_lengthOf fS g139 4).1; let g164 : Nat → Int32 := (F_X11_lengthOf fS g139 4).2; let x166 : Int32 := (if r163 = 0 then (1) else (0)); let x186 : Int32 := (if what = 0 then (let r185 : Int32 := F_X11_its fS 4 6; r185) else ((if what = 1 then (x166) else ((if what = 2 then (let r180 : Int32 := (F_X11_number fS g164 g140 g141 4 4).1; r180) else ((if what = 3 then (let r177 : Int32 := (F_X11_lengthOf fS g164 4).1; r177) else ((if what = 4 then (let r174 : Int32 := F_X11_its fS 4 5; let r175 : Int32 := F_X11_ones r174; r175) else ((if x161 = 0 then (0) else (1)))))))))))); let g187 : Nat → Int32 := (if what = 0 then (g164) else ((if what = 1 then (g164) else ((if what = 2 then (let g181 : Nat → Int32 := (F_X11_number fS g164 g140 g141 4 4).2.1; g181) else ((if what = 3 then (let g178 : Nat → Int32 := (F_X11_lengthOf fS g164 4).2; g178) else ((if what = 4 then (g164) else ((if x161 = 0 then (g164) else (g164)))))))))))); let g188 : Nat → Int32 := (if what = 0 then (g140) else ((if what = 1 then (g140) else ((if what = 2 then (let g182 : Nat → Int32 := (F_X11_number fS g164 g140 g141 4 4).2.2.1; g182) else ((if what = 3 then (g140) else ((if what = 4 then (g140) else ((if x161 = 0 then (g140) else (g140)))))))))))); let g189 : Nat → Int32 := (if what = 0 then (g141) else ((if what = 1 then (g141) else ((if what = 2 then (let g183 : Nat → Int32 := (F_X11_number fS g164 g140 g141 4 4).2.2.2; g183) else ((if what = 3 then (g141) else ((if what = 4 then (g141) else ((if x161 = 0 then (g141) else (g141)))))))))))); let x190 : Int32 := x142 + x186; let x192 : Int32 := (if what = 6 then (known) else (x190)); (x192, g187, g188, g189)
set_option maxRecDepth 20000 in
def P_X11_counted (fS : Nat → Int32) (fOne : Nat → Int32) (fTwo : Nat → Int32) (fBoth : Nat → Int32) (what : Int32) : Prop := ((P_X11_lengthOf fS fOne 0) ∧ (∀ r2 : Int32, r2 = (F_X11_lengthOf fS fOne 0).1 → (∀ g3 : Nat → Int32, g3 = (F_X11_lengthOf fS fOne 0).2 → (∀ x5 : Int32, x5 = ((if r2 = 0 then (1) else (0))) → (((what = 0 → (P_X11_its 0 6)) ∧ (¬ what = 0 → ((what = 1 → True) ∧ (¬ what = 1 → ((what = 2 → (P_X11_number fS g3 fTwo fBoth 0 4)) ∧ (¬ what = 2 → ((what = 3 → (P_X11_lengthOf fS g3 0)) ∧ (¬ what = 3 → ((what = 4 → (P_X11_its 0 5)) ∧ (¬ what = 4 → True)))))))))) ∧ (∀ x24 : Int32, x24 = ((if what = 0 then (let r23 : Int32 := F_X11_its fS 0 6; r23) else ((if what = 1 then (x5) else ((if what = 2 then (let r18 : Int32 := (F_X11_number fS g3 fTwo fBoth 0 4).1; r18) else ((if what = 3 then (let r15 : Int32 := (F_X11_lengthOf fS g3 0).1; r15) else ((if what = 4 then (let r12 : Int32 := F_X11_its fS 0 5; let r13 : Int32 := F_X11_ones r12; r13) else (1))))))))))) → (∀ g25 : Nat → Int32, g25 = ((if what = 0 then (g3) else ((if what = 1 then (g3) else ((if what = 2 then (let g19 : Nat → Int32 := (F_X11_number fS g3 fTwo fBoth 0 4).2.1; g19) else ((if what = 3 then (let g16 : Nat → Int32 := (F_X11_lengthOf fS g3 0).2; g16) else ((if what = 4 then (g3) else (g3))))))))))) → (∀ g26 : Nat → Int32, g26 = ((if what = 0 then (fTwo) else ((if what = 1 then (fTwo) else ((if what = 2 then (let g20 : Nat → Int32 := (F_X11_number fS g3 fTwo fBoth 0 4).2.2.1; g20) else ((if what = 3 then (fTwo) else ((if what = 4 then (fTwo) else (fTwo))))))))))) → (∀ g27 : Nat → Int32, g27 = ((if what = 0 then (fBoth) else ((if what = 1 then (fBoth) else ((if what = 2 then (let g21 : Nat → Int32 := (F_X11_number fS g3 fTwo fBoth 0 4).2.2.2; g21) else ((if what = 3 then (fBoth) else ((if what = 4 then (fBoth) else (fBoth))))))))))) → (∀ x28 : Int32, x28 = (0 : Int32) + x24 → ((P_X11_areAlike fS 1 0) ∧ (∀ r30 : Int32, r30 = F_X11_areAlike fS 1 0 → (∀ x32 : Int32, x32 = ((if r30 = 0 then (1) else (0))) → ((P_X11_lengthOf fS g25 1) ∧ (∀ r34 : Int32, r34 = (F_X11_lengthOf fS g25 1).1 → (∀ g35 : Nat → Int32, g35 = (F_X11_lengthOf fS g25 1).2 → (∀ x37 : Int32, x37 = ((if r34 = 0 then (1) else (0))) → (((what = 0 → (P_X11_its 1 6)) ∧ (¬ what = 0 → ((what = 1 → True) ∧ (¬ what = 1 → ((what = 2 → (P_X11_number fS g35 g26 g27 1 4)) ∧ (¬ what = 2 → ((what = 3 → (P_X11_lengthOf fS g35 1)) ∧ (¬ what = 3 → ((what = 4 → (P_X11_its 1 5)) ∧ (¬ what = 4 → True)))))))))) ∧ (∀ x57 : Int32, x57 = ((if what = 0 then (let r56 : Int32 := F_X11_its fS 1 6; r56) else ((if what = 1 then (x37) else ((if what = 2 then (let r51 : Int32 := (F_X11_number fS g35 g26 g27 1 4).1; r51) else ((if what = 3 then (let r48 : Int32 := (F_X11_lengthOf fS g35 1).1; r48) else ((if what = 4 then (let r45 : Int32 := F_X11_its fS 1 5; let r46 : Int32 := F_X11_ones r45; r46) else ((if x32 = 0 then (0) else (1))))))))))))) → (∀ g58 : Nat → Int32, g58 = ((if what = 0 then (g35) else ((if what = 1 then (g35) else ((if what = 2 then (let g52 : Nat → Int32 := (F_X11_number fS g35 g26 g27 1 4).2.1; g52) else ((if what = 3 then (let g49 : Nat → Int32 := (F_X11_lengthOf fS g35 1).2; g49) else ((if what = 4 then (g35) else ((if x32 = 0 then (g35) else (g35))))))))))))) → (∀ g59 : Nat → Int32, g59 = ((if what = 0 then (g26) else ((if what = 1 then (g26) else ((if what = 2 then (let g53 : Nat → Int32 := (F_X11_number fS g35 g26 g27 1 4).2.2.1; g53) else ((if what = 3 then (g26) else ((if what = 4 then (g26) else ((if x32 = 0 then (g26) else (g26))))))))))))) → (∀ g60 : Nat → Int32, g60 = ((if what = 0 then (g27) else ((if what = 1 then (g27) else ((if what = 2 then (let g54 : Nat → Int32 := (F_X11_number fS g35 g26 g27 1 4).2.2.2; g54) else ((if what = 3 then (g27) else ((if what = 4 then (g27) else ((if x32 = 0 then (g27) else (g27))))))))))))) → (∀ x61 : Int32, x61 = x28 + x57 → ((P_X11_areAlike fS 2 0) ∧ (∀ r63 : Int32, r63 = F_X11_areAlike fS 2 0 → (∀ x65 : Int32, x65 = ((if r63 = 0 then (1) else (0))) → (((x65 = 0 → True) ∧ (¬ x65 = 0 → (P_X11_areAlike fS 2 1))) ∧ (∀ x70 : Int32, x70 = ((if x65 = 0 then (0) else (let r68 : Int32 := F_X11_areAlike fS 2 1; (if r68 = 0 then (1) else (0))))) → ((P_X11_lengthOf fS g58 2) ∧ (∀ r72 : Int32, r72 = (F_X11_lengthOf fS g58 2).1 → (∀ g73 : Nat → Int32, g73 = (F_X11_lengthOf fS g58 2).2 → (∀ x75 : Int32, x75 = ((if r72 = 0 then (1) else (0))) → (((what = 0 → (P_X11_its 2 6)) ∧ (¬ what = 0 → ((what = 1 → True) ∧ (¬ what = 1 → ((what = 2 → (P_X11_number fS g73 g59 g60 2 4)) ∧ (¬ what = 2 → ((what = 3 → (P_X11_lengthOf fS g73 2)) ∧ (¬ what = 3 → ((what = 4 → (P_X11_its 2 5)) ∧ (¬ what = 4 → True)))))))))) ∧ (∀ x95 : Int32, x95 = ((if what = 0 then (let r94 : Int32 := F_X11_its fS 2 6; r94) else ((if what = 1 then (x75) else ((if what = 2 then (let r89 : Int32 := (F_X11_number fS g73 g59 g60 2 4).1; r89) else ((if what = 3 then (let r86 : Int32 := (F_X11_lengthOf fS g73 2).1; r86) else ((if what = 4 then (let r83 : Int32 := F_X11_its fS 2 5; let r84 : Int32 := F_X11_ones r83; r84) else ((if x70 = 0 then (0) else (1))))))))))))) → (∀ g96 : Nat → Int32, g96 = ((if what = 0 then (g73) else ((if what = 1 then (g73) else ((if what = 2 then (let g90 : Nat → Int32 := (F_X11_number fS g73 g59 g60 2 4).2.1; g90) else ((if what = 3 then (let g87 : Nat → Int32 := (F_X11_lengthOf fS g73 2).2; g87) else ((if what = 4 then (g73) else ((if x70 = 0 then (g73) else (g73))))))))))))) → (∀ g97 : Nat → Int32, g97 = ((if what = 0 then (g59) else ((if what = 1 then (g59) else ((if what = 2 then (let g91 : Nat → Int32 := (F_X11_number fS g73 g59 g60 2 4).2.2.1; g91) else ((if what = 3 then (g59) else ((if what = 4 then (g59) else ((if x70 = 0 then (g59) else (g59))))))))))))) → (∀ g98 : Nat → Int32, g98 = ((if what = 0 then (g60) else ((if what = 1 then (g60) else ((if what = 2 then (let g92 : Nat → Int32 := (F_X11_number fS g73 g59 g60 2 4).2.2.2; g92) else ((if what = 3 then (g60) else ((if what = 4 then (g60) else ((if x70 = 0 then (g60) else (g60))))))))))))) → (∀ x99 : Int32, x99 = x61 + x95 → ((P_X11_areAlike fS 3 0) ∧ (∀ r101 : Int32, r101 = F_X11_areAlike fS 3 0 → (∀ x103 : Int32, x103 = ((if r101 = 0 then (1) else (0))) → (((x103 = 0 → True) ∧ (¬ x103 = 0 → (P_X11_areAlike fS 3 1))) ∧ (∀ x108 : Int32, x108 = ((if x103 = 0 then (0) else (let r106 : Int32 := F_X11_areAlike fS 3 1; (if r106 = 0 then (1) else (0))))) → (((x108 = 0 → True) ∧ (¬ x108 = 0 → (P_X11_areAlike fS 3 2))) ∧ (∀ x113 : Int32, x113 = ((if x108 = 0 then (0) else (let r111 : Int32 := F_X11_areAlike fS 3 2; (if r111 = 0 then (1) else (0))))) → ((P_X11_lengthOf fS g96 3) ∧ (∀ r115 : Int32, r115 = (F_X11_lengthOf fS g96 3).1 → (∀ g116 : Nat → Int32, g116 = (F_X11_lengthOf fS g96 3).2 → (∀ x118 : Int32, x118 = ((if r115 = 0 then (1) else (0))) → (((what = 0 → (P_X11_its 3 6)) ∧ (¬ what = 0 → ((what = 1 → True) ∧ (¬ what = 1 → ((what = 2 → (P_X11_number fS g116 g97 g98 3 4)) ∧ (¬ what = 2 → ((what = 3 → (P_X11_lengthOf fS g116 3)) ∧ (¬ what = 3 → ((what = 4 → (P_X11_its 3 5)) ∧ (¬ what = 4 → True)))))))))) ∧ (∀ x138 : Int32, x138 = ((if what = 0 then (let r137 : Int32 := F_X11_its fS 3 6; r137) else ((if what = 1 then (x118) else ((if what = 2 then (let r132 : Int32 := (F_X11_number fS g116 g97 g98 3 4).1; r132) else ((if what = 3 then (let r129 : Int32 := (F_X11_lengthOf fS g116 3).1; r129) else ((if what = 4 then (let r126 : Int32 := F_X11_its fS 3 5; let r127 : Int32 := F_X11_ones r126; r127) else ((if x113 = 0 then (0) else (1))))))))))))) → (∀ g139 : Nat → Int32, g139 = ((if what = 0 then (g116) else ((if what = 1 then (g116) else ((if what = 2 then (let g133 : Nat → Int32 := (F_X11_number fS g116 g97 g98 3 4).2.1; g133) else ((if what = 3 then (let g130 : Nat → Int32 := (F_X11_lengthOf fS g116 3).2; g130) else ((if what = 4 then (g116) else ((if x113 = 0 then (g116) else (g116))))))))))))) → (∀ g140 : Nat → Int32, g140 = ((if what = 0 then (g97) else ((if what = 1 then (g97) else ((if what = 2 then (let g134 : Nat → Int32 := (F_X11_number fS g116 g97 g98 3 4).2.2.1; g134) else ((if what = 3 then (g97) else ((if what = 4 then (g97) else ((if x113 = 0 then (g97) else (g97))))))))))))) → (∀ g141 : Nat → Int32, g141 = ((if what = 0 then (g98) else ((if what = 1 then (g98) else ((if what = 2 then (let g135 : Nat → Int32 := (F_X11_number fS g116 g97 g98 3 4).2.2.2; g135) else ((if what = 3 then (g98) else ((if what = 4 then (g98) else ((if x113 = 0 then (g98) else (g98))))))))))))) → (∀ x142 : Int32, x142 = x99 + x138 → ((P_X11_areAlike fS 4 0) ∧ (∀ r144 : Int32, r144 = F_X11_areAlike fS 4 0 → (∀ x146 : Int32, x146 = ((if r144 = 0 then (1) else (0))) → (((x146 = 0 → True) ∧ (¬ x146 = 0 → (P_X11_areAlike fS 4 1))) ∧ (∀ x151 : Int32, x151 = ((if x146 = 0 then (0) else (let r149 : Int32 := F_X11_areAlike fS 4 1; (if r149 = 0 then (1) else (0))))) → (((x151 = 0 → True) ∧ (¬ x151 = 0 → (P_X11_areAlike fS 4 2))) ∧ (∀ x156 : Int32, x156 = ((if x151 = 0 then (0) else (let r154 : Int32 := F_X11_areAlike fS 4 2; (if r154 = 0 then (1) else (0))))) → (((x156 = 0 → True) ∧ (¬ x156 = 0 → (P_X11_areAlike fS 4 3))) ∧ (∀ x161 : Int32, x161 = ((if x156 = 0 then (0) else (let r159 : Int32 := F_X11_areAlike fS 4 3; (if r159 = 0 then (1) else (0))))) → ((P_X11_lengthOf fS g139 4) ∧ (∀ r163 : Int32, r163 = (F_X11_lengthOf fS g139 4).1 → (∀ g164 : Nat → Int32, g164 = (F_X11_lengthOf fS g139 4).2 → (∀ x166 : Int32, x166 = ((if r163 = 0 then (1) else (0))) → ((what = 0 → (P_X11_its 4 6)) ∧ (¬ what = 0 → ((what = 1 → True) ∧ (¬ what = 1 → ((what = 2 → (P_X11_number fS g164 g140 g141 4 4)) ∧ (¬ what = 2 → ((what = 3 → (P_X11_lengthOf fS g164 4)) ∧ (¬ what = 3 → ((what = 4 → (P_X11_its 4 5)) ∧ (¬ what = 4 → True))))))))))))))))))))))))))))))))))))))))))))))))))))))))))))))))))))))))))))))
set_option maxRecDepth 20000 in
set_option maxHeartbeats 8000000 in
theorem m_X11_counted (l : Launch) (D : va_G) (cI cL cP cJ : ClassId) (o : Nat) (aS : Nat) (aPast : Nat) (aSnap : Nat) (aText : Nat) (aOne : Nat) (aTwo : Nat) (aBoth : Nat) (aWord : Nat) (aOpen : Nat) (aTimes : Nat) (aFar : Nat) (aQueue : Nat) (known : Int32) (kept : Int32) (len : Int32) (thr : Int32) (cre : Int32) (hash : Int64) (fS : Nat → Int32) (fOne : Nat → Int32) (fTwo : Nat → Int32) (fBoth : Nat → Int32) (what : Int32) (hp : P_X11_counted fS fOne fTwo fBoth what) : M vI l yX11_counted cX11_counted 6 (some .int) 5 115 D (tyF cI cL cP cJ) [.ref o, .int what] [[(o, .inr (9, [.ref aS, .ref aPast, .int known, .ref aSnap, .int kept, .ref aText, .int len, .int thr, .ref aOne, .ref aTwo, .ref aBoth, .ref aWord, .int cre, .ref aOpen, .ref aTimes, .ref aFar, .ref aQueue, .long hash]))], [(aS, .inl (cI, 335, .inl fS))], [(aOne, .inl (cI, 4, .inl fOne))], [(aTwo, .inl (cI, 4, .inl fTwo))], [(aBoth, .inl (cI, 4, .inl fBoth))]] (fun (r : Int32) (w1 : List va_W) => r = (F_X11_counted known fS fOne fTwo fBoth what).1 ∧ w1 = [[(o, .inr (9, [.ref aS, .ref aPast, .int known, .ref aSnap, .int kept, .ref aText, .int len, .int thr, .ref aOne, .ref aTwo, .ref aBoth, .ref aWord, .int cre, .ref aOpen, .ref aTimes, .ref aFar, .ref aQueue, .long hash]))], [(aS, .inl (cI, 335, .inl fS))], [(aOne, .inl (cI, 4, .inl ((F_X11_counted known fS fOne fTwo fBoth what).2.1)))], [(aTwo, .inl (cI, 4, .inl ((F_X11_counted known fS fOne fTwo fBoth what).2.2.1)))], [(aBoth, .inl (cI, 4, .inl ((F_X11_counted known fS fOne fTwo fBoth what).2.2.2)))]]) := by
  unfold P_X11_counted at hp
  refine m_start (by decide +kernel) (Nat.le_of_ble_eq_true rfl) (fun p e s m args below meth c A Q hA hQ C hr hlo => ?_)
  refine r_Le (L' := [(0, .ref o), (1, .int what)]) rfl ?_
  refine r_iconst (v := 0) C dX11_counted_0 (by decide) ?_
  refine r_istore_n (L' := [(2, .int 0), (0, .ref o), (1, .int what)]) C dX11_counted_1 (by decide) rfl ?_
  refine r_iconst (v := 0) C dX11_counted_2 (by decide) ?_
  refine r_istore_n (L' := [(3, .int 0), (2, .int 0), (0, .ref o), (1, .int what)]) C dX11_counted_3 (by decide) rfl ?_
  refine r_iload_n C dX11_counted_4 0 rfl ?_
  refine r_iconst (v := 5) C dX11_counted_5 (by decide) ?_
  refine r_icmp_ge (tgt := 151) C dX11_counted_6 (by decide) (fun c => absurd c (by decide)) (fun _ => ?_)
  refine r_iconst (v := 1) C dX11_counted_9 (by decide) ?_
  refine r_istore (L' := [(4, .int 1), (3, .int 0), (2, .int 0), (0, .ref o), (1, .int what)]) C dX11_counted_10 (by decide) rfl ?_
  refine r_iconst (v := 0) C dX11_counted_12 (by decide) ?_
  refine r_istore (L' := [(5, .int 0), (4, .int 1), (3, .int 0), (2, .int 0), (0, .ref o), (1, .int what)]) C dX11_counted_13 (by decide) rfl ?_
  refine r_iload C dX11_counted_15 0 rfl ?_
  refine r_iload_n C dX11_counted_17 2 rfl ?_
  refine r_icmp_ge (tgt := 49) C dX11_counted_18 (by decide) (fun _ => ?_) (fun c => absurd c (by decide))
  refine r_aload_n C dX11_counted_49 4 rfl ?_
  refine r_iload_n C dX11_counted_50 2 rfl ?_
  obtain ⟨h1, hp⟩ := hp
  refine r_callV (ci := 9) (wc := [[(o, .inr (9, [.ref aS, .ref aPast, .int known, .ref aSnap, .int kept, .ref aText, .int len, .int thr, .ref aOne, .ref aTwo, .ref aBoth, .ref aWord, .int cre, .ref aOpen, .ref aTimes, .ref aFar, .ref aQueue, .long hash]))], [(aS, .inl (cI, 335, .inl fS))], [(aOne, .inl (cI, 4, .inl fOne))]]) (wr := [[(aTwo, .inl (cI, 4, .inl fTwo))], [(aBoth, .inl (cI, 4, .inl fBoth))]]) (st := []) C (m_X11_lengthOf l D cI cL cP cJ o aS aPast aSnap aText aOne aTwo aBoth aWord aOpen aTimes aFar aQueue known kept len thr cre hash fS fOne 0 h1) k_X11_lengthOf t_1002 [0, 1, 2, 3, 4] (show ([0, 1, 2, 3, 4] : List Nat).Perm (List.range 5) by decide) rfl rfl rfl (q0 := 0) rfl rfl rfl (Nat.le_of_ble_eq_true rfl) ⟨Nat.le_of_ble_eq_true rfl, Nat.le_of_ble_eq_true rfl⟩ ⟨Nat.zero_le _, Nat.zero_le _⟩ dX11_counted_51 (fun r2 wr2 hw2 => ?_)
  obtain ⟨e_r2, rfl⟩ := hw2
  have hp := hp r2 e_r2
  obtain ⟨g3, e_g3⟩ : ∃ z : Nat → Int32, z = (F_X11_lengthOf fS fOne 0).2 := ⟨_, rfl⟩
  have hp := hp g3 e_g3
  refine r_ws (I' := [[(o, .inr (9, [.ref aS, .ref aPast, .int known, .ref aSnap, .int kept, .ref aText, .int len, .int thr, .ref aOne, .ref aTwo, .ref aBoth, .ref aWord, .int cre, .ref aOpen, .ref aTimes, .ref aFar, .ref aQueue, .long hash]))], [(aS, .inl (cI, 335, .inl fS))], [(aOne, .inl (cI, 4, .inl g3))], [(aTwo, .inl (cI, 4, .inl fTwo))], [(aBoth, .inl (cI, 4, .inl fBoth))]]) (by rw [e_g3]; rfl) ?_
  suffices K : ∀ x5 : Int32, x5 = ((if r2 = 0 then (1) else (0))) → V p l e (rmm 5 115) s m args below meth c 6 D A 0 0 Q [[(o, .inr (9, [.ref aS, .ref aPast, .int known, .ref aSnap, .int kept, .ref aText, .int len, .int thr, .ref aOne, .ref aTwo, .ref aBoth, .ref aWord, .int cre, .ref aOpen, .ref aTimes, .ref aFar, .ref aQueue, .long hash]))], [(aS, .inl (cI, 335, .inl fS))], [(aOne, .inl (cI, 4, .inl g3))], [(aTwo, .inl (cI, 4, .inl fTwo))], [(aBoth, .inl (cI, 4, .inl fBoth))]] [(5, .int 0), (4, .int 1), (3, .int 0), (2, .int 0), (0, .ref o), (1, .int what)] 62 [.int x5] by
    refine r_if_ne (tgt := 61) C dX11_counted_54 (by decide) (fun c4 => ?_) (fun c4 => ?_)
    · refine r_iconst (v := 0) C dX11_counted_61 (by decide) ?_
      exact K _ (by simp only [if_neg c4])
    · refine r_iconst (v := 1) C dX11_counted_57 (by decide) ?_
      refine r_goto (tgt := 62) C dX11_counted_58 (by decide) ?_
      exact K _ (by simp only [if_pos c4])
  intro x5 e_x5
  have hp := hp x5 e_x5
  refine r_istore (L' := [(5, .int x5), (4, .int 1), (3, .int 0), (2, .int 0), (0, .ref o), (1, .int what)]) C dX11_counted_62 (by decide) rfl ?_
  refine r_iload_n C dX11_counted_64 3 rfl ?_
  refine r_iload_n C dX11_counted_65 5 rfl ?_
  obtain ⟨hps, hp⟩ := hp
  suffices K : ∀ x24 : Int32, x24 = ((if what = 0 then (let r23 : Int32 := F_X11_its fS 0 6; r23) else ((if what = 1 then (x5) else ((if what = 2 then (let r18 : Int32 := (F_X11_number fS g3 fTwo fBoth 0 4).1; r18) else ((if what = 3 then (let r15 : Int32 := (F_X11_lengthOf fS g3 0).1; r15) else ((if what = 4 then (let r12 : Int32 := F_X11_its fS 0 5; let r13 : Int32 := F_X11_ones r12; r13) else (1))))))))))) → ∀ g25 : Nat → Int32, g25 = ((if what = 0 then (g3) else ((if what = 1 then (g3) else ((if what = 2 then (let g19 : Nat → Int32 := (F_X11_number fS g3 fTwo fBoth 0 4).2.1; g19) else ((if what = 3 then (let g16 : Nat → Int32 := (F_X11_lengthOf fS g3 0).2; g16) else ((if what = 4 then (g3) else (g3))))))))))) → ∀ g26 : Nat → Int32, g26 = ((if what = 0 then (fTwo) else ((if what = 1 then (fTwo) else ((if what = 2 then (let g20 : Nat → Int32 := (F_X11_number fS g3 fTwo fBoth 0 4).2.2.1; g20) else ((if what = 3 then (fTwo) else ((if what = 4 then (fTwo) else (fTwo))))))))))) → ∀ g27 : Nat → Int32, g27 = ((if what = 0 then (fBoth) else ((if what = 1 then (fBoth) else ((if what = 2 then (let g21 : Nat → Int32 := (F_X11_number fS g3 fTwo fBoth 0 4).2.2.2; g21) else ((if what = 3 then (fBoth) else ((if what = 4 then (fBoth) else (fBoth))))))))))) → V p l e (rmm 5 115) s m args below meth c 6 D A 0 0 Q [[(o, .inr (9, [.ref aS, .ref aPast, .int known, .ref aSnap, .int kept, .ref aText, .int len, .int thr, .ref aOne, .ref aTwo, .ref aBoth, .ref aWord, .int cre, .ref aOpen, .ref aTimes, .ref aFar, .ref aQueue, .long hash]))], [(aS, .inl (cI, 335, .inl fS))], [(aOne, .inl (cI, 4, .inl g25))], [(aTwo, .inl (cI, 4, .inl g26))], [(aBoth, .inl (cI, 4, .inl g27))]] [(5, .int x5), (4, .int 1), (3, .int 0), (2, .int 0), (0, .ref o), (1, .int what)] 143 [.int x24, .int 0] by
    have hp := hps
    refine r_if_ne (tgt := 79) C dX11_counted_66 (by decide) (fun c6 => ?_) (fun c6 => ?_)
    · have hp := hp.2 c6
      refine r_iload_n C dX11_counted_79 5 rfl ?_
      refine r_iconst (v := 1) C dX11_counted_80 (by decide) ?_
      refine r_icmp_ne (tgt := 89) C dX11_counted_81 (by decide) (fun c7 => ?_) (fun c7 => ?_)
      · have hp := hp.2 c7
        refine r_iload_n C dX11_counted_89 5 rfl ?_
        refine r_iconst (v := 2) C dX11_counted_90 (by decide) ?_
        refine r_icmp_ne (tgt := 103) C dX11_counted_91 (by decide) (fun c8 => ?_) (fun c8 => ?_)
        · have hp := hp.2 c8
          refine r_iload_n C dX11_counted_103 5 rfl ?_
          refine r_iconst (v := 3) C dX11_counted_104 (by decide) ?_
          refine r_icmp_ne (tgt := 116) C dX11_counted_105 (by decide) (fun c9 => ?_) (fun c9 => ?_)
          · have hp := hp.2 c9
            refine r_iload_n C dX11_counted_116 5 rfl ?_
            refine r_iconst (v := 4) C dX11_counted_117 (by decide) ?_
            refine r_icmp_ne (tgt := 133) C dX11_counted_118 (by decide) (fun c10 => ?_) (fun c10 => ?_)
            · refine r_iload C dX11_counted_133 1 rfl ?_
              refine r_if_eq (tgt := 142) C dX11_counted_135 (by decide) (fun c => absurd c (by decide)) (fun _ => ?_)
              refine r_iconst (v := 1) C dX11_counted_138 (by decide) ?_
              refine r_goto (tgt := 143) C dX11_counted_139 (by decide) ?_
              exact K _ (by simp only [if_neg c6, if_neg c7, if_neg c8, if_neg c9, if_neg c10]) _ (by simp only [if_neg c6, if_neg c7, if_neg c8, if_neg c9, if_neg c10]) _ (by simp only [if_neg c6, if_neg c7, if_neg c8, if_neg c9, if_neg c10]) _ (by simp only [if_neg c6, if_neg c7, if_neg c8, if_neg c9, if_neg c10])
            · have hp := hp.1 c10
              refine r_aload_n C dX11_counted_121 4 rfl ?_
              refine r_iload_n C dX11_counted_122 2 rfl ?_
              refine r_iconst (v := 5) C dX11_counted_123 (by decide) ?_
              have h11 := hp
              refine r_callV (ci := 9) (wc := [[(o, .inr (9, [.ref aS, .ref aPast, .int known, .ref aSnap, .int kept, .ref aText, .int len, .int thr, .ref aOne, .ref aTwo, .ref aBoth, .ref aWord, .int cre, .ref aOpen, .ref aTimes, .ref aFar, .ref aQueue, .long hash]))], [(aS, .inl (cI, 335, .inl fS))]]) (wr := [[(aOne, .inl (cI, 4, .inl g3))], [(aTwo, .inl (cI, 4, .inl fTwo))], [(aBoth, .inl (cI, 4, .inl fBoth))]]) (st := [.int 0]) C (m_X11_its l D cI cL cP cJ o aS aPast aSnap aText aOne aTwo aBoth aWord aOpen aTimes aFar aQueue known kept len thr cre hash fS 0 5 h11) k_X11_its t_966 [0, 1, 2, 3, 4] (show ([0, 1, 2, 3, 4] : List Nat).Perm (List.range 5) by decide) rfl rfl rfl (q0 := 0) rfl rfl rfl (Nat.le_of_ble_eq_true rfl) ⟨Nat.le_of_ble_eq_true rfl, Nat.le_of_ble_eq_true rfl⟩ ⟨Nat.zero_le _, Nat.zero_le _⟩ dX11_counted_124 (fun r12 wr12 hw12 => ?_)
              obtain ⟨e_r12, rfl⟩ := hw12
              refine r_ws (I' := [[(o, .inr (9, [.ref aS, .ref aPast, .int known, .ref aSnap, .int kept, .ref aText, .int len, .int thr, .ref aOne, .ref aTwo, .ref aBoth, .ref aWord, .int cre, .ref aOpen, .ref aTimes, .ref aFar, .ref aQueue, .long hash]))], [(aS, .inl (cI, 335, .inl fS))], [(aOne, .inl (cI, 4, .inl g3))], [(aTwo, .inl (cI, 4, .inl fTwo))], [(aBoth, .inl (cI, 4, .inl fBoth))]]) rfl ?_
              refine r_callS (wc := []) (wr := [[(o, .inr (9, [.ref aS, .ref aPast, .int known, .ref aSnap, .int kept, .ref aText, .int len, .int thr, .ref aOne, .ref aTwo, .ref aBoth, .ref aWord, .int cre, .ref aOpen, .ref aTimes, .ref aFar, .ref aQueue, .long hash]))], [(aS, .inl (cI, 335, .inl fS))], [(aOne, .inl (cI, 4, .inl g3))], [(aTwo, .inl (cI, 4, .inl fTwo))], [(aBoth, .inl (cI, 4, .inl fBoth))]]) (st := [.int 0]) C (m_X11_ones l D cI cL cP cJ r12) k_X11_ones t_1072 [0, 1, 2, 3, 4] (show ([0, 1, 2, 3, 4] : List Nat).Perm (List.range 5) by decide) rfl rfl rfl (Nat.le_of_ble_eq_true rfl) ⟨Nat.le_of_ble_eq_true rfl, Nat.le_of_ble_eq_true rfl⟩ ⟨Nat.zero_le _, Nat.zero_le _⟩ dX11_counted_127 (fun r13 wr13 hw13 => ?_)
              obtain ⟨e_r13, rfl⟩ := hw13
              refine r_ws (I' := [[(o, .inr (9, [.ref aS, .ref aPast, .int known, .ref aSnap, .int kept, .ref aText, .int len, .int thr, .ref aOne, .ref aTwo, .ref aBoth, .ref aWord, .int cre, .ref aOpen, .ref aTimes, .ref aFar, .ref aQueue, .long hash]))], [(aS, .inl (cI, 335, .inl fS))], [(aOne, .inl (cI, 4, .inl g3))], [(aTwo, .inl (cI, 4, .inl fTwo))], [(aBoth, .inl (cI, 4, .inl fBoth))]]) rfl ?_
              refine r_goto (tgt := 143) C dX11_counted_130 (by decide) ?_
              exact K _ (by have q := e_r12.symm; subst q; have q := e_r13.symm; subst q; simp only [if_neg c6, if_neg c7, if_neg c8, if_neg c9, if_pos c10]) _ (by have q := e_r12.symm; subst q; have q := e_r13.symm; subst q; simp only [if_neg c6, if_neg c7, if_neg c8, if_neg c9, if_pos c10]) _ (by have q := e_r12.symm; subst q; have q := e_r13.symm; subst q; simp only [if_neg c6, if_neg c7, if_neg c8, if_neg c9, if_pos c10]) _ (by have q := e_r12.symm; subst q; have q := e_r13.symm; subst q; simp only [if_neg c6, if_neg c7, if_neg c8, if_neg c9, if_pos c10])
          · have hp := hp.1 c9
            refine r_aload_n C dX11_counted_108 4 rfl ?_
            refine r_iload_n C dX11_counted_109 2 rfl ?_
            have h14 := hp
            refine r_callV (ci := 9) (wc := [[(o, .inr (9, [.ref aS, .ref aPast, .int known, .ref aSnap, .int kept, .ref aText, .int len, .int thr, .ref aOne, .ref aTwo, .ref aBoth, .ref aWord, .int cre, .ref aOpen, .ref aTimes, .ref aFar, .ref aQueue, .long hash]))], [(aS, .inl (cI, 335, .inl fS))], [(aOne, .inl (cI, 4, .inl g3))]]) (wr := [[(aTwo, .inl (cI, 4, .inl fTwo))], [(aBoth, .inl (cI, 4, .inl fBoth))]]) (st := [.int 0]) C (m_X11_lengthOf l D cI cL cP cJ o aS aPast aSnap aText aOne aTwo aBoth aWord aOpen aTimes aFar aQueue known kept len thr cre hash fS g3 0 h14) k_X11_lengthOf t_1002 [0, 1, 2, 3, 4] (show ([0, 1, 2, 3, 4] : List Nat).Perm (List.range 5) by decide) rfl rfl rfl (q0 := 0) rfl rfl rfl (Nat.le_of_ble_eq_true rfl) ⟨Nat.le_of_ble_eq_true rfl, Nat.le_of_ble_eq_true rfl⟩ ⟨Nat.zero_le _, Nat.zero_le _⟩ dX11_counted_110 (fun r15 wr15 hw15 => ?_)
            obtain ⟨e_r15, rfl⟩ := hw15
            obtain ⟨g16, e_g16⟩ : ∃ z : Nat → Int32, z = (F_X11_lengthOf fS g3 0).2 := ⟨_, rfl⟩
            refine r_ws (I' := [[(o, .inr (9, [.ref aS, .ref aPast, .int known, .ref aSnap, .int kept, .ref aText, .int len, .int thr, .ref aOne, .ref aTwo, .ref aBoth, .ref aWord, .int cre, .ref aOpen, .ref aTimes, .ref aFar, .ref aQueue, .long hash]))], [(aS, .inl (cI, 335, .inl fS))], [(aOne, .inl (cI, 4, .inl g16))], [(aTwo, .inl (cI, 4, .inl fTwo))], [(aBoth, .inl (cI, 4, .inl fBoth))]]) (by rw [e_g16]; rfl) ?_
            refine r_goto (tgt := 143) C dX11_counted_113 (by decide) ?_
            exact K _ (by have q := e_r15.symm; subst q; have q := e_g16.symm; subst q; simp only [if_neg c6, if_neg c7, if_neg c8, if_pos c9]) _ (by have q := e_r15.symm; subst q; have q := e_g16.symm; subst q; simp only [if_neg c6, if_neg c7, if_neg c8, if_pos c9]) _ (by have q := e_r15.symm; subst q; have q := e_g16.symm; subst q; simp only [if_neg c6, if_neg c7, if_neg c8, if_pos c9]) _ (by have q := e_r15.symm; subst q; have q := e_g16.symm; subst q; simp only [if_neg c6, if_neg c7, if_neg c8, if_pos c9])
        · have hp := hp.1 c8
          refine r_aload_n C dX11_counted_94 4 rfl ?_
          refine r_iload_n C dX11_counted_95 2 rfl ?_
          refine r_iconst (v := 4) C dX11_counted_96 (by decide) ?_
          have h17 := hp
          refine r_callV (ci := 9) (wc := [[(o, .inr (9, [.ref aS, .ref aPast, .int known, .ref aSnap, .int kept, .ref aText, .int len, .int thr, .ref aOne, .ref aTwo, .ref aBoth, .ref aWord, .int cre, .ref aOpen, .ref aTimes, .ref aFar, .ref aQueue, .long hash]))], [(aS, .inl (cI, 335, .inl fS))], [(aOne, .inl (cI, 4, .inl g3))], [(aTwo, .inl (cI, 4, .inl fTwo))], [(aBoth, .inl (cI, 4, .inl fBoth))]]) (wr := []) (st := [.int 0]) C (m_X11_number l D cI cL cP cJ o aS aPast aSnap aText aOne aTwo aBoth aWord aOpen aTimes aFar aQueue known kept len thr cre hash fS g3 fTwo fBoth 0 4 h17) k_X11_number t_1147 [0, 1, 2, 3, 4] (show ([0, 1, 2, 3, 4] : List Nat).Perm (List.range 5) by decide) rfl rfl rfl (q0 := 0) rfl rfl rfl (Nat.le_of_ble_eq_true rfl) ⟨Nat.le_of_ble_eq_true rfl, Nat.le_of_ble_eq_true rfl⟩ ⟨Nat.zero_le _, Nat.zero_le _⟩ dX11_counted_97 (fun r18 wr18 hw18 => ?_)
          obtain ⟨e_r18, rfl⟩ := hw18
          obtain ⟨g19, e_g19⟩ : ∃ z : Nat → Int32, z = (F_X11_number fS g3 fTwo fBoth 0 4).2.1 := ⟨_, rfl⟩
          obtain ⟨g20, e_g20⟩ : ∃ z : Nat → Int32, z = (F_X11_number fS g3 fTwo fBoth 0 4).2.2.1 := ⟨_, rfl⟩
          obtain ⟨g21, e_g21⟩ : ∃ z : Nat → Int32, z = (F_X11_number fS g3 fTwo fBoth 0 4).2.2.2 := ⟨_, rfl⟩
          refine r_ws (I' := [[(o, .inr (9, [.ref aS, .ref aPast, .int known, .ref aSnap, .int kept, .ref aText, .int len, .int thr, .ref aOne, .ref aTwo, .ref aBoth, .ref aWord, .int cre, .ref aOpen, .ref aTimes, .ref aFar, .ref aQueue, .long hash]))], [(aS, .inl (cI, 335, .inl fS))], [(aOne, .inl (cI, 4, .inl g19))], [(aTwo, .inl (cI, 4, .inl g20))], [(aBoth, .inl (cI, 4, .inl g21))]]) (by rw [e_g19, e_g20, e_g21]; rfl) ?_
          refine r_goto (tgt := 143) C dX11_counted_100 (by decide) ?_
          exact K _ (by have q := e_r18.symm; subst q; have q := e_g19.symm; subst q; have q := e_g20.symm; subst q; have q := e_g21.symm; subst q; simp only [if_neg c6, if_neg c7, if_pos c8]) _ (by have q := e_r18.symm; subst q; have q := e_g19.symm; subst q; have q := e_g20.symm; subst q; have q := e_g21.symm; subst q; simp only [if_neg c6, if_neg c7, if_pos c8]) _ (by have q := e_r18.symm; subst q; have q := e_g19.symm; subst q; have q := e_g20.symm; subst q; have q := e_g21.symm; subst q; simp only [if_neg c6, if_neg c7, if_pos c8]) _ (by have q := e_r18.symm; subst q; have q := e_g19.symm; subst q; have q := e_g20.symm; subst q; have q := e_g21.symm; subst q; simp only [if_neg c6, if_neg c7, if_pos c8])
      · refine r_iload C dX11_counted_84 0 rfl ?_
        refine r_goto (tgt := 143) C dX11_counted_86 (by decide) ?_
        exact K _ (by simp only [if_neg c6, if_pos c7]) _ (by simp only [if_neg c6, if_pos c7]) _ (by simp only [if_neg c6, if_pos c7]) _ (by simp only [if_neg c6, if_pos c7])
    · have hp := hp.1 c6
      refine r_aload_n C dX11_counted_69 4 rfl ?_
      refine r_iload_n C dX11_counted_70 2 rfl ?_
      refine r_bipush (v := 6) C dX11_counted_71 (by decide) ?_
      have h22 := hp
      refine r_callV (ci := 9) (wc := [[(o, .inr (9, [.ref aS, .ref aPast, .int known, .ref aSnap, .int kept, .ref aText, .int len, .int thr, .ref aOne, .ref aTwo, .ref aBoth, .ref aWord, .int cre, .ref aOpen, .ref aTimes, .ref aFar, .ref aQueue, .long hash]))], [(aS, .inl (cI, 335, .inl fS))]]) (wr := [[(aOne, .inl (cI, 4, .inl g3))], [(aTwo, .inl (cI, 4, .inl fTwo))], [(aBoth, .inl (cI, 4, .inl fBoth))]]) (st := [.int 0]) C (m_X11_its l D cI cL cP cJ o aS aPast aSnap aText aOne aTwo aBoth aWord aOpen aTimes aFar aQueue known kept len thr cre hash fS 0 6 h22) k_X11_its t_966 [0, 1, 2, 3, 4] (show ([0, 1, 2, 3, 4] : List Nat).Perm (List.range 5) by decide) rfl rfl rfl (q0 := 0) rfl rfl rfl (Nat.le_of_ble_eq_true rfl) ⟨Nat.le_of_ble_eq_true rfl, Nat.le_of_ble_eq_true rfl⟩ ⟨Nat.zero_le _, Nat.zero_le _⟩ dX11_counted_73 (fun r23 wr23 hw23 => ?_)
      obtain ⟨e_r23, rfl⟩ := hw23
      refine r_ws (I' := [[(o, .inr (9, [.ref aS, .ref aPast, .int known, .ref aSnap, .int kept, .ref aText, .int len, .int thr, .ref aOne, .ref aTwo, .ref aBoth, .ref aWord, .int cre, .ref aOpen, .ref aTimes, .ref aFar, .ref aQueue, .long hash]))], [(aS, .inl (cI, 335, .inl fS))], [(aOne, .inl (cI, 4, .inl g3))], [(aTwo, .inl (cI, 4, .inl fTwo))], [(aBoth, .inl (cI, 4, .inl fBoth))]]) rfl ?_
      refine r_goto (tgt := 143) C dX11_counted_76 (by decide) ?_
      exact K _ (by have q := e_r23.symm; subst q; simp only [if_pos c6]) _ (by have q := e_r23.symm; subst q; simp only [if_pos c6]) _ (by have q := e_r23.symm; subst q; simp only [if_pos c6]) _ (by have q := e_r23.symm; subst q; simp only [if_pos c6])
  intro x24 e_x24 g25 e_g25 g26 e_g26 g27 e_g27
  have hp := hp x24 e_x24
  have hp := hp g25 e_g25
  have hp := hp g26 e_g26
  have hp := hp g27 e_g27
  refine r_iadd C dX11_counted_143 rfl ?_
  refine r_top (fun x28 e_x28 => ?_)
  have hp := hp x28 e_x28
  refine r_istore_n (L' := [(2, .int x28), (5, .int x5), (4, .int 1), (3, .int 0), (0, .ref o), (1, .int what)]) C dX11_counted_144 (by decide) rfl ?_
  refine r_iinc (v := 1) (L' := [(3, .int 1), (2, .int x28), (5, .int x5), (4, .int 1), (0, .ref o), (1, .int what)]) C dX11_counted_145 3 rfl (by decide) (by decide) rfl ?_
  refine r_goto (tgt := 4) C dX11_counted_148 (by decide) ?_
  refine r_iload_n C dX11_counted_4 0 rfl ?_
  refine r_iconst (v := 5) C dX11_counted_5 (by decide) ?_
  refine r_icmp_ge (tgt := 151) C dX11_counted_6 (by decide) (fun c => absurd c (by decide)) (fun _ => ?_)
  refine r_iconst (v := 1) C dX11_counted_9 (by decide) ?_
  refine r_istore (L' := [(4, .int 1), (3, .int 1), (2, .int x28), (5, .int x5), (0, .ref o), (1, .int what)]) C dX11_counted_10 (by decide) rfl ?_
  refine r_iconst (v := 0) C dX11_counted_12 (by decide) ?_
  refine r_istore (L' := [(5, .int 0), (4, .int 1), (3, .int 1), (2, .int x28), (0, .ref o), (1, .int what)]) C dX11_counted_13 (by decide) rfl ?_
  refine r_iload C dX11_counted_15 0 rfl ?_
  refine r_iload_n C dX11_counted_17 2 rfl ?_
  refine r_icmp_ge (tgt := 49) C dX11_counted_18 (by decide) (fun c => absurd c (by decide)) (fun _ => ?_)
  refine r_iload C dX11_counted_21 1 rfl ?_
  refine r_if_eq (tgt := 40) C dX11_counted_23 (by decide) (fun c => absurd c (by decide)) (fun _ => ?_)
  refine r_aload_n C dX11_counted_26 4 rfl ?_
  refine r_iload_n C dX11_counted_27 2 rfl ?_
  refine r_iload C dX11_counted_28 0 rfl ?_
  obtain ⟨h29, hp⟩ := hp
  refine r_callV (ci := 9) (wc := [[(o, .inr (9, [.ref aS, .ref aPast, .int known, .ref aSnap, .int kept, .ref aText, .int len, .int thr, .ref aOne, .ref aTwo, .ref aBoth, .ref aWord, .int cre, .ref aOpen, .ref aTimes, .ref aFar, .ref aQueue, .long hash]))], [(aS, .inl (cI, 335, .inl fS))]]) (wr := [[(aOne, .inl (cI, 4, .inl g25))], [(aTwo, .inl (cI, 4, .inl g26))], [(aBoth, .inl (cI, 4, .inl g27))]]) (st := []) C (m_X11_areAlike l D cI cL cP cJ o aS aPast aSnap aText aOne aTwo aBoth aWord aOpen aTimes aFar aQueue known kept len thr cre hash fS 1 0 h29) k_X11_areAlike t_1191 [0, 1, 2, 3, 4] (show ([0, 1, 2, 3, 4] : List Nat).Perm (List.range 5) by decide) rfl rfl rfl (q0 := 0) rfl rfl rfl (Nat.le_of_ble_eq_true rfl) ⟨Nat.le_of_ble_eq_true rfl, Nat.le_of_ble_eq_true rfl⟩ ⟨Nat.zero_le _, Nat.zero_le _⟩ dX11_counted_30 (fun r30 wr30 hw30 => ?_)
  obtain ⟨e_r30, rfl⟩ := hw30
  have hp := hp r30 e_r30
  refine r_ws (I' := [[(o, .inr (9, [.ref aS, .ref aPast, .int known, .ref aSnap, .int kept, .ref aText, .int len, .int thr, .ref aOne, .ref aTwo, .ref aBoth, .ref aWord, .int cre, .ref aOpen, .ref aTimes, .ref aFar, .ref aQueue, .long hash]))], [(aS, .inl (cI, 335, .inl fS))], [(aOne, .inl (cI, 4, .inl g25))], [(aTwo, .inl (cI, 4, .inl g26))], [(aBoth, .inl (cI, 4, .inl g27))]]) rfl ?_
  suffices K : ∀ x32 : Int32, x32 = ((if r30 = 0 then (1) else (0))) → V p l e (rmm 5 115) s m args below meth c 6 D A 0 0 Q [[(o, .inr (9, [.ref aS, .ref aPast, .int known, .ref aSnap, .int kept, .ref aText, .int len, .int thr, .ref aOne, .ref aTwo, .ref aBoth, .ref aWord, .int cre, .ref aOpen, .ref aTimes, .ref aFar, .ref aQueue, .long hash]))], [(aS, .inl (cI, 335, .inl fS))], [(aOne, .inl (cI, 4, .inl g25))], [(aTwo, .inl (cI, 4, .inl g26))], [(aBoth, .inl (cI, 4, .inl g27))]] [(5, .int 0), (4, .int 1), (3, .int 1), (2, .int x28), (0, .ref o), (1, .int what)] 41 [.int x32] by
    refine r_if_ne (tgt := 40) C dX11_counted_33 (by decide) (fun c31 => ?_) (fun c31 => ?_)
    · refine r_iconst (v := 0) C dX11_counted_40 (by decide) ?_
      exact K _ (by simp only [if_neg c31])
    · refine r_iconst (v := 1) C dX11_counted_36 (by decide) ?_
      refine r_goto (tgt := 41) C dX11_counted_37 (by decide) ?_
      exact K _ (by simp only [if_pos c31])
  intro x32 e_x32
  have hp := hp x32 e_x32
  refine r_istore (L' := [(4, .int x32), (5, .int 0), (3, .int 1), (2, .int x28), (0, .ref o), (1, .int what)]) C dX11_counted_41 (by decide) rfl ?_
  refine r_iinc (v := 1) (L' := [(5, .int 1), (4, .int x32), (3, .int 1), (2, .int x28), (0, .ref o), (1, .int what)]) C dX11_counted_43 1 rfl (by decide) (by decide) rfl ?_
  refine r_goto (tgt := 15) C dX11_counted_46 (by decide) ?_
  refine r_iload C dX11_counted_15 0 rfl ?_
  refine r_iload_n C dX11_counted_17 2 rfl ?_
  refine r_icmp_ge (tgt := 49) C dX11_counted_18 (by decide) (fun _ => ?_) (fun c => absurd c (by decide))
  refine r_aload_n C dX11_counted_49 4 rfl ?_
  refine r_iload_n C dX11_counted_50 2 rfl ?_
  obtain ⟨h33, hp⟩ := hp
  refine r_callV (ci := 9) (wc := [[(o, .inr (9, [.ref aS, .ref aPast, .int known, .ref aSnap, .int kept, .ref aText, .int len, .int thr, .ref aOne, .ref aTwo, .ref aBoth, .ref aWord, .int cre, .ref aOpen, .ref aTimes, .ref aFar, .ref aQueue, .long hash]))], [(aS, .inl (cI, 335, .inl fS))], [(aOne, .inl (cI, 4, .inl g25))]]) (wr := [[(aTwo, .inl (cI, 4, .inl g26))], [(aBoth, .inl (cI, 4, .inl g27))]]) (st := []) C (m_X11_lengthOf l D cI cL cP cJ o aS aPast aSnap aText aOne aTwo aBoth aWord aOpen aTimes aFar aQueue known kept len thr cre hash fS g25 1 h33) k_X11_lengthOf t_1002 [0, 1, 2, 3, 4] (show ([0, 1, 2, 3, 4] : List Nat).Perm (List.range 5) by decide) rfl rfl rfl (q0 := 0) rfl rfl rfl (Nat.le_of_ble_eq_true rfl) ⟨Nat.le_of_ble_eq_true rfl, Nat.le_of_ble_eq_true rfl⟩ ⟨Nat.zero_le _, Nat.zero_le _⟩ dX11_counted_51 (fun r34 wr34 hw34 => ?_)
  obtain ⟨e_r34, rfl⟩ := hw34
  have hp := hp r34 e_r34
  obtain ⟨g35, e_g35⟩ : ∃ z : Nat → Int32, z = (F_X11_lengthOf fS g25 1).2 := ⟨_, rfl⟩
  have hp := hp g35 e_g35
  refine r_ws (I' := [[(o, .inr (9, [.ref aS, .ref aPast, .int known, .ref aSnap, .int kept, .ref aText, .int len, .int thr, .ref aOne, .ref aTwo, .ref aBoth, .ref aWord, .int cre, .ref aOpen, .ref aTimes, .ref aFar, .ref aQueue, .long hash]))], [(aS, .inl (cI, 335, .inl fS))], [(aOne, .inl (cI, 4, .inl g35))], [(aTwo, .inl (cI, 4, .inl g26))], [(aBoth, .inl (cI, 4, .inl g27))]]) (by rw [e_g35]; rfl) ?_
  suffices K : ∀ x37 : Int32, x37 = ((if r34 = 0 then (1) else (0))) → V p l e (rmm 5 115) s m args below meth c 6 D A 0 0 Q [[(o, .inr (9, [.ref aS, .ref aPast, .int known, .ref aSnap, .int kept, .ref aText, .int len, .int thr, .ref aOne, .ref aTwo, .ref aBoth, .ref aWord, .int cre, .ref aOpen, .ref aTimes, .ref aFar, .ref aQueue, .long hash]))], [(aS, .inl (cI, 335, .inl fS))], [(aOne, .inl (cI, 4, .inl g35))], [(aTwo, .inl (cI, 4, .inl g26))], [(aBoth, .inl (cI, 4, .inl g27))]] [(5, .int 1), (4, .int x32), (3, .int 1), (2, .int x28), (0, .ref o), (1, .int what)] 62 [.int x37] by
    refine r_if_ne (tgt := 61) C dX11_counted_54 (by decide) (fun c36 => ?_) (fun c36 => ?_)
    · refine r_iconst (v := 0) C dX11_counted_61 (by decide) ?_
      exact K _ (by simp only [if_neg c36])
    · refine r_iconst (v := 1) C dX11_counted_57 (by decide) ?_
      refine r_goto (tgt := 62) C dX11_counted_58 (by decide) ?_
      exact K _ (by simp only [if_pos c36])
  intro x37 e_x37
  have hp := hp x37 e_x37
  refine r_istore (L' := [(5, .int x37), (4, .int x32), (3, .int 1), (2, .int x28), (0, .ref o), (1, .int what)]) C dX11_counted_62 (by decide) rfl ?_
  refine r_iload_n C dX11_counted_64 3 rfl ?_
  refine r_iload_n C dX11_counted_65 5 rfl ?_
  obtain ⟨hps, hp⟩ := hp
  suffices K : ∀ x57 : Int32, x57 = ((if what = 0 then (let r56 : Int32 := F_X11_its fS 1 6; r56) else ((if what = 1 then (x37) else ((if what = 2 then (let r51 : Int32 := (F_X11_number fS g35 g26 g27 1 4).1; r51) else ((if what = 3 then (let r48 : Int32 := (F_X11_lengthOf fS g35 1).1; r48) else ((if what = 4 then (let r45 : Int32 := F_X11_its fS 1 5; let r46 : Int32 := F_X11_ones r45; r46) else ((if x32 = 0 then (0) else (1))))))))))))) → ∀ g58 : Nat → Int32, g58 = ((if what = 0 then (g35) else ((if what = 1 then (g35) else ((if what = 2 then (let g52 : Nat → Int32 := (F_X11_number fS g35 g26 g27 1 4).2.1; g52) else ((if what = 3 then (let g49 : Nat → Int32 := (F_X11_lengthOf fS g35 1).2; g49) else ((if what = 4 then (g35) else ((if x32 = 0 then (g35) else (g35))))))))))))) → ∀ g59 : Nat → Int32, g59 = ((if what = 0 then (g26) else ((if what = 1 then (g26) else ((if what = 2 then (let g53 : Nat → Int32 := (F_X11_number fS g35 g26 g27 1 4).2.2.1; g53) else ((if what = 3 then (g26) else ((if what = 4 then (g26) else ((if x32 = 0 then (g26) else (g26))))))))))))) → ∀ g60 : Nat → Int32, g60 = ((if what = 0 then (g27) else ((if what = 1 then (g27) else ((if what = 2 then (let g54 : Nat → Int32 := (F_X11_number fS g35 g26 g27 1 4).2.2.2; g54) else ((if what = 3 then (g27) else ((if what = 4 then (g27) else ((if x32 = 0 then (g27) else (g27))))))))))))) → V p l e (rmm 5 115) s m args below meth c 6 D A 0 0 Q [[(o, .inr (9, [.ref aS, .ref aPast, .int known, .ref aSnap, .int kept, .ref aText, .int len, .int thr, .ref aOne, .ref aTwo, .ref aBoth, .ref aWord, .int cre, .ref aOpen, .ref aTimes, .ref aFar, .ref aQueue, .long hash]))], [(aS, .inl (cI, 335, .inl fS))], [(aOne, .inl (cI, 4, .inl g58))], [(aTwo, .inl (cI, 4, .inl g59))], [(aBoth, .inl (cI, 4, .inl g60))]] [(5, .int x37), (4, .int x32), (3, .int 1), (2, .int x28), (0, .ref o), (1, .int what)] 143 [.int x57, .int x28] by
    have hp := hps
    refine r_if_ne (tgt := 79) C dX11_counted_66 (by decide) (fun c38 => ?_) (fun c38 => ?_)
    · have hp := hp.2 c38
      refine r_iload_n C dX11_counted_79 5 rfl ?_
      refine r_iconst (v := 1) C dX11_counted_80 (by decide) ?_
      refine r_icmp_ne (tgt := 89) C dX11_counted_81 (by decide) (fun c39 => ?_) (fun c39 => ?_)
      · have hp := hp.2 c39
        refine r_iload_n C dX11_counted_89 5 rfl ?_
        refine r_iconst (v := 2) C dX11_counted_90 (by decide) ?_
        refine r_icmp_ne (tgt := 103) C dX11_counted_91 (by decide) (fun c40 => ?_) (fun c40 => ?_)
        · have hp := hp.2 c40
          refine r_iload_n C dX11_counted_103 5 rfl ?_
          refine r_iconst (v := 3) C dX11_counted_104 (by decide) ?_
          refine r_icmp_ne (tgt := 116) C dX11_counted_105 (by decide) (fun c41 => ?_) (fun c41 => ?_)
          · have hp := hp.2 c41
            refine r_iload_n C dX11_counted_116 5 rfl ?_
            refine r_iconst (v := 4) C dX11_counted_117 (by decide) ?_
            refine r_icmp_ne (tgt := 133) C dX11_counted_118 (by decide) (fun c42 => ?_) (fun c42 => ?_)
            · refine r_iload C dX11_counted_133 1 rfl ?_
              refine r_if_eq (tgt := 142) C dX11_counted_135 (by decide) (fun c43 => ?_) (fun c43 => ?_)
              · refine r_iconst (v := 0) C dX11_counted_142 (by decide) ?_
                exact K _ (by simp only [if_neg c38, if_neg c39, if_neg c40, if_neg c41, if_neg c42, if_pos c43]) _ (by simp only [if_neg c38, if_neg c39, if_neg c40, if_neg c41, if_neg c42, if_pos c43]) _ (by simp only [if_neg c38, if_neg c39, if_neg c40, if_neg c41, if_neg c42, if_pos c43]) _ (by simp only [if_neg c38, if_neg c39, if_neg c40, if_neg c41, if_neg c42, if_pos c43])
              · refine r_iconst (v := 1) C dX11_counted_138 (by decide) ?_
                refine r_goto (tgt := 143) C dX11_counted_139 (by decide) ?_
                exact K _ (by simp only [if_neg c38, if_neg c39, if_neg c40, if_neg c41, if_neg c42, if_neg c43]) _ (by simp only [if_neg c38, if_neg c39, if_neg c40, if_neg c41, if_neg c42, if_neg c43]) _ (by simp only [if_neg c38, if_neg c39, if_neg c40, if_neg c41, if_neg c42, if_neg c43]) _ (by simp only [if_neg c38, if_neg c39, if_neg c40, if_neg c41, if_neg c42, if_neg c43])
            · have hp := hp.1 c42
              refine r_aload_n C dX11_counted_121 4 rfl ?_
              refine r_iload_n C dX11_counted_122 2 rfl ?_
              refine r_iconst (v := 5) C dX11_counted_123 (by decide) ?_
              have h44 := hp
              refine r_callV (ci := 9) (wc := [[(o, .inr (9, [.ref aS, .ref aPast, .int known, .ref aSnap, .int kept, .ref aText, .int len, .int thr, .ref aOne, .ref aTwo, .ref aBoth, .ref aWord, .int cre, .ref aOpen, .ref aTimes, .ref aFar, .ref aQueue, .long hash]))], [(aS, .inl (cI, 335, .inl fS))]]) (wr := [[(aOne, .inl (cI, 4, .inl g35))], [(aTwo, .inl (cI, 4, .inl g26))], [(aBoth, .inl (cI, 4, .inl g27))]]) (st := [.int x28]) C (m_X11_its l D cI cL cP cJ o aS aPast aSnap aText aOne aTwo aBoth aWord aOpen aTimes aFar aQueue known kept len thr cre hash fS 1 5 h44) k_X11_its t_966 [0, 1, 2, 3, 4] (show ([0, 1, 2, 3, 4] : List Nat).Perm (List.range 5) by decide) rfl rfl rfl (q0 := 0) rfl rfl rfl (Nat.le_of_ble_eq_true rfl) ⟨Nat.le_of_ble_eq_true rfl, Nat.le_of_ble_eq_true rfl⟩ ⟨Nat.zero_le _, Nat.zero_le _⟩ dX11_counted_124 (fun r45 wr45 hw45 => ?_)
              obtain ⟨e_r45, rfl⟩ := hw45
              refine r_ws (I' := [[(o, .inr (9, [.ref aS, .ref aPast, .int known, .ref aSnap, .int kept, .ref aText, .int len, .int thr, .ref aOne, .ref aTwo, .ref aBoth, .ref aWord, .int cre, .ref aOpen, .ref aTimes, .ref aFar, .ref aQueue, .long hash]))], [(aS, .inl (cI, 335, .inl fS))], [(aOne, .inl (cI, 4, .inl g35))], [(aTwo, .inl (cI, 4, .inl g26))], [(aBoth, .inl (cI, 4, .inl g27))]]) rfl ?_
              refine r_callS (wc := []) (wr := [[(o, .inr (9, [.ref aS, .ref aPast, .int known, .ref aSnap, .int kept, .ref aText, .int len, .int thr, .ref aOne, .ref aTwo, .ref aBoth, .ref aWord, .int cre, .ref aOpen, .ref aTimes, .ref aFar, .ref aQueue, .long hash]))], [(aS, .inl (cI, 335, .inl fS))], [(aOne, .inl (cI, 4, .inl g35))], [(aTwo, .inl (cI, 4, .inl g26))], [(aBoth, .inl (cI, 4, .inl g27))]]) (st := [.int x28]) C (m_X11_ones l D cI cL cP cJ r45) k_X11_ones t_1072 [0, 1, 2, 3, 4] (show ([0, 1, 2, 3, 4] : List Nat).Perm (List.range 5) by decide) rfl rfl rfl (Nat.le_of_ble_eq_true rfl) ⟨Nat.le_of_ble_eq_true rfl, Nat.le_of_ble_eq_true rfl⟩ ⟨Nat.zero_le _, Nat.zero_le _⟩ dX11_counted_127 (fun r46 wr46 hw46 => ?_)
              obtain ⟨e_r46, rfl⟩ := hw46
              refine r_ws (I' := [[(o, .inr (9, [.ref aS, .ref aPast, .int known, .ref aSnap, .int kept, .ref aText, .int len, .int thr, .ref aOne, .ref aTwo, .ref aBoth, .ref aWord, .int cre, .ref aOpen, .ref aTimes, .ref aFar, .ref aQueue, .long hash]))], [(aS, .inl (cI, 335, .inl fS))], [(aOne, .inl (cI, 4, .inl g35))], [(aTwo, .inl (cI, 4, .inl g26))], [(aBoth, .inl (cI, 4, .inl g27))]]) rfl ?_
              refine r_goto (tgt := 143) C dX11_counted_130 (by decide) ?_
              exact K _ (by have q := e_r45.symm; subst q; have q := e_r46.symm; subst q; simp only [if_neg c38, if_neg c39, if_neg c40, if_neg c41, if_pos c42]) _ (by have q := e_r45.symm; subst q; have q := e_r46.symm; subst q; simp only [if_neg c38, if_neg c39, if_neg c40, if_neg c41, if_pos c42]) _ (by have q := e_r45.symm; subst q; have q := e_r46.symm; subst q; simp only [if_neg c38, if_neg c39, if_neg c40, if_neg c41, if_pos c42]) _ (by have q := e_r45.symm; subst q; have q := e_r46.symm; subst q; simp only [if_neg c38, if_neg c39, if_neg c40, if_neg c41, if_pos c42])
          · have hp := hp.1 c41
            refine r_aload_n C dX11_counted_108 4 rfl ?_
            refine r_iload_n C dX11_counted_109 2 rfl ?_
            have h47 := hp
            refine r_callV (ci := 9) (wc := [[(o, .inr (9, [.ref aS, .ref aPast, .int known, .ref aSnap, .int kept, .ref aText, .int len, .int thr, .ref aOne, .ref aTwo, .ref aBoth, .ref aWord, .int cre, .ref aOpen, .ref aTimes, .ref aFar, .ref aQueue, .long hash]))], [(aS, .inl (cI, 335, .inl fS))], [(aOne, .inl (cI, 4, .inl g35))]]) (wr := [[(aTwo, .inl (cI, 4, .inl g26))], [(aBoth, .inl (cI, 4, .inl g27))]]) (st := [.int x28]) C (m_X11_lengthOf l D cI cL cP cJ o aS aPast aSnap aText aOne aTwo aBoth aWord aOpen aTimes aFar aQueue known kept len thr cre hash fS g35 1 h47) k_X11_lengthOf t_1002 [0, 1, 2, 3, 4] (show ([0, 1, 2, 3, 4] : List Nat).Perm (List.range 5) by decide) rfl rfl rfl (q0 := 0) rfl rfl rfl (Nat.le_of_ble_eq_true rfl) ⟨Nat.le_of_ble_eq_true rfl, Nat.le_of_ble_eq_true rfl⟩ ⟨Nat.zero_le _, Nat.zero_le _⟩ dX11_counted_110 (fun r48 wr48 hw48 => ?_)
            obtain ⟨e_r48, rfl⟩ := hw48
            obtain ⟨g49, e_g49⟩ : ∃ z : Nat → Int32, z = (F_X11_lengthOf fS g35 1).2 := ⟨_, rfl⟩
            refine r_ws (I' := [[(o, .inr (9, [.ref aS, .ref aPast, .int known, .ref aSnap, .int kept, .ref aText, .int len, .int thr, .ref aOne, .ref aTwo, .ref aBoth, .ref aWord, .int cre, .ref aOpen, .ref aTimes, .ref aFar, .ref aQueue, .long hash]))], [(aS, .inl (cI, 335, .inl fS))], [(aOne, .inl (cI, 4, .inl g49))], [(aTwo, .inl (cI, 4, .inl g26))], [(aBoth, .inl (cI, 4, .inl g27))]]) (by rw [e_g49]; rfl) ?_
            refine r_goto (tgt := 143) C dX11_counted_113 (by decide) ?_
            exact K _ (by have q := e_r48.symm; subst q; have q := e_g49.symm; subst q; simp only [if_neg c38, if_neg c39, if_neg c40, if_pos c41]) _ (by have q := e_r48.symm; subst q; have q := e_g49.symm; subst q; simp only [if_neg c38, if_neg c39, if_neg c40, if_pos c41]) _ (by have q := e_r48.symm; subst q; have q := e_g49.symm; subst q; simp only [if_neg c38, if_neg c39, if_neg c40, if_pos c41]) _ (by have q := e_r48.symm; subst q; have q := e_g49.symm; subst q; simp only [if_neg c38, if_neg c39, if_neg c40, if_pos c41])
        · have hp := hp.1 c40
          refine r_aload_n C dX11_counted_94 4 rfl ?_
          refine r_iload_n C dX11_counted_95 2 rfl ?_
          refine r_iconst (v := 4) C dX11_counted_96 (by decide) ?_
          have h50 := hp
          refine r_callV (ci := 9) (wc := [[(o, .inr (9, [.ref aS, .ref aPast, .int known, .ref aSnap, .int kept, .ref aText, .int len, .int thr, .ref aOne, .ref aTwo, .ref aBoth, .ref aWord, .int cre, .ref aOpen, .ref aTimes, .ref aFar, .ref aQueue, .long hash]))], [(aS, .inl (cI, 335, .inl fS))], [(aOne, .inl (cI, 4, .inl g35))], [(aTwo, .inl (cI, 4, .inl g26))], [(aBoth, .inl (cI, 4, .inl g27))]]) (wr := []) (st := [.int x28]) C (m_X11_number l D cI cL cP cJ o aS aPast aSnap aText aOne aTwo aBoth aWord aOpen aTimes aFar aQueue known kept len thr cre hash fS g35 g26 g27 1 4 h50) k_X11_number t_1147 [0, 1, 2, 3, 4] (show ([0, 1, 2, 3, 4] : List Nat).Perm (List.range 5) by decide) rfl rfl rfl (q0 := 0) rfl rfl rfl (Nat.le_of_ble_eq_true rfl) ⟨Nat.le_of_ble_eq_true rfl, Nat.le_of_ble_eq_true rfl⟩ ⟨Nat.zero_le _, Nat.zero_le _⟩ dX11_counted_97 (fun r51 wr51 hw51 => ?_)
          obtain ⟨e_r51, rfl⟩ := hw51
          obtain ⟨g52, e_g52⟩ : ∃ z : Nat → Int32, z = (F_X11_number fS g35 g26 g27 1 4).2.1 := ⟨_, rfl⟩
          obtain ⟨g53, e_g53⟩ : ∃ z : Nat → Int32, z = (F_X11_number fS g35 g26 g27 1 4).2.2.1 := ⟨_, rfl⟩
          obtain ⟨g54, e_g54⟩ : ∃ z : Nat → Int32, z = (F_X11_number fS g35 g26 g27 1 4).2.2.2 := ⟨_, rfl⟩
          refine r_ws (I' := [[(o, .inr (9, [.ref aS, .ref aPast, .int known, .ref aSnap, .int kept, .ref aText, .int len, .int thr, .ref aOne, .ref aTwo, .ref aBoth, .ref aWord, .int cre, .ref aOpen, .ref aTimes, .ref aFar, .ref aQueue, .long hash]))], [(aS, .inl (cI, 335, .inl fS))], [(aOne, .inl (cI, 4, .inl g52))], [(aTwo, .inl (cI, 4, .inl g53))], [(aBoth, .inl (cI, 4, .inl g54))]]) (by rw [e_g52, e_g53, e_g54]; rfl) ?_
          refine r_goto (tgt := 143) C dX11_counted_100 (by decide) ?_
          exact K _ (by have q := e_r51.symm; subst q; have q := e_g52.symm; subst q; have q := e_g53.symm; subst q; have q := e_g54.symm; subst q; simp only [if_neg c38, if_neg c39, if_pos c40]) _ (by have q := e_r51.symm; subst q; have q := e_g52.symm; subst q; have q := e_g53.symm; subst q; have q := e_g54.symm; subst q; simp only [if_neg c38, if_neg c39, if_pos c40]) _ (by have q := e_r51.symm; subst q; have q := e_g52.symm; subst q; have q := e_g53.symm; subst q; have q := e_g54.symm; subst q; simp only [if_neg c38, if_neg c39, if_pos c40]) _ (by have q := e_r51.symm; subst q; have q := e_g52.symm; subst q; have q := e_g53.symm; subst q; have q := e_g54.symm; subst q; simp only [if_neg c38, if_neg c39, if_pos c40])
      · refine r_iload C dX11_counted_84 0 rfl ?_
        refine r_goto (tgt := 143) C dX11_counted_86 (by decide) ?_
        exact K _ (by simp only [if_neg c38, if_pos c39]) _ (by simp only [if_neg c38, if_pos c39]) _ (by simp only [if_neg c38, if_pos c39]) _ (by simp only [if_neg c38, if_pos c39])
    · have hp := hp.1 c38
      refine r_aload_n C dX11_counted_69 4 rfl ?_
      refine r_iload_n C dX11_counted_70 2 rfl ?_
      refine r_bipush (v := 6) C dX11_counted_71 (by decide) ?_
      have h55 := hp
      refine r_callV (ci := 9) (wc := [[(o, .inr (9, [.ref aS, .ref aPast, .int known, .ref aSnap, .int kept, .ref aText, .int len, .int thr, .ref aOne, .ref aTwo, .ref aBoth, .ref aWord, .int cre, .ref aOpen, .ref aTimes, .ref aFar, .ref aQueue, .long hash]))], [(aS, .inl (cI, 335, .inl fS))]]) (wr := [[(aOne, .inl (cI, 4, .inl g35))], [(aTwo, .inl (cI, 4, .inl g26))], [(aBoth, .inl (cI, 4, .inl g27))]]) (st := [.int x28]) C (m_X11_its l D cI cL cP cJ o aS aPast aSnap aText aOne aTwo aBoth aWord aOpen aTimes aFar aQueue known kept len thr cre hash fS 1 6 h55) k_X11_its t_966 [0, 1, 2, 3, 4] (show ([0, 1, 2, 3, 4] : List Nat).Perm (List.range 5) by decide) rfl rfl rfl (q0 := 0) rfl rfl rfl (Nat.le_of_ble_eq_true rfl) ⟨Nat.le_of_ble_eq_true rfl, Nat.le_of_ble_eq_true rfl⟩ ⟨Nat.zero_le _, Nat.zero_le _⟩ dX11_counted_73 (fun r56 wr56 hw56 => ?_)
      obtain ⟨e_r56, rfl⟩ := hw56
      refine r_ws (I' := [[(o, .inr (9, [.ref aS, .ref aPast, .int known, .ref aSnap, .int kept, .ref aText, .int len, .int thr, .ref aOne, .ref aTwo, .ref aBoth, .ref aWord, .int cre, .ref aOpen, .ref aTimes, .ref aFar, .ref aQueue, .long hash]))], [(aS, .inl (cI, 335, .inl fS))], [(aOne, .inl (cI, 4, .inl g35))], [(aTwo, .inl (cI, 4, .inl g26))], [(aBoth, .inl (cI, 4, .inl g27))]]) rfl ?_
      refine r_goto (tgt := 143) C dX11_counted_76 (by decide) ?_
      exact K _ (by have q := e_r56.symm; subst q; simp only [if_pos c38]) _ (by have q := e_r56.symm; subst q; simp only [if_pos c38]) _ (by have q := e_r56.symm; subst q; simp only [if_pos c38]) _ (by have q := e_r56.symm; subst q; simp only [if_pos c38])
  intro x57 e_x57 g58 e_g58 g59 e_g59 g60 e_g60
  have hp := hp x57 e_x57
  have hp := hp g58 e_g58
  have hp := hp g59 e_g59
  have hp := hp g60 e_g60
  refine r_iadd C dX11_counted_143 rfl ?_
  refine r_top (fun x61 e_x61 => ?_)
  have hp := hp x61 e_x61
  refine r_istore_n (L' := [(2, .int x61), (5, .int x37), (4, .int x32), (3, .int 1), (0, .ref o), (1, .int what)]) C dX11_counted_144 (by decide) rfl ?_
  refine r_iinc (v := 2) (L' := [(3, .int 2), (2, .int x61), (5, .int x37), (4, .int x32), (0, .ref o), (1, .int what)]) C dX11_counted_145 3 rfl (by decide) (by decide) rfl ?_
  refine r_goto (tgt := 4) C dX11_counted_148 (by decide) ?_
  refine r_iload_n C dX11_counted_4 0 rfl ?_
  refine r_iconst (v := 5) C dX11_counted_5 (by decide) ?_
  refine r_icmp_ge (tgt := 151) C dX11_counted_6 (by decide) (fun c => absurd c (by decide)) (fun _ => ?_)
  refine r_iconst (v := 1) C dX11_counted_9 (by decide) ?_
  refine r_istore (L' := [(4, .int 1), (3, .int 2), (2, .int x61), (5, .int x37), (0, .ref o), (1, .int what)]) C dX11_counted_10 (by decide) rfl ?_
  refine r_iconst (v := 0) C dX11_counted_12 (by decide) ?_
  refine r_istore (L' := [(5, .int 0), (4, .int 1), (3, .int 2), (2, .int x61), (0, .ref o), (1, .int what)]) C dX11_counted_13 (by decide) rfl ?_
  refine r_iload C dX11_counted_15 0 rfl ?_
  refine r_iload_n C dX11_counted_17 2 rfl ?_
  refine r_icmp_ge (tgt := 49) C dX11_counted_18 (by decide) (fun c => absurd c (by decide)) (fun _ => ?_)
  refine r_iload C dX11_counted_21 1 rfl ?_
  refine r_if_eq (tgt := 40) C dX11_counted_23 (by decide) (fun c => absurd c (by decide)) (fun _ => ?_)
  refine r_aload_n C dX11_counted_26 4 rfl ?_
  refine r_iload_n C dX11_counted_27 2 rfl ?_
  refine r_iload C dX11_counted_28 0 rfl ?_
  obtain ⟨h62, hp⟩ := hp
  refine r_callV (ci := 9) (wc := [[(o, .inr (9, [.ref aS, .ref aPast, .int known, .ref aSnap, .int kept, .ref aText, .int len, .int thr, .ref aOne, .ref aTwo, .ref aBoth, .ref aWord, .int cre, .ref aOpen, .ref aTimes, .ref aFar, .ref aQueue, .long hash]))], [(aS, .inl (cI, 335, .inl fS))]]) (wr := [[(aOne, .inl (cI, 4, .inl g58))], [(aTwo, .inl (cI, 4, .inl g59))], [(aBoth, .inl (cI, 4, .inl g60))]]) (st := []) C (m_X11_areAlike l D cI cL cP cJ o aS aPast aSnap aText aOne aTwo aBoth aWord aOpen aTimes aFar aQueue known kept len thr cre hash fS 2 0 h62) k_X11_areAlike t_1191 [0, 1, 2, 3, 4] (show ([0, 1, 2, 3, 4] : List Nat).Perm (List.range 5) by decide) rfl rfl rfl (q0 := 0) rfl rfl rfl (Nat.le_of_ble_eq_true rfl) ⟨Nat.le_of_ble_eq_true rfl, Nat.le_of_ble_eq_true rfl⟩ ⟨Nat.zero_le _, Nat.zero_le _⟩ dX11_counted_30 (fun r63 wr63 hw63 => ?_)
  obtain ⟨e_r63, rfl⟩ := hw63
  have hp := hp r63 e_r63
  refine r_ws (I' := [[(o, .inr (9, [.ref aS, .ref aPast, .int known, .ref aSnap, .int kept, .ref aText, .int len, .int thr, .ref aOne, .ref aTwo, .ref aBoth, .ref aWord, .int cre, .ref aOpen, .ref aTimes, .ref aFar, .ref aQueue, .long hash]))], [(aS, .inl (cI, 335, .inl fS))], [(aOne, .inl (cI, 4, .inl g58))], [(aTwo, .inl (cI, 4, .inl g59))], [(aBoth, .inl (cI, 4, .inl g60))]]) rfl ?_
  suffices K : ∀ x65 : Int32, x65 = ((if r63 = 0 then (1) else (0))) → V p l e (rmm 5 115) s m args below meth c 6 D A 0 0 Q [[(o, .inr (9, [.ref aS, .ref aPast, .int known, .ref aSnap, .int kept, .ref aText, .int len, .int thr, .ref aOne, .ref aTwo, .ref aBoth, .ref aWord, .int cre, .ref aOpen, .ref aTimes, .ref aFar, .ref aQueue, .long hash]))], [(aS, .inl (cI, 335, .inl fS))], [(aOne, .inl (cI, 4, .inl g58))], [(aTwo, .inl (cI, 4, .inl g59))], [(aBoth, .inl (cI, 4, .inl g60))]] [(5, .int 0), (4, .int 1), (3, .int 2), (2, .int x61), (0, .ref o), (1, .int what)] 41 [.int x65] by
    refine r_if_ne (tgt := 40) C dX11_counted_33 (by decide) (fun c64 => ?_) (fun c64 => ?_)
    · refine r_iconst (v := 0) C dX11_counted_40 (by decide) ?_
      exact K _ (by simp only [if_neg c64])
    · refine r_iconst (v := 1) C dX11_counted_36 (by decide) ?_
      refine r_goto (tgt := 41) C dX11_counted_37 (by decide) ?_
      exact K _ (by simp only [if_pos c64])
  intro x65 e_x65
  have hp := hp x65 e_x65
  refine r_istore (L' := [(4, .int x65), (5, .int 0), (3, .int 2), (2, .int x61), (0, .ref o), (1, .int what)]) C dX11_counted_41 (by decide) rfl ?_
  refine r_iinc (v := 1) (L' := [(5, .int 1), (4, .int x65), (3, .int 2), (2, .int x61), (0, .ref o), (1, .int what)]) C dX11_counted_43 1 rfl (by decide) (by decide) rfl ?_
  refine r_goto (tgt := 15) C dX11_counted_46 (by decide) ?_
  refine r_iload C dX11_counted_15 0 rfl ?_
  refine r_iload_n C dX11_counted_17 2 rfl ?_
  refine r_icmp_ge (tgt := 49) C dX11_counted_18 (by decide) (fun c => absurd c (by decide)) (fun _ => ?_)
  refine r_iload C dX11_counted_21 1 rfl ?_
  obtain ⟨hps, hp⟩ := hp
  suffices K : ∀ x70 : Int32, x70 = ((if x65 = 0 then (0) else (let r68 : Int32 := F_X11_areAlike fS 2 1; (if r68 = 0 then (1) else (0))))) → V p l e (rmm 5 115) s m args below meth c 6 D A 0 0 Q [[(o, .inr (9, [.ref aS, .ref aPast, .int known, .ref aSnap, .int kept, .ref aText, .int len, .int thr, .ref aOne, .ref aTwo, .ref aBoth, .ref aWord, .int cre, .ref aOpen, .ref aTimes, .ref aFar, .ref aQueue, .long hash]))], [(aS, .inl (cI, 335, .inl fS))], [(aOne, .inl (cI, 4, .inl g58))], [(aTwo, .inl (cI, 4, .inl g59))], [(aBoth, .inl (cI, 4, .inl g60))]] [(5, .int 1), (4, .int x65), (3, .int 2), (2, .int x61), (0, .ref o), (1, .int what)] 41 [.int x70] by
    have hp := hps
    refine r_if_eq (tgt := 40) C dX11_counted_23 (by decide) (fun c66 => ?_) (fun c66 => ?_)
    · refine r_iconst (v := 0) C dX11_counted_40 (by decide) ?_
      exact K _ (by simp only [if_pos c66])
    · have hp := hp.2 c66
      refine r_aload_n C dX11_counted_26 4 rfl ?_
      refine r_iload_n C dX11_counted_27 2 rfl ?_
      refine r_iload C dX11_counted_28 0 rfl ?_
      have h67 := hp
      refine r_callV (ci := 9) (wc := [[(o, .inr (9, [.ref aS, .ref aPast, .int known, .ref aSnap, .int kept, .ref aText, .int len, .int thr, .ref aOne, .ref aTwo, .ref aBoth, .ref aWord, .int cre, .ref aOpen, .ref aTimes, .ref aFar, .ref aQueue, .long hash]))], [(aS, .inl (cI, 335, .inl fS))]]) (wr := [[(aOne, .inl (cI, 4, .inl g58))], [(aTwo, .inl (cI, 4, .inl g59))], [(aBoth, .inl (cI, 4, .inl g60))]]) (st := []) C (m_X11_areAlike l D cI cL cP cJ o aS aPast aSnap aText aOne aTwo aBoth aWord aOpen aTimes aFar aQueue known kept len thr cre hash fS 2 1 h67) k_X11_areAlike t_1191 [0, 1, 2, 3, 4] (show ([0, 1, 2, 3, 4] : List Nat).Perm (List.range 5) by decide) rfl rfl rfl (q0 := 0) rfl rfl rfl (Nat.le_of_ble_eq_true rfl) ⟨Nat.le_of_ble_eq_true rfl, Nat.le_of_ble_eq_true rfl⟩ ⟨Nat.zero_le _, Nat.zero_le _⟩ dX11_counted_30 (fun r68 wr68 hw68 => ?_)
      obtain ⟨e_r68, rfl⟩ := hw68
      refine r_ws (I' := [[(o, .inr (9, [.ref aS, .ref aPast, .int known, .ref aSnap, .int kept, .ref aText, .int len, .int thr, .ref aOne, .ref aTwo, .ref aBoth, .ref aWord, .int cre, .ref aOpen, .ref aTimes, .ref aFar, .ref aQueue, .long hash]))], [(aS, .inl (cI, 335, .inl fS))], [(aOne, .inl (cI, 4, .inl g58))], [(aTwo, .inl (cI, 4, .inl g59))], [(aBoth, .inl (cI, 4, .inl g60))]]) rfl ?_
      refine r_if_ne (tgt := 40) C dX11_counted_33 (by decide) (fun c69 => ?_) (fun c69 => ?_)
      · refine r_iconst (v := 0) C dX11_counted_40 (by decide) ?_
        exact K _ (by have q := e_r68.symm; subst q; simp only [if_neg c66, if_neg c69])
      · refine r_iconst (v := 1) C dX11_counted_36 (by decide) ?_
        refine r_goto (tgt := 41) C dX11_counted_37 (by decide) ?_
        exact K _ (by have q := e_r68.symm; subst q; simp only [if_neg c66, if_pos c69])
  intro x70 e_x70
  have hp := hp x70 e_x70
  refine r_istore (L' := [(4, .int x70), (5, .int 1), (3, .int 2), (2, .int x61), (0, .ref o), (1, .int what)]) C dX11_counted_41 (by decide) rfl ?_
  refine r_iinc (v := 2) (L' := [(5, .int 2), (4, .int x70), (3, .int 2), (2, .int x61), (0, .ref o), (1, .int what)]) C dX11_counted_43 1 rfl (by decide) (by decide) rfl ?_
  refine r_goto (tgt := 15) C dX11_counted_46 (by decide) ?_
  refine r_iload C dX11_counted_15 0 rfl ?_
  refine r_iload_n C dX11_counted_17 2 rfl ?_
  refine r_icmp_ge (tgt := 49) C dX11_counted_18 (by decide) (fun _ => ?_) (fun c => absurd c (by decide))
  refine r_aload_n C dX11_counted_49 4 rfl ?_
  refine r_iload_n C dX11_counted_50 2 rfl ?_
  obtain ⟨h71, hp⟩ := hp
  refine r_callV (ci := 9) (wc := [[(o, .inr (9, [.ref aS, .ref aPast, .int known, .ref aSnap, .int kept, .ref aText, .int len, .int thr, .ref aOne, .ref aTwo, .ref aBoth, .ref aWord, .int cre, .ref aOpen, .ref aTimes, .ref aFar, .ref aQueue, .long hash]))], [(aS, .inl (cI, 335, .inl fS))], [(aOne, .inl (cI, 4, .inl g58))]]) (wr := [[(aTwo, .inl (cI, 4, .inl g59))], [(aBoth, .inl (cI, 4, .inl g60))]]) (st := []) C (m_X11_lengthOf l D cI cL cP cJ o aS aPast aSnap aText aOne aTwo aBoth aWord aOpen aTimes aFar aQueue known kept len thr cre hash fS g58 2 h71) k_X11_lengthOf t_1002 [0, 1, 2, 3, 4] (show ([0, 1, 2, 3, 4] : List Nat).Perm (List.range 5) by decide) rfl rfl rfl (q0 := 0) rfl rfl rfl (Nat.le_of_ble_eq_true rfl) ⟨Nat.le_of_ble_eq_true rfl, Nat.le_of_ble_eq_true rfl⟩ ⟨Nat.zero_le _, Nat.zero_le _⟩ dX11_counted_51 (fun r72 wr72 hw72 => ?_)
  obtain ⟨e_r72, rfl⟩ := hw72
  have hp := hp r72 e_r72
  obtain ⟨g73, e_g73⟩ : ∃ z : Nat → Int32, z = (F_X11_lengthOf fS g58 2).2 := ⟨_, rfl⟩
  have hp := hp g73 e_g73
  refine r_ws (I' := [[(o, .inr (9, [.ref aS, .ref aPast, .int known, .ref aSnap, .int kept, .ref aText, .int len, .int thr, .ref aOne, .ref aTwo, .ref aBoth, .ref aWord, .int cre, .ref aOpen, .ref aTimes, .ref aFar, .ref aQueue, .long hash]))], [(aS, .inl (cI, 335, .inl fS))], [(aOne, .inl (cI, 4, .inl g73))], [(aTwo, .inl (cI, 4, .inl g59))], [(aBoth, .inl (cI, 4, .inl g60))]]) (by rw [e_g73]; rfl) ?_
  suffices K : ∀ x75 : Int32, x75 = ((if r72 = 0 then (1) else (0))) → V p l e (rmm 5 115) s m args below meth c 6 D A 0 0 Q [[(o, .inr (9, [.ref aS, .ref aPast, .int known, .ref aSnap, .int kept, .ref aText, .int len, .int thr, .ref aOne, .ref aTwo, .ref aBoth, .ref aWord, .int cre, .ref aOpen, .ref aTimes, .ref aFar, .ref aQueue, .long hash]))], [(aS, .inl (cI, 335, .inl fS))], [(aOne, .inl (cI, 4, .inl g73))], [(aTwo, .inl (cI, 4, .inl g59))], [(aBoth, .inl (cI, 4, .inl g60))]] [(5, .int 2), (4, .int x70), (3, .int 2), (2, .int x61), (0, .ref o), (1, .int what)] 62 [.int x75] by
    refine r_if_ne (tgt := 61) C dX11_counted_54 (by decide) (fun c74 => ?_) (fun c74 => ?_)
    · refine r_iconst (v := 0) C dX11_counted_61 (by decide) ?_
      exact K _ (by simp only [if_neg c74])
    · refine r_iconst (v := 1) C dX11_counted_57 (by decide) ?_
      refine r_goto (tgt := 62) C dX11_counted_58 (by decide) ?_
      exact K _ (by simp only [if_pos c74])
  intro x75 e_x75
  have hp := hp x75 e_x75
  refine r_istore (L' := [(5, .int x75), (4, .int x70), (3, .int 2), (2, .int x61), (0, .ref o), (1, .int what)]) C dX11_counted_62 (by decide) rfl ?_
  refine r_iload_n C dX11_counted_64 3 rfl ?_
  refine r_iload_n C dX11_counted_65 5 rfl ?_
  obtain ⟨hps, hp⟩ := hp
  suffices K : ∀ x95 : Int32, x95 = ((if what = 0 then (let r94 : Int32 := F_X11_its fS 2 6; r94) else ((if what = 1 then (x75) else ((if what = 2 then (let r89 : Int32 := (F_X11_number fS g73 g59 g60 2 4).1; r89) else ((if what = 3 then (let r86 : Int32 := (F_X11_lengthOf fS g73 2).1; r86) else ((if what = 4 then (let r83 : Int32 := F_X11_its fS 2 5; let r84 : Int32 := F_X11_ones r83; r84) else ((if x70 = 0 then (0) else (1))))))))))))) → ∀ g96 : Nat → Int32, g96 = ((if what = 0 then (g73) else ((if what = 1 then (g73) else ((if what = 2 then (let g90 : Nat → Int32 := (F_X11_number fS g73 g59 g60 2 4).2.1; g90) else ((if what = 3 then (let g87 : Nat → Int32 := (F_X11_lengthOf fS g73 2).2; g87) else ((if what = 4 then (g73) else ((if x70 = 0 then (g73) else (g73))))))))))))) → ∀ g97 : Nat → Int32, g97 = ((if what = 0 then (g59) else ((if what = 1 then (g59) else ((if what = 2 then (let g91 : Nat → Int32 := (F_X11_number fS g73 g59 g60 2 4).2.2.1; g91) else ((if what = 3 then (g59) else ((if what = 4 then (g59) else ((if x70 = 0 then (g59) else (g59))))))))))))) → ∀ g98 : Nat → Int32, g98 = ((if what = 0 then (g60) else ((if what = 1 then (g60) else ((if what = 2 then (let g92 : Nat → Int32 := (F_X11_number fS g73 g59 g60 2 4).2.2.2; g92) else ((if what = 3 then (g60) else ((if what = 4 then (g60) else ((if x70 = 0 then (g60) else (g60))))))))))))) → V p l e (rmm 5 115) s m args below meth c 6 D A 0 0 Q [[(o, .inr (9, [.ref aS, .ref aPast, .int known, .ref aSnap, .int kept, .ref aText, .int len, .int thr, .ref aOne, .ref aTwo, .ref aBoth, .ref aWord, .int cre, .ref aOpen, .ref aTimes, .ref aFar, .ref aQueue, .long hash]))], [(aS, .inl (cI, 335, .inl fS))], [(aOne, .inl (cI, 4, .inl g96))], [(aTwo, .inl (cI, 4, .inl g97))], [(aBoth, .inl (cI, 4, .inl g98))]] [(5, .int x75), (4, .int x70), (3, .int 2), (2, .int x61), (0, .ref o), (1, .int what)] 143 [.int x95, .int x61] by
    have hp := hps
    refine r_if_ne (tgt := 79) C dX11_counted_66 (by decide) (fun c76 => ?_) (fun c76 => ?_)
    · have hp := hp.2 c76
      refine r_iload_n C dX11_counted_79 5 rfl ?_
      refine r_iconst (v := 1) C dX11_counted_80 (by decide) ?_
      refine r_icmp_ne (tgt := 89) C dX11_counted_81 (by decide) (fun c77 => ?_) (fun c77 => ?_)
      · have hp := hp.2 c77
        refine r_iload_n C dX11_counted_89 5 rfl ?_
        refine r_iconst (v := 2) C dX11_counted_90 (by decide) ?_
        refine r_icmp_ne (tgt := 103) C dX11_counted_91 (by decide) (fun c78 => ?_) (fun c78 => ?_)
        · have hp := hp.2 c78
          refine r_iload_n C dX11_counted_103 5 rfl ?_
          refine r_iconst (v := 3) C dX11_counted_104 (by decide) ?_
          refine r_icmp_ne (tgt := 116) C dX11_counted_105 (by decide) (fun c79 => ?_) (fun c79 => ?_)
          · have hp := hp.2 c79
            refine r_iload_n C dX11_counted_116 5 rfl ?_
            refine r_iconst (v := 4) C dX11_counted_117 (by decide) ?_
            refine r_icmp_ne (tgt := 133) C dX11_counted_118 (by decide) (fun c80 => ?_) (fun c80 => ?_)
            · refine r_iload C dX11_counted_133 1 rfl ?_
              refine r_if_eq (tgt := 142) C dX11_counted_135 (by decide) (fun c81 => ?_) (fun c81 => ?_)
              · refine r_iconst (v := 0) C dX11_counted_142 (by decide) ?_
                exact K _ (by simp only [if_neg c76, if_neg c77, if_neg c78, if_neg c79, if_neg c80, if_pos c81]) _ (by simp only [if_neg c76, if_neg c77, if_neg c78, if_neg c79, if_neg c80, if_pos c81]) _ (by simp only [if_neg c76, if_neg c77, if_neg c78, if_neg c79, if_neg c80, if_pos c81]) _ (by simp only [if_neg c76, if_neg c77, if_neg c78, if_neg c79, if_neg c80, if_pos c81])
              · refine r_iconst (v := 1) C dX11_counted_138 (by decide) ?_
                refine r_goto (tgt := 143) C dX11_counted_139 (by decide) ?_
                exact K _ (by simp only [if_neg c76, if_neg c77, if_neg c78, if_neg c79, if_neg c80, if_neg c81]) _ (by simp only [if_neg c76, if_neg c77, if_neg c78, if_neg c79, if_neg c80, if_neg c81]) _ (by simp only [if_neg c76, if_neg c77, if_neg c78, if_neg c79, if_neg c80, if_neg c81]) _ (by simp only [if_neg c76, if_neg c77, if_neg c78, if_neg c79, if_neg c80, if_neg c81])
            · have hp := hp.1 c80
              refine r_aload_n C dX11_counted_121 4 rfl ?_
              refine r_iload_n C dX11_counted_122 2 rfl ?_
              refine r_iconst (v := 5) C dX11_counted_123 (by decide) ?_
              have h82 := hp
              refine r_callV (ci := 9) (wc := [[(o, .inr (9, [.ref aS, .ref aPast, .int known, .ref aSnap, .int kept, .ref aText, .int len, .int thr, .ref aOne, .ref aTwo, .ref aBoth, .ref aWord, .int cre, .ref aOpen, .ref aTimes, .ref aFar, .ref aQueue, .long hash]))], [(aS, .inl (cI, 335, .inl fS))]]) (wr := [[(aOne, .inl (cI, 4, .inl g73))], [(aTwo, .inl (cI, 4, .inl g59))], [(aBoth, .inl (cI, 4, .inl g60))]]) (st := [.int x61]) C (m_X11_its l D cI cL cP cJ o aS aPast aSnap aText aOne aTwo aBoth aWord aOpen aTimes aFar aQueue known kept len thr cre hash fS 2 5 h82) k_X11_its t_966 [0, 1, 2, 3, 4] (show ([0, 1, 2, 3, 4] : List Nat).Perm (List.range 5) by decide) rfl rfl rfl (q0 := 0) rfl rfl rfl (Nat.le_of_ble_eq_true rfl) ⟨Nat.le_of_ble_eq_true rfl, Nat.le_of_ble_eq_true rfl⟩ ⟨Nat.zero_le _, Nat.zero_le _⟩ dX11_counted_124 (fun r83 wr83 hw83 => ?_)
              obtain ⟨e_r83, rfl⟩ := hw83
              refine r_ws (I' := [[(o, .inr (9, [.ref aS, .ref aPast, .int known, .ref aSnap, .int kept, .ref aText, .int len, .int thr, .ref aOne, .ref aTwo, .ref aBoth, .ref aWord, .int cre, .ref aOpen, .ref aTimes, .ref aFar, .ref aQueue, .long hash]))], [(aS, .inl (cI, 335, .inl fS))], [(aOne, .inl (cI, 4, .inl g73))], [(aTwo, .inl (cI, 4, .inl g59))], [(aBoth, .inl (cI, 4, .inl g60))]]) rfl ?_
              refine r_callS (wc := []) (wr := [[(o, .inr (9, [.ref aS, .ref aPast, .int known, .ref aSnap, .int kept, .ref aText, .int len, .int thr, .ref aOne, .ref aTwo, .ref aBoth, .ref aWord, .int cre, .ref aOpen, .ref aTimes, .ref aFar, .ref aQueue, .long hash]))], [(aS, .inl (cI, 335, .inl fS))], [(aOne, .inl (cI, 4, .inl g73))], [(aTwo, .inl (cI, 4, .inl g59))], [(aBoth, .inl (cI, 4, .inl g60))]]) (st := [.int x61]) C (m_X11_ones l D cI cL cP cJ r83) k_X11_ones t_1072 [0, 1, 2, 3, 4] (show ([0, 1, 2, 3, 4] : List Nat).Perm (List.range 5) by decide) rfl rfl rfl (Nat.le_of_ble_eq_true rfl) ⟨Nat.le_of_ble_eq_true rfl, Nat.le_of_ble_eq_true rfl⟩ ⟨Nat.zero_le _, Nat.zero_le _⟩ dX11_counted_127 (fun r84 wr84 hw84 => ?_)
              obtain ⟨e_r84, rfl⟩ := hw84
              refine r_ws (I' := [[(o, .inr (9, [.ref aS, .ref aPast, .int known, .ref aSnap, .int kept, .ref aText, .int len, .int thr, .ref aOne, .ref aTwo, .ref aBoth, .ref aWord, .int cre, .ref aOpen, .ref aTimes, .ref aFar, .ref aQueue, .long hash]))], [(aS, .inl (cI, 335, .inl fS))], [(aOne, .inl (cI, 4, .inl g73))], [(aTwo, .inl (cI, 4, .inl g59))], [(aBoth, .inl (cI, 4, .inl g60))]]) rfl ?_
              refine r_goto (tgt := 143) C dX11_counted_130 (by decide) ?_
              exact K _ (by have q := e_r83.symm; subst q; have q := e_r84.symm; subst q; simp only [if_neg c76, if_neg c77, if_neg c78, if_neg c79, if_pos c80]) _ (by have q := e_r83.symm; subst q; have q := e_r84.symm; subst q; simp only [if_neg c76, if_neg c77, if_neg c78, if_neg c79, if_pos c80]) _ (by have q := e_r83.symm; subst q; have q := e_r84.symm; subst q; simp only [if_neg c76, if_neg c77, if_neg c78, if_neg c79, if_pos c80]) _ (by have q := e_r83.symm; subst q; have q := e_r84.symm; subst q; simp only [if_neg c76, if_neg c77, if_neg c78, if_neg c79, if_pos c80])
          · have hp := hp.1 c79
            refine r_aload_n C dX11_counted_108 4 rfl ?_
            refine r_iload_n C dX11_counted_109 2 rfl ?_
            have h85 := hp
            refine r_callV (ci := 9) (wc := [[(o, .inr (9, [.ref aS, .ref aPast, .int known, .ref aSnap, .int kept, .ref aText, .int len, .int thr, .ref aOne, .ref aTwo, .ref aBoth, .ref aWord, .int cre, .ref aOpen, .ref aTimes, .ref aFar, .ref aQueue, .long hash]))], [(aS, .inl (cI, 335, .inl fS))], [(aOne, .inl (cI, 4, .inl g73))]]) (wr := [[(aTwo, .inl (cI, 4, .inl g59))], [(aBoth, .inl (cI, 4, .inl g60))]]) (st := [.int x61]) C (m_X11_lengthOf l D cI cL cP cJ o aS aPast aSnap aText aOne aTwo aBoth aWord aOpen aTimes aFar aQueue known kept len thr cre hash fS g73 2 h85) k_X11_lengthOf t_1002 [0, 1, 2, 3, 4] (show ([0, 1, 2, 3, 4] : List Nat).Perm (List.range 5) by decide) rfl rfl rfl (q0 := 0) rfl rfl rfl (Nat.le_of_ble_eq_true rfl) ⟨Nat.le_of_ble_eq_true rfl, Nat.le_of_ble_eq_true rfl⟩ ⟨Nat.zero_le _, Nat.zero_le _⟩ dX11_counted_110 (fun r86 wr86 hw86 => ?_)
            obtain ⟨e_r86, rfl⟩ := hw86
            obtain ⟨g87, e_g87⟩ : ∃ z : Nat → Int32, z = (F_X11_lengthOf fS g73 2).2 := ⟨_, rfl⟩
            refine r_ws (I' := [[(o, .inr (9, [.ref aS, .ref aPast, .int known, .ref aSnap, .int kept, .ref aText, .int len, .int thr, .ref aOne, .ref aTwo, .ref aBoth, .ref aWord, .int cre, .ref aOpen, .ref aTimes, .ref aFar, .ref aQueue, .long hash]))], [(aS, .inl (cI, 335, .inl fS))], [(aOne, .inl (cI, 4, .inl g87))], [(aTwo, .inl (cI, 4, .inl g59))], [(aBoth, .inl (cI, 4, .inl g60))]]) (by rw [e_g87]; rfl) ?_
            refine r_goto (tgt := 143) C dX11_counted_113 (by decide) ?_
            exact K _ (by have q := e_r86.symm; subst q; have q := e_g87.symm; subst q; simp only [if_neg c76, if_neg c77, if_neg c78, if_pos c79]) _ (by have q := e_r86.symm; subst q; have q := e_g87.symm; subst q; simp only [if_neg c76, if_neg c77, if_neg c78, if_pos c79]) _ (by have q := e_r86.symm; subst q; have q := e_g87.symm; subst q; simp only [if_neg c76, if_neg c77, if_neg c78, if_pos c79]) _ (by have q := e_r86.symm; subst q; have q := e_g87.symm; subst q; simp only [if_neg c76, if_neg c77, if_neg c78, if_pos c79])
        · have hp := hp.1 c78
          refine r_aload_n C dX11_counted_94 4 rfl ?_
          refine r_iload_n C dX11_counted_95 2 rfl ?_
          refine r_iconst (v := 4) C dX11_counted_96 (by decide) ?_
          have h88 := hp
          refine r_callV (ci := 9) (wc := [[(o, .inr (9, [.ref aS, .ref aPast, .int known, .ref aSnap, .int kept, .ref aText, .int len, .int thr, .ref aOne, .ref aTwo, .ref aBoth, .ref aWord, .int cre, .ref aOpen, .ref aTimes, .ref aFar, .ref aQueue, .long hash]))], [(aS, .inl (cI, 335, .inl fS))], [(aOne, .inl (cI, 4, .inl g73))], [(aTwo, .inl (cI, 4, .inl g59))], [(aBoth, .inl (cI, 4, .inl g60))]]) (wr := []) (st := [.int x61]) C (m_X11_number l D cI cL cP cJ o aS aPast aSnap aText aOne aTwo aBoth aWord aOpen aTimes aFar aQueue known kept len thr cre hash fS g73 g59 g60 2 4 h88) k_X11_number t_1147 [0, 1, 2, 3, 4] (show ([0, 1, 2, 3, 4] : List Nat).Perm (List.range 5) by decide) rfl rfl rfl (q0 := 0) rfl rfl rfl (Nat.le_of_ble_eq_true rfl) ⟨Nat.le_of_ble_eq_true rfl, Nat.le_of_ble_eq_true rfl⟩ ⟨Nat.zero_le _, Nat.zero_le _⟩ dX11_counted_97 (fun r89 wr89 hw89 => ?_)
          obtain ⟨e_r89, rfl⟩ := hw89
          obtain ⟨g90, e_g90⟩ : ∃ z : Nat → Int32, z = (F_X11_number fS g73 g59 g60 2 4).2.1 := ⟨_, rfl⟩
          obtain ⟨g91, e_g91⟩ : ∃ z : Nat → Int32, z = (F_X11_number fS g73 g59 g60 2 4).2.2.1 := ⟨_, rfl⟩
          obtain ⟨g92, e_g92⟩ : ∃ z : Nat → Int32, z = (F_X11_number fS g73 g59 g60 2 4).2.2.2 := ⟨_, rfl⟩
          refine r_ws (I' := [[(o, .inr (9, [.ref aS, .ref aPast, .int known, .ref aSnap, .int kept, .ref aText, .int len, .int thr, .ref aOne, .ref aTwo, .ref aBoth, .ref aWord, .int cre, .ref aOpen, .ref aTimes, .ref aFar, .ref aQueue, .long hash]))], [(aS, .inl (cI, 335, .inl fS))], [(aOne, .inl (cI, 4, .inl g90))], [(aTwo, .inl (cI, 4, .inl g91))], [(aBoth, .inl (cI, 4, .inl g92))]]) (by rw [e_g90, e_g91, e_g92]; rfl) ?_
          refine r_goto (tgt := 143) C dX11_counted_100 (by decide) ?_
          exact K _ (by have q := e_r89.symm; subst q; have q := e_g90.symm; subst q; have q := e_g91.symm; subst q; have q := e_g92.symm; subst q; simp only [if_neg c76, if_neg c77, if_pos c78]) _ (by have q := e_r89.symm; subst q; have q := e_g90.symm; subst q; have q := e_g91.symm; subst q; have q := e_g92.symm; subst q; simp only [if_neg c76, if_neg c77, if_pos c78]) _ (by have q := e_r89.symm; subst q; have q := e_g90.symm; subst q; have q := e_g91.symm; subst q; have q := e_g92.symm; subst q; simp only [if_neg c76, if_neg c77, if_pos c78]) _ (by have q := e_r89.symm; subst q; have q := e_g90.symm; subst q; have q := e_g91.symm; subst q; have q := e_g92.symm; subst q; simp only [if_neg c76, if_neg c77, if_pos c78])
      · refine r_iload C dX11_counted_84 0 rfl ?_
        refine r_goto (tgt := 143) C dX11_counted_86 (by decide) ?_
        exact K _ (by simp only [if_neg c76, if_pos c77]) _ (by simp only [if_neg c76, if_pos c77]) _ (by simp only [if_neg c76, if_pos c77]) _ (by simp only [if_neg c76, if_pos c77])
    · have hp := hp.1 c76
      refine r_aload_n C dX11_counted_69 4 rfl ?_
      refine r_iload_n C dX11_counted_70 2 rfl ?_
      refine r_bipush (v := 6) C dX11_counted_71 (by decide) ?_
      have h93 := hp
      refine r_callV (ci := 9) (wc := [[(o, .inr (9, [.ref aS, .ref aPast, .int known, .ref aSnap, .int kept, .ref aText, .int len, .int thr, .ref aOne, .ref aTwo, .ref aBoth, .ref aWord, .int cre, .ref aOpen, .ref aTimes, .ref aFar, .ref aQueue, .long hash]))], [(aS, .inl (cI, 335, .inl fS))]]) (wr := [[(aOne, .inl (cI, 4, .inl g73))], [(aTwo, .inl (cI, 4, .inl g59))], [(aBoth, .inl (cI, 4, .inl g60))]]) (st := [.int x61]) C (m_X11_its l D cI cL cP cJ o aS aPast aSnap aText aOne aTwo aBoth aWord aOpen aTimes aFar aQueue known kept len thr cre hash fS 2 6 h93) k_X11_its t_966 [0, 1, 2, 3, 4] (show ([0, 1, 2, 3, 4] : List Nat).Perm (List.range 5) by decide) rfl rfl rfl (q0 := 0) rfl rfl rfl (Nat.le_of_ble_eq_true rfl) ⟨Nat.le_of_ble_eq_true rfl, Nat.le_of_ble_eq_true rfl⟩ ⟨Nat.zero_le _, Nat.zero_le _⟩ dX11_counted_73 (fun r94 wr94 hw94 => ?_)
      obtain ⟨e_r94, rfl⟩ := hw94
      refine r_ws (I' := [[(o, .inr (9, [.ref aS, .ref aPast, .int known, .ref aSnap, .int kept, .ref aText, .int len, .int thr, .ref aOne, .ref aTwo, .ref aBoth, .ref aWord, .int cre, .ref aOpen, .ref aTimes, .ref aFar, .ref aQueue, .long hash]))], [(aS, .inl (cI, 335, .inl fS))], [(aOne, .inl (cI, 4, .inl g73))], [(aTwo, .inl (cI, 4, .inl g59))], [(aBoth, .inl (cI, 4, .inl g60))]]) rfl ?_
      refine r_goto (tgt := 143) C dX11_counted_76 (by decide) ?_
      exact K _ (by have q := e_r94.symm; subst q; simp only [if_pos c76]) _ (by have q := e_r94.symm; subst q; simp only [if_pos c76]) _ (by have q := e_r94.symm; subst q; simp only [if_pos c76]) _ (by have q := e_r94.symm; subst q; simp only [if_pos c76])
  intro x95 e_x95 g96 e_g96 g97 e_g97 g98 e_g98
  have hp := hp x95 e_x95
  have hp := hp g96 e_g96
  have hp := hp g97 e_g97
  have hp := hp g98 e_g98
  refine r_iadd C dX11_counted_143 rfl ?_
  refine r_top (fun x99 e_x99 => ?_)
  have hp := hp x99 e_x99
  refine r_istore_n (L' := [(2, .int x99), (5, .int x75), (4, .int x70), (3, .int 2), (0, .ref o), (1, .int what)]) C dX11_counted_144 (by decide) rfl ?_
  refine r_iinc (v := 3) (L' := [(3, .int 3), (2, .int x99), (5, .int x75), (4, .int x70), (0, .ref o), (1, .int what)]) C dX11_counted_145 3 rfl (by decide) (by decide) rfl ?_
  refine r_goto (tgt := 4) C dX11_counted_148 (by decide) ?_
  refine r_iload_n C dX11_counted_4 0 rfl ?_
  refine r_iconst (v := 5) C dX11_counted_5 (by decide) ?_
  refine r_icmp_ge (tgt := 151) C dX11_counted_6 (by decide) (fun c => absurd c (by decide)) (fun _ => ?_)
  refine r_iconst (v := 1) C dX11_counted_9 (by decide) ?_
  refine r_istore (L' := [(4, .int 1), (3, .int 3), (2, .int x99), (5, .int x75), (0, .ref o), (1, .int what)]) C dX11_counted_10 (by decide) rfl ?_
  refine r_iconst (v := 0) C dX11_counted_12 (by decide) ?_
  refine r_istore (L' := [(5, .int 0), (4, .int 1), (3, .int 3), (2, .int x99), (0, .ref o), (1, .int what)]) C dX11_counted_13 (by decide) rfl ?_
  refine r_iload C dX11_counted_15 0 rfl ?_
  refine r_iload_n C dX11_counted_17 2 rfl ?_
  refine r_icmp_ge (tgt := 49) C dX11_counted_18 (by decide) (fun c => absurd c (by decide)) (fun _ => ?_)
  refine r_iload C dX11_counted_21 1 rfl ?_
  refine r_if_eq (tgt := 40) C dX11_counted_23 (by decide) (fun c => absurd c (by decide)) (fun _ => ?_)
  refine r_aload_n C dX11_counted_26 4 rfl ?_
  refine r_iload_n C dX11_counted_27 2 rfl ?_
  refine r_iload C dX11_counted_28 0 rfl ?_
  obtain ⟨h100, hp⟩ := hp
  refine r_callV (ci := 9) (wc := [[(o, .inr (9, [.ref aS, .ref aPast, .int known, .ref aSnap, .int kept, .ref aText, .int len, .int thr, .ref aOne, .ref aTwo, .ref aBoth, .ref aWord, .int cre, .ref aOpen, .ref aTimes, .ref aFar, .ref aQueue, .long hash]))], [(aS, .inl (cI, 335, .inl fS))]]) (wr := [[(aOne, .inl (cI, 4, .inl g96))], [(aTwo, .inl (cI, 4, .inl g97))], [(aBoth, .inl (cI, 4, .inl g98))]]) (st := []) C (m_X11_areAlike l D cI cL cP cJ o aS aPast aSnap aText aOne aTwo aBoth aWord aOpen aTimes aFar aQueue known kept len thr cre hash fS 3 0 h100) k_X11_areAlike t_1191 [0, 1, 2, 3, 4] (show ([0, 1, 2, 3, 4] : List Nat).Perm (List.range 5) by decide) rfl rfl rfl (q0 := 0) rfl rfl rfl (Nat.le_of_ble_eq_true rfl) ⟨Nat.le_of_ble_eq_true rfl, Nat.le_of_ble_eq_true rfl⟩ ⟨Nat.zero_le _, Nat.zero_le _⟩ dX11_counted_30 (fun r101 wr101 hw101 => ?_)
  obtain ⟨e_r101, rfl⟩ := hw101
  have hp := hp r101 e_r101
  refine r_ws (I' := [[(o, .inr (9, [.ref aS, .ref aPast, .int known, .ref aSnap, .int kept, .ref aText, .int len, .int thr, .ref aOne, .ref aTwo, .ref aBoth, .ref aWord, .int cre, .ref aOpen, .ref aTimes, .ref aFar, .ref aQueue, .long hash]))], [(aS, .inl (cI, 335, .inl fS))], [(aOne, .inl (cI, 4, .inl g96))], [(aTwo, .inl (cI, 4, .inl g97))], [(aBoth, .inl (cI, 4, .inl g98))]]) rfl ?_
  suffices K : ∀ x103 : Int32, x103 = ((if r101 = 0 then (1) else (0))) → V p l e (rmm 5 115) s m args below meth c 6 D A 0 0 Q [[(o, .inr (9, [.ref aS, .ref aPast, .int known, .ref aSnap, .int kept, .ref aText, .int len, .int thr, .ref aOne, .ref aTwo, .ref aBoth, .ref aWord, .int cre, .ref aOpen, .ref aTimes, .ref aFar, .ref aQueue, .long hash]))], [(aS, .inl (cI, 335, .inl fS))], [(aOne, .inl (cI, 4, .inl g96))], [(aTwo, .inl (cI, 4, .inl g97))], [(aBoth, .inl (cI, 4, .inl g98))]] [(5, .int 0), (4, .int 1), (3, .int 3), (2, .int x99), (0, .ref o), (1, .int what)] 41 [.int x103] by
    refine r_if_ne (tgt := 40) C dX11_counted_33 (by decide) (fun c102 => ?_) (fun c102 => ?_)
    · refine r_iconst (v := 0) C dX11_counted_40 (by decide) ?_
      exact K _ (by simp only [if_neg c102])
    · refine r_iconst (v := 1) C dX11_counted_36 (by decide) ?_
      refine r_goto (tgt := 41) C dX11_counted_37 (by decide) ?_
      exact K _ (by simp only [if_pos c102])
  intro x103 e_x103
  have hp := hp x103 e_x103
  refine r_istore (L' := [(4, .int x103), (5, .int 0), (3, .int 3), (2, .int x99), (0, .ref o), (1, .int what)]) C dX11_counted_41 (by decide) rfl ?_
  refine r_iinc (v := 1) (L' := [(5, .int 1), (4, .int x103), (3, .int 3), (2, .int x99), (0, .ref o), (1, .int what)]) C dX11_counted_43 1 rfl (by decide) (by decide) rfl ?_
  refine r_goto (tgt := 15) C dX11_counted_46 (by decide) ?_
  refine r_iload C dX11_counted_15 0 rfl ?_
  refine r_iload_n C dX11_counted_17 2 rfl ?_
  refine r_icmp_ge (tgt := 49) C dX11_counted_18 (by decide) (fun c => absurd c (by decide)) (fun _ => ?_)
  refine r_iload C dX11_counted_21 1 rfl ?_
  obtain ⟨hps, hp⟩ := hp
  suffices K : ∀ x108 : Int32, x108 = ((if x103 = 0 then (0) else (let r106 : Int32 := F_X11_areAlike fS 3 1; (if r106 = 0 then (1) else (0))))) → V p l e (rmm 5 115) s m args below meth c 6 D A 0 0 Q [[(o, .inr (9, [.ref aS, .ref aPast, .int known, .ref aSnap, .int kept, .ref aText, .int len, .int thr, .ref aOne, .ref aTwo, .ref aBoth, .ref aWord, .int cre, .ref aOpen, .ref aTimes, .ref aFar, .ref aQueue, .long hash]))], [(aS, .inl (cI, 335, .inl fS))], [(aOne, .inl (cI, 4, .inl g96))], [(aTwo, .inl (cI, 4, .inl g97))], [(aBoth, .inl (cI, 4, .inl g98))]] [(5, .int 1), (4, .int x103), (3, .int 3), (2, .int x99), (0, .ref o), (1, .int what)] 41 [.int x108] by
    have hp := hps
    refine r_if_eq (tgt := 40) C dX11_counted_23 (by decide) (fun c104 => ?_) (fun c104 => ?_)
    · refine r_iconst (v := 0) C dX11_counted_40 (by decide) ?_
      exact K _ (by simp only [if_pos c104])
    · have hp := hp.2 c104
      refine r_aload_n C dX11_counted_26 4 rfl ?_
      refine r_iload_n C dX11_counted_27 2 rfl ?_
      refine r_iload C dX11_counted_28 0 rfl ?_
      have h105 := hp
      refine r_callV (ci := 9) (wc := [[(o, .inr (9, [.ref aS, .ref aPast, .int known, .ref aSnap, .int kept, .ref aText, .int len, .int thr, .ref aOne, .ref aTwo, .ref aBoth, .ref aWord, .int cre, .ref aOpen, .ref aTimes, .ref aFar, .ref aQueue, .long hash]))], [(aS, .inl (cI, 335, .inl fS))]]) (wr := [[(aOne, .inl (cI, 4, .inl g96))], [(aTwo, .inl (cI, 4, .inl g97))], [(aBoth, .inl (cI, 4, .inl g98))]]) (st := []) C (m_X11_areAlike l D cI cL cP cJ o aS aPast aSnap aText aOne aTwo aBoth aWord aOpen aTimes aFar aQueue known kept len thr cre hash fS 3 1 h105) k_X11_areAlike t_1191 [0, 1, 2, 3, 4] (show ([0, 1, 2, 3, 4] : List Nat).Perm (List.range 5) by decide) rfl rfl rfl (q0 := 0) rfl rfl rfl (Nat.le_of_ble_eq_true rfl) ⟨Nat.le_of_ble_eq_true rfl, Nat.le_of_ble_eq_true rfl⟩ ⟨Nat.zero_le _, Nat.zero_le _⟩ dX11_counted_30 (fun r106 wr106 hw106 => ?_)
      obtain ⟨e_r106, rfl⟩ := hw106
      refine r_ws (I' := [[(o, .inr (9, [.ref aS, .ref aPast, .int known, .ref aSnap, .int kept, .ref aText, .int len, .int thr, .ref aOne, .ref aTwo, .ref aBoth, .ref aWord, .int cre, .ref aOpen, .ref aTimes, .ref aFar, .ref aQueue, .long hash]))], [(aS, .inl (cI, 335, .inl fS))], [(aOne, .inl (cI, 4, .inl g96))], [(aTwo, .inl (cI, 4, .inl g97))], [(aBoth, .inl (cI, 4, .inl g98))]]) rfl ?_
      refine r_if_ne (tgt := 40) C dX11_counted_33 (by decide) (fun c107 => ?_) (fun c107 => ?_)
      · refine r_iconst (v := 0) C dX11_counted_40 (by decide) ?_
        exact K _ (by have q := e_r106.symm; subst q; simp only [if_neg c104, if_neg c107])
      · refine r_iconst (v := 1) C dX11_counted_36 (by decide) ?_
        refine r_goto (tgt := 41) C dX11_counted_37 (by decide) ?_
        exact K _ (by have q := e_r106.symm; subst q; simp only [if_neg c104, if_pos c107])
  intro x108 e_x108
  have hp := hp x108 e_x108
  refine r_istore (L' := [(4, .int x108), (5, .int 1), (3, .int 3), (2, .int x99), (0, .ref o), (1, .int what)]) C dX11_counted_41 (by decide) rfl ?_
  refine r_iinc (v := 2) (L' := [(5, .int 2), (4, .int x108), (3, .int 3), (2, .int x99), (0, .ref o), (1, .int what)]) C dX11_counted_43 1 rfl (by decide) (by decide) rfl ?_
  refine r_goto (tgt := 15) C dX11_counted_46 (by decide) ?_
  refine r_iload C dX11_counted_15 0 rfl ?_
  refine r_iload_n C dX11_counted_17 2 rfl ?_
  refine r_icmp_ge (tgt := 49) C dX11_counted_18 (by decide) (fun c => absurd c (by decide)) (fun _ => ?_)
  refine r_iload C dX11_counted_21 1 rfl ?_
  obtain ⟨hps, hp⟩ := hp
  suffices K : ∀ x113 : Int32, x113 = ((if x108 = 0 then (0) else (let r111 : Int32 := F_X11_areAlike fS 3 2; (if r111 = 0 then (1) else (0))))) → V p l e (rmm 5 115) s m args below meth c 6 D A 0 0 Q [[(o, .inr (9, [.ref aS, .ref aPast, .int known, .ref aSnap, .int kept, .ref aText, .int len, .int thr, .ref aOne, .ref aTwo, .ref aBoth, .ref aWord, .int cre, .ref aOpen, .ref aTimes, .ref aFar, .ref aQueue, .long hash]))], [(aS, .inl (cI, 335, .inl fS))], [(aOne, .inl (cI, 4, .inl g96))], [(aTwo, .inl (cI, 4, .inl g97))], [(aBoth, .inl (cI, 4, .inl g98))]] [(5, .int 2), (4, .int x108), (3, .int 3), (2, .int x99), (0, .ref o), (1, .int what)] 41 [.int x113] by
    have hp := hps
    refine r_if_eq (tgt := 40) C dX11_counted_23 (by decide) (fun c109 => ?_) (fun c109 => ?_)
    · refine r_iconst (v := 0) C dX11_counted_40 (by decide) ?_
      exact K _ (by simp only [if_pos c109])
    · have hp := hp.2 c109
      refine r_aload_n C dX11_counted_26 4 rfl ?_
      refine r_iload_n C dX11_counted_27 2 rfl ?_
      refine r_iload C dX11_counted_28 0 rfl ?_
      have h110 := hp
      refine r_callV (ci := 9) (wc := [[(o, .inr (9, [.ref aS, .ref aPast, .int known, .ref aSnap, .int kept, .ref aText, .int len, .int thr, .ref aOne, .ref aTwo, .ref aBoth, .ref aWord, .int cre, .ref aOpen, .ref aTimes, .ref aFar, .ref aQueue, .long hash]))], [(aS, .inl (cI, 335, .inl fS))]]) (wr := [[(aOne, .inl (cI, 4, .inl g96))], [(aTwo, .inl (cI, 4, .inl g97))], [(aBoth, .inl (cI, 4, .inl g98))]]) (st := []) C (m_X11_areAlike l D cI cL cP cJ o aS aPast aSnap aText aOne aTwo aBoth aWord aOpen aTimes aFar aQueue known kept len thr cre hash fS 3 2 h110) k_X11_areAlike t_1191 [0, 1, 2, 3, 4] (show ([0, 1, 2, 3, 4] : List Nat).Perm (List.range 5) by decide) rfl rfl rfl (q0 := 0) rfl rfl rfl (Nat.le_of_ble_eq_true rfl) ⟨Nat.le_of_ble_eq_true rfl, Nat.le_of_ble_eq_true rfl⟩ ⟨Nat.zero_le _, Nat.zero_le _⟩ dX11_counted_30 (fun r111 wr111 hw111 => ?_)
      obtain ⟨e_r111, rfl⟩ := hw111
      refine r_ws (I' := [[(o, .inr (9, [.ref aS, .ref aPast, .int known, .ref aSnap, .int kept, .ref aText, .int len, .int thr, .ref aOne, .ref aTwo, .ref aBoth, .ref aWord, .int cre, .ref aOpen, .ref aTimes, .ref aFar, .ref aQueue, .long hash]))], [(aS, .inl (cI, 335, .inl fS))], [(aOne, .inl (cI, 4, .inl g96))], [(aTwo, .inl (cI, 4, .inl g97))], [(aBoth, .inl (cI, 4, .inl g98))]]) rfl ?_
      refine r_if_ne (tgt := 40) C dX11_counted_33 (by decide) (fun c112 => ?_) (fun c112 => ?_)
      · refine r_iconst (v := 0) C dX11_counted_40 (by decide) ?_
        exact K _ (by have q := e_r111.symm; subst q; simp only [if_neg c109, if_neg c112])
      · refine r_iconst (v := 1) C dX11_counted_36 (by decide) ?_
        refine r_goto (tgt := 41) C dX11_counted_37 (by decide) ?_
        exact K _ (by have q := e_r111.symm; subst q; simp only [if_neg c109, if_pos c112])
  intro x113 e_x113
  have hp := hp x113 e_x113
  refine r_istore (L' := [(4, .int x113), (5, .int 2), (3, .int 3), (2, .int x99), (0, .ref o), (1, .int what)]) C dX11_counted_41 (by decide) rfl ?_
  refine r_iinc (v := 3) (L' := [(5, .int 3), (4, .int x113), (3, .int 3), (2, .int x99), (0, .ref o), (1, .int what)]) C dX11_counted_43 1 rfl (by decide) (by decide) rfl ?_
  refine r_goto (tgt := 15) C dX11_counted_46 (by decide) ?_
  refine r_iload C dX11_counted_15 0 rfl ?_
  refine r_iload_n C dX11_counted_17 2 rfl ?_
  refine r_icmp_ge (tgt := 49) C dX11_counted_18 (by decide) (fun _ => ?_) (fun c => absurd c (by decide))
  refine r_aload_n C dX11_counted_49 4 rfl ?_
  refine r_iload_n C dX11_counted_50 2 rfl ?_
  obtain ⟨h114, hp⟩ := hp
  refine r_callV (ci := 9) (wc := [[(o, .inr (9, [.ref aS, .ref aPast, .int known, .ref aSnap, .int kept, .ref aText, .int len, .int thr, .ref aOne, .ref aTwo, .ref aBoth, .ref aWord, .int cre, .ref aOpen, .ref aTimes, .ref aFar, .ref aQueue, .long hash]))], [(aS, .inl (cI, 335, .inl fS))], [(aOne, .inl (cI, 4, .inl g96))]]) (wr := [[(aTwo, .inl (cI, 4, .inl g97))], [(aBoth, .inl (cI, 4, .inl g98))]]) (st := []) C (m_X11_lengthOf l D cI cL cP cJ o aS aPast aSnap aText aOne aTwo aBoth aWord aOpen aTimes aFar aQueue known kept len thr cre hash fS g96 3 h114) k_X11_lengthOf t_1002 [0, 1, 2, 3, 4] (show ([0, 1, 2, 3, 4] : List Nat).Perm (List.range 5) by decide) rfl rfl rfl (q0 := 0) rfl rfl rfl (Nat.le_of_ble_eq_true rfl) ⟨Nat.le_of_ble_eq_true rfl, Nat.le_of_ble_eq_true rfl⟩ ⟨Nat.zero_le _, Nat.zero_le _⟩ dX11_counted_51 (fun r115 wr115 hw115 => ?_)
  obtain ⟨e_r115, rfl⟩ := hw115
  have hp := hp r115 e_r115
  obtain ⟨g116, e_g116⟩ : ∃ z : Nat → Int32, z = (F_X11_lengthOf fS g96 3).2 := ⟨_, rfl⟩
  have hp := hp g116 e_g116
  refine r_ws (I' := [[(o, .inr (9, [.ref aS, .ref aPast, .int known, .ref aSnap, .int kept, .ref aText, .int len, .int thr, .ref aOne, .ref aTwo, .ref aBoth, .ref aWord, .int cre, .ref aOpen, .ref aTimes, .ref aFar, .ref aQueue, .long hash]))], [(aS, .inl (cI, 335, .inl fS))], [(aOne, .inl (cI, 4, .inl g116))], [(aTwo, .inl (cI, 4, .inl g97))], [(aBoth, .inl (cI, 4, .inl g98))]]) (by rw [e_g116]; rfl) ?_
  suffices K : ∀ x118 : Int32, x118 = ((if r115 = 0 then (1) else (0))) → V p l e (rmm 5 115) s m args below meth c 6 D A 0 0 Q [[(o, .inr (9, [.ref aS, .ref aPast, .int known, .ref aSnap, .int kept, .ref aText, .int len, .int thr, .ref aOne, .ref aTwo, .ref aBoth, .ref aWord, .int cre, .ref aOpen, .ref aTimes, .ref aFar, .ref aQueue, .long hash]))], [(aS, .inl (cI, 335, .inl fS))], [(aOne, .inl (cI, 4, .inl g116))], [(aTwo, .inl (cI, 4, .inl g97))], [(aBoth, .inl (cI, 4, .inl g98))]] [(5, .int 3), (4, .int x113), (3, .int 3), (2, .int x99), (0, .ref o), (1, .int what)] 62 [.int x118] by
    refine r_if_ne (tgt := 61) C dX11_counted_54 (by decide) (fun c117 => ?_) (fun c117 => ?_)
    · refine r_iconst (v := 0) C dX11_counted_61 (by decide) ?_
      exact K _ (by simp only [if_neg c117])
    · refine r_iconst (v := 1) C dX11_counted_57 (by decide) ?_
      refine r_goto (tgt := 62) C dX11_counted_58 (by decide) ?_
      exact K _ (by simp only [if_pos c117])
  intro x118 e_x118
  have hp := hp x118 e_x118
  refine r_istore (L' := [(5, .int x118), (4, .int x113), (3, .int 3), (2, .int x99), (0, .ref o), (1, .int what)]) C dX11_counted_62 (by decide) rfl ?_
  refine r_iload_n C dX11_counted_64 3 rfl ?_
  refine r_iload_n C dX11_counted_65 5 rfl ?_
  obtain ⟨hps, hp⟩ := hp
  suffices K : ∀ x138 : Int32, x138 = ((if what = 0 then (let r137 : Int32 := F_X11_its fS 3 6; r137) else ((if what = 1 then (x118) else ((if what = 2 then (let r132 : Int32 := (F_X11_number fS g116 g97 g98 3 4).1; r132) else ((if what = 3 then (let r129 : Int32 := (F_X11_lengthOf fS g116 3).1; r129) else ((if what = 4 then (let r126 : Int32 := F_X11_its fS 3 5; let r127 : Int32 := F_X11_ones r126; r127) else ((if x113 = 0 then (0) else (1))))))))))))) → ∀ g139 : Nat → Int32, g139 = ((if what = 0 then (g116) else ((if what = 1 then (g116) else ((if what = 2 then (let g133 : Nat → Int32 := (F_X11_number fS g116 g97 g98 3 4).2.1; g133) else ((if what = 3 then (let g130 : Nat → Int32 := (F_X11_lengthOf fS g116 3).2; g130) else ((if what = 4 then (g116) else ((if x113 = 0 then (g116) else (g116))))))))))))) → ∀ g140 : Nat → Int32, g140 = ((if what = 0 then (g97) else ((if what = 1 then (g97) else ((if what = 2 then (let g134 : Nat → Int32 := (F_X11_number fS g116 g97 g98 3 4).2.2.1; g134) else ((if what = 3 then (g97) else ((if what = 4 then (g97) else ((if x113 = 0 then (g97) else (g97))))))))))))) → ∀ g141 : Nat → Int32, g141 = ((if what = 0 then (g98) else ((if what = 1 then (g98) else ((if what = 2 then (let g135 : Nat → Int32 := (F_X11_number fS g116 g97 g98 3 4).2.2.2; g135) else ((if what = 3 then (g98) else ((if what = 4 then (g98) else ((if x113 = 0 then (g98) else (g98))))))))))))) → V p l e (rmm 5 115) s m args below meth c 6 D A 0 0 Q [[(o, .inr (9, [.ref aS, .ref aPast, .int known, .ref aSnap, .int kept, .ref aText, .int len, .int thr, .ref aOne, .ref aTwo, .ref aBoth, .ref aWord, .int cre, .ref aOpen, .ref aTimes, .ref aFar, .ref aQueue, .long hash]))], [(aS, .inl (cI, 335, .inl fS))], [(aOne, .inl (cI, 4, .inl g139))], [(aTwo, .inl (cI, 4, .inl g140))], [(aBoth, .inl (cI, 4, .inl g141))]] [(5, .int x118), (4, .int x113), (3, .int 3), (2, .int x99), (0, .ref o), (1, .int what)] 143 [.int x138, .int x99] by
    have hp := hps
    refine r_if_ne (tgt := 79) C dX11_counted_66 (by decide) (fun c119 => ?_) (fun c119 => ?_)
    · have hp := hp.2 c119
      refine r_iload_n C dX11_counted_79 5 rfl ?_
      refine r_iconst (v := 1) C dX11_counted_80 (by decide) ?_
      refine r_icmp_ne (tgt := 89) C dX11_counted_81 (by decide) (fun c120 => ?_) (fun c120 => ?_)
      · have hp := hp.2 c120
        refine r_iload_n C dX11_counted_89 5 rfl ?_
        refine r_iconst (v := 2) C dX11_counted_90 (by decide) ?_
        refine r_icmp_ne (tgt := 103) C dX11_counted_91 (by decide) (fun c121 => ?_) (fun c121 => ?_)
        · have hp := hp.2 c121
          refine r_iload_n C dX11_counted_103 5 rfl ?_
          refine r_iconst (v := 3) C dX11_counted_104 (by decide) ?_
          refine r_icmp_ne (tgt := 116) C dX11_counted_105 (by decide) (fun c122 => ?_) (fun c122 => ?_)
          · have hp := hp.2 c122
            refine r_iload_n C dX11_counted_116 5 rfl ?_
            refine r_iconst (v := 4) C dX11_counted_117 (by decide) ?_
            refine r_icmp_ne (tgt := 133) C dX11_counted_118 (by decide) (fun c123 => ?_) (fun c123 => ?_)
            · refine r_iload C dX11_counted_133 1 rfl ?_
              refine r_if_eq (tgt := 142) C dX11_counted_135 (by decide) (fun c124 => ?_) (fun c124 => ?_)
              · refine r_iconst (v := 0) C dX11_counted_142 (by decide) ?_
                exact K _ (by simp only [if_neg c119, if_neg c120, if_neg c121, if_neg c122, if_neg c123, if_pos c124]) _ (by simp only [if_neg c119, if_neg c120, if_neg c121, if_neg c122, if_neg c123, if_pos c124]) _ (by simp only [if_neg c119, if_neg c120, if_neg c121, if_neg c122, if_neg c123, if_pos c124]) _ (by simp only [if_neg c119, if_neg c120, if_neg c121, if_neg c122, if_neg c123, if_pos c124])
              · refine r_iconst (v := 1) C dX11_counted_138 (by decide) ?_
                refine r_goto (tgt := 143) C dX11_counted_139 (by decide) ?_
                exact K _ (by simp only [if_neg c119, if_neg c120, if_neg c121, if_neg c122, if_neg c123, if_neg c124]) _ (by simp only [if_neg c119, if_neg c120, if_neg c121, if_neg c122, if_neg c123, if_neg c124]) _ (by simp only [if_neg c119, if_neg c120, if_neg c121, if_neg c122, if_neg c123, if_neg c124]) _ (by simp only [if_neg c119, if_neg c120, if_neg c121, if_neg c122, if_neg c123, if_neg c124])
            · have hp := hp.1 c123
              refine r_aload_n C dX11_counted_121 4 rfl ?_
              refine r_iload_n C dX11_counted_122 2 rfl ?_
              refine r_iconst (v := 5) C dX11_counted_123 (by decide) ?_
              have h125 := hp
              refine r_callV (ci := 9) (wc := [[(o, .inr (9, [.ref aS, .ref aPast, .int known, .ref aSnap, .int kept, .ref aText, .int len, .int thr, .ref aOne, .ref aTwo, .ref aBoth, .ref aWord, .int cre, .ref aOpen, .ref aTimes, .ref aFar, .ref aQueue, .long hash]))], [(aS, .inl (cI, 335, .inl fS))]]) (wr := [[(aOne, .inl (cI, 4, .inl g116))], [(aTwo, .inl (cI, 4, .inl g97))], [(aBoth, .inl (cI, 4, .inl g98))]]) (st := [.int x99]) C (m_X11_its l D cI cL cP cJ o aS aPast aSnap aText aOne aTwo aBoth aWord aOpen aTimes aFar aQueue known kept len thr cre hash fS 3 5 h125) k_X11_its t_966 [0, 1, 2, 3, 4] (show ([0, 1, 2, 3, 4] : List Nat).Perm (List.range 5) by decide) rfl rfl rfl (q0 := 0) rfl rfl rfl (Nat.le_of_ble_eq_true rfl) ⟨Nat.le_of_ble_eq_true rfl, Nat.le_of_ble_eq_true rfl⟩ ⟨Nat.zero_le _, Nat.zero_le _⟩ dX11_counted_124 (fun r126 wr126 hw126 => ?_)
              obtain ⟨e_r126, rfl⟩ := hw126
              refine r_ws (I' := [[(o, .inr (9, [.ref aS, .ref aPast, .int known, .ref aSnap, .int kept, .ref aText, .int len, .int thr, .ref aOne, .ref aTwo, .ref aBoth, .ref aWord, .int cre, .ref aOpen, .ref aTimes, .ref aFar, .ref aQueue, .long hash]))], [(aS, .inl (cI, 335, .inl fS))], [(aOne, .inl (cI, 4, .inl g116))], [(aTwo, .inl (cI, 4, .inl g97))], [(aBoth, .inl (cI, 4, .inl g98))]]) rfl ?_
              refine r_callS (wc := []) (wr := [[(o, .inr (9, [.ref aS, .ref aPast, .int known, .ref aSnap, .int kept, .ref aText, .int len, .int thr, .ref aOne, .ref aTwo, .ref aBoth, .ref aWord, .int cre, .ref aOpen, .ref aTimes, .ref aFar, .ref aQueue, .long hash]))], [(aS, .inl (cI, 335, .inl fS))], [(aOne, .inl (cI, 4, .inl g116))], [(aTwo, .inl (cI, 4, .inl g97))], [(aBoth, .inl (cI, 4, .inl g98))]]) (st := [.int x99]) C (m_X11_ones l D cI cL cP cJ r126) k_X11_ones t_1072 [0, 1, 2, 3, 4] (show ([0, 1, 2, 3, 4] : List Nat).Perm (List.range 5) by decide) rfl rfl rfl (Nat.le_of_ble_eq_true rfl) ⟨Nat.le_of_ble_eq_true rfl, Nat.le_of_ble_eq_true rfl⟩ ⟨Nat.zero_le _, Nat.zero_le _⟩ dX11_counted_127 (fun r127 wr127 hw127 => ?_)
              obtain ⟨e_r127, rfl⟩ := hw127
              refine r_ws (I' := [[(o, .inr (9, [.ref aS, .ref aPast, .int known, .ref aSnap, .int kept, .ref aText, .int len, .int thr, .ref aOne, .ref aTwo, .ref aBoth, .ref aWord, .int cre, .ref aOpen, .ref aTimes, .ref aFar, .ref aQueue, .long hash]))], [(aS, .inl (cI, 335, .inl fS))], [(aOne, .inl (cI, 4, .inl g116))], [(aTwo, .inl (cI, 4, .inl g97))], [(aBoth, .inl (cI, 4, .inl g98))]]) rfl ?_
              refine r_goto (tgt := 143) C dX11_counted_130 (by decide) ?_
              exact K _ (by have q := e_r126.symm; subst q; have q := e_r127.symm; subst q; simp only [if_neg c119, if_neg c120, if_neg c121, if_neg c122, if_pos c123]) _ (by have q := e_r126.symm; subst q; have q := e_r127.symm; subst q; simp only [if_neg c119, if_neg c120, if_neg c121, if_neg c122, if_pos c123]) _ (by have q := e_r126.symm; subst q; have q := e_r127.symm; subst q; simp only [if_neg c119, if_neg c120, if_neg c121, if_neg c122, if_pos c123]) _ (by have q := e_r126.symm; subst q; have q := e_r127.symm; subst q; simp only [if_neg c119, if_neg c120, if_neg c121, if_neg c122, if_pos c123])
          · have hp := hp.1 c122
            refine r_aload_n C dX11_counted_108 4 rfl ?_
            refine r_iload_n C dX11_counted_109 2 rfl ?_
            have h128 := hp
            refine r_callV (ci := 9) (wc := [[(o, .inr (9, [.ref aS, .ref aPast, .int known, .ref aSnap, .int kept, .ref aText, .int len, .int thr, .ref aOne, .ref aTwo, .ref aBoth, .ref aWord, .int cre, .ref aOpen, .ref aTimes, .ref aFar, .ref aQueue, .long hash]))], [(aS, .inl (cI, 335, .inl fS))], [(aOne, .inl (cI, 4, .inl g116))]]) (wr := [[(aTwo, .inl (cI, 4, .inl g97))], [(aBoth, .inl (cI, 4, .inl g98))]]) (st := [.int x99]) C (m_X11_lengthOf l D cI cL cP cJ o aS aPast aSnap aText aOne aTwo aBoth aWord aOpen aTimes aFar aQueue known kept len thr cre hash fS g116 3 h128) k_X11_lengthOf t_1002 [0, 1, 2, 3, 4] (show ([0, 1, 2, 3, 4] : List Nat).Perm (List.range 5) by decide) rfl rfl rfl (q0 := 0) rfl rfl rfl (Nat.le_of_ble_eq_true rfl) ⟨Nat.le_of_ble_eq_true rfl, Nat.le_of_ble_eq_true rfl⟩ ⟨Nat.zero_le _, Nat.zero_le _⟩ dX11_counted_110 (fun r129 wr129 hw129 => ?_)
            obtain ⟨e_r129, rfl⟩ := hw129
            obtain ⟨g130, e_g130⟩ : ∃ z : Nat → Int32, z = (F_X11_lengthOf fS g116 3).2 := ⟨_, rfl⟩
            refine r_ws (I' := [[(o, .inr (9, [.ref aS, .ref aPast, .int known, .ref aSnap, .int kept, .ref aText, .int len, .int thr, .ref aOne, .ref aTwo, .ref aBoth, .ref aWord, .int cre, .ref aOpen, .ref aTimes, .ref aFar, .ref aQueue, .long hash]))], [(aS, .inl (cI, 335, .inl fS))], [(aOne, .inl (cI, 4, .inl g130))], [(aTwo, .inl (cI, 4, .inl g97))], [(aBoth, .inl (cI, 4, .inl g98))]]) (by rw [e_g130]; rfl) ?_
            refine r_goto (tgt := 143) C dX11_counted_113 (by decide) ?_
            exact K _ (by have q := e_r129.symm; subst q; have q := e_g130.symm; subst q; simp only [if_neg c119, if_neg c120, if_neg c121, if_pos c122]) _ (by have q := e_r129.symm; subst q; have q := e_g130.symm; subst q; simp only [if_neg c119, if_neg c120, if_neg c121, if_pos c122]) _ (by have q := e_r129.symm; subst q; have q := e_g130.symm; subst q; simp only [if_neg c119, if_neg c120, if_neg c121, if_pos c122]) _ (by have q := e_r129.symm; subst q; have q := e_g130.symm; subst q; simp only [if_neg c119, if_neg c120, if_neg c121, if_pos c122])
        · have hp := hp.1 c121
          refine r_aload_n C dX11_counted_94 4 rfl ?_
          refine r_iload_n C dX11_counted_95 2 rfl ?_
          refine r_iconst (v := 4) C dX11_counted_96 (by decide) ?_
          have h131 := hp
          refine r_callV (ci := 9) (wc := [[(o, .inr (9, [.ref aS, .ref aPast, .int known, .ref aSnap, .int kept, .ref aText, .int len, .int thr, .ref aOne, .ref aTwo, .ref aBoth, .ref aWord, .int cre, .ref aOpen, .ref aTimes, .ref aFar, .ref aQueue, .long hash]))], [(aS, .inl (cI, 335, .inl fS))], [(aOne, .inl (cI, 4, .inl g116))], [(aTwo, .inl (cI, 4, .inl g97))], [(aBoth, .inl (cI, 4, .inl g98))]]) (wr := []) (st := [.int x99]) C (m_X11_number l D cI cL cP cJ o aS aPast aSnap aText aOne aTwo aBoth aWord aOpen aTimes aFar aQueue known kept len thr cre hash fS g116 g97 g98 3 4 h131) k_X11_number t_1147 [0, 1, 2, 3, 4] (show ([0, 1, 2, 3, 4] : List Nat).Perm (List.range 5) by decide) rfl rfl rfl (q0 := 0) rfl rfl rfl (Nat.le_of_ble_eq_true rfl) ⟨Nat.le_of_ble_eq_true rfl, Nat.le_of_ble_eq_true rfl⟩ ⟨Nat.zero_le _, Nat.zero_le _⟩ dX11_counted_97 (fun r132 wr132 hw132 => ?_)
          obtain ⟨e_r132, rfl⟩ := hw132
          obtain ⟨g133, e_g133⟩ : ∃ z : Nat → Int32, z = (F_X11_number fS g116 g97 g98 3 4).2.1 := ⟨_, rfl⟩
          obtain ⟨g134, e_g134⟩ : ∃ z : Nat → Int32, z = (F_X11_number fS g116 g97 g98 3 4).2.2.1 := ⟨_, rfl⟩
          obtain ⟨g135, e_g135⟩ : ∃ z : Nat → Int32, z = (F_X11_number fS g116 g97 g98 3 4).2.2.2 := ⟨_, rfl⟩
          refine r_ws (I' := [[(o, .inr (9, [.ref aS, .ref aPast, .int known, .ref aSnap, .int kept, .ref aText, .int len, .int thr, .ref aOne, .ref aTwo, .ref aBoth, .ref aWord, .int cre, .ref aOpen, .ref aTimes, .ref aFar, .ref aQueue, .long hash]))], [(aS, .inl (cI, 335, .inl fS))], [(aOne, .inl (cI, 4, .inl g133))], [(aTwo, .inl (cI, 4, .inl g134))], [(aBoth, .inl (cI, 4, .inl g135))]]) (by rw [e_g133, e_g134, e_g135]; rfl) ?_
          refine r_goto (tgt := 143) C dX11_counted_100 (by decide) ?_
          exact K _ (by have q := e_r132.symm; subst q; have q := e_g133.symm; subst q; have q := e_g134.symm; subst q; have q := e_g135.symm; subst q; simp only [if_neg c119, if_neg c120, if_pos c121]) _ (by have q := e_r132.symm; subst q; have q := e_g133.symm; subst q; have q := e_g134.symm; subst q; have q := e_g135.symm; subst q; simp only [if_neg c119, if_neg c120, if_pos c121]) _ (by have q := e_r132.symm; subst q; have q := e_g133.symm; subst q; have q := e_g134.symm; subst q; have q := e_g135.symm; subst q; simp only [if_neg c119, if_neg c120, if_pos c121]) _ (by have q := e_r132.symm; subst q; have q := e_g133.symm; subst q; have q := e_g134.symm; subst q; have q := e_g135.symm; subst q; simp only [if_neg c119, if_neg c120, if_pos c121])
      · refine r_iload C dX11_counted_84 0 rfl ?_
        refine r_goto (tgt := 143) C dX11_counted_86 (by decide) ?_
        exact K _ (by simp only [if_neg c119, if_pos c120]) _ (by simp only [if_neg c119, if_pos c120]) _ (by simp only [if_neg c119, if_pos c120]) _ (by simp only [if_neg c119, if_pos c120])
    · have hp := hp.1 c119
      refine r_aload_n C dX11_counted_69 4 rfl ?_
      refine r_iload_n C dX11_counted_70 2 rfl ?_
      refine r_bipush (v := 6) C dX11_counted_71 (by decide) ?_
      have h136 := hp
      refine r_callV (ci := 9) (wc := [[(o, .inr (9, [.ref aS, .ref aPast, .int known, .ref aSnap, .int kept, .ref aText, .int len, .int thr, .ref aOne, .ref aTwo, .ref aBoth, .ref aWord, .int cre, .ref aOpen, .ref aTimes, .ref aFar, .ref aQueue, .long hash]))], [(aS, .inl (cI, 335, .inl fS))]]) (wr := [[(aOne, .inl (cI, 4, .inl g116))], [(aTwo, .inl (cI, 4, .inl g97))], [(aBoth, .inl (cI, 4, .inl g98))]]) (st := [.int x99]) C (m_X11_its l D cI cL cP cJ o aS aPast aSnap aText aOne aTwo aBoth aWord aOpen aTimes aFar aQueue known kept len thr cre hash fS 3 6 h136) k_X11_its t_966 [0, 1, 2, 3, 4] (show ([0, 1, 2, 3, 4] : List Nat).Perm (List.range 5) by decide) rfl rfl rfl (q0 := 0) rfl rfl rfl (Nat.le_of_ble_eq_true rfl) ⟨Nat.le_of_ble_eq_true rfl, Nat.le_of_ble_eq_true rfl⟩ ⟨Nat.zero_le _, Nat.zero_le _⟩ dX11_counted_73 (fun r137 wr137 hw137 => ?_)
      obtain ⟨e_r137, rfl⟩ := hw137
      refine r_ws (I' := [[(o, .inr (9, [.ref aS, .ref aPast, .int known, .ref aSnap, .int kept, .ref aText, .int len, .int thr, .ref aOne, .ref aTwo, .ref aBoth, .ref aWord, .int cre, .ref aOpen, .ref aTimes, .ref aFar, .ref aQueue, .long hash]))], [(aS, .inl (cI, 335, .inl fS))], [(aOne, .inl (cI, 4, .inl g116))], [(aTwo, .inl (cI, 4, .inl g97))], [(aBoth, .inl (cI, 4, .inl g98))]]) rfl ?_
      refine r_goto (tgt := 143) C dX11_counted_76 (by decide) ?_
      exact K _ (by have q := e_r137.symm; subst q; simp only [if_pos c119]) _ (by have q := e_r137.symm; subst q; simp only [if_pos c119]) _ (by have q := e_r137.symm; subst q; simp only [if_pos c119]) _ (by have q := e_r137.symm; subst q; simp only [if_pos c119])
  intro x138 e_x138 g139 e_g139 g140 e_g140 g141 e_g141
  have hp := hp x138 e_x138
  have hp := hp g139 e_g139
  have hp := hp g140 e_g140
  have hp := hp g141 e_g141
  refine r_iadd C dX11_counted_143 rfl ?_
  refine r_top (fun x142 e_x142 => ?_)
  have hp := hp x142 e_x142
  refine r_istore_n (L' := [(2, .int x142), (5, .int x118), (4, .int x113), (3, .int 3), (0, .ref o), (1, .int what)]) C dX11_counted_144 (by decide) rfl ?_
  refine r_iinc (v := 4) (L' := [(3, .int 4), (2, .int x142), (5, .int x118), (4, .int x113), (0, .ref o), (1, .int what)]) C dX11_counted_145 3 rfl (by decide) (by decide) rfl ?_
  refine r_goto (tgt := 4) C dX11_counted_148 (by decide) ?_
  refine r_iload_n C dX11_counted_4 0 rfl ?_
  refine r_iconst (v := 5) C dX11_counted_5 (by decide) ?_
  refine r_icmp_ge (tgt := 151) C dX11_counted_6 (by decide) (fun c => absurd c (by decide)) (fun _ => ?_)
  refine r_iconst (v := 1) C dX11_counted_9 (by decide) ?_
  refine r_istore (L' := [(4, .int 1), (3, .int 4), (2, .int x142), (5, .int x118), (0, .ref o), (1, .int what)]) C dX11_counted_10 (by decide) rfl ?_
  refine r_iconst (v := 0) C dX11_counted_12 (by decide) ?_
  refine r_istore (L' := [(5, .int 0), (4, .int 1), (3, .int 4), (2, .int x142), (0, .ref o), (1, .int what)]) C dX11_counted_13 (by decide) rfl ?_
  refine r_iload C dX11_counted_15 0 rfl ?_
  refine r_iload_n C dX11_counted_17 2 rfl ?_
  refine r_icmp_ge (tgt := 49) C dX11_counted_18 (by decide) (fun c => absurd c (by decide)) (fun _ => ?_)
  refine r_iload C dX11_counted_21 1 rfl ?_
  refine r_if_eq (tgt := 40) C dX11_counted_23 (by decide) (fun c => absurd c (by decide)) (fun _ => ?_)
  refine r_aload_n C dX11_counted_26 4 rfl ?_
  refine r_iload_n C dX11_counted_27 2 rfl ?_
  refine r_iload C dX11_counted_28 0 rfl ?_
  obtain ⟨h143, hp⟩ := hp
  refine r_callV (ci := 9) (wc := [[(o, .inr (9, [.ref aS, .ref aPast, .int known, .ref aSnap, .int kept, .ref aText, .int len, .int thr, .ref aOne, .ref aTwo, .ref aBoth, .ref aWord, .int cre, .ref aOpen, .ref aTimes, .ref aFar, .ref aQueue, .long hash]))], [(aS, .inl (cI, 335, .inl fS))]]) (wr := [[(aOne, .inl (cI, 4, .inl g139))], [(aTwo, .inl (cI, 4, .inl g140))], [(aBoth, .inl (cI, 4, .inl g141))]]) (st := []) C (m_X11_areAlike l D cI cL cP cJ o aS aPast aSnap aText aOne aTwo aBoth aWord aOpen aTimes aFar aQueue known kept len thr cre hash fS 4 0 h143) k_X11_areAlike t_1191 [0, 1, 2, 3, 4] (show ([0, 1, 2, 3, 4] : List Nat).Perm (List.range 5) by decide) rfl rfl rfl (q0 := 0) rfl rfl rfl (Nat.le_of_ble_eq_true rfl) ⟨Nat.le_of_ble_eq_true rfl, Nat.le_of_ble_eq_true rfl⟩ ⟨Nat.zero_le _, Nat.zero_le _⟩ dX11_counted_30 (fun r144 wr144 hw144 => ?_)
  obtain ⟨e_r144, rfl⟩ := hw144
  have hp := hp r144 e_r144
  refine r_ws (I' := [[(o, .inr (9, [.ref aS, .ref aPast, .int known, .ref aSnap, .int kept, .ref aText, .int len, .int thr, .ref aOne, .ref aTwo, .ref aBoth, .ref aWord, .int cre, .ref aOpen, .ref aTimes, .ref aFar, .ref aQueue, .long hash]))], [(aS, .inl (cI, 335, .inl fS))], [(aOne, .inl (cI, 4, .inl g139))], [(aTwo, .inl (cI, 4, .inl g140))], [(aBoth, .inl (cI, 4, .inl g141))]]) rfl ?_
  suffices K : ∀ x146 : Int32, x146 = ((if r144 = 0 then (1) else (0))) → V p l e (rmm 5 115) s m args below meth c 6 D A 0 0 Q [[(o, .inr (9, [.ref aS, .ref aPast, .int known, .ref aSnap, .int kept, .ref aText, .int len, .int thr, .ref aOne, .ref aTwo, .ref aBoth, .ref aWord, .int cre, .ref aOpen, .ref aTimes, .ref aFar, .ref aQueue, .long hash]))], [(aS, .inl (cI, 335, .inl fS))], [(aOne, .inl (cI, 4, .inl g139))], [(aTwo, .inl (cI, 4, .inl g140))], [(aBoth, .inl (cI, 4, .inl g141))]] [(5, .int 0), (4, .int 1), (3, .int 4), (2, .int x142), (0, .ref o), (1, .int what)] 41 [.int x146] by
    refine r_if_ne (tgt := 40) C dX11_counted_33 (by decide) (fun c145 => ?_) (fun c145 => ?_)
    · refine r_iconst (v := 0) C dX11_counted_40 (by decide) ?_
      exact K _ (by simp only [if_neg c145])
    · refine r_iconst (v := 1) C dX11_counted_36 (by decide) ?_
      refine r_goto (tgt := 41) C dX11_counted_37 (by decide) ?_
      exact K _ (by simp only [if_pos c145])
  intro x146 e_x146
  have hp := hp x146 e_x146
  refine r_istore (L' := [(4, .int x146), (5, .int 0), (3, .int 4), (2, .int x142), (0, .ref o), (1, .int what)]) C dX11_counted_41 (by decide) rfl ?_
  refine r_iinc (v := 1) (L' := [(5, .int 1), (4, .int x146), (3, .int 4), (2, .int x142), (0, .ref o), (1, .int what)]) C dX11_counted_43 1 rfl (by decide) (by decide) rfl ?_
  refine r_goto (tgt := 15) C dX11_counted_46 (by decide) ?_
  refine r_iload C dX11_counted_15 0 rfl ?_
  refine r_iload_n C dX11_counted_17 2 rfl ?_
  refine r_icmp_ge (tgt := 49) C dX11_counted_18 (by decide) (fun c => absurd c (by decide)) (fun _ => ?_)
  refine r_iload C dX11_counted_21 1 rfl ?_
  obtain ⟨hps, hp⟩ := hp
  suffices K : ∀ x151 : Int32, x151 = ((if x146 = 0 then (0) else (let r149 : Int32 := F_X11_areAlike fS 4 1; (if r149 = 0 then (1) else (0))))) → V p l e (rmm 5 115) s m args below meth c 6 D A 0 0 Q [[(o, .inr (9, [.ref aS, .ref aPast, .int known, .ref aSnap, .int kept, .ref aText, .int len, .int thr, .ref aOne, .ref aTwo, .ref aBoth, .ref aWord, .int cre, .ref aOpen, .ref aTimes, .ref aFar, .ref aQueue, .long hash]))], [(aS, .inl (cI, 335, .inl fS))], [(aOne, .inl (cI, 4, .inl g139))], [(aTwo, .inl (cI, 4, .inl g140))], [(aBoth, .inl (cI, 4, .inl g141))]] [(5, .int 1), (4, .int x146), (3, .int 4), (2, .int x142), (0, .ref o), (1, .int what)] 41 [.int x151] by
    have hp := hps
    refine r_if_eq (tgt := 40) C dX11_counted_23 (by decide) (fun c147 => ?_) (fun c147 => ?_)
    · refine r_iconst (v := 0) C dX11_counted_40 (by decide) ?_
      exact K _ (by simp only [if_pos c147])
    · have hp := hp.2 c147
      refine r_aload_n C dX11_counted_26 4 rfl ?_
      refine r_iload_n C dX11_counted_27 2 rfl ?_
      refine r_iload C dX11_counted_28 0 rfl ?_
      have h148 := hp
      refine r_callV (ci := 9) (wc := [[(o, .inr (9, [.ref aS, .ref aPast, .int known, .ref aSnap, .int kept, .ref aText, .int len, .int thr, .ref aOne, .ref aTwo, .ref aBoth, .ref aWord, .int cre, .ref aOpen, .ref aTimes, .ref aFar, .ref aQueue, .long hash]))], [(aS, .inl (cI, 335, .inl fS))]]) (wr := [[(aOne, .inl (cI, 4, .inl g139))], [(aTwo, .inl (cI, 4, .inl g140))], [(aBoth, .inl (cI, 4, .inl g141))]]) (st := []) C (m_X11_areAlike l D cI cL cP cJ o aS aPast aSnap aText aOne aTwo aBoth aWord aOpen aTimes aFar aQueue known kept len thr cre hash fS 4 1 h148) k_X11_areAlike t_1191 [0, 1, 2, 3, 4] (show ([0, 1, 2, 3, 4] : List Nat).Perm (List.range 5) by decide) rfl rfl rfl (q0 := 0) rfl rfl rfl (Nat.le_of_ble_eq_true rfl) ⟨Nat.le_of_ble_eq_true rfl, Nat.le_of_ble_eq_true rfl⟩ ⟨Nat.zero_le _, Nat.zero_le _⟩ dX11_counted_30 (fun r149 wr149 hw149 => ?_)
      obtain ⟨e_r149, rfl⟩ := hw149
      refine r_ws (I' := [[(o, .inr (9, [.ref aS, .ref aPast, .int known, .ref aSnap, .int kept, .ref aText, .int len, .int thr, .ref aOne, .ref aTwo, .ref aBoth, .ref aWord, .int cre, .ref aOpen, .ref aTimes, .ref aFar, .ref aQueue, .long hash]))], [(aS, .inl (cI, 335, .inl fS))], [(aOne, .inl (cI, 4, .inl g139))], [(aTwo, .inl (cI, 4, .inl g140))], [(aBoth, .inl (cI, 4, .inl g141))]]) rfl ?_
      refine r_if_ne (tgt := 40) C dX11_counted_33 (by decide) (fun c150 => ?_) (fun c150 => ?_)
      · refine r_iconst (v := 0) C dX11_counted_40 (by decide) ?_
        exact K _ (by have q := e_r149.symm; subst q; simp only [if_neg c147, if_neg c150])
      · refine r_iconst (v := 1) C dX11_counted_36 (by decide) ?_
        refine r_goto (tgt := 41) C dX11_counted_37 (by decide) ?_
        exact K _ (by have q := e_r149.symm; subst q; simp only [if_neg c147, if_pos c150])
  intro x151 e_x151
  have hp := hp x151 e_x151
  refine r_istore (L' := [(4, .int x151), (5, .int 1), (3, .int 4), (2, .int x142), (0, .ref o), (1, .int what)]) C dX11_counted_41 (by decide) rfl ?_
  refine r_iinc (v := 2) (L' := [(5, .int 2), (4, .int x151), (3, .int 4), (2, .int x142), (0, .ref o), (1, .int what)]) C dX11_counted_43 1 rfl (by decide) (by decide) rfl ?_
  refine r_goto (tgt := 15) C dX11_counted_46 (by decide) ?_
  refine r_iload C dX11_counted_15 0 rfl ?_
  refine r_iload_n C dX11_counted_17 2 rfl ?_
  refine r_icmp_ge (tgt := 49) C dX11_counted_18 (by decide) (fun c => absurd c (by decide)) (fun _ => ?_)
  refine r_iload C dX11_counted_21 1 rfl ?_
  obtain ⟨hps, hp⟩ := hp
  suffices K : ∀ x156 : Int32, x156 = ((if x151 = 0 then (0) else (let r154 : Int32 := F_X11_areAlike fS 4 2; (if r154 = 0 then (1) else (0))))) → V p l e (rmm 5 115) s m args below meth c 6 D A 0 0 Q [[(o, .inr (9, [.ref aS, .ref aPast, .int known, .ref aSnap, .int kept, .ref aText, .int len, .int thr, .ref aOne, .ref aTwo, .ref aBoth, .ref aWord, .int cre, .ref aOpen, .ref aTimes, .ref aFar, .ref aQueue, .long hash]))], [(aS, .inl (cI, 335, .inl fS))], [(aOne, .inl (cI, 4, .inl g139))], [(aTwo, .inl (cI, 4, .inl g140))], [(aBoth, .inl (cI, 4, .inl g141))]] [(5, .int 2), (4, .int x151), (3, .int 4), (2, .int x142), (0, .ref o), (1, .int what)] 41 [.int x156] by
    have hp := hps
    refine r_if_eq (tgt := 40) C dX11_counted_23 (by decide) (fun c152 => ?_) (fun c152 => ?_)
    · refine r_iconst (v := 0) C dX11_counted_40 (by decide) ?_
      exact K _ (by simp only [if_pos c152])
    · have hp := hp.2 c152
      refine r_aload_n C dX11_counted_26 4 rfl ?_
      refine r_iload_n C dX11_counted_27 2 rfl ?_
      refine r_iload C dX11_counted_28 0 rfl ?_
      have h153 := hp
      refine r_callV (ci := 9) (wc := [[(o, .inr (9, [.ref aS, .ref aPast, .int known, .ref aSnap, .int kept, .ref aText, .int len, .int thr, .ref aOne, .ref aTwo, .ref aBoth, .ref aWord, .int cre, .ref aOpen, .ref aTimes, .ref aFar, .ref aQueue, .long hash]))], [(aS, .inl (cI, 335, .inl fS))]]) (wr := [[(aOne, .inl (cI, 4, .inl g139))], [(aTwo, .inl (cI, 4, .inl g140))], [(aBoth, .inl (cI, 4, .inl g141))]]) (st := []) C (m_X11_areAlike l D cI cL cP cJ o aS aPast aSnap aText aOne aTwo aBoth aWord aOpen aTimes aFar aQueue known kept len thr cre hash fS 4 2 h153) k_X11_areAlike t_1191 [0, 1, 2, 3, 4] (show ([0, 1, 2, 3, 4] : List Nat).Perm (List.range 5) by decide) rfl rfl rfl (q0 := 0) rfl rfl rfl (Nat.le_of_ble_eq_true rfl) ⟨Nat.le_of_ble_eq_true rfl, Nat.le_of_ble_eq_true rfl⟩ ⟨Nat.zero_le _, Nat.zero_le _⟩ dX11_counted_30 (fun r154 wr154 hw154 => ?_)
      obtain ⟨e_r154, rfl⟩ := hw154
      refine r_ws (I' := [[(o, .inr (9, [.ref aS, .ref aPast, .int known, .ref aSnap, .int kept, .ref aText, .int len, .int thr, .ref aOne, .ref aTwo, .ref aBoth, .ref aWord, .int cre, .ref aOpen, .ref aTimes, .ref aFar, .ref aQueue, .long hash]))], [(aS, .inl (cI, 335, .inl fS))], [(aOne, .inl (cI, 4, .inl g139))], [(aTwo, .inl (cI, 4, .inl g140))], [(aBoth, .inl (cI, 4, .inl g141))]]) rfl ?_
      refine r_if_ne (tgt := 40) C dX11_counted_33 (by decide) (fun c155 => ?_) (fun c155 => ?_)
      · refine r_iconst (v := 0) C dX11_counted_40 (by decide) ?_
        exact K _ (by have q := e_r154.symm; subst q; simp only [if_neg c152, if_neg c155])
      · refine r_iconst (v := 1) C dX11_counted_36 (by decide) ?_
        refine r_goto (tgt := 41) C dX11_counted_37 (by decide) ?_
        exact K _ (by have q := e_r154.symm; subst q; simp only [if_neg c152, if_pos c155])
  intro x156 e_x156
  have hp := hp x156 e_x156
  refine r_istore (L' := [(4, .int x156), (5, .int 2), (3, .int 4), (2, .int x142), (0, .ref o), (1, .int what)]) C dX11_counted_41 (by decide) rfl ?_
  refine r_iinc (v := 3) (L' := [(5, .int 3), (4, .int x156), (3, .int 4), (2, .int x142), (0, .ref o), (1, .int what)]) C dX11_counted_43 1 rfl (by decide) (by decide) rfl ?_
  refine r_goto (tgt := 15) C dX11_counted_46 (by decide) ?_
  refine r_iload C dX11_counted_15 0 rfl ?_
  refine r_iload_n C dX11_counted_17 2 rfl ?_
  refine r_icmp_ge (tgt := 49) C dX11_counted_18 (by decide) (fun c => absurd c (by decide)) (fun _ => ?_)
  refine r_iload C dX11_counted_21 1 rfl ?_
  obtain ⟨hps, hp⟩ := hp
  suffices K : ∀ x161 : Int32, x161 = ((if x156 = 0 then (0) else (let r159 : Int32 := F_X11_areAlike fS 4 3; (if r159 = 0 then (1) else (0))))) → V p l e (rmm 5 115) s m args below meth c 6 D A 0 0 Q [[(o, .inr (9, [.ref aS, .ref aPast, .int known, .ref aSnap, .int kept, .ref aText, .int len, .int thr, .ref aOne, .ref aTwo, .ref aBoth, .ref aWord, .int cre, .ref aOpen, .ref aTimes, .ref aFar, .ref aQueue, .long hash]))], [(aS, .inl (cI, 335, .inl fS))], [(aOne, .inl (cI, 4, .inl g139))], [(aTwo, .inl (cI, 4, .inl g140))], [(aBoth, .inl (cI, 4, .inl g141))]] [(5, .int 3), (4, .int x156), (3, .int 4), (2, .int x142), (0, .ref o), (1, .int what)] 41 [.int x161] by
    have hp := hps
    refine r_if_eq (tgt := 40) C dX11_counted_23 (by decide) (fun c157 => ?_) (fun c157 => ?_)
    · refine r_iconst (v := 0) C dX11_counted_40 (by decide) ?_
      exact K _ (by simp only [if_pos c157])
    · have hp := hp.2 c157
      refine r_aload_n C dX11_counted_26 4 rfl ?_
      refine r_iload_n C dX11_counted_27 2 rfl ?_
      refine r_iload C dX11_counted_28 0 rfl ?_
      have h158 := hp
      refine r_callV (ci := 9) (wc := [[(o, .inr (9, [.ref aS, .ref aPast, .int known, .ref aSnap, .int kept, .ref aText, .int len, .int thr, .ref aOne, .ref aTwo, .ref aBoth, .ref aWord, .int cre, .ref aOpen, .ref aTimes, .ref aFar, .ref aQueue, .long hash]))], [(aS, .inl (cI, 335, .inl fS))]]) (wr := [[(aOne, .inl (cI, 4, .inl g139))], [(aTwo, .inl (cI, 4, .inl g140))], [(aBoth, .inl (cI, 4, .inl g141))]]) (st := []) C (m_X11_areAlike l D cI cL cP cJ o aS aPast aSnap aText aOne aTwo aBoth aWord aOpen aTimes aFar aQueue known kept len thr cre hash fS 4 3 h158) k_X11_areAlike t_1191 [0, 1, 2, 3, 4] (show ([0, 1, 2, 3, 4] : List Nat).Perm (List.range 5) by decide) rfl rfl rfl (q0 := 0) rfl rfl rfl (Nat.le_of_ble_eq_true rfl) ⟨Nat.le_of_ble_eq_true rfl, Nat.le_of_ble_eq_true rfl⟩ ⟨Nat.zero_le _, Nat.zero_le _⟩ dX11_counted_30 (fun r159 wr159 hw159 => ?_)
      obtain ⟨e_r159, rfl⟩ := hw159
      refine r_ws (I' := [[(o, .inr (9, [.ref aS, .ref aPast, .int known, .ref aSnap, .int kept, .ref aText, .int len, .int thr, .ref aOne, .ref aTwo, .ref aBoth, .ref aWord, .int cre, .ref aOpen, .ref aTimes, .ref aFar, .ref aQueue, .long hash]))], [(aS, .inl (cI, 335, .inl fS))], [(aOne, .inl (cI, 4, .inl g139))], [(aTwo, .inl (cI, 4, .inl g140))], [(aBoth, .inl (cI, 4, .inl g141))]]) rfl ?_
      refine r_if_ne (tgt := 40) C dX11_counted_33 (by decide) (fun c160 => ?_) (fun c160 => ?_)
      · refine r_iconst (v := 0) C dX11_counted_40 (by decide) ?_
        exact K _ (by have q := e_r159.symm; subst q; simp only [if_neg c157, if_neg c160])
      · refine r_iconst (v := 1) C dX11_counted_36 (by decide) ?_
        refine r_goto (tgt := 41) C dX11_counted_37 (by decide) ?_
        exact K _ (by have q := e_r159.symm; subst q; simp only [if_neg c157, if_pos c160])
  intro x161 e_x161
  have hp := hp x161 e_x161
  refine r_istore (L' := [(4, .int x161), (5, .int 3), (3, .int 4), (2, .int x142), (0, .ref o), (1, .int what)]) C dX11_counted_41 (by decide) rfl ?_
  refine r_iinc (v := 4) (L' := [(5, .int 4), (4, .int x161), (3, .int 4), (2, .int x142), (0, .ref o), (1, .int what)]) C dX11_counted_43 1 rfl (by decide) (by decide) rfl ?_
  refine r_goto (tgt := 15) C dX11_counted_46 (by decide) ?_
  refine r_iload C dX11_counted_15 0 rfl ?_
  refine r_iload_n C dX11_counted_17 2 rfl ?_
  refine r_icmp_ge (tgt := 49) C dX11_counted_18 (by decide) (fun _ => ?_) (fun c => absurd c (by decide))
  refine r_aload_n C dX11_counted_49 4 rfl ?_
  refine r_iload_n C dX11_counted_50 2 rfl ?_
  obtain ⟨h162, hp⟩ := hp
  refine r_callV (ci := 9) (wc := [[(o, .inr (9, [.ref aS, .ref aPast, .int known, .ref aSnap, .int kept, .ref aText, .int len, .int thr, .ref aOne, .ref aTwo, .ref aBoth, .ref aWord, .int cre, .ref aOpen, .ref aTimes, .ref aFar, .ref aQueue, .long hash]))], [(aS, .inl (cI, 335, .inl fS))], [(aOne, .inl (cI, 4, .inl g139))]]) (wr := [[(aTwo, .inl (cI, 4, .inl g140))], [(aBoth, .inl (cI, 4, .inl g141))]]) (st := []) C (m_X11_lengthOf l D cI cL cP cJ o aS aPast aSnap aText aOne aTwo aBoth aWord aOpen aTimes aFar aQueue known kept len thr cre hash fS g139 4 h162) k_X11_lengthOf t_1002 [0, 1, 2, 3, 4] (show ([0, 1, 2, 3, 4] : List Nat).Perm (List.range 5) by decide) rfl rfl rfl (q0 := 0) rfl rfl rfl (Nat.le_of_ble_eq_true rfl) ⟨Nat.le_of_ble_eq_true rfl, Nat.le_of_ble_eq_true rfl⟩ ⟨Nat.zero_le _, Nat.zero_le _⟩ dX11_counted_51 (fun r163 wr163 hw163 => ?_)
  obtain ⟨e_r163, rfl⟩ := hw163
  have hp := hp r163 e_r163
  obtain ⟨g164, e_g164⟩ : ∃ z : Nat → Int32, z = (F_X11_lengthOf fS g139 4).2 := ⟨_, rfl⟩
  have hp := hp g164 e_g164
  refine r_ws (I' := [[(o, .inr (9, [.ref aS, .ref aPast, .int known, .ref aSnap, .int kept, .ref aText, .int len, .int thr, .ref aOne, .ref aTwo, .ref aBoth, .ref aWord, .int cre, .ref aOpen, .ref aTimes, .ref aFar, .ref aQueue, .long hash]))], [(aS, .inl (cI, 335, .inl fS))], [(aOne, .inl (cI, 4, .inl g164))], [(aTwo, .inl (cI, 4, .inl g140))], [(aBoth, .inl (cI, 4, .inl g141))]]) (by rw [e_g164]; rfl) ?_
  suffices K : ∀ x166 : Int32, x166 = ((if r163 = 0 then (1) else (0))) → V p l e (rmm 5 115) s m args below meth c 6 D A 0 0 Q [[(o, .inr (9, [.ref aS, .ref aPast, .int known, .ref aSnap, .int kept, .ref aText, .int len, .int thr, .ref aOne, .ref aTwo, .ref aBoth, .ref aWord, .int cre, .ref aOpen, .ref aTimes, .ref aFar, .ref aQueue, .long hash]))], [(aS, .inl (cI, 335, .inl fS))], [(aOne, .inl (cI, 4, .inl g164))], [(aTwo, .inl (cI, 4, .inl g140))], [(aBoth, .inl (cI, 4, .inl g141))]] [(5, .int 4), (4, .int x161), (3, .int 4), (2, .int x142), (0, .ref o), (1, .int what)] 62 [.int x166] by
    refine r_if_ne (tgt := 61) C dX11_counted_54 (by decide) (fun c165 => ?_) (fun c165 => ?_)
    · refine r_iconst (v := 0) C dX11_counted_61 (by decide) ?_
      exact K _ (by simp only [if_neg c165])
    · refine r_iconst (v := 1) C dX11_counted_57 (by decide) ?_
      refine r_goto (tgt := 62) C dX11_counted_58 (by decide) ?_
      exact K _ (by simp only [if_pos c165])
  intro x166 e_x166
  have hp := hp x166 e_x166
  refine r_istore (L' := [(5, .int x166), (4, .int x161), (3, .int 4), (2, .int x142), (0, .ref o), (1, .int what)]) C dX11_counted_62 (by decide) rfl ?_
  refine r_iload_n C dX11_counted_64 3 rfl ?_
  refine r_iload_n C dX11_counted_65 5 rfl ?_
  have hps := hp
  suffices K : ∀ x186 : Int32, x186 = ((if what = 0 then (let r185 : Int32 := F_X11_its fS 4 6; r185) else ((if what = 1 then (x166) else ((if what = 2 then (let r180 : Int32 := (F_X11_number fS g164 g140 g141 4 4).1; r180) else ((if what = 3 then (let r177 : Int32 := (F_X11_lengthOf fS g164 4).1; r177) else ((if what = 4 then (let r174 : Int32 := F_X11_its fS 4 5; let r175 : Int32 := F_X11_ones r174; r175) else ((if x161 = 0 then (0) else (1))))))))))))) → ∀ g187 : Nat → Int32, g187 = ((if what = 0 then (g164) else ((if what = 1 then (g164) else ((if what = 2 then (let g181 : Nat → Int32 := (F_X11_number fS g164 g140 g141 4 4).2.1; g181) else ((if what = 3 then (let g178 : Nat → Int32 := (F_X11_lengthOf fS g164 4).2; g178) else ((if what = 4 then (g164) else ((if x161 = 0 then (g164) else (g164))))))))))))) → ∀ g188 : Nat → Int32, g188 = ((if what = 0 then (g140) else ((if what = 1 then (g140) else ((if what = 2 then (let g182 : Nat → Int32 := (F_X11_number fS g164 g140 g141 4 4).2.2.1; g182) else ((if what = 3 then (g140) else ((if what = 4 then (g140) else ((if x161 = 0 then (g140) else (g140))))))))))))) → ∀ g189 : Nat → Int32, g189 = ((if what = 0 then (g141) else ((if what = 1 then (g141) else ((if what = 2 then (let g183 : Nat → Int32 := (F_X11_number fS g164 g140 g141 4 4).2.2.2; g183) else ((if what = 3 then (g141) else ((if what = 4 then (g141) else ((if x161 = 0 then (g141) else (g141))))))))))))) → V p l e (rmm 5 115) s m args below meth c 6 D A 0 0 Q [[(o, .inr (9, [.ref aS, .ref aPast, .int known, .ref aSnap, .int kept, .ref aText, .int len, .int thr, .ref aOne, .ref aTwo, .ref aBoth, .ref aWord, .int cre, .ref aOpen, .ref aTimes, .ref aFar, .ref aQueue, .long hash]))], [(aS, .inl (cI, 335, .inl fS))], [(aOne, .inl (cI, 4, .inl g187))], [(aTwo, .inl (cI, 4, .inl g188))], [(aBoth, .inl (cI, 4, .inl g189))]] [(5, .int x166), (4, .int x161), (3, .int 4), (2, .int x142), (0, .ref o), (1, .int what)] 143 [.int x186, .int x142] by
    have hp := hps
    refine r_if_ne (tgt := 79) C dX11_counted_66 (by decide) (fun c167 => ?_) (fun c167 => ?_)
    · have hp := hp.2 c167
      refine r_iload_n C dX11_counted_79 5 rfl ?_
      refine r_iconst (v := 1) C dX11_counted_80 (by decide) ?_
      refine r_icmp_ne (tgt := 89) C dX11_counted_81 (by decide) (fun c168 => ?_) (fun c168 => ?_)
      · have hp := hp.2 c168
        refine r_iload_n C dX11_counted_89 5 rfl ?_
        refine r_iconst (v := 2) C dX11_counted_90 (by decide) ?_
        refine r_icmp_ne (tgt := 103) C dX11_counted_91 (by decide) (fun c169 => ?_) (fun c169 => ?_)
        · have hp := hp.2 c169
          refine r_iload_n C dX11_counted_103 5 rfl ?_
          refine r_iconst (v := 3) C dX11_counted_104 (by decide) ?_
          refine r_icmp_ne (tgt := 116) C dX11_counted_105 (by decide) (fun c170 => ?_) (fun c170 => ?_)
          · have hp := hp.2 c170
            refine r_iload_n C dX11_counted_116 5 rfl ?_
            refine r_iconst (v := 4) C dX11_counted_117 (by decide) ?_
            refine r_icmp_ne (tgt := 133) C dX11_counted_118 (by decide) (fun c171 => ?_) (fun c171 => ?_)
            · refine r_iload C dX11_counted_133 1 rfl ?_
              refine r_if_eq (tgt := 142) C dX11_counted_135 (by decide) (fun c172 => ?_) (fun c172 => ?_)
              · refine r_iconst (v := 0) C dX11_counted_142 (by decide) ?_
                exact K _ (by simp only [if_neg c167, if_neg c168, if_neg c169, if_neg c170, if_neg c171, if_pos c172]) _ (by simp only [if_neg c167, if_neg c168, if_neg c169, if_neg c170, if_neg c171, if_pos c172]) _ (by simp only [if_neg c167, if_neg c168, if_neg c169, if_neg c170, if_neg c171, if_pos c172]) _ (by simp only [if_neg c167, if_neg c168, if_neg c169, if_neg c170, if_neg c171, if_pos c172])
              · refine r_iconst (v := 1) C dX11_counted_138 (by decide) ?_
                refine r_goto (tgt := 143) C dX11_counted_139 (by decide) ?_
                exact K _ (by simp only [if_neg c167, if_neg c168, if_neg c169, if_neg c170, if_neg c171, if_neg c172]) _ (by simp only [if_neg c167, if_neg c168, if_neg c169, if_neg c170, if_neg c171, if_neg c172]) _ (by simp only [if_neg c167, if_neg c168, if_neg c169, if_neg c170, if_neg c171, if_neg c172]) _ (by simp only [if_neg c167, if_neg c168, if_neg c169, if_neg c170, if_neg c171, if_neg c172])
            · have hp := hp.1 c171
              refine r_aload_n C dX11_counted_121 4 rfl ?_
              refine r_iload_n C dX11_counted_122 2 rfl ?_
              refine r_iconst (v := 5) C dX11_counted_123 (by decide) ?_
              have h173 := hp
              refine r_callV (ci := 9) (wc := [[(o, .inr (9, [.ref aS, .ref aPast, .int known, .ref aSnap, .int kept, .ref aText, .int len, .int thr, .ref aOne, .ref aTwo, .ref aBoth, .ref aWord, .int cre, .ref aOpen, .ref aTimes, .ref aFar, .ref aQueue, .long hash]))], [(aS, .inl (cI, 335, .inl fS))]]) (wr := [[(aOne, .inl (cI, 4, .inl g164))], [(aTwo, .inl (cI, 4, .inl g140))], [(aBoth, .inl (cI, 4, .inl g141))]]) (st := [.int x142]) C (m_X11_its l D cI cL cP cJ o aS aPast aSnap aText aOne aTwo aBoth aWord aOpen aTimes aFar aQueue known kept len thr cre hash fS 4 5 h173) k_X11_its t_966 [0, 1, 2, 3, 4] (show ([0, 1, 2, 3, 4] : List Nat).Perm (List.range 5) by decide) rfl rfl rfl (q0 := 0) rfl rfl rfl (Nat.le_of_ble_eq_true rfl) ⟨Nat.le_of_ble_eq_true rfl, Nat.le_of_ble_eq_true rfl⟩ ⟨Nat.zero_le _, Nat.zero_le _⟩ dX11_counted_124 (fun r174 wr174 hw174 => ?_)
              obtain ⟨e_r174, rfl⟩ := hw174
              refine r_ws (I' := [[(o, .inr (9, [.ref aS, .ref aPast, .int known, .ref aSnap, .int kept, .ref aText, .int len, .int thr, .ref aOne, .ref aTwo, .ref aBoth, .ref aWord, .int cre, .ref aOpen, .ref aTimes, .ref aFar, .ref aQueue, .long hash]))], [(aS, .inl (cI, 335, .inl fS))], [(aOne, .inl (cI, 4, .inl g164))], [(aTwo, .inl (cI, 4, .inl g140))], [(aBoth, .inl (cI, 4, .inl g141))]]) rfl ?_
              refine r_callS (wc := []) (wr := [[(o, .inr (9, [.ref aS, .ref aPast, .int known, .ref aSnap, .int kept, .ref aText, .int len, .int thr, .ref aOne, .ref aTwo, .ref aBoth, .ref aWord, .int cre, .ref aOpen, .ref aTimes, .ref aFar, .ref aQueue, .long hash]))], [(aS, .inl (cI, 335, .inl fS))], [(aOne, .inl (cI, 4, .inl g164))], [(aTwo, .inl (cI, 4, .inl g140))], [(aBoth, .inl (cI, 4, .inl g141))]]) (st := [.int x142]) C (m_X11_ones l D cI cL cP cJ r174) k_X11_ones t_1072 [0, 1, 2, 3, 4] (show ([0, 1, 2, 3, 4] : List Nat).Perm (List.range 5) by decide) rfl rfl rfl (Nat.le_of_ble_eq_true rfl) ⟨Nat.le_of_ble_eq_true rfl, Nat.le_of_ble_eq_true rfl⟩ ⟨Nat.zero_le _, Nat.zero_le _⟩ dX11_counted_127 (fun r175 wr175 hw175 => ?_)
              obtain ⟨e_r175, rfl⟩ := hw175
              refine r_ws (I' := [[(o, .inr (9, [.ref aS, .ref aPast, .int known, .ref aSnap, .int kept, .ref aText, .int len, .int thr, .ref aOne, .ref aTwo, .ref aBoth, .ref aWord, .int cre, .ref aOpen, .ref aTimes, .ref aFar, .ref aQueue, .long hash]))], [(aS, .inl (cI, 335, .inl fS))], [(aOne, .inl (cI, 4, .inl g164))], [(aTwo, .inl (cI, 4, .inl g140))], [(aBoth, .inl (cI, 4, .inl g141))]]) rfl ?_
              refine r_goto (tgt := 143) C dX11_counted_130 (by decide) ?_
              exact K _ (by have q := e_r174.symm; subst q; have q := e_r175.symm; subst q; simp only [if_neg c167, if_neg c168, if_neg c169, if_neg c170, if_pos c171]) _ (by have q := e_r174.symm; subst q; have q := e_r175.symm; subst q; simp only [if_neg c167, if_neg c168, if_neg c169, if_neg c170, if_pos c171]) _ (by have q := e_r174.symm; subst q; have q := e_r175.symm; subst q; simp only [if_neg c167, if_neg c168, if_neg c169, if_neg c170, if_pos c171]) _ (by have q := e_r174.symm; subst q; have q := e_r175.symm; subst q; simp only [if_neg c167, if_neg c168, if_neg c169, if_neg c170, if_pos c171])
          · have hp := hp.1 c170
            refine r_aload_n C dX11_counted_108 4 rfl ?_
            refine r_iload_n C dX11_counted_109 2 rfl ?_
            have h176 := hp
            refine r_callV (ci := 9) (wc := [[(o, .inr (9, [.ref aS, .ref aPast, .int known, .ref aSnap, .int kept, .ref aText, .int len, .int thr, .ref aOne, .ref aTwo, .ref aBoth, .ref aWord, .int cre, .ref aOpen, .ref aTimes, .ref aFar, .ref aQueue, .long hash]))], [(aS, .inl (cI, 335, .inl fS))], [(aOne, .inl (cI, 4, .inl g164))]]) (wr := [[(aTwo, .inl (cI, 4, .inl g140))], [(aBoth, .inl (cI, 4, .inl g141))]]) (st := [.int x142]) C (m_X11_lengthOf l D cI cL cP cJ o aS aPast aSnap aText aOne aTwo aBoth aWord aOpen aTimes aFar aQueue known kept len thr cre hash fS g164 4 h176) k_X11_lengthOf t_1002 [0, 1, 2, 3, 4] (show ([0, 1, 2, 3, 4] : List Nat).Perm (List.range 5) by decide) rfl rfl rfl (q0 := 0) rfl rfl rfl (Nat.le_of_ble_eq_true rfl) ⟨Nat.le_of_ble_eq_true rfl, Nat.le_of_ble_eq_true rfl⟩ ⟨Nat.zero_le _, Nat.zero_le _⟩ dX11_counted_110 (fun r177 wr177 hw177 => ?_)
            obtain ⟨e_r177, rfl⟩ := hw177
            obtain ⟨g178, e_g178⟩ : ∃ z : Nat → Int32, z = (F_X11_lengthOf fS g164 4).2 := ⟨_, rfl⟩
            refine r_ws (I' := [[(o, .inr (9, [.ref aS, .ref aPast, .int known, .ref aSnap, .int kept, .ref aText, .int len, .int thr, .ref aOne, .ref aTwo, .ref aBoth, .ref aWord, .int cre, .ref aOpen, .ref aTimes, .ref aFar, .ref aQueue, .long hash]))], [(aS, .inl (cI, 335, .inl fS))], [(aOne, .inl (cI, 4, .inl g178))], [(aTwo, .inl (cI, 4, .inl g140))], [(aBoth, .inl (cI, 4, .inl g141))]]) (by rw [e_g178]; rfl) ?_
            refine r_goto (tgt := 143) C dX11_counted_113 (by decide) ?_
            exact K _ (by have q := e_r177.symm; subst q; have q := e_g178.symm; subst q; simp only [if_neg c167, if_neg c168, if_neg c169, if_pos c170]) _ (by have q := e_r177.symm; subst q; have q := e_g178.symm; subst q; simp only [if_neg c167, if_neg c168, if_neg c169, if_pos c170]) _ (by have q := e_r177.symm; subst q; have q := e_g178.symm; subst q; simp only [if_neg c167, if_neg c168, if_neg c169, if_pos c170]) _ (by have q := e_r177.symm; subst q; have q := e_g178.symm; subst q; simp only [if_neg c167, if_neg c168, if_neg c169, if_pos c170])
        · have hp := hp.1 c169
          refine r_aload_n C dX11_counted_94 4 rfl ?_
          refine r_iload_n C dX11_counted_95 2 rfl ?_
          refine r_iconst (v := 4) C dX11_counted_96 (by decide) ?_
          have h179 := hp
          refine r_callV (ci := 9) (wc := [[(o, .inr (9, [.ref aS, .ref aPast, .int known, .ref aSnap, .int kept, .ref aText, .int len, .int thr, .ref aOne, .ref aTwo, .ref aBoth, .ref aWord, .int cre, .ref aOpen, .ref aTimes, .ref aFar, .ref aQueue, .long hash]))], [(aS, .inl (cI, 335, .inl fS))], [(aOne, .inl (cI, 4, .inl g164))], [(aTwo, .inl (cI, 4, .inl g140))], [(aBoth, .inl (cI, 4, .inl g141))]]) (wr := []) (st := [.int x142]) C (m_X11_number l D cI cL cP cJ o aS aPast aSnap aText aOne aTwo aBoth aWord aOpen aTimes aFar aQueue known kept len thr cre hash fS g164 g140 g141 4 4 h179) k_X11_number t_1147 [0, 1, 2, 3, 4] (show ([0, 1, 2, 3, 4] : List Nat).Perm (List.range 5) by decide) rfl rfl rfl (q0 := 0) rfl rfl rfl (Nat.le_of_ble_eq_true rfl) ⟨Nat.le_of_ble_eq_true rfl, Nat.le_of_ble_eq_true rfl⟩ ⟨Nat.zero_le _, Nat.zero_le _⟩ dX11_counted_97 (fun r180 wr180 hw180 => ?_)
          obtain ⟨e_r180, rfl⟩ := hw180
          obtain ⟨g181, e_g181⟩ : ∃ z : Nat → Int32, z = (F_X11_number fS g164 g140 g141 4 4).2.1 := ⟨_, rfl⟩
          obtain ⟨g182, e_g182⟩ : ∃ z : Nat → Int32, z = (F_X11_number fS g164 g140 g141 4 4).2.2.1 := ⟨_, rfl⟩
          obtain ⟨g183, e_g183⟩ : ∃ z : Nat → Int32, z = (F_X11_number fS g164 g140 g141 4 4).2.2.2 := ⟨_, rfl⟩
          refine r_ws (I' := [[(o, .inr (9, [.ref aS, .ref aPast, .int known, .ref aSnap, .int kept, .ref aText, .int len, .int thr, .ref aOne, .ref aTwo, .ref aBoth, .ref aWord, .int cre, .ref aOpen, .ref aTimes, .ref aFar, .ref aQueue, .long hash]))], [(aS, .inl (cI, 335, .inl fS))], [(aOne, .inl (cI, 4, .inl g181))], [(aTwo, .inl (cI, 4, .inl g182))], [(aBoth, .inl (cI, 4, .inl g183))]]) (by rw [e_g181, e_g182, e_g183]; rfl) ?_
          refine r_goto (tgt := 143) C dX11_counted_100 (by decide) ?_
          exact K _ (by have q := e_r180.symm; subst q; have q := e_g181.symm; subst q; have q := e_g182.symm; subst q; have q := e_g183.symm; subst q; simp only [if_neg c167, if_neg c168, if_pos c169]) _ (by have q := e_r180.symm; subst q; have q := e_g181.symm; subst q; have q := e_g182.symm; subst q; have q := e_g183.symm; subst q; simp only [if_neg c167, if_neg c168, if_pos c169]) _ (by have q := e_r180.symm; subst q; have q := e_g181.symm; subst q; have q := e_g182.symm; subst q; have q := e_g183.symm; subst q; simp only [if_neg c167, if_neg c168, if_pos c169]) _ (by have q := e_r180.symm; subst q; have q := e_g181.symm; subst q; have q := e_g182.symm; subst q; have q := e_g183.symm; subst q; simp only [if_neg c167, if_neg c168, if_pos c169])
      · refine r_iload C dX11_counted_84 0 rfl ?_
        refine r_goto (tgt := 143) C dX11_counted_86 (by decide) ?_
        exact K _ (by simp only [if_neg c167, if_pos c168]) _ (by simp only [if_neg c167, if_pos c168]) _ (by simp only [if_neg c167, if_pos c168]) _ (by simp only [if_neg c167, if_pos c168])
    · have hp := hp.1 c167
      refine r_aload_n C dX11_counted_69 4 rfl ?_
      refine r_iload_n C dX11_counted_70 2 rfl ?_
      refine r_bipush (v := 6) C dX11_counted_71 (by decide) ?_
      have h184 := hp
      refine r_callV (ci := 9) (wc := [[(o, .inr (9, [.ref aS, .ref aPast, .int known, .ref aSnap, .int kept, .ref aText, .int len, .int thr, .ref aOne, .ref aTwo, .ref aBoth, .ref aWord, .int cre, .ref aOpen, .ref aTimes, .ref aFar, .ref aQueue, .long hash]))], [(aS, .inl (cI, 335, .inl fS))]]) (wr := [[(aOne, .inl (cI, 4, .inl g164))], [(aTwo, .inl (cI, 4, .inl g140))], [(aBoth, .inl (cI, 4, .inl g141))]]) (st := [.int x142]) C (m_X11_its l D cI cL cP cJ o aS aPast aSnap aText aOne aTwo aBoth aWord aOpen aTimes aFar aQueue known kept len thr cre hash fS 4 6 h184) k_X11_its t_966 [0, 1, 2, 3, 4] (show ([0, 1, 2, 3, 4] : List Nat).Perm (List.range 5) by decide) rfl rfl rfl (q0 := 0) rfl rfl rfl (Nat.le_of_ble_eq_true rfl) ⟨Nat.le_of_ble_eq_true rfl, Nat.le_of_ble_eq_true rfl⟩ ⟨Nat.zero_le _, Nat.zero_le _⟩ dX11_counted_73 (fun r185 wr185 hw185 => ?_)
      obtain ⟨e_r185, rfl⟩ := hw185
      refine r_ws (I' := [[(o, .inr (9, [.ref aS, .ref aPast, .int known, .ref aSnap, .int kept, .ref aText, .int len, .int thr, .ref aOne, .ref aTwo, .ref aBoth, .ref aWord, .int cre, .ref aOpen, .ref aTimes, .ref aFar, .ref aQueue, .long hash]))], [(aS, .inl (cI, 335, .inl fS))], [(aOne, .inl (cI, 4, .inl g164))], [(aTwo, .inl (cI, 4, .inl g140))], [(aBoth, .inl (cI, 4, .inl g141))]]) rfl ?_
      refine r_goto (tgt := 143) C dX11_counted_76 (by decide) ?_
      exact K _ (by have q := e_r185.symm; subst q; simp only [if_pos c167]) _ (by have q := e_r185.symm; subst q; simp only [if_pos c167]) _ (by have q := e_r185.symm; subst q; simp only [if_pos c167]) _ (by have q := e_r185.symm; subst q; simp only [if_pos c167])
  intro x186 e_x186 g187 e_g187 g188 e_g188 g189 e_g189
  refine r_iadd C dX11_counted_143 rfl ?_
  refine r_top (fun x190 e_x190 => ?_)
  refine r_istore_n (L' := [(2, .int x190), (5, .int x166), (4, .int x161), (3, .int 4), (0, .ref o), (1, .int what)]) C dX11_counted_144 (by decide) rfl ?_
  refine r_iinc (v := 5) (L' := [(3, .int 5), (2, .int x190), (5, .int x166), (4, .int x161), (0, .ref o), (1, .int what)]) C dX11_counted_145 3 rfl (by decide) (by decide) rfl ?_
  refine r_goto (tgt := 4) C dX11_counted_148 (by decide) ?_
  refine r_iload_n C dX11_counted_4 0 rfl ?_
  refine r_iconst (v := 5) C dX11_counted_5 (by decide) ?_
  refine r_icmp_ge (tgt := 151) C dX11_counted_6 (by decide) (fun _ => ?_) (fun c => absurd c (by decide))
  refine r_iload_n C dX11_counted_151 5 rfl ?_
  refine r_bipush (v := 6) C dX11_counted_152 (by decide) ?_
  suffices K : ∀ x192 : Int32, x192 = ((if what = 6 then (known) else (x190))) → V p l e (rmm 5 115) s m args below meth c 6 D A 0 0 Q [[(o, .inr (9, [.ref aS, .ref aPast, .int known, .ref aSnap, .int kept, .ref aText, .int len, .int thr, .ref aOne, .ref aTwo, .ref aBoth, .ref aWord, .int cre, .ref aOpen, .ref aTimes, .ref aFar, .ref aQueue, .long hash]))], [(aS, .inl (cI, 335, .inl fS))], [(aOne, .inl (cI, 4, .inl g187))], [(aTwo, .inl (cI, 4, .inl g188))], [(aBoth, .inl (cI, 4, .inl g189))]] [(3, .int 5), (2, .int x190), (5, .int x166), (4, .int x161), (0, .ref o), (1, .int what)] 165 [.int x192] by
    refine r_icmp_ne (tgt := 164) C dX11_counted_154 (by decide) (fun c191 => ?_) (fun c191 => ?_)
    · refine r_iload_n C dX11_counted_164 1 rfl ?_
      exact K _ (by simp only [if_neg c191])
    · refine r_aload_n C dX11_counted_157 4 rfl ?_
      refine r_get (Cn := RX11) (T := TX11) (N := 18) C inT11 0 rfl rfl 2 (by decide) t_895 rfl dX11_counted_158 ?_
      refine r_goto (tgt := 165) C dX11_counted_161 (by decide) ?_
      exact K _ (by simp only [if_pos c191])
  intro x192 e_x192
  have eF : F_X11_counted known fS fOne fTwo fBoth what = (x192, g187, g188, g189) := by have q := e_r2.symm; subst q; have q := e_g3.symm; subst q; have q := e_x5.symm; subst q; have q := e_x24.symm; subst q; have q := e_g25.symm; subst q; have q := e_g26.symm; subst q; have q := e_g27.symm; subst q; have q := e_x28.symm; subst q; have q := e_r30.symm; subst q; have q := e_x32.symm; subst q; have q := e_r34.symm; subst q; have q := e_g35.symm; subst q; have q := e_x37.symm; subst q; have q := e_x57.symm; subst q; have q := e_g58.symm; subst q; have q := e_g59.symm; subst q; have q := e_g60.symm; subst q; have q := e_x61.symm; subst q; have q := e_r63.symm; subst q; have q := e_x65.symm; subst q; have q := e_x70.symm; subst q; have q := e_r72.symm; subst q; have q := e_g73.symm; subst q; have q := e_x75.symm; subst q; have q := e_x95.symm; subst q; have q := e_g96.symm; subst q; have q := e_g97.symm; subst q; have q := e_g98.symm; subst q; have q := e_x99.symm; subst q; have q := e_r101.symm; subst q; have q := e_x103.symm; subst q; have q := e_x108.symm; subst q; have q := e_x113.symm; subst q; have q := e_r115.symm; subst q; have q := e_g116.symm; subst q; have q := e_x118.symm; subst q; have q := e_x138.symm; subst q; have q := e_g139.symm; subst q; have q := e_g140.symm; subst q; have q := e_g141.symm; subst q; have q := e_x142.symm; subst q; have q := e_r144.symm; subst q; have q := e_x146.symm; subst q; have q := e_x151.symm; subst q; have q := e_x156.symm; subst q; have q := e_x161.symm; subst q; have q := e_r163.symm; subst q; have q := e_g164.symm; subst q; have q := e_x166.symm; subst q; have q := e_x186.symm; subst q; have q := e_g187.symm; subst q; have q := e_g188.symm; subst q; have q := e_g189.symm; subst q; have q := e_x190.symm; subst q; have q := e_x192.symm; subst q; rfl
  exact r_iret (r := x192) C hA hr hlo dX11_counted_165 [[(o, .inr (9, [.ref aS, .ref aPast, .int known, .ref aSnap, .int kept, .ref aText, .int len, .int thr, .ref aOne, .ref aTwo, .ref aBoth, .ref aWord, .int cre, .ref aOpen, .ref aTimes, .ref aFar, .ref aQueue, .long hash]))], [(aS, .inl (cI, 335, .inl fS))], [(aOne, .inl (cI, 4, .inl g187))], [(aTwo, .inl (cI, 4, .inl g188))], [(aBoth, .inl (cI, 4, .inl g189))]] ⟨by simp only [eF], by simp only [eF]⟩ rfl hQ
theorem k_X11_count : kV yX11_count cX11_count 2 (some .int) 1 := ⟨t_1184, t_1185, t_67, t_1186, by decide +kernel, by decide +kernel, by decide +kernel⟩
set_option maxRecDepth 20000 in
def F_X11_count (known : Int32) (fS : Nat → Int32) (fOne : Nat → Int32) (fTwo : Nat → Int32) (fBoth : Nat → Int32) (what : Int32) : Int32 × Int32 × (Nat → Int32) × (Nat → Int32) × (Nat → Int32) := let r1 : Int32 := F_X11_in what 0 6; let x3 : Int32 := (if r1 = 0 then (1) else (0)); let r4 : Int32 := (F_X11_throwsAt x3).1; let x5 : Int32 := (F_X11_throwsAt x3).2; let x12 : Int32 := (if r4 = 0 then (let r8 : Int32 := (F_X11_counted known fS fOne fTwo fBoth what).1; r8) else (0)); let g13 : Nat → Int32 := (if r4 = 0 then (let g9 : Nat → Int32 := (F_X11_counted known fS fOne fTwo fBoth what).2.1; g9) else (fOne)); let g14 : Nat → Int32 := (if r4 = 0 then (let g10 : Nat → Int32 := (F_X11_counted known fS fOne fTwo fBoth what).2.2.1; g10) else (fTwo)); let g15 : Nat → Int32 := (if r4 = 0 then (let g11 : Nat → Int32 := (F_X11_counted known fS fOne fTwo fBoth what).2.2.2; g11) else (fBoth)); (x12, x5, g13, g14, g15)
set_option maxRecDepth 20000 in
def P_X11_count (fS : Nat → Int32) (fOne : Nat → Int32) (fTwo : Nat → Int32) (fBoth : Nat → Int32) (what : Int32) : Prop := (∀ r1 : Int32, r1 = F_X11_in what 0 6 → (∀ x3 : Int32, x3 = ((if r1 = 0 then (1) else (0))) → (∀ r4 : Int32, r4 = (F_X11_throwsAt x3).1 → (∀ x5 : Int32, x5 = (F_X11_throwsAt x3).2 → ((r4 = 0 → (P_X11_counted fS fOne fTwo fBoth what)) ∧ (¬ r4 = 0 → True))))))
set_option maxRecDepth 20000 in
set_option maxHeartbeats 8000000 in
theorem m_X11_count (l : Launch) (D : va_G) (cI cL cP cJ : ClassId) (o : Nat) (aS : Nat) (aPast : Nat) (aSnap : Nat) (aText : Nat) (aOne : Nat) (aTwo : Nat) (aBoth : Nat) (aWord : Nat) (aOpen : Nat) (aTimes : Nat) (aFar : Nat) (aQueue : Nat) (known : Int32) (kept : Int32) (len : Int32) (thr : Int32) (cre : Int32) (hash : Int64) (fS : Nat → Int32) (fOne : Nat → Int32) (fTwo : Nat → Int32) (fBoth : Nat → Int32) (what : Int32) (hp : P_X11_count fS fOne fTwo fBoth what) : M vI l yX11_count cX11_count 2 (some .int) 6 140 D (tyF cI cL cP cJ) [.ref o, .int what] [[(o, .inr (9, [.ref aS, .ref aPast, .int known, .ref aSnap, .int kept, .ref aText, .int len, .int thr, .ref aOne, .ref aTwo, .ref aBoth, .ref aWord, .int cre, .ref aOpen, .ref aTimes, .ref aFar, .ref aQueue, .long hash]))], [(aS, .inl (cI, 335, .inl fS))], [(aOne, .inl (cI, 4, .inl fOne))], [(aTwo, .inl (cI, 4, .inl fTwo))], [(aBoth, .inl (cI, 4, .inl fBoth))]] (fun (r : Int32) (w1 : List va_W) => r = (F_X11_count known fS fOne fTwo fBoth what).1 ∧ w1 = [[(o, .inr (9, [.ref aS, .ref aPast, .int known, .ref aSnap, .int kept, .ref aText, .int len, .int ((F_X11_count known fS fOne fTwo fBoth what).2.1), .ref aOne, .ref aTwo, .ref aBoth, .ref aWord, .int cre, .ref aOpen, .ref aTimes, .ref aFar, .ref aQueue, .long hash]))], [(aS, .inl (cI, 335, .inl fS))], [(aOne, .inl (cI, 4, .inl ((F_X11_count known fS fOne fTwo fBoth what).2.2.1)))], [(aTwo, .inl (cI, 4, .inl ((F_X11_count known fS fOne fTwo fBoth what).2.2.2.1)))], [(aBoth, .inl (cI, 4, .inl ((F_X11_count known fS fOne fTwo fBoth what).2.2.2.2)))]]) := by
  unfold P_X11_count at hp
  refine m_start (by decide +kernel) (Nat.le_of_ble_eq_true rfl) (fun p e s m args below meth c A Q hA hQ C hr hlo => ?_)
  refine r_Le (L' := [(0, .ref o), (1, .int what)]) rfl ?_
  refine r_aload_n C dX11_count_0 0 rfl ?_
  refine r_iload_n C dX11_count_1 1 rfl ?_
  refine r_iconst (v := 0) C dX11_count_2 (by decide) ?_
  refine r_bipush (v := 6) C dX11_count_3 (by decide) ?_
  refine r_callS (wc := []) (wr := [[(o, .inr (9, [.ref aS, .ref aPast, .int known, .ref aSnap, .int kept, .ref aText, .int len, .int thr, .ref aOne, .ref aTwo, .ref aBoth, .ref aWord, .int cre, .ref aOpen, .ref aTimes, .ref aFar, .ref aQueue, .long hash]))], [(aS, .inl (cI, 335, .inl fS))], [(aOne, .inl (cI, 4, .inl fOne))], [(aTwo, .inl (cI, 4, .inl fTwo))], [(aBoth, .inl (cI, 4, .inl fBoth))]]) (st := [.ref o]) C (m_X11_in l D cI cL cP cJ what 0 6) k_X11_in t_959 [0, 1, 2, 3, 4] (show ([0, 1, 2, 3, 4] : List Nat).Perm (List.range 5) by decide) rfl rfl rfl (Nat.le_of_ble_eq_true rfl) ⟨Nat.le_of_ble_eq_true rfl, Nat.le_of_ble_eq_true rfl⟩ ⟨Nat.zero_le _, Nat.zero_le _⟩ dX11_count_5 (fun r1 wr1 hw1 => ?_)
  obtain ⟨e_r1, rfl⟩ := hw1
  have hp := hp r1 e_r1
  refine r_ws (I' := [[(o, .inr (9, [.ref aS, .ref aPast, .int known, .ref aSnap, .int kept, .ref aText, .int len, .int thr, .ref aOne, .ref aTwo, .ref aBoth, .ref aWord, .int cre, .ref aOpen, .ref aTimes, .ref aFar, .ref aQueue, .long hash]))], [(aS, .inl (cI, 335, .inl fS))], [(aOne, .inl (cI, 4, .inl fOne))], [(aTwo, .inl (cI, 4, .inl fTwo))], [(aBoth, .inl (cI, 4, .inl fBoth))]]) rfl ?_
  suffices K : ∀ x3 : Int32, x3 = ((if r1 = 0 then (1) else (0))) → V p l e (rmm 6 140) s m args below meth c 2 D A 0 0 Q [[(o, .inr (9, [.ref aS, .ref aPast, .int known, .ref aSnap, .int kept, .ref aText, .int len, .int thr, .ref aOne, .ref aTwo, .ref aBoth, .ref aWord, .int cre, .ref aOpen, .ref aTimes, .ref aFar, .ref aQueue, .long hash]))], [(aS, .inl (cI, 335, .inl fS))], [(aOne, .inl (cI, 4, .inl fOne))], [(aTwo, .inl (cI, 4, .inl fTwo))], [(aBoth, .inl (cI, 4, .inl fBoth))]] [(0, .ref o), (1, .int what)] 16 [.int x3, .ref o] by
    refine r_if_eq (tgt := 15) C dX11_count_8 (by decide) (fun c2 => ?_) (fun c2 => ?_)
    · refine r_iconst (v := 1) C dX11_count_15 (by decide) ?_
      exact K _ (by simp only [if_pos c2])
    · refine r_iconst (v := 0) C dX11_count_11 (by decide) ?_
      refine r_goto (tgt := 16) C dX11_count_12 (by decide) ?_
      exact K _ (by simp only [if_neg c2])
  intro x3 e_x3
  have hp := hp x3 e_x3
  refine r_callV (ci := 9) (wc := [[(o, .inr (9, [.ref aS, .ref aPast, .int known, .ref aSnap, .int kept, .ref aText, .int len, .int thr, .ref aOne, .ref aTwo, .ref aBoth, .ref aWord, .int cre, .ref aOpen, .ref aTimes, .ref aFar, .ref aQueue, .long hash]))]]) (wr := [[(aS, .inl (cI, 335, .inl fS))], [(aOne, .inl (cI, 4, .inl fOne))], [(aTwo, .inl (cI, 4, .inl fTwo))], [(aBoth, .inl (cI, 4, .inl fBoth))]]) (st := []) C (m_X11_throwsAt l D cI cL cP cJ o aS aPast aSnap aText aOne aTwo aBoth aWord aOpen aTimes aFar aQueue known kept len thr cre hash x3) k_X11_throwsAt t_974 [0, 1, 2, 3, 4] (show ([0, 1, 2, 3, 4] : List Nat).Perm (List.range 5) by decide) rfl rfl rfl (q0 := 0) rfl rfl rfl (Nat.le_of_ble_eq_true rfl) ⟨Nat.le_of_ble_eq_true rfl, Nat.le_of_ble_eq_true rfl⟩ ⟨Nat.zero_le _, Nat.zero_le _⟩ dX11_count_16 (fun r4 wr4 hw4 => ?_)
  obtain ⟨e_r4, rfl⟩ := hw4
  have hp := hp r4 e_r4
  obtain ⟨x5, e_x5⟩ : ∃ z : Int32, z = (F_X11_throwsAt x3).2 := ⟨_, rfl⟩
  have hp := hp x5 e_x5
  refine r_ws (I' := [[(o, .inr (9, [.ref aS, .ref aPast, .int known, .ref aSnap, .int kept, .ref aText, .int len, .int x5, .ref aOne, .ref aTwo, .ref aBoth, .ref aWord, .int cre, .ref aOpen, .ref aTimes, .ref aFar, .ref aQueue, .long hash]))], [(aS, .inl (cI, 335, .inl fS))], [(aOne, .inl (cI, 4, .inl fOne))], [(aTwo, .inl (cI, 4, .inl fTwo))], [(aBoth, .inl (cI, 4, .inl fBoth))]]) (by rw [e_x5]; rfl) ?_
  have hps := hp
  suffices K : ∀ x12 : Int32, x12 = ((if r4 = 0 then (let r8 : Int32 := (F_X11_counted known fS fOne fTwo fBoth what).1; r8) else (0))) → ∀ g13 : Nat → Int32, g13 = ((if r4 = 0 then (let g9 : Nat → Int32 := (F_X11_counted known fS fOne fTwo fBoth what).2.1; g9) else (fOne))) → ∀ g14 : Nat → Int32, g14 = ((if r4 = 0 then (let g10 : Nat → Int32 := (F_X11_counted known fS fOne fTwo fBoth what).2.2.1; g10) else (fTwo))) → ∀ g15 : Nat → Int32, g15 = ((if r4 = 0 then (let g11 : Nat → Int32 := (F_X11_counted known fS fOne fTwo fBoth what).2.2.2; g11) else (fBoth))) → V p l e (rmm 6 140) s m args below meth c 2 D A 0 0 Q [[(o, .inr (9, [.ref aS, .ref aPast, .int known, .ref aSnap, .int kept, .ref aText, .int len, .int x5, .ref aOne, .ref aTwo, .ref aBoth, .ref aWord, .int cre, .ref aOpen, .ref aTimes, .ref aFar, .ref aQueue, .long hash]))], [(aS, .inl (cI, 335, .inl fS))], [(aOne, .inl (cI, 4, .inl g13))], [(aTwo, .inl (cI, 4, .inl g14))], [(aBoth, .inl (cI, 4, .inl g15))]] [(0, .ref o), (1, .int what)] 31 [.int x12] by
    have hp := hps
    refine r_if_eq (tgt := 26) C dX11_count_19 (by decide) (fun c6 => ?_) (fun c6 => ?_)
    · have hp := hp.1 c6
      refine r_aload_n C dX11_count_26 0 rfl ?_
      refine r_iload_n C dX11_count_27 1 rfl ?_
      have h7 := hp
      refine r_callV (ci := 9) (wc := [[(o, .inr (9, [.ref aS, .ref aPast, .int known, .ref aSnap, .int kept, .ref aText, .int len, .int x5, .ref aOne, .ref aTwo, .ref aBoth, .ref aWord, .int cre, .ref aOpen, .ref aTimes, .ref aFar, .ref aQueue, .long hash]))], [(aS, .inl (cI, 335, .inl fS))], [(aOne, .inl (cI, 4, .inl fOne))], [(aTwo, .inl (cI, 4, .inl fTwo))], [(aBoth, .inl (cI, 4, .inl fBoth))]]) (wr := []) (st := []) C (m_X11_counted l D cI cL cP cJ o aS aPast aSnap aText aOne aTwo aBoth aWord aOpen aTimes aFar aQueue known kept len x5 cre hash fS fOne fTwo fBoth what h7) k_X11_counted t_1187 [0, 1, 2, 3, 4] (show ([0, 1, 2, 3, 4] : List Nat).Perm (List.range 5) by decide) rfl rfl rfl (q0 := 0) rfl rfl rfl (Nat.le_of_ble_eq_true rfl) ⟨Nat.le_of_ble_eq_true rfl, Nat.le_of_ble_eq_true rfl⟩ ⟨Nat.zero_le _, Nat.zero_le _⟩ dX11_count_28 (fun r8 wr8 hw8 => ?_)
      obtain ⟨e_r8, rfl⟩ := hw8
      obtain ⟨g9, e_g9⟩ : ∃ z : Nat → Int32, z = (F_X11_counted known fS fOne fTwo fBoth what).2.1 := ⟨_, rfl⟩
      obtain ⟨g10, e_g10⟩ : ∃ z : Nat → Int32, z = (F_X11_counted known fS fOne fTwo fBoth what).2.2.1 := ⟨_, rfl⟩
      obtain ⟨g11, e_g11⟩ : ∃ z : Nat → Int32, z = (F_X11_counted known fS fOne fTwo fBoth what).2.2.2 := ⟨_, rfl⟩
      refine r_ws (I' := [[(o, .inr (9, [.ref aS, .ref aPast, .int known, .ref aSnap, .int kept, .ref aText, .int len, .int x5, .ref aOne, .ref aTwo, .ref aBoth, .ref aWord, .int cre, .ref aOpen, .ref aTimes, .ref aFar, .ref aQueue, .long hash]))], [(aS, .inl (cI, 335, .inl fS))], [(aOne, .inl (cI, 4, .inl g9))], [(aTwo, .inl (cI, 4, .inl g10))], [(aBoth, .inl (cI, 4, .inl g11))]]) (by rw [e_g9, e_g10, e_g11]; rfl) ?_
      exact K _ (by have q := e_r8.symm; subst q; have q := e_g9.symm; subst q; have q := e_g10.symm; subst q; have q := e_g11.symm; subst q; simp only [if_pos c6]) _ (by have q := e_r8.symm; subst q; have q := e_g9.symm; subst q; have q := e_g10.symm; subst q; have q := e_g11.symm; subst q; simp only [if_pos c6]) _ (by have q := e_r8.symm; subst q; have q := e_g9.symm; subst q; have q := e_g10.symm; subst q; have q := e_g11.symm; subst q; simp only [if_pos c6]) _ (by have q := e_r8.symm; subst q; have q := e_g9.symm; subst q; have q := e_g10.symm; subst q; have q := e_g11.symm; subst q; simp only [if_pos c6])
    · refine r_iconst (v := 0) C dX11_count_22 (by decide) ?_
      refine r_goto (tgt := 31) C dX11_count_23 (by decide) ?_
      exact K _ (by simp only [if_neg c6]) _ (by simp only [if_neg c6]) _ (by simp only [if_neg c6]) _ (by simp only [if_neg c6])
  intro x12 e_x12 g13 e_g13 g14 e_g14 g15 e_g15
  have eF : F_X11_count known fS fOne fTwo fBoth what = (x12, x5, g13, g14, g15) := by have q := e_r1.symm; subst q; have q := e_x3.symm; subst q; have q := e_r4.symm; subst q; have q := e_x5.symm; subst q; have q := e_x12.symm; subst q; have q := e_g13.symm; subst q; have q := e_g14.symm; subst q; have q := e_g15.symm; subst q; rfl
  exact r_iret (r := x12) C hA hr hlo dX11_count_31 [[(o, .inr (9, [.ref aS, .ref aPast, .int known, .ref aSnap, .int kept, .ref aText, .int len, .int x5, .ref aOne, .ref aTwo, .ref aBoth, .ref aWord, .int cre, .ref aOpen, .ref aTimes, .ref aFar, .ref aQueue, .long hash]))], [(aS, .inl (cI, 335, .inl fS))], [(aOne, .inl (cI, 4, .inl g13))], [(aTwo, .inl (cI, 4, .inl g14))], [(aBoth, .inl (cI, 4, .inl g15))]] ⟨by simp only [eF], by simp only [eF]⟩ rfl hQ
theorem k_X11_why : kV yX11_why cX11_why 3 (some .int) 2 := ⟨t_1196, t_1197, t_67, t_1198, by decide +kernel, by decide +kernel, by decide +kernel⟩
set_option maxRecDepth 20000 in
def F_X11_why (fS : Nat → Int32) (letter : Int32) (crease : Int32) : Int32 × Int32 := let r1 : Int32 := F_X11_isLetter letter; let x5 : Int32 := (if r1 = 0 then (1) else (let r3 : Int32 := F_X11_in crease 0 3; (if r3 = 0 then (1) else (0)))); let r6 : Int32 := (F_X11_throwsAt x5).1; let x7 : Int32 := (F_X11_throwsAt x5).2; let x11 : Int32 := (if r6 = 0 then (let r10 : Int32 := F_X11_reason fS letter crease; r10) else (0)); (x11, x7)
set_option maxRecDepth 20000 in
def P_X11_why (fS : Nat → Int32) (letter : Int32) (crease : Int32) : Prop := (∀ r1 : Int32, r1 = F_X11_isLetter letter → (∀ x5 : Int32, x5 = ((if r1 = 0 then (1) else (let r3 : Int32 := F_X11_in crease 0 3; (if r3 = 0 then (1) else (0))))) → (∀ r6 : Int32, r6 = (F_X11_throwsAt x5).1 → (∀ x7 : Int32, x7 = (F_X11_throwsAt x5).2 → ((r6 = 0 → (P_X11_reason fS letter)) ∧ (¬ r6 = 0 → True))))))
set_option maxRecDepth 20000 in
set_option maxHeartbeats 8000000 in
theorem m_X11_why (l : Launch) (D : va_G) (cI cL cP cJ : ClassId) (o : Nat) (aS : Nat) (aPast : Nat) (aSnap : Nat) (aText : Nat) (aOne : Nat) (aTwo : Nat) (aBoth : Nat) (aWord : Nat) (aOpen : Nat) (aTimes : Nat) (aFar : Nat) (aQueue : Nat) (known : Int32) (kept : Int32) (len : Int32) (thr : Int32) (cre : Int32) (hash : Int64) (fS : Nat → Int32) (letter : Int32) (crease : Int32) (hp : P_X11_why fS letter crease) : M vI l yX11_why cX11_why 3 (some .int) 3 67 D (tyF cI cL cP cJ) [.ref o, .int letter, .int crease] [[(o, .inr (9, [.ref aS, .ref aPast, .int known, .ref aSnap, .int kept, .ref aText, .int len, .int thr, .ref aOne, .ref aTwo, .ref aBoth, .ref aWord, .int cre, .ref aOpen, .ref aTimes, .ref aFar, .ref aQueue, .long hash]))], [(aS, .inl (cI, 335, .inl fS))]] (fun (r : Int32) (w1 : List va_W) => r = (F_X11_why fS letter crease).1 ∧ w1 = [[(o, .inr (9, [.ref aS, .ref aPast, .int known, .ref aSnap, .int kept, .ref aText, .int len, .int ((F_X11_why fS letter crease).2), .ref aOne, .ref aTwo, .ref aBoth, .ref aWord, .int cre, .ref aOpen, .ref aTimes, .ref aFar, .ref aQueue, .long hash]))], [(aS, .inl (cI, 335, .inl fS))]]) := by
  unfold P_X11_why at hp
  refine m_start (by decide +kernel) (Nat.le_of_ble_eq_true rfl) (fun p e s m args below meth c A Q hA hQ C hr hlo => ?_)
  refine r_Le (L' := [(0, .ref o), (1, .int letter), (2, .int crease)]) rfl ?_
  refine r_aload_n C dX11_why_0 0 rfl ?_
  refine r_iload_n C dX11_why_1 1 rfl ?_
  refine r_callS (wc := []) (wr := [[(o, .inr (9, [.ref aS, .ref aPast, .int known, .ref aSnap, .int kept, .ref aText, .int len, .int thr, .ref aOne, .ref aTwo, .ref aBoth, .ref aWord, .int cre, .ref aOpen, .ref aTimes, .ref aFar, .ref aQueue, .long hash]))], [(aS, .inl (cI, 335, .inl fS))]]) (st := [.ref o]) C (m_X11_isLetter l D cI cL cP cJ letter) k_X11_isLetter t_956 [0, 1] (show ([0, 1] : List Nat).Perm (List.range 2) by decide) rfl rfl rfl (Nat.le_of_ble_eq_true rfl) ⟨Nat.le_of_ble_eq_true rfl, Nat.le_of_ble_eq_true rfl⟩ ⟨Nat.zero_le _, Nat.zero_le _⟩ dX11_why_2 (fun r1 wr1 hw1 => ?_)
  obtain ⟨e_r1, rfl⟩ := hw1
  have hp := hp r1 e_r1
  refine r_ws (I' := [[(o, .inr (9, [.ref aS, .ref aPast, .int known, .ref aSnap, .int kept, .ref aText, .int len, .int thr, .ref aOne, .ref aTwo, .ref aBoth, .ref aWord, .int cre, .ref aOpen, .ref aTimes, .ref aFar, .ref aQueue, .long hash]))], [(aS, .inl (cI, 335, .inl fS))]]) rfl ?_
  suffices K : ∀ x5 : Int32, x5 = ((if r1 = 0 then (1) else (let r3 : Int32 := F_X11_in crease 0 3; (if r3 = 0 then (1) else (0))))) → V p l e (rmm 3 67) s m args below meth c 3 D A 0 0 Q [[(o, .inr (9, [.ref aS, .ref aPast, .int known, .ref aSnap, .int kept, .ref aText, .int len, .int thr, .ref aOne, .ref aTwo, .ref aBoth, .ref aWord, .int cre, .ref aOpen, .ref aTimes, .ref aFar, .ref aQueue, .long hash]))], [(aS, .inl (cI, 335, .inl fS))]] [(0, .ref o), (1, .int letter), (2, .int crease)] 22 [.int x5, .ref o] by
    refine r_if_eq (tgt := 21) C dX11_why_5 (by decide) (fun c2 => ?_) (fun c2 => ?_)
    · refine r_iconst (v := 1) C dX11_why_21 (by decide) ?_
      exact K _ (by simp only [if_pos c2])
    · refine r_iload_n C dX11_why_8 2 rfl ?_
      refine r_iconst (v := 0) C dX11_why_9 (by decide) ?_
      refine r_iconst (v := 3) C dX11_why_10 (by decide) ?_
      refine r_callS (wc := []) (wr := [[(o, .inr (9, [.ref aS, .ref aPast, .int known, .ref aSnap, .int kept, .ref aText, .int len, .int thr, .ref aOne, .ref aTwo, .ref aBoth, .ref aWord, .int cre, .ref aOpen, .ref aTimes, .ref aFar, .ref aQueue, .long hash]))], [(aS, .inl (cI, 335, .inl fS))]]) (st := [.ref o]) C (m_X11_in l D cI cL cP cJ crease 0 3) k_X11_in t_959 [0, 1] (show ([0, 1] : List Nat).Perm (List.range 2) by decide) rfl rfl rfl (Nat.le_of_ble_eq_true rfl) ⟨Nat.le_of_ble_eq_true rfl, Nat.le_of_ble_eq_true rfl⟩ ⟨Nat.zero_le _, Nat.zero_le _⟩ dX11_why_11 (fun r3 wr3 hw3 => ?_)
      obtain ⟨e_r3, rfl⟩ := hw3
      refine r_ws (I' := [[(o, .inr (9, [.ref aS, .ref aPast, .int known, .ref aSnap, .int kept, .ref aText, .int len, .int thr, .ref aOne, .ref aTwo, .ref aBoth, .ref aWord, .int cre, .ref aOpen, .ref aTimes, .ref aFar, .ref aQueue, .long hash]))], [(aS, .inl (cI, 335, .inl fS))]]) rfl ?_
      refine r_if_eq (tgt := 21) C dX11_why_14 (by decide) (fun c4 => ?_) (fun c4 => ?_)
      · refine r_iconst (v := 1) C dX11_why_21 (by decide) ?_
        exact K _ (by have q := e_r3.symm; subst q; simp only [if_neg c2, if_pos c4])
      · refine r_iconst (v := 0) C dX11_why_17 (by decide) ?_
        refine r_goto (tgt := 22) C dX11_why_18 (by decide) ?_
        exact K _ (by have q := e_r3.symm; subst q; simp only [if_neg c2, if_neg c4])
  intro x5 e_x5
  have hp := hp x5 e_x5
  refine r_callV (ci := 9) (wc := [[(o, .inr (9, [.ref aS, .ref aPast, .int known, .ref aSnap, .int kept, .ref aText, .int len, .int thr, .ref aOne, .ref aTwo, .ref aBoth, .ref aWord, .int cre, .ref aOpen, .ref aTimes, .ref aFar, .ref aQueue, .long hash]))]]) (wr := [[(aS, .inl (cI, 335, .inl fS))]]) (st := []) C (m_X11_throwsAt l D cI cL cP cJ o aS aPast aSnap aText aOne aTwo aBoth aWord aOpen aTimes aFar aQueue known kept len thr cre hash x5) k_X11_throwsAt t_974 [0, 1] (show ([0, 1] : List Nat).Perm (List.range 2) by decide) rfl rfl rfl (q0 := 0) rfl rfl rfl (Nat.le_of_ble_eq_true rfl) ⟨Nat.le_of_ble_eq_true rfl, Nat.le_of_ble_eq_true rfl⟩ ⟨Nat.zero_le _, Nat.zero_le _⟩ dX11_why_22 (fun r6 wr6 hw6 => ?_)
  obtain ⟨e_r6, rfl⟩ := hw6
  have hp := hp r6 e_r6
  obtain ⟨x7, e_x7⟩ : ∃ z : Int32, z = (F_X11_throwsAt x5).2 := ⟨_, rfl⟩
  have hp := hp x7 e_x7
  refine r_ws (I' := [[(o, .inr (9, [.ref aS, .ref aPast, .int known, .ref aSnap, .int kept, .ref aText, .int len, .int x7, .ref aOne, .ref aTwo, .ref aBoth, .ref aWord, .int cre, .ref aOpen, .ref aTimes, .ref aFar, .ref aQueue, .long hash]))], [(aS, .inl (cI, 335, .inl fS))]]) (by rw [e_x7]; rfl) ?_
  have hps := hp
  suffices K : ∀ x11 : Int32, x11 = ((if r6 = 0 then (let r10 : Int32 := F_X11_reason fS letter crease; r10) else (0))) → V p l e (rmm 3 67) s m args below meth c 3 D A 0 0 Q [[(o, .inr (9, [.ref aS, .ref aPast, .int known, .ref aSnap, .int kept, .ref aText, .int len, .int x7, .ref aOne, .ref aTwo, .ref aBoth, .ref aWord, .int cre, .ref aOpen, .ref aTimes, .ref aFar, .ref aQueue, .long hash]))], [(aS, .inl (cI, 335, .inl fS))]] [(0, .ref o), (1, .int letter), (2, .int crease)] 38 [.int x11] by
    have hp := hps
    refine r_if_eq (tgt := 32) C dX11_why_25 (by decide) (fun c8 => ?_) (fun c8 => ?_)
    · have hp := hp.1 c8
      refine r_aload_n C dX11_why_32 0 rfl ?_
      refine r_iload_n C dX11_why_33 1 rfl ?_
      refine r_iload_n C dX11_why_34 2 rfl ?_
      have h9 := hp
      refine r_callV (ci := 9) (wc := [[(o, .inr (9, [.ref aS, .ref aPast, .int known, .ref aSnap, .int kept, .ref aText, .int len, .int x7, .ref aOne, .ref aTwo, .ref aBoth, .ref aWord, .int cre, .ref aOpen, .ref aTimes, .ref aFar, .ref aQueue, .long hash]))], [(aS, .inl (cI, 335, .inl fS))]]) (wr := []) (st := []) C (m_X11_reason l D cI cL cP cJ o aS aPast aSnap aText aOne aTwo aBoth aWord aOpen aTimes aFar aQueue known kept len x7 cre hash fS letter crease h9) k_X11_reason t_962 [0, 1] (show ([0, 1] : List Nat).Perm (List.range 2) by decide) rfl rfl rfl (q0 := 0) rfl rfl rfl (Nat.le_of_ble_eq_true rfl) ⟨Nat.le_of_ble_eq_true rfl, Nat.le_of_ble_eq_true rfl⟩ ⟨Nat.zero_le _, Nat.zero_le _⟩ dX11_why_35 (fun r10 wr10 hw10 => ?_)
      obtain ⟨e_r10, rfl⟩ := hw10
      refine r_ws (I' := [[(o, .inr (9, [.ref aS, .ref aPast, .int known, .ref aSnap, .int kept, .ref aText, .int len, .int x7, .ref aOne, .ref aTwo, .ref aBoth, .ref aWord, .int cre, .ref aOpen, .ref aTimes, .ref aFar, .ref aQueue, .long hash]))], [(aS, .inl (cI, 335, .inl fS))]]) rfl ?_
      exact K _ (by have q := e_r10.symm; subst q; simp only [if_pos c8])
    · refine r_iconst (v := 0) C dX11_why_28 (by decide) ?_
      refine r_goto (tgt := 38) C dX11_why_29 (by decide) ?_
      exact K _ (by simp only [if_neg c8])
  intro x11 e_x11
  have eF : F_X11_why fS letter crease = (x11, x7) := by have q := e_r1.symm; subst q; have q := e_x5.symm; subst q; have q := e_r6.symm; subst q; have q := e_x7.symm; subst q; have q := e_x11.symm; subst q; rfl
  exact r_iret (r := x11) C hA hr hlo dX11_why_38 [[(o, .inr (9, [.ref aS, .ref aPast, .int known, .ref aSnap, .int kept, .ref aText, .int len, .int x7, .ref aOne, .ref aTwo, .ref aBoth, .ref aWord, .int cre, .ref aOpen, .ref aTimes, .ref aFar, .ref aQueue, .long hash]))], [(aS, .inl (cI, 335, .inl fS))]] ⟨by simp only [eF], by simp only [eF]⟩ rfl hQ
theorem k_X11_ifFolded : kV yX11_ifFolded cX11_ifFolded 3 (some .int) 2 := ⟨t_1200, t_1201, t_67, t_1202, by decide +kernel, by decide +kernel, by decide +kernel⟩
set_option maxRecDepth 20000 in
def F_X11_ifFolded (fS : Nat → Int32) (fOne : Nat → Int32) (letter : Int32) (crease : Int32) : Int32 × Int32 × (Nat → Int32) := let r1 : Int32 := F_X11_isLetter letter; let x5 : Int32 := (if r1 = 0 then (1) else (let r3 : Int32 := F_X11_in crease 0 3; (if r3 = 0 then (1) else (0)))); let r6 : Int32 := (F_X11_throwsAt x5).1; let x7 : Int32 := (F_X11_throwsAt x5).2; let x12 : Int32 := (if r6 = 0 then (let r10 : Int32 := (F_X11_foldedLength fS fOne letter crease).1; r10) else (0)); let g13 : Nat → Int32 := (if r6 = 0 then (let g11 : Nat → Int32 := (F_X11_foldedLength fS fOne letter crease).2; g11) else (fOne)); (x12, x7, g13)
set_option maxRecDepth 20000 in
def P_X11_ifFolded (fS : Nat → Int32) (fOne : Nat → Int32) (letter : Int32) (crease : Int32) : Prop := (∀ r1 : Int32, r1 = F_X11_isLetter letter → (∀ x5 : Int32, x5 = ((if r1 = 0 then (1) else (let r3 : Int32 := F_X11_in crease 0 3; (if r3 = 0 then (1) else (0))))) → (∀ r6 : Int32, r6 = (F_X11_throwsAt x5).1 → (∀ x7 : Int32, x7 = (F_X11_throwsAt x5).2 → ((r6 = 0 → (P_X11_foldedLength fS fOne letter crease)) ∧ (¬ r6 = 0 → True))))))
set_option maxRecDepth 20000 in
set_option maxHeartbeats 8000000 in
theorem m_X11_ifFolded (l : Launch) (D : va_G) (cI cL cP cJ : ClassId) (o : Nat) (aS : Nat) (aPast : Nat) (aSnap : Nat) (aText : Nat) (aOne : Nat) (aTwo : Nat) (aBoth : Nat) (aWord : Nat) (aOpen : Nat) (aTimes : Nat) (aFar : Nat) (aQueue : Nat) (known : Int32) (kept : Int32) (len : Int32) (thr : Int32) (cre : Int32) (hash : Int64) (fS : Nat → Int32) (fOne : Nat → Int32) (letter : Int32) (crease : Int32) (hp : P_X11_ifFolded fS fOne letter crease) : M vI l yX11_ifFolded cX11_ifFolded 3 (some .int) 3 66 D (tyF cI cL cP cJ) [.ref o, .int letter, .int crease] [[(o, .inr (9, [.ref aS, .ref aPast, .int known, .ref aSnap, .int kept, .ref aText, .int len, .int thr, .ref aOne, .ref aTwo, .ref aBoth, .ref aWord, .int cre, .ref aOpen, .ref aTimes, .ref aFar, .ref aQueue, .long hash]))], [(aS, .inl (cI, 335, .inl fS))], [(aOne, .inl (cI, 4, .inl fOne))]] (fun (r : Int32) (w1 : List va_W) => r = (F_X11_ifFolded fS fOne letter crease).1 ∧ w1 = [[(o, .inr (9, [.ref aS, .ref aPast, .int known, .ref aSnap, .int kept, .ref aText, .int len, .int ((F_X11_ifFolded fS fOne letter crease).2.1), .ref aOne, .ref aTwo, .ref aBoth, .ref aWord, .int cre, .ref aOpen, .ref aTimes, .ref aFar, .ref aQueue, .long hash]))], [(aS, .inl (cI, 335, .inl fS))], [(aOne, .inl (cI, 4, .inl ((F_X11_ifFolded fS fOne letter crease).2.2)))]]) := by
  unfold P_X11_ifFolded at hp
  refine m_start (by decide +kernel) (Nat.le_of_ble_eq_true rfl) (fun p e s m args below meth c A Q hA hQ C hr hlo => ?_)
  refine r_Le (L' := [(0, .ref o), (1, .int letter), (2, .int crease)]) rfl ?_
  refine r_aload_n C dX11_ifFolded_0 0 rfl ?_
  refine r_iload_n C dX11_ifFolded_1 1 rfl ?_
  refine r_callS (wc := []) (wr := [[(o, .inr (9, [.ref aS, .ref aPast, .int known, .ref aSnap, .int kept, .ref aText, .int len, .int thr, .ref aOne, .ref aTwo, .ref aBoth, .ref aWord, .int cre, .ref aOpen, .ref aTimes, .ref aFar, .ref aQueue, .long hash]))], [(aS, .inl (cI, 335, .inl fS))], [(aOne, .inl (cI, 4, .inl fOne))]]) (st := [.ref o]) C (m_X11_isLetter l D cI cL cP cJ letter) k_X11_isLetter t_956 [0, 1, 2] (show ([0, 1, 2] : List Nat).Perm (List.range 3) by decide) rfl rfl rfl (Nat.le_of_ble_eq_true rfl) ⟨Nat.le_of_ble_eq_true rfl, Nat.le_of_ble_eq_true rfl⟩ ⟨Nat.zero_le _, Nat.zero_le _⟩ dX11_ifFolded_2 (fun r1 wr1 hw1 => ?_)
  obtain ⟨e_r1, rfl⟩ := hw1
  have hp := hp r1 e_r1
  refine r_ws (I' := [[(o, .inr (9, [.ref aS, .ref aPast, .int known, .ref aSnap, .int kept, .ref aText, .int len, .int thr, .ref aOne, .ref aTwo, .ref aBoth, .ref aWord, .int cre, .ref aOpen, .ref aTimes, .ref aFar, .ref aQueue, .long hash]))], [(aS, .inl (cI, 335, .inl fS))], [(aOne, .inl (cI, 4, .inl fOne))]]) rfl ?_
  suffices K : ∀ x5 : Int32, x5 = ((if r1 = 0 then (1) else (let r3 : Int32 := F_X11_in crease 0 3; (if r3 = 0 then (1) else (0))))) → V p l e (rmm 3 66) s m args below meth c 3 D A 0 0 Q [[(o, .inr (9, [.ref aS, .ref aPast, .int known, .ref aSnap, .int kept, .ref aText, .int len, .int thr, .ref aOne, .ref aTwo, .ref aBoth, .ref aWord, .int cre, .ref aOpen, .ref aTimes, .ref aFar, .ref aQueue, .long hash]))], [(aS, .inl (cI, 335, .inl fS))], [(aOne, .inl (cI, 4, .inl fOne))]] [(0, .ref o), (1, .int letter), (2, .int crease)] 22 [.int x5, .ref o] by
    refine r_if_eq (tgt := 21) C dX11_ifFolded_5 (by decide) (fun c2 => ?_) (fun c2 => ?_)
    · refine r_iconst (v := 1) C dX11_ifFolded_21 (by decide) ?_
      exact K _ (by simp only [if_pos c2])
    · refine r_iload_n C dX11_ifFolded_8 2 rfl ?_
      refine r_iconst (v := 0) C dX11_ifFolded_9 (by decide) ?_
      refine r_iconst (v := 3) C dX11_ifFolded_10 (by decide) ?_
      refine r_callS (wc := []) (wr := [[(o, .inr (9, [.ref aS, .ref aPast, .int known, .ref aSnap, .int kept, .ref aText, .int len, .int thr, .ref aOne, .ref aTwo, .ref aBoth, .ref aWord, .int cre, .ref aOpen, .ref aTimes, .ref aFar, .ref aQueue, .long hash]))], [(aS, .inl (cI, 335, .inl fS))], [(aOne, .inl (cI, 4, .inl fOne))]]) (st := [.ref o]) C (m_X11_in l D cI cL cP cJ crease 0 3) k_X11_in t_959 [0, 1, 2] (show ([0, 1, 2] : List Nat).Perm (List.range 3) by decide) rfl rfl rfl (Nat.le_of_ble_eq_true rfl) ⟨Nat.le_of_ble_eq_true rfl, Nat.le_of_ble_eq_true rfl⟩ ⟨Nat.zero_le _, Nat.zero_le _⟩ dX11_ifFolded_11 (fun r3 wr3 hw3 => ?_)
      obtain ⟨e_r3, rfl⟩ := hw3
      refine r_ws (I' := [[(o, .inr (9, [.ref aS, .ref aPast, .int known, .ref aSnap, .int kept, .ref aText, .int len, .int thr, .ref aOne, .ref aTwo, .ref aBoth, .ref aWord, .int cre, .ref aOpen, .ref aTimes, .ref aFar, .ref aQueue, .long hash]))], [(aS, .inl (cI, 335, .inl fS))], [(aOne, .inl (cI, 4, .inl fOne))]]) rfl ?_
      refine r_if_eq (tgt := 21) C dX11_ifFolded_14 (by decide) (fun c4 => ?_) (fun c4 => ?_)
      · refine r_iconst (v := 1) C dX11_ifFolded_21 (by decide) ?_
        exact K _ (by have q := e_r3.symm; subst q; simp only [if_neg c2, if_pos c4])
      · refine r_iconst (v := 0) C dX11_ifFolded_17 (by decide) ?_
        refine r_goto (tgt := 22) C dX11_ifFolded_18 (by decide) ?_
        exact K _ (by have q := e_r3.symm; subst q; simp only [if_neg c2, if_neg c4])
  intro x5 e_x5
  have hp := hp x5 e_x5
  refine r_callV (ci := 9) (wc := [[(o, .inr (9, [.ref aS, .ref aPast, .int known, .ref aSnap, .int kept, .ref aText, .int len, .int thr, .ref aOne, .ref aTwo, .ref aBoth, .ref aWord, .int cre, .ref aOpen, .ref aTimes, .ref aFar, .ref aQueue, .long hash]))]]) (wr := [[(aS, .inl (cI, 335, .inl fS))], [(aOne, .inl (cI, 4, .inl fOne))]]) (st := []) C (m_X11_throwsAt l D cI cL cP cJ o aS aPast aSnap aText aOne aTwo aBoth aWord aOpen aTimes aFar aQueue known kept len thr cre hash x5) k_X11_throwsAt t_974 [0, 1, 2] (show ([0, 1, 2] : List Nat).Perm (List.range 3) by decide) rfl rfl rfl (q0 := 0) rfl rfl rfl (Nat.le_of_ble_eq_true rfl) ⟨Nat.le_of_ble_eq_true rfl, Nat.le_of_ble_eq_true rfl⟩ ⟨Nat.zero_le _, Nat.zero_le _⟩ dX11_ifFolded_22 (fun r6 wr6 hw6 => ?_)
  obtain ⟨e_r6, rfl⟩ := hw6
  have hp := hp r6 e_r6
  obtain ⟨x7, e_x7⟩ : ∃ z : Int32, z = (F_X11_throwsAt x5).2 := ⟨_, rfl⟩
  have hp := hp x7 e_x7
  refine r_ws (I' := [[(o, .inr (9, [.ref aS, .ref aPast, .int known, .ref aSnap, .int kept, .ref aText, .int len, .int x7, .ref aOne, .ref aTwo, .ref aBoth, .ref aWord, .int cre, .ref aOpen, .ref aTimes, .ref aFar, .ref aQueue, .long hash]))], [(aS, .inl (cI, 335, .inl fS))], [(aOne, .inl (cI, 4, .inl fOne))]]) (by rw [e_x7]; rfl) ?_
  have hps := hp
  suffices K : ∀ x12 : Int32, x12 = ((if r6 = 0 then (let r10 : Int32 := (F_X11_foldedLength fS fOne letter crease).1; r10) else (0))) → ∀ g13 : Nat → Int32, g13 = ((if r6 = 0 then (let g11 : Nat → Int32 := (F_X11_foldedLength fS fOne letter crease).2; g11) else (fOne))) → V p l e (rmm 3 66) s m args below meth c 3 D A 0 0 Q [[(o, .inr (9, [.ref aS, .ref aPast, .int known, .ref aSnap, .int kept, .ref aText, .int len, .int x7, .ref aOne, .ref aTwo, .ref aBoth, .ref aWord, .int cre, .ref aOpen, .ref aTimes, .ref aFar, .ref aQueue, .long hash]))], [(aS, .inl (cI, 335, .inl fS))], [(aOne, .inl (cI, 4, .inl g13))]] [(0, .ref o), (1, .int letter), (2, .int crease)] 38 [.int x12] by
    have hp := hps
    refine r_if_eq (tgt := 32) C dX11_ifFolded_25 (by decide) (fun c8 => ?_) (fun c8 => ?_)
    · have hp := hp.1 c8
      refine r_aload_n C dX11_ifFolded_32 0 rfl ?_
      refine r_iload_n C dX11_ifFolded_33 1 rfl ?_
      refine r_iload_n C dX11_ifFolded_34 2 rfl ?_
      have h9 := hp
      refine r_callV (ci := 9) (wc := [[(o, .inr (9, [.ref aS, .ref aPast, .int known, .ref aSnap, .int kept, .ref aText, .int len, .int x7, .ref aOne, .ref aTwo, .ref aBoth, .ref aWord, .int cre, .ref aOpen, .ref aTimes, .ref aFar, .ref aQueue, .long hash]))], [(aS, .inl (cI, 335, .inl fS))], [(aOne, .inl (cI, 4, .inl fOne))]]) (wr := []) (st := []) C (m_X11_foldedLength l D cI cL cP cJ o aS aPast aSnap aText aOne aTwo aBoth aWord aOpen aTimes aFar aQueue known kept len x7 cre hash fS fOne letter crease h9) k_X11_foldedLength t_1171 [0, 1, 2] (show ([0, 1, 2] : List Nat).Perm (List.range 3) by decide) rfl rfl rfl (q0 := 0) rfl rfl rfl (Nat.le_of_ble_eq_true rfl) ⟨Nat.le_of_ble_eq_true rfl, Nat.le_of_ble_eq_true rfl⟩ ⟨Nat.zero_le _, Nat.zero_le _⟩ dX11_ifFolded_35 (fun r10 wr10 hw10 => ?_)
      obtain ⟨e_r10, rfl⟩ := hw10
      obtain ⟨g11, e_g11⟩ : ∃ z : Nat → Int32, z = (F_X11_foldedLength fS fOne letter crease).2 := ⟨_, rfl⟩
      refine r_ws (I' := [[(o, .inr (9, [.ref aS, .ref aPast, .int known, .ref aSnap, .int kept, .ref aText, .int len, .int x7, .ref aOne, .ref aTwo, .ref aBoth, .ref aWord, .int cre, .ref aOpen, .ref aTimes, .ref aFar, .ref aQueue, .long hash]))], [(aS, .inl (cI, 335, .inl fS))], [(aOne, .inl (cI, 4, .inl g11))]]) (by rw [e_g11]; rfl) ?_
      exact K _ (by have q := e_r10.symm; subst q; have q := e_g11.symm; subst q; simp only [if_pos c8]) _ (by have q := e_r10.symm; subst q; have q := e_g11.symm; subst q; simp only [if_pos c8])
    · refine r_iconst (v := 0) C dX11_ifFolded_28 (by decide) ?_
      refine r_goto (tgt := 38) C dX11_ifFolded_29 (by decide) ?_
      exact K _ (by simp only [if_neg c8]) _ (by simp only [if_neg c8])
  intro x12 e_x12 g13 e_g13
  have eF : F_X11_ifFolded fS fOne letter crease = (x12, x7, g13) := by have q := e_r1.symm; subst q; have q := e_x5.symm; subst q; have q := e_r6.symm; subst q; have q := e_x7.symm; subst q; have q := e_x12.symm; subst q; have q := e_g13.symm; subst q; rfl
  exact r_iret (r := x12) C hA hr hlo dX11_ifFolded_38 [[(o, .inr (9, [.ref aS, .ref aPast, .int known, .ref aSnap, .int kept, .ref aText, .int len, .int x7, .ref aOne, .ref aTwo, .ref aBoth, .ref aWord, .int cre, .ref aOpen, .ref aTimes, .ref aFar, .ref aQueue, .long hash]))], [(aS, .inl (cI, 335, .inl fS))], [(aOne, .inl (cI, 4, .inl g13))]] ⟨by simp only [eF], by simp only [eF]⟩ rfl hQ
theorem k_X11_distance : kV yX11_distance cX11_distance 3 (some .int) 2 := ⟨t_1204, t_1205, t_67, t_1206, by decide +kernel, by decide +kernel, by decide +kernel⟩
set_option maxRecDepth 20000 in
def F_X11_distance (fS : Nat → Int32) (fOne : Nat → Int32) (fTwo : Nat → Int32) (fBoth : Nat → Int32) (fst : Int32) (snd : Int32) : Int32 × Int32 × (Nat → Int32) × (Nat → Int32) × (Nat → Int32) := let r1 : Int32 := F_X11_isLetter fst; let x5 : Int32 := (if r1 = 0 then (1) else (let r3 : Int32 := F_X11_isLetter snd; (if r3 = 0 then (1) else (0)))); let r6 : Int32 := (F_X11_throwsAt x5).1; let x7 : Int32 := (F_X11_throwsAt x5).2; let x14 : Int32 := (if r6 = 0 then (let r10 : Int32 := (F_X11_distanceOf fS fOne fTwo fBoth fst snd).1; r10) else (0)); let g15 : Nat → Int32 := (if r6 = 0 then (let g11 : Nat → Int32 := (F_X11_distanceOf fS fOne fTwo fBoth fst snd).2.1; g11) else (fOne)); let g16 : Nat → Int32 := (if r6 = 0 then (let g12 : Nat → Int32 := (F_X11_distanceOf fS fOne fTwo fBoth fst snd).2.2.1; g12) else (fTwo)); let g17 : Nat → Int32 := (if r6 = 0 then (let g13 : Nat → Int32 := (F_X11_distanceOf fS fOne fTwo fBoth fst snd).2.2.2; g13) else (fBoth)); (x14, x7, g15, g16, g17)
set_option maxRecDepth 20000 in
def P_X11_distance (fS : Nat → Int32) (fOne : Nat → Int32) (fTwo : Nat → Int32) (fBoth : Nat → Int32) (fst : Int32) (snd : Int32) : Prop := (∀ r1 : Int32, r1 = F_X11_isLetter fst → (∀ x5 : Int32, x5 = ((if r1 = 0 then (1) else (let r3 : Int32 := F_X11_isLetter snd; (if r3 = 0 then (1) else (0))))) → (∀ r6 : Int32, r6 = (F_X11_throwsAt x5).1 → (∀ x7 : Int32, x7 = (F_X11_throwsAt x5).2 → ((r6 = 0 → (P_X11_distanceOf fS fOne fTwo fBoth fst snd)) ∧ (¬ r6 = 0 → True))))))
set_option maxRecDepth 20000 in
set_option maxHeartbeats 8000000 in
theorem m_X11_distance (l : Launch) (D : va_G) (cI cL cP cJ : ClassId) (o : Nat) (aS : Nat) (aPast : Nat) (aSnap : Nat) (aText : Nat) (aOne : Nat) (aTwo : Nat) (aBoth : Nat) (aWord : Nat) (aOpen : Nat) (aTimes : Nat) (aFar : Nat) (aQueue : Nat) (known : Int32) (kept : Int32) (len : Int32) (thr : Int32) (cre : Int32) (hash : Int64) (fS : Nat → Int32) (fOne : Nat → Int32) (fTwo : Nat → Int32) (fBoth : Nat → Int32) (fst : Int32) (snd : Int32) (hp : P_X11_distance fS fOne fTwo fBoth fst snd) : M vI l yX11_distance cX11_distance 3 (some .int) 3 66 D (tyF cI cL cP cJ) [.ref o, .int fst, .int snd] [[(o, .inr (9, [.ref aS, .ref aPast, .int known, .ref aSnap, .int kept, .ref aText, .int len, .int thr, .ref aOne, .ref aTwo, .ref aBoth, .ref aWord, .int cre, .ref aOpen, .ref aTimes, .ref aFar, .ref aQueue, .long hash]))], [(aS, .inl (cI, 335, .inl fS))], [(aOne, .inl (cI, 4, .inl fOne))], [(aTwo, .inl (cI, 4, .inl fTwo))], [(aBoth, .inl (cI, 4, .inl fBoth))]] (fun (r : Int32) (w1 : List va_W) => r = (F_X11_distance fS fOne fTwo fBoth fst snd).1 ∧ w1 = [[(o, .inr (9, [.ref aS, .ref aPast, .int known, .ref aSnap, .int kept, .ref aText, .int len, .int ((F_X11_distance fS fOne fTwo fBoth fst snd).2.1), .ref aOne, .ref aTwo, .ref aBoth, .ref aWord, .int cre, .ref aOpen, .ref aTimes, .ref aFar, .ref aQueue, .long hash]))], [(aS, .inl (cI, 335, .inl fS))], [(aOne, .inl (cI, 4, .inl ((F_X11_distance fS fOne fTwo fBoth fst snd).2.2.1)))], [(aTwo, .inl (cI, 4, .inl ((F_X11_distance fS fOne fTwo fBoth fst snd).2.2.2.1)))], [(aBoth, .inl (cI, 4, .inl ((F_X11_distance fS fOne fTwo fBoth fst snd).2.2.2.2)))]]) := by
  unfold P_X11_distance at hp
  refine m_start (by decide +kernel) (Nat.le_of_ble_eq_true rfl) (fun p e s m args below meth c A Q hA hQ C hr hlo => ?_)
  refine r_Le (L' := [(0, .ref o), (1, .int fst), (2, .int snd)]) rfl ?_
  refine r_aload_n C dX11_distance_0 0 rfl ?_
  refine r_iload_n C dX11_distance_1 1 rfl ?_
  refine r_callS (wc := []) (wr := [[(o, .inr (9, [.ref aS, .ref aPast, .int known, .ref aSnap, .int kept, .ref aText, .int len, .int thr, .ref aOne, .ref aTwo, .ref aBoth, .ref aWord, .int cre, .ref aOpen, .ref aTimes, .ref aFar, .ref aQueue, .long hash]))], [(aS, .inl (cI, 335, .inl fS))], [(aOne, .inl (cI, 4, .inl fOne))], [(aTwo, .inl (cI, 4, .inl fTwo))], [(aBoth, .inl (cI, 4, .inl fBoth))]]) (st := [.ref o]) C (m_X11_isLetter l D cI cL cP cJ fst) k_X11_isLetter t_956 [0, 1, 2, 3, 4] (show ([0, 1, 2, 3, 4] : List Nat).Perm (List.range 5) by decide) rfl rfl rfl (Nat.le_of_ble_eq_true rfl) ⟨Nat.le_of_ble_eq_true rfl, Nat.le_of_ble_eq_true rfl⟩ ⟨Nat.zero_le _, Nat.zero_le _⟩ dX11_distance_2 (fun r1 wr1 hw1 => ?_)
  obtain ⟨e_r1, rfl⟩ := hw1
  have hp := hp r1 e_r1
  refine r_ws (I' := [[(o, .inr (9, [.ref aS, .ref aPast, .int known, .ref aSnap, .int kept, .ref aText, .int len, .int thr, .ref aOne, .ref aTwo, .ref aBoth, .ref aWord, .int cre, .ref aOpen, .ref aTimes, .ref aFar, .ref aQueue, .long hash]))], [(aS, .inl (cI, 335, .inl fS))], [(aOne, .inl (cI, 4, .inl fOne))], [(aTwo, .inl (cI, 4, .inl fTwo))], [(aBoth, .inl (cI, 4, .inl fBoth))]]) rfl ?_
  suffices K : ∀ x5 : Int32, x5 = ((if r1 = 0 then (1) else (let r3 : Int32 := F_X11_isLetter snd; (if r3 = 0 then (1) else (0))))) → V p l e (rmm 3 66) s m args below meth c 3 D A 0 0 Q [[(o, .inr (9, [.ref aS, .ref aPast, .int known, .ref aSnap, .int kept, .ref aText, .int len, .int thr, .ref aOne, .ref aTwo, .ref aBoth, .ref aWord, .int cre, .ref aOpen, .ref aTimes, .ref aFar, .ref aQueue, .long hash]))], [(aS, .inl (cI, 335, .inl fS))], [(aOne, .inl (cI, 4, .inl fOne))], [(aTwo, .inl (cI, 4, .inl fTwo))], [(aBoth, .inl (cI, 4, .inl fBoth))]] [(0, .ref o), (1, .int fst), (2, .int snd)] 20 [.int x5, .ref o] by
    refine r_if_eq (tgt := 19) C dX11_distance_5 (by decide) (fun c2 => ?_) (fun c2 => ?_)
    · refine r_iconst (v := 1) C dX11_distance_19 (by decide) ?_
      exact K _ (by simp only [if_pos c2])
    · refine r_iload_n C dX11_distance_8 2 rfl ?_
      refine r_callS (wc := []) (wr := [[(o, .inr (9, [.ref aS, .ref aPast, .int known, .ref aSnap, .int kept, .ref aText, .int len, .int thr, .ref aOne, .ref aTwo, .ref aBoth, .ref aWord, .int cre, .ref aOpen, .ref aTimes, .ref aFar, .ref aQueue, .long hash]))], [(aS, .inl (cI, 335, .inl fS))], [(aOne, .inl (cI, 4, .inl fOne))], [(aTwo, .inl (cI, 4, .inl fTwo))], [(aBoth, .inl (cI, 4, .inl fBoth))]]) (st := [.ref o]) C (m_X11_isLetter l D cI cL cP cJ snd) k_X11_isLetter t_956 [0, 1, 2, 3, 4] (show ([0, 1, 2, 3, 4] : List Nat).Perm (List.range 5) by decide) rfl rfl rfl (Nat.le_of_ble_eq_true rfl) ⟨Nat.le_of_ble_eq_true rfl, Nat.le_of_ble_eq_true rfl⟩ ⟨Nat.zero_le _, Nat.zero_le _⟩ dX11_distance_9 (fun r3 wr3 hw3 => ?_)
      obtain ⟨e_r3, rfl⟩ := hw3
      refine r_ws (I' := [[(o, .inr (9, [.ref aS, .ref aPast, .int known, .ref aSnap, .int kept, .ref aText, .int len, .int thr, .ref aOne, .ref aTwo, .ref aBoth, .ref aWord, .int cre, .ref aOpen, .ref aTimes, .ref aFar, .ref aQueue, .long hash]))], [(aS, .inl (cI, 335, .inl fS))], [(aOne, .inl (cI, 4, .inl fOne))], [(aTwo, .inl (cI, 4, .inl fTwo))], [(aBoth, .inl (cI, 4, .inl fBoth))]]) rfl ?_
      refine r_if_eq (tgt := 19) C dX11_distance_12 (by decide) (fun c4 => ?_) (fun c4 => ?_)
      · refine r_iconst (v := 1) C dX11_distance_19 (by decide) ?_
        exact K _ (by have q := e_r3.symm; subst q; simp only [if_neg c2, if_pos c4])
      · refine r_iconst (v := 0) C dX11_distance_15 (by decide) ?_
        refine r_goto (tgt := 20) C dX11_distance_16 (by decide) ?_
        exact K _ (by have q := e_r3.symm; subst q; simp only [if_neg c2, if_neg c4])
  intro x5 e_x5
  have hp := hp x5 e_x5
  refine r_callV (ci := 9) (wc := [[(o, .inr (9, [.ref aS, .ref aPast, .int known, .ref aSnap, .int kept, .ref aText, .int len, .int thr, .ref aOne, .ref aTwo, .ref aBoth, .ref aWord, .int cre, .ref aOpen, .ref aTimes, .ref aFar, .ref aQueue, .long hash]))]]) (wr := [[(aS, .inl (cI, 335, .inl fS))], [(aOne, .inl (cI, 4, .inl fOne))], [(aTwo, .inl (cI, 4, .inl fTwo))], [(aBoth, .inl (cI, 4, .inl fBoth))]]) (st := []) C (m_X11_throwsAt l D cI cL cP cJ o aS aPast aSnap aText aOne aTwo aBoth aWord aOpen aTimes aFar aQueue known kept len thr cre hash x5) k_X11_throwsAt t_974 [0, 1, 2, 3, 4] (show ([0, 1, 2, 3, 4] : List Nat).Perm (List.range 5) by decide) rfl rfl rfl (q0 := 0) rfl rfl rfl (Nat.le_of_ble_eq_true rfl) ⟨Nat.le_of_ble_eq_true rfl, Nat.le_of_ble_eq_true rfl⟩ ⟨Nat.zero_le _, Nat.zero_le _⟩ dX11_distance_20 (fun r6 wr6 hw6 => ?_)
  obtain ⟨e_r6, rfl⟩ := hw6
  have hp := hp r6 e_r6
  obtain ⟨x7, e_x7⟩ : ∃ z : Int32, z = (F_X11_throwsAt x5).2 := ⟨_, rfl⟩
  have hp := hp x7 e_x7
  refine r_ws (I' := [[(o, .inr (9, [.ref aS, .ref aPast, .int known, .ref aSnap, .int kept, .ref aText, .int len, .int x7, .ref aOne, .ref aTwo, .ref aBoth, .ref aWord, .int cre, .ref aOpen, .ref aTimes, .ref aFar, .ref aQueue, .long hash]))], [(aS, .inl (cI, 335, .inl fS))], [(aOne, .inl (cI, 4, .inl fOne))], [(aTwo, .inl (cI, 4, .inl fTwo))], [(aBoth, .inl (cI, 4, .inl fBoth))]]) (by rw [e_x7]; rfl) ?_
  have hps := hp
  suffices K : ∀ x14 : Int32, x14 = ((if r6 = 0 then (let r10 : Int32 := (F_X11_distanceOf fS fOne fTwo fBoth fst snd).1; r10) else (0))) → ∀ g15 : Nat → Int32, g15 = ((if r6 = 0 then (let g11 : Nat → Int32 := (F_X11_distanceOf fS fOne fTwo fBoth fst snd).2.1; g11) else (fOne))) → ∀ g16 : Nat → Int32, g16 = ((if r6 = 0 then (let g12 : Nat → Int32 := (F_X11_distanceOf fS fOne fTwo fBoth fst snd).2.2.1; g12) else (fTwo))) → ∀ g17 : Nat → Int32, g17 = ((if r6 = 0 then (let g13 : Nat → Int32 := (F_X11_distanceOf fS fOne fTwo fBoth fst snd).2.2.2; g13) else (fBoth))) → V p l e (rmm 3 66) s m args below meth c 3 D A 0 0 Q [[(o, .inr (9, [.ref aS, .ref aPast, .int known, .ref aSnap, .int kept, .ref aText, .int len, .int x7, .ref aOne, .ref aTwo, .ref aBoth, .ref aWord, .int cre, .ref aOpen, .ref aTimes, .ref aFar, .ref aQueue, .long hash]))], [(aS, .inl (cI, 335, .inl fS))], [(aOne, .inl (cI, 4, .inl g15))], [(aTwo, .inl (cI, 4, .inl g16))], [(aBoth, .inl (cI, 4, .inl g17))]] [(0, .ref o), (1, .int fst), (2, .int snd)] 36 [.int x14] by
    have hp := hps
    refine r_if_eq (tgt := 30) C dX11_distance_23 (by decide) (fun c8 => ?_) (fun c8 => ?_)
    · have hp := hp.1 c8
      refine r_aload_n C dX11_distance_30 0 rfl ?_
      refine r_iload_n C dX11_distance_31 1 rfl ?_
      refine r_iload_n C dX11_distance_32 2 rfl ?_
      have h9 := hp
      refine r_callV (ci := 9) (wc := [[(o, .inr (9, [.ref aS, .ref aPast, .int known, .ref aSnap, .int kept, .ref aText, .int len, .int x7, .ref aOne, .ref aTwo, .ref aBoth, .ref aWord, .int cre, .ref aOpen, .ref aTimes, .ref aFar, .ref aQueue, .long hash]))], [(aS, .inl (cI, 335, .inl fS))], [(aOne, .inl (cI, 4, .inl fOne))], [(aTwo, .inl (cI, 4, .inl fTwo))], [(aBoth, .inl (cI, 4, .inl fBoth))]]) (wr := []) (st := []) C (m_X11_distanceOf l D cI cL cP cJ o aS aPast aSnap aText aOne aTwo aBoth aWord aOpen aTimes aFar aQueue known kept len x7 cre hash fS fOne fTwo fBoth fst snd h9) k_X11_distanceOf t_1207 [0, 1, 2, 3, 4] (show ([0, 1, 2, 3, 4] : List Nat).Perm (List.range 5) by decide) rfl rfl rfl (q0 := 0) rfl rfl rfl (Nat.le_of_ble_eq_true rfl) ⟨Nat.le_of_ble_eq_true rfl, Nat.le_of_ble_eq_true rfl⟩ ⟨Nat.zero_le _, Nat.zero_le _⟩ dX11_distance_33 (fun r10 wr10 hw10 => ?_)
      obtain ⟨e_r10, rfl⟩ := hw10
      obtain ⟨g11, e_g11⟩ : ∃ z : Nat → Int32, z = (F_X11_distanceOf fS fOne fTwo fBoth fst snd).2.1 := ⟨_, rfl⟩
      obtain ⟨g12, e_g12⟩ : ∃ z : Nat → Int32, z = (F_X11_distanceOf fS fOne fTwo fBoth fst snd).2.2.1 := ⟨_, rfl⟩
      obtain ⟨g13, e_g13⟩ : ∃ z : Nat → Int32, z = (F_X11_distanceOf fS fOne fTwo fBoth fst snd).2.2.2 := ⟨_, rfl⟩
      refine r_ws (I' := [[(o, .inr (9, [.ref aS, .ref aPast, .int known, .ref aSnap, .int kept, .ref aText, .int len, .int x7, .ref aOne, .ref aTwo, .ref aBoth, .ref aWord, .int cre, .ref aOpen, .ref aTimes, .ref aFar, .ref aQueue, .long hash]))], [(aS, .inl (cI, 335, .inl fS))], [(aOne, .inl (cI, 4, .inl g11))], [(aTwo, .inl (cI, 4, .inl g12))], [(aBoth, .inl (cI, 4, .inl g13))]]) (by rw [e_g11, e_g12, e_g13]; rfl) ?_
      exact K _ (by have q := e_r10.symm; subst q; have q := e_g11.symm; subst q; have q := e_g12.symm; subst q; have q := e_g13.symm; subst q; simp only [if_pos c8]) _ (by have q := e_r10.symm; subst q; have q := e_g11.symm; subst q; have q := e_g12.symm; subst q; have q := e_g13.symm; subst q; simp only [if_pos c8]) _ (by have q := e_r10.symm; subst q; have q := e_g11.symm; subst q; have q := e_g12.symm; subst q; have q := e_g13.symm; subst q; simp only [if_pos c8]) _ (by have q := e_r10.symm; subst q; have q := e_g11.symm; subst q; have q := e_g12.symm; subst q; have q := e_g13.symm; subst q; simp only [if_pos c8])
    · refine r_iconst (v := 0) C dX11_distance_26 (by decide) ?_
      refine r_goto (tgt := 36) C dX11_distance_27 (by decide) ?_
      exact K _ (by simp only [if_neg c8]) _ (by simp only [if_neg c8]) _ (by simp only [if_neg c8]) _ (by simp only [if_neg c8])
  intro x14 e_x14 g15 e_g15 g16 e_g16 g17 e_g17
  have eF : F_X11_distance fS fOne fTwo fBoth fst snd = (x14, x7, g15, g16, g17) := by have q := e_r1.symm; subst q; have q := e_x5.symm; subst q; have q := e_r6.symm; subst q; have q := e_x7.symm; subst q; have q := e_x14.symm; subst q; have q := e_g15.symm; subst q; have q := e_g16.symm; subst q; have q := e_g17.symm; subst q; rfl
  exact r_iret (r := x14) C hA hr hlo dX11_distance_36 [[(o, .inr (9, [.ref aS, .ref aPast, .int known, .ref aSnap, .int kept, .ref aText, .int len, .int x7, .ref aOne, .ref aTwo, .ref aBoth, .ref aWord, .int cre, .ref aOpen, .ref aTimes, .ref aFar, .ref aQueue, .long hash]))], [(aS, .inl (cI, 335, .inl fS))], [(aOne, .inl (cI, 4, .inl g15))], [(aTwo, .inl (cI, 4, .inl g16))], [(aBoth, .inl (cI, 4, .inl g17))]] ⟨by simp only [eF], by simp only [eF]⟩ rfl hQ
theorem k_X11_nearestTo : kV yX11_nearestTo cX11_nearestTo 6 (some .int) 1 := ⟨t_1217, t_49, t_67, t_1218, by decide +kernel, by decide +kernel, by decide +kernel⟩
set_option maxRecDepth 20000 in
def F_X11_nearestTo (fS : Nat → Int32) (fOne : Nat → Int32) (fTwo : Nat → Int32) (fBoth : Nat → Int32) (letter : Int32) : Int32 × (Nat → Int32) × (Nat → Int32) × (Nat → Int32) := let x7 : Int32 := (if (0 : Int32) = letter then (99) else (let r3 : Int32 := (F_X11_distanceOf fS fOne fTwo fBoth letter 0).1; r3)); let g8 : Nat → Int32 := (if (0 : Int32) = letter then (fOne) else (let g4 : Nat → Int32 := (F_X11_distanceOf fS fOne fTwo fBoth letter 0).2.1; g4)); let g9 : Nat → Int32 := (if (0 : Int32) = letter then (fTwo) else (let g5 : Nat → Int32 := (F_X11_distanceOf fS fOne fTwo fBoth letter 0).2.2.1; g5)); let g10 : Nat → Int32 := (if (0 : Int32) = letter then (fBoth) else (let g6 : Nat → Int32 := (F_X11_distanceOf fS fOne fTwo fBoth letter 0).2.2.2; g6)); let x12 : Int32 := (if 99 ≤ x7 then ((-10)) else (0)); let x14 : Int32 := (if 99 ≤ x7 then (99) else (x7)); let x21 : Int32 := (if (1 : Int32) = letter then (99) else (let r17 : Int32 := (F_X11_distanceOf fS g8 g9 g10 letter 1).1; r17)); let g22 : Nat → Int32 := (if (1 : Int32) = letter then (g8) else (let g18 : Nat → Int32 := (F_X11_distanceOf fS g8 g9 g10 letter 1).2.1; g18)); let g23 : Nat → Int32 := (if (1 : Int32) = letter then (g9) else (let g19 : Nat → Int32 := (F_X11_distanceOf fS g8 g9 g10 letter 1).2.2.1; g19)); let g24 : Nat → Int32 := (if (1 : Int32) = letter then (g10) else (let g20 : Nat → Int32 := (F_X11_distanceOf fS g8 g9 g10 letter 1).2.2.2; g20)); let x26 : Int32 := (if x14 ≤ x21 then (x12) else (1)); let x28 : Int32 := (if x14 ≤ x21 then (x14) else (x21)); let x35 : Int32 := (if (2 : Int32) = letter then (99) else (let r31 : Int32 := (F_X11_distanceOf fS g22 g23 g24 letter 2).1; r31)); let g36 : Nat → Int32 := (if (2 : Int32) = letter then (g22) else (let g32 : Nat → Int32 := (F_X11_distanceOf fS g22 g23 g24 letter 2).2.1; g32)); let g37 : Nat → Int32 := (if (2 : Int32) = letter then (g23) else (let g33 : Nat → Int32 := (F_X11_distanceOf fS g22 g23 g24 letter 2).2.2.1; g33)); let g38 : Nat → Int32 := (if (2 : Int32) = letter then (g24) else (let g34 : Nat → Int32 := (F_X11_distanceOf fS g22 g23 g24 letter 2).2.2.2; g34)); let x40 : Int32 := (if x28 ≤ x35 then (x26) else (2)); let x42 : Int32 := (if x28 ≤ x35 then (x28) else (x35)); let x49 : Int32 := (if (3 : Int32) = letter then (99) else (let r45 : Int32 := (F_X11_distanceOf fS g36 g37 g38 letter 3).1; r45)); let g50 : Nat → Int32 := (if (3 : Int32) = letter then (g36) else (let g46 : Nat → Int32 := (F_X11_distanceOf fS g36 g37 g38 letter 3).2.1; g46)); let g51 : Nat → Int32 := (if (3 : Int32) = letter then (g37) else (let g47 : Nat → Int32 := (F_X11_distanceOf fS g36 g37 g38 letter 3).2.2.1; g47)); let g52 : Nat → Int32 := (if (3 : Int32) = letter then (g38) else (let g48 : Nat → Int32 := (F_X11_distanceOf fS g36 g37 g38 letter 3).2.2.2; g48)); let x54 : Int32 := (if x42 ≤ x49 then (x40) else (3)); let x56 : Int32 := (if x42 ≤ x49 then (x42) else (x49)); let x63 : Int32 := (if (4 : Int32) = letter then (99) else (let r59 : Int32 := (F_X11_distanceOf fS g50 g51 g52 letter 4).1; r59)); let g64 : Nat → Int32 := (if (4 : Int32) = letter then (g50) else (let g60 : Nat → Int32 := (F_X11_distanceOf fS g50 g51 g52 letter 4).2.1; g60)); let g65 : Nat → Int32 := (if (4 : Int32) = letter then (g51) else (let g61 : Nat → Int32 := (F_X11_distanceOf fS g50 g51 g52 letter 4).2.2.1; g61)); let g66 : Nat → Int32 := (if (4 : Int32) = letter then (g52) else (let g62 : Nat → Int32 := (F_X11_distanceOf fS g50 g51 g52 letter 4).2.2.2; g62)); let x68 : Int32 := (if x56 ≤ x63 then (x54) else (4)); (x68, g64, g65, g66)
set_option maxRecDepth 20000 in
def P_X11_nearestTo (fS : Nat → Int32) (fOne : Nat → Int32) (fTwo : Nat → Int32) (fBoth : Nat → Int32) (letter : Int32) : Prop := ((((0 : Int32) = letter → True) ∧ (¬ (0 : Int32) = letter → (P_X11_distanceOf fS fOne fTwo fBoth letter 0))) ∧ (∀ x7 : Int32, x7 = ((if (0 : Int32) = letter then (99) else (let r3 : Int32 := (F_X11_distanceOf fS fOne fTwo fBoth letter 0).1; r3))) → (∀ g8 : Nat → Int32, g8 = ((if (0 : Int32) = letter then (fOne) else (let g4 : Nat → Int32 := (F_X11_distanceOf fS fOne fTwo fBoth letter 0).2.1; g4))) → (∀ g9 : Nat → Int32, g9 = ((if (0 : Int32) = letter then (fTwo) else (let g5 : Nat → Int32 := (F_X11_distanceOf fS fOne fTwo fBoth letter 0).2.2.1; g5))) → (∀ g10 : Nat → Int32, g10 = ((if (0 : Int32) = letter then (fBoth) else (let g6 : Nat → Int32 := (F_X11_distanceOf fS fOne fTwo fBoth letter 0).2.2.2; g6))) → (∀ x12 : Int32, x12 = ((if 99 ≤ x7 then ((-10)) else (0))) → (∀ x14 : Int32, x14 = ((if 99 ≤ x7 then (99) else (x7))) → ((((1 : Int32) = letter → True) ∧ (¬ (1 : Int32) = letter → (P_X11_distanceOf fS g8 g9 g10 letter 1))) ∧ (∀ x21 : Int32, x21 = ((if (1 : Int32) = letter then (99) else (let r17 : Int32 := (F_X11_distanceOf fS g8 g9 g10 letter 1).1; r17))) → (∀ g22 : Nat → Int32, g22 = ((if (1 : Int32) = letter then (g8) else (let g18 : Nat → Int32 := (F_X11_distanceOf fS g8 g9 g10 letter 1).2.1; g18))) → (∀ g23 : Nat → Int32, g23 = ((if (1 : Int32) = letter then (g9) else (let g19 : Nat → Int32 := (F_X11_distanceOf fS g8 g9 g10 letter 1).2.2.1; g19))) → (∀ g24 : Nat → Int32, g24 = ((if (1 : Int32) = letter then (g10) else (let g20 : Nat → Int32 := (F_X11_distanceOf fS g8 g9 g10 letter 1).2.2.2; g20))) → (∀ x26 : Int32, x26 = ((if x14 ≤ x21 then (x12) else (1))) → (∀ x28 : Int32, x28 = ((if x14 ≤ x21 then (x14) else (x21))) → ((((2 : Int32) = letter → True) ∧ (¬ (2 : Int32) = letter → (P_X11_distanceOf fS g22 g23 g24 letter 2))) ∧ (∀ x35 : Int32, x35 = ((if (2 : Int32) = letter then (99) else (let r31 : Int32 := (F_X11_distanceOf fS g22 g23 g24 letter 2).1; r31))) → (∀ g36 : Nat → Int32, g36 = ((if (2 : Int32) = letter then (g22) else (let g32 : Nat → Int32 := (F_X11_distanceOf fS g22 g23 g24 letter 2).2.1; g32))) → (∀ g37 : Nat → Int32, g37 = ((if (2 : Int32) = letter then (g23) else (let g33 : Nat → Int32 := (F_X11_distanceOf fS g22 g23 g24 letter 2).2.2.1; g33))) → (∀ g38 : Nat → Int32, g38 = ((if (2 : Int32) = letter then (g24) else (let g34 : Nat → Int32 := (F_X11_distanceOf fS g22 g23 g24 letter 2).2.2.2; g34))) → (∀ x40 : Int32, x40 = ((if x28 ≤ x35 then (x26) else (2))) → (∀ x42 : Int32, x42 = ((if x28 ≤ x35 then (x28) else (x35))) → ((((3 : Int32) = letter → True) ∧ (¬ (3 : Int32) = letter → (P_X11_distanceOf fS g36 g37 g38 letter 3))) ∧ (∀ x49 : Int32, x49 = ((if (3 : Int32) = letter then (99) else (let r45 : Int32 := (F_X11_distanceOf fS g36 g37 g38 letter 3).1; r45))) → (∀ g50 : Nat → Int32, g50 = ((if (3 : Int32) = letter then (g36) else (let g46 : Nat → Int32 := (F_X11_distanceOf fS g36 g37 g38 letter 3).2.1; g46))) → (∀ g51 : Nat → Int32, g51 = ((if (3 : Int32) = letter then (g37) else (let g47 : Nat → Int32 := (F_X11_distanceOf fS g36 g37 g38 letter 3).2.2.1; g47))) → (∀ g52 : Nat → Int32, g52 = ((if (3 : Int32) = letter then (g38) else (let g48 : Nat → Int32 := (F_X11_distanceOf fS g36 g37 g38 letter 3).2.2.2; g48))) → (∀ x54 : Int32, x54 = ((if x42 ≤ x49 then (x40) else (3))) → (∀ x56 : Int32, x56 = ((if x42 ≤ x49 then (x42) else (x49))) → (((4 : Int32) = letter → True) ∧ (¬ (4 : Int32) = letter → (P_X11_distanceOf fS g50 g51 g52 letter 4)))))))))))))))))))))))))))))))
set_option maxRecDepth 20000 in
set_option maxHeartbeats 8000000 in
theorem m_X11_nearestTo (l : Launch) (D : va_G) (cI cL cP cJ : ClassId) (o : Nat) (aS : Nat) (aPast : Nat) (aSnap : Nat) (aText : Nat) (aOne : Nat) (aTwo : Nat) (aBoth : Nat) (aWord : Nat) (aOpen : Nat) (aTimes : Nat) (aFar : Nat) (aQueue : Nat) (known : Int32) (kept : Int32) (len : Int32) (thr : Int32) (cre : Int32) (hash : Int64) (fS : Nat → Int32) (fOne : Nat → Int32) (fTwo : Nat → Int32) (fBoth : Nat → Int32) (letter : Int32) (hp : P_X11_nearestTo fS fOne fTwo fBoth letter) : M vI l yX11_nearestTo cX11_nearestTo 6 (some .int) 3 66 D (tyF cI cL cP cJ) [.ref o, .int letter] [[(o, .inr (9, [.ref aS, .ref aPast, .int known, .ref aSnap, .int kept, .ref aText, .int len, .int thr, .ref aOne, .ref aTwo, .ref aBoth, .ref aWord, .int cre, .ref aOpen, .ref aTimes, .ref aFar, .ref aQueue, .long hash]))], [(aS, .inl (cI, 335, .inl fS))], [(aOne, .inl (cI, 4, .inl fOne))], [(aTwo, .inl (cI, 4, .inl fTwo))], [(aBoth, .inl (cI, 4, .inl fBoth))]] (fun (r : Int32) (w1 : List va_W) => r = (F_X11_nearestTo fS fOne fTwo fBoth letter).1 ∧ w1 = [[(o, .inr (9, [.ref aS, .ref aPast, .int known, .ref aSnap, .int kept, .ref aText, .int len, .int thr, .ref aOne, .ref aTwo, .ref aBoth, .ref aWord, .int cre, .ref aOpen, .ref aTimes, .ref aFar, .ref aQueue, .long hash]))], [(aS, .inl (cI, 335, .inl fS))], [(aOne, .inl (cI, 4, .inl ((F_X11_nearestTo fS fOne fTwo fBoth letter).2.1)))], [(aTwo, .inl (cI, 4, .inl ((F_X11_nearestTo fS fOne fTwo fBoth letter).2.2.1)))], [(aBoth, .inl (cI, 4, .inl ((F_X11_nearestTo fS fOne fTwo fBoth letter).2.2.2)))]]) := by
  unfold P_X11_nearestTo at hp
  refine m_start (by decide +kernel) (Nat.le_of_ble_eq_true rfl) (fun p e s m args below meth c A Q hA hQ C hr hlo => ?_)
  refine r_Le (L' := [(0, .ref o), (1, .int letter)]) rfl ?_
  refine r_bipush (v := (-10)) C dX11_nearestTo_0 (by decide) ?_
  refine r_istore_n (L' := [(2, .int (-10)), (0, .ref o), (1, .int letter)]) C dX11_nearestTo_2 (by decide) rfl ?_
  refine r_bipush (v := 99) C dX11_nearestTo_3 (by decide) ?_
  refine r_istore_n (L' := [(3, .int 99), (2, .int (-10)), (0, .ref o), (1, .int letter)]) C dX11_nearestTo_5 (by decide) rfl ?_
  refine r_iconst (v := 0) C dX11_nearestTo_6 (by decide) ?_
  refine r_istore (L' := [(4, .int 0), (3, .int 99), (2, .int (-10)), (0, .ref o), (1, .int letter)]) C dX11_nearestTo_7 (by decide) rfl ?_
  refine r_iload C dX11_nearestTo_9 0 rfl ?_
  refine r_iconst (v := 5) C dX11_nearestTo_11 (by decide) ?_
  refine r_icmp_ge (tgt := 67) C dX11_nearestTo_12 (by decide) (fun c => absurd c (by decide)) (fun _ => ?_)
  refine r_iload C dX11_nearestTo_15 0 rfl ?_
  refine r_iload_n C dX11_nearestTo_17 4 rfl ?_
  obtain ⟨hps, hp⟩ := hp
  suffices K : ∀ x7 : Int32, x7 = ((if (0 : Int32) = letter then (99) else (let r3 : Int32 := (F_X11_distanceOf fS fOne fTwo fBoth letter 0).1; r3))) → ∀ g8 : Nat → Int32, g8 = ((if (0 : Int32) = letter then (fOne) else (let g4 : Nat → Int32 := (F_X11_distanceOf fS fOne fTwo fBoth letter 0).2.1; g4))) → ∀ g9 : Nat → Int32, g9 = ((if (0 : Int32) = letter then (fTwo) else (let g5 : Nat → Int32 := (F_X11_distanceOf fS fOne fTwo fBoth letter 0).2.2.1; g5))) → ∀ g10 : Nat → Int32, g10 = ((if (0 : Int32) = letter then (fBoth) else (let g6 : Nat → Int32 := (F_X11_distanceOf fS fOne fTwo fBoth letter 0).2.2.2; g6))) → V p l e (rmm 3 66) s m args below meth c 6 D A 0 0 Q [[(o, .inr (9, [.ref aS, .ref aPast, .int known, .ref aSnap, .int kept, .ref aText, .int len, .int thr, .ref aOne, .ref aTwo, .ref aBoth, .ref aWord, .int cre, .ref aOpen, .ref aTimes, .ref aFar, .ref aQueue, .long hash]))], [(aS, .inl (cI, 335, .inl fS))], [(aOne, .inl (cI, 4, .inl g8))], [(aTwo, .inl (cI, 4, .inl g9))], [(aBoth, .inl (cI, 4, .inl g10))]] [(4, .int 0), (3, .int 99), (2, .int (-10)), (0, .ref o), (1, .int letter)] 33 [.int x7] by
    have hp := hps
    refine r_icmp_ne (tgt := 26) C dX11_nearestTo_18 (by decide) (fun c1 => ?_) (fun c1 => ?_)
    · have hp := hp.2 c1
      refine r_aload_n C dX11_nearestTo_26 3 rfl ?_
      refine r_iload_n C dX11_nearestTo_27 4 rfl ?_
      refine r_iload C dX11_nearestTo_28 0 rfl ?_
      have h2 := hp
      refine r_callV (ci := 9) (wc := [[(o, .inr (9, [.ref aS, .ref aPast, .int known, .ref aSnap, .int kept, .ref aText, .int len, .int thr, .ref aOne, .ref aTwo, .ref aBoth, .ref aWord, .int cre, .ref aOpen, .ref aTimes, .ref aFar, .ref aQueue, .long hash]))], [(aS, .inl (cI, 335, .inl fS))], [(aOne, .inl (cI, 4, .inl fOne))], [(aTwo, .inl (cI, 4, .inl fTwo))], [(aBoth, .inl (cI, 4, .inl fBoth))]]) (wr := []) (st := []) C (m_X11_distanceOf l D cI cL cP cJ o aS aPast aSnap aText aOne aTwo aBoth aWord aOpen aTimes aFar aQueue known kept len thr cre hash fS fOne fTwo fBoth letter 0 h2) k_X11_distanceOf t_1207 [0, 1, 2, 3, 4] (show ([0, 1, 2, 3, 4] : List Nat).Perm (List.range 5) by decide) rfl rfl rfl (q0 := 0) rfl rfl rfl (Nat.le_of_ble_eq_true rfl) ⟨Nat.le_of_ble_eq_true rfl, Nat.le_of_ble_eq_true rfl⟩ ⟨Nat.zero_le _, Nat.zero_le _⟩ dX11_nearestTo_30 (fun r3 wr3 hw3 => ?_)
      obtain ⟨e_r3, rfl⟩ := hw3
      obtain ⟨g4, e_g4⟩ : ∃ z : Nat → Int32, z = (F_X11_distanceOf fS fOne fTwo fBoth letter 0).2.1 := ⟨_, rfl⟩
      obtain ⟨g5, e_g5⟩ : ∃ z : Nat → Int32, z = (F_X11_distanceOf fS fOne fTwo fBoth letter 0).2.2.1 := ⟨_, rfl⟩
      obtain ⟨g6, e_g6⟩ : ∃ z : Nat → Int32, z = (F_X11_distanceOf fS fOne fTwo fBoth letter 0).2.2.2 := ⟨_, rfl⟩
      refine r_ws (I' := [[(o, .inr (9, [.ref aS, .ref aPast, .int known, .ref aSnap, .int kept, .ref aText, .int len, .int thr, .ref aOne, .ref aTwo, .ref aBoth, .ref aWord, .int cre, .ref aOpen, .ref aTimes, .ref aFar, .ref aQueue, .long hash]))], [(aS, .inl (cI, 335, .inl fS))], [(aOne, .inl (cI, 4, .inl g4))], [(aTwo, .inl (cI, 4, .inl g5))], [(aBoth, .inl (cI, 4, .inl g6))]]) (by rw [e_g4, e_g5, e_g6]; rfl) ?_
      exact K _ (by have q := e_r3.symm; subst q; have q := e_g4.symm; subst q; have q := e_g5.symm; subst q; have q := e_g6.symm; subst q; simp only [if_neg c1]) _ (by have q := e_r3.symm; subst q; have q := e_g4.symm; subst q; have q := e_g5.symm; subst q; have q := e_g6.symm; subst q; simp only [if_neg c1]) _ (by have q := e_r3.symm; subst q; have q := e_g4.symm; subst q; have q := e_g5.symm; subst q; have q := e_g6.symm; subst q; simp only [if_neg c1]) _ (by have q := e_r3.symm; subst q; have q := e_g4.symm; subst q; have q := e_g5.symm; subst q; have q := e_g6.symm; subst q; simp only [if_neg c1])
    · refine r_bipush (v := 99) C dX11_nearestTo_21 (by decide) ?_
      refine r_goto (tgt := 33) C dX11_nearestTo_23 (by decide) ?_
      exact K _ (by simp only [if_pos c1]) _ (by simp only [if_pos c1]) _ (by simp only [if_pos c1]) _ (by simp only [if_pos c1])
  intro x7 e_x7 g8 e_g8 g9 e_g9 g10 e_g10
  have hp := hp x7 e_x7
  have hp := hp g8 e_g8
  have hp := hp g9 e_g9
  have hp := hp g10 e_g10
  refine r_istore (L' := [(5, .int x7), (4, .int 0), (3, .int 99), (2, .int (-10)), (0, .ref o), (1, .int letter)]) C dX11_nearestTo_33 (by decide) rfl ?_
  refine r_iload C dX11_nearestTo_35 0 rfl ?_
  refine r_iload_n C dX11_nearestTo_37 2 rfl ?_
  suffices K : ∀ x12 : Int32, x12 = ((if 99 ≤ x7 then ((-10)) else (0))) → V p l e (rmm 3 66) s m args below meth c 6 D A 0 0 Q [[(o, .inr (9, [.ref aS, .ref aPast, .int known, .ref aSnap, .int kept, .ref aText, .int len, .int thr, .ref aOne, .ref aTwo, .ref aBoth, .ref aWord, .int cre, .ref aOpen, .ref aTimes, .ref aFar, .ref aQueue, .long hash]))], [(aS, .inl (cI, 335, .inl fS))], [(aOne, .inl (cI, 4, .inl g8))], [(aTwo, .inl (cI, 4, .inl g9))], [(aBoth, .inl (cI, 4, .inl g10))]] [(5, .int x7), (4, .int 0), (3, .int 99), (2, .int (-10)), (0, .ref o), (1, .int letter)] 47 [.int x12] by
    refine r_icmp_ge (tgt := 46) C dX11_nearestTo_38 (by decide) (fun c11 => ?_) (fun c11 => ?_)
    · refine r_iload_n C dX11_nearestTo_46 3 rfl ?_
      exact K _ (by simp only [if_pos c11])
    · refine r_iload C dX11_nearestTo_41 1 rfl ?_
      refine r_goto (tgt := 47) C dX11_nearestTo_43 (by decide) ?_
      exact K _ (by simp only [if_neg c11])
  intro x12 e_x12
  have hp := hp x12 e_x12
  refine r_istore_n (L' := [(2, .int x12), (5, .int x7), (4, .int 0), (3, .int 99), (0, .ref o), (1, .int letter)]) C dX11_nearestTo_47 (by decide) rfl ?_
  refine r_iload C dX11_nearestTo_48 1 rfl ?_
  refine r_iload_n C dX11_nearestTo_50 3 rfl ?_
  suffices K : ∀ x14 : Int32, x14 = ((if 99 ≤ x7 then (99) else (x7))) → V p l e (rmm 3 66) s m args below meth c 6 D A 0 0 Q [[(o, .inr (9, [.ref aS, .ref aPast, .int known, .ref aSnap, .int kept, .ref aText, .int len, .int thr, .ref aOne, .ref aTwo, .ref aBoth, .ref aWord, .int cre, .ref aOpen, .ref aTimes, .ref aFar, .ref aQueue, .long hash]))], [(aS, .inl (cI, 335, .inl fS))], [(aOne, .inl (cI, 4, .inl g8))], [(aTwo, .inl (cI, 4, .inl g9))], [(aBoth, .inl (cI, 4, .inl g10))]] [(2, .int x12), (5, .int x7), (4, .int 0), (3, .int 99), (0, .ref o), (1, .int letter)] 60 [.int x14] by
    refine r_icmp_ge (tgt := 59) C dX11_nearestTo_51 (by decide) (fun c13 => ?_) (fun c13 => ?_)
    · refine r_iload_n C dX11_nearestTo_59 3 rfl ?_
      exact K _ (by simp only [if_pos c13])
    · refine r_iload C dX11_nearestTo_54 1 rfl ?_
      refine r_goto (tgt := 60) C dX11_nearestTo_56 (by decide) ?_
      exact K _ (by simp only [if_neg c13])
  intro x14 e_x14
  have hp := hp x14 e_x14
  refine r_istore_n (L' := [(3, .int x14), (2, .int x12), (5, .int x7), (4, .int 0), (0, .ref o), (1, .int letter)]) C dX11_nearestTo_60 (by decide) rfl ?_
  refine r_iinc (v := 1) (L' := [(4, .int 1), (3, .int x14), (2, .int x12), (5, .int x7), (0, .ref o), (1, .int letter)]) C dX11_nearestTo_61 3 rfl (by decide) (by decide) rfl ?_
  refine r_goto (tgt := 9) C dX11_nearestTo_64 (by decide) ?_
  refine r_iload C dX11_nearestTo_9 0 rfl ?_
  refine r_iconst (v := 5) C dX11_nearestTo_11 (by decide) ?_
  refine r_icmp_ge (tgt := 67) C dX11_nearestTo_12 (by decide) (fun c => absurd c (by decide)) (fun _ => ?_)
  refine r_iload C dX11_nearestTo_15 0 rfl ?_
  refine r_iload_n C dX11_nearestTo_17 5 rfl ?_
  obtain ⟨hps, hp⟩ := hp
  suffices K : ∀ x21 : Int32, x21 = ((if (1 : Int32) = letter then (99) else (let r17 : Int32 := (F_X11_distanceOf fS g8 g9 g10 letter 1).1; r17))) → ∀ g22 : Nat → Int32, g22 = ((if (1 : Int32) = letter then (g8) else (let g18 : Nat → Int32 := (F_X11_distanceOf fS g8 g9 g10 letter 1).2.1; g18))) → ∀ g23 : Nat → Int32, g23 = ((if (1 : Int32) = letter then (g9) else (let g19 : Nat → Int32 := (F_X11_distanceOf fS g8 g9 g10 letter 1).2.2.1; g19))) → ∀ g24 : Nat → Int32, g24 = ((if (1 : Int32) = letter then (g10) else (let g20 : Nat → Int32 := (F_X11_distanceOf fS g8 g9 g10 letter 1).2.2.2; g20))) → V p l e (rmm 3 66) s m args below meth c 6 D A 0 0 Q [[(o, .inr (9, [.ref aS, .ref aPast, .int known, .ref aSnap, .int kept, .ref aText, .int len, .int thr, .ref aOne, .ref aTwo, .ref aBoth, .ref aWord, .int cre, .ref aOpen, .ref aTimes, .ref aFar, .ref aQueue, .long hash]))], [(aS, .inl (cI, 335, .inl fS))], [(aOne, .inl (cI, 4, .inl g22))], [(aTwo, .inl (cI, 4, .inl g23))], [(aBoth, .inl (cI, 4, .inl g24))]] [(4, .int 1), (3, .int x14), (2, .int x12), (5, .int x7), (0, .ref o), (1, .int letter)] 33 [.int x21] by
    have hp := hps
    refine r_icmp_ne (tgt := 26) C dX11_nearestTo_18 (by decide) (fun c15 => ?_) (fun c15 => ?_)
    · have hp := hp.2 c15
      refine r_aload_n C dX11_nearestTo_26 4 rfl ?_
      refine r_iload_n C dX11_nearestTo_27 5 rfl ?_
      refine r_iload C dX11_nearestTo_28 0 rfl ?_
      have h16 := hp
      refine r_callV (ci := 9) (wc := [[(o, .inr (9, [.ref aS, .ref aPast, .int known, .ref aSnap, .int kept, .ref aText, .int len, .int thr, .ref aOne, .ref aTwo, .ref aBoth, .ref aWord, .int cre, .ref aOpen, .ref aTimes, .ref aFar, .ref aQueue, .long hash]))], [(aS, .inl (cI, 335, .inl fS))], [(aOne, .inl (cI, 4, .inl g8))], [(aTwo, .inl (cI, 4, .inl g9))], [(aBoth, .inl (cI, 4, .inl g10))]]) (wr := []) (st := []) C (m_X11_distanceOf l D cI cL cP cJ o aS aPast aSnap aText aOne aTwo aBoth aWord aOpen aTimes aFar aQueue known kept len thr cre hash fS g8 g9 g10 letter 1 h16) k_X11_distanceOf t_1207 [0, 1, 2, 3, 4] (show ([0, 1, 2, 3, 4] : List Nat).Perm (List.range 5) by decide) rfl rfl rfl (q0 := 0) rfl rfl rfl (Nat.le_of_ble_eq_true rfl) ⟨Nat.le_of_ble_eq_true rfl, Nat.le_of_ble_eq_true rfl⟩ ⟨Nat.zero_le _, Nat.zero_le _⟩ dX11_nearestTo_30 (fun r17 wr17 hw17 => ?_)
      obtain ⟨e_r17, rfl⟩ := hw17
      obtain ⟨g18, e_g18⟩ : ∃ z : Nat → Int32, z = (F_X11_distanceOf fS g8 g9 g10 letter 1).2.1 := ⟨_, rfl⟩
      obtain ⟨g19, e_g19⟩ : ∃ z : Nat → Int32, z = (F_X11_distanceOf fS g8 g9 g10 letter 1).2.2.1 := ⟨_, rfl⟩
      obtain ⟨g20, e_g20⟩ : ∃ z : Nat → Int32, z = (F_X11_distanceOf fS g8 g9 g10 letter 1).2.2.2 := ⟨_, rfl⟩
      refine r_ws (I' := [[(o, .inr (9, [.ref aS, .ref aPast, .int known, .ref aSnap, .int kept, .ref aText, .int len, .int thr, .ref aOne, .ref aTwo, .ref aBoth, .ref aWord, .int cre, .ref aOpen, .ref aTimes, .ref aFar, .ref aQueue, .long hash]))], [(aS, .inl (cI, 335, .inl fS))], [(aOne, .inl (cI, 4, .inl g18))], [(aTwo, .inl (cI, 4, .inl g19))], [(aBoth, .inl (cI, 4, .inl g20))]]) (by rw [e_g18, e_g19, e_g20]; rfl) ?_
      exact K _ (by have q := e_r17.symm; subst q; have q := e_g18.symm; subst q; have q := e_g19.symm; subst q; have q := e_g20.symm; subst q; simp only [if_neg c15]) _ (by have q := e_r17.symm; subst q; have q := e_g18.symm; subst q; have q := e_g19.symm; subst q; have q := e_g20.symm; subst q; simp only [if_neg c15]) _ (by have q := e_r17.symm; subst q; have q := e_g18.symm; subst q; have q := e_g19.symm; subst q; have q := e_g20.symm; subst q; simp only [if_neg c15]) _ (by have q := e_r17.symm; subst q; have q := e_g18.symm; subst q; have q := e_g19.symm; subst q; have q := e_g20.symm; subst q; simp only [if_neg c15])
    · refine r_bipush (v := 99) C dX11_nearestTo_21 (by decide) ?_
      refine r_goto (tgt := 33) C dX11_nearestTo_23 (by decide) ?_
      exact K _ (by simp only [if_pos c15]) _ (by simp only [if_pos c15]) _ (by simp only [if_pos c15]) _ (by simp only [if_pos c15])
  intro x21 e_x21 g22 e_g22 g23 e_g23 g24 e_g24
  have hp := hp x21 e_x21
  have hp := hp g22 e_g22
  have hp := hp g23 e_g23
  have hp := hp g24 e_g24
  refine r_istore (L' := [(5, .int x21), (4, .int 1), (3, .int x14), (2, .int x12), (0, .ref o), (1, .int letter)]) C dX11_nearestTo_33 (by decide) rfl ?_
  refine r_iload C dX11_nearestTo_35 0 rfl ?_
  refine r_iload_n C dX11_nearestTo_37 2 rfl ?_
  suffices K : ∀ x26 : Int32, x26 = ((if x14 ≤ x21 then (x12) else (1))) → V p l e (rmm 3 66) s m args below meth c 6 D A 0 0 Q [[(o, .inr (9, [.ref aS, .ref aPast, .int known, .ref aSnap, .int kept, .ref aText, .int len, .int thr, .ref aOne, .ref aTwo, .ref aBoth, .ref aWord, .int cre, .ref aOpen, .ref aTimes, .ref aFar, .ref aQueue, .long hash]))], [(aS, .inl (cI, 335, .inl fS))], [(aOne, .inl (cI, 4, .inl g22))], [(aTwo, .inl (cI, 4, .inl g23))], [(aBoth, .inl (cI, 4, .inl g24))]] [(5, .int x21), (4, .int 1), (3, .int x14), (2, .int x12), (0, .ref o), (1, .int letter)] 47 [.int x26] by
    refine r_icmp_ge (tgt := 46) C dX11_nearestTo_38 (by decide) (fun c25 => ?_) (fun c25 => ?_)
    · refine r_iload_n C dX11_nearestTo_46 3 rfl ?_
      exact K _ (by simp only [if_pos c25])
    · refine r_iload C dX11_nearestTo_41 1 rfl ?_
      refine r_goto (tgt := 47) C dX11_nearestTo_43 (by decide) ?_
      exact K _ (by simp only [if_neg c25])
  intro x26 e_x26
  have hp := hp x26 e_x26
  refine r_istore_n (L' := [(2, .int x26), (5, .int x21), (4, .int 1), (3, .int x14), (0, .ref o), (1, .int letter)]) C dX11_nearestTo_47 (by decide) rfl ?_
  refine r_iload C dX11_nearestTo_48 1 rfl ?_
  refine r_iload_n C dX11_nearestTo_50 3 rfl ?_
  suffices K : ∀ x28 : Int32, x28 = ((if x14 ≤ x21 then (x14) else (x21))) → V p l e (rmm 3 66) s m args below meth c 6 D A 0 0 Q [[(o, .inr (9, [.ref aS, .ref aPast, .int known, .ref aSnap, .int kept, .ref aText, .int len, .int thr, .ref aOne, .ref aTwo, .ref aBoth, .ref aWord, .int cre, .ref aOpen, .ref aTimes, .ref aFar, .ref aQueue, .long hash]))], [(aS, .inl (cI, 335, .inl fS))], [(aOne, .inl (cI, 4, .inl g22))], [(aTwo, .inl (cI, 4, .inl g23))], [(aBoth, .inl (cI, 4, .inl g24))]] [(2, .int x26), (5, .int x21), (4, .int 1), (3, .int x14), (0, .ref o), (1, .int letter)] 60 [.int x28] by
    refine r_icmp_ge (tgt := 59) C dX11_nearestTo_51 (by decide) (fun c27 => ?_) (fun c27 => ?_)
    · refine r_iload_n C dX11_nearestTo_59 3 rfl ?_
      exact K _ (by simp only [if_pos c27])
    · refine r_iload C dX11_nearestTo_54 1 rfl ?_
      refine r_goto (tgt := 60) C dX11_nearestTo_56 (by decide) ?_
      exact K _ (by simp only [if_neg c27])
  intro x28 e_x28
  have hp := hp x28 e_x28
  refine r_istore_n (L' := [(3, .int x28), (2, .int x26), (5, .int x21), (4, .int 1), (0, .ref o), (1, .int letter)]) C dX11_nearestTo_60 (by decide) rfl ?_
  refine r_iinc (v := 2) (L' := [(4, .int 2), (3, .int x28), (2, .int x26), (5, .int x21), (0, .ref o), (1, .int letter)]) C dX11_nearestTo_61 3 rfl (by decide) (by decide) rfl ?_
  refine r_goto (tgt := 9) C dX11_nearestTo_64 (by decide) ?_
  refine r_iload C dX11_nearestTo_9 0 rfl ?_
  refine r_iconst (v := 5) C dX11_nearestTo_11 (by decide) ?_
  refine r_icmp_ge (tgt := 67) C dX11_nearestTo_12 (by decide) (fun c => absurd c (by decide)) (fun _ => ?_)
  refine r_iload C dX11_nearestTo_15 0 rfl ?_
  refine r_iload_n C dX11_nearestTo_17 5 rfl ?_
  obtain ⟨hps, hp⟩ := hp
  suffices K : ∀ x35 : Int32, x35 = ((if (2 : Int32) = letter then (99) else (let r31 : Int32 := (F_X11_distanceOf fS g22 g23 g24 letter 2).1; r31))) → ∀ g36 : Nat → Int32, g36 = ((if (2 : Int32) = letter then (g22) else (let g32 : Nat → Int32 := (F_X11_distanceOf fS g22 g23 g24 letter 2).2.1; g32))) → ∀ g37 : Nat → Int32, g37 = ((if (2 : Int32) = letter then (g23) else (let g33 : Nat → Int32 := (F_X11_distanceOf fS g22 g23 g24 letter 2).2.2.1; g33))) → ∀ g38 : Nat → Int32, g38 = ((if (2 : Int32) = letter then (g24) else (let g34 : Nat → Int32 := (F_X11_distanceOf fS g22 g23 g24 letter 2).2.2.2; g34))) → V p l e (rmm 3 66) s m args below meth c 6 D A 0 0 Q [[(o, .inr (9, [.ref aS, .ref aPast, .int known, .ref aSnap, .int kept, .ref aText, .int len, .int thr, .ref aOne, .ref aTwo, .ref aBoth, .ref aWord, .int cre, .ref aOpen, .ref aTimes, .ref aFar, .ref aQueue, .long hash]))], [(aS, .inl (cI, 335, .inl fS))], [(aOne, .inl (cI, 4, .inl g36))], [(aTwo, .inl (cI, 4, .inl g37))], [(aBoth, .inl (cI, 4, .inl g38))]] [(4, .int 2), (3, .int x28), (2, .int x26), (5, .int x21), (0, .ref o), (1, .int letter)] 33 [.int x35] by
    have hp := hps
    refine r_icmp_ne (tgt := 26) C dX11_nearestTo_18 (by decide) (fun c29 => ?_) (fun c29 => ?_)
    · have hp := hp.2 c29
      refine r_aload_n C dX11_nearestTo_26 4 rfl ?_
      refine r_iload_n C dX11_nearestTo_27 5 rfl ?_
      refine r_iload C dX11_nearestTo_28 0 rfl ?_
      have h30 := hp
      refine r_callV (ci := 9) (wc := [[(o, .inr (9, [.ref aS, .ref aPast, .int known, .ref aSnap, .int kept, .ref aText, .int len, .int thr, .ref aOne, .ref aTwo, .ref aBoth, .ref aWord, .int cre, .ref aOpen, .ref aTimes, .ref aFar, .ref aQueue, .long hash]))], [(aS, .inl (cI, 335, .inl fS))], [(aOne, .inl (cI, 4, .inl g22))], [(aTwo, .inl (cI, 4, .inl g23))], [(aBoth, .inl (cI, 4, .inl g24))]]) (wr := []) (st := []) C (m_X11_distanceOf l D cI cL cP cJ o aS aPast aSnap aText aOne aTwo aBoth aWord aOpen aTimes aFar aQueue known kept len thr cre hash fS g22 g23 g24 letter 2 h30) k_X11_distanceOf t_1207 [0, 1, 2, 3, 4] (show ([0, 1, 2, 3, 4] : List Nat).Perm (List.range 5) by decide) rfl rfl rfl (q0 := 0) rfl rfl rfl (Nat.le_of_ble_eq_true rfl) ⟨Nat.le_of_ble_eq_true rfl, Nat.le_of_ble_eq_true rfl⟩ ⟨Nat.zero_le _, Nat.zero_le _⟩ dX11_nearestTo_30 (fun r31 wr31 hw31 => ?_)
      obtain ⟨e_r31, rfl⟩ := hw31
      obtain ⟨g32, e_g32⟩ : ∃ z : Nat → Int32, z = (F_X11_distanceOf fS g22 g23 g24 letter 2).2.1 := ⟨_, rfl⟩
      obtain ⟨g33, e_g33⟩ : ∃ z : Nat → Int32, z = (F_X11_distanceOf fS g22 g23 g24 letter 2).2.2.1 := ⟨_, rfl⟩
      obtain ⟨g34, e_g34⟩ : ∃ z : Nat → Int32, z = (F_X11_distanceOf fS g22 g23 g24 letter 2).2.2.2 := ⟨_, rfl⟩
      refine r_ws (I' := [[(o, .inr (9, [.ref aS, .ref aPast, .int known, .ref aSnap, .int kept, .ref aText, .int len, .int thr, .ref aOne, .ref aTwo, .ref aBoth, .ref aWord, .int cre, .ref aOpen, .ref aTimes, .ref aFar, .ref aQueue, .long hash]))], [(aS, .inl (cI, 335, .inl fS))], [(aOne, .inl (cI, 4, .inl g32))], [(aTwo, .inl (cI, 4, .inl g33))], [(aBoth, .inl (cI, 4, .inl g34))]]) (by rw [e_g32, e_g33, e_g34]; rfl) ?_
      exact K _ (by have q := e_r31.symm; subst q; have q := e_g32.symm; subst q; have q := e_g33.symm; subst q; have q := e_g34.symm; subst q; simp only [if_neg c29]) _ (by have q := e_r31.symm; subst q; have q := e_g32.symm; subst q; have q := e_g33.symm; subst q; have q := e_g34.symm; subst q; simp only [if_neg c29]) _ (by have q := e_r31.symm; subst q; have q := e_g32.symm; subst q; have q := e_g33.symm; subst q; have q := e_g34.symm; subst q; simp only [if_neg c29]) _ (by have q := e_r31.symm; subst q; have q := e_g32.symm; subst q; have q := e_g33.symm; subst q; have q := e_g34.symm; subst q; simp only [if_neg c29])
    · refine r_bipush (v := 99) C dX11_nearestTo_21 (by decide) ?_
      refine r_goto (tgt := 33) C dX11_nearestTo_23 (by decide) ?_
      exact K _ (by simp only [if_pos c29]) _ (by simp only [if_pos c29]) _ (by simp only [if_pos c29]) _ (by simp only [if_pos c29])
  intro x35 e_x35 g36 e_g36 g37 e_g37 g38 e_g38
  have hp := hp x35 e_x35
  have hp := hp g36 e_g36
  have hp := hp g37 e_g37
  have hp := hp g38 e_g38
  refine r_istore (L' := [(5, .int x35), (4, .int 2), (3, .int x28), (2, .int x26), (0, .ref o), (1, .int letter)]) C dX11_nearestTo_33 (by decide) rfl ?_
  refine r_iload C dX11_nearestTo_35 0 rfl ?_
  refine r_iload_n C dX11_nearestTo_37 2 rfl ?_
  suffices K : ∀ x40 : Int32, x40 = ((if x28 ≤ x35 then (x26) else (2))) → V p l e (rmm 3 66) s m args below meth c 6 D A 0 0 Q [[(o, .inr (9, [.ref aS, .ref aPast, .int known, .ref aSnap, .int kept, .ref aText, .int len, .int thr, .ref aOne, .ref aTwo, .ref aBoth, .ref aWord, .int cre, .ref aOpen, .ref aTimes, .ref aFar, .ref aQueue, .long hash]))], [(aS, .inl (cI, 335, .inl fS))], [(aOne, .inl (cI, 4, .inl g36))], [(aTwo, .inl (cI, 4, .inl g37))], [(aBoth, .inl (cI, 4, .inl g38))]] [(5, .int x35), (4, .int 2), (3, .int x28), (2, .int x26), (0, .ref o), (1, .int letter)] 47 [.int x40] by
    refine r_icmp_ge (tgt := 46) C dX11_nearestTo_38 (by decide) (fun c39 => ?_) (fun c39 => ?_)
    · refine r_iload_n C dX11_nearestTo_46 3 rfl ?_
      exact K _ (by simp only [if_pos c39])
    · refine r_iload C dX11_nearestTo_41 1 rfl ?_
      refine r_goto (tgt := 47) C dX11_nearestTo_43 (by decide) ?_
      exact K _ (by simp only [if_neg c39])
  intro x40 e_x40
  have hp := hp x40 e_x40
  refine r_istore_n (L' := [(2, .int x40), (5, .int x35), (4, .int 2), (3, .int x28), (0, .ref o), (1, .int letter)]) C dX11_nearestTo_47 (by decide) rfl ?_
  refine r_iload C dX11_nearestTo_48 1 rfl ?_
  refine r_iload_n C dX11_nearestTo_50 3 rfl ?_
  suffices K : ∀ x42 : Int32, x42 = ((if x28 ≤ x35 then (x28) else (x35))) → V p l e (rmm 3 66) s m args below meth c 6 D A 0 0 Q [[(o, .inr (9, [.ref aS, .ref aPast, .int known, .ref aSnap, .int kept, .ref aText, .int len, .int thr, .ref aOne, .ref aTwo, .ref aBoth, .ref aWord, .int cre, .ref aOpen, .ref aTimes, .ref aFar, .ref aQueue, .long hash]))], [(aS, .inl (cI, 335, .inl fS))], [(aOne, .inl (cI, 4, .inl g36))], [(aTwo, .inl (cI, 4, .inl g37))], [(aBoth, .inl (cI, 4, .inl g38))]] [(2, .int x40), (5, .int x35), (4, .int 2), (3, .int x28), (0, .ref o), (1, .int letter)] 60 [.int x42] by
    refine r_icmp_ge (tgt := 59) C dX11_nearestTo_51 (by decide) (fun c41 => ?_) (fun c41 => ?_)
    · refine r_iload_n C dX11_nearestTo_59 3 rfl ?_
      exact K _ (by simp only [if_pos c41])
    · refine r_iload C dX11_nearestTo_54 1 rfl ?_
      refine r_goto (tgt := 60) C dX11_nearestTo_56 (by decide) ?_
      exact K _ (by simp only [if_neg c41])
  intro x42 e_x42
  have hp := hp x42 e_x42
  refine r_istore_n (L' := [(3, .int x42), (2, .int x40), (5, .int x35), (4, .int 2), (0, .ref o), (1, .int letter)]) C dX11_nearestTo_60 (by decide) rfl ?_
  refine r_iinc (v := 3) (L' := [(4, .int 3), (3, .int x42), (2, .int x40), (5, .int x35), (0, .ref o), (1, .int letter)]) C dX11_nearestTo_61 3 rfl (by decide) (by decide) rfl ?_
  refine r_goto (tgt := 9) C dX11_nearestTo_64 (by decide) ?_
  refine r_iload C dX11_nearestTo_9 0 rfl ?_
  refine r_iconst (v := 5) C dX11_nearestTo_11 (by decide) ?_
  refine r_icmp_ge (tgt := 67) C dX11_nearestTo_12 (by decide) (fun c => absurd c (by decide)) (fun _ => ?_)
  refine r_iload C dX11_nearestTo_15 0 rfl ?_
  refine r_iload_n C dX11_nearestTo_17 5 rfl ?_
  obtain ⟨hps, hp⟩ := hp
  suffices K : ∀ x49 : Int32, x49 = ((if (3 : Int32) = letter then (99) else (let r45 : Int32 := (F_X11_distanceOf fS g36 g37 g38 letter 3).1; r45))) → ∀ g50 : Nat → Int32, g50 = ((if (3 : Int32) = letter then (g36) else (let g46 : Nat → Int32 := (F_X11_distanceOf fS g36 g37 g38 letter 3).2.1; g46))) → ∀ g51 : Nat → Int32, g51 = ((if (3 : Int32) = letter then (g37) else (let g47 : Nat → Int32 := (F_X11_distanceOf fS g36 g37 g38 letter 3).2.2.1; g47))) → ∀ g52 : Nat → Int32, g52 = ((if (3 : Int32) = letter then (g38) else (let g48 : Nat → Int32 := (F_X11_distanceOf fS g36 g37 g38 letter 3).2.2.2; g48))) → V p l e (rmm 3 66) s m args below meth c 6 D A 0 0 Q [[(o, .inr (9, [.ref aS, .ref aPast, .int known, .ref aSnap, .int kept, .ref aText, .int len, .int thr, .ref aOne, .ref aTwo, .ref aBoth, .ref aWord, .int cre, .ref aOpen, .ref aTimes, .ref aFar, .ref aQueue, .long hash]))], [(aS, .inl (cI, 335, .inl fS))], [(aOne, .inl (cI, 4, .inl g50))], [(aTwo, .inl (cI, 4, .inl g51))], [(aBoth, .inl (cI, 4, .inl g52))]] [(4, .int 3), (3, .int x42), (2, .int x40), (5, .int x35), (0, .ref o), (1, .int letter)] 33 [.int x49] by
    have hp := hps
    refine r_icmp_ne (tgt := 26) C dX11_nearestTo_18 (by decide) (fun c43 => ?_) (fun c43 => ?_)
    · have hp := hp.2 c43
      refine r_aload_n C dX11_nearestTo_26 4 rfl ?_
      refine r_iload_n C dX11_nearestTo_27 5 rfl ?_
      refine r_iload C dX11_nearestTo_28 0 rfl ?_
      have h44 := hp
      refine r_callV (ci := 9) (wc := [[(o, .inr (9, [.ref aS, .ref aPast, .int known, .ref aSnap, .int kept, .ref aText, .int len, .int thr, .ref aOne, .ref aTwo, .ref aBoth, .ref aWord, .int cre, .ref aOpen, .ref aTimes, .ref aFar, .ref aQueue, .long hash]))], [(aS, .inl (cI, 335, .inl fS))], [(aOne, .inl (cI, 4, .inl g36))], [(aTwo, .inl (cI, 4, .inl g37))], [(aBoth, .inl (cI, 4, .inl g38))]]) (wr := []) (st := []) C (m_X11_distanceOf l D cI cL cP cJ o aS aPast aSnap aText aOne aTwo aBoth aWord aOpen aTimes aFar aQueue known kept len thr cre hash fS g36 g37 g38 letter 3 h44) k_X11_distanceOf t_1207 [0, 1, 2, 3, 4] (show ([0, 1, 2, 3, 4] : List Nat).Perm (List.range 5) by decide) rfl rfl rfl (q0 := 0) rfl rfl rfl (Nat.le_of_ble_eq_true rfl) ⟨Nat.le_of_ble_eq_true rfl, Nat.le_of_ble_eq_true rfl⟩ ⟨Nat.zero_le _, Nat.zero_le _⟩ dX11_nearestTo_30 (fun r45 wr45 hw45 => ?_)
      obtain ⟨e_r45, rfl⟩ := hw45
      obtain ⟨g46, e_g46⟩ : ∃ z : Nat → Int32, z = (F_X11_distanceOf fS g36 g37 g38 letter 3).2.1 := ⟨_, rfl⟩
      obtain ⟨g47, e_g47⟩ : ∃ z : Nat → Int32, z = (F_X11_distanceOf fS g36 g37 g38 letter 3).2.2.1 := ⟨_, rfl⟩
      obtain ⟨g48, e_g48⟩ : ∃ z : Nat → Int32, z = (F_X11_distanceOf fS g36 g37 g38 letter 3).2.2.2 := ⟨_, rfl⟩
      refine r_ws (I' := [[(o, .inr (9, [.ref aS, .ref aPast, .int known, .ref aSnap, .int kept, .ref aText, .int len, .int thr, .ref aOne, .ref aTwo, .ref aBoth, .ref aWord, .int cre, .ref aOpen, .ref aTimes, .ref aFar, .ref aQueue, .long hash]))], [(aS, .inl (cI, 335, .inl fS))], [(aOne, .inl (cI, 4, .inl g46))], [(aTwo, .inl (cI, 4, .inl g47))], [(aBoth, .inl (cI, 4, .inl g48))]]) (by rw [e_g46, e_g47, e_g48]; rfl) ?_
      exact K _ (by have q := e_r45.symm; subst q; have q := e_g46.symm; subst q; have q := e_g47.symm; subst q; have q := e_g48.symm; subst q; simp only [if_neg c43]) _ (by have q := e_r45.symm; subst q; have q := e_g46.symm; subst q; have q := e_g47.symm; subst q; have q := e_g48.symm; subst q; simp only [if_neg c43]) _ (by have q := e_r45.symm; subst q; have q := e_g46.symm; subst q; have q := e_g47.symm; subst q; have q := e_g48.symm; subst q; simp only [if_neg c43]) _ (by have q := e_r45.symm; subst q; have q := e_g46.symm; subst q; have q := e_g47.symm; subst q; have q := e_g48.symm; subst q; simp only [if_neg c43])
    · refine r_bipush (v := 99) C dX11_nearestTo_21 (by decide) ?_
      refine r_goto (tgt := 33) C dX11_nearestTo_23 (by decide) ?_
      exact K _ (by simp only [if_pos c43]) _ (by simp only [if_pos c43]) _ (by simp only [if_pos c43]) _ (by simp only [if_pos c43])
  intro x49 e_x49 g50 e_g50 g51 e_g51 g52 e_g52
  have hp := hp x49 e_x49
  have hp := hp g50 e_g50
  have hp := hp g51 e_g51
  have hp := hp g52 e_g52
  refine r_istore (L' := [(5, .int x49), (4, .int 3), (3, .int x42), (2, .int x40), (0, .ref o), (1, .int letter)]) C dX11_nearestTo_33 (by decide) rfl ?_
  refine r_iload C dX11_nearestTo_35 0 rfl ?_
  refine r_iload_n C dX11_nearestTo_37 2 rfl ?_
  suffices K : ∀ x54 : Int32, x54 = ((if x42 ≤ x49 then (x40) else (3))) → V p l e (rmm 3 66) s m args below meth c 6 D A 0 0 Q [[(o, .inr (9, [.ref aS, .ref aPast, .int known, .ref aSnap, .int kept, .ref aText, .int len, .int thr, .ref aOne, .ref aTwo, .ref aBoth, .ref aWord, .int cre, .ref aOpen, .ref aTimes, .ref aFar, .ref aQueue, .long hash]))], [(aS, .inl (cI, 335, .inl fS))], [(aOne, .inl (cI, 4, .inl g50))], [(aTwo, .inl (cI, 4, .inl g51))], [(aBoth, .inl (cI, 4, .inl g52))]] [(5, .int x49), (4, .int 3), (3, .int x42), (2, .int x40), (0, .ref o), (1, .int letter)] 47 [.int x54] by
    refine r_icmp_ge (tgt := 46) C dX11_nearestTo_38 (by decide) (fun c53 => ?_) (fun c53 => ?_)
    · refine r_iload_n C dX11_nearestTo_46 3 rfl ?_
      exact K _ (by simp only [if_pos c53])
    · refine r_iload C dX11_nearestTo_41 1 rfl ?_
      refine r_goto (tgt := 47) C dX11_nearestTo_43 (by decide) ?_
      exact K _ (by simp only [if_neg c53])
  intro x54 e_x54
  have hp := hp x54 e_x54
  refine r_istore_n (L' := [(2, .int x54), (5, .int x49), (4, .int 3), (3, .int x42), (0, .ref o), (1, .int letter)]) C dX11_nearestTo_47 (by decide) rfl ?_
  refine r_iload C dX11_nearestTo_48 1 rfl ?_
  refine r_iload_n C dX11_nearestTo_50 3 rfl ?_
  suffices K : ∀ x56 : Int32, x56 = ((if x42 ≤ x49 then (x42) else (x49))) → V p l e (rmm 3 66) s m args below meth c 6 D A 0 0 Q [[(o, .inr (9, [.ref aS, .ref aPast, .int known, .ref aSnap, .int kept, .ref aText, .int len, .int thr, .ref aOne, .ref aTwo, .ref aBoth, .ref aWord, .int cre, .ref aOpen, .ref aTimes, .ref aFar, .ref aQueue, .long hash]))], [(aS, .inl (cI, 335, .inl fS))], [(aOne, .inl (cI, 4, .inl g50))], [(aTwo, .inl (cI, 4, .inl g51))], [(aBoth, .inl (cI, 4, .inl g52))]] [(2, .int x54), (5, .int x49), (4, .int 3), (3, .int x42), (0, .ref o), (1, .int letter)] 60 [.int x56] by
    refine r_icmp_ge (tgt := 59) C dX11_nearestTo_51 (by decide) (fun c55 => ?_) (fun c55 => ?_)
    · refine r_iload_n C dX11_nearestTo_59 3 rfl ?_
      exact K _ (by simp only [if_pos c55])
    · refine r_iload C dX11_nearestTo_54 1 rfl ?_
      refine r_goto (tgt := 60) C dX11_nearestTo_56 (by decide) ?_
      exact K _ (by simp only [if_neg c55])
  intro x56 e_x56
  have hp := hp x56 e_x56
  refine r_istore_n (L' := [(3, .int x56), (2, .int x54), (5, .int x49), (4, .int 3), (0, .ref o), (1, .int letter)]) C dX11_nearestTo_60 (by decide) rfl ?_
  refine r_iinc (v := 4) (L' := [(4, .int 4), (3, .int x56), (2, .int x54), (5, .int x49), (0, .ref o), (1, .int letter)]) C dX11_nearestTo_61 3 rfl (by decide) (by decide) rfl ?_
  refine r_goto (tgt := 9) C dX11_nearestTo_64 (by decide) ?_
  refine r_iload C dX11_nearestTo_9 0 rfl ?_
  refine r_iconst (v := 5) C dX11_nearestTo_11 (by decide) ?_
  refine r_icmp_ge (tgt := 67) C dX11_nearestTo_12 (by decide) (fun c => absurd c (by decide)) (fun _ => ?_)
  refine r_iload C dX11_nearestTo_15 0 rfl ?_
  refine r_iload_n C dX11_nearestTo_17 5 rfl ?_
  have hps := hp
  suffices K : ∀ x63 : Int32, x63 = ((if (4 : Int32) = letter then (99) else (let r59 : Int32 := (F_X11_distanceOf fS g50 g51 g52 letter 4).1; r59))) → ∀ g64 : Nat → Int32, g64 = ((if (4 : Int32) = letter then (g50) else (let g60 : Nat → Int32 := (F_X11_distanceOf fS g50 g51 g52 letter 4).2.1; g60))) → ∀ g65 : Nat → Int32, g65 = ((if (4 : Int32) = letter then (g51) else (let g61 : Nat → Int32 := (F_X11_distanceOf fS g50 g51 g52 letter 4).2.2.1; g61))) → ∀ g66 : Nat → Int32, g66 = ((if (4 : Int32) = letter then (g52) else (let g62 : Nat → Int32 := (F_X11_distanceOf fS g50 g51 g52 letter 4).2.2.2; g62))) → V p l e (rmm 3 66) s m args below meth c 6 D A 0 0 Q [[(o, .inr (9, [.ref aS, .ref aPast, .int known, .ref aSnap, .int kept, .ref aText, .int len, .int thr, .ref aOne, .ref aTwo, .ref aBoth, .ref aWord, .int cre, .ref aOpen, .ref aTimes, .ref aFar, .ref aQueue, .long hash]))], [(aS, .inl (cI, 335, .inl fS))], [(aOne, .inl (cI, 4, .inl g64))], [(aTwo, .inl (cI, 4, .inl g65))], [(aBoth, .inl (cI, 4, .inl g66))]] [(4, .int 4), (3, .int x56), (2, .int x54), (5, .int x49), (0, .ref o), (1, .int letter)] 33 [.int x63] by
    have hp := hps
    refine r_icmp_ne (tgt := 26) C dX11_nearestTo_18 (by decide) (fun c57 => ?_) (fun c57 => ?_)
    · have hp := hp.2 c57
      refine r_aload_n C dX11_nearestTo_26 4 rfl ?_
      refine r_iload_n C dX11_nearestTo_27 5 rfl ?_
      refine r_iload C dX11_nearestTo_28 0 rfl ?_
      have h58 := hp
      refine r_callV (ci := 9) (wc := [[(o, .inr (9, [.ref aS, .ref aPast, .int known, .ref aSnap, .int kept, .ref aText, .int len, .int thr, .ref aOne, .ref aTwo, .ref aBoth, .ref aWord, .int cre, .ref aOpen, .ref aTimes, .ref aFar, .ref aQueue, .long hash]))], [(aS, .inl (cI, 335, .inl fS))], [(aOne, .inl (cI, 4, .inl g50))], [(aTwo, .inl (cI, 4, .inl g51))], [(aBoth, .inl (cI, 4, .inl g52))]]) (wr := []) (st := []) C (m_X11_distanceOf l D cI cL cP cJ o aS aPast aSnap aText aOne aTwo aBoth aWord aOpen aTimes aFar aQueue known kept len thr cre hash fS g50 g51 g52 letter 4 h58) k_X11_distanceOf t_1207 [0, 1, 2, 3, 4] (show ([0, 1, 2, 3, 4] : List Nat).Perm (List.range 5) by decide) rfl rfl rfl (q0 := 0) rfl rfl rfl (Nat.le_of_ble_eq_true rfl) ⟨Nat.le_of_ble_eq_true rfl, Nat.le_of_ble_eq_true rfl⟩ ⟨Nat.zero_le _, Nat.zero_le _⟩ dX11_nearestTo_30 (fun r59 wr59 hw59 => ?_)
      obtain ⟨e_r59, rfl⟩ := hw59
      obtain ⟨g60, e_g60⟩ : ∃ z : Nat → Int32, z = (F_X11_distanceOf fS g50 g51 g52 letter 4).2.1 := ⟨_, rfl⟩
      obtain ⟨g61, e_g61⟩ : ∃ z : Nat → Int32, z = (F_X11_distanceOf fS g50 g51 g52 letter 4).2.2.1 := ⟨_, rfl⟩
      obtain ⟨g62, e_g62⟩ : ∃ z : Nat → Int32, z = (F_X11_distanceOf fS g50 g51 g52 letter 4).2.2.2 := ⟨_, rfl⟩
      refine r_ws (I' := [[(o, .inr (9, [.ref aS, .ref aPast, .int known, .ref aSnap, .int kept, .ref aText, .int len, .int thr, .ref aOne, .ref aTwo, .ref aBoth, .ref aWord, .int cre, .ref aOpen, .ref aTimes, .ref aFar, .ref aQueue, .long hash]))], [(aS, .inl (cI, 335, .inl fS))], [(aOne, .inl (cI, 4, .inl g60))], [(aTwo, .inl (cI, 4, .inl g61))], [(aBoth, .inl (cI, 4, .inl g62))]]) (by rw [e_g60, e_g61, e_g62]; rfl) ?_
      exact K _ (by have q := e_r59.symm; subst q; have q := e_g60.symm; subst q; have q := e_g61.symm; subst q; have q := e_g62.symm; subst q; simp only [if_neg c57]) _ (by have q := e_r59.symm; subst q; have q := e_g60.symm; subst q; have q := e_g61.symm; subst q; have q := e_g62.symm; subst q; simp only [if_neg c57]) _ (by have q := e_r59.symm; subst q; have q := e_g60.symm; subst q; have q := e_g61.symm; subst q; have q := e_g62.symm; subst q; simp only [if_neg c57]) _ (by have q := e_r59.symm; subst q; have q := e_g60.symm; subst q; have q := e_g61.symm; subst q; have q := e_g62.symm; subst q; simp only [if_neg c57])
    · refine r_bipush (v := 99) C dX11_nearestTo_21 (by decide) ?_
      refine r_goto (tgt := 33) C dX11_nearestTo_23 (by decide) ?_
      exact K _ (by simp only [if_pos c57]) _ (by simp only [if_pos c57]) _ (by simp only [if_pos c57]) _ (by simp only [if_pos c57])
  intro x63 e_x63 g64 e_g64 g65 e_g65 g66 e_g66
  refine r_istore (L' := [(5, .int x63), (4, .int 4), (3, .int x56), (2, .int x54), (0, .ref o), (1, .int letter)]) C dX11_nearestTo_33 (by decide) rfl ?_
  refine r_iload C dX11_nearestTo_35 0 rfl ?_
  refine r_iload_n C dX11_nearestTo_37 2 rfl ?_
  suffices K : ∀ x68 : Int32, x68 = ((if x56 ≤ x63 then (x54) else (4))) → V p l e (rmm 3 66) s m args below meth c 6 D A 0 0 Q [[(o, .inr (9, [.ref aS, .ref aPast, .int known, .ref aSnap, .int kept, .ref aText, .int len, .int thr, .ref aOne, .ref aTwo, .ref aBoth, .ref aWord, .int cre, .ref aOpen, .ref aTimes, .ref aFar, .ref aQueue, .long hash]))], [(aS, .inl (cI, 335, .inl fS))], [(aOne, .inl (cI, 4, .inl g64))], [(aTwo, .inl (cI, 4, .inl g65))], [(aBoth, .inl (cI, 4, .inl g66))]] [(5, .int x63), (4, .int 4), (3, .int x56), (2, .int x54), (0, .ref o), (1, .int letter)] 47 [.int x68] by
    refine r_icmp_ge (tgt := 46) C dX11_nearestTo_38 (by decide) (fun c67 => ?_) (fun c67 => ?_)
    · refine r_iload_n C dX11_nearestTo_46 3 rfl ?_
      exact K _ (by simp only [if_pos c67])
    · refine r_iload C dX11_nearestTo_41 1 rfl ?_
      refine r_goto (tgt := 47) C dX11_nearestTo_43 (by decide) ?_
      exact K _ (by simp only [if_neg c67])
  intro x68 e_x68
  refine r_istore_n (L' := [(2, .int x68), (5, .int x63), (4, .int 4), (3, .int x56), (0, .ref o), (1, .int letter)]) C dX11_nearestTo_47 (by decide) rfl ?_
  refine r_iload C dX11_nearestTo_48 1 rfl ?_
  refine r_iload_n C dX11_nearestTo_50 3 rfl ?_
  suffices K : ∀ x70 : Int32, x70 = ((if x56 ≤ x63 then (x56) else (x63))) → V p l e (rmm 3 66) s m args below meth c 6 D A 0 0 Q [[(o, .inr (9, [.ref aS, .ref aPast, .int known, .ref aSnap, .int kept, .ref aText, .int len, .int thr, .ref aOne, .ref aTwo, .ref aBoth, .ref aWord, .int cre, .ref aOpen, .ref aTimes, .ref aFar, .ref aQueue, .long hash]))], [(aS, .inl (cI, 335, .inl fS))], [(aOne, .inl (cI, 4, .inl g64))], [(aTwo, .inl (cI, 4, .inl g65))], [(aBoth, .inl (cI, 4, .inl g66))]] [(2, .int x68), (5, .int x63), (4, .int 4), (3, .int x56), (0, .ref o), (1, .int letter)] 60 [.int x70] by
    refine r_icmp_ge (tgt := 59) C dX11_nearestTo_51 (by decide) (fun c69 => ?_) (fun c69 => ?_)
    · refine r_iload_n C dX11_nearestTo_59 3 rfl ?_
      exact K _ (by simp only [if_pos c69])
    · refine r_iload C dX11_nearestTo_54 1 rfl ?_
      refine r_goto (tgt := 60) C dX11_nearestTo_56 (by decide) ?_
      exact K _ (by simp only [if_neg c69])
  intro x70 e_x70
  refine r_istore_n (L' := [(3, .int x70), (2, .int x68), (5, .int x63), (4, .int 4), (0, .ref o), (1, .int letter)]) C dX11_nearestTo_60 (by decide) rfl ?_
  refine r_iinc (v := 5) (L' := [(4, .int 5), (3, .int x70), (2, .int x68), (5, .int x63), (0, .ref o), (1, .int letter)]) C dX11_nearestTo_61 3 rfl (by decide) (by decide) rfl ?_
  refine r_goto (tgt := 9) C dX11_nearestTo_64 (by decide) ?_
  refine r_iload C dX11_nearestTo_9 0 rfl ?_
  refine r_iconst (v := 5) C dX11_nearestTo_11 (by decide) ?_
  refine r_icmp_ge (tgt := 67) C dX11_nearestTo_12 (by decide) (fun _ => ?_) (fun c => absurd c (by decide))
  refine r_iload_n C dX11_nearestTo_67 2 rfl ?_
  have eF : F_X11_nearestTo fS fOne fTwo fBoth letter = (x68, g64, g65, g66) := by have q := e_x7.symm; subst q; have q := e_g8.symm; subst q; have q := e_g9.symm; subst q; have q := e_g10.symm; subst q; have q := e_x12.symm; subst q; have q := e_x14.symm; subst q; have q := e_x21.symm; subst q; have q := e_g22.symm; subst q; have q := e_g23.symm; subst q; have q := e_g24.symm; subst q; have q := e_x26.symm; subst q; have q := e_x28.symm; subst q; have q := e_x35.symm; subst q; have q := e_g36.symm; subst q; have q := e_g37.symm; subst q; have q := e_g38.symm; subst q; have q := e_x40.symm; subst q; have q := e_x42.symm; subst q; have q := e_x49.symm; subst q; have q := e_g50.symm; subst q; have q := e_g51.symm; subst q; have q := e_g52.symm; subst q; have q := e_x54.symm; subst q; have q := e_x56.symm; subst q; have q := e_x63.symm; subst q; have q := e_g64.symm; subst q; have q := e_g65.symm; subst q; have q := e_g66.symm; subst q; have q := e_x68.symm; subst q; have q := e_x70.symm; subst q; rfl
  exact r_iret (r := x68) C hA hr hlo dX11_nearestTo_68 [[(o, .inr (9, [.ref aS, .ref aPast, .int known, .ref aSnap, .int kept, .ref aText, .int len, .int thr, .ref aOne, .ref aTwo, .ref aBoth, .ref aWord, .int cre, .ref aOpen, .ref aTimes, .ref aFar, .ref aQueue, .long hash]))], [(aS, .inl (cI, 335, .inl fS))], [(aOne, .inl (cI, 4, .inl g64))], [(aTwo, .inl (cI, 4, .inl g65))], [(aBoth, .inl (cI, 4, .inl g66))]] ⟨by simp only [eF], by simp only [eF]⟩ rfl hQ
theorem k_X11_nearest : kV yX11_nearest cX11_nearest 2 (some .int) 1 := ⟨t_1212, t_1213, t_67, t_1214, by decide +kernel, by decide +kernel, by decide +kernel⟩
set_option maxRecDepth 20000 in
def F_X11_nearest (fS : Nat → Int32) (fOne : Nat → Int32) (fTwo : Nat → Int32) (fBoth : Nat → Int32) (letter : Int32) : Int32 × Int32 × (Nat → Int32) × (Nat → Int32) × (Nat → Int32) := let r1 : Int32 := F_X11_isLetter letter; let x3 : Int32 := (if r1 = 0 then (1) else (0)); let r4 : Int32 := (F_X11_throwsAt x3).1; let x5 : Int32 := (F_X11_throwsAt x3).2; let x12 : Int32 := (if r4 = 0 then (let r8 : Int32 := (F_X11_nearestTo fS fOne fTwo fBoth letter).1; r8) else (0)); let g13 : Nat → Int32 := (if r4 = 0 then (let g9 : Nat → Int32 := (F_X11_nearestTo fS fOne fTwo fBoth letter).2.1; g9) else (fOne)); let g14 : Nat → Int32 := (if r4 = 0 then (let g10 : Nat → Int32 := (F_X11_nearestTo fS fOne fTwo fBoth letter).2.2.1; g10) else (fTwo)); let g15 : Nat → Int32 := (if r4 = 0 then (let g11 : Nat → Int32 := (F_X11_nearestTo fS fOne fTwo fBoth letter).2.2.2; g11) else (fBoth)); (x12, x5, g13, g14, g15)
set_option maxRecDepth 20000 in
def P_X11_nearest (fS : Nat → Int32) (fOne : Nat → Int32) (fTwo : Nat → Int32) (fBoth : Nat → Int32) (letter : Int32) : Prop := (∀ r1 : Int32, r1 = F_X11_isLetter letter → (∀ x3 : Int32, x3 = ((if r1 = 0 then (1) else (0))) → (∀ r4 : Int32, r4 = (F_X11_throwsAt x3).1 → (∀ x5 : Int32, x5 = (F_X11_throwsAt x3).2 → ((r4 = 0 → (P_X11_nearestTo fS fOne fTwo fBoth letter)) ∧ (¬ r4 = 0 → True))))))
set_option maxRecDepth 20000 in
set_option maxHeartbeats 8000000 in
theorem m_X11_nearest (l : Launch) (D : va_G) (cI cL cP cJ : ClassId) (o : Nat) (aS : Nat) (aPast : Nat) (aSnap : Nat) (aText : Nat) (aOne : Nat) (aTwo : Nat) (aBoth : Nat) (aWord : Nat) (aOpen : Nat) (aTimes : Nat) (aFar : Nat) (aQueue : Nat) (known : Int32) (kept : Int32) (len : Int32) (thr : Int32) (cre : Int32) (hash : Int64) (fS : Nat → Int32) (fOne : Nat → Int32) (fTwo : Nat → Int32) (fBoth : Nat → Int32) (letter : Int32) (hp : P_X11_nearest fS fOne fTwo fBoth letter) : M vI l yX11_nearest cX11_nearest 2 (some .int) 4 91 D (tyF cI cL cP cJ) [.ref o, .int letter] [[(o, .inr (9, [.ref aS, .ref aPast, .int known, .ref aSnap, .int kept, .ref aText, .int len, .int thr, .ref aOne, .ref aTwo, .ref aBoth, .ref aWord, .int cre, .ref aOpen, .ref aTimes, .ref aFar, .ref aQueue, .long hash]))], [(aS, .inl (cI, 335, .inl fS))], [(aOne, .inl (cI, 4, .inl fOne))], [(aTwo, .inl (cI, 4, .inl fTwo))], [(aBoth, .inl (cI, 4, .inl fBoth))]] (fun (r : Int32) (w1 : List va_W) => r = (F_X11_nearest fS fOne fTwo fBoth letter).1 ∧ w1 = [[(o, .inr (9, [.ref aS, .ref aPast, .int known, .ref aSnap, .int kept, .ref aText, .int len, .int ((F_X11_nearest fS fOne fTwo fBoth letter).2.1), .ref aOne, .ref aTwo, .ref aBoth, .ref aWord, .int cre, .ref aOpen, .ref aTimes, .ref aFar, .ref aQueue, .long hash]))], [(aS, .inl (cI, 335, .inl fS))], [(aOne, .inl (cI, 4, .inl ((F_X11_nearest fS fOne fTwo fBoth letter).2.2.1)))], [(aTwo, .inl (cI, 4, .inl ((F_X11_nearest fS fOne fTwo fBoth letter).2.2.2.1)))], [(aBoth, .inl (cI, 4, .inl ((F_X11_nearest fS fOne fTwo fBoth letter).2.2.2.2)))]]) := by
  unfold P_X11_nearest at hp
  refine m_start (by decide +kernel) (Nat.le_of_ble_eq_true rfl) (fun p e s m args below meth c A Q hA hQ C hr hlo => ?_)
  refine r_Le (L' := [(0, .ref o), (1, .int letter)]) rfl ?_
  refine r_aload_n C dX11_nearest_0 0 rfl ?_
  refine r_iload_n C dX11_nearest_1 1 rfl ?_
  refine r_callS (wc := []) (wr := [[(o, .inr (9, [.ref aS, .ref aPast, .int known, .ref aSnap, .int kept, .ref aText, .int len, .int thr, .ref aOne, .ref aTwo, .ref aBoth, .ref aWord, .int cre, .ref aOpen, .ref aTimes, .ref aFar, .ref aQueue, .long hash]))], [(aS, .inl (cI, 335, .inl fS))], [(aOne, .inl (cI, 4, .inl fOne))], [(aTwo, .inl (cI, 4, .inl fTwo))], [(aBoth, .inl (cI, 4, .inl fBoth))]]) (st := [.ref o]) C (m_X11_isLetter l D cI cL cP cJ letter) k_X11_isLetter t_956 [0, 1, 2, 3, 4] (show ([0, 1, 2, 3, 4] : List Nat).Perm (List.range 5) by decide) rfl rfl rfl (Nat.le_of_ble_eq_true rfl) ⟨Nat.le_of_ble_eq_true rfl, Nat.le_of_ble_eq_true rfl⟩ ⟨Nat.zero_le _, Nat.zero_le _⟩ dX11_nearest_2 (fun r1 wr1 hw1 => ?_)
  obtain ⟨e_r1, rfl⟩ := hw1
  have hp := hp r1 e_r1
  refine r_ws (I' := [[(o, .inr (9, [.ref aS, .ref aPast, .int known, .ref aSnap, .int kept, .ref aText, .int len, .int thr, .ref aOne, .ref aTwo, .ref aBoth, .ref aWord, .int cre, .ref aOpen, .ref aTimes, .ref aFar, .ref aQueue, .long hash]))], [(aS, .inl (cI, 335, .inl fS))], [(aOne, .inl (cI, 4, .inl fOne))], [(aTwo, .inl (cI, 4, .inl fTwo))], [(aBoth, .inl (cI, 4, .inl fBoth))]]) rfl ?_
  suffices K : ∀ x3 : Int32, x3 = ((if r1 = 0 then (1) else (0))) → V p l e (rmm 4 91) s m args below meth c 2 D A 0 0 Q [[(o, .inr (9, [.ref aS, .ref aPast, .int known, .ref aSnap, .int kept, .ref aText, .int len, .int thr, .ref aOne, .ref aTwo, .ref aBoth, .ref aWord, .int cre, .ref aOpen, .ref aTimes, .ref aFar, .ref aQueue, .long hash]))], [(aS, .inl (cI, 335, .inl fS))], [(aOne, .inl (cI, 4, .inl fOne))], [(aTwo, .inl (cI, 4, .inl fTwo))], [(aBoth, .inl (cI, 4, .inl fBoth))]] [(0, .ref o), (1, .int letter)] 13 [.int x3, .ref o] by
    refine r_if_eq (tgt := 12) C dX11_nearest_5 (by decide) (fun c2 => ?_) (fun c2 => ?_)
    · refine r_iconst (v := 1) C dX11_nearest_12 (by decide) ?_
      exact K _ (by simp only [if_pos c2])
    · refine r_iconst (v := 0) C dX11_nearest_8 (by decide) ?_
      refine r_goto (tgt := 13) C dX11_nearest_9 (by decide) ?_
      exact K _ (by simp only [if_neg c2])
  intro x3 e_x3
  have hp := hp x3 e_x3
  refine r_callV (ci := 9) (wc := [[(o, .inr (9, [.ref aS, .ref aPast, .int known, .ref aSnap, .int kept, .ref aText, .int len, .int thr, .ref aOne, .ref aTwo, .ref aBoth, .ref aWord, .int cre, .ref aOpen, .ref aTimes, .ref aFar, .ref aQueue, .long hash]))]]) (wr := [[(aS, .inl (cI, 335, .inl fS))], [(aOne, .inl (cI, 4, .inl fOne))], [(aTwo, .inl (cI, 4, .inl fTwo))], [(aBoth, .inl (cI, 4, .inl fBoth))]]) (st := []) C (m_X11_throwsAt l D cI cL cP cJ o aS aPast aSnap aText aOne aTwo aBoth aWord aOpen aTimes aFar aQueue known kept len thr cre hash x3) k_X11_throwsAt t_974 [0, 1, 2, 3, 4] (show ([0, 1, 2, 3, 4] : List Nat).Perm (List.range 5) by decide) rfl rfl rfl (q0 := 0) rfl rfl rfl (Nat.le_of_ble_eq_true rfl) ⟨Nat.le_of_ble_eq_true rfl, Nat.le_of_ble_eq_true rfl⟩ ⟨Nat.zero_le _, Nat.zero_le _⟩ dX11_nearest_13 (fun r4 wr4 hw4 => ?_)
  obtain ⟨e_r4, rfl⟩ := hw4
  have hp := hp r4 e_r4
  obtain ⟨x5, e_x5⟩ : ∃ z : Int32, z = (F_X11_throwsAt x3).2 := ⟨_, rfl⟩
  have hp := hp x5 e_x5
  refine r_ws (I' := [[(o, .inr (9, [.ref aS, .ref aPast, .int known, .ref aSnap, .int kept, .ref aText, .int len, .int x5, .ref aOne, .ref aTwo, .ref aBoth, .ref aWord, .int cre, .ref aOpen, .ref aTimes, .ref aFar, .ref aQueue, .long hash]))], [(aS, .inl (cI, 335, .inl fS))], [(aOne, .inl (cI, 4, .inl fOne))], [(aTwo, .inl (cI, 4, .inl fTwo))], [(aBoth, .inl (cI, 4, .inl fBoth))]]) (by rw [e_x5]; rfl) ?_
  have hps := hp
  suffices K : ∀ x12 : Int32, x12 = ((if r4 = 0 then (let r8 : Int32 := (F_X11_nearestTo fS fOne fTwo fBoth letter).1; r8) else (0))) → ∀ g13 : Nat → Int32, g13 = ((if r4 = 0 then (let g9 : Nat → Int32 := (F_X11_nearestTo fS fOne fTwo fBoth letter).2.1; g9) else (fOne))) → ∀ g14 : Nat → Int32, g14 = ((if r4 = 0 then (let g10 : Nat → Int32 := (F_X11_nearestTo fS fOne fTwo fBoth letter).2.2.1; g10) else (fTwo))) → ∀ g15 : Nat → Int32, g15 = ((if r4 = 0 then (let g11 : Nat → Int32 := (F_X11_nearestTo fS fOne fTwo fBoth letter).2.2.2; g11) else (fBoth))) → V p l e (rmm 4 91) s m args below meth c 2 D A 0 0 Q [[(o, .inr (9, [.ref aS, .ref aPast, .int known, .ref aSnap, .int kept, .ref aText, .int len, .int x5, .ref aOne, .ref aTwo, .ref aBoth, .ref aWord, .int cre, .ref aOpen, .ref aTimes, .ref aFar, .ref aQueue, .long hash]))], [(aS, .inl (cI, 335, .inl fS))], [(aOne, .inl (cI, 4, .inl g13))], [(aTwo, .inl (cI, 4, .inl g14))], [(aBoth, .inl (cI, 4, .inl g15))]] [(0, .ref o), (1, .int letter)] 28 [.int x12] by
    have hp := hps
    refine r_if_eq (tgt := 23) C dX11_nearest_16 (by decide) (fun c6 => ?_) (fun c6 => ?_)
    · have hp := hp.1 c6
      refine r_aload_n C dX11_nearest_23 0 rfl ?_
      refine r_iload_n C dX11_nearest_24 1 rfl ?_
      have h7 := hp
      refine r_callV (ci := 9) (wc := [[(o, .inr (9, [.ref aS, .ref aPast, .int known, .ref aSnap, .int kept, .ref aText, .int len, .int x5, .ref aOne, .ref aTwo, .ref aBoth, .ref aWord, .int cre, .ref aOpen, .ref aTimes, .ref aFar, .ref aQueue, .long hash]))], [(aS, .inl (cI, 335, .inl fS))], [(aOne, .inl (cI, 4, .inl fOne))], [(aTwo, .inl (cI, 4, .inl fTwo))], [(aBoth, .inl (cI, 4, .inl fBoth))]]) (wr := []) (st := []) C (m_X11_nearestTo l D cI cL cP cJ o aS aPast aSnap aText aOne aTwo aBoth aWord aOpen aTimes aFar aQueue known kept len x5 cre hash fS fOne fTwo fBoth letter h7) k_X11_nearestTo t_1215 [0, 1, 2, 3, 4] (show ([0, 1, 2, 3, 4] : List Nat).Perm (List.range 5) by decide) rfl rfl rfl (q0 := 0) rfl rfl rfl (Nat.le_of_ble_eq_true rfl) ⟨Nat.le_of_ble_eq_true rfl, Nat.le_of_ble_eq_true rfl⟩ ⟨Nat.zero_le _, Nat.zero_le _⟩ dX11_nearest_25 (fun r8 wr8 hw8 => ?_)
      obtain ⟨e_r8, rfl⟩ := hw8
      obtain ⟨g9, e_g9⟩ : ∃ z : Nat → Int32, z = (F_X11_nearestTo fS fOne fTwo fBoth letter).2.1 := ⟨_, rfl⟩
      obtain ⟨g10, e_g10⟩ : ∃ z : Nat → Int32, z = (F_X11_nearestTo fS fOne fTwo fBoth letter).2.2.1 := ⟨_, rfl⟩
      obtain ⟨g11, e_g11⟩ : ∃ z : Nat → Int32, z = (F_X11_nearestTo fS fOne fTwo fBoth letter).2.2.2 := ⟨_, rfl⟩
      refine r_ws (I' := [[(o, .inr (9, [.ref aS, .ref aPast, .int known, .ref aSnap, .int kept, .ref aText, .int len, .int x5, .ref aOne, .ref aTwo, .ref aBoth, .ref aWord, .int cre, .ref aOpen, .ref aTimes, .ref aFar, .ref aQueue, .long hash]))], [(aS, .inl (cI, 335, .inl fS))], [(aOne, .inl (cI, 4, .inl g9))], [(aTwo, .inl (cI, 4, .inl g10))], [(aBoth, .inl (cI, 4, .inl g11))]]) (by rw [e_g9, e_g10, e_g11]; rfl) ?_
      exact K _ (by have q := e_r8.symm; subst q; have q := e_g9.symm; subst q; have q := e_g10.symm; subst q; have q := e_g11.symm; subst q; simp only [if_pos c6]) _ (by have q := e_r8.symm; subst q; have q := e_g9.symm; subst q; have q := e_g10.symm; subst q; have q := e_g11.symm; subst q; simp only [if_pos c6]) _ (by have q := e_r8.symm; subst q; have q := e_g9.symm; subst q; have q := e_g10.symm; subst q; have q := e_g11.symm; subst q; simp only [if_pos c6]) _ (by have q := e_r8.symm; subst q; have q := e_g9.symm; subst q; have q := e_g10.symm; subst q; have q := e_g11.symm; subst q; simp only [if_pos c6])
    · refine r_iconst (v := 0) C dX11_nearest_19 (by decide) ?_
      refine r_goto (tgt := 28) C dX11_nearest_20 (by decide) ?_
      exact K _ (by simp only [if_neg c6]) _ (by simp only [if_neg c6]) _ (by simp only [if_neg c6]) _ (by simp only [if_neg c6])
  intro x12 e_x12 g13 e_g13 g14 e_g14 g15 e_g15
  have eF : F_X11_nearest fS fOne fTwo fBoth letter = (x12, x5, g13, g14, g15) := by have q := e_r1.symm; subst q; have q := e_x3.symm; subst q; have q := e_r4.symm; subst q; have q := e_x5.symm; subst q; have q := e_x12.symm; subst q; have q := e_g13.symm; subst q; have q := e_g14.symm; subst q; have q := e_g15.symm; subst q; rfl
  exact r_iret (r := x12) C hA hr hlo dX11_nearest_28 [[(o, .inr (9, [.ref aS, .ref aPast, .int known, .ref aSnap, .int kept, .ref aText, .int len, .int x5, .ref aOne, .ref aTwo, .ref aBoth, .ref aWord, .int cre, .ref aOpen, .ref aTimes, .ref aFar, .ref aQueue, .long hash]))], [(aS, .inl (cI, 335, .inl fS))], [(aOne, .inl (cI, 4, .inl g13))], [(aTwo, .inl (cI, 4, .inl g14))], [(aBoth, .inl (cI, 4, .inl g15))]] ⟨by simp only [eF], by simp only [eF]⟩ rfl hQ

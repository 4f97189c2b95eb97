def fuelW : Nat := 100000
theorem k_X11_thrown : kV yX11_thrown cX11_thrown 1 (some .int) 0 := ⟨t_949, t_950, t_67, t_951, by decide +kernel, by decide +kernel, by decide +kernel⟩
set_option maxRecDepth 20000 in
def F_X11_thrown (thr : Int32) : Int32 := thr
set_option maxRecDepth 20000 in
set_option maxHeartbeats 8000000 in
theorem m_X11_thrown (l : Launch) (D : va_G) (cI cL cP cJ : ClassId) (o : Nat) (aS : Nat) (aPast : Nat) (aSnap : Nat) (aText : Nat) (aOne : Nat) (aTwo : Nat) (aBoth : Nat) (aWord : Nat) (aOpen : Nat) (aTimes : Nat) (aFar : Nat) (aQueue : Nat) (known : Int32) (kept : Int32) (len : Int32) (thr : Int32) (cre : Int32) (hash : Int64) : M vI l yX11_thrown cX11_thrown 1 (some .int) 0 0 D (tyF cI cL cP cJ) [.ref o] [[(o, .inr (9, [.ref aS, .ref aPast, .int known, .ref aSnap, .int kept, .ref aText, .int len, .int thr, .ref aOne, .ref aTwo, .ref aBoth, .ref aWord, .int cre, .ref aOpen, .ref aTimes, .ref aFar, .ref aQueue, .long hash]))]] (fun (r : Int32) (w1 : List va_W) => r = (F_X11_thrown thr) ∧ w1 = [[(o, .inr (9, [.ref aS, .ref aPast, .int known, .ref aSnap, .int kept, .ref aText, .int len, .int thr, .ref aOne, .ref aTwo, .ref aBoth, .ref aWord, .int cre, .ref aOpen, .ref aTimes, .ref aFar, .ref aQueue, .long hash]))]]) := by
  refine m_start (by decide +kernel) (Nat.le_of_ble_eq_true rfl) (fun p e s m args below meth c A Q hA hQ C hr hlo => ?_)
  refine r_Le (L' := [(0, .ref o)]) rfl ?_
  refine r_aload_n C dX11_thrown_0 0 rfl ?_
  refine r_get (Cn := RX11) (T := TX11) (N := 18) C inT11 0 rfl rfl 7 (by decide) t_900 rfl dX11_thrown_1 ?_
  have eF : F_X11_thrown thr = thr := by rfl
  exact r_iret (r := thr) C hA hr hlo dX11_thrown_4 [[(o, .inr (9, [.ref aS, .ref aPast, .int known, .ref aSnap, .int kept, .ref aText, .int len, .int thr, .ref aOne, .ref aTwo, .ref aBoth, .ref aWord, .int cre, .ref aOpen, .ref aTimes, .ref aFar, .ref aQueue, .long hash]))]] ⟨by simp only [eF], rfl⟩ rfl hQ
theorem k_X11_throwsAt : kV yX11_throwsAt cX11_throwsAt 2 (some .boolean) 1 := ⟨t_976, t_14, t_67, t_977, by decide +kernel, by decide +kernel, by decide +kernel⟩
set_option maxRecDepth 20000 in
def F_X11_throwsAt (place : Int32) : Int32 × Int32 := let x2 : Int32 := (if place ≤ 0 then (0) else (1)); (x2, place)
set_option maxRecDepth 20000 in
set_option maxHeartbeats 8000000 in
theorem m_X11_throwsAt (l : Launch) (D : va_G) (cI cL cP cJ : ClassId) (o : Nat) (aS : Nat) (aPast : Nat) (aSnap : Nat) (aText : Nat) (aOne : Nat) (aTwo : Nat) (aBoth : Nat) (aWord : Nat) (aOpen : Nat) (aTimes : Nat) (aFar : Nat) (aQueue : Nat) (known : Int32) (kept : Int32) (len : Int32) (thr : Int32) (cre : Int32) (hash : Int64) (place : Int32) : M vI l yX11_throwsAt cX11_throwsAt 2 (some .boolean) 0 0 D (tyF cI cL cP cJ) [.ref o, .int place] [[(o, .inr (9, [.ref aS, .ref aPast, .int known, .ref aSnap, .int kept, .ref aText, .int len, .int thr, .ref aOne, .ref aTwo, .ref aBoth, .ref aWord, .int cre, .ref aOpen, .ref aTimes, .ref aFar, .ref aQueue, .long hash]))]] (fun (r : Int32) (w1 : List va_W) => r = (F_X11_throwsAt place).1 ∧ w1 = [[(o, .inr (9, [.ref aS, .ref aPast, .int known, .ref aSnap, .int kept, .ref aText, .int len, .int ((F_X11_throwsAt place).2), .ref aOne, .ref aTwo, .ref aBoth, .ref aWord, .int cre, .ref aOpen, .ref aTimes, .ref aFar, .ref aQueue, .long hash]))]]) := by
  refine m_start (by decide +kernel) (Nat.le_of_ble_eq_true rfl) (fun p e s m args below meth c A Q hA hQ C hr hlo => ?_)
  refine r_Le (L' := [(0, .ref o), (1, .int place)]) rfl ?_
  refine r_aload_n C dX11_throwsAt_0 0 rfl ?_
  refine r_iload_n C dX11_throwsAt_1 1 rfl ?_
  refine r_put (Cn := RX11) (T := TX11) (N := 18) C inT11 0 rfl rfl 7 (by decide) t_900 tyX11 tyX11_ok nmX11 rfl rfl rfl (Nat.le_of_ble_eq_true rfl) (I' := [[(o, .inr (9, [.ref aS, .ref aPast, .int known, .ref aSnap, .int kept, .ref aText, .int len, .int place, .ref aOne, .ref aTwo, .ref aBoth, .ref aWord, .int cre, .ref aOpen, .ref aTimes, .ref aFar, .ref aQueue, .long hash]))]]) rfl dX11_throwsAt_2 ?_
  refine r_iload_n C dX11_throwsAt_5 1 rfl ?_
  suffices K : ∀ x2 : Int32, x2 = ((if place ≤ 0 then (0) else (1))) → V p l e (rmm 0 0) s m args below meth c 2 D A 0 0 Q [[(o, .inr (9, [.ref aS, .ref aPast, .int known, .ref aSnap, .int kept, .ref aText, .int len, .int place, .ref aOne, .ref aTwo, .ref aBoth, .ref aWord, .int cre, .ref aOpen, .ref aTimes, .ref aFar, .ref aQueue, .long hash]))]] [(0, .ref o), (1, .int place)] 14 [.int x2] by
    refine r_if_le (tgt := 13) C dX11_throwsAt_6 (by decide) (fun c1 => ?_) (fun c1 => ?_)
    · refine r_iconst (v := 0) C dX11_throwsAt_13 (by decide) ?_
      exact K _ (by simp only [if_pos c1])
    · refine r_iconst (v := 1) C dX11_throwsAt_9 (by decide) ?_
      refine r_goto (tgt := 14) C dX11_throwsAt_10 (by decide) ?_
      exact K _ (by simp only [if_neg c1])
  intro x2 e_x2
  have eF : F_X11_throwsAt place = (x2, place) := by have q := e_x2.symm; subst q; rfl
  exact r_zret (r := x2) C hA hr hlo (nb01 (by first | (rw [e_x2]; (try dsimp only); ((repeat' split) <;> (first | exact Or.inl rfl | exact Or.inr rfl))) | (have q := e_x2.symm; subst q; (try dsimp only); ((repeat' split) <;> (first | exact Or.inl rfl | exact Or.inr rfl))))) dX11_throwsAt_14 [[(o, .inr (9, [.ref aS, .ref aPast, .int known, .ref aSnap, .int kept, .ref aText, .int len, .int place, .ref aOne, .ref aTwo, .ref aBoth, .ref aWord, .int cre, .ref aOpen, .ref aTimes, .ref aFar, .ref aQueue, .long hash]))]] ⟨by simp only [eF], by simp only [eF]⟩ rfl hQ
theorem k_X11_in : kS yX11_in cX11_in 3 (some .boolean) 3 := ⟨t_960, t_67, t_961, by decide +kernel, by decide +kernel, by decide +kernel⟩
set_option maxRecDepth 20000 in
def F_X11_in (u : Int32) (lo : Int32) (hi : Int32) : Int32 := let x3 : Int32 := (if u < lo then (0) else ((if hi < u then (0) else (1)))); x3
set_option maxRecDepth 20000 in
set_option maxHeartbeats 8000000 in
theorem m_X11_in (l : Launch) (D : va_G) (cI cL cP cJ : ClassId) (u : Int32) (lo : Int32) (hi : Int32) : M vI l yX11_in cX11_in 3 (some .boolean) 0 0 D (tyF cI cL cP cJ) [.int u, .int lo, .int hi] [] (fun (r : Int32) (w1 : List va_W) => r = (F_X11_in u lo hi) ∧ w1 = []) := by
  refine m_start (by decide +kernel) (Nat.le_of_ble_eq_true rfl) (fun p e s m args below meth c A Q hA hQ C hr hlo => ?_)
  refine r_Le (L' := [(0, .int u), (1, .int lo), (2, .int hi)]) rfl ?_
  refine r_iload_n C dX11_in_0 0 rfl ?_
  refine r_iload_n C dX11_in_1 1 rfl ?_
  suffices K : ∀ x3 : Int32, x3 = ((if u < lo then (0) else ((if hi < u then (0) else (1))))) → V p l e (rmm 0 0) s m args below meth c 3 D A 0 0 Q [] [(0, .int u), (1, .int lo), (2, .int hi)] 15 [.int x3] by
    refine r_icmp_lt (tgt := 14) C dX11_in_2 (by decide) (fun c1 => ?_) (fun c1 => ?_)
    · refine r_iconst (v := 0) C dX11_in_14 (by decide) ?_
      exact K _ (by simp only [if_pos c1])
    · refine r_iload_n C dX11_in_5 0 rfl ?_
      refine r_iload_n C dX11_in_6 2 rfl ?_
      refine r_icmp_gt (tgt := 14) C dX11_in_7 (by decide) (fun c2 => ?_) (fun c2 => ?_)
      · refine r_iconst (v := 0) C dX11_in_14 (by decide) ?_
        exact K _ (by simp only [if_neg c1, if_pos c2])
      · refine r_iconst (v := 1) C dX11_in_10 (by decide) ?_
        refine r_goto (tgt := 15) C dX11_in_11 (by decide) ?_
        exact K _ (by simp only [if_neg c1, if_neg c2])
  intro x3 e_x3
  have eF : F_X11_in u lo hi = x3 := by have q := e_x3.symm; subst q; rfl
  exact r_zret (r := x3) C hA hr hlo (nb01 (by first | (rw [e_x3]; (try dsimp only); ((repeat' split) <;> (first | exact Or.inl rfl | exact Or.inr rfl))) | (have q := e_x3.symm; subst q; (try dsimp only); ((repeat' split) <;> (first | exact Or.inl rfl | exact Or.inr rfl))))) dX11_in_15 [] ⟨by simp only [eF], rfl⟩ rfl hQ
theorem hb_X11_in (u lo hi : Int32) : F_X11_in u lo hi = 0 ∨ F_X11_in u lo hi = 1 := by unfold F_X11_in; (try dsimp only); (repeat' split) <;> first | exact Or.inl rfl | exact Or.inr rfl
theorem k_X11_isLetter : kS yX11_isLetter cX11_isLetter 1 (some .boolean) 1 := ⟨t_957, t_67, t_958, by decide +kernel, by decide +kernel, by decide +kernel⟩
set_option maxRecDepth 20000 in
def F_X11_isLetter (letter : Int32) : Int32 := let r1 : Int32 := F_X11_in letter 0 4; r1
set_option maxRecDepth 20000 in
set_option maxHeartbeats 8000000 in
theorem m_X11_isLetter (l : Launch) (D : va_G) (cI cL cP cJ : ClassId) (letter : Int32) : M vI l yX11_isLetter cX11_isLetter 1 (some .boolean) 1 22 D (tyF cI cL cP cJ) [.int letter] [] (fun (r : Int32) (w1 : List va_W) => r = (F_X11_isLetter letter) ∧ w1 = []) := by
  refine m_start (by decide +kernel) (Nat.le_of_ble_eq_true rfl) (fun p e s m args below meth c A Q hA hQ C hr hlo => ?_)
  refine r_Le (L' := [(0, .int letter)]) rfl ?_
  refine r_iload_n C dX11_isLetter_0 0 rfl ?_
  refine r_iconst (v := 0) C dX11_isLetter_1 (by decide) ?_
  refine r_iconst (v := 4) C dX11_isLetter_2 (by decide) ?_
  refine r_callS (wc := []) (wr := []) (st := []) C (m_X11_in l D cI cL cP cJ letter 0 4) k_X11_in t_959 [] (show ([] : List Nat).Perm (List.range 0) by decide) rfl rfl rfl (Nat.le_of_ble_eq_true rfl) ⟨Nat.le_of_ble_eq_true rfl, Nat.le_of_ble_eq_true rfl⟩ ⟨Nat.zero_le _, Nat.zero_le _⟩ dX11_isLetter_3 (fun r1 wr1 hw1 => ?_)
  obtain ⟨e_r1, rfl⟩ := hw1
  refine r_ws (I' := []) rfl ?_
  have eF : F_X11_isLetter letter = r1 := by have q := e_r1.symm; subst q; rfl
  exact r_zret (r := r1) C hA hr hlo (nb01 (by have q := e_r1.symm; subst q; exact hb_X11_in _ _ _)) dX11_isLetter_6 [] ⟨by simp only [eF], rfl⟩ rfl hQ
theorem k_X11_isPlace : kS yX11_isPlace cX11_isPlace 1 (some .boolean) 1 := ⟨t_1070, t_67, t_1071, by decide +kernel, by decide +kernel, by decide +kernel⟩
set_option maxRecDepth 20000 in
def F_X11_isPlace (letter : Int32) : Int32 := let r1 : Int32 := F_X11_in letter 0 3; r1
set_option maxRecDepth 20000 in
set_option maxHeartbeats 8000000 in
theorem m_X11_isPlace (l : Launch) (D : va_G) (cI cL cP cJ : ClassId) (letter : Int32) : M vI l yX11_isPlace cX11_isPlace 1 (some .boolean) 1 22 D (tyF cI cL cP cJ) [.int letter] [] (fun (r : Int32) (w1 : List va_W) => r = (F_X11_isPlace letter) ∧ w1 = []) := by
  refine m_start (by decide +kernel) (Nat.le_of_ble_eq_true rfl) (fun p e s m args below meth c A Q hA hQ C hr hlo => ?_)
  refine r_Le (L' := [(0, .int letter)]) rfl ?_
  refine r_iload_n C dX11_isPlace_0 0 rfl ?_
  refine r_iconst (v := 0) C dX11_isPlace_1 (by decide) ?_
  refine r_iconst (v := 3) C dX11_isPlace_2 (by decide) ?_
  refine r_callS (wc := []) (wr := []) (st := []) C (m_X11_in l D cI cL cP cJ letter 0 3) k_X11_in t_959 [] (show ([] : List Nat).Perm (List.range 0) by decide) rfl rfl rfl (Nat.le_of_ble_eq_true rfl) ⟨Nat.le_of_ble_eq_true rfl, Nat.le_of_ble_eq_true rfl⟩ ⟨Nat.zero_le _, Nat.zero_le _⟩ dX11_isPlace_3 (fun r1 wr1 hw1 => ?_)
  obtain ⟨e_r1, rfl⟩ := hw1
  refine r_ws (I' := []) rfl ?_
  have eF : F_X11_isPlace letter = r1 := by have q := e_r1.symm; subst q; rfl
  exact r_zret (r := r1) C hA hr hlo (nb01 (by have q := e_r1.symm; subst q; exact hb_X11_in _ _ _)) dX11_isPlace_6 [] ⟨by simp only [eF], rfl⟩ rfl hQ
theorem k_X11_its : kV yX11_its cX11_its 3 (some .int) 2 := ⟨t_968, t_12, t_67, t_969, by decide +kernel, by decide +kernel, by decide +kernel⟩
set_option maxRecDepth 20000 in
def F_X11_its (fS : Nat → Int32) (letter : Int32) (what : Int32) : Int32 := fS (((67 : Int32) * letter) + what).toNatClampNeg
set_option maxRecDepth 20000 in
def P_X11_its (letter : Int32) (what : Int32) : Prop := (vp_in (((67 : Int32) * letter) + what) 335)
set_option maxRecDepth 20000 in
set_option maxHeartbeats 8000000 in
theorem m_X11_its (l : Launch) (D : va_G) (cI cL cP cJ : ClassId) (o : Nat) (aS : Nat) (aPast : Nat) (aSnap : Nat) (aText : Nat) (aOne : Nat) (aTwo : Nat) (aBoth : Nat) (aWord : Nat) (aOpen : Nat) (aTimes : Nat) (aFar : Nat) (aQueue : Nat) (known : Int32) (kept : Int32) (len : Int32) (thr : Int32) (cre : Int32) (hash : Int64) (fS : Nat → Int32) (letter : Int32) (what : Int32) (hp : P_X11_its letter what) : M vI l yX11_its cX11_its 3 (some .int) 0 0 D (tyF cI cL cP cJ) [.ref o, .int letter, .int what] [[(o, .inr (9, [.ref aS, .ref aPast, .int known, .ref aSnap, .int kept, .ref aText, .int len, .int thr, .ref aOne, .ref aTwo, .ref aBoth, .ref aWord, .int cre, .ref aOpen, .ref aTimes, .ref aFar, .ref aQueue, .long hash]))], [(aS, .inl (cI, 335, .inl fS))]] (fun (r : Int32) (w1 : List va_W) => r = (F_X11_its fS letter what) ∧ w1 = [[(o, .inr (9, [.ref aS, .ref aPast, .int known, .ref aSnap, .int kept, .ref aText, .int len, .int thr, .ref aOne, .ref aTwo, .ref aBoth, .ref aWord, .int cre, .ref aOpen, .ref aTimes, .ref aFar, .ref aQueue, .long hash]))], [(aS, .inl (cI, 335, .inl fS))]]) := by
  unfold P_X11_its at hp
  refine m_start (by decide +kernel) (Nat.le_of_ble_eq_true rfl) (fun p e s m args below meth c A Q hA hQ C hr hlo => ?_)
  refine r_Le (L' := [(0, .ref o), (1, .int letter), (2, .int what)]) rfl ?_
  refine r_aload_n C dX11_its_0 0 rfl ?_
  refine r_get (Cn := RX11) (T := TX11) (N := 18) C inT11 0 rfl rfl 0 (by decide) t_893 rfl dX11_its_1 ?_
  refine r_bipush (v := 67) C dX11_its_4 (by decide) ?_
  refine r_iload_n C dX11_its_6 1 rfl ?_
  refine r_imul C dX11_its_7 rfl ?_
  refine r_iload_n C dX11_its_8 2 rfl ?_
  refine r_iadd C dX11_its_9 rfl ?_
  have h1 := hp
  refine r_iald (z := fS (((67 : Int32) * letter) + what).toNatClampNeg) C 1 0 rfl rfl h1 dX11_its_10 rfl ?_
  have eF : F_X11_its fS letter what = fS (((67 : Int32) * letter) + what).toNatClampNeg := by rfl
  exact r_iret (r := fS (((67 : Int32) * letter) + what).toNatClampNeg) C hA hr hlo dX11_its_11 [[(o, .inr (9, [.ref aS, .ref aPast, .int known, .ref aSnap, .int kept, .ref aText, .int len, .int thr, .ref aOne, .ref aTwo, .ref aBoth, .ref aWord, .int cre, .ref aOpen, .ref aTimes, .ref aFar, .ref aQueue, .long hash]))], [(aS, .inl (cI, 335, .inl fS))]] ⟨by simp only [eF], rfl⟩ rfl hQ
theorem k_X11_size : kS yX11_size cX11_size 1 (some .int) 1 := ⟨t_1035, t_67, t_1036, by decide +kernel, by decide +kernel, by decide +kernel⟩
set_option maxRecDepth 20000 in
def F_X11_size (u : Int32) : Int32 := let x2 : Int32 := (if 0 ≤ u then (u) else (-u)); x2
set_option maxRecDepth 20000 in
set_option maxHeartbeats 8000000 in
theorem m_X11_size (l : Launch) (D : va_G) (cI cL cP cJ : ClassId) (u : Int32) : M vI l yX11_size cX11_size 1 (some .int) 0 0 D (tyF cI cL cP cJ) [.int u] [] (fun (r : Int32) (w1 : List va_W) => r = (F_X11_size u) ∧ w1 = []) := by
  refine m_start (by decide +kernel) (Nat.le_of_ble_eq_true rfl) (fun p e s m args below meth c A Q hA hQ C hr hlo => ?_)
  refine r_Le (L' := [(0, .int u)]) rfl ?_
  refine r_iload_n C dX11_size_0 0 rfl ?_
  suffices K : ∀ x2 : Int32, x2 = ((if 0 ≤ u then (u) else (-u))) → V p l e (rmm 0 0) s m args below meth c 1 D A 0 0 Q [] [(0, .int u)] 10 [.int x2] by
    refine r_if_ge (tgt := 9) C dX11_size_1 (by decide) (fun c1 => ?_) (fun c1 => ?_)
    · refine r_iload_n C dX11_size_9 0 rfl ?_
      exact K _ (by simp only [if_pos c1])
    · refine r_iload_n C dX11_size_4 0 rfl ?_
      refine r_ineg C dX11_size_5 rfl ?_
      refine r_goto (tgt := 10) C dX11_size_6 (by decide) ?_
      exact K _ (by simp only [if_neg c1])
  intro x2 e_x2
  have eF : F_X11_size u = x2 := by have q := e_x2.symm; subst q; rfl
  exact r_iret (r := x2) C hA hr hlo dX11_size_10 [] ⟨by simp only [eF], rfl⟩ rfl hQ
theorem k_X11_ones : kS yX11_ones cX11_ones 1 (some .int) 1 := ⟨t_1073, t_67, t_1074, by decide +kernel, by decide +kernel, by decide +kernel⟩
set_option maxRecDepth 20000 in
def F_X11_ones (u : Int32) : Int32 := (((u &&& 1) + ((u >>> ((1 : Int32) &&& 31)) &&& 1)) + ((u >>> ((2 : Int32) &&& 31)) &&& 1)) + ((u >>> ((3 : Int32) &&& 31)) &&& 1)
set_option maxRecDepth 20000 in
set_option maxHeartbeats 8000000 in
theorem m_X11_ones (l : Launch) (D : va_G) (cI cL cP cJ : ClassId) (u : Int32) : M vI l yX11_ones cX11_ones 1 (some .int) 0 0 D (tyF cI cL cP cJ) [.int u] [] (fun (r : Int32) (w1 : List va_W) => r = (F_X11_ones u) ∧ w1 = []) := by
  refine m_start (by decide +kernel) (Nat.le_of_ble_eq_true rfl) (fun p e s m args below meth c A Q hA hQ C hr hlo => ?_)
  refine r_Le (L' := [(0, .int u)]) rfl ?_
  refine r_iload_n C dX11_ones_0 0 rfl ?_
  refine r_iconst (v := 1) C dX11_ones_1 (by decide) ?_
  refine r_iand C dX11_ones_2 rfl ?_
  refine r_iload_n C dX11_ones_3 0 rfl ?_
  refine r_iconst (v := 1) C dX11_ones_4 (by decide) ?_
  refine r_ishr C dX11_ones_5 rfl ?_
  refine r_iconst (v := 1) C dX11_ones_6 (by decide) ?_
  refine r_iand C dX11_ones_7 rfl ?_
  refine r_iadd C dX11_ones_8 rfl ?_
  refine r_iload_n C dX11_ones_9 0 rfl ?_
  refine r_iconst (v := 2) C dX11_ones_10 (by decide) ?_
  refine r_ishr C dX11_ones_11 rfl ?_
  refine r_iconst (v := 1) C dX11_ones_12 (by decide) ?_
  refine r_iand C dX11_ones_13 rfl ?_
  refine r_iadd C dX11_ones_14 rfl ?_
  refine r_iload_n C dX11_ones_15 0 rfl ?_
  refine r_iconst (v := 3) C dX11_ones_16 (by decide) ?_
  refine r_ishr C dX11_ones_17 rfl ?_
  refine r_iconst (v := 1) C dX11_ones_18 (by decide) ?_
  refine r_iand C dX11_ones_19 rfl ?_
  refine r_iadd C dX11_ones_20 rfl ?_
  have eF : F_X11_ones u = (((u &&& 1) + ((u >>> ((1 : Int32) &&& 31)) &&& 1)) + ((u >>> ((2 : Int32) &&& 31)) &&& 1)) + ((u >>> ((3 : Int32) &&& 31)) &&& 1) := by rfl
  exact r_iret (r := (((u &&& 1) + ((u >>> ((1 : Int32) &&& 31)) &&& 1)) + ((u >>> ((2 : Int32) &&& 31)) &&& 1)) + ((u >>> ((3 : Int32) &&& 31)) &&& 1)) C hA hr hlo dX11_ones_21 [] ⟨by simp only [eF], rfl⟩ rfl hQ
theorem k_X11_saves : kV yX11_saves cX11_saves 2 none 0 := ⟨t_980, t_15, t_67, t_981, by decide +kernel, by decide +kernel, by decide +kernel⟩
def F_X11_saves_L11  : Nat → (Nat → Int32) → Int32 → (Nat → Int32) × Int32
  | 0, k2, y3 => (k2, y3)
  | nn + 1, k2, y3 => (if 1675 ≤ y3 then ((k2, y3)) else (let x6 : Int32 := k2 ((335 : Int32) + y3).toNatClampNeg; let g8 : Nat → Int32 := upd k2 (y3.toNatClampNeg) x6; let x9 : Int32 := y3 + 1; F_X11_saves_L11 nn g8 x9))
def P_X11_saves_L11  : Nat → (Nat → Int32) → Int32 → Prop
  | 0, _, _ => False
  | nn + 1, k2, y3 => ((1675 ≤ y3 → True) ∧ (¬ 1675 ≤ y3 → ((vp_in ((335 : Int32) + y3) 2010) ∧ (∀ x6 : Int32, x6 = k2 ((335 : Int32) + y3).toNatClampNeg → ((vp_in y3 2010) ∧ (∀ g8 : Nat → Int32, g8 = upd k2 (y3.toNatClampNeg) x6 → (∀ x9 : Int32, x9 = y3 + 1 → (P_X11_saves_L11 nn g8 x9))))))))
def F_X11_saves_L52 (fS : Nat → Int32) (x13 : Int32) : Nat → (Nat → Int32) → Int32 → (Nat → Int32) × Int32
  | 0, k15, y16 => (k15, y16)
  | nn + 1, k15, y16 => (if 335 ≤ y16 then ((k15, y16)) else (let x19 : Int32 := fS y16.toNatClampNeg; let g21 : Nat → Int32 := upd k15 ((((335 : Int32) * x13) + y16).toNatClampNeg) x19; let x22 : Int32 := y16 + 1; F_X11_saves_L52 fS x13 nn g21 x22))
def P_X11_saves_L52 (fS : Nat → Int32) (x13 : Int32) : Nat → (Nat → Int32) → Int32 → Prop
  | 0, _, _ => False
  | nn + 1, k15, y16 => ((335 ≤ y16 → True) ∧ (¬ 335 ≤ y16 → ((vp_in y16 335) ∧ (∀ x19 : Int32, x19 = fS y16.toNatClampNeg → ((vp_in (((335 : Int32) * x13) + y16) 2010) ∧ (∀ g21 : Nat → Int32, g21 = upd k15 ((((335 : Int32) * x13) + y16).toNatClampNeg) x19 → (∀ x22 : Int32, x22 = y16 + 1 → (P_X11_saves_L52 fS x13 nn g21 x22))))))))
set_option maxRecDepth 20000 in
def F_X11_saves (known : Int32) (fS : Nat → Int32) (fPast : Nat → Int32) : Int32 × (Nat → Int32) := let x13 : Int32 := (if known = 6 then (let x12 : Int32 := known - 1; x12) else (known)); let g14 : Nat → Int32 := (if known = 6 then (let f10 : Nat → Int32 := (F_X11_saves_L11 1676 fPast 0).1; f10) else (fPast)); let f23 : Nat → Int32 := (F_X11_saves_L52 fS x13 336 g14 0).1; let x25 : Int32 := x13 + 1; (x25, f23)
set_option maxRecDepth 20000 in
def P_X11_saves (known : Int32) (fS : Nat → Int32) (fPast : Nat → Int32) : Prop := (((known = 6 → (P_X11_saves_L11 1676 fPast 0)) ∧ (¬ known = 6 → True)) ∧ (∀ x13 : Int32, x13 = ((if known = 6 then (let x12 : Int32 := known - 1; x12) else (known))) → (∀ g14 : Nat → Int32, g14 = ((if known = 6 then (let f10 : Nat → Int32 := (F_X11_saves_L11 1676 fPast 0).1; f10) else (fPast))) → (P_X11_saves_L52 fS x13 336 g14 0))))
set_option maxRecDepth 20000 in
set_option maxHeartbeats 8000000 in
theorem m_X11_saves (l : Launch) (D : va_G) (cI cL cP cJ : ClassId) (o : Nat) (aS : Nat) (aPast : Nat) (aSnap : Nat) (aText : Nat) (aOne : Nat) (aTwo : Nat) (aBoth : Nat) (aWord : Nat) (aOpen : Nat) (aTimes : Nat) (aFar : Nat) (aQueue : Nat) (known : Int32) (kept : Int32) (len : Int32) (thr : Int32) (cre : Int32) (hash : Int64) (fS : Nat → Int32) (fPast : Nat → Int32) (hp : P_X11_saves known fS fPast) : M vV l yX11_saves cX11_saves 2 none 0 0 D (tyF cI cL cP cJ) [.ref o] [[(o, .inr (9, [.ref aS, .ref aPast, .int known, .ref aSnap, .int kept, .ref aText, .int len, .int thr, .ref aOne, .ref aTwo, .ref aBoth, .ref aWord, .int cre, .ref aOpen, .ref aTimes, .ref aFar, .ref aQueue, .long hash]))], [(aS, .inl (cI, 335, .inl fS))], [(aPast, .inl (cI, 2010, .inl fPast))]] (fun (r : Unit) (w1 : List va_W) => w1 = [[(o, .inr (9, [.ref aS, .ref aPast, .int ((F_X11_saves known fS fPast).1), .ref aSnap, .int kept, .ref aText, .int len, .int thr, .ref aOne, .ref aTwo, .ref aBoth, .ref aWord, .int cre, .ref aOpen, .ref aTimes, .ref aFar, .ref aQueue, .long hash]))], [(aS, .inl (cI, 335, .inl fS))], [(aPast, .inl (cI, 2010, .inl ((F_X11_saves known fS fPast).2)))]]) := by
  unfold P_X11_saves at hp
  refine m_start (by decide +kernel) (Nat.le_of_ble_eq_true rfl) (fun p e s m args below meth c A Q hA hQ C hr hlo => ?_)
  refine r_Le (L' := [(0, .ref o)]) rfl ?_
  refine r_aload_n C dX11_saves_0 0 rfl ?_
  refine r_get (Cn := RX11) (T := TX11) (N := 18) C inT11 0 rfl rfl 2 (by decide) t_895 rfl dX11_saves_1 ?_
  refine r_bipush (v := 6) C dX11_saves_4 (by decide) ?_
  obtain ⟨hps, hp⟩ := hp
  suffices K : ∀ x13 : Int32, x13 = ((if known = 6 then (let x12 : Int32 := known - 1; x12) else (known))) → ∀ g14 : Nat → Int32, g14 = ((if known = 6 then (let f10 : Nat → Int32 := (F_X11_saves_L11 1676 fPast 0).1; f10) else (fPast))) → V p l e (rmm 0 0) s m args below meth c 2 D A 0 0 Q [[(o, .inr (9, [.ref aS, .ref aPast, .int x13, .ref aSnap, .int kept, .ref aText, .int len, .int thr, .ref aOne, .ref aTwo, .ref aBoth, .ref aWord, .int cre, .ref aOpen, .ref aTimes, .ref aFar, .ref aQueue, .long hash]))], [(aS, .inl (cI, 335, .inl fS))], [(aPast, .inl (cI, 2010, .inl g14))]] [(0, .ref o)] 50 [] by
    have hp := hps
    refine r_icmp_ne (tgt := 50) C dX11_saves_6 (by decide) (fun c1 => ?_) (fun c1 => ?_)
    · exact K _ (by simp only [if_neg c1]) _ (by simp only [if_neg c1])
    · have hp := hp.1 c1
      refine r_iconst (v := 0) C dX11_saves_9 (by decide) ?_
      refine r_istore_n (L' := [(1, .int 0), (0, .ref o)]) C dX11_saves_10 (by decide) rfl ?_
      have hpl := hp
      have hL : ∀ (nn : Nat) (k2 : Nat → Int32) (y3 : Int32), P_X11_saves_L11 nn k2 y3 → (∀ f10 : Nat → Int32, f10 = (F_X11_saves_L11 nn k2 y3).1 → ∀ z11 : Int32, z11 = (F_X11_saves_L11 nn k2 y3).2 → V p l e (rmm 0 0) s m args below meth c 2 D A 0 0 Q [[(o, .inr (9, [.ref aS, .ref aPast, .int known, .ref aSnap, .int kept, .ref aText, .int len, .int thr, .ref aOne, .ref aTwo, .ref aBoth, .ref aWord, .int cre, .ref aOpen, .ref aTimes, .ref aFar, .ref aQueue, .long hash]))], [(aS, .inl (cI, 335, .inl fS))], [(aPast, .inl (cI, 2010, .inl f10))]] [(1, .int z11), (0, .ref o)] 40 []) → V p l e (rmm 0 0) s m args below meth c 2 D A 0 0 Q [[(o, .inr (9, [.ref aS, .ref aPast, .int known, .ref aSnap, .int kept, .ref aText, .int len, .int thr, .ref aOne, .ref aTwo, .ref aBoth, .ref aWord, .int cre, .ref aOpen, .ref aTimes, .ref aFar, .ref aQueue, .long hash]))], [(aS, .inl (cI, 335, .inl fS))], [(aPast, .inl (cI, 2010, .inl k2))]] [(1, .int y3), (0, .ref o)] 11 [] := by
        clear hpl
        intro nn
        induction nn with
        | zero => intro k2 y3 hp kk; rw [P_X11_saves_L11] at hp; exact hp.elim
        | succ nn ih =>
          intro k2 y3 hp kk
          rw [P_X11_saves_L11] at hp
          refine r_iload_n C dX11_saves_11 0 rfl ?_
          refine r_sipush (v := 1675) C dX11_saves_12 (by decide) ?_
          refine r_icmp_ge (tgt := 40) C dX11_saves_15 (by decide) (fun c4 => ?_) (fun c4 => ?_)
          · have eF : F_X11_saves_L11 (nn + 1) k2 y3 = (k2, y3) := by simp only [F_X11_saves_L11, if_pos c4]
            exact kk _ (by rw [eF]) _ (by rw [eF])
          · have hp := hp.2 c4
            refine r_aload_n C dX11_saves_18 1 rfl ?_
            refine r_get (Cn := RX11) (T := TX11) (N := 18) C inT11 0 rfl rfl 1 (by decide) t_894 rfl dX11_saves_19 ?_
            refine r_iload_n C dX11_saves_22 0 rfl ?_
            refine r_aload_n C dX11_saves_23 1 rfl ?_
            refine r_get (Cn := RX11) (T := TX11) (N := 18) C inT11 0 rfl rfl 1 (by decide) t_894 rfl dX11_saves_24 ?_
            refine r_sipush (v := 335) C dX11_saves_27 (by decide) ?_
            refine r_iload_n C dX11_saves_30 0 rfl ?_
            refine r_iadd C dX11_saves_31 rfl ?_
            obtain ⟨h5, hp⟩ := hp
            refine r_iald (z := k2 ((335 : Int32) + y3).toNatClampNeg) C 2 0 rfl rfl h5 dX11_saves_32 rfl ?_
            refine r_top (fun x6 e_x6 => ?_)
            have hp := hp x6 e_x6
            obtain ⟨h7, hp⟩ := hp
            obtain ⟨g8, e_g8⟩ : ∃ z : Nat → Int32, z = upd k2 (y3.toNatClampNeg) x6 := ⟨_, rfl⟩
            have hp := hp g8 e_g8
            refine r_iast C 2 0 rfl rfl h7 (I' := [[(o, .inr (9, [.ref aS, .ref aPast, .int known, .ref aSnap, .int kept, .ref aText, .int len, .int thr, .ref aOne, .ref aTwo, .ref aBoth, .ref aWord, .int cre, .ref aOpen, .ref aTimes, .ref aFar, .ref aQueue, .long hash]))], [(aS, .inl (cI, 335, .inl fS))], [(aPast, .inl (cI, 2010, .inl g8))]]) (by rw [e_g8]; rfl) dX11_saves_33 ?_
            obtain ⟨x9, e_x9⟩ : ∃ z : Int32, z = y3 + 1 := ⟨_, rfl⟩
            have hp := hp x9 e_x9
            refine r_iinc (v := x9) (L' := [(1, .int x9), (0, .ref o)]) C dX11_saves_34 0 rfl (by rw [e_x9]; exact ii (by decide)) (by decide) rfl ?_
            refine r_goto (tgt := 11) C dX11_saves_37 (by decide) ?_
            have eF : F_X11_saves_L11 (nn + 1) k2 y3 = F_X11_saves_L11 nn g8 x9 := by have q := e_x6.symm; subst q; have q := e_g8.symm; subst q; have q := e_x9.symm; subst q; simp only [F_X11_saves_L11, if_neg c4]
            exact ih g8 x9 hp (fun f10 e_f10 z11 e_z11 => kk f10 (by rw [eF]; exact e_f10) z11 (by rw [eF]; exact e_z11))
      refine hL 1676 fPast 0 hpl (fun f10 e_f10 z11 e_z11 => ?_)
      clear hL hpl
      refine r_aload_n C dX11_saves_40 1 rfl ?_
      refine r_dup C dX11_saves_41 rfl ?_
      refine r_get (Cn := RX11) (T := TX11) (N := 18) C inT11 0 rfl rfl 2 (by decide) t_895 rfl dX11_saves_42 ?_
      refine r_iconst (v := 1) C dX11_saves_45 (by decide) ?_
      refine r_isub C dX11_saves_46 rfl ?_
      refine r_top (fun x12 e_x12 => ?_)
      refine r_put (Cn := RX11) (T := TX11) (N := 18) C inT11 0 rfl rfl 2 (by decide) t_895 tyX11 tyX11_ok nmX11 rfl rfl rfl (Nat.le_of_ble_eq_true rfl) (I' := [[(o, .inr (9, [.ref aS, .ref aPast, .int x12, .ref aSnap, .int kept, .ref aText, .int len, .int thr, .ref aOne, .ref aTwo, .ref aBoth, .ref aWord, .int cre, .ref aOpen, .ref aTimes, .ref aFar, .ref aQueue, .long hash]))], [(aS, .inl (cI, 335, .inl fS))], [(aPast, .inl (cI, 2010, .inl f10))]]) rfl dX11_saves_47 ?_
      refine r_L (L' := [(0, .ref o)]) [1] rfl ?_
      exact K _ (by have q := e_f10.symm; subst q; have q := e_z11.symm; subst q; have q := e_x12.symm; subst q; simp only [if_pos c1]) _ (by have q := e_f10.symm; subst q; have q := e_z11.symm; subst q; have q := e_x12.symm; subst q; simp only [if_pos c1])
  intro x13 e_x13 g14 e_g14
  have hp := hp x13 e_x13
  have hp := hp g14 e_g14
  refine r_iconst (v := 0) C dX11_saves_50 (by decide) ?_
  refine r_istore_n (L' := [(1, .int 0), (0, .ref o)]) C dX11_saves_51 (by decide) rfl ?_
  have hpl := hp
  have hL : ∀ (nn : Nat) (k15 : Nat → Int32) (y16 : Int32), P_X11_saves_L52 fS x13 nn k15 y16 → (∀ f23 : Nat → Int32, f23 = (F_X11_saves_L52 fS x13 nn k15 y16).1 → ∀ z24 : Int32, z24 = (F_X11_saves_L52 fS x13 nn k15 y16).2 → V p l e (rmm 0 0) s m args below meth c 2 D A 0 0 Q [[(o, .inr (9, [.ref aS, .ref aPast, .int x13, .ref aSnap, .int kept, .ref aText, .int len, .int thr, .ref aOne, .ref aTwo, .ref aBoth, .ref aWord, .int cre, .ref aOpen, .ref aTimes, .ref aFar, .ref aQueue, .long hash]))], [(aS, .inl (cI, 335, .inl fS))], [(aPast, .inl (cI, 2010, .inl f23))]] [(1, .int z24), (0, .ref o)] 86 []) → V p l e (rmm 0 0) s m args below meth c 2 D A 0 0 Q [[(o, .inr (9, [.ref aS, .ref aPast, .int x13, .ref aSnap, .int kept, .ref aText, .int len, .int thr, .ref aOne, .ref aTwo, .ref aBoth, .ref aWord, .int cre, .ref aOpen, .ref aTimes, .ref aFar, .ref aQueue, .long hash]))], [(aS, .inl (cI, 335, .inl fS))], [(aPast, .inl (cI, 2010, .inl k15))]] [(1, .int y16), (0, .ref o)] 52 [] := by
    clear hpl
    intro nn
    induction nn with
    | zero => intro k15 y16 hp kk; rw [P_X11_saves_L52] at hp; exact hp.elim
    | succ nn ih =>
      intro k15 y16 hp kk
      rw [P_X11_saves_L52] at hp
      refine r_iload_n C dX11_saves_52 0 rfl ?_
      refine r_sipush (v := 335) C dX11_saves_53 (by decide) ?_
      refine r_icmp_ge (tgt := 86) C dX11_saves_56 (by decide) (fun c17 => ?_) (fun c17 => ?_)
      · have eF : F_X11_saves_L52 fS x13 (nn + 1) k15 y16 = (k15, y16) := by simp only [F_X11_saves_L52, if_pos c17]
        exact kk _ (by rw [eF]) _ (by rw [eF])
      · have hp := hp.2 c17
        refine r_aload_n C dX11_saves_59 1 rfl ?_
        refine r_get (Cn := RX11) (T := TX11) (N := 18) C inT11 0 rfl rfl 1 (by decide) t_894 rfl dX11_saves_60 ?_
        refine r_sipush (v := 335) C dX11_saves_63 (by decide) ?_
        refine r_aload_n C dX11_saves_66 1 rfl ?_
        refine r_get (Cn := RX11) (T := TX11) (N := 18) C inT11 0 rfl rfl 2 (by decide) t_895 rfl dX11_saves_67 ?_
        refine r_imul C dX11_saves_70 rfl ?_
        refine r_iload_n C dX11_saves_71 0 rfl ?_
        refine r_iadd C dX11_saves_72 rfl ?_
        refine r_aload_n C dX11_saves_73 1 rfl ?_
        refine r_get (Cn := RX11) (T := TX11) (N := 18) C inT11 0 rfl rfl 0 (by decide) t_893 rfl dX11_saves_74 ?_
        refine r_iload_n C dX11_saves_77 0 rfl ?_
        obtain ⟨h18, hp⟩ := hp
        refine r_iald (z := fS y16.toNatClampNeg) C 1 0 rfl rfl h18 dX11_saves_78 rfl ?_
        refine r_top (fun x19 e_x19 => ?_)
        have hp := hp x19 e_x19
        obtain ⟨h20, hp⟩ := hp
        obtain ⟨g21, e_g21⟩ : ∃ z : Nat → Int32, z = upd k15 ((((335 : Int32) * x13) + y16).toNatClampNeg) x19 := ⟨_, rfl⟩
        have hp := hp g21 e_g21
        refine r_iast C 2 0 rfl rfl h20 (I' := [[(o, .inr (9, [.ref aS, .ref aPast, .int x13, .ref aSnap, .int kept, .ref aText, .int len, .int thr, .ref aOne, .ref aTwo, .ref aBoth, .ref aWord, .int cre, .ref aOpen, .ref aTimes, .ref aFar, .ref aQueue, .long hash]))], [(aS, .inl (cI, 335, .inl fS))], [(aPast, .inl (cI, 2010, .inl g21))]]) (by rw [e_g21]; rfl) dX11_saves_79 ?_
        obtain ⟨x22, e_x22⟩ : ∃ z : Int32, z = y16 + 1 := ⟨_, rfl⟩
        have hp := hp x22 e_x22
        refine r_iinc (v := x22) (L' := [(1, .int x22), (0, .ref o)]) C dX11_saves_80 0 rfl (by rw [e_x22]; exact ii (by decide)) (by decide) rfl ?_
        refine r_goto (tgt := 52) C dX11_saves_83 (by decide) ?_
        have eF : F_X11_saves_L52 fS x13 (nn + 1) k15 y16 = F_X11_saves_L52 fS x13 nn g21 x22 := by have q := e_x19.symm; subst q; have q := e_g21.symm; subst q; have q := e_x22.symm; subst q; simp only [F_X11_saves_L52, if_neg c17]
        exact ih g21 x22 hp (fun f23 e_f23 z24 e_z24 => kk f23 (by rw [eF]; exact e_f23) z24 (by rw [eF]; exact e_z24))
  refine hL 336 g14 0 hpl (fun f23 e_f23 z24 e_z24 => ?_)
  clear hL hpl
  refine r_aload_n C dX11_saves_86 1 rfl ?_
  refine r_dup C dX11_saves_87 rfl ?_
  refine r_get (Cn := RX11) (T := TX11) (N := 18) C inT11 0 rfl rfl 2 (by decide) t_895 rfl dX11_saves_88 ?_
  refine r_iconst (v := 1) C dX11_saves_91 (by decide) ?_
  refine r_iadd C dX11_saves_92 rfl ?_
  refine r_top (fun x25 e_x25 => ?_)
  refine r_put (Cn := RX11) (T := TX11) (N := 18) C inT11 0 rfl rfl 2 (by decide) t_895 tyX11 tyX11_ok nmX11 rfl rfl rfl (Nat.le_of_ble_eq_true rfl) (I' := [[(o, .inr (9, [.ref aS, .ref aPast, .int x25, .ref aSnap, .int kept, .ref aText, .int len, .int thr, .ref aOne, .ref aTwo, .ref aBoth, .ref aWord, .int cre, .ref aOpen, .ref aTimes, .ref aFar, .ref aQueue, .long hash]))], [(aS, .inl (cI, 335, .inl fS))], [(aPast, .inl (cI, 2010, .inl f23))]]) rfl dX11_saves_93 ?_
  have eF : F_X11_saves known fS fPast = (x25, f23) := by have q := e_x13.symm; subst q; have q := e_g14.symm; subst q; have q := e_f23.symm; subst q; have q := e_z24.symm; subst q; have q := e_x25.symm; subst q; rfl
  exact r_vret (r := ()) C hA hr hlo dX11_saves_96 [[(o, .inr (9, [.ref aS, .ref aPast, .int x25, .ref aSnap, .int kept, .ref aText, .int len, .int thr, .ref aOne, .ref aTwo, .ref aBoth, .ref aWord, .int cre, .ref aOpen, .ref aTimes, .ref aFar, .ref aQueue, .long hash]))], [(aS, .inl (cI, 335, .inl fS))], [(aPast, .inl (cI, 2010, .inl f23))]] (by simp only [eF]) rfl hQ
theorem k_X11_takes : kV yX11_takes cX11_takes 3 none 1 := ⟨t_992, t_18, t_67, t_993, by decide +kernel, by decide +kernel, by decide +kernel⟩
set_option maxRecDepth 20000 in
def F_X11_takes (fS : Nat → Int32) (fOne : Nat → Int32) (letter : Int32) : (Nat → Int32) := let r2 : Int32 := F_X11_its fS letter 0; let g3 : Nat → Int32 := upd fOne 0 r2; let r5 : Int32 := F_X11_its fS letter 1; let g6 : Nat → Int32 := upd g3 1 r5; let r8 : Int32 := F_X11_its fS letter 2; let g9 : Nat → Int32 := upd g6 2 r8; let r11 : Int32 := F_X11_its fS letter 3; let g12 : Nat → Int32 := upd g9 3 r11; g12
set_option maxRecDepth 20000 in
def P_X11_takes (fS : Nat → Int32) (fOne : Nat → Int32) (letter : Int32) : Prop := ((P_X11_its letter 0) ∧ (∀ r2 : Int32, r2 = F_X11_its fS letter 0 → (∀ g3 : Nat → Int32, g3 = upd fOne 0 r2 → ((P_X11_its letter 1) ∧ (∀ r5 : Int32, r5 = F_X11_its fS letter 1 → (∀ g6 : Nat → Int32, g6 = upd g3 1 r5 → ((P_X11_its letter 2) ∧ (∀ r8 : Int32, r8 = F_X11_its fS letter 2 → (∀ g9 : Nat → Int32, g9 = upd g6 2 r8 → (P_X11_its letter 3))))))))))
set_option maxRecDepth 20000 in
set_option maxHeartbeats 8000000 in
theorem m_X11_takes (l : Launch) (D : va_G) (cI cL cP cJ : ClassId) (o : Nat) (aS : Nat) (aPast : Nat) (aSnap : Nat) (aText : Nat) (aOne : Nat) (aTwo : Nat) (aBoth : Nat) (aWord : Nat) (aOpen : Nat) (aTimes : Nat) (aFar : Nat) (aQueue : Nat) (known : Int32) (kept : Int32) (len : Int32) (thr : Int32) (cre : Int32) (hash : Int64) (fS : Nat → Int32) (fOne : Nat → Int32) (letter : Int32) (hp : P_X11_takes fS fOne letter) : M vV l yX11_takes cX11_takes 3 none 1 22 D (tyF cI cL cP cJ) [.ref o, .int letter] [[(o, .inr (9, [.ref aS, .ref aPast, .int known, .ref aSnap, .int kept, .ref aText, .int len, .int thr, .ref aOne, .ref aTwo, .ref aBoth, .ref aWord, .int cre, .ref aOpen, .ref aTimes, .ref aFar, .ref aQueue, .long hash]))], [(aS, .inl (cI, 335, .inl fS))], [(aOne, .inl (cI, 4, .inl fOne))]] (fun (r : Unit) (w1 : List va_W) => w1 = [[(o, .inr (9, [.ref aS, .ref aPast, .int known, .ref aSnap, .int kept, .ref aText, .int len, .int thr, .ref aOne, .ref aTwo, .ref aBoth, .ref aWord, .int cre, .ref aOpen, .ref aTimes, .ref aFar, .ref aQueue, .long hash]))], [(aS, .inl (cI, 335, .inl fS))], [(aOne, .inl (cI, 4, .inl (F_X11_takes fS fOne letter)))]]) := by
  unfold P_X11_takes at hp
  refine m_start (by decide +kernel) (Nat.le_of_ble_eq_true rfl) (fun p e s m args below meth c A Q hA hQ C hr hlo => ?_)
  refine r_Le (L' := [(0, .ref o), (1, .int letter)]) rfl ?_
  refine r_iconst (v := 0) C dX11_takes_0 (by decide) ?_
  refine r_istore_n (L' := [(2, .int 0), (0, .ref o), (1, .int letter)]) C dX11_takes_1 (by decide) rfl ?_
  refine r_iload_n C dX11_takes_2 0 rfl ?_
  refine r_iconst (v := 4) C dX11_takes_3 (by decide) ?_
  refine r_icmp_ge (tgt := 25) C dX11_takes_4 (by decide) (fun c => absurd c (by decide)) (fun _ => ?_)
  refine r_aload_n C dX11_takes_7 1 rfl ?_
  refine r_get (Cn := RX11) (T := TX11) (N := 18) C inT11 0 rfl rfl 8 (by decide) t_901 rfl dX11_takes_8 ?_
  refine r_iload_n C dX11_takes_11 0 rfl ?_
  refine r_aload_n C dX11_takes_12 1 rfl ?_
  refine r_iload_n C dX11_takes_13 2 rfl ?_
  refine r_iload_n C dX11_takes_14 0 rfl ?_
  obtain ⟨h1, hp⟩ := hp
  refine r_callV (ci := 9) (wc := [[(o, .inr (9, [.ref aS, .ref aPast, .int known, .ref aSnap, .int kept, .ref aText, .int len, .int thr, .ref aOne, .ref aTwo, .ref aBoth, .ref aWord, .int cre, .ref aOpen, .ref aTimes, .ref aFar, .ref aQueue, .long hash]))], [(aS, .inl (cI, 335, .inl fS))]]) (wr := [[(aOne, .inl (cI, 4, .inl fOne))]]) (st := [.int 0, .ref aOne]) C (m_X11_its l D cI cL cP cJ o aS aPast aSnap aText aOne aTwo aBoth aWord aOpen aTimes aFar aQueue known kept len thr cre hash fS letter 0 h1) k_X11_its t_966 [0, 1, 2] (show ([0, 1, 2] : List Nat).Perm (List.range 3) by decide) rfl rfl rfl (q0 := 0) rfl rfl rfl (Nat.le_of_ble_eq_true rfl) ⟨Nat.le_of_ble_eq_true rfl, Nat.le_of_ble_eq_true rfl⟩ ⟨Nat.zero_le _, Nat.zero_le _⟩ dX11_takes_15 (fun r2 wr2 hw2 => ?_)
  obtain ⟨e_r2, rfl⟩ := hw2
  have hp := hp r2 e_r2
  refine r_ws (I' := [[(o, .inr (9, [.ref aS, .ref aPast, .int known, .ref aSnap, .int kept, .ref aText, .int len, .int thr, .ref aOne, .ref aTwo, .ref aBoth, .ref aWord, .int cre, .ref aOpen, .ref aTimes, .ref aFar, .ref aQueue, .long hash]))], [(aS, .inl (cI, 335, .inl fS))], [(aOne, .inl (cI, 4, .inl fOne))]]) rfl ?_
  obtain ⟨g3, e_g3⟩ : ∃ z : Nat → Int32, z = upd fOne 0 r2 := ⟨_, rfl⟩
  have hp := hp g3 e_g3
  refine r_iast C 2 0 rfl rfl (vp_in_nI (n := 0) (N := 4) (by decide) (by decide)) (I' := [[(o, .inr (9, [.ref aS, .ref aPast, .int known, .ref aSnap, .int kept, .ref aText, .int len, .int thr, .ref aOne, .ref aTwo, .ref aBoth, .ref aWord, .int cre, .ref aOpen, .ref aTimes, .ref aFar, .ref aQueue, .long hash]))], [(aS, .inl (cI, 335, .inl fS))], [(aOne, .inl (cI, 4, .inl g3))]]) (by rw [e_g3]; rfl) dX11_takes_18 ?_
  refine r_iinc (v := 1) (L' := [(2, .int 1), (0, .ref o), (1, .int letter)]) C dX11_takes_19 0 rfl (by decide) (by decide) rfl ?_
  refine r_goto (tgt := 2) C dX11_takes_22 (by decide) ?_
  refine r_iload_n C dX11_takes_2 0 rfl ?_
  refine r_iconst (v := 4) C dX11_takes_3 (by decide) ?_
  refine r_icmp_ge (tgt := 25) C dX11_takes_4 (by decide) (fun c => absurd c (by decide)) (fun _ => ?_)
  refine r_aload_n C dX11_takes_7 1 rfl ?_
  refine r_get (Cn := RX11) (T := TX11) (N := 18) C inT11 0 rfl rfl 8 (by decide) t_901 rfl dX11_takes_8 ?_
  refine r_iload_n C dX11_takes_11 0 rfl ?_
  refine r_aload_n C dX11_takes_12 1 rfl ?_
  refine r_iload_n C dX11_takes_13 2 rfl ?_
  refine r_iload_n C dX11_takes_14 0 rfl ?_
  obtain ⟨h4, hp⟩ := hp
  refine r_callV (ci := 9) (wc := [[(o, .inr (9, [.ref aS, .ref aPast, .int known, .ref aSnap, .int kept, .ref aText, .int len, .int thr, .ref aOne, .ref aTwo, .ref aBoth, .ref aWord, .int cre, .ref aOpen, .ref aTimes, .ref aFar, .ref aQueue, .long hash]))], [(aS, .inl (cI, 335, .inl fS))]]) (wr := [[(aOne, .inl (cI, 4, .inl g3))]]) (st := [.int 1, .ref aOne]) C (m_X11_its l D cI cL cP cJ o aS aPast aSnap aText aOne aTwo aBoth aWord aOpen aTimes aFar aQueue known kept len thr cre hash fS letter 1 h4) k_X11_its t_966 [0, 1, 2] (show ([0, 1, 2] : List Nat).Perm (List.range 3) by decide) rfl rfl rfl (q0 := 0) rfl rfl rfl (Nat.le_of_ble_eq_true rfl) ⟨Nat.le_of_ble_eq_true rfl, Nat.le_of_ble_eq_true rfl⟩ ⟨Nat.zero_le _, Nat.zero_le _⟩ dX11_takes_15 (fun r5 wr5 hw5 => ?_)
  obtain ⟨e_r5, rfl⟩ := hw5
  have hp := hp r5 e_r5
  refine r_ws (I' := [[(o, .inr (9, [.ref aS, .ref aPast, .int known, .ref aSnap, .int kept, .ref aText, .int len, .int thr, .ref aOne, .ref aTwo, .ref aBoth, .ref aWord, .int cre, .ref aOpen, .ref aTimes, .ref aFar, .ref aQueue, .long hash]))], [(aS, .inl (cI, 335, .inl fS))], [(aOne, .inl (cI, 4, .inl g3))]]) rfl ?_
  obtain ⟨g6, e_g6⟩ : ∃ z : Nat → Int32, z = upd g3 1 r5 := ⟨_, rfl⟩
  have hp := hp g6 e_g6
  refine r_iast C 2 0 rfl rfl (vp_in_nI (n := 1) (N := 4) (by decide) (by decide)) (I' := [[(o, .inr (9, [.ref aS, .ref aPast, .int known, .ref aSnap, .int kept, .ref aText, .int len, .int thr, .ref aOne, .ref aTwo, .ref aBoth, .ref aWord, .int cre, .ref aOpen, .ref aTimes, .ref aFar, .ref aQueue, .long hash]))], [(aS, .inl (cI, 335, .inl fS))], [(aOne, .inl (cI, 4, .inl g6))]]) (by rw [e_g6]; rfl) dX11_takes_18 ?_
  refine r_iinc (v := 2) (L' := [(2, .int 2), (0, .ref o), (1, .int letter)]) C dX11_takes_19 0 rfl (by decide) (by decide) rfl ?_
  refine r_goto (tgt := 2) C dX11_takes_22 (by decide) ?_
  refine r_iload_n C dX11_takes_2 0 rfl ?_
  refine r_iconst (v := 4) C dX11_takes_3 (by decide) ?_
  refine r_icmp_ge (tgt := 25) C dX11_takes_4 (by decide) (fun c => absurd c (by decide)) (fun _ => ?_)
  refine r_aload_n C dX11_takes_7 1 rfl ?_
  refine r_get (Cn := RX11) (T := TX11) (N := 18) C inT11 0 rfl rfl 8 (by decide) t_901 rfl dX11_takes_8 ?_
  refine r_iload_n C dX11_takes_11 0 rfl ?_
  refine r_aload_n C dX11_takes_12 1 rfl ?_
  refine r_iload_n C dX11_takes_13 2 rfl ?_
  refine r_iload_n C dX11_takes_14 0 rfl ?_
  obtain ⟨h7, hp⟩ := hp
  refine r_callV (ci := 9) (wc := [[(o, .inr (9, [.ref aS, .ref aPast, .int known, .ref aSnap, .int kept, .ref aText, .int len, .int thr, .ref aOne, .ref aTwo, .ref aBoth, .ref aWord, .int cre, .ref aOpen, .ref aTimes, .ref aFar, .ref aQueue, .long hash]))], [(aS, .inl (cI, 335, .inl fS))]]) (wr := [[(aOne, .inl (cI, 4, .inl g6))]]) (st := [.int 2, .ref aOne]) C (m_X11_its l D cI cL cP cJ o aS aPast aSnap aText aOne aTwo aBoth aWord aOpen aTimes aFar aQueue known kept len thr cre hash fS letter 2 h7) k_X11_its t_966 [0, 1, 2] (show ([0, 1, 2] : List Nat).Perm (List.range 3) by decide) rfl rfl rfl (q0 := 0) rfl rfl rfl (Nat.le_of_ble_eq_true rfl) ⟨Nat.le_of_ble_eq_true rfl, Nat.le_of_ble_eq_true rfl⟩ ⟨Nat.zero_le _, Nat.zero_le _⟩ dX11_takes_15 (fun r8 wr8 hw8 => ?_)
  obtain ⟨e_r8, rfl⟩ := hw8
  have hp := hp r8 e_r8
  refine r_ws (I' := [[(o, .inr (9, [.ref aS, .ref aPast, .int known, .ref aSnap, .int kept, .ref aText, .int len, .int thr, .ref aOne, .ref aTwo, .ref aBoth, .ref aWord, .int cre, .ref aOpen, .ref aTimes, .ref aFar, .ref aQueue, .long hash]))], [(aS, .inl (cI, 335, .inl fS))], [(aOne, .inl (cI, 4, .inl g6))]]) rfl ?_
  obtain ⟨g9, e_g9⟩ : ∃ z : Nat → Int32, z = upd g6 2 r8 := ⟨_, rfl⟩
  have hp := hp g9 e_g9
  refine r_iast C 2 0 rfl rfl (vp_in_nI (n := 2) (N := 4) (by decide) (by decide)) (I' := [[(o, .inr (9, [.ref aS, .ref aPast, .int known, .ref aSnap, .int kept, .ref aText, .int len, .int thr, .ref aOne, .ref aTwo, .ref aBoth, .ref aWord, .int cre, .ref aOpen, .ref aTimes, .ref aFar, .ref aQueue, .long hash]))], [(aS, .inl (cI, 335, .inl fS))], [(aOne, .inl (cI, 4, .inl g9))]]) (by rw [e_g9]; rfl) dX11_takes_18 ?_
  refine r_iinc (v := 3) (L' := [(2, .int 3), (0, .ref o), (1, .int letter)]) C dX11_takes_19 0 rfl (by decide) (by decide) rfl ?_
  refine r_goto (tgt := 2) C dX11_takes_22 (by decide) ?_
  refine r_iload_n C dX11_takes_2 0 rfl ?_
  refine r_iconst (v := 4) C dX11_takes_3 (by decide) ?_
  refine r_icmp_ge (tgt := 25) C dX11_takes_4 (by decide) (fun c => absurd c (by decide)) (fun _ => ?_)
  refine r_aload_n C dX11_takes_7 1 rfl ?_
  refine r_get (Cn := RX11) (T := TX11) (N := 18) C inT11 0 rfl rfl 8 (by decide) t_901 rfl dX11_takes_8 ?_
  refine r_iload_n C dX11_takes_11 0 rfl ?_
  refine r_aload_n C dX11_takes_12 1 rfl ?_
  refine r_iload_n C dX11_takes_13 2 rfl ?_
  refine r_iload_n C dX11_takes_14 0 rfl ?_
  have h10 := hp
  refine r_callV (ci := 9) (wc := [[(o, .inr (9, [.ref aS, .ref aPast, .int known, .ref aSnap, .int kept, .ref aText, .int len, .int thr, .ref aOne, .ref aTwo, .ref aBoth, .ref aWord, .int cre, .ref aOpen, .ref aTimes, .ref aFar, .ref aQueue, .long hash]))], [(aS, .inl (cI, 335, .inl fS))]]) (wr := [[(aOne, .inl (cI, 4, .inl g9))]]) (st := [.int 3, .ref aOne]) C (m_X11_its l D cI cL cP cJ o aS aPast aSnap aText aOne aTwo aBoth aWord aOpen aTimes aFar aQueue known kept len thr cre hash fS letter 3 h10) k_X11_its t_966 [0, 1, 2] (show ([0, 1, 2] : List Nat).Perm (List.range 3) by decide) rfl rfl rfl (q0 := 0) rfl rfl rfl (Nat.le_of_ble_eq_true rfl) ⟨Nat.le_of_ble_eq_true rfl, Nat.le_of_ble_eq_true rfl⟩ ⟨Nat.zero_le _, Nat.zero_le _⟩ dX11_takes_15 (fun r11 wr11 hw11 => ?_)
  obtain ⟨e_r11, rfl⟩ := hw11
  refine r_ws (I' := [[(o, .inr (9, [.ref aS, .ref aPast, .int known, .ref aSnap, .int kept, .ref aText, .int len, .int thr, .ref aOne, .ref aTwo, .ref aBoth, .ref aWord, .int cre, .ref aOpen, .ref aTimes, .ref aFar, .ref aQueue, .long hash]))], [(aS, .inl (cI, 335, .inl fS))], [(aOne, .inl (cI, 4, .inl g9))]]) rfl ?_
  obtain ⟨g12, e_g12⟩ : ∃ z : Nat → Int32, z = upd g9 3 r11 := ⟨_, rfl⟩
  refine r_iast C 2 0 rfl rfl (vp_in_nI (n := 3) (N := 4) (by decide) (by decide)) (I' := [[(o, .inr (9, [.ref aS, .ref aPast, .int known, .ref aSnap, .int kept, .ref aText, .int len, .int thr, .ref aOne, .ref aTwo, .ref aBoth, .ref aWord, .int cre, .ref aOpen, .ref aTimes, .ref aFar, .ref aQueue, .long hash]))], [(aS, .inl (cI, 335, .inl fS))], [(aOne, .inl (cI, 4, .inl g12))]]) (by rw [e_g12]; rfl) dX11_takes_18 ?_
  refine r_iinc (v := 4) (L' := [(2, .int 4), (0, .ref o), (1, .int letter)]) C dX11_takes_19 0 rfl (by decide) (by decide) rfl ?_
  refine r_goto (tgt := 2) C dX11_takes_22 (by decide) ?_
  refine r_iload_n C dX11_takes_2 0 rfl ?_
  refine r_iconst (v := 4) C dX11_takes_3 (by decide) ?_
  refine r_icmp_ge (tgt := 25) C dX11_takes_4 (by decide) (fun _ => ?_) (fun c => absurd c (by decide))
  have eF : F_X11_takes fS fOne letter = g12 := by have q := e_r2.symm; subst q; have q := e_g3.symm; subst q; have q := e_r5.symm; subst q; have q := e_g6.symm; subst q; have q := e_r8.symm; subst q; have q := e_g9.symm; subst q; have q := e_r11.symm; subst q; have q := e_g12.symm; subst q; rfl
  exact r_vret (r := ()) C hA hr hlo dX11_takes_25 [[(o, .inr (9, [.ref aS, .ref aPast, .int known, .ref aSnap, .int kept, .ref aText, .int len, .int thr, .ref aOne, .ref aTwo, .ref aBoth, .ref aWord, .int cre, .ref aOpen, .ref aTimes, .ref aFar, .ref aQueue, .long hash]))], [(aS, .inl (cI, 335, .inl fS))], [(aOne, .inl (cI, 4, .inl g12))]] (by simp only [eF]) rfl hQ
theorem k_X11_takesOther : kV yX11_takesOther cX11_takesOther 3 none 1 := ⟨t_1047, t_27, t_67, t_1048, by decide +kernel, by decide +kernel, by decide +kernel⟩
set_option maxRecDepth 20000 in
def F_X11_takesOther (fS : Nat → Int32) (fTwo : Nat → Int32) (letter : Int32) : (Nat → Int32) := let r2 : Int32 := F_X11_its fS letter 0; let g3 : Nat → Int32 := upd fTwo 0 r2; let r5 : Int32 := F_X11_its fS letter 1; let g6 : Nat → Int32 := upd g3 1 r5; let r8 : Int32 := F_X11_its fS letter 2; let g9 : Nat → Int32 := upd g6 2 r8; let r11 : Int32 := F_X11_its fS letter 3; let g12 : Nat → Int32 := upd g9 3 r11; g12
set_option maxRecDepth 20000 in
def P_X11_takesOther (fS : Nat → Int32) (fTwo : Nat → Int32) (letter : Int32) : Prop := ((P_X11_its letter 0) ∧ (∀ r2 : Int32, r2 = F_X11_its fS letter 0 → (∀ g3 : Nat → Int32, g3 = upd fTwo 0 r2 → ((P_X11_its letter 1) ∧ (∀ r5 : Int32, r5 = F_X11_its fS letter 1 → (∀ g6 : Nat → Int32, g6 = upd g3 1 r5 → ((P_X11_its letter 2) ∧ (∀ r8 : Int32, r8 = F_X11_its fS letter 2 → (∀ g9 : Nat → Int32, g9 = upd g6 2 r8 → (P_X11_its letter 3))))))))))
set_option maxRecDepth 20000 in
set_option maxHeartbeats 8000000 in
theorem m_X11_takesOther (l : Launch) (D : va_G) (cI cL cP cJ : ClassId) (o : Nat) (aS : Nat) (aPast : Nat) (aSnap : Nat) (aText : Nat) (aOne : Nat) (aTwo : Nat) (aBoth : Nat) (aWord : Nat) (aOpen : Nat) (aTimes : Nat) (aFar : Nat) (aQueue : Nat) (known : Int32) (kept : Int32) (len : Int32) (thr : Int32) (cre : Int32) (hash : Int64) (fS : Nat → Int32) (fTwo : Nat → Int32) (letter : Int32) (hp : P_X11_takesOther fS fTwo letter) : M vV l yX11_takesOther cX11_takesOther 3 none 1 22 D (tyF cI cL cP cJ) [.ref o, .int letter] [[(o, .inr (9, [.ref aS, .ref aPast, .int known, .ref aSnap, .int kept, .ref aText, .int len, .int thr, .ref aOne, .ref aTwo, .ref aBoth, .ref aWord, .int cre, .ref aOpen, .ref aTimes, .ref aFar, .ref aQueue, .long hash]))], [(aS, .inl (cI, 335, .inl fS))], [(aTwo, .inl (cI, 4, .inl fTwo))]] (fun (r : Unit) (w1 : List va_W) => w1 = [[(o, .inr (9, [.ref aS, .ref aPast, .int known, .ref aSnap, .int kept, .ref aText, .int len, .int thr, .ref aOne, .ref aTwo, .ref aBoth, .ref aWord, .int cre, .ref aOpen, .ref aTimes, .ref aFar, .ref aQueue, .long hash]))], [(aS, .inl (cI, 335, .inl fS))], [(aTwo, .inl (cI, 4, .inl (F_X11_takesOther fS fTwo letter)))]]) := by
  unfold P_X11_takesOther at hp
  refine m_start (by decide +kernel) (Nat.le_of_ble_eq_true rfl) (fun p e s m args below meth c A Q hA hQ C hr hlo => ?_)
  refine r_Le (L' := [(0, .ref o), (1, .int letter)]) rfl ?_
  refine r_iconst (v := 0) C dX11_takesOther_0 (by decide) ?_
  refine r_istore_n (L' := [(2, .int 0), (0, .ref o), (1, .int letter)]) C dX11_takesOther_1 (by decide) rfl ?_
  refine r_iload_n C dX11_takesOther_2 0 rfl ?_
  refine r_iconst (v := 4) C dX11_takesOther_3 (by decide) ?_
  refine r_icmp_ge (tgt := 25) C dX11_takesOther_4 (by decide) (fun c => absurd c (by decide)) (fun _ => ?_)
  refine r_aload_n C dX11_takesOther_7 1 rfl ?_
  refine r_get (Cn := RX11) (T := TX11) (N := 18) C inT11 0 rfl rfl 9 (by decide) t_902 rfl dX11_takesOther_8 ?_
  refine r_iload_n C dX11_takesOther_11 0 rfl ?_
  refine r_aload_n C dX11_takesOther_12 1 rfl ?_
  refine r_iload_n C dX11_takesOther_13 2 rfl ?_
  refine r_iload_n C dX11_takesOther_14 0 rfl ?_
  obtain ⟨h1, hp⟩ := hp
  refine r_callV (ci := 9) (wc := [[(o, .inr (9, [.ref aS, .ref aPast, .int known, .ref aSnap, .int kept, .ref aText, .int len, .int thr, .ref aOne, .ref aTwo, .ref aBoth, .ref aWord, .int cre, .ref aOpen, .ref aTimes, .ref aFar, .ref aQueue, .long hash]))], [(aS, .inl (cI, 335, .inl fS))]]) (wr := [[(aTwo, .inl (cI, 4, .inl fTwo))]]) (st := [.int 0, .ref aTwo]) C (m_X11_its l D cI cL cP cJ o aS aPast aSnap aText aOne aTwo aBoth aWord aOpen aTimes aFar aQueue known kept len thr cre hash fS letter 0 h1) k_X11_its t_966 [0, 1, 2] (show ([0, 1, 2] : List Nat).Perm (List.range 3) by decide) rfl rfl rfl (q0 := 0) rfl rfl rfl (Nat.le_of_ble_eq_true rfl) ⟨Nat.le_of_ble_eq_true rfl, Nat.le_of_ble_eq_true rfl⟩ ⟨Nat.zero_le _, Nat.zero_le _⟩ dX11_takesOther_15 (fun r2 wr2 hw2 => ?_)
  obtain ⟨e_r2, rfl⟩ := hw2
  have hp := hp r2 e_r2
  refine r_ws (I' := [[(o, .inr (9, [.ref aS, .ref aPast, .int known, .ref aSnap, .int kept, .ref aText, .int len, .int thr, .ref aOne, .ref aTwo, .ref aBoth, .ref aWord, .int cre, .ref aOpen, .ref aTimes, .ref aFar, .ref aQueue, .long hash]))], [(aS, .inl (cI, 335, .inl fS))], [(aTwo, .inl (cI, 4, .inl fTwo))]]) rfl ?_
  obtain ⟨g3, e_g3⟩ : ∃ z : Nat → Int32, z = upd fTwo 0 r2 := ⟨_, rfl⟩
  have hp := hp g3 e_g3
  refine r_iast C 2 0 rfl rfl (vp_in_nI (n := 0) (N := 4) (by decide) (by decide)) (I' := [[(o, .inr (9, [.ref aS, .ref aPast, .int known, .ref aSnap, .int kept, .ref aText, .int len, .int thr, .ref aOne, .ref aTwo, .ref aBoth, .ref aWord, .int cre, .ref aOpen, .ref aTimes, .ref aFar, .ref aQueue, .long hash]))], [(aS, .inl (cI, 335, .inl fS))], [(aTwo, .inl (cI, 4, .inl g3))]]) (by rw [e_g3]; rfl) dX11_takesOther_18 ?_
  refine r_iinc (v := 1) (L' := [(2, .int 1), (0, .ref o), (1, .int letter)]) C dX11_takesOther_19 0 rfl (by decide) (by decide) rfl ?_
  refine r_goto (tgt := 2) C dX11_takesOther_22 (by decide) ?_
  refine r_iload_n C dX11_takesOther_2 0 rfl ?_
  refine r_iconst (v := 4) C dX11_takesOther_3 (by decide) ?_
  refine r_icmp_ge (tgt := 25) C dX11_takesOther_4 (by decide) (fun c => absurd c (by decide)) (fun _ => ?_)
  refine r_aload_n C dX11_takesOther_7 1 rfl ?_
  refine r_get (Cn := RX11) (T := TX11) (N := 18) C inT11 0 rfl rfl 9 (by decide) t_902 rfl dX11_takesOther_8 ?_
  refine r_iload_n C dX11_takesOther_11 0 rfl ?_
  refine r_aload_n C dX11_takesOther_12 1 rfl ?_
  refine r_iload_n C dX11_takesOther_13 2 rfl ?_
  refine r_iload_n C dX11_takesOther_14 0 rfl ?_
  obtain ⟨h4, hp⟩ := hp
  refine r_callV (ci := 9) (wc := [[(o, .inr (9, [.ref aS, .ref aPast, .int known, .ref aSnap, .int kept, .ref aText, .int len, .int thr, .ref aOne, .ref aTwo, .ref aBoth, .ref aWord, .int cre, .ref aOpen, .ref aTimes, .ref aFar, .ref aQueue, .long hash]))], [(aS, .inl (cI, 335, .inl fS))]]) (wr := [[(aTwo, .inl (cI, 4, .inl g3))]]) (st := [.int 1, .ref aTwo]) C (m_X11_its l D cI cL cP cJ o aS aPast aSnap aText aOne aTwo aBoth aWord aOpen aTimes aFar aQueue known kept len thr cre hash fS letter 1 h4) k_X11_its t_966 [0, 1, 2] (show ([0, 1, 2] : List Nat).Perm (List.range 3) by decide) rfl rfl rfl (q0 := 0) rfl rfl rfl (Nat.le_of_ble_eq_true rfl) ⟨Nat.le_of_ble_eq_true rfl, Nat.le_of_ble_eq_true rfl⟩ ⟨Nat.zero_le _, Nat.zero_le _⟩ dX11_takesOther_15 (fun r5 wr5 hw5 => ?_)
  obtain ⟨e_r5, rfl⟩ := hw5
  have hp := hp r5 e_r5
  refine r_ws (I' := [[(o, .inr (9, [.ref aS, .ref aPast, .int known, .ref aSnap, .int kept, .ref aText, .int len, .int thr, .ref aOne, .ref aTwo, .ref aBoth, .ref aWord, .int cre, .ref aOpen, .ref aTimes, .ref aFar, .ref aQueue, .long hash]))], [(aS, .inl (cI, 335, .inl fS))], [(aTwo, .inl (cI, 4, .inl g3))]]) rfl ?_
  obtain ⟨g6, e_g6⟩ : ∃ z : Nat → Int32, z = upd g3 1 r5 := ⟨_, rfl⟩
  have hp := hp g6 e_g6
  refine r_iast C 2 0 rfl rfl (vp_in_nI (n := 1) (N := 4) (by decide) (by decide)) (I' := [[(o, .inr (9, [.ref aS, .ref aPast, .int known, .ref aSnap, .int kept, .ref aText, .int len, .int thr, .ref aOne, .ref aTwo, .ref aBoth, .ref aWord, .int cre, .ref aOpen, .ref aTimes, .ref aFar, .ref aQueue, .long hash]))], [(aS, .inl (cI, 335, .inl fS))], [(aTwo, .inl (cI, 4, .inl g6))]]) (by rw [e_g6]; rfl) dX11_takesOther_18 ?_
  refine r_iinc (v := 2) (L' := [(2, .int 2), (0, .ref o), (1, .int letter)]) C dX11_takesOther_19 0 rfl (by decide) (by decide) rfl ?_
  refine r_goto (tgt := 2) C dX11_takesOther_22 (by decide) ?_
  refine r_iload_n C dX11_takesOther_2 0 rfl ?_
  refine r_iconst (v := 4) C dX11_takesOther_3 (by decide) ?_
  refine r_icmp_ge (tgt := 25) C dX11_takesOther_4 (by decide) (fun c => absurd c (by decide)) (fun _ => ?_)
  refine r_aload_n C dX11_takesOther_7 1 rfl ?_
  refine r_get (Cn := RX11) (T := TX11) (N := 18) C inT11 0 rfl rfl 9 (by decide) t_902 rfl dX11_takesOther_8 ?_
  refine r_iload_n C dX11_takesOther_11 0 rfl ?_
  refine r_aload_n C dX11_takesOther_12 1 rfl ?_
  refine r_iload_n C dX11_takesOther_13 2 rfl ?_
  refine r_iload_n C dX11_takesOther_14 0 rfl ?_
  obtain ⟨h7, hp⟩ := hp
  refine r_callV (ci := 9) (wc := [[(o, .inr (9, [.ref aS, .ref aPast, .int known, .ref aSnap, .int kept, .ref aText, .int len, .int thr, .ref aOne, .ref aTwo, .ref aBoth, .ref aWord, .int cre, .ref aOpen, .ref aTimes, .ref aFar, .ref aQueue, .long hash]))], [(aS, .inl (cI, 335, .inl fS))]]) (wr := [[(aTwo, .inl (cI, 4, .inl g6))]]) (st := [.int 2, .ref aTwo]) C (m_X11_its l D cI cL cP cJ o aS aPast aSnap aText aOne aTwo aBoth aWord aOpen aTimes aFar aQueue known kept len thr cre hash fS letter 2 h7) k_X11_its t_966 [0, 1, 2] (show ([0, 1, 2] : List Nat).Perm (List.range 3) by decide) rfl rfl rfl (q0 := 0) rfl rfl rfl (Nat.le_of_ble_eq_true rfl) ⟨Nat.le_of_ble_eq_true rfl, Nat.le_of_ble_eq_true rfl⟩ ⟨Nat.zero_le _, Nat.zero_le _⟩ dX11_takesOther_15 (fun r8 wr8 hw8 => ?_)
  obtain ⟨e_r8, rfl⟩ := hw8
  have hp := hp r8 e_r8
  refine r_ws (I' := [[(o, .inr (9, [.ref aS, .ref aPast, .int known, .ref aSnap, .int kept, .ref aText, .int len, .int thr, .ref aOne, .ref aTwo, .ref aBoth, .ref aWord, .int cre, .ref aOpen, .ref aTimes, .ref aFar, .ref aQueue, .long hash]))], [(aS, .inl (cI, 335, .inl fS))], [(aTwo, .inl (cI, 4, .inl g6))]]) rfl ?_
  obtain ⟨g9, e_g9⟩ : ∃ z : Nat → Int32, z = upd g6 2 r8 := ⟨_, rfl⟩
  have hp := hp g9 e_g9
  refine r_iast C 2 0 rfl rfl (vp_in_nI (n := 2) (N := 4) (by decide) (by decide)) (I' := [[(o, .inr (9, [.ref aS, .ref aPast, .int known, .ref aSnap, .int kept, .ref aText, .int len, .int thr, .ref aOne, .ref aTwo, .ref aBoth, .ref aWord, .int cre, .ref aOpen, .ref aTimes, .ref aFar, .ref aQueue, .long hash]))], [(aS, .inl (cI, 335, .inl fS))], [(aTwo, .inl (cI, 4, .inl g9))]]) (by rw [e_g9]; rfl) dX11_takesOther_18 ?_
  refine r_iinc (v := 3) (L' := [(2, .int 3), (0, .ref o), (1, .int letter)]) C dX11_takesOther_19 0 rfl (by decide) (by decide) rfl ?_
  refine r_goto (tgt := 2) C dX11_takesOther_22 (by decide) ?_
  refine r_iload_n C dX11_takesOther_2 0 rfl ?_
  refine r_iconst (v := 4) C dX11_takesOther_3 (by decide) ?_
  refine r_icmp_ge (tgt := 25) C dX11_takesOther_4 (by decide) (fun c => absurd c (by decide)) (fun _ => ?_)
  refine r_aload_n C dX11_takesOther_7 1 rfl ?_
  refine r_get (Cn := RX11) (T := TX11) (N := 18) C inT11 0 rfl rfl 9 (by decide) t_902 rfl dX11_takesOther_8 ?_
  refine r_iload_n C dX11_takesOther_11 0 rfl ?_
  refine r_aload_n C dX11_takesOther_12 1 rfl ?_
  refine r_iload_n C dX11_takesOther_13 2 rfl ?_
  refine r_iload_n C dX11_takesOther_14 0 rfl ?_
  have h10 := hp
  refine r_callV (ci := 9) (wc := [[(o, .inr (9, [.ref aS, .ref aPast, .int known, .ref aSnap, .int kept, .ref aText, .int len, .int thr, .ref aOne, .ref aTwo, .ref aBoth, .ref aWord, .int cre, .ref aOpen, .ref aTimes, .ref aFar, .ref aQueue, .long hash]))], [(aS, .inl (cI, 335, .inl fS))]]) (wr := [[(aTwo, .inl (cI, 4, .inl g9))]]) (st := [.int 3, .ref aTwo]) C (m_X11_its l D cI cL cP cJ o aS aPast aSnap aText aOne aTwo aBoth aWord aOpen aTimes aFar aQueue known kept len thr cre hash fS letter 3 h10) k_X11_its t_966 [0, 1, 2] (show ([0, 1, 2] : List Nat).Perm (List.range 3) by decide) rfl rfl rfl (q0 := 0) rfl rfl rfl (Nat.le_of_ble_eq_true rfl) ⟨Nat.le_of_ble_eq_true rfl, Nat.le_of_ble_eq_true rfl⟩ ⟨Nat.zero_le _, Nat.zero_le _⟩ dX11_takesOther_15 (fun r11 wr11 hw11 => ?_)
  obtain ⟨e_r11, rfl⟩ := hw11
  refine r_ws (I' := [[(o, .inr (9, [.ref aS, .ref aPast, .int known, .ref aSnap, .int kept, .ref aText, .int len, .int thr, .ref aOne, .ref aTwo, .ref aBoth, .ref aWord, .int cre, .ref aOpen, .ref aTimes, .ref aFar, .ref aQueue, .long hash]))], [(aS, .inl (cI, 335, .inl fS))], [(aTwo, .inl (cI, 4, .inl g9))]]) rfl ?_
  obtain ⟨g12, e_g12⟩ : ∃ z : Nat → Int32, z = upd g9 3 r11 := ⟨_, rfl⟩
  refine r_iast C 2 0 rfl rfl (vp_in_nI (n := 3) (N := 4) (by decide) (by decide)) (I' := [[(o, .inr (9, [.ref aS, .ref aPast, .int known, .ref aSnap, .int kept, .ref aText, .int len, .int thr, .ref aOne, .ref aTwo, .ref aBoth, .ref aWord, .int cre, .ref aOpen, .ref aTimes, .ref aFar, .ref aQueue, .long hash]))], [(aS, .inl (cI, 335, .inl fS))], [(aTwo, .inl (cI, 4, .inl g12))]]) (by rw [e_g12]; rfl) dX11_takesOther_18 ?_
  refine r_iinc (v := 4) (L' := [(2, .int 4), (0, .ref o), (1, .int letter)]) C dX11_takesOther_19 0 rfl (by decide) (by decide) rfl ?_
  refine r_goto (tgt := 2) C dX11_takesOther_22 (by decide) ?_
  refine r_iload_n C dX11_takesOther_2 0 rfl ?_
  refine r_iconst (v := 4) C dX11_takesOther_3 (by decide) ?_
  refine r_icmp_ge (tgt := 25) C dX11_takesOther_4 (by decide) (fun _ => ?_) (fun c => absurd c (by decide))
  have eF : F_X11_takesOther fS fTwo letter = g12 := by have q := e_r2.symm; subst q; have q := e_g3.symm; subst q; have q := e_r5.symm; subst q; have q := e_g6.symm; subst q; have q := e_r8.symm; subst q; have q := e_g9.symm; subst q; have q := e_r11.symm; subst q; have q := e_g12.symm; subst q; rfl
  exact r_vret (r := ()) C hA hr hlo dX11_takesOther_25 [[(o, .inr (9, [.ref aS, .ref aPast, .int known, .ref aSnap, .int kept, .ref aText, .int len, .int thr, .ref aOne, .ref aTwo, .ref aBoth, .ref aWord, .int cre, .ref aOpen, .ref aTimes, .ref aFar, .ref aQueue, .long hash]))], [(aS, .inl (cI, 335, .inl fS))], [(aTwo, .inl (cI, 4, .inl g12))]] (by simp only [eF]) rfl hQ
theorem k_X11_foldsOne : kV yX11_foldsOne cX11_foldsOne 3 none 1 := ⟨t_996, t_19, t_67, t_997, by decide +kernel, by decide +kernel, by decide +kernel⟩
set_option maxRecDepth 20000 in
def F_X11_foldsOne (fOne : Nat → Int32) (crease : Int32) : (Nat → Int32) := (if crease = 0 then (let x10 : Int32 := -(fOne 0); let g11 : Nat → Int32 := upd fOne 0 x10; g11) else (let x3 : Int32 := fOne (crease - 1).toNatClampNeg; let x5 : Int32 := fOne crease.toNatClampNeg; let g7 : Nat → Int32 := upd fOne ((crease - 1).toNatClampNeg) x5; let g9 : Nat → Int32 := upd g7 (crease.toNatClampNeg) x3; g9))
set_option maxRecDepth 20000 in
def P_X11_foldsOne (fOne : Nat → Int32) (crease : Int32) : Prop := ((crease = 0 → True) ∧ (¬ crease = 0 → ((vp_in (crease - 1) 4) ∧ (∀ x3 : Int32, x3 = fOne (crease - 1).toNatClampNeg → ((vp_in crease 4) ∧ (∀ x5 : Int32, x5 = fOne crease.toNatClampNeg → ((vp_in (crease - 1) 4) ∧ (∀ g7 : Nat → Int32, g7 = upd fOne ((crease - 1).toNatClampNeg) x5 → (vp_in crease 4)))))))))
set_option maxRecDepth 20000 in
set_option maxHeartbeats 8000000 in
theorem m_X11_foldsOne (l : Launch) (D : va_G) (cI cL cP cJ : ClassId) (o : Nat) (aS : Nat) (aPast : Nat) (aSnap : Nat) (aText : Nat) (aOne : Nat) (aTwo : Nat) (aBoth : Nat) (aWord : Nat) (aOpen : Nat) (aTimes : Nat) (aFar : Nat) (aQueue : Nat) (known : Int32) (kept : Int32) (len : Int32) (thr : Int32) (cre : Int32) (hash : Int64) (fOne : Nat → Int32) (crease : Int32) (hp : P_X11_foldsOne fOne crease) : M vV l yX11_foldsOne cX11_foldsOne 3 none 0 0 D (tyF cI cL cP cJ) [.ref o, .int crease] [[(o, .inr (9, [.ref aS, .ref aPast, .int known, .ref aSnap, .int kept, .ref aText, .int len, .int thr, .ref aOne, .ref aTwo, .ref aBoth, .ref aWord, .int cre, .ref aOpen, .ref aTimes, .ref aFar, .ref aQueue, .long hash]))], [(aOne, .inl (cI, 4, .inl fOne))]] (fun (r : Unit) (w1 : List va_W) => w1 = [[(o, .inr (9, [.ref aS, .ref aPast, .int known, .ref aSnap, .int kept, .ref aText, .int len, .int thr, .ref aOne, .ref aTwo, .ref aBoth, .ref aWord, .int cre, .ref aOpen, .ref aTimes, .ref aFar, .ref aQueue, .long hash]))], [(aOne, .inl (cI, 4, .inl (F_X11_foldsOne fOne crease)))]]) := by
  unfold P_X11_foldsOne at hp
  refine m_start (by decide +kernel) (Nat.le_of_ble_eq_true rfl) (fun p e s m args below meth c A Q hA hQ C hr hlo => ?_)
  refine r_Le (L' := [(0, .ref o), (1, .int crease)]) rfl ?_
  refine r_iload_n C dX11_foldsOne_0 1 rfl ?_
  refine r_if_ne (tgt := 18) C dX11_foldsOne_1 (by decide) (fun c1 => ?_) (fun c1 => ?_)
  · have hp := hp.2 c1
    refine r_aload_n C dX11_foldsOne_18 0 rfl ?_
    refine r_get (Cn := RX11) (T := TX11) (N := 18) C inT11 0 rfl rfl 8 (by decide) t_901 rfl dX11_foldsOne_19 ?_
    refine r_iload_n C dX11_foldsOne_22 1 rfl ?_
    refine r_iconst (v := 1) C dX11_foldsOne_23 (by decide) ?_
    refine r_isub C dX11_foldsOne_24 rfl ?_
    obtain ⟨h2, hp⟩ := hp
    refine r_iald (z := fOne (crease - 1).toNatClampNeg) C 1 0 rfl rfl h2 dX11_foldsOne_25 rfl ?_
    refine r_top (fun x3 e_x3 => ?_)
    have hp := hp x3 e_x3
    refine r_istore_n (L' := [(2, .int x3), (0, .ref o), (1, .int crease)]) C dX11_foldsOne_26 (by decide) rfl ?_
    refine r_aload_n C dX11_foldsOne_27 1 rfl ?_
    refine r_get (Cn := RX11) (T := TX11) (N := 18) C inT11 0 rfl rfl 8 (by decide) t_901 rfl dX11_foldsOne_28 ?_
    refine r_iload_n C dX11_foldsOne_31 2 rfl ?_
    refine r_iconst (v := 1) C dX11_foldsOne_32 (by decide) ?_
    refine r_isub C dX11_foldsOne_33 rfl ?_
    refine r_aload_n C dX11_foldsOne_34 1 rfl ?_
    refine r_get (Cn := RX11) (T := TX11) (N := 18) C inT11 0 rfl rfl 8 (by decide) t_901 rfl dX11_foldsOne_35 ?_
    refine r_iload_n C dX11_foldsOne_38 2 rfl ?_
    obtain ⟨h4, hp⟩ := hp
    refine r_iald (z := fOne crease.toNatClampNeg) C 1 0 rfl rfl h4 dX11_foldsOne_39 rfl ?_
    refine r_top (fun x5 e_x5 => ?_)
    have hp := hp x5 e_x5
    obtain ⟨h6, hp⟩ := hp
    obtain ⟨g7, e_g7⟩ : ∃ z : Nat → Int32, z = upd fOne ((crease - 1).toNatClampNeg) x5 := ⟨_, rfl⟩
    have hp := hp g7 e_g7
    refine r_iast C 1 0 rfl rfl h6 (I' := [[(o, .inr (9, [.ref aS, .ref aPast, .int known, .ref aSnap, .int kept, .ref aText, .int len, .int thr, .ref aOne, .ref aTwo, .ref aBoth, .ref aWord, .int cre, .ref aOpen, .ref aTimes, .ref aFar, .ref aQueue, .long hash]))], [(aOne, .inl (cI, 4, .inl g7))]]) (by rw [e_g7]; rfl) dX11_foldsOne_40 ?_
    refine r_aload_n C dX11_foldsOne_41 1 rfl ?_
    refine r_get (Cn := RX11) (T := TX11) (N := 18) C inT11 0 rfl rfl 8 (by decide) t_901 rfl dX11_foldsOne_42 ?_
    refine r_iload_n C dX11_foldsOne_45 2 rfl ?_
    refine r_iload_n C dX11_foldsOne_46 0 rfl ?_
    have h8 := hp
    obtain ⟨g9, e_g9⟩ : ∃ z : Nat → Int32, z = upd g7 (crease.toNatClampNeg) x3 := ⟨_, rfl⟩
    refine r_iast C 1 0 rfl rfl h8 (I' := [[(o, .inr (9, [.ref aS, .ref aPast, .int known, .ref aSnap, .int kept, .ref aText, .int len, .int thr, .ref aOne, .ref aTwo, .ref aBoth, .ref aWord, .int cre, .ref aOpen, .ref aTimes, .ref aFar, .ref aQueue, .long hash]))], [(aOne, .inl (cI, 4, .inl g9))]]) (by rw [e_g9]; rfl) dX11_foldsOne_47 ?_
    have eF : F_X11_foldsOne fOne crease = g9 := by have q := e_x3.symm; subst q; have q := e_x5.symm; subst q; have q := e_g7.symm; subst q; have q := e_g9.symm; subst q; simp only [F_X11_foldsOne, if_neg c1]
    exact r_vret (r := ()) C hA hr hlo dX11_foldsOne_48 [[(o, .inr (9, [.ref aS, .ref aPast, .int known, .ref aSnap, .int kept, .ref aText, .int len, .int thr, .ref aOne, .ref aTwo, .ref aBoth, .ref aWord, .int cre, .ref aOpen, .ref aTimes, .ref aFar, .ref aQueue, .long hash]))], [(aOne, .inl (cI, 4, .inl g9))]] (by simp only [eF]) rfl hQ
  · refine r_aload_n C dX11_foldsOne_4 0 rfl ?_
    refine r_get (Cn := RX11) (T := TX11) (N := 18) C inT11 0 rfl rfl 8 (by decide) t_901 rfl dX11_foldsOne_5 ?_
    refine r_iconst (v := 0) C dX11_foldsOne_8 (by decide) ?_
    refine r_aload_n C dX11_foldsOne_9 0 rfl ?_
    refine r_get (Cn := RX11) (T := TX11) (N := 18) C inT11 0 rfl rfl 8 (by decide) t_901 rfl dX11_foldsOne_10 ?_
    refine r_iconst (v := 0) C dX11_foldsOne_13 (by decide) ?_
    refine r_iald (z := fOne 0) C 1 0 rfl rfl (vp_in_nI (n := 0) (N := 4) (by decide) (by decide)) dX11_foldsOne_14 (congrArg (fOne) (by decide)) ?_
    refine r_ineg C dX11_foldsOne_15 rfl ?_
    refine r_top (fun x10 e_x10 => ?_)
    obtain ⟨g11, e_g11⟩ : ∃ z : Nat → Int32, z = upd fOne 0 x10 := ⟨_, rfl⟩
    refine r_iast C 1 0 rfl rfl (vp_in_nI (n := 0) (N := 4) (by decide) (by decide)) (I' := [[(o, .inr (9, [.ref aS, .ref aPast, .int known, .ref aSnap, .int kept, .ref aText, .int len, .int thr, .ref aOne, .ref aTwo, .ref aBoth, .ref aWord, .int cre, .ref aOpen, .ref aTimes, .ref aFar, .ref aQueue, .long hash]))], [(aOne, .inl (cI, 4, .inl g11))]]) (by rw [e_g11]; rfl) dX11_foldsOne_16 ?_
    have eF : F_X11_foldsOne fOne crease = g11 := by have q := e_x10.symm; subst q; have q := e_g11.symm; subst q; simp only [F_X11_foldsOne, if_pos c1]
    exact r_vret (r := ()) C hA hr hlo dX11_foldsOne_17 [[(o, .inr (9, [.ref aS, .ref aPast, .int known, .ref aSnap, .int kept, .ref aText, .int len, .int thr, .ref aOne, .ref aTwo, .ref aBoth, .ref aWord, .int cre, .ref aOpen, .ref aTimes, .ref aFar, .ref aQueue, .long hash]))], [(aOne, .inl (cI, 4, .inl g11))]] (by simp only [eF]) rfl hQ
theorem k_X11_foldsAhead : kV yX11_foldsAhead cX11_foldsAhead 6 none 1 := ⟨t_1032, t_26, t_67, t_1033, by decide +kernel, by decide +kernel, by decide +kernel⟩
set_option maxRecDepth 20000 in
def F_X11_foldsAhead (fOne : Nat → Int32) (crease : Int32) : (Nat → Int32) := let r1 : Int32 := F_X11_size (fOne 0); let x5 : Int32 := (if crease ≤ 0 then (r1) else ((if r1 = crease then (crease + 1) else ((if r1 = (crease + 1) then (crease) else (r1)))))); let x7 : Int32 := (if 0 ≤ (fOne 0) then (1) else ((-1))); let x10 : Int32 := (if crease = 0 then ((if r1 = 1 then (-(fOne 0)) else (x7 * x5))) else (x7 * x5)); let g11 : Nat → Int32 := upd fOne 0 x10; let r12 : Int32 := F_X11_size (g11 1); let x16 : Int32 := (if crease ≤ 0 then (r12) else ((if r12 = crease then (crease + 1) else ((if r12 = (crease + 1) then (crease) else (r12)))))); let x18 : Int32 := (if 0 ≤ (g11 1) then (1) else ((-1))); let x21 : Int32 := (if crease = 0 then ((if r12 = 1 then (-(g11 1)) else (x18 * x16))) else (x18 * x16)); let g22 : Nat → Int32 := upd g11 1 x21; let r23 : Int32 := F_X11_size (g22 2); let x27 : Int32 := (if crease ≤ 0 then (r23) else ((if r23 = crease then (crease + 1) else ((if r23 = (crease + 1) then (crease) else (r23)))))); let x29 : Int32 := (if 0 ≤ (g22 2) then (1) else ((-1))); let x32 : Int32 := (if crease = 0 then ((if r23 = 1 then (-(g22 2)) else (x29 * x27))) else (x29 * x27)); let g33 : Nat → Int32 := upd g22 2 x32; let r34 : Int32 := F_X11_size (g33 3); let x38 : Int32 := (if crease ≤ 0 then (r34) else ((if r34 = crease then (crease + 1) else ((if r34 = (crease + 1) then (crease) else (r34)))))); let x40 : Int32 := (if 0 ≤ (g33 3) then (1) else ((-1))); let x43 : Int32 := (if crease = 0 then ((if r34 = 1 then (-(g33 3)) else (x40 * x38))) else (x40 * x38)); let g44 : Nat → Int32 := upd g33 3 x43; g44
set_option maxRecDepth 20000 in
set_option maxHeartbeats 8000000 in
theorem m_X11_foldsAhead (l : Launch) (D : va_G) (cI cL cP cJ : ClassId) (o : Nat) (aS : Nat) (aPast : Nat) (aSnap : Nat) (aText : Nat) (aOne : Nat) (aTwo : Nat) (aBoth : Nat) (aWord : Nat) (aOpen : Nat) (aTimes : Nat) (aFar : Nat) (aQueue : Nat) (known : Int32) (kept : Int32) (len : Int32) (thr : Int32) (cre : Int32) (hash : Int64) (fOne : Nat → Int32) (crease : Int32) : M vV l yX11_foldsAhead cX11_foldsAhead 6 none 1 20 D (tyF cI cL cP cJ) [.ref o, .int crease] [[(o, .inr (9, [.ref aS, .ref aPast, .int known, .ref aSnap, .int kept, .ref aText, .int len, .int thr, .ref aOne, .ref aTwo, .ref aBoth, .ref aWord, .int cre, .ref aOpen, .ref aTimes, .ref aFar, .ref aQueue, .long hash]))], [(aOne, .inl (cI, 4, .inl fOne))]] (fun (r : Unit) (w1 : List va_W) => w1 = [[(o, .inr (9, [.ref aS, .ref aPast, .int known, .ref aSnap, .int kept, .ref aText, .int len, .int thr, .ref aOne, .ref aTwo, .ref aBoth, .ref aWord, .int cre, .ref aOpen, .ref aTimes, .ref aFar, .ref aQueue, .long hash]))], [(aOne, .inl (cI, 4, .inl (F_X11_foldsAhead fOne crease)))]]) := by
  refine m_start (by decide +kernel) (Nat.le_of_ble_eq_true rfl) (fun p e s m args below meth c A Q hA hQ C hr hlo => ?_)
  refine r_Le (L' := [(0, .ref o), (1, .int crease)]) rfl ?_
  refine r_iconst (v := 0) C dX11_foldsAhead_0 (by decide) ?_
  refine r_istore_n (L' := [(2, .int 0), (0, .ref o), (1, .int crease)]) C dX11_foldsAhead_1 (by decide) rfl ?_
  refine r_iload_n C dX11_foldsAhead_2 0 rfl ?_
  refine r_iconst (v := 4) C dX11_foldsAhead_3 (by decide) ?_
  refine r_icmp_ge (tgt := 102) C dX11_foldsAhead_4 (by decide) (fun c => absurd c (by decide)) (fun _ => ?_)
  refine r_aload_n C dX11_foldsAhead_7 1 rfl ?_
  refine r_get (Cn := RX11) (T := TX11) (N := 18) C inT11 0 rfl rfl 8 (by decide) t_901 rfl dX11_foldsAhead_8 ?_
  refine r_iload_n C dX11_foldsAhead_11 0 rfl ?_
  refine r_iald (z := fOne 0) C 1 0 rfl rfl (vp_in_nI (n := 0) (N := 4) (by decide) (by decide)) dX11_foldsAhead_12 (congrArg (fOne) (by decide)) ?_
  refine r_callS (wc := []) (wr := [[(o, .inr (9, [.ref aS, .ref aPast, .int known, .ref aSnap, .int kept, .ref aText, .int len, .int thr, .ref aOne, .ref aTwo, .ref aBoth, .ref aWord, .int cre, .ref aOpen, .ref aTimes, .ref aFar, .ref aQueue, .long hash]))], [(aOne, .inl (cI, 4, .inl fOne))]]) (st := []) C (m_X11_size l D cI cL cP cJ (fOne 0)) k_X11_size t_1034 [0, 1] (show ([0, 1] : List Nat).Perm (List.range 2) by decide) rfl rfl rfl (Nat.le_of_ble_eq_true rfl) ⟨Nat.le_of_ble_eq_true rfl, Nat.le_of_ble_eq_true rfl⟩ ⟨Nat.zero_le _, Nat.zero_le _⟩ dX11_foldsAhead_13 (fun r1 wr1 hw1 => ?_)
  obtain ⟨e_r1, rfl⟩ := hw1
  refine r_ws (I' := [[(o, .inr (9, [.ref aS, .ref aPast, .int known, .ref aSnap, .int kept, .ref aText, .int len, .int thr, .ref aOne, .ref aTwo, .ref aBoth, .ref aWord, .int cre, .ref aOpen, .ref aTimes, .ref aFar, .ref aQueue, .long hash]))], [(aOne, .inl (cI, 4, .inl fOne))]]) rfl ?_
  refine r_istore_n (L' := [(3, .int r1), (2, .int 0), (0, .ref o), (1, .int crease)]) C dX11_foldsAhead_16 (by decide) rfl ?_
  refine r_iload_n C dX11_foldsAhead_17 3 rfl ?_
  suffices K : ∀ x5 : Int32, x5 = ((if crease ≤ 0 then (r1) else ((if r1 = crease then (crease + 1) else ((if r1 = (crease + 1) then (crease) else (r1))))))) → V p l e (rmm 1 20) s m args below meth c 6 D A 0 0 Q [[(o, .inr (9, [.ref aS, .ref aPast, .int known, .ref aSnap, .int kept, .ref aText, .int len, .int thr, .ref aOne, .ref aTwo, .ref aBoth, .ref aWord, .int cre, .ref aOpen, .ref aTimes, .ref aFar, .ref aQueue, .long hash]))], [(aOne, .inl (cI, 4, .inl fOne))]] [(3, .int r1), (2, .int 0), (0, .ref o), (1, .int crease)] 48 [.int x5] by
    refine r_if_le (tgt := 32) C dX11_foldsAhead_18 (by decide) (fun c2 => ?_) (fun c2 => ?_)
    · refine r_iload_n C dX11_foldsAhead_32 3 rfl ?_
      refine r_if_le (tgt := 47) C dX11_foldsAhead_33 (by decide) (fun _ => ?_) (fun c => absurd c2 c)
      refine r_iload_n C dX11_foldsAhead_47 0 rfl ?_
      exact K _ (by simp only [if_pos c2])
    · refine r_iload_n C dX11_foldsAhead_21 0 rfl ?_
      refine r_iload_n C dX11_foldsAhead_22 3 rfl ?_
      refine r_icmp_ne (tgt := 32) C dX11_foldsAhead_23 (by decide) (fun c3 => ?_) (fun c3 => ?_)
      · refine r_iload_n C dX11_foldsAhead_32 3 rfl ?_
        refine r_if_le (tgt := 47) C dX11_foldsAhead_33 (by decide) (fun c => absurd c c2) (fun _ => ?_)
        refine r_iload_n C dX11_foldsAhead_36 0 rfl ?_
        refine r_iload_n C dX11_foldsAhead_37 3 rfl ?_
        refine r_iconst (v := 1) C dX11_foldsAhead_38 (by decide) ?_
        refine r_iadd C dX11_foldsAhead_39 rfl ?_
        refine r_icmp_ne (tgt := 47) C dX11_foldsAhead_40 (by decide) (fun c4 => ?_) (fun c4 => ?_)
        · refine r_iload_n C dX11_foldsAhead_47 0 rfl ?_
          exact K _ (by simp only [if_neg c2, if_neg c3, if_neg c4])
        · refine r_iload_n C dX11_foldsAhead_43 3 rfl ?_
          refine r_goto (tgt := 48) C dX11_foldsAhead_44 (by decide) ?_
          exact K _ (by simp only [if_neg c2, if_neg c3, if_pos c4])
      · refine r_iload_n C dX11_foldsAhead_26 3 rfl ?_
        refine r_iconst (v := 1) C dX11_foldsAhead_27 (by decide) ?_
        refine r_iadd C dX11_foldsAhead_28 rfl ?_
        refine r_goto (tgt := 48) C dX11_foldsAhead_29 (by decide) ?_
        exact K _ (by simp only [if_neg c2, if_pos c3])
  intro x5 e_x5
  refine r_istore (L' := [(4, .int x5), (3, .int r1), (2, .int 0), (0, .ref o), (1, .int crease)]) C dX11_foldsAhead_48 (by decide) rfl ?_
  refine r_aload_n C dX11_foldsAhead_50 3 rfl ?_
  refine r_get (Cn := RX11) (T := TX11) (N := 18) C inT11 0 rfl rfl 8 (by decide) t_901 rfl dX11_foldsAhead_51 ?_
  refine r_iload_n C dX11_foldsAhead_54 2 rfl ?_
  refine r_iald (z := fOne 0) C 1 0 rfl rfl (vp_in_nI (n := 0) (N := 4) (by decide) (by decide)) dX11_foldsAhead_55 (congrArg (fOne) (by decide)) ?_
  suffices K : ∀ x7 : Int32, x7 = ((if 0 ≤ (fOne 0) then (1) else ((-1)))) → V p l e (rmm 1 20) s m args below meth c 6 D A 0 0 Q [[(o, .inr (9, [.ref aS, .ref aPast, .int known, .ref aSnap, .int kept, .ref aText, .int len, .int thr, .ref aOne, .ref aTwo, .ref aBoth, .ref aWord, .int cre, .ref aOpen, .ref aTimes, .ref aFar, .ref aQueue, .long hash]))], [(aOne, .inl (cI, 4, .inl fOne))]] [(4, .int x5), (3, .int r1), (2, .int 0), (0, .ref o), (1, .int crease)] 64 [.int x7] by
    refine r_if_ge (tgt := 63) C dX11_foldsAhead_56 (by decide) (fun c6 => ?_) (fun c6 => ?_)
    · refine r_iconst (v := 1) C dX11_foldsAhead_63 (by decide) ?_
      exact K _ (by simp only [if_pos c6])
    · refine r_iconst (v := (-1)) C dX11_foldsAhead_59 (by decide) ?_
      refine r_goto (tgt := 64) C dX11_foldsAhead_60 (by decide) ?_
      exact K _ (by simp only [if_neg c6])
  intro x7 e_x7
  refine r_istore (L' := [(5, .int x7), (4, .int x5), (3, .int r1), (2, .int 0), (0, .ref o), (1, .int crease)]) C dX11_foldsAhead_64 (by decide) rfl ?_
  refine r_aload_n C dX11_foldsAhead_66 4 rfl ?_
  refine r_get (Cn := RX11) (T := TX11) (N := 18) C inT11 0 rfl rfl 8 (by decide) t_901 rfl dX11_foldsAhead_67 ?_
  refine r_iload_n C dX11_foldsAhead_70 3 rfl ?_
  refine r_iload_n C dX11_foldsAhead_71 5 rfl ?_
  suffices K : ∀ x10 : Int32, x10 = ((if crease = 0 then ((if r1 = 1 then (-(fOne 0)) else (x7 * x5))) else (x7 * x5))) → V p l e (rmm 1 20) s m args below meth c 6 D A 0 0 Q [[(o, .inr (9, [.ref aS, .ref aPast, .int known, .ref aSnap, .int kept, .ref aText, .int len, .int thr, .ref aOne, .ref aTwo, .ref aBoth, .ref aWord, .int cre, .ref aOpen, .ref aTimes, .ref aFar, .ref aQueue, .long hash]))], [(aOne, .inl (cI, 4, .inl fOne))]] [(5, .int x7), (4, .int x5), (3, .int r1), (2, .int 0), (0, .ref o), (1, .int crease)] 95 [.int x10, .int 0, .ref aOne] by
    refine r_if_ne (tgt := 90) C dX11_foldsAhead_72 (by decide) (fun c8 => ?_) (fun c8 => ?_)
    · refine r_iload C dX11_foldsAhead_90 0 rfl ?_
      refine r_iload C dX11_foldsAhead_92 1 rfl ?_
      refine r_imul C dX11_foldsAhead_94 rfl ?_
      exact K _ (by simp only [if_neg c8])
    · refine r_iload_n C dX11_foldsAhead_75 2 rfl ?_
      refine r_iconst (v := 1) C dX11_foldsAhead_76 (by decide) ?_
      refine r_icmp_ne (tgt := 90) C dX11_foldsAhead_77 (by decide) (fun c9 => ?_) (fun c9 => ?_)
      · refine r_iload C dX11_foldsAhead_90 0 rfl ?_
        refine r_iload C dX11_foldsAhead_92 1 rfl ?_
        refine r_imul C dX11_foldsAhead_94 rfl ?_
        exact K _ (by simp only [if_pos c8, if_neg c9])
      · refine r_aload_n C dX11_foldsAhead_80 4 rfl ?_
        refine r_get (Cn := RX11) (T := TX11) (N := 18) C inT11 0 rfl rfl 8 (by decide) t_901 rfl dX11_foldsAhead_81 ?_
        refine r_iload_n C dX11_foldsAhead_84 3 rfl ?_
        refine r_iald (z := fOne 0) C 1 0 rfl rfl (vp_in_nI (n := 0) (N := 4) (by decide) (by decide)) dX11_foldsAhead_85 (congrArg (fOne) (by decide)) ?_
        refine r_ineg C dX11_foldsAhead_86 rfl ?_
        refine r_goto (tgt := 95) C dX11_foldsAhead_87 (by decide) ?_
        exact K _ (by simp only [if_pos c8, if_pos c9])
  intro x10 e_x10
  obtain ⟨g11, e_g11⟩ : ∃ z : Nat → Int32, z = upd fOne 0 x10 := ⟨_, rfl⟩
  refine r_iast C 1 0 rfl rfl (vp_in_nI (n := 0) (N := 4) (by decide) (by decide)) (I' := [[(o, .inr (9, [.ref aS, .ref aPast, .int known, .ref aSnap, .int kept, .ref aText, .int len, .int thr, .ref aOne, .ref aTwo, .ref aBoth, .ref aWord, .int cre, .ref aOpen, .ref aTimes, .ref aFar, .ref aQueue, .long hash]))], [(aOne, .inl (cI, 4, .inl g11))]]) (by rw [e_g11]; rfl) dX11_foldsAhead_95 ?_
  refine r_iinc (v := 1) (L' := [(2, .int 1), (5, .int x7), (4, .int x5), (3, .int r1), (0, .ref o), (1, .int crease)]) C dX11_foldsAhead_96 3 rfl (by decide) (by decide) rfl ?_
  refine r_goto (tgt := 2) C dX11_foldsAhead_99 (by decide) ?_
  refine r_iload_n C dX11_foldsAhead_2 0 rfl ?_
  refine r_iconst (v := 4) C dX11_foldsAhead_3 (by decide) ?_
  refine r_icmp_ge (tgt := 102) C dX11_foldsAhead_4 (by decide) (fun c => absurd c (by decide)) (fun _ => ?_)
  refine r_aload_n C dX11_foldsAhead_7 4 rfl ?_
  refine r_get (Cn := RX11) (T := TX11) (N := 18) C inT11 0 rfl rfl 8 (by decide) t_901 rfl dX11_foldsAhead_8 ?_
  refine r_iload_n C dX11_foldsAhead_11 0 rfl ?_
  refine r_iald (z := g11 1) C 1 0 rfl rfl (vp_in_nI (n := 1) (N := 4) (by decide) (by decide)) dX11_foldsAhead_12 (congrArg (g11) (by decide)) ?_
  refine r_callS (wc := []) (wr := [[(o, .inr (9, [.ref aS, .ref aPast, .int known, .ref aSnap, .int kept, .ref aText, .int len, .int thr, .ref aOne, .ref aTwo, .ref aBoth, .ref aWord, .int cre, .ref aOpen, .ref aTimes, .ref aFar, .ref aQueue, .long hash]))], [(aOne, .inl (cI, 4, .inl g11))]]) (st := []) C (m_X11_size l D cI cL cP cJ (g11 1)) k_X11_size t_1034 [0, 1] (show ([0, 1] : List Nat).Perm (List.range 2) by decide) rfl rfl rfl (Nat.le_of_ble_eq_true rfl) ⟨Nat.le_of_ble_eq_true rfl, Nat.le_of_ble_eq_true rfl⟩ ⟨Nat.zero_le _, Nat.zero_le _⟩ dX11_foldsAhead_13 (fun r12 wr12 hw12 => ?_)
  obtain ⟨e_r12, rfl⟩ := hw12
  refine r_ws (I' := [[(o, .inr (9, [.ref aS, .ref aPast, .int known, .ref aSnap, .int kept, .ref aText, .int len, .int thr, .ref aOne, .ref aTwo, .ref aBoth, .ref aWord, .int cre, .ref aOpen, .ref aTimes, .ref aFar, .ref aQueue, .long hash]))], [(aOne, .inl (cI, 4, .inl g11))]]) rfl ?_
  refine r_istore_n (L' := [(3, .int r12), (2, .int 1), (5, .int x7), (4, .int x5), (0, .ref o), (1, .int crease)]) C dX11_foldsAhead_16 (by decide) rfl ?_
  refine r_iload_n C dX11_foldsAhead_17 5 rfl ?_
  suffices K : ∀ x16 : Int32, x16 = ((if crease ≤ 0 then (r12) else ((if r12 = crease then (crease + 1) else ((if r12 = (crease + 1) then (crease) else (r12))))))) → V p l e (rmm 1 20) s m args below meth c 6 D A 0 0 Q [[(o, .inr (9, [.ref aS, .ref aPast, .int known, .ref aSnap, .int kept, .ref aText, .int len, .int thr, .ref aOne, .ref aTwo, .ref aBoth, .ref aWord, .int cre, .ref aOpen, .ref aTimes, .ref aFar, .ref aQueue, .long hash]))], [(aOne, .inl (cI, 4, .inl g11))]] [(3, .int r12), (2, .int 1), (5, .int x7), (4, .int x5), (0, .ref o), (1, .int crease)] 48 [.int x16] by
    refine r_if_le (tgt := 32) C dX11_foldsAhead_18 (by decide) (fun c13 => ?_) (fun c13 => ?_)
    · refine r_iload_n C dX11_foldsAhead_32 5 rfl ?_
      refine r_if_le (tgt := 47) C dX11_foldsAhead_33 (by decide) (fun _ => ?_) (fun c => absurd c13 c)
      refine r_iload_n C dX11_foldsAhead_47 0 rfl ?_
      exact K _ (by simp only [if_pos c13])
    · refine r_iload_n C dX11_foldsAhead_21 0 rfl ?_
      refine r_iload_n C dX11_foldsAhead_22 5 rfl ?_
      refine r_icmp_ne (tgt := 32) C dX11_foldsAhead_23 (by decide) (fun c14 => ?_) (fun c14 => ?_)
      · refine r_iload_n C dX11_foldsAhead_32 5 rfl ?_
        refine r_if_le (tgt := 47) C dX11_foldsAhead_33 (by decide) (fun c => absurd c c13) (fun _ => ?_)
        refine r_iload_n C dX11_foldsAhead_36 0 rfl ?_
        refine r_iload_n C dX11_foldsAhead_37 5 rfl ?_
        refine r_iconst (v := 1) C dX11_foldsAhead_38 (by decide) ?_
        refine r_iadd C dX11_foldsAhead_39 rfl ?_
        refine r_icmp_ne (tgt := 47) C dX11_foldsAhead_40 (by decide) (fun c15 => ?_) (fun c15 => ?_)
        · refine r_iload_n C dX11_foldsAhead_47 0 rfl ?_
          exact K _ (by simp only [if_neg c13, if_neg c14, if_neg c15])
        · refine r_iload_n C dX11_foldsAhead_43 5 rfl ?_
          refine r_goto (tgt := 48) C dX11_foldsAhead_44 (by decide) ?_
          exact K _ (by simp only [if_neg c13, if_neg c14, if_pos c15])
      · refine r_iload_n C dX11_foldsAhead_26 5 rfl ?_
        refine r_iconst (v := 1) C dX11_foldsAhead_27 (by decide) ?_
        refine r_iadd C dX11_foldsAhead_28 rfl ?_
        refine r_goto (tgt := 48) C dX11_foldsAhead_29 (by decide) ?_
        exact K _ (by simp only [if_neg c13, if_pos c14])
  intro x16 e_x16
  refine r_istore (L' := [(4, .int x16), (3, .int r12), (2, .int 1), (5, .int x7), (0, .ref o), (1, .int crease)]) C dX11_foldsAhead_48 (by decide) rfl ?_
  refine r_aload_n C dX11_foldsAhead_50 4 rfl ?_
  refine r_get (Cn := RX11) (T := TX11) (N := 18) C inT11 0 rfl rfl 8 (by decide) t_901 rfl dX11_foldsAhead_51 ?_
  refine r_iload_n C dX11_foldsAhead_54 2 rfl ?_
  refine r_iald (z := g11 1) C 1 0 rfl rfl (vp_in_nI (n := 1) (N := 4) (by decide) (by decide)) dX11_foldsAhead_55 (congrArg (g11) (by decide)) ?_
  suffices K : ∀ x18 : Int32, x18 = ((if 0 ≤ (g11 1) then (1) else ((-1)))) → V p l e (rmm 1 20) s m args below meth c 6 D A 0 0 Q [[(o, .inr (9, [.ref aS, .ref aPast, .int known, .ref aSnap, .int kept, .ref aText, .int len, .int thr, .ref aOne, .ref aTwo, .ref aBoth, .ref aWord, .int cre, .ref aOpen, .ref aTimes, .ref aFar, .ref aQueue, .long hash]))], [(aOne, .inl (cI, 4, .inl g11))]] [(4, .int x16), (3, .int r12), (2, .int 1), (5, .int x7), (0, .ref o), (1, .int crease)] 64 [.int x18] by
    refine r_if_ge (tgt := 63) C dX11_foldsAhead_56 (by decide) (fun c17 => ?_) (fun c17 => ?_)
    · refine r_iconst (v := 1) C dX11_foldsAhead_63 (by decide) ?_
      exact K _ (by simp only [if_pos c17])
    · refine r_iconst (v := (-1)) C dX11_foldsAhead_59 (by decide) ?_
      refine r_goto (tgt := 64) C dX11_foldsAhead_60 (by decide) ?_
      exact K _ (by simp only [if_neg c17])
  intro x18 e_x18
  refine r_istore (L' := [(5, .int x18), (4, .int x16), (3, .int r12), (2, .int 1), (0, .ref o), (1, .int crease)]) C dX11_foldsAhead_64 (by decide) rfl ?_
  refine r_aload_n C dX11_foldsAhead_66 4 rfl ?_
  refine r_get (Cn := RX11) (T := TX11) (N := 18) C inT11 0 rfl rfl 8 (by decide) t_901 rfl dX11_foldsAhead_67 ?_
  refine r_iload_n C dX11_foldsAhead_70 3 rfl ?_
  refine r_iload_n C dX11_foldsAhead_71 5 rfl ?_
  suffices K : ∀ x21 : Int32, x21 = ((if crease = 0 then ((if r12 = 1 then (-(g11 1)) else (x18 * x16))) else (x18 * x16))) → V p l e (rmm 1 20) s m args below meth c 6 D A 0 0 Q [[(o, .inr (9, [.ref aS, .ref aPast, .int known, .ref aSnap, .int kept, .ref aText, .int len, .int thr, .ref aOne, .ref aTwo, .ref aBoth, .ref aWord, .int cre, .ref aOpen, .ref aTimes, .ref aFar, .ref aQueue, .long hash]))], [(aOne, .inl (cI, 4, .inl g11))]] [(5, .int x18), (4, .int x16), (3, .int r12), (2, .int 1), (0, .ref o), (1, .int crease)] 95 [.int x21, .int 1, .ref aOne] by
    refine r_if_ne (tgt := 90) C dX11_foldsAhead_72 (by decide) (fun c19 => ?_) (fun c19 => ?_)
    · refine r_iload C dX11_foldsAhead_90 0 rfl ?_
      refine r_iload C dX11_foldsAhead_92 1 rfl ?_
      refine r_imul C dX11_foldsAhead_94 rfl ?_
      exact K _ (by simp only [if_neg c19])
    · refine r_iload_n C dX11_foldsAhead_75 2 rfl ?_
      refine r_iconst (v := 1) C dX11_foldsAhead_76 (by decide) ?_
      refine r_icmp_ne (tgt := 90) C dX11_foldsAhead_77 (by decide) (fun c20 => ?_) (fun c20 => ?_)
      · refine r_iload C dX11_foldsAhead_90 0 rfl ?_
        refine r_iload C dX11_foldsAhead_92 1 rfl ?_
        refine r_imul C dX11_foldsAhead_94 rfl ?_
        exact K _ (by simp only [if_pos c19, if_neg c20])
      · refine r_aload_n C dX11_foldsAhead_80 4 rfl ?_
        refine r_get (Cn := RX11) (T := TX11) (N := 18) C inT11 0 rfl rfl 8 (by decide) t_901 rfl dX11_foldsAhead_81 ?_
        refine r_iload_n C dX11_foldsAhead_84 3 rfl ?_
        refine r_iald (z := g11 1) C 1 0 rfl rfl (vp_in_nI (n := 1) (N := 4) (by decide) (by decide)) dX11_foldsAhead_85 (congrArg (g11) (by decide)) ?_
        refine r_ineg C dX11_foldsAhead_86 rfl ?_
        refine r_goto (tgt := 95) C dX11_foldsAhead_87 (by decide) ?_
        exact K _ (by simp only [if_pos c19, if_pos c20])
  intro x21 e_x21
  obtain ⟨g22, e_g22⟩ : ∃ z : Nat → Int32, z = upd g11 1 x21 := ⟨_, rfl⟩
  refine r_iast C 1 0 rfl rfl (vp_in_nI (n := 1) (N := 4) (by decide) (by decide)) (I' := [[(o, .inr (9, [.ref aS, .ref aPast, .int known, .ref aSnap, .int kept, .ref aText, .int len, .int thr, .ref aOne, .ref aTwo, .ref aBoth, .ref aWord, .int cre, .ref aOpen, .ref aTimes, .ref aFar, .ref aQueue, .long hash]))], [(aOne, .inl (cI, 4, .inl g22))]]) (by rw [e_g22]; rfl) dX11_foldsAhead_95 ?_
  refine r_iinc (v := 2) (L' := [(2, .int 2), (5, .int x18), (4, .int x16), (3, .int r12), (0, .ref o), (1, .int crease)]) C dX11_foldsAhead_96 3 rfl (by decide) (by decide) rfl ?_
  refine r_goto (tgt := 2) C dX11_foldsAhead_99 (by decide) ?_
  refine r_iload_n C dX11_foldsAhead_2 0 rfl ?_
  refine r_iconst (v := 4) C dX11_foldsAhead_3 (by decide) ?_
  refine r_icmp_ge (tgt := 102) C dX11_foldsAhead_4 (by decide) (fun c => absurd c (by decide)) (fun _ => ?_)
  refine r_aload_n C dX11_foldsAhead_7 4 rfl ?_
  refine r_get (Cn := RX11) (T := TX11) (N := 18) C inT11 0 rfl rfl 8 (by decide) t_901 rfl dX11_foldsAhead_8 ?_
  refine r_iload_n C dX11_foldsAhead_11 0 rfl ?_
  refine r_iald (z := g22 2) C 1 0 rfl rfl (vp_in_nI (n := 2) (N := 4) (by decide) (by decide)) dX11_foldsAhead_12 (congrArg (g22) (by decide)) ?_
  refine r_callS (wc := []) (wr := [[(o, .inr (9, [.ref aS, .ref aPast, .int known, .ref aSnap, .int kept, .ref aText, .int len, .int thr, .ref aOne, .ref aTwo, .ref aBoth, .ref aWord, .int cre, .ref aOpen, .ref aTimes, .ref aFar, .ref aQueue, .long hash]))], [(aOne, .inl (cI, 4, .inl g22))]]) (st := []) C (m_X11_size l D cI cL cP cJ (g22 2)) k_X11_size t_1034 [0, 1] (show ([0, 1] : List Nat).Perm (List.range 2) by decide) rfl rfl rfl (Nat.le_of_ble_eq_true rfl) ⟨Nat.le_of_ble_eq_true rfl, Nat.le_of_ble_eq_true rfl⟩ ⟨Nat.zero_le _, Nat.zero_le _⟩ dX11_foldsAhead_13 (fun r23 wr23 hw23 => ?_)
  obtain ⟨e_r23, rfl⟩ := hw23
  refine r_ws (I' := [[(o, .inr (9, [.ref aS, .ref aPast, .int known, .ref aSnap, .int kept, .ref aText, .int len, .int thr, .ref aOne, .ref aTwo, .ref aBoth, .ref aWord, .int cre, .ref aOpen, .ref aTimes, .ref aFar, .ref aQueue, .long hash]))], [(aOne, .inl (cI, 4, .inl g22))]]) rfl ?_
  refine r_istore_n (L' := [(3, .int r23), (2, .int 2), (5, .int x18), (4, .int x16), (0, .ref o), (1, .int crease)]) C dX11_foldsAhead_16 (by decide) rfl ?_
  refine r_iload_n C dX11_foldsAhead_17 5 rfl ?_
  suffices K : ∀ x27 : Int32, x27 = ((if crease ≤ 0 then (r23) else ((if r23 = crease then (crease + 1) else ((if r23 = (crease + 1) then (crease) else (r23))))))) → V p l e (rmm 1 20) s m args below meth c 6 D A 0 0 Q [[(o, .inr (9, [.ref aS, .ref aPast, .int known, .ref aSnap, .int kept, .ref aText, .int len, .int thr, .ref aOne, .ref aTwo, .ref aBoth, .ref aWord, .int cre, .ref aOpen, .ref aTimes, .ref aFar, .ref aQueue, .long hash]))], [(aOne, .inl (cI, 4, .inl g22))]] [(3, .int r23), (2, .int 2), (5, .int x18), (4, .int x16), (0, .ref o), (1, .int crease)] 48 [.int x27] by
    refine r_if_le (tgt := 32) C dX11_foldsAhead_18 (by decide) (fun c24 => ?_) (fun c24 => ?_)
    · refine r_iload_n C dX11_foldsAhead_32 5 rfl ?_
      refine r_if_le (tgt := 47) C dX11_foldsAhead_33 (by decide) (fun _ => ?_) (fun c => absurd c24 c)
      refine r_iload_n C dX11_foldsAhead_47 0 rfl ?_
      exact K _ (by simp only [if_pos c24])
    · refine r_iload_n C dX11_foldsAhead_21 0 rfl ?_
      refine r_iload_n C dX11_foldsAhead_22 5 rfl ?_
      refine r_icmp_ne (tgt := 32) C dX11_foldsAhead_23 (by decide) (fun c25 => ?_) (fun c25 => ?_)
      · refine r_iload_n C dX11_foldsAhead_32 5 rfl ?_
        refine r_if_le (tgt := 47) C dX11_foldsAhead_33 (by decide) (fun c => absurd c c24) (fun _ => ?_)
        refine r_iload_n C dX11_foldsAhead_36 0 rfl ?_
        refine r_iload_n C dX11_foldsAhead_37 5 rfl ?_
        refine r_iconst (v := 1) C dX11_foldsAhead_38 (by decide) ?_
        refine r_iadd C dX11_foldsAhead_39 rfl ?_
        refine r_icmp_ne (tgt := 47) C dX11_foldsAhead_40 (by decide) (fun c26 => ?_) (fun c26 => ?_)
        · refine r_iload_n C dX11_foldsAhead_47 0 rfl ?_
          exact K _ (by simp only [if_neg c24, if_neg c25, if_neg c26])
        · refine r_iload_n C dX11_foldsAhead_43 5 rfl ?_
          refine r_goto (tgt := 48) C dX11_foldsAhead_44 (by decide) ?_
          exact K _ (by simp only [if_neg c24, if_neg c25, if_pos c26])
      · refine r_iload_n C dX11_foldsAhead_26 5 rfl ?_
        refine r_iconst (v := 1) C dX11_foldsAhead_27 (by decide) ?_
        refine r_iadd C dX11_foldsAhead_28 rfl ?_
        refine r_goto (tgt := 48) C dX11_foldsAhead_29 (by decide) ?_
        exact K _ (by simp only [if_neg c24, if_pos c25])
  intro x27 e_x27
  refine r_istore (L' := [(4, .int x27), (3, .int r23), (2, .int 2), (5, .int x18), (0, .ref o), (1, .int crease)]) C dX11_foldsAhead_48 (by decide) rfl ?_
  refine r_aload_n C dX11_foldsAhead_50 4 rfl ?_
  refine r_get (Cn := RX11) (T := TX11) (N := 18) C inT11 0 rfl rfl 8 (by decide) t_901 rfl dX11_foldsAhead_51 ?_
  refine r_iload_n C dX11_foldsAhead_54 2 rfl ?_
  refine r_iald (z := g22 2) C 1 0 rfl rfl (vp_in_nI (n := 2) (N := 4) (by decide) (by decide)) dX11_foldsAhead_55 (congrArg (g22) (by decide)) ?_
  suffices K : ∀ x29 : Int32, x29 = ((if 0 ≤ (g22 2) then (1) else ((-1)))) → V p l e (rmm 1 20) s m args below meth c 6 D A 0 0 Q [[(o, .inr (9, [.ref aS, .ref aPast, .int known, .ref aSnap, .int kept, .ref aText, .int len, .int thr, .ref aOne, .ref aTwo, .ref aBoth, .ref aWord, .int cre, .ref aOpen, .ref aTimes, .ref aFar, .ref aQueue, .long hash]))], [(aOne, .inl (cI, 4, .inl g22))]] [(4, .int x27), (3, .int r23), (2, .int 2), (5, .int x18), (0, .ref o), (1, .int crease)] 64 [.int x29] by
    refine r_if_ge (tgt := 63) C dX11_foldsAhead_56 (by decide) (fun c28 => ?_) (fun c28 => ?_)
    · refine r_iconst (v := 1) C dX11_foldsAhead_63 (by decide) ?_
      exact K _ (by simp only [if_pos c28])
    · refine r_iconst (v := (-1)) C dX11_foldsAhead_59 (by decide) ?_
      refine r_goto (tgt := 64) C dX11_foldsAhead_60 (by decide) ?_
      exact K _ (by simp only [if_neg c28])
  intro x29 e_x29
  refine r_istore (L' := [(5, .int x29), (4, .int x27), (3, .int r23), (2, .int 2), (0, .ref o), (1, .int crease)]) C dX11_foldsAhead_64 (by decide) rfl ?_
  refine r_aload_n C dX11_foldsAhead_66 4 rfl ?_
  refine r_get (Cn := RX11) (T := TX11) (N := 18) C inT11 0 rfl rfl 8 (by decide) t_901 rfl dX11_foldsAhead_67 ?_
  refine r_iload_n C dX11_foldsAhead_70 3 rfl ?_
  refine r_iload_n C dX11_foldsAhead_71 5 rfl ?_
  suffices K : ∀ x32 : Int32, x32 = ((if crease = 0 then ((if r23 = 1 then (-(g22 2)) else (x29 * x27))) else (x29 * x27))) → V p l e (rmm 1 20) s m args below meth c 6 D A 0 0 Q [[(o, .inr (9, [.ref aS, .ref aPast, .int known, .ref aSnap, .int kept, .ref aText, .int len, .int thr, .ref aOne, .ref aTwo, .ref aBoth, .ref aWord, .int cre, .ref aOpen, .ref aTimes, .ref aFar, .ref aQueue, .long hash]))], [(aOne, .inl (cI, 4, .inl g22))]] [(5, .int x29), (4, .int x27), (3, .int r23), (2, .int 2), (0, .ref o), (1, .int crease)] 95 [.int x32, .int 2, .ref aOne] by
    refine r_if_ne (tgt := 90) C dX11_foldsAhead_72 (by decide) (fun c30 => ?_) (fun c30 => ?_)
    · refine r_iload C dX11_foldsAhead_90 0 rfl ?_
      refine r_iload C dX11_foldsAhead_92 1 rfl ?_
      refine r_imul C dX11_foldsAhead_94 rfl ?_
      exact K _ (by simp only [if_neg c30])
    · refine r_iload_n C dX11_foldsAhead_75 2 rfl ?_
      refine r_iconst (v := 1) C dX11_foldsAhead_76 (by decide) ?_
      refine r_icmp_ne (tgt := 90) C dX11_foldsAhead_77 (by decide) (fun c31 => ?_) (fun c31 => ?_)
      · refine r_iload C dX11_foldsAhead_90 0 rfl ?_
        refine r_iload C dX11_foldsAhead_92 1 rfl ?_
        refine r_imul C dX11_foldsAhead_94 rfl ?_
        exact K _ (by simp only [if_pos c30, if_neg c31])
      · refine r_aload_n C dX11_foldsAhead_80 4 rfl ?_
        refine r_get (Cn := RX11) (T := TX11) (N := 18) C inT11 0 rfl rfl 8 (by decide) t_901 rfl dX11_foldsAhead_81 ?_
        refine r_iload_n C dX11_foldsAhead_84 3 rfl ?_
        refine r_iald (z := g22 2) C 1 0 rfl rfl (vp_in_nI (n := 2) (N := 4) (by decide) (by decide)) dX11_foldsAhead_85 (congrArg (g22) (by decide)) ?_
        refine r_ineg C dX11_foldsAhead_86 rfl ?_
        refine r_goto (tgt := 95) C dX11_foldsAhead_87 (by decide) ?_
        exact K _ (by simp only [if_pos c30, if_pos c31])
  intro x32 e_x32
  obtain ⟨g33, e_g33⟩ : ∃ z : Nat → Int32, z = upd g22 2 x32 := ⟨_, rfl⟩
  refine r_iast C 1 0 rfl rfl (vp_in_nI (n := 2) (N := 4) (by decide) (by decide)) (I' := [[(o, .inr (9, [.ref aS, .ref aPast, .int known, .ref aSnap, .int kept, .ref aText, .int len, .int thr, .ref aOne, .ref aTwo, .ref aBoth, .ref aWord, .int cre, .ref aOpen, .ref aTimes, .ref aFar, .ref aQueue, .long hash]))], [(aOne, .inl (cI, 4, .inl g33))]]) (by rw [e_g33]; rfl) dX11_foldsAhead_95 ?_
  refine r_iinc (v := 3) (L' := [(2, .int 3), (5, .int x29), (4, .int x27), (3, .int r23), (0, .ref o), (1, .int crease)]) C dX11_foldsAhead_96 3 rfl (by decide) (by decide) rfl ?_
  refine r_goto (tgt := 2) C dX11_foldsAhead_99 (by decide) ?_
  refine r_iload_n C dX11_foldsAhead_2 0 rfl ?_
  refine r_iconst (v := 4) C dX11_foldsAhead_3 (by decide) ?_
  refine r_icmp_ge (tgt := 102) C dX11_foldsAhead_4 (by decide) (fun c => absurd c (by decide)) (fun _ => ?_)
  refine r_aload_n C dX11_foldsAhead_7 4 rfl ?_
  refine r_get (Cn := RX11) (T := TX11) (N := 18) C inT11 0 rfl rfl 8 (by decide) t_901 rfl dX11_foldsAhead_8 ?_
  refine r_iload_n C dX11_foldsAhead_11 0 rfl ?_
  refine r_iald (z := g33 3) C 1 0 rfl rfl (vp_in_nI (n := 3) (N := 4) (by decide) (by decide)) dX11_foldsAhead_12 (congrArg (g33) (by decide)) ?_
  refine r_callS (wc := []) (wr := [[(o, .inr (9, [.ref aS, .ref aPast, .int known, .ref aSnap, .int kept, .ref aText, .int len, .int thr, .ref aOne, .ref aTwo, .ref aBoth, .ref aWord, .int cre, .ref aOpen, .ref aTimes, .ref aFar, .ref aQueue, .long hash]))], [(aOne, .inl (cI, 4, .inl g33))]]) (st := []) C (m_X11_size l D cI cL cP cJ (g33 3)) k_X11_size t_1034 [0, 1] (show ([0, 1] : List Nat).Perm (List.range 2) by decide) rfl rfl rfl (Nat.le_of_ble_eq_true rfl) ⟨Nat.le_of_ble_eq_true rfl, Nat.le_of_ble_eq_true rfl⟩ ⟨Nat.zero_le _, Nat.zero_le _⟩ dX11_foldsAhead_13 (fun r34 wr34 hw34 => ?_)
  obtain ⟨e_r34, rfl⟩ := hw34
  refine r_ws (I' := [[(o, .inr (9, [.ref aS, .ref aPast, .int known, .ref aSnap, .int kept, .ref aText, .int len, .int thr, .ref aOne, .ref aTwo, .ref aBoth, .ref aWord, .int cre, .ref aOpen, .ref aTimes, .ref aFar, .ref aQueue, .long hash]))], [(aOne, .inl (cI, 4, .inl g33))]]) rfl ?_
  refine r_istore_n (L' := [(3, .int r34), (2, .int 3), (5, .int x29), (4, .int x27), (0, .ref o), (1, .int crease)]) C dX11_foldsAhead_16 (by decide) rfl ?_
  refine r_iload_n C dX11_foldsAhead_17 5 rfl ?_
  suffices K : ∀ x38 : Int32, x38 = ((if crease ≤ 0 then (r34) else ((if r34 = crease then (crease + 1) else ((if r34 = (crease + 1) then (crease) else (r34))))))) → V p l e (rmm 1 20) s m args below meth c 6 D A 0 0 Q [[(o, .inr (9, [.ref aS, .ref aPast, .int known, .ref aSnap, .int kept, .ref aText, .int len, .int thr, .ref aOne, .ref aTwo, .ref aBoth, .ref aWord, .int cre, .ref aOpen, .ref aTimes, .ref aFar, .ref aQueue, .long hash]))], [(aOne, .inl (cI, 4, .inl g33))]] [(3, .int r34), (2, .int 3), (5, .int x29), (4, .int x27), (0, .ref o), (1, .int crease)] 48 [.int x38] by
    refine r_if_le (tgt := 32) C dX11_foldsAhead_18 (by decide) (fun c35 => ?_) (fun c35 => ?_)
    · refine r_iload_n C dX11_foldsAhead_32 5 rfl ?_
      refine r_if_le (tgt := 47) C dX11_foldsAhead_33 (by decide) (fun _ => ?_) (fun c => absurd c35 c)
      refine r_iload_n C dX11_foldsAhead_47 0 rfl ?_
      exact K _ (by simp only [if_pos c35])
    · refine r_iload_n C dX11_foldsAhead_21 0 rfl ?_
      refine r_iload_n C dX11_foldsAhead_22 5 rfl ?_
      refine r_icmp_ne (tgt := 32) C dX11_foldsAhead_23 (by decide) (fun c36 => ?_) (fun c36 => ?_)
      · refine r_iload_n C dX11_foldsAhead_32 5 rfl ?_
        refine r_if_le (tgt := 47) C dX11_foldsAhead_33 (by decide) (fun c => absurd c c35) (fun _ => ?_)
        refine r_iload_n C dX11_foldsAhead_36 0 rfl ?_
        refine r_iload_n C dX11_foldsAhead_37 5 rfl ?_
        refine r_iconst (v := 1) C dX11_foldsAhead_38 (by decide) ?_
        refine r_iadd C dX11_foldsAhead_39 rfl ?_
        refine r_icmp_ne (tgt := 47) C dX11_foldsAhead_40 (by decide) (fun c37 => ?_) (fun c37 => ?_)
        · refine r_iload_n C dX11_foldsAhead_47 0 rfl ?_
          exact K _ (by simp only [if_neg c35, if_neg c36, if_neg c37])
        · refine r_iload_n C dX11_foldsAhead_43 5 rfl ?_
          refine r_goto (tgt := 48) C dX11_foldsAhead_44 (by decide) ?_
          exact K _ (by simp only [if_neg c35, if_neg c36, if_pos c37])
      · refine r_iload_n C dX11_foldsAhead_26 5 rfl ?_
        refine r_iconst (v := 1) C dX11_foldsAhead_27 (by decide) ?_
        refine r_iadd C dX11_foldsAhead_28 rfl ?_
        refine r_goto (tgt := 48) C dX11_foldsAhead_29 (by decide) ?_
        exact K _ (by simp only [if_neg c35, if_pos c36])
  intro x38 e_x38
  refine r_istore (L' := [(4, .int x38), (3, .int r34), (2, .int 3), (5, .int x29), (0, .ref o), (1, .int crease)]) C dX11_foldsAhead_48 (by decide) rfl ?_
  refine r_aload_n C dX11_foldsAhead_50 4 rfl ?_
  refine r_get (Cn := RX11) (T := TX11) (N := 18) C inT11 0 rfl rfl 8 (by decide) t_901 rfl dX11_foldsAhead_51 ?_
  refine r_iload_n C dX11_foldsAhead_54 2 rfl ?_
  refine r_iald (z := g33 3) C 1 0 rfl rfl (vp_in_nI (n := 3) (N := 4) (by decide) (by decide)) dX11_foldsAhead_55 (congrArg (g33) (by decide)) ?_
  suffices K : ∀ x40 : Int32, x40 = ((if 0 ≤ (g33 3) then (1) else ((-1)))) → V p l e (rmm 1 20) s m args below meth c 6 D A 0 0 Q [[(o, .inr (9, [.ref aS, .ref aPast, .int known, .ref aSnap, .int kept, .ref aText, .int len, .int thr, .ref aOne, .ref aTwo, .ref aBoth, .ref aWord, .int cre, .ref aOpen, .ref aTimes, .ref aFar, .ref aQueue, .long hash]))], [(aOne, .inl (cI, 4, .inl g33))]] [(4, .int x38), (3, .int r34), (2, .int 3), (5, .int x29), (0, .ref o), (1, .int crease)] 64 [.int x40] by
    refine r_if_ge (tgt := 63) C dX11_foldsAhead_56 (by decide) (fun c39 => ?_) (fun c39 => ?_)
    · refine r_iconst (v := 1) C dX11_foldsAhead_63 (by decide) ?_
      exact K _ (by simp only [if_pos c39])
    · refine r_iconst (v := (-1)) C dX11_foldsAhead_59 (by decide) ?_
      refine r_goto (tgt := 64) C dX11_foldsAhead_60 (by decide) ?_
      exact K _ (by simp only [if_neg c39])
  intro x40 e_x40
  refine r_istore (L' := [(5, .int x40), (4, .int x38), (3, .int r34), (2, .int 3), (0, .ref o), (1, .int crease)]) C dX11_foldsAhead_64 (by decide) rfl ?_
  refine r_aload_n C dX11_foldsAhead_66 4 rfl ?_
  refine r_get (Cn := RX11) (T := TX11) (N := 18) C inT11 0 rfl rfl 8 (by decide) t_901 rfl dX11_foldsAhead_67 ?_
  refine r_iload_n C dX11_foldsAhead_70 3 rfl ?_
  refine r_iload_n C dX11_foldsAhead_71 5 rfl ?_
  suffices K : ∀ x43 : Int32, x43 = ((if crease = 0 then ((if r34 = 1 then (-(g33 3)) else (x40 * x38))) else (x40 * x38))) → V p l e (rmm 1 20) s m args below meth c 6 D A 0 0 Q [[(o, .inr (9, [.ref aS, .ref aPast, .int known, .ref aSnap, .int kept, .ref aText, .int len, .int thr, .ref aOne, .ref aTwo, .ref aBoth, .ref aWord, .int cre, .ref aOpen, .ref aTimes, .ref aFar, .ref aQueue, .long hash]))], [(aOne, .inl (cI, 4, .inl g33))]] [(5, .int x40), (4, .int x38), (3, .int r34), (2, .int 3), (0, .ref o), (1, .int crease)] 95 [.int x43, .int 3, .ref aOne] by
    refine r_if_ne (tgt := 90) C dX11_foldsAhead_72 (by decide) (fun c41 => ?_) (fun c41 => ?_)
    · refine r_iload C dX11_foldsAhead_90 0 rfl ?_
      refine r_iload C dX11_foldsAhead_92 1 rfl ?_
      refine r_imul C dX11_foldsAhead_94 rfl ?_
      exact K _ (by simp only [if_neg c41])
    · refine r_iload_n C dX11_foldsAhead_75 2 rfl ?_
      refine r_iconst (v := 1) C dX11_foldsAhead_76 (by decide) ?_
      refine r_icmp_ne (tgt := 90) C dX11_foldsAhead_77 (by decide) (fun c42 => ?_) (fun c42 => ?_)
      · refine r_iload C dX11_foldsAhead_90 0 rfl ?_
        refine r_iload C dX11_foldsAhead_92 1 rfl ?_
        refine r_imul C dX11_foldsAhead_94 rfl ?_
        exact K _ (by simp only [if_pos c41, if_neg c42])
      · refine r_aload_n C dX11_foldsAhead_80 4 rfl ?_
        refine r_get (Cn := RX11) (T := TX11) (N := 18) C inT11 0 rfl rfl 8 (by decide) t_901 rfl dX11_foldsAhead_81 ?_
        refine r_iload_n C dX11_foldsAhead_84 3 rfl ?_
        refine r_iald (z := g33 3) C 1 0 rfl rfl (vp_in_nI (n := 3) (N := 4) (by decide) (by decide)) dX11_foldsAhead_85 (congrArg (g33) (by decide)) ?_
        refine r_ineg C dX11_foldsAhead_86 rfl ?_
        refine r_goto (tgt := 95) C dX11_foldsAhead_87 (by decide) ?_
        exact K _ (by simp only [if_pos c41, if_pos c42])
  intro x43 e_x43
  obtain ⟨g44, e_g44⟩ : ∃ z : Nat → Int32, z = upd g33 3 x43 := ⟨_, rfl⟩
  refine r_iast C 1 0 rfl rfl (vp_in_nI (n := 3) (N := 4) (by decide) (by decide)) (I' := [[(o, .inr (9, [.ref aS, .ref aPast, .int known, .ref aSnap, .int kept, .ref aText, .int len, .int thr, .ref aOne, .ref aTwo, .ref aBoth, .ref aWord, .int cre, .ref aOpen, .ref aTimes, .ref aFar, .ref aQueue, .long hash]))], [(aOne, .inl (cI, 4, .inl g44))]]) (by rw [e_g44]; rfl) dX11_foldsAhead_95 ?_
  refine r_iinc (v := 4) (L' := [(2, .int 4), (5, .int x40), (4, .int x38), (3, .int r34), (0, .ref o), (1, .int crease)]) C dX11_foldsAhead_96 3 rfl (by decide) (by decide) rfl ?_
  refine r_goto (tgt := 2) C dX11_foldsAhead_99 (by decide) ?_
  refine r_iload_n C dX11_foldsAhead_2 0 rfl ?_
  refine r_iconst (v := 4) C dX11_foldsAhead_3 (by decide) ?_
  refine r_icmp_ge (tgt := 102) C dX11_foldsAhead_4 (by decide) (fun _ => ?_) (fun c => absurd c (by decide))
  have eF : F_X11_foldsAhead fOne crease = g44 := by have q := e_r1.symm; subst q; have q := e_x5.symm; subst q; have q := e_x7.symm; subst q; have q := e_x10.symm; subst q; have q := e_g11.symm; subst q; have q := e_r12.symm; subst q; have q := e_x16.symm; subst q; have q := e_x18.symm; subst q; have q := e_x21.symm; subst q; have q := e_g22.symm; subst q; have q := e_r23.symm; subst q; have q := e_x27.symm; subst q; have q := e_x29.symm; subst q; have q := e_x32.symm; subst q; have q := e_g33.symm; subst q; have q := e_r34.symm; subst q; have q := e_x38.symm; subst q; have q := e_x40.symm; subst q; have q := e_x43.symm; subst q; have q := e_g44.symm; subst q; rfl
  exact r_vret (r := ()) C hA hr hlo dX11_foldsAhead_102 [[(o, .inr (9, [.ref aS, .ref aPast, .int known, .ref aSnap, .int kept, .ref aText, .int len, .int thr, .ref aOne, .ref aTwo, .ref aBoth, .ref aWord, .int cre, .ref aOpen, .ref aTimes, .ref aFar, .ref aQueue, .long hash]))], [(aOne, .inl (cI, 4, .inl g44))]] (by simp only [eF]) rfl hQ
theorem k_X11_lengthOfOne : kV yX11_lengthOfOne cX11_lengthOfOne 4 (some .int) 0 := ⟨t_1008, t_22, t_67, t_1009, by decide +kernel, by decide +kernel, by decide +kernel⟩
set_option maxRecDepth 20000 in
def F_X11_lengthOfOne (fOne : Nat → Int32) : Int32 := let x2 : Int32 := (if (fOne 0) ≤ (fOne 0) then (0) else (1)); let x3 : Int32 := (0 : Int32) + x2; let x5 : Int32 := (if 0 ≤ ((fOne 0) + (fOne 0)) then (0) else (1)); let x6 : Int32 := x3 + x5; let x8 : Int32 := (if (fOne 0) ≤ (fOne 1) then (0) else (1)); let x9 : Int32 := x6 + x8; let x11 : Int32 := (if 0 ≤ ((fOne 0) + (fOne 1)) then (0) else (1)); let x12 : Int32 := x9 + x11; let x14 : Int32 := (if (fOne 0) ≤ (fOne 2) then (0) else (1)); let x15 : Int32 := x12 + x14; let x17 : Int32 := (if 0 ≤ ((fOne 0) + (fOne 2)) then (0) else (1)); let x18 : Int32 := x15 + x17; let x20 : Int32 := (if (fOne 0) ≤ (fOne 3) then (0) else (1)); let x21 : Int32 := x18 + x20; let x23 : Int32 := (if 0 ≤ ((fOne 0) + (fOne 3)) then (0) else (1)); let x24 : Int32 := x21 + x23; let x26 : Int32 := (if (fOne 1) ≤ (fOne 1) then (0) else (1)); let x27 : Int32 := x24 + x26; let x29 : Int32 := (if 0 ≤ ((fOne 1) + (fOne 1)) then (0) else (1)); let x30 : Int32 := x27 + x29; let x32 : Int32 := (if (fOne 1) ≤ (fOne 2) then (0) else (1)); let x33 : Int32 := x30 + x32; let x35 : Int32 := (if 0 ≤ ((fOne 1) + (fOne 2)) then (0) else (1)); let x36 : Int32 := x33 + x35; let x38 : Int32 := (if (fOne 1) ≤ (fOne 3) then (0) else (1)); let x39 : Int32 := x36 + x38; let x41 : Int32 := (if 0 ≤ ((fOne 1) + (fOne 3)) then (0) else (1)); let x42 : Int32 := x39 + x41; let x44 : Int32 := (if (fOne 2) ≤ (fOne 2) then (0) else (1)); let x45 : Int32 := x42 + x44; let x47 : Int32 := (if 0 ≤ ((fOne 2) + (fOne 2)) then (0) else (1)); let x48 : Int32 := x45 + x47; let x50 : Int32 := (if (fOne 2) ≤ (fOne 3) then (0) else (1)); let x51 : Int32 := x48 + x50; let x53 : Int32 := (if 0 ≤ ((fOne 2) + (fOne 3)) then (0) else (1)); let x54 : Int32 := x51 + x53; let x56 : Int32 := (if (fOne 3) ≤ (fOne 3) then (0) else (1)); let x57 : Int32 := x54 + x56; let x59 : Int32 := (if 0 ≤ ((fOne 3) + (fOne 3)) then (0) else (1)); let x60 : Int32 := x57 + x59; x60
set_option maxRecDepth 20000 in
set_option maxHeartbeats 8000000 in
theorem m_X11_lengthOfOne (l : Launch) (D : va_G) (cI cL cP cJ : ClassId) (o : Nat) (aS : Nat) (aPast : Nat) (aSnap : Nat) (aText : Nat) (aOne : Nat) (aTwo : Nat) (aBoth : Nat) (aWord : Nat) (aOpen : Nat) (aTimes : Nat) (aFar : Nat) (aQueue : Nat) (known : Int32) (kept : Int32) (len : Int32) (thr : Int32) (cre : Int32) (hash : Int64) (fOne : Nat → Int32) : M vI l yX11_lengthOfOne cX11_lengthOfOne 4 (some .int) 0 0 D (tyF cI cL cP cJ) [.ref o] [[(o, .inr (9, [.ref aS, .ref aPast, .int known, .ref aSnap, .int kept, .ref aText, .int len, .int thr, .ref aOne, .ref aTwo, .ref aBoth, .ref aWord, .int cre, .ref aOpen, .ref aTimes, .ref aFar, .ref aQueue, .long hash]))], [(aOne, .inl (cI, 4, .inl fOne))]] (fun (r : Int32) (w1 : List va_W) => r = (F_X11_lengthOfOne fOne) ∧ w1 = [[(o, .inr (9, [.ref aS, .ref aPast, .int known, .ref aSnap, .int kept, .ref aText, .int len, .int thr, .ref aOne, .ref aTwo, .ref aBoth, .ref aWord, .int cre, .ref aOpen, .ref aTimes, .ref aFar, .ref aQueue, .long hash]))], [(aOne, .inl (cI, 4, .inl fOne))]]) := by
  refine m_start (by decide +kernel) (Nat.le_of_ble_eq_true rfl) (fun p e s m args below meth c A Q hA hQ C hr hlo => ?_)
  refine r_Le (L' := [(0, .ref o)]) rfl ?_
  refine r_iconst (v := 0) C dX11_lengthOfOne_0 (by decide) ?_
  refine r_istore_n (L' := [(1, .int 0), (0, .ref o)]) C dX11_lengthOfOne_1 (by decide) rfl ?_
  refine r_iconst (v := 0) C dX11_lengthOfOne_2 (by decide) ?_
  refine r_istore_n (L' := [(2, .int 0), (1, .int 0), (0, .ref o)]) C dX11_lengthOfOne_3 (by decide) rfl ?_
  refine r_iload_n C dX11_lengthOfOne_4 0 rfl ?_
  refine r_iconst (v := 4) C dX11_lengthOfOne_5 (by decide) ?_
  refine r_icmp_ge (tgt := 75) C dX11_lengthOfOne_6 (by decide) (fun c => absurd c (by decide)) (fun _ => ?_)
  refine r_iload_n C dX11_lengthOfOne_9 0 rfl ?_
  refine r_istore_n (L' := [(3, .int 0), (2, .int 0), (1, .int 0), (0, .ref o)]) C dX11_lengthOfOne_10 (by decide) rfl ?_
  refine r_iload_n C dX11_lengthOfOne_11 0 rfl ?_
  refine r_iconst (v := 4) C dX11_lengthOfOne_12 (by decide) ?_
  refine r_icmp_ge (tgt := 69) C dX11_lengthOfOne_13 (by decide) (fun c => absurd c (by decide)) (fun _ => ?_)
  refine r_iload_n C dX11_lengthOfOne_16 2 rfl ?_
  refine r_aload_n C dX11_lengthOfOne_17 3 rfl ?_
  refine r_get (Cn := RX11) (T := TX11) (N := 18) C inT11 0 rfl rfl 8 (by decide) t_901 rfl dX11_lengthOfOne_18 ?_
  refine r_iload_n C dX11_lengthOfOne_21 1 rfl ?_
  refine r_iald (z := fOne 0) C 1 0 rfl rfl (vp_in_nI (n := 0) (N := 4) (by decide) (by decide)) dX11_lengthOfOne_22 (congrArg (fOne) (by decide)) ?_
  refine r_aload_n C dX11_lengthOfOne_23 3 rfl ?_
  refine r_get (Cn := RX11) (T := TX11) (N := 18) C inT11 0 rfl rfl 8 (by decide) t_901 rfl dX11_lengthOfOne_24 ?_
  refine r_iload_n C dX11_lengthOfOne_27 0 rfl ?_
  refine r_iald (z := fOne 0) C 1 0 rfl rfl (vp_in_nI (n := 0) (N := 4) (by decide) (by decide)) dX11_lengthOfOne_28 (congrArg (fOne) (by decide)) ?_
  suffices K : ∀ x2 : Int32, x2 = ((if (fOne 0) ≤ (fOne 0) then (0) else (1))) → V p l e (rmm 0 0) s m args below meth c 4 D A 0 0 Q [[(o, .inr (9, [.ref aS, .ref aPast, .int known, .ref aSnap, .int kept, .ref aText, .int len, .int thr, .ref aOne, .ref aTwo, .ref aBoth, .ref aWord, .int cre, .ref aOpen, .ref aTimes, .ref aFar, .ref aQueue, .long hash]))], [(aOne, .inl (cI, 4, .inl fOne))]] [(3, .int 0), (2, .int 0), (1, .int 0), (0, .ref o)] 37 [.int x2, .int 0] by
    refine r_icmp_le (tgt := 36) C dX11_lengthOfOne_29 (by decide) (fun c1 => ?_) (fun c1 => ?_)
    · refine r_iconst (v := 0) C dX11_lengthOfOne_36 (by decide) ?_
      exact K _ (by simp only [if_pos c1])
    · refine r_iconst (v := 1) C dX11_lengthOfOne_32 (by decide) ?_
      refine r_goto (tgt := 37) C dX11_lengthOfOne_33 (by decide) ?_
      exact K _ (by simp only [if_neg c1])
  intro x2 e_x2
  refine r_iadd C dX11_lengthOfOne_37 rfl ?_
  refine r_top (fun x3 e_x3 => ?_)
  refine r_istore_n (L' := [(1, .int x3), (3, .int 0), (2, .int 0), (0, .ref o)]) C dX11_lengthOfOne_38 (by decide) rfl ?_
  refine r_iload_n C dX11_lengthOfOne_39 0 rfl ?_
  refine r_aload_n C dX11_lengthOfOne_40 3 rfl ?_
  refine r_get (Cn := RX11) (T := TX11) (N := 18) C inT11 0 rfl rfl 8 (by decide) t_901 rfl dX11_lengthOfOne_41 ?_
  refine r_iload_n C dX11_lengthOfOne_44 2 rfl ?_
  refine r_iald (z := fOne 0) C 1 0 rfl rfl (vp_in_nI (n := 0) (N := 4) (by decide) (by decide)) dX11_lengthOfOne_45 (congrArg (fOne) (by decide)) ?_
  refine r_aload_n C dX11_lengthOfOne_46 3 rfl ?_
  refine r_get (Cn := RX11) (T := TX11) (N := 18) C inT11 0 rfl rfl 8 (by decide) t_901 rfl dX11_lengthOfOne_47 ?_
  refine r_iload_n C dX11_lengthOfOne_50 1 rfl ?_
  refine r_iald (z := fOne 0) C 1 0 rfl rfl (vp_in_nI (n := 0) (N := 4) (by decide) (by decide)) dX11_lengthOfOne_51 (congrArg (fOne) (by decide)) ?_
  refine r_iadd C dX11_lengthOfOne_52 rfl ?_
  suffices K : ∀ x5 : Int32, x5 = ((if 0 ≤ ((fOne 0) + (fOne 0)) then (0) else (1))) → V p l e (rmm 0 0) s m args below meth c 4 D A 0 0 Q [[(o, .inr (9, [.ref aS, .ref aPast, .int known, .ref aSnap, .int kept, .ref aText, .int len, .int thr, .ref aOne, .ref aTwo, .ref aBoth, .ref aWord, .int cre, .ref aOpen, .ref aTimes, .ref aFar, .ref aQueue, .long hash]))], [(aOne, .inl (cI, 4, .inl fOne))]] [(1, .int x3), (3, .int 0), (2, .int 0), (0, .ref o)] 61 [.int x5, .int x3] by
    refine r_if_ge (tgt := 60) C dX11_lengthOfOne_53 (by decide) (fun c4 => ?_) (fun c4 => ?_)
    · refine r_iconst (v := 0) C dX11_lengthOfOne_60 (by decide) ?_
      exact K _ (by simp only [if_pos c4])
    · refine r_iconst (v := 1) C dX11_lengthOfOne_56 (by decide) ?_
      refine r_goto (tgt := 61) C dX11_lengthOfOne_57 (by decide) ?_
      exact K _ (by simp only [if_neg c4])
  intro x5 e_x5
  refine r_iadd C dX11_lengthOfOne_61 rfl ?_
  refine r_top (fun x6 e_x6 => ?_)
  refine r_istore_n (L' := [(1, .int x6), (3, .int 0), (2, .int 0), (0, .ref o)]) C dX11_lengthOfOne_62 (by decide) rfl ?_
  refine r_iinc (v := 1) (L' := [(3, .int 1), (1, .int x6), (2, .int 0), (0, .ref o)]) C dX11_lengthOfOne_63 1 rfl (by decide) (by decide) rfl ?_
  refine r_goto (tgt := 11) C dX11_lengthOfOne_66 (by decide) ?_
  refine r_iload_n C dX11_lengthOfOne_11 0 rfl ?_
  refine r_iconst (v := 4) C dX11_lengthOfOne_12 (by decide) ?_
  refine r_icmp_ge (tgt := 69) C dX11_lengthOfOne_13 (by decide) (fun c => absurd c (by decide)) (fun _ => ?_)
  refine r_iload_n C dX11_lengthOfOne_16 1 rfl ?_
  refine r_aload_n C dX11_lengthOfOne_17 3 rfl ?_
  refine r_get (Cn := RX11) (T := TX11) (N := 18) C inT11 0 rfl rfl 8 (by decide) t_901 rfl dX11_lengthOfOne_18 ?_
  refine r_iload_n C dX11_lengthOfOne_21 2 rfl ?_
  refine r_iald (z := fOne 0) C 1 0 rfl rfl (vp_in_nI (n := 0) (N := 4) (by decide) (by decide)) dX11_lengthOfOne_22 (congrArg (fOne) (by decide)) ?_
  refine r_aload_n C dX11_lengthOfOne_23 3 rfl ?_
  refine r_get (Cn := RX11) (T := TX11) (N := 18) C inT11 0 rfl rfl 8 (by decide) t_901 rfl dX11_lengthOfOne_24 ?_
  refine r_iload_n C dX11_lengthOfOne_27 0 rfl ?_
  refine r_iald (z := fOne 1) C 1 0 rfl rfl (vp_in_nI (n := 1) (N := 4) (by decide) (by decide)) dX11_lengthOfOne_28 (congrArg (fOne) (by decide)) ?_
  suffices K : ∀ x8 : Int32, x8 = ((if (fOne 0) ≤ (fOne 1) then (0) else (1))) → V p l e (rmm 0 0) s m args below meth c 4 D A 0 0 Q [[(o, .inr (9, [.ref aS, .ref aPast, .int known, .ref aSnap, .int kept, .ref aText, .int len, .int thr, .ref aOne, .ref aTwo, .ref aBoth, .ref aWord, .int cre, .ref aOpen, .ref aTimes, .ref aFar, .ref aQueue, .long hash]))], [(aOne, .inl (cI, 4, .inl fOne))]] [(3, .int 1), (1, .int x6), (2, .int 0), (0, .ref o)] 37 [.int x8, .int x6] by
    refine r_icmp_le (tgt := 36) C dX11_lengthOfOne_29 (by decide) (fun c7 => ?_) (fun c7 => ?_)
    · refine r_iconst (v := 0) C dX11_lengthOfOne_36 (by decide) ?_
      exact K _ (by simp only [if_pos c7])
    · refine r_iconst (v := 1) C dX11_lengthOfOne_32 (by decide) ?_
      refine r_goto (tgt := 37) C dX11_lengthOfOne_33 (by decide) ?_
      exact K _ (by simp only [if_neg c7])
  intro x8 e_x8
  refine r_iadd C dX11_lengthOfOne_37 rfl ?_
  refine r_top (fun x9 e_x9 => ?_)
  refine r_istore_n (L' := [(1, .int x9), (3, .int 1), (2, .int 0), (0, .ref o)]) C dX11_lengthOfOne_38 (by decide) rfl ?_
  refine r_iload_n C dX11_lengthOfOne_39 0 rfl ?_
  refine r_aload_n C dX11_lengthOfOne_40 3 rfl ?_
  refine r_get (Cn := RX11) (T := TX11) (N := 18) C inT11 0 rfl rfl 8 (by decide) t_901 rfl dX11_lengthOfOne_41 ?_
  refine r_iload_n C dX11_lengthOfOne_44 2 rfl ?_
  refine r_iald (z := fOne 0) C 1 0 rfl rfl (vp_in_nI (n := 0) (N := 4) (by decide) (by decide)) dX11_lengthOfOne_45 (congrArg (fOne) (by decide)) ?_
  refine r_aload_n C dX11_lengthOfOne_46 3 rfl ?_
  refine r_get (Cn := RX11) (T := TX11) (N := 18) C inT11 0 rfl rfl 8 (by decide) t_901 rfl dX11_lengthOfOne_47 ?_
  refine r_iload_n C dX11_lengthOfOne_50 1 rfl ?_
  refine r_iald (z := fOne 1) C 1 0 rfl rfl (vp_in_nI (n := 1) (N := 4) (by decide) (by decide)) dX11_lengthOfOne_51 (congrArg (fOne) (by decide)) ?_
  refine r_iadd C dX11_lengthOfOne_52 rfl ?_
  suffices K : ∀ x11 : Int32, x11 = ((if 0 ≤ ((fOne 0) + (fOne 1)) then (0) else (1))) → V p l e (rmm 0 0) s m args below meth c 4 D A 0 0 Q [[(o, .inr (9, [.ref aS, .ref aPast, .int known, .ref aSnap, .int kept, .ref aText, .int len, .int thr, .ref aOne, .ref aTwo, .ref aBoth, .ref aWord, .int cre, .ref aOpen, .ref aTimes, .ref aFar, .ref aQueue, .long hash]))], [(aOne, .inl (cI, 4, .inl fOne))]] [(1, .int x9), (3, .int 1), (2, .int 0), (0, .ref o)] 61 [.int x11, .int x9] by
    refine r_if_ge (tgt := 60) C dX11_lengthOfOne_53 (by decide) (fun c10 => ?_) (fun c10 => ?_)
    · refine r_iconst (v := 0) C dX11_lengthOfOne_60 (by decide) ?_
      exact K _ (by simp only [if_pos c10])
    · refine r_iconst (v := 1) C dX11_lengthOfOne_56 (by decide) ?_
      refine r_goto (tgt := 61) C dX11_lengthOfOne_57 (by decide) ?_
      exact K _ (by simp only [if_neg c10])
  intro x11 e_x11
  refine r_iadd C dX11_lengthOfOne_61 rfl ?_
  refine r_top (fun x12 e_x12 => ?_)
  refine r_istore_n (L' := [(1, .int x12), (3, .int 1), (2, .int 0), (0, .ref o)]) C dX11_lengthOfOne_62 (by decide) rfl ?_
  refine r_iinc (v := 2) (L' := [(3, .int 2), (1, .int x12), (2, .int 0), (0, .ref o)]) C dX11_lengthOfOne_63 1 rfl (by decide) (by decide) rfl ?_
  refine r_goto (tgt := 11) C dX11_lengthOfOne_66 (by decide) ?_
  refine r_iload_n C dX11_lengthOfOne_11 0 rfl ?_
  refine r_iconst (v := 4) C dX11_lengthOfOne_12 (by decide) ?_
  refine r_icmp_ge (tgt := 69) C dX11_lengthOfOne_13 (by decide) (fun c => absurd c (by decide)) (fun _ => ?_)
  refine r_iload_n C dX11_lengthOfOne_16 1 rfl ?_
  refine r_aload_n C dX11_lengthOfOne_17 3 rfl ?_
  refine r_get (Cn := RX11) (T := TX11) (N := 18) C inT11 0 rfl rfl 8 (by decide) t_901 rfl dX11_lengthOfOne_18 ?_
  refine r_iload_n C dX11_lengthOfOne_21 2 rfl ?_
  refine r_iald (z := fOne 0) C 1 0 rfl rfl (vp_in_nI (n := 0) (N := 4) (by decide) (by decide)) dX11_lengthOfOne_22 (congrArg (fOne) (by decide)) ?_
  refine r_aload_n C dX11_lengthOfOne_23 3 rfl ?_
  refine r_get (Cn := RX11) (T := TX11) (N := 18) C inT11 0 rfl rfl 8 (by decide) t_901 rfl dX11_lengthOfOne_24 ?_
  refine r_iload_n C dX11_lengthOfOne_27 0 rfl ?_
  refine r_iald (z := fOne 2) C 1 0 rfl rfl (vp_in_nI (n := 2) (N := 4) (by decide) (by decide)) dX11_lengthOfOne_28 (congrArg (fOne) (by decide)) ?_
  suffices K : ∀ x14 : Int32, x14 = ((if (fOne 0) ≤ (fOne 2) then (0) else (1))) → V p l e (rmm 0 0) s m args below meth c 4 D A 0 0 Q [[(o, .inr (9, [.ref aS, .ref aPast, .int known, .ref aSnap, .int kept, .ref aText, .int len, .int thr, .ref aOne, .ref aTwo, .ref aBoth, .ref aWord, .int cre, .ref aOpen, .ref aTimes, .ref aFar, .ref aQueue, .long hash]))], [(aOne, .inl (cI, 4, .inl fOne))]] [(3, .int 2), (1, .int x12), (2, .int 0), (0, .ref o)] 37 [.int x14, .int x12] by
    refine r_icmp_le (tgt := 36) C dX11_lengthOfOne_29 (by decide) (fun c13 => ?_) (fun c13 => ?_)
    · refine r_iconst (v := 0) C dX11_lengthOfOne_36 (by decide) ?_
      exact K _ (by simp only [if_pos c13])
    · refine r_iconst (v := 1) C dX11_lengthOfOne_32 (by decide) ?_
      refine r_goto (tgt := 37) C dX11_lengthOfOne_33 (by decide) ?_
      exact K _ (by simp only [if_neg c13])
  intro x14 e_x14
  refine r_iadd C dX11_lengthOfOne_37 rfl ?_
  refine r_top (fun x15 e_x15 => ?_)
  refine r_istore_n (L' := [(1, .int x15), (3, .int 2), (2, .int 0), (0, .ref o)]) C dX11_lengthOfOne_38 (by decide) rfl ?_
  refine r_iload_n C dX11_lengthOfOne_39 0 rfl ?_
  refine r_aload_n C dX11_lengthOfOne_40 3 rfl ?_
  refine r_get (Cn := RX11) (T := TX11) (N := 18) C inT11 0 rfl rfl 8 (by decide) t_901 rfl dX11_lengthOfOne_41 ?_
  refine r_iload_n C dX11_lengthOfOne_44 2 rfl ?_
  refine r_iald (z := fOne 0) C 1 0 rfl rfl (vp_in_nI (n := 0) (N := 4) (by decide) (by decide)) dX11_lengthOfOne_45 (congrArg (fOne) (by decide)) ?_
  refine r_aload_n C dX11_lengthOfOne_46 3 rfl ?_
  refine r_get (Cn := RX11) (T := TX11) (N := 18) C inT11 0 rfl rfl 8 (by decide) t_901 rfl dX11_lengthOfOne_47 ?_
  refine r_iload_n C dX11_lengthOfOne_50 1 rfl ?_
  refine r_iald (z := fOne 2) C 1 0 rfl rfl (vp_in_nI (n := 2) (N := 4) (by decide) (by decide)) dX11_lengthOfOne_51 (congrArg (fOne) (by decide)) ?_
  refine r_iadd C dX11_lengthOfOne_52 rfl ?_
  suffices K : ∀ x17 : Int32, x17 = ((if 0 ≤ ((fOne 0) + (fOne 2)) then (0) else (1))) → V p l e (rmm 0 0) s m args below meth c 4 D A 0 0 Q [[(o, .inr (9, [.ref aS, .ref aPast, .int known, .ref aSnap, .int kept, .ref aText, .int len, .int thr, .ref aOne, .ref aTwo, .ref aBoth, .ref aWord, .int cre, .ref aOpen, .ref aTimes, .ref aFar, .ref aQueue, .long hash]))], [(aOne, .inl (cI, 4, .inl fOne))]] [(1, .int x15), (3, .int 2), (2, .int 0), (0, .ref o)] 61 [.int x17, .int x15] by
    refine r_if_ge (tgt := 60) C dX11_lengthOfOne_53 (by decide) (fun c16 => ?_) (fun c16 => ?_)
    · refine r_iconst (v := 0) C dX11_lengthOfOne_60 (by decide) ?_
      exact K _ (by simp only [if_pos c16])
    · refine r_iconst (v := 1) C dX11_lengthOfOne_56 (by decide) ?_
      refine r_goto (tgt := 61) C dX11_lengthOfOne_57 (by decide) ?_
      exact K _ (by simp only [if_neg c16])
  intro x17 e_x17
  refine r_iadd C dX11_lengthOfOne_61 rfl ?_
  refine r_top (fun x18 e_x18 => ?_)
  refine r_istore_n (L' := [(1, .int x18), (3, .int 2), (2, .int 0), (0, .ref o)]) C dX11_lengthOfOne_62 (by decide) rfl ?_
  refine r_iinc (v := 3) (L' := [(3, .int 3), (1, .int x18), (2, .int 0), (0, .ref o)]) C dX11_lengthOfOne_63 1 rfl (by decide) (by decide) rfl ?_
  refine r_goto (tgt := 11) C dX11_lengthOfOne_66 (by decide) ?_
  refine r_iload_n C dX11_lengthOfOne_11 0 rfl ?_
  refine r_iconst (v := 4) C dX11_lengthOfOne_12 (by decide) ?_
  refine r_icmp_ge (tgt := 69) C dX11_lengthOfOne_13 (by decide) (fun c => absurd c (by decide)) (fun _ => ?_)
  refine r_iload_n C dX11_lengthOfOne_16 1 rfl ?_
  refine r_aload_n C dX11_lengthOfOne_17 3 rfl ?_
  refine r_get (Cn := RX11) (T := TX11) (N := 18) C inT11 0 rfl rfl 8 (by decide) t_901 rfl dX11_lengthOfOne_18 ?_
  refine r_iload_n C dX11_lengthOfOne_21 2 rfl ?_
  refine r_iald (z := fOne 0) C 1 0 rfl rfl (vp_in_nI (n := 0) (N := 4) (by decide) (by decide)) dX11_lengthOfOne_22 (congrArg (fOne) (by decide)) ?_
  refine r_aload_n C dX11_lengthOfOne_23 3 rfl ?_
  refine r_get (Cn := RX11) (T := TX11) (N := 18) C inT11 0 rfl rfl 8 (by decide) t_901 rfl dX11_lengthOfOne_24 ?_
  refine r_iload_n C dX11_lengthOfOne_27 0 rfl ?_
  refine r_iald (z := fOne 3) C 1 0 rfl rfl (vp_in_nI (n := 3) (N := 4) (by decide) (by decide)) dX11_lengthOfOne_28 (congrArg (fOne) (by decide)) ?_
  suffices K : ∀ x20 : Int32, x20 = ((if (fOne 0) ≤ (fOne 3) then (0) else (1))) → V p l e (rmm 0 0) s m args below meth c 4 D A 0 0 Q [[(o, .inr (9, [.ref aS, .ref aPast, .int known, .ref aSnap, .int kept, .ref aText, .int len, .int thr, .ref aOne, .ref aTwo, .ref aBoth, .ref aWord, .int cre, .ref aOpen, .ref aTimes, .ref aFar, .ref aQueue, .long hash]))], [(aOne, .inl (cI, 4, .inl fOne))]] [(3, .int 3), (1, .int x18), (2, .int 0), (0, .ref o)] 37 [.int x20, .int x18] by
    refine r_icmp_le (tgt := 36) C dX11_lengthOfOne_29 (by decide) (fun c19 => ?_) (fun c19 => ?_)
    · refine r_iconst (v := 0) C dX11_lengthOfOne_36 (by decide) ?_
      exact K _ (by simp only [if_pos c19])
    · refine r_iconst (v := 1) C dX11_lengthOfOne_32 (by decide) ?_
      refine r_goto (tgt := 37) C dX11_lengthOfOne_33 (by decide) ?_
      exact K _ (by simp only [if_neg c19])
  intro x20 e_x20
  refine r_iadd C dX11_lengthOfOne_37 rfl ?_
  refine r_top (fun x21 e_x21 => ?_)
  refine r_istore_n (L' := [(1, .int x21), (3, .int 3), (2, .int 0), (0, .ref o)]) C dX11_lengthOfOne_38 (by decide) rfl ?_
  refine r_iload_n C dX11_lengthOfOne_39 0 rfl ?_
  refine r_aload_n C dX11_lengthOfOne_40 3 rfl ?_
  refine r_get (Cn := RX11) (T := TX11) (N := 18) C inT11 0 rfl rfl 8 (by decide) t_901 rfl dX11_lengthOfOne_41 ?_
  refine r_iload_n C dX11_lengthOfOne_44 2 rfl ?_
  refine r_iald (z := fOne 0) C 1 0 rfl rfl (vp_in_nI (n := 0) (N := 4) (by decide) (by decide)) dX11_lengthOfOne_45 (congrArg (fOne) (by decide)) ?_
  refine r_aload_n C dX11_lengthOfOne_46 3 rfl ?_
  refine r_get (Cn := RX11) (T := TX11) (N := 18) C inT11 0 rfl rfl 8 (by decide) t_901 rfl dX11_lengthOfOne_47 ?_
  refine r_iload_n C dX11_lengthOfOne_50 1 rfl ?_
  refine r_iald (z := fOne 3) C 1 0 rfl rfl (vp_in_nI (n := 3) (N := 4) (by decide) (by decide)) dX11_lengthOfOne_51 (congrArg (fOne) (by decide)) ?_
  refine r_iadd C dX11_lengthOfOne_52 rfl ?_
  suffices K : ∀ x23 : Int32, x23 = ((if 0 ≤ ((fOne 0) + (fOne 3)) then (0) else (1))) → V p l e (rmm 0 0) s m args below meth c 4 D A 0 0 Q [[(o, .inr (9, [.ref aS, .ref aPast, .int known, .ref aSnap, .int kept, .ref aText, .int len, .int thr, .ref aOne, .ref aTwo, .ref aBoth, .ref aWord, .int cre, .ref aOpen, .ref aTimes, .ref aFar, .ref aQueue, .long hash]))], [(aOne, .inl (cI, 4, .inl fOne))]] [(1, .int x21), (3, .int 3), (2, .int 0), (0, .ref o)] 61 [.int x23, .int x21] by
    refine r_if_ge (tgt := 60) C dX11_lengthOfOne_53 (by decide) (fun c22 => ?_) (fun c22 => ?_)
    · refine r_iconst (v := 0) C dX11_lengthOfOne_60 (by decide) ?_
      exact K _ (by simp only [if_pos c22])
    · refine r_iconst (v := 1) C dX11_lengthOfOne_56 (by decide) ?_
      refine r_goto (tgt := 61) C dX11_lengthOfOne_57 (by decide) ?_
      exact K _ (by simp only [if_neg c22])
  intro x23 e_x23
  refine r_iadd C dX11_lengthOfOne_61 rfl ?_
  refine r_top (fun x24 e_x24 => ?_)
  refine r_istore_n (L' := [(1, .int x24), (3, .int 3), (2, .int 0), (0, .ref o)]) C dX11_lengthOfOne_62 (by decide) rfl ?_
  refine r_iinc (v := 4) (L' := [(3, .int 4), (1, .int x24), (2, .int 0), (0, .ref o)]) C dX11_lengthOfOne_63 1 rfl (by decide) (by decide) rfl ?_
  refine r_goto (tgt := 11) C dX11_lengthOfOne_66 (by decide) ?_
  refine r_iload_n C dX11_lengthOfOne_11 0 rfl ?_
  refine r_iconst (v := 4) C dX11_lengthOfOne_12 (by decide) ?_
  refine r_icmp_ge (tgt := 69) C dX11_lengthOfOne_13 (by decide) (fun _ => ?_) (fun c => absurd c (by decide))
  refine r_iinc (v := 1) (L' := [(2, .int 1), (3, .int 4), (1, .int x24), (0, .ref o)]) C dX11_lengthOfOne_69 2 rfl (by decide) (by decide) rfl ?_
  refine r_goto (tgt := 4) C dX11_lengthOfOne_72 (by decide) ?_
  refine r_iload_n C dX11_lengthOfOne_4 0 rfl ?_
  refine r_iconst (v := 4) C dX11_lengthOfOne_5 (by decide) ?_
  refine r_icmp_ge (tgt := 75) C dX11_lengthOfOne_6 (by decide) (fun c => absurd c (by decide)) (fun _ => ?_)
  refine r_iload_n C dX11_lengthOfOne_9 0 rfl ?_
  refine r_istore_n (L' := [(3, .int 1), (2, .int 1), (1, .int x24), (0, .ref o)]) C dX11_lengthOfOne_10 (by decide) rfl ?_
  refine r_iload_n C dX11_lengthOfOne_11 0 rfl ?_
  refine r_iconst (v := 4) C dX11_lengthOfOne_12 (by decide) ?_
  refine r_icmp_ge (tgt := 69) C dX11_lengthOfOne_13 (by decide) (fun c => absurd c (by decide)) (fun _ => ?_)
  refine r_iload_n C dX11_lengthOfOne_16 2 rfl ?_
  refine r_aload_n C dX11_lengthOfOne_17 3 rfl ?_
  refine r_get (Cn := RX11) (T := TX11) (N := 18) C inT11 0 rfl rfl 8 (by decide) t_901 rfl dX11_lengthOfOne_18 ?_
  refine r_iload_n C dX11_lengthOfOne_21 1 rfl ?_
  refine r_iald (z := fOne 1) C 1 0 rfl rfl (vp_in_nI (n := 1) (N := 4) (by decide) (by decide)) dX11_lengthOfOne_22 (congrArg (fOne) (by decide)) ?_
  refine r_aload_n C dX11_lengthOfOne_23 3 rfl ?_
  refine r_get (Cn := RX11) (T := TX11) (N := 18) C inT11 0 rfl rfl 8 (by decide) t_901 rfl dX11_lengthOfOne_24 ?_
  refine r_iload_n C dX11_lengthOfOne_27 0 rfl ?_
  refine r_iald (z := fOne 1) C 1 0 rfl rfl (vp_in_nI (n := 1) (N := 4) (by decide) (by decide)) dX11_lengthOfOne_28 (congrArg (fOne) (by decide)) ?_
  suffices K : ∀ x26 : Int32, x26 = ((if (fOne 1) ≤ (fOne 1) then (0) else (1))) → V p l e (rmm 0 0) s m args below meth c 4 D A 0 0 Q [[(o, .inr (9, [.ref aS, .ref aPast, .int known, .ref aSnap, .int kept, .ref aText, .int len, .int thr, .ref aOne, .ref aTwo, .ref aBoth, .ref aWord, .int cre, .ref aOpen, .ref aTimes, .ref aFar, .ref aQueue, .long hash]))], [(aOne, .inl (cI, 4, .inl fOne))]] [(3, .int 1), (2, .int 1), (1, .int x24), (0, .ref o)] 37 [.int x26, .int x24] by
    refine r_icmp_le (tgt := 36) C dX11_lengthOfOne_29 (by decide) (fun c25 => ?_) (fun c25 => ?_)
    · refine r_iconst (v := 0) C dX11_lengthOfOne_36 (by decide) ?_
      exact K _ (by simp only [if_pos c25])
    · refine r_iconst (v := 1) C dX11_lengthOfOne_32 (by decide) ?_
      refine r_goto (tgt := 37) C dX11_lengthOfOne_33 (by decide) ?_
      exact K _ (by simp only [if_neg c25])
  intro x26 e_x26
  refine r_iadd C dX11_lengthOfOne_37 rfl ?_
  refine r_top (fun x27 e_x27 => ?_)
  refine r_istore_n (L' := [(1, .int x27), (3, .int 1), (2, .int 1), (0, .ref o)]) C dX11_lengthOfOne_38 (by decide) rfl ?_
  refine r_iload_n C dX11_lengthOfOne_39 0 rfl ?_
  refine r_aload_n C dX11_lengthOfOne_40 3 rfl ?_
  refine r_get (Cn := RX11) (T := TX11) (N := 18) C inT11 0 rfl rfl 8 (by decide) t_901 rfl dX11_lengthOfOne_41 ?_
  refine r_iload_n C dX11_lengthOfOne_44 2 rfl ?_
  refine r_iald (z := fOne 1) C 1 0 rfl rfl (vp_in_nI (n := 1) (N := 4) (by decide) (by decide)) dX11_lengthOfOne_45 (congrArg (fOne) (by decide)) ?_
  refine r_aload_n C dX11_lengthOfOne_46 3 rfl ?_
  refine r_get (Cn := RX11) (T := TX11) (N := 18) C inT11 0 rfl rfl 8 (by decide) t_901 rfl dX11_lengthOfOne_47 ?_
  refine r_iload_n C dX11_lengthOfOne_50 1 rfl ?_
  refine r_iald (z := fOne 1) C 1 0 rfl rfl (vp_in_nI (n := 1) (N := 4) (by decide) (by decide)) dX11_lengthOfOne_51 (congrArg (fOne) (by decide)) ?_
  refine r_iadd C dX11_lengthOfOne_52 rfl ?_
  suffices K : ∀ x29 : Int32, x29 = ((if 0 ≤ ((fOne 1) + (fOne 1)) then (0) else (1))) → V p l e (rmm 0 0) s m args below meth c 4 D A 0 0 Q [[(o, .inr (9, [.ref aS, .ref aPast, .int known, .ref aSnap, .int kept, .ref aText, .int len, .int thr, .ref aOne, .ref aTwo, .ref aBoth, .ref aWord, .int cre, .ref aOpen, .ref aTimes, .ref aFar, .ref aQueue, .long hash]))], [(aOne, .inl (cI, 4, .inl fOne))]] [(1, .int x27), (3, .int 1), (2, .int 1), (0, .ref o)] 61 [.int x29, .int x27] by
    refine r_if_ge (tgt := 60) C dX11_lengthOfOne_53 (by decide) (fun c28 => ?_) (fun c28 => ?_)
    · refine r_iconst (v := 0) C dX11_lengthOfOne_60 (by decide) ?_
      exact K _ (by simp only [if_pos c28])
    · refine r_iconst (v := 1) C dX11_lengthOfOne_56 (by decide) ?_
      refine r_goto (tgt := 61) C dX11_lengthOfOne_57 (by decide) ?_
      exact K _ (by simp only [if_neg c28])
  intro x29 e_x29
  refine r_iadd C dX11_lengthOfOne_61 rfl ?_
  refine r_top (fun x30 e_x30 => ?_)
  refine r_istore_n (L' := [(1, .int x30), (3, .int 1), (2, .int 1), (0, .ref o)]) C dX11_lengthOfOne_62 (by decide) rfl ?_
  refine r_iinc (v := 2) (L' := [(3, .int 2), (1, .int x30), (2, .int 1), (0, .ref o)]) C dX11_lengthOfOne_63 1 rfl (by decide) (by decide) rfl ?_
  refine r_goto (tgt := 11) C dX11_lengthOfOne_66 (by decide) ?_
  refine r_iload_n C dX11_lengthOfOne_11 0 rfl ?_
  refine r_iconst (v := 4) C dX11_lengthOfOne_12 (by decide) ?_
  refine r_icmp_ge (tgt := 69) C dX11_lengthOfOne_13 (by decide) (fun c => absurd c (by decide)) (fun _ => ?_)
  refine r_iload_n C dX11_lengthOfOne_16 1 rfl ?_
  refine r_aload_n C dX11_lengthOfOne_17 3 rfl ?_
  refine r_get (Cn := RX11) (T := TX11) (N := 18) C inT11 0 rfl rfl 8 (by decide) t_901 rfl dX11_lengthOfOne_18 ?_
  refine r_iload_n C dX11_lengthOfOne_21 2 rfl ?_
  refine r_iald (z := fOne 1) C 1 0 rfl rfl (vp_in_nI (n := 1) (N := 4) (by decide) (by decide)) dX11_lengthOfOne_22 (congrArg (fOne) (by decide)) ?_
  refine r_aload_n C dX11_lengthOfOne_23 3 rfl ?_
  refine r_get (Cn := RX11) (T := TX11) (N := 18) C inT11 0 rfl rfl 8 (by decide) t_901 rfl dX11_lengthOfOne_24 ?_
  refine r_iload_n C dX11_lengthOfOne_27 0 rfl ?_
  refine r_iald (z := fOne 2) C 1 0 rfl rfl (vp_in_nI (n := 2) (N := 4) (by decide) (by decide)) dX11_lengthOfOne_28 (congrArg (fOne) (by decide)) ?_
  suffices K : ∀ x32 : Int32, x32 = ((if (fOne 1) ≤ (fOne 2) then (0) else (1))) → V p l e (rmm 0 0) s m args below meth c 4 D A 0 0 Q [[(o, .inr (9, [.ref aS, .ref aPast, .int known, .ref aSnap, .int kept, .ref aText, .int len, .int thr, .ref aOne, .ref aTwo, .ref aBoth, .ref aWord, .int cre, .ref aOpen, .ref aTimes, .ref aFar, .ref aQueue, .long hash]))], [(aOne, .inl (cI, 4, .inl fOne))]] [(3, .int 2), (1, .int x30), (2, .int 1), (0, .ref o)] 37 [.int x32, .int x30] by
    refine r_icmp_le (tgt := 36) C dX11_lengthOfOne_29 (by decide) (fun c31 => ?_) (fun c31 => ?_)
    · refine r_iconst (v := 0) C dX11_lengthOfOne_36 (by decide) ?_
      exact K _ (by simp only [if_pos c31])
    · refine r_iconst (v := 1) C dX11_lengthOfOne_32 (by decide) ?_
      refine r_goto (tgt := 37) C dX11_lengthOfOne_33 (by decide) ?_
      exact K _ (by simp only [if_neg c31])
  intro x32 e_x32
  refine r_iadd C dX11_lengthOfOne_37 rfl ?_
  refine r_top (fun x33 e_x33 => ?_)
  refine r_istore_n (L' := [(1, .int x33), (3, .int 2), (2, .int 1), (0, .ref o)]) C dX11_lengthOfOne_38 (by decide) rfl ?_
  refine r_iload_n C dX11_lengthOfOne_39 0 rfl ?_
  refine r_aload_n C dX11_lengthOfOne_40 3 rfl ?_
  refine r_get (Cn := RX11) (T := TX11) (N := 18) C inT11 0 rfl rfl 8 (by decide) t_901 rfl dX11_lengthOfOne_41 ?_
  refine r_iload_n C dX11_lengthOfOne_44 2 rfl ?_
  refine r_iald (z := fOne 1) C 1 0 rfl rfl (vp_in_nI (n := 1) (N := 4) (by decide) (by decide)) dX11_lengthOfOne_45 (congrArg (fOne) (by decide)) ?_
  refine r_aload_n C dX11_lengthOfOne_46 3 rfl ?_
  refine r_get (Cn := RX11) (T := TX11) (N := 18) C inT11 0 rfl rfl 8 (by decide) t_901 rfl dX11_lengthOfOne_47 ?_
  refine r_iload_n C dX11_lengthOfOne_50 1 rfl ?_
  refine r_iald (z := fOne 2) C 1 0 rfl rfl (vp_in_nI (n := 2) (N := 4) (by decide) (by decide)) dX11_lengthOfOne_51 (congrArg (fOne) (by decide)) ?_
  refine r_iadd C dX11_lengthOfOne_52 rfl ?_
  suffices K : ∀ x35 : Int32, x35 = ((if 0 ≤ ((fOne 1) + (fOne 2)) then (0) else (1))) → V p l e (rmm 0 0) s m args below meth c 4 D A 0 0 Q [[(o, .inr (9, [.ref aS, .ref aPast, .int known, .ref aSnap, .int kept, .ref aText, .int len, .int thr, .ref aOne, .ref aTwo, .ref aBoth, .ref aWord, .int cre, .ref aOpen, .ref aTimes, .ref aFar, .ref aQueue, .long hash]))], [(aOne, .inl (cI, 4, .inl fOne))]] [(1, .int x33), (3, .int 2), (2, .int 1), (0, .ref o)] 61 [.int x35, .int x33] by
    refine r_if_ge (tgt := 60) C dX11_lengthOfOne_53 (by decide) (fun c34 => ?_) (fun c34 => ?_)
    · refine r_iconst (v := 0) C dX11_lengthOfOne_60 (by decide) ?_
      exact K _ (by simp only [if_pos c34])
    · refine r_iconst (v := 1) C dX11_lengthOfOne_56 (by decide) ?_
      refine r_goto (tgt := 61) C dX11_lengthOfOne_57 (by decide) ?_
      exact K _ (by simp only [if_neg c34])
  intro x35 e_x35
  refine r_iadd C dX11_lengthOfOne_61 rfl ?_
  refine r_top (fun x36 e_x36 => ?_)
  refine r_istore_n (L' := [(1, .int x36), (3, .int 2), (2, .int 1), (0, .ref o)]) C dX11_lengthOfOne_62 (by decide) rfl ?_
  refine r_iinc (v := 3) (L' := [(3, .int 3), (1, .int x36), (2, .int 1), (0, .ref o)]) C dX11_lengthOfOne_63 1 rfl (by decide) (by decide) rfl ?_
  refine r_goto (tgt := 11) C dX11_lengthOfOne_66 (by decide) ?_
  refine r_iload_n C dX11_lengthOfOne_11 0 rfl ?_
  refine r_iconst (v := 4) C dX11_lengthOfOne_12 (by decide) ?_
  refine r_icmp_ge (tgt := 69) C dX11_lengthOfOne_13 (by decide) (fun c => absurd c (by decide)) (fun _ => ?_)
  refine r_iload_n C dX11_lengthOfOne_16 1 rfl ?_
  refine r_aload_n C dX11_lengthOfOne_17 3 rfl ?_
  refine r_get (Cn := RX11) (T := TX11) (N := 18) C inT11 0 rfl rfl 8 (by decide) t_901 rfl dX11_lengthOfOne_18 ?_
  refine r_iload_n C dX11_lengthOfOne_21 2 rfl ?_
  refine r_iald (z := fOne 1) C 1 0 rfl rfl (vp_in_nI (n := 1) (N := 4) (by decide) (by decide)) dX11_lengthOfOne_22 (congrArg (fOne) (by decide)) ?_
  refine r_aload_n C dX11_lengthOfOne_23 3 rfl ?_
  refine r_get (Cn := RX11) (T := TX11) (N := 18) C inT11 0 rfl rfl 8 (by decide) t_901 rfl dX11_lengthOfOne_24 ?_
  refine r_iload_n C dX11_lengthOfOne_27 0 rfl ?_
  refine r_iald (z := fOne 3) C 1 0 rfl rfl (vp_in_nI (n := 3) (N := 4) (by decide) (by decide)) dX11_lengthOfOne_28 (congrArg (fOne) (by decide)) ?_
  suffices K : ∀ x38 : Int32, x38 = ((if (fOne 1) ≤ (fOne 3) then (0) else (1))) → V p l e (rmm 0 0) s m args below meth c 4 D A 0 0 Q [[(o, .inr (9, [.ref aS, .ref aPast, .int known, .ref aSnap, .int kept, .ref aText, .int len, .int thr, .ref aOne, .ref aTwo, .ref aBoth, .ref aWord, .int cre, .ref aOpen, .ref aTimes, .ref aFar, .ref aQueue, .long hash]))], [(aOne, .inl (cI, 4, .inl fOne))]] [(3, .int 3), (1, .int x36), (2, .int 1), (0, .ref o)] 37 [.int x38, .int x36] by
    refine r_icmp_le (tgt := 36) C dX11_lengthOfOne_29 (by decide) (fun c37 => ?_) (fun c37 => ?_)
    · refine r_iconst (v := 0) C dX11_lengthOfOne_36 (by decide) ?_
      exact K _ (by simp only [if_pos c37])
    · refine r_iconst (v := 1) C dX11_lengthOfOne_32 (by decide) ?_
      refine r_goto (tgt := 37) C dX11_lengthOfOne_33 (by decide) ?_
      exact K _ (by simp only [if_neg c37])
  intro x38 e_x38
  refine r_iadd C dX11_lengthOfOne_37 rfl ?_
  refine r_top (fun x39 e_x39 => ?_)
  refine r_istore_n (L' := [(1, .int x39), (3, .int 3), (2, .int 1), (0, .ref o)]) C dX11_lengthOfOne_38 (by decide) rfl ?_
  refine r_iload_n C dX11_lengthOfOne_39 0 rfl ?_
  refine r_aload_n C dX11_lengthOfOne_40 3 rfl ?_
  refine r_get (Cn := RX11) (T := TX11) (N := 18) C inT11 0 rfl rfl 8 (by decide) t_901 rfl dX11_lengthOfOne_41 ?_
  refine r_iload_n C dX11_lengthOfOne_44 2 rfl ?_
  refine r_iald (z := fOne 1) C 1 0 rfl rfl (vp_in_nI (n := 1) (N := 4) (by decide) (by decide)) dX11_lengthOfOne_45 (congrArg (fOne) (by decide)) ?_
  refine r_aload_n C dX11_lengthOfOne_46 3 rfl ?_
  refine r_get (Cn := RX11) (T := TX11) (N := 18) C inT11 0 rfl rfl 8 (by decide) t_901 rfl dX11_lengthOfOne_47 ?_
  refine r_iload_n C dX11_lengthOfOne_50 1 rfl ?_
  refine r_iald (z := fOne 3) C 1 0 rfl rfl (vp_in_nI (n := 3) (N := 4) (by decide) (by decide)) dX11_lengthOfOne_51 (congrArg (fOne) (by decide)) ?_
  refine r_iadd C dX11_lengthOfOne_52 rfl ?_
  suffices K : ∀ x41 : Int32, x41 = ((if 0 ≤ ((fOne 1) + (fOne 3)) then (0) else (1))) → V p l e (rmm 0 0) s m args below meth c 4 D A 0 0 Q [[(o, .inr (9, [.ref aS, .ref aPast, .int known, .ref aSnap, .int kept, .ref aText, .int len, .int thr, .ref aOne, .ref aTwo, .ref aBoth, .ref aWord, .int cre, .ref aOpen, .ref aTimes, .ref aFar, .ref aQueue, .long hash]))], [(aOne, .inl (cI, 4, .inl fOne))]] [(1, .int x39), (3, .int 3), (2, .int 1), (0, .ref o)] 61 [.int x41, .int x39] by
    refine r_if_ge (tgt := 60) C dX11_lengthOfOne_53 (by decide) (fun c40 => ?_) (fun c40 => ?_)
    · refine r_iconst (v := 0) C dX11_lengthOfOne_60 (by decide) ?_
      exact K _ (by simp only [if_pos c40])
    · refine r_iconst (v := 1) C dX11_lengthOfOne_56 (by decide) ?_
      refine r_goto (tgt := 61) C dX11_lengthOfOne_57 (by decide) ?_
      exact K _ (by simp only [if_neg c40])
  intro x41 e_x41
  refine r_iadd C dX11_lengthOfOne_61 rfl ?_
  refine r_top (fun x42 e_x42 => ?_)
  refine r_istore_n (L' := [(1, .int x42), (3, .int 3), (2, .int 1), (0, .ref o)]) C dX11_lengthOfOne_62 (by decide) rfl ?_
  refine r_iinc (v := 4) (L' := [(3, .int 4), (1, .int x42), (2, .int 1), (0, .ref o)]) C dX11_lengthOfOne_63 1 rfl (by decide) (by decide) rfl ?_
  refine r_goto (tgt := 11) C dX11_lengthOfOne_66 (by decide) ?_
  refine r_iload_n C dX11_lengthOfOne_11 0 rfl ?_
  refine r_iconst (v := 4) C dX11_lengthOfOne_12 (by decide) ?_
  refine r_icmp_ge (tgt := 69) C dX11_lengthOfOne_13 (by decide) (fun _ => ?_) (fun c => absurd c (by decide))
  refine r_iinc (v := 2) (L' := [(2, .int 2), (3, .int 4), (1, .int x42), (0, .ref o)]) C dX11_lengthOfOne_69 2 rfl (by decide) (by decide) rfl ?_
  refine r_goto (tgt := 4) C dX11_lengthOfOne_72 (by decide) ?_
  refine r_iload_n C dX11_lengthOfOne_4 0 rfl ?_
  refine r_iconst (v := 4) C dX11_lengthOfOne_5 (by decide) ?_
  refine r_icmp_ge (tgt := 75) C dX11_lengthOfOne_6 (by decide) (fun c => absurd c (by decide)) (fun _ => ?_)
  refine r_iload_n C dX11_lengthOfOne_9 0 rfl ?_
  refine r_istore_n (L' := [(3, .int 2), (2, .int 2), (1, .int x42), (0, .ref o)]) C dX11_lengthOfOne_10 (by decide) rfl ?_
  refine r_iload_n C dX11_lengthOfOne_11 0 rfl ?_
  refine r_iconst (v := 4) C dX11_lengthOfOne_12 (by decide) ?_
  refine r_icmp_ge (tgt := 69) C dX11_lengthOfOne_13 (by decide) (fun c => absurd c (by decide)) (fun _ => ?_)
  refine r_iload_n C dX11_lengthOfOne_16 2 rfl ?_
  refine r_aload_n C dX11_lengthOfOne_17 3 rfl ?_
  refine r_get (Cn := RX11) (T := TX11) (N := 18) C inT11 0 rfl rfl 8 (by decide) t_901 rfl dX11_lengthOfOne_18 ?_
  refine r_iload_n C dX11_lengthOfOne_21 1 rfl ?_
  refine r_iald (z := fOne 2) C 1 0 rfl rfl (vp_in_nI (n := 2) (N := 4) (by decide) (by decide)) dX11_lengthOfOne_22 (congrArg (fOne) (by decide)) ?_
  refine r_aload_n C dX11_lengthOfOne_23 3 rfl ?_
  refine r_get (Cn := RX11) (T := TX11) (N := 18) C inT11 0 rfl rfl 8 (by decide) t_901 rfl dX11_lengthOfOne_24 ?_
  refine r_iload_n C dX11_lengthOfOne_27 0 rfl ?_
  refine r_iald (z := fOne 2) C 1 0 rfl rfl (vp_in_nI (n := 2) (N := 4) (by decide) (by decide)) dX11_lengthOfOne_28 (congrArg (fOne) (by decide)) ?_
  suffices K : ∀ x44 : Int32, x44 = ((if (fOne 2) ≤ (fOne 2) then (0) else (1))) → V p l e (rmm 0 0) s m args below meth c 4 D A 0 0 Q [[(o, .inr (9, [.ref aS, .ref aPast, .int known, .ref aSnap, .int kept, .ref aText, .int len, .int thr, .ref aOne, .ref aTwo, .ref aBoth, .ref aWord, .int cre, .ref aOpen, .ref aTimes, .ref aFar, .ref aQueue, .long hash]))], [(aOne, .inl (cI, 4, .inl fOne))]] [(3, .int 2), (2, .int 2), (1, .int x42), (0, .ref o)] 37 [.int x44, .int x42] by
    refine r_icmp_le (tgt := 36) C dX11_lengthOfOne_29 (by decide) (fun c43 => ?_) (fun c43 => ?_)
    · refine r_iconst (v := 0) C dX11_lengthOfOne_36 (by decide) ?_
      exact K _ (by simp only [if_pos c43])
    · refine r_iconst (v := 1) C dX11_lengthOfOne_32 (by decide) ?_
      refine r_goto (tgt := 37) C dX11_lengthOfOne_33 (by decide) ?_
      exact K _ (by simp only [if_neg c43])
  intro x44 e_x44
  refine r_iadd C dX11_lengthOfOne_37 rfl ?_
  refine r_top (fun x45 e_x45 => ?_)
  refine r_istore_n (L' := [(1, .int x45), (3, .int 2), (2, .int 2), (0, .ref o)]) C dX11_lengthOfOne_38 (by decide) rfl ?_
  refine r_iload_n C dX11_lengthOfOne_39 0 rfl ?_
  refine r_aload_n C dX11_lengthOfOne_40 3 rfl ?_
  refine r_get (Cn := RX11) (T := TX11) (N := 18) C inT11 0 rfl rfl 8 (by decide) t_901 rfl dX11_lengthOfOne_41 ?_
  refine r_iload_n C dX11_lengthOfOne_44 2 rfl ?_
  refine r_iald (z := fOne 2) C 1 0 rfl rfl (vp_in_nI (n := 2) (N := 4) (by decide) (by decide)) dX11_lengthOfOne_45 (congrArg (fOne) (by decide)) ?_
  refine r_aload_n C dX11_lengthOfOne_46 3 rfl ?_
  refine r_get (Cn := RX11) (T := TX11) (N := 18) C inT11 0 rfl rfl 8 (by decide) t_901 rfl dX11_lengthOfOne_47 ?_
  refine r_iload_n C dX11_lengthOfOne_50 1 rfl ?_
  refine r_iald (z := fOne 2) C 1 0 rfl rfl (vp_in_nI (n := 2) (N := 4) (by decide) (by decide)) dX11_lengthOfOne_51 (congrArg (fOne) (by decide)) ?_
  refine r_iadd C dX11_lengthOfOne_52 rfl ?_
  suffices K : ∀ x47 : Int32, x47 = ((if 0 ≤ ((fOne 2) + (fOne 2)) then (0) else (1))) → V p l e (rmm 0 0) s m args below meth c 4 D A 0 0 Q [[(o, .inr (9, [.ref aS, .ref aPast, .int known, .ref aSnap, .int kept, .ref aText, .int len, .int thr, .ref aOne, .ref aTwo, .ref aBoth, .ref aWord, .int cre, .ref aOpen, .ref aTimes, .ref aFar, .ref aQueue, .long hash]))], [(aOne, .inl (cI, 4, .inl fOne))]] [(1, .int x45), (3, .int 2), (2, .int 2), (0, .ref o)] 61 [.int x47, .int x45] by
    refine r_if_ge (tgt := 60) C dX11_lengthOfOne_53 (by decide) (fun c46 => ?_) (fun c46 => ?_)
    · refine r_iconst (v := 0) C dX11_lengthOfOne_60 (by decide) ?_
      exact K _ (by simp only [if_pos c46])
    · refine r_iconst (v := 1) C dX11_lengthOfOne_56 (by decide) ?_
      refine r_goto (tgt := 61) C dX11_lengthOfOne_57 (by decide) ?_
      exact K _ (by simp only [if_neg c46])
  intro x47 e_x47
  refine r_iadd C dX11_lengthOfOne_61 rfl ?_
  refine r_top (fun x48 e_x48 => ?_)
  refine r_istore_n (L' := [(1, .int x48), (3, .int 2), (2, .int 2), (0, .ref o)]) C dX11_lengthOfOne_62 (by decide) rfl ?_
  refine r_iinc (v := 3) (L' := [(3, .int 3), (1, .int x48), (2, .int 2), (0, .ref o)]) C dX11_lengthOfOne_63 1 rfl (by decide) (by decide) rfl ?_
  refine r_goto (tgt := 11) C dX11_lengthOfOne_66 (by decide) ?_
  refine r_iload_n C dX11_lengthOfOne_11 0 rfl ?_
  refine r_iconst (v := 4) C dX11_lengthOfOne_12 (by decide) ?_
  refine r_icmp_ge (tgt := 69) C dX11_lengthOfOne_13 (by decide) (fun c => absurd c (by decide)) (fun _ => ?_)
  refine r_iload_n C dX11_lengthOfOne_16 1 rfl ?_
  refine r_aload_n C dX11_lengthOfOne_17 3 rfl ?_
  refine r_get (Cn := RX11) (T := TX11) (N := 18) C inT11 0 rfl rfl 8 (by decide) t_901 rfl dX11_lengthOfOne_18 ?_
  refine r_iload_n C dX11_lengthOfOne_21 2 rfl ?_
  refine r_iald (z := fOne 2) C 1 0 rfl rfl (vp_in_nI (n := 2) (N := 4) (by decide) (by decide)) dX11_lengthOfOne_22 (congrArg (fOne) (by decide)) ?_
  refine r_aload_n C dX11_lengthOfOne_23 3 rfl ?_
  refine r_get (Cn := RX11) (T := TX11) (N := 18) C inT11 0 rfl rfl 8 (by decide) t_901 rfl dX11_lengthOfOne_24 ?_
  refine r_iload_n C dX11_lengthOfOne_27 0 rfl ?_
  refine r_iald (z := fOne 3) C 1 0 rfl rfl (vp_in_nI (n := 3) (N := 4) (by decide) (by decide)) dX11_lengthOfOne_28 (congrArg (fOne) (by decide)) ?_
  suffices K : ∀ x50 : Int32, x50 = ((if (fOne 2) ≤ (fOne 3) then (0) else (1))) → V p l e (rmm 0 0) s m args below meth c 4 D A 0 0 Q [[(o, .inr (9, [.ref aS, .ref aPast, .int known, .ref aSnap, .int kept, .ref aText, .int len, .int thr, .ref aOne, .ref aTwo, .ref aBoth, .ref aWord, .int cre, .ref aOpen, .ref aTimes, .ref aFar, .ref aQueue, .long hash]))], [(aOne, .inl (cI, 4, .inl fOne))]] [(3, .int 3), (1, .int x48), (2, .int 2), (0, .ref o)] 37 [.int x50, .int x48] by
    refine r_icmp_le (tgt := 36) C dX11_lengthOfOne_29 (by decide) (fun c49 => ?_) (fun c49 => ?_)
    · refine r_iconst (v := 0) C dX11_lengthOfOne_36 (by decide) ?_
      exact K _ (by simp only [if_pos c49])
    · refine r_iconst (v := 1) C dX11_lengthOfOne_32 (by decide) ?_
      refine r_goto (tgt := 37) C dX11_lengthOfOne_33 (by decide) ?_
      exact K _ (by simp only [if_neg c49])
  intro x50 e_x50
  refine r_iadd C dX11_lengthOfOne_37 rfl ?_
  refine r_top (fun x51 e_x51 => ?_)
  refine r_istore_n (L' := [(1, .int x51), (3, .int 3), (2, .int 2), (0, .ref o)]) C dX11_lengthOfOne_38 (by decide) rfl ?_
  refine r_iload_n C dX11_lengthOfOne_39 0 rfl ?_
  refine r_aload_n C dX11_lengthOfOne_40 3 rfl ?_
  refine r_get (Cn := RX11) (T := TX11) (N := 18) C inT11 0 rfl rfl 8 (by decide) t_901 rfl dX11_lengthOfOne_41 ?_
  refine r_iload_n C dX11_lengthOfOne_44 2 rfl ?_
  refine r_iald (z := fOne 2) C 1 0 rfl rfl (vp_in_nI (n := 2) (N := 4) (by decide) (by decide)) dX11_lengthOfOne_45 (congrArg (fOne) (by decide)) ?_
  refine r_aload_n C dX11_lengthOfOne_46 3 rfl ?_
  refine r_get (Cn := RX11) (T := TX11) (N := 18) C inT11 0 rfl rfl 8 (by decide) t_901 rfl dX11_lengthOfOne_47 ?_
  refine r_iload_n C dX11_lengthOfOne_50 1 rfl ?_
  refine r_iald (z := fOne 3) C 1 0 rfl rfl (vp_in_nI (n := 3) (N := 4) (by decide) (by decide)) dX11_lengthOfOne_51 (congrArg (fOne) (by decide)) ?_
  refine r_iadd C dX11_lengthOfOne_52 rfl ?_
  suffices K : ∀ x53 : Int32, x53 = ((if 0 ≤ ((fOne 2) + (fOne 3)) then (0) else (1))) → V p l e (rmm 0 0) s m args below meth c 4 D A 0 0 Q [[(o, .inr (9, [.ref aS, .ref aPast, .int known, .ref aSnap, .int kept, .ref aText, .int len, .int thr, .ref aOne, .ref aTwo, .ref aBoth, .ref aWord, .int cre, .ref aOpen, .ref aTimes, .ref aFar, .ref aQueue, .long hash]))], [(aOne, .inl (cI, 4, .inl fOne))]] [(1, .int x51), (3, .int 3), (2, .int 2), (0, .ref o)] 61 [.int x53, .int x51] by
    refine r_if_ge (tgt := 60) C dX11_lengthOfOne_53 (by decide) (fun c52 => ?_) (fun c52 => ?_)
    · refine r_iconst (v := 0) C dX11_lengthOfOne_60 (by decide) ?_
      exact K _ (by simp only [if_pos c52])
    · refine r_iconst (v := 1) C dX11_lengthOfOne_56 (by decide) ?_
      refine r_goto (tgt := 61) C dX11_lengthOfOne_57 (by decide) ?_
      exact K _ (by simp only [if_neg c52])
  intro x53 e_x53
  refine r_iadd C dX11_lengthOfOne_61 rfl ?_
  refine r_top (fun x54 e_x54 => ?_)
  refine r_istore_n (L' := [(1, .int x54), (3, .int 3), (2, .int 2), (0, .ref o)]) C dX11_lengthOfOne_62 (by decide) rfl ?_
  refine r_iinc (v := 4) (L' := [(3, .int 4), (1, .int x54), (2, .int 2), (0, .ref o)]) C dX11_lengthOfOne_63 1 rfl (by decide) (by decide) rfl ?_
  refine r_goto (tgt := 11) C dX11_lengthOfOne_66 (by decide) ?_
  refine r_iload_n C dX11_lengthOfOne_11 0 rfl ?_
  refine r_iconst (v := 4) C dX11_lengthOfOne_12 (by decide) ?_
  refine r_icmp_ge (tgt := 69) C dX11_lengthOfOne_13 (by decide) (fun _ => ?_) (fun c => absurd c (by decide))
  refine r_iinc (v := 3) (L' := [(2, .int 3), (3, .int 4), (1, .int x54), (0, .ref o)]) C dX11_lengthOfOne_69 2 rfl (by decide) (by decide) rfl ?_
  refine r_goto (tgt := 4) C dX11_lengthOfOne_72 (by decide) ?_
  refine r_iload_n C dX11_lengthOfOne_4 0 rfl ?_
  refine r_iconst (v := 4) C dX11_lengthOfOne_5 (by decide) ?_
  refine r_icmp_ge (tgt := 75) C dX11_lengthOfOne_6 (by decide) (fun c => absurd c (by decide)) (fun _ => ?_)
  refine r_iload_n C dX11_lengthOfOne_9 0 rfl ?_
  refine r_istore_n (L' := [(3, .int 3), (2, .int 3), (1, .int x54), (0, .ref o)]) C dX11_lengthOfOne_10 (by decide) rfl ?_
  refine r_iload_n C dX11_lengthOfOne_11 0 rfl ?_
  refine r_iconst (v := 4) C dX11_lengthOfOne_12 (by decide) ?_
  refine r_icmp_ge (tgt := 69) C dX11_lengthOfOne_13 (by decide) (fun c => absurd c (by decide)) (fun _ => ?_)
  refine r_iload_n C dX11_lengthOfOne_16 2 rfl ?_
  refine r_aload_n C dX11_lengthOfOne_17 3 rfl ?_
  refine r_get (Cn := RX11) (T := TX11) (N := 18) C inT11 0 rfl rfl 8 (by decide) t_901 rfl dX11_lengthOfOne_18 ?_
  refine r_iload_n C dX11_lengthOfOne_21 1 rfl ?_
  refine r_iald (z := fOne 3) C 1 0 rfl rfl (vp_in_nI (n := 3) (N := 4) (by decide) (by decide)) dX11_lengthOfOne_22 (congrArg (fOne) (by decide)) ?_
  refine r_aload_n C dX11_lengthOfOne_23 3 rfl ?_
  refine r_get (Cn := RX11) (T := TX11) (N := 18) C inT11 0 rfl rfl 8 (by decide) t_901 rfl dX11_lengthOfOne_24 ?_
  refine r_iload_n C dX11_lengthOfOne_27 0 rfl ?_
  refine r_iald (z := fOne 3) C 1 0 rfl rfl (vp_in_nI (n := 3) (N := 4) (by decide) (by decide)) dX11_lengthOfOne_28 (congrArg (fOne) (by decide)) ?_
  suffices K : ∀ x56 : Int32, x56 = ((if (fOne 3) ≤ (fOne 3) then (0) else (1))) → V p l e (rmm 0 0) s m args below meth c 4 D A 0 0 Q [[(o, .inr (9, [.ref aS, .ref aPast, .int known, .ref aSnap, .int kept, .ref aText, .int len, .int thr, .ref aOne, .ref aTwo, .ref aBoth, .ref aWord, .int cre, .ref aOpen, .ref aTimes, .ref aFar, .ref aQueue, .long hash]))], [(aOne, .inl (cI, 4, .inl fOne))]] [(3, .int 3), (2, .int 3), (1, .int x54), (0, .ref o)] 37 [.int x56, .int x54] by
    refine r_icmp_le (tgt := 36) C dX11_lengthOfOne_29 (by decide) (fun c55 => ?_) (fun c55 => ?_)
    · refine r_iconst (v := 0) C dX11_lengthOfOne_36 (by decide) ?_
      exact K _ (by simp only [if_pos c55])
    · refine r_iconst (v := 1) C dX11_lengthOfOne_32 (by decide) ?_
      refine r_goto (tgt := 37) C dX11_lengthOfOne_33 (by decide) ?_
      exact K _ (by simp only [if_neg c55])
  intro x56 e_x56
  refine r_iadd C dX11_lengthOfOne_37 rfl ?_
  refine r_top (fun x57 e_x57 => ?_)
  refine r_istore_n (L' := [(1, .int x57), (3, .int 3), (2, .int 3), (0, .ref o)]) C dX11_lengthOfOne_38 (by decide) rfl ?_
  refine r_iload_n C dX11_lengthOfOne_39 0 rfl ?_
  refine r_aload_n C dX11_lengthOfOne_40 3 rfl ?_
  refine r_get (Cn := RX11) (T := TX11) (N := 18) C inT11 0 rfl rfl 8 (by decide) t_901 rfl dX11_lengthOfOne_41 ?_
  refine r_iload_n C dX11_lengthOfOne_44 2 rfl ?_
  refine r_iald (z := fOne 3) C 1 0 rfl rfl (vp_in_nI (n := 3) (N := 4) (by decide) (by decide)) dX11_lengthOfOne_45 (congrArg (fOne) (by decide)) ?_
  refine r_aload_n C dX11_lengthOfOne_46 3 rfl ?_
  refine r_get (Cn := RX11) (T := TX11) (N := 18) C inT11 0 rfl rfl 8 (by decide) t_901 rfl dX11_lengthOfOne_47 ?_
  refine r_iload_n C dX11_lengthOfOne_50 1 rfl ?_
  refine r_iald (z := fOne 3) C 1 0 rfl rfl (vp_in_nI (n := 3) (N := 4) (by decide) (by decide)) dX11_lengthOfOne_51 (congrArg (fOne) (by decide)) ?_
  refine r_iadd C dX11_lengthOfOne_52 rfl ?_
  suffices K : ∀ x59 : Int32, x59 = ((if 0 ≤ ((fOne 3) + (fOne 3)) then (0) else (1))) → V p l e (rmm 0 0) s m args below meth c 4 D A 0 0 Q [[(o, .inr (9, [.ref aS, .ref aPast, .int known, .ref aSnap, .int kept, .ref aText, .int len, .int thr, .ref aOne, .ref aTwo, .ref aBoth, .ref aWord, .int cre, .ref aOpen, .ref aTimes, .ref aFar, .ref aQueue, .long hash]))], [(aOne, .inl (cI, 4, .inl fOne))]] [(1, .int x57), (3, .int 3), (2, .int 3), (0, .ref o)] 61 [.int x59, .int x57] by
    refine r_if_ge (tgt := 60) C dX11_lengthOfOne_53 (by decide) (fun c58 => ?_) (fun c58 => ?_)
    · refine r_iconst (v := 0) C dX11_lengthOfOne_60 (by decide) ?_
      exact K _ (by simp only [if_pos c58])
    · refine r_iconst (v := 1) C dX11_lengthOfOne_56 (by decide) ?_
      refine r_goto (tgt := 61) C dX11_lengthOfOne_57 (by decide) ?_
      exact K _ (by simp only [if_neg c58])
  intro x59 e_x59
  refine r_iadd C dX11_lengthOfOne_61 rfl ?_
  refine r_top (fun x60 e_x60 => ?_)
  refine r_istore_n (L' := [(1, .int x60), (3, .int 3), (2, .int 3), (0, .ref o)]) C dX11_lengthOfOne_62 (by decide) rfl ?_
  refine r_iinc (v := 4) (L' := [(3, .int 4), (1, .int x60), (2, .int 3), (0, .ref o)]) C dX11_lengthOfOne_63 1 rfl (by decide) (by decide) rfl ?_
  refine r_goto (tgt := 11) C dX11_lengthOfOne_66 (by decide) ?_
  refine r_iload_n C dX11_lengthOfOne_11 0 rfl ?_
  refine r_iconst (v := 4) C dX11_lengthOfOne_12 (by decide) ?_
  refine r_icmp_ge (tgt := 69) C dX11_lengthOfOne_13 (by decide) (fun _ => ?_) (fun c => absurd c (by decide))
  refine r_iinc (v := 4) (L' := [(2, .int 4), (3, .int 4), (1, .int x60), (0, .ref o)]) C dX11_lengthOfOne_69 2 rfl (by decide) (by decide) rfl ?_
  refine r_goto (tgt := 4) C dX11_lengthOfOne_72 (by decide) ?_
  refine r_iload_n C dX11_lengthOfOne_4 0 rfl ?_
  refine r_iconst (v := 4) C dX11_lengthOfOne_5 (by decide) ?_
  refine r_icmp_ge (tgt := 75) C dX11_lengthOfOne_6 (by decide) (fun _ => ?_) (fun c => absurd c (by decide))
  refine r_iload_n C dX11_lengthOfOne_75 2 rfl ?_
  have eF : F_X11_lengthOfOne fOne = x60 := by have q := e_x2.symm; subst q; have q := e_x3.symm; subst q; have q := e_x5.symm; subst q; have q := e_x6.symm; subst q; have q := e_x8.symm; subst q; have q := e_x9.symm; subst q; have q := e_x11.symm; subst q; have q := e_x12.symm; subst q; have q := e_x14.symm; subst q; have q := e_x15.symm; subst q; have q := e_x17.symm; subst q; have q := e_x18.symm; subst q; have q := e_x20.symm; subst q; have q := e_x21.symm; subst q; have q := e_x23.symm; subst q; have q := e_x24.symm; subst q; have q := e_x26.symm; subst q; have q := e_x27.symm; subst q; have q := e_x29.symm; subst q; have q := e_x30.symm; subst q; have q := e_x32.symm; subst q; have q := e_x33.symm; subst q; have q := e_x35.symm; subst q; have q := e_x36.symm; subst q; have q := e_x38.symm; subst q; have q := e_x39.symm; subst q; have q := e_x41.symm; subst q; have q := e_x42.symm; subst q; have q := e_x44.symm; subst q; have q := e_x45.symm; subst q; have q := e_x47.symm; subst q; have q := e_x48.symm; subst q; have q := e_x50.symm; subst q; have q := e_x51.symm; subst q; have q := e_x53.symm; subst q; have q := e_x54.symm; subst q; have q := e_x56.symm; subst q; have q := e_x57.symm; subst q; have q := e_x59.symm; subst q; have q := e_x60.symm; subst q; rfl
  exact r_iret (r := x60) C hA hr hlo dX11_lengthOfOne_76 [[(o, .inr (9, [.ref aS, .ref aPast, .int known, .ref aSnap, .int kept, .ref aText, .int len, .int thr, .ref aOne, .ref aTwo, .ref aBoth, .ref aWord, .int cre, .ref aOpen, .ref aTimes, .ref aFar, .ref aQueue, .long hash]))], [(aOne, .inl (cI, 4, .inl fOne))]] ⟨by simp only [eF], rfl⟩ rfl hQ
theorem k_X11_isFlatOne : kV yX11_isFlatOne cX11_isFlatOne 1 (some .boolean) 0 := ⟨t_1028, t_25, t_67, t_1029, by decide +kernel, by decide +kernel, by decide +kernel⟩
set_option maxRecDepth 20000 in
def F_X11_isFlatOne (fOne : Nat → Int32) : Int32 := let r1 : Int32 := F_X11_lengthOfOne fOne; let x3 : Int32 := (if r1 = 0 then (1) else (0)); x3
set_option maxRecDepth 20000 in
set_option maxHeartbeats 8000000 in
theorem m_X11_isFlatOne (l : Launch) (D : va_G) (cI cL cP cJ : ClassId) (o : Nat) (aS : Nat) (aPast : Nat) (aSnap : Nat) (aText : Nat) (aOne : Nat) (aTwo : Nat) (aBoth : Nat) (aWord : Nat) (aOpen : Nat) (aTimes : Nat) (aFar : Nat) (aQueue : Nat) (known : Int32) (kept : Int32) (len : Int32) (thr : Int32) (cre : Int32) (hash : Int64) (fOne : Nat → Int32) : M vI l yX11_isFlatOne cX11_isFlatOne 1 (some .boolean) 1 23 D (tyF cI cL cP cJ) [.ref o] [[(o, .inr (9, [.ref aS, .ref aPast, .int known, .ref aSnap, .int kept, .ref aText, .int len, .int thr, .ref aOne, .ref aTwo, .ref aBoth, .ref aWord, .int cre, .ref aOpen, .ref aTimes, .ref aFar, .ref aQueue, .long hash]))], [(aOne, .inl (cI, 4, .inl fOne))]] (fun (r : Int32) (w1 : List va_W) => r = (F_X11_isFlatOne fOne) ∧ w1 = [[(o, .inr (9, [.ref aS, .ref aPast, .int known, .ref aSnap, .int kept, .ref aText, .int len, .int thr, .ref aOne, .ref aTwo, .ref aBoth, .ref aWord, .int cre, .ref aOpen, .ref aTimes, .ref aFar, .ref aQueue, .long hash]))], [(aOne, .inl (cI, 4, .inl fOne))]]) := by
  refine m_start (by decide +kernel) (Nat.le_of_ble_eq_true rfl) (fun p e s m args below meth c A Q hA hQ C hr hlo => ?_)
  refine r_Le (L' := [(0, .ref o)]) rfl ?_
  refine r_aload_n C dX11_isFlatOne_0 0 rfl ?_
  refine r_callV (ci := 9) (wc := [[(o, .inr (9, [.ref aS, .ref aPast, .int known, .ref aSnap, .int kept, .ref aText, .int len, .int thr, .ref aOne, .ref aTwo, .ref aBoth, .ref aWord, .int cre, .ref aOpen, .ref aTimes, .ref aFar, .ref aQueue, .long hash]))], [(aOne, .inl (cI, 4, .inl fOne))]]) (wr := []) (st := []) C (m_X11_lengthOfOne l D cI cL cP cJ o aS aPast aSnap aText aOne aTwo aBoth aWord aOpen aTimes aFar aQueue known kept len thr cre hash fOne) k_X11_lengthOfOne t_1006 [0, 1] (show ([0, 1] : List Nat).Perm (List.range 2) by decide) rfl rfl rfl (q0 := 0) rfl rfl rfl (Nat.le_of_ble_eq_true rfl) ⟨Nat.le_of_ble_eq_true rfl, Nat.le_of_ble_eq_true rfl⟩ ⟨Nat.zero_le _, Nat.zero_le _⟩ dX11_isFlatOne_1 (fun r1 wr1 hw1 => ?_)
  obtain ⟨e_r1, rfl⟩ := hw1
  refine r_ws (I' := [[(o, .inr (9, [.ref aS, .ref aPast, .int known, .ref aSnap, .int kept, .ref aText, .int len, .int thr, .ref aOne, .ref aTwo, .ref aBoth, .ref aWord, .int cre, .ref aOpen, .ref aTimes, .ref aFar, .ref aQueue, .long hash]))], [(aOne, .inl (cI, 4, .inl fOne))]]) rfl ?_
  suffices K : ∀ x3 : Int32, x3 = ((if r1 = 0 then (1) else (0))) → V p l e (rmm 1 23) s m args below meth c 1 D A 0 0 Q [[(o, .inr (9, [.ref aS, .ref aPast, .int known, .ref aSnap, .int kept, .ref aText, .int len, .int thr, .ref aOne, .ref aTwo, .ref aBoth, .ref aWord, .int cre, .ref aOpen, .ref aTimes, .ref aFar, .ref aQueue, .long hash]))], [(aOne, .inl (cI, 4, .inl fOne))]] [(0, .ref o)] 12 [.int x3] by
    refine r_if_ne (tgt := 11) C dX11_isFlatOne_4 (by decide) (fun c2 => ?_) (fun c2 => ?_)
    · refine r_iconst (v := 0) C dX11_isFlatOne_11 (by decide) ?_
      exact K _ (by simp only [if_neg c2])
    · refine r_iconst (v := 1) C dX11_isFlatOne_7 (by decide) ?_
      refine r_goto (tgt := 12) C dX11_isFlatOne_8 (by decide) ?_
      exact K _ (by simp only [if_pos c2])
  intro x3 e_x3
  have eF : F_X11_isFlatOne fOne = x3 := by have q := e_r1.symm; subst q; have q := e_x3.symm; subst q; rfl
  exact r_zret (r := x3) C hA hr hlo (nb01 (by first | (rw [e_x3]; (try dsimp only); ((repeat' split) <;> (first | exact Or.inl rfl | exact Or.inr rfl))) | (have q := e_r1.symm; subst q; have q := e_x3.symm; subst q; (try dsimp only); ((repeat' split) <;> (first | exact Or.inl rfl | exact Or.inr rfl))))) dX11_isFlatOne_12 [[(o, .inr (9, [.ref aS, .ref aPast, .int known, .ref aSnap, .int kept, .ref aText, .int len, .int thr, .ref aOne, .ref aTwo, .ref aBoth, .ref aWord, .int cre, .ref aOpen, .ref aTimes, .ref aFar, .ref aQueue, .long hash]))], [(aOne, .inl (cI, 4, .inl fOne))]] ⟨by simp only [eF], rfl⟩ rfl hQ
theorem k_X11_multiplies : kV yX11_multiplies cX11_multiplies 2 none 0 := ⟨t_1051, t_28, t_67, t_1052, by decide +kernel, by decide +kernel, by decide +kernel⟩
set_option maxRecDepth 20000 in
def F_X11_multiplies (fOne : Nat → Int32) (fTwo : Nat → Int32) (fBoth : Nat → Int32) : (Nat → Int32) × (Nat → Int32) := let x4 : Int32 := (if 0 ≤ (fTwo 0) then (fOne ((fTwo 0) - 1).toNatClampNeg) else (-(fOne ((-(fTwo 0)) - 1).toNatClampNeg))); let g5 : Nat → Int32 := upd fBoth 0 x4; let x9 : Int32 := (if 0 ≤ (fTwo 1) then (fOne ((fTwo 1) - 1).toNatClampNeg) else (-(fOne ((-(fTwo 1)) - 1).toNatClampNeg))); let g10 : Nat → Int32 := upd g5 1 x9; let x14 : Int32 := (if 0 ≤ (fTwo 2) then (fOne ((fTwo 2) - 1).toNatClampNeg) else (-(fOne ((-(fTwo 2)) - 1).toNatClampNeg))); let g15 : Nat → Int32 := upd g10 2 x14; let x19 : Int32 := (if 0 ≤ (fTwo 3) then (fOne ((fTwo 3) - 1).toNatClampNeg) else (-(fOne ((-(fTwo 3)) - 1).toNatClampNeg))); let g20 : Nat → Int32 := upd g15 3 x19; let x21 : Int32 := g20 0; let g22 : Nat → Int32 := upd fOne 0 x21; let x23 : Int32 := g20 1; let g24 : Nat → Int32 := upd g22 1 x23; let x25 : Int32 := g20 2; let g26 : Nat → Int32 := upd g24 2 x25; let x27 : Int32 := g20 3; let g28 : Nat → Int32 := upd g26 3 x27; (g28, g20)
set_option maxRecDepth 20000 in
def P_X11_multiplies (fOne : Nat → Int32) (fTwo : Nat → Int32) (fBoth : Nat → Int32) : Prop := (((0 ≤ (fTwo 0) → (vp_in ((fTwo 0) - 1) 4)) ∧ (¬ 0 ≤ (fTwo 0) → (vp_in ((-(fTwo 0)) - 1) 4))) ∧ (∀ x4 : Int32, x4 = ((if 0 ≤ (fTwo 0) then (fOne ((fTwo 0) - 1).toNatClampNeg) else (-(fOne ((-(fTwo 0)) - 1).toNatClampNeg)))) → (∀ g5 : Nat → Int32, g5 = upd fBoth 0 x4 → (((0 ≤ (fTwo 1) → (vp_in ((fTwo 1) - 1) 4)) ∧ (¬ 0 ≤ (fTwo 1) → (vp_in ((-(fTwo 1)) - 1) 4))) ∧ (∀ x9 : Int32, x9 = ((if 0 ≤ (fTwo 1) then (fOne ((fTwo 1) - 1).toNatClampNeg) else (-(fOne ((-(fTwo 1)) - 1).toNatClampNeg)))) → (∀ g10 : Nat → Int32, g10 = upd g5 1 x9 → (((0 ≤ (fTwo 2) → (vp_in ((fTwo 2) - 1) 4)) ∧ (¬ 0 ≤ (fTwo 2) → (vp_in ((-(fTwo 2)) - 1) 4))) ∧ (∀ x14 : Int32, x14 = ((if 0 ≤ (fTwo 2) then (fOne ((fTwo 2) - 1).toNatClampNeg) else (-(fOne ((-(fTwo 2)) - 1).toNatClampNeg)))) → (∀ g15 : Nat → Int32, g15 = upd g10 2 x14 → ((0 ≤ (fTwo 3) → (vp_in ((fTwo 3) - 1) 4)) ∧ (¬ 0 ≤ (fTwo 3) → (vp_in ((-(fTwo 3)) - 1) 4))))))))))))
set_option maxRecDepth 20000 in
set_option maxHeartbeats 8000000 in
theorem m_X11_multiplies (l : Launch) (D : va_G) (cI cL cP cJ : ClassId) (o : Nat) (aS : Nat) (aPast : Nat) (aSnap : Nat) (aText : Nat) (aOne : Nat) (aTwo : Nat) (aBoth : Nat) (aWord : Nat) (aOpen : Nat) (aTimes : Nat) (aFar : Nat) (aQueue : Nat) (known : Int32) (kept : Int32) (len : Int32) (thr : Int32) (cre : Int32) (hash : Int64) (fOne : Nat → Int32) (fTwo : Nat → Int32) (fBoth : Nat → Int32) (hp : P_X11_multiplies fOne fTwo fBoth) : M vV l yX11_multiplies cX11_multiplies 2 none 0 0 D (tyF cI cL cP cJ) [.ref o] [[(o, .inr (9, [.ref aS, .ref aPast, .int known, .ref aSnap, .int kept, .ref aText, .int len, .int thr, .ref aOne, .ref aTwo, .ref aBoth, .ref aWord, .int cre, .ref aOpen, .ref aTimes, .ref aFar, .ref aQueue, .long hash]))], [(aOne, .inl (cI, 4, .inl fOne))], [(aTwo, .inl (cI, 4, .inl fTwo))], [(aBoth, .inl (cI, 4, .inl fBoth))]] (fun (r : Unit) (w1 : List va_W) => w1 = [[(o, .inr (9, [.ref aS, .ref aPast, .int known, .ref aSnap, .int kept, .ref aText, .int len, .int thr, .ref aOne, .ref aTwo, .ref aBoth, .ref aWord, .int cre, .ref aOpen, .ref aTimes, .ref aFar, .ref aQueue, .long hash]))], [(aOne, .inl (cI, 4, .inl ((F_X11_multiplies fOne fTwo fBoth).1)))], [(aTwo, .inl (cI, 4, .inl fTwo))], [(aBoth, .inl (cI, 4, .inl ((F_X11_multiplies fOne fTwo fBoth).2)))]]) := by
  unfold P_X11_multiplies at hp
  refine m_start (by decide +kernel) (Nat.le_of_ble_eq_true rfl) (fun p e s m args below meth c A Q hA hQ C hr hlo => ?_)
  refine r_Le (L' := [(0, .ref o)]) rfl ?_
  refine r_iconst (v := 0) C dX11_multiplies_0 (by decide) ?_
  refine r_istore_n (L' := [(1, .int 0), (0, .ref o)]) C dX11_multiplies_1 (by decide) rfl ?_
  refine r_iload_n C dX11_multiplies_2 0 rfl ?_
  refine r_iconst (v := 4) C dX11_multiplies_3 (by decide) ?_
  refine r_icmp_ge (tgt := 59) C dX11_multiplies_4 (by decide) (fun c => absurd c (by decide)) (fun _ => ?_)
  refine r_aload_n C dX11_multiplies_7 1 rfl ?_
  refine r_get (Cn := RX11) (T := TX11) (N := 18) C inT11 0 rfl rfl 10 (by decide) t_903 rfl dX11_multiplies_8 ?_
  refine r_iload_n C dX11_multiplies_11 0 rfl ?_
  refine r_aload_n C dX11_multiplies_12 1 rfl ?_
  refine r_get (Cn := RX11) (T := TX11) (N := 18) C inT11 0 rfl rfl 9 (by decide) t_902 rfl dX11_multiplies_13 ?_
  refine r_iload_n C dX11_multiplies_16 0 rfl ?_
  refine r_iald (z := fTwo 0) C 2 0 rfl rfl (vp_in_nI (n := 0) (N := 4) (by decide) (by decide)) dX11_multiplies_17 (congrArg (fTwo) (by decide)) ?_
  obtain ⟨hps, hp⟩ := hp
  suffices K : ∀ x4 : Int32, x4 = ((if 0 ≤ (fTwo 0) then (fOne ((fTwo 0) - 1).toNatClampNeg) else (-(fOne ((-(fTwo 0)) - 1).toNatClampNeg)))) → V p l e (rmm 0 0) s m args below meth c 2 D A 0 0 Q [[(o, .inr (9, [.ref aS, .ref aPast, .int known, .ref aSnap, .int kept, .ref aText, .int len, .int thr, .ref aOne, .ref aTwo, .ref aBoth, .ref aWord, .int cre, .ref aOpen, .ref aTimes, .ref aFar, .ref aQueue, .long hash]))], [(aOne, .inl (cI, 4, .inl fOne))], [(aTwo, .inl (cI, 4, .inl fTwo))], [(aBoth, .inl (cI, 4, .inl fBoth))]] [(1, .int 0), (0, .ref o)] 52 [.int x4, .int 0, .ref aBoth] by
    have hp := hps
    refine r_if_ge (tgt := 39) C dX11_multiplies_18 (by decide) (fun c1 => ?_) (fun c1 => ?_)
    · have hp := hp.1 c1
      refine r_aload_n C dX11_multiplies_39 1 rfl ?_
      refine r_get (Cn := RX11) (T := TX11) (N := 18) C inT11 0 rfl rfl 8 (by decide) t_901 rfl dX11_multiplies_40 ?_
      refine r_aload_n C dX11_multiplies_43 1 rfl ?_
      refine r_get (Cn := RX11) (T := TX11) (N := 18) C inT11 0 rfl rfl 9 (by decide) t_902 rfl dX11_multiplies_44 ?_
      refine r_iload_n C dX11_multiplies_47 0 rfl ?_
      refine r_iald (z := fTwo 0) C 2 0 rfl rfl (vp_in_nI (n := 0) (N := 4) (by decide) (by decide)) dX11_multiplies_48 (congrArg (fTwo) (by decide)) ?_
      refine r_iconst (v := 1) C dX11_multiplies_49 (by decide) ?_
      refine r_isub C dX11_multiplies_50 rfl ?_
      have h2 := hp
      refine r_iald (z := fOne ((fTwo 0) - 1).toNatClampNeg) C 1 0 rfl rfl h2 dX11_multiplies_51 rfl ?_
      exact K _ (by simp only [if_pos c1])
    · have hp := hp.2 c1
      refine r_aload_n C dX11_multiplies_21 1 rfl ?_
      refine r_get (Cn := RX11) (T := TX11) (N := 18) C inT11 0 rfl rfl 8 (by decide) t_901 rfl dX11_multiplies_22 ?_
      refine r_aload_n C dX11_multiplies_25 1 rfl ?_
      refine r_get (Cn := RX11) (T := TX11) (N := 18) C inT11 0 rfl rfl 9 (by decide) t_902 rfl dX11_multiplies_26 ?_
      refine r_iload_n C dX11_multiplies_29 0 rfl ?_
      refine r_iald (z := fTwo 0) C 2 0 rfl rfl (vp_in_nI (n := 0) (N := 4) (by decide) (by decide)) dX11_multiplies_30 (congrArg (fTwo) (by decide)) ?_
      refine r_ineg C dX11_multiplies_31 rfl ?_
      refine r_iconst (v := 1) C dX11_multiplies_32 (by decide) ?_
      refine r_isub C dX11_multiplies_33 rfl ?_
      have h3 := hp
      refine r_iald (z := fOne ((-(fTwo 0)) - 1).toNatClampNeg) C 1 0 rfl rfl h3 dX11_multiplies_34 rfl ?_
      refine r_ineg C dX11_multiplies_35 rfl ?_
      refine r_goto (tgt := 52) C dX11_multiplies_36 (by decide) ?_
      exact K _ (by simp only [if_neg c1])
  intro x4 e_x4
  have hp := hp x4 e_x4
  obtain ⟨g5, e_g5⟩ : ∃ z : Nat → Int32, z = upd fBoth 0 x4 := ⟨_, rfl⟩
  have hp := hp g5 e_g5
  refine r_iast C 3 0 rfl rfl (vp_in_nI (n := 0) (N := 4) (by decide) (by decide)) (I' := [[(o, .inr (9, [.ref aS, .ref aPast, .int known, .ref aSnap, .int kept, .ref aText, .int len, .int thr, .ref aOne, .ref aTwo, .ref aBoth, .ref aWord, .int cre, .ref aOpen, .ref aTimes, .ref aFar, .ref aQueue, .long hash]))], [(aOne, .inl (cI, 4, .inl fOne))], [(aTwo, .inl (cI, 4, .inl fTwo))], [(aBoth, .inl (cI, 4, .inl g5))]]) (by rw [e_g5]; rfl) dX11_multiplies_52 ?_
  refine r_iinc (v := 1) (L' := [(1, .int 1), (0, .ref o)]) C dX11_multiplies_53 0 rfl (by decide) (by decide) rfl ?_
  refine r_goto (tgt := 2) C dX11_multiplies_56 (by decide) ?_
  refine r_iload_n C dX11_multiplies_2 0 rfl ?_
  refine r_iconst (v := 4) C dX11_multiplies_3 (by decide) ?_
  refine r_icmp_ge (tgt := 59) C dX11_multiplies_4 (by decide) (fun c => absurd c (by decide)) (fun _ => ?_)
  refine r_aload_n C dX11_multiplies_7 1 rfl ?_
  refine r_get (Cn := RX11) (T := TX11) (N := 18) C inT11 0 rfl rfl 10 (by decide) t_903 rfl dX11_multiplies_8 ?_
  refine r_iload_n C dX11_multiplies_11 0 rfl ?_
  refine r_aload_n C dX11_multiplies_12 1 rfl ?_
  refine r_get (Cn := RX11) (T := TX11) (N := 18) C inT11 0 rfl rfl 9 (by decide) t_902 rfl dX11_multiplies_13 ?_
  refine r_iload_n C dX11_multiplies_16 0 rfl ?_
  refine r_iald (z := fTwo 1) C 2 0 rfl rfl (vp_in_nI (n := 1) (N := 4) (by decide) (by decide)) dX11_multiplies_17 (congrArg (fTwo) (by decide)) ?_
  obtain ⟨hps, hp⟩ := hp
  suffices K : ∀ x9 : Int32, x9 = ((if 0 ≤ (fTwo 1) then (fOne ((fTwo 1) - 1).toNatClampNeg) else (-(fOne ((-(fTwo 1)) - 1).toNatClampNeg)))) → V p l e (rmm 0 0) s m args below meth c 2 D A 0 0 Q [[(o, .inr (9, [.ref aS, .ref aPast, .int known, .ref aSnap, .int kept, .ref aText, .int len, .int thr, .ref aOne, .ref aTwo, .ref aBoth, .ref aWord, .int cre, .ref aOpen, .ref aTimes, .ref aFar, .ref aQueue, .long hash]))], [(aOne, .inl (cI, 4, .inl fOne))], [(aTwo, .inl (cI, 4, .inl fTwo))], [(aBoth, .inl (cI, 4, .inl g5))]] [(1, .int 1), (0, .ref o)] 52 [.int x9, .int 1, .ref aBoth] by
    have hp := hps
    refine r_if_ge (tgt := 39) C dX11_multiplies_18 (by decide) (fun c6 => ?_) (fun c6 => ?_)
    · have hp := hp.1 c6
      refine r_aload_n C dX11_multiplies_39 1 rfl ?_
      refine r_get (Cn := RX11) (T := TX11) (N := 18) C inT11 0 rfl rfl 8 (by decide) t_901 rfl dX11_multiplies_40 ?_
      refine r_aload_n C dX11_multiplies_43 1 rfl ?_
      refine r_get (Cn := RX11) (T := TX11) (N := 18) C inT11 0 rfl rfl 9 (by decide) t_902 rfl dX11_multiplies_44 ?_
      refine r_iload_n C dX11_multiplies_47 0 rfl ?_
      refine r_iald (z := fTwo 1) C 2 0 rfl rfl (vp_in_nI (n := 1) (N := 4) (by decide) (by decide)) dX11_multiplies_48 (congrArg (fTwo) (by decide)) ?_
      refine r_iconst (v := 1) C dX11_multiplies_49 (by decide) ?_
      refine r_isub C dX11_multiplies_50 rfl ?_
      have h7 := hp
      refine r_iald (z := fOne ((fTwo 1) - 1).toNatClampNeg) C 1 0 rfl rfl h7 dX11_multiplies_51 rfl ?_
      exact K _ (by simp only [if_pos c6])
    · have hp := hp.2 c6
      refine r_aload_n C dX11_multiplies_21 1 rfl ?_
      refine r_get (Cn := RX11) (T := TX11) (N := 18) C inT11 0 rfl rfl 8 (by decide) t_901 rfl dX11_multiplies_22 ?_
      refine r_aload_n C dX11_multiplies_25 1 rfl ?_
      refine r_get (Cn := RX11) (T := TX11) (N := 18) C inT11 0 rfl rfl 9 (by decide) t_902 rfl dX11_multiplies_26 ?_
      refine r_iload_n C dX11_multiplies_29 0 rfl ?_
      refine r_iald (z := fTwo 1) C 2 0 rfl rfl (vp_in_nI (n := 1) (N := 4) (by decide) (by decide)) dX11_multiplies_30 (congrArg (fTwo) (by decide)) ?_
      refine r_ineg C dX11_multiplies_31 rfl ?_
      refine r_iconst (v := 1) C dX11_multiplies_32 (by decide) ?_
      refine r_isub C dX11_multiplies_33 rfl ?_
      have h8 := hp
      refine r_iald (z := fOne ((-(fTwo 1)) - 1).toNatClampNeg) C 1 0 rfl rfl h8 dX11_multiplies_34 rfl ?_
      refine r_ineg C dX11_multiplies_35 rfl ?_
      refine r_goto (tgt := 52) C dX11_multiplies_36 (by decide) ?_
      exact K _ (by simp only [if_neg c6])
  intro x9 e_x9
  have hp := hp x9 e_x9
  obtain ⟨g10, e_g10⟩ : ∃ z : Nat → Int32, z = upd g5 1 x9 := ⟨_, rfl⟩
  have hp := hp g10 e_g10
  refine r_iast C 3 0 rfl rfl (vp_in_nI (n := 1) (N := 4) (by decide) (by decide)) (I' := [[(o, .inr (9, [.ref aS, .ref aPast, .int known, .ref aSnap, .int kept, .ref aText, .int len, .int thr, .ref aOne, .ref aTwo, .ref aBoth, .ref aWord, .int cre, .ref aOpen, .ref aTimes, .ref aFar, .ref aQueue, .long hash]))], [(aOne, .inl (cI, 4, .inl fOne))], [(aTwo, .inl (cI, 4, .inl fTwo))], [(aBoth, .inl (cI, 4, .inl g10))]]) (by rw [e_g10]; rfl) dX11_multiplies_52 ?_
  refine r_iinc (v := 2) (L' := [(1, .int 2), (0, .ref o)]) C dX11_multiplies_53 0 rfl (by decide) (by decide) rfl ?_
  refine r_goto (tgt := 2) C dX11_multiplies_56 (by decide) ?_
  refine r_iload_n C dX11_multiplies_2 0 rfl ?_
  refine r_iconst (v := 4) C dX11_multiplies_3 (by decide) ?_
  refine r_icmp_ge (tgt := 59) C dX11_multiplies_4 (by decide) (fun c => absurd c (by decide)) (fun _ => ?_)
  refine r_aload_n C dX11_multiplies_7 1 rfl ?_
  refine r_get (Cn := RX11) (T := TX11) (N := 18) C inT11 0 rfl rfl 10 (by decide) t_903 rfl dX11_multiplies_8 ?_
  refine r_iload_n C dX11_multiplies_11 0 rfl ?_
  refine r_aload_n C dX11_multiplies_12 1 rfl ?_
  refine r_get (Cn := RX11) (T := TX11) (N := 18) C inT11 0 rfl rfl 9 (by decide) t_902 rfl dX11_multiplies_13 ?_
  refine r_iload_n C dX11_multiplies_16 0 rfl ?_
  refine r_iald (z := fTwo 2) C 2 0 rfl rfl (vp_in_nI (n := 2) (N := 4) (by decide) (by decide)) dX11_multiplies_17 (congrArg (fTwo) (by decide)) ?_
  obtain ⟨hps, hp⟩ := hp
  suffices K : ∀ x14 : Int32, x14 = ((if 0 ≤ (fTwo 2) then (fOne ((fTwo 2) - 1).toNatClampNeg) else (-(fOne ((-(fTwo 2)) - 1).toNatClampNeg)))) → V p l e (rmm 0 0) s m args below meth c 2 D A 0 0 Q [[(o, .inr (9, [.ref aS, .ref aPast, .int known, .ref aSnap, .int kept, .ref aText, .int len, .int thr, .ref aOne, .ref aTwo, .ref aBoth, .ref aWord, .int cre, .ref aOpen, .ref aTimes, .ref aFar, .ref aQueue, .long hash]))], [(aOne, .inl (cI, 4, .inl fOne))], [(aTwo, .inl (cI, 4, .inl fTwo))], [(aBoth, .inl (cI, 4, .inl g10))]] [(1, .int 2), (0, .ref o)] 52 [.int x14, .int 2, .ref aBoth] by
    have hp := hps
    refine r_if_ge (tgt := 39) C dX11_multiplies_18 (by decide) (fun c11 => ?_) (fun c11 => ?_)
    · have hp := hp.1 c11
      refine r_aload_n C dX11_multiplies_39 1 rfl ?_
      refine r_get (Cn := RX11) (T := TX11) (N := 18) C inT11 0 rfl rfl 8 (by decide) t_901 rfl dX11_multiplies_40 ?_
      refine r_aload_n C dX11_multiplies_43 1 rfl ?_
      refine r_get (Cn := RX11) (T := TX11) (N := 18) C inT11 0 rfl rfl 9 (by decide) t_902 rfl dX11_multiplies_44 ?_
      refine r_iload_n C dX11_multiplies_47 0 rfl ?_
      refine r_iald (z := fTwo 2) C 2 0 rfl rfl (vp_in_nI (n := 2) (N := 4) (by decide) (by decide)) dX11_multiplies_48 (congrArg (fTwo) (by decide)) ?_
      refine r_iconst (v := 1) C dX11_multiplies_49 (by decide) ?_
      refine r_isub C dX11_multiplies_50 rfl ?_
      have h12 := hp
      refine r_iald (z := fOne ((fTwo 2) - 1).toNatClampNeg) C 1 0 rfl rfl h12 dX11_multiplies_51 rfl ?_
      exact K _ (by simp only [if_pos c11])
    · have hp := hp.2 c11
      refine r_aload_n C dX11_multiplies_21 1 rfl ?_
      refine r_get (Cn := RX11) (T := TX11) (N := 18) C inT11 0 rfl rfl 8 (by decide) t_901 rfl dX11_multiplies_22 ?_
      refine r_aload_n C dX11_multiplies_25 1 rfl ?_
      refine r_get (Cn := RX11) (T := TX11) (N := 18) C inT11 0 rfl rfl 9 (by decide) t_902 rfl dX11_multiplies_26 ?_
      refine r_iload_n C dX11_multiplies_29 0 rfl ?_
      refine r_iald (z := fTwo 2) C 2 0 rfl rfl (vp_in_nI (n := 2) (N := 4) (by decide) (by decide)) dX11_multiplies_30 (congrArg (fTwo) (by decide)) ?_
      refine r_ineg C dX11_multiplies_31 rfl ?_
      refine r_iconst (v := 1) C dX11_multiplies_32 (by decide) ?_
      refine r_isub C dX11_multiplies_33 rfl ?_
      have h13 := hp
      refine r_iald (z := fOne ((-(fTwo 2)) - 1).toNatClampNeg) C 1 0 rfl rfl h13 dX11_multiplies_34 rfl ?_
      refine r_ineg C dX11_multiplies_35 rfl ?_
      refine r_goto (tgt := 52) C dX11_multiplies_36 (by decide) ?_
      exact K _ (by simp only [if_neg c11])
  intro x14 e_x14
  have hp := hp x14 e_x14
  obtain ⟨g15, e_g15⟩ : ∃ z : Nat → Int32, z = upd g10 2 x14 := ⟨_, rfl⟩
  have hp := hp g15 e_g15
  refine r_iast C 3 0 rfl rfl (vp_in_nI (n := 2) (N := 4) (by decide) (by decide)) (I' := [[(o, .inr (9, [.ref aS, .ref aPast, .int known, .ref aSnap, .int kept, .ref aText, .int len, .int thr, .ref aOne, .ref aTwo, .ref aBoth, .ref aWord, .int cre, .ref aOpen, .ref aTimes, .ref aFar, .ref aQueue, .long hash]))], [(aOne, .inl (cI, 4, .inl fOne))], [(aTwo, .inl (cI, 4, .inl fTwo))], [(aBoth, .inl (cI, 4, .inl g15))]]) (by rw [e_g15]; rfl) dX11_multiplies_52 ?_
  refine r_iinc (v := 3) (L' := [(1, .int 3), (0, .ref o)]) C dX11_multiplies_53 0 rfl (by decide) (by decide) rfl ?_
  refine r_goto (tgt := 2) C dX11_multiplies_56 (by decide) ?_
  refine r_iload_n C dX11_multiplies_2 0 rfl ?_
  refine r_iconst (v := 4) C dX11_multiplies_3 (by decide) ?_
  refine r_icmp_ge (tgt := 59) C dX11_multiplies_4 (by decide) (fun c => absurd c (by decide)) (fun _ => ?_)
  refine r_aload_n C dX11_multiplies_7 1 rfl ?_
  refine r_get (Cn := RX11) (T := TX11) (N := 18) C inT11 0 rfl rfl 10 (by decide) t_903 rfl dX11_multiplies_8 ?_
  refine r_iload_n C dX11_multiplies_11 0 rfl ?_
  refine r_aload_n C dX11_multiplies_12 1 rfl ?_
  refine r_get (Cn := RX11) (T := TX11) (N := 18) C inT11 0 rfl rfl 9 (by decide) t_902 rfl dX11_multiplies_13 ?_
  refine r_iload_n C dX11_multiplies_16 0 rfl ?_
  refine r_iald (z := fTwo 3) C 2 0 rfl rfl (vp_in_nI (n := 3) (N := 4) (by decide) (by decide)) dX11_multiplies_17 (congrArg (fTwo) (by decide)) ?_
  have hps := hp
  suffices K : ∀ x19 : Int32, x19 = ((if 0 ≤ (fTwo 3) then (fOne ((fTwo 3) - 1).toNatClampNeg) else (-(fOne ((-(fTwo 3)) - 1).toNatClampNeg)))) → V p l e (rmm 0 0) s m args below meth c 2 D A 0 0 Q [[(o, .inr (9, [.ref aS, .ref aPast, .int known, .ref aSnap, .int kept, .ref aText, .int len, .int thr, .ref aOne, .ref aTwo, .ref aBoth, .ref aWord, .int cre, .ref aOpen, .ref aTimes, .ref aFar, .ref aQueue, .long hash]))], [(aOne, .inl (cI, 4, .inl fOne))], [(aTwo, .inl (cI, 4, .inl fTwo))], [(aBoth, .inl (cI, 4, .inl g15))]] [(1, .int 3), (0, .ref o)] 52 [.int x19, .int 3, .ref aBoth] by
    have hp := hps
    refine r_if_ge (tgt := 39) C dX11_multiplies_18 (by decide) (fun c16 => ?_) (fun c16 => ?_)
    · have hp := hp.1 c16
      refine r_aload_n C dX11_multiplies_39 1 rfl ?_
      refine r_get (Cn := RX11) (T := TX11) (N := 18) C inT11 0 rfl rfl 8 (by decide) t_901 rfl dX11_multiplies_40 ?_
      refine r_aload_n C dX11_multiplies_43 1 rfl ?_
      refine r_get (Cn := RX11) (T := TX11) (N := 18) C inT11 0 rfl rfl 9 (by decide) t_902 rfl dX11_multiplies_44 ?_
      refine r_iload_n C dX11_multiplies_47 0 rfl ?_
      refine r_iald (z := fTwo 3) C 2 0 rfl rfl (vp_in_nI (n := 3) (N := 4) (by decide) (by decide)) dX11_multiplies_48 (congrArg (fTwo) (by decide)) ?_
      refine r_iconst (v := 1) C dX11_multiplies_49 (by decide) ?_
      refine r_isub C dX11_multiplies_50 rfl ?_
      have h17 := hp
      refine r_iald (z := fOne ((fTwo 3) - 1).toNatClampNeg) C 1 0 rfl rfl h17 dX11_multiplies_51 rfl ?_
      exact K _ (by simp only [if_pos c16])
    · have hp := hp.2 c16
      refine r_aload_n C dX11_multiplies_21 1 rfl ?_
      refine r_get (Cn := RX11) (T := TX11) (N := 18) C inT11 0 rfl rfl 8 (by decide) t_901 rfl dX11_multiplies_22 ?_
      refine r_aload_n C dX11_multiplies_25 1 rfl ?_
      refine r_get (Cn := RX11) (T := TX11) (N := 18) C inT11 0 rfl rfl 9 (by decide) t_902 rfl dX11_multiplies_26 ?_
      refine r_iload_n C dX11_multiplies_29 0 rfl ?_
      refine r_iald (z := fTwo 3) C 2 0 rfl rfl (vp_in_nI (n := 3) (N := 4) (by decide) (by decide)) dX11_multiplies_30 (congrArg (fTwo) (by decide)) ?_
      refine r_ineg C dX11_multiplies_31 rfl ?_
      refine r_iconst (v := 1) C dX11_multiplies_32 (by decide) ?_
      refine r_isub C dX11_multiplies_33 rfl ?_
      have h18 := hp
      refine r_iald (z := fOne ((-(fTwo 3)) - 1).toNatClampNeg) C 1 0 rfl rfl h18 dX11_multiplies_34 rfl ?_
      refine r_ineg C dX11_multiplies_35 rfl ?_
      refine r_goto (tgt := 52) C dX11_multiplies_36 (by decide) ?_
      exact K _ (by simp only [if_neg c16])
  intro x19 e_x19
  obtain ⟨g20, e_g20⟩ : ∃ z : Nat → Int32, z = upd g15 3 x19 := ⟨_, rfl⟩
  refine r_iast C 3 0 rfl rfl (vp_in_nI (n := 3) (N := 4) (by decide) (by decide)) (I' := [[(o, .inr (9, [.ref aS, .ref aPast, .int known, .ref aSnap, .int kept, .ref aText, .int len, .int thr, .ref aOne, .ref aTwo, .ref aBoth, .ref aWord, .int cre, .ref aOpen, .ref aTimes, .ref aFar, .ref aQueue, .long hash]))], [(aOne, .inl (cI, 4, .inl fOne))], [(aTwo, .inl (cI, 4, .inl fTwo))], [(aBoth, .inl (cI, 4, .inl g20))]]) (by rw [e_g20]; rfl) dX11_multiplies_52 ?_
  refine r_iinc (v := 4) (L' := [(1, .int 4), (0, .ref o)]) C dX11_multiplies_53 0 rfl (by decide) (by decide) rfl ?_
  refine r_goto (tgt := 2) C dX11_multiplies_56 (by decide) ?_
  refine r_iload_n C dX11_multiplies_2 0 rfl ?_
  refine r_iconst (v := 4) C dX11_multiplies_3 (by decide) ?_
  refine r_icmp_ge (tgt := 59) C dX11_multiplies_4 (by decide) (fun _ => ?_) (fun c => absurd c (by decide))
  refine r_iconst (v := 0) C dX11_multiplies_59 (by decide) ?_
  refine r_istore_n (L' := [(1, .int 0), (0, .ref o)]) C dX11_multiplies_60 (by decide) rfl ?_
  refine r_iload_n C dX11_multiplies_61 0 rfl ?_
  refine r_iconst (v := 4) C dX11_multiplies_62 (by decide) ?_
  refine r_icmp_ge (tgt := 84) C dX11_multiplies_63 (by decide) (fun c => absurd c (by decide)) (fun _ => ?_)
  refine r_aload_n C dX11_multiplies_66 1 rfl ?_
  refine r_get (Cn := RX11) (T := TX11) (N := 18) C inT11 0 rfl rfl 8 (by decide) t_901 rfl dX11_multiplies_67 ?_
  refine r_iload_n C dX11_multiplies_70 0 rfl ?_
  refine r_aload_n C dX11_multiplies_71 1 rfl ?_
  refine r_get (Cn := RX11) (T := TX11) (N := 18) C inT11 0 rfl rfl 10 (by decide) t_903 rfl dX11_multiplies_72 ?_
  refine r_iload_n C dX11_multiplies_75 0 rfl ?_
  refine r_iald (z := g20 0) C 3 0 rfl rfl (vp_in_nI (n := 0) (N := 4) (by decide) (by decide)) dX11_multiplies_76 (congrArg (g20) (by decide)) ?_
  refine r_top (fun x21 e_x21 => ?_)
  obtain ⟨g22, e_g22⟩ : ∃ z : Nat → Int32, z = upd fOne 0 x21 := ⟨_, rfl⟩
  refine r_iast C 1 0 rfl rfl (vp_in_nI (n := 0) (N := 4) (by decide) (by decide)) (I' := [[(o, .inr (9, [.ref aS, .ref aPast, .int known, .ref aSnap, .int kept, .ref aText, .int len, .int thr, .ref aOne, .ref aTwo, .ref aBoth, .ref aWord, .int cre, .ref aOpen, .ref aTimes, .ref aFar, .ref aQueue, .long hash]))], [(aOne, .inl (cI, 4, .inl g22))], [(aTwo, .inl (cI, 4, .inl fTwo))], [(aBoth, .inl (cI, 4, .inl g20))]]) (by rw [e_g22]; rfl) dX11_multiplies_77 ?_
  refine r_iinc (v := 1) (L' := [(1, .int 1), (0, .ref o)]) C dX11_multiplies_78 0 rfl (by decide) (by decide) rfl ?_
  refine r_goto (tgt := 61) C dX11_multiplies_81 (by decide) ?_
  refine r_iload_n C dX11_multiplies_61 0 rfl ?_
  refine r_iconst (v := 4) C dX11_multiplies_62 (by decide) ?_
  refine r_icmp_ge (tgt := 84) C dX11_multiplies_63 (by decide) (fun c => absurd c (by decide)) (fun _ => ?_)
  refine r_aload_n C dX11_multiplies_66 1 rfl ?_
  refine r_get (Cn := RX11) (T := TX11) (N := 18) C inT11 0 rfl rfl 8 (by decide) t_901 rfl dX11_multiplies_67 ?_
  refine r_iload_n C dX11_multiplies_70 0 rfl ?_
  refine r_aload_n C dX11_multiplies_71 1 rfl ?_
  refine r_get (Cn := RX11) (T := TX11) (N := 18) C inT11 0 rfl rfl 10 (by decide) t_903 rfl dX11_multiplies_72 ?_
  refine r_iload_n C dX11_multiplies_75 0 rfl ?_
  refine r_iald (z := g20 1) C 3 0 rfl rfl (vp_in_nI (n := 1) (N := 4) (by decide) (by decide)) dX11_multiplies_76 (congrArg (g20) (by decide)) ?_
  refine r_top (fun x23 e_x23 => ?_)
  obtain ⟨g24, e_g24⟩ : ∃ z : Nat → Int32, z = upd g22 1 x23 := ⟨_, rfl⟩
  refine r_iast C 1 0 rfl rfl (vp_in_nI (n := 1) (N := 4) (by decide) (by decide)) (I' := [[(o, .inr (9, [.ref aS, .ref aPast, .int known, .ref aSnap, .int kept, .ref aText, .int len, .int thr, .ref aOne, .ref aTwo, .ref aBoth, .ref aWord, .int cre, .ref aOpen, .ref aTimes, .ref aFar, .ref aQueue, .long hash]))], [(aOne, .inl (cI, 4, .inl g24))], [(aTwo, .inl (cI, 4, .inl fTwo))], [(aBoth, .inl (cI, 4, .inl g20))]]) (by rw [e_g24]; rfl) dX11_multiplies_77 ?_
  refine r_iinc (v := 2) (L' := [(1, .int 2), (0, .ref o)]) C dX11_multiplies_78 0 rfl (by decide) (by decide) rfl ?_
  refine r_goto (tgt := 61) C dX11_multiplies_81 (by decide) ?_
  refine r_iload_n C dX11_multiplies_61 0 rfl ?_
  refine r_iconst (v := 4) C dX11_multiplies_62 (by decide) ?_
  refine r_icmp_ge (tgt := 84) C dX11_multiplies_63 (by decide) (fun c => absurd c (by decide)) (fun _ => ?_)
  refine r_aload_n C dX11_multiplies_66 1 rfl ?_
  refine r_get (Cn := RX11) (T := TX11) (N := 18) C inT11 0 rfl rfl 8 (by decide) t_901 rfl dX11_multiplies_67 ?_
  refine r_iload_n C dX11_multiplies_70 0 rfl ?_
  refine r_aload_n C dX11_multiplies_71 1 rfl ?_
  refine r_get (Cn := RX11) (T := TX11) (N := 18) C inT11 0 rfl rfl 10 (by decide) t_903 rfl dX11_multiplies_72 ?_
  refine r_iload_n C dX11_multiplies_75 0 rfl ?_
  refine r_iald (z := g20 2) C 3 0 rfl rfl (vp_in_nI (n := 2) (N := 4) (by decide) (by decide)) dX11_multiplies_76 (congrArg (g20) (by decide)) ?_
  refine r_top (fun x25 e_x25 => ?_)
  obtain ⟨g26, e_g26⟩ : ∃ z : Nat → Int32, z = upd g24 2 x25 := ⟨_, rfl⟩
  refine r_iast C 1 0 rfl rfl (vp_in_nI (n := 2) (N := 4) (by decide) (by decide)) (I' := [[(o, .inr (9, [.ref aS, .ref aPast, .int known, .ref aSnap, .int kept, .ref aText, .int len, .int thr, .ref aOne, .ref aTwo, .ref aBoth, .ref aWord, .int cre, .ref aOpen, .ref aTimes, .ref aFar, .ref aQueue, .long hash]))], [(aOne, .inl (cI, 4, .inl g26))], [(aTwo, .inl (cI, 4, .inl fTwo))], [(aBoth, .inl (cI, 4, .inl g20))]]) (by rw [e_g26]; rfl) dX11_multiplies_77 ?_
  refine r_iinc (v := 3) (L' := [(1, .int 3), (0, .ref o)]) C dX11_multiplies_78 0 rfl (by decide) (by decide) rfl ?_
  refine r_goto (tgt := 61) C dX11_multiplies_81 (by decide) ?_
  refine r_iload_n C dX11_multiplies_61 0 rfl ?_
  refine r_iconst (v := 4) C dX11_multiplies_62 (by decide) ?_
  refine r_icmp_ge (tgt := 84) C dX11_multiplies_63 (by decide) (fun c => absurd c (by decide)) (fun _ => ?_)
  refine r_aload_n C dX11_multiplies_66 1 rfl ?_
  refine r_get (Cn := RX11) (T := TX11) (N := 18) C inT11 0 rfl rfl 8 (by decide) t_901 rfl dX11_multiplies_67 ?_
  refine r_iload_n C dX11_multiplies_70 0 rfl ?_
  refine r_aload_n C dX11_multiplies_71 1 rfl ?_
  refine r_get (Cn := RX11) (T := TX11) (N := 18) C inT11 0 rfl rfl 10 (by decide) t_903 rfl dX11_multiplies_72 ?_
  refine r_iload_n C dX11_multiplies_75 0 rfl ?_
  refine r_iald (z := g20 3) C 3 0 rfl rfl (vp_in_nI (n := 3) (N := 4) (by decide) (by decide)) dX11_multiplies_76 (congrArg (g20) (by decide)) ?_
  refine r_top (fun x27 e_x27 => ?_)
  obtain ⟨g28, e_g28⟩ : ∃ z : Nat → Int32, z = upd g26 3 x27 := ⟨_, rfl⟩
  refine r_iast C 1 0 rfl rfl (vp_in_nI (n := 3) (N := 4) (by decide) (by decide)) (I' := [[(o, .inr (9, [.ref aS, .ref aPast, .int known, .ref aSnap, .int kept, .ref aText, .int len, .int thr, .ref aOne, .ref aTwo, .ref aBoth, .ref aWord, .int cre, .ref aOpen, .ref aTimes, .ref aFar, .ref aQueue, .long hash]))], [(aOne, .inl (cI, 4, .inl g28))], [(aTwo, .inl (cI, 4, .inl fTwo))], [(aBoth, .inl (cI, 4, .inl g20))]]) (by rw [e_g28]; rfl) dX11_multiplies_77 ?_
  refine r_iinc (v := 4) (L' := [(1, .int 4), (0, .ref o)]) C dX11_multiplies_78 0 rfl (by decide) (by decide) rfl ?_
  refine r_goto (tgt := 61) C dX11_multiplies_81 (by decide) ?_
  refine r_iload_n C dX11_multiplies_61 0 rfl ?_
  refine r_iconst (v := 4) C dX11_multiplies_62 (by decide) ?_
  refine r_icmp_ge (tgt := 84) C dX11_multiplies_63 (by decide) (fun _ => ?_) (fun c => absurd c (by decide))
  have eF : F_X11_multiplies fOne fTwo fBoth = (g28, g20) := by have q := e_x4.symm; subst q; have q := e_g5.symm; subst q; have q := e_x9.symm; subst q; have q := e_g10.symm; subst q; have q := e_x14.symm; subst q; have q := e_g15.symm; subst q; have q := e_x19.symm; subst q; have q := e_g20.symm; subst q; have q := e_x21.symm; subst q; have q := e_g22.symm; subst q; have q := e_x23.symm; subst q; have q := e_g24.symm; subst q; have q := e_x25.symm; subst q; have q := e_g26.symm; subst q; have q := e_x27.symm; subst q; have q := e_g28.symm; subst q; rfl
  exact r_vret (r := ()) C hA hr hlo dX11_multiplies_84 [[(o, .inr (9, [.ref aS, .ref aPast, .int known, .ref aSnap, .int kept, .ref aText, .int len, .int thr, .ref aOne, .ref aTwo, .ref aBoth, .ref aWord, .int cre, .ref aOpen, .ref aTimes, .ref aFar, .ref aQueue, .long hash]))], [(aOne, .inl (cI, 4, .inl g28))], [(aTwo, .inl (cI, 4, .inl fTwo))], [(aBoth, .inl (cI, 4, .inl g20))]] (by simp only [eF]) rfl hQ
theorem k_X11_turns : kV yX11_turns cX11_turns 2 none 0 := ⟨t_1063, t_30, t_67, t_1064, by decide +kernel, by decide +kernel, by decide +kernel⟩
set_option maxRecDepth 20000 in
def F_X11_turns (fOne : Nat → Int32) (fBoth : Nat → Int32) : (Nat → Int32) × (Nat → Int32) := let r1 : Int32 := F_X11_size (fOne 0); let x3 : Int32 := (if 0 ≤ (fOne 0) then (1) else ((-1))); let g5 : Nat → Int32 := upd fBoth ((r1 - 1).toNatClampNeg) x3; let r6 : Int32 := F_X11_size (fOne 1); let x8 : Int32 := (if 0 ≤ (fOne 1) then (2) else ((-2))); let g10 : Nat → Int32 := upd g5 ((r6 - 1).toNatClampNeg) x8; let r11 : Int32 := F_X11_size (fOne 2); let x13 : Int32 := (if 0 ≤ (fOne 2) then (3) else ((-3))); let g15 : Nat → Int32 := upd g10 ((r11 - 1).toNatClampNeg) x13; let r16 : Int32 := F_X11_size (fOne 3); let x18 : Int32 := (if 0 ≤ (fOne 3) then (4) else ((-4))); let g20 : Nat → Int32 := upd g15 ((r16 - 1).toNatClampNeg) x18; let x21 : Int32 := g20 0; let g22 : Nat → Int32 := upd fOne 0 x21; let x23 : Int32 := g20 1; let g24 : Nat → Int32 := upd g22 1 x23; let x25 : Int32 := g20 2; let g26 : Nat → Int32 := upd g24 2 x25; let x27 : Int32 := g20 3; let g28 : Nat → Int32 := upd g26 3 x27; (g28, g20)
set_option maxRecDepth 20000 in
def P_X11_turns (fOne : Nat → Int32) (fBoth : Nat → Int32) : Prop := (∀ r1 : Int32, r1 = F_X11_size (fOne 0) → (∀ x3 : Int32, x3 = ((if 0 ≤ (fOne 0) then (1) else ((-1)))) → ((vp_in (r1 - 1) 4) ∧ (∀ g5 : Nat → Int32, g5 = upd fBoth ((r1 - 1).toNatClampNeg) x3 → (∀ r6 : Int32, r6 = F_X11_size (fOne 1) → (∀ x8 : Int32, x8 = ((if 0 ≤ (fOne 1) then (2) else ((-2)))) → ((vp_in (r6 - 1) 4) ∧ (∀ g10 : Nat → Int32, g10 = upd g5 ((r6 - 1).toNatClampNeg) x8 → (∀ r11 : Int32, r11 = F_X11_size (fOne 2) → (∀ x13 : Int32, x13 = ((if 0 ≤ (fOne 2) then (3) else ((-3)))) → ((vp_in (r11 - 1) 4) ∧ (∀ g15 : Nat → Int32, g15 = upd g10 ((r11 - 1).toNatClampNeg) x13 → (∀ r16 : Int32, r16 = F_X11_size (fOne 3) → (∀ x18 : Int32, x18 = ((if 0 ≤ (fOne 3) then (4) else ((-4)))) → (vp_in (r16 - 1) 4)))))))))))))))
set_option maxRecDepth 20000 in
set_option maxHeartbeats 8000000 in
theorem m_X11_turns (l : Launch) (D : va_G) (cI cL cP cJ : ClassId) (o : Nat) (aS : Nat) (aPast : Nat) (aSnap : Nat) (aText : Nat) (aOne : Nat) (aTwo : Nat) (aBoth : Nat) (aWord : Nat) (aOpen : Nat) (aTimes : Nat) (aFar : Nat) (aQueue : Nat) (known : Int32) (kept : Int32) (len : Int32) (thr : Int32) (cre : Int32) (hash : Int64) (fOne : Nat → Int32) (fBoth : Nat → Int32) (hp : P_X11_turns fOne fBoth) : M vV l yX11_turns cX11_turns 2 none 1 20 D (tyF cI cL cP cJ) [.ref o] [[(o, .inr (9, [.ref aS, .ref aPast, .int known, .ref aSnap, .int kept, .ref aText, .int len, .int thr, .ref aOne, .ref aTwo, .ref aBoth, .ref aWord, .int cre, .ref aOpen, .ref aTimes, .ref aFar, .ref aQueue, .long hash]))], [(aOne, .inl (cI, 4, .inl fOne))], [(aBoth, .inl (cI, 4, .inl fBoth))]] (fun (r : Unit) (w1 : List va_W) => w1 = [[(o, .inr (9, [.ref aS, .ref aPast, .int known, .ref aSnap, .int kept, .ref aText, .int len, .int thr, .ref aOne, .ref aTwo, .ref aBoth, .ref aWord, .int cre, .ref aOpen, .ref aTimes, .ref aFar, .ref aQueue, .long hash]))], [(aOne, .inl (cI, 4, .inl ((F_X11_turns fOne fBoth).1)))], [(aBoth, .inl (cI, 4, .inl ((F_X11_turns fOne fBoth).2)))]]) := by
  unfold P_X11_turns at hp
  refine m_start (by decide +kernel) (Nat.le_of_ble_eq_true rfl) (fun p e s m args below meth c A Q hA hQ C hr hlo => ?_)
  refine r_Le (L' := [(0, .ref o)]) rfl ?_
  refine r_iconst (v := 0) C dX11_turns_0 (by decide) ?_
  refine r_istore_n (L' := [(1, .int 0), (0, .ref o)]) C dX11_turns_1 (by decide) rfl ?_
  refine r_iload_n C dX11_turns_2 0 rfl ?_
  refine r_iconst (v := 4) C dX11_turns_3 (by decide) ?_
  refine r_icmp_ge (tgt := 48) C dX11_turns_4 (by decide) (fun c => absurd c (by decide)) (fun _ => ?_)
  refine r_aload_n C dX11_turns_7 1 rfl ?_
  refine r_get (Cn := RX11) (T := TX11) (N := 18) C inT11 0 rfl rfl 10 (by decide) t_903 rfl dX11_turns_8 ?_
  refine r_aload_n C dX11_turns_11 1 rfl ?_
  refine r_get (Cn := RX11) (T := TX11) (N := 18) C inT11 0 rfl rfl 8 (by decide) t_901 rfl dX11_turns_12 ?_
  refine r_iload_n C dX11_turns_15 0 rfl ?_
  refine r_iald (z := fOne 0) C 1 0 rfl rfl (vp_in_nI (n := 0) (N := 4) (by decide) (by decide)) dX11_turns_16 (congrArg (fOne) (by decide)) ?_
  refine r_callS (wc := []) (wr := [[(o, .inr (9, [.ref aS, .ref aPast, .int known, .ref aSnap, .int kept, .ref aText, .int len, .int thr, .ref aOne, .ref aTwo, .ref aBoth, .ref aWord, .int cre, .ref aOpen, .ref aTimes, .ref aFar, .ref aQueue, .long hash]))], [(aOne, .inl (cI, 4, .inl fOne))], [(aBoth, .inl (cI, 4, .inl fBoth))]]) (st := [.ref aBoth]) C (m_X11_size l D cI cL cP cJ (fOne 0)) k_X11_size t_1034 [0, 1, 2] (show ([0, 1, 2] : List Nat).Perm (List.range 3) by decide) rfl rfl rfl (Nat.le_of_ble_eq_true rfl) ⟨Nat.le_of_ble_eq_true rfl, Nat.le_of_ble_eq_true rfl⟩ ⟨Nat.zero_le _, Nat.zero_le _⟩ dX11_turns_17 (fun r1 wr1 hw1 => ?_)
  obtain ⟨e_r1, rfl⟩ := hw1
  have hp := hp r1 e_r1
  refine r_ws (I' := [[(o, .inr (9, [.ref aS, .ref aPast, .int known, .ref aSnap, .int kept, .ref aText, .int len, .int thr, .ref aOne, .ref aTwo, .ref aBoth, .ref aWord, .int cre, .ref aOpen, .ref aTimes, .ref aFar, .ref aQueue, .long hash]))], [(aOne, .inl (cI, 4, .inl fOne))], [(aBoth, .inl (cI, 4, .inl fBoth))]]) rfl ?_
  refine r_iconst (v := 1) C dX11_turns_20 (by decide) ?_
  refine r_isub C dX11_turns_21 rfl ?_
  refine r_aload_n C dX11_turns_22 1 rfl ?_
  refine r_get (Cn := RX11) (T := TX11) (N := 18) C inT11 0 rfl rfl 8 (by decide) t_901 rfl dX11_turns_23 ?_
  refine r_iload_n C dX11_turns_26 0 rfl ?_
  refine r_iald (z := fOne 0) C 1 0 rfl rfl (vp_in_nI (n := 0) (N := 4) (by decide) (by decide)) dX11_turns_27 (congrArg (fOne) (by decide)) ?_
  suffices K : ∀ x3 : Int32, x3 = ((if 0 ≤ (fOne 0) then (1) else ((-1)))) → V p l e (rmm 1 20) s m args below meth c 2 D A 0 0 Q [[(o, .inr (9, [.ref aS, .ref aPast, .int known, .ref aSnap, .int kept, .ref aText, .int len, .int thr, .ref aOne, .ref aTwo, .ref aBoth, .ref aWord, .int cre, .ref aOpen, .ref aTimes, .ref aFar, .ref aQueue, .long hash]))], [(aOne, .inl (cI, 4, .inl fOne))], [(aBoth, .inl (cI, 4, .inl fBoth))]] [(1, .int 0), (0, .ref o)] 41 [.int x3, .int (r1 - 1), .ref aBoth] by
    refine r_if_ge (tgt := 38) C dX11_turns_28 (by decide) (fun c2 => ?_) (fun c2 => ?_)
    · refine r_iload_n C dX11_turns_38 0 rfl ?_
      refine r_iconst (v := 1) C dX11_turns_39 (by decide) ?_
      refine r_iadd (z := 1) C dX11_turns_40 (by decide) ?_
      exact K _ (by simp only [if_pos c2])
    · refine r_iload_n C dX11_turns_31 0 rfl ?_
      refine r_ineg (z := 0) C dX11_turns_32 (by decide) ?_
      refine r_iconst (v := 1) C dX11_turns_33 (by decide) ?_
      refine r_isub (z := (-1)) C dX11_turns_34 (by decide) ?_
      refine r_goto (tgt := 41) C dX11_turns_35 (by decide) ?_
      exact K _ (by simp only [if_neg c2])
  intro x3 e_x3
  have hp := hp x3 e_x3
  obtain ⟨h4, hp⟩ := hp
  obtain ⟨g5, e_g5⟩ : ∃ z : Nat → Int32, z = upd fBoth ((r1 - 1).toNatClampNeg) x3 := ⟨_, rfl⟩
  have hp := hp g5 e_g5
  refine r_iast C 2 0 rfl rfl h4 (I' := [[(o, .inr (9, [.ref aS, .ref aPast, .int known, .ref aSnap, .int kept, .ref aText, .int len, .int thr, .ref aOne, .ref aTwo, .ref aBoth, .ref aWord, .int cre, .ref aOpen, .ref aTimes, .ref aFar, .ref aQueue, .long hash]))], [(aOne, .inl (cI, 4, .inl fOne))], [(aBoth, .inl (cI, 4, .inl g5))]]) (by rw [e_g5]; rfl) dX11_turns_41 ?_
  refine r_iinc (v := 1) (L' := [(1, .int 1), (0, .ref o)]) C dX11_turns_42 0 rfl (by decide) (by decide) rfl ?_
  refine r_goto (tgt := 2) C dX11_turns_45 (by decide) ?_
  refine r_iload_n C dX11_turns_2 0 rfl ?_
  refine r_iconst (v := 4) C dX11_turns_3 (by decide) ?_
  refine r_icmp_ge (tgt := 48) C dX11_turns_4 (by decide) (fun c => absurd c (by decide)) (fun _ => ?_)
  refine r_aload_n C dX11_turns_7 1 rfl ?_
  refine r_get (Cn := RX11) (T := TX11) (N := 18) C inT11 0 rfl rfl 10 (by decide) t_903 rfl dX11_turns_8 ?_
  refine r_aload_n C dX11_turns_11 1 rfl ?_
  refine r_get (Cn := RX11) (T := TX11) (N := 18) C inT11 0 rfl rfl 8 (by decide) t_901 rfl dX11_turns_12 ?_
  refine r_iload_n C dX11_turns_15 0 rfl ?_
  refine r_iald (z := fOne 1) C 1 0 rfl rfl (vp_in_nI (n := 1) (N := 4) (by decide) (by decide)) dX11_turns_16 (congrArg (fOne) (by decide)) ?_
  refine r_callS (wc := []) (wr := [[(o, .inr (9, [.ref aS, .ref aPast, .int known, .ref aSnap, .int kept, .ref aText, .int len, .int thr, .ref aOne, .ref aTwo, .ref aBoth, .ref aWord, .int cre, .ref aOpen, .ref aTimes, .ref aFar, .ref aQueue, .long hash]))], [(aOne, .inl (cI, 4, .inl fOne))], [(aBoth, .inl (cI, 4, .inl g5))]]) (st := [.ref aBoth]) C (m_X11_size l D cI cL cP cJ (fOne 1)) k_X11_size t_1034 [0, 1, 2] (show ([0, 1, 2] : List Nat).Perm (List.range 3) by decide) rfl rfl rfl (Nat.le_of_ble_eq_true rfl) ⟨Nat.le_of_ble_eq_true rfl, Nat.le_of_ble_eq_true rfl⟩ ⟨Nat.zero_le _, Nat.zero_le _⟩ dX11_turns_17 (fun r6 wr6 hw6 => ?_)
  obtain ⟨e_r6, rfl⟩ := hw6
  have hp := hp r6 e_r6
  refine r_ws (I' := [[(o, .inr (9, [.ref aS, .ref aPast, .int known, .ref aSnap, .int kept, .ref aText, .int len, .int thr, .ref aOne, .ref aTwo, .ref aBoth, .ref aWord, .int cre, .ref aOpen, .ref aTimes, .ref aFar, .ref aQueue, .long hash]))], [(aOne, .inl (cI, 4, .inl fOne))], [(aBoth, .inl (cI, 4, .inl g5))]]) rfl ?_
  refine r_iconst (v := 1) C dX11_turns_20 (by decide) ?_
  refine r_isub C dX11_turns_21 rfl ?_
  refine r_aload_n C dX11_turns_22 1 rfl ?_
  refine r_get (Cn := RX11) (T := TX11) (N := 18) C inT11 0 rfl rfl 8 (by decide) t_901 rfl dX11_turns_23 ?_
  refine r_iload_n C dX11_turns_26 0 rfl ?_
  refine r_iald (z := fOne 1) C 1 0 rfl rfl (vp_in_nI (n := 1) (N := 4) (by decide) (by decide)) dX11_turns_27 (congrArg (fOne) (by decide)) ?_
  suffices K : ∀ x8 : Int32, x8 = ((if 0 ≤ (fOne 1) then (2) else ((-2)))) → V p l e (rmm 1 20) s m args below meth c 2 D A 0 0 Q [[(o, .inr (9, [.ref aS, .ref aPast, .int known, .ref aSnap, .int kept, .ref aText, .int len, .int thr, .ref aOne, .ref aTwo, .ref aBoth, .ref aWord, .int cre, .ref aOpen, .ref aTimes, .ref aFar, .ref aQueue, .long hash]))], [(aOne, .inl (cI, 4, .inl fOne))], [(aBoth, .inl (cI, 4, .inl g5))]] [(1, .int 1), (0, .ref o)] 41 [.int x8, .int (r6 - 1), .ref aBoth] by
    refine r_if_ge (tgt := 38) C dX11_turns_28 (by decide) (fun c7 => ?_) (fun c7 => ?_)
    · refine r_iload_n C dX11_turns_38 0 rfl ?_
      refine r_iconst (v := 1) C dX11_turns_39 (by decide) ?_
      refine r_iadd (z := 2) C dX11_turns_40 (by decide) ?_
      exact K _ (by simp only [if_pos c7])
    · refine r_iload_n C dX11_turns_31 0 rfl ?_
      refine r_ineg (z := (-1)) C dX11_turns_32 (by decide) ?_
      refine r_iconst (v := 1) C dX11_turns_33 (by decide) ?_
      refine r_isub (z := (-2)) C dX11_turns_34 (by decide) ?_
      refine r_goto (tgt := 41) C dX11_turns_35 (by decide) ?_
      exact K _ (by simp only [if_neg c7])
  intro x8 e_x8
  have hp := hp x8 e_x8
  obtain ⟨h9, hp⟩ := hp
  obtain ⟨g10, e_g10⟩ : ∃ z : Nat → Int32, z = upd g5 ((r6 - 1).toNatClampNeg) x8 := ⟨_, rfl⟩
  have hp := hp g10 e_g10
  refine r_iast C 2 0 rfl rfl h9 (I' := [[(o, .inr (9, [.ref aS, .ref aPast, .int known, .ref aSnap, .int kept, .ref aText, .int len, .int thr, .ref aOne, .ref aTwo, .ref aBoth, .ref aWord, .int cre, .ref aOpen, .ref aTimes, .ref aFar, .ref aQueue, .long hash]))], [(aOne, .inl (cI, 4, .inl fOne))], [(aBoth, .inl (cI, 4, .inl g10))]]) (by rw [e_g10]; rfl) dX11_turns_41 ?_
  refine r_iinc (v := 2) (L' := [(1, .int 2), (0, .ref o)]) C dX11_turns_42 0 rfl (by decide) (by decide) rfl ?_
  refine r_goto (tgt := 2) C dX11_turns_45 (by decide) ?_
  refine r_iload_n C dX11_turns_2 0 rfl ?_
  refine r_iconst (v := 4) C dX11_turns_3 (by decide) ?_
  refine r_icmp_ge (tgt := 48) C dX11_turns_4 (by decide) (fun c => absurd c (by decide)) (fun _ => ?_)
  refine r_aload_n C dX11_turns_7 1 rfl ?_
  refine r_get (Cn := RX11) (T := TX11) (N := 18) C inT11 0 rfl rfl 10 (by decide) t_903 rfl dX11_turns_8 ?_
  refine r_aload_n C dX11_turns_11 1 rfl ?_
  refine r_get (Cn := RX11) (T := TX11) (N := 18) C inT11 0 rfl rfl 8 (by decide) t_901 rfl dX11_turns_12 ?_
  refine r_iload_n C dX11_turns_15 0 rfl ?_
  refine r_iald (z := fOne 2) C 1 0 rfl rfl (vp_in_nI (n := 2) (N := 4) (by decide) (by decide)) dX11_turns_16 (congrArg (fOne) (by decide)) ?_
  refine r_callS (wc := []) (wr := [[(o, .inr (9, [.ref aS, .ref aPast, .int known, .ref aSnap, .int kept, .ref aText, .int len, .int thr, .ref aOne, .ref aTwo, .ref aBoth, .ref aWord, .int cre, .ref aOpen, .ref aTimes, .ref aFar, .ref aQueue, .long hash]))], [(aOne, .inl (cI, 4, .inl fOne))], [(aBoth, .inl (cI, 4, .inl g10))]]) (st := [.ref aBoth]) C (m_X11_size l D cI cL cP cJ (fOne 2)) k_X11_size t_1034 [0, 1, 2] (show ([0, 1, 2] : List Nat).Perm (List.range 3) by decide) rfl rfl rfl (Nat.le_of_ble_eq_true rfl) ⟨Nat.le_of_ble_eq_true rfl, Nat.le_of_ble_eq_true rfl⟩ ⟨Nat.zero_le _, Nat.zero_le _⟩ dX11_turns_17 (fun r11 wr11 hw11 => ?_)
  obtain ⟨e_r11, rfl⟩ := hw11
  have hp := hp r11 e_r11
  refine r_ws (I' := [[(o, .inr (9, [.ref aS, .ref aPast, .int known, .ref aSnap, .int kept, .ref aText, .int len, .int thr, .ref aOne, .ref aTwo, .ref aBoth, .ref aWord, .int cre, .ref aOpen, .ref aTimes, .ref aFar, .ref aQueue, .long hash]))], [(aOne, .inl (cI, 4, .inl fOne))], [(aBoth, .inl (cI, 4, .inl g10))]]) rfl ?_
  refine r_iconst (v := 1) C dX11_turns_20 (by decide) ?_
  refine r_isub C dX11_turns_21 rfl ?_
  refine r_aload_n C dX11_turns_22 1 rfl ?_
  refine r_get (Cn := RX11) (T := TX11) (N := 18) C inT11 0 rfl rfl 8 (by decide) t_901 rfl dX11_turns_23 ?_
  refine r_iload_n C dX11_turns_26 0 rfl ?_
  refine r_iald (z := fOne 2) C 1 0 rfl rfl (vp_in_nI (n := 2) (N := 4) (by decide) (by decide)) dX11_turns_27 (congrArg (fOne) (by decide)) ?_
  suffices K : ∀ x13 : Int32, x13 = ((if 0 ≤ (fOne 2) then (3) else ((-3)))) → V p l e (rmm 1 20) s m args below meth c 2 D A 0 0 Q [[(o, .inr (9, [.ref aS, .ref aPast, .int known, .ref aSnap, .int kept, .ref aText, .int len, .int thr, .ref aOne, .ref aTwo, .ref aBoth, .ref aWord, .int cre, .ref aOpen, .ref aTimes, .ref aFar, .ref aQueue, .long hash]))], [(aOne, .inl (cI, 4, .inl fOne))], [(aBoth, .inl (cI, 4, .inl g10))]] [(1, .int 2), (0, .ref o)] 41 [.int x13, .int (r11 - 1), .ref aBoth] by
    refine r_if_ge (tgt := 38) C dX11_turns_28 (by decide) (fun c12 => ?_) (fun c12 => ?_)
    · refine r_iload_n C dX11_turns_38 0 rfl ?_
      refine r_iconst (v := 1) C dX11_turns_39 (by decide) ?_
      refine r_iadd (z := 3) C dX11_turns_40 (by decide) ?_
      exact K _ (by simp only [if_pos c12])
    · refine r_iload_n C dX11_turns_31 0 rfl ?_
      refine r_ineg (z := (-2)) C dX11_turns_32 (by decide) ?_
      refine r_iconst (v := 1) C dX11_turns_33 (by decide) ?_
      refine r_isub (z := (-3)) C dX11_turns_34 (by decide) ?_
      refine r_goto (tgt := 41) C dX11_turns_35 (by decide) ?_
      exact K _ (by simp only [if_neg c12])
  intro x13 e_x13
  have hp := hp x13 e_x13
  obtain ⟨h14, hp⟩ := hp
  obtain ⟨g15, e_g15⟩ : ∃ z : Nat → Int32, z = upd g10 ((r11 - 1).toNatClampNeg) x13 := ⟨_, rfl⟩
  have hp := hp g15 e_g15
  refine r_iast C 2 0 rfl rfl h14 (I' := [[(o, .inr (9, [.ref aS, .ref aPast, .int known, .ref aSnap, .int kept, .ref aText, .int len, .int thr, .ref aOne, .ref aTwo, .ref aBoth, .ref aWord, .int cre, .ref aOpen, .ref aTimes, .ref aFar, .ref aQueue, .long hash]))], [(aOne, .inl (cI, 4, .inl fOne))], [(aBoth, .inl (cI, 4, .inl g15))]]) (by rw [e_g15]; rfl) dX11_turns_41 ?_
  refine r_iinc (v := 3) (L' := [(1, .int 3), (0, .ref o)]) C dX11_turns_42 0 rfl (by decide) (by decide) rfl ?_
  refine r_goto (tgt := 2) C dX11_turns_45 (by decide) ?_
  refine r_iload_n C dX11_turns_2 0 rfl ?_
  refine r_iconst (v := 4) C dX11_turns_3 (by decide) ?_
  refine r_icmp_ge (tgt := 48) C dX11_turns_4 (by decide) (fun c => absurd c (by decide)) (fun _ => ?_)
  refine r_aload_n C dX11_turns_7 1 rfl ?_
  refine r_get (Cn := RX11) (T := TX11) (N := 18) C inT11 0 rfl rfl 10 (by decide) t_903 rfl dX11_turns_8 ?_
  refine r_aload_n C dX11_turns_11 1 rfl ?_
  refine r_get (Cn := RX11) (T := TX11) (N := 18) C inT11 0 rfl rfl 8 (by decide) t_901 rfl dX11_turns_12 ?_
  refine r_iload_n C dX11_turns_15 0 rfl ?_
  refine r_iald (z := fOne 3) C 1 0 rfl rfl (vp_in_nI (n := 3) (N := 4) (by decide) (by decide)) dX11_turns_16 (congrArg (fOne) (by decide)) ?_
  refine r_callS (wc := []) (wr := [[(o, .inr (9, [.ref aS, .ref aPast, .int known, .ref aSnap, .int kept, .ref aText, .int len, .int thr, .ref aOne, .ref aTwo, .ref aBoth, .ref aWord, .int cre, .ref aOpen, .ref aTimes, .ref aFar, .ref aQueue, .long hash]))], [(aOne, .inl (cI, 4, .inl fOne))], [(aBoth, .inl (cI, 4, .inl g15))]]) (st := [.ref aBoth]) C (m_X11_size l D cI cL cP cJ (fOne 3)) k_X11_size t_1034 [0, 1, 2] (show ([0, 1, 2] : List Nat).Perm (List.range 3) by decide) rfl rfl rfl (Nat.le_of_ble_eq_true rfl) ⟨Nat.le_of_ble_eq_true rfl, Nat.le_of_ble_eq_true rfl⟩ ⟨Nat.zero_le _, Nat.zero_le _⟩ dX11_turns_17 (fun r16 wr16 hw16 => ?_)
  obtain ⟨e_r16, rfl⟩ := hw16
  have hp := hp r16 e_r16
  refine r_ws (I' := [[(o, .inr (9, [.ref aS, .ref aPast, .int known, .ref aSnap, .int kept, .ref aText, .int len, .int thr, .ref aOne, .ref aTwo, .ref aBoth, .ref aWord, .int cre, .ref aOpen, .ref aTimes, .ref aFar, .ref aQueue, .long hash]))], [(aOne, .inl (cI, 4, .inl fOne))], [(aBoth, .inl (cI, 4, .inl g15))]]) rfl ?_
  refine r_iconst (v := 1) C dX11_turns_20 (by decide) ?_
  refine r_isub C dX11_turns_21 rfl ?_
  refine r_aload_n C dX11_turns_22 1 rfl ?_
  refine r_get (Cn := RX11) (T := TX11) (N := 18) C inT11 0 rfl rfl 8 (by decide) t_901 rfl dX11_turns_23 ?_
  refine r_iload_n C dX11_turns_26 0 rfl ?_
  refine r_iald (z := fOne 3) C 1 0 rfl rfl (vp_in_nI (n := 3) (N := 4) (by decide) (by decide)) dX11_turns_27 (congrArg (fOne) (by decide)) ?_
  suffices K : ∀ x18 : Int32, x18 = ((if 0 ≤ (fOne 3) then (4) else ((-4)))) → V p l e (rmm 1 20) s m args below meth c 2 D A 0 0 Q [[(o, .inr (9, [.ref aS, .ref aPast, .int known, .ref aSnap, .int kept, .ref aText, .int len, .int thr, .ref aOne, .ref aTwo, .ref aBoth, .ref aWord, .int cre, .ref aOpen, .ref aTimes, .ref aFar, .ref aQueue, .long hash]))], [(aOne, .inl (cI, 4, .inl fOne))], [(aBoth, .inl (cI, 4, .inl g15))]] [(1, .int 3), (0, .ref o)] 41 [.int x18, .int (r16 - 1), .ref aBoth] by
    refine r_if_ge (tgt := 38) C dX11_turns_28 (by decide) (fun c17 => ?_) (fun c17 => ?_)
    · refine r_iload_n C dX11_turns_38 0 rfl ?_
      refine r_iconst (v := 1) C dX11_turns_39 (by decide) ?_
      refine r_iadd (z := 4) C dX11_turns_40 (by decide) ?_
      exact K _ (by simp only [if_pos c17])
    · refine r_iload_n C dX11_turns_31 0 rfl ?_
      refine r_ineg (z := (-3)) C dX11_turns_32 (by decide) ?_
      refine r_iconst (v := 1) C dX11_turns_33 (by decide) ?_
      refine r_isub (z := (-4)) C dX11_turns_34 (by decide) ?_
      refine r_goto (tgt := 41) C dX11_turns_35 (by decide) ?_
      exact K _ (by simp only [if_neg c17])
  intro x18 e_x18
  have hp := hp x18 e_x18
  have h19 := hp
  obtain ⟨g20, e_g20⟩ : ∃ z : Nat → Int32, z = upd g15 ((r16 - 1).toNatClampNeg) x18 := ⟨_, rfl⟩
  refine r_iast C 2 0 rfl rfl h19 (I' := [[(o, .inr (9, [.ref aS, .ref aPast, .int known, .ref aSnap, .int kept, .ref aText, .int len, .int thr, .ref aOne, .ref aTwo, .ref aBoth, .ref aWord, .int cre, .ref aOpen, .ref aTimes, .ref aFar, .ref aQueue, .long hash]))], [(aOne, .inl (cI, 4, .inl fOne))], [(aBoth, .inl (cI, 4, .inl g20))]]) (by rw [e_g20]; rfl) dX11_turns_41 ?_
  refine r_iinc (v := 4) (L' := [(1, .int 4), (0, .ref o)]) C dX11_turns_42 0 rfl (by decide) (by decide) rfl ?_
  refine r_goto (tgt := 2) C dX11_turns_45 (by decide) ?_
  refine r_iload_n C dX11_turns_2 0 rfl ?_
  refine r_iconst (v := 4) C dX11_turns_3 (by decide) ?_
  refine r_icmp_ge (tgt := 48) C dX11_turns_4 (by decide) (fun _ => ?_) (fun c => absurd c (by decide))
  refine r_iconst (v := 0) C dX11_turns_48 (by decide) ?_
  refine r_istore_n (L' := [(1, .int 0), (0, .ref o)]) C dX11_turns_49 (by decide) rfl ?_
  refine r_iload_n C dX11_turns_50 0 rfl ?_
  refine r_iconst (v := 4) C dX11_turns_51 (by decide) ?_
  refine r_icmp_ge (tgt := 73) C dX11_turns_52 (by decide) (fun c => absurd c (by decide)) (fun _ => ?_)
  refine r_aload_n C dX11_turns_55 1 rfl ?_
  refine r_get (Cn := RX11) (T := TX11) (N := 18) C inT11 0 rfl rfl 8 (by decide) t_901 rfl dX11_turns_56 ?_
  refine r_iload_n C dX11_turns_59 0 rfl ?_
  refine r_aload_n C dX11_turns_60 1 rfl ?_
  refine r_get (Cn := RX11) (T := TX11) (N := 18) C inT11 0 rfl rfl 10 (by decide) t_903 rfl dX11_turns_61 ?_
  refine r_iload_n C dX11_turns_64 0 rfl ?_
  refine r_iald (z := g20 0) C 2 0 rfl rfl (vp_in_nI (n := 0) (N := 4) (by decide) (by decide)) dX11_turns_65 (congrArg (g20) (by decide)) ?_
  refine r_top (fun x21 e_x21 => ?_)
  obtain ⟨g22, e_g22⟩ : ∃ z : Nat → Int32, z = upd fOne 0 x21 := ⟨_, rfl⟩
  refine r_iast C 1 0 rfl rfl (vp_in_nI (n := 0) (N := 4) (by decide) (by decide)) (I' := [[(o, .inr (9, [.ref aS, .ref aPast, .int known, .ref aSnap, .int kept, .ref aText, .int len, .int thr, .ref aOne, .ref aTwo, .ref aBoth, .ref aWord, .int cre, .ref aOpen, .ref aTimes, .ref aFar, .ref aQueue, .long hash]))], [(aOne, .inl (cI, 4, .inl g22))], [(aBoth, .inl (cI, 4, .inl g20))]]) (by rw [e_g22]; rfl) dX11_turns_66 ?_
  refine r_iinc (v := 1) (L' := [(1, .int 1), (0, .ref o)]) C dX11_turns_67 0 rfl (by decide) (by decide) rfl ?_
  refine r_goto (tgt := 50) C dX11_turns_70 (by decide) ?_
  refine r_iload_n C dX11_turns_50 0 rfl ?_
  refine r_iconst (v := 4) C dX11_turns_51 (by decide) ?_
  refine r_icmp_ge (tgt := 73) C dX11_turns_52 (by decide) (fun c => absurd c (by decide)) (fun _ => ?_)
  refine r_aload_n C dX11_turns_55 1 rfl ?_
  refine r_get (Cn := RX11) (T := TX11) (N := 18) C inT11 0 rfl rfl 8 (by decide) t_901 rfl dX11_turns_56 ?_
  refine r_iload_n C dX11_turns_59 0 rfl ?_
  refine r_aload_n C dX11_turns_60 1 rfl ?_
  refine r_get (Cn := RX11) (T := TX11) (N := 18) C inT11 0 rfl rfl 10 (by decide) t_903 rfl dX11_turns_61 ?_
  refine r_iload_n C dX11_turns_64 0 rfl ?_
  refine r_iald (z := g20 1) C 2 0 rfl rfl (vp_in_nI (n := 1) (N := 4) (by decide) (by decide)) dX11_turns_65 (congrArg (g20) (by decide)) ?_
  refine r_top (fun x23 e_x23 => ?_)
  obtain ⟨g24, e_g24⟩ : ∃ z : Nat → Int32, z = upd g22 1 x23 := ⟨_, rfl⟩
  refine r_iast C 1 0 rfl rfl (vp_in_nI (n := 1) (N := 4) (by decide) (by decide)) (I' := [[(o, .inr (9, [.ref aS, .ref aPast, .int known, .ref aSnap, .int kept, .ref aText, .int len, .int thr, .ref aOne, .ref aTwo, .ref aBoth, .ref aWord, .int cre, .ref aOpen, .ref aTimes, .ref aFar, .ref aQueue, .long hash]))], [(aOne, .inl (cI, 4, .inl g24))], [(aBoth, .inl (cI, 4, .inl g20))]]) (by rw [e_g24]; rfl) dX11_turns_66 ?_
  refine r_iinc (v := 2) (L' := [(1, .int 2), (0, .ref o)]) C dX11_turns_67 0 rfl (by decide) (by decide) rfl ?_
  refine r_goto (tgt := 50) C dX11_turns_70 (by decide) ?_
  refine r_iload_n C dX11_turns_50 0 rfl ?_
  refine r_iconst (v := 4) C dX11_turns_51 (by decide) ?_
  refine r_icmp_ge (tgt := 73) C dX11_turns_52 (by decide) (fun c => absurd c (by decide)) (fun _ => ?_)
  refine r_aload_n C dX11_turns_55 1 rfl ?_
  refine r_get (Cn := RX11) (T := TX11) (N := 18) C inT11 0 rfl rfl 8 (by decide) t_901 rfl dX11_turns_56 ?_
  refine r_iload_n C dX11_turns_59 0 rfl ?_
  refine r_aload_n C dX11_turns_60 1 rfl ?_
  refine r_get (Cn := RX11) (T := TX11) (N := 18) C inT11 0 rfl rfl 10 (by decide) t_903 rfl dX11_turns_61 ?_
  refine r_iload_n C dX11_turns_64 0 rfl ?_
  refine r_iald (z := g20 2) C 2 0 rfl rfl (vp_in_nI (n := 2) (N := 4) (by decide) (by decide)) dX11_turns_65 (congrArg (g20) (by decide)) ?_
  refine r_top (fun x25 e_x25 => ?_)
  obtain ⟨g26, e_g26⟩ : ∃ z : Nat → Int32, z = upd g24 2 x25 := ⟨_, rfl⟩
  refine r_iast C 1 0 rfl rfl (vp_in_nI (n := 2) (N := 4) (by decide) (by decide)) (I' := [[(o, .inr (9, [.ref aS, .ref aPast, .int known, .ref aSnap, .int kept, .ref aText, .int len, .int thr, .ref aOne, .ref aTwo, .ref aBoth, .ref aWord, .int cre, .ref aOpen, .ref aTimes, .ref aFar, .ref aQueue, .long hash]))], [(aOne, .inl (cI, 4, .inl g26))], [(aBoth, .inl (cI, 4, .inl g20))]]) (by rw [e_g26]; rfl) dX11_turns_66 ?_
  refine r_iinc (v := 3) (L' := [(1, .int 3), (0, .ref o)]) C dX11_turns_67 0 rfl (by decide) (by decide) rfl ?_
  refine r_goto (tgt := 50) C dX11_turns_70 (by decide) ?_
  refine r_iload_n C dX11_turns_50 0 rfl ?_
  refine r_iconst (v := 4) C dX11_turns_51 (by decide) ?_
  refine r_icmp_ge (tgt := 73) C dX11_turns_52 (by decide) (fun c => absurd c (by decide)) (fun _ => ?_)
  refine r_aload_n C dX11_turns_55 1 rfl ?_
  refine r_get (Cn := RX11) (T := TX11) (N := 18) C inT11 0 rfl rfl 8 (by decide) t_901 rfl dX11_turns_56 ?_
  refine r_iload_n C dX11_turns_59 0 rfl ?_
  refine r_aload_n C dX11_turns_60 1 rfl ?_
  refine r_get (Cn := RX11) (T := TX11) (N := 18) C inT11 0 rfl rfl 10 (by decide) t_903 rfl dX11_turns_61 ?_
  refine r_iload_n C dX11_turns_64 0 rfl ?_
  refine r_iald (z := g20 3) C 2 0 rfl rfl (vp_in_nI (n := 3) (N := 4) (by decide) (by decide)) dX11_turns_65 (congrArg (g20) (by decide)) ?_
  refine r_top (fun x27 e_x27 => ?_)
  obtain ⟨g28, e_g28⟩ : ∃ z : Nat → Int32, z = upd g26 3 x27 := ⟨_, rfl⟩
  refine r_iast C 1 0 rfl rfl (vp_in_nI (n := 3) (N := 4) (by decide) (by decide)) (I' := [[(o, .inr (9, [.ref aS, .ref aPast, .int known, .ref aSnap, .int kept, .ref aText, .int len, .int thr, .ref aOne, .ref aTwo, .ref aBoth, .ref aWord, .int cre, .ref aOpen, .ref aTimes, .ref aFar, .ref aQueue, .long hash]))], [(aOne, .inl (cI, 4, .inl g28))], [(aBoth, .inl (cI, 4, .inl g20))]]) (by rw [e_g28]; rfl) dX11_turns_66 ?_
  refine r_iinc (v := 4) (L' := [(1, .int 4), (0, .ref o)]) C dX11_turns_67 0 rfl (by decide) (by decide) rfl ?_
  refine r_goto (tgt := 50) C dX11_turns_70 (by decide) ?_
  refine r_iload_n C dX11_turns_50 0 rfl ?_
  refine r_iconst (v := 4) C dX11_turns_51 (by decide) ?_
  refine r_icmp_ge (tgt := 73) C dX11_turns_52 (by decide) (fun _ => ?_) (fun c => absurd c (by decide))
  have eF : F_X11_turns fOne fBoth = (g28, g20) := by have q := e_r1.symm; subst q; have q := e_x3.symm; subst q; have q := e_g5.symm; subst q; have q := e_r6.symm; subst q; have q := e_x8.symm; subst q; have q := e_g10.symm; subst q; have q := e_r11.symm; subst q; have q := e_x13.symm; subst q; have q := e_g15.symm; subst q; have q := e_r16.symm; subst q; have q := e_x18.symm; subst q; have q := e_g20.symm; subst q; have q := e_x21.symm; subst q; have q := e_g22.symm; subst q; have q := e_x23.symm; subst q; have q := e_g24.symm; subst q; have q := e_x25.symm; subst q; have q := e_g26.symm; subst q; have q := e_x27.symm; subst q; have q := e_g28.symm; subst q; rfl
  exact r_vret (r := ()) C hA hr hlo dX11_turns_73 [[(o, .inr (9, [.ref aS, .ref aPast, .int known, .ref aSnap, .int kept, .ref aText, .int len, .int thr, .ref aOne, .ref aTwo, .ref aBoth, .ref aWord, .int cre, .ref aOpen, .ref aTimes, .ref aFar, .ref aQueue, .long hash]))], [(aOne, .inl (cI, 4, .inl g28))], [(aBoth, .inl (cI, 4, .inl g20))]] (by simp only [eF]) rfl hQ
theorem k_X11_words : kV yX11_words cX11_words 3 none 0 := ⟨t_1024, t_24, t_67, t_1025, by decide +kernel, by decide +kernel, by decide +kernel⟩
def F_X11_words_L24 (r6 : Int32) : Nat → (Nat → Int32) → Int32 → (Nat → Int32) × Int32
  | 0, k9, y10 => (k9, y10)
  | nn + 1, k9, y10 => let r11 : Int32 := F_X11_lengthOfOne k9; (if r11 ≤ r6 then ((k9, y10)) else (let g14 : Nat → Int32 := F_X11_foldsAhead k9 y10; let x15 : Int32 := y10 + 1; let g17 : Nat → Int32 := F_X11_foldsAhead g14 x15; F_X11_words_L24 r6 nn g17 x15))
def P_X11_words_L24 (r6 : Int32) : Nat → (Nat → Int32) → Int32 → Prop
  | 0, _, _ => False
  | nn + 1, k9, y10 => (∀ r11 : Int32, r11 = F_X11_lengthOfOne k9 → ((r11 ≤ r6 → True) ∧ (¬ r11 ≤ r6 → (∀ g14 : Nat → Int32, g14 = F_X11_foldsAhead k9 y10 → (∀ x15 : Int32, x15 = y10 + 1 → (∀ g17 : Nat → Int32, g17 = F_X11_foldsAhead g14 x15 → (P_X11_words_L24 r6 nn g17 x15)))))))
def F_X11_words_L5  : Nat → (Nat → Int32) → (Nat → Int32) → Int32 → (Nat → Int32) × (Nat → Int32) × Int32
  | 0, k1, k2, y3 => (k1, k2, y3)
  | nn + 1, k1, k2, y3 => let r4 : Int32 := F_X11_isFlatOne k1; (if r4 = 0 then (let r6 : Int32 := F_X11_lengthOfOne k1; let g8 : Nat → Int32 := F_X11_foldsAhead k1 0; let f18 : Nat → Int32 := (F_X11_words_L24 r6 5 g8 0).1; let z19 : Int32 := (F_X11_words_L24 r6 5 g8 0).2; let g21 : Nat → Int32 := upd k2 (y3.toNatClampNeg) z19; let x22 : Int32 := y3 + 1; F_X11_words_L5 nn f18 g21 x22) else ((k1, k2, y3)))
def P_X11_words_L5  : Nat → (Nat → Int32) → (Nat → Int32) → Int32 → Prop
  | 0, _, _, _ => False
  | nn + 1, k1, k2, y3 => (∀ r4 : Int32, r4 = F_X11_isFlatOne k1 → ((r4 = 0 → (∀ r6 : Int32, r6 = F_X11_lengthOfOne k1 → (∀ g8 : Nat → Int32, g8 = F_X11_foldsAhead k1 0 → ((P_X11_words_L24 r6 5 g8 0) ∧ (∀ f18 : Nat → Int32, f18 = (F_X11_words_L24 r6 5 g8 0).1 → (∀ z19 : Int32, z19 = (F_X11_words_L24 r6 5 g8 0).2 → ((vp_in y3 20) ∧ (∀ g21 : Nat → Int32, g21 = upd k2 (y3.toNatClampNeg) z19 → (∀ x22 : Int32, x22 = y3 + 1 → (P_X11_words_L5 nn f18 g21 x22)))))))))) ∧ (¬ r4 = 0 → True)))
set_option maxRecDepth 20000 in
def F_X11_words (fOne : Nat → Int32) (fWord : Nat → Int32) : Int32 × (Nat → Int32) × (Nat → Int32) := let f23 : Nat → Int32 := (F_X11_words_L5 17 fOne fWord 0).1; let f24 : Nat → Int32 := (F_X11_words_L5 17 fOne fWord 0).2.1; let z25 : Int32 := (F_X11_words_L5 17 fOne fWord 0).2.2; (z25, f23, f24)
set_option maxRecDepth 20000 in
def P_X11_words (fOne : Nat → Int32) (fWord : Nat → Int32) : Prop := (P_X11_words_L5 17 fOne fWord 0)
set_option maxRecDepth 20000 in
set_option maxHeartbeats 8000000 in
theorem m_X11_words (l : Launch) (D : va_G) (cI cL cP cJ : ClassId) (o : Nat) (aS : Nat) (aPast : Nat) (aSnap : Nat) (aText : Nat) (aOne : Nat) (aTwo : Nat) (aBoth : Nat) (aWord : Nat) (aOpen : Nat) (aTimes : Nat) (aFar : Nat) (aQueue : Nat) (known : Int32) (kept : Int32) (len : Int32) (thr : Int32) (cre : Int32) (hash : Int64) (fOne : Nat → Int32) (fWord : Nat → Int32) (hp : P_X11_words fOne fWord) : M vV l yX11_words cX11_words 3 none 2 45 D (tyF cI cL cP cJ) [.ref o] [[(o, .inr (9, [.ref aS, .ref aPast, .int known, .ref aSnap, .int kept, .ref aText, .int len, .int thr, .ref aOne, .ref aTwo, .ref aBoth, .ref aWord, .int cre, .ref aOpen, .ref aTimes, .ref aFar, .ref aQueue, .long hash]))], [(aOne, .inl (cI, 4, .inl fOne))], [(aWord, .inl (cI, 20, .inl fWord))]] (fun (r : Unit) (w1 : List va_W) => w1 = [[(o, .inr (9, [.ref aS, .ref aPast, .int known, .ref aSnap, .int kept, .ref aText, .int len, .int thr, .ref aOne, .ref aTwo, .ref aBoth, .ref aWord, .int ((F_X11_words fOne fWord).1), .ref aOpen, .ref aTimes, .ref aFar, .ref aQueue, .long hash]))], [(aOne, .inl (cI, 4, .inl ((F_X11_words fOne fWord).2.1)))], [(aWord, .inl (cI, 20, .inl ((F_X11_words fOne fWord).2.2)))]]) := by
  unfold P_X11_words at hp
  refine m_start (by decide +kernel) (Nat.le_of_ble_eq_true rfl) (fun p e s m args below meth c A Q hA hQ C hr hlo => ?_)
  refine r_Le (L' := [(0, .ref o)]) rfl ?_
  refine r_aload_n C dX11_words_0 0 rfl ?_
  refine r_iconst (v := 0) C dX11_words_1 (by decide) ?_
  refine r_put (Cn := RX11) (T := TX11) (N := 18) C inT11 0 rfl rfl 12 (by decide) t_905 tyX11 tyX11_ok nmX11 rfl rfl rfl (Nat.le_of_ble_eq_true rfl) (I' := [[(o, .inr (9, [.ref aS, .ref aPast, .int known, .ref aSnap, .int kept, .ref aText, .int len, .int thr, .ref aOne, .ref aTwo, .ref aBoth, .ref aWord, .int 0, .ref aOpen, .ref aTimes, .ref aFar, .ref aQueue, .long hash]))], [(aOne, .inl (cI, 4, .inl fOne))], [(aWord, .inl (cI, 20, .inl fWord))]]) rfl dX11_words_2 ?_
  have hpl := hp
  have hL : ∀ (nn : Nat) (k1 : Nat → Int32) (k2 : Nat → Int32) (y3 : Int32), P_X11_words_L5 nn k1 k2 y3 → (∀ f23 : Nat → Int32, f23 = (F_X11_words_L5 nn k1 k2 y3).1 → ∀ f24 : Nat → Int32, f24 = (F_X11_words_L5 nn k1 k2 y3).2.1 → ∀ z25 : Int32, z25 = (F_X11_words_L5 nn k1 k2 y3).2.2 → V p l e (rmm 2 45) s m args below meth c 3 D A 0 0 Q [[(o, .inr (9, [.ref aS, .ref aPast, .int known, .ref aSnap, .int kept, .ref aText, .int len, .int thr, .ref aOne, .ref aTwo, .ref aBoth, .ref aWord, .int z25, .ref aOpen, .ref aTimes, .ref aFar, .ref aQueue, .long hash]))], [(aOne, .inl (cI, 4, .inl f23))], [(aWord, .inl (cI, 20, .inl f24))]] [(0, .ref o)] 71 []) → V p l e (rmm 2 45) s m args below meth c 3 D A 0 0 Q [[(o, .inr (9, [.ref aS, .ref aPast, .int known, .ref aSnap, .int kept, .ref aText, .int len, .int thr, .ref aOne, .ref aTwo, .ref aBoth, .ref aWord, .int y3, .ref aOpen, .ref aTimes, .ref aFar, .ref aQueue, .long hash]))], [(aOne, .inl (cI, 4, .inl k1))], [(aWord, .inl (cI, 20, .inl k2))]] [(0, .ref o)] 5 [] := by
    clear hpl
    intro nn
    induction nn with
    | zero => intro k1 k2 y3 hp kk; rw [P_X11_words_L5] at hp; exact hp.elim
    | succ nn ih =>
      intro k1 k2 y3 hp kk
      rw [P_X11_words_L5] at hp
      refine r_aload_n C dX11_words_5 0 rfl ?_
      refine r_callV (ci := 9) (wc := [[(o, .inr (9, [.ref aS, .ref aPast, .int known, .ref aSnap, .int kept, .ref aText, .int len, .int thr, .ref aOne, .ref aTwo, .ref aBoth, .ref aWord, .int y3, .ref aOpen, .ref aTimes, .ref aFar, .ref aQueue, .long hash]))], [(aOne, .inl (cI, 4, .inl k1))]]) (wr := [[(aWord, .inl (cI, 20, .inl k2))]]) (st := []) C (m_X11_isFlatOne l D cI cL cP cJ o aS aPast aSnap aText aOne aTwo aBoth aWord aOpen aTimes aFar aQueue known kept len thr y3 hash k1) k_X11_isFlatOne t_1026 [0, 1, 2] (show ([0, 1, 2] : List Nat).Perm (List.range 3) by decide) rfl rfl rfl (q0 := 0) rfl rfl rfl (Nat.le_of_ble_eq_true rfl) ⟨Nat.le_of_ble_eq_true rfl, Nat.le_of_ble_eq_true rfl⟩ ⟨Nat.zero_le _, Nat.zero_le _⟩ dX11_words_6 (fun r4 wr4 hw4 => ?_)
      obtain ⟨e_r4, rfl⟩ := hw4
      have hp := hp r4 e_r4
      refine r_ws (I' := [[(o, .inr (9, [.ref aS, .ref aPast, .int known, .ref aSnap, .int kept, .ref aText, .int len, .int thr, .ref aOne, .ref aTwo, .ref aBoth, .ref aWord, .int y3, .ref aOpen, .ref aTimes, .ref aFar, .ref aQueue, .long hash]))], [(aOne, .inl (cI, 4, .inl k1))], [(aWord, .inl (cI, 20, .inl k2))]]) rfl ?_
      refine r_if_ne (tgt := 71) C dX11_words_9 (by decide) (fun c5 => ?_) (fun c5 => ?_)
      · have eF : F_X11_words_L5 (nn + 1) k1 k2 y3 = (k1, k2, y3) := by have q := e_r4.symm; subst q; simp only [F_X11_words_L5, if_neg c5]
        exact kk _ (by rw [eF]) _ (by rw [eF]) _ (by rw [eF])
      · have hp := hp.1 c5
        refine r_aload_n C dX11_words_12 0 rfl ?_
        refine r_callV (ci := 9) (wc := [[(o, .inr (9, [.ref aS, .ref aPast, .int known, .ref aSnap, .int kept, .ref aText, .int len, .int thr, .ref aOne, .ref aTwo, .ref aBoth, .ref aWord, .int y3, .ref aOpen, .ref aTimes, .ref aFar, .ref aQueue, .long hash]))], [(aOne, .inl (cI, 4, .inl k1))]]) (wr := [[(aWord, .inl (cI, 20, .inl k2))]]) (st := []) C (m_X11_lengthOfOne l D cI cL cP cJ o aS aPast aSnap aText aOne aTwo aBoth aWord aOpen aTimes aFar aQueue known kept len thr y3 hash k1) k_X11_lengthOfOne t_1006 [0, 1, 2] (show ([0, 1, 2] : List Nat).Perm (List.range 3) by decide) rfl rfl rfl (q0 := 0) rfl rfl rfl (Nat.le_of_ble_eq_true rfl) ⟨Nat.le_of_ble_eq_true rfl, Nat.le_of_ble_eq_true rfl⟩ ⟨Nat.zero_le _, Nat.zero_le _⟩ dX11_words_13 (fun r6 wr6 hw6 => ?_)
        obtain ⟨e_r6, rfl⟩ := hw6
        have hp := hp r6 e_r6
        refine r_ws (I' := [[(o, .inr (9, [.ref aS, .ref aPast, .int known, .ref aSnap, .int kept, .ref aText, .int len, .int thr, .ref aOne, .ref aTwo, .ref aBoth, .ref aWord, .int y3, .ref aOpen, .ref aTimes, .ref aFar, .ref aQueue, .long hash]))], [(aOne, .inl (cI, 4, .inl k1))], [(aWord, .inl (cI, 20, .inl k2))]]) rfl ?_
        refine r_istore_n (L' := [(1, .int r6), (0, .ref o)]) C dX11_words_16 (by decide) rfl ?_
        refine r_iconst (v := 0) C dX11_words_17 (by decide) ?_
        refine r_istore_n (L' := [(2, .int 0), (1, .int r6), (0, .ref o)]) C dX11_words_18 (by decide) rfl ?_
        refine r_aload_n C dX11_words_19 2 rfl ?_
        refine r_iload_n C dX11_words_20 0 rfl ?_
        refine r_callV (ci := 9) (wc := [[(o, .inr (9, [.ref aS, .ref aPast, .int known, .ref aSnap, .int kept, .ref aText, .int len, .int thr, .ref aOne, .ref aTwo, .ref aBoth, .ref aWord, .int y3, .ref aOpen, .ref aTimes, .ref aFar, .ref aQueue, .long hash]))], [(aOne, .inl (cI, 4, .inl k1))]]) (wr := [[(aWord, .inl (cI, 20, .inl k2))]]) (st := []) C (m_X11_foldsAhead l D cI cL cP cJ o aS aPast aSnap aText aOne aTwo aBoth aWord aOpen aTimes aFar aQueue known kept len thr y3 hash k1 0) k_X11_foldsAhead t_1030 [0, 1, 2] (show ([0, 1, 2] : List Nat).Perm (List.range 3) by decide) rfl rfl rfl (q0 := 0) rfl rfl rfl (Nat.le_of_ble_eq_true rfl) ⟨Nat.le_of_ble_eq_true rfl, Nat.le_of_ble_eq_true rfl⟩ ⟨Nat.zero_le _, Nat.zero_le _⟩ dX11_words_21 (fun r7 wr7 hw7 => ?_)
        obtain rfl := hw7
        obtain ⟨g8, e_g8⟩ : ∃ z : Nat → Int32, z = F_X11_foldsAhead k1 0 := ⟨_, rfl⟩
        have hp := hp g8 e_g8
        refine r_ws (I' := [[(o, .inr (9, [.ref aS, .ref aPast, .int known, .ref aSnap, .int kept, .ref aText, .int len, .int thr, .ref aOne, .ref aTwo, .ref aBoth, .ref aWord, .int y3, .ref aOpen, .ref aTimes, .ref aFar, .ref aQueue, .long hash]))], [(aOne, .inl (cI, 4, .inl g8))], [(aWord, .inl (cI, 20, .inl k2))]]) (by rw [e_g8]; rfl) ?_
        obtain ⟨hpl, hp⟩ := hp
        have hL : ∀ (nn : Nat) (k9 : Nat → Int32) (y10 : Int32), P_X11_words_L24 r6 nn k9 y10 → (∀ f18 : Nat → Int32, f18 = (F_X11_words_L24 r6 nn k9 y10).1 → ∀ z19 : Int32, z19 = (F_X11_words_L24 r6 nn k9 y10).2 → V p l e (rmm 2 45) s m args below meth c 3 D A 0 0 Q [[(o, .inr (9, [.ref aS, .ref aPast, .int known, .ref aSnap, .int kept, .ref aText, .int len, .int thr, .ref aOne, .ref aTwo, .ref aBoth, .ref aWord, .int y3, .ref aOpen, .ref aTimes, .ref aFar, .ref aQueue, .long hash]))], [(aOne, .inl (cI, 4, .inl f18))], [(aWord, .inl (cI, 20, .inl k2))]] [(2, .int z19), (1, .int r6), (0, .ref o)] 48 []) → V p l e (rmm 2 45) s m args below meth c 3 D A 0 0 Q [[(o, .inr (9, [.ref aS, .ref aPast, .int known, .ref aSnap, .int kept, .ref aText, .int len, .int thr, .ref aOne, .ref aTwo, .ref aBoth, .ref aWord, .int y3, .ref aOpen, .ref aTimes, .ref aFar, .ref aQueue, .long hash]))], [(aOne, .inl (cI, 4, .inl k9))], [(aWord, .inl (cI, 20, .inl k2))]] [(2, .int y10), (1, .int r6), (0, .ref o)] 24 [] := by
          clear hpl hp
          intro nn
          induction nn with
          | zero => intro k9 y10 hp kk; rw [P_X11_words_L24] at hp; exact hp.elim
          | succ nn ih =>
            intro k9 y10 hp kk
            rw [P_X11_words_L24] at hp
            refine r_aload_n C dX11_words_24 2 rfl ?_
            refine r_callV (ci := 9) (wc := [[(o, .inr (9, [.ref aS, .ref aPast, .int known, .ref aSnap, .int kept, .ref aText, .int len, .int thr, .ref aOne, .ref aTwo, .ref aBoth, .ref aWord, .int y3, .ref aOpen, .ref aTimes, .ref aFar, .ref aQueue, .long hash]))], [(aOne, .inl (cI, 4, .inl k9))]]) (wr := [[(aWord, .inl (cI, 20, .inl k2))]]) (st := []) C (m_X11_lengthOfOne l D cI cL cP cJ o aS aPast aSnap aText aOne aTwo aBoth aWord aOpen aTimes aFar aQueue known kept len thr y3 hash k9) k_X11_lengthOfOne t_1006 [0, 1, 2] (show ([0, 1, 2] : List Nat).Perm (List.range 3) by decide) rfl rfl rfl (q0 := 0) rfl rfl rfl (Nat.le_of_ble_eq_true rfl) ⟨Nat.le_of_ble_eq_true rfl, Nat.le_of_ble_eq_true rfl⟩ ⟨Nat.zero_le _, Nat.zero_le _⟩ dX11_words_25 (fun r11 wr11 hw11 => ?_)
            obtain ⟨e_r11, rfl⟩ := hw11
            have hp := hp r11 e_r11
            refine r_ws (I' := [[(o, .inr (9, [.ref aS, .ref aPast, .int known, .ref aSnap, .int kept, .ref aText, .int len, .int thr, .ref aOne, .ref aTwo, .ref aBoth, .ref aWord, .int y3, .ref aOpen, .ref aTimes, .ref aFar, .ref aQueue, .long hash]))], [(aOne, .inl (cI, 4, .inl k9))], [(aWord, .inl (cI, 20, .inl k2))]]) rfl ?_
            refine r_iload_n C dX11_words_28 1 rfl ?_
            refine r_icmp_le (tgt := 48) C dX11_words_29 (by decide) (fun c12 => ?_) (fun c12 => ?_)
            · have eF : F_X11_words_L24 r6 (nn + 1) k9 y10 = (k9, y10) := by have q := e_r11.symm; subst q; simp only [F_X11_words_L24, if_pos c12]
              exact kk _ (by rw [eF]) _ (by rw [eF])
            · have hp := hp.2 c12
              refine r_aload_n C dX11_words_32 2 rfl ?_
              refine r_iload_n C dX11_words_33 0 rfl ?_
              refine r_callV (ci := 9) (wc := [[(o, .inr (9, [.ref aS, .ref aPast, .int known, .ref aSnap, .int kept, .ref aText, .int len, .int thr, .ref aOne, .ref aTwo, .ref aBoth, .ref aWord, .int y3, .ref aOpen, .ref aTimes, .ref aFar, .ref aQueue, .long hash]))], [(aOne, .inl (cI, 4, .inl k9))]]) (wr := [[(aWord, .inl (cI, 20, .inl k2))]]) (st := []) C (m_X11_foldsAhead l D cI cL cP cJ o aS aPast aSnap aText aOne aTwo aBoth aWord aOpen aTimes aFar aQueue known kept len thr y3 hash k9 y10) k_X11_foldsAhead t_1030 [0, 1, 2] (show ([0, 1, 2] : List Nat).Perm (List.range 3) by decide) rfl rfl rfl (q0 := 0) rfl rfl rfl (Nat.le_of_ble_eq_true rfl) ⟨Nat.le_of_ble_eq_true rfl, Nat.le_of_ble_eq_true rfl⟩ ⟨Nat.zero_le _, Nat.zero_le _⟩ dX11_words_34 (fun r13 wr13 hw13 => ?_)
              obtain rfl := hw13
              obtain ⟨g14, e_g14⟩ : ∃ z : Nat → Int32, z = F_X11_foldsAhead k9 y10 := ⟨_, rfl⟩
              have hp := hp g14 e_g14
              refine r_ws (I' := [[(o, .inr (9, [.ref aS, .ref aPast, .int known, .ref aSnap, .int kept, .ref aText, .int len, .int thr, .ref aOne, .ref aTwo, .ref aBoth, .ref aWord, .int y3, .ref aOpen, .ref aTimes, .ref aFar, .ref aQueue, .long hash]))], [(aOne, .inl (cI, 4, .inl g14))], [(aWord, .inl (cI, 20, .inl k2))]]) (by rw [e_g14]; rfl) ?_
              obtain ⟨x15, e_x15⟩ : ∃ z : Int32, z = y10 + 1 := ⟨_, rfl⟩
              have hp := hp x15 e_x15
              refine r_iinc (v := x15) (L' := [(2, .int x15), (1, .int r6), (0, .ref o)]) C dX11_words_37 0 rfl (by rw [e_x15]; exact ii (by decide)) (by decide) rfl ?_
              refine r_aload_n C dX11_words_40 2 rfl ?_
              refine r_iload_n C dX11_words_41 0 rfl ?_
              refine r_callV (ci := 9) (wc := [[(o, .inr (9, [.ref aS, .ref aPast, .int known, .ref aSnap, .int kept, .ref aText, .int len, .int thr, .ref aOne, .ref aTwo, .ref aBoth, .ref aWord, .int y3, .ref aOpen, .ref aTimes, .ref aFar, .ref aQueue, .long hash]))], [(aOne, .inl (cI, 4, .inl g14))]]) (wr := [[(aWord, .inl (cI, 20, .inl k2))]]) (st := []) C (m_X11_foldsAhead l D cI cL cP cJ o aS aPast aSnap aText aOne aTwo aBoth aWord aOpen aTimes aFar aQueue known kept len thr y3 hash g14 x15) k_X11_foldsAhead t_1030 [0, 1, 2] (show ([0, 1, 2] : List Nat).Perm (List.range 3) by decide) rfl rfl rfl (q0 := 0) rfl rfl rfl (Nat.le_of_ble_eq_true rfl) ⟨Nat.le_of_ble_eq_true rfl, Nat.le_of_ble_eq_true rfl⟩ ⟨Nat.zero_le _, Nat.zero_le _⟩ dX11_words_42 (fun r16 wr16 hw16 => ?_)
              obtain rfl := hw16
              obtain ⟨g17, e_g17⟩ : ∃ z : Nat → Int32, z = F_X11_foldsAhead g14 x15 := ⟨_, rfl⟩
              have hp := hp g17 e_g17
              refine r_ws (I' := [[(o, .inr (9, [.ref aS, .ref aPast, .int known, .ref aSnap, .int kept, .ref aText, .int len, .int thr, .ref aOne, .ref aTwo, .ref aBoth, .ref aWord, .int y3, .ref aOpen, .ref aTimes, .ref aFar, .ref aQueue, .long hash]))], [(aOne, .inl (cI, 4, .inl g17))], [(aWord, .inl (cI, 20, .inl k2))]]) (by rw [e_g17]; rfl) ?_
              refine r_goto (tgt := 24) C dX11_words_45 (by decide) ?_
              have eF : F_X11_words_L24 r6 (nn + 1) k9 y10 = F_X11_words_L24 r6 nn g17 x15 := by have q := e_r11.symm; subst q; have q := e_g14.symm; subst q; have q := e_x15.symm; subst q; have q := e_g17.symm; subst q; simp only [F_X11_words_L24, if_neg c12]
              exact ih g17 x15 hp (fun f18 e_f18 z19 e_z19 => kk f18 (by rw [eF]; exact e_f18) z19 (by rw [eF]; exact e_z19))
        refine hL 5 g8 0 hpl (fun f18 e_f18 z19 e_z19 => ?_)
        clear hL hpl
        have hp := hp f18 e_f18
        have hp := hp z19 e_z19
        refine r_aload_n C dX11_words_48 2 rfl ?_
        refine r_get (Cn := RX11) (T := TX11) (N := 18) C inT11 0 rfl rfl 11 (by decide) t_904 rfl dX11_words_49 ?_
        refine r_aload_n C dX11_words_52 2 rfl ?_
        refine r_get (Cn := RX11) (T := TX11) (N := 18) C inT11 0 rfl rfl 12 (by decide) t_905 rfl dX11_words_53 ?_
        refine r_iload_n C dX11_words_56 0 rfl ?_
        obtain ⟨h20, hp⟩ := hp
        obtain ⟨g21, e_g21⟩ : ∃ z : Nat → Int32, z = upd k2 (y3.toNatClampNeg) z19 := ⟨_, rfl⟩
        have hp := hp g21 e_g21
        refine r_iast C 2 0 rfl rfl h20 (I' := [[(o, .inr (9, [.ref aS, .ref aPast, .int known, .ref aSnap, .int kept, .ref aText, .int len, .int thr, .ref aOne, .ref aTwo, .ref aBoth, .ref aWord, .int y3, .ref aOpen, .ref aTimes, .ref aFar, .ref aQueue, .long hash]))], [(aOne, .inl (cI, 4, .inl f18))], [(aWord, .inl (cI, 20, .inl g21))]]) (by rw [e_g21]; rfl) dX11_words_57 ?_
        refine r_aload_n C dX11_words_58 2 rfl ?_
        refine r_dup C dX11_words_59 rfl ?_
        refine r_get (Cn := RX11) (T := TX11) (N := 18) C inT11 0 rfl rfl 12 (by decide) t_905 rfl dX11_words_60 ?_
        refine r_iconst (v := 1) C dX11_words_63 (by decide) ?_
        refine r_iadd C dX11_words_64 rfl ?_
        refine r_top (fun x22 e_x22 => ?_)
        have hp := hp x22 e_x22
        refine r_put (Cn := RX11) (T := TX11) (N := 18) C inT11 0 rfl rfl 12 (by decide) t_905 tyX11 tyX11_ok nmX11 rfl rfl rfl (Nat.le_of_ble_eq_true rfl) (I' := [[(o, .inr (9, [.ref aS, .ref aPast, .int known, .ref aSnap, .int kept, .ref aText, .int len, .int thr, .ref aOne, .ref aTwo, .ref aBoth, .ref aWord, .int x22, .ref aOpen, .ref aTimes, .ref aFar, .ref aQueue, .long hash]))], [(aOne, .inl (cI, 4, .inl f18))], [(aWord, .inl (cI, 20, .inl g21))]]) rfl dX11_words_65 ?_
        refine r_goto (tgt := 5) C dX11_words_68 (by decide) ?_
        refine r_L (L' := [(0, .ref o)]) [2] rfl ?_
        have eF : F_X11_words_L5 (nn + 1) k1 k2 y3 = F_X11_words_L5 nn f18 g21 x22 := by have q := e_r4.symm; subst q; have q := e_r6.symm; subst q; have q := e_g8.symm; subst q; have q := e_f18.symm; subst q; have q := e_z19.symm; subst q; have q := e_g21.symm; subst q; have q := e_x22.symm; subst q; simp only [F_X11_words_L5, if_pos c5]
        exact ih f18 g21 x22 hp (fun f23 e_f23 f24 e_f24 z25 e_z25 => kk f23 (by rw [eF]; exact e_f23) f24 (by rw [eF]; exact e_f24) z25 (by rw [eF]; exact e_z25))
  refine hL 17 fOne fWord 0 hpl (fun f23 e_f23 f24 e_f24 z25 e_z25 => ?_)
  clear hL hpl
  have eF : F_X11_words fOne fWord = (z25, f23, f24) := by have q := e_f23.symm; subst q; have q := e_f24.symm; subst q; have q := e_z25.symm; subst q; rfl
  exact r_vret (r := ()) C hA hr hlo dX11_words_71 [[(o, .inr (9, [.ref aS, .ref aPast, .int known, .ref aSnap, .int kept, .ref aText, .int len, .int thr, .ref aOne, .ref aTwo, .ref aBoth, .ref aWord, .int z25, .ref aOpen, .ref aTimes, .ref aFar, .ref aQueue, .long hash]))], [(aOne, .inl (cI, 4, .inl f23))], [(aWord, .inl (cI, 20, .inl f24))]] (by simp only [eF]) rfl hQ
theorem k_X11_lengthOf : kV yX11_lengthOf cX11_lengthOf 2 (some .int) 1 := ⟨t_1004, t_21, t_67, t_1005, by decide +kernel, by decide +kernel, by decide +kernel⟩
set_option maxRecDepth 20000 in
def F_X11_lengthOf (fS : Nat → Int32) (fOne : Nat → Int32) (letter : Int32) : Int32 × (Nat → Int32) := let g3 : Nat → Int32 := F_X11_takes fS fOne letter; let r4 : Int32 := F_X11_lengthOfOne g3; (r4, g3)
set_option maxRecDepth 20000 in
def P_X11_lengthOf (fS : Nat → Int32) (fOne : Nat → Int32) (letter : Int32) : Prop := (P_X11_takes fS fOne letter)
set_option maxRecDepth 20000 in
set_option maxHeartbeats 8000000 in
theorem m_X11_lengthOf (l : Launch) (D : va_G) (cI cL cP cJ : ClassId) (o : Nat) (aS : Nat) (aPast : Nat) (aSnap : Nat) (aText : Nat) (aOne : Nat) (aTwo : Nat) (aBoth : Nat) (aWord : Nat) (aOpen : Nat) (aTimes : Nat) (aFar : Nat) (aQueue : Nat) (known : Int32) (kept : Int32) (len : Int32) (thr : Int32) (cre : Int32) (hash : Int64) (fS : Nat → Int32) (fOne : Nat → Int32) (letter : Int32) (hp : P_X11_lengthOf fS fOne letter) : M vI l yX11_lengthOf cX11_lengthOf 2 (some .int) 2 44 D (tyF cI cL cP cJ) [.ref o, .int letter] [[(o, .inr (9, [.ref aS, .ref aPast, .int known, .ref aSnap, .int kept, .ref aText, .int len, .int thr, .ref aOne, .ref aTwo, .ref aBoth, .ref aWord, .int cre, .ref aOpen, .ref aTimes, .ref aFar, .ref aQueue, .long hash]))], [(aS, .inl (cI, 335, .inl fS))], [(aOne, .inl (cI, 4, .inl fOne))]] (fun (r : Int32) (w1 : List va_W) => r = (F_X11_lengthOf fS fOne letter).1 ∧ w1 = [[(o, .inr (9, [.ref aS, .ref aPast, .int known, .ref aSnap, .int kept, .ref aText, .int len, .int thr, .ref aOne, .ref aTwo, .ref aBoth, .ref aWord, .int cre, .ref aOpen, .ref aTimes, .ref aFar, .ref aQueue, .long hash]))], [(aS, .inl (cI, 335, .inl fS))], [(aOne, .inl (cI, 4, .inl ((F_X11_lengthOf fS fOne letter).2)))]]) := by
  unfold P_X11_lengthOf at hp
  refine m_start (by decide +kernel) (Nat.le_of_ble_eq_true rfl) (fun p e s m args below meth c A Q hA hQ C hr hlo => ?_)
  refine r_Le (L' := [(0, .ref o), (1, .int letter)]) rfl ?_
  refine r_aload_n C dX11_lengthOf_0 0 rfl ?_
  refine r_iload_n C dX11_lengthOf_1 1 rfl ?_
  have h1 := hp
  refine r_callV (ci := 9) (wc := [[(o, .inr (9, [.ref aS, .ref aPast, .int known, .ref aSnap, .int kept, .ref aText, .int len, .int thr, .ref aOne, .ref aTwo, .ref aBoth, .ref aWord, .int cre, .ref aOpen, .ref aTimes, .ref aFar, .ref aQueue, .long hash]))], [(aS, .inl (cI, 335, .inl fS))], [(aOne, .inl (cI, 4, .inl fOne))]]) (wr := []) (st := []) C (m_X11_takes l D cI cL cP cJ o aS aPast aSnap aText aOne aTwo aBoth aWord aOpen aTimes aFar aQueue known kept len thr cre hash fS fOne letter h1) k_X11_takes t_990 [0, 1, 2] (show ([0, 1, 2] : List Nat).Perm (List.range 3) by decide) rfl rfl rfl (q0 := 0) rfl rfl rfl (Nat.le_of_ble_eq_true rfl) ⟨Nat.le_of_ble_eq_true rfl, Nat.le_of_ble_eq_true rfl⟩ ⟨Nat.zero_le _, Nat.zero_le _⟩ dX11_lengthOf_2 (fun r2 wr2 hw2 => ?_)
  obtain rfl := hw2
  obtain ⟨g3, e_g3⟩ : ∃ z : Nat → Int32, z = F_X11_takes fS fOne letter := ⟨_, rfl⟩
  refine r_ws (I' := [[(o, .inr (9, [.ref aS, .ref aPast, .int known, .ref aSnap, .int kept, .ref aText, .int len, .int thr, .ref aOne, .ref aTwo, .ref aBoth, .ref aWord, .int cre, .ref aOpen, .ref aTimes, .ref aFar, .ref aQueue, .long hash]))], [(aS, .inl (cI, 335, .inl fS))], [(aOne, .inl (cI, 4, .inl g3))]]) (by rw [e_g3]; rfl) ?_
  refine r_aload_n C dX11_lengthOf_5 0 rfl ?_
  refine r_callV (ci := 9) (wc := [[(o, .inr (9, [.ref aS, .ref aPast, .int known, .ref aSnap, .int kept, .ref aText, .int len, .int thr, .ref aOne, .ref aTwo, .ref aBoth, .ref aWord, .int cre, .ref aOpen, .ref aTimes, .ref aFar, .ref aQueue, .long hash]))], [(aOne, .inl (cI, 4, .inl g3))]]) (wr := [[(aS, .inl (cI, 335, .inl fS))]]) (st := []) C (m_X11_lengthOfOne l D cI cL cP cJ o aS aPast aSnap aText aOne aTwo aBoth aWord aOpen aTimes aFar aQueue known kept len thr cre hash g3) k_X11_lengthOfOne t_1006 [0, 2, 1] (show ([0, 2, 1] : List Nat).Perm (List.range 3) by decide) rfl rfl rfl (q0 := 0) rfl rfl rfl (Nat.le_of_ble_eq_true rfl) ⟨Nat.le_of_ble_eq_true rfl, Nat.le_of_ble_eq_true rfl⟩ ⟨Nat.zero_le _, Nat.zero_le _⟩ dX11_lengthOf_6 (fun r4 wr4 hw4 => ?_)
  obtain ⟨e_r4, rfl⟩ := hw4
  refine r_ws (I' := [[(o, .inr (9, [.ref aS, .ref aPast, .int known, .ref aSnap, .int kept, .ref aText, .int len, .int thr, .ref aOne, .ref aTwo, .ref aBoth, .ref aWord, .int cre, .ref aOpen, .ref aTimes, .ref aFar, .ref aQueue, .long hash]))], [(aOne, .inl (cI, 4, .inl g3))], [(aS, .inl (cI, 335, .inl fS))]]) rfl ?_
  refine r_pl (I' := [[(o, .inr (9, [.ref aS, .ref aPast, .int known, .ref aSnap, .int kept, .ref aText, .int len, .int thr, .ref aOne, .ref aTwo, .ref aBoth, .ref aWord, .int cre, .ref aOpen, .ref aTimes, .ref aFar, .ref aQueue, .long hash]))], [(aS, .inl (cI, 335, .inl fS))], [(aOne, .inl (cI, 4, .inl g3))]]) [0, 2, 1] (show ([0, 2, 1] : List Nat).Perm (List.range 3) by decide) rfl ?_
  have eF : F_X11_lengthOf fS fOne letter = (r4, g3) := by have q := e_g3.symm; subst q; have q := e_r4.symm; subst q; rfl
  exact r_iret (r := r4) C hA hr hlo dX11_lengthOf_9 [[(o, .inr (9, [.ref aS, .ref aPast, .int known, .ref aSnap, .int kept, .ref aText, .int len, .int thr, .ref aOne, .ref aTwo, .ref aBoth, .ref aWord, .int cre, .ref aOpen, .ref aTimes, .ref aFar, .ref aQueue, .long hash]))], [(aS, .inl (cI, 335, .inl fS))], [(aOne, .inl (cI, 4, .inl g3))]] ⟨by simp only [eF], by simp only [eF]⟩ rfl hQ
theorem k_X11_lengths : kV yX11_lengths cX11_lengths 3 (some .int) 0 := ⟨t_1129, t_38, t_67, t_1130, by decide +kernel, by decide +kernel, by decide +kernel⟩
set_option maxRecDepth 20000 in
def F_X11_lengths (fS : Nat → Int32) (fOne : Nat → Int32) : Int32 × (Nat → Int32) := let r2 : Int32 := (F_X11_lengthOf fS fOne 0).1; let g3 : Nat → Int32 := (F_X11_lengthOf fS fOne 0).2; let x4 : Int32 := (0 : Int32) + r2; let r6 : Int32 := (F_X11_lengthOf fS g3 1).1; let g7 : Nat → Int32 := (F_X11_lengthOf fS g3 1).2; let x8 : Int32 := x4 + r6; let r10 : Int32 := (F_X11_lengthOf fS g7 2).1; let g11 : Nat → Int32 := (F_X11_lengthOf fS g7 2).2; let x12 : Int32 := x8 + r10; let r14 : Int32 := (F_X11_lengthOf fS g11 3).1; let g15 : Nat → Int32 := (F_X11_lengthOf fS g11 3).2; let x16 : Int32 := x12 + r14; let r18 : Int32 := (F_X11_lengthOf fS g15 4).1; let g19 : Nat → Int32 := (F_X11_lengthOf fS g15 4).2; let x20 : Int32 := x16 + r18; (x20, g19)
set_option maxRecDepth 20000 in
def P_X11_lengths (fS : Nat → Int32) (fOne : Nat → Int32) : Prop := ((P_X11_lengthOf fS fOne 0) ∧ (∀ r2 : Int32, r2 = (F_X11_lengthOf fS fOne 0).1 → (∀ g3 : Nat → Int32, g3 = (F_X11_lengthOf fS fOne 0).2 → (∀ x4 : Int32, x4 = (0 : Int32) + r2 → ((P_X11_lengthOf fS g3 1) ∧ (∀ r6 : Int32, r6 = (F_X11_lengthOf fS g3 1).1 → (∀ g7 : Nat → Int32, g7 = (F_X11_lengthOf fS g3 1).2 → (∀ x8 : Int32, x8 = x4 + r6 → ((P_X11_lengthOf fS g7 2) ∧ (∀ r10 : Int32, r10 = (F_X11_lengthOf fS g7 2).1 → (∀ g11 : Nat → Int32, g11 = (F_X11_lengthOf fS g7 2).2 → (∀ x12 : Int32, x12 = x8 + r10 → ((P_X11_lengthOf fS g11 3) ∧ (∀ r14 : Int32, r14 = (F_X11_lengthOf fS g11 3).1 → (∀ g15 : Nat → Int32, g15 = (F_X11_lengthOf fS g11 3).2 → (∀ x16 : Int32, x16 = x12 + r14 → (P_X11_lengthOf fS g15 4)))))))))))))))))
set_option maxRecDepth 20000 in
set_option maxHeartbeats 8000000 in
theorem m_X11_lengths (l : Launch) (D : va_G) (cI cL cP cJ : ClassId) (o : Nat) (aS : Nat) (aPast : Nat) (aSnap : Nat) (aText : Nat) (aOne : Nat) (aTwo : Nat) (aBoth : Nat) (aWord : Nat) (aOpen : Nat) (aTimes : Nat) (aFar : Nat) (aQueue : Nat) (known : Int32) (kept : Int32) (len : Int32) (thr : Int32) (cre : Int32) (hash : Int64) (fS : Nat → Int32) (fOne : Nat → Int32) (hp : P_X11_lengths fS fOne) : M vI l yX11_lengths cX11_lengths 3 (some .int) 3 65 D (tyF cI cL cP cJ) [.ref o] [[(o, .inr (9, [.ref aS, .ref aPast, .int known, .ref aSnap, .int kept, .ref aText, .int len, .int thr, .ref aOne, .ref aTwo, .ref aBoth, .ref aWord, .int cre, .ref aOpen, .ref aTimes, .ref aFar, .ref aQueue, .long hash]))], [(aS, .inl (cI, 335, .inl fS))], [(aOne, .inl (cI, 4, .inl fOne))]] (fun (r : Int32) (w1 : List va_W) => r = (F_X11_lengths fS fOne).1 ∧ w1 = [[(o, .inr (9, [.ref aS, .ref aPast, .int known, .ref aSnap, .int kept, .ref aText, .int len, .int thr, .ref aOne, .ref aTwo, .ref aBoth, .ref aWord, .int cre, .ref aOpen, .ref aTimes, .ref aFar, .ref aQueue, .long hash]))], [(aS, .inl (cI, 335, .inl fS))], [(aOne, .inl (cI, 4, .inl ((F_X11_lengths fS fOne).2)))]]) := by
  unfold P_X11_lengths at hp
  refine m_start (by decide +kernel) (Nat.le_of_ble_eq_true rfl) (fun p e s m args below meth c A Q hA hQ C hr hlo => ?_)
  refine r_Le (L' := [(0, .ref o)]) rfl ?_
  refine r_iconst (v := 0) C dX11_lengths_0 (by decide) ?_
  refine r_istore_n (L' := [(1, .int 0), (0, .ref o)]) C dX11_lengths_1 (by decide) rfl ?_
  refine r_iconst (v := 0) C dX11_lengths_2 (by decide) ?_
  refine r_istore_n (L' := [(2, .int 0), (1, .int 0), (0, .ref o)]) C dX11_lengths_3 (by decide) rfl ?_
  refine r_iload_n C dX11_lengths_4 0 rfl ?_
  refine r_iconst (v := 5) C dX11_lengths_5 (by decide) ?_
  refine r_icmp_ge (tgt := 23) C dX11_lengths_6 (by decide) (fun c => absurd c (by decide)) (fun _ => ?_)
  refine r_iload_n C dX11_lengths_9 1 rfl ?_
  refine r_aload_n C dX11_lengths_10 2 rfl ?_
  refine r_iload_n C dX11_lengths_11 0 rfl ?_
  obtain ⟨h1, hp⟩ := hp
  refine r_callV (ci := 9) (wc := [[(o, .inr (9, [.ref aS, .ref aPast, .int known, .ref aSnap, .int kept, .ref aText, .int len, .int thr, .ref aOne, .ref aTwo, .ref aBoth, .ref aWord, .int cre, .ref aOpen, .ref aTimes, .ref aFar, .ref aQueue, .long hash]))], [(aS, .inl (cI, 335, .inl fS))], [(aOne, .inl (cI, 4, .inl fOne))]]) (wr := []) (st := [.int 0]) C (m_X11_lengthOf l D cI cL cP cJ o aS aPast aSnap aText aOne aTwo aBoth aWord aOpen aTimes aFar aQueue known kept len thr cre hash fS fOne 0 h1) k_X11_lengthOf t_1002 [0, 1, 2] (show ([0, 1, 2] : List Nat).Perm (List.range 3) by decide) rfl rfl rfl (q0 := 0) rfl rfl rfl (Nat.le_of_ble_eq_true rfl) ⟨Nat.le_of_ble_eq_true rfl, Nat.le_of_ble_eq_true rfl⟩ ⟨Nat.zero_le _, Nat.zero_le _⟩ dX11_lengths_12 (fun r2 wr2 hw2 => ?_)
  obtain ⟨e_r2, rfl⟩ := hw2
  have hp := hp r2 e_r2
  obtain ⟨g3, e_g3⟩ : ∃ z : Nat → Int32, z = (F_X11_lengthOf fS fOne 0).2 := ⟨_, rfl⟩
  have hp := hp g3 e_g3
  refine r_ws (I' := [[(o, .inr (9, [.ref aS, .ref aPast, .int known, .ref aSnap, .int kept, .ref aText, .int len, .int thr, .ref aOne, .ref aTwo, .ref aBoth, .ref aWord, .int cre, .ref aOpen, .ref aTimes, .ref aFar, .ref aQueue, .long hash]))], [(aS, .inl (cI, 335, .inl fS))], [(aOne, .inl (cI, 4, .inl g3))]]) (by rw [e_g3]; rfl) ?_
  refine r_iadd C dX11_lengths_15 rfl ?_
  refine r_top (fun x4 e_x4 => ?_)
  have hp := hp x4 e_x4
  refine r_istore_n (L' := [(1, .int x4), (2, .int 0), (0, .ref o)]) C dX11_lengths_16 (by decide) rfl ?_
  refine r_iinc (v := 1) (L' := [(2, .int 1), (1, .int x4), (0, .ref o)]) C dX11_lengths_17 1 rfl (by decide) (by decide) rfl ?_
  refine r_goto (tgt := 4) C dX11_lengths_20 (by decide) ?_
  refine r_iload_n C dX11_lengths_4 0 rfl ?_
  refine r_iconst (v := 5) C dX11_lengths_5 (by decide) ?_
  refine r_icmp_ge (tgt := 23) C dX11_lengths_6 (by decide) (fun c => absurd c (by decide)) (fun _ => ?_)
  refine r_iload_n C dX11_lengths_9 1 rfl ?_
  refine r_aload_n C dX11_lengths_10 2 rfl ?_
  refine r_iload_n C dX11_lengths_11 0 rfl ?_
  obtain ⟨h5, hp⟩ := hp
  refine r_callV (ci := 9) (wc := [[(o, .inr (9, [.ref aS, .ref aPast, .int known, .ref aSnap, .int kept, .ref aText, .int len, .int thr, .ref aOne, .ref aTwo, .ref aBoth, .ref aWord, .int cre, .ref aOpen, .ref aTimes, .ref aFar, .ref aQueue, .long hash]))], [(aS, .inl (cI, 335, .inl fS))], [(aOne, .inl (cI, 4, .inl g3))]]) (wr := []) (st := [.int x4]) C (m_X11_lengthOf l D cI cL cP cJ o aS aPast aSnap aText aOne aTwo aBoth aWord aOpen aTimes aFar aQueue known kept len thr cre hash fS g3 1 h5) k_X11_lengthOf t_1002 [0, 1, 2] (show ([0, 1, 2] : List Nat).Perm (List.range 3) by decide) rfl rfl rfl (q0 := 0) rfl rfl rfl (Nat.le_of_ble_eq_true rfl) ⟨Nat.le_of_ble_eq_true rfl, Nat.le_of_ble_eq_true rfl⟩ ⟨Nat.zero_le _, Nat.zero_le _⟩ dX11_lengths_12 (fun r6 wr6 hw6 => ?_)
  obtain ⟨e_r6, rfl⟩ := hw6
  have hp := hp r6 e_r6
  obtain ⟨g7, e_g7⟩ : ∃ z : Nat → Int32, z = (F_X11_lengthOf fS g3 1).2 := ⟨_, rfl⟩
  have hp := hp g7 e_g7
  refine r_ws (I' := [[(o, .inr (9, [.ref aS, .ref aPast, .int known, .ref aSnap, .int kept, .ref aText, .int len, .int thr, .ref aOne, .ref aTwo, .ref aBoth, .ref aWord, .int cre, .ref aOpen, .ref aTimes, .ref aFar, .ref aQueue, .long hash]))], [(aS, .inl (cI, 335, .inl fS))], [(aOne, .inl (cI, 4, .inl g7))]]) (by rw [e_g7]; rfl) ?_
  refine r_iadd C dX11_lengths_15 rfl ?_
  refine r_top (fun x8 e_x8 => ?_)
  have hp := hp x8 e_x8
  refine r_istore_n (L' := [(1, .int x8), (2, .int 1), (0, .ref o)]) C dX11_lengths_16 (by decide) rfl ?_
  refine r_iinc (v := 2) (L' := [(2, .int 2), (1, .int x8), (0, .ref o)]) C dX11_lengths_17 1 rfl (by decide) (by decide) rfl ?_
  refine r_goto (tgt := 4) C dX11_lengths_20 (by decide) ?_
  refine r_iload_n C dX11_lengths_4 0 rfl ?_
  refine r_iconst (v := 5) C dX11_lengths_5 (by decide) ?_
  refine r_icmp_ge (tgt := 23) C dX11_lengths_6 (by decide) (fun c => absurd c (by decide)) (fun _ => ?_)
  refine r_iload_n C dX11_lengths_9 1 rfl ?_
  refine r_aload_n C dX11_lengths_10 2 rfl ?_
  refine r_iload_n C dX11_lengths_11 0 rfl ?_
  obtain ⟨h9, hp⟩ := hp
  refine r_callV (ci := 9) (wc := [[(o, .inr (9, [.ref aS, .ref aPast, .int known, .ref aSnap, .int kept, .ref aText, .int len, .int thr, .ref aOne, .ref aTwo, .ref aBoth, .ref aWord, .int cre, .ref aOpen, .ref aTimes, .ref aFar, .ref aQueue, .long hash]))], [(aS, .inl (cI, 335, .inl fS))], [(aOne, .inl (cI, 4, .inl g7))]]) (wr := []) (st := [.int x8]) C (m_X11_lengthOf l D cI cL cP cJ o aS aPast aSnap aText aOne aTwo aBoth aWord aOpen aTimes aFar aQueue known kept len thr cre hash fS g7 2 h9) k_X11_lengthOf t_1002 [0, 1, 2] (show ([0, 1, 2] : List Nat).Perm (List.range 3) by decide) rfl rfl rfl (q0 := 0) rfl rfl rfl (Nat.le_of_ble_eq_true rfl) ⟨Nat.le_of_ble_eq_true rfl, Nat.le_of_ble_eq_true rfl⟩ ⟨Nat.zero_le _, Nat.zero_le _⟩ dX11_lengths_12 (fun r10 wr10 hw10 => ?_)
  obtain ⟨e_r10, rfl⟩ := hw10
  have hp := hp r10 e_r10
  obtain ⟨g11, e_g11⟩ : ∃ z : Nat → Int32, z = (F_X11_lengthOf fS g7 2).2 := ⟨_, rfl⟩
  have hp := hp g11 e_g11
  refine r_ws (I' := [[(o, .inr (9, [.ref aS, .ref aPast, .int known, .ref aSnap, .int kept, .ref aText, .int len, .int thr, .ref aOne, .ref aTwo, .ref aBoth, .ref aWord, .int cre, .ref aOpen, .ref aTimes, .ref aFar, .ref aQueue, .long hash]))], [(aS, .inl (cI, 335, .inl fS))], [(aOne, .inl (cI, 4, .inl g11))]]) (by rw [e_g11]; rfl) ?_
  refine r_iadd C dX11_lengths_15 rfl ?_
  refine r_top (fun x12 e_x12 => ?_)
  have hp := hp x12 e_x12
  refine r_istore_n (L' := [(1, .int x12), (2, .int 2), (0, .ref o)]) C dX11_lengths_16 (by decide) rfl ?_
  refine r_iinc (v := 3) (L' := [(2, .int 3), (1, .int x12), (0, .ref o)]) C dX11_lengths_17 1 rfl (by decide) (by decide) rfl ?_
  refine r_goto (tgt := 4) C dX11_lengths_20 (by decide) ?_
  refine r_iload_n C dX11_lengths_4 0 rfl ?_
  refine r_iconst (v := 5) C dX11_lengths_5 (by decide) ?_
  refine r_icmp_ge (tgt := 23) C dX11_lengths_6 (by decide) (fun c => absurd c (by decide)) (fun _ => ?_)
  refine r_iload_n C dX11_lengths_9 1 rfl ?_
  refine r_aload_n C dX11_lengths_10 2 rfl ?_
  refine r_iload_n C dX11_lengths_11 0 rfl ?_
  obtain ⟨h13, hp⟩ := hp
  refine r_callV (ci := 9) (wc := [[(o, .inr (9, [.ref aS, .ref aPast, .int known, .ref aSnap, .int kept, .ref aText, .int len, .int thr, .ref aOne, .ref aTwo, .ref aBoth, .ref aWord, .int cre, .ref aOpen, .ref aTimes, .ref aFar, .ref aQueue, .long hash]))], [(aS, .inl (cI, 335, .inl fS))], [(aOne, .inl (cI, 4, .inl g11))]]) (wr := []) (st := [.int x12]) C (m_X11_lengthOf l D cI cL cP cJ o aS aPast aSnap aText aOne aTwo aBoth aWord aOpen aTimes aFar aQueue known kept len thr cre hash fS g11 3 h13) k_X11_lengthOf t_1002 [0, 1, 2] (show ([0, 1, 2] : List Nat).Perm (List.range 3) by decide) rfl rfl rfl (q0 := 0) rfl rfl rfl (Nat.le_of_ble_eq_true rfl) ⟨Nat.le_of_ble_eq_true rfl, Nat.le_of_ble_eq_true rfl⟩ ⟨Nat.zero_le _, Nat.zero_le _⟩ dX11_lengths_12 (fun r14 wr14 hw14 => ?_)
  obtain ⟨e_r14, rfl⟩ := hw14
  have hp := hp r14 e_r14
  obtain ⟨g15, e_g15⟩ : ∃ z : Nat → Int32, z = (F_X11_lengthOf fS g11 3).2 := ⟨_, rfl⟩
  have hp := hp g15 e_g15
  refine r_ws (I' := [[(o, .inr (9, [.ref aS, .ref aPast, .int known, .ref aSnap, .int kept, .ref aText, .int len, .int thr, .ref aOne, .ref aTwo, .ref aBoth, .ref aWord, .int cre, .ref aOpen, .ref aTimes, .ref aFar, .ref aQueue, .long hash]))], [(aS, .inl (cI, 335, .inl fS))], [(aOne, .inl (cI, 4, .inl g15))]]) (by rw [e_g15]; rfl) ?_
  refine r_iadd C dX11_lengths_15 rfl ?_
  refine r_top (fun x16 e_x16 => ?_)
  have hp := hp x16 e_x16
  refine r_istore_n (L' := [(1, .int x16), (2, .int 3), (0, .ref o)]) C dX11_lengths_16 (by decide) rfl ?_
  refine r_iinc (v := 4) (L' := [(2, .int 4), (1, .int x16), (0, .ref o)]) C dX11_lengths_17 1 rfl (by decide) (by decide) rfl ?_
  refine r_goto (tgt := 4) C dX11_lengths_20 (by decide) ?_
  refine r_iload_n C dX11_lengths_4 0 rfl ?_
  refine r_iconst (v := 5) C dX11_lengths_5 (by decide) ?_
  refine r_icmp_ge (tgt := 23) C dX11_lengths_6 (by decide) (fun c => absurd c (by decide)) (fun _ => ?_)
  refine r_iload_n C dX11_lengths_9 1 rfl ?_
  refine r_aload_n C dX11_lengths_10 2 rfl ?_
  refine r_iload_n C dX11_lengths_11 0 rfl ?_
  have h17 := hp
  refine r_callV (ci := 9) (wc := [[(o, .inr (9, [.ref aS, .ref aPast, .int known, .ref aSnap, .int kept, .ref aText, .int len, .int thr, .ref aOne, .ref aTwo, .ref aBoth, .ref aWord, .int cre, .ref aOpen, .ref aTimes, .ref aFar, .ref aQueue, .long hash]))], [(aS, .inl (cI, 335, .inl fS))], [(aOne, .inl (cI, 4, .inl g15))]]) (wr := []) (st := [.int x16]) C (m_X11_lengthOf l D cI cL cP cJ o aS aPast aSnap aText aOne aTwo aBoth aWord aOpen aTimes aFar aQueue known kept len thr cre hash fS g15 4 h17) k_X11_lengthOf t_1002 [0, 1, 2] (show ([0, 1, 2] : List Nat).Perm (List.range 3) by decide) rfl rfl rfl (q0 := 0) rfl rfl rfl (Nat.le_of_ble_eq_true rfl) ⟨Nat.le_of_ble_eq_true rfl, Nat.le_of_ble_eq_true rfl⟩ ⟨Nat.zero_le _, Nat.zero_le _⟩ dX11_lengths_12 (fun r18 wr18 hw18 => ?_)
  obtain ⟨e_r18, rfl⟩ := hw18
  obtain ⟨g19, e_g19⟩ : ∃ z : Nat → Int32, z = (F_X11_lengthOf fS g15 4).2 := ⟨_, rfl⟩
  refine r_ws (I' := [[(o, .inr (9, [.ref aS, .ref aPast, .int known, .ref aSnap, .int kept, .ref aText, .int len, .int thr, .ref aOne, .ref aTwo, .ref aBoth, .ref aWord, .int cre, .ref aOpen, .ref aTimes, .ref aFar, .ref aQueue, .long hash]))], [(aS, .inl (cI, 335, .inl fS))], [(aOne, .inl (cI, 4, .inl g19))]]) (by rw [e_g19]; rfl) ?_
  refine r_iadd C dX11_lengths_15 rfl ?_
  refine r_top (fun x20 e_x20 => ?_)
  refine r_istore_n (L' := [(1, .int x20), (2, .int 4), (0, .ref o)]) C dX11_lengths_16 (by decide) rfl ?_
  refine r_iinc (v := 5) (L' := [(2, .int 5), (1, .int x20), (0, .ref o)]) C dX11_lengths_17 1 rfl (by decide) (by decide) rfl ?_
  refine r_goto (tgt := 4) C dX11_lengths_20 (by decide) ?_
  refine r_iload_n C dX11_lengths_4 0 rfl ?_
  refine r_iconst (v := 5) C dX11_lengths_5 (by decide) ?_
  refine r_icmp_ge (tgt := 23) C dX11_lengths_6 (by decide) (fun _ => ?_) (fun c => absurd c (by decide))
  refine r_iload_n C dX11_lengths_23 1 rfl ?_
  have eF : F_X11_lengths fS fOne = (x20, g19) := by have q := e_r2.symm; subst q; have q := e_g3.symm; subst q; have q := e_x4.symm; subst q; have q := e_r6.symm; subst q; have q := e_g7.symm; subst q; have q := e_x8.symm; subst q; have q := e_r10.symm; subst q; have q := e_g11.symm; subst q; have q := e_x12.symm; subst q; have q := e_r14.symm; subst q; have q := e_g15.symm; subst q; have q := e_x16.symm; subst q; have q := e_r18.symm; subst q; have q := e_g19.symm; subst q; have q := e_x20.symm; subst q; rfl
  exact r_iret (r := x20) C hA hr hlo dX11_lengths_24 [[(o, .inr (9, [.ref aS, .ref aPast, .int known, .ref aSnap, .int kept, .ref aText, .int len, .int thr, .ref aOne, .ref aTwo, .ref aBoth, .ref aWord, .int cre, .ref aOpen, .ref aTimes, .ref aFar, .ref aQueue, .long hash]))], [(aS, .inl (cI, 335, .inl fS))], [(aOne, .inl (cI, 4, .inl g19))]] ⟨by simp only [eF], by simp only [eF]⟩ rfl hQ
theorem k_X11_foldedBack : kV yX11_foldedBack cX11_foldedBack 5 (some .int) 1 := ⟨t_1153, t_40, t_67, t_1154, by decide +kernel, by decide +kernel, by decide +kernel⟩
def F_X11_foldedBack_L9  : Nat → (Nat → Int32) → Int32 → Int32 → (Nat → Int32) × Int32 × Int32
  | 0, k4, y5, y6 => (k4, y5, y6)
  | nn + 1, k4, y5, y6 => (if 4 ≤ y6 then ((k4, y5, y6)) else (let r8 : Int32 := F_X11_lengthOfOne k4; let g11 : Nat → Int32 := F_X11_foldsOne k4 y6; let r12 : Int32 := F_X11_lengthOfOne g11; let x19 : Int32 := (if r8 ≤ r12 then (let x17 : Int32 := y6 + 1; x17) else (0)); let x20 : Int32 := (if r8 ≤ r12 then (y5) else (let x18 : Int32 := y5 + 1; x18)); let g21 : Nat → Int32 := (if r8 ≤ r12 then (let g16 : Nat → Int32 := F_X11_foldsOne g11 y6; g16) else (g11)); F_X11_foldedBack_L9 nn g21 x20 x19))
def P_X11_foldedBack_L9  : Nat → (Nat → Int32) → Int32 → Int32 → Prop
  | 0, _, _, _ => False
  | nn + 1, k4, y5, y6 => ((4 ≤ y6 → True) ∧ (¬ 4 ≤ y6 → (∀ r8 : Int32, r8 = F_X11_lengthOfOne k4 → ((P_X11_foldsOne k4 y6) ∧ (∀ g11 : Nat → Int32, g11 = F_X11_foldsOne k4 y6 → (∀ r12 : Int32, r12 = F_X11_lengthOfOne g11 → (((r8 ≤ r12 → (P_X11_foldsOne g11 y6)) ∧ (¬ r8 ≤ r12 → True)) ∧ (∀ x19 : Int32, x19 = ((if r8 ≤ r12 then (let x17 : Int32 := y6 + 1; x17) else (0))) → (∀ x20 : Int32, x20 = ((if r8 ≤ r12 then (y5) else (let x18 : Int32 := y5 + 1; x18))) → (∀ g21 : Nat → Int32, g21 = ((if r8 ≤ r12 then (let g16 : Nat → Int32 := F_X11_foldsOne g11 y6; g16) else (g11))) → (P_X11_foldedBack_L9 nn g21 x20 x19)))))))))))
set_option maxRecDepth 20000 in
def F_X11_foldedBack (fS : Nat → Int32) (fOne : Nat → Int32) (letter : Int32) : Int32 × (Nat → Int32) := let g3 : Nat → Int32 := F_X11_takes fS fOne letter; let f22 : Nat → Int32 := (F_X11_foldedBack_L9 100 g3 0 0).1; let z23 : Int32 := (F_X11_foldedBack_L9 100 g3 0 0).2.1; (z23, f22)
set_option maxRecDepth 20000 in
def P_X11_foldedBack (fS : Nat → Int32) (fOne : Nat → Int32) (letter : Int32) : Prop := ((P_X11_takes fS fOne letter) ∧ (∀ g3 : Nat → Int32, g3 = F_X11_takes fS fOne letter → (P_X11_foldedBack_L9 100 g3 0 0)))
set_option maxRecDepth 20000 in
set_option maxHeartbeats 8000000 in
theorem m_X11_foldedBack (l : Launch) (D : va_G) (cI cL cP cJ : ClassId) (o : Nat) (aS : Nat) (aPast : Nat) (aSnap : Nat) (aText : Nat) (aOne : Nat) (aTwo : Nat) (aBoth : Nat) (aWord : Nat) (aOpen : Nat) (aTimes : Nat) (aFar : Nat) (aQueue : Nat) (known : Int32) (kept : Int32) (len : Int32) (thr : Int32) (cre : Int32) (hash : Int64) (fS : Nat → Int32) (fOne : Nat → Int32) (letter : Int32) (hp : P_X11_foldedBack fS fOne letter) : M vI l yX11_foldedBack cX11_foldedBack 5 (some .int) 2 44 D (tyF cI cL cP cJ) [.ref o, .int letter] [[(o, .inr (9, [.ref aS, .ref aPast, .int known, .ref aSnap, .int kept, .ref aText, .int len, .int thr, .ref aOne, .ref aTwo, .ref aBoth, .ref aWord, .int cre, .ref aOpen, .ref aTimes, .ref aFar, .ref aQueue, .long hash]))], [(aS, .inl (cI, 335, .inl fS))], [(aOne, .inl (cI, 4, .inl fOne))]] (fun (r : Int32) (w1 : List va_W) => r = (F_X11_foldedBack fS fOne letter).1 ∧ w1 = [[(o, .inr (9, [.ref aS, .ref aPast, .int known, .ref aSnap, .int kept, .ref aText, .int len, .int thr, .ref aOne, .ref aTwo, .ref aBoth, .ref aWord, .int cre, .ref aOpen, .ref aTimes, .ref aFar, .ref aQueue, .long hash]))], [(aS, .inl (cI, 335, .inl fS))], [(aOne, .inl (cI, 4, .inl ((F_X11_foldedBack fS fOne letter).2)))]]) := by
  unfold P_X11_foldedBack at hp
  refine m_start (by decide +kernel) (Nat.le_of_ble_eq_true rfl) (fun p e s m args below meth c A Q hA hQ C hr hlo => ?_)
  refine r_Le (L' := [(0, .ref o), (1, .int letter)]) rfl ?_
  refine r_aload_n C dX11_foldedBack_0 0 rfl ?_
  refine r_iload_n C dX11_foldedBack_1 1 rfl ?_
  obtain ⟨h1, hp⟩ := hp
  refine r_callV (ci := 9) (wc := [[(o, .inr (9, [.ref aS, .ref aPast, .int known, .ref aSnap, .int kept, .ref aText, .int len, .int thr, .ref aOne, .ref aTwo, .ref aBoth, .ref aWord, .int cre, .ref aOpen, .ref aTimes, .ref aFar, .ref aQueue, .long hash]))], [(aS, .inl (cI, 335, .inl fS))], [(aOne, .inl (cI, 4, .inl fOne))]]) (wr := []) (st := []) C (m_X11_takes l D cI cL cP cJ o aS aPast aSnap aText aOne aTwo aBoth aWord aOpen aTimes aFar aQueue known kept len thr cre hash fS fOne letter h1) k_X11_takes t_990 [0, 1, 2] (show ([0, 1, 2] : List Nat).Perm (List.range 3) by decide) rfl rfl rfl (q0 := 0) rfl rfl rfl (Nat.le_of_ble_eq_true rfl) ⟨Nat.le_of_ble_eq_true rfl, Nat.le_of_ble_eq_true rfl⟩ ⟨Nat.zero_le _, Nat.zero_le _⟩ dX11_foldedBack_2 (fun r2 wr2 hw2 => ?_)
  obtain rfl := hw2
  obtain ⟨g3, e_g3⟩ : ∃ z : Nat → Int32, z = F_X11_takes fS fOne letter := ⟨_, rfl⟩
  have hp := hp g3 e_g3
  refine r_ws (I' := [[(o, .inr (9, [.ref aS, .ref aPast, .int known, .ref aSnap, .int kept, .ref aText, .int len, .int thr, .ref aOne, .ref aTwo, .ref aBoth, .ref aWord, .int cre, .ref aOpen, .ref aTimes, .ref aFar, .ref aQueue, .long hash]))], [(aS, .inl (cI, 335, .inl fS))], [(aOne, .inl (cI, 4, .inl g3))]]) (by rw [e_g3]; rfl) ?_
  refine r_iconst (v := 0) C dX11_foldedBack_5 (by decide) ?_
  refine r_istore_n (L' := [(2, .int 0), (0, .ref o), (1, .int letter)]) C dX11_foldedBack_6 (by decide) rfl ?_
  refine r_iconst (v := 0) C dX11_foldedBack_7 (by decide) ?_
  refine r_istore_n (L' := [(3, .int 0), (2, .int 0), (0, .ref o), (1, .int letter)]) C dX11_foldedBack_8 (by decide) rfl ?_
  have hpl := hp
  have hL : ∀ (nn : Nat) (k4 : Nat → Int32) (y5 : Int32) (y6 : Int32), P_X11_foldedBack_L9 nn k4 y5 y6 → (∀ f22 : Nat → Int32, f22 = (F_X11_foldedBack_L9 nn k4 y5 y6).1 → ∀ z23 : Int32, z23 = (F_X11_foldedBack_L9 nn k4 y5 y6).2.1 → ∀ z24 : Int32, z24 = (F_X11_foldedBack_L9 nn k4 y5 y6).2.2 → V p l e (rmm 2 44) s m args below meth c 5 D A 0 0 Q [[(o, .inr (9, [.ref aS, .ref aPast, .int known, .ref aSnap, .int kept, .ref aText, .int len, .int thr, .ref aOne, .ref aTwo, .ref aBoth, .ref aWord, .int cre, .ref aOpen, .ref aTimes, .ref aFar, .ref aQueue, .long hash]))], [(aS, .inl (cI, 335, .inl fS))], [(aOne, .inl (cI, 4, .inl f22))]] [(3, .int z24), (2, .int z23), (0, .ref o), (1, .int letter)] 53 []) → V p l e (rmm 2 44) s m args below meth c 5 D A 0 0 Q [[(o, .inr (9, [.ref aS, .ref aPast, .int known, .ref aSnap, .int kept, .ref aText, .int len, .int thr, .ref aOne, .ref aTwo, .ref aBoth, .ref aWord, .int cre, .ref aOpen, .ref aTimes, .ref aFar, .ref aQueue, .long hash]))], [(aS, .inl (cI, 335, .inl fS))], [(aOne, .inl (cI, 4, .inl k4))]] [(3, .int y6), (2, .int y5), (0, .ref o), (1, .int letter)] 9 [] := by
    clear hpl
    intro nn
    induction nn with
    | zero => intro k4 y5 y6 hp kk; rw [P_X11_foldedBack_L9] at hp; exact hp.elim
    | succ nn ih =>
      intro k4 y5 y6 hp kk
      rw [P_X11_foldedBack_L9] at hp
      refine r_iload_n C dX11_foldedBack_9 0 rfl ?_
      refine r_iconst (v := 4) C dX11_foldedBack_10 (by decide) ?_
      refine r_icmp_ge (tgt := 53) C dX11_foldedBack_11 (by decide) (fun c7 => ?_) (fun c7 => ?_)
      · have eF : F_X11_foldedBack_L9 (nn + 1) k4 y5 y6 = (k4, y5, y6) := by simp only [F_X11_foldedBack_L9, if_pos c7]
        exact kk _ (by rw [eF]) _ (by rw [eF]) _ (by rw [eF])
      · have hp := hp.2 c7
        refine r_aload_n C dX11_foldedBack_14 2 rfl ?_
        refine r_callV (ci := 9) (wc := [[(o, .inr (9, [.ref aS, .ref aPast, .int known, .ref aSnap, .int kept, .ref aText, .int len, .int thr, .ref aOne, .ref aTwo, .ref aBoth, .ref aWord, .int cre, .ref aOpen, .ref aTimes, .ref aFar, .ref aQueue, .long hash]))], [(aOne, .inl (cI, 4, .inl k4))]]) (wr := [[(aS, .inl (cI, 335, .inl fS))]]) (st := []) C (m_X11_lengthOfOne l D cI cL cP cJ o aS aPast aSnap aText aOne aTwo aBoth aWord aOpen aTimes aFar aQueue known kept len thr cre hash k4) k_X11_lengthOfOne t_1006 [0, 2, 1] (show ([0, 2, 1] : List Nat).Perm (List.range 3) by decide) rfl rfl rfl (q0 := 0) rfl rfl rfl (Nat.le_of_ble_eq_true rfl) ⟨Nat.le_of_ble_eq_true rfl, Nat.le_of_ble_eq_true rfl⟩ ⟨Nat.zero_le _, Nat.zero_le _⟩ dX11_foldedBack_15 (fun r8 wr8 hw8 => ?_)
        obtain ⟨e_r8, rfl⟩ := hw8
        have hp := hp r8 e_r8
        refine r_ws (I' := [[(o, .inr (9, [.ref aS, .ref aPast, .int known, .ref aSnap, .int kept, .ref aText, .int len, .int thr, .ref aOne, .ref aTwo, .ref aBoth, .ref aWord, .int cre, .ref aOpen, .ref aTimes, .ref aFar, .ref aQueue, .long hash]))], [(aOne, .inl (cI, 4, .inl k4))], [(aS, .inl (cI, 335, .inl fS))]]) rfl ?_
        refine r_istore (L' := [(4, .int r8), (3, .int y6), (2, .int y5), (0, .ref o), (1, .int letter)]) C dX11_foldedBack_18 (by decide) rfl ?_
        refine r_aload_n C dX11_foldedBack_20 3 rfl ?_
        refine r_iload_n C dX11_foldedBack_21 1 rfl ?_
        obtain ⟨h9, hp⟩ := hp
        refine r_callV (ci := 9) (wc := [[(o, .inr (9, [.ref aS, .ref aPast, .int known, .ref aSnap, .int kept, .ref aText, .int len, .int thr, .ref aOne, .ref aTwo, .ref aBoth, .ref aWord, .int cre, .ref aOpen, .ref aTimes, .ref aFar, .ref aQueue, .long hash]))], [(aOne, .inl (cI, 4, .inl k4))]]) (wr := [[(aS, .inl (cI, 335, .inl fS))]]) (st := []) C (m_X11_foldsOne l D cI cL cP cJ o aS aPast aSnap aText aOne aTwo aBoth aWord aOpen aTimes aFar aQueue known kept len thr cre hash k4 y6 h9) k_X11_foldsOne t_994 [0, 1, 2] (show ([0, 1, 2] : List Nat).Perm (List.range 3) by decide) rfl rfl rfl (q0 := 0) rfl rfl rfl (Nat.le_of_ble_eq_true rfl) ⟨Nat.le_of_ble_eq_true rfl, Nat.le_of_ble_eq_true rfl⟩ ⟨Nat.zero_le _, Nat.zero_le _⟩ dX11_foldedBack_22 (fun r10 wr10 hw10 => ?_)
        obtain rfl := hw10
        obtain ⟨g11, e_g11⟩ : ∃ z : Nat → Int32, z = F_X11_foldsOne k4 y6 := ⟨_, rfl⟩
        have hp := hp g11 e_g11
        refine r_ws (I' := [[(o, .inr (9, [.ref aS, .ref aPast, .int known, .ref aSnap, .int kept, .ref aText, .int len, .int thr, .ref aOne, .ref aTwo, .ref aBoth, .ref aWord, .int cre, .ref aOpen, .ref aTimes, .ref aFar, .ref aQueue, .long hash]))], [(aOne, .inl (cI, 4, .inl g11))], [(aS, .inl (cI, 335, .inl fS))]]) (by rw [e_g11]; rfl) ?_
        refine r_aload_n C dX11_foldedBack_25 3 rfl ?_
        refine r_callV (ci := 9) (wc := [[(o, .inr (9, [.ref aS, .ref aPast, .int known, .ref aSnap, .int kept, .ref aText, .int len, .int thr, .ref aOne, .ref aTwo, .ref aBoth, .ref aWord, .int cre, .ref aOpen, .ref aTimes, .ref aFar, .ref aQueue, .long hash]))], [(aOne, .inl (cI, 4, .inl g11))]]) (wr := [[(aS, .inl (cI, 335, .inl fS))]]) (st := []) C (m_X11_lengthOfOne l D cI cL cP cJ o aS aPast aSnap aText aOne aTwo aBoth aWord aOpen aTimes aFar aQueue known kept len thr cre hash g11) k_X11_lengthOfOne t_1006 [0, 1, 2] (show ([0, 1, 2] : List Nat).Perm (List.range 3) by decide) rfl rfl rfl (q0 := 0) rfl rfl rfl (Nat.le_of_ble_eq_true rfl) ⟨Nat.le_of_ble_eq_true rfl, Nat.le_of_ble_eq_true rfl⟩ ⟨Nat.zero_le _, Nat.zero_le _⟩ dX11_foldedBack_26 (fun r12 wr12 hw12 => ?_)
        obtain ⟨e_r12, rfl⟩ := hw12
        have hp := hp r12 e_r12
        refine r_ws (I' := [[(o, .inr (9, [.ref aS, .ref aPast, .int known, .ref aSnap, .int kept, .ref aText, .int len, .int thr, .ref aOne, .ref aTwo, .ref aBoth, .ref aWord, .int cre, .ref aOpen, .ref aTimes, .ref aFar, .ref aQueue, .long hash]))], [(aOne, .inl (cI, 4, .inl g11))], [(aS, .inl (cI, 335, .inl fS))]]) rfl ?_
        refine r_iload C dX11_foldedBack_29 0 rfl ?_
        obtain ⟨hps, hp⟩ := hp
        suffices K : ∀ x19 : Int32, x19 = ((if r8 ≤ r12 then (let x17 : Int32 := y6 + 1; x17) else (0))) → ∀ x20 : Int32, x20 = ((if r8 ≤ r12 then (y5) else (let x18 : Int32 := y5 + 1; x18))) → ∀ g21 : Nat → Int32, g21 = ((if r8 ≤ r12 then (let g16 : Nat → Int32 := F_X11_foldsOne g11 y6; g16) else (g11))) → V p l e (rmm 2 44) s m args below meth c 5 D A 0 0 Q [[(o, .inr (9, [.ref aS, .ref aPast, .int known, .ref aSnap, .int kept, .ref aText, .int len, .int thr, .ref aOne, .ref aTwo, .ref aBoth, .ref aWord, .int cre, .ref aOpen, .ref aTimes, .ref aFar, .ref aQueue, .long hash]))], [(aOne, .inl (cI, 4, .inl g21))], [(aS, .inl (cI, 335, .inl fS))]] [(4, .int r8), (3, .int x19), (2, .int x20), (0, .ref o), (1, .int letter)] 50 [] by
          have hp := hps
          refine r_icmp_ge (tgt := 42) C dX11_foldedBack_31 (by decide) (fun c13 => ?_) (fun c13 => ?_)
          · have hp := hp.1 c13
            refine r_aload_n C dX11_foldedBack_42 3 rfl ?_
            refine r_iload_n C dX11_foldedBack_43 1 rfl ?_
            have h14 := hp
            refine r_callV (ci := 9) (wc := [[(o, .inr (9, [.ref aS, .ref aPast, .int known, .ref aSnap, .int kept, .ref aText, .int len, .int thr, .ref aOne, .ref aTwo, .ref aBoth, .ref aWord, .int cre, .ref aOpen, .ref aTimes, .ref aFar, .ref aQueue, .long hash]))], [(aOne, .inl (cI, 4, .inl g11))]]) (wr := [[(aS, .inl (cI, 335, .inl fS))]]) (st := []) C (m_X11_foldsOne l D cI cL cP cJ o aS aPast aSnap aText aOne aTwo aBoth aWord aOpen aTimes aFar aQueue known kept len thr cre hash g11 y6 h14) k_X11_foldsOne t_994 [0, 1, 2] (show ([0, 1, 2] : List Nat).Perm (List.range 3) by decide) rfl rfl rfl (q0 := 0) rfl rfl rfl (Nat.le_of_ble_eq_true rfl) ⟨Nat.le_of_ble_eq_true rfl, Nat.le_of_ble_eq_true rfl⟩ ⟨Nat.zero_le _, Nat.zero_le _⟩ dX11_foldedBack_44 (fun r15 wr15 hw15 => ?_)
            obtain rfl := hw15
            obtain ⟨g16, e_g16⟩ : ∃ z : Nat → Int32, z = F_X11_foldsOne g11 y6 := ⟨_, rfl⟩
            refine r_ws (I' := [[(o, .inr (9, [.ref aS, .ref aPast, .int known, .ref aSnap, .int kept, .ref aText, .int len, .int thr, .ref aOne, .ref aTwo, .ref aBoth, .ref aWord, .int cre, .ref aOpen, .ref aTimes, .ref aFar, .ref aQueue, .long hash]))], [(aOne, .inl (cI, 4, .inl g16))], [(aS, .inl (cI, 335, .inl fS))]]) (by rw [e_g16]; rfl) ?_
            obtain ⟨x17, e_x17⟩ : ∃ z : Int32, z = y6 + 1 := ⟨_, rfl⟩
            refine r_iinc (v := x17) (L' := [(3, .int x17), (4, .int r8), (2, .int y5), (0, .ref o), (1, .int letter)]) C dX11_foldedBack_47 1 rfl (by rw [e_x17]; exact ii (by decide)) (by decide) rfl ?_
            refine r_L (L' := [(4, .int r8), (3, .int x17), (2, .int y5), (0, .ref o), (1, .int letter)]) [1, 0, 2, 3, 4] rfl ?_
            exact K _ (by have q := e_g16.symm; subst q; have q := e_x17.symm; subst q; simp only [if_pos c13]) _ (by have q := e_g16.symm; subst q; have q := e_x17.symm; subst q; simp only [if_pos c13]) _ (by have q := e_g16.symm; subst q; have q := e_x17.symm; subst q; simp only [if_pos c13])
          · obtain ⟨x18, e_x18⟩ : ∃ z : Int32, z = y5 + 1 := ⟨_, rfl⟩
            refine r_iinc (v := x18) (L' := [(2, .int x18), (4, .int r8), (3, .int y6), (0, .ref o), (1, .int letter)]) C dX11_foldedBack_34 2 rfl (by rw [e_x18]; exact ii (by decide)) (by decide) rfl ?_
            refine r_iconst (v := 0) C dX11_foldedBack_37 (by decide) ?_
            refine r_istore_n (L' := [(3, .int 0), (2, .int x18), (4, .int r8), (0, .ref o), (1, .int letter)]) C dX11_foldedBack_38 (by decide) rfl ?_
            refine r_goto (tgt := 50) C dX11_foldedBack_39 (by decide) ?_
            refine r_L (L' := [(4, .int r8), (3, .int 0), (2, .int x18), (0, .ref o), (1, .int letter)]) [2, 0, 1, 3, 4] rfl ?_
            exact K _ (by have q := e_x18.symm; subst q; simp only [if_neg c13]) _ (by have q := e_x18.symm; subst q; simp only [if_neg c13]) _ (by have q := e_x18.symm; subst q; simp only [if_neg c13])
        intro x19 e_x19 x20 e_x20 g21 e_g21
        have hp := hp x19 e_x19
        have hp := hp x20 e_x20
        have hp := hp g21 e_g21
        refine r_goto (tgt := 9) C dX11_foldedBack_50 (by decide) ?_
        refine r_pl (I' := [[(o, .inr (9, [.ref aS, .ref aPast, .int known, .ref aSnap, .int kept, .ref aText, .int len, .int thr, .ref aOne, .ref aTwo, .ref aBoth, .ref aWord, .int cre, .ref aOpen, .ref aTimes, .ref aFar, .ref aQueue, .long hash]))], [(aS, .inl (cI, 335, .inl fS))], [(aOne, .inl (cI, 4, .inl g21))]]) [0, 2, 1] (show ([0, 2, 1] : List Nat).Perm (List.range 3) by decide) rfl ?_
        refine r_L (L' := [(3, .int x19), (2, .int x20), (0, .ref o), (1, .int letter)]) [1, 2, 3, 4] rfl ?_
        have eF : F_X11_foldedBack_L9 (nn + 1) k4 y5 y6 = F_X11_foldedBack_L9 nn g21 x20 x19 := by have q := e_r8.symm; subst q; have q := e_g11.symm; subst q; have q := e_r12.symm; subst q; have q := e_x19.symm; subst q; have q := e_x20.symm; subst q; have q := e_g21.symm; subst q; simp only [F_X11_foldedBack_L9, if_neg c7]
        exact ih g21 x20 x19 hp (fun f22 e_f22 z23 e_z23 z24 e_z24 => kk f22 (by rw [eF]; exact e_f22) z23 (by rw [eF]; exact e_z23) z24 (by rw [eF]; exact e_z24))
  refine hL 100 g3 0 0 hpl (fun f22 e_f22 z23 e_z23 z24 e_z24 => ?_)
  clear hL hpl
  refine r_iload_n C dX11_foldedBack_53 1 rfl ?_
  have eF : F_X11_foldedBack fS fOne letter = (z23, f22) := by have q := e_g3.symm; subst q; have q := e_f22.symm; subst q; have q := e_z23.symm; subst q; have q := e_z24.symm; subst q; rfl
  exact r_iret (r := z23) C hA hr hlo dX11_foldedBack_54 [[(o, .inr (9, [.ref aS, .ref aPast, .int known, .ref aSnap, .int kept, .ref aText, .int len, .int thr, .ref aOne, .ref aTwo, .ref aBoth, .ref aWord, .int cre, .ref aOpen, .ref aTimes, .ref aFar, .ref aQueue, .long hash]))], [(aS, .inl (cI, 335, .inl fS))], [(aOne, .inl (cI, 4, .inl f22))]] ⟨by simp only [eF], by simp only [eF]⟩ rfl hQ
theorem k_X11_period : kV yX11_period cX11_period 3 (some .int) 1 := ⟨t_1157, t_41, t_67, t_1158, by decide +kernel, by decide +kernel, by decide +kernel⟩
def F_X11_period_L12 (g6 : Nat → Int32) : Nat → (Nat → Int32) → (Nat → Int32) → Int32 → (Nat → Int32) × (Nat → Int32) × Int32
  | 0, k7, k8, y9 => (k7, k8, y9)
  | nn + 1, k7, k8, y9 => let r10 : Int32 := F_X11_isFlatOne k7; (if r10 = 0 then (let g14 : Nat → Int32 := (F_X11_multiplies k7 g6 k8).1; let g15 : Nat → Int32 := (F_X11_multiplies k7 g6 k8).2; let x16 : Int32 := y9 + 1; F_X11_period_L12 g6 nn g14 g15 x16) else ((k7, k8, y9)))
def P_X11_period_L12 (g6 : Nat → Int32) : Nat → (Nat → Int32) → (Nat → Int32) → Int32 → Prop
  | 0, _, _, _ => False
  | nn + 1, k7, k8, y9 => (∀ r10 : Int32, r10 = F_X11_isFlatOne k7 → ((r10 = 0 → ((P_X11_multiplies k7 g6 k8) ∧ (∀ g14 : Nat → Int32, g14 = (F_X11_multiplies k7 g6 k8).1 → (∀ g15 : Nat → Int32, g15 = (F_X11_multiplies k7 g6 k8).2 → (∀ x16 : Int32, x16 = y9 + 1 → (P_X11_period_L12 g6 nn g14 g15 x16)))))) ∧ (¬ r10 = 0 → True)))
set_option maxRecDepth 20000 in
def F_X11_period (fS : Nat → Int32) (fOne : Nat → Int32) (fTwo : Nat → Int32) (fBoth : Nat → Int32) (letter : Int32) : Int32 × (Nat → Int32) × (Nat → Int32) × (Nat → Int32) := let g3 : Nat → Int32 := F_X11_takes fS fOne letter; let g6 : Nat → Int32 := F_X11_takesOther fS fTwo letter; let f17 : Nat → Int32 := (F_X11_period_L12 g6 10 g3 fBoth 1).1; let f18 : Nat → Int32 := (F_X11_period_L12 g6 10 g3 fBoth 1).2.1; let z19 : Int32 := (F_X11_period_L12 g6 10 g3 fBoth 1).2.2; (z19, f17, g6, f18)
set_option maxRecDepth 20000 in
def P_X11_period (fS : Nat → Int32) (fOne : Nat → Int32) (fTwo : Nat → Int32) (fBoth : Nat → Int32) (letter : Int32) : Prop := ((P_X11_takes fS fOne letter) ∧ (∀ g3 : Nat → Int32, g3 = F_X11_takes fS fOne letter → ((P_X11_takesOther fS fTwo letter) ∧ (∀ g6 : Nat → Int32, g6 = F_X11_takesOther fS fTwo letter → (P_X11_period_L12 g6 10 g3 fBoth 1)))))
set_option maxRecDepth 20000 in
set_option maxHeartbeats 8000000 in
theorem m_X11_period (l : Launch) (D : va_G) (cI cL cP cJ : ClassId) (o : Nat) (aS : Nat) (aPast : Nat) (aSnap : Nat) (aText : Nat) (aOne : Nat) (aTwo : Nat) (aBoth : Nat) (aWord : Nat) (aOpen : Nat) (aTimes : Nat) (aFar : Nat) (aQueue : Nat) (known : Int32) (kept : Int32) (len : Int32) (thr : Int32) (cre : Int32) (hash : Int64) (fS : Nat → Int32) (fOne : Nat → Int32) (fTwo : Nat → Int32) (fBoth : Nat → Int32) (letter : Int32) (hp : P_X11_period fS fOne fTwo fBoth letter) : M vI l yX11_period cX11_period 3 (some .int) 2 44 D (tyF cI cL cP cJ) [.ref o, .int letter] [[(o, .inr (9, [.ref aS, .ref aPast, .int known, .ref aSnap, .int kept, .ref aText, .int len, .int thr, .ref aOne, .ref aTwo, .ref aBoth, .ref aWord, .int cre, .ref aOpen, .ref aTimes, .ref aFar, .ref aQueue, .long hash]))], [(aS, .inl (cI, 335, .inl fS))], [(aOne, .inl (cI, 4, .inl fOne))], [(aTwo, .inl (cI, 4, .inl fTwo))], [(aBoth, .inl (cI, 4, .inl fBoth))]] (fun (r : Int32) (w1 : List va_W) => r = (F_X11_period fS fOne fTwo fBoth letter).1 ∧ w1 = [[(o, .inr (9, [.ref aS, .ref aPast, .int known, .ref aSnap, .int kept, .ref aText, .int len, .int thr, .ref aOne, .ref aTwo, .ref aBoth, .ref aWord, .int cre, .ref aOpen, .ref aTimes, .ref aFar, .ref aQueue, .long hash]))], [(aS, .inl (cI, 335, .inl fS))], [(aOne, .inl (cI, 4, .inl ((F_X11_period fS fOne fTwo fBoth letter).2.1)))], [(aTwo, .inl (cI, 4, .inl ((F_X11_period fS fOne fTwo fBoth letter).2.2.1)))], [(aBoth, .inl (cI, 4, .inl ((F_X11_period fS fOne fTwo fBoth letter).2.2.2)))]]) := by
  unfold P_X11_period at hp
  refine m_start (by decide +kernel) (Nat.le_of_ble_eq_true rfl) (fun p e s m args below meth c A Q hA hQ C hr hlo => ?_)
  refine r_Le (L' := [(0, .ref o), (1, .int letter)]) rfl ?_
  refine r_aload_n C dX11_period_0 0 rfl ?_
  refine r_iload_n C dX11_period_1 1 rfl ?_
  obtain ⟨h1, hp⟩ := hp
  refine r_callV (ci := 9) (wc := [[(o, .inr (9, [.ref aS, .ref aPast, .int known, .ref aSnap, .int kept, .ref aText, .int len, .int thr, .ref aOne, .ref aTwo, .ref aBoth, .ref aWord, .int cre, .ref aOpen, .ref aTimes, .ref aFar, .ref aQueue, .long hash]))], [(aS, .inl (cI, 335, .inl fS))], [(aOne, .inl (cI, 4, .inl fOne))]]) (wr := [[(aTwo, .inl (cI, 4, .inl fTwo))], [(aBoth, .inl (cI, 4, .inl fBoth))]]) (st := []) C (m_X11_takes l D cI cL cP cJ o aS aPast aSnap aText aOne aTwo aBoth aWord aOpen aTimes aFar aQueue known kept len thr cre hash fS fOne letter h1) k_X11_takes t_990 [0, 1, 2, 3, 4] (show ([0, 1, 2, 3, 4] : List Nat).Perm (List.range 5) by decide) rfl rfl rfl (q0 := 0) rfl rfl rfl (Nat.le_of_ble_eq_true rfl) ⟨Nat.le_of_ble_eq_true rfl, Nat.le_of_ble_eq_true rfl⟩ ⟨Nat.zero_le _, Nat.zero_le _⟩ dX11_period_2 (fun r2 wr2 hw2 => ?_)
  obtain rfl := hw2
  obtain ⟨g3, e_g3⟩ : ∃ z : Nat → Int32, z = F_X11_takes fS fOne letter := ⟨_, rfl⟩
  have hp := hp g3 e_g3
  refine r_ws (I' := [[(o, .inr (9, [.ref aS, .ref aPast, .int known, .ref aSnap, .int kept, .ref aText, .int len, .int thr, .ref aOne, .ref aTwo, .ref aBoth, .ref aWord, .int cre, .ref aOpen, .ref aTimes, .ref aFar, .ref aQueue, .long hash]))], [(aS, .inl (cI, 335, .inl fS))], [(aOne, .inl (cI, 4, .inl g3))], [(aTwo, .inl (cI, 4, .inl fTwo))], [(aBoth, .inl (cI, 4, .inl fBoth))]]) (by rw [e_g3]; rfl) ?_
  refine r_aload_n C dX11_period_5 0 rfl ?_
  refine r_iload_n C dX11_period_6 1 rfl ?_
  obtain ⟨h4, hp⟩ := hp
  refine r_callV (ci := 9) (wc := [[(o, .inr (9, [.ref aS, .ref aPast, .int known, .ref aSnap, .int kept, .ref aText, .int len, .int thr, .ref aOne, .ref aTwo, .ref aBoth, .ref aWord, .int cre, .ref aOpen, .ref aTimes, .ref aFar, .ref aQueue, .long hash]))], [(aS, .inl (cI, 335, .inl fS))], [(aTwo, .inl (cI, 4, .inl fTwo))]]) (wr := [[(aOne, .inl (cI, 4, .inl g3))], [(aBoth, .inl (cI, 4, .inl fBoth))]]) (st := []) C (m_X11_takesOther l D cI cL cP cJ o aS aPast aSnap aText aOne aTwo aBoth aWord aOpen aTimes aFar aQueue known kept len thr cre hash fS fTwo letter h4) k_X11_takesOther t_1045 [0, 1, 3, 2, 4] (show ([0, 1, 3, 2, 4] : List Nat).Perm (List.range 5) by decide) rfl rfl rfl (q0 := 0) rfl rfl rfl (Nat.le_of_ble_eq_true rfl) ⟨Nat.le_of_ble_eq_true rfl, Nat.le_of_ble_eq_true rfl⟩ ⟨Nat.zero_le _, Nat.zero_le _⟩ dX11_period_7 (fun r5 wr5 hw5 => ?_)
  obtain rfl := hw5
  obtain ⟨g6, e_g6⟩ : ∃ z : Nat → Int32, z = F_X11_takesOther fS fTwo letter := ⟨_, rfl⟩
  have hp := hp g6 e_g6
  refine r_ws (I' := [[(o, .inr (9, [.ref aS, .ref aPast, .int known, .ref aSnap, .int kept, .ref aText, .int len, .int thr, .ref aOne, .ref aTwo, .ref aBoth, .ref aWord, .int cre, .ref aOpen, .ref aTimes, .ref aFar, .ref aQueue, .long hash]))], [(aS, .inl (cI, 335, .inl fS))], [(aTwo, .inl (cI, 4, .inl g6))], [(aOne, .inl (cI, 4, .inl g3))], [(aBoth, .inl (cI, 4, .inl fBoth))]]) (by rw [e_g6]; rfl) ?_
  refine r_iconst (v := 1) C dX11_period_10 (by decide) ?_
  refine r_istore_n (L' := [(2, .int 1), (0, .ref o), (1, .int letter)]) C dX11_period_11 (by decide) rfl ?_
  have hpl := hp
  have hL : ∀ (nn : Nat) (k7 : Nat → Int32) (k8 : Nat → Int32) (y9 : Int32), P_X11_period_L12 g6 nn k7 k8 y9 → (∀ f17 : Nat → Int32, f17 = (F_X11_period_L12 g6 nn k7 k8 y9).1 → ∀ f18 : Nat → Int32, f18 = (F_X11_period_L12 g6 nn k7 k8 y9).2.1 → ∀ z19 : Int32, z19 = (F_X11_period_L12 g6 nn k7 k8 y9).2.2 → V p l e (rmm 2 44) s m args below meth c 3 D A 0 0 Q [[(o, .inr (9, [.ref aS, .ref aPast, .int known, .ref aSnap, .int kept, .ref aText, .int len, .int thr, .ref aOne, .ref aTwo, .ref aBoth, .ref aWord, .int cre, .ref aOpen, .ref aTimes, .ref aFar, .ref aQueue, .long hash]))], [(aS, .inl (cI, 335, .inl fS))], [(aTwo, .inl (cI, 4, .inl g6))], [(aOne, .inl (cI, 4, .inl f17))], [(aBoth, .inl (cI, 4, .inl f18))]] [(2, .int z19), (0, .ref o), (1, .int letter)] 29 []) → V p l e (rmm 2 44) s m args below meth c 3 D A 0 0 Q [[(o, .inr (9, [.ref aS, .ref aPast, .int known, .ref aSnap, .int kept, .ref aText, .int len, .int thr, .ref aOne, .ref aTwo, .ref aBoth, .ref aWord, .int cre, .ref aOpen, .ref aTimes, .ref aFar, .ref aQueue, .long hash]))], [(aS, .inl (cI, 335, .inl fS))], [(aTwo, .inl (cI, 4, .inl g6))], [(aOne, .inl (cI, 4, .inl k7))], [(aBoth, .inl (cI, 4, .inl k8))]] [(2, .int y9), (0, .ref o), (1, .int letter)] 12 [] := by
    clear hpl
    intro nn
    induction nn with
    | zero => intro k7 k8 y9 hp kk; rw [P_X11_period_L12] at hp; exact hp.elim
    | succ nn ih =>
      intro k7 k8 y9 hp kk
      rw [P_X11_period_L12] at hp
      refine r_aload_n C dX11_period_12 1 rfl ?_
      refine r_callV (ci := 9) (wc := [[(o, .inr (9, [.ref aS, .ref aPast, .int known, .ref aSnap, .int kept, .ref aText, .int len, .int thr, .ref aOne, .ref aTwo, .ref aBoth, .ref aWord, .int cre, .ref aOpen, .ref aTimes, .ref aFar, .ref aQueue, .long hash]))], [(aOne, .inl (cI, 4, .inl k7))]]) (wr := [[(aS, .inl (cI, 335, .inl fS))], [(aTwo, .inl (cI, 4, .inl g6))], [(aBoth, .inl (cI, 4, .inl k8))]]) (st := []) C (m_X11_isFlatOne l D cI cL cP cJ o aS aPast aSnap aText aOne aTwo aBoth aWord aOpen aTimes aFar aQueue known kept len thr cre hash k7) k_X11_isFlatOne t_1026 [0, 3, 1, 2, 4] (show ([0, 3, 1, 2, 4] : List Nat).Perm (List.range 5) by decide) rfl rfl rfl (q0 := 0) rfl rfl rfl (Nat.le_of_ble_eq_true rfl) ⟨Nat.le_of_ble_eq_true rfl, Nat.le_of_ble_eq_true rfl⟩ ⟨Nat.zero_le _, Nat.zero_le _⟩ dX11_period_13 (fun r10 wr10 hw10 => ?_)
      obtain ⟨e_r10, rfl⟩ := hw10
      have hp := hp r10 e_r10
      refine r_ws (I' := [[(o, .inr (9, [.ref aS, .ref aPast, .int known, .ref aSnap, .int kept, .ref aText, .int len, .int thr, .ref aOne, .ref aTwo, .ref aBoth, .ref aWord, .int cre, .ref aOpen, .ref aTimes, .ref aFar, .ref aQueue, .long hash]))], [(aOne, .inl (cI, 4, .inl k7))], [(aS, .inl (cI, 335, .inl fS))], [(aTwo, .inl (cI, 4, .inl g6))], [(aBoth, .inl (cI, 4, .inl k8))]]) rfl ?_
      refine r_if_ne (tgt := 29) C dX11_period_16 (by decide) (fun c11 => ?_) (fun c11 => ?_)
      · refine r_pl (I' := [[(o, .inr (9, [.ref aS, .ref aPast, .int known, .ref aSnap, .int kept, .ref aText, .int len, .int thr, .ref aOne, .ref aTwo, .ref aBoth, .ref aWord, .int cre, .ref aOpen, .ref aTimes, .ref aFar, .ref aQueue, .long hash]))], [(aS, .inl (cI, 335, .inl fS))], [(aTwo, .inl (cI, 4, .inl g6))], [(aOne, .inl (cI, 4, .inl k7))], [(aBoth, .inl (cI, 4, .inl k8))]]) [0, 2, 3, 1, 4] (show ([0, 2, 3, 1, 4] : List Nat).Perm (List.range 5) by decide) rfl ?_
        have eF : F_X11_period_L12 g6 (nn + 1) k7 k8 y9 = (k7, k8, y9) := by have q := e_r10.symm; subst q; simp only [F_X11_period_L12, if_neg c11]
        exact kk _ (by rw [eF]) _ (by rw [eF]) _ (by rw [eF])
      · have hp := hp.1 c11
        refine r_aload_n C dX11_period_19 1 rfl ?_
        obtain ⟨h12, hp⟩ := hp
        refine r_callV (ci := 9) (wc := [[(o, .inr (9, [.ref aS, .ref aPast, .int known, .ref aSnap, .int kept, .ref aText, .int len, .int thr, .ref aOne, .ref aTwo, .ref aBoth, .ref aWord, .int cre, .ref aOpen, .ref aTimes, .ref aFar, .ref aQueue, .long hash]))], [(aOne, .inl (cI, 4, .inl k7))], [(aTwo, .inl (cI, 4, .inl g6))], [(aBoth, .inl (cI, 4, .inl k8))]]) (wr := [[(aS, .inl (cI, 335, .inl fS))]]) (st := []) C (m_X11_multiplies l D cI cL cP cJ o aS aPast aSnap aText aOne aTwo aBoth aWord aOpen aTimes aFar aQueue known kept len thr cre hash k7 g6 k8 h12) k_X11_multiplies t_1049 [0, 1, 3, 4, 2] (show ([0, 1, 3, 4, 2] : List Nat).Perm (List.range 5) by decide) rfl rfl rfl (q0 := 0) rfl rfl rfl (Nat.le_of_ble_eq_true rfl) ⟨Nat.le_of_ble_eq_true rfl, Nat.le_of_ble_eq_true rfl⟩ ⟨Nat.zero_le _, Nat.zero_le _⟩ dX11_period_20 (fun r13 wr13 hw13 => ?_)
        obtain rfl := hw13
        obtain ⟨g14, e_g14⟩ : ∃ z : Nat → Int32, z = (F_X11_multiplies k7 g6 k8).1 := ⟨_, rfl⟩
        have hp := hp g14 e_g14
        obtain ⟨g15, e_g15⟩ : ∃ z : Nat → Int32, z = (F_X11_multiplies k7 g6 k8).2 := ⟨_, rfl⟩
        have hp := hp g15 e_g15
        refine r_ws (I' := [[(o, .inr (9, [.ref aS, .ref aPast, .int known, .ref aSnap, .int kept, .ref aText, .int len, .int thr, .ref aOne, .ref aTwo, .ref aBoth, .ref aWord, .int cre, .ref aOpen, .ref aTimes, .ref aFar, .ref aQueue, .long hash]))], [(aOne, .inl (cI, 4, .inl g14))], [(aTwo, .inl (cI, 4, .inl g6))], [(aBoth, .inl (cI, 4, .inl g15))], [(aS, .inl (cI, 335, .inl fS))]]) (by rw [e_g14, e_g15]; rfl) ?_
        obtain ⟨x16, e_x16⟩ : ∃ z : Int32, z = y9 + 1 := ⟨_, rfl⟩
        have hp := hp x16 e_x16
        refine r_iinc (v := x16) (L' := [(2, .int x16), (0, .ref o), (1, .int letter)]) C dX11_period_23 0 rfl (by rw [e_x16]; exact ii (by decide)) (by decide) rfl ?_
        refine r_goto (tgt := 12) C dX11_period_26 (by decide) ?_
        refine r_pl (I' := [[(o, .inr (9, [.ref aS, .ref aPast, .int known, .ref aSnap, .int kept, .ref aText, .int len, .int thr, .ref aOne, .ref aTwo, .ref aBoth, .ref aWord, .int cre, .ref aOpen, .ref aTimes, .ref aFar, .ref aQueue, .long hash]))], [(aS, .inl (cI, 335, .inl fS))], [(aTwo, .inl (cI, 4, .inl g6))], [(aOne, .inl (cI, 4, .inl g14))], [(aBoth, .inl (cI, 4, .inl g15))]]) [0, 4, 2, 1, 3] (show ([0, 4, 2, 1, 3] : List Nat).Perm (List.range 5) by decide) rfl ?_
        have eF : F_X11_period_L12 g6 (nn + 1) k7 k8 y9 = F_X11_period_L12 g6 nn g14 g15 x16 := by have q := e_r10.symm; subst q; have q := e_g14.symm; subst q; have q := e_g15.symm; subst q; have q := e_x16.symm; subst q; simp only [F_X11_period_L12, if_pos c11]
        exact ih g14 g15 x16 hp (fun f17 e_f17 f18 e_f18 z19 e_z19 => kk f17 (by rw [eF]; exact e_f17) f18 (by rw [eF]; exact e_f18) z19 (by rw [eF]; exact e_z19))
  refine hL 10 g3 fBoth 1 hpl (fun f17 e_f17 f18 e_f18 z19 e_z19 => ?_)
  clear hL hpl
  refine r_iload_n C dX11_period_29 0 rfl ?_
  refine r_pl (I' := [[(o, .inr (9, [.ref aS, .ref aPast, .int known, .ref aSnap, .int kept, .ref aText, .int len, .int thr, .ref aOne, .ref aTwo, .ref aBoth, .ref aWord, .int cre, .ref aOpen, .ref aTimes, .ref aFar, .ref aQueue, .long hash]))], [(aS, .inl (cI, 335, .inl fS))], [(aOne, .inl (cI, 4, .inl f17))], [(aTwo, .inl (cI, 4, .inl g6))], [(aBoth, .inl (cI, 4, .inl f18))]]) [0, 1, 3, 2, 4] (show ([0, 1, 3, 2, 4] : List Nat).Perm (List.range 5) by decide) rfl ?_
  have eF : F_X11_period fS fOne fTwo fBoth letter = (z19, f17, g6, f18) := by have q := e_g3.symm; subst q; have q := e_g6.symm; subst q; have q := e_f17.symm; subst q; have q := e_f18.symm; subst q; have q := e_z19.symm; subst q; rfl
  exact r_iret (r := z19) C hA hr hlo dX11_period_30 [[(o, .inr (9, [.ref aS, .ref aPast, .int known, .ref aSnap, .int kept, .ref aText, .int len, .int thr, .ref aOne, .ref aTwo, .ref aBoth, .ref aWord, .int cre, .ref aOpen, .ref aTimes, .ref aFar, .ref aQueue, .long hash]))], [(aS, .inl (cI, 335, .inl fS))], [(aOne, .inl (cI, 4, .inl f17))], [(aTwo, .inl (cI, 4, .inl g6))], [(aBoth, .inl (cI, 4, .inl f18))]] ⟨by simp only [eF], by simp only [eF]⟩ rfl hQ
theorem k_X11_isMirror : kV yX11_isMirror cX11_isMirror 8 (some .boolean) 1 := ⟨t_1161, t_42, t_67, t_1162, by decide +kernel, by decide +kernel, by decide +kernel⟩
set_option maxRecDepth 20000 in
def F_X11_isMirror (fS : Nat → Int32) (letter : Int32) : Int32 := let r2 : Int32 := F_X11_its fS letter 0; let x7 : Int32 := (if r2 = 1 then ((-1)) else (0)); let x8 : Int32 := (if r2 = 1 then ((-1)) else (0)); let x9 : Int32 := (if r2 = 1 then (0) else (let x5 : Int32 := (if 0 ≤ r2 then (0) else (1)); let x6 : Int32 := (0 : Int32) + x5; x6)); let x10 : Int32 := (if r2 = 1 then (0) else (1)); let r12 : Int32 := F_X11_its fS letter 1; let x20 : Int32 := (if r12 = 2 then (x7) else (1)); let x21 : Int32 := (if r12 = 2 then (x8) else (let x15 : Int32 := (if 0 ≤ x8 then (x8) else (1)); x15)); let x22 : Int32 := (if r12 = 2 then (x9) else (let x18 : Int32 := (if 0 ≤ r12 then (0) else (1)); let x19 : Int32 := x9 + x18; x19)); let x23 : Int32 := (if r12 = 2 then (x10) else (let x16 : Int32 := x10 + 1; x16)); let r25 : Int32 := F_X11_its fS letter 2; let x33 : Int32 := (if r25 = 3 then (x20) else (2)); let x34 : Int32 := (if r25 = 3 then (x21) else (let x28 : Int32 := (if 0 ≤ x21 then (x21) else (2)); x28)); let x35 : Int32 := (if r25 = 3 then (x22) else (let x31 : Int32 := (if 0 ≤ r25 then (0) else (1)); let x32 : Int32 := x22 + x31; x32)); let x36 : Int32 := (if r25 = 3 then (x23) else (let x29 : Int32 := x23 + 1; x29)); let r38 : Int32 := F_X11_its fS letter 3; let x46 : Int32 := (if r38 = 4 then (x33) else (3)); let x47 : Int32 := (if r38 = 4 then (x34) else (let x41 : Int32 := (if 0 ≤ x34 then (x34) else (3)); x41)); let x48 : Int32 := (if r38 = 4 then (x35) else (let x44 : Int32 := (if 0 ≤ r38 then (0) else (1)); let x45 : Int32 := x35 + x44; x45)); let x49 : Int32 := (if r38 = 4 then (x36) else (let x42 : Int32 := x36 + 1; x42)); let x51 : Int32 := (if x49 = 1 then (1) else (0)); let x58 : Int32 := (if x49 = 2 then (let r54 : Int32 := F_X11_its fS letter x47; let r55 : Int32 := F_X11_size r54; (if r55 = (x46 + 1) then ((if x48 = 1 then (0) else (1))) else (0))) else (0)); let x61 : Int32 := (if x51 = 0 then ((if x58 = 0 then (0) else (1))) else (1)); x61
set_option maxRecDepth 20000 in
def P_X11_isMirror (fS : Nat → Int32) (letter : Int32) : Prop := ((P_X11_its letter 0) ∧ (∀ r2 : Int32, r2 = F_X11_its fS letter 0 → (∀ x7 : Int32, x7 = ((if r2 = 1 then ((-1)) else (0))) → (∀ x8 : Int32, x8 = ((if r2 = 1 then ((-1)) else (0))) → (∀ x9 : Int32, x9 = ((if r2 = 1 then (0) else (let x5 : Int32 := (if 0 ≤ r2 then (0) else (1)); let x6 : Int32 := (0 : Int32) + x5; x6))) → (∀ x10 : Int32, x10 = ((if r2 = 1 then (0) else (1))) → ((P_X11_its letter 1) ∧ (∀ r12 : Int32, r12 = F_X11_its fS letter 1 → (∀ x20 : Int32, x20 = ((if r12 = 2 then (x7) else (1))) → (∀ x21 : Int32, x21 = ((if r12 = 2 then (x8) else (let x15 : Int32 := (if 0 ≤ x8 then (x8) else (1)); x15))) → (∀ x22 : Int32, x22 = ((if r12 = 2 then (x9) else (let x18 : Int32 := (if 0 ≤ r12 then (0) else (1)); let x19 : Int32 := x9 + x18; x19))) → (∀ x23 : Int32, x23 = ((if r12 = 2 then (x10) else (let x16 : Int32 := x10 + 1; x16))) → ((P_X11_its letter 2) ∧ (∀ r25 : Int32, r25 = F_X11_its fS letter 2 → (∀ x33 : Int32, x33 = ((if r25 = 3 then (x20) else (2))) → (∀ x34 : Int32, x34 = ((if r25 = 3 then (x21) else (let x28 : Int32 := (if 0 ≤ x21 then (x21) else (2)); x28))) → (∀ x35 : Int32, x35 = ((if r25 = 3 then (x22) else (let x31 : Int32 := (if 0 ≤ r25 then (0) else (1)); let x32 : Int32 := x22 + x31; x32))) → (∀ x36 : Int32, x36 = ((if r25 = 3 then (x23) else (let x29 : Int32 := x23 + 1; x29))) → ((P_X11_its letter 3) ∧ (∀ r38 : Int32, r38 = F_X11_its fS letter 3 → (∀ x46 : Int32, x46 = ((if r38 = 4 then (x33) else (3))) → (∀ x47 : Int32, x47 = ((if r38 = 4 then (x34) else (let x41 : Int32 := (if 0 ≤ x34 then (x34) else (3)); x41))) → (∀ x48 : Int32, x48 = ((if r38 = 4 then (x35) else (let x44 : Int32 := (if 0 ≤ r38 then (0) else (1)); let x45 : Int32 := x35 + x44; x45))) → (∀ x49 : Int32, x49 = ((if r38 = 4 then (x36) else (let x42 : Int32 := x36 + 1; x42))) → (∀ x51 : Int32, x51 = ((if x49 = 1 then (1) else (0))) → ((x49 = 2 → (P_X11_its letter x47)) ∧ (¬ x49 = 2 → True)))))))))))))))))))))))))))
set_option maxRecDepth 20000 in
set_option maxHeartbeats 8000000 in
theorem m_X11_isMirror (l : Launch) (D : va_G) (cI cL cP cJ : ClassId) (o : Nat) (aS : Nat) (aPast : Nat) (aSnap : Nat) (aText : Nat) (aOne : Nat) (aTwo : Nat) (aBoth : Nat) (aWord : Nat) (aOpen : Nat) (aTimes : Nat) (aFar : Nat) (aQueue : Nat) (known : Int32) (kept : Int32) (len : Int32) (thr : Int32) (cre : Int32) (hash : Int64) (fS : Nat → Int32) (letter : Int32) (hp : P_X11_isMirror fS letter) : M vI l yX11_isMirror cX11_isMirror 8 (some .boolean) 1 22 D (tyF cI cL cP cJ) [.ref o, .int letter] [[(o, .inr (9, [.ref aS, .ref aPast, .int known, .ref aSnap, .int kept, .ref aText, .int len, .int thr, .ref aOne, .ref aTwo, .ref aBoth, .ref aWord, .int cre, .ref aOpen, .ref aTimes, .ref aFar, .ref aQueue, .long hash]))], [(aS, .inl (cI, 335, .inl fS))]] (fun (r : Int32) (w1 : List va_W) => r = (F_X11_isMirror fS letter) ∧ w1 = [[(o, .inr (9, [.ref aS, .ref aPast, .int known, .ref aSnap, .int kept, .ref aText, .int len, .int thr, .ref aOne, .ref aTwo, .ref aBoth, .ref aWord, .int cre, .ref aOpen, .ref aTimes, .ref aFar, .ref aQueue, .long hash]))], [(aS, .inl (cI, 335, .inl fS))]]) := by
  unfold P_X11_isMirror at hp
  refine m_start (by decide +kernel) (Nat.le_of_ble_eq_true rfl) (fun p e s m args below meth c A Q hA hQ C hr hlo => ?_)
  refine r_Le (L' := [(0, .ref o), (1, .int letter)]) rfl ?_
  refine r_iconst (v := 0) C dX11_isMirror_0 (by decide) ?_
  refine r_istore_n (L' := [(2, .int 0), (0, .ref o), (1, .int letter)]) C dX11_isMirror_1 (by decide) rfl ?_
  refine r_iconst (v := 0) C dX11_isMirror_2 (by decide) ?_
  refine r_istore_n (L' := [(3, .int 0), (2, .int 0), (0, .ref o), (1, .int letter)]) C dX11_isMirror_3 (by decide) rfl ?_
  refine r_iconst (v := (-1)) C dX11_isMirror_4 (by decide) ?_
  refine r_istore (L' := [(4, .int (-1)), (3, .int 0), (2, .int 0), (0, .ref o), (1, .int letter)]) C dX11_isMirror_5 (by decide) rfl ?_
  refine r_iconst (v := (-1)) C dX11_isMirror_7 (by decide) ?_
  refine r_istore (L' := [(5, .int (-1)), (4, .int (-1)), (3, .int 0), (2, .int 0), (0, .ref o), (1, .int letter)]) C dX11_isMirror_8 (by decide) rfl ?_
  refine r_iconst (v := 0) C dX11_isMirror_10 (by decide) ?_
  refine r_istore (L' := [(6, .int 0), (5, .int (-1)), (4, .int (-1)), (3, .int 0), (2, .int 0), (0, .ref o), (1, .int letter)]) C dX11_isMirror_11 (by decide) rfl ?_
  refine r_iload C dX11_isMirror_13 0 rfl ?_
  refine r_iconst (v := 4) C dX11_isMirror_15 (by decide) ?_
  refine r_icmp_ge (tgt := 77) C dX11_isMirror_16 (by decide) (fun c => absurd c (by decide)) (fun _ => ?_)
  refine r_aload_n C dX11_isMirror_19 5 rfl ?_
  refine r_iload_n C dX11_isMirror_20 6 rfl ?_
  refine r_iload C dX11_isMirror_21 0 rfl ?_
  obtain ⟨h1, hp⟩ := hp
  refine r_callV (ci := 9) (wc := [[(o, .inr (9, [.ref aS, .ref aPast, .int known, .ref aSnap, .int kept, .ref aText, .int len, .int thr, .ref aOne, .ref aTwo, .ref aBoth, .ref aWord, .int cre, .ref aOpen, .ref aTimes, .ref aFar, .ref aQueue, .long hash]))], [(aS, .inl (cI, 335, .inl fS))]]) (wr := []) (st := []) C (m_X11_its l D cI cL cP cJ o aS aPast aSnap aText aOne aTwo aBoth aWord aOpen aTimes aFar aQueue known kept len thr cre hash fS letter 0 h1) k_X11_its t_966 [0, 1] (show ([0, 1] : List Nat).Perm (List.range 2) by decide) rfl rfl rfl (q0 := 0) rfl rfl rfl (Nat.le_of_ble_eq_true rfl) ⟨Nat.le_of_ble_eq_true rfl, Nat.le_of_ble_eq_true rfl⟩ ⟨Nat.zero_le _, Nat.zero_le _⟩ dX11_isMirror_23 (fun r2 wr2 hw2 => ?_)
  obtain ⟨e_r2, rfl⟩ := hw2
  have hp := hp r2 e_r2
  refine r_ws (I' := [[(o, .inr (9, [.ref aS, .ref aPast, .int known, .ref aSnap, .int kept, .ref aText, .int len, .int thr, .ref aOne, .ref aTwo, .ref aBoth, .ref aWord, .int cre, .ref aOpen, .ref aTimes, .ref aFar, .ref aQueue, .long hash]))], [(aS, .inl (cI, 335, .inl fS))]]) rfl ?_
  refine r_istore (L' := [(7, .int r2), (6, .int 0), (5, .int (-1)), (4, .int (-1)), (3, .int 0), (2, .int 0), (0, .ref o), (1, .int letter)]) C dX11_isMirror_26 (by decide) rfl ?_
  refine r_iload C dX11_isMirror_28 0 rfl ?_
  refine r_iload C dX11_isMirror_30 1 rfl ?_
  refine r_iconst (v := 1) C dX11_isMirror_32 (by decide) ?_
  refine r_iadd (z := 1) C dX11_isMirror_33 (by decide) ?_
  suffices K : ∀ x7 : Int32, x7 = ((if r2 = 1 then ((-1)) else (0))) → ∀ x8 : Int32, x8 = ((if r2 = 1 then ((-1)) else (0))) → ∀ x9 : Int32, x9 = ((if r2 = 1 then (0) else (let x5 : Int32 := (if 0 ≤ r2 then (0) else (1)); let x6 : Int32 := (0 : Int32) + x5; x6))) → ∀ x10 : Int32, x10 = ((if r2 = 1 then (0) else (1))) → V p l e (rmm 1 22) s m args below meth c 8 D A 0 0 Q [[(o, .inr (9, [.ref aS, .ref aPast, .int known, .ref aSnap, .int kept, .ref aText, .int len, .int thr, .ref aOne, .ref aTwo, .ref aBoth, .ref aWord, .int cre, .ref aOpen, .ref aTimes, .ref aFar, .ref aQueue, .long hash]))], [(aS, .inl (cI, 335, .inl fS))]] [(7, .int r2), (6, .int 0), (5, .int x7), (4, .int x8), (3, .int x9), (2, .int x10), (0, .ref o), (1, .int letter)] 71 [] by
    refine r_icmp_eq (tgt := 71) C dX11_isMirror_34 (by decide) (fun c3 => ?_) (fun c3 => ?_)
    · exact K _ (by simp only [if_pos c3]) _ (by simp only [if_pos c3]) _ (by simp only [if_pos c3]) _ (by simp only [if_pos c3])
    · refine r_iload C dX11_isMirror_37 3 rfl ?_
      refine r_if_ge (tgt := 47) C dX11_isMirror_39 (by decide) (fun c => absurd c (by decide)) (fun _ => ?_)
      refine r_iload C dX11_isMirror_42 1 rfl ?_
      refine r_goto (tgt := 49) C dX11_isMirror_44 (by decide) ?_
      refine r_istore (L' := [(4, .int 0), (7, .int r2), (6, .int 0), (5, .int (-1)), (3, .int 0), (2, .int 0), (0, .ref o), (1, .int letter)]) C dX11_isMirror_49 (by decide) rfl ?_
      refine r_iload C dX11_isMirror_51 2 rfl ?_
      refine r_istore (L' := [(5, .int 0), (4, .int 0), (7, .int r2), (6, .int 0), (3, .int 0), (2, .int 0), (0, .ref o), (1, .int letter)]) C dX11_isMirror_53 (by decide) rfl ?_
      refine r_iinc (v := 1) (L' := [(2, .int 1), (5, .int 0), (4, .int 0), (7, .int r2), (6, .int 0), (3, .int 0), (0, .ref o), (1, .int letter)]) C dX11_isMirror_55 5 rfl (by decide) (by decide) rfl ?_
      refine r_iload_n C dX11_isMirror_58 5 rfl ?_
      refine r_iload C dX11_isMirror_59 3 rfl ?_
      suffices K : ∀ x5 : Int32, x5 = ((if 0 ≤ r2 then (0) else (1))) → V p l e (rmm 1 22) s m args below meth c 8 D A 0 0 Q [[(o, .inr (9, [.ref aS, .ref aPast, .int known, .ref aSnap, .int kept, .ref aText, .int len, .int thr, .ref aOne, .ref aTwo, .ref aBoth, .ref aWord, .int cre, .ref aOpen, .ref aTimes, .ref aFar, .ref aQueue, .long hash]))], [(aS, .inl (cI, 335, .inl fS))]] [(2, .int 1), (5, .int 0), (4, .int 0), (7, .int r2), (6, .int 0), (3, .int 0), (0, .ref o), (1, .int letter)] 69 [.int x5, .int 0] by
        refine r_if_ge (tgt := 68) C dX11_isMirror_61 (by decide) (fun c4 => ?_) (fun c4 => ?_)
        · refine r_iconst (v := 0) C dX11_isMirror_68 (by decide) ?_
          exact K _ (by simp only [if_pos c4])
        · refine r_iconst (v := 1) C dX11_isMirror_64 (by decide) ?_
          refine r_goto (tgt := 69) C dX11_isMirror_65 (by decide) ?_
          exact K _ (by simp only [if_neg c4])
      intro x5 e_x5
      refine r_iadd C dX11_isMirror_69 rfl ?_
      refine r_top (fun x6 e_x6 => ?_)
      refine r_istore_n (L' := [(3, .int x6), (2, .int 1), (5, .int 0), (4, .int 0), (7, .int r2), (6, .int 0), (0, .ref o), (1, .int letter)]) C dX11_isMirror_70 (by decide) rfl ?_
      refine r_L (L' := [(7, .int r2), (6, .int 0), (5, .int 0), (4, .int 0), (3, .int x6), (2, .int 1), (0, .ref o), (1, .int letter)]) [4, 5, 2, 3, 0, 1, 6, 7] rfl ?_
      exact K _ (by have q := e_x5.symm; subst q; have q := e_x6.symm; subst q; simp only [if_neg c3]) _ (by have q := e_x5.symm; subst q; have q := e_x6.symm; subst q; simp only [if_neg c3]) _ (by have q := e_x5.symm; subst q; have q := e_x6.symm; subst q; simp only [if_neg c3]) _ (by have q := e_x5.symm; subst q; have q := e_x6.symm; subst q; simp only [if_neg c3])
  intro x7 e_x7 x8 e_x8 x9 e_x9 x10 e_x10
  have hp := hp x7 e_x7
  have hp := hp x8 e_x8
  have hp := hp x9 e_x9
  have hp := hp x10 e_x10
  refine r_iinc (v := 1) (L' := [(6, .int 1), (7, .int r2), (5, .int x7), (4, .int x8), (3, .int x9), (2, .int x10), (0, .ref o), (1, .int letter)]) C dX11_isMirror_71 1 rfl (by decide) (by decide) rfl ?_
  refine r_goto (tgt := 13) C dX11_isMirror_74 (by decide) ?_
  refine r_iload C dX11_isMirror_13 0 rfl ?_
  refine r_iconst (v := 4) C dX11_isMirror_15 (by decide) ?_
  refine r_icmp_ge (tgt := 77) C dX11_isMirror_16 (by decide) (fun c => absurd c (by decide)) (fun _ => ?_)
  refine r_aload_n C dX11_isMirror_19 6 rfl ?_
  refine r_iload_n C dX11_isMirror_20 7 rfl ?_
  refine r_iload C dX11_isMirror_21 0 rfl ?_
  obtain ⟨h11, hp⟩ := hp
  refine r_callV (ci := 9) (wc := [[(o, .inr (9, [.ref aS, .ref aPast, .int known, .ref aSnap, .int kept, .ref aText, .int len, .int thr, .ref aOne, .ref aTwo, .ref aBoth, .ref aWord, .int cre, .ref aOpen, .ref aTimes, .ref aFar, .ref aQueue, .long hash]))], [(aS, .inl (cI, 335, .inl fS))]]) (wr := []) (st := []) C (m_X11_its l D cI cL cP cJ o aS aPast aSnap aText aOne aTwo aBoth aWord aOpen aTimes aFar aQueue known kept len thr cre hash fS letter 1 h11) k_X11_its t_966 [0, 1] (show ([0, 1] : List Nat).Perm (List.range 2) by decide) rfl rfl rfl (q0 := 0) rfl rfl rfl (Nat.le_of_ble_eq_true rfl) ⟨Nat.le_of_ble_eq_true rfl, Nat.le_of_ble_eq_true rfl⟩ ⟨Nat.zero_le _, Nat.zero_le _⟩ dX11_isMirror_23 (fun r12 wr12 hw12 => ?_)
  obtain ⟨e_r12, rfl⟩ := hw12
  have hp := hp r12 e_r12
  refine r_ws (I' := [[(o, .inr (9, [.ref aS, .ref aPast, .int known, .ref aSnap, .int kept, .ref aText, .int len, .int thr, .ref aOne, .ref aTwo, .ref aBoth, .ref aWord, .int cre, .ref aOpen, .ref aTimes, .ref aFar, .ref aQueue, .long hash]))], [(aS, .inl (cI, 335, .inl fS))]]) rfl ?_
  refine r_istore (L' := [(7, .int r12), (6, .int 1), (5, .int x7), (4, .int x8), (3, .int x9), (2, .int x10), (0, .ref o), (1, .int letter)]) C dX11_isMirror_26 (by decide) rfl ?_
  refine r_iload C dX11_isMirror_28 0 rfl ?_
  refine r_iload C dX11_isMirror_30 1 rfl ?_
  refine r_iconst (v := 1) C dX11_isMirror_32 (by decide) ?_
  refine r_iadd (z := 2) C dX11_isMirror_33 (by decide) ?_
  suffices K : ∀ x20 : Int32, x20 = ((if r12 = 2 then (x7) else (1))) → ∀ x21 : Int32, x21 = ((if r12 = 2 then (x8) else (let x15 : Int32 := (if 0 ≤ x8 then (x8) else (1)); x15))) → ∀ x22 : Int32, x22 = ((if r12 = 2 then (x9) else (let x18 : Int32 := (if 0 ≤ r12 then (0) else (1)); let x19 : Int32 := x9 + x18; x19))) → ∀ x23 : Int32, x23 = ((if r12 = 2 then (x10) else (let x16 : Int32 := x10 + 1; x16))) → V p l e (rmm 1 22) s m args below meth c 8 D A 0 0 Q [[(o, .inr (9, [.ref aS, .ref aPast, .int known, .ref aSnap, .int kept, .ref aText, .int len, .int thr, .ref aOne, .ref aTwo, .ref aBoth, .ref aWord, .int cre, .ref aOpen, .ref aTimes, .ref aFar, .ref aQueue, .long hash]))], [(aS, .inl (cI, 335, .inl fS))]] [(7, .int r12), (6, .int 1), (5, .int x20), (4, .int x21), (3, .int x22), (2, .int x23), (0, .ref o), (1, .int letter)] 71 [] by
    refine r_icmp_eq (tgt := 71) C dX11_isMirror_34 (by decide) (fun c13 => ?_) (fun c13 => ?_)
    · exact K _ (by simp only [if_pos c13]) _ (by simp only [if_pos c13]) _ (by simp only [if_pos c13]) _ (by simp only [if_pos c13])
    · refine r_iload C dX11_isMirror_37 3 rfl ?_
      suffices K : ∀ x15 : Int32, x15 = ((if 0 ≤ x8 then (x8) else (1))) → V p l e (rmm 1 22) s m args below meth c 8 D A 0 0 Q [[(o, .inr (9, [.ref aS, .ref aPast, .int known, .ref aSnap, .int kept, .ref aText, .int len, .int thr, .ref aOne, .ref aTwo, .ref aBoth, .ref aWord, .int cre, .ref aOpen, .ref aTimes, .ref aFar, .ref aQueue, .long hash]))], [(aS, .inl (cI, 335, .inl fS))]] [(7, .int r12), (6, .int 1), (5, .int x7), (4, .int x8), (3, .int x9), (2, .int x10), (0, .ref o), (1, .int letter)] 49 [.int x15] by
        refine r_if_ge (tgt := 47) C dX11_isMirror_39 (by decide) (fun c14 => ?_) (fun c14 => ?_)
        · refine r_iload C dX11_isMirror_47 3 rfl ?_
          exact K _ (by simp only [if_pos c14])
        · refine r_iload C dX11_isMirror_42 1 rfl ?_
          refine r_goto (tgt := 49) C dX11_isMirror_44 (by decide) ?_
          exact K _ (by simp only [if_neg c14])
      intro x15 e_x15
      refine r_istore (L' := [(4, .int x15), (7, .int r12), (6, .int 1), (5, .int x7), (3, .int x9), (2, .int x10), (0, .ref o), (1, .int letter)]) C dX11_isMirror_49 (by decide) rfl ?_
      refine r_iload C dX11_isMirror_51 2 rfl ?_
      refine r_istore (L' := [(5, .int 1), (4, .int x15), (7, .int r12), (6, .int 1), (3, .int x9), (2, .int x10), (0, .ref o), (1, .int letter)]) C dX11_isMirror_53 (by decide) rfl ?_
      obtain ⟨x16, e_x16⟩ : ∃ z : Int32, z = x10 + 1 := ⟨_, rfl⟩
      refine r_iinc (v := x16) (L' := [(2, .int x16), (5, .int 1), (4, .int x15), (7, .int r12), (6, .int 1), (3, .int x9), (0, .ref o), (1, .int letter)]) C dX11_isMirror_55 5 rfl (by rw [e_x16]; exact ii (by decide)) (by decide) rfl ?_
      refine r_iload_n C dX11_isMirror_58 5 rfl ?_
      refine r_iload C dX11_isMirror_59 3 rfl ?_
      suffices K : ∀ x18 : Int32, x18 = ((if 0 ≤ r12 then (0) else (1))) → V p l e (rmm 1 22) s m args below meth c 8 D A 0 0 Q [[(o, .inr (9, [.ref aS, .ref aPast, .int known, .ref aSnap, .int kept, .ref aText, .int len, .int thr, .ref aOne, .ref aTwo, .ref aBoth, .ref aWord, .int cre, .ref aOpen, .ref aTimes, .ref aFar, .ref aQueue, .long hash]))], [(aS, .inl (cI, 335, .inl fS))]] [(2, .int x16), (5, .int 1), (4, .int x15), (7, .int r12), (6, .int 1), (3, .int x9), (0, .ref o), (1, .int letter)] 69 [.int x18, .int x9] by
        refine r_if_ge (tgt := 68) C dX11_isMirror_61 (by decide) (fun c17 => ?_) (fun c17 => ?_)
        · refine r_iconst (v := 0) C dX11_isMirror_68 (by decide) ?_
          exact K _ (by simp only [if_pos c17])
        · refine r_iconst (v := 1) C dX11_isMirror_64 (by decide) ?_
          refine r_goto (tgt := 69) C dX11_isMirror_65 (by decide) ?_
          exact K _ (by simp only [if_neg c17])
      intro x18 e_x18
      refine r_iadd C dX11_isMirror_69 rfl ?_
      refine r_top (fun x19 e_x19 => ?_)
      refine r_istore_n (L' := [(3, .int x19), (2, .int x16), (5, .int 1), (4, .int x15), (7, .int r12), (6, .int 1), (0, .ref o), (1, .int letter)]) C dX11_isMirror_70 (by decide) rfl ?_
      refine r_L (L' := [(7, .int r12), (6, .int 1), (5, .int 1), (4, .int x15), (3, .int x19), (2, .int x16), (0, .ref o), (1, .int letter)]) [4, 5, 2, 3, 0, 1, 6, 7] rfl ?_
      exact K _ (by have q := e_x15.symm; subst q; have q := e_x16.symm; subst q; have q := e_x18.symm; subst q; have q := e_x19.symm; subst q; simp only [if_neg c13]) _ (by have q := e_x15.symm; subst q; have q := e_x16.symm; subst q; have q := e_x18.symm; subst q; have q := e_x19.symm; subst q; simp only [if_neg c13]) _ (by have q := e_x15.symm; subst q; have q := e_x16.symm; subst q; have q := e_x18.symm; subst q; have q := e_x19.symm; subst q; simp only [if_neg c13]) _ (by have q := e_x15.symm; subst q; have q := e_x16.symm; subst q; have q := e_x18.symm; subst q; have q := e_x19.symm; subst q; simp only [if_neg c13])
  intro x20 e_x20 x21 e_x21 x22 e_x22 x23 e_x23
  have hp := hp x20 e_x20
  have hp := hp x21 e_x21
  have hp := hp x22 e_x22
  have hp := hp x23 e_x23
  refine r_iinc (v := 2) (L' := [(6, .int 2), (7, .int r12), (5, .int x20), (4, .int x21), (3, .int x22), (2, .int x23), (0, .ref o), (1, .int letter)]) C dX11_isMirror_71 1 rfl (by decide) (by decide) rfl ?_
  refine r_goto (tgt := 13) C dX11_isMirror_74 (by decide) ?_
  refine r_iload C dX11_isMirror_13 0 rfl ?_
  refine r_iconst (v := 4) C dX11_isMirror_15 (by decide) ?_
  refine r_icmp_ge (tgt := 77) C dX11_isMirror_16 (by decide) (fun c => absurd c (by decide)) (fun _ => ?_)
  refine r_aload_n C dX11_isMirror_19 6 rfl ?_
  refine r_iload_n C dX11_isMirror_20 7 rfl ?_
  refine r_iload C dX11_isMirror_21 0 rfl ?_
  obtain ⟨h24, hp⟩ := hp
  refine r_callV (ci := 9) (wc := [[(o, .inr (9, [.ref aS, .ref aPast, .int known, .ref aSnap, .int kept, .ref aText, .int len, .int thr, .ref aOne, .ref aTwo, .ref aBoth, .ref aWord, .int cre, .ref aOpen, .ref aTimes, .ref aFar, .ref aQueue, .long hash]))], [(aS, .inl (cI, 335, .inl fS))]]) (wr := []) (st := []) C (m_X11_its l D cI cL cP cJ o aS aPast aSnap aText aOne aTwo aBoth aWord aOpen aTimes aFar aQueue known kept len thr cre hash fS letter 2 h24) k_X11_its t_966 [0, 1] (show ([0, 1] : List Nat).Perm (List.range 2) by decide) rfl rfl rfl (q0 := 0) rfl rfl rfl (Nat.le_of_ble_eq_true rfl) ⟨Nat.le_of_ble_eq_true rfl, Nat.le_of_ble_eq_true rfl⟩ ⟨Nat.zero_le _, Nat.zero_le _⟩ dX11_isMirror_23 (fun r25 wr25 hw25 => ?_)
  obtain ⟨e_r25, rfl⟩ := hw25
  have hp := hp r25 e_r25
  refine r_ws (I' := [[(o, .inr (9, [.ref aS, .ref aPast, .int known, .ref aSnap, .int kept, .ref aText, .int len, .int thr, .ref aOne, .ref aTwo, .ref aBoth, .ref aWord, .int cre, .ref aOpen, .ref aTimes, .ref aFar, .ref aQueue, .long hash]))], [(aS, .inl (cI, 335, .inl fS))]]) rfl ?_
  refine r_istore (L' := [(7, .int r25), (6, .int 2), (5, .int x20), (4, .int x21), (3, .int x22), (2, .int x23), (0, .ref o), (1, .int letter)]) C dX11_isMirror_26 (by decide) rfl ?_
  refine r_iload C dX11_isMirror_28 0 rfl ?_
  refine r_iload C dX11_isMirror_30 1 rfl ?_
  refine r_iconst (v := 1) C dX11_isMirror_32 (by decide) ?_
  refine r_iadd (z := 3) C dX11_isMirror_33 (by decide) ?_
  suffices K : ∀ x33 : Int32, x33 = ((if r25 = 3 then (x20) else (2))) → ∀ x34 : Int32, x34 = ((if r25 = 3 then (x21) else (let x28 : Int32 := (if 0 ≤ x21 then (x21) else (2)); x28))) → ∀ x35 : Int32, x35 = ((if r25 = 3 then (x22) else (let x31 : Int32 := (if 0 ≤ r25 then (0) else (1)); let x32 : Int32 := x22 + x31; x32))) → ∀ x36 : Int32, x36 = ((if r25 = 3 then (x23) else (let x29 : Int32 := x23 + 1; x29))) → V p l e (rmm 1 22) s m args below meth c 8 D A 0 0 Q [[(o, .inr (9, [.ref aS, .ref aPast, .int known, .ref aSnap, .int kept, .ref aText, .int len, .int thr, .ref aOne, .ref aTwo, .ref aBoth, .ref aWord, .int cre, .ref aOpen, .ref aTimes, .ref aFar, .ref aQueue, .long hash]))], [(aS, .inl (cI, 335, .inl fS))]] [(7, .int r25), (6, .int 2), (5, .int x33), (4, .int x34), (3, .int x35), (2, .int x36), (0, .ref o), (1, .int letter)] 71 [] by
    refine r_icmp_eq (tgt := 71) C dX11_isMirror_34 (by decide) (fun c26 => ?_) (fun c26 => ?_)
    · exact K _ (by simp only [if_pos c26]) _ (by simp only [if_pos c26]) _ (by simp only [if_pos c26]) _ (by simp only [if_pos c26])
    · refine r_iload C dX11_isMirror_37 3 rfl ?_
      suffices K : ∀ x28 : Int32, x28 = ((if 0 ≤ x21 then (x21) else (2))) → V p l e (rmm 1 22) s m args below meth c 8 D A 0 0 Q [[(o, .inr (9, [.ref aS, .ref aPast, .int known, .ref aSnap, .int kept, .ref aText, .int len, .int thr, .ref aOne, .ref aTwo, .ref aBoth, .ref aWord, .int cre, .ref aOpen, .ref aTimes, .ref aFar, .ref aQueue, .long hash]))], [(aS, .inl (cI, 335, .inl fS))]] [(7, .int r25), (6, .int 2), (5, .int x20), (4, .int x21), (3, .int x22), (2, .int x23), (0, .ref o), (1, .int letter)] 49 [.int x28] by
        refine r_if_ge (tgt := 47) C dX11_isMirror_39 (by decide) (fun c27 => ?_) (fun c27 => ?_)
        · refine r_iload C dX11_isMirror_47 3 rfl ?_
          exact K _ (by simp only [if_pos c27])
        · refine r_iload C dX11_isMirror_42 1 rfl ?_
          refine r_goto (tgt := 49) C dX11_isMirror_44 (by decide) ?_
          exact K _ (by simp only [if_neg c27])
      intro x28 e_x28
      refine r_istore (L' := [(4, .int x28), (7, .int r25), (6, .int 2), (5, .int x20), (3, .int x22), (2, .int x23), (0, .ref o), (1, .int letter)]) C dX11_isMirror_49 (by decide) rfl ?_
      refine r_iload C dX11_isMirror_51 2 rfl ?_
      refine r_istore (L' := [(5, .int 2), (4, .int x28), (7, .int r25), (6, .int 2), (3, .int x22), (2, .int x23), (0, .ref o), (1, .int letter)]) C dX11_isMirror_53 (by decide) rfl ?_
      obtain ⟨x29, e_x29⟩ : ∃ z : Int32, z = x23 + 1 := ⟨_, rfl⟩
      refine r_iinc (v := x29) (L' := [(2, .int x29), (5, .int 2), (4, .int x28), (7, .int r25), (6, .int 2), (3, .int x22), (0, .ref o), (1, .int letter)]) C dX11_isMirror_55 5 rfl (by rw [e_x29]; exact ii (by decide)) (by decide) rfl ?_
      refine r_iload_n C dX11_isMirror_58 5 rfl ?_
      refine r_iload C dX11_isMirror_59 3 rfl ?_
      suffices K : ∀ x31 : Int32, x31 = ((if 0 ≤ r25 then (0) else (1))) → V p l e (rmm 1 22) s m args below meth c 8 D A 0 0 Q [[(o, .inr (9, [.ref aS, .ref aPast, .int known, .ref aSnap, .int kept, .ref aText, .int len, .int thr, .ref aOne, .ref aTwo, .ref aBoth, .ref aWord, .int cre, .ref aOpen, .ref aTimes, .ref aFar, .ref aQueue, .long hash]))], [(aS, .inl (cI, 335, .inl fS))]] [(2, .int x29), (5, .int 2), (4, .int x28), (7, .int r25), (6, .int 2), (3, .int x22), (0, .ref o), (1, .int letter)] 69 [.int x31, .int x22] by
        refine r_if_ge (tgt := 68) C dX11_isMirror_61 (by decide) (fun c30 => ?_) (fun c30 => ?_)
        · refine r_iconst (v := 0) C dX11_isMirror_68 (by decide) ?_
          exact K _ (by simp only [if_pos c30])
        · refine r_iconst (v := 1) C dX11_isMirror_64 (by decide) ?_
          refine r_goto (tgt := 69) C dX11_isMirror_65 (by decide) ?_
          exact K _ (by simp only [if_neg c30])
      intro x31 e_x31
      refine r_iadd C dX11_isMirror_69 rfl ?_
      refine r_top (fun x32 e_x32 => ?_)
      refine r_istore_n (L' := [(3, .int x32), (2, .int x29), (5, .int 2), (4, .int x28), (7, .int r25), (6, .int 2), (0, .ref o), (1, .int letter)]) C dX11_isMirror_70 (by decide) rfl ?_
      refine r_L (L' := [(7, .int r25), (6, .int 2), (5, .int 2), (4, .int x28), (3, .int x32), (2, .int x29), (0, .ref o), (1, .int letter)]) [4, 5, 2, 3, 0, 1, 6, 7] rfl ?_
      exact K _ (by have q := e_x28.symm; subst q; have q := e_x29.symm; subst q; have q := e_x31.symm; subst q; have q := e_x32.symm; subst q; simp only [if_neg c26]) _ (by have q := e_x28.symm; subst q; have q := e_x29.symm; subst q; have q := e_x31.symm; subst q; have q := e_x32.symm; subst q; simp only [if_neg c26]) _ (by have q := e_x28.symm; subst q; have q := e_x29.symm; subst q; have q := e_x31.symm; subst q; have q := e_x32.symm; subst q; simp only [if_neg c26]) _ (by have q := e_x28.symm; subst q; have q := e_x29.symm; subst q; have q := e_x31.symm; subst q; have q := e_x32.symm; subst q; simp only [if_neg c26])
  intro x33 e_x33 x34 e_x34 x35 e_x35 x36 e_x36
  have hp := hp x33 e_x33
  have hp := hp x34 e_x34
  have hp := hp x35 e_x35
  have hp := hp x36 e_x36
  refine r_iinc (v := 3) (L' := [(6, .int 3), (7, .int r25), (5, .int x33), (4, .int x34), (3, .int x35), (2, .int x36), (0, .ref o), (1, .int letter)]) C dX11_isMirror_71 1 rfl (by decide) (by decide) rfl ?_
  refine r_goto (tgt := 13) C dX11_isMirror_74 (by decide) ?_
  refine r_iload C dX11_isMirror_13 0 rfl ?_
  refine r_iconst (v := 4) C dX11_isMirror_15 (by decide) ?_
  refine r_icmp_ge (tgt := 77) C dX11_isMirror_16 (by decide) (fun c => absurd c (by decide)) (fun _ => ?_)
  refine r_aload_n C dX11_isMirror_19 6 rfl ?_
  refine r_iload_n C dX11_isMirror_20 7 rfl ?_
  refine r_iload C dX11_isMirror_21 0 rfl ?_
  obtain ⟨h37, hp⟩ := hp
  refine r_callV (ci := 9) (wc := [[(o, .inr (9, [.ref aS, .ref aPast, .int known, .ref aSnap, .int kept, .ref aText, .int len, .int thr, .ref aOne, .ref aTwo, .ref aBoth, .ref aWord, .int cre, .ref aOpen, .ref aTimes, .ref aFar, .ref aQueue, .long hash]))], [(aS, .inl (cI, 335, .inl fS))]]) (wr := []) (st := []) C (m_X11_its l D cI cL cP cJ o aS aPast aSnap aText aOne aTwo aBoth aWord aOpen aTimes aFar aQueue known kept len thr cre hash fS letter 3 h37) k_X11_its t_966 [0, 1] (show ([0, 1] : List Nat).Perm (List.range 2) by decide) rfl rfl rfl (q0 := 0) rfl rfl rfl (Nat.le_of_ble_eq_true rfl) ⟨Nat.le_of_ble_eq_true rfl, Nat.le_of_ble_eq_true rfl⟩ ⟨Nat.zero_le _, Nat.zero_le _⟩ dX11_isMirror_23 (fun r38 wr38 hw38 => ?_)
  obtain ⟨e_r38, rfl⟩ := hw38
  have hp := hp r38 e_r38
  refine r_ws (I' := [[(o, .inr (9, [.ref aS, .ref aPast, .int known, .ref aSnap, .int kept, .ref aText, .int len, .int thr, .ref aOne, .ref aTwo, .ref aBoth, .ref aWord, .int cre, .ref aOpen, .ref aTimes, .ref aFar, .ref aQueue, .long hash]))], [(aS, .inl (cI, 335, .inl fS))]]) rfl ?_
  refine r_istore (L' := [(7, .int r38), (6, .int 3), (5, .int x33), (4, .int x34), (3, .int x35), (2, .int x36), (0, .ref o), (1, .int letter)]) C dX11_isMirror_26 (by decide) rfl ?_
  refine r_iload C dX11_isMirror_28 0 rfl ?_
  refine r_iload C dX11_isMirror_30 1 rfl ?_
  refine r_iconst (v := 1) C dX11_isMirror_32 (by decide) ?_
  refine r_iadd (z := 4) C dX11_isMirror_33 (by decide) ?_
  suffices K : ∀ x46 : Int32, x46 = ((if r38 = 4 then (x33) else (3))) → ∀ x47 : Int32, x47 = ((if r38 = 4 then (x34) else (let x41 : Int32 := (if 0 ≤ x34 then (x34) else (3)); x41))) → ∀ x48 : Int32, x48 = ((if r38 = 4 then (x35) else (let x44 : Int32 := (if 0 ≤ r38 then (0) else (1)); let x45 : Int32 := x35 + x44; x45))) → ∀ x49 : Int32, x49 = ((if r38 = 4 then (x36) else (let x42 : Int32 := x36 + 1; x42))) → V p l e (rmm 1 22) s m args below meth c 8 D A 0 0 Q [[(o, .inr (9, [.ref aS, .ref aPast, .int known, .ref aSnap, .int kept, .ref aText, .int len, .int thr, .ref aOne, .ref aTwo, .ref aBoth, .ref aWord, .int cre, .ref aOpen, .ref aTimes, .ref aFar, .ref aQueue, .long hash]))], [(aS, .inl (cI, 335, .inl fS))]] [(7, .int r38), (6, .int 3), (5, .int x46), (4, .int x47), (3, .int x48), (2, .int x49), (0, .ref o), (1, .int letter)] 71 [] by
    refine r_icmp_eq (tgt := 71) C dX11_isMirror_34 (by decide) (fun c39 => ?_) (fun c39 => ?_)
    · exact K _ (by simp only [if_pos c39]) _ (by simp only [if_pos c39]) _ (by simp only [if_pos c39]) _ (by simp only [if_pos c39])
    · refine r_iload C dX11_isMirror_37 3 rfl ?_
      suffices K : ∀ x41 : Int32, x41 = ((if 0 ≤ x34 then (x34) else (3))) → V p l e (rmm 1 22) s m args below meth c 8 D A 0 0 Q [[(o, .inr (9, [.ref aS, .ref aPast, .int known, .ref aSnap, .int kept, .ref aText, .int len, .int thr, .ref aOne, .ref aTwo, .ref aBoth, .ref aWord, .int cre, .ref aOpen, .ref aTimes, .ref aFar, .ref aQueue, .long hash]))], [(aS, .inl (cI, 335, .inl fS))]] [(7, .int r38), (6, .int 3), (5, .int x33), (4, .int x34), (3, .int x35), (2, .int x36), (0, .ref o), (1, .int letter)] 49 [.int x41] by
        refine r_if_ge (tgt := 47) C dX11_isMirror_39 (by decide) (fun c40 => ?_) (fun c40 => ?_)
        · refine r_iload C dX11_isMirror_47 3 rfl ?_
          exact K _ (by simp only [if_pos c40])
        · refine r_iload C dX11_isMirror_42 1 rfl ?_
          refine r_goto (tgt := 49) C dX11_isMirror_44 (by decide) ?_
          exact K _ (by simp only [if_neg c40])
      intro x41 e_x41
      refine r_istore (L' := [(4, .int x41), (7, .int r38), (6, .int 3), (5, .int x33), (3, .int x35), (2, .int x36), (0, .ref o), (1, .int letter)]) C dX11_isMirror_49 (by decide) rfl ?_
      refine r_iload C dX11_isMirror_51 2 rfl ?_
      refine r_istore (L' := [(5, .int 3), (4, .int x41), (7, .int r38), (6, .int 3), (3, .int x35), (2, .int x36), (0, .ref o), (1, .int letter)]) C dX11_isMirror_53 (by decide) rfl ?_
      obtain ⟨x42, e_x42⟩ : ∃ z : Int32, z = x36 + 1 := ⟨_, rfl⟩
      refine r_iinc (v := x42) (L' := [(2, .int x42), (5, .int 3), (4, .int x41), (7, .int r38), (6, .int 3), (3, .int x35), (0, .ref o), (1, .int letter)]) C dX11_isMirror_55 5 rfl (by rw [e_x42]; exact ii (by decide)) (by decide) rfl ?_
      refine r_iload_n C dX11_isMirror_58 5 rfl ?_
      refine r_iload C dX11_isMirror_59 3 rfl ?_
      suffices K : ∀ x44 : Int32, x44 = ((if 0 ≤ r38 then (0) else (1))) → V p l e (rmm 1 22) s m args below meth c 8 D A 0 0 Q [[(o, .inr (9, [.ref aS, .ref aPast, .int known, .ref aSnap, .int kept, .ref aText, .int len, .int thr, .ref aOne, .ref aTwo, .ref aBoth, .ref aWord, .int cre, .ref aOpen, .ref aTimes, .ref aFar, .ref aQueue, .long hash]))], [(aS, .inl (cI, 335, .inl fS))]] [(2, .int x42), (5, .int 3), (4, .int x41), (7, .int r38), (6, .int 3), (3, .int x35), (0, .ref o), (1, .int letter)] 69 [.int x44, .int x35] by
        refine r_if_ge (tgt := 68) C dX11_isMirror_61 (by decide) (fun c43 => ?_) (fun c43 => ?_)
        · refine r_iconst (v := 0) C dX11_isMirror_68 (by decide) ?_
          exact K _ (by simp only [if_pos c43])
        · refine r_iconst (v := 1) C dX11_isMirror_64 (by decide) ?_
          refine r_goto (tgt := 69) C dX11_isMirror_65 (by decide) ?_
          exact K _ (by simp only [if_neg c43])
      intro x44 e_x44
      refine r_iadd C dX11_isMirror_69 rfl ?_
      refine r_top (fun x45 e_x45 => ?_)
      refine r_istore_n (L' := [(3, .int x45), (2, .int x42), (5, .int 3), (4, .int x41), (7, .int r38), (6, .int 3), (0, .ref o), (1, .int letter)]) C dX11_isMirror_70 (by decide) rfl ?_
      refine r_L (L' := [(7, .int r38), (6, .int 3), (5, .int 3), (4, .int x41), (3, .int x45), (2, .int x42), (0, .ref o), (1, .int letter)]) [4, 5, 2, 3, 0, 1, 6, 7] rfl ?_
      exact K _ (by have q := e_x41.symm; subst q; have q := e_x42.symm; subst q; have q := e_x44.symm; subst q; have q := e_x45.symm; subst q; simp only [if_neg c39]) _ (by have q := e_x41.symm; subst q; have q := e_x42.symm; subst q; have q := e_x44.symm; subst q; have q := e_x45.symm; subst q; simp only [if_neg c39]) _ (by have q := e_x41.symm; subst q; have q := e_x42.symm; subst q; have q := e_x44.symm; subst q; have q := e_x45.symm; subst q; simp only [if_neg c39]) _ (by have q := e_x41.symm; subst q; have q := e_x42.symm; subst q; have q := e_x44.symm; subst q; have q := e_x45.symm; subst q; simp only [if_neg c39])
  intro x46 e_x46 x47 e_x47 x48 e_x48 x49 e_x49
  have hp := hp x46 e_x46
  have hp := hp x47 e_x47
  have hp := hp x48 e_x48
  have hp := hp x49 e_x49
  refine r_iinc (v := 4) (L' := [(6, .int 4), (7, .int r38), (5, .int x46), (4, .int x47), (3, .int x48), (2, .int x49), (0, .ref o), (1, .int letter)]) C dX11_isMirror_71 1 rfl (by decide) (by decide) rfl ?_
  refine r_goto (tgt := 13) C dX11_isMirror_74 (by decide) ?_
  refine r_iload C dX11_isMirror_13 0 rfl ?_
  refine r_iconst (v := 4) C dX11_isMirror_15 (by decide) ?_
  refine r_icmp_ge (tgt := 77) C dX11_isMirror_16 (by decide) (fun _ => ?_) (fun c => absurd c (by decide))
  refine r_iload_n C dX11_isMirror_77 5 rfl ?_
  refine r_iconst (v := 1) C dX11_isMirror_78 (by decide) ?_
  suffices K : ∀ x51 : Int32, x51 = ((if x49 = 1 then (1) else (0))) → V p l e (rmm 1 22) s m args below meth c 8 D A 0 0 Q [[(o, .inr (9, [.ref aS, .ref aPast, .int known, .ref aSnap, .int kept, .ref aText, .int len, .int thr, .ref aOne, .ref aTwo, .ref aBoth, .ref aWord, .int cre, .ref aOpen, .ref aTimes, .ref aFar, .ref aQueue, .long hash]))], [(aS, .inl (cI, 335, .inl fS))]] [(6, .int 4), (7, .int r38), (5, .int x46), (4, .int x47), (3, .int x48), (2, .int x49), (0, .ref o), (1, .int letter)] 87 [.int x51] by
    refine r_icmp_ne (tgt := 86) C dX11_isMirror_79 (by decide) (fun c50 => ?_) (fun c50 => ?_)
    · refine r_iconst (v := 0) C dX11_isMirror_86 (by decide) ?_
      exact K _ (by simp only [if_neg c50])
    · refine r_iconst (v := 1) C dX11_isMirror_82 (by decide) ?_
      refine r_goto (tgt := 87) C dX11_isMirror_83 (by decide) ?_
      exact K _ (by simp only [if_pos c50])
  intro x51 e_x51
  have hp := hp x51 e_x51
  refine r_istore (L' := [(6, .int x51), (7, .int r38), (5, .int x46), (4, .int x47), (3, .int x48), (2, .int x49), (0, .ref o), (1, .int letter)]) C dX11_isMirror_87 (by decide) rfl ?_
  refine r_iload_n C dX11_isMirror_89 5 rfl ?_
  refine r_iconst (v := 2) C dX11_isMirror_90 (by decide) ?_
  have hps := hp
  suffices K : ∀ x58 : Int32, x58 = ((if x49 = 2 then (let r54 : Int32 := F_X11_its fS letter x47; let r55 : Int32 := F_X11_size r54; (if r55 = (x46 + 1) then ((if x48 = 1 then (0) else (1))) else (0))) else (0))) → V p l e (rmm 1 22) s m args below meth c 8 D A 0 0 Q [[(o, .inr (9, [.ref aS, .ref aPast, .int known, .ref aSnap, .int kept, .ref aText, .int len, .int thr, .ref aOne, .ref aTwo, .ref aBoth, .ref aWord, .int cre, .ref aOpen, .ref aTimes, .ref aFar, .ref aQueue, .long hash]))], [(aS, .inl (cI, 335, .inl fS))]] [(6, .int x51), (7, .int r38), (5, .int x46), (4, .int x47), (3, .int x48), (2, .int x49), (0, .ref o), (1, .int letter)] 121 [.int x58] by
    have hp := hps
    refine r_icmp_ne (tgt := 120) C dX11_isMirror_91 (by decide) (fun c52 => ?_) (fun c52 => ?_)
    · refine r_iconst (v := 0) C dX11_isMirror_120 (by decide) ?_
      exact K _ (by simp only [if_neg c52])
    · have hp := hp.1 c52
      refine r_aload_n C dX11_isMirror_94 6 rfl ?_
      refine r_iload_n C dX11_isMirror_95 7 rfl ?_
      refine r_iload C dX11_isMirror_96 3 rfl ?_
      have h53 := hp
      refine r_callV (ci := 9) (wc := [[(o, .inr (9, [.ref aS, .ref aPast, .int known, .ref aSnap, .int kept, .ref aText, .int len, .int thr, .ref aOne, .ref aTwo, .ref aBoth, .ref aWord, .int cre, .ref aOpen, .ref aTimes, .ref aFar, .ref aQueue, .long hash]))], [(aS, .inl (cI, 335, .inl fS))]]) (wr := []) (st := []) C (m_X11_its l D cI cL cP cJ o aS aPast aSnap aText aOne aTwo aBoth aWord aOpen aTimes aFar aQueue known kept len thr cre hash fS letter x47 h53) k_X11_its t_966 [0, 1] (show ([0, 1] : List Nat).Perm (List.range 2) by decide) rfl rfl rfl (q0 := 0) rfl rfl rfl (Nat.le_of_ble_eq_true rfl) ⟨Nat.le_of_ble_eq_true rfl, Nat.le_of_ble_eq_true rfl⟩ ⟨Nat.zero_le _, Nat.zero_le _⟩ dX11_isMirror_98 (fun r54 wr54 hw54 => ?_)
      obtain ⟨e_r54, rfl⟩ := hw54
      refine r_ws (I' := [[(o, .inr (9, [.ref aS, .ref aPast, .int known, .ref aSnap, .int kept, .ref aText, .int len, .int thr, .ref aOne, .ref aTwo, .ref aBoth, .ref aWord, .int cre, .ref aOpen, .ref aTimes, .ref aFar, .ref aQueue, .long hash]))], [(aS, .inl (cI, 335, .inl fS))]]) rfl ?_
      refine r_callS (wc := []) (wr := [[(o, .inr (9, [.ref aS, .ref aPast, .int known, .ref aSnap, .int kept, .ref aText, .int len, .int thr, .ref aOne, .ref aTwo, .ref aBoth, .ref aWord, .int cre, .ref aOpen, .ref aTimes, .ref aFar, .ref aQueue, .long hash]))], [(aS, .inl (cI, 335, .inl fS))]]) (st := []) C (m_X11_size l D cI cL cP cJ r54) k_X11_size t_1034 [0, 1] (show ([0, 1] : List Nat).Perm (List.range 2) by decide) rfl rfl rfl (Nat.le_of_ble_eq_true rfl) ⟨Nat.le_of_ble_eq_true rfl, Nat.le_of_ble_eq_true rfl⟩ ⟨Nat.zero_le _, Nat.zero_le _⟩ dX11_isMirror_101 (fun r55 wr55 hw55 => ?_)
      obtain ⟨e_r55, rfl⟩ := hw55
      refine r_ws (I' := [[(o, .inr (9, [.ref aS, .ref aPast, .int known, .ref aSnap, .int kept, .ref aText, .int len, .int thr, .ref aOne, .ref aTwo, .ref aBoth, .ref aWord, .int cre, .ref aOpen, .ref aTimes, .ref aFar, .ref aQueue, .long hash]))], [(aS, .inl (cI, 335, .inl fS))]]) rfl ?_
      refine r_iload C dX11_isMirror_104 2 rfl ?_
      refine r_iconst (v := 1) C dX11_isMirror_106 (by decide) ?_
      refine r_iadd C dX11_isMirror_107 rfl ?_
      refine r_icmp_ne (tgt := 120) C dX11_isMirror_108 (by decide) (fun c56 => ?_) (fun c56 => ?_)
      · refine r_iconst (v := 0) C dX11_isMirror_120 (by decide) ?_
        exact K _ (by have q := e_r54.symm; subst q; have q := e_r55.symm; subst q; simp only [if_pos c52, if_neg c56])
      · refine r_iload_n C dX11_isMirror_111 4 rfl ?_
        refine r_iconst (v := 1) C dX11_isMirror_112 (by decide) ?_
        refine r_icmp_eq (tgt := 120) C dX11_isMirror_113 (by decide) (fun c57 => ?_) (fun c57 => ?_)
        · refine r_iconst (v := 0) C dX11_isMirror_120 (by decide) ?_
          exact K _ (by have q := e_r54.symm; subst q; have q := e_r55.symm; subst q; simp only [if_pos c52, if_pos c56, if_pos c57])
        · refine r_iconst (v := 1) C dX11_isMirror_116 (by decide) ?_
          refine r_goto (tgt := 121) C dX11_isMirror_117 (by decide) ?_
          exact K _ (by have q := e_r54.symm; subst q; have q := e_r55.symm; subst q; simp only [if_pos c52, if_pos c56, if_neg c57])
  intro x58 e_x58
  refine r_istore (L' := [(7, .int x58), (6, .int x51), (5, .int x46), (4, .int x47), (3, .int x48), (2, .int x49), (0, .ref o), (1, .int letter)]) C dX11_isMirror_121 (by decide) rfl ?_
  refine r_iload C dX11_isMirror_123 1 rfl ?_
  suffices K : ∀ x61 : Int32, x61 = ((if x51 = 0 then ((if x58 = 0 then (0) else (1))) else (1))) → V p l e (rmm 1 22) s m args below meth c 8 D A 0 0 Q [[(o, .inr (9, [.ref aS, .ref aPast, .int known, .ref aSnap, .int kept, .ref aText, .int len, .int thr, .ref aOne, .ref aTwo, .ref aBoth, .ref aWord, .int cre, .ref aOpen, .ref aTimes, .ref aFar, .ref aQueue, .long hash]))], [(aS, .inl (cI, 335, .inl fS))]] [(7, .int x58), (6, .int x51), (5, .int x46), (4, .int x47), (3, .int x48), (2, .int x49), (0, .ref o), (1, .int letter)] 138 [.int x61] by
    refine r_if_ne (tgt := 133) C dX11_isMirror_125 (by decide) (fun c59 => ?_) (fun c59 => ?_)
    · refine r_iconst (v := 1) C dX11_isMirror_133 (by decide) ?_
      refine r_goto (tgt := 138) C dX11_isMirror_134 (by decide) ?_
      exact K _ (by simp only [if_neg c59])
    · refine r_iload C dX11_isMirror_128 0 rfl ?_
      refine r_if_eq (tgt := 137) C dX11_isMirror_130 (by decide) (fun c60 => ?_) (fun c60 => ?_)
      · refine r_iconst (v := 0) C dX11_isMirror_137 (by decide) ?_
        exact K _ (by simp only [if_pos c59, if_pos c60])
      · refine r_iconst (v := 1) C dX11_isMirror_133 (by decide) ?_
        refine r_goto (tgt := 138) C dX11_isMirror_134 (by decide) ?_
        exact K _ (by simp only [if_pos c59, if_neg c60])
  intro x61 e_x61
  have eF : F_X11_isMirror fS letter = x61 := by have q := e_r2.symm; subst q; have q := e_x7.symm; subst q; have q := e_x8.symm; subst q; have q := e_x9.symm; subst q; have q := e_x10.symm; subst q; have q := e_r12.symm; subst q; have q := e_x20.symm; subst q; have q := e_x21.symm; subst q; have q := e_x22.symm; subst q; have q := e_x23.symm; subst q; have q := e_r25.symm; subst q; have q := e_x33.symm; subst q; have q := e_x34.symm; subst q; have q := e_x35.symm; subst q; have q := e_x36.symm; subst q; have q := e_r38.symm; subst q; have q := e_x46.symm; subst q; have q := e_x47.symm; subst q; have q := e_x48.symm; subst q; have q := e_x49.symm; subst q; have q := e_x51.symm; subst q; have q := e_x58.symm; subst q; have q := e_x61.symm; subst q; rfl
  exact r_zret (r := x61) C hA hr hlo (nb01 (by first | (rw [e_x61]; (try dsimp only); ((repeat' split) <;> (first | exact Or.inl rfl | exact Or.inr rfl))) | (have q := e_r2.symm; subst q; have q := e_x7.symm; subst q; have q := e_x8.symm; subst q; have q := e_x9.symm; subst q; have q := e_x10.symm; subst q; have q := e_r12.symm; subst q; have q := e_x20.symm; subst q; have q := e_x21.symm; subst q; have q := e_x22.symm; subst q; have q := e_x23.symm; subst q; have q := e_r25.symm; subst q; have q := e_x33.symm; subst q; have q := e_x34.symm; subst q; have q := e_x35.symm; subst q; have q := e_x36.symm; subst q; have q := e_r38.symm; subst q; have q := e_x46.symm; subst q; have q := e_x47.symm; subst q; have q := e_x48.symm; subst q; have q := e_x49.symm; subst q; have q := e_x51.symm; subst q; have q := e_x58.symm; subst q; have q := e_x61.symm; subst q; (try dsimp only); ((repeat' split) <;> (first | exact Or.inl rfl | exact Or.inr rfl))))) dX11_isMirror_138 [[(o, .inr (9, [.ref aS, .ref aPast, .int known, .ref aSnap, .int kept, .ref aText, .int len, .int thr, .ref aOne, .ref aTwo, .ref aBoth, .ref aWord, .int cre, .ref aOpen, .ref aTimes, .ref aFar, .ref aQueue, .long hash]))], [(aS, .inl (cI, 335, .inl fS))]] ⟨by simp only [eF], rfl⟩ rfl hQ
theorem k_X11_distanceOf : kV yX11_distanceOf cX11_distanceOf 3 (some .int) 2 := ⟨t_1209, t_48, t_67, t_1210, by decide +kernel, by decide +kernel, by decide +kernel⟩
set_option maxRecDepth 20000 in
def F_X11_distanceOf (fS : Nat → Int32) (fOne : Nat → Int32) (fTwo : Nat → Int32) (fBoth : Nat → Int32) (fst : Int32) (snd : Int32) : Int32 × (Nat → Int32) × (Nat → Int32) × (Nat → Int32) := let g3 : Nat → Int32 := F_X11_takes fS fOne fst; let g6 : Nat → Int32 := (F_X11_turns g3 fBoth).1; let g7 : Nat → Int32 := (F_X11_turns g3 fBoth).2; let g10 : Nat → Int32 := F_X11_takesOther fS fTwo snd; let g13 : Nat → Int32 := (F_X11_multiplies g6 g10 g7).1; let g14 : Nat → Int32 := (F_X11_multiplies g6 g10 g7).2; let r15 : Int32 := F_X11_lengthOfOne g13; (r15, g13, g10, g14)
set_option maxRecDepth 20000 in
def P_X11_distanceOf (fS : Nat → Int32) (fOne : Nat → Int32) (fTwo : Nat → Int32) (fBoth : Nat → Int32) (fst : Int32) (snd : Int32) : Prop := ((P_X11_takes fS fOne fst) ∧ (∀ g3 : Nat → Int32, g3 = F_X11_takes fS fOne fst → ((P_X11_turns g3 fBoth) ∧ (∀ g6 : Nat → Int32, g6 = (F_X11_turns g3 fBoth).1 → (∀ g7 : Nat → Int32, g7 = (F_X11_turns g3 fBoth).2 → ((P_X11_takesOther fS fTwo snd) ∧ (∀ g10 : Nat → Int32, g10 = F_X11_takesOther fS fTwo snd → (P_X11_multiplies g6 g10 g7))))))))
set_option maxRecDepth 20000 in
set_option maxHeartbeats 8000000 in
theorem m_X11_distanceOf (l : Launch) (D : va_G) (cI cL cP cJ : ClassId) (o : Nat) (aS : Nat) (aPast : Nat) (aSnap : Nat) (aText : Nat) (aOne : Nat) (aTwo : Nat) (aBoth : Nat) (aWord : Nat) (aOpen : Nat) (aTimes : Nat) (aFar : Nat) (aQueue : Nat) (known : Int32) (kept : Int32) (len : Int32) (thr : Int32) (cre : Int32) (hash : Int64) (fS : Nat → Int32) (fOne : Nat → Int32) (fTwo : Nat → Int32) (fBoth : Nat → Int32) (fst : Int32) (snd : Int32) (hp : P_X11_distanceOf fS fOne fTwo fBoth fst snd) : M vI l yX11_distanceOf cX11_distanceOf 3 (some .int) 2 44 D (tyF cI cL cP cJ) [.ref o, .int fst, .int snd] [[(o, .inr (9, [.ref aS, .ref aPast, .int known, .ref aSnap, .int kept, .ref aText, .int len, .int thr, .ref aOne, .ref aTwo, .ref aBoth, .ref aWord, .int cre, .ref aOpen, .ref aTimes, .ref aFar, .ref aQueue, .long hash]))], [(aS, .inl (cI, 335, .inl fS))], [(aOne, .inl (cI, 4, .inl fOne))], [(aTwo, .inl (cI, 4, .inl fTwo))], [(aBoth, .inl (cI, 4, .inl fBoth))]] (fun (r : Int32) (w1 : List va_W) => r = (F_X11_distanceOf fS fOne fTwo fBoth fst snd).1 ∧ w1 = [[(o, .inr (9, [.ref aS, .ref aPast, .int known, .ref aSnap, .int kept, .ref aText, .int len, .int thr, .ref aOne, .ref aTwo, .ref aBoth, .ref aWord, .int cre, .ref aOpen, .ref aTimes, .ref aFar, .ref aQueue, .long hash]))], [(aS, .inl (cI, 335, .inl fS))], [(aOne, .inl (cI, 4, .inl ((F_X11_distanceOf fS fOne fTwo fBoth fst snd).2.1)))], [(aTwo, .inl (cI, 4, .inl ((F_X11_distanceOf fS fOne fTwo fBoth fst snd).2.2.1)))], [(aBoth, .inl (cI, 4, .inl ((F_X11_distanceOf fS fOne fTwo fBoth fst snd).2.2.2)))]]) := by
  unfold P_X11_distanceOf at hp
  refine m_start (by decide +kernel) (Nat.le_of_ble_eq_true rfl) (fun p e s m args below meth c A Q hA hQ C hr hlo => ?_)
  refine r_Le (L' := [(0, .ref o), (1, .int fst), (2, .int snd)]) rfl ?_
  refine r_aload_n C dX11_distanceOf_0 0 rfl ?_
  refine r_iload_n C dX11_distanceOf_1 1 rfl ?_
  obtain ⟨h1, hp⟩ := hp
  refine r_callV (ci := 9) (wc := [[(o, .inr (9, [.ref aS, .ref aPast, .int known, .ref aSnap, .int kept, .ref aText, .int len, .int thr, .ref aOne, .ref aTwo, .ref aBoth, .ref aWord, .int cre, .ref aOpen, .ref aTimes, .ref aFar, .ref aQueue, .long hash]))], [(aS, .inl (cI, 335, .inl fS))], [(aOne, .inl (cI, 4, .inl fOne))]]) (wr := [[(aTwo, .inl (cI, 4, .inl fTwo))], [(aBoth, .inl (cI, 4, .inl fBoth))]]) (st := []) C (m_X11_takes l D cI cL cP cJ o aS aPast aSnap aText aOne aTwo aBoth aWord aOpen aTimes aFar aQueue known kept len thr cre hash fS fOne fst h1) k_X11_takes t_990 [0, 1, 2, 3, 4] (show ([0, 1, 2, 3, 4] : List Nat).Perm (List.range 5) by decide) rfl rfl rfl (q0 := 0) rfl rfl rfl (Nat.le_of_ble_eq_true rfl) ⟨Nat.le_of_ble_eq_true rfl, Nat.le_of_ble_eq_true rfl⟩ ⟨Nat.zero_le _, Nat.zero_le _⟩ dX11_distanceOf_2 (fun r2 wr2 hw2 => ?_)
  obtain rfl := hw2
  obtain ⟨g3, e_g3⟩ : ∃ z : Nat → Int32, z = F_X11_takes fS fOne fst := ⟨_, rfl⟩
  have hp := hp g3 e_g3
  refine r_ws (I' := [[(o, .inr (9, [.ref aS, .ref aPast, .int known, .ref aSnap, .int kept, .ref aText, .int len, .int thr, .ref aOne, .ref aTwo, .ref aBoth, .ref aWord, .int cre, .ref aOpen, .ref aTimes, .ref aFar, .ref aQueue, .long hash]))], [(aS, .inl (cI, 335, .inl fS))], [(aOne, .inl (cI, 4, .inl g3))], [(aTwo, .inl (cI, 4, .inl fTwo))], [(aBoth, .inl (cI, 4, .inl fBoth))]]) (by rw [e_g3]; rfl) ?_
  refine r_aload_n C dX11_distanceOf_5 0 rfl ?_
  obtain ⟨h4, hp⟩ := hp
  refine r_callV (ci := 9) (wc := [[(o, .inr (9, [.ref aS, .ref aPast, .int known, .ref aSnap, .int kept, .ref aText, .int len, .int thr, .ref aOne, .ref aTwo, .ref aBoth, .ref aWord, .int cre, .ref aOpen, .ref aTimes, .ref aFar, .ref aQueue, .long hash]))], [(aOne, .inl (cI, 4, .inl g3))], [(aBoth, .inl (cI, 4, .inl fBoth))]]) (wr := [[(aS, .inl (cI, 335, .inl fS))], [(aTwo, .inl (cI, 4, .inl fTwo))]]) (st := []) C (m_X11_turns l D cI cL cP cJ o aS aPast aSnap aText aOne aTwo aBoth aWord aOpen aTimes aFar aQueue known kept len thr cre hash g3 fBoth h4) k_X11_turns t_1061 [0, 2, 4, 1, 3] (show ([0, 2, 4, 1, 3] : List Nat).Perm (List.range 5) by decide) rfl rfl rfl (q0 := 0) rfl rfl rfl (Nat.le_of_ble_eq_true rfl) ⟨Nat.le_of_ble_eq_true rfl, Nat.le_of_ble_eq_true rfl⟩ ⟨Nat.zero_le _, Nat.zero_le _⟩ dX11_distanceOf_6 (fun r5 wr5 hw5 => ?_)
  obtain rfl := hw5
  obtain ⟨g6, e_g6⟩ : ∃ z : Nat → Int32, z = (F_X11_turns g3 fBoth).1 := ⟨_, rfl⟩
  have hp := hp g6 e_g6
  obtain ⟨g7, e_g7⟩ : ∃ z : Nat → Int32, z = (F_X11_turns g3 fBoth).2 := ⟨_, rfl⟩
  have hp := hp g7 e_g7
  refine r_ws (I' := [[(o, .inr (9, [.ref aS, .ref aPast, .int known, .ref aSnap, .int kept, .ref aText, .int len, .int thr, .ref aOne, .ref aTwo, .ref aBoth, .ref aWord, .int cre, .ref aOpen, .ref aTimes, .ref aFar, .ref aQueue, .long hash]))], [(aOne, .inl (cI, 4, .inl g6))], [(aBoth, .inl (cI, 4, .inl g7))], [(aS, .inl (cI, 335, .inl fS))], [(aTwo, .inl (cI, 4, .inl fTwo))]]) (by rw [e_g6, e_g7]; rfl) ?_
  refine r_aload_n C dX11_distanceOf_9 0 rfl ?_
  refine r_iload_n C dX11_distanceOf_10 2 rfl ?_
  obtain ⟨h8, hp⟩ := hp
  refine r_callV (ci := 9) (wc := [[(o, .inr (9, [.ref aS, .ref aPast, .int known, .ref aSnap, .int kept, .ref aText, .int len, .int thr, .ref aOne, .ref aTwo, .ref aBoth, .ref aWord, .int cre, .ref aOpen, .ref aTimes, .ref aFar, .ref aQueue, .long hash]))], [(aS, .inl (cI, 335, .inl fS))], [(aTwo, .inl (cI, 4, .inl fTwo))]]) (wr := [[(aOne, .inl (cI, 4, .inl g6))], [(aBoth, .inl (cI, 4, .inl g7))]]) (st := []) C (m_X11_takesOther l D cI cL cP cJ o aS aPast aSnap aText aOne aTwo aBoth aWord aOpen aTimes aFar aQueue known kept len thr cre hash fS fTwo snd h8) k_X11_takesOther t_1045 [0, 3, 4, 1, 2] (show ([0, 3, 4, 1, 2] : List Nat).Perm (List.range 5) by decide) rfl rfl rfl (q0 := 0) rfl rfl rfl (Nat.le_of_ble_eq_true rfl) ⟨Nat.le_of_ble_eq_true rfl, Nat.le_of_ble_eq_true rfl⟩ ⟨Nat.zero_le _, Nat.zero_le _⟩ dX11_distanceOf_11 (fun r9 wr9 hw9 => ?_)
  obtain rfl := hw9
  obtain ⟨g10, e_g10⟩ : ∃ z : Nat → Int32, z = F_X11_takesOther fS fTwo snd := ⟨_, rfl⟩
  have hp := hp g10 e_g10
  refine r_ws (I' := [[(o, .inr (9, [.ref aS, .ref aPast, .int known, .ref aSnap, .int kept, .ref aText, .int len, .int thr, .ref aOne, .ref aTwo, .ref aBoth, .ref aWord, .int cre, .ref aOpen, .ref aTimes, .ref aFar, .ref aQueue, .long hash]))], [(aS, .inl (cI, 335, .inl fS))], [(aTwo, .inl (cI, 4, .inl g10))], [(aOne, .inl (cI, 4, .inl g6))], [(aBoth, .inl (cI, 4, .inl g7))]]) (by rw [e_g10]; rfl) ?_
  refine r_aload_n C dX11_distanceOf_14 0 rfl ?_
  have h11 := hp
  refine r_callV (ci := 9) (wc := [[(o, .inr (9, [.ref aS, .ref aPast, .int known, .ref aSnap, .int kept, .ref aText, .int len, .int thr, .ref aOne, .ref aTwo, .ref aBoth, .ref aWord, .int cre, .ref aOpen, .ref aTimes, .ref aFar, .ref aQueue, .long hash]))], [(aOne, .inl (cI, 4, .inl g6))], [(aTwo, .inl (cI, 4, .inl g10))], [(aBoth, .inl (cI, 4, .inl g7))]]) (wr := [[(aS, .inl (cI, 335, .inl fS))]]) (st := []) C (m_X11_multiplies l D cI cL cP cJ o aS aPast aSnap aText aOne aTwo aBoth aWord aOpen aTimes aFar aQueue known kept len thr cre hash g6 g10 g7 h11) k_X11_multiplies t_1049 [0, 3, 2, 4, 1] (show ([0, 3, 2, 4, 1] : List Nat).Perm (List.range 5) by decide) rfl rfl rfl (q0 := 0) rfl rfl rfl (Nat.le_of_ble_eq_true rfl) ⟨Nat.le_of_ble_eq_true rfl, Nat.le_of_ble_eq_true rfl⟩ ⟨Nat.zero_le _, Nat.zero_le _⟩ dX11_distanceOf_15 (fun r12 wr12 hw12 => ?_)
  obtain rfl := hw12
  obtain ⟨g13, e_g13⟩ : ∃ z : Nat → Int32, z = (F_X11_multiplies g6 g10 g7).1 := ⟨_, rfl⟩
  obtain ⟨g14, e_g14⟩ : ∃ z : Nat → Int32, z = (F_X11_multiplies g6 g10 g7).2 := ⟨_, rfl⟩
  refine r_ws (I' := [[(o, .inr (9, [.ref aS, .ref aPast, .int known, .ref aSnap, .int kept, .ref aText, .int len, .int thr, .ref aOne, .ref aTwo, .ref aBoth, .ref aWord, .int cre, .ref aOpen, .ref aTimes, .ref aFar, .ref aQueue, .long hash]))], [(aOne, .inl (cI, 4, .inl g13))], [(aTwo, .inl (cI, 4, .inl g10))], [(aBoth, .inl (cI, 4, .inl g14))], [(aS, .inl (cI, 335, .inl fS))]]) (by rw [e_g13, e_g14]; rfl) ?_
  refine r_aload_n C dX11_distanceOf_18 0 rfl ?_
  refine r_callV (ci := 9) (wc := [[(o, .inr (9, [.ref aS, .ref aPast, .int known, .ref aSnap, .int kept, .ref aText, .int len, .int thr, .ref aOne, .ref aTwo, .ref aBoth, .ref aWord, .int cre, .ref aOpen, .ref aTimes, .ref aFar, .ref aQueue, .long hash]))], [(aOne, .inl (cI, 4, .inl g13))]]) (wr := [[(aTwo, .inl (cI, 4, .inl g10))], [(aBoth, .inl (cI, 4, .inl g14))], [(aS, .inl (cI, 335, .inl fS))]]) (st := []) C (m_X11_lengthOfOne l D cI cL cP cJ o aS aPast aSnap aText aOne aTwo aBoth aWord aOpen aTimes aFar aQueue known kept len thr cre hash g13) k_X11_lengthOfOne t_1006 [0, 1, 2, 3, 4] (show ([0, 1, 2, 3, 4] : List Nat).Perm (List.range 5) by decide) rfl rfl rfl (q0 := 0) rfl rfl rfl (Nat.le_of_ble_eq_true rfl) ⟨Nat.le_of_ble_eq_true rfl, Nat.le_of_ble_eq_true rfl⟩ ⟨Nat.zero_le _, Nat.zero_le _⟩ dX11_distanceOf_19 (fun r15 wr15 hw15 => ?_)
  obtain ⟨e_r15, rfl⟩ := hw15
  refine r_ws (I' := [[(o, .inr (9, [.ref aS, .ref aPast, .int known, .ref aSnap, .int kept, .ref aText, .int len, .int thr, .ref aOne, .ref aTwo, .ref aBoth, .ref aWord, .int cre, .ref aOpen, .ref aTimes, .ref aFar, .ref aQueue, .long hash]))], [(aOne, .inl (cI, 4, .inl g13))], [(aTwo, .inl (cI, 4, .inl g10))], [(aBoth, .inl (cI, 4, .inl g14))], [(aS, .inl (cI, 335, .inl fS))]]) rfl ?_
  refine r_pl (I' := [[(o, .inr (9, [.ref aS, .ref aPast, .int known, .ref aSnap, .int kept, .ref aText, .int len, .int thr, .ref aOne, .ref aTwo, .ref aBoth, .ref aWord, .int cre, .ref aOpen, .ref aTimes, .ref aFar, .ref aQueue, .long hash]))], [(aS, .inl (cI, 335, .inl fS))], [(aOne, .inl (cI, 4, .inl g13))], [(aTwo, .inl (cI, 4, .inl g10))], [(aBoth, .inl (cI, 4, .inl g14))]]) [0, 4, 1, 2, 3] (show ([0, 4, 1, 2, 3] : List Nat).Perm (List.range 5) by decide) rfl ?_
  have eF : F_X11_distanceOf fS fOne fTwo fBoth fst snd = (r15, g13, g10, g14) := by have q := e_g3.symm; subst q; have q := e_g6.symm; subst q; have q := e_g7.symm; subst q; have q := e_g10.symm; subst q; have q := e_g13.symm; subst q; have q := e_g14.symm; subst q; have q := e_r15.symm; subst q; rfl
  exact r_iret (r := r15) C hA hr hlo dX11_distanceOf_22 [[(o, .inr (9, [.ref aS, .ref aPast, .int known, .ref aSnap, .int kept, .ref aText, .int len, .int thr, .ref aOne, .ref aTwo, .ref aBoth, .ref aWord, .int cre, .ref aOpen, .ref aTimes, .ref aFar, .ref aQueue, .long hash]))], [(aS, .inl (cI, 335, .inl fS))], [(aOne, .inl (cI, 4, .inl g13))], [(aTwo, .inl (cI, 4, .inl g10))], [(aBoth, .inl (cI, 4, .inl g14))]] ⟨by simp only [eF], by simp only [eF]⟩ rfl hQ
theorem k_X11_touches : kV yX11_touches cX11_touches 4 (some .boolean) 2 := ⟨t_972, t_13, t_67, t_973, by decide +kernel, by decide +kernel, by decide +kernel⟩
set_option maxRecDepth 20000 in
def F_X11_touches (fS : Nat → Int32) (letter : Int32) (crease : Int32) : Int32 := let r2 : Int32 := F_X11_its fS letter 5; let x6 : Int32 := (if crease = 0 then ((if (r2 &&& 1) = 1 then (1) else (0))) else ((if ((r2 >>> ((crease - 1) &&& 31)) &&& 3) = 0 then (0) else (1)))); x6
set_option maxRecDepth 20000 in
def P_X11_touches (letter : Int32) : Prop := (P_X11_its letter 5)
set_option maxRecDepth 20000 in
set_option maxHeartbeats 8000000 in
theorem m_X11_touches (l : Launch) (D : va_G) (cI cL cP cJ : ClassId) (o : Nat) (aS : Nat) (aPast : Nat) (aSnap : Nat) (aText : Nat) (aOne : Nat) (aTwo : Nat) (aBoth : Nat) (aWord : Nat) (aOpen : Nat) (aTimes : Nat) (aFar : Nat) (aQueue : Nat) (known : Int32) (kept : Int32) (len : Int32) (thr : Int32) (cre : Int32) (hash : Int64) (fS : Nat → Int32) (letter : Int32) (crease : Int32) (hp : P_X11_touches letter) : M vI l yX11_touches cX11_touches 4 (some .boolean) 1 22 D (tyF cI cL cP cJ) [.ref o, .int letter, .int crease] [[(o, .inr (9, [.ref aS, .ref aPast, .int known, .ref aSnap, .int kept, .ref aText, .int len, .int thr, .ref aOne, .ref aTwo, .ref aBoth, .ref aWord, .int cre, .ref aOpen, .ref aTimes, .ref aFar, .ref aQueue, .long hash]))], [(aS, .inl (cI, 335, .inl fS))]] (fun (r : Int32) (w1 : List va_W) => r = (F_X11_touches fS letter crease) ∧ w1 = [[(o, .inr (9, [.ref aS, .ref aPast, .int known, .ref aSnap, .int kept, .ref aText, .int len, .int thr, .ref aOne, .ref aTwo, .ref aBoth, .ref aWord, .int cre, .ref aOpen, .ref aTimes, .ref aFar, .ref aQueue, .long hash]))], [(aS, .inl (cI, 335, .inl fS))]]) := by
  unfold P_X11_touches at hp
  refine m_start (by decide +kernel) (Nat.le_of_ble_eq_true rfl) (fun p e s m args below meth c A Q hA hQ C hr hlo => ?_)
  refine r_Le (L' := [(0, .ref o), (1, .int letter), (2, .int crease)]) rfl ?_
  refine r_aload_n C dX11_touches_0 0 rfl ?_
  refine r_iload_n C dX11_touches_1 1 rfl ?_
  refine r_iconst (v := 5) C dX11_touches_2 (by decide) ?_
  have h1 := hp
  refine r_callV (ci := 9) (wc := [[(o, .inr (9, [.ref aS, .ref aPast, .int known, .ref aSnap, .int kept, .ref aText, .int len, .int thr, .ref aOne, .ref aTwo, .ref aBoth, .ref aWord, .int cre, .ref aOpen, .ref aTimes, .ref aFar, .ref aQueue, .long hash]))], [(aS, .inl (cI, 335, .inl fS))]]) (wr := []) (st := []) C (m_X11_its l D cI cL cP cJ o aS aPast aSnap aText aOne aTwo aBoth aWord aOpen aTimes aFar aQueue known kept len thr cre hash fS letter 5 h1) k_X11_its t_966 [0, 1] (show ([0, 1] : List Nat).Perm (List.range 2) by decide) rfl rfl rfl (q0 := 0) rfl rfl rfl (Nat.le_of_ble_eq_true rfl) ⟨Nat.le_of_ble_eq_true rfl, Nat.le_of_ble_eq_true rfl⟩ ⟨Nat.zero_le _, Nat.zero_le _⟩ dX11_touches_3 (fun r2 wr2 hw2 => ?_)
  obtain ⟨e_r2, rfl⟩ := hw2
  refine r_ws (I' := [[(o, .inr (9, [.ref aS, .ref aPast, .int known, .ref aSnap, .int kept, .ref aText, .int len, .int thr, .ref aOne, .ref aTwo, .ref aBoth, .ref aWord, .int cre, .ref aOpen, .ref aTimes, .ref aFar, .ref aQueue, .long hash]))], [(aS, .inl (cI, 335, .inl fS))]]) rfl ?_
  refine r_istore_n (L' := [(3, .int r2), (0, .ref o), (1, .int letter), (2, .int crease)]) C dX11_touches_6 (by decide) rfl ?_
  refine r_iload_n C dX11_touches_7 3 rfl ?_
  suffices K : ∀ x6 : Int32, x6 = ((if crease = 0 then ((if (r2 &&& 1) = 1 then (1) else (0))) else ((if ((r2 >>> ((crease - 1) &&& 31)) &&& 3) = 0 then (0) else (1))))) → V p l e (rmm 1 22) s m args below meth c 4 D A 0 0 Q [[(o, .inr (9, [.ref aS, .ref aPast, .int known, .ref aSnap, .int kept, .ref aText, .int len, .int thr, .ref aOne, .ref aTwo, .ref aBoth, .ref aWord, .int cre, .ref aOpen, .ref aTimes, .ref aFar, .ref aQueue, .long hash]))], [(aS, .inl (cI, 335, .inl fS))]] [(3, .int r2), (0, .ref o), (1, .int letter), (2, .int crease)] 41 [.int x6] by
    refine r_if_ne (tgt := 26) C dX11_touches_8 (by decide) (fun c3 => ?_) (fun c3 => ?_)
    · refine r_iload_n C dX11_touches_26 0 rfl ?_
      refine r_iload_n C dX11_touches_27 3 rfl ?_
      refine r_iconst (v := 1) C dX11_touches_28 (by decide) ?_
      refine r_isub C dX11_touches_29 rfl ?_
      refine r_ishr C dX11_touches_30 rfl ?_
      refine r_iconst (v := 3) C dX11_touches_31 (by decide) ?_
      refine r_iand C dX11_touches_32 rfl ?_
      refine r_if_eq (tgt := 40) C dX11_touches_33 (by decide) (fun c4 => ?_) (fun c4 => ?_)
      · refine r_iconst (v := 0) C dX11_touches_40 (by decide) ?_
        exact K _ (by simp only [if_neg c3, if_pos c4])
      · refine r_iconst (v := 1) C dX11_touches_36 (by decide) ?_
        refine r_goto (tgt := 41) C dX11_touches_37 (by decide) ?_
        exact K _ (by simp only [if_neg c3, if_neg c4])
    · refine r_iload_n C dX11_touches_11 0 rfl ?_
      refine r_iconst (v := 1) C dX11_touches_12 (by decide) ?_
      refine r_iand C dX11_touches_13 rfl ?_
      refine r_iconst (v := 1) C dX11_touches_14 (by decide) ?_
      refine r_icmp_ne (tgt := 22) C dX11_touches_15 (by decide) (fun c5 => ?_) (fun c5 => ?_)
      · refine r_iconst (v := 0) C dX11_touches_22 (by decide) ?_
        refine r_goto (tgt := 41) C dX11_touches_23 (by decide) ?_
        exact K _ (by simp only [if_pos c3, if_neg c5])
      · refine r_iconst (v := 1) C dX11_touches_18 (by decide) ?_
        refine r_goto (tgt := 41) C dX11_touches_19 (by decide) ?_
        exact K _ (by simp only [if_pos c3, if_pos c5])
  intro x6 e_x6
  have eF : F_X11_touches fS letter crease = x6 := by have q := e_r2.symm; subst q; have q := e_x6.symm; subst q; rfl
  exact r_zret (r := x6) C hA hr hlo (nb01 (by first | (rw [e_x6]; (try dsimp only); ((repeat' split) <;> (first | exact Or.inl rfl | exact Or.inr rfl))) | (have q := e_r2.symm; subst q; have q := e_x6.symm; subst q; (try dsimp only); ((repeat' split) <;> (first | exact Or.inl rfl | exact Or.inr rfl))))) dX11_touches_41 [[(o, .inr (9, [.ref aS, .ref aPast, .int known, .ref aSnap, .int kept, .ref aText, .int len, .int thr, .ref aOne, .ref aTwo, .ref aBoth, .ref aWord, .int cre, .ref aOpen, .ref aTimes, .ref aFar, .ref aQueue, .long hash]))], [(aS, .inl (cI, 335, .inl fS))]] ⟨by simp only [eF], rfl⟩ rfl hQ
theorem k_X11_reason : kV yX11_reason cX11_reason 3 (some .int) 2 := ⟨t_964, t_11, t_67, t_965, by decide +kernel, by decide +kernel, by decide +kernel⟩
set_option maxRecDepth 20000 in
def F_X11_reason (fS : Nat → Int32) (letter : Int32) (crease : Int32) : Int32 := let r2 : Int32 := F_X11_its fS letter 4; let x7 : Int32 := (if r2 = 60 then (1) else (let r5 : Int32 := F_X11_touches fS letter crease; (if r5 = 0 then (0) else (2)))); x7
set_option maxRecDepth 20000 in
def P_X11_reason (fS : Nat → Int32) (letter : Int32) : Prop := ((P_X11_its letter 4) ∧ (∀ r2 : Int32, r2 = F_X11_its fS letter 4 → ((r2 = 60 → True) ∧ (¬ r2 = 60 → (P_X11_touches letter)))))
set_option maxRecDepth 20000 in
set_option maxHeartbeats 8000000 in
theorem m_X11_reason (l : Launch) (D : va_G) (cI cL cP cJ : ClassId) (o : Nat) (aS : Nat) (aPast : Nat) (aSnap : Nat) (aText : Nat) (aOne : Nat) (aTwo : Nat) (aBoth : Nat) (aWord : Nat) (aOpen : Nat) (aTimes : Nat) (aFar : Nat) (aQueue : Nat) (known : Int32) (kept : Int32) (len : Int32) (thr : Int32) (cre : Int32) (hash : Int64) (fS : Nat → Int32) (letter : Int32) (crease : Int32) (hp : P_X11_reason fS letter) : M vI l yX11_reason cX11_reason 3 (some .int) 2 45 D (tyF cI cL cP cJ) [.ref o, .int letter, .int crease] [[(o, .inr (9, [.ref aS, .ref aPast, .int known, .ref aSnap, .int kept, .ref aText, .int len, .int thr, .ref aOne, .ref aTwo, .ref aBoth, .ref aWord, .int cre, .ref aOpen, .ref aTimes, .ref aFar, .ref aQueue, .long hash]))], [(aS, .inl (cI, 335, .inl fS))]] (fun (r : Int32) (w1 : List va_W) => r = (F_X11_reason fS letter crease) ∧ w1 = [[(o, .inr (9, [.ref aS, .ref aPast, .int known, .ref aSnap, .int kept, .ref aText, .int len, .int thr, .ref aOne, .ref aTwo, .ref aBoth, .ref aWord, .int cre, .ref aOpen, .ref aTimes, .ref aFar, .ref aQueue, .long hash]))], [(aS, .inl (cI, 335, .inl fS))]]) := by
  unfold P_X11_reason at hp
  refine m_start (by decide +kernel) (Nat.le_of_ble_eq_true rfl) (fun p e s m args below meth c A Q hA hQ C hr hlo => ?_)
  refine r_Le (L' := [(0, .ref o), (1, .int letter), (2, .int crease)]) rfl ?_
  refine r_aload_n C dX11_reason_0 0 rfl ?_
  refine r_iload_n C dX11_reason_1 1 rfl ?_
  refine r_iconst (v := 4) C dX11_reason_2 (by decide) ?_
  obtain ⟨h1, hp⟩ := hp
  refine r_callV (ci := 9) (wc := [[(o, .inr (9, [.ref aS, .ref aPast, .int known, .ref aSnap, .int kept, .ref aText, .int len, .int thr, .ref aOne, .ref aTwo, .ref aBoth, .ref aWord, .int cre, .ref aOpen, .ref aTimes, .ref aFar, .ref aQueue, .long hash]))], [(aS, .inl (cI, 335, .inl fS))]]) (wr := []) (st := []) C (m_X11_its l D cI cL cP cJ o aS aPast aSnap aText aOne aTwo aBoth aWord aOpen aTimes aFar aQueue known kept len thr cre hash fS letter 4 h1) k_X11_its t_966 [0, 1] (show ([0, 1] : List Nat).Perm (List.range 2) by decide) rfl rfl rfl (q0 := 0) rfl rfl rfl (Nat.le_of_ble_eq_true rfl) ⟨Nat.le_of_ble_eq_true rfl, Nat.le_of_ble_eq_true rfl⟩ ⟨Nat.zero_le _, Nat.zero_le _⟩ dX11_reason_3 (fun r2 wr2 hw2 => ?_)
  obtain ⟨e_r2, rfl⟩ := hw2
  have hp := hp r2 e_r2
  refine r_ws (I' := [[(o, .inr (9, [.ref aS, .ref aPast, .int known, .ref aSnap, .int kept, .ref aText, .int len, .int thr, .ref aOne, .ref aTwo, .ref aBoth, .ref aWord, .int cre, .ref aOpen, .ref aTimes, .ref aFar, .ref aQueue, .long hash]))], [(aS, .inl (cI, 335, .inl fS))]]) rfl ?_
  refine r_bipush (v := 60) C dX11_reason_6 (by decide) ?_
  have hps := hp
  suffices K : ∀ x7 : Int32, x7 = ((if r2 = 60 then (1) else (let r5 : Int32 := F_X11_touches fS letter crease; (if r5 = 0 then (0) else (2))))) → V p l e (rmm 2 45) s m args below meth c 3 D A 0 0 Q [[(o, .inr (9, [.ref aS, .ref aPast, .int known, .ref aSnap, .int kept, .ref aText, .int len, .int thr, .ref aOne, .ref aTwo, .ref aBoth, .ref aWord, .int cre, .ref aOpen, .ref aTimes, .ref aFar, .ref aQueue, .long hash]))], [(aS, .inl (cI, 335, .inl fS))]] [(0, .ref o), (1, .int letter), (2, .int crease)] 29 [.int x7] by
    have hp := hps
    refine r_icmp_ne (tgt := 15) C dX11_reason_8 (by decide) (fun c3 => ?_) (fun c3 => ?_)
    · have hp := hp.2 c3
      refine r_aload_n C dX11_reason_15 0 rfl ?_
      refine r_iload_n C dX11_reason_16 1 rfl ?_
      refine r_iload_n C dX11_reason_17 2 rfl ?_
      have h4 := hp
      refine r_callV (ci := 9) (wc := [[(o, .inr (9, [.ref aS, .ref aPast, .int known, .ref aSnap, .int kept, .ref aText, .int len, .int thr, .ref aOne, .ref aTwo, .ref aBoth, .ref aWord, .int cre, .ref aOpen, .ref aTimes, .ref aFar, .ref aQueue, .long hash]))], [(aS, .inl (cI, 335, .inl fS))]]) (wr := []) (st := []) C (m_X11_touches l D cI cL cP cJ o aS aPast aSnap aText aOne aTwo aBoth aWord aOpen aTimes aFar aQueue known kept len thr cre hash fS letter crease h4) k_X11_touches t_970 [0, 1] (show ([0, 1] : List Nat).Perm (List.range 2) by decide) rfl rfl rfl (q0 := 0) rfl rfl rfl (Nat.le_of_ble_eq_true rfl) ⟨Nat.le_of_ble_eq_true rfl, Nat.le_of_ble_eq_true rfl⟩ ⟨Nat.zero_le _, Nat.zero_le _⟩ dX11_reason_18 (fun r5 wr5 hw5 => ?_)
      obtain ⟨e_r5, rfl⟩ := hw5
      refine r_ws (I' := [[(o, .inr (9, [.ref aS, .ref aPast, .int known, .ref aSnap, .int kept, .ref aText, .int len, .int thr, .ref aOne, .ref aTwo, .ref aBoth, .ref aWord, .int cre, .ref aOpen, .ref aTimes, .ref aFar, .ref aQueue, .long hash]))], [(aS, .inl (cI, 335, .inl fS))]]) rfl ?_
      refine r_if_eq (tgt := 28) C dX11_reason_21 (by decide) (fun c6 => ?_) (fun c6 => ?_)
      · refine r_iconst (v := 0) C dX11_reason_28 (by decide) ?_
        exact K _ (by have q := e_r5.symm; subst q; simp only [if_neg c3, if_pos c6])
      · refine r_iconst (v := 2) C dX11_reason_24 (by decide) ?_
        refine r_goto (tgt := 29) C dX11_reason_25 (by decide) ?_
        exact K _ (by have q := e_r5.symm; subst q; simp only [if_neg c3, if_neg c6])
    · refine r_iconst (v := 1) C dX11_reason_11 (by decide) ?_
      refine r_goto (tgt := 29) C dX11_reason_12 (by decide) ?_
      exact K _ (by simp only [if_pos c3])
  intro x7 e_x7
  have eF : F_X11_reason fS letter crease = x7 := by have q := e_r2.symm; subst q; have q := e_x7.symm; subst q; rfl
  exact r_iret (r := x7) C hA hr hlo dX11_reason_29 [[(o, .inr (9, [.ref aS, .ref aPast, .int known, .ref aSnap, .int kept, .ref aText, .int len, .int thr, .ref aOne, .ref aTwo, .ref aBoth, .ref aWord, .int cre, .ref aOpen, .ref aTimes, .ref aFar, .ref aQueue, .long hash]))], [(aS, .inl (cI, 335, .inl fS))]] ⟨by simp only [eF], rfl⟩ rfl hQ
theorem k_X11_lays : kV yX11_lays cX11_lays 3 none 1 := ⟨t_1000, t_20, t_67, t_1001, by decide +kernel, by decide +kernel, by decide +kernel⟩
set_option maxRecDepth 20000 in
def F_X11_lays (fS : Nat → Int32) (fOne : Nat → Int32) (letter : Int32) : (Nat → Int32) := let x1 : Int32 := fOne 0; let g3 : Nat → Int32 := upd fS ((((67 : Int32) * letter) + 0).toNatClampNeg) x1; let x4 : Int32 := fOne 1; let g6 : Nat → Int32 := upd g3 ((((67 : Int32) * letter) + 1).toNatClampNeg) x4; let x7 : Int32 := fOne 2; let g9 : Nat → Int32 := upd g6 ((((67 : Int32) * letter) + 2).toNatClampNeg) x7; let x10 : Int32 := fOne 3; let g12 : Nat → Int32 := upd g9 ((((67 : Int32) * letter) + 3).toNatClampNeg) x10; g12
set_option maxRecDepth 20000 in
def P_X11_lays (fS : Nat → Int32) (fOne : Nat → Int32) (letter : Int32) : Prop := (∀ x1 : Int32, x1 = fOne 0 → ((vp_in (((67 : Int32) * letter) + 0) 335) ∧ (∀ g3 : Nat → Int32, g3 = upd fS ((((67 : Int32) * letter) + 0).toNatClampNeg) x1 → (∀ x4 : Int32, x4 = fOne 1 → ((vp_in (((67 : Int32) * letter) + 1) 335) ∧ (∀ g6 : Nat → Int32, g6 = upd g3 ((((67 : Int32) * letter) + 1).toNatClampNeg) x4 → (∀ x7 : Int32, x7 = fOne 2 → ((vp_in (((67 : Int32) * letter) + 2) 335) ∧ (∀ g9 : Nat → Int32, g9 = upd g6 ((((67 : Int32) * letter) + 2).toNatClampNeg) x7 → (∀ x10 : Int32, x10 = fOne 3 → (vp_in (((67 : Int32) * letter) + 3) 335)))))))))))
set_option maxRecDepth 20000 in
set_option maxHeartbeats 8000000 in
theorem m_X11_lays (l : Launch) (D : va_G) (cI cL cP cJ : ClassId) (o : Nat) (aS : Nat) (aPast : Nat) (aSnap : Nat) (aText : Nat) (aOne : Nat) (aTwo : Nat) (aBoth : Nat) (aWord : Nat) (aOpen : Nat) (aTimes : Nat) (aFar : Nat) (aQueue : Nat) (known : Int32) (kept : Int32) (len : Int32) (thr : Int32) (cre : Int32) (hash : Int64) (fS : Nat → Int32) (fOne : Nat → Int32) (letter : Int32) (hp : P_X11_lays fS fOne letter) : M vV l yX11_lays cX11_lays 3 none 0 0 D (tyF cI cL cP cJ) [.ref o, .int letter] [[(o, .inr (9, [.ref aS, .ref aPast, .int known, .ref aSnap, .int kept, .ref aText, .int len, .int thr, .ref aOne, .ref aTwo, .ref aBoth, .ref aWord, .int cre, .ref aOpen, .ref aTimes, .ref aFar, .ref aQueue, .long hash]))], [(aS, .inl (cI, 335, .inl fS))], [(aOne, .inl (cI, 4, .inl fOne))]] (fun (r : Unit) (w1 : List va_W) => w1 = [[(o, .inr (9, [.ref aS, .ref aPast, .int known, .ref aSnap, .int kept, .ref aText, .int len, .int thr, .ref aOne, .ref aTwo, .ref aBoth, .ref aWord, .int cre, .ref aOpen, .ref aTimes, .ref aFar, .ref aQueue, .long hash]))], [(aS, .inl (cI, 335, .inl (F_X11_lays fS fOne letter)))], [(aOne, .inl (cI, 4, .inl fOne))]]) := by
  unfold P_X11_lays at hp
  refine m_start (by decide +kernel) (Nat.le_of_ble_eq_true rfl) (fun p e s m args below meth c A Q hA hQ C hr hlo => ?_)
  refine r_Le (L' := [(0, .ref o), (1, .int letter)]) rfl ?_
  refine r_iconst (v := 0) C dX11_lays_0 (by decide) ?_
  refine r_istore_n (L' := [(2, .int 0), (0, .ref o), (1, .int letter)]) C dX11_lays_1 (by decide) rfl ?_
  refine r_iload_n C dX11_lays_2 0 rfl ?_
  refine r_iconst (v := 4) C dX11_lays_3 (by decide) ?_
  refine r_icmp_ge (tgt := 30) C dX11_lays_4 (by decide) (fun c => absurd c (by decide)) (fun _ => ?_)
  refine r_aload_n C dX11_lays_7 1 rfl ?_
  refine r_get (Cn := RX11) (T := TX11) (N := 18) C inT11 0 rfl rfl 0 (by decide) t_893 rfl dX11_lays_8 ?_
  refine r_bipush (v := 67) C dX11_lays_11 (by decide) ?_
  refine r_iload_n C dX11_lays_13 2 rfl ?_
  refine r_imul C dX11_lays_14 rfl ?_
  refine r_iload_n C dX11_lays_15 0 rfl ?_
  refine r_iadd C dX11_lays_16 rfl ?_
  refine r_aload_n C dX11_lays_17 1 rfl ?_
  refine r_get (Cn := RX11) (T := TX11) (N := 18) C inT11 0 rfl rfl 8 (by decide) t_901 rfl dX11_lays_18 ?_
  refine r_iload_n C dX11_lays_21 0 rfl ?_
  refine r_iald (z := fOne 0) C 2 0 rfl rfl (vp_in_nI (n := 0) (N := 4) (by decide) (by decide)) dX11_lays_22 (congrArg (fOne) (by decide)) ?_
  refine r_top (fun x1 e_x1 => ?_)
  have hp := hp x1 e_x1
  obtain ⟨h2, hp⟩ := hp
  obtain ⟨g3, e_g3⟩ : ∃ z : Nat → Int32, z = upd fS ((((67 : Int32) * letter) + 0).toNatClampNeg) x1 := ⟨_, rfl⟩
  have hp := hp g3 e_g3
  refine r_iast C 1 0 rfl rfl h2 (I' := [[(o, .inr (9, [.ref aS, .ref aPast, .int known, .ref aSnap, .int kept, .ref aText, .int len, .int thr, .ref aOne, .ref aTwo, .ref aBoth, .ref aWord, .int cre, .ref aOpen, .ref aTimes, .ref aFar, .ref aQueue, .long hash]))], [(aS, .inl (cI, 335, .inl g3))], [(aOne, .inl (cI, 4, .inl fOne))]]) (by rw [e_g3]; rfl) dX11_lays_23 ?_
  refine r_iinc (v := 1) (L' := [(2, .int 1), (0, .ref o), (1, .int letter)]) C dX11_lays_24 0 rfl (by decide) (by decide) rfl ?_
  refine r_goto (tgt := 2) C dX11_lays_27 (by decide) ?_
  refine r_iload_n C dX11_lays_2 0 rfl ?_
  refine r_iconst (v := 4) C dX11_lays_3 (by decide) ?_
  refine r_icmp_ge (tgt := 30) C dX11_lays_4 (by decide) (fun c => absurd c (by decide)) (fun _ => ?_)
  refine r_aload_n C dX11_lays_7 1 rfl ?_
  refine r_get (Cn := RX11) (T := TX11) (N := 18) C inT11 0 rfl rfl 0 (by decide) t_893 rfl dX11_lays_8 ?_
  refine r_bipush (v := 67) C dX11_lays_11 (by decide) ?_
  refine r_iload_n C dX11_lays_13 2 rfl ?_
  refine r_imul C dX11_lays_14 rfl ?_
  refine r_iload_n C dX11_lays_15 0 rfl ?_
  refine r_iadd C dX11_lays_16 rfl ?_
  refine r_aload_n C dX11_lays_17 1 rfl ?_
  refine r_get (Cn := RX11) (T := TX11) (N := 18) C inT11 0 rfl rfl 8 (by decide) t_901 rfl dX11_lays_18 ?_
  refine r_iload_n C dX11_lays_21 0 rfl ?_
  refine r_iald (z := fOne 1) C 2 0 rfl rfl (vp_in_nI (n := 1) (N := 4) (by decide) (by decide)) dX11_lays_22 (congrArg (fOne) (by decide)) ?_
  refine r_top (fun x4 e_x4 => ?_)
  have hp := hp x4 e_x4
  obtain ⟨h5, hp⟩ := hp
  obtain ⟨g6, e_g6⟩ : ∃ z : Nat → Int32, z = upd g3 ((((67 : Int32) * letter) + 1).toNatClampNeg) x4 := ⟨_, rfl⟩
  have hp := hp g6 e_g6
  refine r_iast C 1 0 rfl rfl h5 (I' := [[(o, .inr (9, [.ref aS, .ref aPast, .int known, .ref aSnap, .int kept, .ref aText, .int len, .int thr, .ref aOne, .ref aTwo, .ref aBoth, .ref aWord, .int cre, .ref aOpen, .ref aTimes, .ref aFar, .ref aQueue, .long hash]))], [(aS, .inl (cI, 335, .inl g6))], [(aOne, .inl (cI, 4, .inl fOne))]]) (by rw [e_g6]; rfl) dX11_lays_23 ?_
  refine r_iinc (v := 2) (L' := [(2, .int 2), (0, .ref o), (1, .int letter)]) C dX11_lays_24 0 rfl (by decide) (by decide) rfl ?_
  refine r_goto (tgt := 2) C dX11_lays_27 (by decide) ?_
  refine r_iload_n C dX11_lays_2 0 rfl ?_
  refine r_iconst (v := 4) C dX11_lays_3 (by decide) ?_
  refine r_icmp_ge (tgt := 30) C dX11_lays_4 (by decide) (fun c => absurd c (by decide)) (fun _ => ?_)
  refine r_aload_n C dX11_lays_7 1 rfl ?_
  refine r_get (Cn := RX11) (T := TX11) (N := 18) C inT11 0 rfl rfl 0 (by decide) t_893 rfl dX11_lays_8 ?_
  refine r_bipush (v := 67) C dX11_lays_11 (by decide) ?_
  refine r_iload_n C dX11_lays_13 2 rfl ?_
  refine r_imul C dX11_lays_14 rfl ?_
  refine r_iload_n C dX11_lays_15 0 rfl ?_
  refine r_iadd C dX11_lays_16 rfl ?_
  refine r_aload_n C dX11_lays_17 1 rfl ?_
  refine r_get (Cn := RX11) (T := TX11) (N := 18) C inT11 0 rfl rfl 8 (by decide) t_901 rfl dX11_lays_18 ?_
  refine r_iload_n C dX11_lays_21 0 rfl ?_
  refine r_iald (z := fOne 2) C 2 0 rfl rfl (vp_in_nI (n := 2) (N := 4) (by decide) (by decide)) dX11_lays_22 (congrArg (fOne) (by decide)) ?_
  refine r_top (fun x7 e_x7 => ?_)
  have hp := hp x7 e_x7
  obtain ⟨h8, hp⟩ := hp
  obtain ⟨g9, e_g9⟩ : ∃ z : Nat → Int32, z = upd g6 ((((67 : Int32) * letter) + 2).toNatClampNeg) x7 := ⟨_, rfl⟩
  have hp := hp g9 e_g9
  refine r_iast C 1 0 rfl rfl h8 (I' := [[(o, .inr (9, [.ref aS, .ref aPast, .int known, .ref aSnap, .int kept, .ref aText, .int len, .int thr, .ref aOne, .ref aTwo, .ref aBoth, .ref aWord, .int cre, .ref aOpen, .ref aTimes, .ref aFar, .ref aQueue, .long hash]))], [(aS, .inl (cI, 335, .inl g9))], [(aOne, .inl (cI, 4, .inl fOne))]]) (by rw [e_g9]; rfl) dX11_lays_23 ?_
  refine r_iinc (v := 3) (L' := [(2, .int 3), (0, .ref o), (1, .int letter)]) C dX11_lays_24 0 rfl (by decide) (by decide) rfl ?_
  refine r_goto (tgt := 2) C dX11_lays_27 (by decide) ?_
  refine r_iload_n C dX11_lays_2 0 rfl ?_
  refine r_iconst (v := 4) C dX11_lays_3 (by decide) ?_
  refine r_icmp_ge (tgt := 30) C dX11_lays_4 (by decide) (fun c => absurd c (by decide)) (fun _ => ?_)
  refine r_aload_n C dX11_lays_7 1 rfl ?_
  refine r_get (Cn := RX11) (T := TX11) (N := 18) C inT11 0 rfl rfl 0 (by decide) t_893 rfl dX11_lays_8 ?_
  refine r_bipush (v := 67) C dX11_lays_11 (by decide) ?_
  refine r_iload_n C dX11_lays_13 2 rfl ?_
  refine r_imul C dX11_lays_14 rfl ?_
  refine r_iload_n C dX11_lays_15 0 rfl ?_
  refine r_iadd C dX11_lays_16 rfl ?_
  refine r_aload_n C dX11_lays_17 1 rfl ?_
  refine r_get (Cn := RX11) (T := TX11) (N := 18) C inT11 0 rfl rfl 8 (by decide) t_901 rfl dX11_lays_18 ?_
  refine r_iload_n C dX11_lays_21 0 rfl ?_
  refine r_iald (z := fOne 3) C 2 0 rfl rfl (vp_in_nI (n := 3) (N := 4) (by decide) (by decide)) dX11_lays_22 (congrArg (fOne) (by decide)) ?_
  refine r_top (fun x10 e_x10 => ?_)
  have hp := hp x10 e_x10
  have h11 := hp
  obtain ⟨g12, e_g12⟩ : ∃ z : Nat → Int32, z = upd g9 ((((67 : Int32) * letter) + 3).toNatClampNeg) x10 := ⟨_, rfl⟩
  refine r_iast C 1 0 rfl rfl h11 (I' := [[(o, .inr (9, [.ref aS, .ref aPast, .int known, .ref aSnap, .int kept, .ref aText, .int len, .int thr, .ref aOne, .ref aTwo, .ref aBoth, .ref aWord, .int cre, .ref aOpen, .ref aTimes, .ref aFar, .ref aQueue, .long hash]))], [(aS, .inl (cI, 335, .inl g12))], [(aOne, .inl (cI, 4, .inl fOne))]]) (by rw [e_g12]; rfl) dX11_lays_23 ?_
  refine r_iinc (v := 4) (L' := [(2, .int 4), (0, .ref o), (1, .int letter)]) C dX11_lays_24 0 rfl (by decide) (by decide) rfl ?_
  refine r_goto (tgt := 2) C dX11_lays_27 (by decide) ?_
  refine r_iload_n C dX11_lays_2 0 rfl ?_
  refine r_iconst (v := 4) C dX11_lays_3 (by decide) ?_
  refine r_icmp_ge (tgt := 30) C dX11_lays_4 (by decide) (fun _ => ?_) (fun c => absurd c (by decide))
  have eF : F_X11_lays fS fOne letter = g12 := by have q := e_x1.symm; subst q; have q := e_g3.symm; subst q; have q := e_x4.symm; subst q; have q := e_g6.symm; subst q; have q := e_x7.symm; subst q; have q := e_g9.symm; subst q; have q := e_x10.symm; subst q; have q := e_g12.symm; subst q; rfl
  exact r_vret (r := ()) C hA hr hlo dX11_lays_30 [[(o, .inr (9, [.ref aS, .ref aPast, .int known, .ref aSnap, .int kept, .ref aText, .int len, .int thr, .ref aOne, .ref aTwo, .ref aBoth, .ref aWord, .int cre, .ref aOpen, .ref aTimes, .ref aFar, .ref aQueue, .long hash]))], [(aS, .inl (cI, 335, .inl g12))], [(aOne, .inl (cI, 4, .inl fOne))]] (by simp only [eF]) rfl hQ
theorem k_X11_turnsOver : kV yX11_turnsOver cX11_turnsOver 3 none 2 := ⟨t_988, t_17, t_67, t_989, by decide +kernel, by decide +kernel, by decide +kernel⟩
set_option maxRecDepth 20000 in
def F_X11_turnsOver (fS : Nat → Int32) (fOne : Nat → Int32) (letter : Int32) (crease : Int32) : (Nat → Int32) × (Nat → Int32) := let g3 : Nat → Int32 := F_X11_takes fS fOne letter; let g6 : Nat → Int32 := F_X11_foldsOne g3 crease; let g9 : Nat → Int32 := F_X11_lays fS g6 letter; let x11 : Int32 := (g9 (((67 : Int32) * letter) + 6).toNatClampNeg) + 1; let g13 : Nat → Int32 := upd g9 ((((67 : Int32) * letter) + 6).toNatClampNeg) x11; (g13, g6)
set_option maxRecDepth 20000 in
def P_X11_turnsOver (fS : Nat → Int32) (fOne : Nat → Int32) (letter : Int32) (crease : Int32) : Prop := ((P_X11_takes fS fOne letter) ∧ (∀ g3 : Nat → Int32, g3 = F_X11_takes fS fOne letter → ((P_X11_foldsOne g3 crease) ∧ (∀ g6 : Nat → Int32, g6 = F_X11_foldsOne g3 crease → ((P_X11_lays fS g6 letter) ∧ (∀ g9 : Nat → Int32, g9 = F_X11_lays fS g6 letter → ((vp_in (((67 : Int32) * letter) + 6) 335) ∧ (∀ x11 : Int32, x11 = (g9 (((67 : Int32) * letter) + 6).toNatClampNeg) + 1 → (vp_in (((67 : Int32) * letter) + 6) 335)))))))))
set_option maxRecDepth 20000 in
set_option maxHeartbeats 8000000 in
theorem m_X11_turnsOver (l : Launch) (D : va_G) (cI cL cP cJ : ClassId) (o : Nat) (aS : Nat) (aPast : Nat) (aSnap : Nat) (aText : Nat) (aOne : Nat) (aTwo : Nat) (aBoth : Nat) (aWord : Nat) (aOpen : Nat) (aTimes : Nat) (aFar : Nat) (aQueue : Nat) (known : Int32) (kept : Int32) (len : Int32) (thr : Int32) (cre : Int32) (hash : Int64) (fS : Nat → Int32) (fOne : Nat → Int32) (letter : Int32) (crease : Int32) (hp : P_X11_turnsOver fS fOne letter crease) : M vV l yX11_turnsOver cX11_turnsOver 3 none 2 44 D (tyF cI cL cP cJ) [.ref o, .int letter, .int crease] [[(o, .inr (9, [.ref aS, .ref aPast, .int known, .ref aSnap, .int kept, .ref aText, .int len, .int thr, .ref aOne, .ref aTwo, .ref aBoth, .ref aWord, .int cre, .ref aOpen, .ref aTimes, .ref aFar, .ref aQueue, .long hash]))], [(aS, .inl (cI, 335, .inl fS))], [(aOne, .inl (cI, 4, .inl fOne))]] (fun (r : Unit) (w1 : List va_W) => w1 = [[(o, .inr (9, [.ref aS, .ref aPast, .int known, .ref aSnap, .int kept, .ref aText, .int len, .int thr, .ref aOne, .ref aTwo, .ref aBoth, .ref aWord, .int cre, .ref aOpen, .ref aTimes, .ref aFar, .ref aQueue, .long hash]))], [(aS, .inl (cI, 335, .inl ((F_X11_turnsOver fS fOne letter crease).1)))], [(aOne, .inl (cI, 4, .inl ((F_X11_turnsOver fS fOne letter crease).2)))]]) := by
  unfold P_X11_turnsOver at hp
  refine m_start (by decide +kernel) (Nat.le_of_ble_eq_true rfl) (fun p e s m args below meth c A Q hA hQ C hr hlo => ?_)
  refine r_Le (L' := [(0, .ref o), (1, .int letter), (2, .int crease)]) rfl ?_
  refine r_aload_n C dX11_turnsOver_0 0 rfl ?_
  refine r_iload_n C dX11_turnsOver_1 1 rfl ?_
  obtain ⟨h1, hp⟩ := hp
  refine r_callV (ci := 9) (wc := [[(o, .inr (9, [.ref aS, .ref aPast, .int known, .ref aSnap, .int kept, .ref aText, .int len, .int thr, .ref aOne, .ref aTwo, .ref aBoth, .ref aWord, .int cre, .ref aOpen, .ref aTimes, .ref aFar, .ref aQueue, .long hash]))], [(aS, .inl (cI, 335, .inl fS))], [(aOne, .inl (cI, 4, .inl fOne))]]) (wr := []) (st := []) C (m_X11_takes l D cI cL cP cJ o aS aPast aSnap aText aOne aTwo aBoth aWord aOpen aTimes aFar aQueue known kept len thr cre hash fS fOne letter h1) k_X11_takes t_990 [0, 1, 2] (show ([0, 1, 2] : List Nat).Perm (List.range 3) by decide) rfl rfl rfl (q0 := 0) rfl rfl rfl (Nat.le_of_ble_eq_true rfl) ⟨Nat.le_of_ble_eq_true rfl, Nat.le_of_ble_eq_true rfl⟩ ⟨Nat.zero_le _, Nat.zero_le _⟩ dX11_turnsOver_2 (fun r2 wr2 hw2 => ?_)
  obtain rfl := hw2
  obtain ⟨g3, e_g3⟩ : ∃ z : Nat → Int32, z = F_X11_takes fS fOne letter := ⟨_, rfl⟩
  have hp := hp g3 e_g3
  refine r_ws (I' := [[(o, .inr (9, [.ref aS, .ref aPast, .int known, .ref aSnap, .int kept, .ref aText, .int len, .int thr, .ref aOne, .ref aTwo, .ref aBoth, .ref aWord, .int cre, .ref aOpen, .ref aTimes, .ref aFar, .ref aQueue, .long hash]))], [(aS, .inl (cI, 335, .inl fS))], [(aOne, .inl (cI, 4, .inl g3))]]) (by rw [e_g3]; rfl) ?_
  refine r_aload_n C dX11_turnsOver_5 0 rfl ?_
  refine r_iload_n C dX11_turnsOver_6 2 rfl ?_
  obtain ⟨h4, hp⟩ := hp
  refine r_callV (ci := 9) (wc := [[(o, .inr (9, [.ref aS, .ref aPast, .int known, .ref aSnap, .int kept, .ref aText, .int len, .int thr, .ref aOne, .ref aTwo, .ref aBoth, .ref aWord, .int cre, .ref aOpen, .ref aTimes, .ref aFar, .ref aQueue, .long hash]))], [(aOne, .inl (cI, 4, .inl g3))]]) (wr := [[(aS, .inl (cI, 335, .inl fS))]]) (st := []) C (m_X11_foldsOne l D cI cL cP cJ o aS aPast aSnap aText aOne aTwo aBoth aWord aOpen aTimes aFar aQueue known kept len thr cre hash g3 crease h4) k_X11_foldsOne t_994 [0, 2, 1] (show ([0, 2, 1] : List Nat).Perm (List.range 3) by decide) rfl rfl rfl (q0 := 0) rfl rfl rfl (Nat.le_of_ble_eq_true rfl) ⟨Nat.le_of_ble_eq_true rfl, Nat.le_of_ble_eq_true rfl⟩ ⟨Nat.zero_le _, Nat.zero_le _⟩ dX11_turnsOver_7 (fun r5 wr5 hw5 => ?_)
  obtain rfl := hw5
  obtain ⟨g6, e_g6⟩ : ∃ z : Nat → Int32, z = F_X11_foldsOne g3 crease := ⟨_, rfl⟩
  have hp := hp g6 e_g6
  refine r_ws (I' := [[(o, .inr (9, [.ref aS, .ref aPast, .int known, .ref aSnap, .int kept, .ref aText, .int len, .int thr, .ref aOne, .ref aTwo, .ref aBoth, .ref aWord, .int cre, .ref aOpen, .ref aTimes, .ref aFar, .ref aQueue, .long hash]))], [(aOne, .inl (cI, 4, .inl g6))], [(aS, .inl (cI, 335, .inl fS))]]) (by rw [e_g6]; rfl) ?_
  refine r_aload_n C dX11_turnsOver_10 0 rfl ?_
  refine r_iload_n C dX11_turnsOver_11 1 rfl ?_
  obtain ⟨h7, hp⟩ := hp
  refine r_callV (ci := 9) (wc := [[(o, .inr (9, [.ref aS, .ref aPast, .int known, .ref aSnap, .int kept, .ref aText, .int len, .int thr, .ref aOne, .ref aTwo, .ref aBoth, .ref aWord, .int cre, .ref aOpen, .ref aTimes, .ref aFar, .ref aQueue, .long hash]))], [(aS, .inl (cI, 335, .inl fS))], [(aOne, .inl (cI, 4, .inl g6))]]) (wr := []) (st := []) C (m_X11_lays l D cI cL cP cJ o aS aPast aSnap aText aOne aTwo aBoth aWord aOpen aTimes aFar aQueue known kept len thr cre hash fS g6 letter h7) k_X11_lays t_998 [0, 2, 1] (show ([0, 2, 1] : List Nat).Perm (List.range 3) by decide) rfl rfl rfl (q0 := 0) rfl rfl rfl (Nat.le_of_ble_eq_true rfl) ⟨Nat.le_of_ble_eq_true rfl, Nat.le_of_ble_eq_true rfl⟩ ⟨Nat.zero_le _, Nat.zero_le _⟩ dX11_turnsOver_12 (fun r8 wr8 hw8 => ?_)
  obtain rfl := hw8
  obtain ⟨g9, e_g9⟩ : ∃ z : Nat → Int32, z = F_X11_lays fS g6 letter := ⟨_, rfl⟩
  have hp := hp g9 e_g9
  refine r_ws (I' := [[(o, .inr (9, [.ref aS, .ref aPast, .int known, .ref aSnap, .int kept, .ref aText, .int len, .int thr, .ref aOne, .ref aTwo, .ref aBoth, .ref aWord, .int cre, .ref aOpen, .ref aTimes, .ref aFar, .ref aQueue, .long hash]))], [(aS, .inl (cI, 335, .inl g9))], [(aOne, .inl (cI, 4, .inl g6))]]) (by rw [e_g9]; rfl) ?_
  refine r_aload_n C dX11_turnsOver_15 0 rfl ?_
  refine r_get (Cn := RX11) (T := TX11) (N := 18) C inT11 0 rfl rfl 0 (by decide) t_893 rfl dX11_turnsOver_16 ?_
  refine r_bipush (v := 67) C dX11_turnsOver_19 (by decide) ?_
  refine r_iload_n C dX11_turnsOver_21 1 rfl ?_
  refine r_imul C dX11_turnsOver_22 rfl ?_
  refine r_bipush (v := 6) C dX11_turnsOver_23 (by decide) ?_
  refine r_iadd C dX11_turnsOver_25 rfl ?_
  refine r_dup2_11 C dX11_turnsOver_26 rfl rfl ?_
  obtain ⟨h10, hp⟩ := hp
  refine r_iald (z := g9 (((67 : Int32) * letter) + 6).toNatClampNeg) C 1 0 rfl rfl h10 dX11_turnsOver_27 rfl ?_
  refine r_iconst (v := 1) C dX11_turnsOver_28 (by decide) ?_
  refine r_iadd C dX11_turnsOver_29 rfl ?_
  refine r_top (fun x11 e_x11 => ?_)
  have hp := hp x11 e_x11
  have h12 := hp
  obtain ⟨g13, e_g13⟩ : ∃ z : Nat → Int32, z = upd g9 ((((67 : Int32) * letter) + 6).toNatClampNeg) x11 := ⟨_, rfl⟩
  refine r_iast C 1 0 rfl rfl h12 (I' := [[(o, .inr (9, [.ref aS, .ref aPast, .int known, .ref aSnap, .int kept, .ref aText, .int len, .int thr, .ref aOne, .ref aTwo, .ref aBoth, .ref aWord, .int cre, .ref aOpen, .ref aTimes, .ref aFar, .ref aQueue, .long hash]))], [(aS, .inl (cI, 335, .inl g13))], [(aOne, .inl (cI, 4, .inl g6))]]) (by rw [e_g13]; rfl) dX11_turnsOver_30 ?_
  have eF : F_X11_turnsOver fS fOne letter crease = (g13, g6) := by have q := e_g3.symm; subst q; have q := e_g6.symm; subst q; have q := e_g9.symm; subst q; have q := e_x11.symm; subst q; have q := e_g13.symm; subst q; rfl
  exact r_vret (r := ()) C hA hr hlo dX11_turnsOver_31 [[(o, .inr (9, [.ref aS, .ref aPast, .int known, .ref aSnap, .int kept, .ref aText, .int len, .int thr, .ref aOne, .ref aTwo, .ref aBoth, .ref aWord, .int cre, .ref aOpen, .ref aTimes, .ref aFar, .ref aQueue, .long hash]))], [(aS, .inl (cI, 335, .inl g13))], [(aOne, .inl (cI, 4, .inl g6))]] (by simp only [eF]) rfl hQ
theorem k_X11_folds : kV yX11_folds cX11_folds 3 none 2 := ⟨t_984, t_16, t_67, t_985, by decide +kernel, by decide +kernel, by decide +kernel⟩
set_option maxRecDepth 20000 in
def F_X11_folds (fS : Nat → Int32) (fOne : Nat → Int32) (letter : Int32) (crease : Int32) : (Nat → Int32) × (Nat → Int32) := let g3 : Nat → Int32 := (F_X11_turnsOver fS fOne letter crease).1; let g4 : Nat → Int32 := (F_X11_turnsOver fS fOne letter crease).2; let r6 : Int32 := F_X11_its g3 letter 4; let g8 : Nat → Int32 := upd g3 (((((67 : Int32) * letter) + 7) + r6).toNatClampNeg) crease; let x10 : Int32 := (g8 (((67 : Int32) * letter) + 4).toNatClampNeg) + 1; let g12 : Nat → Int32 := upd g8 ((((67 : Int32) * letter) + 4).toNatClampNeg) x10; (g12, g4)
set_option maxRecDepth 20000 in
def P_X11_folds (fS : Nat → Int32) (fOne : Nat → Int32) (letter : Int32) (crease : Int32) : Prop := ((P_X11_turnsOver fS fOne letter crease) ∧ (∀ g3 : Nat → Int32, g3 = (F_X11_turnsOver fS fOne letter crease).1 → (∀ g4 : Nat → Int32, g4 = (F_X11_turnsOver fS fOne letter crease).2 → ((P_X11_its letter 4) ∧ (∀ r6 : Int32, r6 = F_X11_its g3 letter 4 → ((vp_in ((((67 : Int32) * letter) + 7) + r6) 335) ∧ (∀ g8 : Nat → Int32, g8 = upd g3 (((((67 : Int32) * letter) + 7) + r6).toNatClampNeg) crease → ((vp_in (((67 : Int32) * letter) + 4) 335) ∧ (∀ x10 : Int32, x10 = (g8 (((67 : Int32) * letter) + 4).toNatClampNeg) + 1 → (vp_in (((67 : Int32) * letter) + 4) 335))))))))))
set_option maxRecDepth 20000 in
set_option maxHeartbeats 8000000 in
theorem m_X11_folds (l : Launch) (D : va_G) (cI cL cP cJ : ClassId) (o : Nat) (aS : Nat) (aPast : Nat) (aSnap : Nat) (aText : Nat) (aOne : Nat) (aTwo : Nat) (aBoth : Nat) (aWord : Nat) (aOpen : Nat) (aTimes : Nat) (aFar : Nat) (aQueue : Nat) (known : Int32) (kept : Int32) (len : Int32) (thr : Int32) (cre : Int32) (hash : Int64) (fS : Nat → Int32) (fOne : Nat → Int32) (letter : Int32) (crease : Int32) (hp : P_X11_folds fS fOne letter crease) : M vV l yX11_folds cX11_folds 3 none 3 66 D (tyF cI cL cP cJ) [.ref o, .int letter, .int crease] [[(o, .inr (9, [.ref aS, .ref aPast, .int known, .ref aSnap, .int kept, .ref aText, .int len, .int thr, .ref aOne, .ref aTwo, .ref aBoth, .ref aWord, .int cre, .ref aOpen, .ref aTimes, .ref aFar, .ref aQueue, .long hash]))], [(aS, .inl (cI, 335, .inl fS))], [(aOne, .inl (cI, 4, .inl fOne))]] (fun (r : Unit) (w1 : List va_W) => w1 = [[(o, .inr (9, [.ref aS, .ref aPast, .int known, .ref aSnap, .int kept, .ref aText, .int len, .int thr, .ref aOne, .ref aTwo, .ref aBoth, .ref aWord, .int cre, .ref aOpen, .ref aTimes, .ref aFar, .ref aQueue, .long hash]))], [(aS, .inl (cI, 335, .inl ((F_X11_folds fS fOne letter crease).1)))], [(aOne, .inl (cI, 4, .inl ((F_X11_folds fS fOne letter crease).2)))]]) := by
  unfold P_X11_folds at hp
  refine m_start (by decide +kernel) (Nat.le_of_ble_eq_true rfl) (fun p e s m args below meth c A Q hA hQ C hr hlo => ?_)
  refine r_Le (L' := [(0, .ref o), (1, .int letter), (2, .int crease)]) rfl ?_
  refine r_aload_n C dX11_folds_0 0 rfl ?_
  refine r_iload_n C dX11_folds_1 1 rfl ?_
  refine r_iload_n C dX11_folds_2 2 rfl ?_
  obtain ⟨h1, hp⟩ := hp
  refine r_callV (ci := 9) (wc := [[(o, .inr (9, [.ref aS, .ref aPast, .int known, .ref aSnap, .int kept, .ref aText, .int len, .int thr, .ref aOne, .ref aTwo, .ref aBoth, .ref aWord, .int cre, .ref aOpen, .ref aTimes, .ref aFar, .ref aQueue, .long hash]))], [(aS, .inl (cI, 335, .inl fS))], [(aOne, .inl (cI, 4, .inl fOne))]]) (wr := []) (st := []) C (m_X11_turnsOver l D cI cL cP cJ o aS aPast aSnap aText aOne aTwo aBoth aWord aOpen aTimes aFar aQueue known kept len thr cre hash fS fOne letter crease h1) k_X11_turnsOver t_986 [0, 1, 2] (show ([0, 1, 2] : List Nat).Perm (List.range 3) by decide) rfl rfl rfl (q0 := 0) rfl rfl rfl (Nat.le_of_ble_eq_true rfl) ⟨Nat.le_of_ble_eq_true rfl, Nat.le_of_ble_eq_true rfl⟩ ⟨Nat.zero_le _, Nat.zero_le _⟩ dX11_folds_3 (fun r2 wr2 hw2 => ?_)
  obtain rfl := hw2
  obtain ⟨g3, e_g3⟩ : ∃ z : Nat → Int32, z = (F_X11_turnsOver fS fOne letter crease).1 := ⟨_, rfl⟩
  have hp := hp g3 e_g3
  obtain ⟨g4, e_g4⟩ : ∃ z : Nat → Int32, z = (F_X11_turnsOver fS fOne letter crease).2 := ⟨_, rfl⟩
  have hp := hp g4 e_g4
  refine r_ws (I' := [[(o, .inr (9, [.ref aS, .ref aPast, .int known, .ref aSnap, .int kept, .ref aText, .int len, .int thr, .ref aOne, .ref aTwo, .ref aBoth, .ref aWord, .int cre, .ref aOpen, .ref aTimes, .ref aFar, .ref aQueue, .long hash]))], [(aS, .inl (cI, 335, .inl g3))], [(aOne, .inl (cI, 4, .inl g4))]]) (by rw [e_g3, e_g4]; rfl) ?_
  refine r_aload_n C dX11_folds_6 0 rfl ?_
  refine r_get (Cn := RX11) (T := TX11) (N := 18) C inT11 0 rfl rfl 0 (by decide) t_893 rfl dX11_folds_7 ?_
  refine r_bipush (v := 67) C dX11_folds_10 (by decide) ?_
  refine r_iload_n C dX11_folds_12 1 rfl ?_
  refine r_imul C dX11_folds_13 rfl ?_
  refine r_bipush (v := 7) C dX11_folds_14 (by decide) ?_
  refine r_iadd C dX11_folds_16 rfl ?_
  refine r_aload_n C dX11_folds_17 0 rfl ?_
  refine r_iload_n C dX11_folds_18 1 rfl ?_
  refine r_iconst (v := 4) C dX11_folds_19 (by decide) ?_
  obtain ⟨h5, hp⟩ := hp
  refine r_callV (ci := 9) (wc := [[(o, .inr (9, [.ref aS, .ref aPast, .int known, .ref aSnap, .int kept, .ref aText, .int len, .int thr, .ref aOne, .ref aTwo, .ref aBoth, .ref aWord, .int cre, .ref aOpen, .ref aTimes, .ref aFar, .ref aQueue, .long hash]))], [(aS, .inl (cI, 335, .inl g3))]]) (wr := [[(aOne, .inl (cI, 4, .inl g4))]]) (st := [.int (((67 : Int32) * letter) + 7), .ref aS]) C (m_X11_its l D cI cL cP cJ o aS aPast aSnap aText aOne aTwo aBoth aWord aOpen aTimes aFar aQueue known kept len thr cre hash g3 letter 4 h5) k_X11_its t_966 [0, 1, 2] (show ([0, 1, 2] : List Nat).Perm (List.range 3) by decide) rfl rfl rfl (q0 := 0) rfl rfl rfl (Nat.le_of_ble_eq_true rfl) ⟨Nat.le_of_ble_eq_true rfl, Nat.le_of_ble_eq_true rfl⟩ ⟨Nat.zero_le _, Nat.zero_le _⟩ dX11_folds_20 (fun r6 wr6 hw6 => ?_)
  obtain ⟨e_r6, rfl⟩ := hw6
  have hp := hp r6 e_r6
  refine r_ws (I' := [[(o, .inr (9, [.ref aS, .ref aPast, .int known, .ref aSnap, .int kept, .ref aText, .int len, .int thr, .ref aOne, .ref aTwo, .ref aBoth, .ref aWord, .int cre, .ref aOpen, .ref aTimes, .ref aFar, .ref aQueue, .long hash]))], [(aS, .inl (cI, 335, .inl g3))], [(aOne, .inl (cI, 4, .inl g4))]]) rfl ?_
  refine r_iadd C dX11_folds_23 rfl ?_
  refine r_iload_n C dX11_folds_24 2 rfl ?_
  obtain ⟨h7, hp⟩ := hp
  obtain ⟨g8, e_g8⟩ : ∃ z : Nat → Int32, z = upd g3 (((((67 : Int32) * letter) + 7) + r6).toNatClampNeg) crease := ⟨_, rfl⟩
  have hp := hp g8 e_g8
  refine r_iast C 1 0 rfl rfl h7 (I' := [[(o, .inr (9, [.ref aS, .ref aPast, .int known, .ref aSnap, .int kept, .ref aText, .int len, .int thr, .ref aOne, .ref aTwo, .ref aBoth, .ref aWord, .int cre, .ref aOpen, .ref aTimes, .ref aFar, .ref aQueue, .long hash]))], [(aS, .inl (cI, 335, .inl g8))], [(aOne, .inl (cI, 4, .inl g4))]]) (by rw [e_g8]; rfl) dX11_folds_25 ?_
  refine r_aload_n C dX11_folds_26 0 rfl ?_
  refine r_get (Cn := RX11) (T := TX11) (N := 18) C inT11 0 rfl rfl 0 (by decide) t_893 rfl dX11_folds_27 ?_
  refine r_bipush (v := 67) C dX11_folds_30 (by decide) ?_
  refine r_iload_n C dX11_folds_32 1 rfl ?_
  refine r_imul C dX11_folds_33 rfl ?_
  refine r_iconst (v := 4) C dX11_folds_34 (by decide) ?_
  refine r_iadd C dX11_folds_35 rfl ?_
  refine r_dup2_11 C dX11_folds_36 rfl rfl ?_
  obtain ⟨h9, hp⟩ := hp
  refine r_iald (z := g8 (((67 : Int32) * letter) + 4).toNatClampNeg) C 1 0 rfl rfl h9 dX11_folds_37 rfl ?_
  refine r_iconst (v := 1) C dX11_folds_38 (by decide) ?_
  refine r_iadd C dX11_folds_39 rfl ?_
  refine r_top (fun x10 e_x10 => ?_)
  have hp := hp x10 e_x10
  have h11 := hp
  obtain ⟨g12, e_g12⟩ : ∃ z : Nat → Int32, z = upd g8 ((((67 : Int32) * letter) + 4).toNatClampNeg) x10 := ⟨_, rfl⟩
  refine r_iast C 1 0 rfl rfl h11 (I' := [[(o, .inr (9, [.ref aS, .ref aPast, .int known, .ref aSnap, .int kept, .ref aText, .int len, .int thr, .ref aOne, .ref aTwo, .ref aBoth, .ref aWord, .int cre, .ref aOpen, .ref aTimes, .ref aFar, .ref aQueue, .long hash]))], [(aS, .inl (cI, 335, .inl g12))], [(aOne, .inl (cI, 4, .inl g4))]]) (by rw [e_g12]; rfl) dX11_folds_40 ?_
  have eF : F_X11_folds fS fOne letter crease = (g12, g4) := by have q := e_g3.symm; subst q; have q := e_g4.symm; subst q; have q := e_r6.symm; subst q; have q := e_g8.symm; subst q; have q := e_x10.symm; subst q; have q := e_g12.symm; subst q; rfl
  exact r_vret (r := ()) C hA hr hlo dX11_folds_41 [[(o, .inr (9, [.ref aS, .ref aPast, .int known, .ref aSnap, .int kept, .ref aText, .int len, .int thr, .ref aOne, .ref aTwo, .ref aBoth, .ref aWord, .int cre, .ref aOpen, .ref aTimes, .ref aFar, .ref aQueue, .long hash]))], [(aS, .inl (cI, 335, .inl g12))], [(aOne, .inl (cI, 4, .inl g4))]] (by simp only [eF]) rfl hQ
theorem k_X11_presses : kV yX11_presses cX11_presses 3 none 1 := ⟨t_1020, t_23, t_67, t_1021, by decide +kernel, by decide +kernel, by decide +kernel⟩
def F_X11_presses_L26 (x6 : Int32) (g8 : Nat → Int32) (letter : Int32) : Nat → (Nat → Int32) → Int32 → (Nat → Int32) × Int32
  | 0, k11, y12 => (k11, y12)
  | nn + 1, k11, y12 => (if x6 ≤ y12 then ((k11, y12)) else (let x15 : Int32 := g8 y12.toNatClampNeg; let g17 : Nat → Int32 := upd k11 (((((67 : Int32) * letter) + 7) + y12).toNatClampNeg) x15; let x18 : Int32 := y12 + 1; F_X11_presses_L26 x6 g8 letter nn g17 x18))
def P_X11_presses_L26 (x6 : Int32) (g8 : Nat → Int32) (letter : Int32) : Nat → (Nat → Int32) → Int32 → Prop
  | 0, _, _ => False
  | nn + 1, k11, y12 => ((x6 ≤ y12 → True) ∧ (¬ x6 ≤ y12 → ((vp_in y12 20) ∧ (∀ x15 : Int32, x15 = g8 y12.toNatClampNeg → ((vp_in ((((67 : Int32) * letter) + 7) + y12) 335) ∧ (∀ g17 : Nat → Int32, g17 = upd k11 (((((67 : Int32) * letter) + 7) + y12).toNatClampNeg) x15 → (∀ x18 : Int32, x18 = y12 + 1 → (P_X11_presses_L26 x6 g8 letter nn g17 x18))))))))
set_option maxRecDepth 20000 in
def F_X11_presses (fS : Nat → Int32) (fOne : Nat → Int32) (fWord : Nat → Int32) (letter : Int32) : Int32 × (Nat → Int32) × (Nat → Int32) × (Nat → Int32) := let g3 : Nat → Int32 := F_X11_takes fS fOne letter; let x6 : Int32 := (F_X11_words g3 fWord).1; let g7 : Nat → Int32 := (F_X11_words g3 fWord).2.1; let g8 : Nat → Int32 := (F_X11_words g3 fWord).2.2; let g10 : Nat → Int32 := upd fS ((((67 : Int32) * letter) + 4).toNatClampNeg) x6; let f19 : Nat → Int32 := (F_X11_presses_L26 x6 g8 letter 21 g10 0).1; (x6, f19, g7, g8)
set_option maxRecDepth 20000 in
def P_X11_presses (fS : Nat → Int32) (fOne : Nat → Int32) (fWord : Nat → Int32) (letter : Int32) : Prop := ((P_X11_takes fS fOne letter) ∧ (∀ g3 : Nat → Int32, g3 = F_X11_takes fS fOne letter → ((P_X11_words g3 fWord) ∧ (∀ x6 : Int32, x6 = (F_X11_words g3 fWord).1 → (∀ g7 : Nat → Int32, g7 = (F_X11_words g3 fWord).2.1 → (∀ g8 : Nat → Int32, g8 = (F_X11_words g3 fWord).2.2 → ((vp_in (((67 : Int32) * letter) + 4) 335) ∧ (∀ g10 : Nat → Int32, g10 = upd fS ((((67 : Int32) * letter) + 4).toNatClampNeg) x6 → (P_X11_presses_L26 x6 g8 letter 21 g10 0)))))))))
set_option maxRecDepth 20000 in
set_option maxHeartbeats 8000000 in
theorem m_X11_presses (l : Launch) (D : va_G) (cI cL cP cJ : ClassId) (o : Nat) (aS : Nat) (aPast : Nat) (aSnap : Nat) (aText : Nat) (aOne : Nat) (aTwo : Nat) (aBoth : Nat) (aWord : Nat) (aOpen : Nat) (aTimes : Nat) (aFar : Nat) (aQueue : Nat) (known : Int32) (kept : Int32) (len : Int32) (thr : Int32) (cre : Int32) (hash : Int64) (fS : Nat → Int32) (fOne : Nat → Int32) (fWord : Nat → Int32) (letter : Int32) (hp : P_X11_presses fS fOne fWord letter) : M vV l yX11_presses cX11_presses 3 none 3 67 D (tyF cI cL cP cJ) [.ref o, .int letter] [[(o, .inr (9, [.ref aS, .ref aPast, .int known, .ref aSnap, .int kept, .ref aText, .int len, .int thr, .ref aOne, .ref aTwo, .ref aBoth, .ref aWord, .int cre, .ref aOpen, .ref aTimes, .ref aFar, .ref aQueue, .long hash]))], [(aS, .inl (cI, 335, .inl fS))], [(aOne, .inl (cI, 4, .inl fOne))], [(aWord, .inl (cI, 20, .inl fWord))]] (fun (r : Unit) (w1 : List va_W) => w1 = [[(o, .inr (9, [.ref aS, .ref aPast, .int known, .ref aSnap, .int kept, .ref aText, .int len, .int thr, .ref aOne, .ref aTwo, .ref aBoth, .ref aWord, .int ((F_X11_presses fS fOne fWord letter).1), .ref aOpen, .ref aTimes, .ref aFar, .ref aQueue, .long hash]))], [(aS, .inl (cI, 335, .inl ((F_X11_presses fS fOne fWord letter).2.1)))], [(aOne, .inl (cI, 4, .inl ((F_X11_presses fS fOne fWord letter).2.2.1)))], [(aWord, .inl (cI, 20, .inl ((F_X11_presses fS fOne fWord letter).2.2.2)))]]) := by
  unfold P_X11_presses at hp
  refine m_start (by decide +kernel) (Nat.le_of_ble_eq_true rfl) (fun p e s m args below meth c A Q hA hQ C hr hlo => ?_)
  refine r_Le (L' := [(0, .ref o), (1, .int letter)]) rfl ?_
  refine r_aload_n C dX11_presses_0 0 rfl ?_
  refine r_iload_n C dX11_presses_1 1 rfl ?_
  obtain ⟨h1, hp⟩ := hp
  refine r_callV (ci := 9) (wc := [[(o, .inr (9, [.ref aS, .ref aPast, .int known, .ref aSnap, .int kept, .ref aText, .int len, .int thr, .ref aOne, .ref aTwo, .ref aBoth, .ref aWord, .int cre, .ref aOpen, .ref aTimes, .ref aFar, .ref aQueue, .long hash]))], [(aS, .inl (cI, 335, .inl fS))], [(aOne, .inl (cI, 4, .inl fOne))]]) (wr := [[(aWord, .inl (cI, 20, .inl fWord))]]) (st := []) C (m_X11_takes l D cI cL cP cJ o aS aPast aSnap aText aOne aTwo aBoth aWord aOpen aTimes aFar aQueue known kept len thr cre hash fS fOne letter h1) k_X11_takes t_990 [0, 1, 2, 3] (show ([0, 1, 2, 3] : List Nat).Perm (List.range 4) by decide) rfl rfl rfl (q0 := 0) rfl rfl rfl (Nat.le_of_ble_eq_true rfl) ⟨Nat.le_of_ble_eq_true rfl, Nat.le_of_ble_eq_true rfl⟩ ⟨Nat.zero_le _, Nat.zero_le _⟩ dX11_presses_2 (fun r2 wr2 hw2 => ?_)
  obtain rfl := hw2
  obtain ⟨g3, e_g3⟩ : ∃ z : Nat → Int32, z = F_X11_takes fS fOne letter := ⟨_, rfl⟩
  have hp := hp g3 e_g3
  refine r_ws (I' := [[(o, .inr (9, [.ref aS, .ref aPast, .int known, .ref aSnap, .int kept, .ref aText, .int len, .int thr, .ref aOne, .ref aTwo, .ref aBoth, .ref aWord, .int cre, .ref aOpen, .ref aTimes, .ref aFar, .ref aQueue, .long hash]))], [(aS, .inl (cI, 335, .inl fS))], [(aOne, .inl (cI, 4, .inl g3))], [(aWord, .inl (cI, 20, .inl fWord))]]) (by rw [e_g3]; rfl) ?_
  refine r_aload_n C dX11_presses_5 0 rfl ?_
  obtain ⟨h4, hp⟩ := hp
  refine r_callV (ci := 9) (wc := [[(o, .inr (9, [.ref aS, .ref aPast, .int known, .ref aSnap, .int kept, .ref aText, .int len, .int thr, .ref aOne, .ref aTwo, .ref aBoth, .ref aWord, .int cre, .ref aOpen, .ref aTimes, .ref aFar, .ref aQueue, .long hash]))], [(aOne, .inl (cI, 4, .inl g3))], [(aWord, .inl (cI, 20, .inl fWord))]]) (wr := [[(aS, .inl (cI, 335, .inl fS))]]) (st := []) C (m_X11_words l D cI cL cP cJ o aS aPast aSnap aText aOne aTwo aBoth aWord aOpen aTimes aFar aQueue known kept len thr cre hash g3 fWord h4) k_X11_words t_1022 [0, 2, 3, 1] (show ([0, 2, 3, 1] : List Nat).Perm (List.range 4) by decide) rfl rfl rfl (q0 := 0) rfl rfl rfl (Nat.le_of_ble_eq_true rfl) ⟨Nat.le_of_ble_eq_true rfl, Nat.le_of_ble_eq_true rfl⟩ ⟨Nat.zero_le _, Nat.zero_le _⟩ dX11_presses_6 (fun r5 wr5 hw5 => ?_)
  obtain rfl := hw5
  obtain ⟨x6, e_x6⟩ : ∃ z : Int32, z = (F_X11_words g3 fWord).1 := ⟨_, rfl⟩
  have hp := hp x6 e_x6
  obtain ⟨g7, e_g7⟩ : ∃ z : Nat → Int32, z = (F_X11_words g3 fWord).2.1 := ⟨_, rfl⟩
  have hp := hp g7 e_g7
  obtain ⟨g8, e_g8⟩ : ∃ z : Nat → Int32, z = (F_X11_words g3 fWord).2.2 := ⟨_, rfl⟩
  have hp := hp g8 e_g8
  refine r_ws (I' := [[(o, .inr (9, [.ref aS, .ref aPast, .int known, .ref aSnap, .int kept, .ref aText, .int len, .int thr, .ref aOne, .ref aTwo, .ref aBoth, .ref aWord, .int x6, .ref aOpen, .ref aTimes, .ref aFar, .ref aQueue, .long hash]))], [(aOne, .inl (cI, 4, .inl g7))], [(aWord, .inl (cI, 20, .inl g8))], [(aS, .inl (cI, 335, .inl fS))]]) (by rw [e_x6, e_g7, e_g8]; rfl) ?_
  refine r_aload_n C dX11_presses_9 0 rfl ?_
  refine r_get (Cn := RX11) (T := TX11) (N := 18) C inT11 0 rfl rfl 0 (by decide) t_893 rfl dX11_presses_10 ?_
  refine r_bipush (v := 67) C dX11_presses_13 (by decide) ?_
  refine r_iload_n C dX11_presses_15 1 rfl ?_
  refine r_imul C dX11_presses_16 rfl ?_
  refine r_iconst (v := 4) C dX11_presses_17 (by decide) ?_
  refine r_iadd C dX11_presses_18 rfl ?_
  refine r_aload_n C dX11_presses_19 0 rfl ?_
  refine r_get (Cn := RX11) (T := TX11) (N := 18) C inT11 0 rfl rfl 12 (by decide) t_905 rfl dX11_presses_20 ?_
  obtain ⟨h9, hp⟩ := hp
  obtain ⟨g10, e_g10⟩ : ∃ z : Nat → Int32, z = upd fS ((((67 : Int32) * letter) + 4).toNatClampNeg) x6 := ⟨_, rfl⟩
  have hp := hp g10 e_g10
  refine r_iast C 3 0 rfl rfl h9 (I' := [[(o, .inr (9, [.ref aS, .ref aPast, .int known, .ref aSnap, .int kept, .ref aText, .int len, .int thr, .ref aOne, .ref aTwo, .ref aBoth, .ref aWord, .int x6, .ref aOpen, .ref aTimes, .ref aFar, .ref aQueue, .long hash]))], [(aOne, .inl (cI, 4, .inl g7))], [(aWord, .inl (cI, 20, .inl g8))], [(aS, .inl (cI, 335, .inl g10))]]) (by rw [e_g10]; rfl) dX11_presses_23 ?_
  refine r_iconst (v := 0) C dX11_presses_24 (by decide) ?_
  refine r_istore_n (L' := [(2, .int 0), (0, .ref o), (1, .int letter)]) C dX11_presses_25 (by decide) rfl ?_
  have hpl := hp
  have hL : ∀ (nn : Nat) (k11 : Nat → Int32) (y12 : Int32), P_X11_presses_L26 x6 g8 letter nn k11 y12 → (∀ f19 : Nat → Int32, f19 = (F_X11_presses_L26 x6 g8 letter nn k11 y12).1 → ∀ z20 : Int32, z20 = (F_X11_presses_L26 x6 g8 letter nn k11 y12).2 → V p l e (rmm 3 67) s m args below meth c 3 D A 0 0 Q [[(o, .inr (9, [.ref aS, .ref aPast, .int known, .ref aSnap, .int kept, .ref aText, .int len, .int thr, .ref aOne, .ref aTwo, .ref aBoth, .ref aWord, .int x6, .ref aOpen, .ref aTimes, .ref aFar, .ref aQueue, .long hash]))], [(aOne, .inl (cI, 4, .inl g7))], [(aWord, .inl (cI, 20, .inl g8))], [(aS, .inl (cI, 335, .inl f19))]] [(2, .int z20), (0, .ref o), (1, .int letter)] 60 []) → V p l e (rmm 3 67) s m args below meth c 3 D A 0 0 Q [[(o, .inr (9, [.ref aS, .ref aPast, .int known, .ref aSnap, .int kept, .ref aText, .int len, .int thr, .ref aOne, .ref aTwo, .ref aBoth, .ref aWord, .int x6, .ref aOpen, .ref aTimes, .ref aFar, .ref aQueue, .long hash]))], [(aOne, .inl (cI, 4, .inl g7))], [(aWord, .inl (cI, 20, .inl g8))], [(aS, .inl (cI, 335, .inl k11))]] [(2, .int y12), (0, .ref o), (1, .int letter)] 26 [] := by
    clear hpl
    intro nn
    induction nn with
    | zero => intro k11 y12 hp kk; rw [P_X11_presses_L26] at hp; exact hp.elim
    | succ nn ih =>
      intro k11 y12 hp kk
      rw [P_X11_presses_L26] at hp
      refine r_iload_n C dX11_presses_26 0 rfl ?_
      refine r_aload_n C dX11_presses_27 1 rfl ?_
      refine r_get (Cn := RX11) (T := TX11) (N := 18) C inT11 0 rfl rfl 12 (by decide) t_905 rfl dX11_presses_28 ?_
      refine r_icmp_ge (tgt := 60) C dX11_presses_31 (by decide) (fun c13 => ?_) (fun c13 => ?_)
      · have eF : F_X11_presses_L26 x6 g8 letter (nn + 1) k11 y12 = (k11, y12) := by simp only [F_X11_presses_L26, if_pos c13]
        exact kk _ (by rw [eF]) _ (by rw [eF])
      · have hp := hp.2 c13
        refine r_aload_n C dX11_presses_34 1 rfl ?_
        refine r_get (Cn := RX11) (T := TX11) (N := 18) C inT11 0 rfl rfl 0 (by decide) t_893 rfl dX11_presses_35 ?_
        refine r_bipush (v := 67) C dX11_presses_38 (by decide) ?_
        refine r_iload_n C dX11_presses_40 2 rfl ?_
        refine r_imul C dX11_presses_41 rfl ?_
        refine r_bipush (v := 7) C dX11_presses_42 (by decide) ?_
        refine r_iadd C dX11_presses_44 rfl ?_
        refine r_iload_n C dX11_presses_45 0 rfl ?_
        refine r_iadd C dX11_presses_46 rfl ?_
        refine r_aload_n C dX11_presses_47 1 rfl ?_
        refine r_get (Cn := RX11) (T := TX11) (N := 18) C inT11 0 rfl rfl 11 (by decide) t_904 rfl dX11_presses_48 ?_
        refine r_iload_n C dX11_presses_51 0 rfl ?_
        obtain ⟨h14, hp⟩ := hp
        refine r_iald (z := g8 y12.toNatClampNeg) C 2 0 rfl rfl h14 dX11_presses_52 rfl ?_
        refine r_top (fun x15 e_x15 => ?_)
        have hp := hp x15 e_x15
        obtain ⟨h16, hp⟩ := hp
        obtain ⟨g17, e_g17⟩ : ∃ z : Nat → Int32, z = upd k11 (((((67 : Int32) * letter) + 7) + y12).toNatClampNeg) x15 := ⟨_, rfl⟩
        have hp := hp g17 e_g17
        refine r_iast C 3 0 rfl rfl h16 (I' := [[(o, .inr (9, [.ref aS, .ref aPast, .int known, .ref aSnap, .int kept, .ref aText, .int len, .int thr, .ref aOne, .ref aTwo, .ref aBoth, .ref aWord, .int x6, .ref aOpen, .ref aTimes, .ref aFar, .ref aQueue, .long hash]))], [(aOne, .inl (cI, 4, .inl g7))], [(aWord, .inl (cI, 20, .inl g8))], [(aS, .inl (cI, 335, .inl g17))]]) (by rw [e_g17]; rfl) dX11_presses_53 ?_
        obtain ⟨x18, e_x18⟩ : ∃ z : Int32, z = y12 + 1 := ⟨_, rfl⟩
        have hp := hp x18 e_x18
        refine r_iinc (v := x18) (L' := [(2, .int x18), (0, .ref o), (1, .int letter)]) C dX11_presses_54 0 rfl (by rw [e_x18]; exact ii (by decide)) (by decide) rfl ?_
        refine r_goto (tgt := 26) C dX11_presses_57 (by decide) ?_
        have eF : F_X11_presses_L26 x6 g8 letter (nn + 1) k11 y12 = F_X11_presses_L26 x6 g8 letter nn g17 x18 := by have q := e_x15.symm; subst q; have q := e_g17.symm; subst q; have q := e_x18.symm; subst q; simp only [F_X11_presses_L26, if_neg c13]
        exact ih g17 x18 hp (fun f19 e_f19 z20 e_z20 => kk f19 (by rw [eF]; exact e_f19) z20 (by rw [eF]; exact e_z20))
  refine hL 21 g10 0 hpl (fun f19 e_f19 z20 e_z20 => ?_)
  clear hL hpl
  refine r_pl (I' := [[(o, .inr (9, [.ref aS, .ref aPast, .int known, .ref aSnap, .int kept, .ref aText, .int len, .int thr, .ref aOne, .ref aTwo, .ref aBoth, .ref aWord, .int x6, .ref aOpen, .ref aTimes, .ref aFar, .ref aQueue, .long hash]))], [(aS, .inl (cI, 335, .inl f19))], [(aOne, .inl (cI, 4, .inl g7))], [(aWord, .inl (cI, 20, .inl g8))]]) [0, 3, 1, 2] (show ([0, 3, 1, 2] : List Nat).Perm (List.range 4) by decide) rfl ?_
  have eF : F_X11_presses fS fOne fWord letter = (x6, f19, g7, g8) := by have q := e_g3.symm; subst q; have q := e_x6.symm; subst q; have q := e_g7.symm; subst q; have q := e_g8.symm; subst q; have q := e_g10.symm; subst q; have q := e_f19.symm; subst q; have q := e_z20.symm; subst q; rfl
  exact r_vret (r := ()) C hA hr hlo dX11_presses_60 [[(o, .inr (9, [.ref aS, .ref aPast, .int known, .ref aSnap, .int kept, .ref aText, .int len, .int thr, .ref aOne, .ref aTwo, .ref aBoth, .ref aWord, .int x6, .ref aOpen, .ref aTimes, .ref aFar, .ref aQueue, .long hash]))], [(aS, .inl (cI, 335, .inl f19))], [(aOne, .inl (cI, 4, .inl g7))], [(aWord, .inl (cI, 20, .inl g8))]] (by simp only [eF]) rfl hQ

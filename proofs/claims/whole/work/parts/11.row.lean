abbrev rowB (cI : ClassId) (h : Nat) (v : Nat) (n : Int32) (f : Nat → Int32) : va_W := [(h, .inr (4, [.ref v, .int n])), (v, .inl (cI, 60, .inl f))]
theorem k_X6_size : kV yX6_size cX6_size 1 (some .int) 0 := ⟨t_250, t_251, t_61, t_252, by decide +kernel, by decide +kernel, by decide +kernel⟩
set_option maxRecDepth 20000 in
def F_X6_size (n : Int32) : Int32 := n
set_option maxRecDepth 20000 in
set_option maxHeartbeats 8000000 in
theorem m_X6_size (l : Launch) (D : va_G) (cI cL cP cJ : ClassId) (h : Nat) (v : Nat) (n : Int32) (f : Nat → Int32) : M vI l yX6_size cX6_size 1 (some .int) 0 0 D (tyF cI cL cP cJ) [.ref h] [rowB cI h v n f] (fun (r : Int32) (w1 : List va_W) => r = (F_X6_size n) ∧ w1 = [rowB cI h v n f]) := by
  refine m_start (by decide +kernel) (Nat.le_of_ble_eq_true rfl) (fun p e s m args below meth c A Q hA hQ C hr hlo => ?_)
  refine r_Le (L' := [(0, .ref h)]) rfl ?_
  refine r_aload_n C dX6_size_0 0 rfl ?_
  refine r_ws (I' := [[(h, .inr (4, [.ref v, .int n]))], [(v, .inl (cI, 60, .inl f))]]) rfl ?_
  refine r_get (Cn := RX6) (T := TX6) (N := 2) C inT6 0 rfl rfl 1 (by decide) t_108 rfl dX6_size_1 ?_
  refine r_ws (I' := [rowB cI h v n f]) rfl ?_
  have eF : F_X6_size n = n := by rfl
  exact r_iret (r := n) C hA hr hlo dX6_size_4 [rowB cI h v n f] ⟨by simp only [eF], rfl⟩ rfl hQ
theorem k_X6_isFull : kV yX6_isFull cX6_isFull 1 (some .boolean) 0 := ⟨t_438, t_439, t_61, t_440, by decide +kernel, by decide +kernel, by decide +kernel⟩
set_option maxRecDepth 20000 in
def F_X6_isFull (n : Int32) : Int32 := let x2 : Int32 := (if n < 60 then (0) else (1)); x2
set_option maxRecDepth 20000 in
set_option maxHeartbeats 8000000 in
theorem m_X6_isFull (l : Launch) (D : va_G) (cI cL cP cJ : ClassId) (h : Nat) (v : Nat) (n : Int32) (f : Nat → Int32) : M vI l yX6_isFull cX6_isFull 1 (some .boolean) 0 0 D (tyF cI cL cP cJ) [.ref h] [rowB cI h v n f] (fun (r : Int32) (w1 : List va_W) => r = (F_X6_isFull n) ∧ w1 = [rowB cI h v n f]) := by
  refine m_start (by decide +kernel) (Nat.le_of_ble_eq_true rfl) (fun p e s m args below meth c A Q hA hQ C hr hlo => ?_)
  refine r_Le (L' := [(0, .ref h)]) rfl ?_
  refine r_aload_n C dX6_isFull_0 0 rfl ?_
  refine r_ws (I' := [[(h, .inr (4, [.ref v, .int n]))], [(v, .inl (cI, 60, .inl f))]]) rfl ?_
  refine r_get (Cn := RX6) (T := TX6) (N := 2) C inT6 0 rfl rfl 1 (by decide) t_108 rfl dX6_isFull_1 ?_
  refine r_aload_n C dX6_isFull_4 0 rfl ?_
  refine r_get (Cn := RX6) (T := TX6) (N := 2) C inT6 0 rfl rfl 0 (by decide) t_107 rfl dX6_isFull_5 ?_
  refine r_alen (v := 60) C 1 0 rfl rfl rfl dX6_isFull_8 ?_
  suffices K : ∀ x2 : Int32, x2 = ((if n < 60 then (0) else (1))) → V p l e (rmm 0 0) s m args below meth c 1 D A 0 0 Q [[(h, .inr (4, [.ref v, .int n]))], [(v, .inl (cI, 60, .inl f))]] [(0, .ref h)] 17 [.int x2] by
    refine r_icmp_lt (tgt := 16) C dX6_isFull_9 (by decide) (fun c1 => ?_) (fun c1 => ?_)
    · refine r_iconst (v := 0) C dX6_isFull_16 (by decide) ?_
      exact K _ (by simp only [if_pos c1])
    · refine r_iconst (v := 1) C dX6_isFull_12 (by decide) ?_
      refine r_goto (tgt := 17) C dX6_isFull_13 (by decide) ?_
      exact K _ (by simp only [if_neg c1])
  intro x2 e_x2
  refine r_ws (I' := [rowB cI h v n f]) rfl ?_
  have eF : F_X6_isFull n = x2 := by have q := e_x2.symm; subst q; rfl
  exact r_zret (r := x2) C hA hr hlo (nb01 (by first | (rw [e_x2]; (try dsimp only); ((repeat' split) <;> (first | exact Or.inl rfl | exact Or.inr rfl))) | (have q := e_x2.symm; subst q; (try dsimp only); ((repeat' split) <;> (first | exact Or.inl rfl | exact Or.inr rfl))))) dX6_isFull_17 [rowB cI h v n f] ⟨by simp only [eF], rfl⟩ rfl hQ
theorem k_X6_at : kV yX6_at cX6_at 2 (some .int) 1 := ⟨t_271, t_272, t_61, t_273, by decide +kernel, by decide +kernel, by decide +kernel⟩
set_option maxRecDepth 20000 in
def F_X6_at (n : Int32) (f : Nat → Int32) (i : Int32) : Int32 := let x5 : Int32 := (if i < 0 then ((-10)) else ((if n ≤ i then ((-10)) else ((if 60 ≤ i then ((-10)) else (f i.toNatClampNeg)))))); x5
set_option maxRecDepth 20000 in
def P_X6_at (n : Int32) (i : Int32) : Prop := ((i < 0 → True) ∧ (¬ i < 0 → ((n ≤ i → True) ∧ (¬ n ≤ i → ((60 ≤ i → True) ∧ (¬ 60 ≤ i → (vp_in i 60)))))))
set_option maxRecDepth 20000 in
set_option maxHeartbeats 8000000 in
theorem m_X6_at (l : Launch) (D : va_G) (cI cL cP cJ : ClassId) (h : Nat) (v : Nat) (n : Int32) (f : Nat → Int32) (i : Int32) (hp : P_X6_at n i) : M vI l yX6_at cX6_at 2 (some .int) 0 0 D (tyF cI cL cP cJ) [.ref h, .int i] [rowB cI h v n f] (fun (r : Int32) (w1 : List va_W) => r = (F_X6_at n f i) ∧ w1 = [rowB cI h v n f]) := by
  unfold P_X6_at at hp
  refine m_start (by decide +kernel) (Nat.le_of_ble_eq_true rfl) (fun p e s m args below meth c A Q hA hQ C hr hlo => ?_)
  refine r_Le (L' := [(0, .ref h), (1, .int i)]) rfl ?_
  refine r_iload_n C dX6_at_0 1 rfl ?_
  have hps := hp
  suffices K : ∀ x5 : Int32, x5 = ((if i < 0 then ((-10)) else ((if n ≤ i then ((-10)) else ((if 60 ≤ i then ((-10)) else (f i.toNatClampNeg))))))) → V p l e (rmm 0 0) s m args below meth c 2 D A 0 0 Q [rowB cI h v n f] [(0, .ref h), (1, .int i)] 32 [.int x5] by
    have hp := hps
    refine r_if_lt (tgt := 30) C dX6_at_1 (by decide) (fun c1 => ?_) (fun c1 => ?_)
    · refine r_bipush (v := (-10)) C dX6_at_30 (by decide) ?_
      exact K _ (by simp only [if_pos c1])
    · have hp := hp.2 c1
      refine r_iload_n C dX6_at_4 1 rfl ?_
      refine r_aload_n C dX6_at_5 0 rfl ?_
      refine r_ws (I' := [[(h, .inr (4, [.ref v, .int n]))], [(v, .inl (cI, 60, .inl f))]]) rfl ?_
      refine r_get (Cn := RX6) (T := TX6) (N := 2) C inT6 0 rfl rfl 1 (by decide) t_108 rfl dX6_at_6 ?_
      refine r_icmp_ge (tgt := 30) C dX6_at_9 (by decide) (fun c2 => ?_) (fun c2 => ?_)
      · refine r_bipush (v := (-10)) C dX6_at_30 (by decide) ?_
        refine r_ws (I' := [rowB cI h v n f]) rfl ?_
        exact K _ (by simp only [if_neg c1, if_pos c2])
      · have hp := hp.2 c2
        refine r_iload_n C dX6_at_12 1 rfl ?_
        refine r_aload_n C dX6_at_13 0 rfl ?_
        refine r_get (Cn := RX6) (T := TX6) (N := 2) C inT6 0 rfl rfl 0 (by decide) t_107 rfl dX6_at_14 ?_
        refine r_alen (v := 60) C 1 0 rfl rfl rfl dX6_at_17 ?_
        refine r_icmp_ge (tgt := 30) C dX6_at_18 (by decide) (fun c3 => ?_) (fun c3 => ?_)
        · refine r_bipush (v := (-10)) C dX6_at_30 (by decide) ?_
          refine r_ws (I' := [rowB cI h v n f]) rfl ?_
          exact K _ (by simp only [if_neg c1, if_neg c2, if_pos c3])
        · have hp := hp.2 c3
          refine r_aload_n C dX6_at_21 0 rfl ?_
          refine r_get (Cn := RX6) (T := TX6) (N := 2) C inT6 0 rfl rfl 0 (by decide) t_107 rfl dX6_at_22 ?_
          refine r_iload_n C dX6_at_25 1 rfl ?_
          have h4 := hp
          refine r_iald (z := f i.toNatClampNeg) C 1 0 rfl rfl h4 dX6_at_26 rfl ?_
          refine r_goto (tgt := 32) C dX6_at_27 (by decide) ?_
          refine r_ws (I' := [rowB cI h v n f]) rfl ?_
          exact K _ (by simp only [if_neg c1, if_neg c2, if_neg c3])
  intro x5 e_x5
  have eF : F_X6_at n f i = x5 := by have q := e_x5.symm; subst q; rfl
  exact r_iret (r := x5) C hA hr hlo dX6_at_32 [rowB cI h v n f] ⟨by simp only [eF], rfl⟩ rfl hQ
theorem k_X6_add : kV yX6_add cX6_add 2 none 1 := ⟨t_373, t_374, t_61, t_375, by decide +kernel, by decide +kernel, by decide +kernel⟩
set_option maxRecDepth 20000 in
def F_X6_add (n : Int32) (f : Nat → Int32) (x : Int32) : Int32 × (Nat → Int32) := let x6 : Int32 := (if n < 0 then (n) else ((if 60 ≤ n then (n) else (let x5 : Int32 := n + 1; x5)))); let g7 : Nat → Int32 := (if n < 0 then (f) else ((if 60 ≤ n then (f) else (let g4 : Nat → Int32 := upd f (n.toNatClampNeg) x; g4)))); (x6, g7)
set_option maxRecDepth 20000 in
def P_X6_add (n : Int32) : Prop := ((n < 0 → True) ∧ (¬ n < 0 → ((60 ≤ n → True) ∧ (¬ 60 ≤ n → (vp_in n 60)))))
set_option maxRecDepth 20000 in
set_option maxHeartbeats 8000000 in
theorem m_X6_add (l : Launch) (D : va_G) (cI cL cP cJ : ClassId) (h : Nat) (v : Nat) (n : Int32) (f : Nat → Int32) (x : Int32) (hp : P_X6_add n) : M vV l yX6_add cX6_add 2 none 0 0 D (tyF cI cL cP cJ) [.ref h, .int x] [rowB cI h v n f] (fun (r : Unit) (w1 : List va_W) => w1 = [rowB cI h v ((F_X6_add n f x).1) ((F_X6_add n f x).2)]) := by
  unfold P_X6_add at hp
  refine m_start (by decide +kernel) (Nat.le_of_ble_eq_true rfl) (fun p e s m args below meth c A Q hA hQ C hr hlo => ?_)
  refine r_Le (L' := [(0, .ref h), (1, .int x)]) rfl ?_
  refine r_aload_n C dX6_add_0 0 rfl ?_
  refine r_ws (I' := [[(h, .inr (4, [.ref v, .int n]))], [(v, .inl (cI, 60, .inl f))]]) rfl ?_
  refine r_get (Cn := RX6) (T := TX6) (N := 2) C inT6 0 rfl rfl 1 (by decide) t_108 rfl dX6_add_1 ?_
  have hps := hp
  suffices K : ∀ x6 : Int32, x6 = ((if n < 0 then (n) else ((if 60 ≤ n then (n) else (let x5 : Int32 := n + 1; x5))))) → ∀ g7 : Nat → Int32, g7 = ((if n < 0 then (f) else ((if 60 ≤ n then (f) else (let g4 : Nat → Int32 := upd f (n.toNatClampNeg) x; g4))))) → V p l e (rmm 0 0) s m args below meth c 2 D A 0 0 Q [[(h, .inr (4, [.ref v, .int x6]))], [(v, .inl (cI, 60, .inl g7))]] [(0, .ref h), (1, .int x)] 39 [] by
    have hp := hps
    refine r_if_lt (tgt := 39) C dX6_add_4 (by decide) (fun c1 => ?_) (fun c1 => ?_)
    · exact K _ (by simp only [if_pos c1]) _ (by simp only [if_pos c1])
    · have hp := hp.2 c1
      refine r_aload_n C dX6_add_7 0 rfl ?_
      refine r_get (Cn := RX6) (T := TX6) (N := 2) C inT6 0 rfl rfl 1 (by decide) t_108 rfl dX6_add_8 ?_
      refine r_aload_n C dX6_add_11 0 rfl ?_
      refine r_get (Cn := RX6) (T := TX6) (N := 2) C inT6 0 rfl rfl 0 (by decide) t_107 rfl dX6_add_12 ?_
      refine r_alen (v := 60) C 1 0 rfl rfl rfl dX6_add_15 ?_
      refine r_icmp_ge (tgt := 39) C dX6_add_16 (by decide) (fun c2 => ?_) (fun c2 => ?_)
      · exact K _ (by simp only [if_neg c1, if_pos c2]) _ (by simp only [if_neg c1, if_pos c2])
      · have hp := hp.2 c2
        refine r_aload_n C dX6_add_19 0 rfl ?_
        refine r_get (Cn := RX6) (T := TX6) (N := 2) C inT6 0 rfl rfl 0 (by decide) t_107 rfl dX6_add_20 ?_
        refine r_aload_n C dX6_add_23 0 rfl ?_
        refine r_get (Cn := RX6) (T := TX6) (N := 2) C inT6 0 rfl rfl 1 (by decide) t_108 rfl dX6_add_24 ?_
        refine r_iload_n C dX6_add_27 1 rfl ?_
        have h3 := hp
        obtain ⟨g4, e_g4⟩ : ∃ z : Nat → Int32, z = upd f (n.toNatClampNeg) x := ⟨_, rfl⟩
        refine r_iast C 1 0 rfl rfl h3 (I' := [[(h, .inr (4, [.ref v, .int n]))], [(v, .inl (cI, 60, .inl g4))]]) (by rw [e_g4]; rfl) dX6_add_28 ?_
        refine r_aload_n C dX6_add_29 0 rfl ?_
        refine r_dup C dX6_add_30 rfl ?_
        refine r_get (Cn := RX6) (T := TX6) (N := 2) C inT6 0 rfl rfl 1 (by decide) t_108 rfl dX6_add_31 ?_
        refine r_iconst (v := 1) C dX6_add_34 (by decide) ?_
        refine r_iadd C dX6_add_35 rfl ?_
        refine r_top (fun x5 e_x5 => ?_)
        refine r_put (Cn := RX6) (T := TX6) (N := 2) C inT6 0 rfl rfl 1 (by decide) t_108 tyX6 tyX6_ok nmX6 rfl rfl rfl (Nat.le_of_ble_eq_true rfl) (I' := [[(h, .inr (4, [.ref v, .int x5]))], [(v, .inl (cI, 60, .inl g4))]]) rfl dX6_add_36 ?_
        exact K _ (by have q := e_g4.symm; subst q; have q := e_x5.symm; subst q; simp only [if_neg c1, if_neg c2]) _ (by have q := e_g4.symm; subst q; have q := e_x5.symm; subst q; simp only [if_neg c1, if_neg c2])
  intro x6 e_x6 g7 e_g7
  refine r_ws (I' := [rowB cI h v x6 g7]) rfl ?_
  have eF : F_X6_add n f x = (x6, g7) := by have q := e_x6.symm; subst q; have q := e_g7.symm; subst q; rfl
  exact r_vret (r := ()) C hA hr hlo dX6_add_39 [rowB cI h v x6 g7] (by simp only [eF]) rfl hQ
theorem k_X6_dropLast : kV yX6_dropLast cX6_dropLast 1 none 0 := ⟨t_728, t_729, t_61, t_730, by decide +kernel, by decide +kernel, by decide +kernel⟩
set_option maxRecDepth 20000 in
def F_X6_dropLast (n : Int32) : Int32 := let x3 : Int32 := (if n ≤ 0 then (n) else (let x2 : Int32 := n - 1; x2)); x3
set_option maxRecDepth 20000 in
set_option maxHeartbeats 8000000 in
theorem m_X6_dropLast (l : Launch) (D : va_G) (cI cL cP cJ : ClassId) (h : Nat) (v : Nat) (n : Int32) (f : Nat → Int32) : M vV l yX6_dropLast cX6_dropLast 1 none 0 0 D (tyF cI cL cP cJ) [.ref h] [rowB cI h v n f] (fun (r : Unit) (w1 : List va_W) => w1 = [rowB cI h v (F_X6_dropLast n) f]) := by
  refine m_start (by decide +kernel) (Nat.le_of_ble_eq_true rfl) (fun p e s m args below meth c A Q hA hQ C hr hlo => ?_)
  refine r_Le (L' := [(0, .ref h)]) rfl ?_
  refine r_aload_n C dX6_dropLast_0 0 rfl ?_
  refine r_ws (I' := [[(h, .inr (4, [.ref v, .int n]))], [(v, .inl (cI, 60, .inl f))]]) rfl ?_
  refine r_get (Cn := RX6) (T := TX6) (N := 2) C inT6 0 rfl rfl 1 (by decide) t_108 rfl dX6_dropLast_1 ?_
  suffices K : ∀ x3 : Int32, x3 = ((if n ≤ 0 then (n) else (let x2 : Int32 := n - 1; x2))) → V p l e (rmm 0 0) s m args below meth c 1 D A 0 0 Q [[(h, .inr (4, [.ref v, .int x3]))], [(v, .inl (cI, 60, .inl f))]] [(0, .ref h)] 17 [] by
    refine r_if_le (tgt := 17) C dX6_dropLast_4 (by decide) (fun c1 => ?_) (fun c1 => ?_)
    · exact K _ (by simp only [if_pos c1])
    · refine r_aload_n C dX6_dropLast_7 0 rfl ?_
      refine r_dup C dX6_dropLast_8 rfl ?_
      refine r_get (Cn := RX6) (T := TX6) (N := 2) C inT6 0 rfl rfl 1 (by decide) t_108 rfl dX6_dropLast_9 ?_
      refine r_iconst (v := 1) C dX6_dropLast_12 (by decide) ?_
      refine r_isub C dX6_dropLast_13 rfl ?_
      refine r_top (fun x2 e_x2 => ?_)
      refine r_put (Cn := RX6) (T := TX6) (N := 2) C inT6 0 rfl rfl 1 (by decide) t_108 tyX6 tyX6_ok nmX6 rfl rfl rfl (Nat.le_of_ble_eq_true rfl) (I' := [[(h, .inr (4, [.ref v, .int x2]))], [(v, .inl (cI, 60, .inl f))]]) rfl dX6_dropLast_14 ?_
      exact K _ (by have q := e_x2.symm; subst q; simp only [if_neg c1])
  intro x3 e_x3
  refine r_ws (I' := [rowB cI h v x3 f]) rfl ?_
  have eF : F_X6_dropLast n = x3 := by have q := e_x3.symm; subst q; rfl
  exact r_vret (r := ()) C hA hr hlo dX6_dropLast_17 [rowB cI h v x3 f] (by simp only [eF]) rfl hQ
theorem k_X6_clear : kV yX6_clear cX6_clear 1 none 0 := ⟨t_254, t_255, t_61, t_256, by decide +kernel, by decide +kernel, by decide +kernel⟩
set_option maxRecDepth 20000 in
def F_X6_clear  : Int32 := 0
set_option maxRecDepth 20000 in
set_option maxHeartbeats 8000000 in
theorem m_X6_clear (l : Launch) (D : va_G) (cI cL cP cJ : ClassId) (h : Nat) (v : Nat) (n : Int32) (f : Nat → Int32) : M vV l yX6_clear cX6_clear 1 none 0 0 D (tyF cI cL cP cJ) [.ref h] [rowB cI h v n f] (fun (r : Unit) (w1 : List va_W) => w1 = [rowB cI h v F_X6_clear f]) := by
  refine m_start (by decide +kernel) (Nat.le_of_ble_eq_true rfl) (fun p e s m args below meth c A Q hA hQ C hr hlo => ?_)
  refine r_Le (L' := [(0, .ref h)]) rfl ?_
  refine r_aload_n C dX6_clear_0 0 rfl ?_
  refine r_iconst (v := 0) C dX6_clear_1 (by decide) ?_
  refine r_ws (I' := [[(h, .inr (4, [.ref v, .int n]))], [(v, .inl (cI, 60, .inl f))]]) rfl ?_
  refine r_put (Cn := RX6) (T := TX6) (N := 2) C inT6 0 rfl rfl 1 (by decide) t_108 tyX6 tyX6_ok nmX6 rfl rfl rfl (Nat.le_of_ble_eq_true rfl) (I' := [[(h, .inr (4, [.ref v, .int 0]))], [(v, .inl (cI, 60, .inl f))]]) rfl dX6_clear_2 ?_
  refine r_ws (I' := [rowB cI h v 0 f]) rfl ?_
  have eF : F_X6_clear = 0 := by rfl
  exact r_vret (r := ()) C hA hr hlo dX6_clear_5 [rowB cI h v 0 f] (by simp only [eF]) rfl hQ
theorem k_X6_copy : kV yX6_copy cX6_copy 3 none 1 := ⟨t_367, t_368, t_61, t_369, by decide +kernel, by decide +kernel, by decide +kernel⟩
def F_X6_copy_L6 (n2 : Int32) (f2 : Nat → Int32) : Nat → Int32 → (Nat → Int32) → Int32 → Int32 × (Nat → Int32) × Int32
  | 0, y3, k4, y5 => (y3, k4, y5)
  | nn + 1, y3, k4, y5 => (if n2 ≤ y5 then ((y3, k4, y5)) else ((if 60 ≤ y5 then ((y3, k4, y5)) else (let r9 : Int32 := F_X6_at n2 f2 y5; let x12 : Int32 := (F_X6_add y3 k4 r9).1; let g13 : Nat → Int32 := (F_X6_add y3 k4 r9).2; let x14 : Int32 := y5 + 1; F_X6_copy_L6 n2 f2 nn x12 g13 x14))))
def P_X6_copy_L6 (n2 : Int32) (f2 : Nat → Int32) : Nat → Int32 → (Nat → Int32) → Int32 → Prop
  | 0, _, _, _ => False
  | nn + 1, y3, k4, y5 => ((n2 ≤ y5 → True) ∧ (¬ n2 ≤ y5 → ((60 ≤ y5 → True) ∧ (¬ 60 ≤ y5 → ((P_X6_at n2 y5) ∧ (∀ r9 : Int32, r9 = F_X6_at n2 f2 y5 → ((P_X6_add y3) ∧ (∀ x12 : Int32, x12 = (F_X6_add y3 k4 r9).1 → (∀ g13 : Nat → Int32, g13 = (F_X6_add y3 k4 r9).2 → (∀ x14 : Int32, x14 = y5 + 1 → (P_X6_copy_L6 n2 f2 nn x12 g13 x14)))))))))))
set_option maxRecDepth 20000 in
def F_X6_copy (f : Nat → Int32) (n2 : Int32) (f2 : Nat → Int32) : Int32 × (Nat → Int32) := let x2 : Int32 := F_X6_clear ; let z15 : Int32 := (F_X6_copy_L6 n2 f2 61 x2 f 0).1; let f16 : Nat → Int32 := (F_X6_copy_L6 n2 f2 61 x2 f 0).2.1; (z15, f16)
set_option maxRecDepth 20000 in
def P_X6_copy (f : Nat → Int32) (n2 : Int32) (f2 : Nat → Int32) : Prop := (∀ x2 : Int32, x2 = F_X6_clear  → (P_X6_copy_L6 n2 f2 61 x2 f 0))
set_option maxRecDepth 20000 in
set_option maxHeartbeats 8000000 in
theorem m_X6_copy (l : Launch) (D : va_G) (cI cL cP cJ : ClassId) (h : Nat) (v : Nat) (n : Int32) (f : Nat → Int32) (h2 : Nat) (v2 : Nat) (n2 : Int32) (f2 : Nat → Int32) (hp : P_X6_copy f n2 f2) : M vV l yX6_copy cX6_copy 3 none 1 21 D (tyF cI cL cP cJ) [.ref h, .ref h2] [rowB cI h v n f, rowB cI h2 v2 n2 f2] (fun (r : Unit) (w1 : List va_W) => w1 = [rowB cI h v ((F_X6_copy f n2 f2).1) ((F_X6_copy f n2 f2).2), rowB cI h2 v2 n2 f2]) := by
  unfold P_X6_copy at hp
  refine m_start (by decide +kernel) (Nat.le_of_ble_eq_true rfl) (fun p e s m args below meth c A Q hA hQ C hr hlo => ?_)
  refine r_Le (L' := [(0, .ref h), (1, .ref h2)]) rfl ?_
  refine r_aload_n C dX6_copy_0 0 rfl ?_
  refine r_callV (ci := 4) (wc := [rowB cI h v n f]) (wr := [rowB cI h2 v2 n2 f2]) (st := []) C (m_X6_clear l D cI cL cP cJ h v n f) k_X6_clear t_370 [0, 1] (show ([0, 1] : List Nat).Perm (List.range 2) by decide) rfl rfl rfl (q0 := 0) rfl rfl rfl (Nat.le_of_ble_eq_true rfl) ⟨Nat.le_of_ble_eq_true rfl, Nat.le_of_ble_eq_true rfl⟩ ⟨Nat.zero_le _, Nat.zero_le _⟩ dX6_copy_1 (fun r1 wr1 hw1 => ?_)
  obtain rfl := hw1
  obtain ⟨x2, e_x2⟩ : ∃ z : Int32, z = F_X6_clear  := ⟨_, rfl⟩
  have hp := hp x2 e_x2
  refine r_ws (I' := [rowB cI h v x2 f, rowB cI h2 v2 n2 f2]) (by rw [e_x2]; rfl) ?_
  refine r_iconst (v := 0) C dX6_copy_4 (by decide) ?_
  refine r_istore_n (L' := [(2, .int 0), (0, .ref h), (1, .ref h2)]) C dX6_copy_5 (by decide) rfl ?_
  have hpl := hp
  have hL : ∀ (nn : Nat) (y3 : Int32) (k4 : Nat → Int32) (y5 : Int32), P_X6_copy_L6 n2 f2 nn y3 k4 y5 → (∀ z15 : Int32, z15 = (F_X6_copy_L6 n2 f2 nn y3 k4 y5).1 → ∀ f16 : Nat → Int32, f16 = (F_X6_copy_L6 n2 f2 nn y3 k4 y5).2.1 → ∀ z17 : Int32, z17 = (F_X6_copy_L6 n2 f2 nn y3 k4 y5).2.2 → V p l e (rmm 1 21) s m args below meth c 3 D A 0 0 Q [rowB cI h v z15 f16, rowB cI h2 v2 n2 f2] [(2, .int z17), (0, .ref h), (1, .ref h2)] 38 []) → V p l e (rmm 1 21) s m args below meth c 3 D A 0 0 Q [rowB cI h v y3 k4, rowB cI h2 v2 n2 f2] [(2, .int y5), (0, .ref h), (1, .ref h2)] 6 [] := by
    clear hpl
    intro nn
    induction nn with
    | zero => intro y3 k4 y5 hp kk; rw [P_X6_copy_L6] at hp; exact hp.elim
    | succ nn ih =>
      intro y3 k4 y5 hp kk
      rw [P_X6_copy_L6] at hp
      refine r_iload_n C dX6_copy_6 0 rfl ?_
      refine r_aload_n C dX6_copy_7 2 rfl ?_
      refine r_ws (I' := [rowB cI h v y3 k4, [(h2, .inr (4, [.ref v2, .int n2]))], [(v2, .inl (cI, 60, .inl f2))]]) rfl ?_
      refine r_get (Cn := RX6) (T := TX6) (N := 2) C inT6 1 rfl rfl 1 (by decide) t_108 rfl dX6_copy_8 ?_
      refine r_icmp_ge (tgt := 38) C dX6_copy_11 (by decide) (fun c6 => ?_) (fun c6 => ?_)
      · refine r_ws (I' := [rowB cI h v y3 k4, rowB cI h2 v2 n2 f2]) rfl ?_
        have eF : F_X6_copy_L6 n2 f2 (nn + 1) y3 k4 y5 = (y3, k4, y5) := by simp only [F_X6_copy_L6, if_pos c6]
        exact kk _ (by rw [eF]) _ (by rw [eF]) _ (by rw [eF])
      · have hp := hp.2 c6
        refine r_iload_n C dX6_copy_14 0 rfl ?_
        refine r_aload_n C dX6_copy_15 1 rfl ?_
        refine r_ws (I' := [[(h, .inr (4, [.ref v, .int y3]))], [(v, .inl (cI, 60, .inl k4))], [(h2, .inr (4, [.ref v2, .int n2]))], [(v2, .inl (cI, 60, .inl f2))]]) rfl ?_
        refine r_get (Cn := RX6) (T := TX6) (N := 2) C inT6 0 rfl rfl 0 (by decide) t_107 rfl dX6_copy_16 ?_
        refine r_alen (v := 60) C 1 0 rfl rfl rfl dX6_copy_19 ?_
        refine r_icmp_ge (tgt := 38) C dX6_copy_20 (by decide) (fun c7 => ?_) (fun c7 => ?_)
        · refine r_ws (I' := [rowB cI h v y3 k4, [(h2, .inr (4, [.ref v2, .int n2]))], [(v2, .inl (cI, 60, .inl f2))]]) rfl ?_
          refine r_ws (I' := [rowB cI h v y3 k4, rowB cI h2 v2 n2 f2]) rfl ?_
          have eF : F_X6_copy_L6 n2 f2 (nn + 1) y3 k4 y5 = (y3, k4, y5) := by simp only [F_X6_copy_L6, if_neg c6, if_pos c7]
          exact kk _ (by rw [eF]) _ (by rw [eF]) _ (by rw [eF])
        · have hp := hp.2 c7
          refine r_aload_n C dX6_copy_23 1 rfl ?_
          refine r_aload_n C dX6_copy_24 2 rfl ?_
          refine r_iload_n C dX6_copy_25 0 rfl ?_
          refine r_ws (I' := [[(h, .inr (4, [.ref v, .int y3]))], [(v, .inl (cI, 60, .inl k4))], rowB cI h2 v2 n2 f2]) rfl ?_
          obtain ⟨h8, hp⟩ := hp
          refine r_callV (ci := 4) (wc := [rowB cI h2 v2 n2 f2]) (wr := [[(h, .inr (4, [.ref v, .int y3]))], [(v, .inl (cI, 60, .inl k4))]]) (st := [.ref h]) C (m_X6_at l D cI cL cP cJ h2 v2 n2 f2 y5 h8) k_X6_at t_371 [2, 0, 1] (show ([2, 0, 1] : List Nat).Perm (List.range 3) by decide) rfl rfl rfl (q0 := 0) rfl rfl rfl (Nat.le_of_ble_eq_true rfl) ⟨Nat.le_of_ble_eq_true rfl, Nat.le_of_ble_eq_true rfl⟩ ⟨Nat.zero_le _, Nat.zero_le _⟩ dX6_copy_26 (fun r9 wr9 hw9 => ?_)
          obtain ⟨e_r9, rfl⟩ := hw9
          have hp := hp r9 e_r9
          refine r_ws (I' := [rowB cI h2 v2 n2 f2, [(h, .inr (4, [.ref v, .int y3]))], [(v, .inl (cI, 60, .inl k4))]]) rfl ?_
          refine r_ws (I' := [rowB cI h2 v2 n2 f2, rowB cI h v y3 k4]) rfl ?_
          obtain ⟨h10, hp⟩ := hp
          refine r_callV (ci := 4) (wc := [rowB cI h v y3 k4]) (wr := [rowB cI h2 v2 n2 f2]) (st := []) C (m_X6_add l D cI cL cP cJ h v y3 k4 r9 h10) k_X6_add t_372 [1, 0] (show ([1, 0] : List Nat).Perm (List.range 2) by decide) rfl rfl rfl (q0 := 0) rfl rfl rfl (Nat.le_of_ble_eq_true rfl) ⟨Nat.le_of_ble_eq_true rfl, Nat.le_of_ble_eq_true rfl⟩ ⟨Nat.zero_le _, Nat.zero_le _⟩ dX6_copy_29 (fun r11 wr11 hw11 => ?_)
          obtain rfl := hw11
          obtain ⟨x12, e_x12⟩ : ∃ z : Int32, z = (F_X6_add y3 k4 r9).1 := ⟨_, rfl⟩
          have hp := hp x12 e_x12
          obtain ⟨g13, e_g13⟩ : ∃ z : Nat → Int32, z = (F_X6_add y3 k4 r9).2 := ⟨_, rfl⟩
          have hp := hp g13 e_g13
          refine r_ws (I' := [rowB cI h v x12 g13, rowB cI h2 v2 n2 f2]) (by rw [e_x12, e_g13]; rfl) ?_
          obtain ⟨x14, e_x14⟩ : ∃ z : Int32, z = y5 + 1 := ⟨_, rfl⟩
          have hp := hp x14 e_x14
          refine r_iinc (v := x14) (L' := [(2, .int x14), (0, .ref h), (1, .ref h2)]) C dX6_copy_32 0 rfl (by rw [e_x14]; exact ii (by decide)) (by decide) rfl ?_
          refine r_goto (tgt := 6) C dX6_copy_35 (by decide) ?_
          have eF : F_X6_copy_L6 n2 f2 (nn + 1) y3 k4 y5 = F_X6_copy_L6 n2 f2 nn x12 g13 x14 := by have q := e_r9.symm; subst q; have q := e_x12.symm; subst q; have q := e_g13.symm; subst q; have q := e_x14.symm; subst q; simp only [F_X6_copy_L6, if_neg c6, if_neg c7]
          exact ih x12 g13 x14 hp (fun z15 e_z15 f16 e_f16 z17 e_z17 => kk z15 (by rw [eF]; exact e_z15) f16 (by rw [eF]; exact e_f16) z17 (by rw [eF]; exact e_z17))
  refine hL 61 x2 f 0 hpl (fun z15 e_z15 f16 e_f16 z17 e_z17 => ?_)
  clear hL hpl
  have eF : F_X6_copy f n2 f2 = (z15, f16) := by have q := e_x2.symm; subst q; have q := e_z15.symm; subst q; have q := e_f16.symm; subst q; have q := e_z17.symm; subst q; rfl
  exact r_vret (r := ()) C hA hr hlo dX6_copy_38 [rowB cI h v z15 f16, rowB cI h2 v2 n2 f2] (by simp only [eF]) rfl hQ
abbrev letB (cI : ClassId) (o : Nat) (h : Nat) (v : Nat) (lie : Int32) (seals : Int32) (folds : Int32) (n : Int32) (f : Nat → Int32) : va_W := [(o, .inr (1, [.ref h, .int lie, .int seals, .int folds])), (h, .inr (4, [.ref v, .int n])), (v, .inl (cI, 60, .inl f))]
theorem k_X2_copy : kV yX2_copy cX2_copy 2 none 1 := ⟨t_363, t_364, t_60, t_365, by decide +kernel, by decide +kernel, by decide +kernel⟩
set_option maxRecDepth 20000 in
def F_X2_copy (f : Nat → Int32) (lie2 : Int32) (seals2 : Int32) (folds2 : Int32) (n2 : Int32) (f2 : Nat → Int32) : Int32 × Int32 × Int32 × Int32 × (Nat → Int32) := let x3 : Int32 := (F_X6_copy f n2 f2).1; let g4 : Nat → Int32 := (F_X6_copy f n2 f2).2; (lie2, seals2, folds2, x3, g4)
set_option maxRecDepth 20000 in
def P_X2_copy (f : Nat → Int32) (n2 : Int32) (f2 : Nat → Int32) : Prop := (P_X6_copy f n2 f2)
set_option maxRecDepth 20000 in
set_option maxHeartbeats 8000000 in
theorem m_X2_copy (l : Launch) (D : va_G) (cI cL cP cJ : ClassId) (o : Nat) (h : Nat) (v : Nat) (lie : Int32) (seals : Int32) (folds : Int32) (n : Int32) (f : Nat → Int32) (o2 : Nat) (h2 : Nat) (v2 : Nat) (lie2 : Int32) (seals2 : Int32) (folds2 : Int32) (n2 : Int32) (f2 : Nat → Int32) (hp : P_X2_copy f n2 f2) : M vV l yX2_copy cX2_copy 2 none 2 43 D (tyF cI cL cP cJ) [.ref o, .ref o2] [letB cI o h v lie seals folds n f, letB cI o2 h2 v2 lie2 seals2 folds2 n2 f2] (fun (r : Unit) (w1 : List va_W) => w1 = [letB cI o h v ((F_X2_copy f lie2 seals2 folds2 n2 f2).1) ((F_X2_copy f lie2 seals2 folds2 n2 f2).2.1) ((F_X2_copy f lie2 seals2 folds2 n2 f2).2.2.1) ((F_X2_copy f lie2 seals2 folds2 n2 f2).2.2.2.1) ((F_X2_copy f lie2 seals2 folds2 n2 f2).2.2.2.2), letB cI o2 h2 v2 lie2 seals2 folds2 n2 f2]) := by
  unfold P_X2_copy at hp
  refine m_start (by decide +kernel) (Nat.le_of_ble_eq_true rfl) (fun p e s m args below meth c A Q hA hQ C hr hlo => ?_)
  refine r_Le (L' := [(0, .ref o), (1, .ref o2)]) rfl ?_
  refine r_aload_n C dX2_copy_0 0 rfl ?_
  refine r_ws (I' := [[(o, .inr (1, [.ref h, .int lie, .int seals, .int folds]))], [(h, .inr (4, [.ref v, .int n]))], [(v, .inl (cI, 60, .inl f))], letB cI o2 h2 v2 lie2 seals2 folds2 n2 f2]) rfl ?_
  refine r_get (Cn := RX2) (T := TX2) (N := 4) C inT2 0 rfl rfl 0 (by decide) t_115 rfl dX2_copy_1 ?_
  refine r_aload_n C dX2_copy_4 1 rfl ?_
  refine r_ws (I' := [[(o, .inr (1, [.ref h, .int lie, .int seals, .int folds]))], [(h, .inr (4, [.ref v, .int n]))], [(v, .inl (cI, 60, .inl f))], [(o2, .inr (1, [.ref h2, .int lie2, .int seals2, .int folds2]))], [(h2, .inr (4, [.ref v2, .int n2]))], [(v2, .inl (cI, 60, .inl f2))]]) rfl ?_
  refine r_get (Cn := RX2) (T := TX2) (N := 4) C inT2 3 rfl rfl 0 (by decide) t_115 rfl dX2_copy_5 ?_
  refine r_ws (I' := [[(o, .inr (1, [.ref h, .int lie, .int seals, .int folds]))], rowB cI h v n f, [(o2, .inr (1, [.ref h2, .int lie2, .int seals2, .int folds2]))], [(h2, .inr (4, [.ref v2, .int n2]))], [(v2, .inl (cI, 60, .inl f2))]]) rfl ?_
  refine r_ws (I' := [[(o, .inr (1, [.ref h, .int lie, .int seals, .int folds]))], rowB cI h v n f, [(o2, .inr (1, [.ref h2, .int lie2, .int seals2, .int folds2]))], rowB cI h2 v2 n2 f2]) rfl ?_
  have h1 := hp
  refine r_callV (ci := 4) (wc := [rowB cI h v n f, rowB cI h2 v2 n2 f2]) (wr := [[(o, .inr (1, [.ref h, .int lie, .int seals, .int folds]))], [(o2, .inr (1, [.ref h2, .int lie2, .int seals2, .int folds2]))]]) (st := []) C (m_X6_copy l D cI cL cP cJ h v n f h2 v2 n2 f2 h1) k_X6_copy t_366 [1, 3, 0, 2] (show ([1, 3, 0, 2] : List Nat).Perm (List.range 4) by decide) rfl rfl rfl (q0 := 0) rfl rfl rfl (Nat.le_of_ble_eq_true rfl) ⟨Nat.le_of_ble_eq_true rfl, Nat.le_of_ble_eq_true rfl⟩ ⟨Nat.zero_le _, Nat.zero_le _⟩ dX2_copy_8 (fun r2 wr2 hw2 => ?_)
  obtain rfl := hw2
  obtain ⟨x3, e_x3⟩ : ∃ z : Int32, z = (F_X6_copy f n2 f2).1 := ⟨_, rfl⟩
  obtain ⟨g4, e_g4⟩ : ∃ z : Nat → Int32, z = (F_X6_copy f n2 f2).2 := ⟨_, rfl⟩
  refine r_ws (I' := [rowB cI h v x3 g4, rowB cI h2 v2 n2 f2, [(o, .inr (1, [.ref h, .int lie, .int seals, .int folds]))], [(o2, .inr (1, [.ref h2, .int lie2, .int seals2, .int folds2]))]]) (by rw [e_x3, e_g4]; rfl) ?_
  refine r_aload_n C dX2_copy_11 0 rfl ?_
  refine r_aload_n C dX2_copy_12 1 rfl ?_
  refine r_get (Cn := RX2) (T := TX2) (N := 4) C inT2 3 rfl rfl 1 (by decide) t_116 rfl dX2_copy_13 ?_
  refine r_put (Cn := RX2) (T := TX2) (N := 4) C inT2 2 rfl rfl 1 (by decide) t_116 tyX2 tyX2_ok nmX2 rfl rfl rfl (Nat.le_of_ble_eq_true rfl) (I' := [rowB cI h v x3 g4, rowB cI h2 v2 n2 f2, [(o, .inr (1, [.ref h, .int lie2, .int seals, .int folds]))], [(o2, .inr (1, [.ref h2, .int lie2, .int seals2, .int folds2]))]]) rfl dX2_copy_16 ?_
  refine r_aload_n C dX2_copy_19 0 rfl ?_
  refine r_aload_n C dX2_copy_20 1 rfl ?_
  refine r_get (Cn := RX2) (T := TX2) (N := 4) C inT2 3 rfl rfl 2 (by decide) t_117 rfl dX2_copy_21 ?_
  refine r_put (Cn := RX2) (T := TX2) (N := 4) C inT2 2 rfl rfl 2 (by decide) t_117 tyX2 tyX2_ok nmX2 rfl rfl rfl (Nat.le_of_ble_eq_true rfl) (I' := [rowB cI h v x3 g4, rowB cI h2 v2 n2 f2, [(o, .inr (1, [.ref h, .int lie2, .int seals2, .int folds]))], [(o2, .inr (1, [.ref h2, .int lie2, .int seals2, .int folds2]))]]) rfl dX2_copy_24 ?_
  refine r_aload_n C dX2_copy_27 0 rfl ?_
  refine r_aload_n C dX2_copy_28 1 rfl ?_
  refine r_get (Cn := RX2) (T := TX2) (N := 4) C inT2 3 rfl rfl 3 (by decide) t_118 rfl dX2_copy_29 ?_
  refine r_put (Cn := RX2) (T := TX2) (N := 4) C inT2 2 rfl rfl 3 (by decide) t_118 tyX2 tyX2_ok nmX2 rfl rfl rfl (Nat.le_of_ble_eq_true rfl) (I' := [rowB cI h v x3 g4, rowB cI h2 v2 n2 f2, [(o, .inr (1, [.ref h, .int lie2, .int seals2, .int folds2]))], [(o2, .inr (1, [.ref h2, .int lie2, .int seals2, .int folds2]))]]) rfl dX2_copy_32 ?_
  refine r_ws (I' := [[(h, .inr (4, [.ref v, .int x3]))], [(v, .inl (cI, 60, .inl g4))], rowB cI h2 v2 n2 f2, [(o, .inr (1, [.ref h, .int lie2, .int seals2, .int folds2]))], [(o2, .inr (1, [.ref h2, .int lie2, .int seals2, .int folds2]))]]) rfl ?_
  refine r_pl (I' := [[(o, .inr (1, [.ref h, .int lie2, .int seals2, .int folds2]))], [(h, .inr (4, [.ref v, .int x3]))], [(v, .inl (cI, 60, .inl g4))], rowB cI h2 v2 n2 f2, [(o2, .inr (1, [.ref h2, .int lie2, .int seals2, .int folds2]))]]) [3, 0, 1, 2, 4] (show ([3, 0, 1, 2, 4] : List Nat).Perm (List.range 5) by decide) rfl ?_
  refine r_ws (I' := [letB cI o h v lie2 seals2 folds2 x3 g4, rowB cI h2 v2 n2 f2, [(o2, .inr (1, [.ref h2, .int lie2, .int seals2, .int folds2]))]]) rfl ?_
  refine r_ws (I' := [letB cI o h v lie2 seals2 folds2 x3 g4, [(h2, .inr (4, [.ref v2, .int n2]))], [(v2, .inl (cI, 60, .inl f2))], [(o2, .inr (1, [.ref h2, .int lie2, .int seals2, .int folds2]))]]) rfl ?_
  refine r_pl (I' := [[(o2, .inr (1, [.ref h2, .int lie2, .int seals2, .int folds2]))], [(h2, .inr (4, [.ref v2, .int n2]))], [(v2, .inl (cI, 60, .inl f2))], letB cI o h v lie2 seals2 folds2 x3 g4]) [3, 1, 2, 0] (show ([3, 1, 2, 0] : List Nat).Perm (List.range 4) by decide) rfl ?_
  refine r_ws (I' := [letB cI o2 h2 v2 lie2 seals2 folds2 n2 f2, letB cI o h v lie2 seals2 folds2 x3 g4]) rfl ?_
  refine r_pl (I' := [letB cI o h v lie2 seals2 folds2 x3 g4, letB cI o2 h2 v2 lie2 seals2 folds2 n2 f2]) [1, 0] (show ([1, 0] : List Nat).Perm (List.range 2) by decide) rfl ?_
  have eF : F_X2_copy f lie2 seals2 folds2 n2 f2 = (lie2, seals2, folds2, x3, g4) := by have q := e_x3.symm; subst q; have q := e_g4.symm; subst q; rfl
  exact r_vret (r := ()) C hA hr hlo dX2_copy_35 [letB cI o h v lie2 seals2 folds2 x3 g4, letB cI o2 h2 v2 lie2 seals2 folds2 n2 f2] (by simp only [eF]) rfl hQ
theorem k_X2_lie : kV yX2_lie cX2_lie 1 (some .int) 0 := ⟨t_468, t_469, t_60, t_470, by decide +kernel, by decide +kernel, by decide +kernel⟩
set_option maxRecDepth 20000 in
def F_X2_lie (lie : Int32) : Int32 := lie
set_option maxRecDepth 20000 in
set_option maxHeartbeats 8000000 in
theorem m_X2_lie (l : Launch) (D : va_G) (cI cL cP cJ : ClassId) (o : Nat) (h : Nat) (v : Nat) (lie : Int32) (seals : Int32) (folds : Int32) (n : Int32) (f : Nat → Int32) : M vI l yX2_lie cX2_lie 1 (some .int) 0 0 D (tyF cI cL cP cJ) [.ref o] [letB cI o h v lie seals folds n f] (fun (r : Int32) (w1 : List va_W) => r = (F_X2_lie lie) ∧ w1 = [letB cI o h v lie seals folds n f]) := by
  refine m_start (by decide +kernel) (Nat.le_of_ble_eq_true rfl) (fun p e s m args below meth c A Q hA hQ C hr hlo => ?_)
  refine r_Le (L' := [(0, .ref o)]) rfl ?_
  refine r_aload_n C dX2_lie_0 0 rfl ?_
  refine r_ws (I' := [[(o, .inr (1, [.ref h, .int lie, .int seals, .int folds]))], [(h, .inr (4, [.ref v, .int n]))], [(v, .inl (cI, 60, .inl f))]]) rfl ?_
  refine r_get (Cn := RX2) (T := TX2) (N := 4) C inT2 0 rfl rfl 1 (by decide) t_116 rfl dX2_lie_1 ?_
  refine r_ws (I' := [letB cI o h v lie seals folds n f]) rfl ?_
  have eF : F_X2_lie lie = lie := by rfl
  exact r_iret (r := lie) C hA hr hlo dX2_lie_4 [letB cI o h v lie seals folds n f] ⟨by simp only [eF], rfl⟩ rfl hQ
theorem k_X2_remembered : kV yX2_remembered cX2_remembered 1 (some (.object "FoldedLetters$Row")) 0 := ⟨t_541, t_542, t_60, t_543, by decide +kernel, by decide +kernel, by decide +kernel⟩
set_option maxRecDepth 20000 in
set_option maxHeartbeats 8000000 in
theorem m_X2_remembered (l : Launch) (D : va_G) (cI cL cP cJ : ClassId) (o : Nat) (h : Nat) (v : Nat) (lie : Int32) (seals : Int32) (folds : Int32) (n : Int32) (f : Nat → Int32) : M vR l yX2_remembered cX2_remembered 1 (some (.object "FoldedLetters$Row")) 0 0 D (tyF cI cL cP cJ) [.ref o] [letB cI o h v lie seals folds n f] (fun (r : Nat) (w1 : List va_W) => r = h ∧ w1 = [letB cI o h v lie seals folds n f]) := by
  refine m_start (by decide +kernel) (Nat.le_of_ble_eq_true rfl) (fun p e s m args below meth c A Q hA hQ C hr hlo => ?_)
  refine r_Le (L' := [(0, .ref o)]) rfl ?_
  refine r_aload_n C dX2_remembered_0 0 rfl ?_
  refine r_ws (I' := [[(o, .inr (1, [.ref h, .int lie, .int seals, .int folds]))], [(h, .inr (4, [.ref v, .int n]))], [(v, .inl (cI, 60, .inl f))]]) rfl ?_
  refine r_get (Cn := RX2) (T := TX2) (N := 4) C inT2 0 rfl rfl 0 (by decide) t_115 rfl dX2_remembered_1 ?_
  refine r_ws (I' := [letB cI o h v lie seals folds n f]) rfl ?_
  exact r_aret (r := h) C hA hr (Or.inl ⟨_, rfl⟩) hlo dX2_remembered_4 [letB cI o h v lie seals folds n f] ⟨rfl, rfl⟩ rfl hQ
theorem k_X2_latestCrease : kV yX2_latestCrease cX2_latestCrease 1 (some .int) 0 := ⟨t_717, t_718, t_60, t_719, by decide +kernel, by decide +kernel, by decide +kernel⟩
set_option maxRecDepth 20000 in
def F_X2_latestCrease (n : Int32) (f : Nat → Int32) : Int32 := let r1 : Int32 := F_X6_size n; let r3 : Int32 := F_X6_at n f (r1 - 1); r3
set_option maxRecDepth 20000 in
def P_X2_latestCrease (n : Int32) : Prop := (∀ r1 : Int32, r1 = F_X6_size n → (P_X6_at n (r1 - 1)))
set_option maxRecDepth 20000 in
set_option maxHeartbeats 8000000 in
theorem m_X2_latestCrease (l : Launch) (D : va_G) (cI cL cP cJ : ClassId) (o : Nat) (h : Nat) (v : Nat) (lie : Int32) (seals : Int32) (folds : Int32) (n : Int32) (f : Nat → Int32) (hp : P_X2_latestCrease n) : M vI l yX2_latestCrease cX2_latestCrease 1 (some .int) 1 21 D (tyF cI cL cP cJ) [.ref o] [letB cI o h v lie seals folds n f] (fun (r : Int32) (w1 : List va_W) => r = (F_X2_latestCrease n f) ∧ w1 = [letB cI o h v lie seals folds n f]) := by
  unfold P_X2_latestCrease at hp
  refine m_start (by decide +kernel) (Nat.le_of_ble_eq_true rfl) (fun p e s m args below meth c A Q hA hQ C hr hlo => ?_)
  refine r_Le (L' := [(0, .ref o)]) rfl ?_
  refine r_aload_n C dX2_latestCrease_0 0 rfl ?_
  refine r_ws (I' := [[(o, .inr (1, [.ref h, .int lie, .int seals, .int folds]))], [(h, .inr (4, [.ref v, .int n]))], [(v, .inl (cI, 60, .inl f))]]) rfl ?_
  refine r_get (Cn := RX2) (T := TX2) (N := 4) C inT2 0 rfl rfl 0 (by decide) t_115 rfl dX2_latestCrease_1 ?_
  refine r_aload_n C dX2_latestCrease_4 0 rfl ?_
  refine r_get (Cn := RX2) (T := TX2) (N := 4) C inT2 0 rfl rfl 0 (by decide) t_115 rfl dX2_latestCrease_5 ?_
  refine r_ws (I' := [[(o, .inr (1, [.ref h, .int lie, .int seals, .int folds]))], rowB cI h v n f]) rfl ?_
  refine r_callV (ci := 4) (wc := [rowB cI h v n f]) (wr := [[(o, .inr (1, [.ref h, .int lie, .int seals, .int folds]))]]) (st := [.ref h]) C (m_X6_size l D cI cL cP cJ h v n f) k_X6_size t_402 [1, 0] (show ([1, 0] : List Nat).Perm (List.range 2) by decide) rfl rfl rfl (q0 := 0) rfl rfl rfl (Nat.le_of_ble_eq_true rfl) ⟨Nat.le_of_ble_eq_true rfl, Nat.le_of_ble_eq_true rfl⟩ ⟨Nat.zero_le _, Nat.zero_le _⟩ dX2_latestCrease_8 (fun r1 wr1 hw1 => ?_)
  obtain ⟨e_r1, rfl⟩ := hw1
  have hp := hp r1 e_r1
  refine r_ws (I' := [rowB cI h v n f, [(o, .inr (1, [.ref h, .int lie, .int seals, .int folds]))]]) rfl ?_
  refine r_iconst (v := 1) C dX2_latestCrease_11 (by decide) ?_
  refine r_isub C dX2_latestCrease_12 rfl ?_
  have h2 := hp
  refine r_callV (ci := 4) (wc := [rowB cI h v n f]) (wr := [[(o, .inr (1, [.ref h, .int lie, .int seals, .int folds]))]]) (st := []) C (m_X6_at l D cI cL cP cJ h v n f (r1 - 1) h2) k_X6_at t_707 [0, 1] (show ([0, 1] : List Nat).Perm (List.range 2) by decide) rfl rfl rfl (q0 := 0) rfl rfl rfl (Nat.le_of_ble_eq_true rfl) ⟨Nat.le_of_ble_eq_true rfl, Nat.le_of_ble_eq_true rfl⟩ ⟨Nat.zero_le _, Nat.zero_le _⟩ dX2_latestCrease_13 (fun r3 wr3 hw3 => ?_)
  obtain ⟨e_r3, rfl⟩ := hw3
  refine r_ws (I' := [rowB cI h v n f, [(o, .inr (1, [.ref h, .int lie, .int seals, .int folds]))]]) rfl ?_
  refine r_ws (I' := [[(h, .inr (4, [.ref v, .int n]))], [(v, .inl (cI, 60, .inl f))], [(o, .inr (1, [.ref h, .int lie, .int seals, .int folds]))]]) rfl ?_
  refine r_pl (I' := [[(o, .inr (1, [.ref h, .int lie, .int seals, .int folds]))], [(h, .inr (4, [.ref v, .int n]))], [(v, .inl (cI, 60, .inl f))]]) [2, 0, 1] (show ([2, 0, 1] : List Nat).Perm (List.range 3) by decide) rfl ?_
  refine r_ws (I' := [letB cI o h v lie seals folds n f]) rfl ?_
  have eF : F_X2_latestCrease n f = r3 := by have q := e_r1.symm; subst q; have q := e_r3.symm; subst q; rfl
  exact r_iret (r := r3) C hA hr hlo dX2_latestCrease_16 [letB cI o h v lie seals folds n f] ⟨by simp only [eF], rfl⟩ rfl hQ
theorem k_X2_touchesSeal : kV yX2_touchesSeal cX2_touchesSeal 3 (some .boolean) 1 := ⟨t_442, t_443, t_60, t_444, by decide +kernel, by decide +kernel, by decide +kernel⟩
set_option maxRecDepth 20000 in
def F_X2_touchesSeal (seals : Int32) (i : Int32) : Int32 := let x2 : Int32 := (if i = 0 then (1) else ((3 : Int32) <<< ((i - 1) &&& 31))); let x4 : Int32 := (if (seals &&& x2) = 0 then (0) else (1)); x4
set_option maxRecDepth 20000 in
set_option maxHeartbeats 8000000 in
theorem m_X2_touchesSeal (l : Launch) (D : va_G) (cI cL cP cJ : ClassId) (o : Nat) (h : Nat) (v : Nat) (lie : Int32) (seals : Int32) (folds : Int32) (n : Int32) (f : Nat → Int32) (i : Int32) : M vI l yX2_touchesSeal cX2_touchesSeal 3 (some .boolean) 0 0 D (tyF cI cL cP cJ) [.ref o, .int i] [letB cI o h v lie seals folds n f] (fun (r : Int32) (w1 : List va_W) => r = (F_X2_touchesSeal seals i) ∧ w1 = [letB cI o h v lie seals folds n f]) := by
  refine m_start (by decide +kernel) (Nat.le_of_ble_eq_true rfl) (fun p e s m args below meth c A Q hA hQ C hr hlo => ?_)
  refine r_Le (L' := [(0, .ref o), (1, .int i)]) rfl ?_
  refine r_iload_n C dX2_touchesSeal_0 1 rfl ?_
  suffices K : ∀ x2 : Int32, x2 = ((if i = 0 then (1) else ((3 : Int32) <<< ((i - 1) &&& 31)))) → V p l e (rmm 0 0) s m args below meth c 3 D A 0 0 Q [letB cI o h v lie seals folds n f] [(0, .ref o), (1, .int i)] 13 [.int x2] by
    refine r_if_ne (tgt := 8) C dX2_touchesSeal_1 (by decide) (fun c1 => ?_) (fun c1 => ?_)
    · refine r_iconst (v := 3) C dX2_touchesSeal_8 (by decide) ?_
      refine r_iload_n C dX2_touchesSeal_9 1 rfl ?_
      refine r_iconst (v := 1) C dX2_touchesSeal_10 (by decide) ?_
      refine r_isub C dX2_touchesSeal_11 rfl ?_
      refine r_ishl C dX2_touchesSeal_12 rfl ?_
      exact K _ (by simp only [if_neg c1])
    · refine r_iconst (v := 1) C dX2_touchesSeal_4 (by decide) ?_
      refine r_goto (tgt := 13) C dX2_touchesSeal_5 (by decide) ?_
      exact K _ (by simp only [if_pos c1])
  intro x2 e_x2
  refine r_istore_n (L' := [(2, .int x2), (0, .ref o), (1, .int i)]) C dX2_touchesSeal_13 (by decide) rfl ?_
  refine r_aload_n C dX2_touchesSeal_14 1 rfl ?_
  refine r_ws (I' := [[(o, .inr (1, [.ref h, .int lie, .int seals, .int folds]))], [(h, .inr (4, [.ref v, .int n]))], [(v, .inl (cI, 60, .inl f))]]) rfl ?_
  refine r_get (Cn := RX2) (T := TX2) (N := 4) C inT2 0 rfl rfl 2 (by decide) t_117 rfl dX2_touchesSeal_15 ?_
  refine r_iload_n C dX2_touchesSeal_18 0 rfl ?_
  refine r_iand C dX2_touchesSeal_19 rfl ?_
  suffices K : ∀ x4 : Int32, x4 = ((if (seals &&& x2) = 0 then (0) else (1))) → V p l e (rmm 0 0) s m args below meth c 3 D A 0 0 Q [[(o, .inr (1, [.ref h, .int lie, .int seals, .int folds]))], [(h, .inr (4, [.ref v, .int n]))], [(v, .inl (cI, 60, .inl f))]] [(2, .int x2), (0, .ref o), (1, .int i)] 28 [.int x4] by
    refine r_if_eq (tgt := 27) C dX2_touchesSeal_20 (by decide) (fun c3 => ?_) (fun c3 => ?_)
    · refine r_iconst (v := 0) C dX2_touchesSeal_27 (by decide) ?_
      exact K _ (by simp only [if_pos c3])
    · refine r_iconst (v := 1) C dX2_touchesSeal_23 (by decide) ?_
      refine r_goto (tgt := 28) C dX2_touchesSeal_24 (by decide) ?_
      exact K _ (by simp only [if_neg c3])
  intro x4 e_x4
  refine r_ws (I' := [letB cI o h v lie seals folds n f]) rfl ?_
  have eF : F_X2_touchesSeal seals i = x4 := by have q := e_x2.symm; subst q; have q := e_x4.symm; subst q; rfl
  exact r_zret (r := x4) C hA hr hlo (nb01 (by first | (rw [e_x4]; (try dsimp only); ((repeat' split) <;> (first | exact Or.inl rfl | exact Or.inr rfl))) | (have q := e_x2.symm; subst q; have q := e_x4.symm; subst q; (try dsimp only); ((repeat' split) <;> (first | exact Or.inl rfl | exact Or.inr rfl))))) dX2_touchesSeal_28 [letB cI o h v lie seals folds n f] ⟨by simp only [eF], rfl⟩ rfl hQ
theorem k_X2_reasonAgainst : kV yX2_reasonAgainst cX2_reasonAgainst 2 (some .int) 1 := ⟨t_434, t_435, t_60, t_436, by decide +kernel, by decide +kernel, by decide +kernel⟩
set_option maxRecDepth 20000 in
def F_X2_reasonAgainst (seals : Int32) (n : Int32) (i : Int32) : Int32 := let r1 : Int32 := F_X6_isFull n; (if r1 = 0 then (let r3 : Int32 := F_X2_touchesSeal seals i; let x5 : Int32 := (if r3 = 0 then (0) else (2)); x5) else (1))
set_option maxRecDepth 20000 in
set_option maxHeartbeats 8000000 in
theorem m_X2_reasonAgainst (l : Launch) (D : va_G) (cI cL cP cJ : ClassId) (o : Nat) (h : Nat) (v : Nat) (lie : Int32) (seals : Int32) (folds : Int32) (n : Int32) (f : Nat → Int32) (i : Int32) : M vI l yX2_reasonAgainst cX2_reasonAgainst 2 (some .int) 1 22 D (tyF cI cL cP cJ) [.ref o, .int i] [letB cI o h v lie seals folds n f] (fun (r : Int32) (w1 : List va_W) => r = (F_X2_reasonAgainst seals n i) ∧ w1 = [letB cI o h v lie seals folds n f]) := by
  refine m_start (by decide +kernel) (Nat.le_of_ble_eq_true rfl) (fun p e s m args below meth c A Q hA hQ C hr hlo => ?_)
  refine r_Le (L' := [(0, .ref o), (1, .int i)]) rfl ?_
  refine r_aload_n C dX2_reasonAgainst_0 0 rfl ?_
  refine r_ws (I' := [[(o, .inr (1, [.ref h, .int lie, .int seals, .int folds]))], [(h, .inr (4, [.ref v, .int n]))], [(v, .inl (cI, 60, .inl f))]]) rfl ?_
  refine r_get (Cn := RX2) (T := TX2) (N := 4) C inT2 0 rfl rfl 0 (by decide) t_115 rfl dX2_reasonAgainst_1 ?_
  refine r_ws (I' := [[(o, .inr (1, [.ref h, .int lie, .int seals, .int folds]))], rowB cI h v n f]) rfl ?_
  refine r_callV (ci := 4) (wc := [rowB cI h v n f]) (wr := [[(o, .inr (1, [.ref h, .int lie, .int seals, .int folds]))]]) (st := []) C (m_X6_isFull l D cI cL cP cJ h v n f) k_X6_isFull t_437 [1, 0] (show ([1, 0] : List Nat).Perm (List.range 2) by decide) rfl rfl rfl (q0 := 0) rfl rfl rfl (Nat.le_of_ble_eq_true rfl) ⟨Nat.le_of_ble_eq_true rfl, Nat.le_of_ble_eq_true rfl⟩ ⟨Nat.zero_le _, Nat.zero_le _⟩ dX2_reasonAgainst_4 (fun r1 wr1 hw1 => ?_)
  obtain ⟨e_r1, rfl⟩ := hw1
  refine r_ws (I' := [rowB cI h v n f, [(o, .inr (1, [.ref h, .int lie, .int seals, .int folds]))]]) rfl ?_
  refine r_if_eq (tgt := 12) C dX2_reasonAgainst_7 (by decide) (fun c2 => ?_) (fun c2 => ?_)
  · refine r_aload_n C dX2_reasonAgainst_12 0 rfl ?_
    refine r_iload_n C dX2_reasonAgainst_13 1 rfl ?_
    refine r_ws (I' := [[(h, .inr (4, [.ref v, .int n]))], [(v, .inl (cI, 60, .inl f))], [(o, .inr (1, [.ref h, .int lie, .int seals, .int folds]))]]) rfl ?_
    refine r_pl (I' := [[(o, .inr (1, [.ref h, .int lie, .int seals, .int folds]))], [(h, .inr (4, [.ref v, .int n]))], [(v, .inl (cI, 60, .inl f))]]) [2, 0, 1] (show ([2, 0, 1] : List Nat).Perm (List.range 3) by decide) rfl ?_
    refine r_ws (I' := [letB cI o h v lie seals folds n f]) rfl ?_
    refine r_callV (ci := 1) (wc := [letB cI o h v lie seals folds n f]) (wr := []) (st := []) C (m_X2_touchesSeal l D cI cL cP cJ o h v lie seals folds n f i) k_X2_touchesSeal t_441 [0] (show ([0] : List Nat).Perm (List.range 1) by decide) rfl rfl rfl (q0 := 0) rfl rfl rfl (Nat.le_of_ble_eq_true rfl) ⟨Nat.le_of_ble_eq_true rfl, Nat.le_of_ble_eq_true rfl⟩ ⟨Nat.zero_le _, Nat.zero_le _⟩ dX2_reasonAgainst_14 (fun r3 wr3 hw3 => ?_)
    obtain ⟨e_r3, rfl⟩ := hw3
    refine r_ws (I' := [letB cI o h v lie seals folds n f]) rfl ?_
    suffices K : ∀ x5 : Int32, x5 = ((if r3 = 0 then (0) else (2))) → V p l e (rmm 1 22) s m args below meth c 2 D A 0 0 Q [letB cI o h v lie seals folds n f] [(0, .ref o), (1, .int i)] 25 [.int x5] by
      refine r_if_eq (tgt := 24) C dX2_reasonAgainst_17 (by decide) (fun c4 => ?_) (fun c4 => ?_)
      · refine r_iconst (v := 0) C dX2_reasonAgainst_24 (by decide) ?_
        exact K _ (by simp only [if_pos c4])
      · refine r_iconst (v := 2) C dX2_reasonAgainst_20 (by decide) ?_
        refine r_goto (tgt := 25) C dX2_reasonAgainst_21 (by decide) ?_
        exact K _ (by simp only [if_neg c4])
    intro x5 e_x5
    have eF : F_X2_reasonAgainst seals n i = x5 := by have q := e_r1.symm; subst q; have q := e_r3.symm; subst q; have q := e_x5.symm; subst q; simp only [F_X2_reasonAgainst, if_pos c2]
    exact r_iret (r := x5) C hA hr hlo dX2_reasonAgainst_25 [letB cI o h v lie seals folds n f] ⟨by simp only [eF], rfl⟩ rfl hQ
  · refine r_iconst (v := 1) C dX2_reasonAgainst_10 (by decide) ?_
    refine r_ws (I' := [[(h, .inr (4, [.ref v, .int n]))], [(v, .inl (cI, 60, .inl f))], [(o, .inr (1, [.ref h, .int lie, .int seals, .int folds]))]]) rfl ?_
    refine r_pl (I' := [[(o, .inr (1, [.ref h, .int lie, .int seals, .int folds]))], [(h, .inr (4, [.ref v, .int n]))], [(v, .inl (cI, 60, .inl f))]]) [2, 0, 1] (show ([2, 0, 1] : List Nat).Perm (List.range 3) by decide) rfl ?_
    refine r_ws (I' := [letB cI o h v lie seals folds n f]) rfl ?_
    have eF : F_X2_reasonAgainst seals n i = 1 := by have q := e_r1.symm; subst q; simp only [F_X2_reasonAgainst, if_neg c2]
    exact r_iret (r := 1) C hA hr hlo dX2_reasonAgainst_11 [letB cI o h v lie seals folds n f] ⟨by simp only [eF], rfl⟩ rfl hQ
theorem k_X2_foldOver : kV yX2_foldOver cX2_foldOver 2 none 1 := ⟨t_655, t_656, t_60, t_657, by decide +kernel, by decide +kernel, by decide +kernel⟩
set_option maxRecDepth 20000 in
def F_X2_foldOver (lie : Int32) (folds : Int32) (n : Int32) (f : Nat → Int32) (i : Int32) : Int32 × Int32 × Int32 × (Nat → Int32) := let r1 : Int32 := F_X3_folded lie i; let x2 : Int32 := folds + 1; let x5 : Int32 := (F_X6_add n f i).1; let g6 : Nat → Int32 := (F_X6_add n f i).2; (r1, x2, x5, g6)
set_option maxRecDepth 20000 in
def P_X2_foldOver (lie : Int32) (folds : Int32) (n : Int32) (i : Int32) : Prop := (∀ r1 : Int32, r1 = F_X3_folded lie i → (∀ x2 : Int32, x2 = folds + 1 → (P_X6_add n)))
set_option maxRecDepth 20000 in
set_option maxHeartbeats 8000000 in
theorem m_X2_foldOver (l : Launch) (D : va_G) (cI cL cP cJ : ClassId) (o : Nat) (h : Nat) (v : Nat) (lie : Int32) (seals : Int32) (folds : Int32) (n : Int32) (f : Nat → Int32) (i : Int32) (hp : P_X2_foldOver lie folds n i) : M vV l yX2_foldOver cX2_foldOver 2 none 1 24 D (tyF cI cL cP cJ) [.ref o, .int i] [letB cI o h v lie seals folds n f] (fun (r : Unit) (w1 : List va_W) => w1 = [letB cI o h v ((F_X2_foldOver lie folds n f i).1) seals ((F_X2_foldOver lie folds n f i).2.1) ((F_X2_foldOver lie folds n f i).2.2.1) ((F_X2_foldOver lie folds n f i).2.2.2)]) := by
  unfold P_X2_foldOver at hp
  refine m_start (by decide +kernel) (Nat.le_of_ble_eq_true rfl) (fun p e s m args below meth c A Q hA hQ C hr hlo => ?_)
  refine r_Le (L' := [(0, .ref o), (1, .int i)]) rfl ?_
  refine r_aload_n C dX2_foldOver_0 0 rfl ?_
  refine r_aload_n C dX2_foldOver_1 0 rfl ?_
  refine r_ws (I' := [[(o, .inr (1, [.ref h, .int lie, .int seals, .int folds]))], [(h, .inr (4, [.ref v, .int n]))], [(v, .inl (cI, 60, .inl f))]]) rfl ?_
  refine r_get (Cn := RX2) (T := TX2) (N := 4) C inT2 0 rfl rfl 1 (by decide) t_116 rfl dX2_foldOver_2 ?_
  refine r_iload_n C dX2_foldOver_5 1 rfl ?_
  refine r_callS (wc := []) (wr := [[(o, .inr (1, [.ref h, .int lie, .int seals, .int folds]))], [(h, .inr (4, [.ref v, .int n]))], [(v, .inl (cI, 60, .inl f))]]) (st := [.ref o]) C (m_X3_folded l D cI cL cP cJ lie i) k_X3_folded t_658 [0, 1, 2] (show ([0, 1, 2] : List Nat).Perm (List.range 3) by decide) rfl rfl rfl (Nat.le_of_ble_eq_true rfl) ⟨Nat.le_of_ble_eq_true rfl, Nat.le_of_ble_eq_true rfl⟩ ⟨Nat.zero_le _, Nat.zero_le _⟩ dX2_foldOver_6 (fun r1 wr1 hw1 => ?_)
  obtain ⟨e_r1, rfl⟩ := hw1
  have hp := hp r1 e_r1
  refine r_ws (I' := [[(o, .inr (1, [.ref h, .int lie, .int seals, .int folds]))], [(h, .inr (4, [.ref v, .int n]))], [(v, .inl (cI, 60, .inl f))]]) rfl ?_
  refine r_put (Cn := RX2) (T := TX2) (N := 4) C inT2 0 rfl rfl 1 (by decide) t_116 tyX2 tyX2_ok nmX2 rfl rfl rfl (Nat.le_of_ble_eq_true rfl) (I' := [[(o, .inr (1, [.ref h, .int r1, .int seals, .int folds]))], [(h, .inr (4, [.ref v, .int n]))], [(v, .inl (cI, 60, .inl f))]]) rfl dX2_foldOver_9 ?_
  refine r_aload_n C dX2_foldOver_12 0 rfl ?_
  refine r_dup C dX2_foldOver_13 rfl ?_
  refine r_get (Cn := RX2) (T := TX2) (N := 4) C inT2 0 rfl rfl 3 (by decide) t_118 rfl dX2_foldOver_14 ?_
  refine r_iconst (v := 1) C dX2_foldOver_17 (by decide) ?_
  refine r_iadd C dX2_foldOver_18 rfl ?_
  refine r_top (fun x2 e_x2 => ?_)
  have hp := hp x2 e_x2
  refine r_put (Cn := RX2) (T := TX2) (N := 4) C inT2 0 rfl rfl 3 (by decide) t_118 tyX2 tyX2_ok nmX2 rfl rfl rfl (Nat.le_of_ble_eq_true rfl) (I' := [[(o, .inr (1, [.ref h, .int r1, .int seals, .int x2]))], [(h, .inr (4, [.ref v, .int n]))], [(v, .inl (cI, 60, .inl f))]]) rfl dX2_foldOver_19 ?_
  refine r_aload_n C dX2_foldOver_22 0 rfl ?_
  refine r_get (Cn := RX2) (T := TX2) (N := 4) C inT2 0 rfl rfl 0 (by decide) t_115 rfl dX2_foldOver_23 ?_
  refine r_iload_n C dX2_foldOver_26 1 rfl ?_
  refine r_ws (I' := [[(o, .inr (1, [.ref h, .int r1, .int seals, .int x2]))], rowB cI h v n f]) rfl ?_
  have h3 := hp
  refine r_callV (ci := 4) (wc := [rowB cI h v n f]) (wr := [[(o, .inr (1, [.ref h, .int r1, .int seals, .int x2]))]]) (st := []) C (m_X6_add l D cI cL cP cJ h v n f i h3) k_X6_add t_659 [1, 0] (show ([1, 0] : List Nat).Perm (List.range 2) by decide) rfl rfl rfl (q0 := 0) rfl rfl rfl (Nat.le_of_ble_eq_true rfl) ⟨Nat.le_of_ble_eq_true rfl, Nat.le_of_ble_eq_true rfl⟩ ⟨Nat.zero_le _, Nat.zero_le _⟩ dX2_foldOver_27 (fun r4 wr4 hw4 => ?_)
  obtain rfl := hw4
  obtain ⟨x5, e_x5⟩ : ∃ z : Int32, z = (F_X6_add n f i).1 := ⟨_, rfl⟩
  obtain ⟨g6, e_g6⟩ : ∃ z : Nat → Int32, z = (F_X6_add n f i).2 := ⟨_, rfl⟩
  refine r_ws (I' := [rowB cI h v x5 g6, [(o, .inr (1, [.ref h, .int r1, .int seals, .int x2]))]]) (by rw [e_x5, e_g6]; rfl) ?_
  refine r_ws (I' := [[(h, .inr (4, [.ref v, .int x5]))], [(v, .inl (cI, 60, .inl g6))], [(o, .inr (1, [.ref h, .int r1, .int seals, .int x2]))]]) rfl ?_
  refine r_pl (I' := [[(o, .inr (1, [.ref h, .int r1, .int seals, .int x2]))], [(h, .inr (4, [.ref v, .int x5]))], [(v, .inl (cI, 60, .inl g6))]]) [2, 0, 1] (show ([2, 0, 1] : List Nat).Perm (List.range 3) by decide) rfl ?_
  refine r_ws (I' := [letB cI o h v r1 seals x2 x5 g6]) rfl ?_
  have eF : F_X2_foldOver lie folds n f i = (r1, x2, x5, g6) := by have q := e_r1.symm; subst q; have q := e_x2.symm; subst q; have q := e_x5.symm; subst q; have q := e_g6.symm; subst q; rfl
  exact r_vret (r := ()) C hA hr hlo dX2_foldOver_30 [letB cI o h v r1 seals x2 x5 g6] (by simp only [eF]) rfl hQ
theorem k_X2_foldUpTo : kV yX2_foldUpTo cX2_foldUpTo 3 (some .int) 1 := ⟨t_704, t_705, t_60, t_706, by decide +kernel, by decide +kernel, by decide +kernel⟩
def F_X2_foldUpTo_L2 (n2 : Int32) (f2 : Nat → Int32) (seals : Int32) : Nat → Int32 → Int32 → Int32 → (Nat → Int32) → Int32 → Int32 × Int32 × Int32 × (Nat → Int32) × Int32
  | 0, y1, y2, y3, k4, y5 => (y1, y2, y3, k4, y5)
  | nn + 1, y1, y2, y3, k4, y5 => let r6 : Int32 := F_X6_size n2; (if r6 ≤ y5 then ((y1, y2, y3, k4, y5)) else (let r9 : Int32 := F_X6_at n2 f2 y5; let r10 : Int32 := F_X2_reasonAgainst seals y3 r9; (if r10 = 0 then (let r13 : Int32 := F_X6_at n2 f2 y5; let x16 : Int32 := (F_X2_foldOver y1 y2 y3 k4 r13).1; let x17 : Int32 := (F_X2_foldOver y1 y2 y3 k4 r13).2.1; let x18 : Int32 := (F_X2_foldOver y1 y2 y3 k4 r13).2.2.1; let g19 : Nat → Int32 := (F_X2_foldOver y1 y2 y3 k4 r13).2.2.2; let x20 : Int32 := y5 + 1; F_X2_foldUpTo_L2 n2 f2 seals nn x16 x17 x18 g19 x20) else ((y1, y2, y3, k4, y5)))))
def P_X2_foldUpTo_L2 (n2 : Int32) (f2 : Nat → Int32) (seals : Int32) : Nat → Int32 → Int32 → Int32 → (Nat → Int32) → Int32 → Prop
  | 0, _, _, _, _, _ => False
  | nn + 1, y1, y2, y3, k4, y5 => (∀ r6 : Int32, r6 = F_X6_size n2 → ((r6 ≤ y5 → True) ∧ (¬ r6 ≤ y5 → ((P_X6_at n2 y5) ∧ (∀ r9 : Int32, r9 = F_X6_at n2 f2 y5 → (∀ r10 : Int32, r10 = F_X2_reasonAgainst seals y3 r9 → ((r10 = 0 → ((P_X6_at n2 y5) ∧ (∀ r13 : Int32, r13 = F_X6_at n2 f2 y5 → ((P_X2_foldOver y1 y2 y3 r13) ∧ (∀ x16 : Int32, x16 = (F_X2_foldOver y1 y2 y3 k4 r13).1 → (∀ x17 : Int32, x17 = (F_X2_foldOver y1 y2 y3 k4 r13).2.1 → (∀ x18 : Int32, x18 = (F_X2_foldOver y1 y2 y3 k4 r13).2.2.1 → (∀ g19 : Nat → Int32, g19 = (F_X2_foldOver y1 y2 y3 k4 r13).2.2.2 → (∀ x20 : Int32, x20 = y5 + 1 → (P_X2_foldUpTo_L2 n2 f2 seals nn x16 x17 x18 g19 x20)))))))))) ∧ (¬ r10 = 0 → True))))))))
set_option maxRecDepth 20000 in
def F_X2_foldUpTo (lie : Int32) (seals : Int32) (folds : Int32) (n : Int32) (f : Nat → Int32) (n2 : Int32) (f2 : Nat → Int32) : Int32 × Int32 × Int32 × Int32 × (Nat → Int32) := let z21 : Int32 := (F_X2_foldUpTo_L2 n2 f2 seals 61 lie folds n f 0).1; let z22 : Int32 := (F_X2_foldUpTo_L2 n2 f2 seals 61 lie folds n f 0).2.1; let z23 : Int32 := (F_X2_foldUpTo_L2 n2 f2 seals 61 lie folds n f 0).2.2.1; let f24 : Nat → Int32 := (F_X2_foldUpTo_L2 n2 f2 seals 61 lie folds n f 0).2.2.2.1; let z25 : Int32 := (F_X2_foldUpTo_L2 n2 f2 seals 61 lie folds n f 0).2.2.2.2; (z25, z21, z22, z23, f24)
set_option maxRecDepth 20000 in
def P_X2_foldUpTo (lie : Int32) (seals : Int32) (folds : Int32) (n : Int32) (f : Nat → Int32) (n2 : Int32) (f2 : Nat → Int32) : Prop := (P_X2_foldUpTo_L2 n2 f2 seals 61 lie folds n f 0)
set_option maxRecDepth 20000 in
set_option maxHeartbeats 8000000 in
theorem m_X2_foldUpTo (l : Launch) (D : va_G) (cI cL cP cJ : ClassId) (o : Nat) (h : Nat) (v : Nat) (lie : Int32) (seals : Int32) (folds : Int32) (n : Int32) (f : Nat → Int32) (h2 : Nat) (v2 : Nat) (n2 : Int32) (f2 : Nat → Int32) (hp : P_X2_foldUpTo lie seals folds n f n2 f2) : M vI l yX2_foldUpTo cX2_foldUpTo 3 (some .int) 2 45 D (tyF cI cL cP cJ) [.ref o, .ref h2] [letB cI o h v lie seals folds n f, rowB cI h2 v2 n2 f2] (fun (r : Int32) (w1 : List va_W) => r = (F_X2_foldUpTo lie seals folds n f n2 f2).1 ∧ w1 = [letB cI o h v ((F_X2_foldUpTo lie seals folds n f n2 f2).2.1) seals ((F_X2_foldUpTo lie seals folds n f n2 f2).2.2.1) ((F_X2_foldUpTo lie seals folds n f n2 f2).2.2.2.1) ((F_X2_foldUpTo lie seals folds n f n2 f2).2.2.2.2), rowB cI h2 v2 n2 f2]) := by
  unfold P_X2_foldUpTo at hp
  refine m_start (by decide +kernel) (Nat.le_of_ble_eq_true rfl) (fun p e s m args below meth c A Q hA hQ C hr hlo => ?_)
  refine r_Le (L' := [(0, .ref o), (1, .ref h2)]) rfl ?_
  refine r_iconst (v := 0) C dX2_foldUpTo_0 (by decide) ?_
  refine r_istore_n (L' := [(2, .int 0), (0, .ref o), (1, .ref h2)]) C dX2_foldUpTo_1 (by decide) rfl ?_
  have hpl := hp
  have hL : ∀ (nn : Nat) (y1 : Int32) (y2 : Int32) (y3 : Int32) (k4 : Nat → Int32) (y5 : Int32), P_X2_foldUpTo_L2 n2 f2 seals nn y1 y2 y3 k4 y5 → (∀ z21 : Int32, z21 = (F_X2_foldUpTo_L2 n2 f2 seals nn y1 y2 y3 k4 y5).1 → ∀ z22 : Int32, z22 = (F_X2_foldUpTo_L2 n2 f2 seals nn y1 y2 y3 k4 y5).2.1 → ∀ z23 : Int32, z23 = (F_X2_foldUpTo_L2 n2 f2 seals nn y1 y2 y3 k4 y5).2.2.1 → ∀ f24 : Nat → Int32, f24 = (F_X2_foldUpTo_L2 n2 f2 seals nn y1 y2 y3 k4 y5).2.2.2.1 → ∀ z25 : Int32, z25 = (F_X2_foldUpTo_L2 n2 f2 seals nn y1 y2 y3 k4 y5).2.2.2.2 → V p l e (rmm 2 45) s m args below meth c 3 D A 0 0 Q [letB cI o h v z21 seals z22 z23 f24, rowB cI h2 v2 n2 f2] [(2, .int z25), (0, .ref o), (1, .ref h2)] 37 []) → V p l e (rmm 2 45) s m args below meth c 3 D A 0 0 Q [letB cI o h v y1 seals y2 y3 k4, rowB cI h2 v2 n2 f2] [(2, .int y5), (0, .ref o), (1, .ref h2)] 2 [] := by
    clear hpl
    intro nn
    induction nn with
    | zero => intro y1 y2 y3 k4 y5 hp kk; rw [P_X2_foldUpTo_L2] at hp; exact hp.elim
    | succ nn ih =>
      intro y1 y2 y3 k4 y5 hp kk
      rw [P_X2_foldUpTo_L2] at hp
      refine r_iload_n C dX2_foldUpTo_2 0 rfl ?_
      refine r_aload_n C dX2_foldUpTo_3 2 rfl ?_
      refine r_callV (ci := 4) (wc := [rowB cI h2 v2 n2 f2]) (wr := [letB cI o h v y1 seals y2 y3 k4]) (st := [.int y5]) C (m_X6_size l D cI cL cP cJ h2 v2 n2 f2) k_X6_size t_402 [1, 0] (show ([1, 0] : List Nat).Perm (List.range 2) by decide) rfl rfl rfl (q0 := 0) rfl rfl rfl (Nat.le_of_ble_eq_true rfl) ⟨Nat.le_of_ble_eq_true rfl, Nat.le_of_ble_eq_true rfl⟩ ⟨Nat.zero_le _, Nat.zero_le _⟩ dX2_foldUpTo_4 (fun r6 wr6 hw6 => ?_)
      obtain ⟨e_r6, rfl⟩ := hw6
      have hp := hp r6 e_r6
      refine r_ws (I' := [rowB cI h2 v2 n2 f2, letB cI o h v y1 seals y2 y3 k4]) rfl ?_
      refine r_icmp_ge (tgt := 37) C dX2_foldUpTo_7 (by decide) (fun c7 => ?_) (fun c7 => ?_)
      · refine r_pl (I' := [letB cI o h v y1 seals y2 y3 k4, rowB cI h2 v2 n2 f2]) [1, 0] (show ([1, 0] : List Nat).Perm (List.range 2) by decide) rfl ?_
        have eF : F_X2_foldUpTo_L2 n2 f2 seals (nn + 1) y1 y2 y3 k4 y5 = (y1, y2, y3, k4, y5) := by have q := e_r6.symm; subst q; simp only [F_X2_foldUpTo_L2, if_pos c7]
        exact kk _ (by rw [eF]) _ (by rw [eF]) _ (by rw [eF]) _ (by rw [eF]) _ (by rw [eF])
      · have hp := hp.2 c7
        refine r_aload_n C dX2_foldUpTo_10 1 rfl ?_
        refine r_aload_n C dX2_foldUpTo_11 2 rfl ?_
        refine r_iload_n C dX2_foldUpTo_12 0 rfl ?_
        obtain ⟨h8, hp⟩ := hp
        refine r_callV (ci := 4) (wc := [rowB cI h2 v2 n2 f2]) (wr := [letB cI o h v y1 seals y2 y3 k4]) (st := [.ref o]) C (m_X6_at l D cI cL cP cJ h2 v2 n2 f2 y5 h8) k_X6_at t_707 [0, 1] (show ([0, 1] : List Nat).Perm (List.range 2) by decide) rfl rfl rfl (q0 := 0) rfl rfl rfl (Nat.le_of_ble_eq_true rfl) ⟨Nat.le_of_ble_eq_true rfl, Nat.le_of_ble_eq_true rfl⟩ ⟨Nat.zero_le _, Nat.zero_le _⟩ dX2_foldUpTo_13 (fun r9 wr9 hw9 => ?_)
        obtain ⟨e_r9, rfl⟩ := hw9
        have hp := hp r9 e_r9
        refine r_ws (I' := [rowB cI h2 v2 n2 f2, letB cI o h v y1 seals y2 y3 k4]) rfl ?_
        refine r_callV (ci := 1) (wc := [letB cI o h v y1 seals y2 y3 k4]) (wr := [rowB cI h2 v2 n2 f2]) (st := []) C (m_X2_reasonAgainst l D cI cL cP cJ o h v y1 seals y2 y3 k4 r9) k_X2_reasonAgainst t_433 [1, 0] (show ([1, 0] : List Nat).Perm (List.range 2) by decide) rfl rfl rfl (q0 := 0) rfl rfl rfl (Nat.le_of_ble_eq_true rfl) ⟨Nat.le_of_ble_eq_true rfl, Nat.le_of_ble_eq_true rfl⟩ ⟨Nat.zero_le _, Nat.zero_le _⟩ dX2_foldUpTo_16 (fun r10 wr10 hw10 => ?_)
        obtain ⟨e_r10, rfl⟩ := hw10
        have hp := hp r10 e_r10
        refine r_ws (I' := [letB cI o h v y1 seals y2 y3 k4, rowB cI h2 v2 n2 f2]) rfl ?_
        refine r_if_ne (tgt := 37) C dX2_foldUpTo_19 (by decide) (fun c11 => ?_) (fun c11 => ?_)
        · have eF : F_X2_foldUpTo_L2 n2 f2 seals (nn + 1) y1 y2 y3 k4 y5 = (y1, y2, y3, k4, y5) := by have q := e_r6.symm; subst q; have q := e_r9.symm; subst q; have q := e_r10.symm; subst q; simp only [F_X2_foldUpTo_L2, if_neg c7, if_neg c11]
          exact kk _ (by rw [eF]) _ (by rw [eF]) _ (by rw [eF]) _ (by rw [eF]) _ (by rw [eF])
        · have hp := hp.1 c11
          refine r_aload_n C dX2_foldUpTo_22 1 rfl ?_
          refine r_aload_n C dX2_foldUpTo_23 2 rfl ?_
          refine r_iload_n C dX2_foldUpTo_24 0 rfl ?_
          obtain ⟨h12, hp⟩ := hp
          refine r_callV (ci := 4) (wc := [rowB cI h2 v2 n2 f2]) (wr := [letB cI o h v y1 seals y2 y3 k4]) (st := [.ref o]) C (m_X6_at l D cI cL cP cJ h2 v2 n2 f2 y5 h12) k_X6_at t_707 [1, 0] (show ([1, 0] : List Nat).Perm (List.range 2) by decide) rfl rfl rfl (q0 := 0) rfl rfl rfl (Nat.le_of_ble_eq_true rfl) ⟨Nat.le_of_ble_eq_true rfl, Nat.le_of_ble_eq_true rfl⟩ ⟨Nat.zero_le _, Nat.zero_le _⟩ dX2_foldUpTo_25 (fun r13 wr13 hw13 => ?_)
          obtain ⟨e_r13, rfl⟩ := hw13
          have hp := hp r13 e_r13
          refine r_ws (I' := [rowB cI h2 v2 n2 f2, letB cI o h v y1 seals y2 y3 k4]) rfl ?_
          obtain ⟨h14, hp⟩ := hp
          refine r_callV (ci := 1) (wc := [letB cI o h v y1 seals y2 y3 k4]) (wr := [rowB cI h2 v2 n2 f2]) (st := []) C (m_X2_foldOver l D cI cL cP cJ o h v y1 seals y2 y3 k4 r13 h14) k_X2_foldOver t_708 [1, 0] (show ([1, 0] : List Nat).Perm (List.range 2) by decide) rfl rfl rfl (q0 := 0) rfl rfl rfl (Nat.le_of_ble_eq_true rfl) ⟨Nat.le_of_ble_eq_true rfl, Nat.le_of_ble_eq_true rfl⟩ ⟨Nat.zero_le _, Nat.zero_le _⟩ dX2_foldUpTo_28 (fun r15 wr15 hw15 => ?_)
          obtain rfl := hw15
          obtain ⟨x16, e_x16⟩ : ∃ z : Int32, z = (F_X2_foldOver y1 y2 y3 k4 r13).1 := ⟨_, rfl⟩
          have hp := hp x16 e_x16
          obtain ⟨x17, e_x17⟩ : ∃ z : Int32, z = (F_X2_foldOver y1 y2 y3 k4 r13).2.1 := ⟨_, rfl⟩
          have hp := hp x17 e_x17
          obtain ⟨x18, e_x18⟩ : ∃ z : Int32, z = (F_X2_foldOver y1 y2 y3 k4 r13).2.2.1 := ⟨_, rfl⟩
          have hp := hp x18 e_x18
          obtain ⟨g19, e_g19⟩ : ∃ z : Nat → Int32, z = (F_X2_foldOver y1 y2 y3 k4 r13).2.2.2 := ⟨_, rfl⟩
          have hp := hp g19 e_g19
          refine r_ws (I' := [letB cI o h v x16 seals x17 x18 g19, rowB cI h2 v2 n2 f2]) (by rw [e_x16, e_x17, e_x18, e_g19]; rfl) ?_
          obtain ⟨x20, e_x20⟩ : ∃ z : Int32, z = y5 + 1 := ⟨_, rfl⟩
          have hp := hp x20 e_x20
          refine r_iinc (v := x20) (L' := [(2, .int x20), (0, .ref o), (1, .ref h2)]) C dX2_foldUpTo_31 0 rfl (by rw [e_x20]; exact ii (by decide)) (by decide) rfl ?_
          refine r_goto (tgt := 2) C dX2_foldUpTo_34 (by decide) ?_
          have eF : F_X2_foldUpTo_L2 n2 f2 seals (nn + 1) y1 y2 y3 k4 y5 = F_X2_foldUpTo_L2 n2 f2 seals nn x16 x17 x18 g19 x20 := by have q := e_r6.symm; subst q; have q := e_r9.symm; subst q; have q := e_r10.symm; subst q; have q := e_r13.symm; subst q; have q := e_x16.symm; subst q; have q := e_x17.symm; subst q; have q := e_x18.symm; subst q; have q := e_g19.symm; subst q; have q := e_x20.symm; subst q; simp only [F_X2_foldUpTo_L2, if_neg c7, if_pos c11]
          exact ih x16 x17 x18 g19 x20 hp (fun z21 e_z21 z22 e_z22 z23 e_z23 f24 e_f24 z25 e_z25 => kk z21 (by rw [eF]; exact e_z21) z22 (by rw [eF]; exact e_z22) z23 (by rw [eF]; exact e_z23) f24 (by rw [eF]; exact e_f24) z25 (by rw [eF]; exact e_z25))
  refine hL 61 lie folds n f 0 hpl (fun z21 e_z21 z22 e_z22 z23 e_z23 f24 e_f24 z25 e_z25 => ?_)
  clear hL hpl
  refine r_iload_n C dX2_foldUpTo_37 0 rfl ?_
  have eF : F_X2_foldUpTo lie seals folds n f n2 f2 = (z25, z21, z22, z23, f24) := by have q := e_z21.symm; subst q; have q := e_z22.symm; subst q; have q := e_z23.symm; subst q; have q := e_f24.symm; subst q; have q := e_z25.symm; subst q; rfl
  exact r_iret (r := z25) C hA hr hlo dX2_foldUpTo_38 [letB cI o h v z21 seals z22 z23 f24, rowB cI h2 v2 n2 f2] ⟨by simp only [eF], by simp only [eF]⟩ rfl hQ
theorem k_X2_takeBack : kV yX2_takeBack cX2_takeBack 2 none 1 := ⟨t_724, t_725, t_60, t_726, by decide +kernel, by decide +kernel, by decide +kernel⟩
set_option maxRecDepth 20000 in
def F_X2_takeBack (lie : Int32) (folds : Int32) (n : Int32) (i : Int32) : Int32 × Int32 × Int32 := let r1 : Int32 := F_X3_folded lie i; let x2 : Int32 := folds + 1; let x4 : Int32 := F_X6_dropLast n; (r1, x2, x4)
set_option maxRecDepth 20000 in
set_option maxHeartbeats 8000000 in
theorem m_X2_takeBack (l : Launch) (D : va_G) (cI cL cP cJ : ClassId) (o : Nat) (h : Nat) (v : Nat) (lie : Int32) (seals : Int32) (folds : Int32) (n : Int32) (f : Nat → Int32) (i : Int32) : M vV l yX2_takeBack cX2_takeBack 2 none 1 24 D (tyF cI cL cP cJ) [.ref o, .int i] [letB cI o h v lie seals folds n f] (fun (r : Unit) (w1 : List va_W) => w1 = [letB cI o h v ((F_X2_takeBack lie folds n i).1) seals ((F_X2_takeBack lie folds n i).2.1) ((F_X2_takeBack lie folds n i).2.2) f]) := by
  refine m_start (by decide +kernel) (Nat.le_of_ble_eq_true rfl) (fun p e s m args below meth c A Q hA hQ C hr hlo => ?_)
  refine r_Le (L' := [(0, .ref o), (1, .int i)]) rfl ?_
  refine r_aload_n C dX2_takeBack_0 0 rfl ?_
  refine r_aload_n C dX2_takeBack_1 0 rfl ?_
  refine r_ws (I' := [[(o, .inr (1, [.ref h, .int lie, .int seals, .int folds]))], [(h, .inr (4, [.ref v, .int n]))], [(v, .inl (cI, 60, .inl f))]]) rfl ?_
  refine r_get (Cn := RX2) (T := TX2) (N := 4) C inT2 0 rfl rfl 1 (by decide) t_116 rfl dX2_takeBack_2 ?_
  refine r_iload_n C dX2_takeBack_5 1 rfl ?_
  refine r_callS (wc := []) (wr := [[(o, .inr (1, [.ref h, .int lie, .int seals, .int folds]))], [(h, .inr (4, [.ref v, .int n]))], [(v, .inl (cI, 60, .inl f))]]) (st := [.ref o]) C (m_X3_folded l D cI cL cP cJ lie i) k_X3_folded t_658 [0, 1, 2] (show ([0, 1, 2] : List Nat).Perm (List.range 3) by decide) rfl rfl rfl (Nat.le_of_ble_eq_true rfl) ⟨Nat.le_of_ble_eq_true rfl, Nat.le_of_ble_eq_true rfl⟩ ⟨Nat.zero_le _, Nat.zero_le _⟩ dX2_takeBack_6 (fun r1 wr1 hw1 => ?_)
  obtain ⟨e_r1, rfl⟩ := hw1
  refine r_ws (I' := [[(o, .inr (1, [.ref h, .int lie, .int seals, .int folds]))], [(h, .inr (4, [.ref v, .int n]))], [(v, .inl (cI, 60, .inl f))]]) rfl ?_
  refine r_put (Cn := RX2) (T := TX2) (N := 4) C inT2 0 rfl rfl 1 (by decide) t_116 tyX2 tyX2_ok nmX2 rfl rfl rfl (Nat.le_of_ble_eq_true rfl) (I' := [[(o, .inr (1, [.ref h, .int r1, .int seals, .int folds]))], [(h, .inr (4, [.ref v, .int n]))], [(v, .inl (cI, 60, .inl f))]]) rfl dX2_takeBack_9 ?_
  refine r_aload_n C dX2_takeBack_12 0 rfl ?_
  refine r_dup C dX2_takeBack_13 rfl ?_
  refine r_get (Cn := RX2) (T := TX2) (N := 4) C inT2 0 rfl rfl 3 (by decide) t_118 rfl dX2_takeBack_14 ?_
  refine r_iconst (v := 1) C dX2_takeBack_17 (by decide) ?_
  refine r_iadd C dX2_takeBack_18 rfl ?_
  refine r_top (fun x2 e_x2 => ?_)
  refine r_put (Cn := RX2) (T := TX2) (N := 4) C inT2 0 rfl rfl 3 (by decide) t_118 tyX2 tyX2_ok nmX2 rfl rfl rfl (Nat.le_of_ble_eq_true rfl) (I' := [[(o, .inr (1, [.ref h, .int r1, .int seals, .int x2]))], [(h, .inr (4, [.ref v, .int n]))], [(v, .inl (cI, 60, .inl f))]]) rfl dX2_takeBack_19 ?_
  refine r_aload_n C dX2_takeBack_22 0 rfl ?_
  refine r_get (Cn := RX2) (T := TX2) (N := 4) C inT2 0 rfl rfl 0 (by decide) t_115 rfl dX2_takeBack_23 ?_
  refine r_ws (I' := [[(o, .inr (1, [.ref h, .int r1, .int seals, .int x2]))], rowB cI h v n f]) rfl ?_
  refine r_callV (ci := 4) (wc := [rowB cI h v n f]) (wr := [[(o, .inr (1, [.ref h, .int r1, .int seals, .int x2]))]]) (st := []) C (m_X6_dropLast l D cI cL cP cJ h v n f) k_X6_dropLast t_727 [1, 0] (show ([1, 0] : List Nat).Perm (List.range 2) by decide) rfl rfl rfl (q0 := 0) rfl rfl rfl (Nat.le_of_ble_eq_true rfl) ⟨Nat.le_of_ble_eq_true rfl, Nat.le_of_ble_eq_true rfl⟩ ⟨Nat.zero_le _, Nat.zero_le _⟩ dX2_takeBack_26 (fun r3 wr3 hw3 => ?_)
  obtain rfl := hw3
  obtain ⟨x4, e_x4⟩ : ∃ z : Int32, z = F_X6_dropLast n := ⟨_, rfl⟩
  refine r_ws (I' := [rowB cI h v x4 f, [(o, .inr (1, [.ref h, .int r1, .int seals, .int x2]))]]) (by rw [e_x4]; rfl) ?_
  refine r_ws (I' := [[(h, .inr (4, [.ref v, .int x4]))], [(v, .inl (cI, 60, .inl f))], [(o, .inr (1, [.ref h, .int r1, .int seals, .int x2]))]]) rfl ?_
  refine r_pl (I' := [[(o, .inr (1, [.ref h, .int r1, .int seals, .int x2]))], [(h, .inr (4, [.ref v, .int x4]))], [(v, .inl (cI, 60, .inl f))]]) [2, 0, 1] (show ([2, 0, 1] : List Nat).Perm (List.range 3) by decide) rfl ?_
  refine r_ws (I' := [letB cI o h v r1 seals x2 x4 f]) rfl ?_
  have eF : F_X2_takeBack lie folds n i = (r1, x2, x4) := by have q := e_r1.symm; subst q; have q := e_x2.symm; subst q; have q := e_x4.symm; subst q; rfl
  exact r_vret (r := ()) C hA hr hlo dX2_takeBack_29 [letB cI o h v r1 seals x2 x4 f] (by simp only [eF]) rfl hQ
theorem k_X2_rememberLeastWord : kV yX2_rememberLeastWord cX2_rememberLeastWord 3 none 0 := ⟨t_739, t_740, t_60, t_741, by decide +kernel, by decide +kernel, by decide +kernel⟩
def F_X2_rememberLeastWord_L17 (r1 : Int32) (lie : Int32) : Nat → Int32 → (Nat → Int32) → Int32 → Int32 × (Nat → Int32) × Int32
  | 0, y4, k5, y6 => (y4, k5, y6)
  | nn + 1, y4, k5, y6 => (if r1 ≤ y6 then ((y4, k5, y6)) else (let r9 : Int32 := F_X3_leastCrease lie y6; let x12 : Int32 := (F_X6_add y4 k5 r9).1; let g13 : Nat → Int32 := (F_X6_add y4 k5 r9).2; let x14 : Int32 := y6 + 1; F_X2_rememberLeastWord_L17 r1 lie nn x12 g13 x14))
def P_X2_rememberLeastWord_L17 (r1 : Int32) (lie : Int32) : Nat → Int32 → (Nat → Int32) → Int32 → Prop
  | 0, _, _, _ => False
  | nn + 1, y4, k5, y6 => ((r1 ≤ y6 → True) ∧ (¬ r1 ≤ y6 → ((P_X3_leastCrease lie y6) ∧ (∀ r9 : Int32, r9 = F_X3_leastCrease lie y6 → ((P_X6_add y4) ∧ (∀ x12 : Int32, x12 = (F_X6_add y4 k5 r9).1 → (∀ g13 : Nat → Int32, g13 = (F_X6_add y4 k5 r9).2 → (∀ x14 : Int32, x14 = y6 + 1 → (P_X2_rememberLeastWord_L17 r1 lie nn x12 g13 x14)))))))))
set_option maxRecDepth 20000 in
def F_X2_rememberLeastWord (lie : Int32) (f : Nat → Int32) : Int32 × (Nat → Int32) := let r1 : Int32 := F_X3_length lie; let x3 : Int32 := F_X6_clear ; let z15 : Int32 := (F_X2_rememberLeastWord_L17 r1 lie 17 x3 f 0).1; let f16 : Nat → Int32 := (F_X2_rememberLeastWord_L17 r1 lie 17 x3 f 0).2.1; (z15, f16)
set_option maxRecDepth 20000 in
def P_X2_rememberLeastWord (lie : Int32) (f : Nat → Int32) : Prop := (∀ r1 : Int32, r1 = F_X3_length lie → (∀ x3 : Int32, x3 = F_X6_clear  → (P_X2_rememberLeastWord_L17 r1 lie 17 x3 f 0)))
set_option maxRecDepth 20000 in
set_option maxHeartbeats 8000000 in
theorem m_X2_rememberLeastWord (l : Launch) (D : va_G) (cI cL cP cJ : ClassId) (o : Nat) (h : Nat) (v : Nat) (lie : Int32) (seals : Int32) (folds : Int32) (n : Int32) (f : Nat → Int32) (hp : P_X2_rememberLeastWord lie f) : M vV l yX2_rememberLeastWord cX2_rememberLeastWord 3 none 4 88 D (tyF cI cL cP cJ) [.ref o] [letB cI o h v lie seals folds n f] (fun (r : Unit) (w1 : List va_W) => w1 = [letB cI o h v lie seals folds ((F_X2_rememberLeastWord lie f).1) ((F_X2_rememberLeastWord lie f).2)]) := by
  unfold P_X2_rememberLeastWord at hp
  refine m_start (by decide +kernel) (Nat.le_of_ble_eq_true rfl) (fun p e s m args below meth c A Q hA hQ C hr hlo => ?_)
  refine r_Le (L' := [(0, .ref o)]) rfl ?_
  refine r_aload_n C dX2_rememberLeastWord_0 0 rfl ?_
  refine r_ws (I' := [[(o, .inr (1, [.ref h, .int lie, .int seals, .int folds]))], [(h, .inr (4, [.ref v, .int n]))], [(v, .inl (cI, 60, .inl f))]]) rfl ?_
  refine r_get (Cn := RX2) (T := TX2) (N := 4) C inT2 0 rfl rfl 1 (by decide) t_116 rfl dX2_rememberLeastWord_1 ?_
  refine r_callS (wc := []) (wr := [[(o, .inr (1, [.ref h, .int lie, .int seals, .int folds]))], [(h, .inr (4, [.ref v, .int n]))], [(v, .inl (cI, 60, .inl f))]]) (st := []) C (m_X3_length l D cI cL cP cJ lie) k_X3_length t_384 [0, 1, 2] (show ([0, 1, 2] : List Nat).Perm (List.range 3) by decide) rfl rfl rfl (Nat.le_of_ble_eq_true rfl) ⟨Nat.le_of_ble_eq_true rfl, Nat.le_of_ble_eq_true rfl⟩ ⟨Nat.zero_le _, Nat.zero_le _⟩ dX2_rememberLeastWord_4 (fun r1 wr1 hw1 => ?_)
  obtain ⟨e_r1, rfl⟩ := hw1
  have hp := hp r1 e_r1
  refine r_ws (I' := [[(o, .inr (1, [.ref h, .int lie, .int seals, .int folds]))], [(h, .inr (4, [.ref v, .int n]))], [(v, .inl (cI, 60, .inl f))]]) rfl ?_
  refine r_istore_n (L' := [(1, .int r1), (0, .ref o)]) C dX2_rememberLeastWord_7 (by decide) rfl ?_
  refine r_aload_n C dX2_rememberLeastWord_8 1 rfl ?_
  refine r_get (Cn := RX2) (T := TX2) (N := 4) C inT2 0 rfl rfl 0 (by decide) t_115 rfl dX2_rememberLeastWord_9 ?_
  refine r_ws (I' := [[(o, .inr (1, [.ref h, .int lie, .int seals, .int folds]))], rowB cI h v n f]) rfl ?_
  refine r_callV (ci := 4) (wc := [rowB cI h v n f]) (wr := [[(o, .inr (1, [.ref h, .int lie, .int seals, .int folds]))]]) (st := []) C (m_X6_clear l D cI cL cP cJ h v n f) k_X6_clear t_742 [1, 0] (show ([1, 0] : List Nat).Perm (List.range 2) by decide) rfl rfl rfl (q0 := 0) rfl rfl rfl (Nat.le_of_ble_eq_true rfl) ⟨Nat.le_of_ble_eq_true rfl, Nat.le_of_ble_eq_true rfl⟩ ⟨Nat.zero_le _, Nat.zero_le _⟩ dX2_rememberLeastWord_12 (fun r2 wr2 hw2 => ?_)
  obtain rfl := hw2
  obtain ⟨x3, e_x3⟩ : ∃ z : Int32, z = F_X6_clear  := ⟨_, rfl⟩
  have hp := hp x3 e_x3
  refine r_ws (I' := [rowB cI h v x3 f, [(o, .inr (1, [.ref h, .int lie, .int seals, .int folds]))]]) (by rw [e_x3]; rfl) ?_
  refine r_iconst (v := 0) C dX2_rememberLeastWord_15 (by decide) ?_
  refine r_istore_n (L' := [(2, .int 0), (1, .int r1), (0, .ref o)]) C dX2_rememberLeastWord_16 (by decide) rfl ?_
  have hpl := hp
  have hL : ∀ (nn : Nat) (y4 : Int32) (k5 : Nat → Int32) (y6 : Int32), P_X2_rememberLeastWord_L17 r1 lie nn y4 k5 y6 → (∀ z15 : Int32, z15 = (F_X2_rememberLeastWord_L17 r1 lie nn y4 k5 y6).1 → ∀ f16 : Nat → Int32, f16 = (F_X2_rememberLeastWord_L17 r1 lie nn y4 k5 y6).2.1 → ∀ z17 : Int32, z17 = (F_X2_rememberLeastWord_L17 r1 lie nn y4 k5 y6).2.2 → V p l e (rmm 4 88) s m args below meth c 3 D A 0 0 Q [rowB cI h v z15 f16, [(o, .inr (1, [.ref h, .int lie, .int seals, .int folds]))]] [(2, .int z17), (1, .int r1), (0, .ref o)] 43 []) → V p l e (rmm 4 88) s m args below meth c 3 D A 0 0 Q [rowB cI h v y4 k5, [(o, .inr (1, [.ref h, .int lie, .int seals, .int folds]))]] [(2, .int y6), (1, .int r1), (0, .ref o)] 17 [] := by
    clear hpl
    intro nn
    induction nn with
    | zero => intro y4 k5 y6 hp kk; rw [P_X2_rememberLeastWord_L17] at hp; exact hp.elim
    | succ nn ih =>
      intro y4 k5 y6 hp kk
      rw [P_X2_rememberLeastWord_L17] at hp
      refine r_iload_n C dX2_rememberLeastWord_17 0 rfl ?_
      refine r_iload_n C dX2_rememberLeastWord_18 1 rfl ?_
      refine r_icmp_ge (tgt := 43) C dX2_rememberLeastWord_19 (by decide) (fun c7 => ?_) (fun c7 => ?_)
      · have eF : F_X2_rememberLeastWord_L17 r1 lie (nn + 1) y4 k5 y6 = (y4, k5, y6) := by simp only [F_X2_rememberLeastWord_L17, if_pos c7]
        exact kk _ (by rw [eF]) _ (by rw [eF]) _ (by rw [eF])
      · have hp := hp.2 c7
        refine r_aload_n C dX2_rememberLeastWord_22 2 rfl ?_
        refine r_get (Cn := RX2) (T := TX2) (N := 4) C inT2 1 rfl rfl 0 (by decide) t_115 rfl dX2_rememberLeastWord_23 ?_
        refine r_aload_n C dX2_rememberLeastWord_26 2 rfl ?_
        refine r_get (Cn := RX2) (T := TX2) (N := 4) C inT2 1 rfl rfl 1 (by decide) t_116 rfl dX2_rememberLeastWord_27 ?_
        refine r_iload_n C dX2_rememberLeastWord_30 0 rfl ?_
        obtain ⟨h8, hp⟩ := hp
        refine r_callS (wc := []) (wr := [rowB cI h v y4 k5, [(o, .inr (1, [.ref h, .int lie, .int seals, .int folds]))]]) (st := [.ref h]) C (m_X3_leastCrease l D cI cL cP cJ lie y6 h8) k_X3_leastCrease t_743 [0, 1] (show ([0, 1] : List Nat).Perm (List.range 2) by decide) rfl rfl rfl (Nat.le_of_ble_eq_true rfl) ⟨Nat.le_of_ble_eq_true rfl, Nat.le_of_ble_eq_true rfl⟩ ⟨Nat.zero_le _, Nat.zero_le _⟩ dX2_rememberLeastWord_31 (fun r9 wr9 hw9 => ?_)
        obtain ⟨e_r9, rfl⟩ := hw9
        have hp := hp r9 e_r9
        refine r_ws (I' := [rowB cI h v y4 k5, [(o, .inr (1, [.ref h, .int lie, .int seals, .int folds]))]]) rfl ?_
        obtain ⟨h10, hp⟩ := hp
        refine r_callV (ci := 4) (wc := [rowB cI h v y4 k5]) (wr := [[(o, .inr (1, [.ref h, .int lie, .int seals, .int folds]))]]) (st := []) C (m_X6_add l D cI cL cP cJ h v y4 k5 r9 h10) k_X6_add t_659 [0, 1] (show ([0, 1] : List Nat).Perm (List.range 2) by decide) rfl rfl rfl (q0 := 0) rfl rfl rfl (Nat.le_of_ble_eq_true rfl) ⟨Nat.le_of_ble_eq_true rfl, Nat.le_of_ble_eq_true rfl⟩ ⟨Nat.zero_le _, Nat.zero_le _⟩ dX2_rememberLeastWord_34 (fun r11 wr11 hw11 => ?_)
        obtain rfl := hw11
        obtain ⟨x12, e_x12⟩ : ∃ z : Int32, z = (F_X6_add y4 k5 r9).1 := ⟨_, rfl⟩
        have hp := hp x12 e_x12
        obtain ⟨g13, e_g13⟩ : ∃ z : Nat → Int32, z = (F_X6_add y4 k5 r9).2 := ⟨_, rfl⟩
        have hp := hp g13 e_g13
        refine r_ws (I' := [rowB cI h v x12 g13, [(o, .inr (1, [.ref h, .int lie, .int seals, .int folds]))]]) (by rw [e_x12, e_g13]; rfl) ?_
        obtain ⟨x14, e_x14⟩ : ∃ z : Int32, z = y6 + 1 := ⟨_, rfl⟩
        have hp := hp x14 e_x14
        refine r_iinc (v := x14) (L' := [(2, .int x14), (1, .int r1), (0, .ref o)]) C dX2_rememberLeastWord_37 0 rfl (by rw [e_x14]; exact ii (by decide)) (by decide) rfl ?_
        refine r_goto (tgt := 17) C dX2_rememberLeastWord_40 (by decide) ?_
        have eF : F_X2_rememberLeastWord_L17 r1 lie (nn + 1) y4 k5 y6 = F_X2_rememberLeastWord_L17 r1 lie nn x12 g13 x14 := by have q := e_r9.symm; subst q; have q := e_x12.symm; subst q; have q := e_g13.symm; subst q; have q := e_x14.symm; subst q; simp only [F_X2_rememberLeastWord_L17, if_neg c7]
        exact ih x12 g13 x14 hp (fun z15 e_z15 f16 e_f16 z17 e_z17 => kk z15 (by rw [eF]; exact e_z15) f16 (by rw [eF]; exact e_f16) z17 (by rw [eF]; exact e_z17))
  refine hL 17 x3 f 0 hpl (fun z15 e_z15 f16 e_f16 z17 e_z17 => ?_)
  clear hL hpl
  refine r_ws (I' := [[(h, .inr (4, [.ref v, .int z15]))], [(v, .inl (cI, 60, .inl f16))], [(o, .inr (1, [.ref h, .int lie, .int seals, .int folds]))]]) rfl ?_
  refine r_pl (I' := [[(o, .inr (1, [.ref h, .int lie, .int seals, .int folds]))], [(h, .inr (4, [.ref v, .int z15]))], [(v, .inl (cI, 60, .inl f16))]]) [2, 0, 1] (show ([2, 0, 1] : List Nat).Perm (List.range 3) by decide) rfl ?_
  refine r_ws (I' := [letB cI o h v lie seals folds z15 f16]) rfl ?_
  have eF : F_X2_rememberLeastWord lie f = (z15, f16) := by have q := e_r1.symm; subst q; have q := e_x3.symm; subst q; have q := e_z15.symm; subst q; have q := e_f16.symm; subst q; have q := e_z17.symm; subst q; rfl
  exact r_vret (r := ()) C hA hr hlo dX2_rememberLeastWord_43 [letB cI o h v lie seals folds z15 f16] (by simp only [eF]) rfl hQ
theorem k_X2_layAfresh : kV yX2_layAfresh cX2_layAfresh 2 none 1 := ⟨t_752, t_753, t_60, t_754, by decide +kernel, by decide +kernel, by decide +kernel⟩
set_option maxRecDepth 20000 in
def F_X2_layAfresh (f : Nat → Int32) (i : Int32) : Int32 × Int32 × Int32 × (Nat → Int32) := let x3 : Int32 := (F_X2_rememberLeastWord i f).1; let g4 : Nat → Int32 := (F_X2_rememberLeastWord i f).2; (i, 0, x3, g4)
set_option maxRecDepth 20000 in
def P_X2_layAfresh (f : Nat → Int32) (i : Int32) : Prop := (P_X2_rememberLeastWord i f)
set_option maxRecDepth 20000 in
set_option maxHeartbeats 8000000 in
theorem m_X2_layAfresh (l : Launch) (D : va_G) (cI cL cP cJ : ClassId) (o : Nat) (h : Nat) (v : Nat) (lie : Int32) (seals : Int32) (folds : Int32) (n : Int32) (f : Nat → Int32) (i : Int32) (hp : P_X2_layAfresh f i) : M vV l yX2_layAfresh cX2_layAfresh 2 none 5 110 D (tyF cI cL cP cJ) [.ref o, .int i] [letB cI o h v lie seals folds n f] (fun (r : Unit) (w1 : List va_W) => w1 = [letB cI o h v ((F_X2_layAfresh f i).1) ((F_X2_layAfresh f i).2.1) folds ((F_X2_layAfresh f i).2.2.1) ((F_X2_layAfresh f i).2.2.2)]) := by
  unfold P_X2_layAfresh at hp
  refine m_start (by decide +kernel) (Nat.le_of_ble_eq_true rfl) (fun p e s m args below meth c A Q hA hQ C hr hlo => ?_)
  refine r_Le (L' := [(0, .ref o), (1, .int i)]) rfl ?_
  refine r_aload_n C dX2_layAfresh_0 0 rfl ?_
  refine r_iload_n C dX2_layAfresh_1 1 rfl ?_
  refine r_ws (I' := [[(o, .inr (1, [.ref h, .int lie, .int seals, .int folds]))], [(h, .inr (4, [.ref v, .int n]))], [(v, .inl (cI, 60, .inl f))]]) rfl ?_
  refine r_put (Cn := RX2) (T := TX2) (N := 4) C inT2 0 rfl rfl 1 (by decide) t_116 tyX2 tyX2_ok nmX2 rfl rfl rfl (Nat.le_of_ble_eq_true rfl) (I' := [[(o, .inr (1, [.ref h, .int i, .int seals, .int folds]))], [(h, .inr (4, [.ref v, .int n]))], [(v, .inl (cI, 60, .inl f))]]) rfl dX2_layAfresh_2 ?_
  refine r_aload_n C dX2_layAfresh_5 0 rfl ?_
  refine r_iconst (v := 0) C dX2_layAfresh_6 (by decide) ?_
  refine r_put (Cn := RX2) (T := TX2) (N := 4) C inT2 0 rfl rfl 2 (by decide) t_117 tyX2 tyX2_ok nmX2 rfl rfl rfl (Nat.le_of_ble_eq_true rfl) (I' := [[(o, .inr (1, [.ref h, .int i, .int 0, .int folds]))], [(h, .inr (4, [.ref v, .int n]))], [(v, .inl (cI, 60, .inl f))]]) rfl dX2_layAfresh_7 ?_
  refine r_aload_n C dX2_layAfresh_10 0 rfl ?_
  refine r_ws (I' := [letB cI o h v i 0 folds n f]) rfl ?_
  have h1 := hp
  refine r_callV (ci := 1) (wc := [letB cI o h v i 0 folds n f]) (wr := []) (st := []) C (m_X2_rememberLeastWord l D cI cL cP cJ o h v i 0 folds n f h1) k_X2_rememberLeastWord t_755 [0] (show ([0] : List Nat).Perm (List.range 1) by decide) rfl rfl rfl (q0 := 0) rfl rfl rfl (Nat.le_of_ble_eq_true rfl) ⟨Nat.le_of_ble_eq_true rfl, Nat.le_of_ble_eq_true rfl⟩ ⟨Nat.zero_le _, Nat.zero_le _⟩ dX2_layAfresh_11 (fun r2 wr2 hw2 => ?_)
  obtain rfl := hw2
  obtain ⟨x3, e_x3⟩ : ∃ z : Int32, z = (F_X2_rememberLeastWord i f).1 := ⟨_, rfl⟩
  obtain ⟨g4, e_g4⟩ : ∃ z : Nat → Int32, z = (F_X2_rememberLeastWord i f).2 := ⟨_, rfl⟩
  refine r_ws (I' := [letB cI o h v i 0 folds x3 g4]) (by rw [e_x3, e_g4]; rfl) ?_
  have eF : F_X2_layAfresh f i = (i, 0, x3, g4) := by have q := e_x3.symm; subst q; have q := e_g4.symm; subst q; rfl
  exact r_vret (r := ()) C hA hr hlo dX2_layAfresh_14 [letB cI o h v i 0 folds x3 g4] (by simp only [eF]) rfl hQ
theorem k_X2_isSealed : kV yX2_isSealed cX2_isSealed 2 (some .boolean) 1 := ⟨t_780, t_781, t_60, t_782, by decide +kernel, by decide +kernel, by decide +kernel⟩
set_option maxRecDepth 20000 in
def F_X2_isSealed (seals : Int32) (i : Int32) : Int32 := let x2 : Int32 := (if ((seals >>> (i &&& 31)) &&& 1) = 1 then (1) else (0)); x2
set_option maxRecDepth 20000 in
set_option maxHeartbeats 8000000 in
theorem m_X2_isSealed (l : Launch) (D : va_G) (cI cL cP cJ : ClassId) (o : Nat) (h : Nat) (v : Nat) (lie : Int32) (seals : Int32) (folds : Int32) (n : Int32) (f : Nat → Int32) (i : Int32) : M vI l yX2_isSealed cX2_isSealed 2 (some .boolean) 0 0 D (tyF cI cL cP cJ) [.ref o, .int i] [letB cI o h v lie seals folds n f] (fun (r : Int32) (w1 : List va_W) => r = (F_X2_isSealed seals i) ∧ w1 = [letB cI o h v lie seals folds n f]) := by
  refine m_start (by decide +kernel) (Nat.le_of_ble_eq_true rfl) (fun p e s m args below meth c A Q hA hQ C hr hlo => ?_)
  refine r_Le (L' := [(0, .ref o), (1, .int i)]) rfl ?_
  refine r_aload_n C dX2_isSealed_0 0 rfl ?_
  refine r_ws (I' := [[(o, .inr (1, [.ref h, .int lie, .int seals, .int folds]))], [(h, .inr (4, [.ref v, .int n]))], [(v, .inl (cI, 60, .inl f))]]) rfl ?_
  refine r_get (Cn := RX2) (T := TX2) (N := 4) C inT2 0 rfl rfl 2 (by decide) t_117 rfl dX2_isSealed_1 ?_
  refine r_iload_n C dX2_isSealed_4 1 rfl ?_
  refine r_ishr C dX2_isSealed_5 rfl ?_
  refine r_iconst (v := 1) C dX2_isSealed_6 (by decide) ?_
  refine r_iand C dX2_isSealed_7 rfl ?_
  refine r_iconst (v := 1) C dX2_isSealed_8 (by decide) ?_
  suffices K : ∀ x2 : Int32, x2 = ((if ((seals >>> (i &&& 31)) &&& 1) = 1 then (1) else (0))) → V p l e (rmm 0 0) s m args below meth c 2 D A 0 0 Q [[(o, .inr (1, [.ref h, .int lie, .int seals, .int folds]))], [(h, .inr (4, [.ref v, .int n]))], [(v, .inl (cI, 60, .inl f))]] [(0, .ref o), (1, .int i)] 17 [.int x2] by
    refine r_icmp_ne (tgt := 16) C dX2_isSealed_9 (by decide) (fun c1 => ?_) (fun c1 => ?_)
    · refine r_iconst (v := 0) C dX2_isSealed_16 (by decide) ?_
      exact K _ (by simp only [if_neg c1])
    · refine r_iconst (v := 1) C dX2_isSealed_12 (by decide) ?_
      refine r_goto (tgt := 17) C dX2_isSealed_13 (by decide) ?_
      exact K _ (by simp only [if_pos c1])
  intro x2 e_x2
  refine r_ws (I' := [letB cI o h v lie seals folds n f]) rfl ?_
  have eF : F_X2_isSealed seals i = x2 := by have q := e_x2.symm; subst q; rfl
  exact r_zret (r := x2) C hA hr hlo (nb01 (by first | (rw [e_x2]; (try dsimp only); ((repeat' split) <;> (first | exact Or.inl rfl | exact Or.inr rfl))) | (have q := e_x2.symm; subst q; (try dsimp only); ((repeat' split) <;> (first | exact Or.inl rfl | exact Or.inr rfl))))) dX2_isSealed_17 [letB cI o h v lie seals folds n f] ⟨by simp only [eF], rfl⟩ rfl hQ
theorem k_X2_changeSeal : kV yX2_changeSeal cX2_changeSeal 2 none 1 := ⟨t_788, t_789, t_60, t_790, by decide +kernel, by decide +kernel, by decide +kernel⟩
set_option maxRecDepth 20000 in
def F_X2_changeSeal (seals : Int32) (i : Int32) : Int32 := let x1 : Int32 := seals ^^^ ((1 : Int32) <<< (i &&& 31)); x1
set_option maxRecDepth 20000 in
set_option maxHeartbeats 8000000 in
theorem m_X2_changeSeal (l : Launch) (D : va_G) (cI cL cP cJ : ClassId) (o : Nat) (h : Nat) (v : Nat) (lie : Int32) (seals : Int32) (folds : Int32) (n : Int32) (f : Nat → Int32) (i : Int32) : M vV l yX2_changeSeal cX2_changeSeal 2 none 0 0 D (tyF cI cL cP cJ) [.ref o, .int i] [letB cI o h v lie seals folds n f] (fun (r : Unit) (w1 : List va_W) => w1 = [letB cI o h v lie (F_X2_changeSeal seals i) folds n f]) := by
  refine m_start (by decide +kernel) (Nat.le_of_ble_eq_true rfl) (fun p e s m args below meth c A Q hA hQ C hr hlo => ?_)
  refine r_Le (L' := [(0, .ref o), (1, .int i)]) rfl ?_
  refine r_aload_n C dX2_changeSeal_0 0 rfl ?_
  refine r_dup C dX2_changeSeal_1 rfl ?_
  refine r_ws (I' := [[(o, .inr (1, [.ref h, .int lie, .int seals, .int folds]))], [(h, .inr (4, [.ref v, .int n]))], [(v, .inl (cI, 60, .inl f))]]) rfl ?_
  refine r_get (Cn := RX2) (T := TX2) (N := 4) C inT2 0 rfl rfl 2 (by decide) t_117 rfl dX2_changeSeal_2 ?_
  refine r_iconst (v := 1) C dX2_changeSeal_5 (by decide) ?_
  refine r_iload_n C dX2_changeSeal_6 1 rfl ?_
  refine r_ishl C dX2_changeSeal_7 rfl ?_
  refine r_ixor C dX2_changeSeal_8 rfl ?_
  refine r_top (fun x1 e_x1 => ?_)
  refine r_put (Cn := RX2) (T := TX2) (N := 4) C inT2 0 rfl rfl 2 (by decide) t_117 tyX2 tyX2_ok nmX2 rfl rfl rfl (Nat.le_of_ble_eq_true rfl) (I' := [[(o, .inr (1, [.ref h, .int lie, .int x1, .int folds]))], [(h, .inr (4, [.ref v, .int n]))], [(v, .inl (cI, 60, .inl f))]]) rfl dX2_changeSeal_9 ?_
  refine r_ws (I' := [letB cI o h v lie x1 folds n f]) rfl ?_
  have eF : F_X2_changeSeal seals i = x1 := by have q := e_x1.symm; subst q; rfl
  exact r_vret (r := ()) C hA hr hlo dX2_changeSeal_12 [letB cI o h v lie x1 folds n f] (by simp only [eF]) rfl hQ
theorem k_J6_bitCount_0f7a4 : kS yJ6_bitCount_0f7a4 cJ6_bitCount_0f7a4 1 (some .int) 1 := ⟨t_480, t_76, t_481, by decide +kernel, by decide +kernel, by decide +kernel⟩
set_option maxRecDepth 20000 in
def F_J6_bitCount_0f7a4 (u : Int32) : Int32 := let x1 : Int32 := u - (((u.toUInt32 >>> ((1 : Int32).toUInt32 &&& Int32.toUInt32 31)).toInt32) &&& 1431655765); let x2 : Int32 := (x1 &&& 858993459) + (((x1.toUInt32 >>> ((2 : Int32).toUInt32 &&& Int32.toUInt32 31)).toInt32) &&& 858993459); let x3 : Int32 := (x2 + ((x2.toUInt32 >>> ((4 : Int32).toUInt32 &&& Int32.toUInt32 31)).toInt32)) &&& 252645135; let x4 : Int32 := x3 + ((x3.toUInt32 >>> ((8 : Int32).toUInt32 &&& Int32.toUInt32 31)).toInt32); let x5 : Int32 := x4 + ((x4.toUInt32 >>> ((16 : Int32).toUInt32 &&& Int32.toUInt32 31)).toInt32); x5 &&& 63
set_option maxRecDepth 20000 in
set_option maxHeartbeats 8000000 in
theorem m_J6_bitCount_0f7a4 (l : Launch) (D : va_G) (cI cL cP cJ : ClassId) (u : Int32) : M vI l yJ6_bitCount_0f7a4 cJ6_bitCount_0f7a4 1 (some .int) 0 0 D (tyF cI cL cP cJ) [.int u] [] (fun (r : Int32) (w1 : List va_W) => r = (F_J6_bitCount_0f7a4 u) ∧ w1 = []) := by
  refine m_start (by decide +kernel) (Nat.le_of_ble_eq_true rfl) (fun p e s m args below meth c A Q hA hQ C hr hlo => ?_)
  refine r_Le (L' := [(0, .int u)]) rfl ?_
  refine r_iload_n C dJ6_bitCount_0f7a4_0 0 rfl ?_
  refine r_iload_n C dJ6_bitCount_0f7a4_1 0 rfl ?_
  refine r_iconst (v := 1) C dJ6_bitCount_0f7a4_2 (by decide) ?_
  refine r_iushr C dJ6_bitCount_0f7a4_3 rfl ?_
  refine r_ldcw (v := 1431655765) C t_482 dJ6_bitCount_0f7a4_4 ?_
  refine r_iand C dJ6_bitCount_0f7a4_7 rfl ?_
  refine r_isub C dJ6_bitCount_0f7a4_8 rfl ?_
  refine r_top (fun x1 e_x1 => ?_)
  refine r_istore_n (L' := [(0, .int x1)]) C dJ6_bitCount_0f7a4_9 (by decide) rfl ?_
  refine r_iload_n C dJ6_bitCount_0f7a4_10 0 rfl ?_
  refine r_ldcw (v := 858993459) C t_483 dJ6_bitCount_0f7a4_11 ?_
  refine r_iand C dJ6_bitCount_0f7a4_14 rfl ?_
  refine r_iload_n C dJ6_bitCount_0f7a4_15 0 rfl ?_
  refine r_iconst (v := 2) C dJ6_bitCount_0f7a4_16 (by decide) ?_
  refine r_iushr C dJ6_bitCount_0f7a4_17 rfl ?_
  refine r_ldcw (v := 858993459) C t_483 dJ6_bitCount_0f7a4_18 ?_
  refine r_iand C dJ6_bitCount_0f7a4_21 rfl ?_
  refine r_iadd C dJ6_bitCount_0f7a4_22 rfl ?_
  refine r_top (fun x2 e_x2 => ?_)
  refine r_istore_n (L' := [(0, .int x2)]) C dJ6_bitCount_0f7a4_23 (by decide) rfl ?_
  refine r_iload_n C dJ6_bitCount_0f7a4_24 0 rfl ?_
  refine r_iload_n C dJ6_bitCount_0f7a4_25 0 rfl ?_
  refine r_iconst (v := 4) C dJ6_bitCount_0f7a4_26 (by decide) ?_
  refine r_iushr C dJ6_bitCount_0f7a4_27 rfl ?_
  refine r_iadd C dJ6_bitCount_0f7a4_28 rfl ?_
  refine r_ldcw (v := 252645135) C t_484 dJ6_bitCount_0f7a4_29 ?_
  refine r_iand C dJ6_bitCount_0f7a4_32 rfl ?_
  refine r_top (fun x3 e_x3 => ?_)
  refine r_istore_n (L' := [(0, .int x3)]) C dJ6_bitCount_0f7a4_33 (by decide) rfl ?_
  refine r_iload_n C dJ6_bitCount_0f7a4_34 0 rfl ?_
  refine r_iload_n C dJ6_bitCount_0f7a4_35 0 rfl ?_
  refine r_bipush (v := 8) C dJ6_bitCount_0f7a4_36 (by decide) ?_
  refine r_iushr C dJ6_bitCount_0f7a4_38 rfl ?_
  refine r_iadd C dJ6_bitCount_0f7a4_39 rfl ?_
  refine r_top (fun x4 e_x4 => ?_)
  refine r_istore_n (L' := [(0, .int x4)]) C dJ6_bitCount_0f7a4_40 (by decide) rfl ?_
  refine r_iload_n C dJ6_bitCount_0f7a4_41 0 rfl ?_
  refine r_iload_n C dJ6_bitCount_0f7a4_42 0 rfl ?_
  refine r_bipush (v := 16) C dJ6_bitCount_0f7a4_43 (by decide) ?_
  refine r_iushr C dJ6_bitCount_0f7a4_45 rfl ?_
  refine r_iadd C dJ6_bitCount_0f7a4_46 rfl ?_
  refine r_top (fun x5 e_x5 => ?_)
  refine r_istore_n (L' := [(0, .int x5)]) C dJ6_bitCount_0f7a4_47 (by decide) rfl ?_
  refine r_iload_n C dJ6_bitCount_0f7a4_48 0 rfl ?_
  refine r_bipush (v := 63) C dJ6_bitCount_0f7a4_49 (by decide) ?_
  refine r_iand C dJ6_bitCount_0f7a4_51 rfl ?_
  have eF : F_J6_bitCount_0f7a4 u = x5 &&& 63 := by have q := e_x1.symm; subst q; have q := e_x2.symm; subst q; have q := e_x3.symm; subst q; have q := e_x4.symm; subst q; have q := e_x5.symm; subst q; rfl
  exact r_iret (r := x5 &&& 63) C hA hr hlo dJ6_bitCount_0f7a4_52 [] ⟨by simp only [eF], rfl⟩ rfl hQ
theorem k_J9_min_7cf53 : kS yJ9_min_7cf53 cJ9_min_7cf53 2 (some .int) 2 := ⟨t_815, t_74, t_816, by decide +kernel, by decide +kernel, by decide +kernel⟩
set_option maxRecDepth 20000 in
def F_J9_min_7cf53 (u : Int32) (w : Int32) : Int32 := let x2 : Int32 := (if w < u then (w) else (u)); x2
set_option maxRecDepth 20000 in
set_option maxHeartbeats 8000000 in
theorem m_J9_min_7cf53 (l : Launch) (D : va_G) (cI cL cP cJ : ClassId) (u : Int32) (w : Int32) : M vI l yJ9_min_7cf53 cJ9_min_7cf53 2 (some .int) 0 0 D (tyF cI cL cP cJ) [.int u, .int w] [] (fun (r : Int32) (w1 : List va_W) => r = (F_J9_min_7cf53 u w) ∧ w1 = []) := by
  refine m_start (by decide +kernel) (Nat.le_of_ble_eq_true rfl) (fun p e s m args below meth c A Q hA hQ C hr hlo => ?_)
  refine r_Le (L' := [(0, .int u), (1, .int w)]) rfl ?_
  refine r_iload_n C dJ9_min_7cf53_0 0 rfl ?_
  refine r_iload_n C dJ9_min_7cf53_1 1 rfl ?_
  suffices K : ∀ x2 : Int32, x2 = ((if w < u then (w) else (u))) → V p l e (rmm 0 0) s m args below meth c 2 D A 0 0 Q [] [(0, .int u), (1, .int w)] 10 [.int x2] by
    refine r_icmp_gt (tgt := 9) C dJ9_min_7cf53_2 (by decide) (fun c1 => ?_) (fun c1 => ?_)
    · refine r_iload_n C dJ9_min_7cf53_9 1 rfl ?_
      exact K _ (by simp only [if_pos c1])
    · refine r_iload_n C dJ9_min_7cf53_5 0 rfl ?_
      refine r_goto (tgt := 10) C dJ9_min_7cf53_6 (by decide) ?_
      exact K _ (by simp only [if_neg c1])
  intro x2 e_x2
  have eF : F_J9_min_7cf53 u w = x2 := by have q := e_x2.symm; subst q; rfl
  exact r_iret (r := x2) C hA hr hlo dJ9_min_7cf53_10 [] ⟨by simp only [eF], rfl⟩ rfl hQ
theorem k_Jxe99ae_isNaN_b9ae7 : kS yJxe99ae_isNaN_b9ae7 cJxe99ae_isNaN_b9ae7 2 (some .boolean) 1 := ⟨t_1273, t_78, t_1274, by decide +kernel, by decide +kernel, by decide +kernel⟩
set_option maxRecDepth 20000 in
def F_Jxe99ae_isNaN_b9ae7 (u : UInt64) : Int32 := let x2 : Int32 := (if (Op.cmpValue (FP.dcmp u u) CmpOp.l) = 0 then (0) else (1)); x2
set_option maxRecDepth 20000 in
set_option maxHeartbeats 8000000 in
theorem m_Jxe99ae_isNaN_b9ae7 (l : Launch) (D : va_G) (cI cL cP cJ : ClassId) (u : UInt64) : M vI l yJxe99ae_isNaN_b9ae7 cJxe99ae_isNaN_b9ae7 2 (some .boolean) 0 0 D (tyF cI cL cP cJ) [.double u] [] (fun (r : Int32) (w1 : List va_W) => r = (F_Jxe99ae_isNaN_b9ae7 u) ∧ w1 = []) := by
  refine m_start (by decide +kernel) (Nat.le_of_ble_eq_true rfl) (fun p e s m args below meth c A Q hA hQ C hr hlo => ?_)
  refine r_Le (L' := [(0, .double u)]) rfl ?_
  refine r_dload_n C dJxe99ae_isNaN_b9ae7_0 0 rfl ?_
  refine r_dload_n C dJxe99ae_isNaN_b9ae7_1 0 rfl ?_
  refine r_dcmp C dJxe99ae_isNaN_b9ae7_2 ?_
  suffices K : ∀ x2 : Int32, x2 = ((if (Op.cmpValue (FP.dcmp u u) CmpOp.l) = 0 then (0) else (1))) → V p l e (rmm 0 0) s m args below meth c 2 D A 0 0 Q [] [(0, .double u)] 11 [.int x2] by
    refine r_if_eq (tgt := 10) C dJxe99ae_isNaN_b9ae7_3 (by decide) (fun c1 => ?_) (fun c1 => ?_)
    · refine r_iconst (v := 0) C dJxe99ae_isNaN_b9ae7_10 (by decide) ?_
      exact K _ (by simp only [if_pos c1])
    · refine r_iconst (v := 1) C dJxe99ae_isNaN_b9ae7_6 (by decide) ?_
      refine r_goto (tgt := 11) C dJxe99ae_isNaN_b9ae7_7 (by decide) ?_
      exact K _ (by simp only [if_neg c1])
  intro x2 e_x2
  have eF : F_Jxe99ae_isNaN_b9ae7 u = x2 := by have q := e_x2.symm; subst q; rfl
  exact r_zret (r := x2) C hA hr hlo (nb01 (by first | (rw [e_x2]; (try dsimp only); ((repeat' split) <;> (first | exact Or.inl rfl | exact Or.inr rfl))) | (have q := e_x2.symm; subst q; (try dsimp only); ((repeat' split) <;> (first | exact Or.inl rfl | exact Or.inr rfl))))) dJxe99ae_isNaN_b9ae7_11 [] ⟨by simp only [eF], rfl⟩ rfl hQ
theorem k_Jxe99ae_doubleToLongBits_ccdee : kS yJxe99ae_doubleToLongBits_ccdee cJxe99ae_doubleToLongBits_ccdee 2 (some .long) 1 := ⟨t_1270, t_78, t_1271, by decide +kernel, by decide +kernel, by decide +kernel⟩
set_option maxRecDepth 20000 in
def F_Jxe99ae_doubleToLongBits_ccdee (u : UInt64) : Int64 := let r1 : Int32 := F_Jxe99ae_isNaN_b9ae7 u; (if r1 = 0 then (u.toInt64) else (9221120237041090560))
set_option maxRecDepth 20000 in
set_option maxHeartbeats 8000000 in
theorem m_Jxe99ae_doubleToLongBits_ccdee (l : Launch) (D : va_G) (cI cL cP cJ : ClassId) (u : UInt64) : M vJ l yJxe99ae_doubleToLongBits_ccdee cJxe99ae_doubleToLongBits_ccdee 2 (some .long) 1 23 D (tyF cI cL cP cJ) [.double u] [] (fun (r : Int64) (w1 : List va_W) => r = (F_Jxe99ae_doubleToLongBits_ccdee u) ∧ w1 = []) := by
  refine m_start (by decide +kernel) (Nat.le_of_ble_eq_true rfl) (fun p e s m args below meth c A Q hA hQ C hr hlo => ?_)
  refine r_Le (L' := [(0, .double u)]) rfl ?_
  refine r_dload_n C dJxe99ae_doubleToLongBits_ccdee_0 0 rfl ?_
  refine r_callS (wc := []) (wr := []) (st := []) C (m_Jxe99ae_isNaN_b9ae7 l D cI cL cP cJ u) k_Jxe99ae_isNaN_b9ae7 t_1272 [] (show ([] : List Nat).Perm (List.range 0) by decide) rfl rfl rfl (Nat.le_of_ble_eq_true rfl) ⟨Nat.le_of_ble_eq_true rfl, Nat.le_of_ble_eq_true rfl⟩ ⟨Nat.zero_le _, Nat.zero_le _⟩ dJxe99ae_doubleToLongBits_ccdee_1 (fun r1 wr1 hw1 => ?_)
  obtain ⟨e_r1, rfl⟩ := hw1
  refine r_ws (I' := []) rfl ?_
  refine r_if_ne (tgt := 12) C dJxe99ae_doubleToLongBits_ccdee_4 (by decide) (fun c2 => ?_) (fun c2 => ?_)
  · refine r_ldc2 (v := 9221120237041090560) C t_1278 dJxe99ae_doubleToLongBits_ccdee_12 ?_
    have eF : F_Jxe99ae_doubleToLongBits_ccdee u = 9221120237041090560 := by have q := e_r1.symm; subst q; simp only [F_Jxe99ae_doubleToLongBits_ccdee, if_neg c2]
    exact r_lret (r := 9221120237041090560) C hA hr hlo dJxe99ae_doubleToLongBits_ccdee_15 [] ⟨by simp only [eF], rfl⟩ rfl hQ
  · refine r_dload_n C dJxe99ae_doubleToLongBits_ccdee_7 0 rfl ?_
    refine r_d2rl C t_1275 t_1276 t_78 (Nat.le_of_ble_eq_true rfl) (Nat.le_of_ble_eq_true rfl) dJxe99ae_doubleToLongBits_ccdee_8 ?_
    have eF : F_Jxe99ae_doubleToLongBits_ccdee u = u.toInt64 := by have q := e_r1.symm; subst q; simp only [F_Jxe99ae_doubleToLongBits_ccdee, if_pos c2]
    exact r_lret (r := u.toInt64) C hA hr hlo dJxe99ae_doubleToLongBits_ccdee_11 [] ⟨by simp only [eF], rfl⟩ rfl hQ
theorem k_Jxf58ca_isNaN_12338 : kS yJxf58ca_isNaN_12338 cJxf58ca_isNaN_12338 1 (some .boolean) 1 := ⟨t_1283, t_79, t_1284, by decide +kernel, by decide +kernel, by decide +kernel⟩
set_option maxRecDepth 20000 in
def F_Jxf58ca_isNaN_12338 (u : UInt32) : Int32 := let x2 : Int32 := (if (Op.cmpValue (FP.fcmp u u) CmpOp.l) = 0 then (0) else (1)); x2
set_option maxRecDepth 20000 in
set_option maxHeartbeats 8000000 in
theorem m_Jxf58ca_isNaN_12338 (l : Launch) (D : va_G) (cI cL cP cJ : ClassId) (u : UInt32) : M vI l yJxf58ca_isNaN_12338 cJxf58ca_isNaN_12338 1 (some .boolean) 0 0 D (tyF cI cL cP cJ) [.float u] [] (fun (r : Int32) (w1 : List va_W) => r = (F_Jxf58ca_isNaN_12338 u) ∧ w1 = []) := by
  refine m_start (by decide +kernel) (Nat.le_of_ble_eq_true rfl) (fun p e s m args below meth c A Q hA hQ C hr hlo => ?_)
  refine r_Le (L' := [(0, .float u)]) rfl ?_
  refine r_fload_n C dJxf58ca_isNaN_12338_0 0 rfl ?_
  refine r_fload_n C dJxf58ca_isNaN_12338_1 0 rfl ?_
  refine r_fcmp C dJxf58ca_isNaN_12338_2 ?_
  suffices K : ∀ x2 : Int32, x2 = ((if (Op.cmpValue (FP.fcmp u u) CmpOp.l) = 0 then (0) else (1))) → V p l e (rmm 0 0) s m args below meth c 1 D A 0 0 Q [] [(0, .float u)] 11 [.int x2] by
    refine r_if_eq (tgt := 10) C dJxf58ca_isNaN_12338_3 (by decide) (fun c1 => ?_) (fun c1 => ?_)
    · refine r_iconst (v := 0) C dJxf58ca_isNaN_12338_10 (by decide) ?_
      exact K _ (by simp only [if_pos c1])
    · refine r_iconst (v := 1) C dJxf58ca_isNaN_12338_6 (by decide) ?_
      refine r_goto (tgt := 11) C dJxf58ca_isNaN_12338_7 (by decide) ?_
      exact K _ (by simp only [if_neg c1])
  intro x2 e_x2
  have eF : F_Jxf58ca_isNaN_12338 u = x2 := by have q := e_x2.symm; subst q; rfl
  exact r_zret (r := x2) C hA hr hlo (nb01 (by first | (rw [e_x2]; (try dsimp only); ((repeat' split) <;> (first | exact Or.inl rfl | exact Or.inr rfl))) | (have q := e_x2.symm; subst q; (try dsimp only); ((repeat' split) <;> (first | exact Or.inl rfl | exact Or.inr rfl))))) dJxf58ca_isNaN_12338_11 [] ⟨by simp only [eF], rfl⟩ rfl hQ
theorem k_Jxf58ca_floatToIntBits_5c35a : kS yJxf58ca_floatToIntBits_5c35a cJxf58ca_floatToIntBits_5c35a 1 (some .int) 1 := ⟨t_1280, t_79, t_1281, by decide +kernel, by decide +kernel, by decide +kernel⟩
set_option maxRecDepth 20000 in
def F_Jxf58ca_floatToIntBits_5c35a (u : UInt32) : Int32 := let r1 : Int32 := F_Jxf58ca_isNaN_12338 u; (if r1 = 0 then (u.toInt32) else (2143289344))
set_option maxRecDepth 20000 in
set_option maxHeartbeats 8000000 in
theorem m_Jxf58ca_floatToIntBits_5c35a (l : Launch) (D : va_G) (cI cL cP cJ : ClassId) (u : UInt32) : M vI l yJxf58ca_floatToIntBits_5c35a cJxf58ca_floatToIntBits_5c35a 1 (some .int) 1 23 D (tyF cI cL cP cJ) [.float u] [] (fun (r : Int32) (w1 : List va_W) => r = (F_Jxf58ca_floatToIntBits_5c35a u) ∧ w1 = []) := by
  refine m_start (by decide +kernel) (Nat.le_of_ble_eq_true rfl) (fun p e s m args below meth c A Q hA hQ C hr hlo => ?_)
  refine r_Le (L' := [(0, .float u)]) rfl ?_
  refine r_fload_n C dJxf58ca_floatToIntBits_5c35a_0 0 rfl ?_
  refine r_callS (wc := []) (wr := []) (st := []) C (m_Jxf58ca_isNaN_12338 l D cI cL cP cJ u) k_Jxf58ca_isNaN_12338 t_1282 [] (show ([] : List Nat).Perm (List.range 0) by decide) rfl rfl rfl (Nat.le_of_ble_eq_true rfl) ⟨Nat.le_of_ble_eq_true rfl, Nat.le_of_ble_eq_true rfl⟩ ⟨Nat.zero_le _, Nat.zero_le _⟩ dJxf58ca_floatToIntBits_5c35a_1 (fun r1 wr1 hw1 => ?_)
  obtain ⟨e_r1, rfl⟩ := hw1
  refine r_ws (I' := []) rfl ?_
  refine r_if_ne (tgt := 12) C dJxf58ca_floatToIntBits_5c35a_4 (by decide) (fun c2 => ?_) (fun c2 => ?_)
  · refine r_ldc (v := 2143289344) C t_1288 dJxf58ca_floatToIntBits_5c35a_12 ?_
    have eF : F_Jxf58ca_floatToIntBits_5c35a u = 2143289344 := by have q := e_r1.symm; subst q; simp only [F_Jxf58ca_floatToIntBits_5c35a, if_neg c2]
    exact r_iret (r := 2143289344) C hA hr hlo dJxf58ca_floatToIntBits_5c35a_14 [] ⟨by simp only [eF], rfl⟩ rfl hQ
  · refine r_fload_n C dJxf58ca_floatToIntBits_5c35a_7 0 rfl ?_
    refine r_f2ri C t_1285 t_1286 t_79 (Nat.le_of_ble_eq_true rfl) (Nat.le_of_ble_eq_true rfl) dJxf58ca_floatToIntBits_5c35a_8 ?_
    have eF : F_Jxf58ca_floatToIntBits_5c35a u = u.toInt32 := by have q := e_r1.symm; subst q; simp only [F_Jxf58ca_floatToIntBits_5c35a, if_pos c2]
    exact r_iret (r := u.toInt32) C hA hr hlo dJxf58ca_floatToIntBits_5c35a_11 [] ⟨by simp only [eF], rfl⟩ rfl hQ
theorem k_X2_sealed : kV yX2_sealed cX2_sealed 1 (some .int) 0 := ⟨t_476, t_477, t_60, t_478, by decide +kernel, by decide +kernel, by decide +kernel⟩
set_option maxRecDepth 20000 in
def F_X2_sealed (seals : Int32) : Int32 := let r1 : Int32 := F_J6_bitCount_0f7a4 seals; r1
set_option maxRecDepth 20000 in
set_option maxHeartbeats 8000000 in
theorem m_X2_sealed (l : Launch) (D : va_G) (cI cL cP cJ : ClassId) (o : Nat) (h : Nat) (v : Nat) (lie : Int32) (seals : Int32) (folds : Int32) (n : Int32) (f : Nat → Int32) : M vI l yX2_sealed cX2_sealed 1 (some .int) 1 20 D (tyF cI cL cP cJ) [.ref o] [letB cI o h v lie seals folds n f] (fun (r : Int32) (w1 : List va_W) => r = (F_X2_sealed seals) ∧ w1 = [letB cI o h v lie seals folds n f]) := by
  refine m_start (by decide +kernel) (Nat.le_of_ble_eq_true rfl) (fun p e s m args below meth c A Q hA hQ C hr hlo => ?_)
  refine r_Le (L' := [(0, .ref o)]) rfl ?_
  refine r_aload_n C dX2_sealed_0 0 rfl ?_
  refine r_ws (I' := [[(o, .inr (1, [.ref h, .int lie, .int seals, .int folds]))], [(h, .inr (4, [.ref v, .int n]))], [(v, .inl (cI, 60, .inl f))]]) rfl ?_
  refine r_get (Cn := RX2) (T := TX2) (N := 4) C inT2 0 rfl rfl 2 (by decide) t_117 rfl dX2_sealed_1 ?_
  refine r_callS (wc := []) (wr := [[(o, .inr (1, [.ref h, .int lie, .int seals, .int folds]))], [(h, .inr (4, [.ref v, .int n]))], [(v, .inl (cI, 60, .inl f))]]) (st := []) C (m_J6_bitCount_0f7a4 l D cI cL cP cJ seals) k_J6_bitCount_0f7a4 t_479 [0, 1, 2] (show ([0, 1, 2] : List Nat).Perm (List.range 3) by decide) rfl rfl rfl (Nat.le_of_ble_eq_true rfl) ⟨Nat.le_of_ble_eq_true rfl, Nat.le_of_ble_eq_true rfl⟩ ⟨Nat.zero_le _, Nat.zero_le _⟩ dX2_sealed_4 (fun r1 wr1 hw1 => ?_)
  obtain ⟨e_r1, rfl⟩ := hw1
  refine r_ws (I' := [[(o, .inr (1, [.ref h, .int lie, .int seals, .int folds]))], [(h, .inr (4, [.ref v, .int n]))], [(v, .inl (cI, 60, .inl f))]]) rfl ?_
  refine r_ws (I' := [letB cI o h v lie seals folds n f]) rfl ?_
  have eF : F_X2_sealed seals = r1 := by have q := e_r1.symm; subst q; rfl
  exact r_iret (r := r1) C hA hr hlo dX2_sealed_7 [letB cI o h v lie seals folds n f] ⟨by simp only [eF], rfl⟩ rfl hQ
theorem k_X2_barredMask : kV yX2_barredMask cX2_barredMask 3 (some .int) 0 := ⟨t_431, t_2, t_60, t_432, by decide +kernel, by decide +kernel, by decide +kernel⟩
set_option maxRecDepth 20000 in
def F_X2_barredMask (seals : Int32) (n : Int32) : Int32 := let r1 : Int32 := F_X2_reasonAgainst seals n 0; let x3 : Int32 := (if r1 = 0 then (0) else (1)); let x4 : Int32 := (0 : Int32) ||| x3; let r5 : Int32 := F_X2_reasonAgainst seals n 1; let x7 : Int32 := (if r5 = 0 then (0) else (2)); let x8 : Int32 := x4 ||| x7; let r9 : Int32 := F_X2_reasonAgainst seals n 2; let x11 : Int32 := (if r9 = 0 then (0) else (4)); let x12 : Int32 := x8 ||| x11; let r13 : Int32 := F_X2_reasonAgainst seals n 3; let x15 : Int32 := (if r13 = 0 then (0) else (8)); let x16 : Int32 := x12 ||| x15; x16
set_option maxRecDepth 20000 in
set_option maxHeartbeats 8000000 in
theorem m_X2_barredMask (l : Launch) (D : va_G) (cI cL cP cJ : ClassId) (o : Nat) (h : Nat) (v : Nat) (lie : Int32) (seals : Int32) (folds : Int32) (n : Int32) (f : Nat → Int32) : M vI l yX2_barredMask cX2_barredMask 3 (some .int) 2 43 D (tyF cI cL cP cJ) [.ref o] [letB cI o h v lie seals folds n f] (fun (r : Int32) (w1 : List va_W) => r = (F_X2_barredMask seals n) ∧ w1 = [letB cI o h v lie seals folds n f]) := by
  refine m_start (by decide +kernel) (Nat.le_of_ble_eq_true rfl) (fun p e s m args below meth c A Q hA hQ C hr hlo => ?_)
  refine r_Le (L' := [(0, .ref o)]) rfl ?_
  refine r_iconst (v := 0) C dX2_barredMask_0 (by decide) ?_
  refine r_istore_n (L' := [(1, .int 0), (0, .ref o)]) C dX2_barredMask_1 (by decide) rfl ?_
  refine r_iconst (v := 0) C dX2_barredMask_2 (by decide) ?_
  refine r_istore_n (L' := [(2, .int 0), (1, .int 0), (0, .ref o)]) C dX2_barredMask_3 (by decide) rfl ?_
  refine r_iload_n C dX2_barredMask_4 0 rfl ?_
  refine r_iconst (v := 4) C dX2_barredMask_5 (by decide) ?_
  refine r_icmp_ge (tgt := 33) C dX2_barredMask_6 (by decide) (fun c => absurd c (by decide)) (fun _ => ?_)
  refine r_iload_n C dX2_barredMask_9 1 rfl ?_
  refine r_aload_n C dX2_barredMask_10 2 rfl ?_
  refine r_iload_n C dX2_barredMask_11 0 rfl ?_
  refine r_callV (ci := 1) (wc := [letB cI o h v lie seals folds n f]) (wr := []) (st := [.int 0]) C (m_X2_reasonAgainst l D cI cL cP cJ o h v lie seals folds n f 0) k_X2_reasonAgainst t_433 [0] (show ([0] : List Nat).Perm (List.range 1) by decide) rfl rfl rfl (q0 := 0) rfl rfl rfl (Nat.le_of_ble_eq_true rfl) ⟨Nat.le_of_ble_eq_true rfl, Nat.le_of_ble_eq_true rfl⟩ ⟨Nat.zero_le _, Nat.zero_le _⟩ dX2_barredMask_12 (fun r1 wr1 hw1 => ?_)
  obtain ⟨e_r1, rfl⟩ := hw1
  refine r_ws (I' := [letB cI o h v lie seals folds n f]) rfl ?_
  suffices K : ∀ x3 : Int32, x3 = ((if r1 = 0 then (0) else (1))) → V p l e (rmm 2 43) s m args below meth c 3 D A 0 0 Q [letB cI o h v lie seals folds n f] [(2, .int 0), (1, .int 0), (0, .ref o)] 25 [.int x3, .int 0] by
    refine r_if_ne (tgt := 22) C dX2_barredMask_15 (by decide) (fun c2 => ?_) (fun c2 => ?_)
    · refine r_iconst (v := 1) C dX2_barredMask_22 (by decide) ?_
      refine r_iload_n C dX2_barredMask_23 0 rfl ?_
      refine r_ishl (z := 1) C dX2_barredMask_24 (by decide) ?_
      exact K _ (by simp only [if_neg c2])
    · refine r_iconst (v := 0) C dX2_barredMask_18 (by decide) ?_
      refine r_goto (tgt := 25) C dX2_barredMask_19 (by decide) ?_
      exact K _ (by simp only [if_pos c2])
  intro x3 e_x3
  refine r_ior C dX2_barredMask_25 rfl ?_
  refine r_top (fun x4 e_x4 => ?_)
  refine r_istore_n (L' := [(1, .int x4), (2, .int 0), (0, .ref o)]) C dX2_barredMask_26 (by decide) rfl ?_
  refine r_iinc (v := 1) (L' := [(2, .int 1), (1, .int x4), (0, .ref o)]) C dX2_barredMask_27 1 rfl (by decide) (by decide) rfl ?_
  refine r_goto (tgt := 4) C dX2_barredMask_30 (by decide) ?_
  refine r_iload_n C dX2_barredMask_4 0 rfl ?_
  refine r_iconst (v := 4) C dX2_barredMask_5 (by decide) ?_
  refine r_icmp_ge (tgt := 33) C dX2_barredMask_6 (by decide) (fun c => absurd c (by decide)) (fun _ => ?_)
  refine r_iload_n C dX2_barredMask_9 1 rfl ?_
  refine r_aload_n C dX2_barredMask_10 2 rfl ?_
  refine r_iload_n C dX2_barredMask_11 0 rfl ?_
  refine r_callV (ci := 1) (wc := [letB cI o h v lie seals folds n f]) (wr := []) (st := [.int x4]) C (m_X2_reasonAgainst l D cI cL cP cJ o h v lie seals folds n f 1) k_X2_reasonAgainst t_433 [0] (show ([0] : List Nat).Perm (List.range 1) by decide) rfl rfl rfl (q0 := 0) rfl rfl rfl (Nat.le_of_ble_eq_true rfl) ⟨Nat.le_of_ble_eq_true rfl, Nat.le_of_ble_eq_true rfl⟩ ⟨Nat.zero_le _, Nat.zero_le _⟩ dX2_barredMask_12 (fun r5 wr5 hw5 => ?_)
  obtain ⟨e_r5, rfl⟩ := hw5
  refine r_ws (I' := [letB cI o h v lie seals folds n f]) rfl ?_
  suffices K : ∀ x7 : Int32, x7 = ((if r5 = 0 then (0) else (2))) → V p l e (rmm 2 43) s m args below meth c 3 D A 0 0 Q [letB cI o h v lie seals folds n f] [(2, .int 1), (1, .int x4), (0, .ref o)] 25 [.int x7, .int x4] by
    refine r_if_ne (tgt := 22) C dX2_barredMask_15 (by decide) (fun c6 => ?_) (fun c6 => ?_)
    · refine r_iconst (v := 1) C dX2_barredMask_22 (by decide) ?_
      refine r_iload_n C dX2_barredMask_23 0 rfl ?_
      refine r_ishl (z := 2) C dX2_barredMask_24 (by decide) ?_
      exact K _ (by simp only [if_neg c6])
    · refine r_iconst (v := 0) C dX2_barredMask_18 (by decide) ?_
      refine r_goto (tgt := 25) C dX2_barredMask_19 (by decide) ?_
      exact K _ (by simp only [if_pos c6])
  intro x7 e_x7
  refine r_ior C dX2_barredMask_25 rfl ?_
  refine r_top (fun x8 e_x8 => ?_)
  refine r_istore_n (L' := [(1, .int x8), (2, .int 1), (0, .ref o)]) C dX2_barredMask_26 (by decide) rfl ?_
  refine r_iinc (v := 2) (L' := [(2, .int 2), (1, .int x8), (0, .ref o)]) C dX2_barredMask_27 1 rfl (by decide) (by decide) rfl ?_
  refine r_goto (tgt := 4) C dX2_barredMask_30 (by decide) ?_
  refine r_iload_n C dX2_barredMask_4 0 rfl ?_
  refine r_iconst (v := 4) C dX2_barredMask_5 (by decide) ?_
  refine r_icmp_ge (tgt := 33) C dX2_barredMask_6 (by decide) (fun c => absurd c (by decide)) (fun _ => ?_)
  refine r_iload_n C dX2_barredMask_9 1 rfl ?_
  refine r_aload_n C dX2_barredMask_10 2 rfl ?_
  refine r_iload_n C dX2_barredMask_11 0 rfl ?_
  refine r_callV (ci := 1) (wc := [letB cI o h v lie seals folds n f]) (wr := []) (st := [.int x8]) C (m_X2_reasonAgainst l D cI cL cP cJ o h v lie seals folds n f 2) k_X2_reasonAgainst t_433 [0] (show ([0] : List Nat).Perm (List.range 1) by decide) rfl rfl rfl (q0 := 0) rfl rfl rfl (Nat.le_of_ble_eq_true rfl) ⟨Nat.le_of_ble_eq_true rfl, Nat.le_of_ble_eq_true rfl⟩ ⟨Nat.zero_le _, Nat.zero_le _⟩ dX2_barredMask_12 (fun r9 wr9 hw9 => ?_)
  obtain ⟨e_r9, rfl⟩ := hw9
  refine r_ws (I' := [letB cI o h v lie seals folds n f]) rfl ?_
  suffices K : ∀ x11 : Int32, x11 = ((if r9 = 0 then (0) else (4))) → V p l e (rmm 2 43) s m args below meth c 3 D A 0 0 Q [letB cI o h v lie seals folds n f] [(2, .int 2), (1, .int x8), (0, .ref o)] 25 [.int x11, .int x8] by
    refine r_if_ne (tgt := 22) C dX2_barredMask_15 (by decide) (fun c10 => ?_) (fun c10 => ?_)
    · refine r_iconst (v := 1) C dX2_barredMask_22 (by decide) ?_
      refine r_iload_n C dX2_barredMask_23 0 rfl ?_
      refine r_ishl (z := 4) C dX2_barredMask_24 (by decide) ?_
      exact K _ (by simp only [if_neg c10])
    · refine r_iconst (v := 0) C dX2_barredMask_18 (by decide) ?_
      refine r_goto (tgt := 25) C dX2_barredMask_19 (by decide) ?_
      exact K _ (by simp only [if_pos c10])
  intro x11 e_x11
  refine r_ior C dX2_barredMask_25 rfl ?_
  refine r_top (fun x12 e_x12 => ?_)
  refine r_istore_n (L' := [(1, .int x12), (2, .int 2), (0, .ref o)]) C dX2_barredMask_26 (by decide) rfl ?_
  refine r_iinc (v := 3) (L' := [(2, .int 3), (1, .int x12), (0, .ref o)]) C dX2_barredMask_27 1 rfl (by decide) (by decide) rfl ?_
  refine r_goto (tgt := 4) C dX2_barredMask_30 (by decide) ?_
  refine r_iload_n C dX2_barredMask_4 0 rfl ?_
  refine r_iconst (v := 4) C dX2_barredMask_5 (by decide) ?_
  refine r_icmp_ge (tgt := 33) C dX2_barredMask_6 (by decide) (fun c => absurd c (by decide)) (fun _ => ?_)
  refine r_iload_n C dX2_barredMask_9 1 rfl ?_
  refine r_aload_n C dX2_barredMask_10 2 rfl ?_
  refine r_iload_n C dX2_barredMask_11 0 rfl ?_
  refine r_callV (ci := 1) (wc := [letB cI o h v lie seals folds n f]) (wr := []) (st := [.int x12]) C (m_X2_reasonAgainst l D cI cL cP cJ o h v lie seals folds n f 3) k_X2_reasonAgainst t_433 [0] (show ([0] : List Nat).Perm (List.range 1) by decide) rfl rfl rfl (q0 := 0) rfl rfl rfl (Nat.le_of_ble_eq_true rfl) ⟨Nat.le_of_ble_eq_true rfl, Nat.le_of_ble_eq_true rfl⟩ ⟨Nat.zero_le _, Nat.zero_le _⟩ dX2_barredMask_12 (fun r13 wr13 hw13 => ?_)
  obtain ⟨e_r13, rfl⟩ := hw13
  refine r_ws (I' := [letB cI o h v lie seals folds n f]) rfl ?_
  suffices K : ∀ x15 : Int32, x15 = ((if r13 = 0 then (0) else (8))) → V p l e (rmm 2 43) s m args below meth c 3 D A 0 0 Q [letB cI o h v lie seals folds n f] [(2, .int 3), (1, .int x12), (0, .ref o)] 25 [.int x15, .int x12] by
    refine r_if_ne (tgt := 22) C dX2_barredMask_15 (by decide) (fun c14 => ?_) (fun c14 => ?_)
    · refine r_iconst (v := 1) C dX2_barredMask_22 (by decide) ?_
      refine r_iload_n C dX2_barredMask_23 0 rfl ?_
      refine r_ishl (z := 8) C dX2_barredMask_24 (by decide) ?_
      exact K _ (by simp only [if_neg c14])
    · refine r_iconst (v := 0) C dX2_barredMask_18 (by decide) ?_
      refine r_goto (tgt := 25) C dX2_barredMask_19 (by decide) ?_
      exact K _ (by simp only [if_pos c14])
  intro x15 e_x15
  refine r_ior C dX2_barredMask_25 rfl ?_
  refine r_top (fun x16 e_x16 => ?_)
  refine r_istore_n (L' := [(1, .int x16), (2, .int 3), (0, .ref o)]) C dX2_barredMask_26 (by decide) rfl ?_
  refine r_iinc (v := 4) (L' := [(2, .int 4), (1, .int x16), (0, .ref o)]) C dX2_barredMask_27 1 rfl (by decide) (by decide) rfl ?_
  refine r_goto (tgt := 4) C dX2_barredMask_30 (by decide) ?_
  refine r_iload_n C dX2_barredMask_4 0 rfl ?_
  refine r_iconst (v := 4) C dX2_barredMask_5 (by decide) ?_
  refine r_icmp_ge (tgt := 33) C dX2_barredMask_6 (by decide) (fun _ => ?_) (fun c => absurd c (by decide))
  refine r_iload_n C dX2_barredMask_33 1 rfl ?_
  have eF : F_X2_barredMask seals n = x16 := by have q := e_r1.symm; subst q; have q := e_x3.symm; subst q; have q := e_x4.symm; subst q; have q := e_r5.symm; subst q; have q := e_x7.symm; subst q; have q := e_x8.symm; subst q; have q := e_r9.symm; subst q; have q := e_x11.symm; subst q; have q := e_x12.symm; subst q; have q := e_r13.symm; subst q; have q := e_x15.symm; subst q; have q := e_x16.symm; subst q; rfl
  exact r_iret (r := x16) C hA hr hlo dX2_barredMask_34 [letB cI o h v lie seals folds n f] ⟨by simp only [eF], rfl⟩ rfl hQ
theorem k_X2_number : kV yX2_number cX2_number 2 (some .int) 1 := ⟨t_381, t_382, t_60, t_383, by decide +kernel, by decide +kernel, by decide +kernel⟩
set_option maxRecDepth 20000 in
def F_X2_number (lie : Int32) (seals : Int32) (folds : Int32) (n : Int32) (what : Int32) : Int32 := (if what = 0 then (let r1 : Int32 := F_X3_length lie; r1) else ((if what = 1 then (let r3 : Int32 := F_X3_foldsBack lie; r3) else ((if what = 2 then (let r4 : Int32 := F_X6_size n; r4) else ((if what = 3 then (let r6 : Int32 := F_X3_period lie; r6) else ((if what = 4 then (let r7 : Int32 := F_X3_isMirror lie; let x9 : Int32 := (if r7 = 0 then (0) else (1)); x9) else ((if what = 5 then (let r10 : Int32 := F_X3_layersHome lie; r10) else ((if what = 6 then (let r11 : Int32 := F_X3_layersTurned lie; r11) else ((if what = 7 then (seals) else ((if what = 8 then (let r12 : Int32 := F_X3_shorteningMask lie; r12) else ((if what = 9 then (let r13 : Int32 := F_X2_barredMask seals n; r13) else ((if what = 10 then (folds) else ((-10)))))))))))))))))))))))
set_option maxRecDepth 20000 in
def P_X2_number (lie : Int32) (what : Int32) : Prop := ((what = 0 → True) ∧ (¬ what = 0 → ((what = 1 → (P_X3_foldsBack lie)) ∧ (¬ what = 1 → ((what = 2 → True) ∧ (¬ what = 2 → ((what = 3 → (P_X3_period lie)) ∧ (¬ what = 3 → ((what = 4 → True) ∧ (¬ what = 4 → ((what = 5 → True) ∧ (¬ what = 5 → ((what = 6 → True) ∧ (¬ what = 6 → ((what = 7 → True) ∧ (¬ what = 7 → ((what = 8 → True) ∧ (¬ what = 8 → ((what = 9 → True) ∧ (¬ what = 9 → ((what = 10 → True) ∧ (¬ what = 10 → True))))))))))))))))))))))
set_option maxRecDepth 20000 in
set_option maxHeartbeats 8000000 in
theorem m_X2_number (l : Launch) (D : va_G) (cI cL cP cJ : ClassId) (o : Nat) (h : Nat) (v : Nat) (lie : Int32) (seals : Int32) (folds : Int32) (n : Int32) (f : Nat → Int32) (what : Int32) (hp : P_X2_number lie what) : M vI l yX2_number cX2_number 2 (some .int) 4 87 D (tyF cI cL cP cJ) [.ref o, .int what] [letB cI o h v lie seals folds n f] (fun (r : Int32) (w1 : List va_W) => r = (F_X2_number lie seals folds n what) ∧ w1 = [letB cI o h v lie seals folds n f]) := by
  unfold P_X2_number at hp
  refine m_start (by decide +kernel) (Nat.le_of_ble_eq_true rfl) (fun p e s m args below meth c A Q hA hQ C hr hlo => ?_)
  refine r_Le (L' := [(0, .ref o), (1, .int what)]) rfl ?_
  refine r_iload_n C dX2_number_0 1 rfl ?_
  by_cases c14 : what = 0
  · refine r_tin (tgt := 60) (off := 59) C dX2_number_1 c14 (by decide) (by decide) (by decide) (by decide) ?_
    refine r_aload_n C dX2_number_60 0 rfl ?_
    refine r_ws (I' := [[(o, .inr (1, [.ref h, .int lie, .int seals, .int folds]))], [(h, .inr (4, [.ref v, .int n]))], [(v, .inl (cI, 60, .inl f))]]) rfl ?_
    refine r_get (Cn := RX2) (T := TX2) (N := 4) C inT2 0 rfl rfl 1 (by decide) t_116 rfl dX2_number_61 ?_
    refine r_callS (wc := []) (wr := [[(o, .inr (1, [.ref h, .int lie, .int seals, .int folds]))], [(h, .inr (4, [.ref v, .int n]))], [(v, .inl (cI, 60, .inl f))]]) (st := []) C (m_X3_length l D cI cL cP cJ lie) k_X3_length t_384 [0, 1, 2] (show ([0, 1, 2] : List Nat).Perm (List.range 3) by decide) rfl rfl rfl (Nat.le_of_ble_eq_true rfl) ⟨Nat.le_of_ble_eq_true rfl, Nat.le_of_ble_eq_true rfl⟩ ⟨Nat.zero_le _, Nat.zero_le _⟩ dX2_number_64 (fun r1 wr1 hw1 => ?_)
    obtain ⟨e_r1, rfl⟩ := hw1
    refine r_ws (I' := [[(o, .inr (1, [.ref h, .int lie, .int seals, .int folds]))], [(h, .inr (4, [.ref v, .int n]))], [(v, .inl (cI, 60, .inl f))]]) rfl ?_
    refine r_ws (I' := [letB cI o h v lie seals folds n f]) rfl ?_
    have eF : F_X2_number lie seals folds n what = r1 := by have q := e_r1.symm; subst q; simp only [F_X2_number, if_pos c14]
    exact r_iret (r := r1) C hA hr hlo dX2_number_67 [letB cI o h v lie seals folds n f] ⟨by simp only [eF], rfl⟩ rfl hQ
  have hp := hp.2 c14
  by_cases c15 : what = 1
  · have hp := hp.1 c15
    refine r_tin (tgt := 68) (off := 67) C dX2_number_1 c15 (by decide) (by decide) (by decide) (by decide) ?_
    refine r_aload_n C dX2_number_68 0 rfl ?_
    refine r_ws (I' := [[(o, .inr (1, [.ref h, .int lie, .int seals, .int folds]))], [(h, .inr (4, [.ref v, .int n]))], [(v, .inl (cI, 60, .inl f))]]) rfl ?_
    refine r_get (Cn := RX2) (T := TX2) (N := 4) C inT2 0 rfl rfl 1 (by decide) t_116 rfl dX2_number_69 ?_
    have h2 := hp
    refine r_callS (wc := []) (wr := [[(o, .inr (1, [.ref h, .int lie, .int seals, .int folds]))], [(h, .inr (4, [.ref v, .int n]))], [(v, .inl (cI, 60, .inl f))]]) (st := []) C (m_X3_foldsBack l D cI cL cP cJ lie h2) k_X3_foldsBack t_390 [0, 1, 2] (show ([0, 1, 2] : List Nat).Perm (List.range 3) by decide) rfl rfl rfl (Nat.le_of_ble_eq_true rfl) ⟨Nat.le_of_ble_eq_true rfl, Nat.le_of_ble_eq_true rfl⟩ ⟨Nat.zero_le _, Nat.zero_le _⟩ dX2_number_72 (fun r3 wr3 hw3 => ?_)
    obtain ⟨e_r3, rfl⟩ := hw3
    refine r_ws (I' := [[(o, .inr (1, [.ref h, .int lie, .int seals, .int folds]))], [(h, .inr (4, [.ref v, .int n]))], [(v, .inl (cI, 60, .inl f))]]) rfl ?_
    refine r_ws (I' := [letB cI o h v lie seals folds n f]) rfl ?_
    have eF : F_X2_number lie seals folds n what = r3 := by have q := e_r3.symm; subst q; simp only [F_X2_number, if_neg c14, if_pos c15]
    exact r_iret (r := r3) C hA hr hlo dX2_number_75 [letB cI o h v lie seals folds n f] ⟨by simp only [eF], rfl⟩ rfl hQ
  have hp := hp.2 c15
  by_cases c16 : what = 2
  · refine r_tin (tgt := 76) (off := 75) C dX2_number_1 c16 (by decide) (by decide) (by decide) (by decide) ?_
    refine r_aload_n C dX2_number_76 0 rfl ?_
    refine r_ws (I' := [[(o, .inr (1, [.ref h, .int lie, .int seals, .int folds]))], [(h, .inr (4, [.ref v, .int n]))], [(v, .inl (cI, 60, .inl f))]]) rfl ?_
    refine r_get (Cn := RX2) (T := TX2) (N := 4) C inT2 0 rfl rfl 0 (by decide) t_115 rfl dX2_number_77 ?_
    refine r_ws (I' := [[(o, .inr (1, [.ref h, .int lie, .int seals, .int folds]))], rowB cI h v n f]) rfl ?_
    refine r_callV (ci := 4) (wc := [rowB cI h v n f]) (wr := [[(o, .inr (1, [.ref h, .int lie, .int seals, .int folds]))]]) (st := []) C (m_X6_size l D cI cL cP cJ h v n f) k_X6_size t_402 [1, 0] (show ([1, 0] : List Nat).Perm (List.range 2) by decide) rfl rfl rfl (q0 := 0) rfl rfl rfl (Nat.le_of_ble_eq_true rfl) ⟨Nat.le_of_ble_eq_true rfl, Nat.le_of_ble_eq_true rfl⟩ ⟨Nat.zero_le _, Nat.zero_le _⟩ dX2_number_80 (fun r4 wr4 hw4 => ?_)
    obtain ⟨e_r4, rfl⟩ := hw4
    refine r_ws (I' := [rowB cI h v n f, [(o, .inr (1, [.ref h, .int lie, .int seals, .int folds]))]]) rfl ?_
    refine r_ws (I' := [[(h, .inr (4, [.ref v, .int n]))], [(v, .inl (cI, 60, .inl f))], [(o, .inr (1, [.ref h, .int lie, .int seals, .int folds]))]]) rfl ?_
    refine r_pl (I' := [[(o, .inr (1, [.ref h, .int lie, .int seals, .int folds]))], [(h, .inr (4, [.ref v, .int n]))], [(v, .inl (cI, 60, .inl f))]]) [2, 0, 1] (show ([2, 0, 1] : List Nat).Perm (List.range 3) by decide) rfl ?_
    refine r_ws (I' := [letB cI o h v lie seals folds n f]) rfl ?_
    have eF : F_X2_number lie seals folds n what = r4 := by have q := e_r4.symm; subst q; simp only [F_X2_number, if_neg c14, if_neg c15, if_pos c16]
    exact r_iret (r := r4) C hA hr hlo dX2_number_83 [letB cI o h v lie seals folds n f] ⟨by simp only [eF], rfl⟩ rfl hQ
  have hp := hp.2 c16
  by_cases c17 : what = 3
  · have hp := hp.1 c17
    refine r_tin (tgt := 84) (off := 83) C dX2_number_1 c17 (by decide) (by decide) (by decide) (by decide) ?_
    refine r_aload_n C dX2_number_84 0 rfl ?_
    refine r_ws (I' := [[(o, .inr (1, [.ref h, .int lie, .int seals, .int folds]))], [(h, .inr (4, [.ref v, .int n]))], [(v, .inl (cI, 60, .inl f))]]) rfl ?_
    refine r_get (Cn := RX2) (T := TX2) (N := 4) C inT2 0 rfl rfl 1 (by decide) t_116 rfl dX2_number_85 ?_
    have h5 := hp
    refine r_callS (wc := []) (wr := [[(o, .inr (1, [.ref h, .int lie, .int seals, .int folds]))], [(h, .inr (4, [.ref v, .int n]))], [(v, .inl (cI, 60, .inl f))]]) (st := []) C (m_X3_period l D cI cL cP cJ lie h5) k_X3_period t_403 [0, 1, 2] (show ([0, 1, 2] : List Nat).Perm (List.range 3) by decide) rfl rfl rfl (Nat.le_of_ble_eq_true rfl) ⟨Nat.le_of_ble_eq_true rfl, Nat.le_of_ble_eq_true rfl⟩ ⟨Nat.zero_le _, Nat.zero_le _⟩ dX2_number_88 (fun r6 wr6 hw6 => ?_)
    obtain ⟨e_r6, rfl⟩ := hw6
    refine r_ws (I' := [[(o, .inr (1, [.ref h, .int lie, .int seals, .int folds]))], [(h, .inr (4, [.ref v, .int n]))], [(v, .inl (cI, 60, .inl f))]]) rfl ?_
    refine r_ws (I' := [letB cI o h v lie seals folds n f]) rfl ?_
    have eF : F_X2_number lie seals folds n what = r6 := by have q := e_r6.symm; subst q; simp only [F_X2_number, if_neg c14, if_neg c15, if_neg c16, if_pos c17]
    exact r_iret (r := r6) C hA hr hlo dX2_number_91 [letB cI o h v lie seals folds n f] ⟨by simp only [eF], rfl⟩ rfl hQ
  have hp := hp.2 c17
  by_cases c18 : what = 4
  · refine r_tin (tgt := 92) (off := 91) C dX2_number_1 c18 (by decide) (by decide) (by decide) (by decide) ?_
    refine r_aload_n C dX2_number_92 0 rfl ?_
    refine r_ws (I' := [[(o, .inr (1, [.ref h, .int lie, .int seals, .int folds]))], [(h, .inr (4, [.ref v, .int n]))], [(v, .inl (cI, 60, .inl f))]]) rfl ?_
    refine r_get (Cn := RX2) (T := TX2) (N := 4) C inT2 0 rfl rfl 1 (by decide) t_116 rfl dX2_number_93 ?_
    refine r_callS (wc := []) (wr := [[(o, .inr (1, [.ref h, .int lie, .int seals, .int folds]))], [(h, .inr (4, [.ref v, .int n]))], [(v, .inl (cI, 60, .inl f))]]) (st := []) C (m_X3_isMirror l D cI cL cP cJ lie) k_X3_isMirror t_415 [0, 1, 2] (show ([0, 1, 2] : List Nat).Perm (List.range 3) by decide) rfl rfl rfl (Nat.le_of_ble_eq_true rfl) ⟨Nat.le_of_ble_eq_true rfl, Nat.le_of_ble_eq_true rfl⟩ ⟨Nat.zero_le _, Nat.zero_le _⟩ dX2_number_96 (fun r7 wr7 hw7 => ?_)
    obtain ⟨e_r7, rfl⟩ := hw7
    refine r_ws (I' := [[(o, .inr (1, [.ref h, .int lie, .int seals, .int folds]))], [(h, .inr (4, [.ref v, .int n]))], [(v, .inl (cI, 60, .inl f))]]) rfl ?_
    suffices K : ∀ x9 : Int32, x9 = ((if r7 = 0 then (0) else (1))) → V p l e (rmm 4 87) s m args below meth c 2 D A 0 0 Q [[(o, .inr (1, [.ref h, .int lie, .int seals, .int folds]))], [(h, .inr (4, [.ref v, .int n]))], [(v, .inl (cI, 60, .inl f))]] [(0, .ref o), (1, .int what)] 107 [.int x9] by
      refine r_if_eq (tgt := 106) C dX2_number_99 (by decide) (fun c8 => ?_) (fun c8 => ?_)
      · refine r_iconst (v := 0) C dX2_number_106 (by decide) ?_
        exact K _ (by simp only [if_pos c8])
      · refine r_iconst (v := 1) C dX2_number_102 (by decide) ?_
        refine r_goto (tgt := 107) C dX2_number_103 (by decide) ?_
        exact K _ (by simp only [if_neg c8])
    intro x9 e_x9
    refine r_ws (I' := [letB cI o h v lie seals folds n f]) rfl ?_
    have eF : F_X2_number lie seals folds n what = x9 := by have q := e_r7.symm; subst q; have q := e_x9.symm; subst q; simp only [F_X2_number, if_neg c14, if_neg c15, if_neg c16, if_neg c17, if_pos c18]
    exact r_iret (r := x9) C hA hr hlo dX2_number_107 [letB cI o h v lie seals folds n f] ⟨by simp only [eF], rfl⟩ rfl hQ
  have hp := hp.2 c18
  by_cases c19 : what = 5
  · refine r_tin (tgt := 108) (off := 107) C dX2_number_1 c19 (by decide) (by decide) (by decide) (by decide) ?_
    refine r_aload_n C dX2_number_108 0 rfl ?_
    refine r_ws (I' := [[(o, .inr (1, [.ref h, .int lie, .int seals, .int folds]))], [(h, .inr (4, [.ref v, .int n]))], [(v, .inl (cI, 60, .inl f))]]) rfl ?_
    refine r_get (Cn := RX2) (T := TX2) (N := 4) C inT2 0 rfl rfl 1 (by decide) t_116 rfl dX2_number_109 ?_
    refine r_callS (wc := []) (wr := [[(o, .inr (1, [.ref h, .int lie, .int seals, .int folds]))], [(h, .inr (4, [.ref v, .int n]))], [(v, .inl (cI, 60, .inl f))]]) (st := []) C (m_X3_layersHome l D cI cL cP cJ lie) k_X3_layersHome t_422 [0, 1, 2] (show ([0, 1, 2] : List Nat).Perm (List.range 3) by decide) rfl rfl rfl (Nat.le_of_ble_eq_true rfl) ⟨Nat.le_of_ble_eq_true rfl, Nat.le_of_ble_eq_true rfl⟩ ⟨Nat.zero_le _, Nat.zero_le _⟩ dX2_number_112 (fun r10 wr10 hw10 => ?_)
    obtain ⟨e_r10, rfl⟩ := hw10
    refine r_ws (I' := [[(o, .inr (1, [.ref h, .int lie, .int seals, .int folds]))], [(h, .inr (4, [.ref v, .int n]))], [(v, .inl (cI, 60, .inl f))]]) rfl ?_
    refine r_ws (I' := [letB cI o h v lie seals folds n f]) rfl ?_
    have eF : F_X2_number lie seals folds n what = r10 := by have q := e_r10.symm; subst q; simp only [F_X2_number, if_neg c14, if_neg c15, if_neg c16, if_neg c17, if_neg c18, if_pos c19]
    exact r_iret (r := r10) C hA hr hlo dX2_number_115 [letB cI o h v lie seals folds n f] ⟨by simp only [eF], rfl⟩ rfl hQ
  have hp := hp.2 c19
  by_cases c20 : what = 6
  · refine r_tin (tgt := 116) (off := 115) C dX2_number_1 c20 (by decide) (by decide) (by decide) (by decide) ?_
    refine r_aload_n C dX2_number_116 0 rfl ?_
    refine r_ws (I' := [[(o, .inr (1, [.ref h, .int lie, .int seals, .int folds]))], [(h, .inr (4, [.ref v, .int n]))], [(v, .inl (cI, 60, .inl f))]]) rfl ?_
    refine r_get (Cn := RX2) (T := TX2) (N := 4) C inT2 0 rfl rfl 1 (by decide) t_116 rfl dX2_number_117 ?_
    refine r_callS (wc := []) (wr := [[(o, .inr (1, [.ref h, .int lie, .int seals, .int folds]))], [(h, .inr (4, [.ref v, .int n]))], [(v, .inl (cI, 60, .inl f))]]) (st := []) C (m_X3_layersTurned l D cI cL cP cJ lie) k_X3_layersTurned t_423 [0, 1, 2] (show ([0, 1, 2] : List Nat).Perm (List.range 3) by decide) rfl rfl rfl (Nat.le_of_ble_eq_true rfl) ⟨Nat.le_of_ble_eq_true rfl, Nat.le_of_ble_eq_true rfl⟩ ⟨Nat.zero_le _, Nat.zero_le _⟩ dX2_number_120 (fun r11 wr11 hw11 => ?_)
    obtain ⟨e_r11, rfl⟩ := hw11
    refine r_ws (I' := [[(o, .inr (1, [.ref h, .int lie, .int seals, .int folds]))], [(h, .inr (4, [.ref v, .int n]))], [(v, .inl (cI, 60, .inl f))]]) rfl ?_
    refine r_ws (I' := [letB cI o h v lie seals folds n f]) rfl ?_
    have eF : F_X2_number lie seals folds n what = r11 := by have q := e_r11.symm; subst q; simp only [F_X2_number, if_neg c14, if_neg c15, if_neg c16, if_neg c17, if_neg c18, if_neg c19, if_pos c20]
    exact r_iret (r := r11) C hA hr hlo dX2_number_123 [letB cI o h v lie seals folds n f] ⟨by simp only [eF], rfl⟩ rfl hQ
  have hp := hp.2 c20
  by_cases c21 : what = 7
  · refine r_tin (tgt := 124) (off := 123) C dX2_number_1 c21 (by decide) (by decide) (by decide) (by decide) ?_
    refine r_aload_n C dX2_number_124 0 rfl ?_
    refine r_ws (I' := [[(o, .inr (1, [.ref h, .int lie, .int seals, .int folds]))], [(h, .inr (4, [.ref v, .int n]))], [(v, .inl (cI, 60, .inl f))]]) rfl ?_
    refine r_get (Cn := RX2) (T := TX2) (N := 4) C inT2 0 rfl rfl 2 (by decide) t_117 rfl dX2_number_125 ?_
    refine r_ws (I' := [letB cI o h v lie seals folds n f]) rfl ?_
    have eF : F_X2_number lie seals folds n what = seals := by simp only [F_X2_number, if_neg c14, if_neg c15, if_neg c16, if_neg c17, if_neg c18, if_neg c19, if_neg c20, if_pos c21]
    exact r_iret (r := seals) C hA hr hlo dX2_number_128 [letB cI o h v lie seals folds n f] ⟨by simp only [eF], rfl⟩ rfl hQ
  have hp := hp.2 c21
  by_cases c22 : what = 8
  · refine r_tin (tgt := 129) (off := 128) C dX2_number_1 c22 (by decide) (by decide) (by decide) (by decide) ?_
    refine r_aload_n C dX2_number_129 0 rfl ?_
    refine r_ws (I' := [[(o, .inr (1, [.ref h, .int lie, .int seals, .int folds]))], [(h, .inr (4, [.ref v, .int n]))], [(v, .inl (cI, 60, .inl f))]]) rfl ?_
    refine r_get (Cn := RX2) (T := TX2) (N := 4) C inT2 0 rfl rfl 1 (by decide) t_116 rfl dX2_number_130 ?_
    refine r_callS (wc := []) (wr := [[(o, .inr (1, [.ref h, .int lie, .int seals, .int folds]))], [(h, .inr (4, [.ref v, .int n]))], [(v, .inl (cI, 60, .inl f))]]) (st := []) C (m_X3_shorteningMask l D cI cL cP cJ lie) k_X3_shorteningMask t_426 [0, 1, 2] (show ([0, 1, 2] : List Nat).Perm (List.range 3) by decide) rfl rfl rfl (Nat.le_of_ble_eq_true rfl) ⟨Nat.le_of_ble_eq_true rfl, Nat.le_of_ble_eq_true rfl⟩ ⟨Nat.zero_le _, Nat.zero_le _⟩ dX2_number_133 (fun r12 wr12 hw12 => ?_)
    obtain ⟨e_r12, rfl⟩ := hw12
    refine r_ws (I' := [[(o, .inr (1, [.ref h, .int lie, .int seals, .int folds]))], [(h, .inr (4, [.ref v, .int n]))], [(v, .inl (cI, 60, .inl f))]]) rfl ?_
    refine r_ws (I' := [letB cI o h v lie seals folds n f]) rfl ?_
    have eF : F_X2_number lie seals folds n what = r12 := by have q := e_r12.symm; subst q; simp only [F_X2_number, if_neg c14, if_neg c15, if_neg c16, if_neg c17, if_neg c18, if_neg c19, if_neg c20, if_neg c21, if_pos c22]
    exact r_iret (r := r12) C hA hr hlo dX2_number_136 [letB cI o h v lie seals folds n f] ⟨by simp only [eF], rfl⟩ rfl hQ
  have hp := hp.2 c22
  by_cases c23 : what = 9
  · refine r_tin (tgt := 137) (off := 136) C dX2_number_1 c23 (by decide) (by decide) (by decide) (by decide) ?_
    refine r_aload_n C dX2_number_137 0 rfl ?_
    refine r_callV (ci := 1) (wc := [letB cI o h v lie seals folds n f]) (wr := []) (st := []) C (m_X2_barredMask l D cI cL cP cJ o h v lie seals folds n f) k_X2_barredMask t_429 [0] (show ([0] : List Nat).Perm (List.range 1) by decide) rfl rfl rfl (q0 := 0) rfl rfl rfl (Nat.le_of_ble_eq_true rfl) ⟨Nat.le_of_ble_eq_true rfl, Nat.le_of_ble_eq_true rfl⟩ ⟨Nat.zero_le _, Nat.zero_le _⟩ dX2_number_138 (fun r13 wr13 hw13 => ?_)
    obtain ⟨e_r13, rfl⟩ := hw13
    refine r_ws (I' := [letB cI o h v lie seals folds n f]) rfl ?_
    have eF : F_X2_number lie seals folds n what = r13 := by have q := e_r13.symm; subst q; simp only [F_X2_number, if_neg c14, if_neg c15, if_neg c16, if_neg c17, if_neg c18, if_neg c19, if_neg c20, if_neg c21, if_neg c22, if_pos c23]
    exact r_iret (r := r13) C hA hr hlo dX2_number_141 [letB cI o h v lie seals folds n f] ⟨by simp only [eF], rfl⟩ rfl hQ
  have hp := hp.2 c23
  by_cases c24 : what = 10
  · refine r_tin (tgt := 142) (off := 141) C dX2_number_1 c24 (by decide) (by decide) (by decide) (by decide) ?_
    refine r_aload_n C dX2_number_142 0 rfl ?_
    refine r_ws (I' := [[(o, .inr (1, [.ref h, .int lie, .int seals, .int folds]))], [(h, .inr (4, [.ref v, .int n]))], [(v, .inl (cI, 60, .inl f))]]) rfl ?_
    refine r_get (Cn := RX2) (T := TX2) (N := 4) C inT2 0 rfl rfl 3 (by decide) t_118 rfl dX2_number_143 ?_
    refine r_ws (I' := [letB cI o h v lie seals folds n f]) rfl ?_
    have eF : F_X2_number lie seals folds n what = folds := by simp only [F_X2_number, if_neg c14, if_neg c15, if_neg c16, if_neg c17, if_neg c18, if_neg c19, if_neg c20, if_neg c21, if_neg c22, if_neg c23, if_pos c24]
    exact r_iret (r := folds) C hA hr hlo dX2_number_146 [letB cI o h v lie seals folds n f] ⟨by simp only [eF], rfl⟩ rfl hQ
  have hp := hp.2 c24
  refine r_tout (tgt := 147) C dX2_number_1 (sw_out 10 (by decide) (fun i hi => by rcases (show i = 0 ∨ i = 1 ∨ i = 2 ∨ i = 3 ∨ i = 4 ∨ i = 5 ∨ i = 6 ∨ i = 7 ∨ i = 8 ∨ i = 9 ∨ i = 10 by omega) with rfl | rfl | rfl | rfl | rfl | rfl | rfl | rfl | rfl | rfl | rfl; exact c14; exact c15; exact c16; exact c17; exact c18; exact c19; exact c20; exact c21; exact c22; exact c23; exact c24)) (by decide) ?_
  refine r_bipush (v := (-10)) C dX2_number_147 (by decide) ?_
  have eF : F_X2_number lie seals folds n what = (-10) := by simp only [F_X2_number, if_neg c14, if_neg c15, if_neg c16, if_neg c17, if_neg c18, if_neg c19, if_neg c20, if_neg c21, if_neg c22, if_neg c23, if_neg c24]
  exact r_iret (r := (-10)) C hA hr hlo dX2_number_149 [letB cI o h v lie seals folds n f] ⟨by simp only [eF], rfl⟩ rfl hQ
abbrev rdB (rd : Nat) (opn : Int32) (wan : Int32) : va_W := [(rd, .inr (3, [.int opn, .int wan]))]
theorem k_X5_start : kV yX5_start cX5_start 1 none 0 := ⟨t_266, t_267, t_64, t_268, by decide +kernel, by decide +kernel, by decide +kernel⟩
set_option maxRecDepth 20000 in
def F_X5_start  : Int32 × Int32 := (0, 0)
set_option maxRecDepth 20000 in
set_option maxHeartbeats 8000000 in
theorem m_X5_start (l : Launch) (D : va_G) (cI cL cP cJ : ClassId) (rd : Nat) (opn : Int32) (wan : Int32) : M vV l yX5_start cX5_start 1 none 0 0 D (tyF cI cL cP cJ) [.ref rd] [rdB rd opn wan] (fun (r : Unit) (w1 : List va_W) => w1 = [rdB rd ((F_X5_start).1) ((F_X5_start).2)]) := by
  refine m_start (by decide +kernel) (Nat.le_of_ble_eq_true rfl) (fun p e s m args below meth c A Q hA hQ C hr hlo => ?_)
  refine r_Le (L' := [(0, .ref rd)]) rfl ?_
  refine r_aload_n C dX5_start_0 0 rfl ?_
  refine r_iconst (v := 0) C dX5_start_1 (by decide) ?_
  refine r_ws (I' := [[(rd, .inr (3, [.int opn, .int wan]))]]) rfl ?_
  refine r_put (Cn := RX5) (T := TX5) (N := 2) C inT5 0 rfl rfl 0 (by decide) t_162 tyX5 tyX5_ok nmX5 rfl rfl rfl (Nat.le_of_ble_eq_true rfl) (I' := [[(rd, .inr (3, [.int 0, .int wan]))]]) rfl dX5_start_2 ?_
  refine r_aload_n C dX5_start_5 0 rfl ?_
  refine r_iconst (v := 0) C dX5_start_6 (by decide) ?_
  refine r_put (Cn := RX5) (T := TX5) (N := 2) C inT5 0 rfl rfl 1 (by decide) t_163 tyX5 tyX5_ok nmX5 rfl rfl rfl (Nat.le_of_ble_eq_true rfl) (I' := [[(rd, .inr (3, [.int 0, .int 0]))]]) rfl dX5_start_7 ?_
  refine r_ws (I' := [rdB rd 0 0]) rfl ?_
  have eF : F_X5_start = (0, 0) := by rfl
  exact r_vret (r := ()) C hA hr hlo dX5_start_10 [rdB rd 0 0] (by simp only [eF]) rfl hQ
theorem k_X5_mayStop : kV yX5_mayStop cX5_mayStop 1 (some .boolean) 0 := ⟨t_678, t_679, t_64, t_680, by decide +kernel, by decide +kernel, by decide +kernel⟩
set_option maxRecDepth 20000 in
def F_X5_mayStop (opn : Int32) (wan : Int32) : Int32 := let x3 : Int32 := (if opn = 0 then ((if wan = 1 then (1) else (0))) else (0)); x3
set_option maxRecDepth 20000 in
set_option maxHeartbeats 8000000 in
theorem m_X5_mayStop (l : Launch) (D : va_G) (cI cL cP cJ : ClassId) (rd : Nat) (opn : Int32) (wan : Int32) : M vI l yX5_mayStop cX5_mayStop 1 (some .boolean) 0 0 D (tyF cI cL cP cJ) [.ref rd] [rdB rd opn wan] (fun (r : Int32) (w1 : List va_W) => r = (F_X5_mayStop opn wan) ∧ w1 = [rdB rd opn wan]) := by
  refine m_start (by decide +kernel) (Nat.le_of_ble_eq_true rfl) (fun p e s m args below meth c A Q hA hQ C hr hlo => ?_)
  refine r_Le (L' := [(0, .ref rd)]) rfl ?_
  refine r_aload_n C dX5_mayStop_0 0 rfl ?_
  refine r_ws (I' := [[(rd, .inr (3, [.int opn, .int wan]))]]) rfl ?_
  refine r_get (Cn := RX5) (T := TX5) (N := 2) C inT5 0 rfl rfl 0 (by decide) t_162 rfl dX5_mayStop_1 ?_
  suffices K : ∀ x3 : Int32, x3 = ((if opn = 0 then ((if wan = 1 then (1) else (0))) else (0))) → V p l e (rmm 0 0) s m args below meth c 1 D A 0 0 Q [[(rd, .inr (3, [.int opn, .int wan]))]] [(0, .ref rd)] 20 [.int x3] by
    refine r_if_ne (tgt := 19) C dX5_mayStop_4 (by decide) (fun c1 => ?_) (fun c1 => ?_)
    · refine r_iconst (v := 0) C dX5_mayStop_19 (by decide) ?_
      exact K _ (by simp only [if_neg c1])
    · refine r_aload_n C dX5_mayStop_7 0 rfl ?_
      refine r_get (Cn := RX5) (T := TX5) (N := 2) C inT5 0 rfl rfl 1 (by decide) t_163 rfl dX5_mayStop_8 ?_
      refine r_iconst (v := 1) C dX5_mayStop_11 (by decide) ?_
      refine r_icmp_ne (tgt := 19) C dX5_mayStop_12 (by decide) (fun c2 => ?_) (fun c2 => ?_)
      · refine r_iconst (v := 0) C dX5_mayStop_19 (by decide) ?_
        exact K _ (by simp only [if_pos c1, if_neg c2])
      · refine r_iconst (v := 1) C dX5_mayStop_15 (by decide) ?_
        refine r_goto (tgt := 20) C dX5_mayStop_16 (by decide) ?_
        exact K _ (by simp only [if_pos c1, if_pos c2])
  intro x3 e_x3
  refine r_ws (I' := [rdB rd opn wan]) rfl ?_
  have eF : F_X5_mayStop opn wan = x3 := by have q := e_x3.symm; subst q; rfl
  exact r_zret (r := x3) C hA hr hlo (nb01 (by first | (rw [e_x3]; (try dsimp only); ((repeat' split) <;> (first | exact Or.inl rfl | exact Or.inr rfl))) | (have q := e_x3.symm; subst q; (try dsimp only); ((repeat' split) <;> (first | exact Or.inl rfl | exact Or.inr rfl))))) dX5_mayStop_20 [rdB rd opn wan] ⟨by simp only [eF], rfl⟩ rfl hQ
theorem k_X5_takesIf : kV yX5_takesIf cX5_takesIf 4 (some .boolean) 3 := ⟨t_280, t_0, t_64, t_281, by decide +kernel, by decide +kernel, by decide +kernel⟩
set_option maxRecDepth 20000 in
def F_X5_takesIf (opn : Int32) (wan : Int32) (fits : Int32) (u : Int32) (w : Int32) : Int32 × Int32 × Int32 := let x3 : Int32 := (if fits = 0 then (opn) else (let x2 : Int32 := opn + u; x2)); let x4 : Int32 := (if fits = 0 then (wan) else (w)); (fits, x3, x4)
set_option maxRecDepth 20000 in
def P_X5_takesIf (fits : Int32) : Prop := (fits = 0 ∨ fits = 1)
set_option maxRecDepth 20000 in
set_option maxHeartbeats 8000000 in
theorem m_X5_takesIf (l : Launch) (D : va_G) (cI cL cP cJ : ClassId) (rd : Nat) (opn : Int32) (wan : Int32) (fits : Int32) (u : Int32) (w : Int32) (hp : P_X5_takesIf fits) : M vI l yX5_takesIf cX5_takesIf 4 (some .boolean) 0 0 D (tyF cI cL cP cJ) [.ref rd, .int fits, .int u, .int w] [rdB rd opn wan] (fun (r : Int32) (w1 : List va_W) => r = (F_X5_takesIf opn wan fits u w).1 ∧ w1 = [rdB rd ((F_X5_takesIf opn wan fits u w).2.1) ((F_X5_takesIf opn wan fits u w).2.2)]) := by
  unfold P_X5_takesIf at hp
  refine m_start (by decide +kernel) (Nat.le_of_ble_eq_true rfl) (fun p e s m args below meth c A Q hA hQ C hr hlo => ?_)
  refine r_Le (L' := [(0, .ref rd), (1, .int fits), (2, .int u), (3, .int w)]) rfl ?_
  have hfits := hp
  refine r_iload_n C dX5_takesIf_0 1 rfl ?_
  suffices K : ∀ x3 : Int32, x3 = ((if fits = 0 then (opn) else (let x2 : Int32 := opn + u; x2))) → ∀ x4 : Int32, x4 = ((if fits = 0 then (wan) else (w))) → V p l e (rmm 0 0) s m args below meth c 4 D A 0 0 Q [rdB rd x3 x4] [(0, .ref rd), (1, .int fits), (2, .int u), (3, .int w)] 19 [] by
    refine r_if_eq (tgt := 19) C dX5_takesIf_1 (by decide) (fun c1 => ?_) (fun c1 => ?_)
    · exact K _ (by simp only [if_pos c1]) _ (by simp only [if_pos c1])
    · refine r_aload_n C dX5_takesIf_4 0 rfl ?_
      refine r_dup C dX5_takesIf_5 rfl ?_
      refine r_ws (I' := [[(rd, .inr (3, [.int opn, .int wan]))]]) rfl ?_
      refine r_get (Cn := RX5) (T := TX5) (N := 2) C inT5 0 rfl rfl 0 (by decide) t_162 rfl dX5_takesIf_6 ?_
      refine r_iload_n C dX5_takesIf_9 2 rfl ?_
      refine r_iadd C dX5_takesIf_10 rfl ?_
      refine r_top (fun x2 e_x2 => ?_)
      refine r_put (Cn := RX5) (T := TX5) (N := 2) C inT5 0 rfl rfl 0 (by decide) t_162 tyX5 tyX5_ok nmX5 rfl rfl rfl (Nat.le_of_ble_eq_true rfl) (I' := [[(rd, .inr (3, [.int x2, .int wan]))]]) rfl dX5_takesIf_11 ?_
      refine r_aload_n C dX5_takesIf_14 0 rfl ?_
      refine r_iload_n C dX5_takesIf_15 3 rfl ?_
      refine r_put (Cn := RX5) (T := TX5) (N := 2) C inT5 0 rfl rfl 1 (by decide) t_163 tyX5 tyX5_ok nmX5 rfl rfl rfl (Nat.le_of_ble_eq_true rfl) (I' := [[(rd, .inr (3, [.int x2, .int w]))]]) rfl dX5_takesIf_16 ?_
      refine r_ws (I' := [rdB rd x2 w]) rfl ?_
      exact K _ (by have q := e_x2.symm; subst q; simp only [if_neg c1]) _ (by have q := e_x2.symm; subst q; simp only [if_neg c1])
  intro x3 e_x3 x4 e_x4
  refine r_iload_n C dX5_takesIf_19 1 rfl ?_
  have eF : F_X5_takesIf opn wan fits u w = (fits, x3, x4) := by have q := e_x3.symm; subst q; have q := e_x4.symm; subst q; rfl
  exact r_zret (r := fits) C hA hr hlo (nb01 hfits) dX5_takesIf_20 [rdB rd x3 x4] ⟨by simp only [eF], by simp only [eF]⟩ rfl hQ
theorem tk1 (opn wan fits u w : Int32) : (F_X5_takesIf opn wan fits u w).1 = fits := by rfl
theorem k_X5_takes : kV yX5_takes cX5_takes 2 (some .boolean) 1 := ⟨t_275, t_276, t_64, t_277, by decide +kernel, by decide +kernel, by decide +kernel⟩
set_option maxRecDepth 20000 in
def F_X5_takes (opn : Int32) (wan : Int32) (code : Int32) : Int32 × Int32 × Int32 := (if wan = 2 then (let x26 : Int32 := (if code < 50 then (0) else ((if 57 < code then (0) else (1)))); let r28 : Int32 := (F_X5_takesIf opn wan x26 0 1).1; let x29 : Int32 := (F_X5_takesIf opn wan x26 0 1).2.1; let x30 : Int32 := (F_X5_takesIf opn wan x26 0 1).2.2; (r28, x29, x30)) else ((if code = 40 then (let x19 : Int32 := (if 5 ≤ opn then (0) else (1)); let r21 : Int32 := (F_X5_takesIf opn wan x19 1 0).1; let x22 : Int32 := (F_X5_takesIf opn wan x19 1 0).2.1; let x23 : Int32 := (F_X5_takesIf opn wan x19 1 0).2.2; (r21, x22, x23)) else ((if code = 41 then (let x13 : Int32 := (if opn ≤ 0 then (0) else ((if wan = 1 then (1) else (0)))); let r15 : Int32 := (F_X5_takesIf opn wan x13 (-1) 2).1; let x16 : Int32 := (F_X5_takesIf opn wan x13 (-1) 2).2.1; let x17 : Int32 := (F_X5_takesIf opn wan x13 (-1) 2).2.2; (r15, x16, x17)) else (let x6 : Int32 := (if code < 48 then (0) else ((if 51 < code then (0) else (1)))); let r8 : Int32 := (F_X5_takesIf opn wan x6 0 1).1; let x9 : Int32 := (F_X5_takesIf opn wan x6 0 1).2.1; let x10 : Int32 := (F_X5_takesIf opn wan x6 0 1).2.2; (r8, x9, x10)))))))
set_option maxRecDepth 20000 in
def P_X5_takes (opn : Int32) (wan : Int32) (code : Int32) : Prop := ((wan = 2 → (∀ x26 : Int32, x26 = ((if code < 50 then (0) else ((if 57 < code then (0) else (1))))) → (P_X5_takesIf x26))) ∧ (¬ wan = 2 → ((code = 40 → (∀ x19 : Int32, x19 = ((if 5 ≤ opn then (0) else (1))) → (P_X5_takesIf x19))) ∧ (¬ code = 40 → ((code = 41 → (∀ x13 : Int32, x13 = ((if opn ≤ 0 then (0) else ((if wan = 1 then (1) else (0))))) → (P_X5_takesIf x13))) ∧ (¬ code = 41 → (∀ x6 : Int32, x6 = ((if code < 48 then (0) else ((if 51 < code then (0) else (1))))) → (P_X5_takesIf x6))))))))
set_option maxRecDepth 20000 in
set_option maxHeartbeats 8000000 in
theorem m_X5_takes (l : Launch) (D : va_G) (cI cL cP cJ : ClassId) (rd : Nat) (opn : Int32) (wan : Int32) (code : Int32) (hp : P_X5_takes opn wan code) : M vI l yX5_takes cX5_takes 2 (some .boolean) 1 23 D (tyF cI cL cP cJ) [.ref rd, .int code] [rdB rd opn wan] (fun (r : Int32) (w1 : List va_W) => r = (F_X5_takes opn wan code).1 ∧ w1 = [rdB rd ((F_X5_takes opn wan code).2.1) ((F_X5_takes opn wan code).2.2)]) := by
  unfold P_X5_takes at hp
  refine m_start (by decide +kernel) (Nat.le_of_ble_eq_true rfl) (fun p e s m args below meth c A Q hA hQ C hr hlo => ?_)
  refine r_Le (L' := [(0, .ref rd), (1, .int code)]) rfl ?_
  refine r_aload_n C dX5_takes_0 0 rfl ?_
  refine r_ws (I' := [[(rd, .inr (3, [.int opn, .int wan]))]]) rfl ?_
  refine r_get (Cn := RX5) (T := TX5) (N := 2) C inT5 0 rfl rfl 1 (by decide) t_163 rfl dX5_takes_1 ?_
  refine r_iconst (v := 2) C dX5_takes_4 (by decide) ?_
  refine r_icmp_ne (tgt := 32) C dX5_takes_5 (by decide) (fun c1 => ?_) (fun c1 => ?_)
  · have hp := hp.2 c1
    refine r_iload_n C dX5_takes_32 1 rfl ?_
    refine r_bipush (v := 40) C dX5_takes_33 (by decide) ?_
    refine r_icmp_ne (tgt := 58) C dX5_takes_35 (by decide) (fun c2 => ?_) (fun c2 => ?_)
    · have hp := hp.2 c2
      refine r_iload_n C dX5_takes_58 1 rfl ?_
      refine r_bipush (v := 41) C dX5_takes_59 (by decide) ?_
      refine r_icmp_ne (tgt := 91) C dX5_takes_61 (by decide) (fun c3 => ?_) (fun c3 => ?_)
      · have hp := hp.2 c3
        refine r_aload_n C dX5_takes_91 0 rfl ?_
        refine r_iload_n C dX5_takes_92 1 rfl ?_
        refine r_bipush (v := 48) C dX5_takes_93 (by decide) ?_
        suffices K : ∀ x6 : Int32, x6 = ((if code < 48 then (0) else ((if 51 < code then (0) else (1))))) → V p l e (rmm 1 23) s m args below meth c 2 D A 0 0 Q [[(rd, .inr (3, [.int opn, .int wan]))]] [(0, .ref rd), (1, .int code)] 109 [.int x6, .ref rd] by
          refine r_icmp_lt (tgt := 108) C dX5_takes_95 (by decide) (fun c4 => ?_) (fun c4 => ?_)
          · refine r_iconst (v := 0) C dX5_takes_108 (by decide) ?_
            exact K _ (by simp only [if_pos c4])
          · refine r_iload_n C dX5_takes_98 1 rfl ?_
            refine r_bipush (v := 51) C dX5_takes_99 (by decide) ?_
            refine r_icmp_gt (tgt := 108) C dX5_takes_101 (by decide) (fun c5 => ?_) (fun c5 => ?_)
            · refine r_iconst (v := 0) C dX5_takes_108 (by decide) ?_
              exact K _ (by simp only [if_neg c4, if_pos c5])
            · refine r_iconst (v := 1) C dX5_takes_104 (by decide) ?_
              refine r_goto (tgt := 109) C dX5_takes_105 (by decide) ?_
              exact K _ (by simp only [if_neg c4, if_neg c5])
        intro x6 e_x6
        have hp := hp x6 e_x6
        refine r_iconst (v := 0) C dX5_takes_109 (by decide) ?_
        refine r_iconst (v := 1) C dX5_takes_110 (by decide) ?_
        refine r_ws (I' := [rdB rd opn wan]) rfl ?_
        have h7 := hp
        refine r_callV (ci := 3) (wc := [rdB rd opn wan]) (wr := []) (st := []) C (m_X5_takesIf l D cI cL cP cJ rd opn wan x6 0 1 h7) k_X5_takesIf t_278 [0] (show ([0] : List Nat).Perm (List.range 1) by decide) rfl rfl rfl (q0 := 0) rfl rfl rfl (Nat.le_of_ble_eq_true rfl) ⟨Nat.le_of_ble_eq_true rfl, Nat.le_of_ble_eq_true rfl⟩ ⟨Nat.zero_le _, Nat.zero_le _⟩ dX5_takes_111 (fun r8 wr8 hw8 => ?_)
        obtain ⟨e_r8, rfl⟩ := hw8
        obtain ⟨x9, e_x9⟩ : ∃ z : Int32, z = (F_X5_takesIf opn wan x6 0 1).2.1 := ⟨_, rfl⟩
        obtain ⟨x10, e_x10⟩ : ∃ z : Int32, z = (F_X5_takesIf opn wan x6 0 1).2.2 := ⟨_, rfl⟩
        refine r_ws (I' := [rdB rd x9 x10]) (by rw [e_x9, e_x10]; rfl) ?_
        have eF : F_X5_takes opn wan code = (r8, x9, x10) := by have q := e_x6.symm; subst q; have q := e_r8.symm; subst q; have q := e_x9.symm; subst q; have q := e_x10.symm; subst q; simp only [F_X5_takes, if_neg c1, if_neg c2, if_neg c3]
        exact r_zret (r := r8) C hA hr hlo (nb01 (by rw [e_r8, tk1]; exact (show P_X5_takesIf _ from by assumption))) dX5_takes_114 [rdB rd x9 x10] ⟨by simp only [eF], by simp only [eF]⟩ rfl hQ
      · have hp := hp.1 c3
        refine r_aload_n C dX5_takes_64 0 rfl ?_
        refine r_aload_n C dX5_takes_65 0 rfl ?_
        refine r_get (Cn := RX5) (T := TX5) (N := 2) C inT5 0 rfl rfl 0 (by decide) t_162 rfl dX5_takes_66 ?_
        suffices K : ∀ x13 : Int32, x13 = ((if opn ≤ 0 then (0) else ((if wan = 1 then (1) else (0))))) → V p l e (rmm 1 23) s m args below meth c 2 D A 0 0 Q [[(rd, .inr (3, [.int opn, .int wan]))]] [(0, .ref rd), (1, .int code)] 85 [.int x13, .ref rd] by
          refine r_if_le (tgt := 84) C dX5_takes_69 (by decide) (fun c11 => ?_) (fun c11 => ?_)
          · refine r_iconst (v := 0) C dX5_takes_84 (by decide) ?_
            exact K _ (by simp only [if_pos c11])
          · refine r_aload_n C dX5_takes_72 0 rfl ?_
            refine r_get (Cn := RX5) (T := TX5) (N := 2) C inT5 0 rfl rfl 1 (by decide) t_163 rfl dX5_takes_73 ?_
            refine r_iconst (v := 1) C dX5_takes_76 (by decide) ?_
            refine r_icmp_ne (tgt := 84) C dX5_takes_77 (by decide) (fun c12 => ?_) (fun c12 => ?_)
            · refine r_iconst (v := 0) C dX5_takes_84 (by decide) ?_
              exact K _ (by simp only [if_neg c11, if_neg c12])
            · refine r_iconst (v := 1) C dX5_takes_80 (by decide) ?_
              refine r_goto (tgt := 85) C dX5_takes_81 (by decide) ?_
              exact K _ (by simp only [if_neg c11, if_pos c12])
        intro x13 e_x13
        have hp := hp x13 e_x13
        refine r_iconst (v := (-1)) C dX5_takes_85 (by decide) ?_
        refine r_iconst (v := 2) C dX5_takes_86 (by decide) ?_
        refine r_ws (I' := [rdB rd opn wan]) rfl ?_
        have h14 := hp
        refine r_callV (ci := 3) (wc := [rdB rd opn wan]) (wr := []) (st := []) C (m_X5_takesIf l D cI cL cP cJ rd opn wan x13 (-1) 2 h14) k_X5_takesIf t_278 [0] (show ([0] : List Nat).Perm (List.range 1) by decide) rfl rfl rfl (q0 := 0) rfl rfl rfl (Nat.le_of_ble_eq_true rfl) ⟨Nat.le_of_ble_eq_true rfl, Nat.le_of_ble_eq_true rfl⟩ ⟨Nat.zero_le _, Nat.zero_le _⟩ dX5_takes_87 (fun r15 wr15 hw15 => ?_)
        obtain ⟨e_r15, rfl⟩ := hw15
        obtain ⟨x16, e_x16⟩ : ∃ z : Int32, z = (F_X5_takesIf opn wan x13 (-1) 2).2.1 := ⟨_, rfl⟩
        obtain ⟨x17, e_x17⟩ : ∃ z : Int32, z = (F_X5_takesIf opn wan x13 (-1) 2).2.2 := ⟨_, rfl⟩
        refine r_ws (I' := [rdB rd x16 x17]) (by rw [e_x16, e_x17]; rfl) ?_
        have eF : F_X5_takes opn wan code = (r15, x16, x17) := by have q := e_x13.symm; subst q; have q := e_r15.symm; subst q; have q := e_x16.symm; subst q; have q := e_x17.symm; subst q; simp only [F_X5_takes, if_neg c1, if_neg c2, if_pos c3]
        exact r_zret (r := r15) C hA hr hlo (nb01 (by rw [e_r15, tk1]; exact (show P_X5_takesIf _ from by assumption))) dX5_takes_90 [rdB rd x16 x17] ⟨by simp only [eF], by simp only [eF]⟩ rfl hQ
    · have hp := hp.1 c2
      refine r_aload_n C dX5_takes_38 0 rfl ?_
      refine r_aload_n C dX5_takes_39 0 rfl ?_
      refine r_get (Cn := RX5) (T := TX5) (N := 2) C inT5 0 rfl rfl 0 (by decide) t_162 rfl dX5_takes_40 ?_
      refine r_iconst (v := 5) C dX5_takes_43 (by decide) ?_
      suffices K : ∀ x19 : Int32, x19 = ((if 5 ≤ opn then (0) else (1))) → V p l e (rmm 1 23) s m args below meth c 2 D A 0 0 Q [[(rd, .inr (3, [.int opn, .int wan]))]] [(0, .ref rd), (1, .int code)] 52 [.int x19, .ref rd] by
        refine r_icmp_ge (tgt := 51) C dX5_takes_44 (by decide) (fun c18 => ?_) (fun c18 => ?_)
        · refine r_iconst (v := 0) C dX5_takes_51 (by decide) ?_
          exact K _ (by simp only [if_pos c18])
        · refine r_iconst (v := 1) C dX5_takes_47 (by decide) ?_
          refine r_goto (tgt := 52) C dX5_takes_48 (by decide) ?_
          exact K _ (by simp only [if_neg c18])
      intro x19 e_x19
      have hp := hp x19 e_x19
      refine r_iconst (v := 1) C dX5_takes_52 (by decide) ?_
      refine r_iconst (v := 0) C dX5_takes_53 (by decide) ?_
      refine r_ws (I' := [rdB rd opn wan]) rfl ?_
      have h20 := hp
      refine r_callV (ci := 3) (wc := [rdB rd opn wan]) (wr := []) (st := []) C (m_X5_takesIf l D cI cL cP cJ rd opn wan x19 1 0 h20) k_X5_takesIf t_278 [0] (show ([0] : List Nat).Perm (List.range 1) by decide) rfl rfl rfl (q0 := 0) rfl rfl rfl (Nat.le_of_ble_eq_true rfl) ⟨Nat.le_of_ble_eq_true rfl, Nat.le_of_ble_eq_true rfl⟩ ⟨Nat.zero_le _, Nat.zero_le _⟩ dX5_takes_54 (fun r21 wr21 hw21 => ?_)
      obtain ⟨e_r21, rfl⟩ := hw21
      obtain ⟨x22, e_x22⟩ : ∃ z : Int32, z = (F_X5_takesIf opn wan x19 1 0).2.1 := ⟨_, rfl⟩
      obtain ⟨x23, e_x23⟩ : ∃ z : Int32, z = (F_X5_takesIf opn wan x19 1 0).2.2 := ⟨_, rfl⟩
      refine r_ws (I' := [rdB rd x22 x23]) (by rw [e_x22, e_x23]; rfl) ?_
      have eF : F_X5_takes opn wan code = (r21, x22, x23) := by have q := e_x19.symm; subst q; have q := e_r21.symm; subst q; have q := e_x22.symm; subst q; have q := e_x23.symm; subst q; simp only [F_X5_takes, if_neg c1, if_pos c2]
      exact r_zret (r := r21) C hA hr hlo (nb01 (by rw [e_r21, tk1]; exact (show P_X5_takesIf _ from by assumption))) dX5_takes_57 [rdB rd x22 x23] ⟨by simp only [eF], by simp only [eF]⟩ rfl hQ
  · have hp := hp.1 c1
    refine r_aload_n C dX5_takes_8 0 rfl ?_
    refine r_iload_n C dX5_takes_9 1 rfl ?_
    refine r_bipush (v := 50) C dX5_takes_10 (by decide) ?_
    suffices K : ∀ x26 : Int32, x26 = ((if code < 50 then (0) else ((if 57 < code then (0) else (1))))) → V p l e (rmm 1 23) s m args below meth c 2 D A 0 0 Q [[(rd, .inr (3, [.int opn, .int wan]))]] [(0, .ref rd), (1, .int code)] 26 [.int x26, .ref rd] by
      refine r_icmp_lt (tgt := 25) C dX5_takes_12 (by decide) (fun c24 => ?_) (fun c24 => ?_)
      · refine r_iconst (v := 0) C dX5_takes_25 (by decide) ?_
        exact K _ (by simp only [if_pos c24])
      · refine r_iload_n C dX5_takes_15 1 rfl ?_
        refine r_bipush (v := 57) C dX5_takes_16 (by decide) ?_
        refine r_icmp_gt (tgt := 25) C dX5_takes_18 (by decide) (fun c25 => ?_) (fun c25 => ?_)
        · refine r_iconst (v := 0) C dX5_takes_25 (by decide) ?_
          exact K _ (by simp only [if_neg c24, if_pos c25])
        · refine r_iconst (v := 1) C dX5_takes_21 (by decide) ?_
          refine r_goto (tgt := 26) C dX5_takes_22 (by decide) ?_
          exact K _ (by simp only [if_neg c24, if_neg c25])
    intro x26 e_x26
    have hp := hp x26 e_x26
    refine r_iconst (v := 0) C dX5_takes_26 (by decide) ?_
    refine r_iconst (v := 1) C dX5_takes_27 (by decide) ?_
    refine r_ws (I' := [rdB rd opn wan]) rfl ?_
    have h27 := hp
    refine r_callV (ci := 3) (wc := [rdB rd opn wan]) (wr := []) (st := []) C (m_X5_takesIf l D cI cL cP cJ rd opn wan x26 0 1 h27) k_X5_takesIf t_278 [0] (show ([0] : List Nat).Perm (List.range 1) by decide) rfl rfl rfl (q0 := 0) rfl rfl rfl (Nat.le_of_ble_eq_true rfl) ⟨Nat.le_of_ble_eq_true rfl, Nat.le_of_ble_eq_true rfl⟩ ⟨Nat.zero_le _, Nat.zero_le _⟩ dX5_takes_28 (fun r28 wr28 hw28 => ?_)
    obtain ⟨e_r28, rfl⟩ := hw28
    obtain ⟨x29, e_x29⟩ : ∃ z : Int32, z = (F_X5_takesIf opn wan x26 0 1).2.1 := ⟨_, rfl⟩
    obtain ⟨x30, e_x30⟩ : ∃ z : Int32, z = (F_X5_takesIf opn wan x26 0 1).2.2 := ⟨_, rfl⟩
    refine r_ws (I' := [rdB rd x29 x30]) (by rw [e_x29, e_x30]; rfl) ?_
    have eF : F_X5_takes opn wan code = (r28, x29, x30) := by have q := e_x26.symm; subst q; have q := e_r28.symm; subst q; have q := e_x29.symm; subst q; have q := e_x30.symm; subst q; simp only [F_X5_takes, if_pos c1]
    exact r_zret (r := r28) C hA hr hlo (nb01 (by rw [e_r28, tk1]; exact (show P_X5_takesIf _ from by assumption))) dX5_takes_31 [rdB rd x29 x30] ⟨by simp only [eF], by simp only [eF]⟩ rfl hQ
abbrev txtB (cI : ClassId) (tx : Nat) (h : Nat) (v : Nat) (rd : Nat) (n : Int32) (f : Nat → Int32) (opn : Int32) (wan : Int32) : va_W := [(tx, .inr (5, [.ref h, .ref rd])), (h, .inr (4, [.ref v, .int n])), (v, .inl (cI, 60, .inl f)), (rd, .inr (3, [.int opn, .int wan]))]
theorem k_X7_codes : kV yX7_codes cX7_codes 1 (some (.object "FoldedLetters$Row")) 0 := ⟨t_246, t_247, t_63, t_248, by decide +kernel, by decide +kernel, by decide +kernel⟩
set_option maxRecDepth 20000 in
set_option maxHeartbeats 8000000 in
theorem m_X7_codes (l : Launch) (D : va_G) (cI cL cP cJ : ClassId) (tx : Nat) (h : Nat) (v : Nat) (rd : Nat) (n : Int32) (f : Nat → Int32) (opn : Int32) (wan : Int32) : M vR l yX7_codes cX7_codes 1 (some (.object "FoldedLetters$Row")) 0 0 D (tyF cI cL cP cJ) [.ref tx] [txtB cI tx h v rd n f opn wan] (fun (r : Nat) (w1 : List va_W) => r = h ∧ w1 = [txtB cI tx h v rd n f opn wan]) := by
  refine m_start (by decide +kernel) (Nat.le_of_ble_eq_true rfl) (fun p e s m args below meth c A Q hA hQ C hr hlo => ?_)
  refine r_Le (L' := [(0, .ref tx)]) rfl ?_
  refine r_aload_n C dX7_codes_0 0 rfl ?_
  refine r_ws (I' := [[(tx, .inr (5, [.ref h, .ref rd]))], [(h, .inr (4, [.ref v, .int n]))], [(v, .inl (cI, 60, .inl f))], [(rd, .inr (3, [.int opn, .int wan]))]]) rfl ?_
  refine r_get (Cn := RX7) (T := TX7) (N := 2) C inT7 0 rfl rfl 0 (by decide) t_169 rfl dX7_codes_1 ?_
  refine r_ws (I' := [txtB cI tx h v rd n f opn wan]) rfl ?_
  exact r_aret (r := h) C hA hr (Or.inl ⟨_, rfl⟩) hlo dX7_codes_4 [txtB cI tx h v rd n f opn wan] ⟨rfl, rfl⟩ rfl hQ
theorem k_X7_firstBad : kV yX7_firstBad cX7_firstBad 2 (some .int) 0 := ⟨t_262, t_263, t_63, t_264, by decide +kernel, by decide +kernel, by decide +kernel⟩
def F_X7_firstBad_L9 (n : Int32) (f : Nat → Int32) : Nat → Int32 → Int32 → Int32 → Int32 × Int32 × Int32
  | 0, _, _, _ => (0, 0, 0)
  | nn + 1, y4, y5, y6 => let r7 : Int32 := F_X6_size n; (if r7 ≤ y6 then (let r9 : Int32 := F_X6_size n; (r9, y4, y5)) else (let r11 : Int32 := F_X6_at n f y6; let r13 : Int32 := (F_X5_takes y4 y5 r11).1; let x14 : Int32 := (F_X5_takes y4 y5 r11).2.1; let x15 : Int32 := (F_X5_takes y4 y5 r11).2.2; (if r13 = 0 then ((y6, x14, x15)) else (let x17 : Int32 := y6 + 1; F_X7_firstBad_L9 n f nn x14 x15 x17))))
def P_X7_firstBad_L9 (n : Int32) (f : Nat → Int32) : Nat → Int32 → Int32 → Int32 → Prop
  | 0, _, _, _ => False
  | nn + 1, y4, y5, y6 => (∀ r7 : Int32, r7 = F_X6_size n → ((r7 ≤ y6 → True) ∧ (¬ r7 ≤ y6 → ((P_X6_at n y6) ∧ (∀ r11 : Int32, r11 = F_X6_at n f y6 → ((P_X5_takes y4 y5 r11) ∧ (∀ r13 : Int32, r13 = (F_X5_takes y4 y5 r11).1 → (∀ x14 : Int32, x14 = (F_X5_takes y4 y5 r11).2.1 → (∀ x15 : Int32, x15 = (F_X5_takes y4 y5 r11).2.2 → ((r13 = 0 → True) ∧ (¬ r13 = 0 → (∀ x17 : Int32, x17 = y6 + 1 → (P_X7_firstBad_L9 n f nn x14 x15 x17)))))))))))))
set_option maxRecDepth 20000 in
def F_X7_firstBad (n : Int32) (f : Nat → Int32) : Int32 × Int32 × Int32 := let x2 : Int32 := (F_X5_start ).1; let x3 : Int32 := (F_X5_start ).2; F_X7_firstBad_L9 n f 62 x2 x3 0
set_option maxRecDepth 20000 in
def P_X7_firstBad (n : Int32) (f : Nat → Int32) : Prop := (∀ x2 : Int32, x2 = (F_X5_start ).1 → (∀ x3 : Int32, x3 = (F_X5_start ).2 → (P_X7_firstBad_L9 n f 62 x2 x3 0)))
set_option maxRecDepth 20000 in
set_option maxHeartbeats 8000000 in
theorem m_X7_firstBad (l : Launch) (D : va_G) (cI cL cP cJ : ClassId) (tx : Nat) (h : Nat) (v : Nat) (rd : Nat) (n : Int32) (f : Nat → Int32) (opn : Int32) (wan : Int32) (hp : P_X7_firstBad n f) : M vI l yX7_firstBad cX7_firstBad 2 (some .int) 2 44 D (tyF cI cL cP cJ) [.ref tx] [txtB cI tx h v rd n f opn wan] (fun (r : Int32) (w1 : List va_W) => r = (F_X7_firstBad n f).1 ∧ w1 = [txtB cI tx h v rd n f ((F_X7_firstBad n f).2.1) ((F_X7_firstBad n f).2.2)]) := by
  unfold P_X7_firstBad at hp
  refine m_start (by decide +kernel) (Nat.le_of_ble_eq_true rfl) (fun p e s m args below meth c A Q hA hQ C hr hlo => ?_)
  refine r_Le (L' := [(0, .ref tx)]) rfl ?_
  refine r_aload_n C dX7_firstBad_0 0 rfl ?_
  refine r_ws (I' := [[(tx, .inr (5, [.ref h, .ref rd]))], [(h, .inr (4, [.ref v, .int n]))], [(v, .inl (cI, 60, .inl f))], [(rd, .inr (3, [.int opn, .int wan]))]]) rfl ?_
  refine r_get (Cn := RX7) (T := TX7) (N := 2) C inT7 0 rfl rfl 1 (by decide) t_170 rfl dX7_firstBad_1 ?_
  refine r_ws (I' := [[(tx, .inr (5, [.ref h, .ref rd]))], [(h, .inr (4, [.ref v, .int n]))], [(v, .inl (cI, 60, .inl f))], rdB rd opn wan]) rfl ?_
  refine r_callV (ci := 3) (wc := [rdB rd opn wan]) (wr := [[(tx, .inr (5, [.ref h, .ref rd]))], [(h, .inr (4, [.ref v, .int n]))], [(v, .inl (cI, 60, .inl f))]]) (st := []) C (m_X5_start l D cI cL cP cJ rd opn wan) k_X5_start t_265 [3, 0, 1, 2] (show ([3, 0, 1, 2] : List Nat).Perm (List.range 4) by decide) rfl rfl rfl (q0 := 0) rfl rfl rfl (Nat.le_of_ble_eq_true rfl) ⟨Nat.le_of_ble_eq_true rfl, Nat.le_of_ble_eq_true rfl⟩ ⟨Nat.zero_le _, Nat.zero_le _⟩ dX7_firstBad_4 (fun r1 wr1 hw1 => ?_)
  obtain rfl := hw1
  obtain ⟨x2, e_x2⟩ : ∃ z : Int32, z = (F_X5_start ).1 := ⟨_, rfl⟩
  have hp := hp x2 e_x2
  obtain ⟨x3, e_x3⟩ : ∃ z : Int32, z = (F_X5_start ).2 := ⟨_, rfl⟩
  have hp := hp x3 e_x3
  refine r_ws (I' := [rdB rd x2 x3, [(tx, .inr (5, [.ref h, .ref rd]))], [(h, .inr (4, [.ref v, .int n]))], [(v, .inl (cI, 60, .inl f))]]) (by rw [e_x2, e_x3]; rfl) ?_
  refine r_iconst (v := 0) C dX7_firstBad_7 (by decide) ?_
  refine r_istore_n (L' := [(1, .int 0), (0, .ref tx)]) C dX7_firstBad_8 (by decide) rfl ?_
  have hL : ∀ (nn : Nat) (y4 : Int32) (y5 : Int32) (y6 : Int32), P_X7_firstBad_L9 n f nn y4 y5 y6 → F_X7_firstBad n f = F_X7_firstBad_L9 n f nn y4 y5 y6 → V p l e (rmm 2 44) s m args below meth c 2 D A 0 0 Q [rdB rd y4 y5, [(tx, .inr (5, [.ref h, .ref rd]))], [(h, .inr (4, [.ref v, .int n]))], [(v, .inl (cI, 60, .inl f))]] [(1, .int y6), (0, .ref tx)] 9 [] := by
    clear hp
    intro nn
    induction nn with
    | zero => intro y4 y5 y6 hp hF; rw [P_X7_firstBad_L9] at hp; exact hp.elim
    | succ nn ih =>
      intro y4 y5 y6 hp hF
      rw [P_X7_firstBad_L9] at hp
      refine r_iload_n C dX7_firstBad_9 0 rfl ?_
      refine r_aload_n C dX7_firstBad_10 1 rfl ?_
      refine r_get (Cn := RX7) (T := TX7) (N := 2) C inT7 1 rfl rfl 0 (by decide) t_169 rfl dX7_firstBad_11 ?_
      refine r_ws (I' := [rdB rd y4 y5, [(tx, .inr (5, [.ref h, .ref rd]))], rowB cI h v n f]) rfl ?_
      refine r_callV (ci := 4) (wc := [rowB cI h v n f]) (wr := [rdB rd y4 y5, [(tx, .inr (5, [.ref h, .ref rd]))]]) (st := [.int y6]) C (m_X6_size l D cI cL cP cJ h v n f) k_X6_size t_269 [2, 0, 1] (show ([2, 0, 1] : List Nat).Perm (List.range 3) by decide) rfl rfl rfl (q0 := 0) rfl rfl rfl (Nat.le_of_ble_eq_true rfl) ⟨Nat.le_of_ble_eq_true rfl, Nat.le_of_ble_eq_true rfl⟩ ⟨Nat.zero_le _, Nat.zero_le _⟩ dX7_firstBad_14 (fun r7 wr7 hw7 => ?_)
      obtain ⟨e_r7, rfl⟩ := hw7
      have hp := hp r7 e_r7
      refine r_ws (I' := [rowB cI h v n f, rdB rd y4 y5, [(tx, .inr (5, [.ref h, .ref rd]))]]) rfl ?_
      refine r_icmp_ge (tgt := 46) C dX7_firstBad_17 (by decide) (fun c8 => ?_) (fun c8 => ?_)
      · refine r_aload_n C dX7_firstBad_46 1 rfl ?_
        refine r_get (Cn := RX7) (T := TX7) (N := 2) C inT7 2 rfl rfl 0 (by decide) t_169 rfl dX7_firstBad_47 ?_
        refine r_callV (ci := 4) (wc := [rowB cI h v n f]) (wr := [rdB rd y4 y5, [(tx, .inr (5, [.ref h, .ref rd]))]]) (st := []) C (m_X6_size l D cI cL cP cJ h v n f) k_X6_size t_269 [0, 1, 2] (show ([0, 1, 2] : List Nat).Perm (List.range 3) by decide) rfl rfl rfl (q0 := 0) rfl rfl rfl (Nat.le_of_ble_eq_true rfl) ⟨Nat.le_of_ble_eq_true rfl, Nat.le_of_ble_eq_true rfl⟩ ⟨Nat.zero_le _, Nat.zero_le _⟩ dX7_firstBad_50 (fun r9 wr9 hw9 => ?_)
        obtain ⟨e_r9, rfl⟩ := hw9
        refine r_ws (I' := [rowB cI h v n f, rdB rd y4 y5, [(tx, .inr (5, [.ref h, .ref rd]))]]) rfl ?_
        refine r_ws (I' := [[(h, .inr (4, [.ref v, .int n]))], [(v, .inl (cI, 60, .inl f))], rdB rd y4 y5, [(tx, .inr (5, [.ref h, .ref rd]))]]) rfl ?_
        refine r_ws (I' := [[(h, .inr (4, [.ref v, .int n]))], [(v, .inl (cI, 60, .inl f))], [(rd, .inr (3, [.int y4, .int y5]))], [(tx, .inr (5, [.ref h, .ref rd]))]]) rfl ?_
        refine r_pl (I' := [[(tx, .inr (5, [.ref h, .ref rd]))], [(h, .inr (4, [.ref v, .int n]))], [(v, .inl (cI, 60, .inl f))], [(rd, .inr (3, [.int y4, .int y5]))]]) [3, 0, 1, 2] (show ([3, 0, 1, 2] : List Nat).Perm (List.range 4) by decide) rfl ?_
        refine r_ws (I' := [txtB cI tx h v rd n f y4 y5]) rfl ?_
        have eF : F_X7_firstBad n f = (r9, y4, y5) := by exact hF.trans (by have q := e_r7.symm; subst q; have q := e_r9.symm; subst q; simp only [F_X7_firstBad_L9, if_pos c8])
        exact r_iret (r := r9) C hA hr hlo dX7_firstBad_53 [txtB cI tx h v rd n f y4 y5] ⟨by simp only [eF], by simp only [eF]⟩ rfl hQ
      · have hp := hp.2 c8
        refine r_aload_n C dX7_firstBad_20 1 rfl ?_
        refine r_get (Cn := RX7) (T := TX7) (N := 2) C inT7 2 rfl rfl 1 (by decide) t_170 rfl dX7_firstBad_21 ?_
        refine r_aload_n C dX7_firstBad_24 1 rfl ?_
        refine r_get (Cn := RX7) (T := TX7) (N := 2) C inT7 2 rfl rfl 0 (by decide) t_169 rfl dX7_firstBad_25 ?_
        refine r_iload_n C dX7_firstBad_28 0 rfl ?_
        obtain ⟨h10, hp⟩ := hp
        refine r_callV (ci := 4) (wc := [rowB cI h v n f]) (wr := [rdB rd y4 y5, [(tx, .inr (5, [.ref h, .ref rd]))]]) (st := [.ref rd]) C (m_X6_at l D cI cL cP cJ h v n f y6 h10) k_X6_at t_270 [0, 1, 2] (show ([0, 1, 2] : List Nat).Perm (List.range 3) by decide) rfl rfl rfl (q0 := 0) rfl rfl rfl (Nat.le_of_ble_eq_true rfl) ⟨Nat.le_of_ble_eq_true rfl, Nat.le_of_ble_eq_true rfl⟩ ⟨Nat.zero_le _, Nat.zero_le _⟩ dX7_firstBad_29 (fun r11 wr11 hw11 => ?_)
        obtain ⟨e_r11, rfl⟩ := hw11
        have hp := hp r11 e_r11
        refine r_ws (I' := [rowB cI h v n f, rdB rd y4 y5, [(tx, .inr (5, [.ref h, .ref rd]))]]) rfl ?_
        obtain ⟨h12, hp⟩ := hp
        refine r_callV (ci := 3) (wc := [rdB rd y4 y5]) (wr := [rowB cI h v n f, [(tx, .inr (5, [.ref h, .ref rd]))]]) (st := []) C (m_X5_takes l D cI cL cP cJ rd y4 y5 r11 h12) k_X5_takes t_274 [1, 0, 2] (show ([1, 0, 2] : List Nat).Perm (List.range 3) by decide) rfl rfl rfl (q0 := 0) rfl rfl rfl (Nat.le_of_ble_eq_true rfl) ⟨Nat.le_of_ble_eq_true rfl, Nat.le_of_ble_eq_true rfl⟩ ⟨Nat.zero_le _, Nat.zero_le _⟩ dX7_firstBad_32 (fun r13 wr13 hw13 => ?_)
        obtain ⟨e_r13, rfl⟩ := hw13
        have hp := hp r13 e_r13
        obtain ⟨x14, e_x14⟩ : ∃ z : Int32, z = (F_X5_takes y4 y5 r11).2.1 := ⟨_, rfl⟩
        have hp := hp x14 e_x14
        obtain ⟨x15, e_x15⟩ : ∃ z : Int32, z = (F_X5_takes y4 y5 r11).2.2 := ⟨_, rfl⟩
        have hp := hp x15 e_x15
        refine r_ws (I' := [rdB rd x14 x15, rowB cI h v n f, [(tx, .inr (5, [.ref h, .ref rd]))]]) (by rw [e_x14, e_x15]; rfl) ?_
        refine r_if_ne (tgt := 40) C dX7_firstBad_35 (by decide) (fun c16 => ?_) (fun c16 => ?_)
        · have hp := hp.2 c16
          obtain ⟨x17, e_x17⟩ : ∃ z : Int32, z = y6 + 1 := ⟨_, rfl⟩
          have hp := hp x17 e_x17
          refine r_iinc (v := x17) (L' := [(1, .int x17), (0, .ref tx)]) C dX7_firstBad_40 0 rfl (by rw [e_x17]; exact ii (by decide)) (by decide) rfl ?_
          refine r_goto (tgt := 9) C dX7_firstBad_43 (by decide) ?_
          refine r_ws (I' := [rdB rd x14 x15, [(h, .inr (4, [.ref v, .int n]))], [(v, .inl (cI, 60, .inl f))], [(tx, .inr (5, [.ref h, .ref rd]))]]) rfl ?_
          refine r_pl (I' := [rdB rd x14 x15, [(tx, .inr (5, [.ref h, .ref rd]))], [(h, .inr (4, [.ref v, .int n]))], [(v, .inl (cI, 60, .inl f))]]) [0, 3, 1, 2] (show ([0, 3, 1, 2] : List Nat).Perm (List.range 4) by decide) rfl ?_
          have eF : F_X7_firstBad_L9 n f (nn + 1) y4 y5 y6 = F_X7_firstBad_L9 n f nn x14 x15 x17 := by have q := e_r7.symm; subst q; have q := e_r11.symm; subst q; have q := e_r13.symm; subst q; have q := e_x14.symm; subst q; have q := e_x15.symm; subst q; have q := e_x17.symm; subst q; simp only [F_X7_firstBad_L9, if_neg c8, if_neg c16]
          exact ih x14 x15 x17 hp (hF.trans eF)
        · refine r_iload_n C dX7_firstBad_38 0 rfl ?_
          refine r_ws (I' := [rdB rd x14 x15, [(h, .inr (4, [.ref v, .int n]))], [(v, .inl (cI, 60, .inl f))], [(tx, .inr (5, [.ref h, .ref rd]))]]) rfl ?_
          refine r_ws (I' := [[(rd, .inr (3, [.int x14, .int x15]))], [(h, .inr (4, [.ref v, .int n]))], [(v, .inl (cI, 60, .inl f))], [(tx, .inr (5, [.ref h, .ref rd]))]]) rfl ?_
          refine r_pl (I' := [[(tx, .inr (5, [.ref h, .ref rd]))], [(h, .inr (4, [.ref v, .int n]))], [(v, .inl (cI, 60, .inl f))], [(rd, .inr (3, [.int x14, .int x15]))]]) [3, 1, 2, 0] (show ([3, 1, 2, 0] : List Nat).Perm (List.range 4) by decide) rfl ?_
          refine r_ws (I' := [txtB cI tx h v rd n f x14 x15]) rfl ?_
          have eF : F_X7_firstBad n f = (y6, x14, x15) := by exact hF.trans (by have q := e_r7.symm; subst q; have q := e_r11.symm; subst q; have q := e_r13.symm; subst q; have q := e_x14.symm; subst q; have q := e_x15.symm; subst q; simp only [F_X7_firstBad_L9, if_neg c8, if_pos c16])
          exact r_iret (r := y6) C hA hr hlo dX7_firstBad_39 [txtB cI tx h v rd n f x14 x15] ⟨by simp only [eF], by simp only [eF]⟩ rfl hQ
  exact hL 62 x2 x3 0 hp (by have q := e_x2.symm; subst q; have q := e_x3.symm; subst q; rfl)
theorem k_X7_isWord : kV yX7_isWord cX7_isWord 1 (some .boolean) 0 := ⟨t_673, t_674, t_63, t_675, by decide +kernel, by decide +kernel, by decide +kernel⟩
set_option maxRecDepth 20000 in
def F_X7_isWord (n : Int32) (f : Nat → Int32) : Int32 × Int32 × Int32 := let r2 : Int32 := (F_X7_firstBad n f).1; let x3 : Int32 := (F_X7_firstBad n f).2.1; let x4 : Int32 := (F_X7_firstBad n f).2.2; let r5 : Int32 := F_X6_size n; let x9 : Int32 := (if r2 = r5 then (let r7 : Int32 := F_X5_mayStop x3 x4; (if r7 = 0 then (0) else (1))) else (0)); (x9, x3, x4)
set_option maxRecDepth 20000 in
def P_X7_isWord (n : Int32) (f : Nat → Int32) : Prop := (P_X7_firstBad n f)
set_option maxRecDepth 20000 in
set_option maxHeartbeats 8000000 in
theorem m_X7_isWord (l : Launch) (D : va_G) (cI cL cP cJ : ClassId) (tx : Nat) (h : Nat) (v : Nat) (rd : Nat) (n : Int32) (f : Nat → Int32) (opn : Int32) (wan : Int32) (hp : P_X7_isWord n f) : M vI l yX7_isWord cX7_isWord 1 (some .boolean) 3 65 D (tyF cI cL cP cJ) [.ref tx] [txtB cI tx h v rd n f opn wan] (fun (r : Int32) (w1 : List va_W) => r = (F_X7_isWord n f).1 ∧ w1 = [txtB cI tx h v rd n f ((F_X7_isWord n f).2.1) ((F_X7_isWord n f).2.2)]) := by
  unfold P_X7_isWord at hp
  refine m_start (by decide +kernel) (Nat.le_of_ble_eq_true rfl) (fun p e s m args below meth c A Q hA hQ C hr hlo => ?_)
  refine r_Le (L' := [(0, .ref tx)]) rfl ?_
  refine r_aload_n C dX7_isWord_0 0 rfl ?_
  have h1 := hp
  refine r_callV (ci := 5) (wc := [txtB cI tx h v rd n f opn wan]) (wr := []) (st := []) C (m_X7_firstBad l D cI cL cP cJ tx h v rd n f opn wan h1) k_X7_firstBad t_676 [0] (show ([0] : List Nat).Perm (List.range 1) by decide) rfl rfl rfl (q0 := 0) rfl rfl rfl (Nat.le_of_ble_eq_true rfl) ⟨Nat.le_of_ble_eq_true rfl, Nat.le_of_ble_eq_true rfl⟩ ⟨Nat.zero_le _, Nat.zero_le _⟩ dX7_isWord_1 (fun r2 wr2 hw2 => ?_)
  obtain ⟨e_r2, rfl⟩ := hw2
  obtain ⟨x3, e_x3⟩ : ∃ z : Int32, z = (F_X7_firstBad n f).2.1 := ⟨_, rfl⟩
  obtain ⟨x4, e_x4⟩ : ∃ z : Int32, z = (F_X7_firstBad n f).2.2 := ⟨_, rfl⟩
  refine r_ws (I' := [txtB cI tx h v rd n f x3 x4]) (by rw [e_x3, e_x4]; rfl) ?_
  refine r_aload_n C dX7_isWord_4 0 rfl ?_
  refine r_ws (I' := [[(tx, .inr (5, [.ref h, .ref rd]))], [(h, .inr (4, [.ref v, .int n]))], [(v, .inl (cI, 60, .inl f))], [(rd, .inr (3, [.int x3, .int x4]))]]) rfl ?_
  refine r_get (Cn := RX7) (T := TX7) (N := 2) C inT7 0 rfl rfl 0 (by decide) t_169 rfl dX7_isWord_5 ?_
  refine r_ws (I' := [[(tx, .inr (5, [.ref h, .ref rd]))], rowB cI h v n f, [(rd, .inr (3, [.int x3, .int x4]))]]) rfl ?_
  refine r_callV (ci := 4) (wc := [rowB cI h v n f]) (wr := [[(tx, .inr (5, [.ref h, .ref rd]))], [(rd, .inr (3, [.int x3, .int x4]))]]) (st := [.int r2]) C (m_X6_size l D cI cL cP cJ h v n f) k_X6_size t_269 [1, 0, 2] (show ([1, 0, 2] : List Nat).Perm (List.range 3) by decide) rfl rfl rfl (q0 := 0) rfl rfl rfl (Nat.le_of_ble_eq_true rfl) ⟨Nat.le_of_ble_eq_true rfl, Nat.le_of_ble_eq_true rfl⟩ ⟨Nat.zero_le _, Nat.zero_le _⟩ dX7_isWord_8 (fun r5 wr5 hw5 => ?_)
  obtain ⟨e_r5, rfl⟩ := hw5
  refine r_ws (I' := [rowB cI h v n f, [(tx, .inr (5, [.ref h, .ref rd]))], [(rd, .inr (3, [.int x3, .int x4]))]]) rfl ?_
  suffices K : ∀ x9 : Int32, x9 = ((if r2 = r5 then (let r7 : Int32 := F_X5_mayStop x3 x4; (if r7 = 0 then (0) else (1))) else (0))) → V p l e (rmm 3 65) s m args below meth c 1 D A 0 0 Q [rowB cI h v n f, [(tx, .inr (5, [.ref h, .ref rd]))], [(rd, .inr (3, [.int x3, .int x4]))]] [(0, .ref tx)] 29 [.int x9] by
    refine r_icmp_ne (tgt := 28) C dX7_isWord_11 (by decide) (fun c6 => ?_) (fun c6 => ?_)
    · refine r_iconst (v := 0) C dX7_isWord_28 (by decide) ?_
      exact K _ (by simp only [if_neg c6])
    · refine r_aload_n C dX7_isWord_14 0 rfl ?_
      refine r_get (Cn := RX7) (T := TX7) (N := 2) C inT7 1 rfl rfl 1 (by decide) t_170 rfl dX7_isWord_15 ?_
      refine r_ws (I' := [rowB cI h v n f, [(tx, .inr (5, [.ref h, .ref rd]))], rdB rd x3 x4]) rfl ?_
      refine r_callV (ci := 3) (wc := [rdB rd x3 x4]) (wr := [rowB cI h v n f, [(tx, .inr (5, [.ref h, .ref rd]))]]) (st := []) C (m_X5_mayStop l D cI cL cP cJ rd x3 x4) k_X5_mayStop t_677 [2, 0, 1] (show ([2, 0, 1] : List Nat).Perm (List.range 3) by decide) rfl rfl rfl (q0 := 0) rfl rfl rfl (Nat.le_of_ble_eq_true rfl) ⟨Nat.le_of_ble_eq_true rfl, Nat.le_of_ble_eq_true rfl⟩ ⟨Nat.zero_le _, Nat.zero_le _⟩ dX7_isWord_18 (fun r7 wr7 hw7 => ?_)
      obtain ⟨e_r7, rfl⟩ := hw7
      refine r_ws (I' := [rdB rd x3 x4, rowB cI h v n f, [(tx, .inr (5, [.ref h, .ref rd]))]]) rfl ?_
      refine r_if_eq (tgt := 28) C dX7_isWord_21 (by decide) (fun c8 => ?_) (fun c8 => ?_)
      · refine r_iconst (v := 0) C dX7_isWord_28 (by decide) ?_
        refine r_ws (I' := [[(rd, .inr (3, [.int x3, .int x4]))], rowB cI h v n f, [(tx, .inr (5, [.ref h, .ref rd]))]]) rfl ?_
        refine r_pl (I' := [rowB cI h v n f, [(tx, .inr (5, [.ref h, .ref rd]))], [(rd, .inr (3, [.int x3, .int x4]))]]) [1, 2, 0] (show ([1, 2, 0] : List Nat).Perm (List.range 3) by decide) rfl ?_
        exact K _ (by have q := e_r7.symm; subst q; simp only [if_pos c6, if_pos c8])
      · refine r_iconst (v := 1) C dX7_isWord_24 (by decide) ?_
        refine r_goto (tgt := 29) C dX7_isWord_25 (by decide) ?_
        refine r_ws (I' := [[(rd, .inr (3, [.int x3, .int x4]))], rowB cI h v n f, [(tx, .inr (5, [.ref h, .ref rd]))]]) rfl ?_
        refine r_pl (I' := [rowB cI h v n f, [(tx, .inr (5, [.ref h, .ref rd]))], [(rd, .inr (3, [.int x3, .int x4]))]]) [1, 2, 0] (show ([1, 2, 0] : List Nat).Perm (List.range 3) by decide) rfl ?_
        exact K _ (by have q := e_r7.symm; subst q; simp only [if_pos c6, if_neg c8])
  intro x9 e_x9
  refine r_ws (I' := [[(h, .inr (4, [.ref v, .int n]))], [(v, .inl (cI, 60, .inl f))], [(tx, .inr (5, [.ref h, .ref rd]))], [(rd, .inr (3, [.int x3, .int x4]))]]) rfl ?_
  refine r_pl (I' := [[(tx, .inr (5, [.ref h, .ref rd]))], [(h, .inr (4, [.ref v, .int n]))], [(v, .inl (cI, 60, .inl f))], [(rd, .inr (3, [.int x3, .int x4]))]]) [2, 0, 1, 3] (show ([2, 0, 1, 3] : List Nat).Perm (List.range 4) by decide) rfl ?_
  refine r_ws (I' := [txtB cI tx h v rd n f x3 x4]) rfl ?_
  have eF : F_X7_isWord n f = (x9, x3, x4) := by have q := e_r2.symm; subst q; have q := e_x3.symm; subst q; have q := e_x4.symm; subst q; have q := e_r5.symm; subst q; have q := e_x9.symm; subst q; rfl
  exact r_zret (r := x9) C hA hr hlo (nb01 (by first | (rw [e_x9]; (try dsimp only); ((repeat' split) <;> (first | exact Or.inl rfl | exact Or.inr rfl))) | (have q := e_r2.symm; subst q; have q := e_x3.symm; subst q; have q := e_x4.symm; subst q; have q := e_r5.symm; subst q; have q := e_x9.symm; subst q; (try dsimp only); ((repeat' split) <;> (first | exact Or.inl rfl | exact Or.inr rfl))))) dX7_isWord_29 [txtB cI tx h v rd n f x3 x4] ⟨by simp only [eF], by simp only [eF]⟩ rfl hQ

abbrev rowB (cI : ClassId) (h : Nat) (v : Nat) (n : Int32) (f : Nat → Int32) : va_W := [(h, .inr (4, [.ref v, .int n])), (v, .inl (cI, 60, .inl f))]
theorem k_X6_size : kV yX6_size cX6_size 1 (some .int) 0 := ⟨t_212, t_213, t_10, t_214, by decide +kernel, by decide +kernel, by decide +kernel⟩
set_option maxRecDepth 20000 in
def F_X6_size (n : Int32) : Int32 := n
set_option maxRecDepth 20000 in
set_option maxHeartbeats 8000000 in
theorem m_X6_size (l : Launch) (D : va_G) (cI cL cP cJ : ClassId) (h : Nat) (v : Nat) (n : Int32) (f : Nat → Int32) : M vI l yX6_size cX6_size 1 (some .int) 0 0 D (tyF cI cL cP cJ) [.ref h] [rowB cI h v n f] (fun (r : Int32) (w1 : List va_W) => r = (F_X6_size n) ∧ w1 = [rowB cI h v n f]) := by
  refine m_start (by decide +kernel) (Nat.le_of_ble_eq_true rfl) (fun p e s m args below meth c A Q hA hQ C hr hlo => ?_)
  refine r_Le (L' := [(0, .ref h)]) rfl ?_
  refine r_aload_n C dX6_size_0 0 rfl ?_
  refine r_ws (I' := [[(h, .inr (4, [.ref v, .int n]))], [(v, .inl (cI, 60, .inl f))]]) rfl ?_
  refine r_get (Cn := RX6) (T := TX6) (N := 2) C inT6 0 rfl rfl 1 (by decide) t_53 rfl dX6_size_1 ?_
  refine r_ws (I' := [rowB cI h v n f]) rfl ?_
  have eF : F_X6_size n = n := by rfl
  exact r_iret (r := n) C hA hr hlo dX6_size_4 [rowB cI h v n f] ⟨by simp only [eF], rfl⟩ rfl hQ
theorem k_X6_isFull : kV yX6_isFull cX6_isFull 1 (some .boolean) 0 := ⟨t_250, t_251, t_10, t_252, by decide +kernel, by decide +kernel, by decide +kernel⟩
set_option maxRecDepth 20000 in
def F_X6_isFull (n : Int32) : Int32 := let x2 : Int32 := (if n < 60 then (0) else (1)); x2
set_option maxRecDepth 20000 in
set_option maxHeartbeats 8000000 in
theorem m_X6_isFull (l : Launch) (D : va_G) (cI cL cP cJ : ClassId) (h : Nat) (v : Nat) (n : Int32) (f : Nat → Int32) : M vI l yX6_isFull cX6_isFull 1 (some .boolean) 0 0 D (tyF cI cL cP cJ) [.ref h] [rowB cI h v n f] (fun (r : Int32) (w1 : List va_W) => r = (F_X6_isFull n) ∧ w1 = [rowB cI h v n f]) := by
  refine m_start (by decide +kernel) (Nat.le_of_ble_eq_true rfl) (fun p e s m args below meth c A Q hA hQ C hr hlo => ?_)
  refine r_Le (L' := [(0, .ref h)]) rfl ?_
  refine r_aload_n C dX6_isFull_0 0 rfl ?_
  refine r_ws (I' := [[(h, .inr (4, [.ref v, .int n]))], [(v, .inl (cI, 60, .inl f))]]) rfl ?_
  refine r_get (Cn := RX6) (T := TX6) (N := 2) C inT6 0 rfl rfl 1 (by decide) t_53 rfl dX6_isFull_1 ?_
  refine r_aload_n C dX6_isFull_4 0 rfl ?_
  refine r_get (Cn := RX6) (T := TX6) (N := 2) C inT6 0 rfl rfl 0 (by decide) t_52 rfl dX6_isFull_5 ?_
  refine r_alen (v := 60) C 1 0 rfl rfl rfl dX6_isFull_8 ?_
  suffices K : ∀ x2 : Int32, x2 = ((if n < 60 then (0) else (1))) → V p l e (rmm 0 0) s m args below meth c 1 D A 0 0 Q [[(h, .inr (4, [.ref v, .int n]))], [(v, .inl (cI, 60, .inl f))]] [(0, .ref h)] 17 [.int x2] by
    refine r_icmp_lt (tgt := 16) C dX6_isFull_9 (by decide) (fun c1 => ?_) (fun c1 => ?_)
    · refine r_iconst (v := 0) C dX6_isFull_16 (by decide) ?_
      exact K _ (by simp only [if_pos c1])
    · refine r_iconst (v := 1) C dX6_isFull_12 (by decide) ?_
      refine r_goto (tgt := 17) C dX6_isFull_13 (by decide) ?_
      exact K _ (by simp only [if_neg c1])
  intro x2 e_x2
  refine r_ws (I' := [rowB cI h v n f]) rfl ?_
  have eF : F_X6_isFull n = x2 := by have q := e_x2.symm; subst q; rfl
  exact r_zret (r := x2) C hA hr hlo (nb01 (by first | (rw [e_x2]; (try dsimp only); ((repeat' split) <;> (first | exact Or.inl rfl | exact Or.inr rfl))) | (have q := e_x2.symm; subst q; (try dsimp only); ((repeat' split) <;> (first | exact Or.inl rfl | exact Or.inr rfl))))) dX6_isFull_17 [rowB cI h v n f] ⟨by simp only [eF], rfl⟩ rfl hQ
theorem k_X6_at : kV yX6_at cX6_at 2 (some .int) 1 := ⟨t_434, t_435, t_10, t_436, by decide +kernel, by decide +kernel, by decide +kernel⟩
set_option maxRecDepth 20000 in
def F_X6_at (n : Int32) (f : Nat → Int32) (i : Int32) : Int32 := let x5 : Int32 := (if i < 0 then ((-10)) else ((if n ≤ i then ((-10)) else ((if 60 ≤ i then ((-10)) else (f i.toNatClampNeg)))))); x5
set_option maxRecDepth 20000 in
def P_X6_at (n : Int32) (i : Int32) : Prop := ((i < 0 → True) ∧ (¬ i < 0 → ((n ≤ i → True) ∧ (¬ n ≤ i → ((60 ≤ i → True) ∧ (¬ 60 ≤ i → (vp_in i 60)))))))
set_option maxRecDepth 20000 in
set_option maxHeartbeats 8000000 in
theorem m_X6_at (l : Launch) (D : va_G) (cI cL cP cJ : ClassId) (h : Nat) (v : Nat) (n : Int32) (f : Nat → Int32) (i : Int32) (hp : P_X6_at n i) : M vI l yX6_at cX6_at 2 (some .int) 0 0 D (tyF cI cL cP cJ) [.ref h, .int i] [rowB cI h v n f] (fun (r : Int32) (w1 : List va_W) => r = (F_X6_at n f i) ∧ w1 = [rowB cI h v n f]) := by
  unfold P_X6_at at hp
  refine m_start (by decide +kernel) (Nat.le_of_ble_eq_true rfl) (fun p e s m args below meth c A Q hA hQ C hr hlo => ?_)
  refine r_Le (L' := [(0, .ref h), (1, .int i)]) rfl ?_
  refine r_iload_n C dX6_at_0 1 rfl ?_
  have hps := hp
  suffices K : ∀ x5 : Int32, x5 = ((if i < 0 then ((-10)) else ((if n ≤ i then ((-10)) else ((if 60 ≤ i then ((-10)) else (f i.toNatClampNeg))))))) → V p l e (rmm 0 0) s m args below meth c 2 D A 0 0 Q [rowB cI h v n f] [(0, .ref h), (1, .int i)] 32 [.int x5] by
    have hp := hps
    refine r_if_lt (tgt := 30) C dX6_at_1 (by decide) (fun c1 => ?_) (fun c1 => ?_)
    · refine r_bipush (v := (-10)) C dX6_at_30 (by decide) ?_
      exact K _ (by simp only [if_pos c1])
    · have hp := hp.2 c1
      refine r_iload_n C dX6_at_4 1 rfl ?_
      refine r_aload_n C dX6_at_5 0 rfl ?_
      refine r_ws (I' := [[(h, .inr (4, [.ref v, .int n]))], [(v, .inl (cI, 60, .inl f))]]) rfl ?_
      refine r_get (Cn := RX6) (T := TX6) (N := 2) C inT6 0 rfl rfl 1 (by decide) t_53 rfl dX6_at_6 ?_
      refine r_icmp_ge (tgt := 30) C dX6_at_9 (by decide) (fun c2 => ?_) (fun c2 => ?_)
      · refine r_bipush (v := (-10)) C dX6_at_30 (by decide) ?_
        refine r_ws (I' := [rowB cI h v n f]) rfl ?_
        exact K _ (by simp only [if_neg c1, if_pos c2])
      · have hp := hp.2 c2
        refine r_iload_n C dX6_at_12 1 rfl ?_
        refine r_aload_n C dX6_at_13 0 rfl ?_
        refine r_get (Cn := RX6) (T := TX6) (N := 2) C inT6 0 rfl rfl 0 (by decide) t_52 rfl dX6_at_14 ?_
        refine r_alen (v := 60) C 1 0 rfl rfl rfl dX6_at_17 ?_
        refine r_icmp_ge (tgt := 30) C dX6_at_18 (by decide) (fun c3 => ?_) (fun c3 => ?_)
        · refine r_bipush (v := (-10)) C dX6_at_30 (by decide) ?_
          refine r_ws (I' := [rowB cI h v n f]) rfl ?_
          exact K _ (by simp only [if_neg c1, if_neg c2, if_pos c3])
        · have hp := hp.2 c3
          refine r_aload_n C dX6_at_21 0 rfl ?_
          refine r_get (Cn := RX6) (T := TX6) (N := 2) C inT6 0 rfl rfl 0 (by decide) t_52 rfl dX6_at_22 ?_
          refine r_iload_n C dX6_at_25 1 rfl ?_
          have h4 := hp
          refine r_iald (z := f i.toNatClampNeg) C 1 0 rfl rfl h4 dX6_at_26 rfl ?_
          refine r_goto (tgt := 32) C dX6_at_27 (by decide) ?_
          refine r_ws (I' := [rowB cI h v n f]) rfl ?_
          exact K _ (by simp only [if_neg c1, if_neg c2, if_neg c3])
  intro x5 e_x5
  have eF : F_X6_at n f i = x5 := by have q := e_x5.symm; subst q; rfl
  exact r_iret (r := x5) C hA hr hlo dX6_at_32 [rowB cI h v n f] ⟨by simp only [eF], rfl⟩ rfl hQ
theorem k_X6_add : kV yX6_add cX6_add 2 none 1 := ⟨t_559, t_560, t_10, t_561, by decide +kernel, by decide +kernel, by decide +kernel⟩
set_option maxRecDepth 20000 in
def F_X6_add (n : Int32) (f : Nat → Int32) (x : Int32) : Int32 × (Nat → Int32) := let x6 : Int32 := (if n < 0 then (n) else ((if 60 ≤ n then (n) else (let x5 : Int32 := n + 1; x5)))); let g7 : Nat → Int32 := (if n < 0 then (f) else ((if 60 ≤ n then (f) else (let g4 : Nat → Int32 := upd f (n.toNatClampNeg) x; g4)))); (x6, g7)
set_option maxRecDepth 20000 in
def P_X6_add (n : Int32) : Prop := ((n < 0 → True) ∧ (¬ n < 0 → ((60 ≤ n → True) ∧ (¬ 60 ≤ n → (vp_in n 60)))))
set_option maxRecDepth 20000 in
set_option maxHeartbeats 8000000 in
theorem m_X6_add (l : Launch) (D : va_G) (cI cL cP cJ : ClassId) (h : Nat) (v : Nat) (n : Int32) (f : Nat → Int32) (x : Int32) (hp : P_X6_add n) : M vV l yX6_add cX6_add 2 none 0 0 D (tyF cI cL cP cJ) [.ref h, .int x] [rowB cI h v n f] (fun (r : Unit) (w1 : List va_W) => w1 = [rowB cI h v ((F_X6_add n f x).1) ((F_X6_add n f x).2)]) := by
  unfold P_X6_add at hp
  refine m_start (by decide +kernel) (Nat.le_of_ble_eq_true rfl) (fun p e s m args below meth c A Q hA hQ C hr hlo => ?_)
  refine r_Le (L' := [(0, .ref h), (1, .int x)]) rfl ?_
  refine r_aload_n C dX6_add_0 0 rfl ?_
  refine r_ws (I' := [[(h, .inr (4, [.ref v, .int n]))], [(v, .inl (cI, 60, .inl f))]]) rfl ?_
  refine r_get (Cn := RX6) (T := TX6) (N := 2) C inT6 0 rfl rfl 1 (by decide) t_53 rfl dX6_add_1 ?_
  have hps := hp
  suffices K : ∀ x6 : Int32, x6 = ((if n < 0 then (n) else ((if 60 ≤ n then (n) else (let x5 : Int32 := n + 1; x5))))) → ∀ g7 : Nat → Int32, g7 = ((if n < 0 then (f) else ((if 60 ≤ n then (f) else (let g4 : Nat → Int32 := upd f (n.toNatClampNeg) x; g4))))) → V p l e (rmm 0 0) s m args below meth c 2 D A 0 0 Q [[(h, .inr (4, [.ref v, .int x6]))], [(v, .inl (cI, 60, .inl g7))]] [(0, .ref h), (1, .int x)] 39 [] by
    have hp := hps
    refine r_if_lt (tgt := 39) C dX6_add_4 (by decide) (fun c1 => ?_) (fun c1 => ?_)
    · exact K _ (by simp only [if_pos c1]) _ (by simp only [if_pos c1])
    · have hp := hp.2 c1
      refine r_aload_n C dX6_add_7 0 rfl ?_
      refine r_get (Cn := RX6) (T := TX6) (N := 2) C inT6 0 rfl rfl 1 (by decide) t_53 rfl dX6_add_8 ?_
      refine r_aload_n C dX6_add_11 0 rfl ?_
      refine r_get (Cn := RX6) (T := TX6) (N := 2) C inT6 0 rfl rfl 0 (by decide) t_52 rfl dX6_add_12 ?_
      refine r_alen (v := 60) C 1 0 rfl rfl rfl dX6_add_15 ?_
      refine r_icmp_ge (tgt := 39) C dX6_add_16 (by decide) (fun c2 => ?_) (fun c2 => ?_)
      · exact K _ (by simp only [if_neg c1, if_pos c2]) _ (by simp only [if_neg c1, if_pos c2])
      · have hp := hp.2 c2
        refine r_aload_n C dX6_add_19 0 rfl ?_
        refine r_get (Cn := RX6) (T := TX6) (N := 2) C inT6 0 rfl rfl 0 (by decide) t_52 rfl dX6_add_20 ?_
        refine r_aload_n C dX6_add_23 0 rfl ?_
        refine r_get (Cn := RX6) (T := TX6) (N := 2) C inT6 0 rfl rfl 1 (by decide) t_53 rfl dX6_add_24 ?_
        refine r_iload_n C dX6_add_27 1 rfl ?_
        have h3 := hp
        obtain ⟨g4, e_g4⟩ : ∃ z : Nat → Int32, z = upd f (n.toNatClampNeg) x := ⟨_, rfl⟩
        refine r_iast C 1 0 rfl rfl h3 (I' := [[(h, .inr (4, [.ref v, .int n]))], [(v, .inl (cI, 60, .inl g4))]]) (by rw [e_g4]; rfl) dX6_add_28 ?_
        refine r_aload_n C dX6_add_29 0 rfl ?_
        refine r_dup C dX6_add_30 rfl ?_
        refine r_get (Cn := RX6) (T := TX6) (N := 2) C inT6 0 rfl rfl 1 (by decide) t_53 rfl dX6_add_31 ?_
        refine r_iconst (v := 1) C dX6_add_34 (by decide) ?_
        refine r_iadd C dX6_add_35 rfl ?_
        refine r_top (fun x5 e_x5 => ?_)
        refine r_put (Cn := RX6) (T := TX6) (N := 2) C inT6 0 rfl rfl 1 (by decide) t_53 tyX6 tyX6_ok nmX6 rfl rfl rfl (Nat.le_of_ble_eq_true rfl) (I' := [[(h, .inr (4, [.ref v, .int x5]))], [(v, .inl (cI, 60, .inl g4))]]) rfl dX6_add_36 ?_
        exact K _ (by have q := e_g4.symm; subst q; have q := e_x5.symm; subst q; simp only [if_neg c1, if_neg c2]) _ (by have q := e_g4.symm; subst q; have q := e_x5.symm; subst q; simp only [if_neg c1, if_neg c2])
  intro x6 e_x6 g7 e_g7
  refine r_ws (I' := [rowB cI h v x6 g7]) rfl ?_
  have eF : F_X6_add n f x = (x6, g7) := by have q := e_x6.symm; subst q; have q := e_g7.symm; subst q; rfl
  exact r_vret (r := ()) C hA hr hlo dX6_add_39 [rowB cI h v x6 g7] (by simp only [eF]) rfl hQ
theorem k_X6_dropLast : kV yX6_dropLast cX6_dropLast 1 none 0 := ⟨t_585, t_586, t_10, t_587, by decide +kernel, by decide +kernel, by decide +kernel⟩
set_option maxRecDepth 20000 in
def F_X6_dropLast (n : Int32) : Int32 := let x3 : Int32 := (if n ≤ 0 then (n) else (let x2 : Int32 := n - 1; x2)); x3
set_option maxRecDepth 20000 in
set_option maxHeartbeats 8000000 in
theorem m_X6_dropLast (l : Launch) (D : va_G) (cI cL cP cJ : ClassId) (h : Nat) (v : Nat) (n : Int32) (f : Nat → Int32) : M vV l yX6_dropLast cX6_dropLast 1 none 0 0 D (tyF cI cL cP cJ) [.ref h] [rowB cI h v n f] (fun (r : Unit) (w1 : List va_W) => w1 = [rowB cI h v (F_X6_dropLast n) f]) := by
  refine m_start (by decide +kernel) (Nat.le_of_ble_eq_true rfl) (fun p e s m args below meth c A Q hA hQ C hr hlo => ?_)
  refine r_Le (L' := [(0, .ref h)]) rfl ?_
  refine r_aload_n C dX6_dropLast_0 0 rfl ?_
  refine r_ws (I' := [[(h, .inr (4, [.ref v, .int n]))], [(v, .inl (cI, 60, .inl f))]]) rfl ?_
  refine r_get (Cn := RX6) (T := TX6) (N := 2) C inT6 0 rfl rfl 1 (by decide) t_53 rfl dX6_dropLast_1 ?_
  suffices K : ∀ x3 : Int32, x3 = ((if n ≤ 0 then (n) else (let x2 : Int32 := n - 1; x2))) → V p l e (rmm 0 0) s m args below meth c 1 D A 0 0 Q [[(h, .inr (4, [.ref v, .int x3]))], [(v, .inl (cI, 60, .inl f))]] [(0, .ref h)] 17 [] by
    refine r_if_le (tgt := 17) C dX6_dropLast_4 (by decide) (fun c1 => ?_) (fun c1 => ?_)
    · exact K _ (by simp only [if_pos c1])
    · refine r_aload_n C dX6_dropLast_7 0 rfl ?_
      refine r_dup C dX6_dropLast_8 rfl ?_
      refine r_get (Cn := RX6) (T := TX6) (N := 2) C inT6 0 rfl rfl 1 (by decide) t_53 rfl dX6_dropLast_9 ?_
      refine r_iconst (v := 1) C dX6_dropLast_12 (by decide) ?_
      refine r_isub C dX6_dropLast_13 rfl ?_
      refine r_top (fun x2 e_x2 => ?_)
      refine r_put (Cn := RX6) (T := TX6) (N := 2) C inT6 0 rfl rfl 1 (by decide) t_53 tyX6 tyX6_ok nmX6 rfl rfl rfl (Nat.le_of_ble_eq_true rfl) (I' := [[(h, .inr (4, [.ref v, .int x2]))], [(v, .inl (cI, 60, .inl f))]]) rfl dX6_dropLast_14 ?_
      exact K _ (by have q := e_x2.symm; subst q; simp only [if_neg c1])
  intro x3 e_x3
  refine r_ws (I' := [rowB cI h v x3 f]) rfl ?_
  have eF : F_X6_dropLast n = x3 := by have q := e_x3.symm; subst q; rfl
  exact r_vret (r := ()) C hA hr hlo dX6_dropLast_17 [rowB cI h v x3 f] (by simp only [eF]) rfl hQ
theorem k_X6_clear : kV yX6_clear cX6_clear 1 none 0 := ⟨t_554, t_555, t_10, t_556, by decide +kernel, by decide +kernel, by decide +kernel⟩
set_option maxRecDepth 20000 in
def F_X6_clear  : Int32 := 0
set_option maxRecDepth 20000 in
set_option maxHeartbeats 8000000 in
theorem m_X6_clear (l : Launch) (D : va_G) (cI cL cP cJ : ClassId) (h : Nat) (v : Nat) (n : Int32) (f : Nat → Int32) : M vV l yX6_clear cX6_clear 1 none 0 0 D (tyF cI cL cP cJ) [.ref h] [rowB cI h v n f] (fun (r : Unit) (w1 : List va_W) => w1 = [rowB cI h v F_X6_clear f]) := by
  refine m_start (by decide +kernel) (Nat.le_of_ble_eq_true rfl) (fun p e s m args below meth c A Q hA hQ C hr hlo => ?_)
  refine r_Le (L' := [(0, .ref h)]) rfl ?_
  refine r_aload_n C dX6_clear_0 0 rfl ?_
  refine r_iconst (v := 0) C dX6_clear_1 (by decide) ?_
  refine r_ws (I' := [[(h, .inr (4, [.ref v, .int n]))], [(v, .inl (cI, 60, .inl f))]]) rfl ?_
  refine r_put (Cn := RX6) (T := TX6) (N := 2) C inT6 0 rfl rfl 1 (by decide) t_53 tyX6 tyX6_ok nmX6 rfl rfl rfl (Nat.le_of_ble_eq_true rfl) (I' := [[(h, .inr (4, [.ref v, .int 0]))], [(v, .inl (cI, 60, .inl f))]]) rfl dX6_clear_2 ?_
  refine r_ws (I' := [rowB cI h v 0 f]) rfl ?_
  have eF : F_X6_clear = 0 := by rfl
  exact r_vret (r := ()) C hA hr hlo dX6_clear_5 [rowB cI h v 0 f] (by simp only [eF]) rfl hQ
theorem k_X6_copy : kV yX6_copy cX6_copy 3 none 1 := ⟨t_550, t_551, t_10, t_552, by decide +kernel, by decide +kernel, by decide +kernel⟩
def F_X6_copy_L6 (n2 : Int32) (f2 : Nat → Int32) : Nat → Int32 → (Nat → Int32) → Int32 → Int32 × (Nat → Int32) × Int32
  | 0, y3, k4, y5 => (y3, k4, y5)
  | nn + 1, y3, k4, y5 => (if n2 ≤ y5 then ((y3, k4, y5)) else ((if 60 ≤ y5 then ((y3, k4, y5)) else (let r9 : Int32 := F_X6_at n2 f2 y5; let x12 : Int32 := (F_X6_add y3 k4 r9).1; let g13 : Nat → Int32 := (F_X6_add y3 k4 r9).2; let x14 : Int32 := y5 + 1; F_X6_copy_L6 n2 f2 nn x12 g13 x14))))
def P_X6_copy_L6 (n2 : Int32) (f2 : Nat → Int32) : Nat → Int32 → (Nat → Int32) → Int32 → Prop
  | 0, _, _, _ => False
  | nn + 1, y3, k4, y5 => ((n2 ≤ y5 → True) ∧ (¬ n2 ≤ y5 → ((60 ≤ y5 → True) ∧ (¬ 60 ≤ y5 → ((P_X6_at n2 y5) ∧ (∀ r9 : Int32, r9 = F_X6_at n2 f2 y5 → ((P_X6_add y3) ∧ (∀ x12 : Int32, x12 = (F_X6_add y3 k4 r9).1 → (∀ g13 : Nat → Int32, g13 = (F_X6_add y3 k4 r9).2 → (∀ x14 : Int32, x14 = y5 + 1 → (P_X6_copy_L6 n2 f2 nn x12 g13 x14)))))))))))
set_option maxRecDepth 20000 in
def F_X6_copy (f : Nat → Int32) (n2 : Int32) (f2 : Nat → Int32) : Int32 × (Nat → Int32) := let x2 : Int32 := F_X6_clear ; let z15 : Int32 := (F_X6_copy_L6 n2 f2 61 x2 f 0).1; let f16 : Nat → Int32 := (F_X6_copy_L6 n2 f2 61 x2 f 0).2.1; (z15, f16)
set_option maxRecDepth 20000 in
def P_X6_copy (f : Nat → Int32) (n2 : Int32) (f2 : Nat → Int32) : Prop := (∀ x2 : Int32, x2 = F_X6_clear  → (P_X6_copy_L6 n2 f2 61 x2 f 0))
set_option maxRecDepth 20000 in
set_option maxHeartbeats 8000000 in
theorem m_X6_copy (l : Launch) (D : va_G) (cI cL cP cJ : ClassId) (h : Nat) (v : Nat) (n : Int32) (f : Nat → Int32) (h2 : Nat) (v2 : Nat) (n2 : Int32) (f2 : Nat → Int32) (hp : P_X6_copy f n2 f2) : M vV l yX6_copy cX6_copy 3 none 1 21 D (tyF cI cL cP cJ) [.ref h, .ref h2] [rowB cI h v n f, rowB cI h2 v2 n2 f2] (fun (r : Unit) (w1 : List va_W) => w1 = [rowB cI h v ((F_X6_copy f n2 f2).1) ((F_X6_copy f n2 f2).2), rowB cI h2 v2 n2 f2]) := by
  unfold P_X6_copy at hp
  refine m_start (by decide +kernel) (Nat.le_of_ble_eq_true rfl) (fun p e s m args below meth c A Q hA hQ C hr hlo => ?_)
  refine r_Le (L' := [(0, .ref h), (1, .ref h2)]) rfl ?_
  refine r_aload_n C dX6_copy_0 0 rfl ?_
  refine r_callV (ci := 4) (wc := [rowB cI h v n f]) (wr := [rowB cI h2 v2 n2 f2]) (st := []) C (m_X6_clear l D cI cL cP cJ h v n f) k_X6_clear t_553 [0, 1] (show ([0, 1] : List Nat).Perm (List.range 2) by decide) rfl rfl rfl (q0 := 0) rfl rfl rfl (Nat.le_of_ble_eq_true rfl) ⟨Nat.le_of_ble_eq_true rfl, Nat.le_of_ble_eq_true rfl⟩ ⟨Nat.zero_le _, Nat.zero_le _⟩ dX6_copy_1 (fun r1 wr1 hw1 => ?_)
  obtain rfl := hw1
  obtain ⟨x2, e_x2⟩ : ∃ z : Int32, z = F_X6_clear  := ⟨_, rfl⟩
  have hp := hp x2 e_x2
  refine r_ws (I' := [rowB cI h v x2 f, rowB cI h2 v2 n2 f2]) (by rw [e_x2]; rfl) ?_
  refine r_iconst (v := 0) C dX6_copy_4 (by decide) ?_
  refine r_istore_n (L' := [(2, .int 0), (0, .ref h), (1, .ref h2)]) C dX6_copy_5 (by decide) rfl ?_
  have hpl := hp
  have hL : ∀ (nn : Nat) (y3 : Int32) (k4 : Nat → Int32) (y5 : Int32), P_X6_copy_L6 n2 f2 nn y3 k4 y5 → (∀ z15 : Int32, z15 = (F_X6_copy_L6 n2 f2 nn y3 k4 y5).1 → ∀ f16 : Nat → Int32, f16 = (F_X6_copy_L6 n2 f2 nn y3 k4 y5).2.1 → ∀ z17 : Int32, z17 = (F_X6_copy_L6 n2 f2 nn y3 k4 y5).2.2 → V p l e (rmm 1 21) s m args below meth c 3 D A 0 0 Q [rowB cI h v z15 f16, rowB cI h2 v2 n2 f2] [(2, .int z17), (0, .ref h), (1, .ref h2)] 38 []) → V p l e (rmm 1 21) s m args below meth c 3 D A 0 0 Q [rowB cI h v y3 k4, rowB cI h2 v2 n2 f2] [(2, .int y5), (0, .ref h), (1, .ref h2)] 6 [] := by
    clear hpl
    intro nn
    induction nn with
    | zero => intro y3 k4 y5 hp kk; rw [P_X6_copy_L6] at hp; exact hp.elim
    | succ nn ih =>
      intro y3 k4 y5 hp kk
      rw [P_X6_copy_L6] at hp
      refine r_iload_n C dX6_copy_6 0 rfl ?_
      refine r_aload_n C dX6_copy_7 2 rfl ?_
      refine r_ws (I' := [rowB cI h v y3 k4, [(h2, .inr (4, [.ref v2, .int n2]))], [(v2, .inl (cI, 60, .inl f2))]]) rfl ?_
      refine r_get (Cn := RX6) (T := TX6) (N := 2) C inT6 1 rfl rfl 1 (by decide) t_53 rfl dX6_copy_8 ?_
      refine r_icmp_ge (tgt := 38) C dX6_copy_11 (by decide) (fun c6 => ?_) (fun c6 => ?_)
      · refine r_ws (I' := [rowB cI h v y3 k4, rowB cI h2 v2 n2 f2]) rfl ?_
        have eF : F_X6_copy_L6 n2 f2 (nn + 1) y3 k4 y5 = (y3, k4, y5) := by simp only [F_X6_copy_L6, if_pos c6]
        exact kk _ (by rw [eF]) _ (by rw [eF]) _ (by rw [eF])
      · have hp := hp.2 c6
        refine r_iload_n C dX6_copy_14 0 rfl ?_
        refine r_aload_n C dX6_copy_15 1 rfl ?_
        refine r_ws (I' := [[(h, .inr (4, [.ref v, .int y3]))], [(v, .inl (cI, 60, .inl k4))], [(h2, .inr (4, [.ref v2, .int n2]))], [(v2, .inl (cI, 60, .inl f2))]]) rfl ?_
        refine r_get (Cn := RX6) (T := TX6) (N := 2) C inT6 0 rfl rfl 0 (by decide) t_52 rfl dX6_copy_16 ?_
        refine r_alen (v := 60) C 1 0 rfl rfl rfl dX6_copy_19 ?_
        refine r_icmp_ge (tgt := 38) C dX6_copy_20 (by decide) (fun c7 => ?_) (fun c7 => ?_)
        · refine r_ws (I' := [rowB cI h v y3 k4, [(h2, .inr (4, [.ref v2, .int n2]))], [(v2, .inl (cI, 60, .inl f2))]]) rfl ?_
          refine r_ws (I' := [rowB cI h v y3 k4, rowB cI h2 v2 n2 f2]) rfl ?_
          have eF : F_X6_copy_L6 n2 f2 (nn + 1) y3 k4 y5 = (y3, k4, y5) := by simp only [F_X6_copy_L6, if_neg c6, if_pos c7]
          exact kk _ (by rw [eF]) _ (by rw [eF]) _ (by rw [eF])
        · have hp := hp.2 c7
          refine r_aload_n C dX6_copy_23 1 rfl ?_
          refine r_aload_n C dX6_copy_24 2 rfl ?_
          refine r_iload_n C dX6_copy_25 0 rfl ?_
          refine r_ws (I' := [[(h, .inr (4, [.ref v, .int y3]))], [(v, .inl (cI, 60, .inl k4))], rowB cI h2 v2 n2 f2]) rfl ?_
          obtain ⟨h8, hp⟩ := hp
          refine r_callV (ci := 4) (wc := [rowB cI h2 v2 n2 f2]) (wr := [[(h, .inr (4, [.ref v, .int y3]))], [(v, .inl (cI, 60, .inl k4))]]) (st := [.ref h]) C (m_X6_at l D cI cL cP cJ h2 v2 n2 f2 y5 h8) k_X6_at t_557 [2, 0, 1] (show ([2, 0, 1] : List Nat).Perm (List.range 3) by decide) rfl rfl rfl (q0 := 0) rfl rfl rfl (Nat.le_of_ble_eq_true rfl) ⟨Nat.le_of_ble_eq_true rfl, Nat.le_of_ble_eq_true rfl⟩ ⟨Nat.zero_le _, Nat.zero_le _⟩ dX6_copy_26 (fun r9 wr9 hw9 => ?_)
          obtain ⟨e_r9, rfl⟩ := hw9
          have hp := hp r9 e_r9
          refine r_ws (I' := [rowB cI h2 v2 n2 f2, [(h, .inr (4, [.ref v, .int y3]))], [(v, .inl (cI, 60, .inl k4))]]) rfl ?_
          refine r_ws (I' := [rowB cI h2 v2 n2 f2, rowB cI h v y3 k4]) rfl ?_
          obtain ⟨h10, hp⟩ := hp
          refine r_callV (ci := 4) (wc := [rowB cI h v y3 k4]) (wr := [rowB cI h2 v2 n2 f2]) (st := []) C (m_X6_add l D cI cL cP cJ h v y3 k4 r9 h10) k_X6_add t_558 [1, 0] (show ([1, 0] : List Nat).Perm (List.range 2) by decide) rfl rfl rfl (q0 := 0) rfl rfl rfl (Nat.le_of_ble_eq_true rfl) ⟨Nat.le_of_ble_eq_true rfl, Nat.le_of_ble_eq_true rfl⟩ ⟨Nat.zero_le _, Nat.zero_le _⟩ dX6_copy_29 (fun r11 wr11 hw11 => ?_)
          obtain rfl := hw11
          obtain ⟨x12, e_x12⟩ : ∃ z : Int32, z = (F_X6_add y3 k4 r9).1 := ⟨_, rfl⟩
          have hp := hp x12 e_x12
          obtain ⟨g13, e_g13⟩ : ∃ z : Nat → Int32, z = (F_X6_add y3 k4 r9).2 := ⟨_, rfl⟩
          have hp := hp g13 e_g13
          refine r_ws (I' := [rowB cI h v x12 g13, rowB cI h2 v2 n2 f2]) (by rw [e_x12, e_g13]; rfl) ?_
          obtain ⟨x14, e_x14⟩ : ∃ z : Int32, z = y5 + 1 := ⟨_, rfl⟩
          have hp := hp x14 e_x14
          refine r_iinc (v := x14) (L' := [(2, .int x14), (0, .ref h), (1, .ref h2)]) C dX6_copy_32 0 rfl (by rw [e_x14]; exact ii (by decide)) (by decide) rfl ?_
          refine r_goto (tgt := 6) C dX6_copy_35 (by decide) ?_
          have eF : F_X6_copy_L6 n2 f2 (nn + 1) y3 k4 y5 = F_X6_copy_L6 n2 f2 nn x12 g13 x14 := by have q := e_r9.symm; subst q; have q := e_x12.symm; subst q; have q := e_g13.symm; subst q; have q := e_x14.symm; subst q; simp only [F_X6_copy_L6, if_neg c6, if_neg c7]
          exact ih x12 g13 x14 hp (fun z15 e_z15 f16 e_f16 z17 e_z17 => kk z15 (by rw [eF]; exact e_z15) f16 (by rw [eF]; exact e_f16) z17 (by rw [eF]; exact e_z17))
  refine hL 61 x2 f 0 hpl (fun z15 e_z15 f16 e_f16 z17 e_z17 => ?_)
  clear hL hpl
  have eF : F_X6_copy f n2 f2 = (z15, f16) := by have q := e_x2.symm; subst q; have q := e_z15.symm; subst q; have q := e_f16.symm; subst q; have q := e_z17.symm; subst q; rfl
  exact r_vret (r := ()) C hA hr hlo dX6_copy_38 [rowB cI h v z15 f16, rowB cI h2 v2 n2 f2] (by simp only [eF]) rfl hQ
abbrev letB (cI : ClassId) (o : Nat) (h : Nat) (v : Nat) (lie : Int32) (seals : Int32) (folds : Int32) (n : Int32) (f : Nat → Int32) : va_W := [(o, .inr (1, [.ref h, .int lie, .int seals, .int folds])), (h, .inr (4, [.ref v, .int n])), (v, .inl (cI, 60, .inl f))]
theorem k_X2_copy : kV yX2_copy cX2_copy 2 none 1 := ⟨t_546, t_547, t_9, t_548, by decide +kernel, by decide +kernel, by decide +kernel⟩
set_option maxRecDepth 20000 in
def F_X2_copy (f : Nat → Int32) (lie2 : Int32) (seals2 : Int32) (folds2 : Int32) (n2 : Int32) (f2 : Nat → Int32) : Int32 × Int32 × Int32 × Int32 × (Nat → Int32) := let x3 : Int32 := (F_X6_copy f n2 f2).1; let g4 : Nat → Int32 := (F_X6_copy f n2 f2).2; (lie2, seals2, folds2, x3, g4)
set_option maxRecDepth 20000 in
def P_X2_copy (f : Nat → Int32) (n2 : Int32) (f2 : Nat → Int32) : Prop := (P_X6_copy f n2 f2)
set_option maxRecDepth 20000 in
set_option maxHeartbeats 8000000 in
theorem m_X2_copy (l : Launch) (D : va_G) (cI cL cP cJ : ClassId) (o : Nat) (h : Nat) (v : Nat) (lie : Int32) (seals : Int32) (folds : Int32) (n : Int32) (f : Nat → Int32) (o2 : Nat) (h2 : Nat) (v2 : Nat) (lie2 : Int32) (seals2 : Int32) (folds2 : Int32) (n2 : Int32) (f2 : Nat → Int32) (hp : P_X2_copy f n2 f2) : M vV l yX2_copy cX2_copy 2 none 2 43 D (tyF cI cL cP cJ) [.ref o, .ref o2] [letB cI o h v lie seals folds n f, letB cI o2 h2 v2 lie2 seals2 folds2 n2 f2] (fun (r : Unit) (w1 : List va_W) => w1 = [letB cI o h v ((F_X2_copy f lie2 seals2 folds2 n2 f2).1) ((F_X2_copy f lie2 seals2 folds2 n2 f2).2.1) ((F_X2_copy f lie2 seals2 folds2 n2 f2).2.2.1) ((F_X2_copy f lie2 seals2 folds2 n2 f2).2.2.2.1) ((F_X2_copy f lie2 seals2 folds2 n2 f2).2.2.2.2), letB cI o2 h2 v2 lie2 seals2 folds2 n2 f2]) := by
  unfold P_X2_copy at hp
  refine m_start (by decide +kernel) (Nat.le_of_ble_eq_true rfl) (fun p e s m args below meth c A Q hA hQ C hr hlo => ?_)
  refine r_Le (L' := [(0, .ref o), (1, .ref o2)]) rfl ?_
  refine r_aload_n C dX2_copy_0 0 rfl ?_
  refine r_ws (I' := [[(o, .inr (1, [.ref h, .int lie, .int seals, .int folds]))], [(h, .inr (4, [.ref v, .int n]))], [(v, .inl (cI, 60, .inl f))], letB cI o2 h2 v2 lie2 seals2 folds2 n2 f2]) rfl ?_
  refine r_get (Cn := RX2) (T := TX2) (N := 4) C inT2 0 rfl rfl 0 (by decide) t_60 rfl dX2_copy_1 ?_
  refine r_aload_n C dX2_copy_4 1 rfl ?_
  refine r_ws (I' := [[(o, .inr (1, [.ref h, .int lie, .int seals, .int folds]))], [(h, .inr (4, [.ref v, .int n]))], [(v, .inl (cI, 60, .inl f))], [(o2, .inr (1, [.ref h2, .int lie2, .int seals2, .int folds2]))], [(h2, .inr (4, [.ref v2, .int n2]))], [(v2, .inl (cI, 60, .inl f2))]]) rfl ?_
  refine r_get (Cn := RX2) (T := TX2) (N := 4) C inT2 3 rfl rfl 0 (by decide) t_60 rfl dX2_copy_5 ?_
  refine r_ws (I' := [[(o, .inr (1, [.ref h, .int lie, .int seals, .int folds]))], rowB cI h v n f, [(o2, .inr (1, [.ref h2, .int lie2, .int seals2, .int folds2]))], [(h2, .inr (4, [.ref v2, .int n2]))], [(v2, .inl (cI, 60, .inl f2))]]) rfl ?_
  refine r_ws (I' := [[(o, .inr (1, [.ref h, .int lie, .int seals, .int folds]))], rowB cI h v n f, [(o2, .inr (1, [.ref h2, .int lie2, .int seals2, .int folds2]))], rowB cI h2 v2 n2 f2]) rfl ?_
  have h1 := hp
  refine r_callV (ci := 4) (wc := [rowB cI h v n f, rowB cI h2 v2 n2 f2]) (wr := [[(o, .inr (1, [.ref h, .int lie, .int seals, .int folds]))], [(o2, .inr (1, [.ref h2, .int lie2, .int seals2, .int folds2]))]]) (st := []) C (m_X6_copy l D cI cL cP cJ h v n f h2 v2 n2 f2 h1) k_X6_copy t_549 [1, 3, 0, 2] (show ([1, 3, 0, 2] : List Nat).Perm (List.range 4) by decide) rfl rfl rfl (q0 := 0) rfl rfl rfl (Nat.le_of_ble_eq_true rfl) ⟨Nat.le_of_ble_eq_true rfl, Nat.le_of_ble_eq_true rfl⟩ ⟨Nat.zero_le _, Nat.zero_le _⟩ dX2_copy_8 (fun r2 wr2 hw2 => ?_)
  obtain rfl := hw2
  obtain ⟨x3, e_x3⟩ : ∃ z : Int32, z = (F_X6_copy f n2 f2).1 := ⟨_, rfl⟩
  obtain ⟨g4, e_g4⟩ : ∃ z : Nat → Int32, z = (F_X6_copy f n2 f2).2 := ⟨_, rfl⟩
  refine r_ws (I' := [rowB cI h v x3 g4, rowB cI h2 v2 n2 f2, [(o, .inr (1, [.ref h, .int lie, .int seals, .int folds]))], [(o2, .inr (1, [.ref h2, .int lie2, .int seals2, .int folds2]))]]) (by rw [e_x3, e_g4]; rfl) ?_
  refine r_aload_n C dX2_copy_11 0 rfl ?_
  refine r_aload_n C dX2_copy_12 1 rfl ?_
  refine r_get (Cn := RX2) (T := TX2) (N := 4) C inT2 3 rfl rfl 1 (by decide) t_61 rfl dX2_copy_13 ?_
  refine r_put (Cn := RX2) (T := TX2) (N := 4) C inT2 2 rfl rfl 1 (by decide) t_61 tyX2 tyX2_ok nmX2 rfl rfl rfl (Nat.le_of_ble_eq_true rfl) (I' := [rowB cI h v x3 g4, rowB cI h2 v2 n2 f2, [(o, .inr (1, [.ref h, .int lie2, .int seals, .int folds]))], [(o2, .inr (1, [.ref h2, .int lie2, .int seals2, .int folds2]))]]) rfl dX2_copy_16 ?_
  refine r_aload_n C dX2_copy_19 0 rfl ?_
  refine r_aload_n C dX2_copy_20 1 rfl ?_
  refine r_get (Cn := RX2) (T := TX2) (N := 4) C inT2 3 rfl rfl 2 (by decide) t_62 rfl dX2_copy_21 ?_
  refine r_put (Cn := RX2) (T := TX2) (N := 4) C inT2 2 rfl rfl 2 (by decide) t_62 tyX2 tyX2_ok nmX2 rfl rfl rfl (Nat.le_of_ble_eq_true rfl) (I' := [rowB cI h v x3 g4, rowB cI h2 v2 n2 f2, [(o, .inr (1, [.ref h, .int lie2, .int seals2, .int folds]))], [(o2, .inr (1, [.ref h2, .int lie2, .int seals2, .int folds2]))]]) rfl dX2_copy_24 ?_
  refine r_aload_n C dX2_copy_27 0 rfl ?_
  refine r_aload_n C dX2_copy_28 1 rfl ?_
  refine r_get (Cn := RX2) (T := TX2) (N := 4) C inT2 3 rfl rfl 3 (by decide) t_63 rfl dX2_copy_29 ?_
  refine r_put (Cn := RX2) (T := TX2) (N := 4) C inT2 2 rfl rfl 3 (by decide) t_63 tyX2 tyX2_ok nmX2 rfl rfl rfl (Nat.le_of_ble_eq_true rfl) (I' := [rowB cI h v x3 g4, rowB cI h2 v2 n2 f2, [(o, .inr (1, [.ref h, .int lie2, .int seals2, .int folds2]))], [(o2, .inr (1, [.ref h2, .int lie2, .int seals2, .int folds2]))]]) rfl dX2_copy_32 ?_
  refine r_ws (I' := [[(h, .inr (4, [.ref v, .int x3]))], [(v, .inl (cI, 60, .inl g4))], rowB cI h2 v2 n2 f2, [(o, .inr (1, [.ref h, .int lie2, .int seals2, .int folds2]))], [(o2, .inr (1, [.ref h2, .int lie2, .int seals2, .int folds2]))]]) rfl ?_
  refine r_pl (I' := [[(o, .inr (1, [.ref h, .int lie2, .int seals2, .int folds2]))], [(h, .inr (4, [.ref v, .int x3]))], [(v, .inl (cI, 60, .inl g4))], rowB cI h2 v2 n2 f2, [(o2, .inr (1, [.ref h2, .int lie2, .int seals2, .int folds2]))]]) [3, 0, 1, 2, 4] (show ([3, 0, 1, 2, 4] : List Nat).Perm (List.range 5) by decide) rfl ?_
  refine r_ws (I' := [letB cI o h v lie2 seals2 folds2 x3 g4, rowB cI h2 v2 n2 f2, [(o2, .inr (1, [.ref h2, .int lie2, .int seals2, .int folds2]))]]) rfl ?_
  refine r_ws (I' := [letB cI o h v lie2 seals2 folds2 x3 g4, [(h2, .inr (4, [.ref v2, .int n2]))], [(v2, .inl (cI, 60, .inl f2))], [(o2, .inr (1, [.ref h2, .int lie2, .int seals2, .int folds2]))]]) rfl ?_
  refine r_pl (I' := [[(o2, .inr (1, [.ref h2, .int lie2, .int seals2, .int folds2]))], [(h2, .inr (4, [.ref v2, .int n2]))], [(v2, .inl (cI, 60, .inl f2))], letB cI o h v lie2 seals2 folds2 x3 g4]) [3, 1, 2, 0] (show ([3, 1, 2, 0] : List Nat).Perm (List.range 4) by decide) rfl ?_
  refine r_ws (I' := [letB cI o2 h2 v2 lie2 seals2 folds2 n2 f2, letB cI o h v lie2 seals2 folds2 x3 g4]) rfl ?_
  refine r_pl (I' := [letB cI o h v lie2 seals2 folds2 x3 g4, letB cI o2 h2 v2 lie2 seals2 folds2 n2 f2]) [1, 0] (show ([1, 0] : List Nat).Perm (List.range 2) by decide) rfl ?_
  have eF : F_X2_copy f lie2 seals2 folds2 n2 f2 = (lie2, seals2, folds2, x3, g4) := by have q := e_x3.symm; subst q; have q := e_g4.symm; subst q; rfl
  exact r_vret (r := ()) C hA hr hlo dX2_copy_35 [letB cI o h v lie2 seals2 folds2 x3 g4, letB cI o2 h2 v2 lie2 seals2 folds2 n2 f2] (by simp only [eF]) rfl hQ
theorem k_X2_lie : kV yX2_lie cX2_lie 1 (some .int) 0 := ⟨t_262, t_263, t_9, t_264, by decide +kernel, by decide +kernel, by decide +kernel⟩
set_option maxRecDepth 20000 in
def F_X2_lie (lie : Int32) : Int32 := lie
set_option maxRecDepth 20000 in
set_option maxHeartbeats 8000000 in
theorem m_X2_lie (l : Launch) (D : va_G) (cI cL cP cJ : ClassId) (o : Nat) (h : Nat) (v : Nat) (lie : Int32) (seals : Int32) (folds : Int32) (n : Int32) (f : Nat → Int32) : M vI l yX2_lie cX2_lie 1 (some .int) 0 0 D (tyF cI cL cP cJ) [.ref o] [letB cI o h v lie seals folds n f] (fun (r : Int32) (w1 : List va_W) => r = (F_X2_lie lie) ∧ w1 = [letB cI o h v lie seals folds n f]) := by
  refine m_start (by decide +kernel) (Nat.le_of_ble_eq_true rfl) (fun p e s m args below meth c A Q hA hQ C hr hlo => ?_)
  refine r_Le (L' := [(0, .ref o)]) rfl ?_
  refine r_aload_n C dX2_lie_0 0 rfl ?_
  refine r_ws (I' := [[(o, .inr (1, [.ref h, .int lie, .int seals, .int folds]))], [(h, .inr (4, [.ref v, .int n]))], [(v, .inl (cI, 60, .inl f))]]) rfl ?_
  refine r_get (Cn := RX2) (T := TX2) (N := 4) C inT2 0 rfl rfl 1 (by decide) t_61 rfl dX2_lie_1 ?_
  refine r_ws (I' := [letB cI o h v lie seals folds n f]) rfl ?_
  have eF : F_X2_lie lie = lie := by rfl
  exact r_iret (r := lie) C hA hr hlo dX2_lie_4 [letB cI o h v lie seals folds n f] ⟨by simp only [eF], rfl⟩ rfl hQ
theorem k_X2_remembered : kV yX2_remembered cX2_remembered 1 (some (.object "FoldedLetters$Row")) 0 := ⟨t_430, t_431, t_9, t_432, by decide +kernel, by decide +kernel, by decide +kernel⟩
set_option maxRecDepth 20000 in
set_option maxHeartbeats 8000000 in
theorem m_X2_remembered (l : Launch) (D : va_G) (cI cL cP cJ : ClassId) (o : Nat) (h : Nat) (v : Nat) (lie : Int32) (seals : Int32) (folds : Int32) (n : Int32) (f : Nat → Int32) : M vR l yX2_remembered cX2_remembered 1 (some (.object "FoldedLetters$Row")) 0 0 D (tyF cI cL cP cJ) [.ref o] [letB cI o h v lie seals folds n f] (fun (r : Nat) (w1 : List va_W) => r = h ∧ w1 = [letB cI o h v lie seals folds n f]) := by
  refine m_start (by decide +kernel) (Nat.le_of_ble_eq_true rfl) (fun p e s m args below meth c A Q hA hQ C hr hlo => ?_)
  refine r_Le (L' := [(0, .ref o)]) rfl ?_
  refine r_aload_n C dX2_remembered_0 0 rfl ?_
  refine r_ws (I' := [[(o, .inr (1, [.ref h, .int lie, .int seals, .int folds]))], [(h, .inr (4, [.ref v, .int n]))], [(v, .inl (cI, 60, .inl f))]]) rfl ?_
  refine r_get (Cn := RX2) (T := TX2) (N := 4) C inT2 0 rfl rfl 0 (by decide) t_60 rfl dX2_remembered_1 ?_
  refine r_ws (I' := [letB cI o h v lie seals folds n f]) rfl ?_
  exact r_aret (r := h) C hA hr (Or.inl ⟨_, rfl⟩) hlo dX2_remembered_4 [letB cI o h v lie seals folds n f] ⟨rfl, rfl⟩ rfl hQ
theorem k_X2_latestCrease : kV yX2_latestCrease cX2_latestCrease 1 (some .int) 0 := ⟨t_573, t_574, t_9, t_575, by decide +kernel, by decide +kernel, by decide +kernel⟩
set_option maxRecDepth 20000 in
def F_X2_latestCrease (n : Int32) (f : Nat → Int32) : Int32 := let r1 : Int32 := F_X6_size n; let r3 : Int32 := F_X6_at n f (r1 - 1); r3
set_option maxRecDepth 20000 in
def P_X2_latestCrease (n : Int32) : Prop := (∀ r1 : Int32, r1 = F_X6_size n → (P_X6_at n (r1 - 1)))
set_option maxRecDepth 20000 in
set_option maxHeartbeats 8000000 in
theorem m_X2_latestCrease (l : Launch) (D : va_G) (cI cL cP cJ : ClassId) (o : Nat) (h : Nat) (v : Nat) (lie : Int32) (seals : Int32) (folds : Int32) (n : Int32) (f : Nat → Int32) (hp : P_X2_latestCrease n) : M vI l yX2_latestCrease cX2_latestCrease 1 (some .int) 1 21 D (tyF cI cL cP cJ) [.ref o] [letB cI o h v lie seals folds n f] (fun (r : Int32) (w1 : List va_W) => r = (F_X2_latestCrease n f) ∧ w1 = [letB cI o h v lie seals folds n f]) := by
  unfold P_X2_latestCrease at hp
  refine m_start (by decide +kernel) (Nat.le_of_ble_eq_true rfl) (fun p e s m args below meth c A Q hA hQ C hr hlo => ?_)
  refine r_Le (L' := [(0, .ref o)]) rfl ?_
  refine r_aload_n C dX2_latestCrease_0 0 rfl ?_
  refine r_ws (I' := [[(o, .inr (1, [.ref h, .int lie, .int seals, .int folds]))], [(h, .inr (4, [.ref v, .int n]))], [(v, .inl (cI, 60, .inl f))]]) rfl ?_
  refine r_get (Cn := RX2) (T := TX2) (N := 4) C inT2 0 rfl rfl 0 (by decide) t_60 rfl dX2_latestCrease_1 ?_
  refine r_aload_n C dX2_latestCrease_4 0 rfl ?_
  refine r_get (Cn := RX2) (T := TX2) (N := 4) C inT2 0 rfl rfl 0 (by decide) t_60 rfl dX2_latestCrease_5 ?_
  refine r_ws (I' := [[(o, .inr (1, [.ref h, .int lie, .int seals, .int folds]))], rowB cI h v n f]) rfl ?_
  refine r_callV (ci := 4) (wc := [rowB cI h v n f]) (wr := [[(o, .inr (1, [.ref h, .int lie, .int seals, .int folds]))]]) (st := [.ref h]) C (m_X6_size l D cI cL cP cJ h v n f) k_X6_size t_211 [1, 0] (show ([1, 0] : List Nat).Perm (List.range 2) by decide) rfl rfl rfl (q0 := 0) rfl rfl rfl (Nat.le_of_ble_eq_true rfl) ⟨Nat.le_of_ble_eq_true rfl, Nat.le_of_ble_eq_true rfl⟩ ⟨Nat.zero_le _, Nat.zero_le _⟩ dX2_latestCrease_8 (fun r1 wr1 hw1 => ?_)
  obtain ⟨e_r1, rfl⟩ := hw1
  have hp := hp r1 e_r1
  refine r_ws (I' := [rowB cI h v n f, [(o, .inr (1, [.ref h, .int lie, .int seals, .int folds]))]]) rfl ?_
  refine r_iconst (v := 1) C dX2_latestCrease_11 (by decide) ?_
  refine r_isub C dX2_latestCrease_12 rfl ?_
  have h2 := hp
  refine r_callV (ci := 4) (wc := [rowB cI h v n f]) (wr := [[(o, .inr (1, [.ref h, .int lie, .int seals, .int folds]))]]) (st := []) C (m_X6_at l D cI cL cP cJ h v n f (r1 - 1) h2) k_X6_at t_576 [0, 1] (show ([0, 1] : List Nat).Perm (List.range 2) by decide) rfl rfl rfl (q0 := 0) rfl rfl rfl (Nat.le_of_ble_eq_true rfl) ⟨Nat.le_of_ble_eq_true rfl, Nat.le_of_ble_eq_true rfl⟩ ⟨Nat.zero_le _, Nat.zero_le _⟩ dX2_latestCrease_13 (fun r3 wr3 hw3 => ?_)
  obtain ⟨e_r3, rfl⟩ := hw3
  refine r_ws (I' := [rowB cI h v n f, [(o, .inr (1, [.ref h, .int lie, .int seals, .int folds]))]]) rfl ?_
  refine r_ws (I' := [[(h, .inr (4, [.ref v, .int n]))], [(v, .inl (cI, 60, .inl f))], [(o, .inr (1, [.ref h, .int lie, .int seals, .int folds]))]]) rfl ?_
  refine r_pl (I' := [[(o, .inr (1, [.ref h, .int lie, .int seals, .int folds]))], [(h, .inr (4, [.ref v, .int n]))], [(v, .inl (cI, 60, .inl f))]]) [2, 0, 1] (show ([2, 0, 1] : List Nat).Perm (List.range 3) by decide) rfl ?_
  refine r_ws (I' := [letB cI o h v lie seals folds n f]) rfl ?_
  have eF : F_X2_latestCrease n f = r3 := by have q := e_r1.symm; subst q; have q := e_r3.symm; subst q; rfl
  exact r_iret (r := r3) C hA hr hlo dX2_latestCrease_16 [letB cI o h v lie seals folds n f] ⟨by simp only [eF], rfl⟩ rfl hQ
theorem k_X2_touchesSeal : kV yX2_touchesSeal cX2_touchesSeal 3 (some .boolean) 1 := ⟨t_254, t_255, t_9, t_256, by decide +kernel, by decide +kernel, by decide +kernel⟩
set_option maxRecDepth 20000 in
def F_X2_touchesSeal (seals : Int32) (i : Int32) : Int32 := let x2 : Int32 := (if i = 0 then (1) else ((3 : Int32) <<< ((i - 1) &&& 31))); let x4 : Int32 := (if (seals &&& x2) = 0 then (0) else (1)); x4
set_option maxRecDepth 20000 in
set_option maxHeartbeats 8000000 in
theorem m_X2_touchesSeal (l : Launch) (D : va_G) (cI cL cP cJ : ClassId) (o : Nat) (h : Nat) (v : Nat) (lie : Int32) (seals : Int32) (folds : Int32) (n : Int32) (f : Nat → Int32) (i : Int32) : M vI l yX2_touchesSeal cX2_touchesSeal 3 (some .boolean) 0 0 D (tyF cI cL cP cJ) [.ref o, .int i] [letB cI o h v lie seals folds n f] (fun (r : Int32) (w1 : List va_W) => r = (F_X2_touchesSeal seals i) ∧ w1 = [letB cI o h v lie seals folds n f]) := by
  refine m_start (by decide +kernel) (Nat.le_of_ble_eq_true rfl) (fun p e s m args below meth c A Q hA hQ C hr hlo => ?_)
  refine r_Le (L' := [(0, .ref o), (1, .int i)]) rfl ?_
  refine r_iload_n C dX2_touchesSeal_0 1 rfl ?_
  suffices K : ∀ x2 : Int32, x2 = ((if i = 0 then (1) else ((3 : Int32) <<< ((i - 1) &&& 31)))) → V p l e (rmm 0 0) s m args below meth c 3 D A 0 0 Q [letB cI o h v lie seals folds n f] [(0, .ref o), (1, .int i)] 13 [.int x2] by
    refine r_if_ne (tgt := 8) C dX2_touchesSeal_1 (by decide) (fun c1 => ?_) (fun c1 => ?_)
    · refine r_iconst (v := 3) C dX2_touchesSeal_8 (by decide) ?_
      refine r_iload_n C dX2_touchesSeal_9 1 rfl ?_
      refine r_iconst (v := 1) C dX2_touchesSeal_10 (by decide) ?_
      refine r_isub C dX2_touchesSeal_11 rfl ?_
      refine r_ishl C dX2_touchesSeal_12 rfl ?_
      exact K _ (by simp only [if_neg c1])
    · refine r_iconst (v := 1) C dX2_touchesSeal_4 (by decide) ?_
      refine r_goto (tgt := 13) C dX2_touchesSeal_5 (by decide) ?_
      exact K _ (by simp only [if_pos c1])
  intro x2 e_x2
  refine r_istore_n (L' := [(2, .int x2), (0, .ref o), (1, .int i)]) C dX2_touchesSeal_13 (by decide) rfl ?_
  refine r_aload_n C dX2_touchesSeal_14 1 rfl ?_
  refine r_ws (I' := [[(o, .inr (1, [.ref h, .int lie, .int seals, .int folds]))], [(h, .inr (4, [.ref v, .int n]))], [(v, .inl (cI, 60, .inl f))]]) rfl ?_
  refine r_get (Cn := RX2) (T := TX2) (N := 4) C inT2 0 rfl rfl 2 (by decide) t_62 rfl dX2_touchesSeal_15 ?_
  refine r_iload_n C dX2_touchesSeal_18 0 rfl ?_
  refine r_iand C dX2_touchesSeal_19 rfl ?_
  suffices K : ∀ x4 : Int32, x4 = ((if (seals &&& x2) = 0 then (0) else (1))) → V p l e (rmm 0 0) s m args below meth c 3 D A 0 0 Q [[(o, .inr (1, [.ref h, .int lie, .int seals, .int folds]))], [(h, .inr (4, [.ref v, .int n]))], [(v, .inl (cI, 60, .inl f))]] [(2, .int x2), (0, .ref o), (1, .int i)] 28 [.int x4] by
    refine r_if_eq (tgt := 27) C dX2_touchesSeal_20 (by decide) (fun c3 => ?_) (fun c3 => ?_)
    · refine r_iconst (v := 0) C dX2_touchesSeal_27 (by decide) ?_
      exact K _ (by simp only [if_pos c3])
    · refine r_iconst (v := 1) C dX2_touchesSeal_23 (by decide) ?_
      refine r_goto (tgt := 28) C dX2_touchesSeal_24 (by decide) ?_
      exact K _ (by simp only [if_neg c3])
  intro x4 e_x4
  refine r_ws (I' := [letB cI o h v lie seals folds n f]) rfl ?_
  have eF : F_X2_touchesSeal seals i = x4 := by have q := e_x2.symm; subst q; have q := e_x4.symm; subst q; rfl
  exact r_zret (r := x4) C hA hr hlo (nb01 (by first | (rw [e_x4]; (try dsimp only); ((repeat' split) <;> (first | exact Or.inl rfl | exact Or.inr rfl))) | (have q := e_x2.symm; subst q; have q := e_x4.symm; subst q; (try dsimp only); ((repeat' split) <;> (first | exact Or.inl rfl | exact Or.inr rfl))))) dX2_touchesSeal_28 [letB cI o h v lie seals folds n f] ⟨by simp only [eF], rfl⟩ rfl hQ
theorem k_X2_reasonAgainst : kV yX2_reasonAgainst cX2_reasonAgainst 2 (some .int) 1 := ⟨t_246, t_247, t_9, t_248, by decide +kernel, by decide +kernel, by decide +kernel⟩
set_option maxRecDepth 20000 in
def F_X2_reasonAgainst (seals : Int32) (n : Int32) (i : Int32) : Int32 := let r1 : Int32 := F_X6_isFull n; (if r1 = 0 then (let r3 : Int32 := F_X2_touchesSeal seals i; let x5 : Int32 := (if r3 = 0 then (0) else (2)); x5) else (1))
set_option maxRecDepth 20000 in
set_option maxHeartbeats 8000000 in
theorem m_X2_reasonAgainst (l : Launch) (D : va_G) (cI cL cP cJ : ClassId) (o : Nat) (h : Nat) (v : Nat) (lie : Int32) (seals : Int32) (folds : Int32) (n : Int32) (f : Nat → Int32) (i : Int32) : M vI l yX2_reasonAgainst cX2_reasonAgainst 2 (some .int) 1 22 D (tyF cI cL cP cJ) [.ref o, .int i] [letB cI o h v lie seals folds n f] (fun (r : Int32) (w1 : List va_W) => r = (F_X2_reasonAgainst seals n i) ∧ w1 = [letB cI o h v lie seals folds n f]) := by
  refine m_start (by decide +kernel) (Nat.le_of_ble_eq_true rfl) (fun p e s m args below meth c A Q hA hQ C hr hlo => ?_)
  refine r_Le (L' := [(0, .ref o), (1, .int i)]) rfl ?_
  refine r_aload_n C dX2_reasonAgainst_0 0 rfl ?_
  refine r_ws (I' := [[(o, .inr (1, [.ref h, .int lie, .int seals, .int folds]))], [(h, .inr (4, [.ref v, .int n]))], [(v, .inl (cI, 60, .inl f))]]) rfl ?_
  refine r_get (Cn := RX2) (T := TX2) (N := 4) C inT2 0 rfl rfl 0 (by decide) t_60 rfl dX2_reasonAgainst_1 ?_
  refine r_ws (I' := [[(o, .inr (1, [.ref h, .int lie, .int seals, .int folds]))], rowB cI h v n f]) rfl ?_
  refine r_callV (ci := 4) (wc := [rowB cI h v n f]) (wr := [[(o, .inr (1, [.ref h, .int lie, .int seals, .int folds]))]]) (st := []) C (m_X6_isFull l D cI cL cP cJ h v n f) k_X6_isFull t_249 [1, 0] (show ([1, 0] : List Nat).Perm (List.range 2) by decide) rfl rfl rfl (q0 := 0) rfl rfl rfl (Nat.le_of_ble_eq_true rfl) ⟨Nat.le_of_ble_eq_true rfl, Nat.le_of_ble_eq_true rfl⟩ ⟨Nat.zero_le _, Nat.zero_le _⟩ dX2_reasonAgainst_4 (fun r1 wr1 hw1 => ?_)
  obtain ⟨e_r1, rfl⟩ := hw1
  refine r_ws (I' := [rowB cI h v n f, [(o, .inr (1, [.ref h, .int lie, .int seals, .int folds]))]]) rfl ?_
  refine r_if_eq (tgt := 12) C dX2_reasonAgainst_7 (by decide) (fun c2 => ?_) (fun c2 => ?_)
  · refine r_aload_n C dX2_reasonAgainst_12 0 rfl ?_
    refine r_iload_n C dX2_reasonAgainst_13 1 rfl ?_
    refine r_ws (I' := [[(h, .inr (4, [.ref v, .int n]))], [(v, .inl (cI, 60, .inl f))], [(o, .inr (1, [.ref h, .int lie, .int seals, .int folds]))]]) rfl ?_
    refine r_pl (I' := [[(o, .inr (1, [.ref h, .int lie, .int seals, .int folds]))], [(h, .inr (4, [.ref v, .int n]))], [(v, .inl (cI, 60, .inl f))]]) [2, 0, 1] (show ([2, 0, 1] : List Nat).Perm (List.range 3) by decide) rfl ?_
    refine r_ws (I' := [letB cI o h v lie seals folds n f]) rfl ?_
    refine r_callV (ci := 1) (wc := [letB cI o h v lie seals folds n f]) (wr := []) (st := []) C (m_X2_touchesSeal l D cI cL cP cJ o h v lie seals folds n f i) k_X2_touchesSeal t_253 [0] (show ([0] : List Nat).Perm (List.range 1) by decide) rfl rfl rfl (q0 := 0) rfl rfl rfl (Nat.le_of_ble_eq_true rfl) ⟨Nat.le_of_ble_eq_true rfl, Nat.le_of_ble_eq_true rfl⟩ ⟨Nat.zero_le _, Nat.zero_le _⟩ dX2_reasonAgainst_14 (fun r3 wr3 hw3 => ?_)
    obtain ⟨e_r3, rfl⟩ := hw3
    refine r_ws (I' := [letB cI o h v lie seals folds n f]) rfl ?_
    suffices K : ∀ x5 : Int32, x5 = ((if r3 = 0 then (0) else (2))) → V p l e (rmm 1 22) s m args below meth c 2 D A 0 0 Q [letB cI o h v lie seals folds n f] [(0, .ref o), (1, .int i)] 25 [.int x5] by
      refine r_if_eq (tgt := 24) C dX2_reasonAgainst_17 (by decide) (fun c4 => ?_) (fun c4 => ?_)
      · refine r_iconst (v := 0) C dX2_reasonAgainst_24 (by decide) ?_
        exact K _ (by simp only [if_pos c4])
      · refine r_iconst (v := 2) C dX2_reasonAgainst_20 (by decide) ?_
        refine r_goto (tgt := 25) C dX2_reasonAgainst_21 (by decide) ?_
        exact K _ (by simp only [if_neg c4])
    intro x5 e_x5
    have eF : F_X2_reasonAgainst seals n i = x5 := by have q := e_r1.symm; subst q; have q := e_r3.symm; subst q; have q := e_x5.symm; subst q; simp only [F_X2_reasonAgainst, if_pos c2]
    exact r_iret (r := x5) C hA hr hlo dX2_reasonAgainst_25 [letB cI o h v lie seals folds n f] ⟨by simp only [eF], rfl⟩ rfl hQ
  · refine r_iconst (v := 1) C dX2_reasonAgainst_10 (by decide) ?_
    refine r_ws (I' := [[(h, .inr (4, [.ref v, .int n]))], [(v, .inl (cI, 60, .inl f))], [(o, .inr (1, [.ref h, .int lie, .int seals, .int folds]))]]) rfl ?_
    refine r_pl (I' := [[(o, .inr (1, [.ref h, .int lie, .int seals, .int folds]))], [(h, .inr (4, [.ref v, .int n]))], [(v, .inl (cI, 60, .inl f))]]) [2, 0, 1] (show ([2, 0, 1] : List Nat).Perm (List.range 3) by decide) rfl ?_
    refine r_ws (I' := [letB cI o h v lie seals folds n f]) rfl ?_
    have eF : F_X2_reasonAgainst seals n i = 1 := by have q := e_r1.symm; subst q; simp only [F_X2_reasonAgainst, if_neg c2]
    exact r_iret (r := 1) C hA hr hlo dX2_reasonAgainst_11 [letB cI o h v lie seals folds n f] ⟨by simp only [eF], rfl⟩ rfl hQ
theorem k_X2_foldOver : kV yX2_foldOver cX2_foldOver 2 none 1 := ⟨t_563, t_564, t_9, t_565, by decide +kernel, by decide +kernel, by decide +kernel⟩
set_option maxRecDepth 20000 in
def F_X2_foldOver (lie : Int32) (folds : Int32) (n : Int32) (f : Nat → Int32) (i : Int32) : Int32 × Int32 × Int32 × (Nat → Int32) := let r1 : Int32 := F_X3_folded lie i; let x2 : Int32 := folds + 1; let x5 : Int32 := (F_X6_add n f i).1; let g6 : Nat → Int32 := (F_X6_add n f i).2; (r1, x2, x5, g6)
set_option maxRecDepth 20000 in
def P_X2_foldOver (lie : Int32) (folds : Int32) (n : Int32) (i : Int32) : Prop := (∀ r1 : Int32, r1 = F_X3_folded lie i → (∀ x2 : Int32, x2 = folds + 1 → (P_X6_add n)))
set_option maxRecDepth 20000 in
set_option maxHeartbeats 8000000 in
theorem m_X2_foldOver (l : Launch) (D : va_G) (cI cL cP cJ : ClassId) (o : Nat) (h : Nat) (v : Nat) (lie : Int32) (seals : Int32) (folds : Int32) (n : Int32) (f : Nat → Int32) (i : Int32) (hp : P_X2_foldOver lie folds n i) : M vV l yX2_foldOver cX2_foldOver 2 none 1 24 D (tyF cI cL cP cJ) [.ref o, .int i] [letB cI o h v lie seals folds n f] (fun (r : Unit) (w1 : List va_W) => w1 = [letB cI o h v ((F_X2_foldOver lie folds n f i).1) seals ((F_X2_foldOver lie folds n f i).2.1) ((F_X2_foldOver lie folds n f i).2.2.1) ((F_X2_foldOver lie folds n f i).2.2.2)]) := by
  unfold P_X2_foldOver at hp
  refine m_start (by decide +kernel) (Nat.le_of_ble_eq_true rfl) (fun p e s m args below meth c A Q hA hQ C hr hlo => ?_)
  refine r_Le (L' := [(0, .ref o), (1, .int i)]) rfl ?_
  refine r_aload_n C dX2_foldOver_0 0 rfl ?_
  refine r_aload_n C dX2_foldOver_1 0 rfl ?_
  refine r_ws (I' := [[(o, .inr (1, [.ref h, .int lie, .int seals, .int folds]))], [(h, .inr (4, [.ref v, .int n]))], [(v, .inl (cI, 60, .inl f))]]) rfl ?_
  refine r_get (Cn := RX2) (T := TX2) (N := 4) C inT2 0 rfl rfl 1 (by decide) t_61 rfl dX2_foldOver_2 ?_
  refine r_iload_n C dX2_foldOver_5 1 rfl ?_
  refine r_callS (wc := []) (wr := [[(o, .inr (1, [.ref h, .int lie, .int seals, .int folds]))], [(h, .inr (4, [.ref v, .int n]))], [(v, .inl (cI, 60, .inl f))]]) (st := [.ref o]) C (m_X3_folded l D cI cL cP cJ lie i) k_X3_folded t_566 [0, 1, 2] (show ([0, 1, 2] : List Nat).Perm (List.range 3) by decide) rfl rfl rfl (Nat.le_of_ble_eq_true rfl) ⟨Nat.le_of_ble_eq_true rfl, Nat.le_of_ble_eq_true rfl⟩ ⟨Nat.zero_le _, Nat.zero_le _⟩ dX2_foldOver_6 (fun r1 wr1 hw1 => ?_)
  obtain ⟨e_r1, rfl⟩ := hw1
  have hp := hp r1 e_r1
  refine r_ws (I' := [[(o, .inr (1, [.ref h, .int lie, .int seals, .int folds]))], [(h, .inr (4, [.ref v, .int n]))], [(v, .inl (cI, 60, .inl f))]]) rfl ?_
  refine r_put (Cn := RX2) (T := TX2) (N := 4) C inT2 0 rfl rfl 1 (by decide) t_61 tyX2 tyX2_ok nmX2 rfl rfl rfl (Nat.le_of_ble_eq_true rfl) (I' := [[(o, .inr (1, [.ref h, .int r1, .int seals, .int folds]))], [(h, .inr (4, [.ref v, .int n]))], [(v, .inl (cI, 60, .inl f))]]) rfl dX2_foldOver_9 ?_
  refine r_aload_n C dX2_foldOver_12 0 rfl ?_
  refine r_dup C dX2_foldOver_13 rfl ?_
  refine r_get (Cn := RX2) (T := TX2) (N := 4) C inT2 0 rfl rfl 3 (by decide) t_63 rfl dX2_foldOver_14 ?_
  refine r_iconst (v := 1) C dX2_foldOver_17 (by decide) ?_
  refine r_iadd C dX2_foldOver_18 rfl ?_
  refine r_top (fun x2 e_x2 => ?_)
  have hp := hp x2 e_x2
  refine r_put (Cn := RX2) (T := TX2) (N := 4) C inT2 0 rfl rfl 3 (by decide) t_63 tyX2 tyX2_ok nmX2 rfl rfl rfl (Nat.le_of_ble_eq_true rfl) (I' := [[(o, .inr (1, [.ref h, .int r1, .int seals, .int x2]))], [(h, .inr (4, [.ref v, .int n]))], [(v, .inl (cI, 60, .inl f))]]) rfl dX2_foldOver_19 ?_
  refine r_aload_n C dX2_foldOver_22 0 rfl ?_
  refine r_get (Cn := RX2) (T := TX2) (N := 4) C inT2 0 rfl rfl 0 (by decide) t_60 rfl dX2_foldOver_23 ?_
  refine r_iload_n C dX2_foldOver_26 1 rfl ?_
  refine r_ws (I' := [[(o, .inr (1, [.ref h, .int r1, .int seals, .int x2]))], rowB cI h v n f]) rfl ?_
  have h3 := hp
  refine r_callV (ci := 4) (wc := [rowB cI h v n f]) (wr := [[(o, .inr (1, [.ref h, .int r1, .int seals, .int x2]))]]) (st := []) C (m_X6_add l D cI cL cP cJ h v n f i h3) k_X6_add t_567 [1, 0] (show ([1, 0] : List Nat).Perm (List.range 2) by decide) rfl rfl rfl (q0 := 0) rfl rfl rfl (Nat.le_of_ble_eq_true rfl) ⟨Nat.le_of_ble_eq_true rfl, Nat.le_of_ble_eq_true rfl⟩ ⟨Nat.zero_le _, Nat.zero_le _⟩ dX2_foldOver_27 (fun r4 wr4 hw4 => ?_)
  obtain rfl := hw4
  obtain ⟨x5, e_x5⟩ : ∃ z : Int32, z = (F_X6_add n f i).1 := ⟨_, rfl⟩
  obtain ⟨g6, e_g6⟩ : ∃ z : Nat → Int32, z = (F_X6_add n f i).2 := ⟨_, rfl⟩
  refine r_ws (I' := [rowB cI h v x5 g6, [(o, .inr (1, [.ref h, .int r1, .int seals, .int x2]))]]) (by rw [e_x5, e_g6]; rfl) ?_
  refine r_ws (I' := [[(h, .inr (4, [.ref v, .int x5]))], [(v, .inl (cI, 60, .inl g6))], [(o, .inr (1, [.ref h, .int r1, .int seals, .int x2]))]]) rfl ?_
  refine r_pl (I' := [[(o, .inr (1, [.ref h, .int r1, .int seals, .int x2]))], [(h, .inr (4, [.ref v, .int x5]))], [(v, .inl (cI, 60, .inl g6))]]) [2, 0, 1] (show ([2, 0, 1] : List Nat).Perm (List.range 3) by decide) rfl ?_
  refine r_ws (I' := [letB cI o h v r1 seals x2 x5 g6]) rfl ?_
  have eF : F_X2_foldOver lie folds n f i = (r1, x2, x5, g6) := by have q := e_r1.symm; subst q; have q := e_x2.symm; subst q; have q := e_x5.symm; subst q; have q := e_g6.symm; subst q; rfl
  exact r_vret (r := ()) C hA hr hlo dX2_foldOver_30 [letB cI o h v r1 seals x2 x5 g6] (by simp only [eF]) rfl hQ
theorem k_X2_takeBack : kV yX2_takeBack cX2_takeBack 2 none 1 := ⟨t_581, t_582, t_9, t_583, by decide +kernel, by decide +kernel, by decide +kernel⟩
set_option maxRecDepth 20000 in
def F_X2_takeBack (lie : Int32) (folds : Int32) (n : Int32) (i : Int32) : Int32 × Int32 × Int32 := let r1 : Int32 := F_X3_folded lie i; let x2 : Int32 := folds + 1; let x4 : Int32 := F_X6_dropLast n; (r1, x2, x4)
set_option maxRecDepth 20000 in
set_option maxHeartbeats 8000000 in
theorem m_X2_takeBack (l : Launch) (D : va_G) (cI cL cP cJ : ClassId) (o : Nat) (h : Nat) (v : Nat) (lie : Int32) (seals : Int32) (folds : Int32) (n : Int32) (f : Nat → Int32) (i : Int32) : M vV l yX2_takeBack cX2_takeBack 2 none 1 24 D (tyF cI cL cP cJ) [.ref o, .int i] [letB cI o h v lie seals folds n f] (fun (r : Unit) (w1 : List va_W) => w1 = [letB cI o h v ((F_X2_takeBack lie folds n i).1) seals ((F_X2_takeBack lie folds n i).2.1) ((F_X2_takeBack lie folds n i).2.2) f]) := by
  refine m_start (by decide +kernel) (Nat.le_of_ble_eq_true rfl) (fun p e s m args below meth c A Q hA hQ C hr hlo => ?_)
  refine r_Le (L' := [(0, .ref o), (1, .int i)]) rfl ?_
  refine r_aload_n C dX2_takeBack_0 0 rfl ?_
  refine r_aload_n C dX2_takeBack_1 0 rfl ?_
  refine r_ws (I' := [[(o, .inr (1, [.ref h, .int lie, .int seals, .int folds]))], [(h, .inr (4, [.ref v, .int n]))], [(v, .inl (cI, 60, .inl f))]]) rfl ?_
  refine r_get (Cn := RX2) (T := TX2) (N := 4) C inT2 0 rfl rfl 1 (by decide) t_61 rfl dX2_takeBack_2 ?_
  refine r_iload_n C dX2_takeBack_5 1 rfl ?_
  refine r_callS (wc := []) (wr := [[(o, .inr (1, [.ref h, .int lie, .int seals, .int folds]))], [(h, .inr (4, [.ref v, .int n]))], [(v, .inl (cI, 60, .inl f))]]) (st := [.ref o]) C (m_X3_folded l D cI cL cP cJ lie i) k_X3_folded t_566 [0, 1, 2] (show ([0, 1, 2] : List Nat).Perm (List.range 3) by decide) rfl rfl rfl (Nat.le_of_ble_eq_true rfl) ⟨Nat.le_of_ble_eq_true rfl, Nat.le_of_ble_eq_true rfl⟩ ⟨Nat.zero_le _, Nat.zero_le _⟩ dX2_takeBack_6 (fun r1 wr1 hw1 => ?_)
  obtain ⟨e_r1, rfl⟩ := hw1
  refine r_ws (I' := [[(o, .inr (1, [.ref h, .int lie, .int seals, .int folds]))], [(h, .inr (4, [.ref v, .int n]))], [(v, .inl (cI, 60, .inl f))]]) rfl ?_
  refine r_put (Cn := RX2) (T := TX2) (N := 4) C inT2 0 rfl rfl 1 (by decide) t_61 tyX2 tyX2_ok nmX2 rfl rfl rfl (Nat.le_of_ble_eq_true rfl) (I' := [[(o, .inr (1, [.ref h, .int r1, .int seals, .int folds]))], [(h, .inr (4, [.ref v, .int n]))], [(v, .inl (cI, 60, .inl f))]]) rfl dX2_takeBack_9 ?_
  refine r_aload_n C dX2_takeBack_12 0 rfl ?_
  refine r_dup C dX2_takeBack_13 rfl ?_
  refine r_get (Cn := RX2) (T := TX2) (N := 4) C inT2 0 rfl rfl 3 (by decide) t_63 rfl dX2_takeBack_14 ?_
  refine r_iconst (v := 1) C dX2_takeBack_17 (by decide) ?_
  refine r_iadd C dX2_takeBack_18 rfl ?_
  refine r_top (fun x2 e_x2 => ?_)
  refine r_put (Cn := RX2) (T := TX2) (N := 4) C inT2 0 rfl rfl 3 (by decide) t_63 tyX2 tyX2_ok nmX2 rfl rfl rfl (Nat.le_of_ble_eq_true rfl) (I' := [[(o, .inr (1, [.ref h, .int r1, .int seals, .int x2]))], [(h, .inr (4, [.ref v, .int n]))], [(v, .inl (cI, 60, .inl f))]]) rfl dX2_takeBack_19 ?_
  refine r_aload_n C dX2_takeBack_22 0 rfl ?_
  refine r_get (Cn := RX2) (T := TX2) (N := 4) C inT2 0 rfl rfl 0 (by decide) t_60 rfl dX2_takeBack_23 ?_
  refine r_ws (I' := [[(o, .inr (1, [.ref h, .int r1, .int seals, .int x2]))], rowB cI h v n f]) rfl ?_
  refine r_callV (ci := 4) (wc := [rowB cI h v n f]) (wr := [[(o, .inr (1, [.ref h, .int r1, .int seals, .int x2]))]]) (st := []) C (m_X6_dropLast l D cI cL cP cJ h v n f) k_X6_dropLast t_584 [1, 0] (show ([1, 0] : List Nat).Perm (List.range 2) by decide) rfl rfl rfl (q0 := 0) rfl rfl rfl (Nat.le_of_ble_eq_true rfl) ⟨Nat.le_of_ble_eq_true rfl, Nat.le_of_ble_eq_true rfl⟩ ⟨Nat.zero_le _, Nat.zero_le _⟩ dX2_takeBack_26 (fun r3 wr3 hw3 => ?_)
  obtain rfl := hw3
  obtain ⟨x4, e_x4⟩ : ∃ z : Int32, z = F_X6_dropLast n := ⟨_, rfl⟩
  refine r_ws (I' := [rowB cI h v x4 f, [(o, .inr (1, [.ref h, .int r1, .int seals, .int x2]))]]) (by rw [e_x4]; rfl) ?_
  refine r_ws (I' := [[(h, .inr (4, [.ref v, .int x4]))], [(v, .inl (cI, 60, .inl f))], [(o, .inr (1, [.ref h, .int r1, .int seals, .int x2]))]]) rfl ?_
  refine r_pl (I' := [[(o, .inr (1, [.ref h, .int r1, .int seals, .int x2]))], [(h, .inr (4, [.ref v, .int x4]))], [(v, .inl (cI, 60, .inl f))]]) [2, 0, 1] (show ([2, 0, 1] : List Nat).Perm (List.range 3) by decide) rfl ?_
  refine r_ws (I' := [letB cI o h v r1 seals x2 x4 f]) rfl ?_
  have eF : F_X2_takeBack lie folds n i = (r1, x2, x4) := by have q := e_r1.symm; subst q; have q := e_x2.symm; subst q; have q := e_x4.symm; subst q; rfl
  exact r_vret (r := ()) C hA hr hlo dX2_takeBack_29 [letB cI o h v r1 seals x2 x4 f] (by simp only [eF]) rfl hQ
theorem k_X2_rememberLeastWord : kV yX2_rememberLeastWord cX2_rememberLeastWord 3 none 0 := ⟨t_593, t_594, t_9, t_595, by decide +kernel, by decide +kernel, by decide +kernel⟩
def F_X2_rememberLeastWord_L17 (r1 : Int32) (lie : Int32) : Nat → Int32 → (Nat → Int32) → Int32 → Int32 × (Nat → Int32) × Int32
  | 0, y4, k5, y6 => (y4, k5, y6)
  | nn + 1, y4, k5, y6 => (if r1 ≤ y6 then ((y4, k5, y6)) else (let r9 : Int32 := F_X3_leastCrease lie y6; let x12 : Int32 := (F_X6_add y4 k5 r9).1; let g13 : Nat → Int32 := (F_X6_add y4 k5 r9).2; let x14 : Int32 := y6 + 1; F_X2_rememberLeastWord_L17 r1 lie nn x12 g13 x14))
def P_X2_rememberLeastWord_L17 (r1 : Int32) (lie : Int32) : Nat → Int32 → (Nat → Int32) → Int32 → Prop
  | 0, _, _, _ => False
  | nn + 1, y4, k5, y6 => ((r1 ≤ y6 → True) ∧ (¬ r1 ≤ y6 → ((P_X3_leastCrease lie y6) ∧ (∀ r9 : Int32, r9 = F_X3_leastCrease lie y6 → ((P_X6_add y4) ∧ (∀ x12 : Int32, x12 = (F_X6_add y4 k5 r9).1 → (∀ g13 : Nat → Int32, g13 = (F_X6_add y4 k5 r9).2 → (∀ x14 : Int32, x14 = y6 + 1 → (P_X2_rememberLeastWord_L17 r1 lie nn x12 g13 x14)))))))))
set_option maxRecDepth 20000 in
def F_X2_rememberLeastWord (lie : Int32) (f : Nat → Int32) : Int32 × (Nat → Int32) := let r1 : Int32 := F_X3_length lie; let x3 : Int32 := F_X6_clear ; let z15 : Int32 := (F_X2_rememberLeastWord_L17 r1 lie 17 x3 f 0).1; let f16 : Nat → Int32 := (F_X2_rememberLeastWord_L17 r1 lie 17 x3 f 0).2.1; (z15, f16)
set_option maxRecDepth 20000 in
def P_X2_rememberLeastWord (lie : Int32) (f : Nat → Int32) : Prop := (∀ r1 : Int32, r1 = F_X3_length lie → (∀ x3 : Int32, x3 = F_X6_clear  → (P_X2_rememberLeastWord_L17 r1 lie 17 x3 f 0)))
set_option maxRecDepth 20000 in
set_option maxHeartbeats 8000000 in
theorem m_X2_rememberLeastWord (l : Launch) (D : va_G) (cI cL cP cJ : ClassId) (o : Nat) (h : Nat) (v : Nat) (lie : Int32) (seals : Int32) (folds : Int32) (n : Int32) (f : Nat → Int32) (hp : P_X2_rememberLeastWord lie f) : M vV l yX2_rememberLeastWord cX2_rememberLeastWord 3 none 4 88 D (tyF cI cL cP cJ) [.ref o] [letB cI o h v lie seals folds n f] (fun (r : Unit) (w1 : List va_W) => w1 = [letB cI o h v lie seals folds ((F_X2_rememberLeastWord lie f).1) ((F_X2_rememberLeastWord lie f).2)]) := by
  unfold P_X2_rememberLeastWord at hp
  refine m_start (by decide +kernel) (Nat.le_of_ble_eq_true rfl) (fun p e s m args below meth c A Q hA hQ C hr hlo => ?_)
  refine r_Le (L' := [(0, .ref o)]) rfl ?_
  refine r_aload_n C dX2_rememberLeastWord_0 0 rfl ?_
  refine r_ws (I' := [[(o, .inr (1, [.ref h, .int lie, .int seals, .int folds]))], [(h, .inr (4, [.ref v, .int n]))], [(v, .inl (cI, 60, .inl f))]]) rfl ?_
  refine r_get (Cn := RX2) (T := TX2) (N := 4) C inT2 0 rfl rfl 1 (by decide) t_61 rfl dX2_rememberLeastWord_1 ?_
  refine r_callS (wc := []) (wr := [[(o, .inr (1, [.ref h, .int lie, .int seals, .int folds]))], [(h, .inr (4, [.ref v, .int n]))], [(v, .inl (cI, 60, .inl f))]]) (st := []) C (m_X3_length l D cI cL cP cJ lie) k_X3_length t_193 [0, 1, 2] (show ([0, 1, 2] : List Nat).Perm (List.range 3) by decide) rfl rfl rfl (Nat.le_of_ble_eq_true rfl) ⟨Nat.le_of_ble_eq_true rfl, Nat.le_of_ble_eq_true rfl⟩ ⟨Nat.zero_le _, Nat.zero_le _⟩ dX2_rememberLeastWord_4 (fun r1 wr1 hw1 => ?_)
  obtain ⟨e_r1, rfl⟩ := hw1
  have hp := hp r1 e_r1
  refine r_ws (I' := [[(o, .inr (1, [.ref h, .int lie, .int seals, .int folds]))], [(h, .inr (4, [.ref v, .int n]))], [(v, .inl (cI, 60, .inl f))]]) rfl ?_
  refine r_istore_n (L' := [(1, .int r1), (0, .ref o)]) C dX2_rememberLeastWord_7 (by decide) rfl ?_
  refine r_aload_n C dX2_rememberLeastWord_8 1 rfl ?_
  refine r_get (Cn := RX2) (T := TX2) (N := 4) C inT2 0 rfl rfl 0 (by decide) t_60 rfl dX2_rememberLeastWord_9 ?_
  refine r_ws (I' := [[(o, .inr (1, [.ref h, .int lie, .int seals, .int folds]))], rowB cI h v n f]) rfl ?_
  refine r_callV (ci := 4) (wc := [rowB cI h v n f]) (wr := [[(o, .inr (1, [.ref h, .int lie, .int seals, .int folds]))]]) (st := []) C (m_X6_clear l D cI cL cP cJ h v n f) k_X6_clear t_596 [1, 0] (show ([1, 0] : List Nat).Perm (List.range 2) by decide) rfl rfl rfl (q0 := 0) rfl rfl rfl (Nat.le_of_ble_eq_true rfl) ⟨Nat.le_of_ble_eq_true rfl, Nat.le_of_ble_eq_true rfl⟩ ⟨Nat.zero_le _, Nat.zero_le _⟩ dX2_rememberLeastWord_12 (fun r2 wr2 hw2 => ?_)
  obtain rfl := hw2
  obtain ⟨x3, e_x3⟩ : ∃ z : Int32, z = F_X6_clear  := ⟨_, rfl⟩
  have hp := hp x3 e_x3
  refine r_ws (I' := [rowB cI h v x3 f, [(o, .inr (1, [.ref h, .int lie, .int seals, .int folds]))]]) (by rw [e_x3]; rfl) ?_
  refine r_iconst (v := 0) C dX2_rememberLeastWord_15 (by decide) ?_
  refine r_istore_n (L' := [(2, .int 0), (1, .int r1), (0, .ref o)]) C dX2_rememberLeastWord_16 (by decide) rfl ?_
  have hpl := hp
  have hL : ∀ (nn : Nat) (y4 : Int32) (k5 : Nat → Int32) (y6 : Int32), P_X2_rememberLeastWord_L17 r1 lie nn y4 k5 y6 → (∀ z15 : Int32, z15 = (F_X2_rememberLeastWord_L17 r1 lie nn y4 k5 y6).1 → ∀ f16 : Nat → Int32, f16 = (F_X2_rememberLeastWord_L17 r1 lie nn y4 k5 y6).2.1 → ∀ z17 : Int32, z17 = (F_X2_rememberLeastWord_L17 r1 lie nn y4 k5 y6).2.2 → V p l e (rmm 4 88) s m args below meth c 3 D A 0 0 Q [rowB cI h v z15 f16, [(o, .inr (1, [.ref h, .int lie, .int seals, .int folds]))]] [(2, .int z17), (1, .int r1), (0, .ref o)] 43 []) → V p l e (rmm 4 88) s m args below meth c 3 D A 0 0 Q [rowB cI h v y4 k5, [(o, .inr (1, [.ref h, .int lie, .int seals, .int folds]))]] [(2, .int y6), (1, .int r1), (0, .ref o)] 17 [] := by
    clear hpl
    intro nn
    induction nn with
    | zero => intro y4 k5 y6 hp kk; rw [P_X2_rememberLeastWord_L17] at hp; exact hp.elim
    | succ nn ih =>
      intro y4 k5 y6 hp kk
      rw [P_X2_rememberLeastWord_L17] at hp
      refine r_iload_n C dX2_rememberLeastWord_17 0 rfl ?_
      refine r_iload_n C dX2_rememberLeastWord_18 1 rfl ?_
      refine r_icmp_ge (tgt := 43) C dX2_rememberLeastWord_19 (by decide) (fun c7 => ?_) (fun c7 => ?_)
      · have eF : F_X2_rememberLeastWord_L17 r1 lie (nn + 1) y4 k5 y6 = (y4, k5, y6) := by simp only [F_X2_rememberLeastWord_L17, if_pos c7]
        exact kk _ (by rw [eF]) _ (by rw [eF]) _ (by rw [eF])
      · have hp := hp.2 c7
        refine r_aload_n C dX2_rememberLeastWord_22 2 rfl ?_
        refine r_get (Cn := RX2) (T := TX2) (N := 4) C inT2 1 rfl rfl 0 (by decide) t_60 rfl dX2_rememberLeastWord_23 ?_
        refine r_aload_n C dX2_rememberLeastWord_26 2 rfl ?_
        refine r_get (Cn := RX2) (T := TX2) (N := 4) C inT2 1 rfl rfl 1 (by decide) t_61 rfl dX2_rememberLeastWord_27 ?_
        refine r_iload_n C dX2_rememberLeastWord_30 0 rfl ?_
        obtain ⟨h8, hp⟩ := hp
        refine r_callS (wc := []) (wr := [rowB cI h v y4 k5, [(o, .inr (1, [.ref h, .int lie, .int seals, .int folds]))]]) (st := [.ref h]) C (m_X3_leastCrease l D cI cL cP cJ lie y6 h8) k_X3_leastCrease t_597 [0, 1] (show ([0, 1] : List Nat).Perm (List.range 2) by decide) rfl rfl rfl (Nat.le_of_ble_eq_true rfl) ⟨Nat.le_of_ble_eq_true rfl, Nat.le_of_ble_eq_true rfl⟩ ⟨Nat.zero_le _, Nat.zero_le _⟩ dX2_rememberLeastWord_31 (fun r9 wr9 hw9 => ?_)
        obtain ⟨e_r9, rfl⟩ := hw9
        have hp := hp r9 e_r9
        refine r_ws (I' := [rowB cI h v y4 k5, [(o, .inr (1, [.ref h, .int lie, .int seals, .int folds]))]]) rfl ?_
        obtain ⟨h10, hp⟩ := hp
        refine r_callV (ci := 4) (wc := [rowB cI h v y4 k5]) (wr := [[(o, .inr (1, [.ref h, .int lie, .int seals, .int folds]))]]) (st := []) C (m_X6_add l D cI cL cP cJ h v y4 k5 r9 h10) k_X6_add t_567 [0, 1] (show ([0, 1] : List Nat).Perm (List.range 2) by decide) rfl rfl rfl (q0 := 0) rfl rfl rfl (Nat.le_of_ble_eq_true rfl) ⟨Nat.le_of_ble_eq_true rfl, Nat.le_of_ble_eq_true rfl⟩ ⟨Nat.zero_le _, Nat.zero_le _⟩ dX2_rememberLeastWord_34 (fun r11 wr11 hw11 => ?_)
        obtain rfl := hw11
        obtain ⟨x12, e_x12⟩ : ∃ z : Int32, z = (F_X6_add y4 k5 r9).1 := ⟨_, rfl⟩
        have hp := hp x12 e_x12
        obtain ⟨g13, e_g13⟩ : ∃ z : Nat → Int32, z = (F_X6_add y4 k5 r9).2 := ⟨_, rfl⟩
        have hp := hp g13 e_g13
        refine r_ws (I' := [rowB cI h v x12 g13, [(o, .inr (1, [.ref h, .int lie, .int seals, .int folds]))]]) (by rw [e_x12, e_g13]; rfl) ?_
        obtain ⟨x14, e_x14⟩ : ∃ z : Int32, z = y6 + 1 := ⟨_, rfl⟩
        have hp := hp x14 e_x14
        refine r_iinc (v := x14) (L' := [(2, .int x14), (1, .int r1), (0, .ref o)]) C dX2_rememberLeastWord_37 0 rfl (by rw [e_x14]; exact ii (by decide)) (by decide) rfl ?_
        refine r_goto (tgt := 17) C dX2_rememberLeastWord_40 (by decide) ?_
        have eF : F_X2_rememberLeastWord_L17 r1 lie (nn + 1) y4 k5 y6 = F_X2_rememberLeastWord_L17 r1 lie nn x12 g13 x14 := by have q := e_r9.symm; subst q; have q := e_x12.symm; subst q; have q := e_g13.symm; subst q; have q := e_x14.symm; subst q; simp only [F_X2_rememberLeastWord_L17, if_neg c7]
        exact ih x12 g13 x14 hp (fun z15 e_z15 f16 e_f16 z17 e_z17 => kk z15 (by rw [eF]; exact e_z15) f16 (by rw [eF]; exact e_f16) z17 (by rw [eF]; exact e_z17))
  refine hL 17 x3 f 0 hpl (fun z15 e_z15 f16 e_f16 z17 e_z17 => ?_)
  clear hL hpl
  refine r_ws (I' := [[(h, .inr (4, [.ref v, .int z15]))], [(v, .inl (cI, 60, .inl f16))], [(o, .inr (1, [.ref h, .int lie, .int seals, .int folds]))]]) rfl ?_
  refine r_pl (I' := [[(o, .inr (1, [.ref h, .int lie, .int seals, .int folds]))], [(h, .inr (4, [.ref v, .int z15]))], [(v, .inl (cI, 60, .inl f16))]]) [2, 0, 1] (show ([2, 0, 1] : List Nat).Perm (List.range 3) by decide) rfl ?_
  refine r_ws (I' := [letB cI o h v lie seals folds z15 f16]) rfl ?_
  have eF : F_X2_rememberLeastWord lie f = (z15, f16) := by have q := e_r1.symm; subst q; have q := e_x3.symm; subst q; have q := e_z15.symm; subst q; have q := e_f16.symm; subst q; have q := e_z17.symm; subst q; rfl
  exact r_vret (r := ()) C hA hr hlo dX2_rememberLeastWord_43 [letB cI o h v lie seals folds z15 f16] (by simp only [eF]) rfl hQ
theorem k_X2_layAfresh : kV yX2_layAfresh cX2_layAfresh 2 none 1 := ⟨t_603, t_604, t_9, t_605, by decide +kernel, by decide +kernel, by decide +kernel⟩
set_option maxRecDepth 20000 in
def F_X2_layAfresh (f : Nat → Int32) (i : Int32) : Int32 × Int32 × Int32 × (Nat → Int32) := let x3 : Int32 := (F_X2_rememberLeastWord i f).1; let g4 : Nat → Int32 := (F_X2_rememberLeastWord i f).2; (i, 0, x3, g4)
set_option maxRecDepth 20000 in
def P_X2_layAfresh (f : Nat → Int32) (i : Int32) : Prop := (P_X2_rememberLeastWord i f)
set_option maxRecDepth 20000 in
set_option maxHeartbeats 8000000 in
theorem m_X2_layAfresh (l : Launch) (D : va_G) (cI cL cP cJ : ClassId) (o : Nat) (h : Nat) (v : Nat) (lie : Int32) (seals : Int32) (folds : Int32) (n : Int32) (f : Nat → Int32) (i : Int32) (hp : P_X2_layAfresh f i) : M vV l yX2_layAfresh cX2_layAfresh 2 none 5 110 D (tyF cI cL cP cJ) [.ref o, .int i] [letB cI o h v lie seals folds n f] (fun (r : Unit) (w1 : List va_W) => w1 = [letB cI o h v ((F_X2_layAfresh f i).1) ((F_X2_layAfresh f i).2.1) folds ((F_X2_layAfresh f i).2.2.1) ((F_X2_layAfresh f i).2.2.2)]) := by
  unfold P_X2_layAfresh at hp
  refine m_start (by decide +kernel) (Nat.le_of_ble_eq_true rfl) (fun p e s m args below meth c A Q hA hQ C hr hlo => ?_)
  refine r_Le (L' := [(0, .ref o), (1, .int i)]) rfl ?_
  refine r_aload_n C dX2_layAfresh_0 0 rfl ?_
  refine r_iload_n C dX2_layAfresh_1 1 rfl ?_
  refine r_ws (I' := [[(o, .inr (1, [.ref h, .int lie, .int seals, .int folds]))], [(h, .inr (4, [.ref v, .int n]))], [(v, .inl (cI, 60, .inl f))]]) rfl ?_
  refine r_put (Cn := RX2) (T := TX2) (N := 4) C inT2 0 rfl rfl 1 (by decide) t_61 tyX2 tyX2_ok nmX2 rfl rfl rfl (Nat.le_of_ble_eq_true rfl) (I' := [[(o, .inr (1, [.ref h, .int i, .int seals, .int folds]))], [(h, .inr (4, [.ref v, .int n]))], [(v, .inl (cI, 60, .inl f))]]) rfl dX2_layAfresh_2 ?_
  refine r_aload_n C dX2_layAfresh_5 0 rfl ?_
  refine r_iconst (v := 0) C dX2_layAfresh_6 (by decide) ?_
  refine r_put (Cn := RX2) (T := TX2) (N := 4) C inT2 0 rfl rfl 2 (by decide) t_62 tyX2 tyX2_ok nmX2 rfl rfl rfl (Nat.le_of_ble_eq_true rfl) (I' := [[(o, .inr (1, [.ref h, .int i, .int 0, .int folds]))], [(h, .inr (4, [.ref v, .int n]))], [(v, .inl (cI, 60, .inl f))]]) rfl dX2_layAfresh_7 ?_
  refine r_aload_n C dX2_layAfresh_10 0 rfl ?_
  refine r_ws (I' := [letB cI o h v i 0 folds n f]) rfl ?_
  have h1 := hp
  refine r_callV (ci := 1) (wc := [letB cI o h v i 0 folds n f]) (wr := []) (st := []) C (m_X2_rememberLeastWord l D cI cL cP cJ o h v i 0 folds n f h1) k_X2_rememberLeastWord t_606 [0] (show ([0] : List Nat).Perm (List.range 1) by decide) rfl rfl rfl (q0 := 0) rfl rfl rfl (Nat.le_of_ble_eq_true rfl) ⟨Nat.le_of_ble_eq_true rfl, Nat.le_of_ble_eq_true rfl⟩ ⟨Nat.zero_le _, Nat.zero_le _⟩ dX2_layAfresh_11 (fun r2 wr2 hw2 => ?_)
  obtain rfl := hw2
  obtain ⟨x3, e_x3⟩ : ∃ z : Int32, z = (F_X2_rememberLeastWord i f).1 := ⟨_, rfl⟩
  obtain ⟨g4, e_g4⟩ : ∃ z : Nat → Int32, z = (F_X2_rememberLeastWord i f).2 := ⟨_, rfl⟩
  refine r_ws (I' := [letB cI o h v i 0 folds x3 g4]) (by rw [e_x3, e_g4]; rfl) ?_
  have eF : F_X2_layAfresh f i = (i, 0, x3, g4) := by have q := e_x3.symm; subst q; have q := e_g4.symm; subst q; rfl
  exact r_vret (r := ()) C hA hr hlo dX2_layAfresh_14 [letB cI o h v i 0 folds x3 g4] (by simp only [eF]) rfl hQ
theorem k_X2_isSealed : kV yX2_isSealed cX2_isSealed 2 (some .boolean) 1 := ⟨t_622, t_623, t_9, t_624, by decide +kernel, by decide +kernel, by decide +kernel⟩
set_option maxRecDepth 20000 in
def F_X2_isSealed (seals : Int32) (i : Int32) : Int32 := let x2 : Int32 := (if ((seals >>> (i &&& 31)) &&& 1) = 1 then (1) else (0)); x2
set_option maxRecDepth 20000 in
set_option maxHeartbeats 8000000 in
theorem m_X2_isSealed (l : Launch) (D : va_G) (cI cL cP cJ : ClassId) (o : Nat) (h : Nat) (v : Nat) (lie : Int32) (seals : Int32) (folds : Int32) (n : Int32) (f : Nat → Int32) (i : Int32) : M vI l yX2_isSealed cX2_isSealed 2 (some .boolean) 0 0 D (tyF cI cL cP cJ) [.ref o, .int i] [letB cI o h v lie seals folds n f] (fun (r : Int32) (w1 : List va_W) => r = (F_X2_isSealed seals i) ∧ w1 = [letB cI o h v lie seals folds n f]) := by
  refine m_start (by decide +kernel) (Nat.le_of_ble_eq_true rfl) (fun p e s m args below meth c A Q hA hQ C hr hlo => ?_)
  refine r_Le (L' := [(0, .ref o), (1, .int i)]) rfl ?_
  refine r_aload_n C dX2_isSealed_0 0 rfl ?_
  refine r_ws (I' := [[(o, .inr (1, [.ref h, .int lie, .int seals, .int folds]))], [(h, .inr (4, [.ref v, .int n]))], [(v, .inl (cI, 60, .inl f))]]) rfl ?_
  refine r_get (Cn := RX2) (T := TX2) (N := 4) C inT2 0 rfl rfl 2 (by decide) t_62 rfl dX2_isSealed_1 ?_
  refine r_iload_n C dX2_isSealed_4 1 rfl ?_
  refine r_ishr C dX2_isSealed_5 rfl ?_
  refine r_iconst (v := 1) C dX2_isSealed_6 (by decide) ?_
  refine r_iand C dX2_isSealed_7 rfl ?_
  refine r_iconst (v := 1) C dX2_isSealed_8 (by decide) ?_
  suffices K : ∀ x2 : Int32, x2 = ((if ((seals >>> (i &&& 31)) &&& 1) = 1 then (1) else (0))) → V p l e (rmm 0 0) s m args below meth c 2 D A 0 0 Q [[(o, .inr (1, [.ref h, .int lie, .int seals, .int folds]))], [(h, .inr (4, [.ref v, .int n]))], [(v, .inl (cI, 60, .inl f))]] [(0, .ref o), (1, .int i)] 17 [.int x2] by
    refine r_icmp_ne (tgt := 16) C dX2_isSealed_9 (by decide) (fun c1 => ?_) (fun c1 => ?_)
    · refine r_iconst (v := 0) C dX2_isSealed_16 (by decide) ?_
      exact K _ (by simp only [if_neg c1])
    · refine r_iconst (v := 1) C dX2_isSealed_12 (by decide) ?_
      refine r_goto (tgt := 17) C dX2_isSealed_13 (by decide) ?_
      exact K _ (by simp only [if_pos c1])
  intro x2 e_x2
  refine r_ws (I' := [letB cI o h v lie seals folds n f]) rfl ?_
  have eF : F_X2_isSealed seals i = x2 := by have q := e_x2.symm; subst q; rfl
  exact r_zret (r := x2) C hA hr hlo (nb01 (by first | (rw [e_x2]; (try dsimp only); ((repeat' split) <;> (first | exact Or.inl rfl | exact Or.inr rfl))) | (have q := e_x2.symm; subst q; (try dsimp only); ((repeat' split) <;> (first | exact Or.inl rfl | exact Or.inr rfl))))) dX2_isSealed_17 [letB cI o h v lie seals folds n f] ⟨by simp only [eF], rfl⟩ rfl hQ
theorem k_X2_changeSeal : kV yX2_changeSeal cX2_changeSeal 2 none 1 := ⟨t_630, t_631, t_9, t_632, by decide +kernel, by decide +kernel, by decide +kernel⟩
set_option maxRecDepth 20000 in
def F_X2_changeSeal (seals : Int32) (i : Int32) : Int32 := let x1 : Int32 := seals ^^^ ((1 : Int32) <<< (i &&& 31)); x1
set_option maxRecDepth 20000 in
set_option maxHeartbeats 8000000 in
theorem m_X2_changeSeal (l : Launch) (D : va_G) (cI cL cP cJ : ClassId) (o : Nat) (h : Nat) (v : Nat) (lie : Int32) (seals : Int32) (folds : Int32) (n : Int32) (f : Nat → Int32) (i : Int32) : M vV l yX2_changeSeal cX2_changeSeal 2 none 0 0 D (tyF cI cL cP cJ) [.ref o, .int i] [letB cI o h v lie seals folds n f] (fun (r : Unit) (w1 : List va_W) => w1 = [letB cI o h v lie (F_X2_changeSeal seals i) folds n f]) := by
  refine m_start (by decide +kernel) (Nat.le_of_ble_eq_true rfl) (fun p e s m args below meth c A Q hA hQ C hr hlo => ?_)
  refine r_Le (L' := [(0, .ref o), (1, .int i)]) rfl ?_
  refine r_aload_n C dX2_changeSeal_0 0 rfl ?_
  refine r_dup C dX2_changeSeal_1 rfl ?_
  refine r_ws (I' := [[(o, .inr (1, [.ref h, .int lie, .int seals, .int folds]))], [(h, .inr (4, [.ref v, .int n]))], [(v, .inl (cI, 60, .inl f))]]) rfl ?_
  refine r_get (Cn := RX2) (T := TX2) (N := 4) C inT2 0 rfl rfl 2 (by decide) t_62 rfl dX2_changeSeal_2 ?_
  refine r_iconst (v := 1) C dX2_changeSeal_5 (by decide) ?_
  refine r_iload_n C dX2_changeSeal_6 1 rfl ?_
  refine r_ishl C dX2_changeSeal_7 rfl ?_
  refine r_ixor C dX2_changeSeal_8 rfl ?_
  refine r_top (fun x1 e_x1 => ?_)
  refine r_put (Cn := RX2) (T := TX2) (N := 4) C inT2 0 rfl rfl 2 (by decide) t_62 tyX2 tyX2_ok nmX2 rfl rfl rfl (Nat.le_of_ble_eq_true rfl) (I' := [[(o, .inr (1, [.ref h, .int lie, .int x1, .int folds]))], [(h, .inr (4, [.ref v, .int n]))], [(v, .inl (cI, 60, .inl f))]]) rfl dX2_changeSeal_9 ?_
  refine r_ws (I' := [letB cI o h v lie x1 folds n f]) rfl ?_
  have eF : F_X2_changeSeal seals i = x1 := by have q := e_x1.symm; subst q; rfl
  exact r_vret (r := ()) C hA hr hlo dX2_changeSeal_12 [letB cI o h v lie x1 folds n f] (by simp only [eF]) rfl hQ
theorem k_J6_bitCount_0f7a4 : kS yJ6_bitCount_0f7a4 cJ6_bitCount_0f7a4 1 (some .int) 1 := ⟨t_274, t_23, t_275, by decide +kernel, by decide +kernel, by decide +kernel⟩
set_option maxRecDepth 20000 in
def F_J6_bitCount_0f7a4 (u : Int32) : Int32 := let x1 : Int32 := u - (((u.toUInt32 >>> ((1 : Int32).toUInt32 &&& Int32.toUInt32 31)).toInt32) &&& 1431655765); let x2 : Int32 := (x1 &&& 858993459) + (((x1.toUInt32 >>> ((2 : Int32).toUInt32 &&& Int32.toUInt32 31)).toInt32) &&& 858993459); let x3 : Int32 := (x2 + ((x2.toUInt32 >>> ((4 : Int32).toUInt32 &&& Int32.toUInt32 31)).toInt32)) &&& 252645135; let x4 : Int32 := x3 + ((x3.toUInt32 >>> ((8 : Int32).toUInt32 &&& Int32.toUInt32 31)).toInt32); let x5 : Int32 := x4 + ((x4.toUInt32 >>> ((16 : Int32).toUInt32 &&& Int32.toUInt32 31)).toInt32); x5 &&& 63
set_option maxRecDepth 20000 in
set_option maxHeartbeats 8000000 in
theorem m_J6_bitCount_0f7a4 (l : Launch) (D : va_G) (cI cL cP cJ : ClassId) (u : Int32) : M vI l yJ6_bitCount_0f7a4 cJ6_bitCount_0f7a4 1 (some .int) 0 0 D (tyF cI cL cP cJ) [.int u] [] (fun (r : Int32) (w1 : List va_W) => r = (F_J6_bitCount_0f7a4 u) ∧ w1 = []) := by
  refine m_start (by decide +kernel) (Nat.le_of_ble_eq_true rfl) (fun p e s m args below meth c A Q hA hQ C hr hlo => ?_)
  refine r_Le (L' := [(0, .int u)]) rfl ?_
  refine r_iload_n C dJ6_bitCount_0f7a4_0 0 rfl ?_
  refine r_iload_n C dJ6_bitCount_0f7a4_1 0 rfl ?_
  refine r_iconst (v := 1) C dJ6_bitCount_0f7a4_2 (by decide) ?_
  refine r_iushr C dJ6_bitCount_0f7a4_3 rfl ?_
  refine r_ldcw (v := 1431655765) C t_276 dJ6_bitCount_0f7a4_4 ?_
  refine r_iand C dJ6_bitCount_0f7a4_7 rfl ?_
  refine r_isub C dJ6_bitCount_0f7a4_8 rfl ?_
  refine r_top (fun x1 e_x1 => ?_)
  refine r_istore_n (L' := [(0, .int x1)]) C dJ6_bitCount_0f7a4_9 (by decide) rfl ?_
  refine r_iload_n C dJ6_bitCount_0f7a4_10 0 rfl ?_
  refine r_ldcw (v := 858993459) C t_277 dJ6_bitCount_0f7a4_11 ?_
  refine r_iand C dJ6_bitCount_0f7a4_14 rfl ?_
  refine r_iload_n C dJ6_bitCount_0f7a4_15 0 rfl ?_
  refine r_iconst (v := 2) C dJ6_bitCount_0f7a4_16 (by decide) ?_
  refine r_iushr C dJ6_bitCount_0f7a4_17 rfl ?_
  refine r_ldcw (v := 858993459) C t_277 dJ6_bitCount_0f7a4_18 ?_
  refine r_iand C dJ6_bitCount_0f7a4_21 rfl ?_
  refine r_iadd C dJ6_bitCount_0f7a4_22 rfl ?_
  refine r_top (fun x2 e_x2 => ?_)
  refine r_istore_n (L' := [(0, .int x2)]) C dJ6_bitCount_0f7a4_23 (by decide) rfl ?_
  refine r_iload_n C dJ6_bitCount_0f7a4_24 0 rfl ?_
  refine r_iload_n C dJ6_bitCount_0f7a4_25 0 rfl ?_
  refine r_iconst (v := 4) C dJ6_bitCount_0f7a4_26 (by decide) ?_
  refine r_iushr C dJ6_bitCount_0f7a4_27 rfl ?_
  refine r_iadd C dJ6_bitCount_0f7a4_28 rfl ?_
  refine r_ldcw (v := 252645135) C t_278 dJ6_bitCount_0f7a4_29 ?_
  refine r_iand C dJ6_bitCount_0f7a4_32 rfl ?_
  refine r_top (fun x3 e_x3 => ?_)
  refine r_istore_n (L' := [(0, .int x3)]) C dJ6_bitCount_0f7a4_33 (by decide) rfl ?_
  refine r_iload_n C dJ6_bitCount_0f7a4_34 0 rfl ?_
  refine r_iload_n C dJ6_bitCount_0f7a4_35 0 rfl ?_
  refine r_bipush (v := 8) C dJ6_bitCount_0f7a4_36 (by decide) ?_
  refine r_iushr C dJ6_bitCount_0f7a4_38 rfl ?_
  refine r_iadd C dJ6_bitCount_0f7a4_39 rfl ?_
  refine r_top (fun x4 e_x4 => ?_)
  refine r_istore_n (L' := [(0, .int x4)]) C dJ6_bitCount_0f7a4_40 (by decide) rfl ?_
  refine r_iload_n C dJ6_bitCount_0f7a4_41 0 rfl ?_
  refine r_iload_n C dJ6_bitCount_0f7a4_42 0 rfl ?_
  refine r_bipush (v := 16) C dJ6_bitCount_0f7a4_43 (by decide) ?_
  refine r_iushr C dJ6_bitCount_0f7a4_45 rfl ?_
  refine r_iadd C dJ6_bitCount_0f7a4_46 rfl ?_
  refine r_top (fun x5 e_x5 => ?_)
  refine r_istore_n (L' := [(0, .int x5)]) C dJ6_bitCount_0f7a4_47 (by decide) rfl ?_
  refine r_iload_n C dJ6_bitCount_0f7a4_48 0 rfl ?_
  refine r_bipush (v := 63) C dJ6_bitCount_0f7a4_49 (by decide) ?_
  refine r_iand C dJ6_bitCount_0f7a4_51 rfl ?_
  have eF : F_J6_bitCount_0f7a4 u = x5 &&& 63 := by have q := e_x1.symm; subst q; have q := e_x2.symm; subst q; have q := e_x3.symm; subst q; have q := e_x4.symm; subst q; have q := e_x5.symm; subst q; rfl
  exact r_iret (r := x5 &&& 63) C hA hr hlo dJ6_bitCount_0f7a4_52 [] ⟨by simp only [eF], rfl⟩ rfl hQ
theorem k_X2_sealed : kV yX2_sealed cX2_sealed 1 (some .int) 0 := ⟨t_270, t_271, t_9, t_272, by decide +kernel, by decide +kernel, by decide +kernel⟩
set_option maxRecDepth 20000 in
def F_X2_sealed (seals : Int32) : Int32 := let r1 : Int32 := F_J6_bitCount_0f7a4 seals; r1
set_option maxRecDepth 20000 in
set_option maxHeartbeats 8000000 in
theorem m_X2_sealed (l : Launch) (D : va_G) (cI cL cP cJ : ClassId) (o : Nat) (h : Nat) (v : Nat) (lie : Int32) (seals : Int32) (folds : Int32) (n : Int32) (f : Nat → Int32) : M vI l yX2_sealed cX2_sealed 1 (some .int) 1 20 D (tyF cI cL cP cJ) [.ref o] [letB cI o h v lie seals folds n f] (fun (r : Int32) (w1 : List va_W) => r = (F_X2_sealed seals) ∧ w1 = [letB cI o h v lie seals folds n f]) := by
  refine m_start (by decide +kernel) (Nat.le_of_ble_eq_true rfl) (fun p e s m args below meth c A Q hA hQ C hr hlo => ?_)
  refine r_Le (L' := [(0, .ref o)]) rfl ?_
  refine r_aload_n C dX2_sealed_0 0 rfl ?_
  refine r_ws (I' := [[(o, .inr (1, [.ref h, .int lie, .int seals, .int folds]))], [(h, .inr (4, [.ref v, .int n]))], [(v, .inl (cI, 60, .inl f))]]) rfl ?_
  refine r_get (Cn := RX2) (T := TX2) (N := 4) C inT2 0 rfl rfl 2 (by decide) t_62 rfl dX2_sealed_1 ?_
  refine r_callS (wc := []) (wr := [[(o, .inr (1, [.ref h, .int lie, .int seals, .int folds]))], [(h, .inr (4, [.ref v, .int n]))], [(v, .inl (cI, 60, .inl f))]]) (st := []) C (m_J6_bitCount_0f7a4 l D cI cL cP cJ seals) k_J6_bitCount_0f7a4 t_273 [0, 1, 2] (show ([0, 1, 2] : List Nat).Perm (List.range 3) by decide) rfl rfl rfl (Nat.le_of_ble_eq_true rfl) ⟨Nat.le_of_ble_eq_true rfl, Nat.le_of_ble_eq_true rfl⟩ ⟨Nat.zero_le _, Nat.zero_le _⟩ dX2_sealed_4 (fun r1 wr1 hw1 => ?_)
  obtain ⟨e_r1, rfl⟩ := hw1
  refine r_ws (I' := [[(o, .inr (1, [.ref h, .int lie, .int seals, .int folds]))], [(h, .inr (4, [.ref v, .int n]))], [(v, .inl (cI, 60, .inl f))]]) rfl ?_
  refine r_ws (I' := [letB cI o h v lie seals folds n f]) rfl ?_
  have eF : F_X2_sealed seals = r1 := by have q := e_r1.symm; subst q; rfl
  exact r_iret (r := r1) C hA hr hlo dX2_sealed_7 [letB cI o h v lie seals folds n f] ⟨by simp only [eF], rfl⟩ rfl hQ
theorem k_X2_barredMask : kV yX2_barredMask cX2_barredMask 3 (some .int) 0 := ⟨t_243, t_0, t_9, t_244, by decide +kernel, by decide +kernel, by decide +kernel⟩
set_option maxRecDepth 20000 in
def F_X2_barredMask (seals : Int32) (n : Int32) : Int32 := let r1 : Int32 := F_X2_reasonAgainst seals n 0; let x3 : Int32 := (if r1 = 0 then (0) else (1)); let x4 : Int32 := (0 : Int32) ||| x3; let r5 : Int32 := F_X2_reasonAgainst seals n 1; let x7 : Int32 := (if r5 = 0 then (0) else (2)); let x8 : Int32 := x4 ||| x7; let r9 : Int32 := F_X2_reasonAgainst seals n 2; let x11 : Int32 := (if r9 = 0 then (0) else (4)); let x12 : Int32 := x8 ||| x11; let r13 : Int32 := F_X2_reasonAgainst seals n 3; let x15 : Int32 := (if r13 = 0 then (0) else (8)); let x16 : Int32 := x12 ||| x15; x16
set_option maxRecDepth 20000 in
set_option maxHeartbeats 8000000 in
theorem m_X2_barredMask (l : Launch) (D : va_G) (cI cL cP cJ : ClassId) (o : Nat) (h : Nat) (v : Nat) (lie : Int32) (seals : Int32) (folds : Int32) (n : Int32) (f : Nat → Int32) : M vI l yX2_barredMask cX2_barredMask 3 (some .int) 2 43 D (tyF cI cL cP cJ) [.ref o] [letB cI o h v lie seals folds n f] (fun (r : Int32) (w1 : List va_W) => r = (F_X2_barredMask seals n) ∧ w1 = [letB cI o h v lie seals folds n f]) := by
  refine m_start (by decide +kernel) (Nat.le_of_ble_eq_true rfl) (fun p e s m args below meth c A Q hA hQ C hr hlo => ?_)
  refine r_Le (L' := [(0, .ref o)]) rfl ?_
  refine r_iconst (v := 0) C dX2_barredMask_0 (by decide) ?_
  refine r_istore_n (L' := [(1, .int 0), (0, .ref o)]) C dX2_barredMask_1 (by decide) rfl ?_
  refine r_iconst (v := 0) C dX2_barredMask_2 (by decide) ?_
  refine r_istore_n (L' := [(2, .int 0), (1, .int 0), (0, .ref o)]) C dX2_barredMask_3 (by decide) rfl ?_
  refine r_iload_n C dX2_barredMask_4 0 rfl ?_
  refine r_iconst (v := 4) C dX2_barredMask_5 (by decide) ?_
  refine r_icmp_ge (tgt := 33) C dX2_barredMask_6 (by decide) (fun c => absurd c (by decide)) (fun _ => ?_)
  refine r_iload_n C dX2_barredMask_9 1 rfl ?_
  refine r_aload_n C dX2_barredMask_10 2 rfl ?_
  refine r_iload_n C dX2_barredMask_11 0 rfl ?_
  refine r_callV (ci := 1) (wc := [letB cI o h v lie seals folds n f]) (wr := []) (st := [.int 0]) C (m_X2_reasonAgainst l D cI cL cP cJ o h v lie seals folds n f 0) k_X2_reasonAgainst t_245 [0] (show ([0] : List Nat).Perm (List.range 1) by decide) rfl rfl rfl (q0 := 0) rfl rfl rfl (Nat.le_of_ble_eq_true rfl) ⟨Nat.le_of_ble_eq_true rfl, Nat.le_of_ble_eq_true rfl⟩ ⟨Nat.zero_le _, Nat.zero_le _⟩ dX2_barredMask_12 (fun r1 wr1 hw1 => ?_)
  obtain ⟨e_r1, rfl⟩ := hw1
  refine r_ws (I' := [letB cI o h v lie seals folds n f]) rfl ?_
  suffices K : ∀ x3 : Int32, x3 = ((if r1 = 0 then (0) else (1))) → V p l e (rmm 2 43) s m args below meth c 3 D A 0 0 Q [letB cI o h v lie seals folds n f] [(2, .int 0), (1, .int 0), (0, .ref o)] 25 [.int x3, .int 0] by
    refine r_if_ne (tgt := 22) C dX2_barredMask_15 (by decide) (fun c2 => ?_) (fun c2 => ?_)
    · refine r_iconst (v := 1) C dX2_barredMask_22 (by decide) ?_
      refine r_iload_n C dX2_barredMask_23 0 rfl ?_
      refine r_ishl (z := 1) C dX2_barredMask_24 (by decide) ?_
      exact K _ (by simp only [if_neg c2])
    · refine r_iconst (v := 0) C dX2_barredMask_18 (by decide) ?_
      refine r_goto (tgt := 25) C dX2_barredMask_19 (by decide) ?_
      exact K _ (by simp only [if_pos c2])
  intro x3 e_x3
  refine r_ior C dX2_barredMask_25 rfl ?_
  refine r_top (fun x4 e_x4 => ?_)
  refine r_istore_n (L' := [(1, .int x4), (2, .int 0), (0, .ref o)]) C dX2_barredMask_26 (by decide) rfl ?_
  refine r_iinc (v := 1) (L' := [(2, .int 1), (1, .int x4), (0, .ref o)]) C dX2_barredMask_27 1 rfl (by decide) (by decide) rfl ?_
  refine r_goto (tgt := 4) C dX2_barredMask_30 (by decide) ?_
  refine r_iload_n C dX2_barredMask_4 0 rfl ?_
  refine r_iconst (v := 4) C dX2_barredMask_5 (by decide) ?_
  refine r_icmp_ge (tgt := 33) C dX2_barredMask_6 (by decide) (fun c => absurd c (by decide)) (fun _ => ?_)
  refine r_iload_n C dX2_barredMask_9 1 rfl ?_
  refine r_aload_n C dX2_barredMask_10 2 rfl ?_
  refine r_iload_n C dX2_barredMask_11 0 rfl ?_
  refine r_callV (ci := 1) (wc := [letB cI o h v lie seals folds n f]) (wr := []) (st := [.int x4]) C (m_X2_reasonAgainst l D cI cL cP cJ o h v lie seals folds n f 1) k_X2_reasonAgainst t_245 [0] (show ([0] : List Nat).Perm (List.range 1) by decide) rfl rfl rfl (q0 := 0) rfl rfl rfl (Nat.le_of_ble_eq_true rfl) ⟨Nat.le_of_ble_eq_true rfl, Nat.le_of_ble_eq_true rfl⟩ ⟨Nat.zero_le _, Nat.zero_le _⟩ dX2_barredMask_12 (fun r5 wr5 hw5 => ?_)
  obtain ⟨e_r5, rfl⟩ := hw5
  refine r_ws (I' := [letB cI o h v lie seals folds n f]) rfl ?_
  suffices K : ∀ x7 : Int32, x7 = ((if r5 = 0 then (0) else (2))) → V p l e (rmm 2 43) s m args below meth c 3 D A 0 0 Q [letB cI o h v lie seals folds n f] [(2, .int 1), (1, .int x4), (0, .ref o)] 25 [.int x7, .int x4] by
    refine r_if_ne (tgt := 22) C dX2_barredMask_15 (by decide) (fun c6 => ?_) (fun c6 => ?_)
    · refine r_iconst (v := 1) C dX2_barredMask_22 (by decide) ?_
      refine r_iload_n C dX2_barredMask_23 0 rfl ?_
      refine r_ishl (z := 2) C dX2_barredMask_24 (by decide) ?_
      exact K _ (by simp only [if_neg c6])
    · refine r_iconst (v := 0) C dX2_barredMask_18 (by decide) ?_
      refine r_goto (tgt := 25) C dX2_barredMask_19 (by decide) ?_
      exact K _ (by simp only [if_pos c6])
  intro x7 e_x7
  refine r_ior C dX2_barredMask_25 rfl ?_
  refine r_top (fun x8 e_x8 => ?_)
  refine r_istore_n (L' := [(1, .int x8), (2, .int 1), (0, .ref o)]) C dX2_barredMask_26 (by decide) rfl ?_
  refine r_iinc (v := 2) (L' := [(2, .int 2), (1, .int x8), (0, .ref o)]) C dX2_barredMask_27 1 rfl (by decide) (by decide) rfl ?_
  refine r_goto (tgt := 4) C dX2_barredMask_30 (by decide) ?_
  refine r_iload_n C dX2_barredMask_4 0 rfl ?_
  refine r_iconst (v := 4) C dX2_barredMask_5 (by decide) ?_
  refine r_icmp_ge (tgt := 33) C dX2_barredMask_6 (by decide) (fun c => absurd c (by decide)) (fun _ => ?_)
  refine r_iload_n C dX2_barredMask_9 1 rfl ?_
  refine r_aload_n C dX2_barredMask_10 2 rfl ?_
  refine r_iload_n C dX2_barredMask_11 0 rfl ?_
  refine r_callV (ci := 1) (wc := [letB cI o h v lie seals folds n f]) (wr := []) (st := [.int x8]) C (m_X2_reasonAgainst l D cI cL cP cJ o h v lie seals folds n f 2) k_X2_reasonAgainst t_245 [0] (show ([0] : List Nat).Perm (List.range 1) by decide) rfl rfl rfl (q0 := 0) rfl rfl rfl (Nat.le_of_ble_eq_true rfl) ⟨Nat.le_of_ble_eq_true rfl, Nat.le_of_ble_eq_true rfl⟩ ⟨Nat.zero_le _, Nat.zero_le _⟩ dX2_barredMask_12 (fun r9 wr9 hw9 => ?_)
  obtain ⟨e_r9, rfl⟩ := hw9
  refine r_ws (I' := [letB cI o h v lie seals folds n f]) rfl ?_
  suffices K : ∀ x11 : Int32, x11 = ((if r9 = 0 then (0) else (4))) → V p l e (rmm 2 43) s m args below meth c 3 D A 0 0 Q [letB cI o h v lie seals folds n f] [(2, .int 2), (1, .int x8), (0, .ref o)] 25 [.int x11, .int x8] by
    refine r_if_ne (tgt := 22) C dX2_barredMask_15 (by decide) (fun c10 => ?_) (fun c10 => ?_)
    · refine r_iconst (v := 1) C dX2_barredMask_22 (by decide) ?_
      refine r_iload_n C dX2_barredMask_23 0 rfl ?_
      refine r_ishl (z := 4) C dX2_barredMask_24 (by decide) ?_
      exact K _ (by simp only [if_neg c10])
    · refine r_iconst (v := 0) C dX2_barredMask_18 (by decide) ?_
      refine r_goto (tgt := 25) C dX2_barredMask_19 (by decide) ?_
      exact K _ (by simp only [if_pos c10])
  intro x11 e_x11
  refine r_ior C dX2_barredMask_25 rfl ?_
  refine r_top (fun x12 e_x12 => ?_)
  refine r_istore_n (L' := [(1, .int x12), (2, .int 2), (0, .ref o)]) C dX2_barredMask_26 (by decide) rfl ?_
  refine r_iinc (v := 3) (L' := [(2, .int 3), (1, .int x12), (0, .ref o)]) C dX2_barredMask_27 1 rfl (by decide) (by decide) rfl ?_
  refine r_goto (tgt := 4) C dX2_barredMask_30 (by decide) ?_
  refine r_iload_n C dX2_barredMask_4 0 rfl ?_
  refine r_iconst (v := 4) C dX2_barredMask_5 (by decide) ?_
  refine r_icmp_ge (tgt := 33) C dX2_barredMask_6 (by decide) (fun c => absurd c (by decide)) (fun _ => ?_)
  refine r_iload_n C dX2_barredMask_9 1 rfl ?_
  refine r_aload_n C dX2_barredMask_10 2 rfl ?_
  refine r_iload_n C dX2_barredMask_11 0 rfl ?_
  refine r_callV (ci := 1) (wc := [letB cI o h v lie seals folds n f]) (wr := []) (st := [.int x12]) C (m_X2_reasonAgainst l D cI cL cP cJ o h v lie seals folds n f 3) k_X2_reasonAgainst t_245 [0] (show ([0] : List Nat).Perm (List.range 1) by decide) rfl rfl rfl (q0 := 0) rfl rfl rfl (Nat.le_of_ble_eq_true rfl) ⟨Nat.le_of_ble_eq_true rfl, Nat.le_of_ble_eq_true rfl⟩ ⟨Nat.zero_le _, Nat.zero_le _⟩ dX2_barredMask_12 (fun r13 wr13 hw13 => ?_)
  obtain ⟨e_r13, rfl⟩ := hw13
  refine r_ws (I' := [letB cI o h v lie seals folds n f]) rfl ?_
  suffices K : ∀ x15 : Int32, x15 = ((if r13 = 0 then (0) else (8))) → V p l e (rmm 2 43) s m args below meth c 3 D A 0 0 Q [letB cI o h v lie seals folds n f] [(2, .int 3), (1, .int x12), (0, .ref o)] 25 [.int x15, .int x12] by
    refine r_if_ne (tgt := 22) C dX2_barredMask_15 (by decide) (fun c14 => ?_) (fun c14 => ?_)
    · refine r_iconst (v := 1) C dX2_barredMask_22 (by decide) ?_
      refine r_iload_n C dX2_barredMask_23 0 rfl ?_
      refine r_ishl (z := 8) C dX2_barredMask_24 (by decide) ?_
      exact K _ (by simp only [if_neg c14])
    · refine r_iconst (v := 0) C dX2_barredMask_18 (by decide) ?_
      refine r_goto (tgt := 25) C dX2_barredMask_19 (by decide) ?_
      exact K _ (by simp only [if_pos c14])
  intro x15 e_x15
  refine r_ior C dX2_barredMask_25 rfl ?_
  refine r_top (fun x16 e_x16 => ?_)
  refine r_istore_n (L' := [(1, .int x16), (2, .int 3), (0, .ref o)]) C dX2_barredMask_26 (by decide) rfl ?_
  refine r_iinc (v := 4) (L' := [(2, .int 4), (1, .int x16), (0, .ref o)]) C dX2_barredMask_27 1 rfl (by decide) (by decide) rfl ?_
  refine r_goto (tgt := 4) C dX2_barredMask_30 (by decide) ?_
  refine r_iload_n C dX2_barredMask_4 0 rfl ?_
  refine r_iconst (v := 4) C dX2_barredMask_5 (by decide) ?_
  refine r_icmp_ge (tgt := 33) C dX2_barredMask_6 (by decide) (fun _ => ?_) (fun c => absurd c (by decide))
  refine r_iload_n C dX2_barredMask_33 1 rfl ?_
  have eF : F_X2_barredMask seals n = x16 := by have q := e_r1.symm; subst q; have q := e_x3.symm; subst q; have q := e_x4.symm; subst q; have q := e_r5.symm; subst q; have q := e_x7.symm; subst q; have q := e_x8.symm; subst q; have q := e_r9.symm; subst q; have q := e_x11.symm; subst q; have q := e_x12.symm; subst q; have q := e_r13.symm; subst q; have q := e_x15.symm; subst q; have q := e_x16.symm; subst q; rfl
  exact r_iret (r := x16) C hA hr hlo dX2_barredMask_34 [letB cI o h v lie seals folds n f] ⟨by simp only [eF], rfl⟩ rfl hQ
theorem k_X2_number : kV yX2_number cX2_number 2 (some .int) 1 := ⟨t_190, t_191, t_9, t_192, by decide +kernel, by decide +kernel, by decide +kernel⟩
set_option maxRecDepth 20000 in
def F_X2_number (lie : Int32) (seals : Int32) (folds : Int32) (n : Int32) (what : Int32) : Int32 := (if what = 0 then (let r1 : Int32 := F_X3_length lie; r1) else ((if what = 1 then (let r3 : Int32 := F_X3_foldsBack lie; r3) else ((if what = 2 then (let r4 : Int32 := F_X6_size n; r4) else ((if what = 3 then (let r6 : Int32 := F_X3_period lie; r6) else ((if what = 4 then (let r7 : Int32 := F_X3_isMirror lie; let x9 : Int32 := (if r7 = 0 then (0) else (1)); x9) else ((if what = 5 then (let r10 : Int32 := F_X3_layersHome lie; r10) else ((if what = 6 then (let r11 : Int32 := F_X3_layersTurned lie; r11) else ((if what = 7 then (seals) else ((if what = 8 then (let r12 : Int32 := F_X3_shorteningMask lie; r12) else ((if what = 9 then (let r13 : Int32 := F_X2_barredMask seals n; r13) else ((if what = 10 then (folds) else ((-10)))))))))))))))))))))))
set_option maxRecDepth 20000 in
def P_X2_number (lie : Int32) (what : Int32) : Prop := ((what = 0 → True) ∧ (¬ what = 0 → ((what = 1 → (P_X3_foldsBack lie)) ∧ (¬ what = 1 → ((what = 2 → True) ∧ (¬ what = 2 → ((what = 3 → (P_X3_period lie)) ∧ (¬ what = 3 → ((what = 4 → True) ∧ (¬ what = 4 → ((what = 5 → True) ∧ (¬ what = 5 → ((what = 6 → True) ∧ (¬ what = 6 → ((what = 7 → True) ∧ (¬ what = 7 → ((what = 8 → True) ∧ (¬ what = 8 → ((what = 9 → True) ∧ (¬ what = 9 → ((what = 10 → True) ∧ (¬ what = 10 → True))))))))))))))))))))))
set_option maxRecDepth 20000 in
set_option maxHeartbeats 8000000 in
theorem m_X2_number (l : Launch) (D : va_G) (cI cL cP cJ : ClassId) (o : Nat) (h : Nat) (v : Nat) (lie : Int32) (seals : Int32) (folds : Int32) (n : Int32) (f : Nat → Int32) (what : Int32) (hp : P_X2_number lie what) : M vI l yX2_number cX2_number 2 (some .int) 4 87 D (tyF cI cL cP cJ) [.ref o, .int what] [letB cI o h v lie seals folds n f] (fun (r : Int32) (w1 : List va_W) => r = (F_X2_number lie seals folds n what) ∧ w1 = [letB cI o h v lie seals folds n f]) := by
  unfold P_X2_number at hp
  refine m_start (by decide +kernel) (Nat.le_of_ble_eq_true rfl) (fun p e s m args below meth c A Q hA hQ C hr hlo => ?_)
  refine r_Le (L' := [(0, .ref o), (1, .int what)]) rfl ?_
  refine r_iload_n C dX2_number_0 1 rfl ?_
  by_cases c14 : what = 0
  · refine r_tin (tgt := 60) (off := 59) C dX2_number_1 c14 (by decide) (by decide) (by decide) (by decide) ?_
    refine r_aload_n C dX2_number_60 0 rfl ?_
    refine r_ws (I' := [[(o, .inr (1, [.ref h, .int lie, .int seals, .int folds]))], [(h, .inr (4, [.ref v, .int n]))], [(v, .inl (cI, 60, .inl f))]]) rfl ?_
    refine r_get (Cn := RX2) (T := TX2) (N := 4) C inT2 0 rfl rfl 1 (by decide) t_61 rfl dX2_number_61 ?_
    refine r_callS (wc := []) (wr := [[(o, .inr (1, [.ref h, .int lie, .int seals, .int folds]))], [(h, .inr (4, [.ref v, .int n]))], [(v, .inl (cI, 60, .inl f))]]) (st := []) C (m_X3_length l D cI cL cP cJ lie) k_X3_length t_193 [0, 1, 2] (show ([0, 1, 2] : List Nat).Perm (List.range 3) by decide) rfl rfl rfl (Nat.le_of_ble_eq_true rfl) ⟨Nat.le_of_ble_eq_true rfl, Nat.le_of_ble_eq_true rfl⟩ ⟨Nat.zero_le _, Nat.zero_le _⟩ dX2_number_64 (fun r1 wr1 hw1 => ?_)
    obtain ⟨e_r1, rfl⟩ := hw1
    refine r_ws (I' := [[(o, .inr (1, [.ref h, .int lie, .int seals, .int folds]))], [(h, .inr (4, [.ref v, .int n]))], [(v, .inl (cI, 60, .inl f))]]) rfl ?_
    refine r_ws (I' := [letB cI o h v lie seals folds n f]) rfl ?_
    have eF : F_X2_number lie seals folds n what = r1 := by have q := e_r1.symm; subst q; simp only [F_X2_number, if_pos c14]
    exact r_iret (r := r1) C hA hr hlo dX2_number_67 [letB cI o h v lie seals folds n f] ⟨by simp only [eF], rfl⟩ rfl hQ
  have hp := hp.2 c14
  by_cases c15 : what = 1
  · have hp := hp.1 c15
    refine r_tin (tgt := 68) (off := 67) C dX2_number_1 c15 (by decide) (by decide) (by decide) (by decide) ?_
    refine r_aload_n C dX2_number_68 0 rfl ?_
    refine r_ws (I' := [[(o, .inr (1, [.ref h, .int lie, .int seals, .int folds]))], [(h, .inr (4, [.ref v, .int n]))], [(v, .inl (cI, 60, .inl f))]]) rfl ?_
    refine r_get (Cn := RX2) (T := TX2) (N := 4) C inT2 0 rfl rfl 1 (by decide) t_61 rfl dX2_number_69 ?_
    have h2 := hp
    refine r_callS (wc := []) (wr := [[(o, .inr (1, [.ref h, .int lie, .int seals, .int folds]))], [(h, .inr (4, [.ref v, .int n]))], [(v, .inl (cI, 60, .inl f))]]) (st := []) C (m_X3_foldsBack l D cI cL cP cJ lie h2) k_X3_foldsBack t_199 [0, 1, 2] (show ([0, 1, 2] : List Nat).Perm (List.range 3) by decide) rfl rfl rfl (Nat.le_of_ble_eq_true rfl) ⟨Nat.le_of_ble_eq_true rfl, Nat.le_of_ble_eq_true rfl⟩ ⟨Nat.zero_le _, Nat.zero_le _⟩ dX2_number_72 (fun r3 wr3 hw3 => ?_)
    obtain ⟨e_r3, rfl⟩ := hw3
    refine r_ws (I' := [[(o, .inr (1, [.ref h, .int lie, .int seals, .int folds]))], [(h, .inr (4, [.ref v, .int n]))], [(v, .inl (cI, 60, .inl f))]]) rfl ?_
    refine r_ws (I' := [letB cI o h v lie seals folds n f]) rfl ?_
    have eF : F_X2_number lie seals folds n what = r3 := by have q := e_r3.symm; subst q; simp only [F_X2_number, if_neg c14, if_pos c15]
    exact r_iret (r := r3) C hA hr hlo dX2_number_75 [letB cI o h v lie seals folds n f] ⟨by simp only [eF], rfl⟩ rfl hQ
  have hp := hp.2 c15
  by_cases c16 : what = 2
  · refine r_tin (tgt := 76) (off := 75) C dX2_number_1 c16 (by decide) (by decide) (by decide) (by decide) ?_
    refine r_aload_n C dX2_number_76 0 rfl ?_
    refine r_ws (I' := [[(o, .inr (1, [.ref h, .int lie, .int seals, .int folds]))], [(h, .inr (4, [.ref v, .int n]))], [(v, .inl (cI, 60, .inl f))]]) rfl ?_
    refine r_get (Cn := RX2) (T := TX2) (N := 4) C inT2 0 rfl rfl 0 (by decide) t_60 rfl dX2_number_77 ?_
    refine r_ws (I' := [[(o, .inr (1, [.ref h, .int lie, .int seals, .int folds]))], rowB cI h v n f]) rfl ?_
    refine r_callV (ci := 4) (wc := [rowB cI h v n f]) (wr := [[(o, .inr (1, [.ref h, .int lie, .int seals, .int folds]))]]) (st := []) C (m_X6_size l D cI cL cP cJ h v n f) k_X6_size t_211 [1, 0] (show ([1, 0] : List Nat).Perm (List.range 2) by decide) rfl rfl rfl (q0 := 0) rfl rfl rfl (Nat.le_of_ble_eq_true rfl) ⟨Nat.le_of_ble_eq_true rfl, Nat.le_of_ble_eq_true rfl⟩ ⟨Nat.zero_le _, Nat.zero_le _⟩ dX2_number_80 (fun r4 wr4 hw4 => ?_)
    obtain ⟨e_r4, rfl⟩ := hw4
    refine r_ws (I' := [rowB cI h v n f, [(o, .inr (1, [.ref h, .int lie, .int seals, .int folds]))]]) rfl ?_
    refine r_ws (I' := [[(h, .inr (4, [.ref v, .int n]))], [(v, .inl (cI, 60, .inl f))], [(o, .inr (1, [.ref h, .int lie, .int seals, .int folds]))]]) rfl ?_
    refine r_pl (I' := [[(o, .inr (1, [.ref h, .int lie, .int seals, .int folds]))], [(h, .inr (4, [.ref v, .int n]))], [(v, .inl (cI, 60, .inl f))]]) [2, 0, 1] (show ([2, 0, 1] : List Nat).Perm (List.range 3) by decide) rfl ?_
    refine r_ws (I' := [letB cI o h v lie seals folds n f]) rfl ?_
    have eF : F_X2_number lie seals folds n what = r4 := by have q := e_r4.symm; subst q; simp only [F_X2_number, if_neg c14, if_neg c15, if_pos c16]
    exact r_iret (r := r4) C hA hr hlo dX2_number_83 [letB cI o h v lie seals folds n f] ⟨by simp only [eF], rfl⟩ rfl hQ
  have hp := hp.2 c16
  by_cases c17 : what = 3
  · have hp := hp.1 c17
    refine r_tin (tgt := 84) (off := 83) C dX2_number_1 c17 (by decide) (by decide) (by decide) (by decide) ?_
    refine r_aload_n C dX2_number_84 0 rfl ?_
    refine r_ws (I' := [[(o, .inr (1, [.ref h, .int lie, .int seals, .int folds]))], [(h, .inr (4, [.ref v, .int n]))], [(v, .inl (cI, 60, .inl f))]]) rfl ?_
    refine r_get (Cn := RX2) (T := TX2) (N := 4) C inT2 0 rfl rfl 1 (by decide) t_61 rfl dX2_number_85 ?_
    have h5 := hp
    refine r_callS (wc := []) (wr := [[(o, .inr (1, [.ref h, .int lie, .int seals, .int folds]))], [(h, .inr (4, [.ref v, .int n]))], [(v, .inl (cI, 60, .inl f))]]) (st := []) C (m_X3_period l D cI cL cP cJ lie h5) k_X3_period t_215 [0, 1, 2] (show ([0, 1, 2] : List Nat).Perm (List.range 3) by decide) rfl rfl rfl (Nat.le_of_ble_eq_true rfl) ⟨Nat.le_of_ble_eq_true rfl, Nat.le_of_ble_eq_true rfl⟩ ⟨Nat.zero_le _, Nat.zero_le _⟩ dX2_number_88 (fun r6 wr6 hw6 => ?_)
    obtain ⟨e_r6, rfl⟩ := hw6
    refine r_ws (I' := [[(o, .inr (1, [.ref h, .int lie, .int seals, .int folds]))], [(h, .inr (4, [.ref v, .int n]))], [(v, .inl (cI, 60, .inl f))]]) rfl ?_
    refine r_ws (I' := [letB cI o h v lie seals folds n f]) rfl ?_
    have eF : F_X2_number lie seals folds n what = r6 := by have q := e_r6.symm; subst q; simp only [F_X2_number, if_neg c14, if_neg c15, if_neg c16, if_pos c17]
    exact r_iret (r := r6) C hA hr hlo dX2_number_91 [letB cI o h v lie seals folds n f] ⟨by simp only [eF], rfl⟩ rfl hQ
  have hp := hp.2 c17
  by_cases c18 : what = 4
  · refine r_tin (tgt := 92) (off := 91) C dX2_number_1 c18 (by decide) (by decide) (by decide) (by decide) ?_
    refine r_aload_n C dX2_number_92 0 rfl ?_
    refine r_ws (I' := [[(o, .inr (1, [.ref h, .int lie, .int seals, .int folds]))], [(h, .inr (4, [.ref v, .int n]))], [(v, .inl (cI, 60, .inl f))]]) rfl ?_
    refine r_get (Cn := RX2) (T := TX2) (N := 4) C inT2 0 rfl rfl 1 (by decide) t_61 rfl dX2_number_93 ?_
    refine r_callS (wc := []) (wr := [[(o, .inr (1, [.ref h, .int lie, .int seals, .int folds]))], [(h, .inr (4, [.ref v, .int n]))], [(v, .inl (cI, 60, .inl f))]]) (st := []) C (m_X3_isMirror l D cI cL cP cJ lie) k_X3_isMirror t_227 [0, 1, 2] (show ([0, 1, 2] : List Nat).Perm (List.range 3) by decide) rfl rfl rfl (Nat.le_of_ble_eq_true rfl) ⟨Nat.le_of_ble_eq_true rfl, Nat.le_of_ble_eq_true rfl⟩ ⟨Nat.zero_le _, Nat.zero_le _⟩ dX2_number_96 (fun r7 wr7 hw7 => ?_)
    obtain ⟨e_r7, rfl⟩ := hw7
    refine r_ws (I' := [[(o, .inr (1, [.ref h, .int lie, .int seals, .int folds]))], [(h, .inr (4, [.ref v, .int n]))], [(v, .inl (cI, 60, .inl f))]]) rfl ?_
    suffices K : ∀ x9 : Int32, x9 = ((if r7 = 0 then (0) else (1))) → V p l e (rmm 4 87) s m args below meth c 2 D A 0 0 Q [[(o, .inr (1, [.ref h, .int lie, .int seals, .int folds]))], [(h, .inr (4, [.ref v, .int n]))], [(v, .inl (cI, 60, .inl f))]] [(0, .ref o), (1, .int what)] 107 [.int x9] by
      refine r_if_eq (tgt := 106) C dX2_number_99 (by decide) (fun c8 => ?_) (fun c8 => ?_)
      · refine r_iconst (v := 0) C dX2_number_106 (by decide) ?_
        exact K _ (by simp only [if_pos c8])
      · refine r_iconst (v := 1) C dX2_number_102 (by decide) ?_
        refine r_goto (tgt := 107) C dX2_number_103 (by decide) ?_
        exact K _ (by simp only [if_neg c8])
    intro x9 e_x9
    refine r_ws (I' := [letB cI o h v lie seals folds n f]) rfl ?_
    have eF : F_X2_number lie seals folds n what = x9 := by have q := e_r7.symm; subst q; have q := e_x9.symm; subst q; simp only [F_X2_number, if_neg c14, if_neg c15, if_neg c16, if_neg c17, if_pos c18]
    exact r_iret (r := x9) C hA hr hlo dX2_number_107 [letB cI o h v lie seals folds n f] ⟨by simp only [eF], rfl⟩ rfl hQ
  have hp := hp.2 c18
  by_cases c19 : what = 5
  · refine r_tin (tgt := 108) (off := 107) C dX2_number_1 c19 (by decide) (by decide) (by decide) (by decide) ?_
    refine r_aload_n C dX2_number_108 0 rfl ?_
    refine r_ws (I' := [[(o, .inr (1, [.ref h, .int lie, .int seals, .int folds]))], [(h, .inr (4, [.ref v, .int n]))], [(v, .inl (cI, 60, .inl f))]]) rfl ?_
    refine r_get (Cn := RX2) (T := TX2) (N := 4) C inT2 0 rfl rfl 1 (by decide) t_61 rfl dX2_number_109 ?_
    refine r_callS (wc := []) (wr := [[(o, .inr (1, [.ref h, .int lie, .int seals, .int folds]))], [(h, .inr (4, [.ref v, .int n]))], [(v, .inl (cI, 60, .inl f))]]) (st := []) C (m_X3_layersHome l D cI cL cP cJ lie) k_X3_layersHome t_234 [0, 1, 2] (show ([0, 1, 2] : List Nat).Perm (List.range 3) by decide) rfl rfl rfl (Nat.le_of_ble_eq_true rfl) ⟨Nat.le_of_ble_eq_true rfl, Nat.le_of_ble_eq_true rfl⟩ ⟨Nat.zero_le _, Nat.zero_le _⟩ dX2_number_112 (fun r10 wr10 hw10 => ?_)
    obtain ⟨e_r10, rfl⟩ := hw10
    refine r_ws (I' := [[(o, .inr (1, [.ref h, .int lie, .int seals, .int folds]))], [(h, .inr (4, [.ref v, .int n]))], [(v, .inl (cI, 60, .inl f))]]) rfl ?_
    refine r_ws (I' := [letB cI o h v lie seals folds n f]) rfl ?_
    have eF : F_X2_number lie seals folds n what = r10 := by have q := e_r10.symm; subst q; simp only [F_X2_number, if_neg c14, if_neg c15, if_neg c16, if_neg c17, if_neg c18, if_pos c19]
    exact r_iret (r := r10) C hA hr hlo dX2_number_115 [letB cI o h v lie seals folds n f] ⟨by simp only [eF], rfl⟩ rfl hQ
  have hp := hp.2 c19
  by_cases c20 : what = 6
  · refine r_tin (tgt := 116) (off := 115) C dX2_number_1 c20 (by decide) (by decide) (by decide) (by decide) ?_
    refine r_aload_n C dX2_number_116 0 rfl ?_
    refine r_ws (I' := [[(o, .inr (1, [.ref h, .int lie, .int seals, .int folds]))], [(h, .inr (4, [.ref v, .int n]))], [(v, .inl (cI, 60, .inl f))]]) rfl ?_
    refine r_get (Cn := RX2) (T := TX2) (N := 4) C inT2 0 rfl rfl 1 (by decide) t_61 rfl dX2_number_117 ?_
    refine r_callS (wc := []) (wr := [[(o, .inr (1, [.ref h, .int lie, .int seals, .int folds]))], [(h, .inr (4, [.ref v, .int n]))], [(v, .inl (cI, 60, .inl f))]]) (st := []) C (m_X3_layersTurned l D cI cL cP cJ lie) k_X3_layersTurned t_235 [0, 1, 2] (show ([0, 1, 2] : List Nat).Perm (List.range 3) by decide) rfl rfl rfl (Nat.le_of_ble_eq_true rfl) ⟨Nat.le_of_ble_eq_true rfl, Nat.le_of_ble_eq_true rfl⟩ ⟨Nat.zero_le _, Nat.zero_le _⟩ dX2_number_120 (fun r11 wr11 hw11 => ?_)
    obtain ⟨e_r11, rfl⟩ := hw11
    refine r_ws (I' := [[(o, .inr (1, [.ref h, .int lie, .int seals, .int folds]))], [(h, .inr (4, [.ref v, .int n]))], [(v, .inl (cI, 60, .inl f))]]) rfl ?_
    refine r_ws (I' := [letB cI o h v lie seals folds n f]) rfl ?_
    have eF : F_X2_number lie seals folds n what = r11 := by have q := e_r11.symm; subst q; simp only [F_X2_number, if_neg c14, if_neg c15, if_neg c16, if_neg c17, if_neg c18, if_neg c19, if_pos c20]
    exact r_iret (r := r11) C hA hr hlo dX2_number_123 [letB cI o h v lie seals folds n f] ⟨by simp only [eF], rfl⟩ rfl hQ
  have hp := hp.2 c20
  by_cases c21 : what = 7
  · refine r_tin (tgt := 124) (off := 123) C dX2_number_1 c21 (by decide) (by decide) (by decide) (by decide) ?_
    refine r_aload_n C dX2_number_124 0 rfl ?_
    refine r_ws (I' := [[(o, .inr (1, [.ref h, .int lie, .int seals, .int folds]))], [(h, .inr (4, [.ref v, .int n]))], [(v, .inl (cI, 60, .inl f))]]) rfl ?_
    refine r_get (Cn := RX2) (T := TX2) (N := 4) C inT2 0 rfl rfl 2 (by decide) t_62 rfl dX2_number_125 ?_
    refine r_ws (I' := [letB cI o h v lie seals folds n f]) rfl ?_
    have eF : F_X2_number lie seals folds n what = seals := by simp only [F_X2_number, if_neg c14, if_neg c15, if_neg c16, if_neg c17, if_neg c18, if_neg c19, if_neg c20, if_pos c21]
    exact r_iret (r := seals) C hA hr hlo dX2_number_128 [letB cI o h v lie seals folds n f] ⟨by simp only [eF], rfl⟩ rfl hQ
  have hp := hp.2 c21
  by_cases c22 : what = 8
  · refine r_tin (tgt := 129) (off := 128) C dX2_number_1 c22 (by decide) (by decide) (by decide) (by decide) ?_
    refine r_aload_n C dX2_number_129 0 rfl ?_
    refine r_ws (I' := [[(o, .inr (1, [.ref h, .int lie, .int seals, .int folds]))], [(h, .inr (4, [.ref v, .int n]))], [(v, .inl (cI, 60, .inl f))]]) rfl ?_
    refine r_get (Cn := RX2) (T := TX2) (N := 4) C inT2 0 rfl rfl 1 (by decide) t_61 rfl dX2_number_130 ?_
    refine r_callS (wc := []) (wr := [[(o, .inr (1, [.ref h, .int lie, .int seals, .int folds]))], [(h, .inr (4, [.ref v, .int n]))], [(v, .inl (cI, 60, .inl f))]]) (st := []) C (m_X3_shorteningMask l D cI cL cP cJ lie) k_X3_shorteningMask t_238 [0, 1, 2] (show ([0, 1, 2] : List Nat).Perm (List.range 3) by decide) rfl rfl rfl (Nat.le_of_ble_eq_true rfl) ⟨Nat.le_of_ble_eq_true rfl, Nat.le_of_ble_eq_true rfl⟩ ⟨Nat.zero_le _, Nat.zero_le _⟩ dX2_number_133 (fun r12 wr12 hw12 => ?_)
    obtain ⟨e_r12, rfl⟩ := hw12
    refine r_ws (I' := [[(o, .inr (1, [.ref h, .int lie, .int seals, .int folds]))], [(h, .inr (4, [.ref v, .int n]))], [(v, .inl (cI, 60, .inl f))]]) rfl ?_
    refine r_ws (I' := [letB cI o h v lie seals folds n f]) rfl ?_
    have eF : F_X2_number lie seals folds n what = r12 := by have q := e_r12.symm; subst q; simp only [F_X2_number, if_neg c14, if_neg c15, if_neg c16, if_neg c17, if_neg c18, if_neg c19, if_neg c20, if_neg c21, if_pos c22]
    exact r_iret (r := r12) C hA hr hlo dX2_number_136 [letB cI o h v lie seals folds n f] ⟨by simp only [eF], rfl⟩ rfl hQ
  have hp := hp.2 c22
  by_cases c23 : what = 9
  · refine r_tin (tgt := 137) (off := 136) C dX2_number_1 c23 (by decide) (by decide) (by decide) (by decide) ?_
    refine r_aload_n C dX2_number_137 0 rfl ?_
    refine r_callV (ci := 1) (wc := [letB cI o h v lie seals folds n f]) (wr := []) (st := []) C (m_X2_barredMask l D cI cL cP cJ o h v lie seals folds n f) k_X2_barredMask t_241 [0] (show ([0] : List Nat).Perm (List.range 1) by decide) rfl rfl rfl (q0 := 0) rfl rfl rfl (Nat.le_of_ble_eq_true rfl) ⟨Nat.le_of_ble_eq_true rfl, Nat.le_of_ble_eq_true rfl⟩ ⟨Nat.zero_le _, Nat.zero_le _⟩ dX2_number_138 (fun r13 wr13 hw13 => ?_)
    obtain ⟨e_r13, rfl⟩ := hw13
    refine r_ws (I' := [letB cI o h v lie seals folds n f]) rfl ?_
    have eF : F_X2_number lie seals folds n what = r13 := by have q := e_r13.symm; subst q; simp only [F_X2_number, if_neg c14, if_neg c15, if_neg c16, if_neg c17, if_neg c18, if_neg c19, if_neg c20, if_neg c21, if_neg c22, if_pos c23]
    exact r_iret (r := r13) C hA hr hlo dX2_number_141 [letB cI o h v lie seals folds n f] ⟨by simp only [eF], rfl⟩ rfl hQ
  have hp := hp.2 c23
  by_cases c24 : what = 10
  · refine r_tin (tgt := 142) (off := 141) C dX2_number_1 c24 (by decide) (by decide) (by decide) (by decide) ?_
    refine r_aload_n C dX2_number_142 0 rfl ?_
    refine r_ws (I' := [[(o, .inr (1, [.ref h, .int lie, .int seals, .int folds]))], [(h, .inr (4, [.ref v, .int n]))], [(v, .inl (cI, 60, .inl f))]]) rfl ?_
    refine r_get (Cn := RX2) (T := TX2) (N := 4) C inT2 0 rfl rfl 3 (by decide) t_63 rfl dX2_number_143 ?_
    refine r_ws (I' := [letB cI o h v lie seals folds n f]) rfl ?_
    have eF : F_X2_number lie seals folds n what = folds := by simp only [F_X2_number, if_neg c14, if_neg c15, if_neg c16, if_neg c17, if_neg c18, if_neg c19, if_neg c20, if_neg c21, if_neg c22, if_neg c23, if_pos c24]
    exact r_iret (r := folds) C hA hr hlo dX2_number_146 [letB cI o h v lie seals folds n f] ⟨by simp only [eF], rfl⟩ rfl hQ
  have hp := hp.2 c24
  refine r_tout (tgt := 147) C dX2_number_1 (sw_out 10 (by decide) (fun i hi => by rcases (show i = 0 ∨ i = 1 ∨ i = 2 ∨ i = 3 ∨ i = 4 ∨ i = 5 ∨ i = 6 ∨ i = 7 ∨ i = 8 ∨ i = 9 ∨ i = 10 by omega) with rfl | rfl | rfl | rfl | rfl | rfl | rfl | rfl | rfl | rfl | rfl; exact c14; exact c15; exact c16; exact c17; exact c18; exact c19; exact c20; exact c21; exact c22; exact c23; exact c24)) (by decide) ?_
  refine r_bipush (v := (-10)) C dX2_number_147 (by decide) ?_
  have eF : F_X2_number lie seals folds n what = (-10) := by simp only [F_X2_number, if_neg c14, if_neg c15, if_neg c16, if_neg c17, if_neg c18, if_neg c19, if_neg c20, if_neg c21, if_neg c22, if_neg c23, if_neg c24]
  exact r_iret (r := (-10)) C hA hr hlo dX2_number_149 [letB cI o h v lie seals folds n f] ⟨by simp only [eF], rfl⟩ rfl hQ
abbrev rdB (rd : Nat) (opn : Int32) (wan : Int32) : va_W := [(rd, .inr (3, [.int opn, .int wan]))]
abbrev txtB (cI : ClassId) (tx : Nat) (h : Nat) (v : Nat) (rd : Nat) (n : Int32) (f : Nat → Int32) (opn : Int32) (wan : Int32) : va_W := [(tx, .inr (5, [.ref h, .ref rd])), (h, .inr (4, [.ref v, .int n])), (v, .inl (cI, 60, .inl f)), (rd, .inr (3, [.int opn, .int wan]))]

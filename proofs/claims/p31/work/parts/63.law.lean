def sumW : Nat → Nat
  | 0 => 0
  | k + 1 => sumW k + liesOf k
theorem ways_sz (st : St) (d w : Int32) : q_size (F_S_ways st d w).2 = q_size st := rfl
theorem lies_sym {k : Nat} (h : k ≤ 16) : liesOf (16 - k) = liesOf k := by
  have : (List.range 17).all (fun k => decide (liesOf (16 - k) = liesOf k)) = true := by decide +kernel
  exact of_decide_eq_true (List.all_eq_true.mp this k (List.mem_range.mpr (by omega)))
theorem lies_none {k : Nat} (h : 16 < k) (h2 : k < 21) : liesOf k = 0 := by
  rcases (show k = 17 ∨ k = 18 ∨ k = 19 ∨ k = 20 by omega) with rfl | rfl | rfl | rfl <;> decide
/-- how many ways to lie there are -/
theorem wl_loop : ∀ (t k : Nat), k + t = 21 → ∀ (fuel : Nat) (st : St) (all : Int32), t < fuel → Inv st → q_size st = 0 → all = nI (sumW k) → P_L_law_L17 fuel st all (nI k) ∧ Inv (F_L_law_L17 fuel st all (nI k)).1 ∧ q_size (F_L_law_L17 fuel st all (nI k)).1 = 0 ∧ (F_L_law_L17 fuel st all (nI k)).2.1 = nI (sumW 21) := by
  intro t
  induction t with
  | zero =>
    intro k hk fuel st all hf h hz ha
    obtain ⟨f, rfl⟩ : ∃ f, fuel = f + 1 := ⟨fuel - 1, by omega⟩
    have hk21 : k = 21 := by omega
    subst hk21
    have h1 : (20 : Int32) < nI 21 := by decide
    rw [P_L_law_L17, F_L_law_L17, if_pos h1]
    exact ⟨⟨fun _ => trivial, fun q => absurd h1 q⟩, h, hz, ha⟩
  | succ t ih =>
    intro k hk fuel st all hf h hz ha
    obtain ⟨f, rfl⟩ : ∃ f, fuel = f + 1 := ⟨fuel - 1, by omega⟩
    have h1 : ¬ (20 : Int32) < nI k := Int32.not_lt.mpr (nI_le (b := 20) (by omega) (by decide))
    obtain ⟨a1, a2, a3⟩ := ways_0 h (d := k) (by omega)
    obtain ⟨x7, e7⟩ : ∃ z, z = (F_S_ways st (nI k) 0).2 := ⟨_, rfl⟩
    have z7 : q_size x7 = 0 := by rw [e7, ways_sz]; exact hz
    rw [← e7] at a3
    obtain ⟨b1, b2, b3⟩ := ways_1 a3 (d := k) (by omega)
    obtain ⟨x11, e11⟩ : ∃ z, z = (F_S_ways x7 (nI k) 1).2 := ⟨_, rfl⟩
    have z11 : q_size x11 = 0 := by rw [e11, ways_sz]; exact z7
    rw [← e11] at b3
    have hs : all + nI (liesOf k) = nI (sumW (k + 1)) := by rw [ha, nI_add]; rfl
    rw [P_L_law_L17, F_L_law_L17, if_neg h1]
    by_cases q : 16 < k
    · have c1 : (16 : Int32) < nI k := nI_lt (a := 16) q (by omega)
      have K := ih (k + 1) (by omega) f x11 (all + nI (liesOf k)) (by omega) b3 z11 hs
      simp only [forall_eq, a2, ← e7, b2, ← e11, if_pos c1, nI_1]
      refine ⟨⟨fun z => absurd z h1, fun _ => ⟨a1, b1, True.intro, ⟨fun _ => trivial, fun _ => ?_⟩, ⟨fun _ => trivial, fun z => absurd c1 z⟩, K.1⟩⟩, K.2⟩
      rw [lies_none q (by omega)]
      rfl
    · have c1 : ¬ (16 : Int32) < nI k := Int32.not_lt.mpr (nI_le (b := 16) (by omega) (by decide))
      have c2 : nI k ≤ 16 := nI_le (b := 16) (by omega) (by decide)
      have e16 : (16 : Int32) - nI k = nI (16 - k) := nI_sub (a := 16) (by omega) (by decide)
      obtain ⟨d1, d2, d3⟩ := ways_0 b3 (d := 16 - k) (by omega)
      have z18 : q_size (F_S_ways x11 (nI (16 - k)) 0).2 = 0 := by rw [ways_sz]; exact z11
      have K := ih (k + 1) (by omega) f _ (all + nI (liesOf k)) (by omega) d3 z18 hs
      simp only [forall_eq, a2, ← e7, b2, ← e11, if_neg c1, e16, nI_1, d2]
      refine ⟨⟨fun z => absurd z h1, fun _ => ⟨a1, b1, True.intro, ⟨fun _ => trivial, fun z => absurd c2 z⟩, ⟨fun z => absurd z c1, fun _ => ⟨d1, ?_⟩⟩, K.1⟩⟩, K.2⟩
      rw [lies_sym (by omega)]
theorem cell_P {n_ j : Nat} (hn : n_ ≤ 260) (hj : j < 1000) : P_L_cell n_ (nI j) := fun q => by
  refine vp_in_nI ?_ (by omega)
  rcases Nat.lt_or_ge j n_ with z | z
  · exact z
  · exact absurd (show nI n_ ≤ nI j from nI_le z (by omega)) q
/-- the law's turns, one after the other -/
theorem ml_loop {n_ : Nat} (hn : n_ ≤ 260) (xs : Nat → Int32) : ∀ (t e : Nat), e + t = 90 → ∀ (fuel : Nat) (st : St) (g : Nat → Int32), t < fuel → Inv st → P_L_law_L120 n_ xs fuel st g (nI e) := by
  intro t
  induction t with
  | zero =>
    intro e he fuel st g hf h
    obtain ⟨f, rfl⟩ : ∃ f, fuel = f + 1 := ⟨fuel - 1, by omega⟩
    have h1 : (90 : Int32) ≤ nI e := nI_le (a := 90) (by omega) (by omega)
    rw [P_L_law_L120]
    exact ⟨fun _ => trivial, fun q => absurd h1 q⟩
  | succ t ih =>
    intro e he fuel st g hf h
    obtain ⟨f, rfl⟩ : ∃ f, fuel = f + 1 := ⟨fuel - 1, by omega⟩
    have h1 : ¬ (90 : Int32) ≤ nI e := nI_ge (b := 90) (by omega) (by decide)
    have m2 : (2 : Int32) * nI e = nI (2 * e) := pk_mul 2 e
    rw [P_L_law_L120]
    refine ⟨fun q => absurd q h1, fun _ => ?_⟩
    rw [m2, nI_1]
    refine ⟨cell_P hn (by omega), ?_⟩
    intro r36 _
    refine ⟨cell_P hn (by omega), ?_⟩
    intro r38 _
    refine ⟨does_P h r36 r38, ?_⟩
    intro x41 e41
    have h41 : Inv x41 := by rw [e41]; exact does_I h r36 r38
    intro r42 e42
    obtain ⟨k, hk, ek⟩ := low5 (r36 >>> ((5 : Int32) &&& 31))
    rw [ek] at e42
    rw [e42]
    refine ⟨isLetter_ok h41 hk g, ?_⟩
    intro g45 _
    refine ⟨⟨fun _ => isStore_ok h41, fun _ => trivial⟩, ⟨fun _ => ?_, fun _ => trivial⟩, ?_⟩
    · intro r50 e50
      obtain ⟨j, hj, ej⟩ := low5 (r36 >>> ((9 : Int32) &&& 31))
      rw [ej] at e50
      rw [e50]
      exact isLeast_ok h41 hj g45
    · intro g54 _ x55 e55
      rw [e55, nI_1]
      exact ih (e + 1) (by omega) f x41 g54 (by omega) h41
theorem cnt6 (st : St) : F_S_count st 6 = q_size st := rfl
theorem law_P {st : St} (h : Inv st) (hz : q_size st = 0) {n_ : Nat} (hn : n_ ≤ 260) (xs : Nat → Int32) (fA : Nat → Int32) : P_L_law st fA n_ xs := by
  have W := wl_loop 21 0 (by omega) 22 st 0 (by omega) h hz rfl
  rw [show nI 0 = 0 from rfl] at W
  unfold P_L_law
  refine ⟨W.1, ?_⟩
  intro f22 e22
  have h22 : Inv f22 := by rw [e22]; exact W.2.1
  have z22 : q_size f22 = 0 := by rw [e22]; exact W.2.2.1
  intro z23 e23 z24 e24
  refine ⟨?_, isStore_ok h22, count_P h22 (w := 6) (by decide), ?_⟩
  · rw [e23, W.2.2.2]; decide +kernel
  · intro r29 e29
    refine ⟨?_, ?_⟩
    · rw [e29, cnt6, z22]
    · exact ml_loop hn xs 90 0 (by omega) 91 f22 fA (by omega) h22
def st_0 (PS AS : Nat → Nat) (LS hS_ vS : Nat → Nat → Nat) : St := mkS (fun _ => 1672) (fun _ => 0) (fun _ => 0) (fun _ => 0) (fun _ _ => 0) PS AS LS hS_ vS (fun _ _ => 1672) (fun _ _ => 0) (fun _ _ => 0) (fun _ _ => 0) (fun _ _ _ => 0) 0 (fun _ => 0) (fun _ => 0) (fun _ => 0) 0
theorem inv_0 (PS AS : Nat → Nat) (LS hS_ vS : Nat → Nat → Nat) : Inv (st_0 PS AS LS hS_ vS) := by
  refine ⟨fun k hk => ⟨0, 0, by decide, rfl, fun j hj => absurd hj (Nat.not_lt_zero _), rfl, by decide, rfl, fun p hp q => ?_⟩, ⟨0, by decide, rfl⟩, Or.inl ⟨rfl, fun j _ => rfl⟩⟩
  rw [Nat.zero_div] at q
  exact absurd q (by decide)

/-- a word without its brackets -/
def nth : List Int32 → Nat → Int32
  | [], _ => 0
  | x :: _, 0 => x
  | _ :: xs, n + 1 => nth xs n
theorem nth_l : ∀ (a b : List Int32) (j : Nat), j < a.length → nth (a ++ b) j = nth a j := by
  intro a
  induction a with
  | nil => intro b j h; exact absurd h (Nat.not_lt_zero _)
  | cons x xs ih =>
    intro b j h
    cases j with
    | zero => rfl
    | succ j => exact ih b j (Nat.lt_of_succ_lt_succ h)
theorem nth_r : ∀ (a b : List Int32) (j : Nat), nth (a ++ b) (a.length + j) = nth b j := by
  intro a
  induction a with
  | nil => intro b j; rw [List.nil_append, List.length_nil, Nat.zero_add]
  | cons x xs ih =>
    intro b j
    rw [List.length_cons, show xs.length + 1 + j = (xs.length + j) + 1 by omega]
    exact ih b j
def rep (V : List Int32) : Nat → List Int32
  | 0 => []
  | n + 1 => V ++ rep V n
theorem rep_len (V : List Int32) : ∀ n, (rep V n).length = n * V.length := by
  intro n
  induction n with
  | zero => rw [rep, Nat.zero_mul]; rfl
  | succ n ih => rw [rep, List.length_append, ih, Nat.succ_mul, Nat.add_comm]
theorem rep_snoc (V : List Int32) : ∀ n, rep V (n + 1) = rep V n ++ V := by
  intro n
  induction n with
  | zero =>
    show V ++ [] = [] ++ V
    rw [List.append_nil, List.nil_append]
  | succ n ih => rw [rep, ih, ← List.append_assoc, ← rep, ih]
theorem rep_per (V : List Int32) (n j : Nat) (h1 : V.length ≤ j) (h2 : j < (rep V n).length) : nth (rep V n) j = nth (rep V n) (j - V.length) := by
  cases n with
  | zero => exact absurd h2 (Nat.not_lt_zero _)
  | succ n =>
    rw [rep_len, Nat.succ_mul] at h2
    have e1 : nth (rep V (n + 1)) j = nth (rep V n) (j - V.length) := by
      rw [rep, show j = V.length + (j - V.length) by omega, nth_r]
      congr 1
      omega
    rw [e1, rep_snoc, nth_l]
    rw [rep_len]; omega
def figN (c : Int32) : Nat := (c - 48).toNatClampNeg
def vs (T : Nat → Int32) : Nat → Nat → List Int32
  | 0 => fun _ => []
  | i + 1 => if wn T i = 2 then va_up (vs T i) (dn T i) (vs T i (dn T i) ++ rep (vs T i (dn T i + 1)) (figN (T i))) else if T i = 40 then va_up (vs T i) (dn T i + 1) [] else if T i = 41 then vs T i else va_up (vs T i) (dn T i) (vs T i (dn T i) ++ [T i - 48])
def ps (T : Nat → Int32) : Nat → Nat → Nat
  | 0 => fun _ => 0
  | i + 1 => if T i = 40 then va_up (ps T i) (dn T i) i else ps T i
def flat (V : Nat → List Int32) : Nat → List Int32
  | 0 => V 0
  | d + 1 => flat V d ++ V (d + 1)
def phi (V : Nat → List Int32) : Nat → Nat
  | 0 => (V 0).length
  | d + 1 => phi V d + (V (d + 1)).length * 9 ^ (d + 1)
def oN (T : Nat → Int32) (i : Nat) : Nat := dn T i + (if wn T i = 2 then 1 else 0)
theorem flat_ne {V : Nat → List Int32} {k : Nat} {x : List Int32} : ∀ d, d < k → flat (va_up V k x) d = flat V d := by
  intro d
  induction d with
  | zero => intro h; exact va_ne _ (by omega)
  | succ d ih => intro h; rw [flat, flat, ih (by omega), va_ne _ (by omega)]
theorem flat_eq {V : Nat → List Int32} {y : List Int32} (d : Nat) : flat (va_up V d (V d ++ y)) d = flat V d ++ y := by
  cases d with
  | zero => rw [flat, flat, va_same]
  | succ d => rw [flat, flat, va_same, flat_ne d (by omega), List.append_assoc]
theorem flat_open {V : Nat → List Int32} (d : Nat) : flat (va_up V (d + 1) []) (d + 1) = flat V d := by
  rw [flat, va_same, flat_ne d (by omega), List.append_nil]
theorem phi_ne {V : Nat → List Int32} {k : Nat} {x : List Int32} : ∀ d, d < k → phi (va_up V k x) d = phi V d := by
  intro d
  induction d with
  | zero => intro h; rw [phi, phi, va_ne _ (by omega)]
  | succ d ih => intro h; rw [phi, phi, ih (by omega), va_ne _ (by omega)]
theorem phi_eq {V : Nat → List Int32} {y : List Int32} (d : Nat) : phi (va_up V d (V d ++ y)) d = phi V d + y.length * 9 ^ d := by
  cases d with
  | zero => rw [phi, phi, va_same, List.length_append, Nat.pow_zero, Nat.mul_one]
  | succ d => rw [phi, phi, va_same, phi_ne d (by omega), List.length_append, Nat.add_mul, Nat.add_assoc]
theorem phi_open {V : Nat → List Int32} (d : Nat) : phi (va_up V (d + 1) []) (d + 1) = phi V d := by
  rw [phi, va_same, phi_ne d (by omega), List.length_nil, Nat.zero_mul, Nat.add_zero]
/-- what a fitting sign is -/
theorem fit_cases {T : Nat → Int32} {i : Nat} (h : fit T i = true) (hc : ∃ m, m < 127 ∧ T i = nI m) : (wn T i = 2 ∧ (∃ F, 2 ≤ F ∧ F ≤ 9 ∧ T i = nI (48 + F)) ∧ dn T (i + 1) = dn T i ∧ wn T (i + 1) = 1) ∨ (wn T i ≠ 2 ∧ T i = 40 ∧ dn T i < 5 ∧ dn T (i + 1) = dn T i + 1 ∧ wn T (i + 1) = 0) ∨ (wn T i = 1 ∧ T i = 41 ∧ 0 < dn T i ∧ dn T (i + 1) = dn T i - 1 ∧ wn T (i + 1) = 2) ∨ (wn T i ≠ 2 ∧ (∃ c, c < 4 ∧ T i = nI (48 + c)) ∧ dn T (i + 1) = dn T i ∧ wn T (i + 1) = 1) := by
  obtain ⟨m, hm, e⟩ := hc
  have N : ∀ k, k < 200 → k ≠ m → ¬ nI m = nI k := fun k hk hne q => hne ((nI_eq (by omega) (by omega)).mp q).symm
  unfold fit fitC at h
  rw [e] at h
  have big : m ≠ 40 → m ≠ 41 → dn T (i + 1) = dn T i ∧ wn T (i + 1) = 1 := by
    intro h1 h2
    rw [dn, wn, e]
    unfold dnC wnC
    have n40 : ¬ nI m = 40 := N 40 (by omega) (Ne.symm h1)
    have n41 : ¬ nI m = 41 := N 41 (by omega) (Ne.symm h2)
    rw [if_neg n40, if_neg n41, if_neg n40, if_neg n41]
    exact ⟨rfl, rfl⟩
  by_cases hw : wn T i = 2
  · rw [if_pos hw, Bool.and_eq_true, decide_eq_true_eq, decide_eq_true_eq] at h
    have h1 : 50 ≤ m := Nat.le_of_not_lt (fun q => nI_ge (b := 50) q (by decide) h.1)
    have h2 : m ≤ 57 := Nat.le_of_not_lt (fun q => nI_ge (a := 57) q (by omega) h.2)
    obtain ⟨b1, b2⟩ := big (by omega) (by omega)
    exact Or.inl ⟨hw, ⟨m - 48, by omega, by omega, by rw [e]; congr 1; omega⟩, b1, b2⟩
  · rw [if_neg hw] at h
    simp only [Bool.or_eq_true, Bool.and_eq_true, decide_eq_true_eq] at h
    rcases h with (⟨h1, h2⟩ | ⟨⟨h1, h2⟩, h3⟩) | ⟨h1, h2⟩
    · refine Or.inr (Or.inl ⟨hw, by rw [e]; exact h1, h2, ?_, ?_⟩)
      · rw [dn, e]; unfold dnC; rw [if_pos h1]
      · rw [wn, e]; unfold wnC; rw [if_pos h1]
    · have n40 : ¬ nI m = 40 := fun q => by rw [h1] at q; exact absurd q (by decide)
      refine Or.inr (Or.inr (Or.inl ⟨h2, by rw [e]; exact h1, h3, ?_, ?_⟩))
      · rw [dn, e]; unfold dnC; rw [if_neg n40, if_pos h1]
      · rw [wn, e]; unfold wnC; rw [if_neg n40, if_pos h1]
    · have h3 : 48 ≤ m := Nat.le_of_not_lt (fun q => nI_ge (b := 48) q (by decide) h1)
      have h4 : m ≤ 51 := Nat.le_of_not_lt (fun q => nI_ge (a := 51) q (by omega) h2)
      obtain ⟨b1, b2⟩ := big (by omega) (by omega)
      exact Or.inr (Or.inr (Or.inr ⟨hw, ⟨m - 48, by omega, by rw [e]; congr 1; omega⟩, b1, b2⟩))
theorem sub48 (a : Nat) : nI (48 + a) - 48 = nI a := by rw [← nI_add, Int32.add_comm, show (48 : Int32) = nI 48 from rfl, Int32.add_sub_cancel]
theorem fig_eq {F : Nat} (h : F < 100) : figN (nI (48 + F)) = F := by unfold figN; rw [sub48, nI_clamp (by omega)]
theorem not40 {a : Nat} (h : a < 100) : ¬ nI (48 + a) = 40 := fun q => by
  have := (nI_eq (b := 40) (by omega) (by decide)).mp q
  omega
theorem not41 {a : Nat} (h : a < 100) : ¬ nI (48 + a) = 41 := fun q => by
  have := (nI_eq (b := 41) (by omega) (by decide)).mp q
  omega
/-- what comes next to each -/
theorem vs_fig {T : Nat → Int32} {i F : Nat} (hw : wn T i = 2) (hF : F < 100) (e : T i = nI (48 + F)) : vs T (i + 1) = va_up (vs T i) (dn T i) (vs T i (dn T i) ++ rep (vs T i (dn T i + 1)) F) := by
  rw [vs, if_pos hw, e, fig_eq hF]
theorem vs_open {T : Nat → Int32} {i : Nat} (hw : wn T i ≠ 2) (e : T i = 40) : vs T (i + 1) = va_up (vs T i) (dn T i + 1) [] := by
  rw [vs, if_neg hw, if_pos e]
theorem vs_close {T : Nat → Int32} {i : Nat} (hw : wn T i = 1) (e : T i = 41) : vs T (i + 1) = vs T i := by
  rw [vs, if_neg (by rw [hw]; decide), if_neg (by rw [e]; decide), if_pos e]
theorem vs_crease {T : Nat → Int32} {i c : Nat} (hw : wn T i ≠ 2) (hc : c < 100) (e : T i = nI (48 + c)) : vs T (i + 1) = va_up (vs T i) (dn T i) (vs T i (dn T i) ++ [nI c]) := by
  rw [vs, if_neg hw, e, if_neg (not40 hc), if_neg (not41 hc), sub48]
theorem o_fig {T : Nat → Int32} {i : Nat} (hw : wn T i = 2) : oN T i = dn T i + 1 := by unfold oN; rw [if_pos hw]
theorem o_non {T : Nat → Int32} {i : Nat} (hw : wn T i ≠ 2) : oN T i = dn T i := by unfold oN; rw [if_neg hw]; rfl
theorem ne12 {w : Int32} (h : w = 1) : w ≠ 2 := by rw [h]; decide
theorem ne02 {w : Int32} (h : w = 0) : w ≠ 2 := by rw [h]; decide
theorem pow9 {d : Nat} (h : d ≤ 5) : 9 ^ d ≤ 59049 := Nat.pow_le_pow_right (by decide) h
theorem phi_ok {B : Nat} {T : Nat → Int32} (hc : ∀ j, j < B → ∃ m, m < 127 ∧ T j = nI m) (hf : ∀ j, j < B → fit T j = true) : ∀ i, i ≤ B → phi (vs T i) (oN T i) ≤ i * 59049 ∧ oN T i ≤ 5 := by
  intro i
  induction i with
  | zero => intro _; exact ⟨Nat.zero_le _, Nat.zero_le _⟩
  | succ i ih =>
    intro hi
    obtain ⟨h1, h2⟩ := ih (by omega)
    rcases fit_cases (hf i (by omega)) (hc i (by omega)) with ⟨hw, ⟨F, hF1, hF2, e⟩, hd, hw'⟩ | ⟨hw, e, hd5, hd, hw'⟩ | ⟨hw, e, hd0, hd, hw'⟩ | ⟨hw, ⟨c, hc4, e⟩, hd, hw'⟩
    · rw [o_fig hw] at h1 h2
      rw [o_non (ne12 hw'), hd, vs_fig hw (by omega) e, phi_eq, rep_len]
      rw [phi, Nat.pow_succ] at h1
      have : F * (vs T i (dn T i + 1)).length * 9 ^ dn T i ≤ (vs T i (dn T i + 1)).length * (9 ^ dn T i * 9) := by
        rw [Nat.mul_comm F, Nat.mul_assoc]
        refine Nat.mul_le_mul_left _ ?_
        rw [Nat.mul_comm]
        exact Nat.mul_le_mul_left _ hF2
      omega
    · rw [o_non hw] at h1 h2
      rw [o_non (ne02 hw'), hd, vs_open hw e, phi_open]
      omega
    · rw [o_non (ne12 hw)] at h1 h2
      rw [o_fig hw', hd, vs_close hw e, show dn T i - 1 + 1 = dn T i by omega]
      omega
    · rw [o_non hw] at h1 h2
      rw [o_non (ne12 hw'), hd, vs_crease hw (by omega) e, phi_eq]
      have := pow9 h2
      rw [List.length_cons, List.length_nil]
      omega
theorem nI_sub {a b : Nat} (h : b ≤ a) : nI a - nI b = nI (a - b) := by
  have : nI a = nI (a - b) + nI b := by rw [nI_add]; congr 1; omega
  rw [this, Int32.add_sub_cancel]
def m60 (n : Nat) : Nat := if n < 60 then n else 60
theorem m60_le (n : Nat) : m60 n ≤ 60 := by unfold m60; split <;> omega
theorem m60_lt {n : Nat} (h : n < 60) : m60 n = n := if_pos h
theorem m60_ge {n : Nat} (h : 60 ≤ n) : m60 n = 60 := if_neg (by omega)
theorem isFull_lt {M : Nat} (h : M < 60) : F_X6_isFull (nI M) = 0 := by
  unfold F_X6_isFull
  simp only [if_pos (show nI M < 60 from nI_lt (b := 60) h (by decide))]
theorem isFull_60 : F_X6_isFull (nI 60) = 1 := by decide
theorem row_add60 (f : Nat → Int32) (x : Int32) : P_X6_add (nI 60) ∧ F_X6_add (nI 60) f x = (nI 60, f) := by
  have h0 : ¬ nI 60 < 0 := by decide
  have h1 : (60 : Int32) ≤ nI 60 := by decide
  unfold P_X6_add F_X6_add
  simp only [if_neg h0, if_pos h1]
  exact ⟨⟨fun _ => trivial, fun _ => ⟨fun _ => trivial, fun q => absurd h1 q⟩⟩, True.intro⟩
theorem rp_loop {b : Nat} {L : List Int32} (hb : ∀ j, j < L.length → b ≤ j → 0 < b → True) (n0 : Nat) (hper : ∀ j, n0 ≤ j → j < L.length → 0 < b ∧ b ≤ j ∧ nth L (j - b) = nth L j) : ∀ (t M : Nat), M + t = 60 → n0 ≤ M → M ≤ L.length → L.length < 2 ^ 31 → ∀ fuel f, t < fuel → (∀ j, j < M → f j = nth L j) → P_X8_repeatLast_L93 (nI b) fuel (nI M) f (nI (L.length - M)) ∧ (F_X8_repeatLast_L93 (nI b) fuel (nI M) f (nI (L.length - M))).1 = nI (m60 L.length) ∧ ∀ j, j < m60 L.length → (F_X8_repeatLast_L93 (nI b) fuel (nI M) f (nI (L.length - M))).2.1 j = nth L j := by
  intro t
  induction t with
  | zero =>
    intro M hM hn hl hl2 fuel f hf hfj
    obtain ⟨g, rfl⟩ : ∃ g, fuel = g + 1 := ⟨fuel - 1, by omega⟩
    have hM60 : M = 60 := by omega
    subst hM60
    rw [P_X8_repeatLast_L93, F_X8_repeatLast_L93, m60_ge hl]
    simp only [forall_eq, isFull_60, i10, if_false, false_implies, true_and, not_false_eq_true, implies_true, and_true]
    split
    · exact ⟨rfl, hfj⟩
    · exact ⟨rfl, hfj⟩
  | succ t ih =>
    intro M hM hn hl hl2 fuel f hf hfj
    obtain ⟨g, rfl⟩ : ∃ g, fuel = g + 1 := ⟨fuel - 1, by omega⟩
    rw [P_X8_repeatLast_L93, F_X8_repeatLast_L93]
    by_cases hz : L.length = M
    · have h0 : nI (L.length - M) ≤ 0 := by rw [hz, Nat.sub_self]; decide
      rw [if_pos h0, hz, m60_lt (by omega)]
      exact ⟨⟨fun _ => trivial, fun q => absurd (by rw [Nat.sub_self]; decide) q⟩, rfl, hfj⟩
    · obtain ⟨p1, p2, p3⟩ := hper M hn (by omega)
      have h0 : ¬ nI (L.length - M) ≤ 0 := nI_ge (a := 0) (by omega) (by omega)
      have A := row_at f (N := M) (j := M - b) (by omega) (by omega)
      rw [hfj (M - b) (by omega), p3] at A
      have R := row_add f (nth L M) (N := M) (by omega)
      have K := ih (M + 1) (by omega) (by omega) (by omega) hl2 g (upd f M (nth L M)) (by omega) (fun j hj => by
        by_cases q : j = M
        · rw [q, upd_same]
        · rw [upd_ne _ q]; exact hfj j (by omega))
      have e1 : nI (L.length - M) + -1 = nI (L.length - (M + 1)) := by
        rw [show L.length - M = (L.length - (M + 1)) + 1 by omega, ← nI_1, Int32.add_assoc, show (1 : Int32) + -1 = 0 by decide, Int32.add_zero]
      unfold F_X6_size
      rw [if_neg h0]
      simp only [forall_eq, isFull_lt (show M < 60 by omega), i00, if_true, nI_sub p2, A.2, R.2, e1, true_implies, not_true_eq_false, false_implies, and_true]
      exact ⟨⟨fun q => absurd q h0, fun _ => ⟨A.1, R.1, K.1⟩⟩, K.2⟩
/-- the class repeats what stands in a bracket -/
theorem repeat_ok {Pl Ql : List Int32} {F o : Nat} {N : Int32} {f hb sb : Nat → Int32} (hF1 : 2 ≤ F) (hF2 : F ≤ 9) (ho : o < 5) (hlen : (Pl ++ rep Ql F).length < 2 ^ 31) (hN : N = nI (m60 (Pl ++ Ql).length)) (hfj : ∀ j, j < m60 (Pl ++ Ql).length → f j = nth (Pl ++ Ql) j) (hhb : hb o = nI (m60 Pl.length)) (hsb : sb o = nI Pl.length) : P_X8_repeatLast N f hb sb (nI (o + 1)) (nI (Pl ++ Ql).length) (nI F) ∧ (F_X8_repeatLast N f hb sb (nI (o + 1)) (nI (Pl ++ Ql).length) (nI F)).1 = nI (m60 (Pl ++ rep Ql F).length) ∧ (∀ j, j < m60 (Pl ++ rep Ql F).length → (F_X8_repeatLast N f hb sb (nI (o + 1)) (nI (Pl ++ Ql).length) (nI F)).2.1 j = nth (Pl ++ rep Ql F) j) ∧ (F_X8_repeatLast N f hb sb (nI (o + 1)) (nI (Pl ++ Ql).length) (nI F)).2.2.1 = nI o ∧ (F_X8_repeatLast N f hb sb (nI (o + 1)) (nI (Pl ++ Ql).length) (nI F)).2.2.2 = nI (Pl ++ rep Ql F).length := by
  obtain ⟨G, rfl⟩ : ∃ G, F = G + 1 := ⟨F - 1, by omega⟩
  have eL : (Pl ++ Ql).length = Pl.length + Ql.length := List.length_append
  have eL' : (Pl ++ rep Ql (G + 1)).length = Pl.length + (G * Ql.length + Ql.length) := by rw [List.length_append, rep_len, Nat.succ_mul]
  have c1 : ¬ nI (o + 1) ≤ 0 := nI_ge (a := 0) (by omega) (by omega)
  have c2 : ¬ (5 : Int32) < nI (o + 1) := Int32.not_lt.mpr (nI_le (b := 5) (by omega) (by decide))
  have c3 : nI (o + 1) ≤ (5 : Int32) := nI_le (b := 5) (by omega) (by decide)
  have eS : nI (Pl.length + Ql.length) + (nI (Pl.length + Ql.length) - nI Pl.length) * nI G = nI (Pl ++ rep Ql (G + 1)).length := by
    rw [nI_sub (by omega), nI_mul, nI_add, eL']
    congr 1
    rw [show Pl.length + Ql.length - Pl.length = Ql.length by omega, Nat.mul_comm]
    omega
  by_cases h60 : 60 ≤ Pl.length + Ql.length
  · have hbody : N - hb o = nI (60 - m60 Pl.length) := by
      rw [hN, hhb, eL, m60_ge h60, nI_sub (m60_le _)]
    have hge : 60 ≤ (Pl ++ rep Ql (G + 1)).length := by rw [eL']; omega
    rw [eL, m60_ge h60] at hN hfj
    rw [m60_ge hge]
    have LP : ∀ z : Int32, P_X8_repeatLast_L93 (nI (60 - m60 Pl.length)) 62 N f z ∧ (F_X8_repeatLast_L93 (nI (60 - m60 Pl.length)) 62 N f z).1 = nI 60 ∧ (F_X8_repeatLast_L93 (nI (60 - m60 Pl.length)) 62 N f z).2.1 = f := by
      intro z
      rw [hN, P_X8_repeatLast_L93, F_X8_repeatLast_L93]
      simp only [forall_eq, isFull_60, i10, if_false, false_implies, true_and, not_false_eq_true, implies_true, and_true]
      split
      · exact ⟨rfl, rfl⟩
      · exact ⟨rfl, rfl⟩
    unfold P_X8_repeatLast F_X8_repeatLast F_X6_size
    simp only [forall_eq, if_neg c1, if_neg c2, if_pos c3, nI_sub1, ck (show o < 5 from ho), hsb, hbody, eL, eS, (LP _).2.1, (LP _).2.2]
    refine ⟨⟨fun q => absurd q c1, fun _ => ⟨fun q => absurd q c2, fun _ => ⟨fun _ => ⟨vp_in_nI ho (by decide), vp_in_nI ho (by decide), (LP _).1⟩, fun q => absurd c3 q⟩⟩⟩, True.intro, fun j hj => ?_, True.intro, True.intro⟩
    rw [hfj j hj, rep, ← List.append_assoc, nth_l (Pl ++ Ql) (rep Ql G) j (by rw [eL]; omega)]
  · have hl60 : Pl.length + Ql.length < 60 := by omega
    rw [eL, m60_lt hl60] at hN hfj
    rw [m60_lt (by omega)] at hhb
    have hbody : N - hb o = nI Ql.length := by
      rw [hN, hhb, nI_sub (by omega)]
      congr 1
      omega
    have hleft : nI Ql.length * nI G = nI ((Pl ++ rep Ql (G + 1)).length - (Pl.length + Ql.length)) := by
      rw [nI_mul, eL']
      congr 1
      rw [Nat.mul_comm]
      omega
    have K := rp_loop (b := Ql.length) (L := Pl ++ rep Ql (G + 1)) (fun _ _ _ _ => trivial) (Pl.length + Ql.length) (fun j h1 h2 => by
      have hq : 0 < Ql.length := by
        rcases Nat.eq_zero_or_pos Ql.length with z | z
        · rw [eL', z, Nat.mul_zero] at h2; omega
        · exact z
      refine ⟨hq, by omega, ?_⟩
      have r := rep_per Ql (G + 1) (j - Pl.length) (by omega) (by rw [rep_len, Nat.succ_mul]; rw [eL'] at h2; omega)
      rw [show j = Pl.length + (j - Pl.length) by omega, nth_r, r, show Pl.length + (j - Pl.length) - Ql.length = Pl.length + (j - Pl.length - Ql.length) by omega, nth_r]) (60 - (Pl.length + Ql.length)) (Pl.length + Ql.length) (by omega) (Nat.le_refl _) (by rw [eL']; omega) hlen 62 f (by omega) (fun j hj => by rw [hfj j hj, rep, ← List.append_assoc, nth_l (Pl ++ Ql) (rep Ql G) j (by rw [eL]; exact hj)])
    rw [← hN] at K
    unfold P_X8_repeatLast F_X8_repeatLast F_X6_size
    simp only [forall_eq, if_neg c1, if_neg c2, if_pos c3, nI_sub1, ck (show o < 5 from ho), hsb, hbody, eL, eS, hleft, K.2.1]
    exact ⟨⟨fun q => absurd q c1, fun _ => ⟨fun q => absurd q c2, fun _ => ⟨fun _ => ⟨vp_in_nI ho (by decide), vp_in_nI ho (by decide), K.1⟩, fun q => absurd c3 q⟩⟩⟩, True.intro, K.2.2, True.intro, True.intro⟩

def nL (n : Nat) : Int64 := Int64.ofNat n
theorem nL_1 (n : Nat) : nL n + 1 = nL (n + 1) := (Int64.ofNat_add n 1).symm
theorem nL_m1 (n : Nat) : nL (n + 1) - 1 = nL n := by rw [← nL_1, Int64.add_sub_cancel]
theorem y1000 {y : Nat} (h : y < 1000) : ¬ (1000 : Int32) ≤ nI y := nI_ge (b := 1000) h (by decide)
/-- while the number is 2 or more -/
theorem od_up {c : Nat} : ∀ (j : Nat) (x : UInt64) (q : Int) (E y fuel : Nat), Nm x c q → q = -52 + (j : Int) → j ≤ 100 → j < fuel → y + j < 1000 → P_X0_ofDouble_L18 fuel x (nL E) (nI y) ∧ Nm (F_X0_ofDouble_L18 fuel x (nL E) (nI y)).1 c (-52) ∧ (F_X0_ofDouble_L18 fuel x (nL E) (nI y)).2.1 = nL (E + j) := by
  intro j
  induction j with
  | zero =>
    intro x q E y fuel h hq hj hf hy
    obtain ⟨f, rfl⟩ : ∃ f, fuel = f + 1 := ⟨fuel - 1, by omega⟩
    have hq' : q = -52 := by omega
    subst hq'
    have C := (cmp_two h).2 (by omega)
    rw [P_X0_ofDouble_L18, F_X0_ofDouble_L18, if_neg (y1000 (by omega)), if_pos C]
    exact ⟨⟨fun _ => trivial, fun _ => ⟨fun _ => trivial, fun z => absurd C z⟩⟩, h, rfl⟩
  | succ j ih =>
    intro x q E y fuel h hq hj hf hy
    obtain ⟨f, rfl⟩ : ∃ f, fuel = f + 1 := ⟨fuel - 1, by omega⟩
    have C := (cmp_two h).1 (by omega)
    have H := nm_half h (by omega) (by omega)
    have K := ih _ (q - 1) (E + 1) (y + 1) f H (by omega) (by omega) (by omega) (by omega)
    rw [P_X0_ofDouble_L18, F_X0_ofDouble_L18, if_neg (y1000 (by omega)), if_neg C]
    simp only [forall_eq, nI_1, nL_1]
    rw [show E + (j + 1) = E + 1 + j by omega]
    exact ⟨⟨fun _ => trivial, fun _ => ⟨fun z => absurd z C, fun _ => ⟨nn64 H.1, K.1⟩⟩⟩, K.2⟩
theorem od_up0 {c : Nat} {x : UInt64} {q : Int} {E y f : Nat} (h : Nm x c q) (hq : q < -51) (hy : y < 1000) : P_X0_ofDouble_L18 (f + 1) x (nL E) (nI y) ∧ (F_X0_ofDouble_L18 (f + 1) x (nL E) (nI y)).1 = x ∧ (F_X0_ofDouble_L18 (f + 1) x (nL E) (nI y)).2.1 = nL E := by
  have C := (cmp_two h).2 hq
  rw [P_X0_ofDouble_L18, F_X0_ofDouble_L18, if_neg (y1000 hy), if_pos C]
  exact ⟨⟨fun _ => trivial, fun _ => ⟨fun _ => trivial, fun z => absurd C z⟩⟩, rfl, rfl⟩
/-- while the number is below 1 -/
theorem od_down {c : Nat} : ∀ (j : Nat) (x : UInt64) (q : Int) (E y fuel : Nat), Nm x c q → q = -52 - (j : Int) → j ≤ 100 → j < fuel → y + j < 1000 → P_X0_ofDouble_L55 fuel x (nL (E + j)) (nI y) ∧ Nm (F_X0_ofDouble_L55 fuel x (nL (E + j)) (nI y)).1 c (-52) ∧ (F_X0_ofDouble_L55 fuel x (nL (E + j)) (nI y)).2.1 = nL E := by
  intro j
  induction j with
  | zero =>
    intro x q E y fuel h hq hj hf hy
    obtain ⟨f, rfl⟩ : ∃ f, fuel = f + 1 := ⟨fuel - 1, by omega⟩
    have hq' : q = -52 := by omega
    subst hq'
    have C := (cmp_one h).1 (by omega)
    rw [P_X0_ofDouble_L55, F_X0_ofDouble_L55, if_neg (y1000 (by omega)), if_pos C]
    exact ⟨⟨fun _ => trivial, fun _ => ⟨fun _ => trivial, fun z => absurd C z⟩⟩, h, rfl⟩
  | succ j ih =>
    intro x q E y fuel h hq hj hf hy
    obtain ⟨f, rfl⟩ : ∃ f, fuel = f + 1 := ⟨fuel - 1, by omega⟩
    have C := (cmp_one h).2 (by omega)
    have H := nm_double h (by omega) (by omega)
    have K := ih _ (q + 1) E (y + 1) f H (by omega) (by omega) (by omega) (by omega)
    rw [P_X0_ofDouble_L55, F_X0_ofDouble_L55, if_neg (y1000 (by omega)), if_neg C]
    simp only [forall_eq, nI_1]
    rw [show E + (j + 1) = (E + j) + 1 by omega, nL_m1]
    exact ⟨⟨fun _ => trivial, fun _ => ⟨fun z => absurd z C, fun _ => ⟨nn64 H.1, K.1⟩⟩⟩, K.2⟩
theorem fin_mk {c c' : Nat} {q q' : Int} (h : c = c') (h2 : q = q') : FP.Core.Datum.fin false c q = FP.Core.Datum.fin false c' q' := by rw [h, h2]
/-- what is behind the leading digit -/
theorem frac_ok {x : UInt64} {c : Nat} (h : Nm x c (-52)) : vf_n64 (FP.dsub x FP.dconst1) ∧ vf_n64 (FP.dmul (FP.dsub x FP.dconst1) 4841369599423283200) ∧ FP.d2l (FP.dmul (FP.dsub x FP.dconst1) 4841369599423283200) = nL (c - 2 ^ 52) := by
  obtain ⟨h0, hc1, hc2⟩ := h
  obtain ⟨t, ht⟩ : ∃ t, t = c - 2 ^ 52 := ⟨_, rfl⟩
  have htl : t < 2 ^ 52 := by omega
  have hsum : FP.Core.sumUnits false c (-52) true (2 ^ 52) (-52) (min (-52) (-52)) = (t : Int) := by
    unfold FP.Core.sumUnits FP.Core.inUnits
    rw [show ((-52 : Int) - min (-52) (-52)).toNat = 0 by decide, Nat.pow_zero, Nat.mul_one, Nat.mul_one]
    show (c : Int) + -((2 ^ 52 : Nat) : Int) = (t : Int)
    omega
  have hsgn : FP.Core.sumSign false true (t : Int) = false := by
    unfold FP.Core.sumSign
    split
    · rfl
    · exact decide_eq_false (by omega)
  have hs : FP.Core.val64 (FP.dsub x FP.dconst1) = FP.Core.roundRatio FP.Core.b64 false t 1 (-52) := by
    rw [FP.Core.val64_dsub, h0, v_one]
    show FP.Core.round FP.Core.b64 (FP.Core.Datum.fin (FP.Core.sumSign false true (FP.Core.sumUnits false c (-52) true (2 ^ 52) (-52) (min (-52) (-52)))) (FP.Core.sumUnits false c (-52) true (2 ^ 52) (-52) (min (-52) (-52))).natAbs (min (-52) (-52))) = _
    rw [hsum, hsgn, Int.natAbs_natCast, show min (-52 : Int) (-52) = -52 by decide]
    rfl
  have hL : (nL t).toInt = (t : Int) := Int64.toInt_ofNat_of_lt (by omega)
  rw [← ht]
  by_cases h00 : t = 0
  · have hs0 : FP.Core.val64 (FP.dsub x FP.dconst1) = FP.Core.Datum.fin false 0 FP.Core.b64.qmin := by
      rw [hs, h00]; rfl
    have hm0 : FP.Core.val64 (FP.dmul (FP.dsub x FP.dconst1) 4841369599423283200) = FP.Core.Datum.fin false 0 FP.Core.b64.qmin := by
      rw [FP.Core.val64_dmul, hs0, v_big]; rfl
    refine ⟨nn64 hs0, nn64 hm0, FP.Core.d2l_int ?_⟩
    rw [hL, h00]
    show FP.Core.Whole _ (FP.Core.val64 _)
    rw [hm0]
    show FP.Core.signed false (0 * 2 ^ (FP.Core.b64.qmin).toNat) = ((0 : Nat) : Int) * _
    rw [Nat.zero_mul, FP.Core.signed_zero, Int.natCast_zero, Int.zero_mul]
  · obtain ⟨k, hk⟩ : ∃ k, k = t.log2 := ⟨_, rfl⟩
    have k1 : 2 ^ k ≤ t := by rw [hk]; exact Nat.log2_self_le h00
    have k2 : t < 2 ^ (k + 1) := by rw [hk]; exact Nat.lt_log2_self
    have k52 : k < 52 := by
      rcases Nat.lt_or_ge k 52 with y | y
      · exact y
      · have : 2 ^ 52 ≤ 2 ^ k := Nat.pow_le_pow_right (by decide) y
        omega
    have c1 : 2 ^ 52 ≤ t * 2 ^ (52 - k) := by
      have : 2 ^ k * 2 ^ (52 - k) ≤ t * 2 ^ (52 - k) := Nat.mul_le_mul_right _ k1
      rw [← Nat.pow_add, show k + (52 - k) = 52 by omega] at this
      exact this
    have c2 : t * 2 ^ (52 - k) < 2 ^ 53 := by
      have : t * 2 ^ (52 - k) < 2 ^ (k + 1) * 2 ^ (52 - k) := Nat.mul_lt_mul_of_pos_right k2 (Nat.pow_pos (by decide))
      rw [← Nat.pow_add, show k + 1 + (52 - k) = 53 by omega] at this
      exact this
    have hs1 : FP.Core.val64 (FP.dsub x FP.dconst1) = FP.Core.Datum.fin false (t * 2 ^ (52 - k)) ((k : Int) - 104) := by
      rw [hs]
      refine FP.Core.roundRatio_exact FP.Core.good_b64 (by decide) (fits64 c1 c2 (by omega) (by omega)) ?_
      rw [show (-52 - ((k : Int) - 104)).toNat = 52 - k by omega, show ((k : Int) - 104 - -52).toNat = 0 by omega, Nat.pow_zero, Nat.mul_one, Nat.mul_one]
    have hm1 : FP.Core.val64 (FP.dmul (FP.dsub x FP.dconst1) 4841369599423283200) = FP.Core.Datum.fin false (t * 2 ^ (52 - k)) ((k : Int) - 52) := by
      rw [FP.Core.val64_dmul, hs1, v_big]
      show FP.Core.roundRatio FP.Core.b64 false (t * 2 ^ (52 - k) * 2 ^ 52) 1 ((k : Int) - 104 + 0) = _
      refine FP.Core.roundRatio_exact FP.Core.good_b64 (by decide) (fits64 c1 c2 (by omega) (by omega)) ?_
      rw [show ((k : Int) - 104 + 0 - ((k : Int) - 52)).toNat = 0 by omega, show ((k : Int) - 52 - ((k : Int) - 104 + 0)).toNat = 52 by omega, Nat.pow_zero, Nat.mul_one, Nat.mul_one]
    refine ⟨nn64 hs1, nn64 hm1, FP.Core.d2l_int ?_⟩
    rw [hL]
    show FP.Core.Whole _ (FP.Core.val64 _)
    rw [hm1]
    show ((t * 2 ^ (52 - k) * 2 ^ ((k : Int) - 52).toNat : Nat) : Int) = (t : Int) * ((2 ^ (-((k : Int) - 52)).toNat : Nat) : Int)
    rw [show ((k : Int) - 52).toNat = 0 by omega, show (-((k : Int) - 52)).toNat = 52 - k by omega, Nat.pow_zero, Nat.mul_one, Int.natCast_mul]
theorem bits_or {x : UInt64} {E t : Nat} (hE : E < 2047) (ht : t < 2 ^ 52) (hx : x.toNat = E * 2 ^ 52 + t) : (nL E <<< ((52 : Int32).toInt64 &&& 63)) ||| nL t = x.toInt64 := by
  apply Int64.toBitVec_inj.mp
  rw [Int64.toBitVec_or, Int64.toBitVec_shiftLeft, show (((52 : Int32).toInt64 &&& 63).toBitVec.smod 64) = 52#64 from by decide]
  apply BitVec.eq_of_toNat_eq
  rw [BitVec.toNat_or, BitVec.shiftLeft_eq', BitVec.toNat_shiftLeft]
  have a : (nL E).toBitVec.toNat = E := Nat.mod_eq_of_lt (show E < 2 ^ 64 by omega)
  have b : (nL t).toBitVec.toNat = t := Nat.mod_eq_of_lt (show t < 2 ^ 64 by omega)
  rw [a, b, show (52#64).toNat = 52 from rfl, Nat.shiftLeft_eq, Nat.mod_eq_of_lt (by omega), ← Nat.shiftLeft_eq, ← Nat.shiftLeft_add_eq_or_of_lt ht, Nat.shiftLeft_eq]
  exact hx.symm
theorem ofDouble_ok {x : UInt64} {c : Nat} {q : Int} (h : Nm x c q) (h1 : -62 ≤ q) (h2 : q ≤ -42) : P_X0_ofDouble x ∧ F_X0_ofDouble x = x.toInt64 := by
  have Z := cmp_zero h
  have B := bits_of h (by omega) (by omega)
  have hc := h.2
  by_cases hq : -52 ≤ q
  · obtain ⟨j, hj⟩ : ∃ j : Nat, q = -52 + (j : Int) := ⟨(q + 52).toNat, by omega⟩
    have U := od_up j x q 1023 0 12 h hj (by omega) (by omega) (by omega)
    have D := od_down 0 _ (-52) (1023 + j) 0 12 U.2.1 (by omega) (by omega) (by omega) (by omega)
    rw [show (q + 1075).toNat = 1023 + j by omega] at B
    rw [Nat.add_zero, ← U.2.2] at D
    rw [show nL 1023 = 1023 from rfl, show nI 0 = 0 from rfl] at U D
    have F := frac_ok D.2.1
    constructor
    · unfold P_X0_ofDouble
      simp only [forall_eq]
      exact ⟨fun _ => ⟨U.1, D.1, F.1, F.2.1⟩, fun z => absurd Z z⟩
    · unfold F_X0_ofDouble
      simp only [if_pos Z]
      rw [D.2.2, F.2.2, U.2.2]
      exact bits_or (by omega) (by omega) B
  · obtain ⟨j, hj⟩ : ∃ j : Nat, q = -52 - (j : Int) := ⟨(-52 - q).toNat, by omega⟩
    obtain ⟨E, hE⟩ : ∃ E : Nat, E + j = 1023 := ⟨1023 - j, by omega⟩
    have U := od_up0 (E := 1023) (y := 0) (f := 11) h (by omega) (by omega)
    have D := od_down j x q E 0 12 h hj (by omega) (by omega) (by omega)
    have F := frac_ok D.2.1
    rw [show (q + 1075).toNat = E by omega] at B
    rw [hE] at D F
    rw [show 11 + 1 = 12 from rfl, show nL 1023 = 1023 from rfl, show nI 0 = 0 from rfl] at U
    rw [show nL 1023 = 1023 from rfl, show nI 0 = 0 from rfl] at D F
    constructor
    · unfold P_X0_ofDouble
      simp only [forall_eq, U.2.1, U.2.2]
      exact ⟨fun _ => ⟨U.1, D.1, F.1, F.2.1⟩, fun z => absurd Z z⟩
    · unfold F_X0_ofDouble
      simp only [if_pos Z, U.2.1, U.2.2]
      rw [D.2.2, F.2.2]
      exact bits_or (by omega) (by omega) B
theorem longBits_ok {x : UInt64} {c : Nat} {q : Int} (h : Nm x c q) : F_Jxe99ae_doubleToLongBits_ccdee x = x.toInt64 := by
  have e : Op.cmpValue (FP.dcmp x x) CmpOp.l = 0 := by
    rw [dcmp_fin h.1 h.1, Int.compare_eq_eq.mpr rfl]
    rfl
  unfold F_Jxe99ae_doubleToLongBits_ccdee F_Jxe99ae_isNaN_b9ae7
  simp only [e, if_true]

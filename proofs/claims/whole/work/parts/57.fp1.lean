theorem v_two : FP.Core.val64 4611686018427387904 = FP.Core.Datum.fin false (2 ^ 52) (-51) := by decide +kernel
theorem v_big : FP.Core.val64 4841369599423283200 = FP.Core.Datum.fin false (2 ^ 52) 0 := by decide +kernel
theorem v_one : FP.Core.val64 FP.dconst1 = FP.Core.Datum.fin false (2 ^ 52) (-52) := by decide +kernel
theorem v_zero : FP.Core.val64 FP.dconst0 = FP.Core.Datum.fin false 0 (-1074) := by decide +kernel
/-- a double that is neither small nor negative -/
def Nm (x : UInt64) (c : Nat) (q : Int) : Prop := FP.Core.val64 x = FP.Core.Datum.fin false c q ∧ 2 ^ 52 ≤ c ∧ c < 2 ^ 53
theorem fits64 {c : Nat} {q : Int} (h1 : 2 ^ 52 ≤ c) (h2 : c < 2 ^ 53) (h3 : -1074 ≤ q) (h4 : q ≤ 900) : FP.Core.fits FP.Core.b64 (FP.Core.Datum.fin false c q) := by
  refine ⟨h2, ?_, ?_, Or.inr ?_⟩
  · rw [FP.Core.qmin_b64]; exact h3
  · have : FP.Core.b64.qmax = 971 := by decide
    rw [this]; omega
  · rw [FP.Core.tails_b64]; exact h1
theorem nn64 {x : UInt64} {c : Nat} {q : Int} (h : FP.Core.val64 x = FP.Core.Datum.fin false c q) : vf_n64 x := by
  have h1 : FP.Core.val64 x ≠ FP.Core.Datum.nan := by rw [h]; exact fun z => FP.Core.Datum.noConfusion z
  have h2 := (FP.Core.ne_nan x).mp h1
  unfold vf_n64
  rw [UInt64.le_iff_toNat_le, UInt64.toNat_and]
  rw [show (0x7fffffffffffffff : UInt64).toNat = 2 ^ 63 - 1 from rfl, Nat.and_two_pow_sub_one_eq_mod]
  exact h2
theorem nm_half {x : UInt64} {c : Nat} {q : Int} (h : Nm x c q) (h1 : -1073 ≤ q) (h2 : q ≤ 900) : Nm (FP.ddiv x 4611686018427387904) c (q - 1) := by
  obtain ⟨h0, hc1, hc2⟩ := h
  refine ⟨?_, hc1, hc2⟩
  rw [FP.Core.val64_ddiv, h0, v_two]
  show (if (2 ^ 52 : Nat) = 0 then (if c = 0 then FP.Core.Datum.nan else FP.Core.Datum.inf (false != false)) else FP.Core.roundRatio FP.Core.b64 (false != false) c (2 ^ 52) (q - -51)) = _
  rw [if_neg (by decide)]
  refine FP.Core.roundRatio_exact FP.Core.good_b64 (by decide) (fits64 hc1 hc2 (by omega) (by omega)) ?_
  rw [show (q - -51 - (q - 1)).toNat = 52 by omega, show (q - 1 - (q - -51)).toNat = 0 by omega, Nat.pow_zero, Nat.mul_one]
theorem nm_double {x : UInt64} {c : Nat} {q : Int} (h : Nm x c q) (h1 : -1074 ≤ q) (h2 : q ≤ 800) : Nm (FP.dmul x 4611686018427387904) c (q + 1) := by
  obtain ⟨h0, hc1, hc2⟩ := h
  refine ⟨?_, hc1, hc2⟩
  rw [FP.Core.val64_dmul, h0, v_two]
  show FP.Core.roundRatio FP.Core.b64 false (c * 2 ^ 52) 1 (q + -51) = _
  refine FP.Core.roundRatio_exact FP.Core.good_b64 (by decide) (fits64 hc1 hc2 (by omega) (by omega)) ?_
  rw [show (q + -51 - (q + 1)).toNat = 0 by omega, show (q + 1 - (q + -51)).toNat = 52 by omega, Nat.pow_zero, Nat.mul_one, Nat.mul_one]
theorem cv_lt {A B : Int} (h : A < B) (op : CmpOp) : Op.cmpValue (some (compare A B)) op = -1 := by rw [Int.compare_eq_lt.mpr h]; rfl
theorem cv_gt {A B : Int} (h : B < A) (op : CmpOp) : Op.cmpValue (some (compare A B)) op = 1 := by rw [Int.compare_eq_gt.mpr h]; rfl
theorem cv_ge {A B : Int} (h : B ≤ A) (op : CmpOp) : 0 ≤ Op.cmpValue (some (compare A B)) op := by
  by_cases q : B < A
  · rw [cv_gt q]; decide
  · rw [Int.compare_eq_eq.mpr (by omega)]
    show (0 : Int32) ≤ 0
    decide
theorem dcmp_fin {x y : UInt64} {c d : Nat} {q r : Int} (hx : FP.Core.val64 x = FP.Core.Datum.fin false c q) (hy : FP.Core.val64 y = FP.Core.Datum.fin false d r) : FP.dcmp x y = some (compare ((c * 2 ^ (q - min q r).toNat : Nat) : Int) ((d * 2 ^ (r - min q r).toNat : Nat) : Int)) := by
  show FP.Core.order (FP.Core.val64 x) (FP.Core.val64 y) = _
  rw [hx, hy]
  rfl
theorem cmp_two {x : UInt64} {c : Nat} {q : Int} (h : Nm x c q) : (-51 ≤ q → ¬ Op.cmpValue (FP.dcmp x 4611686018427387904) CmpOp.l < 0) ∧ (q < -51 → Op.cmpValue (FP.dcmp x 4611686018427387904) CmpOp.l < 0) := by
  obtain ⟨h0, hc1, hc2⟩ := h
  rw [dcmp_fin h0 v_two]
  refine ⟨fun hq => Int32.not_lt.mpr (cv_ge ?_ _), fun hq => ?_⟩
  · rw [show min q (-51) = -51 by omega, show (-51 - -51 : Int).toNat = 0 by decide, Nat.pow_zero, Nat.mul_one]
    have : c * 1 ≤ c * 2 ^ (q - -51).toNat := Nat.mul_le_mul_left _ (Nat.pow_pos (by decide))
    omega
  · rw [cv_lt ?_]
    · decide
    · rw [show min q (-51) = q by omega, show (q - q).toNat = 0 by omega, Nat.pow_zero, Nat.mul_one, show (-51 - q).toNat = (-52 - q).toNat + 1 by omega, Nat.pow_succ]
      have : 2 ^ 52 * 1 ≤ 2 ^ 52 * 2 ^ (-52 - q).toNat := Nat.mul_le_mul_left _ (Nat.pow_pos (by decide))
      omega
theorem cmp_one {x : UInt64} {c : Nat} {q : Int} (h : Nm x c q) : (-52 ≤ q → 0 ≤ Op.cmpValue (FP.dcmp x FP.dconst1) CmpOp.g) ∧ (q < -52 → ¬ 0 ≤ Op.cmpValue (FP.dcmp x FP.dconst1) CmpOp.g) := by
  obtain ⟨h0, hc1, hc2⟩ := h
  rw [dcmp_fin h0 v_one]
  refine ⟨fun hq => cv_ge ?_ _, fun hq => ?_⟩
  · rw [show min q (-52) = -52 by omega, show (-52 - -52 : Int).toNat = 0 by decide, Nat.pow_zero, Nat.mul_one]
    have : c * 1 ≤ c * 2 ^ (q - -52).toNat := Nat.mul_le_mul_left _ (Nat.pow_pos (by decide))
    omega
  · rw [cv_lt ?_]
    · decide
    · rw [show min q (-52) = q by omega, show (q - q).toNat = 0 by omega, Nat.pow_zero, Nat.mul_one, show (-52 - q).toNat = (-53 - q).toNat + 1 by omega, Nat.pow_succ]
      have : 2 ^ 52 * 1 ≤ 2 ^ 52 * 2 ^ (-53 - q).toNat := Nat.mul_le_mul_left _ (Nat.pow_pos (by decide))
      omega
theorem cmp_zero {x : UInt64} {c : Nat} {q : Int} (h : Nm x c q) : 0 < Op.cmpValue (FP.dcmp x FP.dconst0) CmpOp.g := by
  obtain ⟨h0, hc1, hc2⟩ := h
  rw [dcmp_fin h0 v_zero, cv_gt ?_]
  · decide
  · rw [Nat.zero_mul]
    have : c * 1 ≤ c * 2 ^ (q - min q (-1074)).toNat := Nat.mul_le_mul_left _ (Nat.pow_pos (by decide))
    omega
theorem bits_of {x : UInt64} {c : Nat} {q : Int} (h : Nm x c q) (h1 : -1074 ≤ q) (h2 : q ≤ 900) : x.toNat = (q + 1075).toNat * 2 ^ 52 + (c - 2 ^ 52) := by
  obtain ⟨h0, hc1, hc2⟩ := h
  have F := fits64 hc1 hc2 h1 h2
  have e := FP.Core.of64_val64 (a := x) (by rw [h0]; exact fun z => FP.Core.Datum.noConfusion z)
  rw [h0] at e
  have e2 := FP.Core.toNat_of64 F
  rw [e] at e2
  rw [e2]
  show (if c < FP.Core.b64.tails then FP.Core.assemble FP.Core.b64 false 0 c else FP.Core.assemble FP.Core.b64 false ((q - FP.Core.b64.qmin).toNat + 1) (c - FP.Core.b64.tails)) = _
  rw [FP.Core.tails_b64, if_neg (by omega), FP.Core.qmin_b64]
  unfold FP.Core.assemble
  rw [FP.Core.tails_b64, show (q - -1074).toNat + 1 = (q + 1075).toNat by omega, show false.toNat = 0 from rfl, Nat.zero_mul, Nat.zero_add]
theorem nm_of {x : UInt64} (h1 : 1 ≤ x.toNat / 2 ^ 52) (h2 : x.toNat / 2 ^ 52 < 2047) : Nm x (2 ^ 52 + x.toNat % 2 ^ 52) ((x.toNat / 2 ^ 52 : Nat) - 1075) := by
  refine ⟨?_, by omega, by have := Nat.mod_lt x.toNat (show 0 < 2 ^ 52 by decide); omega⟩
  show FP.Core.decode FP.Core.b64 x.toNat = _
  have e1 : FP.Core.fieldE FP.Core.b64 x.toNat = x.toNat / 2 ^ 52 := by
    unfold FP.Core.fieldE
    rw [FP.Core.tails_b64, show FP.Core.b64.exps = 2048 by decide]
    exact Nat.mod_eq_of_lt (by omega)
  have e2 : FP.Core.fieldT FP.Core.b64 x.toNat = x.toNat % 2 ^ 52 := by
    unfold FP.Core.fieldT
    rw [FP.Core.tails_b64]
  have e3 : FP.Core.fieldS FP.Core.b64 x.toNat = false := by
    unfold FP.Core.fieldS
    rw [FP.Core.tails_b64, show FP.Core.b64.exps = 2048 by decide, Nat.div_eq_of_lt (by omega)]
    rfl
  unfold FP.Core.decode
  rw [e1, e2, e3, FP.Core.exps_b64, if_neg (by omega), if_neg (by omega), FP.Core.tails_b64, FP.Core.qmin_b64]
  congr 1
  omega

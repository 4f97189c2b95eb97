def okD (a b : Nat) : Bool := decide (FP.ddiv (FP.i2d (nI a)) (FP.i2d (nI b)) &&& 0x7fffffffffffffff ≤ 0x7ff0000000000000) && decide (Op.cmpValue (FP.dcmp (FP.ddiv (FP.i2d (nI a)) (FP.i2d (nI b))) (FP.ddiv (FP.i2d (nI a)) (FP.i2d (nI b)))) CmpOp.l = 0)
theorem pf_div0 : (List.range' 0 21).all (fun a => (List.range' 1 300).all (fun b => okD a b)) = true := by decide +kernel
theorem pf_div1 : (List.range' 21 20).all (fun a => (List.range' 1 300).all (fun b => okD a b)) = true := by decide +kernel
theorem pf_div2 : (List.range' 41 20).all (fun a => (List.range' 1 300).all (fun b => okD a b)) = true := by decide +kernel
theorem pf_div3 : (List.range' 61 20).all (fun a => (List.range' 1 300).all (fun b => okD a b)) = true := by decide +kernel
theorem mem_r' {s n a : Nat} (h1 : s ≤ a) (h2 : a < s + n) : a ∈ List.range' s n := List.mem_range'_1.mpr ⟨h1, h2⟩
theorem okD_all {a b : Nat} (ha2 : a ≤ 80) (hb : 1 ≤ b) (hb2 : b ≤ 300) : okD a b = true := by
  have hbm : b ∈ List.range' 1 300 := mem_r' hb (by omega)
  by_cases h1 : a < 21
  · exact List.all_eq_true.mp (List.all_eq_true.mp pf_div0 a (mem_r' (by omega) (by omega))) b hbm
  · by_cases h2 : a < 41
    · exact List.all_eq_true.mp (List.all_eq_true.mp pf_div1 a (mem_r' (by omega) (by omega))) b hbm
    · by_cases h3 : a < 61
      · exact List.all_eq_true.mp (List.all_eq_true.mp pf_div2 a (mem_r' (by omega) (by omega))) b hbm
      · exact List.all_eq_true.mp (List.all_eq_true.mp pf_div3 a (mem_r' (by omega) (by omega))) b hbm
theorem div_ok {a b : Nat} (ha2 : a ≤ 80) (hb : 1 ≤ b) (hb2 : b ≤ 300) : vf_n64 (FP.ddiv (FP.i2d (nI a)) (FP.i2d (nI b))) ∧ Op.cmpValue (FP.dcmp (FP.ddiv (FP.i2d (nI a)) (FP.i2d (nI b))) (FP.ddiv (FP.i2d (nI a)) (FP.i2d (nI b)))) CmpOp.l = 0 := by
  have h := okD_all ha2 hb hb2
  unfold okD at h
  rw [Bool.and_eq_true] at h
  have h1 := of_decide_eq_true h.1
  have h2 := of_decide_eq_true h.2
  exact ⟨h1, h2⟩
theorem one_cmp : Op.cmpValue (FP.dcmp FP.dconst1 FP.dconst1) CmpOp.l = 0 := by decide +kernel
def okF (s : Nat) : Bool := decide (FP.fdiv (FP.i2f (nI s)) 1084227584 &&& 0x7fffffff ≤ 0x7f800000) && decide (Op.cmpValue (FP.fcmp (FP.fdiv (FP.i2f (nI s)) 1084227584) (FP.fdiv (FP.i2f (nI s)) 1084227584)) CmpOp.l = 0)
theorem pf_mean : (List.range 81).all okF = true := by decide +kernel
theorem mean_ok {s : Nat} (hs : s ≤ 80) : vf_n32 (FP.fdiv (FP.i2f (nI s)) 1084227584) ∧ Op.cmpValue (FP.fcmp (FP.fdiv (FP.i2f (nI s)) 1084227584) (FP.fdiv (FP.i2f (nI s)) 1084227584)) CmpOp.l = 0 := by
  have h := List.all_eq_true.mp pf_mean s (List.mem_range.mpr (by omega))
  unfold okF at h
  rw [Bool.and_eq_true] at h
  have h1 := of_decide_eq_true h.1
  have h2 := of_decide_eq_true h.2
  exact ⟨h1, h2⟩

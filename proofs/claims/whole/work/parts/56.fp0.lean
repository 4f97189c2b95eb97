def okD (a b : Nat) : Bool := Nat.ble 1014 ((FP.ddiv (FP.i2d (nI a)) (FP.i2d (nI b))).toNat / 2 ^ 52) && Nat.ble ((FP.ddiv (FP.i2d (nI a)) (FP.i2d (nI b))).toNat / 2 ^ 52) 1030
theorem pf_div0 : (List.range' 1 20).all (fun a => (List.range' 1 300).all (fun b => okD a b)) = true := by decide +kernel
theorem pf_div1 : (List.range' 21 20).all (fun a => (List.range' 1 300).all (fun b => okD a b)) = true := by decide +kernel
theorem pf_div2 : (List.range' 41 20).all (fun a => (List.range' 1 300).all (fun b => okD a b)) = true := by decide +kernel
theorem pf_div3 : (List.range' 61 20).all (fun a => (List.range' 1 300).all (fun b => okD a b)) = true := by decide +kernel
theorem mem_r' {s n a : Nat} (h1 : s ≤ a) (h2 : a < s + n) : a ∈ List.range' s n := List.mem_range'_1.mpr ⟨h1, h2⟩
theorem okD_all {a b : Nat} (ha : 1 ≤ a) (ha2 : a ≤ 80) (hb : 1 ≤ b) (hb2 : b ≤ 300) : okD a b = true := by
  have hbm : b ∈ List.range' 1 300 := mem_r' hb (by omega)
  by_cases h1 : a < 21
  · exact List.all_eq_true.mp (List.all_eq_true.mp pf_div0 a (mem_r' ha (by omega))) b hbm
  · by_cases h2 : a < 41
    · exact List.all_eq_true.mp (List.all_eq_true.mp pf_div1 a (mem_r' (by omega) (by omega))) b hbm
    · by_cases h3 : a < 61
      · exact List.all_eq_true.mp (List.all_eq_true.mp pf_div2 a (mem_r' (by omega) (by omega))) b hbm
      · exact List.all_eq_true.mp (List.all_eq_true.mp pf_div3 a (mem_r' (by omega) (by omega))) b hbm

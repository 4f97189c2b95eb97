def lieN (n : Nat) : Bool := n < 4096 && (n % 4 != n / 8 % 4) && (n % 4 != n / 64 % 4) && (n % 4 != n / 512 % 4) && (n / 8 % 4 != n / 64 % 4) && (n / 8 % 4 != n / 512 % 4) && (n / 64 % 4 != n / 512 % 4)
theorem lies_eq : lies = ((List.range 4096).filter lieN).map nI := by decide +kernel
def isLie (x : Int32) : Bool := decide (0 ≤ x) && lieN x.toNatClampNeg
theorem lie_of {x : Int32} (h : isLie x = true) : x ∈ lies := by
  unfold isLie at h
  rw [Bool.and_eq_true, decide_eq_true_eq] at h
  obtain ⟨j, hj, rfl⟩ := nI_of (x := x) (Int32.not_lt.mpr h.1)
  rw [nI_clamp hj] at h
  rw [lies_eq]
  refine List.mem_map.mpr ⟨j, List.mem_filter.mpr ⟨List.mem_range.mpr ?_, h.2⟩, rfl⟩
  have := h.2
  unfold lieN at this
  simp only [Bool.and_eq_true, decide_eq_true_eq] at this
  omega
def lay (L : Int32) : Nat → Int32 := fun p => F_X3_layerAt L (nI p)
def allL (P : Int32 → Bool) : Bool := lies.all P
theorem allL_of {P : Int32 → Bool} (h : allL P = true) {L : Int32} (hL : L ∈ lies) : P L = true := List.all_eq_true.mp h L hL
theorem pf_len : allL (fun L => decide (F_X11_lengthOfOne (lay L) = F_X3_length L)) = true := by decide +kernel
theorem pf_fold : allL (fun L => [0,1,2,3].all (fun c => isLie (F_X3_folded L c))) = true := by decide +kernel

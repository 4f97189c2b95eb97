def lieN (n : Nat) : Bool := n < 4096 && (n % 4 != n / 8 % 4) && (n % 4 != n / 64 % 4) && (n % 4 != n / 512 % 4) && (n / 8 % 4 != n / 64 % 4) && (n / 8 % 4 != n / 512 % 4) && (n / 64 % 4 != n / 512 % 4)
theorem lies_eq : lies = ((List.range 4096).filter lieN).map nI := by decide +kernel
def isLie (x : Int32) : Bool := decide (0 ≤ x) && lieN x.toNatClampNeg
theorem lie_of {x : Int32} (h : isLie x = true) : x ∈ lies := by
  unfold isLie at h
  rw [Bool.and_eq_true, decide_eq_true_eq] at h
  obtain ⟨j, hj, rfl⟩ := nI_of (x := x) (Int32.not_lt.mpr h.1)
  rw [nI_clamp hj] at h
  rw [lies_eq]
  refine List.mem_map.mpr ⟨j, List.mem_filter.mpr ⟨List.mem_range.mpr ?_, h.2⟩, rfl⟩
  have := h.2
  unfold lieN at this
  simp only [Bool.and_eq_true, decide_eq_true_eq] at this
  omega
def lay (L : Int32) : Nat → Int32 := fun p => F_X3_layerAt L (nI p)
def allL (P : Int32 → Bool) : Bool := lies.all P
theorem allL_of {P : Int32 → Bool} (h : allL P = true) {L : Int32} (hL : L ∈ lies) : P L = true := List.all_eq_true.mp h L hL
def c4 : List Int32 := [0, 1, 2, 3]
def p4 : List Nat := [0, 1, 2, 3]
theorem c4_of {P : Int32 → Bool} (h : c4.all P = true) {c : Int32} (hc : c = 0 ∨ c = 1 ∨ c = 2 ∨ c = 3) : P c = true := List.all_eq_true.mp h c (by rcases hc with rfl | rfl | rfl | rfl <;> decide)
theorem p4_of {P : Nat → Bool} (h : p4.all P = true) {p : Nat} (hp : p < 4) : P p = true := List.all_eq_true.mp h p (by rcases (show p = 0 ∨ p = 1 ∨ p = 2 ∨ p = 3 by omega) with rfl | rfl | rfl | rfl <;> decide)
theorem pf_len : allL (fun L => decide (F_X11_lengthOfOne (lay L) = F_X3_length L)) = true := by decide +kernel
theorem pf_fold : allL (fun L => c4.all (fun c => isLie (F_X3_folded L c) && decide (F_X3_folded (F_X3_folded L c) c = L))) = true := by decide +kernel
theorem pf_foldsOne : allL (fun L => c4.all (fun c => p4.all (fun p => decide (F_X11_foldsOne (lay L) c p = lay (F_X3_folded L c) p)))) = true := by decide +kernel
theorem pf_rev : allL (fun L => isLie (F_X3_reversed L) && decide (F_X3_reversed (F_X3_reversed L) = L) && decide (F_X3_length (F_X3_reversed L) = F_X3_length L)) = true := by decide +kernel
theorem pf_ahead : allL (fun L => c4.all (fun c => p4.all (fun p => decide (F_X11_foldsAhead (lay L) c p = lay (F_X3_reversed (F_X3_folded (F_X3_reversed L) c)) p)))) = true := by decide +kernel
theorem pf_flat : allL (fun L => decide (F_X3_length L = 0) == decide (L = 1672)) = true := by decide +kernel
theorem pf_fs : allL (fun L => let c := F_X3_firstShortening L; if L = 1672 then decide (c = -10) else decide (0 ≤ c) && decide (c < 4) && decide (F_X3_length (F_X3_folded L c) + 1 = F_X3_length L)) = true := by decide +kernel
theorem pf_fs2 : allL (fun L => c4.all (fun c => let d := F_X3_firstShortening L; if L = 1672 then true else (!decide (c < d) || decide (F_X3_length L < F_X3_length (F_X3_folded L c))))) = true := by decide +kernel
theorem pf_short : allL (fun L => c4.all (fun c => decide (F_X3_length (F_X3_folded L c) < F_X3_length L) == !decide (F_X3_isShortenedBy L c = 0))) = true := by decide +kernel
theorem pf_le : allL (fun L => decide (0 ≤ F_X3_length L) && decide (F_X3_length L ≤ 16)) = true := by decide +kernel
theorem pf_layer : allL (fun L => p4.all (fun p => let y := lay L p; decide (y = 1) || decide (y = 2) || decide (y = 3) || decide (y = 4) || decide (y = -1) || decide (y = -2) || decide (y = -3) || decide (y = -4))) = true := by decide +kernel
theorem pf_apart : allL (fun L => p4.all (fun p => p4.all (fun q => decide (p = q) || (decide (lay L p ≠ lay L q) && decide (lay L p ≠ - lay L q))))) = true := by decide +kernel
theorem pf_turns : allL (fun L => p4.all (fun p => decide ((F_X11_turns (lay L) (fun _ => 0)).1 p = lay (F_X3_reversed L) p))) = true := by decide +kernel
theorem pf_mir : allL (fun L => decide (F_X11_isMirror (lay L) 0 = F_X3_isMirror L)) = true := by decide +kernel
theorem pf_home : allL (fun L => decide (F_X11_layers (lay L) 0 5 = F_X3_layersHome L) && decide (F_X11_layers (lay L) 0 6 = F_X3_layersTurned L)) = true := by decide +kernel

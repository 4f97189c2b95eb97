theorem rd0 (st : St) {k : Nat} (hk : k < 5) : F_S_letter st (nI k) 0 = F_X3_length (q_lie st k) := s_letter_F st hk (w := 0) (by decide)
theorem rdP0 {st : St} (h : Inv st) {k : Nat} (hk : k < 5) : P_S_letter st (nI k) 0 := s_letter_P h hk (w := 0) (by decide)
theorem rd1 {st : St} (h : Inv st) {k : Nat} (hk : k < 5) : F_S_letter st (nI k) 1 = F_X3_length (q_lie st k) := (s_letter_F st hk (w := 1) (by decide)).trans (foldsBack_ok (h.lie hk)).2
theorem rdP1 {st : St} (h : Inv st) {k : Nat} (hk : k < 5) : P_S_letter st (nI k) 1 := s_letter_P h hk (w := 1) (by decide)
theorem rd2 (st : St) {k : Nat} (hk : k < 5) : F_S_letter st (nI k) 2 = q_n st k := s_letter_F st hk (w := 2) (by decide)
theorem rdP2 {st : St} (h : Inv st) {k : Nat} (hk : k < 5) : P_S_letter st (nI k) 2 := s_letter_P h hk (w := 2) (by decide)
theorem rd3 (st : St) {k : Nat} (hk : k < 5) : F_S_letter st (nI k) 3 = F_X3_period (q_lie st k) := s_letter_F st hk (w := 3) (by decide)
theorem rdP3 {st : St} (h : Inv st) {k : Nat} (hk : k < 5) : P_S_letter st (nI k) 3 := s_letter_P h hk (w := 3) (by decide)
theorem rd4 (st : St) {k : Nat} (hk : k < 5) : F_S_letter st (nI k) 4 = (if F_X3_isMirror (q_lie st k) = 0 then 0 else 1) := s_letter_F st hk (w := 4) (by decide)
theorem rdP4 {st : St} (h : Inv st) {k : Nat} (hk : k < 5) : P_S_letter st (nI k) 4 := s_letter_P h hk (w := 4) (by decide)
theorem rd5 (st : St) {k : Nat} (hk : k < 5) : F_S_letter st (nI k) 5 = F_X3_layersHome (q_lie st k) := s_letter_F st hk (w := 5) (by decide)
theorem rdP5 {st : St} (h : Inv st) {k : Nat} (hk : k < 5) : P_S_letter st (nI k) 5 := s_letter_P h hk (w := 5) (by decide)
theorem rd6 (st : St) {k : Nat} (hk : k < 5) : F_S_letter st (nI k) 6 = F_X3_layersTurned (q_lie st k) := s_letter_F st hk (w := 6) (by decide)
theorem rdP6 {st : St} (h : Inv st) {k : Nat} (hk : k < 5) : P_S_letter st (nI k) 6 := s_letter_P h hk (w := 6) (by decide)
theorem rd7 (st : St) {k : Nat} (hk : k < 5) : F_S_letter st (nI k) 7 = q_seals st k := s_letter_F st hk (w := 7) (by decide)
theorem rdP7 {st : St} (h : Inv st) {k : Nat} (hk : k < 5) : P_S_letter st (nI k) 7 := s_letter_P h hk (w := 7) (by decide)
theorem rd8 (st : St) {k : Nat} (hk : k < 5) : F_S_letter st (nI k) 8 = F_X3_shorteningMask (q_lie st k) := s_letter_F st hk (w := 8) (by decide)
theorem rdP8 {st : St} (h : Inv st) {k : Nat} (hk : k < 5) : P_S_letter st (nI k) 8 := s_letter_P h hk (w := 8) (by decide)
theorem rd9 (st : St) {k : Nat} (hk : k < 5) : F_S_letter st (nI k) 9 = F_X2_barredMask (q_seals st k) (q_n st k) := s_letter_F st hk (w := 9) (by decide)
theorem rdP9 {st : St} (h : Inv st) {k : Nat} (hk : k < 5) : P_S_letter st (nI k) 9 := s_letter_P h hk (w := 9) (by decide)
theorem rd10 (st : St) {k : Nat} (hk : k < 5) : F_S_letter st (nI k) 10 = q_folds st k := s_letter_F st hk (w := 10) (by decide)
theorem rdP10 {st : St} (h : Inv st) {k : Nat} (hk : k < 5) : P_S_letter st (nI k) 10 := s_letter_P h hk (w := 10) (by decide)
theorem bit_of {S : Nat} (hS : S < 16) {p : Nat} (hp : p < 4) (q : ((nI S >>> (nI p &&& 31)) &&& 1) = 1) : S / 2 ^ p % 2 = 1 := by
  have : (List.range 16).all (fun S => (List.range 4).all (fun p => !decide (((nI S >>> (nI p &&& 31)) &&& 1) = 1) || decide (S / 2 ^ p % 2 = 1))) = true := by decide +kernel
  have h := List.all_eq_true.mp (List.all_eq_true.mp this S (List.mem_range.mpr hS)) p (List.mem_range.mpr hp)
  rw [Bool.or_eq_true, Bool.not_eq_true', decide_eq_false_iff_not, decide_eq_true_eq] at h
  exact h.resolve_left (fun z => z q)
theorem pf_seen : allL (fun L => decide (((((0 : Int32) ||| ((1 : Int32) <<< ((F_L_size (lay L 0)) &&& 31))) ||| ((1 : Int32) <<< ((F_L_size (lay L 1)) &&& 31))) ||| ((1 : Int32) <<< ((F_L_size (lay L 2)) &&& 31))) ||| ((1 : Int32) <<< ((F_L_size (lay L 3)) &&& 31)) = 30)) = true := by decide +kernel
theorem pf_homeL : allL (fun L => decide (F_X3_layersHome L = ((((0 : Int32) + (if lay L 0 = 1 then 1 else 0)) + (if lay L 1 = 2 then 1 else 0)) + (if lay L 2 = 3 then 1 else 0)) + (if lay L 3 = 4 then 1 else 0))) = true := by decide +kernel
theorem pf_turnL : allL (fun L => decide (F_X3_layersTurned L = ((((0 : Int32) + (if 0 ≤ lay L 0 then 0 else 1)) + (if 0 ≤ lay L 1 then 0 else 1)) + (if 0 ≤ lay L 2 then 0 else 1)) + (if 0 ≤ lay L 3 then 0 else 1))) = true := by decide +kernel
theorem pf_maskL : allL (fun L => decide (F_X3_shorteningMask L = ((((0 : Int32) ||| (if F_X3_length L ≤ F_X3_length (F_X3_folded L 0) then 0 else 1)) ||| (if F_X3_length L ≤ F_X3_length (F_X3_folded L 1) then 0 else 2)) ||| (if F_X3_length L ≤ F_X3_length (F_X3_folded L 2) then 0 else 4)) ||| (if F_X3_length L ≤ F_X3_length (F_X3_folded L 3) then 0 else 8))) = true := by decide +kernel
theorem pf_diff : allL (fun L => c4.all (fun c => decide (F_L_size (F_X3_length (F_X3_folded L c) - F_X3_length L) = 1))) = true := by decide +kernel
theorem diff1 {L c : Int32} (hL : L ∈ lies) (hc : C4 c) : F_L_size (F_X3_length (F_X3_folded L c) - F_X3_length L) = 1 := of_decide_eq_true (c4_of (allL_of pf_diff hL) hc)
theorem nI_sub {a b : Nat} (h : b ≤ a) (ha : a < 2 ^ 31) : nI a - nI b = nI (a - b) := by
  have e : nI a = nI (a - b) + nI b := by rw [nI_add]; congr 1; omega
  rw [e]
  exact Int32.add_sub_cancel _ _
theorem rem2 {d : Nat} (h : d < 100) : nI d - nI d / 2 * 2 = nI (d % 2) := by
  have : (List.range 100).all (fun d => decide (nI d - nI d / 2 * 2 = nI (d % 2))) = true := by decide +kernel
  exact of_decide_eq_true (List.all_eq_true.mp this d (List.mem_range.mpr h))
/-- why a fold can't be done, as the law tells it -/
theorem full_60 {N : Nat} (hN : N ≤ 60) : F_X6_isFull (nI N) = if nI N = 60 then 1 else 0 := by
  unfold F_X6_isFull
  by_cases q : N = 60
  · subst q; rfl
  · have h1 : nI N < 60 := nI_lt (b := 60) (by omega) (by decide)
    have h2 : ¬ nI N = 60 := fun z => q ((nI_eq (b := 60) (by omega) (by decide)).mp z)
    simp only [if_pos h1, if_neg h2]
theorem touch0 {S : Nat} (hS : S < 16) : F_X2_touchesSeal (nI S) 0 = if (nI S &&& 1) = 1 then 1 else 0 := by
  have : (List.range 16).all (fun S => decide (F_X2_touchesSeal (nI S) 0 = if (nI S &&& 1) = 1 then 1 else 0)) = true := by decide +kernel
  exact of_decide_eq_true (List.all_eq_true.mp this S (List.mem_range.mpr hS))
theorem touch1 {S : Nat} (hS : S < 16) {c : Int32} (hc : C4 c) (h0 : ¬ c = 0) : F_X2_touchesSeal (nI S) c = if ((nI S >>> ((c - 1) &&& 31)) &&& 3) = 0 then 0 else 1 := by
  have : (List.range 16).all (fun S => c4.all (fun c => decide (c = 0) || decide (F_X2_touchesSeal (nI S) c = if ((nI S >>> ((c - 1) &&& 31)) &&& 3) = 0 then 0 else 1))) = true := by decide +kernel
  have h := c4_of (List.all_eq_true.mp this S (List.mem_range.mpr hS)) hc
  rw [Bool.or_eq_true, decide_eq_true_eq, decide_eq_true_eq] at h
  exact h.resolve_left h0
theorem why_eq {N S : Nat} (hN : N ≤ 60) {c : Int32} : F_X2_reasonAgainst (nI S) (nI N) c = if nI N = 60 then 1 else (if F_X2_touchesSeal (nI S) c = 0 then 0 else 2) := by
  unfold F_X2_reasonAgainst
  simp only [full_60 hN]
  by_cases q : nI N = 60
  · simp only [if_pos q]; rfl
  · simp only [if_neg q]; rfl
theorem why_012 {N S : Nat} (hN : N ≤ 60) {c : Int32} : F_X2_reasonAgainst (nI S) (nI N) c = 0 ∨ F_X2_reasonAgainst (nI S) (nI N) c = 1 ∨ F_X2_reasonAgainst (nI S) (nI N) c = 2 := by
  rw [why_eq hN]
  split
  · exact Or.inr (Or.inl rfl)
  · split
    · exact Or.inl rfl
    · exact Or.inr (Or.inr rfl)
theorem le0_eq {r a b : Int32} (h : r = 0 ∨ r = 1 ∨ r = 2) : (if r = 0 then a else b) = (if r ≤ 0 then a else b) := by
  rcases h with rfl | rfl | rfl
  · rw [if_pos rfl, if_pos (by decide)]
  · rw [if_neg (by decide), if_neg (by decide)]
  · rw [if_neg (by decide), if_neg (by decide)]
theorem bar_eq {N S : Nat} (hN : N ≤ 60) : F_X2_barredMask (nI S) (nI N) = ((((0 : Int32) ||| (if F_X2_reasonAgainst (nI S) (nI N) 0 ≤ 0 then 0 else 1)) ||| (if F_X2_reasonAgainst (nI S) (nI N) 1 ≤ 0 then 0 else 2)) ||| (if F_X2_reasonAgainst (nI S) (nI N) 2 ≤ 0 then 0 else 4)) ||| (if F_X2_reasonAgainst (nI S) (nI N) 3 ≤ 0 then 0 else 8) := by
  unfold F_X2_barredMask
  simp only [← le0_eq (why_012 (S := S) (c := 0) hN), ← le0_eq (why_012 (S := S) (c := 1) hN), ← le0_eq (why_012 (S := S) (c := 2) hN), ← le0_eq (why_012 (S := S) (c := 3) hN)]
/-- the law folds a flat row by what is remembered -/
theorem il_loop {st : St} {k N : Nat} (hk : k < 5) (eN : q_n st k = nI N) (hN : N ≤ 60) (hC : ∀ j, j < N → C4 (q_f st k j)) : ∀ (t j : Nat), j + t = N → ∀ (fuel : Nat) (g : Nat → Int32), t < fuel → E4 g (fa (q_f st k) j) → P_L_isLetter_L50 (nI N) st (nI k) fuel g (nI j) ∧ E4 (F_L_isLetter_L50 (nI N) st (nI k) fuel g (nI j)).1 (fa (q_f st k) N) := by
  intro t
  induction t with
  | zero =>
    intro j hj fuel g hf hg
    obtain ⟨f, rfl⟩ : ∃ f, fuel = f + 1 := ⟨fuel - 1, by omega⟩
    have hjN : j = N := by omega
    subst hjN
    have h1 : nI j ≤ nI j := nI_le (Nat.le_refl _) (by omega)
    rw [P_L_isLetter_L50, F_L_isLetter_L50, if_pos h1]
    exact ⟨⟨fun _ => trivial, fun q => absurd h1 q⟩, hg⟩
  | succ t ih =>
    intro j hj fuel g hf hg
    obtain ⟨f, rfl⟩ : ∃ f, fuel = f + 1 := ⟨fuel - 1, by omega⟩
    have h1 : ¬ nI N ≤ nI j := nI_ge (by omega) (by omega)
    have h2 : ¬ (60 : Int32) ≤ nI j := nI_ge (b := 60) (by omega) (by decide)
    have hc := hC j (by omega)
    have eC : F_S_crease st (nI k) (nI j) = q_f st k j := by rw [s_crease_F st hk, eN]; exact (row_at (q_f st k) (by omega) hN).2
    have hl := fa_lie (f := q_f st k) j (fun i hi => hC i (by omega))
    have K := ih (j + 1) (by omega) f _ (by omega) (e4_foldL hg hl hc)
    have c1 : ¬ q_f st k j < 0 := by rcases hc with e | e | e | e <;> (rw [e]; decide)
    have c2 : q_f st k j ≤ 3 := by rcases hc with e | e | e | e <;> (rw [e]; decide)
    rw [P_L_isLetter_L50, F_L_isLetter_L50, if_neg h1, if_neg h2]
    simp only [forall_eq, eC, nI_1]
    exact ⟨⟨fun q => absurd q h1, fun _ => ⟨fun q => absurd q h2, fun _ => ⟨s_crease_P hk eN hN (by omega), c1, c2, p_foldL _ hc, K.1⟩⟩⟩, K.2⟩

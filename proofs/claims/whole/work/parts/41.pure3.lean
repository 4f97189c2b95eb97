theorem c4_range {c : Int32} (h0 : 0 ≤ c) (h1 : c < 4) : C4 c := by
  obtain ⟨j, hj, rfl⟩ := nI_of (x := c) (Int32.not_lt.mpr h0)
  have h2 : j < 4 := (nI_ltI hj (by decide)).mp h1
  rcases (show j = 0 ∨ j = 1 ∨ j = 2 ∨ j = 3 by omega) with rfl | rfl | rfl | rfl
  · exact Or.inl rfl
  · exact Or.inr (Or.inl rfl)
  · exact Or.inr (Or.inr (Or.inl rfl))
  · exact Or.inr (Or.inr (Or.inr rfl))
theorem c4_nI {j : Nat} (h : j < 4) : C4 (nI j) := c4_range (nI_pos' (by omega)) ((nI_ltI (by omega) (by decide)).mpr h)
theorem c4_of_nI {c : Int32} (h : C4 c) : ∃ j, j < 4 ∧ c = nI j := by
  rcases h with rfl | rfl | rfl | rfl
  · exact ⟨0, by decide, rfl⟩
  · exact ⟨1, by decide, rfl⟩
  · exact ⟨2, by decide, rfl⟩
  · exact ⟨3, by decide, rfl⟩
def lenN (L : Int32) : Nat := (F_X3_length L).toNatClampNeg
theorem len_nI {L : Int32} (hL : L ∈ lies) : F_X3_length L = nI (lenN L) ∧ lenN L ≤ 16 := by
  have h := allL_of pf_le hL
  rw [Bool.and_eq_true, decide_eq_true_eq, decide_eq_true_eq] at h
  obtain ⟨j, hj, e⟩ := nI_of2 (x := F_X3_length L) (M := 16) (n := 16) rfl (Int32.not_lt.mpr h.1) h.2
  have : lenN L = j := by unfold lenN; rw [e, nI_clamp (by omega)]
  rw [this]; exact ⟨e, hj⟩
theorem lenN0 {L : Int32} (hL : L ∈ lies) : lenN L = 0 ↔ L = 1672 := by
  rw [← len0 hL, (len_nI hL).1]
  have := (len_nI hL).2
  rw [show (0 : Int32) = nI 0 from rfl, nI_eq (by omega) (by decide)]
theorem flat_lie : (1672 : Int32) ∈ lies := lie_of (by decide +kernel)
theorem fs_flat : F_X3_firstShortening 1672 = -10 := by decide +kernel
theorem fs_c4 {L : Int32} (hL : L ∈ lies) (hn : L ≠ 1672) : C4 (F_X3_firstShortening L) ∧ lenN (F_X3_folded L (F_X3_firstShortening L)) + 1 = lenN L := by
  have h := allL_of pf_fs hL
  dsimp only at h
  rw [if_neg hn] at h
  simp only [Bool.and_eq_true, decide_eq_true_eq] at h
  have hc := c4_range h.1.1 h.1.2
  refine ⟨hc, ?_⟩
  have h2 := h.2
  obtain ⟨e1, l1⟩ := len_nI (lie_fold hL hc)
  obtain ⟨e2, l2⟩ := len_nI hL
  rw [e1, e2, nI_1, nI_eq (by omega) (by omega)] at h2
  exact h2
theorem fs_lt {L c : Int32} (hL : L ∈ lies) (hn : L ≠ 1672) (hc : C4 c) (hlt : c < F_X3_firstShortening L) : F_X3_length L < F_X3_length (F_X3_folded L c) := by
  have h := c4_of (allL_of pf_fs2 hL) hc
  dsimp only at h
  rw [if_neg hn, Bool.or_eq_true, Bool.not_eq_true', decide_eq_false_iff_not, decide_eq_true_eq] at h
  exact h.resolve_left (fun q => q hlt)
theorem rev_flat : F_X3_reversed 1672 = 1672 := by decide +kernel
def stepR (R : Int32) : Int32 := F_X3_folded R (F_X3_firstShortening R)
def seqR (R : Int32) : Nat → Int32
  | 0 => R
  | k + 1 => seqR (stepR R) k
def wordR (R : Int32) (k : Nat) : Int32 := F_X3_firstShortening (seqR R k)
theorem step_lie {R : Int32} (hR : R ∈ lies) (hn : R ≠ 1672) : stepR R ∈ lies ∧ lenN (stepR R) + 1 = lenN R := ⟨lie_fold hR (fs_c4 hR hn).1, (fs_c4 hR hn).2⟩
theorem w_inner {R : Int32} (hR : R ∈ lies) (hn : R ≠ 1672) {j : Nat} (hj : j < 4) (hd : F_X3_firstShortening R = nI j) : ∀ (t i : Nat), i + t = j → ∀ (fuel : Nat) (g : Nat → Int32), t < fuel → E4 g (F_X3_reversed (F_X3_folded R (nI i))) → P_X11_words_L24 (F_X3_length R) fuel g (nI i) ∧ E4 (F_X11_words_L24 (F_X3_length R) fuel g (nI i)).1 (F_X3_reversed (stepR R)) ∧ (F_X11_words_L24 (F_X3_length R) fuel g (nI i)).2 = nI j := by
  intro t
  induction t with
  | zero =>
    intro i hi fuel g hf hg
    obtain ⟨f, rfl⟩ : ∃ f, fuel = f + 1 := ⟨fuel - 1, by omega⟩
    have hij : i = j := by omega
    subst hij
    have hF := lie_fold hR (c4_nI hj)
    have hle : F_X11_lengthOfOne g ≤ F_X3_length R := by
      rw [e4_len hg (lie_rev hF), rev_len hF, (len_nI hF).1, (len_nI hR).1]
      have := (fs_c4 hR hn).2
      rw [hd] at this
      exact nI_le (by omega) (by have := (len_nI hR).2; omega)
    rw [P_X11_words_L24, F_X11_words_L24]
    simp only [forall_eq]
    rw [if_pos hle]
    exact ⟨⟨fun _ => trivial, fun q => absurd hle q⟩, by unfold stepR; rw [hd]; exact hg, rfl⟩
  | succ t ih =>
    intro i hi fuel g hf hg
    obtain ⟨f, rfl⟩ : ∃ f, fuel = f + 1 := ⟨fuel - 1, by omega⟩
    have hi4 : i < 4 := by omega
    have hF := lie_fold hR (c4_nI hi4)
    have hlt : ¬ F_X11_lengthOfOne g ≤ F_X3_length R := by
      rw [e4_len hg (lie_rev hF), rev_len hF]
      exact Int32.not_le.mpr (fs_lt hR hn (c4_nI hi4) (by rw [hd]; exact nI_lt (by omega) (by omega)))
    have h1 := e4_ahead hg (lie_rev hF) (c4_nI hi4)
    have e1 : ahead (F_X3_reversed (F_X3_folded R (nI i))) (nI i) = F_X3_reversed R := by
      unfold ahead
      rw [rev_rev hF, fold_fold hR (c4_nI hi4)]
    rw [e1] at h1
    have h2 := e4_ahead h1 (lie_rev hR) (c4_nI (j := i + 1) (by omega))
    have e2 : ahead (F_X3_reversed R) (nI (i + 1)) = F_X3_reversed (F_X3_folded R (nI (i + 1))) := by
      unfold ahead
      rw [rev_rev hR]
    rw [e2] at h2
    have K := ih (i + 1) (by omega) f _ (by omega) h2
    rw [P_X11_words_L24, F_X11_words_L24]
    simp only [forall_eq]
    rw [if_neg hlt, nI_1]
    exact ⟨⟨fun q => absurd q hlt, fun _ => K.1⟩, K.2⟩
theorem w_outer : ∀ (r : Nat) (R : Int32), R ∈ lies → lenN R = r → ∀ (fuel m : Nat) (g w : Nat → Int32), r < fuel → m + r ≤ 16 → E4 g (F_X3_reversed R) → P_X11_words_L5 fuel g w (nI m) ∧ (F_X11_words_L5 fuel g w (nI m)).2.2 = nI (m + r) ∧ (∀ j, j < r → (F_X11_words_L5 fuel g w (nI m)).2.1 (m + j) = wordR R j) ∧ (∀ j, j < m → (F_X11_words_L5 fuel g w (nI m)).2.1 j = w j) := by
  intro r
  induction r with
  | zero =>
    intro R hR hl fuel m g w hf hm hg
    obtain ⟨f, rfl⟩ : ∃ f, fuel = f + 1 := ⟨fuel - 1, by omega⟩
    have h0 : R = 1672 := (lenN0 hR).mp hl
    subst h0
    rw [rev_flat] at hg
    have hfl : ¬ F_X11_isFlatOne g = 0 := by rw [e4_flat hg flat_lie, if_pos rfl]; decide
    rw [P_X11_words_L5, F_X11_words_L5]
    simp only [forall_eq]
    rw [if_neg hfl]
    exact ⟨⟨fun q => absurd q hfl, fun _ => trivial⟩, rfl, fun j hj => absurd hj (Nat.not_lt_zero _), fun j hj => rfl⟩
  | succ r ih =>
    intro R hR hl fuel m g w hf hm hg
    obtain ⟨f, rfl⟩ : ∃ f, fuel = f + 1 := ⟨fuel - 1, by omega⟩
    have hn : R ≠ 1672 := fun q => by have := (lenN0 hR).mpr q; omega
    have hrn : F_X3_reversed R ≠ 1672 := fun q => hn (by rw [← rev_rev hR, q, rev_flat])
    have hfl : F_X11_isFlatOne g = 0 := by rw [e4_flat hg (lie_rev hR), if_neg hrn]
    have hlen : F_X11_lengthOfOne g = F_X3_length R := by rw [e4_len hg (lie_rev hR), rev_len hR]
    obtain ⟨j, hj, hd⟩ := c4_of_nI (fs_c4 hR hn).1
    have h1 := e4_ahead hg (lie_rev hR) (c4_nI (j := 0) (by decide))
    have e1 : ahead (F_X3_reversed R) (nI 0) = F_X3_reversed (F_X3_folded R (nI 0)) := by
      unfold ahead
      rw [rev_rev hR]
    rw [e1] at h1
    obtain ⟨k1, k2, k3⟩ := w_inner hR hn hj hd j 0 (by omega) 5 _ (by omega) h1
    obtain ⟨hs1, hs2⟩ := step_lie hR hn
    have K := ih (stepR R) hs1 (by omega) f (m + 1) _ (upd w m (nI j)) (by omega) (by omega) k2
    rw [show nI 0 = 0 from rfl] at k1 k2 k3 K
    rw [P_X11_words_L5, F_X11_words_L5]
    simp only [forall_eq]
    rw [if_pos hfl, hlen, k3, nI_clamp (n := m) (by omega), nI_1]
    refine ⟨⟨fun _ => ⟨k1, vp_in_nI (by omega) (by decide), K.1⟩, fun q => absurd hfl q⟩, by rw [K.2.1]; congr 1; omega, fun i hi => ?_, fun i hi => ?_⟩
    · rcases Nat.eq_zero_or_pos i with rfl | hp
      · rw [K.2.2.2 (m + 0) (by omega)]
        unfold upd wordR
        rw [if_pos (Nat.add_zero m), ← hd]
        rfl
      · obtain ⟨i, rfl⟩ : ∃ i', i = i' + 1 := ⟨i - 1, by omega⟩
        rw [show m + (i + 1) = (m + 1) + i by omega, K.2.2.1 i (by omega)]
        rfl
    · rw [K.2.2.2 i (by omega)]
      unfold upd
      rw [if_neg (by omega)]
/-- the reference's words: as many as the length, each the least -/
theorem words_ok {g w : Nat → Int32} {L : Int32} (hg : E4 g L) (hL : L ∈ lies) : P_X11_words g w ∧ (F_X11_words g w).1 = nI (lenN L) ∧ ∀ j, j < lenN L → (F_X11_words g w).2.2 j = wordR (F_X3_reversed L) j := by
  have hR := lie_rev hL
  have hl : lenN (F_X3_reversed L) = lenN L := by unfold lenN; rw [rev_len hL]
  have h16 := (len_nI hL).2
  have K := w_outer (lenN L) (F_X3_reversed L) hR hl 17 0 g w (by omega) (by omega) (by rw [rev_rev hL]; exact hg)
  rw [show nI 0 = 0 from rfl] at K
  unfold P_X11_words F_X11_words
  refine ⟨K.1, ?_, fun j hj => ?_⟩
  · show (F_X11_words_L5 17 g w 0).2.2 = _
    rw [K.2.1, Nat.zero_add]
  · have := K.2.2.1 j hj
    rw [Nat.zero_add] at this
    exact this
theorem seq_lie : ∀ (k : Nat) (R : Int32), R ∈ lies → k ≤ lenN R → seqR R k ∈ lies ∧ lenN (seqR R k) + k = lenN R := by
  intro k
  induction k with
  | zero => intro R hR _; exact ⟨hR, rfl⟩
  | succ k ih =>
    intro R hR hk
    have hn : R ≠ 1672 := fun q => by have := (lenN0 hR).mpr q; omega
    obtain ⟨h1, h2⟩ := step_lie hR hn
    obtain ⟨h3, h4⟩ := ih (stepR R) h1 (by omega)
    exact ⟨h3, by show lenN (seqR (stepR R) k) + (k + 1) = lenN R; omega⟩
theorem lc_loop (M : Nat) (hM : M < 2 ^ 31) : ∀ (t d : Nat), d + t = M → ∀ (R : Int32), R ∈ lies → ∀ fuel, t < fuel → P_X3_leastCrease_L7 (nI M) fuel R (nI d) ∧ (F_X3_leastCrease_L7 (nI M) fuel R (nI d)).1 = if t ≤ lenN R then seqR R t else 1672 := by
  intro t
  induction t with
  | zero =>
    intro d hd R hR fuel hf
    obtain ⟨f, rfl⟩ : ∃ f, fuel = f + 1 := ⟨fuel - 1, by omega⟩
    have : nI M ≤ nI d := nI_le (by omega) (by omega)
    rw [P_X3_leastCrease_L7, F_X3_leastCrease_L7, if_pos this, if_pos (Nat.zero_le _)]
    exact ⟨⟨fun _ => trivial, fun q => absurd this q⟩, rfl⟩
  | succ t ih =>
    intro d hd R hR fuel hf
    obtain ⟨f, rfl⟩ : ∃ f, fuel = f + 1 := ⟨fuel - 1, by omega⟩
    have hlt : ¬ nI M ≤ nI d := nI_ge (by omega) (by omega)
    rw [P_X3_leastCrease_L7, F_X3_leastCrease_L7, if_neg hlt]
    by_cases hn : R = 1672
    · rw [if_pos hn]
      refine ⟨⟨fun _ => trivial, fun _ => ⟨fun _ => trivial, fun q => absurd hn q⟩⟩, ?_⟩
      rw [if_neg (by have := (lenN0 hR).mpr hn; omega)]
      exact hn
    · rw [if_neg hn]
      obtain ⟨h1, h2⟩ := step_lie hR hn
      have K := ih (d + 1) (by omega) (stepR R) h1 f (by omega)
      simp only [forall_eq]
      rw [nI_1]
      refine ⟨⟨fun _ => trivial, fun _ => ⟨fun q => absurd q hn, fun _ => K.1⟩⟩, ?_⟩
      show (F_X3_leastCrease_L7 (nI M) f (stepR R) (nI (d + 1))).1 = _
      rw [K.2]
      by_cases hle : t ≤ lenN (stepR R)
      · rw [if_pos hle, if_pos (by omega)]; rfl
      · rw [if_neg hle, if_neg (by omega)]
theorem least_ok {L : Int32} (hL : L ∈ lies) {M : Nat} (hM : M < 2 ^ 31) : P_X3_leastCrease L (nI M) ∧ F_X3_leastCrease L (nI M) = if M < lenN L then wordR (F_X3_reversed L) M else -10 := by
  have hR := lie_rev hL
  have hl : lenN (F_X3_reversed L) = lenN L := by unfold lenN; rw [rev_len hL]
  have K := lc_loop M hM M 0 (by omega) _ hR (M + 1) (by omega)
  rw [show nI 0 = 0 from rfl] at K
  unfold P_X3_leastCrease F_X3_leastCrease
  simp only [forall_eq]
  rw [nI_clamp hM]
  refine ⟨K.1, ?_⟩
  rw [K.2, hl]
  by_cases h1 : M < lenN L
  · rw [if_pos h1, if_pos (by omega)]; rfl
  · rw [if_neg h1]
    by_cases h2 : M ≤ lenN L
    · rw [if_pos h2]
      obtain ⟨h3, h4⟩ := seq_lie M _ hR (by omega)
      rw [(lenN0 h3).mp (by omega), fs_flat]
    · rw [if_neg h2, fs_flat]
theorem fb_loop : ∀ (r : Nat) (L : Int32), L ∈ lies → lenN L = r → ∀ (fuel m : Nat), r < fuel → m + r ≤ 16 → P_X3_foldsBack_L4 fuel L (nI m) ∧ (F_X3_foldsBack_L4 fuel L (nI m)).2 = nI (m + r) := by
  intro r
  induction r with
  | zero =>
    intro L hL hl fuel m hf hm
    obtain ⟨f, rfl⟩ : ∃ f, fuel = f + 1 := ⟨fuel - 1, by omega⟩
    have h0 : L = 1672 := (lenN0 hL).mp hl
    rw [P_X3_foldsBack_L4, F_X3_foldsBack_L4]
    by_cases h1 : 16 ≤ nI m
    · rw [if_pos h1]; exact ⟨⟨fun _ => trivial, fun q => absurd h1 q⟩, rfl⟩
    · rw [if_neg h1, if_pos h0]; exact ⟨⟨fun _ => trivial, fun _ => ⟨fun _ => trivial, fun q => absurd h0 q⟩⟩, rfl⟩
  | succ r ih =>
    intro L hL hl fuel m hf hm
    obtain ⟨f, rfl⟩ : ∃ f, fuel = f + 1 := ⟨fuel - 1, by omega⟩
    have hn : L ≠ 1672 := fun q => by have := (lenN0 hL).mpr q; omega
    have h1 : ¬ (16 : Int32) ≤ nI m := nI_ge (b := 16) (by omega) (by decide)
    obtain ⟨h2, h3⟩ := step_lie hL hn
    have K := ih (stepR L) h2 (by omega) f (m + 1) (by omega) (by omega)
    rw [P_X3_foldsBack_L4, F_X3_foldsBack_L4, if_neg h1, if_neg hn]
    simp only [forall_eq]
    rw [nI_1]
    refine ⟨⟨fun _ => trivial, fun _ => ⟨fun q => absurd q hn, fun _ => K.1⟩⟩, ?_⟩
    show (F_X3_foldsBack_L4 f (stepR L) (nI (m + 1))).2 = _
    rw [K.2]; congr 1; omega
theorem foldsBack_ok {L : Int32} (hL : L ∈ lies) : P_X3_foldsBack L ∧ F_X3_foldsBack L = F_X3_length L := by
  have h16 := (len_nI hL).2
  have K := fb_loop (lenN L) L hL rfl 17 0 (by omega) (by omega)
  rw [show nI 0 = 0 from rfl] at K
  unfold P_X3_foldsBack F_X3_foldsBack
  refine ⟨K.1, ?_⟩
  show (F_X3_foldsBack_L4 17 L 0).2 = _
  rw [K.2, Nat.zero_add, (len_nI hL).1]
def fsN (L : Int32) : Nat := if L = 1672 then 4 else (F_X3_firstShortening L).toNatClampNeg
theorem fsN_ok {L : Int32} (hL : L ∈ lies) (hn : L ≠ 1672) : fsN L < 4 ∧ F_X3_firstShortening L = nI (fsN L) := by
  obtain ⟨j, hj, e⟩ := c4_of_nI (fs_c4 hL hn).1
  have : fsN L = j := by unfold fsN; rw [if_neg hn, e, nI_clamp (by omega)]
  rw [this]; exact ⟨hj, e⟩
theorem mb_loop : ∀ (fuel : Nat) (L : Int32), L ∈ lies → ∀ (i m : Nat) (g : Nat → Int32), i ≤ fsN L → 5 * lenN L + (4 - i) < fuel → m + lenN L ≤ 16 → E4 g L → P_X11_foldedBack_L9 fuel g (nI m) (nI i) ∧ (F_X11_foldedBack_L9 fuel g (nI m) (nI i)).2.1 = nI (m + lenN L) := by
  intro fuel
  induction fuel with
  | zero => intro L hL i m g hi hf; omega
  | succ f ih =>
    intro L hL i m g hi hf hm hg
    rw [P_X11_foldedBack_L9, F_X11_foldedBack_L9]
    by_cases h4 : i = 4
    · subst h4
      have hfl : L = 1672 := by
        by_cases hn : L = 1672
        · exact hn
        · have := (fsN_ok hL hn).1; omega
      have hz := (lenN0 hL).mpr hfl
      rw [if_pos (show (4 : Int32) ≤ nI 4 by decide)]
      exact ⟨⟨fun _ => trivial, fun q => absurd (by decide) q⟩, by rw [hz, Nat.add_zero]⟩
    · have hi4 : i < 4 := by
        have : fsN L ≤ 4 := by
          by_cases hn : L = 1672
          · unfold fsN; rw [if_pos hn]; exact Nat.le_refl _
          · have := (fsN_ok hL hn).1; omega
        omega
      have hc := c4_nI hi4
      have h1 : ¬ (4 : Int32) ≤ nI i := nI_ge (b := 4) hi4 (by decide)
      have hF := lie_fold hL hc
      have h2 := e4_fold hg hL hc
      have h3 := e4_fold h2 hF hc
      rw [fold_fold hL hc] at h3
      rw [if_neg h1]
      simp only [forall_eq]
      rw [e4_len hg hL, e4_len h2 hF]
      by_cases hlt : i < fsN L
      · have hle : F_X3_length L ≤ F_X3_length (F_X3_folded L (nI i)) := by
          by_cases hn : L = 1672
          · rw [(len0 hL).mpr hn, (len_nI hF).1]; exact nI_pos' (by have := (len_nI hF).2; omega)
          · exact Int32.le_of_lt (fs_lt hL hn hc (by rw [(fsN_ok hL hn).2]; exact nI_lt hlt (by have := (fsN_ok hL hn).1; omega)))
        have K := ih L hL (i + 1) m _ (by omega) (by omega) hm h3
        rw [if_pos hle, if_pos hle, if_pos hle, nI_1]
        exact ⟨⟨fun q => absurd q h1, fun _ => ⟨p_fold _ hc, ⟨fun _ => p_fold _ hc, fun _ => trivial⟩, K.1⟩⟩, K.2⟩
      · have hn : L ≠ 1672 := fun q => by unfold fsN at hlt; rw [if_pos q] at hlt; omega
        have he : i = fsN L := by omega
        have hd : F_X3_firstShortening L = nI i := by rw [he]; exact (fsN_ok hL hn).2
        have hs := (fs_c4 hL hn).2
        rw [hd] at hs
        have hgt : ¬ F_X3_length L ≤ F_X3_length (F_X3_folded L (nI i)) := by
          rw [(len_nI hL).1, (len_nI hF).1]
          exact nI_ge (by omega) (by have := (len_nI hL).2; omega)
        have K := ih (F_X3_folded L (nI i)) hF 0 (m + 1) _ (Nat.zero_le _) (by omega) (by omega) h2
        rw [show nI 0 = 0 from rfl] at K
        rw [if_neg hgt, if_neg hgt, if_neg hgt, nI_1]
        exact ⟨⟨fun q => absurd q h1, fun _ => ⟨p_fold _ hc, ⟨fun q => absurd q hgt, fun _ => trivial⟩, K.1⟩⟩, by rw [K.2]; congr 1; omega⟩
def perC : Nat → Int32 → Int32 → Bool
  | 0, _, _ => false
  | k + 1, p, L => decide (p = 1672) || perC k (F_X3_joined p L) L
theorem pf_per : allL (fun L => perC 8 L L) = true := by decide +kernel
theorem per_loop {L : Int32} (hL : L ∈ lies) {t : Nat → Int32} (ht : E4 t L) : ∀ (k : Nat) (q : Int32), q ∈ lies → perC k q L = true → ∀ (m fm fc : Nat) (g b : Nat → Int32), E4 g q → k ≤ fm → k ≤ fc → m + k ≤ 9 → P_X11_period_L12 t fm g b (nI m) ∧ P_X3_period_L4 L fc q (nI m) ∧ (F_X11_period_L12 t fm g b (nI m)).2.2 = (F_X3_period_L4 L fc q (nI m)).2 := by
  intro k
  induction k with
  | zero => intro q hq h; exact absurd h (by simp [perC])
  | succ k ih =>
    intro q hq h m fm fc g b hg h1 h2 hm
    obtain ⟨fm, rfl⟩ : ∃ f, fm = f + 1 := ⟨fm - 1, by omega⟩
    obtain ⟨fc, rfl⟩ : ∃ f, fc = f + 1 := ⟨fc - 1, by omega⟩
    rw [P_X11_period_L12, F_X11_period_L12, P_X3_period_L4, F_X3_period_L4]
    simp only [forall_eq]
    rw [e4_flat hg hq]
    by_cases hn : q = 1672
    · rw [if_pos hn, if_neg (by decide)]
      refine ⟨⟨fun z => absurd z (by decide), fun _ => trivial⟩, ⟨fun _ => trivial, fun _ => ⟨fun _ => trivial, fun z => absurd hn z⟩⟩, ?_⟩
      rw [if_pos hn]
      split <;> rfl
    · rw [if_neg hn, if_pos rfl]
      have hk : perC k (F_X3_joined q L) L = true := by
        rw [perC, Bool.or_eq_true, decide_eq_true_eq] at h
        exact h.resolve_left hn
      have hk0 : 0 < k := by
        rcases Nat.eq_zero_or_pos k with rfl | z
        · exact absurd hk (by simp [perC])
        · exact z
      have h8 : ¬ (8 : Int32) ≤ nI m := nI_ge (b := 8) (by omega) (by decide)
      have K := ih (F_X3_joined q L) (lie_join hq hL).1 hk (m + 1) fm fc (F_X11_multiplies g t b).1 ((F_X11_multiplies g t b).2) (e4_mult hg ht hq hL) (by omega) (by omega) (by omega)
      rw [if_neg h8, if_neg hn, nI_1]
      exact ⟨⟨fun _ => ⟨p_mult ht hL, K.1⟩, fun z => absurd rfl z⟩, ⟨fun _ => trivial, fun _ => ⟨fun z => absurd z hn, fun _ => K.2.1⟩⟩, K.2.2⟩
theorem period_ok {L : Int32} (hL : L ∈ lies) {g t b : Nat → Int32} (hg : E4 g L) (ht : E4 t L) : P_X11_period_L12 t 10 g b 1 ∧ P_X3_period L ∧ (F_X11_period_L12 t 10 g b 1).2.2 = F_X3_period L := by
  have K := per_loop hL ht 8 L hL (allL_of pf_per hL) 1 10 9 g b hg (by omega) (by omega) (by omega)
  rw [show nI 1 = 1 from rfl] at K
  exact ⟨K.1, K.2.1, K.2.2⟩

theorem c4_ge {c : Int32} (hc : C4 c) : ¬ c < 0 := by rcases hc with e | e | e | e <;> (rw [e]; decide)
theorem c4_le {c : Int32} (hc : C4 c) : c ≤ 3 := by rcases hc with e | e | e | e <;> (rw [e]; decide)
/-- the rest of a least word, folded on -/
theorem rest_loop {st : St} (h : Inv st) {k : Nat} (hk : k < 5) {Z : Int32} (hZ : Z ∈ lies) : ∀ (t j : Nat), j + t = lenN (q_lie st k) → ∀ (fuel : Nat) (g : Nat → Int32) (X : Int32), t < fuel → E4 g X → X ∈ lies → F_X3_joined Z X = seqR (F_X3_reversed (q_lie st k)) j → P_L_rest_L33 st (nI k) fuel g (nI j) ∧ ∃ Y, Y ∈ lies ∧ E4 (F_L_rest_L33 st (nI k) fuel g (nI j)).1 Y ∧ F_X3_joined Z Y = 1672 := by
  have hL := h.lie hk
  have lN := len_nI hL
  have hR := lie_rev hL
  have lR := lenN_rev hL
  have r0 : F_S_letter st (nI k) 0 = nI (lenN (q_lie st k)) := (rd0 st hk).trans lN.1
  intro t
  induction t with
  | zero =>
    intro j hj fuel g X hf hg hX hJ
    obtain ⟨f, rfl⟩ : ∃ f, fuel = f + 1 := ⟨fuel - 1, by omega⟩
    have h1 : nI (lenN (q_lie st k)) ≤ nI j := nI_le (by omega) (by omega)
    rw [P_L_rest_L33, F_L_rest_L33]
    simp only [forall_eq, r0, if_pos h1]
    refine ⟨⟨rdP0 h hk, fun _ => trivial, fun q => absurd h1 q⟩, X, hX, hg, ?_⟩
    rw [hJ, show j = lenN (F_X3_reversed (q_lie st k)) by omega]
    exact seq_end hR
  | succ t ih =>
    intro j hj fuel g X hf hg hX hJ
    obtain ⟨f, rfl⟩ : ∃ f, fuel = f + 1 := ⟨fuel - 1, by omega⟩
    have h1 : ¬ nI (lenN (q_lie st k)) ≤ nI j := nI_ge (by omega) (by omega)
    have eC : F_S_least st (nI k) (nI j) = wordR (F_X3_reversed (q_lie st k)) j := by rw [s_least_F h hk (by omega), if_pos (by omega)]
    have hc := word_c4 hR (j := j) (by omega)
    obtain ⟨w1, w2⟩ := word_on hR hZ hX (by omega) hJ
    have K := ih (j + 1) (by omega) f _ _ (by omega) (e4_foldL hg hX hc) w1 w2
    rw [P_L_rest_L33, F_L_rest_L33]
    simp only [forall_eq, r0, if_neg h1, eC, nI_1]
    exact ⟨⟨rdP0 h hk, fun q => absurd q h1, fun _ => ⟨s_least_P h hk (by omega), p_foldL _ hc, K.1⟩⟩, K.2⟩
theorem rest_ok {st : St} (h : Inv st) {k j : Nat} (hk : k < 5) (hj : j ≤ lenN (q_lie st k)) {c : Int32} (hc : C4 c) (g : Nat → Int32) : P_L_rest st g (nI k) (nI j) c ∧ (F_L_rest st g (nI k) (nI j) c).1 = F_X3_length (F_X3_folded (seqR (F_X3_reversed (q_lie st k)) j) c) := by
  have hL := h.lie hk
  have h16 := (len_nI hL).2
  have hR := lie_rev hL
  have lR := lenN_rev hL
  obtain ⟨s1, s2⟩ := seq_lie j _ hR (by omega)
  have hZ := lie_fold s1 hc
  have E1 := e4_foldL (e4_flatU g) flat_lie hc
  have J : F_X3_joined (F_X3_folded (seqR (F_X3_reversed (q_lie st k)) j) c) (F_X3_folded 1672 c) = seqR (F_X3_reversed (q_lie st k)) j := by
    rw [join_fold hZ flat_lie hc, (unit4 hZ).1, fold_fold s1 hc]
  obtain ⟨K1, Y, hY, eY, jY⟩ := rest_loop h hk hZ (lenN (q_lie st k) - j) j (by omega) 18 _ _ (by omega) E1 (lie_fold flat_lie hc) J
  unfold P_L_rest F_L_rest
  simp only [forall_eq]
  refine ⟨⟨p_foldL _ hc, K1⟩, ?_⟩
  rw [e4_lenL eY hY, join_flat hZ hY jY, rev_len hZ]
/-- the law folds a flat row by the least word -/
theorem le_loop {st : St} (h : Inv st) {k : Nat} (hk : k < 5) : ∀ (t j : Nat), j + t = lenN (q_lie st k) → ∀ (fuel : Nat) (g : Nat → Int32) (X : Int32), t < fuel → E4 g X → X ∈ lies → F_X3_joined (F_X3_reversed (q_lie st k)) X = seqR (F_X3_reversed (q_lie st k)) j → P_L_isLeast_L33 (nI (lenN (q_lie st k))) st (nI k) fuel g (nI j) ∧ E4 (F_L_isLeast_L33 (nI (lenN (q_lie st k))) st (nI k) fuel g (nI j)).1 (q_lie st k) := by
  have hL := h.lie hk
  have lN := len_nI hL
  have hR := lie_rev hL
  have lR := lenN_rev hL
  intro t
  induction t with
  | zero =>
    intro j hj fuel g X hf hg hX hJ
    obtain ⟨f, rfl⟩ : ∃ f, fuel = f + 1 := ⟨fuel - 1, by omega⟩
    have h1 : nI (lenN (q_lie st k)) ≤ nI j := nI_le (by omega) (by omega)
    rw [P_L_isLeast_L33, F_L_isLeast_L33, if_pos h1]
    refine ⟨⟨fun _ => trivial, fun q => absurd h1 q⟩, ?_⟩
    rw [show j = lenN (F_X3_reversed (q_lie st k)) by omega, seq_end hR] at hJ
    have e := join_flat hR hX hJ
    rw [rev_rev hL] at e
    rw [← e]
    exact hg
  | succ t ih =>
    intro j hj fuel g X hf hg hX hJ
    obtain ⟨f, rfl⟩ : ∃ f, fuel = f + 1 := ⟨fuel - 1, by omega⟩
    have h1 : ¬ nI (lenN (q_lie st k)) ≤ nI j := nI_ge (by omega) (by omega)
    have h2 : ¬ (16 : Int32) ≤ nI j := nI_ge (b := 16) (by omega) (by decide)
    have eC : F_S_least st (nI k) (nI j) = wordR (F_X3_reversed (q_lie st k)) j := by rw [s_least_F h hk (by omega), if_pos (by omega)]
    have hc := word_c4 hR (j := j) (by omega)
    obtain ⟨w1, w2⟩ := word_on hR hR hX (by omega) hJ
    have K := ih (j + 1) (by omega) f _ _ (by omega) (e4_foldL hg hX hc) w1 w2
    rw [P_L_isLeast_L33, F_L_isLeast_L33, if_neg h1, if_neg h2]
    simp only [forall_eq, eC, nI_1]
    exact ⟨⟨fun q => absurd q h1, fun _ => ⟨fun q => absurd q h2, fun _ => ⟨s_least_P h hk (by omega), c4_ge hc, c4_le hc, p_foldL _ hc, K.1⟩⟩⟩, K.2⟩
theorem li_loop {st : St} (h : Inv st) {k j d : Nat} (hk : k < 5) (hj : j < lenN (q_lie st k)) (hd : d < 4) (ed : wordR (F_X3_reversed (q_lie st k)) j = nI d) : ∀ (t c : Nat), c + t = d → ∀ (fuel : Nat) (g : Nat → Int32), t < fuel → P_L_isLeast_L162 st (nI k) (nI j) (nI (lenN (q_lie st k))) fuel g (nI c) := by
  have hL := h.lie hk
  have lN := len_nI hL
  have hR := lie_rev hL
  have lR := lenN_rev hL
  have eC : F_S_least st (nI k) (nI j) = nI d := by rw [s_least_F h hk (by omega), if_pos hj, ed]
  obtain ⟨s1, s2⟩ := seq_lie j _ hR (by omega)
  have hn : seqR (F_X3_reversed (q_lie st k)) j ≠ 1672 := fun q => by have := (lenN0 s1).mpr q; omega
  intro t
  induction t with
  | zero =>
    intro c hc fuel g hf
    obtain ⟨f, rfl⟩ : ∃ f, fuel = f + 1 := ⟨fuel - 1, by omega⟩
    have h1 : nI d ≤ nI c := nI_le (by omega) (by omega)
    rw [P_L_isLeast_L162]
    simp only [forall_eq, eC]
    exact ⟨s_least_P h hk (by omega), fun _ => trivial, fun q => absurd h1 q⟩
  | succ t ih =>
    intro c hc fuel g hf
    obtain ⟨f, rfl⟩ : ∃ f, fuel = f + 1 := ⟨fuel - 1, by omega⟩
    have h1 : ¬ nI d ≤ nI c := nI_ge (by omega) (by omega)
    have hc4 := c4_nI (j := c) (by omega)
    have RO := rest_ok h hk (j := j) (by omega) hc4 g
    have K := ih (c + 1) (by omega) f (F_L_rest st g (nI k) (nI j) (nI c)).2 (by omega)
    have hlt := fs_lt s1 hn hc4 (by show nI c < wordR (F_X3_reversed (q_lie st k)) j; rw [ed]; exact nI_lt (by omega) (by omega))
    rw [P_L_isLeast_L162]
    simp only [forall_eq, eC, nI_1]
    refine ⟨s_least_P h hk (by omega), fun q => absurd q h1, fun _ => ⟨RO.1, ?_, K⟩⟩
    rw [RO.2, nI_sub (by omega) (by omega), show lenN (q_lie st k) - j = lenN (seqR (F_X3_reversed (q_lie st k)) j) by omega, ← (len_nI s1).1]
    exact Int32.not_le.mpr hlt
theorem lo_loop {st : St} (h : Inv st) {k : Nat} (hk : k < 5) : ∀ (t j : Nat), j + t = lenN (q_lie st k) → ∀ (fuel : Nat) (g : Nat → Int32), t < fuel → P_L_isLeast_L148 (nI (lenN (q_lie st k))) st (nI k) fuel g (nI j) := by
  have hL := h.lie hk
  have lN := len_nI hL
  have hR := lie_rev hL
  have lR := lenN_rev hL
  intro t
  induction t with
  | zero =>
    intro j hj fuel g hf
    obtain ⟨f, rfl⟩ : ∃ f, fuel = f + 1 := ⟨fuel - 1, by omega⟩
    have h1 : nI (lenN (q_lie st k)) ≤ nI j := nI_le (by omega) (by omega)
    rw [P_L_isLeast_L148]
    exact ⟨fun _ => trivial, fun q => absurd h1 q⟩
  | succ t ih =>
    intro j hj fuel g hf
    obtain ⟨f, rfl⟩ : ∃ f, fuel = f + 1 := ⟨fuel - 1, by omega⟩
    have h1 : ¬ nI (lenN (q_lie st k)) ≤ nI j := nI_ge (by omega) (by omega)
    obtain ⟨d, hd, ed⟩ := c4_of_nI (word_c4 hR (j := j) (by omega))
    have I := li_loop h hk (j := j) (by omega) hd ed d 0 (by omega) 5 g (by omega)
    rw [show nI 0 = 0 from rfl] at I
    rw [P_L_isLeast_L148]
    simp only [forall_eq, nI_1]
    exact ⟨fun q => absurd q h1, fun _ => ⟨I, ih (j + 1) (by omega) f _ (by omega)⟩⟩
set_option maxRecDepth 20000 in
set_option maxHeartbeats 4000000 in
/-- the least word makes the letter, and is less than others -/
theorem isLeast_ok {st : St} (h : Inv st) {k : Nat} (hk : k < 5) (fA : Nat → Int32) : P_L_isLeast st fA (nI k) := by
  have hL := h.lie hk
  have lN := len_nI hL
  have hR := lie_rev hL
  have J0 : F_X3_joined (F_X3_reversed (q_lie st k)) 1672 = seqR (F_X3_reversed (q_lie st k)) 0 := (unit4 hR).1
  unfold P_L_isLeast
  refine ⟨?_, ?_⟩
  · exact rdP0 h hk
  intro r2 e_r2
  replace e_r2 := (e_r2.trans (rd0 st hk)).trans lN.1
  intro g3 e_g3
  intro g4 e_g4
  intro g5 e_g5
  intro g6 e_g6
  have E_g6 : E4 g6 1672 := by rw [e_g6, e_g5, e_g4, e_g3]; exact e4_flatU fA
  refine ⟨?_, ?_⟩
  · rw [e_r2]
    exact (le_loop h hk (lenN (q_lie st k)) 0 (by omega) 17 g6 1672 (by omega) E_g6 flat_lie J0).1
  intro f19 e_f19
  have E_f19 : E4 f19 (q_lie st k) := by
    rw [e_f19, e_r2]
    exact (le_loop h hk (lenN (q_lie st k)) 0 (by omega) 17 g6 1672 (by omega) E_g6 flat_lie J0).2
  intro z20 e_z20
  refine ⟨?_, ?_⟩
  · rw [e_r2]
    exact s_least_P h hk (by omega)
  intro r22 e_r22
  rw [e_r2, s_least_F h hk (by omega), if_neg (Nat.lt_irrefl _)] at e_r22
  refine ⟨?_, ?_⟩
  · exact e_r22
  refine ⟨?_, ?_⟩
  · rw [e_r2]
    exact Int32.not_lt.mpr (nI_le (b := 16) lN.2 (by decide))
  refine ⟨?_, ?_⟩
  · exact s_layer_P hk (p := 0) (by decide)
  intro r26 e_r26
  replace e_r26 := e_r26.trans (s_layer_F st hk (p := 0))
  refine ⟨?_, ?_⟩
  · exact (E_f19.at (p := 0) (by decide)).trans e_r26.symm
  refine ⟨?_, ?_⟩
  · exact s_layer_P hk (p := 1) (by decide)
  intro r29 e_r29
  replace e_r29 := e_r29.trans (s_layer_F st hk (p := 1))
  refine ⟨?_, ?_⟩
  · exact (E_f19.at (p := 1) (by decide)).trans e_r29.symm
  refine ⟨?_, ?_⟩
  · exact s_layer_P hk (p := 2) (by decide)
  intro r32 e_r32
  replace e_r32 := e_r32.trans (s_layer_F st hk (p := 2))
  refine ⟨?_, ?_⟩
  · exact (E_f19.at (p := 2) (by decide)).trans e_r32.symm
  refine ⟨?_, ?_⟩
  · exact s_layer_P hk (p := 3) (by decide)
  intro r35 e_r35
  replace e_r35 := e_r35.trans (s_layer_F st hk (p := 3))
  refine ⟨?_, ?_⟩
  · exact (E_f19.at (p := 3) (by decide)).trans e_r35.symm
  rw [e_r2]
  exact lo_loop h hk (lenN (q_lie st k)) 0 (by omega) 17 f19 (by omega)

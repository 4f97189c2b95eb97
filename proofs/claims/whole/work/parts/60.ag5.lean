theorem mix_eq : F_X11_adds = F_X10_mixed := rfl
theorem mr_loop {k N : Nat} {fS f : Nat → Int32} (hk : k < 5) (hN : N ≤ 60) (h4 : fS (67 * k + 4) = nI N) (hf : ∀ j, j < N → fS (67 * k + (7 + j)) = f j) : ∀ (t j : Nat), j + t = N → ∀ (f1 f2 : Nat) (acc : Int64), t < f1 → t < f2 → P_X10_mixedRow_L5 (nI N) f f1 acc (nI j) ∧ P_X11_addsLetter_L51 fS (nI k) f2 (nI j) acc ∧ (F_X11_addsLetter_L51 fS (nI k) f2 (nI j) acc).2 = (F_X10_mixedRow_L5 (nI N) f f1 acc (nI j)).1 := by
  intro t
  induction t with
  | zero =>
    intro j hj f1 f2 acc h1 h2
    obtain ⟨f1, rfl⟩ : ∃ g, f1 = g + 1 := ⟨f1 - 1, by omega⟩
    obtain ⟨f2, rfl⟩ : ∃ g, f2 = g + 1 := ⟨f2 - 1, by omega⟩
    have c : nI N ≤ nI j := nI_le (by omega) (by omega)
    rw [P_X10_mixedRow_L5, P_X11_addsLetter_L51, F_X11_addsLetter_L51, F_X10_mixedRow_L5]
    unfold F_X6_size
    simp only [forall_eq, its4 hk, h4, if_pos c]
    exact ⟨⟨fun _ => trivial, fun q => absurd c q⟩, ⟨itsP4 hk, fun _ => trivial, fun q => absurd c q⟩, True.intro⟩
  | succ t ih =>
    intro j hj f1 f2 acc h1 h2
    obtain ⟨f1, rfl⟩ : ∃ g, f1 = g + 1 := ⟨f1 - 1, by omega⟩
    obtain ⟨f2, rfl⟩ : ∃ g, f2 = g + 1 := ⟨f2 - 1, by omega⟩
    have c : ¬ nI N ≤ nI j := nI_ge (by omega) (by omega)
    have A := row_at f (N := N) (j := j) (by omega) hN
    have e7 : (7 : Int32) + nI j = nI (7 + j) := nI_add 7 j
    have x7 : F_X11_its fS (nI k) (nI (7 + j)) = f j := by rw [its_eq hk (by omega)]; exact hf j (by omega)
    have p7 := its_P hk (W := 7 + j) (by omega)
    have K := ih (j + 1) (by omega) f1 f2 (F_X10_mixed acc (f j).toInt64) (by omega) (by omega)
    rw [P_X10_mixedRow_L5, P_X11_addsLetter_L51, F_X11_addsLetter_L51, F_X10_mixedRow_L5]
    unfold F_X6_size
    simp only [forall_eq, its4 hk, h4, if_neg c, A.2, e7, x7, mix_eq, nI_1]
    exact ⟨⟨fun q => absurd q c, fun _ => ⟨A.1, K.1⟩⟩, ⟨itsP4 hk, fun q => absurd q c, fun _ => ⟨p7, K.2.1⟩⟩, K.2.2⟩
theorem mt_loop {N : Nat} {X f : Nat → Int32} (hN : N ≤ 60) (hf : ∀ j, j < N → X j = f j) : ∀ (t j : Nat), j + t = N → ∀ (f1 f2 : Nat) (acc : Int64), t < f1 → t < f2 → P_X10_mixedRow_L5 (nI N) f f1 acc (nI j) ∧ P_X11_digest_L133 (nI N) X f2 (nI j) acc ∧ (F_X11_digest_L133 (nI N) X f2 (nI j) acc).2 = (F_X10_mixedRow_L5 (nI N) f f1 acc (nI j)).1 := by
  intro t
  induction t with
  | zero =>
    intro j hj f1 f2 acc h1 h2
    obtain ⟨f1, rfl⟩ : ∃ g, f1 = g + 1 := ⟨f1 - 1, by omega⟩
    obtain ⟨f2, rfl⟩ : ∃ g, f2 = g + 1 := ⟨f2 - 1, by omega⟩
    have c : nI N ≤ nI j := nI_le (by omega) (by omega)
    rw [P_X10_mixedRow_L5, P_X11_digest_L133, F_X11_digest_L133, F_X10_mixedRow_L5]
    unfold F_X6_size
    simp only [forall_eq, if_pos c]
    exact ⟨⟨fun _ => trivial, fun q => absurd c q⟩, ⟨fun _ => trivial, fun q => absurd c q⟩, True.intro⟩
  | succ t ih =>
    intro j hj f1 f2 acc h1 h2
    obtain ⟨f1, rfl⟩ : ∃ g, f1 = g + 1 := ⟨f1 - 1, by omega⟩
    obtain ⟨f2, rfl⟩ : ∃ g, f2 = g + 1 := ⟨f2 - 1, by omega⟩
    have c : ¬ nI N ≤ nI j := nI_ge (by omega) (by omega)
    have A := row_at f (N := N) (j := j) (by omega) hN
    have K := ih (j + 1) (by omega) f1 f2 (F_X10_mixed acc (f j).toInt64) (by omega) (by omega)
    rw [P_X10_mixedRow_L5, P_X11_digest_L133, F_X11_digest_L133, F_X10_mixedRow_L5]
    unfold F_X6_size
    simp only [forall_eq, if_neg c, A.2, nI_clamp (n := j) (by omega), hf j (by omega), mix_eq, nI_1]
    exact ⟨⟨fun q => absurd q c, fun _ => ⟨A.1, K.1⟩⟩, ⟨fun q => absurd q c, fun _ => ⟨vp_in_nI (by omega) (by decide), K.2.1⟩⟩, K.2.2⟩
theorem mw_loop {L : Int32} (hL : L ∈ lies) {w : Nat → Int32} (hw : ∀ j, j < lenN L → w j = wordR (F_X3_reversed L) j) : ∀ (t j : Nat), j + t = lenN L → ∀ (f1 f2 : Nat) (acc : Int64), t < f1 → t < f2 → P_X10_mixedLeastWord_L11 (nI (lenN L)) L f1 acc (nI j) ∧ P_X11_addsWord_L11 (nI (lenN L)) w f2 (nI j) acc ∧ (F_X11_addsWord_L11 (nI (lenN L)) w f2 (nI j) acc).2 = (F_X10_mixedLeastWord_L11 (nI (lenN L)) L f1 acc (nI j)).1 := by
  have h16 := (len_nI hL).2
  intro t
  induction t with
  | zero =>
    intro j hj f1 f2 acc h1 h2
    obtain ⟨f1, rfl⟩ : ∃ g, f1 = g + 1 := ⟨f1 - 1, by omega⟩
    obtain ⟨f2, rfl⟩ : ∃ g, f2 = g + 1 := ⟨f2 - 1, by omega⟩
    have c : nI (lenN L) ≤ nI j := nI_le (by omega) (by omega)
    rw [P_X10_mixedLeastWord_L11, P_X11_addsWord_L11, F_X11_addsWord_L11, F_X10_mixedLeastWord_L11]
    simp only [if_pos c]
    exact ⟨⟨fun _ => trivial, fun q => absurd c q⟩, ⟨fun _ => trivial, fun q => absurd c q⟩, True.intro⟩
  | succ t ih =>
    intro j hj f1 f2 acc h1 h2
    obtain ⟨f1, rfl⟩ : ∃ g, f1 = g + 1 := ⟨f1 - 1, by omega⟩
    obtain ⟨f2, rfl⟩ : ∃ g, f2 = g + 1 := ⟨f2 - 1, by omega⟩
    have c : ¬ nI (lenN L) ≤ nI j := nI_ge (by omega) (by omega)
    have A := least_ok hL (M := j) (by omega)
    rw [if_pos (by omega)] at A
    have K := ih (j + 1) (by omega) f1 f2 (F_X10_mixed acc (wordR (F_X3_reversed L) j).toInt64) (by omega) (by omega)
    rw [P_X10_mixedLeastWord_L11, P_X11_addsWord_L11, F_X11_addsWord_L11, F_X10_mixedLeastWord_L11]
    simp only [forall_eq, if_neg c, A.2, nI_clamp (n := j) (by omega), hw j (by omega), mix_eq, nI_1]
    exact ⟨⟨fun q => absurd q c, fun _ => ⟨A.1, K.1⟩⟩, ⟨fun q => absurd q c, fun _ => ⟨vp_in_nI (by omega) (by decide), K.2.1⟩⟩, K.2.2⟩
theorem addsWord_ok {k : Nat} {l s fo nn : Int32} {ff fS : Nat → Int32} (hk : k < 5) (h : LetR l s fo nn ff (fun i => fS (67 * k + i))) (acc : Int64) (g w : Nat → Int32) : P_X10_mixedLeastWord acc l ∧ P_X11_addsWord acc fS g w (nI k) ∧ (F_X11_addsWord acc fS g w (nI k)).2.1 = F_X10_mixedLeastWord acc l := by
  have hE := e4_takes (g := g) hk (fun p hp => h.layp hp)
  have W := words_ok (w := w) hE h.1
  have h16 := (len_nI h.1).2
  have K := mw_loop h.1 W.2.2 (lenN l) 0 (by omega) 18 22 acc (by omega) (by omega)
  rw [show nI 0 = 0 from rfl] at K
  refine ⟨?_, ?_, ?_⟩
  · unfold P_X10_mixedLeastWord
    simp only [forall_eq, (len_nI h.1).1]
    exact K.1
  · unfold P_X11_addsWord
    simp only [forall_eq, W.2.1]
    exact ⟨p_takes hk, W.1, K.2.1⟩
  · unfold F_X11_addsWord F_X10_mixedLeastWord
    simp only [W.2.1, (len_nI h.1).1, K.2.2]
theorem row_mix {k : Nat} {l s fo nn : Int32} {ff fS : Nat → Int32} (hk : k < 5) (h : LetR l s fo nn ff (fun i => fS (67 * k + i))) (acc : Int64) : P_X10_mixedRow nn ff acc ∧ P_X11_addsLetter_L51 fS (nI k) 62 0 acc ∧ (F_X11_addsLetter_L51 fS (nI k) 62 0 acc).2 = F_X10_mixedRow nn ff acc := by
  obtain ⟨N, hN, e1, e2, h3⟩ := h.2.2.1
  have K := mr_loop hk hN e2 (fun j hj => (h3 j hj).1) N 0 (by omega) 62 62 acc (by omega) (by omega)
  rw [show nI 0 = 0 from rfl] at K
  rw [e1]
  exact K
theorem np_ok {p : Nat} (hp : p < 4) : P_X10_needPosition (nI p) := by
  rcases place_cases (nI p) with ⟨q, hq, -, -, h⟩ | ⟨h, hx⟩
  · exact h
  · exact absurd (nI_lt (b := 4) hp (by decide)) (hx.2 (nI_nneg (by omega)))
theorem nc_ok {p : Nat} (hp : p < 4) : P_X10_needCrease (nI p) := by
  rcases crease_cases (nI p) with ⟨q, hq, -, -, h⟩ | ⟨h, hx⟩
  · exact h
  · exact absurd (nI_lt (b := 4) hp (by decide)) (hx.2 (nI_nneg (by omega)))
theorem at_ok {k : Nat} (hk : k < 5) : P_X4_atB (nI k) := by
  rcases letter_cases (nI k) with ⟨q, hq, -, -, h⟩ | ⟨h, hx⟩
  · exact h
  · exact absurd (nI_lt (b := 5) hk (by decide)) (hx.2 (nI_nneg (by omega)))
theorem d_layer {lie seals folds n : Nat → Int32} {f : Nat → Nat → Int32} {fS : Nat → Int32} (h : PileR lie seals folds n f fS) {k p : Nat} (hk : k < 5) (hp : p < 4) : P_X10_layer (nI k) (nI p) ∧ P_X11_its (nI k) (nI p) ∧ F_X11_its fS (nI k) (nI p) = F_X10_layer lie (nI k) (nI p) := by
  refine ⟨⟨at_ok hk, np_ok hp, by rw [ck hk]; exact hk⟩, its_P hk (by omega), ?_⟩
  rw [its_eq hk (by omega)]
  unfold F_X10_layer F_X2_lie_P F_X2_lie
  rw [ck hk]
  exact (h k hk).atp hp
theorem d_letter {lie seals folds n : Nat → Int32} {f : Nat → Nat → Int32} {fS : Nat → Int32} (h : PileR lie seals folds n f fS) {k w : Nat} (hk : k < 5) (hw : w ≤ 10) (g t b : Nat → Int32) : P_X10_letter lie (nI k) (nI w) ∧ P_X11_number fS g t b (nI k) (nI w) ∧ (F_X11_number fS g t b (nI k) (nI w)).1 = F_X10_letter lie seals folds n (nI k) (nI w) := by
  have N := number_ok (g := g) (t := t) (b := b) hk (h k hk) hw
  have nw : ¬ nI w < 0 := nI_nneg (by omega)
  have lw : nI w ≤ 10 := nI_le (b := 10) hw (by decide)
  refine ⟨⟨at_ok hk, fun q => nw q, fun _ => ⟨fun _ => by rw [ck hk]; exact ⟨hk, N.2.1⟩, fun q => q lw⟩⟩, N.1, ?_⟩
  unfold F_X10_letter F_X2_number_P
  simp only [ck hk, if_neg nw, if_pos lw, N.2.2]
theorem d_why {lie seals folds n : Nat → Int32} {f : Nat → Nat → Int32} {fS : Nat → Int32} (h : PileR lie seals folds n f fS) {k c : Nat} (hk : k < 5) (hc : c < 4) : P_X10_why (nI k) (nI c) ∧ P_X11_reason fS (nI k) ∧ F_X11_reason fS (nI k) (nI c) = F_X10_why seals n (nI k) (nI c) := by
  have R := reason_ok hk (h k hk) (c4_nI hc)
  refine ⟨⟨at_ok hk, nc_ok hc, by rw [ck hk]; exact hk⟩, R.1, ?_⟩
  unfold F_X10_why F_X2_reasonAgainst_P
  rw [ck hk]
  exact R.2
theorem d_if {lie seals folds n : Nat → Int32} {f : Nat → Nat → Int32} {fS : Nat → Int32} (h : PileR lie seals folds n f fS) {k c : Nat} (hk : k < 5) (hc : c < 4) (g : Nat → Int32) : P_X10_ifFolded (nI k) (nI c) ∧ P_X11_foldedLength fS g (nI k) (nI c) ∧ (F_X11_foldedLength fS g (nI k) (nI c)).1 = F_X10_ifFolded lie (nI k) (nI c) := by
  have R := foldedLength_ok (g := g) hk (h k hk) (c4_nI hc)
  refine ⟨⟨at_ok hk, nc_ok hc, by rw [ck hk]; exact hk⟩, R.1, ?_⟩
  unfold F_X10_ifFolded F_X2_lie_P F_X2_lie
  rw [ck hk]
  exact R.2
theorem d_dist {lie seals folds n : Nat → Int32} {f : Nat → Nat → Int32} {fS : Nat → Int32} (h : PileR lie seals folds n f fS) {k j : Nat} (hk : k < 5) (hj : j < 5) (g t b : Nat → Int32) : P_X10_distance lie (nI k) (nI j) ∧ P_X11_distanceOf fS g t b (nI k) (nI j) ∧ (F_X11_distanceOf fS g t b (nI k) (nI j)).1 = F_X10_distance lie (nI k) (nI j) := by
  have R := dist_ok (g := g) (t := t) (b := b) h hk hj
  refine ⟨⟨at_ok hk, by rw [ck hk]; exact hk, fun _ _ => ⟨at_ok hj, by rw [ck hj]; exact hj⟩⟩, R.1, ?_⟩
  unfold F_X10_distance F_X2_lie_P F_X2_lie
  rw [ck hk, ck hj]
  exact R.2
set_option maxRecDepth 20000 in
set_option maxHeartbeats 8000000 in
/-- a letter's share of the hash -/
theorem d_mix {lie seals folds n : Nat → Int32} {f : Nat → Nat → Int32} {fS : Nat → Int32} (h : PileR lie seals folds n f fS) {k : Nat} (hk : k < 5) (acc : Int64) (g t b w : Nat → Int32) : P_X10_mixedLetter lie seals folds n f acc (nI k) ∧ P_X11_addsLetter acc fS g t b w (nI k) ∧ (F_X11_addsLetter acc fS g t b w (nI k)).2.1 = F_X10_mixedLetter lie seals folds n f acc (nI k) := by
  have hl := h k hk
  have A := at_ok hk
  have Y0 := d_layer h hk (p := 0) (by decide)
  rw [show nI 0 = 0 from rfl] at Y0
  have Y1 := d_layer h hk (p := 1) (by decide)
  rw [show nI 1 = 1 from rfl] at Y1
  have Y2 := d_layer h hk (p := 2) (by decide)
  rw [show nI 2 = 2 from rfl] at Y2
  have Y3 := d_layer h hk (p := 3) (by decide)
  rw [show nI 3 = 3 from rfl] at Y3
  have L0 := d_letter h hk (w := 0) (by decide)
  rw [show nI 0 = 0 from rfl] at L0
  have L1 := d_letter h hk (w := 1) (by decide)
  rw [show nI 1 = 1 from rfl] at L1
  have L2 := d_letter h hk (w := 2) (by decide)
  rw [show nI 2 = 2 from rfl] at L2
  have L3 := d_letter h hk (w := 3) (by decide)
  rw [show nI 3 = 3 from rfl] at L3
  have L4 := d_letter h hk (w := 4) (by decide)
  rw [show nI 4 = 4 from rfl] at L4
  have L5 := d_letter h hk (w := 5) (by decide)
  rw [show nI 5 = 5 from rfl] at L5
  have L6 := d_letter h hk (w := 6) (by decide)
  rw [show nI 6 = 6 from rfl] at L6
  have L7 := d_letter h hk (w := 7) (by decide)
  rw [show nI 7 = 7 from rfl] at L7
  have L8 := d_letter h hk (w := 8) (by decide)
  rw [show nI 8 = 8 from rfl] at L8
  have L9 := d_letter h hk (w := 9) (by decide)
  rw [show nI 9 = 9 from rfl] at L9
  have L10 := d_letter h hk (w := 10) (by decide)
  rw [show nI 10 = 10 from rfl] at L10
  have W0 := d_why h hk (c := 0) (by decide)
  rw [show nI 0 = 0 from rfl] at W0
  have I0 := d_if h hk (c := 0) (by decide)
  rw [show nI 0 = 0 from rfl] at I0
  have W1 := d_why h hk (c := 1) (by decide)
  rw [show nI 1 = 1 from rfl] at W1
  have I1 := d_if h hk (c := 1) (by decide)
  rw [show nI 1 = 1 from rfl] at I1
  have W2 := d_why h hk (c := 2) (by decide)
  rw [show nI 2 = 2 from rfl] at W2
  have I2 := d_if h hk (c := 2) (by decide)
  rw [show nI 2 = 2 from rfl] at I2
  have W3 := d_why h hk (c := 3) (by decide)
  rw [show nI 3 = 3 from rfl] at W3
  have I3 := d_if h hk (c := 3) (by decide)
  rw [show nI 3 = 3 from rfl] at I3
  have D0 := d_dist h hk (j := 0) (by decide)
  rw [show nI 0 = 0 from rfl] at D0
  have D1 := d_dist h hk (j := 1) (by decide)
  rw [show nI 1 = 1 from rfl] at D1
  have D2 := d_dist h hk (j := 2) (by decide)
  rw [show nI 2 = 2 from rfl] at D2
  have D3 := d_dist h hk (j := 3) (by decide)
  rw [show nI 3 = 3 from rfl] at D3
  have D4 := d_dist h hk (j := 4) (by decide)
  rw [show nI 4 = 4 from rfl] at D4
  have NE := fun g t b => near_ok (g := g) (t := t) (b := b) h hk
  have RM := row_mix hk hl
  have AW := addsWord_ok hk hl
  have rP : P_X2_remembered_P k := hk
  have lP : P_X2_lie_P k := hk
  have mP : ∀ a, P_X10_mixedRow_P n f k a := fun a => ⟨hk, (RM a).1⟩
  have nP : P_X10_nearest (nI k) := ⟨A, by rw [ck hk]; exact hk⟩
  refine ⟨?_, ?_, ?_⟩
  · unfold P_X10_mixedLetter F_X2_lie_P F_X2_lie
    simp only [forall_eq, ck hk, eq_true A, eq_true rP, eq_true lP, eq_true (mP _), eq_true nP, eq_true (AW _ fS fS).1, eq_true Y0.1, eq_true Y1.1, eq_true Y2.1, eq_true Y3.1, eq_true (L0 fS fS fS).1, eq_true (L1 fS fS fS).1, eq_true (L2 fS fS fS).1, eq_true (L3 fS fS fS).1, eq_true (L4 fS fS fS).1, eq_true (L5 fS fS fS).1, eq_true (L6 fS fS fS).1, eq_true (L7 fS fS fS).1, eq_true (L8 fS fS fS).1, eq_true (L9 fS fS fS).1, eq_true (L10 fS fS fS).1, eq_true W0.1, eq_true W1.1, eq_true W2.1, eq_true W3.1, eq_true (I0 fS).1, eq_true (I1 fS).1, eq_true (I2 fS).1, eq_true (I3 fS).1, eq_true (D0 fS fS fS).1, eq_true (D1 fS fS fS).1, eq_true (D2 fS fS fS).1, eq_true (D3 fS fS fS).1, eq_true (D4 fS fS fS).1, implies_true, and_self]
  · unfold P_X11_addsLetter
    simp only [eq_true Y0.2.1, eq_true Y1.2.1, eq_true Y2.2.1, eq_true Y3.2.1, eq_true (L0 _ _ _).2.1, eq_true (L1 _ _ _).2.1, eq_true (L2 _ _ _).2.1, eq_true (L3 _ _ _).2.1, eq_true (L4 _ _ _).2.1, eq_true (L5 _ _ _).2.1, eq_true (L6 _ _ _).2.1, eq_true (L7 _ _ _).2.1, eq_true (L8 _ _ _).2.1, eq_true (L9 _ _ _).2.1, eq_true (L10 _ _ _).2.1, eq_true W0.2.1, eq_true (I0 _).2.1, eq_true (I1 _).2.1, eq_true (I2 _).2.1, eq_true (I3 _).2.1, eq_true (D0 _ _ _).2.1, eq_true (D1 _ _ _).2.1, eq_true (D2 _ _ _).2.1, eq_true (D3 _ _ _).2.1, eq_true (D4 _ _ _).2.1, eq_true (RM _).2.1, eq_true (AW _ _ _).2.1, eq_true (NE _ _ _).1, implies_true, and_self]
  · unfold F_X11_addsLetter F_X10_mixedLetter F_X10_mixedRow_P F_X2_lie_P F_X2_lie
    simp only [mix_eq, ck hk, Y0.2.2, Y1.2.2, Y2.2.2, Y3.2.2, (L0 _ _ _).2.2, (L1 _ _ _).2.2, (L2 _ _ _).2.2, (L3 _ _ _).2.2, (L4 _ _ _).2.2, (L5 _ _ _).2.2, (L6 _ _ _).2.2, (L7 _ _ _).2.2, (L8 _ _ _).2.2, (L9 _ _ _).2.2, (L10 _ _ _).2.2, W0.2.2, W1.2.2, W2.2.2, W3.2.2, (I0 _).2.2, (I1 _).2.2, (I2 _).2.2, (I3 _).2.2, (D0 _ _ _).2.2, (D1 _ _ _).2.2, (D2 _ _ _).2.2, (D3 _ _ _).2.2, (D4 _ _ _).2.2, (RM _).2.2, (AW _ _ _).2.2, (NE _ _ _).2]
theorem ways0 {fme ffo ffd : Nat → Int32} {kn : Int32} {d : Nat} (hd : d < 21) : P_X10_ways fme ffo ffd kn (nI d) 0 ∧ F_X10_ways fme ffo ffd kn (nI d) 0 = (F_X11_sums (nI d), fme, ffo, ffd, kn) := by
  have nd : ¬ nI d < 0 := nI_nneg (by omega)
  have ld : nI d ≤ 20 := nI_le (b := 20) (by omega) (by decide)
  have SU := sums_ok hd
  have z1 : ((0 : Int32) < 0) = False := eq_false (by decide)
  have z2 : ((0 : Int32) ≤ 1) = True := eq_true (by decide)
  constructor
  · exact ⟨fun q => nd q, fun _ => ⟨fun _ => ⟨fun q => absurd q (by decide), fun _ => ⟨fun _ => ⟨fun _ => SU.1, fun q => absurd rfl q⟩, fun q => absurd (by decide) q⟩⟩, fun q => q ld⟩⟩
  · unfold F_X10_ways
    simp only [if_neg nd, if_pos ld, z1, z2, if_true, if_false, SU.2.2]
theorem ways1 {fme ffo ffd : Nat → Int32} {kn : Int32} {d : Nat} (hd : d < 21) (hw : WalkR ffd kn) : P_X10_ways fme ffo ffd kn (nI d) 1 ∧ (F_X10_ways fme ffo ffd kn (nI d) 1).1 = nI (liesOf d) ∧ WalkR (F_X10_ways fme ffo ffd kn (nI d) 1).2.2.2.1 (F_X10_ways fme ffo ffd kn (nI d) 1).2.2.2.2 := by
  have nd : ¬ nI d < 0 := nI_nneg (by omega)
  have ld : nI d ≤ 20 := nI_le (b := 20) (by omega) (by decide)
  have LI := lies_ok (fme := fme) (ffo := ffo) hw hd
  have z1 : ((1 : Int32) < 0) = False := eq_false (by decide)
  have z2 : ((1 : Int32) ≤ 1) = True := eq_true (by decide)
  refine ⟨?_, ?_, ?_⟩
  · exact ⟨fun q => nd q, fun _ => ⟨fun _ => ⟨fun q => absurd q (by decide), fun _ => ⟨fun _ => ⟨fun q => absurd q (by decide), fun _ => LI.1⟩, fun q => absurd (by decide) q⟩⟩, fun q => q ld⟩⟩
  · unfold F_X10_ways
    simp only [if_neg nd, if_pos ld, z1, z2, i10, if_true, if_false, LI.2.1]
  · unfold F_X10_ways
    simp only [if_neg nd, if_pos ld, z1, z2, i10, if_true, if_false]
    exact LI.2.2
theorem d_count {lie seals folds n : Nat → Int32} {f : Nat → Nat → Int32} {fS : Nat → Int32} (h : PileR lie seals folds n f fS) {w : Nat} (hw : w ≤ 6) : P_X10_count lie seals folds n (nI w) := by
  refine ⟨fun _ => together_P h (w := 10) (by omega), fun z0 => ⟨fun _ => trivial, fun z1 => ⟨fun _ => together_P h (w := 4) (by omega), fun z2 => ⟨fun _ => together_P h (w := 0) (by omega), fun z3 => ⟨fun _ => trivial, fun z4 => ⟨fun _ => trivial, fun z5 => ⟨fun _ => trivial, fun z6 => ?_⟩⟩⟩⟩⟩⟩⟩
  rcases (show w = 0 ∨ w = 1 ∨ w = 2 ∨ w = 3 ∨ w = 4 ∨ w = 5 ∨ w = 6 by omega) with rfl | rfl | rfl | rfl | rfl | rfl | rfl
  · exact z0 rfl
  · exact z1 rfl
  · exact z2 rfl
  · exact z3 rfl
  · exact z4 rfl
  · exact z5 rfl
  · exact z6 rfl
set_option maxRecDepth 20000 in
set_option maxHeartbeats 16000000 in
theorem ag_digest (lie : Nat → Int32) (seals : Nat → Int32) (folds : Nat → Int32) (n : Nat → Int32) (f : Nat → Nat → Int32) (lie2 : Nat → Int32) (seals2 : Nat → Int32) (folds2 : Nat → Int32) (n2 : Nat → Int32) (f2 : Nat → Nat → Int32) (lieS : Nat → Nat → Int32) (sealsS : Nat → Nat → Int32) (foldsS : Nat → Nat → Int32) (nS : Nat → Nat → Int32) (fS_ : Nat → Nat → Nat → Int32) (size : Int32) (nt : Int32) (ft : Nat → Int32) (fme : Nat → Int32) (ffo : Nat → Int32) (ffd : Nat → Int32) (kn : Int32) (taken : Int32) (known : Int32) (kept : Int32) (len : Int32) (fS : Nat → Int32) (fPast : Nat → Int32) (fSnap : Nat → Int32) (fText : Nat → Int32) (fOne : Nat → Int32) (fTwo : Nat → Int32) (fBoth : Nat → Int32) (fWord : Nat → Int32) (fFar : Nat → Int32) (fQueue : Nat → Int32) (hR : RelW lie seals folds n f lie2 seals2 folds2 n2 f2 lieS sealsS foldsS nS fS_ size nt ft fme ffo ffd kn taken known kept len fS fPast fSnap fText)  : AG_digest lie seals folds n f lie2 seals2 folds2 n2 f2 lieS sealsS foldsS nS fS_ size nt ft fme ffo ffd kn taken known kept len fS fPast fSnap fText fOne fTwo fBoth fWord fFar fQueue := by
  have hR' := hR
  obtain ⟨hP, hsn, ⟨K, hK, eK1, eK2, hH⟩, ⟨L, hL, eL1, eL2, hT⟩, hw⟩ := hR'
  obtain ⟨T, hT2, eT1, eT2, hsn2⟩ := hsn
  subst eK1
  subst eK2
  subst eL1
  subst eL2
  subst eT1
  subst eT2
  obtain ⟨hc, hX⟩ := codes_ok hT
  have C0 := fun g t b => counted_ok (g := g) (t := t) (b := b) hP (nI K) (w := 0) (by decide)
  have c0 := d_count hP (w := 0) (by decide)
  rw [show nI 0 = 0 from rfl] at C0 c0
  have C1 := fun g t b => counted_ok (g := g) (t := t) (b := b) hP (nI K) (w := 1) (by decide)
  have c1 := d_count hP (w := 1) (by decide)
  rw [show nI 1 = 1 from rfl] at C1 c1
  have C2 := fun g t b => counted_ok (g := g) (t := t) (b := b) hP (nI K) (w := 2) (by decide)
  have c2 := d_count hP (w := 2) (by decide)
  rw [show nI 2 = 2 from rfl] at C2 c2
  have C3 := fun g t b => counted_ok (g := g) (t := t) (b := b) hP (nI K) (w := 3) (by decide)
  have c3 := d_count hP (w := 3) (by decide)
  rw [show nI 3 = 3 from rfl] at C3 c3
  have C4 := fun g t b => counted_ok (g := g) (t := t) (b := b) hP (nI K) (w := 4) (by decide)
  have c4 := d_count hP (w := 4) (by decide)
  rw [show nI 4 = 4 from rfl] at C4 c4
  have C5 := fun g t b => counted_ok (g := g) (t := t) (b := b) hP (nI K) (w := 5) (by decide)
  have c5 := d_count hP (w := 5) (by decide)
  rw [show nI 5 = 5 from rfl] at C5 c5
  have C6 := fun g t b => counted_ok (g := g) (t := t) (b := b) hP (nI K) (w := 6) (by decide)
  have c6 := d_count hP (w := 6) (by decide)
  rw [show nI 6 = 6 from rfl] at C6 c6
  have M0 := fun acc g t b w => d_mix hP (k := 0) (by decide) acc g t b w
  rw [show nI 0 = 0 from rfl] at M0
  have M1 := fun acc g t b w => d_mix hP (k := 1) (by decide) acc g t b w
  rw [show nI 1 = 1 from rfl] at M1
  have M2 := fun acc g t b w => d_mix hP (k := 2) (by decide) acc g t b w
  rw [show nI 2 = 2 from rfl] at M2
  have M3 := fun acc g t b w => d_mix hP (k := 3) (by decide) acc g t b w
  rw [show nI 3 = 3 from rfl] at M3
  have M4 := fun acc g t b w => d_mix hP (k := 4) (by decide) acc g t b w
  rw [show nI 4 = 4 from rfl] at M4
  obtain ⟨d, hd, ed⟩ : ∃ d, d < 21 ∧ F_X3_length (lie 0) = nI d := ⟨_, by have := (len_nI (hP 0 (by decide)).1).2; omega, (len_nI (hP 0 (by decide)).1).1⟩
  have LO := fun g => lengthOf_ok (g := g) (k := 0) (by decide) (hP 0 (by decide))
  rw [show nI 0 = 0 from rfl, ed] at LO
  have LT := d_letter hP (k := 0) (w := 0) (by decide) (by decide) fS fS fS
  have eLT : F_X10_letter lie seals folds n (nI 0) (nI 0) = nI d := by
    rw [← LT.2.2]
    have N := number_ok (g := fS) (t := fS) (b := fS) (k := 0) (by decide) (hP 0 (by decide)) (w := 0) (by decide)
    rw [N.2.2]
    exact ed
  have pLT := LT.1
  rw [show nI 0 = 0 from rfl] at eLT pLT
  have W0 := ways0 (fme := fme) (ffo := ffo) (ffd := ffd) (kn := kn) hd
  have W1 := ways1 (fme := fme) (ffo := ffo) hd hw
  have SU := sums_ok hd
  have SP := fun g => spread_ok hd g fFar fQueue
  have PR := fun g => pressed_ok (g := g) hP
  obtain ⟨A, hA, eA⟩ := len_sum hP
  have LE := fun g => lengths_ok (g := g) hP
  rw [eA] at LE
  have ME := mean_ok hA
  have eM : F_X10_meanLength lie seals folds n = FP.fdiv (FP.i2f (nI A)) 1084227584 := by
    unfold F_X10_meanLength
    simp only [eA]
  have pM : P_X10_meanLength lie seals folds n := by
    unfold P_X10_meanLength
    simp only [forall_eq, eA]
    exact ⟨together_P hP (w := 0) (by omega), ME.1⟩
  have TX := fun acc => mt_loop hL hX L 0 (by omega) 62 62 acc (by omega) (by omega)
  rw [show nI 0 = 0 from rfl] at TX
  have pT : ∀ a, P_X10_mixedRow (nI L) ft a := fun a => (TX a).1
  have eT : ∀ a, (F_X11_digest_L133 (nI L) fText 62 0 a).2 = F_X10_mixedRow (nI L) ft a := fun a => (TX a).2.2
  unfold AG_digest
  refine ⟨?_, ?_, ?_, ?_⟩
  · unfold P_X10_digest
    simp only [forall_eq, eq_true c0, eq_true c1, eq_true c2, eq_true c3, eq_true c4, eq_true c5, eq_true c6, eq_true (M0 _ fS fS fS fS).1, eq_true (M1 _ fS fS fS fS).1, eq_true (M2 _ fS fS fS fS).1, eq_true (M3 _ fS fS fS fS).1, eq_true (M4 _ fS fS fS fS).1, eLT, eq_true pLT, W0.2, eq_true W0.1, eq_true W1.1, eq_true (PR fS).1, eq_true (PR fS).2.2.2.1, eM, eq_true ME.2.2.1, eq_true pM, eq_true (pT _), implies_true, and_self]
  · unfold P_X11_digest
    simp only [eq_true (C0 _ _ _).1, eq_true (C1 _ _ _).1, eq_true (C2 _ _ _).1, eq_true (C3 _ _ _).1, eq_true (C4 _ _ _).1, eq_true (C5 _ _ _).1, eq_true (C6 _ _ _).1, eq_true (M0 _ _ _ _ _).2.1, eq_true (M1 _ _ _ _ _).2.1, eq_true (M2 _ _ _ _ _).2.1, eq_true (M3 _ _ _ _ _).2.1, eq_true (M4 _ _ _ _ _).2.1, eq_true (LO _).1, eq_true (PR _).2.1, eq_true (LE _).1, eq_true (TX _).2.1, implies_true, and_true, true_and]
    simp only [forall_eq, (LO _).2, (LE _).2, eq_true SU.2.1, eq_true (SP _).1, eq_true ME.1, implies_true, and_self]
  · unfold F_X10_digest F_X11_digest F_X6_size
    simp only [mix_eq, (C0 _ _ _).2, (C1 _ _ _).2, (C2 _ _ _).2, (C3 _ _ _).2, (C4 _ _ _).2, (C5 _ _ _).2, (C6 _ _ _).2, (M0 _ _ _ _ _).2.2, (M1 _ _ _ _ _).2.2, (M2 _ _ _ _ _).2.2, (M3 _ _ _ _ _).2.2, (M4 _ _ _ _ _).2.2, eLT, W0.2, W1.2.1, (LO _).2, (SP _).2, (PR _).2.2.1, (PR fS).2.2.2.2, eM, (LE _).2, ME.2.2.2, eT]
  · unfold F_X10_digest
    simp only [eLT, W0.2]
    exact ⟨hP, ⟨T, hT2, rfl, rfl, hsn2⟩, ⟨K, hK, rfl, rfl, hH⟩, ⟨L, hL, rfl, rfl, hT⟩, W1.2.2⟩

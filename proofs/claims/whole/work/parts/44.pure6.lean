theorem va_same {α : Type} (f : Nat → α) (k : Nat) (x : α) : va_up f k x k = x := if_pos rfl
theorem va_ne {α : Type} {f : Nat → α} {k j : Nat} (x : α) (h : j ≠ k) : va_up f k x j = f j := if_neg h
theorem pile_set {lie seals folds n lie' seals' folds' n' : Nat → Int32} {f f' : Nat → Nat → Int32} {fS fS' : Nat → Int32} {k : Nat} (h : PileR lie seals folds n f fS) (hk : k < 5) (e : ∀ j, j ≠ k → lie' j = lie j ∧ seals' j = seals j ∧ folds' j = folds j ∧ n' j = n j ∧ f' j = f j) (eS : ∀ i, (i < 67 * k ∨ 67 * k + 67 ≤ i) → fS' i = fS i) (hl : LetR (lie' k) (seals' k) (folds' k) (n' k) (f' k) (fun i => fS' (67 * k + i))) : PileR lie' seals' folds' n' f' fS' := by
  intro j hj
  by_cases q : j = k
  · rw [q]; exact hl
  · obtain ⟨e1, e2, e3, e4, e5⟩ := e j q
    rw [e1, e2, e3, e4, e5]
    exact (h j hj).congr (fun i hi => eS _ (by omega))
theorem lays_at {fS g : Nat → Int32} {k : Nat} (hk : k < 5) : P_X11_lays fS g (nI k) ∧ (∀ p, p < 4 → F_X11_lays fS g (nI k) (67 * k + p) = g p) ∧ (∀ i, (∀ p, p < 4 → i ≠ 67 * k + p) → F_X11_lays fS g (nI k) i = fS i) := by
  have e : F_X11_lays fS g (nI k) = upd (upd (upd (upd fS (67 * k + 0) (g 0)) (67 * k + 1) (g 1)) (67 * k + 2) (g 2)) (67 * k + 3) (g 3) := by
    unfold F_X11_lays
    simp only [cl0 hk, cl1 hk, cl2 hk, cl3 hk]
  refine ⟨?_, fun p hp => ?_, fun i hi => ?_⟩
  · unfold P_X11_lays
    simp only [forall_eq]
    exact ⟨vi0 hk, vi1 hk, vi2 hk, vi3 hk⟩
  · rw [e]
    rcases (show p = 0 ∨ p = 1 ∨ p = 2 ∨ p = 3 by omega) with rfl | rfl | rfl | rfl
    · rw [upd_ne _ (by omega), upd_ne _ (by omega), upd_ne _ (by omega), upd_same]
    · rw [upd_ne _ (by omega), upd_ne _ (by omega), upd_same]
    · rw [upd_ne _ (by omega), upd_same]
    · rw [upd_same]
  · rw [e, upd_ne _ (hi 3 (by decide)), upd_ne _ (hi 2 (by decide)), upd_ne _ (hi 1 (by decide)), upd_ne _ (hi 0 (by decide))]
theorem LetR.at6 {k : Nat} {l s fo nn : Int32} {ff fS : Nat → Int32} (h : LetR l s fo nn ff (fun i => fS (67 * k + i))) : fS (67 * k + 6) = fo := h.2.2.2.2
theorem turns_ok {k : Nat} {l s fo nn c : Int32} {ff fS g : Nat → Int32} (hk : k < 5) (h : LetR l s fo nn ff (fun i => fS (67 * k + i))) (hc : C4 c) : P_X11_turnsOver fS g (nI k) c ∧ (∀ p, p < 4 → (F_X11_turnsOver fS g (nI k) c).1 (67 * k + p) = lay (F_X3_folded l c) p) ∧ (F_X11_turnsOver fS g (nI k) c).1 (67 * k + 6) = fo + 1 ∧ (∀ i, (∀ p, p < 4 → i ≠ 67 * k + p) → i ≠ 67 * k + 6 → (F_X11_turnsOver fS g (nI k) c).1 i = fS i) := by
  have hE := e4_takes (g := g) hk (fun p hp => h.layp hp)
  have hF := e4_fold hE h.1 hc
  have L := lays_at (fS := fS) (g := F_X11_foldsOne (F_X11_takes fS g (nI k)) c) hk
  have e : (F_X11_turnsOver fS g (nI k) c).1 = upd (F_X11_lays fS (F_X11_foldsOne (F_X11_takes fS g (nI k)) c) (nI k)) (67 * k + 6) (fo + 1) := by
    unfold F_X11_turnsOver
    simp only [cl6 hk]
    rw [L.2.2 (67 * k + 6) (by intro p hp; omega), h.at6]
  refine ⟨?_, fun p hp => ?_, ?_, fun i hi hi6 => ?_⟩
  · unfold P_X11_turnsOver
    simp only [forall_eq]
    exact ⟨p_takes hk, p_fold _ hc, L.1, vi6 hk, vi6 hk⟩
  · rw [e, upd_ne _ (by omega), L.2.1 p hp, hF.at hp]
  · rw [e, upd_same]
  · rw [e, upd_ne _ hi6, L.2.2 i hi]
theorem not_full {s nn c : Int32} {N : Nat} (hr : F_X2_reasonAgainst s nn c = 0) (e : nn = nI N) (hN : N ≤ 60) : N < 60 := by
  by_cases q : N = 60
  · subst q
    rw [e] at hr
    unfold F_X2_reasonAgainst F_X6_isFull at hr
    simp only [if_neg (show ¬ nI 60 < 60 by decide), if_neg (show ¬ (1 : Int32) = 0 by decide)] at hr
    exact absurd hr (by decide)
  · omega
theorem ix7 {k N : Nat} : (((67 : Int32) * nI k) + 7) + nI N = nI (67 * k + 7 + N) := by
  rw [show (67 : Int32) = nI 67 from rfl, show (7 : Int32) = nI 7 from rfl, nI_mul, nI_add, nI_add]
theorem folds_ok {k : Nat} {l s fo nn c : Int32} {ff fS g : Nat → Int32} (hk : k < 5) (h : LetR l s fo nn ff (fun i => fS (67 * k + i))) (hc : C4 c) (hr : F_X2_reasonAgainst s nn c = 0) : P_X11_folds fS g (nI k) c ∧ (∀ i, (i < 67 * k ∨ 67 * k + 67 ≤ i) → (F_X11_folds fS g (nI k) c).1 i = fS i) ∧ P_X2_foldOver l fo nn c ∧ LetR (F_X2_foldOver l fo nn ff c).1 s (F_X2_foldOver l fo nn ff c).2.1 (F_X2_foldOver l fo nn ff c).2.2.1 (F_X2_foldOver l fo nn ff c).2.2.2 (fun i => (F_X11_folds fS g (nI k) c).1 (67 * k + i)) := by
  obtain ⟨N, hN, e1, e2, h3⟩ := h.2.2.1
  have hN60 := not_full hr e1 hN
  have T := turns_ok (g := g) hk h hc
  have e2' : fS (67 * k + 4) = nI N := e2
  have t4 : (F_X11_turnsOver fS g (nI k) c).1 (67 * k + 4) = nI N := by
    rw [T.2.2.2 _ (by intro p hp; omega) (by omega)]; exact e2'
  have e : (F_X11_folds fS g (nI k) c).1 = upd (upd (F_X11_turnsOver fS g (nI k) c).1 (67 * k + 7 + N) c) (67 * k + 4) (nI (N + 1)) := by
    unfold F_X11_folds
    simp only [its4 hk, t4, cl4 hk, ix7, nI_clamp (n := 67 * k + 7 + N) (by omega)]
    rw [upd_ne _ (by omega), t4, nI_1]
  have R := row_add ff c hN60
  refine ⟨?_, fun i hi => ?_, ?_, ?_⟩
  · unfold P_X11_folds
    simp only [forall_eq, its4 hk, t4, ix7]
    exact ⟨T.1, itsP4 hk, vp_in_nI (by omega) (by decide), vi4 hk, vi4 hk⟩
  · rw [e, upd_ne _ (by omega), upd_ne _ (by omega), T.2.2.2 i (by intro p hp; omega) (by omega)]
  · unfold P_X2_foldOver
    simp only [forall_eq]
    rw [e1]; exact R.1
  · have eO : F_X2_foldOver l fo nn ff c = (F_X3_folded l c, fo + 1, nI (N + 1), upd ff N c) := by
      unfold F_X2_foldOver
      simp only [e1, R.2]
    rw [eO, e]
    refine ⟨lie_fold h.1 hc, fun p hp => ?_, ⟨N + 1, by omega, rfl, ?_, fun j hj => ?_⟩, ?_, ?_⟩
    · dsimp only
      rw [upd_ne _ (by omega), upd_ne _ (by omega)]
      exact T.2.1 p hp
    · dsimp only
      rw [upd_same]
    · dsimp only
      by_cases q : j = N
      · subst q
        rw [upd_ne _ (by omega), show 67 * k + (7 + j) = 67 * k + 7 + j by omega, upd_same, upd_same]
        exact ⟨rfl, hc⟩
      · rw [upd_ne _ (by omega), upd_ne _ (by omega), upd_ne _ q, T.2.2.2 _ (by intro p hp; omega) (by omega)]
        exact h3 j (by omega)
    · obtain ⟨S, hS, e3, e4⟩ := h.2.2.2.1
      refine ⟨S, hS, e3, ?_⟩
      dsimp only
      rw [upd_ne _ (by omega), upd_ne _ (by omega), T.2.2.2 _ (by intro p hp; omega) (by omega)]
      exact e4
    · dsimp only
      rw [upd_ne _ (by omega), upd_ne _ (by omega)]
      exact T.2.2.1
theorem pr_loop {M k : Nat} (hM : M ≤ 16) (hk : k < 5) (w : Nat → Int32) : ∀ (t j : Nat), j + t = M → ∀ (fuel : Nat) (g : Nat → Int32), t < fuel → P_X11_presses_L26 (nI M) w (nI k) fuel g (nI j) ∧ ∀ i, (F_X11_presses_L26 (nI M) w (nI k) fuel g (nI j)).1 i = if 67 * k + 7 + j ≤ i ∧ i < 67 * k + 7 + M then w (i - (67 * k + 7)) else g i := by
  intro t
  induction t with
  | zero =>
    intro j hj fuel g hf
    obtain ⟨f, rfl⟩ : ∃ f, fuel = f + 1 := ⟨fuel - 1, by omega⟩
    have h1 : nI M ≤ nI j := nI_le (by omega) (by omega)
    rw [P_X11_presses_L26, F_X11_presses_L26, if_pos h1]
    exact ⟨⟨fun _ => trivial, fun q => absurd h1 q⟩, fun i => by rw [if_neg (by omega)]⟩
  | succ t ih =>
    intro j hj fuel g hf
    obtain ⟨f, rfl⟩ : ∃ f, fuel = f + 1 := ⟨fuel - 1, by omega⟩
    have h1 : ¬ nI M ≤ nI j := nI_ge (by omega) (by omega)
    have K := ih (j + 1) (by omega) f (upd g (67 * k + 7 + j) (w j)) (by omega)
    rw [P_X11_presses_L26, F_X11_presses_L26, if_neg h1]
    simp only [forall_eq, ix7, nI_1, nI_clamp (n := 67 * k + 7 + j) (by omega), nI_clamp (n := j) (by omega)]
    refine ⟨⟨fun _ => trivial, fun _ => ⟨vp_in_nI (by omega) (by decide), vp_in_nI (by omega) (by decide), K.1⟩⟩, fun i => ?_⟩
    rw [K.2 i]
    by_cases q : 67 * k + 7 + (j + 1) ≤ i ∧ i < 67 * k + 7 + M
    · rw [if_pos q, if_pos (by omega)]
    · rw [if_neg q]
      by_cases q2 : i = 67 * k + 7 + j
      · rw [q2, upd_same, if_pos (by omega)]
        congr 1
        omega
      · rw [upd_ne _ q2, if_neg (by omega)]
theorem word_c4 {R : Int32} (hR : R ∈ lies) {j : Nat} (hj : j < lenN R) : C4 (wordR R j) := by
  obtain ⟨h1, h2⟩ := seq_lie j R hR (by omega)
  exact (fs_c4 h1 (fun q => by have := (lenN0 h1).mpr q; omega)).1
theorem rl_loop {L : Int32} (hL : L ∈ lies) : ∀ (t j : Nat), j + t = lenN L → ∀ (fuel : Nat) (g : Nat → Int32), t < fuel → (∀ i, i < j → g i = wordR (F_X3_reversed L) i) → P_X2_rememberLeastWord_L17 (nI (lenN L)) L fuel (nI j) g (nI j) ∧ (F_X2_rememberLeastWord_L17 (nI (lenN L)) L fuel (nI j) g (nI j)).1 = nI (lenN L) ∧ ∀ i, i < lenN L → (F_X2_rememberLeastWord_L17 (nI (lenN L)) L fuel (nI j) g (nI j)).2.1 i = wordR (F_X3_reversed L) i := by
  have h16 := (len_nI hL).2
  intro t
  induction t with
  | zero =>
    intro j hj fuel g hf hg
    obtain ⟨f, rfl⟩ : ∃ f, fuel = f + 1 := ⟨fuel - 1, by omega⟩
    have h1 : nI (lenN L) ≤ nI j := nI_le (by omega) (by omega)
    rw [P_X2_rememberLeastWord_L17, F_X2_rememberLeastWord_L17, if_pos h1]
    refine ⟨⟨fun _ => trivial, fun q => absurd h1 q⟩, ?_, fun i hi => hg i (by omega)⟩
    show nI j = nI (lenN L)
    rw [show j = lenN L by omega]
  | succ t ih =>
    intro j hj fuel g hf hg
    obtain ⟨f, rfl⟩ : ∃ f, fuel = f + 1 := ⟨fuel - 1, by omega⟩
    have h1 : ¬ nI (lenN L) ≤ nI j := nI_ge (by omega) (by omega)
    have ha := least_ok hL (M := j) (by omega)
    rw [if_pos (by omega)] at ha
    have hb := row_add g (wordR (F_X3_reversed L) j) (N := j) (by omega)
    have K := ih (j + 1) (by omega) f (upd g j (wordR (F_X3_reversed L) j)) (by omega) (fun i hi => by
      by_cases q : i = j
      · rw [q, upd_same]
      · rw [upd_ne _ q]; exact hg i (by omega))
    rw [P_X2_rememberLeastWord_L17, F_X2_rememberLeastWord_L17, if_neg h1]
    simp only [forall_eq, ha.2, hb.2, nI_1]
    exact ⟨⟨fun _ => trivial, fun _ => ⟨ha.1, hb.1, K.1⟩⟩, K.2⟩
theorem remember_ok {L : Int32} (hL : L ∈ lies) (ff : Nat → Int32) : P_X2_rememberLeastWord L ff ∧ (F_X2_rememberLeastWord L ff).1 = nI (lenN L) ∧ ∀ i, i < lenN L → (F_X2_rememberLeastWord L ff).2 i = wordR (F_X3_reversed L) i := by
  have h16 := (len_nI hL).2
  have K := rl_loop hL (lenN L) 0 (by omega) 17 ff (by omega) (fun i hi => absurd hi (Nat.not_lt_zero _))
  rw [show nI 0 = 0 from rfl] at K
  unfold P_X2_rememberLeastWord F_X2_rememberLeastWord
  simp only [forall_eq, (len_nI hL).1]
  exact K
theorem presses_ok {k : Nat} {l s fo : Int32} {ff fS g w : Nat → Int32} (hk : k < 5) (hl : l ∈ lies) (hp4 : ∀ p, p < 4 → fS (67 * k + p) = lay l p) (hs : ∃ S, S < 16 ∧ s = nI S ∧ fS (67 * k + 5) = nI S) (hfo : fS (67 * k + 6) = fo) : P_X11_presses fS g w (nI k) ∧ (∀ i, (i < 67 * k ∨ 67 * k + 67 ≤ i) → (F_X11_presses fS g w (nI k)).2.1 i = fS i) ∧ (F_X11_presses fS g w (nI k)).2.1 (67 * k + 4) = nI (lenN l) ∧ LetR l s fo (F_X2_rememberLeastWord l ff).1 (F_X2_rememberLeastWord l ff).2 (fun i => (F_X11_presses fS g w (nI k)).2.1 (67 * k + i)) := by
  have hE := e4_takes (g := g) hk hp4
  have W := words_ok (w := w) hE hl
  have h16 := (len_nI hl).2
  have L := pr_loop h16 hk (F_X11_words (F_X11_takes fS g (nI k)) w).2.2 (lenN l) 0 (by omega) 21 (upd fS (67 * k + 4) (nI (lenN l))) (by omega)
  rw [show nI 0 = 0 from rfl] at L
  have e : (F_X11_presses fS g w (nI k)).2.1 = (F_X11_presses_L26 (nI (lenN l)) (F_X11_words (F_X11_takes fS g (nI k)) w).2.2 (nI k) 21 (upd fS (67 * k + 4) (nI (lenN l))) 0).1 := by
    unfold F_X11_presses
    simp only [W.2.1, cl4 hk]
  have R := remember_ok hl ff
  have hrl : lenN (F_X3_reversed l) = lenN l := by unfold lenN; rw [rev_len hl]
  refine ⟨?_, fun i hi => ?_, ?_, ?_⟩
  · unfold P_X11_presses
    simp only [forall_eq, W.2.1, cl4 hk]
    exact ⟨p_takes hk, W.1, vi4 hk, L.1⟩
  · rw [e, L.2, if_neg (by omega), upd_ne _ (by omega)]
  · rw [e, L.2, if_neg (by omega), upd_same]
  · rw [R.2.1, e]
    refine ⟨hl, fun p hp => ?_, ⟨lenN l, by omega, rfl, ?_, fun j hj => ?_⟩, ?_, ?_⟩
    · dsimp only
      rw [L.2, if_neg (by omega), upd_ne _ (by omega)]
      exact hp4 p hp
    · dsimp only
      rw [L.2, if_neg (by omega), upd_same]
    · dsimp only
      rw [L.2, if_pos (by omega), show 67 * k + (7 + j) - (67 * k + 7) = j by omega, W.2.2 j hj, R.2.2 j hj]
      exact ⟨rfl, word_c4 (lie_rev hl) (by omega)⟩
    · obtain ⟨S, hS, e3, e4⟩ := hs
      refine ⟨S, hS, e3, ?_⟩
      dsimp only
      rw [L.2, if_neg (by omega), upd_ne _ (by omega)]
      exact e4
    · dsimp only
      rw [L.2, if_neg (by omega), upd_ne _ (by omega)]
      exact hfo
theorem becomes_ok {k : Nat} {l s fo nn L : Int32} {ff fS g w : Nat → Int32} (hk : k < 5) (h : LetR l s fo nn ff (fun i => fS (67 * k + i))) (hL : L ∈ lies) (hg : E4 g L) : P_X11_becomes fS g w (nI k) ∧ (∀ i, (i < 67 * k ∨ 67 * k + 67 ≤ i) → (F_X11_becomes fS g w (nI k)).2.2.1 i = fS i) ∧ (F_X11_becomes fS g w (nI k)).1 = F_X3_length L ∧ P_X2_layAfresh ff L ∧ LetR (F_X2_layAfresh ff L).1 (F_X2_layAfresh ff L).2.1 fo (F_X2_layAfresh ff L).2.2.1 (F_X2_layAfresh ff L).2.2.2 (fun i => (F_X11_becomes fS g w (nI k)).2.2.1 (67 * k + i)) := by
  have Y := lays_at (fS := fS) (g := g) hk
  have Q := presses_ok (k := k) (l := L) (s := 0) (fo := fo) (ff := ff) (g := g) (w := w) (fS := upd (F_X11_lays fS g (nI k)) (67 * k + 5) 0) hk hL (fun p hp => by rw [upd_ne _ (by omega), Y.2.1 p hp, hg.at hp]) ⟨0, by decide, rfl, upd_same _ _ _⟩ (by rw [upd_ne _ (by omega), Y.2.2 _ (by intro p hp; omega)]; exact h.at6)
  have e : (F_X11_becomes fS g w (nI k)).2.2.1 = (F_X11_presses (upd (F_X11_lays fS g (nI k)) (67 * k + 5) 0) g w (nI k)).2.1 := by
    unfold F_X11_becomes
    simp only [cl5 hk]
  refine ⟨?_, fun i hi => ?_, ?_, (remember_ok hL ff).1, ?_⟩
  · unfold P_X11_becomes
    simp only [forall_eq, cl5 hk]
    exact ⟨Y.1, vi5 hk, Q.1, itsP4 hk⟩
  · rw [e, Q.2.1 i hi, upd_ne _ (by omega), Y.2.2 i (by intro p hp; omega)]
  · have e1 : (F_X11_becomes fS g w (nI k)).1 = F_X11_its (F_X11_presses (upd (F_X11_lays fS g (nI k)) (67 * k + 5) 0) g w (nI k)).2.1 (nI k) 4 := by
      unfold F_X11_becomes
      simp only [cl5 hk]
    rw [e1, its4 hk, Q.2.2.1, (len_nI hL).1]
  · rw [e]; exact Q.2.2.2
/-- which letter, crease, place is told -/
theorem in_cases (x : Int32) {M : Nat} {m : Int32} (hm : m = nI M) (hM : M < 100) : (∃ k, k ≤ M ∧ x = nI k ∧ F_X11_in x 0 m = 1) ∨ (F_X11_in x 0 m = 0 ∧ (x < 0 ∨ m < x)) := by
  unfold F_X11_in
  dsimp only
  by_cases h0 : x < 0
  · rw [if_pos h0]; exact Or.inr ⟨rfl, Or.inl h0⟩
  · rw [if_neg h0]
    by_cases h1 : m < x
    · rw [if_pos h1]; exact Or.inr ⟨rfl, Or.inr h1⟩
    · rw [if_neg h1]
      obtain ⟨k, hk, e⟩ := nI_of2 (x := x) (M := m) (n := M) (by rw [hm]; exact nI_toInt (by omega)) h0 (Int32.not_lt.mp h1)
      exact Or.inl ⟨k, hk, e, rfl⟩
theorem lt_succ32 {x : Int32} {M : Nat} (hM : M < 100) (h : nI M < x) : ¬ x < nI (M + 1) := by
  rw [Int32.lt_iff_toInt_lt] at h ⊢
  rw [nI_toInt (by omega)] at h
  rw [nI_toInt (by omega)]
  omega
theorem letter_cases (x : Int32) : (∃ k, k < 5 ∧ x = nI k ∧ F_X11_isLetter x = 1 ∧ P_X4_atB x) ∨ (F_X11_isLetter x = 0 ∧ PX_X4_atB_1 x) := by
  rcases in_cases x (M := 4) (m := 4) rfl (by decide) with ⟨k, hk, e, h⟩ | ⟨h, hx⟩
  · refine Or.inl ⟨k, by omega, e, h, ?_⟩
    have h0 : ¬ x < 0 := by rw [e]; exact nI_nneg (by omega)
    have h1 : x < 5 := by rw [e]; exact nI_lt (b := 5) (by omega) (by decide)
    exact ⟨fun q => h0 q, fun _ => ⟨fun _ => by rw [e]; exact vp_in_nI (by omega) (by decide), fun q => q h1⟩⟩
  · refine Or.inr ⟨h, fun _ => trivial, fun q => ?_⟩
    exact lt_succ32 (M := 4) (by decide) (hx.resolve_left q)
theorem crease_cases (x : Int32) : (∃ k, k < 4 ∧ x = nI k ∧ F_X11_in x 0 3 = 1 ∧ P_X10_needCrease x) ∨ (F_X11_in x 0 3 = 0 ∧ PX_X10_needCrease_1 x) := by
  rcases in_cases x (M := 3) (m := 3) rfl (by decide) with ⟨k, hk, e, h⟩ | ⟨h, hx⟩
  · refine Or.inl ⟨k, by omega, e, h, ?_⟩
    have h0 : ¬ x < 0 := by rw [e]; exact nI_nneg (by omega)
    have h1 : x < 4 := by rw [e]; exact nI_lt (b := 4) (by omega) (by decide)
    exact ⟨fun q => h0 q, fun _ => ⟨fun _ => trivial, fun q => q h1⟩⟩
  · refine Or.inr ⟨h, fun _ => trivial, fun q => ?_⟩
    exact lt_succ32 (M := 3) (by decide) (hx.resolve_left q)
theorem place_cases (x : Int32) : (∃ k, k < 4 ∧ x = nI k ∧ F_X11_isPlace x = 1 ∧ P_X10_needPosition x) ∨ (F_X11_isPlace x = 0 ∧ PX_X10_needPosition_1 x) := by
  rcases in_cases x (M := 3) (m := 3) rfl (by decide) with ⟨k, hk, e, h⟩ | ⟨h, hx⟩
  · refine Or.inl ⟨k, by omega, e, h, ?_⟩
    have h0 : ¬ x < 0 := by rw [e]; exact nI_nneg (by omega)
    have h1 : x < 4 := by rw [e]; exact nI_lt (b := 4) (by omega) (by decide)
    exact ⟨fun q => h0 q, fun _ => ⟨fun _ => trivial, fun q => q h1⟩⟩
  · refine Or.inr ⟨h, fun _ => trivial, fun q => ?_⟩
    exact lt_succ32 (M := 3) (by decide) (hx.resolve_left q)

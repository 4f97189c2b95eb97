theorem upd_same (f : Nat → Int32) (k : Nat) (x : Int32) : upd f k x k = x := if_pos rfl
theorem upd_ne {f : Nat → Int32} {k j : Nat} (x : Int32) (h : j ≠ k) : upd f k x j = f j := if_neg h
theorem nI_nneg {N : Nat} (h : N < 2 ^ 31) : ¬ nI N < 0 := Int32.not_lt.mpr (nI_pos' h)
theorem row_add {N : Nat} (f : Nat → Int32) (x : Int32) (h : N < 60) : P_X6_add (nI N) ∧ F_X6_add (nI N) f x = (nI (N + 1), upd f N x) := by
  have h0 : ¬ nI N < 0 := nI_nneg (by omega)
  have h1 : ¬ (60 : Int32) ≤ nI N := nI_ge (b := 60) h (by decide)
  unfold P_X6_add F_X6_add
  simp only [if_neg h0, if_neg h1, nI_1, nI_clamp (n := N) (by omega)]
  exact ⟨⟨fun _ => trivial, fun _ => ⟨fun _ => trivial, fun _ => vp_in_nI h (by decide)⟩⟩, True.intro⟩
theorem row_at {N j : Nat} (f : Nat → Int32) (hj : j < N) (hN : N ≤ 60) : P_X6_at (nI N) (nI j) ∧ F_X6_at (nI N) f (nI j) = f j := by
  have h0 : ¬ nI j < 0 := nI_nneg (by omega)
  have h1 : ¬ nI N ≤ nI j := nI_ge hj (by omega)
  have h2 : ¬ (60 : Int32) ≤ nI j := nI_ge (b := 60) (by omega) (by decide)
  unfold P_X6_at F_X6_at
  simp only [if_neg h0, if_neg h1, if_neg h2, nI_clamp (n := j) (by omega)]
  exact ⟨⟨fun _ => trivial, fun _ => ⟨fun _ => trivial, fun _ => ⟨fun _ => trivial, fun _ => vp_in_nI (by omega) (by decide)⟩⟩⟩, True.intro⟩
theorem cp_loop {N : Nat} (hN : N ≤ 60) (f2 : Nat → Int32) : ∀ (t j : Nat), j + t = N → ∀ (fuel : Nat) (g : Nat → Int32), t < fuel → (∀ i, i < j → g i = f2 i) → P_X6_copy_L6 (nI N) f2 fuel (nI j) g (nI j) ∧ (F_X6_copy_L6 (nI N) f2 fuel (nI j) g (nI j)).1 = nI N ∧ ∀ i, i < N → (F_X6_copy_L6 (nI N) f2 fuel (nI j) g (nI j)).2.1 i = f2 i := by
  intro t
  induction t with
  | zero =>
    intro j hj fuel g hf hg
    obtain ⟨f, rfl⟩ : ∃ f, fuel = f + 1 := ⟨fuel - 1, by omega⟩
    have hjN : j = N := by omega
    subst hjN
    have h1 : nI j ≤ nI j := nI_le (Nat.le_refl _) (by omega)
    rw [P_X6_copy_L6, F_X6_copy_L6, if_pos h1]
    exact ⟨⟨fun _ => trivial, fun q => absurd h1 q⟩, rfl, hg⟩
  | succ t ih =>
    intro j hj fuel g hf hg
    obtain ⟨f, rfl⟩ : ∃ f, fuel = f + 1 := ⟨fuel - 1, by omega⟩
    have h1 : ¬ nI N ≤ nI j := nI_ge (by omega) (by omega)
    have h2 : ¬ (60 : Int32) ≤ nI j := nI_ge (b := 60) (by omega) (by decide)
    have ha := row_at f2 (j := j) (N := N) (by omega) hN
    have hb := row_add g (f2 j) (N := j) (by omega)
    have K := ih (j + 1) (by omega) f (upd g j (f2 j)) (by omega) (fun i hi => by
      by_cases q : i = j
      · rw [q, upd_same]
      · rw [upd_ne _ q]; exact hg i (by omega))
    rw [P_X6_copy_L6, F_X6_copy_L6, if_neg h1, if_neg h2]
    simp only [forall_eq, ha.2, hb.2, nI_1]
    exact ⟨⟨fun _ => trivial, fun _ => ⟨fun _ => trivial, fun _ => ⟨ha.1, hb.1, K.1⟩⟩⟩, K.2⟩
theorem row_copy {N : Nat} (hN : N ≤ 60) (f f2 : Nat → Int32) : P_X6_copy f (nI N) f2 ∧ (F_X6_copy f (nI N) f2).1 = nI N ∧ ∀ i, i < N → (F_X6_copy f (nI N) f2).2 i = f2 i := by
  have K := cp_loop hN f2 N 0 (by omega) 61 f (by omega) (fun i hi => absurd hi (Nat.not_lt_zero _))
  rw [show nI 0 = 0 from rfl] at K
  unfold P_X6_copy F_X6_copy
  simp only [forall_eq]
  exact K
theorem LetR.congr {l s fo nn : Int32} {ff g g' : Nat → Int32} (h : LetR l s fo nn ff g) (e : ∀ i, i < 67 → g' i = g i) : LetR l s fo nn ff g' := by
  obtain ⟨h1, h2, ⟨N, hN, e1, e2, h3⟩, ⟨S, hS, e3, e4⟩, h5⟩ := h
  refine ⟨h1, fun p hp => ?_, ⟨N, hN, e1, ?_, fun j hj => ?_⟩, ⟨S, hS, e3, ?_⟩, ?_⟩
  · rw [e p (by omega)]; exact h2 p hp
  · rw [e 4 (by decide)]; exact e2
  · rw [e (7 + j) (by omega)]; exact h3 j hj
  · rw [e 5 (by decide)]; exact e4
  · rw [e 6 (by decide)]; exact h5
theorem PileR.congr {lie seals folds n : Nat → Int32} {f : Nat → Nat → Int32} {g g' : Nat → Int32} (h : PileR lie seals folds n f g) (e : ∀ i, i < 335 → g' i = g i) : PileR lie seals folds n f g' := fun k hk => (h k hk).congr (fun i hi => e _ (by omega))
theorem LetR.rowc {l s fo nn : Int32} {ff ff' g : Nat → Int32} (h : LetR l s fo nn ff g) (e : ∀ N, nn = nI N → N ≤ 60 → ∀ i, i < N → ff' i = ff i) : LetR l s fo nn ff' g := by
  obtain ⟨h1, h2, ⟨N, hN, e1, e2, h3⟩, h4, h5⟩ := h
  refine ⟨h1, h2, ⟨N, hN, e1, e2, fun j hj => ?_⟩, h4, h5⟩
  rw [e N e1 hN j hj]; exact h3 j hj
theorem let_copy {l s fo nn : Int32} {f2 g : Nat → Int32} (f : Nat → Int32) (h : LetR l s fo nn f2 g) : P_X2_copy f nn f2 ∧ LetR (F_X2_copy f l s fo nn f2).1 (F_X2_copy f l s fo nn f2).2.1 (F_X2_copy f l s fo nn f2).2.2.1 (F_X2_copy f l s fo nn f2).2.2.2.1 (F_X2_copy f l s fo nn f2).2.2.2.2 g := by
  obtain ⟨N, hN, e1, -, -⟩ := h.2.2.1
  have K := row_copy hN f f2
  rw [← e1] at K
  refine ⟨K.1, ?_⟩
  show LetR l s fo (F_X6_copy f nn f2).1 (F_X6_copy f nn f2).2 g
  rw [K.2.1]
  refine h.rowc (fun M hM hM60 i hi => K.2.2 i ?_)
  rw [e1, nI_eq (by omega) (by omega)] at hM
  omega
theorem pile_copy {lie2 seals2 folds2 n2 : Nat → Int32} {f2 : Nat → Nat → Int32} {g : Nat → Int32} (f : Nat → Nat → Int32) (h : PileR lie2 seals2 folds2 n2 f2 g) : P_X4_copy f lie2 seals2 folds2 n2 f2 ∧ PileR (F_X4_copy f lie2 seals2 folds2 n2 f2).1 (F_X4_copy f lie2 seals2 folds2 n2 f2).2.1 (F_X4_copy f lie2 seals2 folds2 n2 f2).2.2.1 (F_X4_copy f lie2 seals2 folds2 n2 f2).2.2.2.1 (F_X4_copy f lie2 seals2 folds2 n2 f2).2.2.2.2 g := by
  have L := fun (k : Nat) (hk : k < 5) => let_copy (f k) (h k hk)
  constructor
  · unfold P_X4_copy
    simp only [forall_eq]
    exact ⟨(L 0 (by decide)).1, (L 1 (by decide)).1, (L 2 (by decide)).1, (L 3 (by decide)).1, (L 4 (by decide)).1⟩
  · intro k hk
    rcases (show k = 0 ∨ k = 1 ∨ k = 2 ∨ k = 3 ∨ k = 4 by omega) with rfl | rfl | rfl | rfl | rfl
    · exact (L 0 hk).2
    · exact (L 1 hk).2
    · exact (L 2 hk).2
    · exact (L 3 hk).2
    · exact (L 4 hk).2
theorem sv_shift : ∀ (t j : Nat), j + t = 1675 → ∀ (fuel : Nat) (g : Nat → Int32), t < fuel → P_X11_saves_L11 fuel g (nI j) ∧ ∀ i, i < 1675 → (F_X11_saves_L11 fuel g (nI j)).1 i = if i < j then g i else g (335 + i) := by
  intro t
  induction t with
  | zero =>
    intro j hj fuel g hf
    obtain ⟨f, rfl⟩ : ∃ f, fuel = f + 1 := ⟨fuel - 1, by omega⟩
    have h1 : (1675 : Int32) ≤ nI j := nI_le (a := 1675) (by omega) (by omega)
    rw [P_X11_saves_L11, F_X11_saves_L11, if_pos h1]
    exact ⟨⟨fun _ => trivial, fun q => absurd h1 q⟩, fun i hi => by rw [if_pos (by omega)]⟩
  | succ t ih =>
    intro j hj fuel g hf
    obtain ⟨f, rfl⟩ : ∃ f, fuel = f + 1 := ⟨fuel - 1, by omega⟩
    have h1 : ¬ (1675 : Int32) ≤ nI j := nI_ge (b := 1675) (by omega) (by decide)
    have e : (335 : Int32) + nI j = nI (335 + j) := nI_add 335 j
    have K := ih (j + 1) (by omega) f (upd g j (g (335 + j))) (by omega)
    rw [P_X11_saves_L11, F_X11_saves_L11, if_neg h1]
    simp only [forall_eq, e, nI_1, nI_clamp (n := 335 + j) (by omega), nI_clamp (n := j) (by omega)]
    refine ⟨⟨fun _ => trivial, fun _ => ⟨vp_in_nI (by omega) (by decide), vp_in_nI (by omega) (by decide), K.1⟩⟩, fun i hi => ?_⟩
    rw [K.2 i hi]
    by_cases q : i < j
    · rw [if_pos (by omega), if_pos q, upd_ne _ (by omega)]
    · by_cases q2 : i = j
      · rw [q2, if_pos (by omega), if_neg (by omega), upd_same]
      · rw [if_neg (by omega), if_neg q, upd_ne _ (by omega)]
theorem sv_copy {K0 : Nat} (hK : K0 ≤ 5) (fS : Nat → Int32) : ∀ (t j : Nat), j + t = 335 → ∀ (fuel : Nat) (g : Nat → Int32), t < fuel → P_X11_saves_L52 fS (nI K0) fuel g (nI j) ∧ ∀ i, (F_X11_saves_L52 fS (nI K0) fuel g (nI j)).1 i = if 335 * K0 + j ≤ i ∧ i < 335 * K0 + 335 then fS (i - 335 * K0) else g i := by
  intro t
  induction t with
  | zero =>
    intro j hj fuel g hf
    obtain ⟨f, rfl⟩ : ∃ f, fuel = f + 1 := ⟨fuel - 1, by omega⟩
    have h1 : (335 : Int32) ≤ nI j := nI_le (a := 335) (by omega) (by omega)
    rw [P_X11_saves_L52, F_X11_saves_L52, if_pos h1]
    exact ⟨⟨fun _ => trivial, fun q => absurd h1 q⟩, fun i => by rw [if_neg (by omega)]⟩
  | succ t ih =>
    intro j hj fuel g hf
    obtain ⟨f, rfl⟩ : ∃ f, fuel = f + 1 := ⟨fuel - 1, by omega⟩
    have h1 : ¬ (335 : Int32) ≤ nI j := nI_ge (b := 335) (by omega) (by decide)
    have e : (335 : Int32) * nI K0 + nI j = nI (335 * K0 + j) := by rw [show (335 : Int32) = nI 335 from rfl, nI_mul, nI_add]
    have K := ih (j + 1) (by omega) f (upd g (335 * K0 + j) (fS j)) (by omega)
    rw [P_X11_saves_L52, F_X11_saves_L52, if_neg h1]
    simp only [forall_eq, e, nI_1, nI_clamp (n := 335 * K0 + j) (by omega), nI_clamp (n := j) (by omega)]
    refine ⟨⟨fun _ => trivial, fun _ => ⟨vp_in_nI (by omega) (by decide), vp_in_nI (by omega) (by decide), K.1⟩⟩, fun i => ?_⟩
    rw [K.2 i]
    by_cases q : 335 * K0 + (j + 1) ≤ i ∧ i < 335 * K0 + 335
    · rw [if_pos q, if_pos (by omega)]
    · rw [if_neg q]
      by_cases q2 : i = 335 * K0 + j
      · rw [q2, upd_same, if_pos (by omega)]
        congr 1
        omega
      · rw [upd_ne _ q2, if_neg (by omega)]
theorem cp_keep (fS : Nat → Int32) : ∀ (t j : Nat), j + t = 335 → ∀ (fuel : Nat) (g : Nat → Int32), t < fuel → P_X11_keep_L7 fS fuel g (nI j) ∧ ∀ i, (F_X11_keep_L7 fS fuel g (nI j)).1 i = if j ≤ i ∧ i < 335 then fS i else g i := by
  intro t
  induction t with
  | zero =>
    intro j hj fuel g hf
    obtain ⟨f, rfl⟩ : ∃ f, fuel = f + 1 := ⟨fuel - 1, by omega⟩
    have h1 : (335 : Int32) ≤ nI j := nI_le (a := 335) (by omega) (by omega)
    rw [P_X11_keep_L7, F_X11_keep_L7, if_pos h1]
    exact ⟨⟨fun _ => trivial, fun q => absurd h1 q⟩, fun i => by rw [if_neg (by omega)]⟩
  | succ t ih =>
    intro j hj fuel g hf
    obtain ⟨f, rfl⟩ : ∃ f, fuel = f + 1 := ⟨fuel - 1, by omega⟩
    have h1 : ¬ (335 : Int32) ≤ nI j := nI_ge (b := 335) (by omega) (by decide)
    have K := ih (j + 1) (by omega) f (upd g j (fS j)) (by omega)
    rw [P_X11_keep_L7, F_X11_keep_L7, if_neg h1]
    simp only [forall_eq, nI_1, nI_clamp (n := j) (by omega)]
    refine ⟨⟨fun _ => trivial, fun _ => ⟨vp_in_nI (by omega) (by decide), vp_in_nI (by omega) (by decide), K.1⟩⟩, fun i => ?_⟩
    rw [K.2 i]
    by_cases q : j + 1 ≤ i ∧ i < 335
    · rw [if_pos q, if_pos (by omega)]
    · rw [if_neg q]
      by_cases q2 : i = j
      · rw [q2, upd_same, if_pos (by omega)]
      · rw [upd_ne _ q2, if_neg (by omega)]
theorem cp_goBack (fS : Nat → Int32) : ∀ (t j : Nat), j + t = 335 → ∀ (fuel : Nat) (g : Nat → Int32), t < fuel → P_X11_goBack_L27 fS fuel g (nI j) ∧ ∀ i, (F_X11_goBack_L27 fS fuel g (nI j)).1 i = if j ≤ i ∧ i < 335 then fS i else g i := by
  intro t
  induction t with
  | zero =>
    intro j hj fuel g hf
    obtain ⟨f, rfl⟩ : ∃ f, fuel = f + 1 := ⟨fuel - 1, by omega⟩
    have h1 : (335 : Int32) ≤ nI j := nI_le (a := 335) (by omega) (by omega)
    rw [P_X11_goBack_L27, F_X11_goBack_L27, if_pos h1]
    exact ⟨⟨fun _ => trivial, fun q => absurd h1 q⟩, fun i => by rw [if_neg (by omega)]⟩
  | succ t ih =>
    intro j hj fuel g hf
    obtain ⟨f, rfl⟩ : ∃ f, fuel = f + 1 := ⟨fuel - 1, by omega⟩
    have h1 : ¬ (335 : Int32) ≤ nI j := nI_ge (b := 335) (by omega) (by decide)
    have K := ih (j + 1) (by omega) f (upd g j (fS j)) (by omega)
    rw [P_X11_goBack_L27, F_X11_goBack_L27, if_neg h1]
    simp only [forall_eq, nI_1, nI_clamp (n := j) (by omega)]
    refine ⟨⟨fun _ => trivial, fun _ => ⟨vp_in_nI (by omega) (by decide), vp_in_nI (by omega) (by decide), K.1⟩⟩, fun i => ?_⟩
    rw [K.2 i]
    by_cases q : j + 1 ≤ i ∧ i < 335
    · rw [if_pos q, if_pos (by omega)]
    · rw [if_neg q]
      by_cases q2 : i = j
      · rw [q2, upd_same, if_pos (by omega)]
      · rw [upd_ne _ q2, if_neg (by omega)]
theorem cp_undo {K0 : Nat} (hK : K0 ≤ 5) (fS : Nat → Int32) : ∀ (t j : Nat), j + t = 335 → ∀ (fuel : Nat) (g : Nat → Int32), t < fuel → P_X11_undo_L33 fS (nI K0) fuel g (nI j) ∧ ∀ i, (F_X11_undo_L33 fS (nI K0) fuel g (nI j)).1 i = if j ≤ i ∧ i < 335 then fS (335 * K0 + i) else g i := by
  intro t
  induction t with
  | zero =>
    intro j hj fuel g hf
    obtain ⟨f, rfl⟩ : ∃ f, fuel = f + 1 := ⟨fuel - 1, by omega⟩
    have h1 : (335 : Int32) ≤ nI j := nI_le (a := 335) (by omega) (by omega)
    rw [P_X11_undo_L33, F_X11_undo_L33, if_pos h1]
    exact ⟨⟨fun _ => trivial, fun q => absurd h1 q⟩, fun i => by rw [if_neg (by omega)]⟩
  | succ t ih =>
    intro j hj fuel g hf
    obtain ⟨f, rfl⟩ : ∃ f, fuel = f + 1 := ⟨fuel - 1, by omega⟩
    have h1 : ¬ (335 : Int32) ≤ nI j := nI_ge (b := 335) (by omega) (by decide)
    have e : (335 : Int32) * nI K0 + nI j = nI (335 * K0 + j) := by rw [show (335 : Int32) = nI 335 from rfl, nI_mul, nI_add]
    have K := ih (j + 1) (by omega) f (upd g j (fS (335 * K0 + j))) (by omega)
    rw [P_X11_undo_L33, F_X11_undo_L33, if_neg h1]
    simp only [forall_eq, e, nI_1, nI_clamp (n := 335 * K0 + j) (by omega), nI_clamp (n := j) (by omega)]
    refine ⟨⟨fun _ => trivial, fun _ => ⟨vp_in_nI (by omega) (by decide), vp_in_nI (by omega) (by decide), K.1⟩⟩, fun i => ?_⟩
    rw [K.2 i]
    by_cases q : j + 1 ≤ i ∧ i < 335
    · rw [if_pos q, if_pos (by omega)]
    · rw [if_neg q]
      by_cases q2 : i = j
      · rw [q2, upd_same, if_pos (by omega)]
      · rw [upd_ne _ q2, if_neg (by omega)]
/-- what is saved of the reference -/
theorem saves_ok {K : Nat} (hK : K ≤ 6) (fS fPast : Nat → Int32) : P_X11_saves (nI K) fS fPast ∧ (F_X11_saves (nI K) fS fPast).1 = nI (if K = 6 then 6 else K + 1) ∧ (∀ j i, j < (if K = 6 then 5 else K) → i < 335 → (F_X11_saves (nI K) fS fPast).2 (335 * j + i) = if K = 6 then fPast (335 * (j + 1) + i) else fPast (335 * j + i)) ∧ (∀ z, z = (if K = 6 then 5 else K) → ∀ i, i < 335 → (F_X11_saves (nI K) fS fPast).2 (335 * z + i) = fS i) := by
  by_cases h6 : K = 6
  · subst h6
    have S := sv_shift 1675 0 (by omega) 1676 fPast (by omega)
    have C := sv_copy (K0 := 5) (by omega) fS 335 0 (by omega) 336 (F_X11_saves_L11 1676 fPast 0).1 (by omega)
    rw [show nI 0 = 0 from rfl] at S C
    unfold P_X11_saves F_X11_saves
    simp only [if_pos rfl, if_true, forall_eq, show (nI 6 = 6) = True from eq_true rfl, show nI 6 - 1 = nI 5 by decide, true_implies, not_true_eq_false, false_implies, and_true]
    refine ⟨⟨S.1, C.1⟩, rfl, fun j i hj hi => ?_, fun i hi => ?_⟩
    · rw [C.2, if_neg (by omega), S.2 _ (by omega), if_neg (by omega), show 335 + (335 * j + i) = 335 * (j + 1) + i by omega]
    · rw [C.2, if_pos (by omega), show 335 * 5 + i - 335 * 5 = i by omega]
  · have h6' : ¬ nI K = 6 := fun q => h6 ((nI_eq (by omega) (by decide)).mp (show nI K = nI 6 from q))
    have C := sv_copy (K0 := K) (by omega) fS 335 0 (by omega) 336 fPast (by omega)
    rw [show nI 0 = 0 from rfl] at C
    unfold P_X11_saves F_X11_saves
    simp only [if_neg h6, if_neg h6', forall_eq, nI_1]
    refine ⟨⟨⟨fun q => absurd q h6', fun _ => trivial⟩, C.1⟩, True.intro, fun j i hj hi => ?_, fun i hi => ?_⟩
    · rw [C.2, if_neg (by omega)]
    · rw [C.2, if_pos (by omega), show 335 * K + i - 335 * K = i by omega]
def HistR (K : Nat) (lieS sealsS foldsS nS : Nat → Nat → Int32) (fS_ : Nat → Nat → Nat → Int32) (g : Nat → Int32) : Prop := ∀ j, j < K → PileR (lieS j) (sealsS j) (foldsS j) (nS j) (fS_ j) (fun i => g (335 * j + i))
/-- the state is saved on both sides -/
theorem push_ok {K : Nat} (hK : K ≤ 6) {PS AS : Nat → Nat} {LS hS_ vS : Nat → Nat → Nat} {lieS sealsS foldsS nS : Nat → Nat → Int32} {fS_ : Nat → Nat → Nat → Int32} {lie seals folds n : Nat → Int32} {f : Nat → Nat → Int32} {fS fPast : Nat → Int32} (h : PileR lie seals folds n f fS) (H : HistR K lieS sealsS foldsS nS fS_ fPast) : P_X1_push_G PS AS LS hS_ vS lieS sealsS foldsS nS fS_ (nI K) lie seals folds n f ∧ (F_X1_push_G PS AS LS hS_ vS lieS sealsS foldsS nS fS_ (nI K) lie seals folds n f).2.2.2.2.2.2.2.2.2.2 = nI (if K = 6 then 6 else K + 1) ∧ HistR (if K = 6 then 6 else K + 1) (F_X1_push_G PS AS LS hS_ vS lieS sealsS foldsS nS fS_ (nI K) lie seals folds n f).2.2.2.2.2.1 (F_X1_push_G PS AS LS hS_ vS lieS sealsS foldsS nS fS_ (nI K) lie seals folds n f).2.2.2.2.2.2.1 (F_X1_push_G PS AS LS hS_ vS lieS sealsS foldsS nS fS_ (nI K) lie seals folds n f).2.2.2.2.2.2.2.1 (F_X1_push_G PS AS LS hS_ vS lieS sealsS foldsS nS fS_ (nI K) lie seals folds n f).2.2.2.2.2.2.2.2.1 (F_X1_push_G PS AS LS hS_ vS lieS sealsS foldsS nS fS_ (nI K) lie seals folds n f).2.2.2.2.2.2.2.2.2.1 (F_X11_saves (nI K) fS fPast).2 := by
  have S := (saves_ok hK fS fPast).2.2
  have C := fun j => pile_copy (fS_ j) h
  rcases (show K = 0 ∨ K = 1 ∨ K = 2 ∨ K = 3 ∨ K = 4 ∨ K = 5 ∨ K = 6 by omega) with rfl | rfl | rfl | rfl | rfl | rfl | rfl
  · refine ⟨⟨by decide, fun _ => (C 0).1, (fun q => absurd q (by decide)), (fun q => absurd q (by decide)), (fun q => absurd q (by decide)), (fun q => absurd q (by decide)), (fun q => absurd q (by decide)), (fun q => absurd q (by decide))⟩, rfl, fun j hj => ?_⟩
    have hj : j < 1 := hj
    rcases (show j = 0 by omega) with rfl
    · exact (C 0).2.congr (fun i hi => S.2 0 rfl i hi)
  · refine ⟨⟨by decide, (fun q => absurd q (by decide)), fun _ => (C 1).1, (fun q => absurd q (by decide)), (fun q => absurd q (by decide)), (fun q => absurd q (by decide)), (fun q => absurd q (by decide)), (fun q => absurd q (by decide))⟩, rfl, fun j hj => ?_⟩
    have hj : j < 2 := hj
    rcases (show j = 0 ∨ j = 1 by omega) with rfl | rfl
    · exact (H 0 (by decide)).congr (fun i hi => S.1 0 i (by decide) hi)
    · exact (C 1).2.congr (fun i hi => S.2 1 rfl i hi)
  · refine ⟨⟨by decide, (fun q => absurd q (by decide)), (fun q => absurd q (by decide)), fun _ => (C 2).1, (fun q => absurd q (by decide)), (fun q => absurd q (by decide)), (fun q => absurd q (by decide)), (fun q => absurd q (by decide))⟩, rfl, fun j hj => ?_⟩
    have hj : j < 3 := hj
    rcases (show j = 0 ∨ j = 1 ∨ j = 2 by omega) with rfl | rfl | rfl
    · exact (H 0 (by decide)).congr (fun i hi => S.1 0 i (by decide) hi)
    · exact (H 1 (by decide)).congr (fun i hi => S.1 1 i (by decide) hi)
    · exact (C 2).2.congr (fun i hi => S.2 2 rfl i hi)
  · refine ⟨⟨by decide, (fun q => absurd q (by decide)), (fun q => absurd q (by decide)), (fun q => absurd q (by decide)), fun _ => (C 3).1, (fun q => absurd q (by decide)), (fun q => absurd q (by decide)), (fun q => absurd q (by decide))⟩, rfl, fun j hj => ?_⟩
    have hj : j < 4 := hj
    rcases (show j = 0 ∨ j = 1 ∨ j = 2 ∨ j = 3 by omega) with rfl | rfl | rfl | rfl
    · exact (H 0 (by decide)).congr (fun i hi => S.1 0 i (by decide) hi)
    · exact (H 1 (by decide)).congr (fun i hi => S.1 1 i (by decide) hi)
    · exact (H 2 (by decide)).congr (fun i hi => S.1 2 i (by decide) hi)
    · exact (C 3).2.congr (fun i hi => S.2 3 rfl i hi)
  · refine ⟨⟨by decide, (fun q => absurd q (by decide)), (fun q => absurd q (by decide)), (fun q => absurd q (by decide)), (fun q => absurd q (by decide)), fun _ => (C 4).1, (fun q => absurd q (by decide)), (fun q => absurd q (by decide))⟩, rfl, fun j hj => ?_⟩
    have hj : j < 5 := hj
    rcases (show j = 0 ∨ j = 1 ∨ j = 2 ∨ j = 3 ∨ j = 4 by omega) with rfl | rfl | rfl | rfl | rfl
    · exact (H 0 (by decide)).congr (fun i hi => S.1 0 i (by decide) hi)
    · exact (H 1 (by decide)).congr (fun i hi => S.1 1 i (by decide) hi)
    · exact (H 2 (by decide)).congr (fun i hi => S.1 2 i (by decide) hi)
    · exact (H 3 (by decide)).congr (fun i hi => S.1 3 i (by decide) hi)
    · exact (C 4).2.congr (fun i hi => S.2 4 rfl i hi)
  · refine ⟨⟨by decide, (fun q => absurd q (by decide)), (fun q => absurd q (by decide)), (fun q => absurd q (by decide)), (fun q => absurd q (by decide)), (fun q => absurd q (by decide)), fun _ => (C 5).1, (fun q => absurd q (by decide))⟩, rfl, fun j hj => ?_⟩
    have hj : j < 6 := hj
    rcases (show j = 0 ∨ j = 1 ∨ j = 2 ∨ j = 3 ∨ j = 4 ∨ j = 5 by omega) with rfl | rfl | rfl | rfl | rfl | rfl
    · exact (H 0 (by decide)).congr (fun i hi => S.1 0 i (by decide) hi)
    · exact (H 1 (by decide)).congr (fun i hi => S.1 1 i (by decide) hi)
    · exact (H 2 (by decide)).congr (fun i hi => S.1 2 i (by decide) hi)
    · exact (H 3 (by decide)).congr (fun i hi => S.1 3 i (by decide) hi)
    · exact (H 4 (by decide)).congr (fun i hi => S.1 4 i (by decide) hi)
    · exact (C 5).2.congr (fun i hi => S.2 5 rfl i hi)
  · refine ⟨⟨by decide, (fun q => absurd q (by decide)), (fun q => absurd q (by decide)), (fun q => absurd q (by decide)), (fun q => absurd q (by decide)), (fun q => absurd q (by decide)), (fun q => absurd q (by decide)), fun _ => by unfold P_X1_push_6; simp only [forall_eq]; exact (pile_copy _ h).1⟩, rfl, fun j hj => ?_⟩
    have hj : j < 6 := hj
    rcases (show j = 0 ∨ j = 1 ∨ j = 2 ∨ j = 3 ∨ j = 4 ∨ j = 5 by omega) with rfl | rfl | rfl | rfl | rfl | rfl
    · exact (H 1 (by decide)).congr (fun i hi => S.1 0 i (by decide) hi)
    · exact (H 2 (by decide)).congr (fun i hi => S.1 1 i (by decide) hi)
    · exact (H 3 (by decide)).congr (fun i hi => S.1 2 i (by decide) hi)
    · exact (H 4 (by decide)).congr (fun i hi => S.1 3 i (by decide) hi)
    · exact (H 5 (by decide)).congr (fun i hi => S.1 4 i (by decide) hi)
    · exact (pile_copy _ h).2.congr (fun i hi => S.2 5 rfl i hi)
/-- the state is restored on both sides -/
theorem pop_ok {K : Nat} (hK : K < 6) {lieS sealsS foldsS nS : Nat → Nat → Int32} {fS_ : Nat → Nat → Nat → Int32} {lie seals folds n : Nat → Int32} {f : Nat → Nat → Int32} {fPast : Nat → Int32} (H : HistR (K + 1) lieS sealsS foldsS nS fS_ fPast) : P_X1_pop_G lieS sealsS foldsS nS fS_ (nI (K + 1)) f ∧ (F_X1_pop_G lieS sealsS foldsS nS fS_ (nI (K + 1)) lie seals folds n f).1 = nI K ∧ PileR (F_X1_pop_G lieS sealsS foldsS nS fS_ (nI (K + 1)) lie seals folds n f).2.1 (F_X1_pop_G lieS sealsS foldsS nS fS_ (nI (K + 1)) lie seals folds n f).2.2.1 (F_X1_pop_G lieS sealsS foldsS nS fS_ (nI (K + 1)) lie seals folds n f).2.2.2.1 (F_X1_pop_G lieS sealsS foldsS nS fS_ (nI (K + 1)) lie seals folds n f).2.2.2.2.1 (F_X1_pop_G lieS sealsS foldsS nS fS_ (nI (K + 1)) lie seals folds n f).2.2.2.2.2 (fun i => fPast (335 * K + i)) := by
  have C := pile_copy f (H K (by omega))
  rcases (show K = 0 ∨ K = 1 ∨ K = 2 ∨ K = 3 ∨ K = 4 ∨ K = 5 by omega) with rfl | rfl | rfl | rfl | rfl | rfl
  · exact ⟨⟨by decide, fun _ => C.1, (fun q => absurd q (by decide)), (fun q => absurd q (by decide)), (fun q => absurd q (by decide)), (fun q => absurd q (by decide)), (fun q => absurd q (by decide))⟩, rfl, C.2⟩
  · exact ⟨⟨by decide, (fun q => absurd q (by decide)), fun _ => C.1, (fun q => absurd q (by decide)), (fun q => absurd q (by decide)), (fun q => absurd q (by decide)), (fun q => absurd q (by decide))⟩, rfl, C.2⟩
  · exact ⟨⟨by decide, (fun q => absurd q (by decide)), (fun q => absurd q (by decide)), fun _ => C.1, (fun q => absurd q (by decide)), (fun q => absurd q (by decide)), (fun q => absurd q (by decide))⟩, rfl, C.2⟩
  · exact ⟨⟨by decide, (fun q => absurd q (by decide)), (fun q => absurd q (by decide)), (fun q => absurd q (by decide)), fun _ => C.1, (fun q => absurd q (by decide)), (fun q => absurd q (by decide))⟩, rfl, C.2⟩
  · exact ⟨⟨by decide, (fun q => absurd q (by decide)), (fun q => absurd q (by decide)), (fun q => absurd q (by decide)), (fun q => absurd q (by decide)), fun _ => C.1, (fun q => absurd q (by decide))⟩, rfl, C.2⟩
  · exact ⟨⟨by decide, (fun q => absurd q (by decide)), (fun q => absurd q (by decide)), (fun q => absurd q (by decide)), (fun q => absurd q (by decide)), (fun q => absurd q (by decide)), fun _ => C.1⟩, rfl, C.2⟩

/-- a letter as the class has it, and how many folds are done -/
abbrev St := Int32 × Int32 × Int32 × (Nat → Int32) × Nat
def fold1 (st : St) (c : Int32) : St := ((F_X2_foldOver st.1 st.2.1 st.2.2.1 st.2.2.2.1 c).1, (F_X2_foldOver st.1 st.2.1 st.2.2.1 st.2.2.2.1 c).2.1, (F_X2_foldOver st.1 st.2.1 st.2.2.1 st.2.2.2.1 c).2.2.1, (F_X2_foldOver st.1 st.2.1 st.2.2.1 st.2.2.2.1 c).2.2.2, st.2.2.2.2 + 1)
/-- folds a letter by a word, up to the first fold that can't be done -/
def eat (s : Int32) : List Int32 → St → St × Bool
  | [], st => (st, true)
  | c :: cs, st => if F_X2_reasonAgainst s st.2.2.1 c = 0 then eat s cs (fold1 st c) else (st, false)
theorem eat_app (s : Int32) : ∀ (a b : List Int32) (st : St), eat s (a ++ b) st = if (eat s a st).2 = true then eat s b (eat s a st).1 else eat s a st := by
  intro a
  induction a with
  | nil => intro b st; rw [List.nil_append, eat, if_pos rfl]
  | cons c cs ih =>
    intro b st
    rw [List.cons_append, eat, eat]
    by_cases h : F_X2_reasonAgainst s st.2.2.1 c = 0
    · rw [if_pos h, if_pos h, ih]
    · rw [if_neg h, if_neg h, if_neg (show ¬ (false = true) from Bool.false_ne_true)]
theorem eat_m (s : Int32) : ∀ (a : List Int32) (st : St), st.2.2.2.2 ≤ (eat s a st).1.2.2.2.2 ∧ ((eat s a st).2 = true → (eat s a st).1.2.2.2.2 = st.2.2.2.2 + a.length) := by
  intro a
  induction a with
  | nil => intro st; exact ⟨Nat.le_refl _, fun _ => rfl⟩
  | cons c cs ih =>
    intro st
    rw [eat]
    by_cases h : F_X2_reasonAgainst s st.2.2.1 c = 0
    · rw [if_pos h]
      have K := ih (fold1 st c)
      have e : (fold1 st c).2.2.2.2 = st.2.2.2.2 + 1 := rfl
      rw [e] at K
      refine ⟨by omega, fun q => ?_⟩
      rw [K.2 q, List.length_cons]
      omega
    · rw [if_neg h]
      exact ⟨Nat.le_refl _, fun q => absurd q Bool.false_ne_true⟩
theorem fold1_n {s : Int32} {st : St} {c : Int32} {N : Nat} (h : F_X2_reasonAgainst s st.2.2.1 c = 0) (e : st.2.2.1 = nI N) (hN : N ≤ 60) : N < 60 ∧ (fold1 st c).2.2.1 = nI (N + 1) ∧ P_X2_foldOver st.1 st.2.1 st.2.2.1 c := by
  have h60 := not_full h e hN
  have R := row_add st.2.2.2.1 c h60
  refine ⟨h60, ?_, ?_⟩
  · show (F_X6_add st.2.2.1 st.2.2.2.1 c).1 = _
    rw [e, R.2]
  · unfold P_X2_foldOver
    simp only [forall_eq]
    rw [e]; exact R.1
theorem eat_n (s : Int32) : ∀ (a : List Int32) (st : St) (N : Nat), st.2.2.1 = nI N → N ≤ 60 → ∃ N', N' ≤ 60 ∧ (eat s a st).1.2.2.1 = nI N' ∧ N' = N + ((eat s a st).1.2.2.2.2 - st.2.2.2.2) := by
  intro a
  induction a with
  | nil => intro st N e hN; exact ⟨N, hN, e, by show N = N + (st.2.2.2.2 - st.2.2.2.2); omega⟩
  | cons c cs ih =>
    intro st N e hN
    rw [eat]
    by_cases h : F_X2_reasonAgainst s st.2.2.1 c = 0
    · rw [if_pos h]
      have F := fold1_n h e hN
      obtain ⟨N', h1, h2, h3⟩ := ih (fold1 st c) (N + 1) F.2.1 (by omega)
      have M := (eat_m s cs (fold1 st c)).1
      have e2 : (fold1 st c).2.2.2.2 = st.2.2.2.2 + 1 := rfl
      rw [e2] at h3 M
      exact ⟨N', h1, h2, by omega⟩
    · rw [if_neg h]
      exact ⟨N, hN, e, by show N = N + (st.2.2.2.2 - st.2.2.2.2); omega⟩
theorem full_reason (s c : Int32) : F_X2_reasonAgainst s (nI 60) c = 1 := by
  unfold F_X2_reasonAgainst
  simp only [isFull_60, i10, if_false]
/-- the class's folding -/
theorem fu_loop {s : Int32} {R : Nat} (hR : R ≤ 60) (g : Nat → Int32) : ∀ (cs : List Int32) (j : Nat), j + cs.length = R → (∀ i, i < cs.length → g (j + i) = nth cs i) → ∀ (fuel : Nat) (st : St) (N : Nat), cs.length < fuel → st.2.2.2.2 = j → st.2.2.1 = nI N → N ≤ 60 → P_X2_foldUpTo_L2 (nI R) g s fuel st.1 st.2.1 st.2.2.1 st.2.2.2.1 (nI j) ∧ F_X2_foldUpTo_L2 (nI R) g s fuel st.1 st.2.1 st.2.2.1 st.2.2.2.1 (nI j) = ((eat s cs st).1.1, (eat s cs st).1.2.1, (eat s cs st).1.2.2.1, (eat s cs st).1.2.2.2.1, nI (eat s cs st).1.2.2.2.2) := by
  intro cs
  induction cs with
  | nil =>
    intro j hj hg fuel st N hf hm e hN
    obtain ⟨f, rfl⟩ : ∃ f, fuel = f + 1 := ⟨fuel - 1, by omega⟩
    have hjR : j = R := by rw [List.length_nil] at hj; omega
    subst hjR
    have h1 : nI j ≤ nI j := nI_le (Nat.le_refl _) (by omega)
    rw [P_X2_foldUpTo_L2, F_X2_foldUpTo_L2]
    unfold F_X6_size
    simp only [forall_eq, if_pos h1]
    refine ⟨⟨fun _ => trivial, fun q => absurd h1 q⟩, ?_⟩
    rw [eat, hm]
  | cons c cs ih =>
    intro j hj hg fuel st N hf hm e hN
    rw [List.length_cons] at hj hg hf
    obtain ⟨f, rfl⟩ : ∃ f, fuel = f + 1 := ⟨fuel - 1, by omega⟩
    have h1 : ¬ nI R ≤ nI j := nI_ge (by omega) (by omega)
    have A := row_at g (N := R) (j := j) (by omega) hR
    have eg : g j = c := hg 0 (by omega)
    rw [eg] at A
    rw [P_X2_foldUpTo_L2, F_X2_foldUpTo_L2, eat]
    unfold F_X6_size
    simp only [forall_eq, if_neg h1, A.2]
    by_cases h : F_X2_reasonAgainst s st.2.2.1 c = 0
    · have F := fold1_n h e hN
      have K := ih (j + 1) (by omega) (fun i hi => by rw [show j + 1 + i = j + (i + 1) by omega, hg (i + 1) (by omega)]; rfl) f (fold1 st c) (N + 1) (by omega) (by show st.2.2.2.2 + 1 = j + 1; omega) F.2.1 (by omega)
      simp only [if_pos h, nI_1]
      exact ⟨⟨fun q => absurd q h1, fun _ => ⟨A.1, fun _ => ⟨A.1, F.2.2, K.1⟩, fun q => absurd h q⟩⟩, K.2⟩
    · simp only [if_neg h]
      exact ⟨⟨fun q => absurd q h1, fun _ => ⟨A.1, fun q => absurd q h, fun _ => trivial⟩⟩, by rw [hm]⟩
theorem eat_take {s : Int32} {U : List Int32} {st : St} {N : Nat} (e : st.2.2.1 = nI N) (hN : N ≤ 60) : (eat s U st).1 = (eat s (U.take 60) st).1 := by
  have hU : eat s U st = eat s (U.take 60 ++ U.drop 60) st := by rw [List.take_append_drop]
  rw [hU, eat_app]
  by_cases h : (eat s (U.take 60) st).2 = true
  · rw [if_pos h]
    have M := (eat_m s (U.take 60) st).2 h
    obtain ⟨N', h1, h2, h3⟩ := eat_n s (U.take 60) st N e hN
    cases hd : U.drop 60 with
    | nil => rfl
    | cons c cs =>
      have hl : 60 < U.length := by
        have := congrArg List.length hd
        rw [List.length_drop, List.length_cons] at this
        omega
      rw [List.length_take, Nat.min_eq_left (by omega)] at M
      have : N' = 60 := by omega
      rw [eat, h2, this, full_reason, if_neg (by decide)]
  · rw [if_neg h]
theorem upto_ok {s : Int32} {U : List Int32} {g : Nat → Int32} {l fo nn : Int32} {ff : Nat → Int32} {N : Nat} (e : nn = nI N) (hN : N ≤ 60) (hg : ∀ j, j < m60 U.length → g j = nth U j) : P_X2_foldUpTo l s fo nn ff (nI (m60 U.length)) g ∧ F_X2_foldUpTo l s fo nn ff (nI (m60 U.length)) g = (nI (eat s U (l, fo, nn, ff, 0)).1.2.2.2.2, (eat s U (l, fo, nn, ff, 0)).1.1, (eat s U (l, fo, nn, ff, 0)).1.2.1, (eat s U (l, fo, nn, ff, 0)).1.2.2.1, (eat s U (l, fo, nn, ff, 0)).1.2.2.2.1) := by
  have hl : (U.take 60).length = m60 U.length := by
    rw [List.length_take]
    unfold m60
    split
    · exact Nat.min_eq_right (by omega)
    · exact Nat.min_eq_left (by omega)
  have K := fu_loop (s := s) (m60_le U.length) g (U.take 60) 0 (by rw [hl, Nat.zero_add]) (fun i hi => by
    rw [hl] at hi
    rw [Nat.zero_add, hg i hi, ← nth_l (U.take 60) (U.drop 60) i (by rw [hl]; exact hi), List.take_append_drop]) 61 (l, fo, nn, ff, 0) N (by rw [hl]; have := m60_le U.length; omega) rfl e hN
  rw [show nI 0 = 0 from rfl] at K
  rw [eat_take (U := U) e hN]
  refine ⟨K.1, ?_⟩
  unfold F_X2_foldUpTo
  simp only [K.2]
/-- the state of the reference's loop -/
abbrev MS := (Nat → Int32) × (Nat → Int32) × (Nat → Int32) × (Nat → Int32) × Int32 × Int32 × Int32
def WF (B : Nat) (X : Nat → Int32) (k fuel : Nat) (u : MS) : MS := F_X11_word_L43 (nI B) X (nI k) fuel u.1 u.2.1 u.2.2.1 u.2.2.2.1 u.2.2.2.2.1 u.2.2.2.2.2.1 u.2.2.2.2.2.2
def WP (B : Nat) (X : Nat → Int32) (k fuel : Nat) (u : MS) : Prop := P_X11_word_L43 (nI B) X (nI k) fuel u.1 u.2.1 u.2.2.1 u.2.2.2.1 u.2.2.2.2.1 u.2.2.2.2.2.1 u.2.2.2.2.2.2
def Reach (B : Nat) (X : Nat → Int32) (k c : Nat) (u v : MS) : Prop := ∀ fuel, WF B X k (fuel + c) u = WF B X k fuel v ∧ (WP B X k fuel v → WP B X k (fuel + c) u)
def Stops (B : Nat) (X : Nat → Int32) (k c : Nat) (u : MS) (g : Nat → Int32) (n : Int32) : Prop := ∀ fuel, WP B X k (fuel + c) u ∧ (WF B X k (fuel + c) u).1 = g ∧ (WF B X k (fuel + c) u).2.2.2.2.1 = n
theorem Reach.trans {B k c1 c2 : Nat} {X : Nat → Int32} {u v w : MS} (h1 : Reach B X k c1 u v) (h2 : Reach B X k c2 v w) : Reach B X k (c1 + c2) u w := by
  intro fuel
  rw [show fuel + (c1 + c2) = (fuel + c2) + c1 by omega]
  obtain ⟨a1, a2⟩ := h1 (fuel + c2)
  obtain ⟨b1, b2⟩ := h2 fuel
  exact ⟨a1.trans b1, fun q => a2 (b2 q)⟩
theorem Reach.stops {B k c1 c2 : Nat} {X : Nat → Int32} {u v : MS} {g : Nat → Int32} {n : Int32} (h1 : Reach B X k c1 u v) (h2 : Stops B X k c2 v g n) : Stops B X k (c1 + c2) u g n := by
  intro fuel
  rw [show fuel + (c1 + c2) = (fuel + c2) + c1 by omega]
  obtain ⟨a1, a2⟩ := h1 (fuel + c2)
  obtain ⟨b1, b2, b3⟩ := h2 fuel
  rw [a1]
  exact ⟨a2 b1, b2, b3⟩
theorem Reach.refl {B k : Nat} {X : Nat → Int32} {u : MS} : Reach B X k 0 u u := fun fuel => ⟨rfl, id⟩
def ms (st : St) (fS one op ti : Nat → Int32) (a : Nat) : MS := (fS, one, op, ti, nI st.2.2.2.2, nI a, 1)
def CR (k : Nat) (s : Int32) (fS0 : Nat → Int32) (st : St) (fS : Nat → Int32) : Prop := LetR st.1 s st.2.1 st.2.2.1 st.2.2.2.1 (fun i => fS (67 * k + i)) ∧ ∀ i, (i < 67 * k ∨ 67 * k + 67 ≤ i) → fS i = fS0 i
/-- a text whose depths are known -/
def Tx (B : Nat) (T X : Nat → Int32) : Prop := B ≤ 60 ∧ (∀ j, j < B → X j = T j) ∧ ∀ i, i ≤ B → depI T i = nI (dn T i) ∧ dn T i ≤ 5
theorem tx_ok {B : Nat} {T X : Nat → Int32} (hB : B ≤ 60) (hc : ∀ j, j < B → ∃ m, m < 127 ∧ T j = nI m) (hX : ∀ j, j < B → X j = T j) (hf : ∀ j, j < B → fit T j = true) : Tx B T X := by
  refine ⟨hB, hX, fun i => ?_⟩
  induction i with
  | zero => intro _; exact ⟨rfl, by show 0 ≤ 5; omega⟩
  | succ i ih =>
    intro hi
    obtain ⟨h1, h2⟩ := ih (by omega)
    obtain ⟨q1, q2⟩ := (rfit_ok h2 (hc i (by omega))).2 (hf i (by omega))
    exact ⟨by rw [depI, h1]; exact q2, q1⟩
theorem Tx.depth {B i : Nat} {T X : Nat → Int32} (h : Tx B T X) (hi : i ≤ B) : P_X11_depth (nI B) X (nI i) ∧ F_X11_depth (nI B) X (nI i) = nI (dn T i) := by
  have D := depth_ok h.1 hi X
  rw [(dn_congr i (fun j hj => h.2.1 j (by omega))).2.2, (h.2.2 i hi).1] at D
  exact D
theorem Tx.sign {B i : Nat} {T X : Nat → Int32} (h : Tx B T X) (hi : i < B) : P_X11_sign (nI B) (nI i) ∧ F_X11_sign (nI B) X (nI i) = T i := by
  have S := sign_in X h.1 hi
  rw [h.2.1 i hi] at S
  exact S
theorem n4140 : ((41 : Int32) = 40) = False := eq_false (by decide)
theorem goes_crease {B i c : Nat} {T X : Nat → Int32} (h : Tx B T X) (hi : i < B) (hc : c < 4) (e : T i = nI (48 + c)) (op ti : Nat → Int32) (dep : Int32) : P_X11_goes (nI B) X op ti (nI i) dep ∧ F_X11_goes (nI B) X op ti (nI i) dep = (nI (i + 1), op, ti) := by
  have S := h.sign hi
  rw [e] at S
  have n40 := not40 (show c < 100 by omega)
  have n41 := not41 (show c < 100 by omega)
  constructor
  · unfold P_X11_goes
    simp only [forall_eq, S.2]
    exact ⟨S.1, fun q => absurd q n40, fun _ => ⟨S.1, fun q => absurd q n41, fun _ => S.1⟩⟩
  · unfold F_X11_goes
    simp only [S.2, if_neg n40, if_neg n41, nI_1]
theorem goes_open {B i d : Nat} {T X : Nat → Int32} (h : Tx B T X) (hi : i < B) (e : T i = 40) (op ti : Nat → Int32) (hd : d < 5) : P_X11_goes (nI B) X op ti (nI i) (nI d) ∧ F_X11_goes (nI B) X op ti (nI i) (nI d) = (nI (i + 1), upd op d (nI i), upd ti d 1) := by
  have S := h.sign hi
  rw [e] at S
  constructor
  · unfold P_X11_goes
    simp only [forall_eq, S.2, true_implies, not_true_eq_false, false_implies, and_true]
    exact ⟨S.1, vp_in_nI (by omega) (by decide), vp_in_nI (by omega) (by decide)⟩
  · unfold F_X11_goes
    simp only [S.2, if_true, nI_1, ck hd]
theorem goes_close {B i d t F : Nat} {T X : Nat → Int32} (h : Tx B T X) (hi : i + 1 < B) (e : T i = 41) (e2 : T (i + 1) = nI (48 + F)) (hF : F ≤ 9) (op ti : Nat → Int32) (hd : d < 5) (ht : ti d = nI t) (ht9 : t ≤ F) : P_X11_goes (nI B) X op ti (nI i) (nI (d + 1)) ∧ F_X11_goes (nI B) X op ti (nI i) (nI (d + 1)) = if t = F then (nI (i + 2), op, ti) else (op d + 1, op, upd ti d (nI (t + 1))) := by
  have S := h.sign (show i < B by omega)
  have S2 := h.sign hi
  rw [e] at S
  rw [e2] at S2
  have e3 : nI i + 2 = nI (i + 2) := nI_add i 2
  constructor
  · unfold P_X11_goes
    simp only [forall_eq, S.2, nI_1, nI_sub1, n4140, false_implies, not_false_eq_true, true_implies, true_and, not_true_eq_false, and_true]
    exact ⟨S.1, S.1, vp_in_nI (by omega) (by decide), S2.1, fun _ => S.1, fun _ => ⟨vp_in_nI (by omega) (by decide), vp_in_nI (by omega) (by decide), vp_in_nI (by omega) (by decide)⟩⟩
  · unfold F_X11_goes
    simp only [S.2, nI_1, nI_sub1, n4140, if_false, if_true, S2.2, sub48, ck hd, ht, e3]
    by_cases q : t = F
    · rw [if_pos q, if_pos (show nI F ≤ nI t from nI_le (by omega) (by omega))]
    · rw [if_neg q, if_neg (show ¬ nI F ≤ nI t from nI_ge (by omega) (by omega))]
theorem i01f : ((1 : Int32) = 0) = False := i10
theorem step_crease {B i c k : Nat} {T X fS0 fS one op ti : Nat → Int32} {s : Int32} {st : St} (h : Tx B T X) (hi : i < B) (hk : k < 5) (hc : c < 4) (e : T i = nI (48 + c)) (hCR : CR k s fS0 st fS) (hr : F_X2_reasonAgainst s st.2.2.1 (nI c) = 0) : ∃ fS' one', CR k s fS0 (fold1 st (nI c)) fS' ∧ Reach B X k 1 (ms st fS one op ti i) (ms (fold1 st (nI c)) fS' one' op ti (i + 1)) := by
  have FO := folds_ok (g := one) hk hCR.1 (c4_nI hc) hr
  have RE := reason_ok hk hCR.1 (c4_nI hc)
  rw [hr] at RE
  refine ⟨(F_X11_folds fS one (nI k) (nI c)).1, (F_X11_folds fS one (nI k) (nI c)).2, ⟨FO.2.2.2, fun i hi => (FO.2.1 i hi).trans (hCR.2 i hi)⟩, fun fuel => ?_⟩
  have S := h.sign hi
  rw [e] at S
  have n40 := not40 (show c < 100 by omega)
  have n41 := not41 (show c < 100 by omega)
  have D := h.depth (show i ≤ B by omega)
  have G := goes_crease h hi hc e op ti (nI (dn T i))
  have h1 : ¬ nI B ≤ nI i := nI_ge hi (by have := h.1; omega)
  unfold WF WP ms
  dsimp only
  rw [P_X11_word_L43, F_X11_word_L43, if_neg h1]
  simp only [forall_eq, S.2, if_neg n40, if_neg n41, i01f, if_false, sub48, RE.2, if_true, nI_1, D.2, G.2]
  refine ⟨rfl, fun q => ⟨fun _ => trivial, fun _ => ⟨fun _ => trivial, fun _ => ⟨S.1, ⟨fun _ => trivial, fun _ => S.1⟩, ⟨fun _ => trivial, fun _ => ⟨S.1, RE.1, ⟨fun _ => trivial, fun _ => FO.1⟩⟩⟩, D.1, G.1, q⟩⟩⟩⟩
theorem step_fail {B i c k : Nat} {T X fS0 fS one op ti : Nat → Int32} {s : Int32} {st : St} (h : Tx B T X) (hi : i < B) (hk : k < 5) (hc : c < 4) (e : T i = nI (48 + c)) (hCR : CR k s fS0 st fS) (hr : ¬ F_X2_reasonAgainst s st.2.2.1 (nI c) = 0) : Stops B X k 2 (ms st fS one op ti i) fS (nI st.2.2.2.2) := by
  have RE := reason_ok hk hCR.1 (c4_nI hc)
  intro fuel
  have S := h.sign hi
  rw [e] at S
  have n40 := not40 (show c < 100 by omega)
  have n41 := not41 (show c < 100 by omega)
  have D := h.depth (show i ≤ B by omega)
  have G := goes_crease h hi hc e op ti (nI (dn T i))
  have h1 : ¬ nI B ≤ nI i := nI_ge hi (by have := h.1; omega)
  have hz : (F_X2_reasonAgainst s st.2.2.1 (nI c) = 0) = False := eq_false hr
  have L : ∀ place, P_X11_word_L43 (nI B) X (nI k) (fuel + 1) fS one op ti (nI st.2.2.2.2) place 0 ∧ F_X11_word_L43 (nI B) X (nI k) (fuel + 1) fS one op ti (nI st.2.2.2.2) place 0 = (fS, one, op, ti, nI st.2.2.2.2, place, 0) := by
    intro place
    rw [P_X11_word_L43, F_X11_word_L43]
    refine ⟨⟨fun _ => trivial, fun _ => ⟨fun _ => trivial, fun q => absurd rfl q⟩⟩, ?_⟩
    rw [if_pos (rfl : (0 : Int32) = 0)]
    split <;> rfl
  unfold WF WP ms
  dsimp only
  rw [show fuel + 2 = (fuel + 1) + 1 from rfl, P_X11_word_L43, F_X11_word_L43, if_neg h1]
  simp only [forall_eq, S.2, if_neg n40, if_neg n41, i01f, if_false, sub48, RE.2, hz, if_true, nI_1, D.2, G.2, (L _).2, i00]
  refine ⟨⟨fun _ => trivial, fun _ => ⟨fun _ => trivial, fun _ => ⟨S.1, ⟨fun _ => trivial, fun _ => S.1⟩, ⟨fun _ => trivial, fun _ => ⟨S.1, RE.1, ⟨fun _ => trivial, fun q => absurd trivial q⟩⟩⟩, D.1, G.1, (L _).1⟩⟩⟩, True.intro, True.intro⟩
theorem step_open {B i d k : Nat} {T X fS one op ti : Nat → Int32} {st : St} (h : Tx B T X) (hi : i < B) (e : T i = 40) (hdn : dn T i = d) (hd : d < 5) : Reach B X k 1 (ms st fS one op ti i) (ms st fS one (upd op d (nI i)) (upd ti d 1) (i + 1)) := by
  intro fuel
  have S := h.sign hi
  rw [e] at S
  have D := h.depth (show i ≤ B by omega)
  rw [hdn] at D
  have G := goes_open h hi e op ti hd
  have h1 : ¬ nI B ≤ nI i := nI_ge hi (by have := h.1; omega)
  unfold WF WP ms
  dsimp only
  rw [P_X11_word_L43, F_X11_word_L43, if_neg h1]
  simp only [forall_eq, S.2, i01f, i00, if_false, if_true, D.2, G.2]
  refine ⟨True.intro, fun q => ⟨fun _ => trivial, fun _ => ⟨fun _ => trivial, fun _ => ⟨S.1, ⟨fun _ => trivial, fun q => absurd trivial q⟩, ⟨fun _ => trivial, fun q => absurd trivial q⟩, D.1, G.1, q⟩⟩⟩⟩
theorem step_close {B i d k t F : Nat} {T X fS one op ti : Nat → Int32} {st : St} (h : Tx B T X) (hi : i + 1 < B) (e : T i = 41) (e2 : T (i + 1) = nI (48 + F)) (hF : F ≤ 9) (hdn : dn T i = d + 1) (hd : d < 5) (ht : ti d = nI t) (ht9 : t ≤ F) : (t = F → Reach B X k 1 (ms st fS one op ti i) (ms st fS one op ti (i + 2))) ∧ (t ≠ F → ∀ p, op d = nI p → Reach B X k 1 (ms st fS one op ti i) (ms st fS one op (upd ti d (nI (t + 1))) (p + 1))) := by
  have S := h.sign (show i < B by omega)
  rw [e] at S
  have D := h.depth (show i ≤ B by omega)
  rw [hdn] at D
  have G := goes_close h hi e e2 hF op ti hd ht ht9
  have h1 : ¬ nI B ≤ nI i := nI_ge (by omega) (by have := h.1; omega)
  refine ⟨fun q => ?_, fun q p hp => ?_⟩
  · rw [if_pos q] at G
    intro fuel
    unfold WF WP ms
    dsimp only
    rw [P_X11_word_L43, F_X11_word_L43, if_neg h1]
    simp only [forall_eq, S.2, n4140, i01f, i00, if_false, if_true, D.2, G.2]
    refine ⟨True.intro, fun q => ⟨fun _ => trivial, fun _ => ⟨fun _ => trivial, fun _ => ⟨S.1, ⟨fun _ => trivial, fun _ => S.1⟩, ⟨fun _ => trivial, fun q => absurd trivial q⟩, D.1, G.1, q⟩⟩⟩⟩
  · rw [if_neg q, hp, nI_1] at G
    intro fuel
    unfold WF WP ms
    dsimp only
    rw [P_X11_word_L43, F_X11_word_L43, if_neg h1]
    simp only [forall_eq, S.2, n4140, i01f, i00, if_false, if_true, D.2, G.2]
    refine ⟨True.intro, fun q => ⟨fun _ => trivial, fun _ => ⟨fun _ => trivial, fun _ => ⟨S.1, ⟨fun _ => trivial, fun _ => S.1⟩, ⟨fun _ => trivial, fun q => absurd trivial q⟩, D.1, G.1, q⟩⟩⟩⟩

def dnC (d : Nat) (c : Int32) : Nat := if c = 40 then d + 1 else if c = 41 then d - 1 else d
def wnC (c : Int32) : Int32 := if c = 40 then 0 else if c = 41 then 2 else 1
def fitC (d : Nat) (w c : Int32) : Bool := if w = 2 then decide (50 ≤ c) && decide (c ≤ 57) else (decide (c = 40) && decide (d < 5)) || (decide (c = 41) && decide (w = 1) && decide (0 < d)) || (decide (48 ≤ c) && decide (c ≤ 51))
def deltaC (c : Int32) : Int32 := if c = 40 then 1 else if c = 41 then -1 else 0
def dn (T : Nat → Int32) : Nat → Nat
  | 0 => 0
  | i + 1 => dnC (dn T i) (T i)
def wn (T : Nat → Int32) : Nat → Int32
  | 0 => 0
  | i + 1 => wnC (T i)
def depI (T : Nat → Int32) : Nat → Int32
  | 0 => 0
  | i + 1 => depI T i + deltaC (T i)
def fit (T : Nat → Int32) (i : Nat) : Bool := fitC (dn T i) (wn T i) (T i)
def w3 : List Int32 := [0, 1, 2]
def rfit (w c D : Int32) : Int32 := if w = 2 then F_X11_in c 50 57 else if F_X11_in c 48 51 = 0 then (if c = 40 then (if 5 ≤ D then 0 else 1) else if c = 41 then (if w = 0 then 0 else if D ≤ 0 then 0 else 1) else 0) else 1
theorem pf_takes : (List.range 6).all (fun d => w3.all (fun w => (List.range 127).all (fun m => decide (F_X5_takes (nI d) w (nI m) = if fitC d w (nI m) = true then (1, nI (dnC d (nI m)), wnC (nI m)) else (0, nI d, w))))) = true := by decide +kernel
theorem pf_rfit : (List.range 6).all (fun d => w3.all (fun w => (List.range 127).all (fun m => decide (rfit w (nI m) (nI d) = if fitC d w (nI m) = true then 1 else 0) && (!fitC d w (nI m) || (decide (dnC d (nI m) ≤ 5) && decide (nI d + deltaC (nI m) = nI (dnC d (nI m)))))))) = true := by decide +kernel
theorem wn_w3 (T : Nat → Int32) (i : Nat) : wn T i ∈ w3 := by
  cases i with
  | zero => exact List.mem_cons_self
  | succ i =>
    rw [wn]
    unfold wnC
    by_cases h40 : T i = 40
    · rw [if_pos h40]; decide
    · rw [if_neg h40]
      by_cases h41 : T i = 41
      · rw [if_pos h41]; decide
      · rw [if_neg h41]; decide
theorem all3 {Q : Nat → Int32 → Nat → Bool} (h : (List.range 6).all (fun d => w3.all (fun w => (List.range 127).all (fun m => Q d w m))) = true) {d m : Nat} {w : Int32} (hd : d ≤ 5) (hw : w ∈ w3) (hm : m < 127) : Q d w m = true :=
  List.all_eq_true.mp (List.all_eq_true.mp (List.all_eq_true.mp h d (List.mem_range.mpr (by omega))) w hw) m (List.mem_range.mpr hm)
theorem p_takes5 (a w c : Int32) : P_X5_takes a w c := by
  unfold P_X5_takes P_X5_takesIf
  simp only [forall_eq]
  refine ⟨fun _ => ?_, fun _ => ⟨fun _ => ?_, fun _ => ⟨fun _ => ?_, fun _ => ?_⟩⟩⟩ <;> (repeat' split) <;> first | exact Or.inl rfl | exact Or.inr rfl
theorem takes5_ok {T : Nat → Int32} {i : Nat} (hd : dn T i ≤ 5) (hc : ∃ m, m < 127 ∧ T i = nI m) : F_X5_takes (nI (dn T i)) (wn T i) (T i) = if fit T i = true then (1, nI (dn T (i + 1)), wn T (i + 1)) else (0, nI (dn T i), wn T i) := by
  obtain ⟨m, hm, e⟩ := hc
  have h := of_decide_eq_true (all3 (Q := fun d w m => decide (F_X5_takes (nI d) w (nI m) = if fitC d w (nI m) = true then (1, nI (dnC d (nI m)), wnC (nI m)) else (0, nI d, w))) pf_takes hd (wn_w3 T i) hm)
  unfold fit
  rw [dn, wn, e]
  exact h
theorem rfit_ok {T : Nat → Int32} {i : Nat} (hd : dn T i ≤ 5) (hc : ∃ m, m < 127 ∧ T i = nI m) : rfit (wn T i) (T i) (nI (dn T i)) = (if fit T i = true then 1 else 0) ∧ (fit T i = true → dn T (i + 1) ≤ 5 ∧ nI (dn T i) + deltaC (T i) = nI (dn T (i + 1))) := by
  obtain ⟨m, hm, e⟩ := hc
  have h := all3 (Q := fun d w m => decide (rfit w (nI m) (nI d) = if fitC d w (nI m) = true then 1 else 0) && (!fitC d w (nI m) || (decide (dnC d (nI m) ≤ 5) && decide (nI d + deltaC (nI m) = nI (dnC d (nI m)))))) pf_rfit hd (wn_w3 T i) hm
  unfold fit
  rw [dn, e]
  rw [Bool.and_eq_true, decide_eq_true_eq, Bool.or_eq_true, Bool.and_eq_true, decide_eq_true_eq, decide_eq_true_eq, Bool.not_eq_true'] at h
  refine ⟨h.1, fun q => h.2.resolve_left (fun z => ?_)⟩
  rw [q] at z
  exact absurd z (by decide)
theorem sign_in {B j : Nat} (X : Nat → Int32) (hB : B ≤ 60) (hj : j < B) : P_X11_sign (nI B) (nI j) ∧ F_X11_sign (nI B) X (nI j) = X j := by
  have h0 : ¬ nI j < 0 := nI_nneg (by omega)
  have h1 : nI j < nI B := nI_lt hj (by omega)
  unfold P_X11_sign F_X11_sign
  simp only [if_neg h0, if_pos h1, nI_clamp (n := j) (by omega)]
  exact ⟨⟨fun _ => trivial, fun _ => ⟨fun _ => vp_in_nI (by omega) (by decide), fun _ => trivial⟩⟩, True.intro⟩
theorem sign_m1 (X : Nat → Int32) (b : Int32) : P_X11_sign b (nI 0 - 1) ∧ F_X11_sign b X (nI 0 - 1) = -1 := by
  have h0 : nI 0 - 1 < 0 := by decide
  unfold P_X11_sign F_X11_sign
  simp only [if_pos h0]
  exact ⟨⟨fun _ => trivial, fun q => absurd h0 q⟩, True.intro⟩
theorem dep_loop {B p : Nat} (hB : B ≤ 60) (hp : p ≤ B) (X : Nat → Int32) : ∀ (t j : Nat), j + t = p → ∀ fuel, t < fuel → P_X11_depth_L4 (nI p) (nI B) X fuel (depI X j) (nI j) ∧ (F_X11_depth_L4 (nI p) (nI B) X fuel (depI X j) (nI j)).1 = depI X p := by
  intro t
  induction t with
  | zero =>
    intro j hj fuel hf
    obtain ⟨f, rfl⟩ : ∃ f, fuel = f + 1 := ⟨fuel - 1, by omega⟩
    have hjp : j = p := by omega
    subst hjp
    have h1 : nI j ≤ nI j := nI_le (Nat.le_refl _) (by omega)
    rw [P_X11_depth_L4, F_X11_depth_L4, if_pos h1]
    exact ⟨⟨fun _ => trivial, fun q => absurd h1 q⟩, rfl⟩
  | succ t ih =>
    intro j hj fuel hf
    obtain ⟨f, rfl⟩ : ∃ f, fuel = f + 1 := ⟨fuel - 1, by omega⟩
    have h1 : ¬ nI p ≤ nI j := nI_ge (by omega) (by omega)
    have S := sign_in X hB (j := j) (by omega)
    have K := ih (j + 1) (by omega) f (by omega)
    have e : depI X (j + 1) = depI X j + (if X j = 40 then 1 else if X j = 41 then -1 else 0) := rfl
    rw [e] at K
    rw [P_X11_depth_L4, F_X11_depth_L4, if_neg h1]
    simp only [forall_eq, S.2, nI_1]
    exact ⟨⟨fun _ => trivial, fun _ => ⟨S.1, ⟨fun _ => trivial, fun _ => S.1⟩, K.1⟩⟩, K.2⟩
theorem depth_ok {B p : Nat} (hB : B ≤ 60) (hp : p ≤ B) (X : Nat → Int32) : P_X11_depth (nI B) X (nI p) ∧ F_X11_depth (nI B) X (nI p) = depI X p := by
  have K := dep_loop hB hp X p 0 (by omega) 62 (by omega)
  rw [show nI 0 = 0 from rfl] at K
  unfold P_X11_depth F_X11_depth
  exact K
theorem n41 : ((-1 : Int32) = 41) = False := eq_false (by decide)
theorem i02 : ((0 : Int32) = 2) = False := eq_false (by decide)
theorem i12 : ((1 : Int32) = 2) = False := eq_false (by decide)
theorem i4041 : ((40 : Int32) = 41) = False := eq_false (by decide)
theorem fits_ok {B i : Nat} (hB : B ≤ 60) (hi : i < B) (X : Nat → Int32) (hd : depI X i = nI (dn X i)) : P_X11_fits (nI B) X (nI i) ∧ F_X11_fits (nI B) X (nI i) = rfit (wn X i) (X i) (nI (dn X i)) := by
  have D := depth_ok hB (p := i) (by omega) X
  rw [hd] at D
  have S := sign_in X hB hi
  cases i with
  | zero =>
    have M := sign_m1 X (nI B)
    have h0 : nI 0 ≤ 0 := by decide
    have pF : P_X11_isFigure (nI B) (nI 0) := M.1
    constructor
    · unfold P_X11_fits
      repeat' first | exact True.intro | exact S.1 | exact pF | exact M.1 | exact D.1 | apply And.intro | intro _
    · unfold F_X11_fits F_X11_isFigure rfit
      simp only [S.2, M.2, D.2, h0, if_true, if_false, n41, show wn X 0 = 0 from rfl, i02, i00]
  | succ i =>
    have M := sign_in X hB (j := i) (by omega)
    have e1 := nI_sub1 i
    have h0 : ¬ nI (i + 1) ≤ 0 := nI_ge (a := 0) (b := i + 1) (by omega) (by omega)
    have pF : P_X11_isFigure (nI B) (nI (i + 1)) := by unfold P_X11_isFigure; rw [e1]; exact M.1
    constructor
    · unfold P_X11_fits
      simp only [e1]
      repeat' first | exact True.intro | exact S.1 | exact pF | exact M.1 | exact D.1 | apply And.intro | intro _
    · unfold F_X11_fits F_X11_isFigure rfit
      simp only [S.2, e1, M.2, D.2, h0, if_false]
      rw [show wn X (i + 1) = wnC (X i) from rfl]
      unfold wnC
      by_cases a : X i = 41
      · simp only [a, if_true, if_false, i10, show ((41 : Int32) = 40) = False from eq_false (by decide)]
      · by_cases b : X i = 40
        · simp only [b, if_true, if_false, i10, i00, i02, i4041]
        · simp only [a, b, if_true, if_false, i10, i00, i02, i12]
theorem dn_congr {X T : Nat → Int32} : ∀ i, (∀ j, j < i → X j = T j) → dn X i = dn T i ∧ wn X i = wn T i ∧ depI X i = depI T i := by
  intro i
  induction i with
  | zero => intro _; exact ⟨rfl, rfl, rfl⟩
  | succ i ih =>
    intro h
    obtain ⟨h1, h2, h3⟩ := ih (fun j hj => h j (by omega))
    have h4 := h i (by omega)
    refine ⟨?_, ?_, ?_⟩
    · rw [dn, dn, h1, h4]
    · rw [wn, wn, h4]
    · rw [depI, depI, h3, h4]
theorem err_loop {B : Nat} {T X : Nat → Int32} (hB : B ≤ 60) (hc : ∀ j, j < B → ∃ m, m < 127 ∧ T j = nI m) (hX : ∀ j, j < B → X j = T j) : ∀ (t i : Nat), i + t = B → dn T i ≤ 5 → depI T i = nI (dn T i) → ∀ f1 f2, t < f1 → t < f2 →
    P_X7_firstBad_L9 (nI B) T f1 (nI (dn T i)) (wn T i) (nI i) ∧ P_X11_errorAt_L2 (nI B) X f2 (nI i) ∧ ∃ E, i ≤ E ∧ E ≤ B ∧ F_X11_errorAt_L2 (nI B) X f2 (nI i) = nI E ∧ (F_X7_firstBad_L9 (nI B) T f1 (nI (dn T i)) (wn T i) (nI i)).1 = nI E ∧ (∀ j, i ≤ j → j < E → fit T j = true) ∧ (E = B → (F_X7_firstBad_L9 (nI B) T f1 (nI (dn T i)) (wn T i) (nI i)).2.1 = nI (dn T B) ∧ (F_X7_firstBad_L9 (nI B) T f1 (nI (dn T i)) (wn T i) (nI i)).2.2 = wn T B ∧ dn T B ≤ 5 ∧ depI T B = nI (dn T B)) := by
  intro t
  induction t with
  | zero =>
    intro i hi hd hD f1 f2 hf1 hf2
    obtain ⟨f1, rfl⟩ : ∃ f, f1 = f + 1 := ⟨f1 - 1, by omega⟩
    obtain ⟨f2, rfl⟩ : ∃ f, f2 = f + 1 := ⟨f2 - 1, by omega⟩
    have hiB : i = B := by omega
    subst hiB
    have h1 : nI i ≤ nI i := nI_le (Nat.le_refl _) (by omega)
    rw [P_X7_firstBad_L9, P_X11_errorAt_L2, F_X7_firstBad_L9, F_X11_errorAt_L2]
    unfold F_X6_size
    simp only [forall_eq, if_pos h1]
    exact ⟨⟨fun _ => trivial, fun q => absurd h1 q⟩, ⟨fun _ => trivial, fun q => absurd h1 q⟩, i, Nat.le_refl _, Nat.le_refl _, rfl, rfl, fun j h2 h3 => absurd h3 (by omega), fun _ => ⟨True.intro, True.intro, hd, hD⟩⟩
  | succ t ih =>
    intro i hi hd hD f1 f2 hf1 hf2
    obtain ⟨f1, rfl⟩ : ∃ f, f1 = f + 1 := ⟨f1 - 1, by omega⟩
    obtain ⟨f2, rfl⟩ : ∃ f, f2 = f + 1 := ⟨f2 - 1, by omega⟩
    have h1 : ¬ nI B ≤ nI i := nI_ge (by omega) (by omega)
    have A := row_at T (j := i) (N := B) (by omega) hB
    have TK := takes5_ok hd (hc i (by omega))
    have RF := rfit_ok hd (hc i (by omega))
    have CG := dn_congr (X := X) (T := T) i (fun j hj => hX j (by omega))
    have FT := fits_ok hB (i := i) (by omega) X (by rw [CG.2.2, CG.1]; exact hD)
    rw [CG.1, CG.2.1, hX i (by omega), RF.1] at FT
    rw [P_X7_firstBad_L9, P_X11_errorAt_L2, F_X7_firstBad_L9, F_X11_errorAt_L2]
    unfold F_X6_size
    simp only [forall_eq, if_neg h1, A.2, FT.2]
    by_cases hf : fit T i = true
    · rw [if_pos hf] at TK
      obtain ⟨q1, q2⟩ := RF.2 hf
      obtain ⟨k1, k2, E, k3, k4, k5, k6, k7, k8⟩ := ih (i + 1) (by omega) q1 (by rw [depI, hD]; exact q2) f1 f2 (by omega) (by omega)
      simp only [TK, hf, if_true, i10, if_false, nI_1]
      refine ⟨⟨fun q => absurd q h1, fun _ => ⟨A.1, p_takes5 _ _ _, fun q => absurd q (by decide), fun _ => k1⟩⟩, ⟨fun q => absurd q h1, fun _ => ⟨FT.1, fun q => absurd q (by decide), fun _ => k2⟩⟩, E, by omega, k4, k5, k6, fun j h2 h3 => ?_, k8⟩
      by_cases hji : j = i
      · rw [hji]; exact hf
      · exact k7 j (by omega) h3
    · have hf' : fit T i = false := by
        cases h : fit T i
        · rfl
        · exact absurd h hf
      rw [if_neg hf] at TK
      simp only [TK, hf', if_neg (show ¬ (false = true) by decide), i00, if_true]
      exact ⟨⟨fun q => absurd q h1, fun _ => ⟨A.1, p_takes5 _ _ _, fun _ => trivial, fun q => absurd trivial q⟩⟩, ⟨fun q => absurd q h1, fun _ => ⟨FT.1, fun _ => trivial, fun q => absurd trivial q⟩⟩, i, Nat.le_refl _, by omega, rfl, rfl, fun j h2 h3 => absurd h3 (by omega), fun q => absurd q (by omega)⟩
theorem text_ok {B : Nat} {T X : Nat → Int32} (hB : B ≤ 60) (hc : ∀ j, j < B → ∃ m, m < 127 ∧ T j = nI m) (hX : ∀ j, j < B → X j = T j) : P_X7_firstBad (nI B) T ∧ P_X11_errorAt (nI B) X ∧ ∃ E, E ≤ B ∧ F_X11_errorAt (nI B) X = nI E ∧ (F_X7_firstBad (nI B) T).1 = nI E ∧ (∀ j, j < E → fit T j = true) ∧ (E = B → (F_X7_firstBad (nI B) T).2.1 = nI (dn T B) ∧ (F_X7_firstBad (nI B) T).2.2 = wn T B ∧ dn T B ≤ 5 ∧ depI T B = nI (dn T B)) := by
  obtain ⟨k1, k2, E, k3, k4, k5, k6, k7, k8⟩ := err_loop hB hc hX B 0 (by omega) (by show 0 ≤ 5; omega) rfl 62 62 (by omega) (by omega)
  rw [show nI 0 = 0 from rfl] at k1 k2 k5 k6 k8
  refine ⟨?_, k2, E, k4, k5, k6, fun j hj => k7 j (Nat.zero_le _) hj, k8⟩
  unfold P_X7_firstBad F_X5_start
  simp only [forall_eq]
  exact k1
/-- a complete word -/
def CW (B : Nat) (T : Nat → Int32) : Prop := 0 < B ∧ (∀ j, j < B → fit T j = true) ∧ dn T B = 0 ∧ wn T B = 1
theorem isWord_ok {B : Nat} {T X : Nat → Int32} (hB : B ≤ 60) (hc : ∀ j, j < B → ∃ m, m < 127 ∧ T j = nI m) (hX : ∀ j, j < B → X j = T j) : P_X7_isWord (nI B) T ∧ P_X11_isComplete (nI B) X ∧ ((CW B T ∧ (F_X7_isWord (nI B) T).1 = 1 ∧ F_X11_isComplete (nI B) X = 1) ∨ ((F_X7_isWord (nI B) T).1 = 0 ∧ F_X11_isComplete (nI B) X = 0)) := by
  obtain ⟨k1, k2, E, k4, k5, k6, k7, k8⟩ := text_ok hB hc hX
  have D := depth_ok hB (Nat.le_refl B) X
  have CG := dn_congr (X := X) (T := T) B hX
  have eW : (F_X7_isWord (nI B) T).1 = if nI E = nI B then (if F_X5_mayStop (F_X7_firstBad (nI B) T).2.1 (F_X7_firstBad (nI B) T).2.2 = 0 then 0 else 1) else 0 := by
    unfold F_X7_isWord F_X6_size
    simp only [k6]
  refine ⟨k1, ?_, ?_⟩
  · rcases Nat.eq_zero_or_pos B with h0 | h0
    · subst h0
      exact ⟨fun _ => trivial, fun q => absurd (by decide) q⟩
    · obtain ⟨M, rfl⟩ : ∃ M, B = M + 1 := ⟨B - 1, by omega⟩
      have S := sign_in X hB (j := M) (by omega)
      unfold P_X11_isComplete
      simp only [nI_sub1]
      repeat' first | exact True.intro | exact k2 | exact D.1 | exact S.1 | apply And.intro | intro _
  · rcases Nat.eq_zero_or_pos B with h0 | h0
    · subst h0
      right
      have hE : E = 0 := by omega
      obtain ⟨a1, a2, -, -⟩ := k8 hE
      constructor
      · rw [eW, a1, a2]
        subst hE
        rfl
      · unfold F_X11_isComplete
        simp only [if_pos (show nI 0 ≤ 0 by decide)]
    · obtain ⟨M, rfl⟩ : ∃ M, B = M + 1 := ⟨B - 1, by omega⟩
      have S := sign_in X hB (j := M) (by omega)
      have nle := nle0 (M := M) (by omega)
      by_cases hE : E = M + 1
      · obtain ⟨a1, a2, a3, a4⟩ := k8 hE
        have ee : (nI E = nI (M + 1)) = True := eq_true (by rw [hE])
        have eC : F_X11_isComplete (nI (M + 1)) X = if nI (dn T (M + 1)) = 0 then (if T M = 41 then 0 else 1) else 0 := by
          unfold F_X11_isComplete
          simp only [nle, if_false, k5, ee, if_true, D.2, CG.2.2, a4, nI_sub1, S.2, hX M (by omega)]
        rw [eW, eC, a1, a2]
        simp only [ee, if_true]
        unfold F_X5_mayStop
        rw [show wn T (M + 1) = wnC (T M) from rfl]
        by_cases hd : dn T (M + 1) = 0
        · have n40 : ¬ T M = 40 := fun q => by
            rw [dn] at hd
            unfold dnC at hd
            rw [if_pos q] at hd
            omega
          rw [hd]
          unfold wnC
          simp only [show (nI 0 = 0) = True from eq_true rfl, if_true, if_neg n40]
          by_cases h41 : T M = 41
          · right
            simp only [h41, if_true, if_false, show ((2 : Int32) = 1) = False from eq_false (by decide), i00]
            exact ⟨trivial, trivial⟩
          · left
            simp only [h41, if_true, if_false, i10]
            refine ⟨⟨h0, fun j hj => k7 j (by omega), hd, ?_⟩, True.intro, True.intro⟩
            rw [wn]
            unfold wnC
            rw [if_neg n40, if_neg h41]
        · have hz : (nI (dn T (M + 1)) = 0) = False := eq_false (fun q => hd ((nI_eq (b := 0) (by omega) (by decide)).mp q))
          right
          simp only [hz, if_false, i00, if_true]
          exact ⟨trivial, trivial⟩
      · have ee : (nI E = nI (M + 1)) = False := eq_false (fun q => hE ((nI_eq (by omega) (by omega)).mp q))
        right
        constructor
        · rw [eW]; simp only [ee, if_false]
        · unfold F_X11_isComplete
          simp only [nle, if_false, k5, ee]
theorem codes_ok {B : Nat} {ft fText : Nat → Int32} (h : ∀ j, j < B → ft j = fText j ∧ 33 ≤ ft j ∧ ft j ≤ 126) : (∀ j, j < B → ∃ m, m < 127 ∧ ft j = nI m) ∧ (∀ j, j < B → fText j = ft j) := by
  refine ⟨fun j hj => ?_, fun j hj => (h j hj).1.symm⟩
  obtain ⟨-, h1, h2⟩ := h j hj
  obtain ⟨m, hm, e⟩ := nI_of2 (x := ft j) (M := 126) (n := 126) rfl (Int32.not_lt.mpr (Int32.le_trans (by decide) h1)) h2
  exact ⟨m, by omega, e⟩
theorem ag_firstError (lie : Nat → Int32) (seals : Nat → Int32) (folds : Nat → Int32) (n : Nat → Int32) (f : Nat → Nat → Int32) (lie2 : Nat → Int32) (seals2 : Nat → Int32) (folds2 : Nat → Int32) (n2 : Nat → Int32) (f2 : Nat → Nat → Int32) (lieS : Nat → Nat → Int32) (sealsS : Nat → Nat → Int32) (foldsS : Nat → Nat → Int32) (nS : Nat → Nat → Int32) (fS_ : Nat → Nat → Nat → Int32) (size : Int32) (nt : Int32) (ft : Nat → Int32) (fme : Nat → Int32) (ffo : Nat → Int32) (ffd : Nat → Int32) (kn : Int32) (taken : Int32) (known : Int32) (kept : Int32) (len : Int32) (fS : Nat → Int32) (fPast : Nat → Int32) (fSnap : Nat → Int32) (fText : Nat → Int32) (hR : RelW lie seals folds n f lie2 seals2 folds2 n2 f2 lieS sealsS foldsS nS fS_ size nt ft fme ffo ffd kn taken known kept len fS fPast fSnap fText)  : AG_firstError lie seals folds n f lie2 seals2 folds2 n2 f2 lieS sealsS foldsS nS fS_ size nt ft fme ffo ffd kn taken known kept len fS fPast fSnap fText := by
  have hR' := hR
  obtain ⟨hP, hsn, hh, ⟨L, hL, eL1, eL2, hT⟩, hw⟩ := hR'
  subst eL1
  subst eL2
  obtain ⟨hc, hX⟩ := codes_ok hT
  obtain ⟨k1, k2, E, k4, k5, k6, -, -⟩ := text_ok hL hc hX
  unfold AG_firstError
  refine ⟨k1, k2, ?_, hR⟩
  unfold F_X10_firstError F_X11_firstError
  simp only [k5, k6]

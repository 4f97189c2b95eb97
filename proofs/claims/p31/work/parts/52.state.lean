theorem upd_same (f : Nat → Int32) (k : Nat) (x : Int32) : upd f k x k = x := if_pos rfl
theorem upd_ne {f : Nat → Int32} {k j : Nat} (x : Int32) (h : j ≠ k) : upd f k x j = f j := if_neg h
theorem nI_nneg {N : Nat} (h : N < 2 ^ 31) : ¬ nI N < 0 := Int32.not_lt.mpr (nI_pos' h)
theorem row_add {N : Nat} (f : Nat → Int32) (x : Int32) (h : N < 60) : P_X6_add (nI N) ∧ F_X6_add (nI N) f x = (nI (N + 1), upd f N x) := by
  have h0 : ¬ nI N < 0 := nI_nneg (by omega)
  have h1 : ¬ (60 : Int32) ≤ nI N := nI_ge (b := 60) h (by decide)
  unfold P_X6_add F_X6_add
  simp only [if_neg h0, if_neg h1, nI_1, nI_clamp (n := N) (by omega)]
  exact ⟨⟨fun _ => trivial, fun _ => ⟨fun _ => trivial, fun _ => vp_in_nI h (by decide)⟩⟩, True.intro⟩
theorem row_at {N j : Nat} (f : Nat → Int32) (hj : j < N) (hN : N ≤ 60) : P_X6_at (nI N) (nI j) ∧ F_X6_at (nI N) f (nI j) = f j := by
  have h0 : ¬ nI j < 0 := nI_nneg (by omega)
  have h1 : ¬ nI N ≤ nI j := nI_ge hj (by omega)
  have h2 : ¬ (60 : Int32) ≤ nI j := nI_ge (b := 60) (by omega) (by decide)
  unfold P_X6_at F_X6_at
  simp only [if_neg h0, if_neg h1, if_neg h2, nI_clamp (n := j) (by omega)]
  exact ⟨⟨fun _ => trivial, fun _ => ⟨fun _ => trivial, fun _ => ⟨fun _ => trivial, fun _ => vp_in_nI (by omega) (by decide)⟩⟩⟩, True.intro⟩
theorem cp_loop {N : Nat} (hN : N ≤ 60) (f2 : Nat → Int32) : ∀ (t j : Nat), j + t = N → ∀ (fuel : Nat) (g : Nat → Int32), t < fuel → (∀ i, i < j → g i = f2 i) → P_X6_copy_L6 (nI N) f2 fuel (nI j) g (nI j) ∧ (F_X6_copy_L6 (nI N) f2 fuel (nI j) g (nI j)).1 = nI N ∧ ∀ i, i < N → (F_X6_copy_L6 (nI N) f2 fuel (nI j) g (nI j)).2.1 i = f2 i := by
  intro t
  induction t with
  | zero =>
    intro j hj fuel g hf hg
    obtain ⟨f, rfl⟩ : ∃ f, fuel = f + 1 := ⟨fuel - 1, by omega⟩
    have hjN : j = N := by omega
    subst hjN
    have h1 : nI j ≤ nI j := nI_le (Nat.le_refl _) (by omega)
    rw [P_X6_copy_L6, F_X6_copy_L6, if_pos h1]
    exact ⟨⟨fun _ => trivial, fun q => absurd h1 q⟩, rfl, hg⟩
  | succ t ih =>
    intro j hj fuel g hf hg
    obtain ⟨f, rfl⟩ : ∃ f, fuel = f + 1 := ⟨fuel - 1, by omega⟩
    have h1 : ¬ nI N ≤ nI j := nI_ge (by omega) (by omega)
    have h2 : ¬ (60 : Int32) ≤ nI j := nI_ge (b := 60) (by omega) (by decide)
    have ha := row_at f2 (j := j) (N := N) (by omega) hN
    have hb := row_add g (f2 j) (N := j) (by omega)
    have K := ih (j + 1) (by omega) f (upd g j (f2 j)) (by omega) (fun i hi => by
      by_cases q : i = j
      · rw [q, upd_same]
      · rw [upd_ne _ q]; exact hg i (by omega))
    rw [P_X6_copy_L6, F_X6_copy_L6, if_neg h1, if_neg h2]
    simp only [forall_eq, ha.2, hb.2, nI_1]
    exact ⟨⟨fun _ => trivial, fun _ => ⟨fun _ => trivial, fun _ => ⟨ha.1, hb.1, K.1⟩⟩⟩, K.2⟩
theorem row_copy {N : Nat} (hN : N ≤ 60) (f f2 : Nat → Int32) : P_X6_copy f (nI N) f2 ∧ (F_X6_copy f (nI N) f2).1 = nI N ∧ ∀ i, i < N → (F_X6_copy f (nI N) f2).2 i = f2 i := by
  have K := cp_loop hN f2 N 0 (by omega) 61 f (by omega) (fun i hi => absurd hi (Nat.not_lt_zero _))
  rw [show nI 0 = 0 from rfl] at K
  unfold P_X6_copy F_X6_copy
  simp only [forall_eq]
  exact K
theorem not_full {s nn c : Int32} {N : Nat} (hr : F_X2_reasonAgainst s nn c = 0) (e : nn = nI N) (hN : N ≤ 60) : N < 60 := by
  by_cases q : N = 60
  · subst q
    rw [e] at hr
    unfold F_X2_reasonAgainst F_X6_isFull at hr
    simp only [if_neg (show ¬ nI 60 < 60 by decide), if_neg (show ¬ (1 : Int32) = 0 by decide)] at hr
    exact absurd hr (by decide)
  · omega
theorem rl_loop {L : Int32} (hL : L ∈ lies) : ∀ (t j : Nat), j + t = lenN L → ∀ (fuel : Nat) (g : Nat → Int32), t < fuel → (∀ i, i < j → g i = wordR (F_X3_reversed L) i) → P_X2_rememberLeastWord_L17 (nI (lenN L)) L fuel (nI j) g (nI j) ∧ (F_X2_rememberLeastWord_L17 (nI (lenN L)) L fuel (nI j) g (nI j)).1 = nI (lenN L) ∧ ∀ i, i < lenN L → (F_X2_rememberLeastWord_L17 (nI (lenN L)) L fuel (nI j) g (nI j)).2.1 i = wordR (F_X3_reversed L) i := by
  have h16 := (len_nI hL).2
  intro t
  induction t with
  | zero =>
    intro j hj fuel g hf hg
    obtain ⟨f, rfl⟩ : ∃ f, fuel = f + 1 := ⟨fuel - 1, by omega⟩
    have h1 : nI (lenN L) ≤ nI j := nI_le (by omega) (by omega)
    rw [P_X2_rememberLeastWord_L17, F_X2_rememberLeastWord_L17, if_pos h1]
    refine ⟨⟨fun _ => trivial, fun q => absurd h1 q⟩, ?_, fun i hi => hg i (by omega)⟩
    show nI j = nI (lenN L)
    rw [show j = lenN L by omega]
  | succ t ih =>
    intro j hj fuel g hf hg
    obtain ⟨f, rfl⟩ : ∃ f, fuel = f + 1 := ⟨fuel - 1, by omega⟩
    have h1 : ¬ nI (lenN L) ≤ nI j := nI_ge (by omega) (by omega)
    have ha := least_ok hL (M := j) (by omega)
    rw [if_pos (by omega)] at ha
    have hb := row_add g (wordR (F_X3_reversed L) j) (N := j) (by omega)
    have K := ih (j + 1) (by omega) f (upd g j (wordR (F_X3_reversed L) j)) (by omega) (fun i hi => by
      by_cases q : i = j
      · rw [q, upd_same]
      · rw [upd_ne _ q]; exact hg i (by omega))
    rw [P_X2_rememberLeastWord_L17, F_X2_rememberLeastWord_L17, if_neg h1]
    simp only [forall_eq, ha.2, hb.2, nI_1]
    exact ⟨⟨fun _ => trivial, fun _ => ⟨ha.1, hb.1, K.1⟩⟩, K.2⟩
theorem remember_ok {L : Int32} (hL : L ∈ lies) (ff : Nat → Int32) : P_X2_rememberLeastWord L ff ∧ (F_X2_rememberLeastWord L ff).1 = nI (lenN L) ∧ ∀ i, i < lenN L → (F_X2_rememberLeastWord L ff).2 i = wordR (F_X3_reversed L) i := by
  have h16 := (len_nI hL).2
  have K := rl_loop hL (lenN L) 0 (by omega) 17 ff (by omega) (fun i hi => absurd hi (Nat.not_lt_zero _))
  rw [show nI 0 = 0 from rfl] at K
  unfold P_X2_rememberLeastWord F_X2_rememberLeastWord
  simp only [forall_eq, (len_nI hL).1]
  exact K
theorem va_same {α : Type} (f : Nat → α) (k : Nat) (x : α) : va_up f k x k = x := if_pos rfl
theorem va_ne {α : Type} {f : Nat → α} {k j : Nat} (x : α) (h : j ≠ k) : va_up f k x j = f j := if_neg h
def perC : Nat → Int32 → Int32 → Bool
  | 0, _, _ => false
  | k + 1, p, L => decide (p = 1672) || perC k (F_X3_joined p L) L
theorem pf_per : allL (fun L => perC 8 L L) = true := by decide +kernel
def itJ : Nat → Int32 → Int32 → Int32
  | 0, q, _ => q
  | i + 1, q, L => itJ i (F_X3_joined q L) L
theorem per_loopC {L : Int32} (hL : L ∈ lies) : ∀ (k : Nat) (q : Int32), q ∈ lies → perC k q L = true → ∀ (m fc : Nat), k ≤ fc → m + k ≤ 9 → P_X3_period_L4 L fc q (nI m) ∧ ∃ j, j < k ∧ (F_X3_period_L4 L fc q (nI m)).2 = nI (m + j) ∧ itJ j q L = 1672 ∧ ∀ i, i < j → itJ i q L ≠ 1672 := by
  intro k
  induction k with
  | zero => intro q hq h; exact absurd h (by simp [perC])
  | succ k ih =>
    intro q hq h m fc h2 hm
    obtain ⟨fc, rfl⟩ : ∃ f, fc = f + 1 := ⟨fc - 1, by omega⟩
    rw [P_X3_period_L4, F_X3_period_L4]
    simp only [forall_eq]
    by_cases hn : q = 1672
    · refine ⟨⟨fun _ => trivial, fun _ => ⟨fun _ => trivial, fun z => absurd hn z⟩⟩, 0, by omega, ?_, hn, fun i hi => absurd hi (Nat.not_lt_zero _)⟩
      rw [if_pos hn]
      split <;> rfl
    · have hk : perC k (F_X3_joined q L) L = true := by
        rw [perC, Bool.or_eq_true, decide_eq_true_eq] at h
        exact h.resolve_left hn
      have hk0 : 0 < k := by
        rcases Nat.eq_zero_or_pos k with rfl | z
        · exact absurd hk (by simp [perC])
        · exact z
      have h8 : ¬ (8 : Int32) ≤ nI m := nI_ge (b := 8) (by omega) (by decide)
      obtain ⟨K1, j, j1, j2, j3, j4⟩ := ih (F_X3_joined q L) (lie_join hq hL).1 hk (m + 1) fc (by omega) (by omega)
      rw [if_neg h8, if_neg hn, nI_1]
      refine ⟨⟨fun _ => trivial, fun _ => ⟨fun z => absurd z hn, fun _ => K1⟩⟩, j + 1, by omega, ?_, j3, fun i hi => ?_⟩
      · rw [j2]; congr 1; omega
      · cases i with
        | zero => exact hn
        | succ i => exact j4 i (by omega)
theorem period_ok {L : Int32} (hL : L ∈ lies) : P_X3_period L ∧ ∃ j, j < 8 ∧ F_X3_period L = nI (1 + j) ∧ itJ j L L = 1672 ∧ ∀ i, i < j → itJ i L L ≠ 1672 := by
  obtain ⟨K1, j, j1, j2, j3, j4⟩ := per_loopC hL 8 L hL (allL_of pf_per hL) 1 9 (by omega) (by omega)
  rw [show nI 1 = 1 from rfl] at K1 j2
  exact ⟨K1, j, j1, j2, j3, j4⟩
/-- what is so of each letter -/
def LetI (lie seals n : Int32) (f : Nat → Int32) : Prop := ∃ N S, N ≤ 60 ∧ n = nI N ∧ (∀ j, j < N → C4 (f j)) ∧ lie = fa f N ∧ S < 16 ∧ seals = nI S ∧ ∀ p, p < 4 → S / 2 ^ p % 2 = 1 → lay lie p = nI (p + 1)
theorem LetI.lie {lie seals n : Int32} {f : Nat → Int32} (h : LetI lie seals n f) : lie ∈ lies := by
  obtain ⟨N, S, _, _, h1, h2, _⟩ := h
  rw [h2]
  exact fa_lie N h1
theorem LetI.nok {lie seals n : Int32} {f : Nat → Int32} (h : LetI lie seals n f) : ∃ N, N ≤ 60 ∧ n = nI N := by
  obtain ⟨N, S, h0, h1, _⟩ := h
  exact ⟨N, h0, h1⟩
theorem copyP {nn : Int32} {f f2 : Nat → Int32} (h : ∃ N, N ≤ 60 ∧ nn = nI N) : P_X2_copy f nn f2 := by
  obtain ⟨N, hN, rfl⟩ := h
  exact (row_copy hN f f2).1
def NOk (n : Nat → Int32) : Prop := ∀ k, k < 5 → ∃ N, N ≤ 60 ∧ n k = nI N
theorem pcopyP {f f2 : Nat → Nat → Int32} {lie2 seals2 folds2 n2 : Nat → Int32} (h : NOk n2) : P_X4_copy f lie2 seals2 folds2 n2 f2 := by
  unfold P_X4_copy
  simp only [forall_eq]
  exact ⟨copyP (h 0 (by decide)), copyP (h 1 (by decide)), copyP (h 2 (by decide)), copyP (h 3 (by decide)), copyP (h 4 (by decide))⟩
theorem pushP {K : Nat} (hK : K ≤ 6) {PS AS : Nat → Nat} {LS hS_ vS : Nat → Nat → Nat} {lieS sealsS foldsS nS : Nat → Nat → Int32} {fS_ : Nat → Nat → Nat → Int32} {lie seals folds n : Nat → Int32} {f : Nat → Nat → Int32} (h : NOk n) : P_X1_push_G PS AS LS hS_ vS lieS sealsS foldsS nS fS_ (nI K) lie seals folds n f ∧ ∃ K', K' ≤ 6 ∧ (F_X1_push_G PS AS LS hS_ vS lieS sealsS foldsS nS fS_ (nI K) lie seals folds n f).2.2.2.2.2.2.2.2.2.2 = nI K' := by
  rcases (show K = 0 ∨ K = 1 ∨ K = 2 ∨ K = 3 ∨ K = 4 ∨ K = 5 ∨ K = 6 by omega) with rfl | rfl | rfl | rfl | rfl | rfl | rfl
  · exact ⟨⟨by decide, fun _ => pcopyP h, (fun q => absurd q (by decide)), (fun q => absurd q (by decide)), (fun q => absurd q (by decide)), (fun q => absurd q (by decide)), (fun q => absurd q (by decide)), (fun q => absurd q (by decide))⟩, 1, by decide, rfl⟩
  · exact ⟨⟨by decide, (fun q => absurd q (by decide)), fun _ => pcopyP h, (fun q => absurd q (by decide)), (fun q => absurd q (by decide)), (fun q => absurd q (by decide)), (fun q => absurd q (by decide)), (fun q => absurd q (by decide))⟩, 2, by decide, rfl⟩
  · exact ⟨⟨by decide, (fun q => absurd q (by decide)), (fun q => absurd q (by decide)), fun _ => pcopyP h, (fun q => absurd q (by decide)), (fun q => absurd q (by decide)), (fun q => absurd q (by decide)), (fun q => absurd q (by decide))⟩, 3, by decide, rfl⟩
  · exact ⟨⟨by decide, (fun q => absurd q (by decide)), (fun q => absurd q (by decide)), (fun q => absurd q (by decide)), fun _ => pcopyP h, (fun q => absurd q (by decide)), (fun q => absurd q (by decide)), (fun q => absurd q (by decide))⟩, 4, by decide, rfl⟩
  · exact ⟨⟨by decide, (fun q => absurd q (by decide)), (fun q => absurd q (by decide)), (fun q => absurd q (by decide)), (fun q => absurd q (by decide)), fun _ => pcopyP h, (fun q => absurd q (by decide)), (fun q => absurd q (by decide))⟩, 5, by decide, rfl⟩
  · exact ⟨⟨by decide, (fun q => absurd q (by decide)), (fun q => absurd q (by decide)), (fun q => absurd q (by decide)), (fun q => absurd q (by decide)), (fun q => absurd q (by decide)), fun _ => pcopyP h, (fun q => absurd q (by decide))⟩, 6, by decide, rfl⟩
  · exact ⟨⟨by decide, (fun q => absurd q (by decide)), (fun q => absurd q (by decide)), (fun q => absurd q (by decide)), (fun q => absurd q (by decide)), (fun q => absurd q (by decide)), (fun q => absurd q (by decide)), fun _ => by unfold P_X1_push_6; simp only [forall_eq]; exact pcopyP h⟩, 6, by decide, rfl⟩
def liesOf (d : Nat) : Nat := [1, 4, 9, 16, 24, 32, 39, 44, 46, 44, 39, 32, 24, 16, 9, 4, 1, 0, 0, 0, 0].getD d 0
def WalkR (ffd : Nat → Int32) (kn : Int32) : Prop := (kn = 0 ∧ ∀ j, j < 21 → ffd j = 0) ∨ (kn = 384 ∧ ∀ j, j < 21 → ffd j = nI (liesOf j))
/-- what is so of the whole system, whenever the law looks -/
def Inv (st : St) : Prop := (∀ k, k < 5 → LetI (q_lie st k) (q_seals st k) (q_n st k) (q_f st k)) ∧ (∃ K, K ≤ 6 ∧ q_size st = nI K) ∧ WalkR (q_ffd st) (q_kn st)
theorem Inv.nok {st : St} (h : Inv st) : NOk (q_n st) := fun k hk => (h.1 k hk).nok
theorem Inv.lie {st : St} (h : Inv st) {k : Nat} (hk : k < 5) : q_lie st k ∈ lies := (h.1 k hk).lie
theorem s_letter_F (st : St) {k w : Nat} (hk : k < 5) (hw : w ≤ 10) : F_S_letter st (nI k) (nI w) = F_X2_number (q_lie st k) (q_seals st k) (q_folds st k) (q_n st k) (nI w) := by
  have h0 : ¬ nI w < 0 := nI_nneg (by omega)
  have h1 : nI w ≤ 10 := nI_le (b := 10) hw (by decide)
  unfold F_S_letter F_X10_letter F_X2_number_P
  simp only [if_neg h0, if_pos h1, nI_clamp (n := k) (by omega)]
theorem number_P {L : Int32} (hL : L ∈ lies) (w : Int32) : P_X2_number L w := by
  unfold P_X2_number
  simp only [(foldsBack_ok hL).1, (period_ok hL).1, implies_true, and_self]
theorem kcl {k : Nat} (hk : k < 5) : (nI k).toNatClampNeg < 5 := by rw [nI_clamp (by omega)]; exact hk
theorem s_letter_P {st : St} (h : Inv st) {k w : Nat} (hk : k < 5) (hw : w ≤ 10) : P_S_letter st (nI k) (nI w) := by
  have h1 : nI w ≤ 10 := nI_le (b := 10) hw (by decide)
  unfold P_S_letter P_X10_letter P_X2_number_P
  refine ⟨P_atB_k hk, fun q => absurd q (nI_nneg (by omega)), fun _ => ⟨fun _ => ⟨kcl hk, ?_⟩, fun q => absurd h1 q⟩⟩
  rw [nI_clamp (n := k) (by omega)]
  exact number_P (h.lie hk) _
theorem posP {p : Nat} (hp : p < 4) : P_X10_needPosition (nI p) := by
  have h1 : nI p < 4 := nI_lt (b := 4) hp (by decide)
  exact ⟨fun q => absurd q (nI_nneg (by omega)), fun _ => ⟨fun _ => trivial, fun q => absurd h1 q⟩⟩
theorem creP {c : Int32} (hc : C4 c) : P_X10_needCrease c := by
  obtain ⟨p, hp, rfl⟩ := c4_of_nI hc
  have h1 : nI p < 4 := nI_lt (b := 4) hp (by decide)
  exact ⟨fun q => absurd q (nI_nneg (by omega)), fun _ => ⟨fun _ => trivial, fun q => absurd h1 q⟩⟩
theorem placeP {j : Nat} (hj : j < 2 ^ 31) : P_X10_needPlace (nI j) := ⟨fun _ => trivial, fun q => absurd (nI_pos' hj) q⟩
theorem s_layer_F (st : St) {k p : Nat} (hk : k < 5) : F_S_layer st (nI k) (nI p) = lay (q_lie st k) p := by
  unfold F_S_layer F_X10_layer F_X2_lie_P F_X2_lie lay
  simp only [nI_clamp (n := k) (by omega)]
theorem s_layer_P {k p : Nat} (hk : k < 5) (hp : p < 4) : P_S_layer (nI k) (nI p) := ⟨P_atB_k hk, posP hp, kcl hk⟩
theorem row_out {N j : Nat} (f : Nat → Int32) (hj : N ≤ j) (hN : j < 2 ^ 31) : P_X6_at (nI N) (nI j) ∧ F_X6_at (nI N) f (nI j) = -10 := by
  have h0 : ¬ nI j < 0 := nI_nneg (by omega)
  have h1 : nI N ≤ nI j := nI_le hj (by omega)
  unfold P_X6_at F_X6_at
  simp only [if_neg h0, if_pos h1]
  exact ⟨⟨fun _ => trivial, fun _ => ⟨fun _ => trivial, fun q => absurd h1 q⟩⟩, True.intro⟩
theorem s_crease_F (st : St) {k : Nat} {j : Int32} (hk : k < 5) : F_S_crease st (nI k) j = F_X6_at (q_n st k) (q_f st k) j := by
  unfold F_S_crease F_X10_crease F_X6_at_P
  simp only [nI_clamp (n := k) (by omega)]
theorem s_crease_P {st : St} {k N j : Nat} (hk : k < 5) (e : q_n st k = nI N) (hN : N ≤ 60) (hj : j < 2 ^ 31) : P_S_crease st (nI k) (nI j) := by
  refine ⟨P_atB_k hk, placeP hj, kcl hk, kcl hk, ?_⟩
  rw [nI_clamp (n := k) (by omega), e]
  by_cases q : j < N
  · exact (row_at (fun _ => 0) q hN).1
  · exact (row_out (fun _ => 0) (by omega) hj).1
theorem s_least_F {st : St} (h : Inv st) {k j : Nat} (hk : k < 5) (hj : j < 2 ^ 31) : F_S_least st (nI k) (nI j) = if j < lenN (q_lie st k) then wordR (F_X3_reversed (q_lie st k)) j else -10 := by
  unfold F_S_least F_X10_least F_X2_lie_P F_X2_lie
  simp only [nI_clamp (n := k) (by omega)]
  exact (least_ok (h.lie hk) hj).2
theorem s_least_P {st : St} (h : Inv st) {k j : Nat} (hk : k < 5) (hj : j < 2 ^ 31) : P_S_least st (nI k) (nI j) := by
  refine ⟨P_atB_k hk, placeP hj, kcl hk, ?_⟩
  intro r6 e
  rw [e]
  unfold F_X2_lie_P F_X2_lie
  rw [nI_clamp (n := k) (by omega)]
  exact (least_ok (h.lie hk) hj).1
theorem s_why_F (st : St) {k : Nat} {c : Int32} (hk : k < 5) : F_S_why st (nI k) c = F_X2_reasonAgainst (q_seals st k) (q_n st k) c := by
  unfold F_S_why F_X10_why F_X2_reasonAgainst_P
  simp only [nI_clamp (n := k) (by omega)]
theorem s_why_P {k : Nat} {c : Int32} (hk : k < 5) (hc : C4 c) : P_S_why (nI k) c := ⟨P_atB_k hk, creP hc, kcl hk⟩
theorem s_if_F (st : St) {k : Nat} {c : Int32} (hk : k < 5) : F_S_ifFolded st (nI k) c = F_X3_length (F_X3_folded (q_lie st k) c) := by
  unfold F_S_ifFolded F_X10_ifFolded F_X2_lie_P F_X2_lie
  simp only [nI_clamp (n := k) (by omega)]
theorem s_if_P {k : Nat} {c : Int32} (hk : k < 5) (hc : C4 c) : P_S_ifFolded (nI k) c := ⟨P_atB_k hk, creP hc, kcl hk⟩
theorem s_dist_F (st : St) {a b : Nat} (ha : a < 5) (hb : b < 5) : F_S_distance st (nI a) (nI b) = F_X3_lengthBetween (q_lie st a) (q_lie st b) := by
  unfold F_S_distance F_X10_distance F_X2_lie_P F_X2_lie
  simp only [nI_clamp (n := a) (by omega), nI_clamp (n := b) (by omega)]
theorem s_dist_P (st : St) {a b : Nat} (ha : a < 5) (hb : b < 5) : P_S_distance st (nI a) (nI b) := ⟨P_atB_k ha, kcl ha, fun _ _ => ⟨P_atB_k hb, kcl hb⟩⟩
/-- what a call changes: one letter, and what is saved -/
def Put (st st' : St) (k : Nat) (l s fo nn : Int32) (ff : Nat → Int32) : Prop :=
  (q_lie st' k = l ∧ q_seals st' k = s ∧ q_folds st' k = fo ∧ q_n st' k = nn ∧ q_f st' k = ff) ∧ (∀ j, j ≠ k → q_lie st' j = q_lie st j ∧ q_seals st' j = q_seals st j ∧ q_folds st' j = q_folds st j ∧ q_n st' j = q_n st j ∧ q_f st' j = q_f st j) ∧ (∃ K, K ≤ 6 ∧ q_size st' = nI K) ∧ q_ffd st' = q_ffd st ∧ q_kn st' = q_kn st
theorem Inv.put {st st' : St} {k : Nat} {l s fo nn : Int32} {ff : Nat → Int32} (h : Inv st) (hP : Put st st' k l s fo nn ff) (hl : LetI l s nn ff) : Inv st' := by
  obtain ⟨⟨a1, a2, a3, a4, a5⟩, b, c, d, e⟩ := hP
  refine ⟨fun j hj => ?_, c, by rw [d, e]; exact h.2.2⟩
  by_cases q : j = k
  · rw [q, a1, a2, a4, a5]; exact hl
  · obtain ⟨b1, b2, b3, b4, b5⟩ := b j q
    rw [b1, b2, b4, b5]; exact h.1 j hj

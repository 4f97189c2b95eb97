theorem flat_phi {V : Nat → List Int32} : ∀ d, (flat V d).length ≤ phi V d := by
  intro d
  induction d with
  | zero => exact Nat.le_refl _
  | succ d ih =>
    rw [flat, phi, List.length_append]
    have : (V (d + 1)).length * 1 ≤ (V (d + 1)).length * 9 ^ (d + 1) := Nat.mul_le_mul_left _ (Nat.pow_pos (by decide))
    omega
theorem prev_ok {B i : Nat} {T : Nat → Int32} (hB : B ≤ 60) (hi : i < B) : P_X6_at (nI B) (nI i - 1) ∧ (F_X6_at (nI B) T (nI i - 1) = 41 ↔ wn T i = 2) := by
  cases i with
  | zero =>
    have h0 : nI 0 - 1 < 0 := by decide
    constructor
    · exact ⟨fun _ => trivial, fun q => absurd h0 q⟩
    · unfold F_X6_at
      simp only [if_pos h0]
      exact ⟨fun q => absurd q (by decide), fun q => absurd q (by show ¬ (0 : Int32) = 2; decide)⟩
  | succ i =>
    have R := row_at T (N := B) (j := i) (by omega) hB
    rw [nI_sub1]
    refine ⟨R.1, ?_⟩
    rw [R.2, wn]
    unfold wnC
    by_cases h40 : T i = 40
    · rw [if_pos h40, h40]
      exact ⟨fun q => absurd q (by decide), fun q => absurd q (by decide)⟩
    · rw [if_neg h40]
      by_cases h41 : T i = 41
      · rw [if_pos h41]
        exact ⟨fun _ => rfl, fun _ => h41⟩
      · rw [if_neg h41]
        exact ⟨fun q => absurd q h41, fun q => absurd q (by decide)⟩
theorem open_ok {d : Nat} (hd : d < 5) (N u : Int32) (hb sb : Nat → Int32) : P_X8_openBracket N hb (nI d) ∧ F_X8_openBracket N hb sb (nI d) u = (upd hb d N, upd sb d u, nI (d + 1)) := by
  have h0 : ¬ nI d < 0 := nI_nneg (by omega)
  have h1 : ¬ (5 : Int32) ≤ nI d := nI_ge (b := 5) hd (by decide)
  constructor
  · unfold P_X8_openBracket
    simp only [forall_eq]
    exact ⟨fun _ => trivial, fun _ => ⟨fun _ => trivial, fun _ => ⟨vp_in_nI hd (by decide), vp_in_nI hd (by decide)⟩⟩⟩
  · unfold F_X8_openBracket F_X6_size
    simp only [if_neg h0, if_neg h1, nI_1, ck hd]
theorem read_loop {B : Nat} {T : Nat → Int32} (hB : B ≤ 60) (hc : ∀ j, j < B → ∃ m, m < 127 ∧ T j = nI m) (hfit : ∀ j, j < B → fit T j = true) : ∀ (t i : Nat), i + t = B → ∀ (fuel : Nat) (N : Int32) (f hb sb : Nat → Int32), t < fuel → N = nI (m60 (flat (vs T i) (oN T i)).length) → (∀ j, j < m60 (flat (vs T i) (oN T i)).length → f j = nth (flat (vs T i) (oN T i)) j) → (∀ j, j < oN T i → hb j = nI (m60 (flat (vs T i) j).length) ∧ sb j = nI (flat (vs T i) j).length) →
    P_X8_read_L19 (nI B) T fuel N f hb sb (nI i) (nI (oN T i)) (nI (flat (vs T i) (oN T i)).length) ∧ (F_X8_read_L19 (nI B) T fuel N f hb sb (nI i) (nI (oN T i)) (nI (flat (vs T i) (oN T i)).length)).1 = nI (m60 (flat (vs T B) (oN T B)).length) ∧ (∀ j, j < m60 (flat (vs T B) (oN T B)).length → (F_X8_read_L19 (nI B) T fuel N f hb sb (nI i) (nI (oN T i)) (nI (flat (vs T i) (oN T i)).length)).2.1 j = nth (flat (vs T B) (oN T B)) j) ∧ (F_X8_read_L19 (nI B) T fuel N f hb sb (nI i) (nI (oN T i)) (nI (flat (vs T i) (oN T i)).length)).2.2.2.2.2.2 = nI (flat (vs T B) (oN T B)).length := by
  intro t
  induction t with
  | zero =>
    intro i hi fuel N f hb sb hf hN hfj hh
    obtain ⟨g, rfl⟩ : ∃ g, fuel = g + 1 := ⟨fuel - 1, by omega⟩
    have hiB : i = B := by omega
    subst hiB
    have h1 : nI i ≤ nI i := nI_le (Nat.le_refl _) (by omega)
    rw [P_X8_read_L19, F_X8_read_L19]
    unfold F_X6_size
    simp only [forall_eq, if_pos h1]
    exact ⟨⟨fun _ => trivial, fun q => absurd h1 q⟩, hN, hfj, True.intro⟩
  | succ t ih =>
    intro i hi fuel N f hb sb hf hN hfj hh
    obtain ⟨g, rfl⟩ : ∃ g, fuel = g + 1 := ⟨fuel - 1, by omega⟩
    have h1 : ¬ nI B ≤ nI i := nI_ge (by omega) (by omega)
    have A := row_at T (N := B) (j := i) (by omega) hB
    have PV := prev_ok (T := T) hB (i := i) (by omega)
    have PH := phi_ok hc hfit (i + 1) (by omega)
    have PH0 := phi_ok hc hfit i (by omega)
    have hlen : (flat (vs T (i + 1)) (oN T (i + 1))).length < 2 ^ 31 := by
      have := flat_phi (V := vs T (i + 1)) (oN T (i + 1))
      omega
    rw [P_X8_read_L19, F_X8_read_L19]
    unfold F_X6_size
    rcases fit_cases (hfit i (by omega)) (hc i (by omega)) with ⟨hw, ⟨F, hF1, hF2, e⟩, hd, hw'⟩ | ⟨hw, e, hd5, hd, hw'⟩ | ⟨hw, e, hd0, hd, hw'⟩ | ⟨hw, ⟨c, hc4, e⟩, hd, hw'⟩
    · have h41 := PV.2.mpr hw
      have oo := o_fig hw
      have o1 : oN T (i + 1) = dn T i := by rw [o_non (ne12 hw'), hd]
      have ev := vs_fig hw (show F < 100 by omega) e
      have fl : flat (vs T (i + 1)) (dn T i) = flat (vs T i) (dn T i) ++ rep (vs T i (dn T i + 1)) F := by rw [ev, flat_eq]
      rw [o1, fl] at hlen
      rw [oo] at hN hfj hh PH0 ⊢
      rw [flat] at hN hfj ⊢
      have hd5 : dn T i < 5 := by omega
      have RO := repeat_ok (N := N) (f := f) (hb := hb) (sb := sb) hF1 hF2 hd5 hlen hN hfj (hh _ (Nat.lt_succ_self _)).1 (hh _ (Nat.lt_succ_self _)).2
      have K := ih (i + 1) (by omega) g _ (F_X8_repeatLast N f hb sb (nI (dn T i + 1)) (nI (flat (vs T i) (dn T i) ++ vs T i (dn T i + 1)).length) (nI F)).2.1 hb sb (by omega) (by rw [o1, fl]) (by rw [o1, fl]; exact RO.2.2.1) (fun j hj => by
        rw [o1] at hj
        rw [ev, flat_ne j hj]
        exact hh j (by omega))
      rw [o1, fl] at K
      simp only [forall_eq, if_neg h1, A.2, h41, if_true, e, sub48, RO.2.1, RO.2.2.2.1, RO.2.2.2.2, nI_1, true_implies, not_true_eq_false, false_implies, and_true]
      exact ⟨⟨fun q => absurd q h1, fun _ => ⟨A.1, PV.1, RO.1, K.1⟩⟩, K.2⟩
    · have h41 : ¬ F_X6_at (nI B) T (nI i - 1) = 41 := fun q => hw (PV.2.mp q)
      have oo := o_non hw
      have o1 : oN T (i + 1) = dn T i + 1 := by rw [o_non (ne02 hw'), hd]
      have ev := vs_open hw e
      have fl : flat (vs T (i + 1)) (dn T i + 1) = flat (vs T i) (dn T i) := by rw [ev, flat_open]
      rw [oo] at hN hfj hh ⊢
      have OB := open_ok hd5 N (nI (flat (vs T i) (dn T i)).length) hb sb
      have K := ih (i + 1) (by omega) g N f (upd hb (dn T i) N) (upd sb (dn T i) (nI (flat (vs T i) (dn T i)).length)) (by omega) (by rw [o1, fl]; exact hN) (by rw [o1, fl]; exact hfj) (fun j hj => by
        rw [o1] at hj
        by_cases q : j = dn T i
        · rw [q, ev, flat_ne _ (Nat.lt_succ_self _), upd_same, upd_same]
          exact ⟨hN, rfl⟩
        · rw [ev, flat_ne j (by omega), upd_ne _ q, upd_ne _ q]
          exact hh j (by omega))
      rw [o1, fl] at K
      simp only [forall_eq, if_neg h1, A.2, if_neg h41, e, if_true, OB.2, nI_1, true_implies, not_true_eq_false, false_implies, and_true]
      exact ⟨⟨fun q => absurd q h1, fun _ => ⟨A.1, PV.1, ⟨fun q => absurd q h41, fun _ => OB.1⟩, K.1⟩⟩, K.2⟩
    · have h41 : ¬ F_X6_at (nI B) T (nI i - 1) = 41 := fun q => ne12 hw (PV.2.mp q)
      have oo := o_non (ne12 hw)
      have o1 : oN T (i + 1) = dn T i := by rw [o_fig hw', hd]; omega
      have ev := vs_close hw e
      rw [oo] at hN hfj hh ⊢
      have K := ih (i + 1) (by omega) g N f hb sb (by omega) (by rw [o1, ev]; exact hN) (by rw [o1, ev]; exact hfj) (fun j hj => by
        rw [o1] at hj
        rw [ev]
        exact hh j hj)
      rw [o1, ev] at K
      have n1 : ((41 : Int32) = 40) = False := eq_false (by decide)
      simp only [forall_eq, if_neg h1, A.2, if_neg h41, e, n1, if_true, if_false, nI_1, true_implies, not_true_eq_false, not_false_eq_true, false_implies, and_true, true_and, implies_true]
      exact ⟨fun _ => ⟨A.1, PV.1, fun q => absurd q h41, K.1⟩, K.2⟩
    · have h41 : ¬ F_X6_at (nI B) T (nI i - 1) = 41 := fun q => hw (PV.2.mp q)
      have oo := o_non hw
      have o1 : oN T (i + 1) = dn T i := by rw [o_non (ne12 hw'), hd]
      have ev := vs_crease hw (show c < 100 by omega) e
      have fl : flat (vs T (i + 1)) (dn T i) = flat (vs T i) (dn T i) ++ [nI c] := by rw [ev, flat_eq]
      have hl1 : (flat (vs T i) (dn T i) ++ [nI c]).length = (flat (vs T i) (dn T i)).length + 1 := by rw [List.length_append]; rfl
      rw [oo] at hN hfj hh ⊢
      have n40 := not40 (show c < 100 by omega)
      have n41 := not41 (show c < 100 by omega)
      have RA : P_X6_add N ∧ (F_X6_add N f (nI c)).1 = nI (m60 (flat (vs T i) (dn T i) ++ [nI c]).length) ∧ ∀ j, j < m60 (flat (vs T i) (dn T i) ++ [nI c]).length → (F_X6_add N f (nI c)).2 j = nth (flat (vs T i) (dn T i) ++ [nI c]) j := by
        rw [hl1]
        by_cases h60 : (flat (vs T i) (dn T i)).length < 60
        · rw [m60_lt h60] at hN hfj
          have R := row_add f (nI c) h60
          rw [hN, R.2]
          have hm : m60 ((flat (vs T i) (dn T i)).length + 1) = (flat (vs T i) (dn T i)).length + 1 := by
            unfold m60
            split
            · rfl
            · omega
          rw [hm]
          refine ⟨R.1, rfl, fun j hj => ?_⟩
          dsimp only
          by_cases q : j = (flat (vs T i) (dn T i)).length
          · rw [q, upd_same]
            have := nth_r (flat (vs T i) (dn T i)) [nI c] 0
            rw [Nat.add_zero] at this
            rw [this]
            rfl
          · rw [upd_ne _ q, nth_l _ _ _ (by omega)]
            exact hfj j (by omega)
        · rw [m60_ge (by omega)] at hN hfj
          have R := row_add60 f (nI c)
          rw [hN, R.2, m60_ge (by omega)]
          refine ⟨R.1, rfl, fun j hj => ?_⟩
          rw [nth_l _ _ _ (by omega)]
          exact hfj j hj
      have K := ih (i + 1) (by omega) g _ (F_X6_add N f (nI c)).2 hb sb (by omega) (by rw [o1, fl]) (by rw [o1, fl]; exact RA.2.2) (fun j hj => by
        rw [o1] at hj
        rw [ev, flat_ne j hj]
        exact hh j hj)
      rw [o1, fl, hl1] at K
      rw [hl1] at RA
      simp only [forall_eq, if_neg h1, A.2, if_neg h41, e, if_neg n40, if_neg n41, sub48, RA.2.1, nI_1]
      exact ⟨⟨fun q => absurd q h1, fun _ => ⟨A.1, PV.1, ⟨fun q => absurd q h41, fun _ => ⟨fun q => absurd q n40, fun _ => ⟨fun _ => trivial, fun _ => RA.1⟩⟩⟩, K.1⟩⟩, K.2⟩
theorem oN_end {B : Nat} {T : Nat → Int32} (hd : dn T B = 0) (hw : wn T B = 1) : oN T B = 0 := by rw [o_non (ne12 hw), hd]
/-- the class's unrolled word -/
theorem read_ok {B : Nat} {T : Nat → Int32} (hB : B ≤ 60) (hc : ∀ j, j < B → ∃ m, m < 127 ∧ T j = nI m) (h : CW B T) (f hb sb : Nat → Int32) : P_X8_read f hb sb (nI B) T ∧ (F_X8_read f hb sb (nI B) T).1 = nI (m60 (vs T B 0).length) ∧ (∀ j, j < m60 (vs T B 0).length → (F_X8_read f hb sb (nI B) T).2.1 j = nth (vs T B 0) j) ∧ (F_X8_read f hb sb (nI B) T).2.2.2.2.2 = nI (vs T B 0).length ∧ (vs T B 0).length < 2 ^ 31 := by
  obtain ⟨h0, hfit, hd, hw⟩ := h
  have K := read_loop hB hc hfit B 0 (by omega) 62 0 f hb sb (by omega) rfl (fun j hj => absurd hj (Nat.not_lt_zero _)) (fun j hj => absurd hj (Nat.not_lt_zero _))
  have PH := phi_ok hc hfit B (Nat.le_refl _)
  have e0 := oN_end hd hw
  rw [e0] at K PH
  rw [show nI (oN T 0) = 0 from rfl, show nI (flat (vs T 0) (oN T 0)).length = 0 from rfl, show nI 0 = 0 from rfl, show flat (vs T B) 0 = vs T B 0 from rfl] at K
  rw [show phi (vs T B) 0 = (vs T B 0).length from rfl] at PH
  unfold P_X8_read F_X8_read F_X6_clear
  simp only [forall_eq]
  exact ⟨K.1, K.2.1, K.2.2.1, K.2.2.2, by omega⟩
def k1 (n : Nat) : Nat := if n < 1000 then n else 1000
theorem k1_le (n : Nat) : k1 n ≤ 1000 := by unfold k1; split <;> omega
theorem cap_ok {m : Nat} (hm : m < 2 ^ 31) : (if nI m ≤ 1000 then nI m else 1000) = nI (k1 m) := by
  unfold k1
  by_cases h : m < 1000
  · rw [if_pos h, if_pos (show nI m ≤ 1000 from nI_le (b := 1000) (by omega) (by decide))]
  · rw [if_neg h]
    by_cases h2 : m = 1000
    · subst h2; decide
    · rw [if_neg (show ¬ nI m ≤ 1000 from nI_ge (a := 1000) (by omega) hm)]
      rfl
theorem k1_succ (n : Nat) : k1 (k1 n + 1) = k1 (n + 1) := by
  unfold k1
  by_cases h : n < 1000
  · rw [if_pos h]
  · rw [if_neg h, if_neg (by omega), if_neg (by omega)]
theorem k1_mul (a b F : Nat) (hF : 1 ≤ F) : k1 (k1 a + k1 b * F) = k1 (a + F * b) := by
  have hb : b ≤ F * b := Nat.le_mul_of_pos_left b hF
  unfold k1
  by_cases h2 : b < 1000
  · rw [if_pos h2, Nat.mul_comm F b] at *
    by_cases h : a < 1000
    · rw [if_pos h]
    · rw [if_neg h, if_neg (by omega), if_neg (by omega)]
  · rw [if_neg h2, if_neg (by split <;> omega), if_neg (by omega)]
theorem cr_loop {B : Nat} {T X : Nat → Int32} (hB : B ≤ 60) (hc : ∀ j, j < B → ∃ m, m < 127 ∧ T j = nI m) (hX : ∀ j, j < B → X j = T j) (hfit : ∀ j, j < B → fit T j = true) (hdB : dn T B = 0) (hwB : wn T B = 1) : ∀ (q t i : Nat), t ≤ q → i + t = B → wn T i ≠ 2 → ∀ (fuel : Nat) (g : Nat → Int32), t < fuel → (∀ j, j ≤ dn T i → g j = nI (k1 (vs T i j).length)) → P_X11_creases_L32 (nI B) X fuel g (nI (dn T i)) (nI i) ∧ (F_X11_creases_L32 (nI B) X fuel g (nI (dn T i)) (nI i)).1 0 = nI (k1 (vs T B 0).length) := by
  intro q
  induction q with
  | zero =>
    intro t i ht hi hwi fuel g hf hg
    obtain ⟨f, rfl⟩ : ∃ f, fuel = f + 1 := ⟨fuel - 1, by omega⟩
    have hiB : i = B := by omega
    subst hiB
    have h1 : nI i ≤ nI i := nI_le (Nat.le_refl _) (by omega)
    rw [P_X11_creases_L32, F_X11_creases_L32, if_pos h1]
    exact ⟨⟨fun _ => trivial, fun q => absurd h1 q⟩, hg 0 (Nat.zero_le _)⟩
  | succ q ih =>
    intro t i ht hi hwi fuel g hf hg
    obtain ⟨f, rfl⟩ : ∃ f, fuel = f + 1 := ⟨fuel - 1, by omega⟩
    rcases Nat.eq_zero_or_pos t with z | z
    · have hiB : i = B := by omega
      subst hiB
      have h1 : nI i ≤ nI i := nI_le (Nat.le_refl _) (by omega)
      rw [P_X11_creases_L32, F_X11_creases_L32, if_pos h1]
      exact ⟨⟨fun _ => trivial, fun q => absurd h1 q⟩, hg 0 (Nat.zero_le _)⟩
    · have h1 : ¬ nI B ≤ nI i := nI_ge (by omega) (by omega)
      have S := sign_in X hB (j := i) (by omega)
      rw [hX i (by omega)] at S
      have PH := phi_ok hc hfit i (by omega)
      rw [o_non hwi] at PH
      rw [P_X11_creases_L32, F_X11_creases_L32]
      rcases fit_cases (hfit i (by omega)) (hc i (by omega)) with ⟨hw, -, -, -⟩ | ⟨hw, e, hd5, hd, hw'⟩ | ⟨hw, e, hd0, hd, hw'⟩ | ⟨hw, ⟨c, hc4, e⟩, hd, hw'⟩
      · exact absurd hw hwi
      · have ev := vs_open hw e
        have K := ih (t - 1) (i + 1) (by omega) (by omega) (ne02 hw') f (upd (upd g (dn T i + 1) 0) (dn T i + 1) 0) (by omega) (fun j hj => by
          rw [hd] at hj
          by_cases qq : j = dn T i + 1
          · rw [qq, upd_same, ev, va_same]
            rfl
          · rw [upd_ne _ qq, upd_ne _ qq, ev, va_ne _ qq]
            exact hg j (by omega))
        rw [hd] at K
        have l0 : ((0 : Int32) ≤ 1000) = True := eq_true (by decide)
        simp only [forall_eq, if_neg h1, S.2, e, if_true, nI_1, nI_clamp (n := dn T i + 1) (by omega), upd_same, l0, true_implies, not_true_eq_false, false_implies, and_true]
        refine ⟨⟨fun q => absurd q h1, fun _ => ⟨S.1, vp_in_nI (by omega) (by decide), vp_in_nI (by omega) (by decide), vp_in_nI (by omega) (by decide), vp_in_nI (by omega) (by decide), K.1⟩⟩, K.2⟩
      · have hi1 : i + 1 < B := by
          rcases Nat.lt_or_ge (i + 1) B with y | y
          · exact y
          · have : i + 1 = B := by omega
            rw [this, hwB] at hw'
            exact absurd hw' (by decide)
        rcases fit_cases (hfit (i + 1) hi1) (hc (i + 1) hi1) with ⟨hw2, ⟨F, hF1, hF2, e2⟩, hd2, hw2'⟩ | ⟨hw2, -⟩ | ⟨hw2, -⟩ | ⟨hw2, -⟩
        · have S2 := sign_in X hB (j := i + 1) hi1
          rw [hX (i + 1) hi1, e2] at S2
          have ev := vs_close hw e
          have ev2 := vs_fig hw2 (show F < 100 by omega) e2
          rw [hd, ev, show dn T i - 1 + 1 = dn T i by omega] at ev2
          have em : nI (dn T i) + -1 = nI (dn T i - 1) := by
            rw [show nI (dn T i) = nI (dn T i - 1) + 1 by rw [nI_1]; congr 1; omega, Int32.add_assoc, show (1 : Int32) + -1 = 0 by decide, Int32.add_zero]
          have ep : nI (dn T i - 1) + 1 = nI (dn T i) := by rw [nI_1]; congr 1; omega
          have e3 : nI i + 2 = nI (i + 2) := nI_add i 2
          have g1 := hg (dn T i - 1) (by omega)
          have g2 := hg (dn T i) (Nat.le_refl _)
          have b1 := k1_le (vs T i (dn T i - 1)).length
          have b2 := k1_le (vs T i (dn T i)).length
          have b3 : k1 (vs T i (dn T i)).length * F ≤ 1000 * 9 := Nat.mul_le_mul b2 hF2
          have ex : g (dn T i - 1) + g (dn T i) * nI F = nI (k1 (vs T i (dn T i - 1)).length + k1 (vs T i (dn T i)).length * F) := by rw [g1, g2, nI_mul, nI_add]
          have cp := cap_ok (m := k1 (vs T i (dn T i - 1)).length + k1 (vs T i (dn T i)).length * F) (by omega)
          have n1 : ((41 : Int32) = 40) = False := eq_false (by decide)
          have K := ih (t - 2) (i + 2) (by omega) (by omega) (ne12 hw2') f (upd (upd g (dn T i - 1) (nI (k1 (vs T i (dn T i - 1)).length + k1 (vs T i (dn T i)).length * F))) (dn T i - 1) (nI (k1 (k1 (vs T i (dn T i - 1)).length + k1 (vs T i (dn T i)).length * F)))) (by omega) (fun j hj => by
            rw [hd2, hd] at hj
            by_cases qq : j = dn T i - 1
            · rw [qq, upd_same, ev2, va_same, List.length_append, rep_len, k1_mul _ _ _ (by omega)]
            · rw [upd_ne _ qq, upd_ne _ qq, ev2, va_ne _ qq]
              exact hg j (by omega))
          rw [hd2, hd] at K
          simp only [forall_eq, if_neg h1, S.2, e, n1, if_true, if_false, nI_1, em, ep, e3, S2.2, sub48, ex, nI_clamp (n := dn T i - 1) (by omega), nI_clamp (n := dn T i) (by omega), upd_same, cp, true_implies, not_true_eq_false, not_false_eq_true, false_implies, and_true, true_and]
          refine ⟨⟨fun q => absurd q h1, fun _ => ⟨S.1, ⟨S.1, vp_in_nI (by omega) (by decide), vp_in_nI (by omega) (by decide), S2.1, vp_in_nI (by omega) (by decide)⟩, vp_in_nI (by omega) (by decide), ⟨fun _ => vp_in_nI (by omega) (by decide), fun _ => trivial⟩, vp_in_nI (by omega) (by decide), K.1⟩⟩, K.2⟩
        · exact absurd hw' hw2
        · rw [hw2] at hw'; exact absurd hw' (by decide)
        · exact absurd hw' hw2
      · have ev := vs_crease hw (show c < 100 by omega) e
        have n40 := not40 (show c < 100 by omega)
        have n41 := not41 (show c < 100 by omega)
        have g2 := hg (dn T i) (Nat.le_refl _)
        have b2 := k1_le (vs T i (dn T i)).length
        have ex : g (dn T i) + 1 = nI (k1 (vs T i (dn T i)).length + 1) := by rw [g2, nI_1]
        have cp := cap_ok (m := k1 (vs T i (dn T i)).length + 1) (by omega)
        have K := ih (t - 1) (i + 1) (by omega) (by omega) (ne12 hw') f (upd (upd g (dn T i) (nI (k1 (vs T i (dn T i)).length + 1))) (dn T i) (nI (k1 (k1 (vs T i (dn T i)).length + 1)))) (by omega) (fun j hj => by
          rw [hd] at hj
          by_cases qq : j = dn T i
          · rw [qq, upd_same, ev, va_same, List.length_append, k1_succ]
            rfl
          · rw [upd_ne _ qq, upd_ne _ qq, ev, va_ne _ qq]
            exact hg j hj)
        rw [hd] at K
        simp only [forall_eq, if_neg h1, S.2, e, if_neg n40, if_neg n41, nI_clamp (n := dn T i) (by omega), ex, upd_same, cp, nI_1]
        refine ⟨⟨fun q => absurd q h1, fun _ => ⟨S.1, ⟨fun q => absurd q n40, fun _ => ⟨S.1, fun q => absurd q n41, fun _ => ⟨vp_in_nI (by omega) (by decide), vp_in_nI (by omega) (by decide)⟩⟩⟩, vp_in_nI (by omega) (by decide), ⟨fun _ => vp_in_nI (by omega) (by decide), fun _ => trivial⟩, vp_in_nI (by omega) (by decide), K.1⟩⟩, K.2⟩
theorem min_ok {n : Nat} (h : n < 2 ^ 31) : F_J9_min_7cf53 (nI n) 1000 = nI (k1 n) := by
  unfold F_J9_min_7cf53 k1
  dsimp only
  by_cases h1 : n < 1000
  · rw [if_pos h1, if_neg (show ¬ (1000 : Int32) < nI n from Int32.not_lt.mpr (nI_le (b := 1000) (by omega) (by decide)))]
  · rw [if_neg h1]
    by_cases h2 : n = 1000
    · subst h2; decide
    · rw [if_pos (show (1000 : Int32) < nI n from nI_lt (a := 1000) (by omega) h)]
      rfl
theorem ag_creases (lie : Nat → Int32) (seals : Nat → Int32) (folds : Nat → Int32) (n : Nat → Int32) (f : Nat → Nat → Int32) (lie2 : Nat → Int32) (seals2 : Nat → Int32) (folds2 : Nat → Int32) (n2 : Nat → Int32) (f2 : Nat → Nat → Int32) (lieS : Nat → Nat → Int32) (sealsS : Nat → Nat → Int32) (foldsS : Nat → Nat → Int32) (nS : Nat → Nat → Int32) (fS_ : Nat → Nat → Nat → Int32) (size : Int32) (nt : Int32) (ft : Nat → Int32) (fu : Nat → Int32) (fhb : Nat → Int32) (fsb : Nat → Int32) (fme : Nat → Int32) (ffo : Nat → Int32) (ffd : Nat → Int32) (kn : Int32) (taken : Int32) (known : Int32) (kept : Int32) (len : Int32) (fS : Nat → Int32) (fPast : Nat → Int32) (fSnap : Nat → Int32) (fText : Nat → Int32) (fTimes : Nat → Int32) (hR : RelW lie seals folds n f lie2 seals2 folds2 n2 f2 lieS sealsS foldsS nS fS_ size nt ft fme ffo ffd kn taken known kept len fS fPast fSnap fText)  : AG_creases lie seals folds n f lie2 seals2 folds2 n2 f2 lieS sealsS foldsS nS fS_ size nt ft fu fhb fsb fme ffo ffd kn taken known kept len fS fPast fSnap fText fTimes := by
  have hR' := hR
  obtain ⟨hP, hsn, hh, ⟨L, hL, eL1, eL2, hT⟩, hw⟩ := hR'
  subst eL1
  subst eL2
  obtain ⟨hc, hX⟩ := codes_ok hT
  obtain ⟨w1, w2, w3⟩ := isWord_ok hL hc hX
  unfold AG_creases
  rcases w3 with ⟨cw, w4, w5⟩ | ⟨w4, w5⟩
  · left
    have RD := read_ok hL hc cw fu fhb fsb
    obtain ⟨h0, hfit, hd, hw2⟩ := cw
    have CR := cr_loop hL hc hX hfit hd hw2 L L 0 (Nat.le_refl _) (by omega) (by show (0 : Int32) ≠ 2; decide) 62 (upd fTimes 0 0) (by omega) (fun j hj => by
      have : j = 0 := by rw [show dn ft 0 = 0 from rfl] at hj; omega
      rw [this, upd_same]
      rfl)
    rw [show nI (dn ft 0) = 0 from rfl, show nI 0 = 0 from rfl] at CR
    refine ⟨?_, ?_, ?_, ?_, hR⟩
    · unfold P_X10_creases P_X10_needWord
      simp only [forall_eq, w4, i10, false_implies, not_false_eq_true, implies_true, and_true]
      exact ⟨w1, RD.1⟩
    · unfold P_X11_creases
      simp only [forall_eq, implies_true, true_implies, false_implies, and_true, true_and, not_true_eq_false, not_false_eq_true, if_true, if_false, i10, i20, i00, le00, le10, le20, thr0, thr1, thr2, w5]
      exact ⟨w2, CR.1⟩
    · unfold F_X11_creases
      simp only [forall_eq, implies_true, true_implies, false_implies, and_true, true_and, not_true_eq_false, not_false_eq_true, if_true, if_false, i10, i20, i00, le00, le10, le20, thr0, thr1, thr2, w5]
    · unfold F_X11_creases F_X10_creases F_X8_size
      simp only [forall_eq, implies_true, true_implies, false_implies, and_true, true_and, not_true_eq_false, not_false_eq_true, if_true, if_false, i10, i20, i00, le00, le10, le20, thr0, thr1, thr2, w5, RD.2.2.2.1, min_ok RD.2.2.2.2, CR.2]
  · right
    refine ⟨?_, ?_, ?_, hR⟩
    · unfold PX_X10_creases_2 PX_X10_needWord_2
      simp only [forall_eq]
      exact ⟨w1, w4⟩
    · unfold P_X11_creases
      simp only [forall_eq, implies_true, true_implies, false_implies, and_true, true_and, not_true_eq_false, not_false_eq_true, if_true, if_false, i10, i20, i00, le00, le10, le20, thr0, thr1, thr2, w5]
      exact w2
    · unfold F_X11_creases
      simp only [forall_eq, implies_true, true_implies, false_implies, and_true, true_and, not_true_eq_false, not_false_eq_true, if_true, if_false, i10, i20, i00, le00, le10, le20, thr0, thr1, thr2, w5]

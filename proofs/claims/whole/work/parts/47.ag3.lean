theorem ag_layer (lie : Nat → Int32) (seals : Nat → Int32) (folds : Nat → Int32) (n : Nat → Int32) (f : Nat → Nat → Int32) (lie2 : Nat → Int32) (seals2 : Nat → Int32) (folds2 : Nat → Int32) (n2 : Nat → Int32) (f2 : Nat → Nat → Int32) (lieS : Nat → Nat → Int32) (sealsS : Nat → Nat → Int32) (foldsS : Nat → Nat → Int32) (nS : Nat → Nat → Int32) (fS_ : Nat → Nat → Nat → Int32) (size : Int32) (nt : Int32) (ft : Nat → Int32) (fme : Nat → Int32) (ffo : Nat → Int32) (ffd : Nat → Int32) (kn : Int32) (taken : Int32) (known : Int32) (kept : Int32) (len : Int32) (fS : Nat → Int32) (fPast : Nat → Int32) (fSnap : Nat → Int32) (fText : Nat → Int32) (hR : RelW lie seals folds n f lie2 seals2 folds2 n2 f2 lieS sealsS foldsS nS fS_ size nt ft fme ffo ffd kn taken known kept len fS fPast fSnap fText) (sv1 : Int32) (sv2 : Int32) : AG_layer lie seals folds n f lie2 seals2 folds2 n2 f2 lieS sealsS foldsS nS fS_ size nt ft fme ffo ffd kn taken known kept len fS fPast fSnap fText sv1 sv2 := by
  have hR' := hR
  obtain ⟨hP, hsn, ⟨K, hK, eK1, eK2, hH⟩, ht, hw⟩ := hR'
  unfold AG_layer
  rcases letter_cases sv1 with ⟨k, hk, rfl, il, pl⟩ | ⟨il, pl⟩
  · rcases place_cases sv2 with ⟨p, hp, rfl, ip, pp⟩ | ⟨ip, pp⟩
    · have hl := hP k hk
      have xp : F_X11_its fS (nI k) (nI p) = lay (lie k) p := by rw [its_eq hk (by omega)]; exact hl.atp hp
      left
      refine ⟨⟨pl, pp, by rw [ck hk]; exact hk⟩, ?_, ?_, ?_, hR⟩
      · unfold P_X11_layer
        simp only [forall_eq, implies_true, true_implies, false_implies, and_true, true_and, not_true_eq_false, not_false_eq_true, if_true, if_false, i10, i20, i00, le00, le10, le20, thr0, thr1, thr2, il, ip]
        exact its_P hk (by omega)
      · unfold F_X11_layer
        simp only [forall_eq, implies_true, true_implies, false_implies, and_true, true_and, not_true_eq_false, not_false_eq_true, if_true, if_false, i10, i20, i00, le00, le10, le20, thr0, thr1, thr2, il, ip]
      · unfold F_X11_layer F_X10_layer F_X2_lie_P F_X2_lie
        simp only [forall_eq, implies_true, true_implies, false_implies, and_true, true_and, not_true_eq_false, not_false_eq_true, if_true, if_false, i10, i20, i00, le00, le10, le20, thr0, thr1, thr2, il, ip, xp, ck hk]
        rfl
    · right
      refine ⟨Or.inr ⟨pl, pp⟩, ?_, ?_, hR⟩
      · unfold P_X11_layer
        simp only [forall_eq, implies_true, true_implies, false_implies, and_true, true_and, not_true_eq_false, not_false_eq_true, if_true, if_false, i10, i20, i00, le00, le10, le20, thr0, thr1, thr2, il, ip]
      · unfold F_X11_layer
        simp only [forall_eq, implies_true, true_implies, false_implies, and_true, true_and, not_true_eq_false, not_false_eq_true, if_true, if_false, i10, i20, i00, le00, le10, le20, thr0, thr1, thr2, il, ip]
  · right
    refine ⟨Or.inl pl, ?_, ?_, hR⟩
    · unfold P_X11_layer
      simp only [forall_eq, implies_true, true_implies, false_implies, and_true, true_and, not_true_eq_false, not_false_eq_true, if_true, if_false, i10, i20, i00, le00, le10, le20, thr0, thr1, thr2, il]
    · unfold F_X11_layer
      simp only [forall_eq, implies_true, true_implies, false_implies, and_true, true_and, not_true_eq_false, not_false_eq_true, if_true, if_false, i10, i20, i00, le00, le10, le20, thr0, thr1, thr2, il]
theorem what_cases (x : Int32) {M : Nat} {m : Int32} (hm : m = nI M) (hM : M < 100) : (∃ w, w ≤ M ∧ x = nI w ∧ F_X11_in x 0 m = 1 ∧ ¬ x < 0 ∧ x ≤ m) ∨ (F_X11_in x 0 m = 0 ∧ (¬ x < 0 → ¬ x ≤ m)) := by
  rcases in_cases x hm hM with ⟨k, hk, e, h⟩ | ⟨h, hx⟩
  · exact Or.inl ⟨k, hk, e, h, by rw [e]; exact nI_nneg (by omega), by rw [e, hm]; exact nI_le hk (by omega)⟩
  · exact Or.inr ⟨h, fun q q2 => hx.elim q (fun z => Int32.not_lt.mpr q2 z)⟩
theorem ag_letter (lie : Nat → Int32) (seals : Nat → Int32) (folds : Nat → Int32) (n : Nat → Int32) (f : Nat → Nat → Int32) (lie2 : Nat → Int32) (seals2 : Nat → Int32) (folds2 : Nat → Int32) (n2 : Nat → Int32) (f2 : Nat → Nat → Int32) (lieS : Nat → Nat → Int32) (sealsS : Nat → Nat → Int32) (foldsS : Nat → Nat → Int32) (nS : Nat → Nat → Int32) (fS_ : Nat → Nat → Nat → Int32) (size : Int32) (nt : Int32) (ft : Nat → Int32) (fme : Nat → Int32) (ffo : Nat → Int32) (ffd : Nat → Int32) (kn : Int32) (taken : Int32) (known : Int32) (kept : Int32) (len : Int32) (fS : Nat → Int32) (fPast : Nat → Int32) (fSnap : Nat → Int32) (fText : Nat → Int32) (fOne : Nat → Int32) (fTwo : Nat → Int32) (fBoth : Nat → Int32) (hR : RelW lie seals folds n f lie2 seals2 folds2 n2 f2 lieS sealsS foldsS nS fS_ size nt ft fme ffo ffd kn taken known kept len fS fPast fSnap fText) (sv1 : Int32) (sv2 : Int32) : AG_letter lie seals folds n f lie2 seals2 folds2 n2 f2 lieS sealsS foldsS nS fS_ size nt ft fme ffo ffd kn taken known kept len fS fPast fSnap fText fOne fTwo fBoth sv1 sv2 := by
  have hR' := hR
  obtain ⟨hP, hsn, ⟨K, hK, eK1, eK2, hH⟩, ht, hw⟩ := hR'
  unfold AG_letter
  rcases letter_cases sv1 with ⟨k, hk, rfl, il, pl⟩ | ⟨il, pl⟩
  · rcases what_cases sv2 (M := 10) (m := 10) rfl (by decide) with ⟨w, hw10, rfl, iw, nw, lw⟩ | ⟨iw, nw⟩
    · have N := number_ok (g := fOne) (t := fTwo) (b := fBoth) hk (hP k hk) hw10
      left
      refine ⟨⟨pl, fun q => nw q, fun _ => ⟨fun _ => by rw [ck hk]; exact ⟨hk, N.2.1⟩, fun q => q lw⟩⟩, ?_, ?_, ?_, hR⟩
      · unfold P_X11_letter
        simp only [forall_eq, implies_true, true_implies, false_implies, and_true, true_and, not_true_eq_false, not_false_eq_true, if_true, if_false, i10, i20, i00, le00, le10, le20, thr0, thr1, thr2, il, iw]
        exact N.1
      · unfold F_X11_letter
        simp only [forall_eq, implies_true, true_implies, false_implies, and_true, true_and, not_true_eq_false, not_false_eq_true, if_true, if_false, i10, i20, i00, le00, le10, le20, thr0, thr1, thr2, il, iw]
      · unfold F_X11_letter F_X10_letter F_X2_number_P
        simp only [forall_eq, implies_true, true_implies, false_implies, and_true, true_and, not_true_eq_false, not_false_eq_true, if_true, if_false, i10, i20, i00, le00, le10, le20, thr0, thr1, thr2, il, iw, ck hk, if_neg nw, if_pos lw, N.2.2]
    · right; right
      refine ⟨⟨pl, fun _ => trivial, nw⟩, ?_, ?_, hR⟩
      · unfold P_X11_letter
        simp only [forall_eq, implies_true, true_implies, false_implies, and_true, true_and, not_true_eq_false, not_false_eq_true, if_true, if_false, i10, i20, i00, le00, le10, le20, thr0, thr1, thr2, il, iw]
      · unfold F_X11_letter
        simp only [forall_eq, implies_true, true_implies, false_implies, and_true, true_and, not_true_eq_false, not_false_eq_true, if_true, if_false, i10, i20, i00, le00, le10, le20, thr0, thr1, thr2, il, iw]
  · right; left
    refine ⟨pl, ?_, ?_, hR⟩
    · unfold P_X11_letter
      simp only [forall_eq, implies_true, true_implies, false_implies, and_true, true_and, not_true_eq_false, not_false_eq_true, if_true, if_false, i10, i20, i00, le00, le10, le20, thr0, thr1, thr2, il]
    · unfold F_X11_letter
      simp only [forall_eq, implies_true, true_implies, false_implies, and_true, true_and, not_true_eq_false, not_false_eq_true, if_true, if_false, i10, i20, i00, le00, le10, le20, thr0, thr1, thr2, il]
theorem place_nI {x : Int32} (h : ¬ x < 0) : ∃ j, j < 2 ^ 31 ∧ x = nI j := nI_of h
theorem ag_crease (lie : Nat → Int32) (seals : Nat → Int32) (folds : Nat → Int32) (n : Nat → Int32) (f : Nat → Nat → Int32) (lie2 : Nat → Int32) (seals2 : Nat → Int32) (folds2 : Nat → Int32) (n2 : Nat → Int32) (f2 : Nat → Nat → Int32) (lieS : Nat → Nat → Int32) (sealsS : Nat → Nat → Int32) (foldsS : Nat → Nat → Int32) (nS : Nat → Nat → Int32) (fS_ : Nat → Nat → Nat → Int32) (size : Int32) (nt : Int32) (ft : Nat → Int32) (fme : Nat → Int32) (ffo : Nat → Int32) (ffd : Nat → Int32) (kn : Int32) (taken : Int32) (known : Int32) (kept : Int32) (len : Int32) (fS : Nat → Int32) (fPast : Nat → Int32) (fSnap : Nat → Int32) (fText : Nat → Int32) (hR : RelW lie seals folds n f lie2 seals2 folds2 n2 f2 lieS sealsS foldsS nS fS_ size nt ft fme ffo ffd kn taken known kept len fS fPast fSnap fText) (sv1 : Int32) (sv2 : Int32) : AG_crease lie seals folds n f lie2 seals2 folds2 n2 f2 lieS sealsS foldsS nS fS_ size nt ft fme ffo ffd kn taken known kept len fS fPast fSnap fText sv1 sv2 := by
  have hR' := hR
  obtain ⟨hP, hsn, ⟨K, hK, eK1, eK2, hH⟩, ht, hw⟩ := hR'
  unfold AG_crease
  rcases letter_cases sv1 with ⟨k, hk, rfl, il, pl⟩ | ⟨il, pl⟩
  · by_cases hn : sv2 < 0
    · right
      refine ⟨Or.inr ⟨pl, Int32.not_le.mpr hn⟩, ?_, ?_, hR⟩
      · unfold P_X11_crease
        simp only [forall_eq, implies_true, true_implies, false_implies, and_true, true_and, not_true_eq_false, not_false_eq_true, if_true, if_false, i10, i20, i00, le00, le10, le20, thr0, thr1, thr2, il, hn]
      · unfold F_X11_crease
        simp only [forall_eq, implies_true, true_implies, false_implies, and_true, true_and, not_true_eq_false, not_false_eq_true, if_true, if_false, i10, i20, i00, le00, le10, le20, thr0, thr1, thr2, il, hn]
    · obtain ⟨j, hj, rfl⟩ := nI_of hn
      have hl := hP k hk
      obtain ⟨N, hN, e1, e2, h3⟩ := hl.2.2.1
      have e4 : fS (67 * k + 4) = nI N := e2
      have pn : P_X10_needPlace (nI j) := ⟨fun _ => trivial, fun q => q (nI_pos' hj)⟩
      left
      by_cases hjN : j < N
      · have R := row_at (f k) hjN hN
        rw [← e1] at R
        have nle : (nI N ≤ nI j) = False := eq_false (nI_ge hjN (by omega))
        have e7 : (7 : Int32) + nI j = nI (7 + j) := nI_add 7 j
        have x7 : F_X11_its fS (nI k) (nI (7 + j)) = f k j := by rw [its_eq hk (by omega)]; exact (h3 j hjN).1
        refine ⟨⟨pl, pn, by rw [ck hk]; exact hk, by rw [ck hk]; exact ⟨hk, R.1⟩⟩, ?_, ?_, ?_, hR⟩
        · unfold P_X11_crease
          simp only [forall_eq, implies_true, true_implies, false_implies, and_true, true_and, not_true_eq_false, not_false_eq_true, if_true, if_false, i10, i20, i00, le00, le10, le20, thr0, thr1, thr2, il, hn, its4 hk, e4, nle, e7]
          exact ⟨itsP4 hk, its_P hk (by omega)⟩
        · unfold F_X11_crease
          simp only [forall_eq, implies_true, true_implies, false_implies, and_true, true_and, not_true_eq_false, not_false_eq_true, if_true, if_false, i10, i20, i00, le00, le10, le20, thr0, thr1, thr2, il, hn]
        · unfold F_X11_crease F_X10_crease F_X6_at_P
          simp only [forall_eq, implies_true, true_implies, false_implies, and_true, true_and, not_true_eq_false, not_false_eq_true, if_true, if_false, i10, i20, i00, le00, le10, le20, thr0, thr1, thr2, il, hn, its4 hk, e4, nle, e7, x7, ck hk, R.2]
      · have le : (nI N ≤ nI j) = True := eq_true (nI_le (by omega) hj)
        have lec : n k ≤ nI j := by rw [e1]; exact nI_le (by omega) hj
        refine ⟨⟨pl, pn, by rw [ck hk]; exact hk, by rw [ck hk]; exact ⟨hk, fun _ => trivial, fun _ => ⟨fun _ => trivial, fun q => absurd lec q⟩⟩⟩, ?_, ?_, ?_, hR⟩
        · unfold P_X11_crease
          simp only [forall_eq, implies_true, true_implies, false_implies, and_true, true_and, not_true_eq_false, not_false_eq_true, if_true, if_false, i10, i20, i00, le00, le10, le20, thr0, thr1, thr2, il, hn, its4 hk, e4, le]
          exact itsP4 hk
        · unfold F_X11_crease
          simp only [forall_eq, implies_true, true_implies, false_implies, and_true, true_and, not_true_eq_false, not_false_eq_true, if_true, if_false, i10, i20, i00, le00, le10, le20, thr0, thr1, thr2, il, hn]
        · unfold F_X11_crease F_X10_crease F_X6_at_P F_X6_at
          simp only [forall_eq, implies_true, true_implies, false_implies, and_true, true_and, not_true_eq_false, not_false_eq_true, if_true, if_false, i10, i20, i00, le00, le10, le20, thr0, thr1, thr2, il, hn, its4 hk, e4, le, ck hk, e1]
  · right
    refine ⟨Or.inl pl, ?_, ?_, hR⟩
    · unfold P_X11_crease
      simp only [forall_eq, implies_true, true_implies, false_implies, and_true, true_and, not_true_eq_false, not_false_eq_true, if_true, if_false, i10, i20, i00, le00, le10, le20, thr0, thr1, thr2, il]
    · unfold F_X11_crease
      simp only [forall_eq, implies_true, true_implies, false_implies, and_true, true_and, not_true_eq_false, not_false_eq_true, if_true, if_false, i10, i20, i00, le00, le10, le20, thr0, thr1, thr2, il]
theorem ag_least (lie : Nat → Int32) (seals : Nat → Int32) (folds : Nat → Int32) (n : Nat → Int32) (f : Nat → Nat → Int32) (lie2 : Nat → Int32) (seals2 : Nat → Int32) (folds2 : Nat → Int32) (n2 : Nat → Int32) (f2 : Nat → Nat → Int32) (lieS : Nat → Nat → Int32) (sealsS : Nat → Nat → Int32) (foldsS : Nat → Nat → Int32) (nS : Nat → Nat → Int32) (fS_ : Nat → Nat → Nat → Int32) (size : Int32) (nt : Int32) (ft : Nat → Int32) (fme : Nat → Int32) (ffo : Nat → Int32) (ffd : Nat → Int32) (kn : Int32) (taken : Int32) (known : Int32) (kept : Int32) (len : Int32) (cre : Int32) (fS : Nat → Int32) (fPast : Nat → Int32) (fSnap : Nat → Int32) (fText : Nat → Int32) (fOne : Nat → Int32) (fWord : Nat → Int32) (hR : RelW lie seals folds n f lie2 seals2 folds2 n2 f2 lieS sealsS foldsS nS fS_ size nt ft fme ffo ffd kn taken known kept len fS fPast fSnap fText) (sv1 : Int32) (sv2 : Int32) : AG_least lie seals folds n f lie2 seals2 folds2 n2 f2 lieS sealsS foldsS nS fS_ size nt ft fme ffo ffd kn taken known kept len cre fS fPast fSnap fText fOne fWord sv1 sv2 := by
  have hR' := hR
  obtain ⟨hP, hsn, ⟨K, hK, eK1, eK2, hH⟩, ht, hw⟩ := hR'
  unfold AG_least
  rcases letter_cases sv1 with ⟨k, hk, rfl, il, pl⟩ | ⟨il, pl⟩
  · by_cases hn : sv2 < 0
    · right
      refine ⟨Or.inr ⟨pl, Int32.not_le.mpr hn⟩, ?_, ?_, hR⟩
      · unfold P_X11_least
        simp only [forall_eq, implies_true, true_implies, false_implies, and_true, true_and, not_true_eq_false, not_false_eq_true, if_true, if_false, i10, i20, i00, le00, le10, le20, thr0, thr1, thr2, il, hn]
      · unfold F_X11_least
        simp only [forall_eq, implies_true, true_implies, false_implies, and_true, true_and, not_true_eq_false, not_false_eq_true, if_true, if_false, i10, i20, i00, le00, le10, le20, thr0, thr1, thr2, il, hn]
    · obtain ⟨j, hj, rfl⟩ := nI_of hn
      have hl := hP k hk
      have hE := e4_takes (g := fOne) hk (fun p hp => hl.layp hp)
      have W := words_ok (w := fWord) hE hl.1
      have LE := least_ok hl.1 hj
      have h16 := (len_nI hl.1).2
      have pn : P_X10_needPlace (nI j) := ⟨fun _ => trivial, fun q => q (nI_pos' hj)⟩
      left
      refine ⟨⟨pl, pn, by rw [ck hk]; exact hk, fun r e => by rw [e, ck hk]; exact LE.1⟩, ?_⟩
      by_cases hjN : j < lenN (lie k)
      · have nle : (nI (lenN (lie k)) ≤ nI j) = False := eq_false (nI_ge hjN (by omega))
        have L2 := LE.2
        rw [if_pos hjN] at L2
        refine ⟨?_, ?_, ?_, hR⟩
        · unfold P_X11_least
          simp only [forall_eq, implies_true, true_implies, false_implies, and_true, true_and, not_true_eq_false, not_false_eq_true, if_true, if_false, i10, i20, i00, le00, le10, le20, thr0, thr1, thr2, il, hn, W.2.1, nle]
          exact ⟨p_takes hk, W.1, vp_in_nI (by omega) (by decide)⟩
        · unfold F_X11_least
          simp only [forall_eq, implies_true, true_implies, false_implies, and_true, true_and, not_true_eq_false, not_false_eq_true, if_true, if_false, i10, i20, i00, le00, le10, le20, thr0, thr1, thr2, il, hn]
        · unfold F_X11_least F_X10_least F_X2_lie_P F_X2_lie
          simp only [forall_eq, implies_true, true_implies, false_implies, and_true, true_and, not_true_eq_false, not_false_eq_true, if_true, if_false, i10, i20, i00, le00, le10, le20, thr0, thr1, thr2, il, hn, W.2.1, nle, ck hk, L2, nI_clamp hj, W.2.2 j hjN]
      · have le : (nI (lenN (lie k)) ≤ nI j) = True := eq_true (nI_le (by omega) hj)
        have L2 := LE.2
        rw [if_neg hjN] at L2
        refine ⟨?_, ?_, ?_, hR⟩
        · unfold P_X11_least
          simp only [forall_eq, implies_true, true_implies, false_implies, and_true, true_and, not_true_eq_false, not_false_eq_true, if_true, if_false, i10, i20, i00, le00, le10, le20, thr0, thr1, thr2, il, hn, W.2.1, le]
          exact ⟨p_takes hk, W.1⟩
        · unfold F_X11_least
          simp only [forall_eq, implies_true, true_implies, false_implies, and_true, true_and, not_true_eq_false, not_false_eq_true, if_true, if_false, i10, i20, i00, le00, le10, le20, thr0, thr1, thr2, il, hn]
        · unfold F_X11_least F_X10_least F_X2_lie_P F_X2_lie
          simp only [forall_eq, implies_true, true_implies, false_implies, and_true, true_and, not_true_eq_false, not_false_eq_true, if_true, if_false, i10, i20, i00, le00, le10, le20, thr0, thr1, thr2, il, hn, W.2.1, le, ck hk, L2]
  · right
    refine ⟨Or.inl pl, ?_, ?_, hR⟩
    · unfold P_X11_least
      simp only [forall_eq, implies_true, true_implies, false_implies, and_true, true_and, not_true_eq_false, not_false_eq_true, if_true, if_false, i10, i20, i00, le00, le10, le20, thr0, thr1, thr2, il]
    · unfold F_X11_least
      simp only [forall_eq, implies_true, true_implies, false_implies, and_true, true_and, not_true_eq_false, not_false_eq_true, if_true, if_false, i10, i20, i00, le00, le10, le20, thr0, thr1, thr2, il]
theorem ag_why (lie : Nat → Int32) (seals : Nat → Int32) (folds : Nat → Int32) (n : Nat → Int32) (f : Nat → Nat → Int32) (lie2 : Nat → Int32) (seals2 : Nat → Int32) (folds2 : Nat → Int32) (n2 : Nat → Int32) (f2 : Nat → Nat → Int32) (lieS : Nat → Nat → Int32) (sealsS : Nat → Nat → Int32) (foldsS : Nat → Nat → Int32) (nS : Nat → Nat → Int32) (fS_ : Nat → Nat → Nat → Int32) (size : Int32) (nt : Int32) (ft : Nat → Int32) (fme : Nat → Int32) (ffo : Nat → Int32) (ffd : Nat → Int32) (kn : Int32) (taken : Int32) (known : Int32) (kept : Int32) (len : Int32) (fS : Nat → Int32) (fPast : Nat → Int32) (fSnap : Nat → Int32) (fText : Nat → Int32) (hR : RelW lie seals folds n f lie2 seals2 folds2 n2 f2 lieS sealsS foldsS nS fS_ size nt ft fme ffo ffd kn taken known kept len fS fPast fSnap fText) (sv1 : Int32) (sv2 : Int32) : AG_why lie seals folds n f lie2 seals2 folds2 n2 f2 lieS sealsS foldsS nS fS_ size nt ft fme ffo ffd kn taken known kept len fS fPast fSnap fText sv1 sv2 := by
  have hR' := hR
  obtain ⟨hP, hsn, ⟨K, hK, eK1, eK2, hH⟩, ht, hw⟩ := hR'
  unfold AG_why
  rcases letter_cases sv1 with ⟨k, hk, rfl, il, pl⟩ | ⟨il, pl⟩
  · rcases crease_cases sv2 with ⟨c, hc, rfl, ic, pc⟩ | ⟨ic, pc⟩
    · have hr := reason_ok hk (hP k hk) (c4_nI hc)
      left
      refine ⟨⟨pl, pc, by rw [ck hk]; exact hk⟩, ?_, ?_, ?_, hR⟩
      · unfold P_X11_why
        simp only [forall_eq, implies_true, true_implies, false_implies, and_true, true_and, not_true_eq_false, not_false_eq_true, if_true, if_false, i10, i20, i00, le00, le10, le20, thr0, thr1, thr2, il, ic]
        exact hr.1
      · unfold F_X11_why
        simp only [forall_eq, implies_true, true_implies, false_implies, and_true, true_and, not_true_eq_false, not_false_eq_true, if_true, if_false, i10, i20, i00, le00, le10, le20, thr0, thr1, thr2, il, ic]
      · unfold F_X11_why F_X10_why F_X2_reasonAgainst_P
        simp only [forall_eq, implies_true, true_implies, false_implies, and_true, true_and, not_true_eq_false, not_false_eq_true, if_true, if_false, i10, i20, i00, le00, le10, le20, thr0, thr1, thr2, il, ic, ck hk, hr.2]
    · right
      refine ⟨Or.inr ⟨pl, pc⟩, ?_, ?_, hR⟩
      · unfold P_X11_why
        simp only [forall_eq, implies_true, true_implies, false_implies, and_true, true_and, not_true_eq_false, not_false_eq_true, if_true, if_false, i10, i20, i00, le00, le10, le20, thr0, thr1, thr2, il, ic]
      · unfold F_X11_why
        simp only [forall_eq, implies_true, true_implies, false_implies, and_true, true_and, not_true_eq_false, not_false_eq_true, if_true, if_false, i10, i20, i00, le00, le10, le20, thr0, thr1, thr2, il, ic]
  · right
    refine ⟨Or.inl pl, ?_, ?_, hR⟩
    · unfold P_X11_why
      simp only [forall_eq, implies_true, true_implies, false_implies, and_true, true_and, not_true_eq_false, not_false_eq_true, if_true, if_false, i10, i20, i00, le00, le10, le20, thr0, thr1, thr2, il]
    · unfold F_X11_why
      simp only [forall_eq, implies_true, true_implies, false_implies, and_true, true_and, not_true_eq_false, not_false_eq_true, if_true, if_false, i10, i20, i00, le00, le10, le20, thr0, thr1, thr2, il]
theorem ag_ifFolded (lie : Nat → Int32) (seals : Nat → Int32) (folds : Nat → Int32) (n : Nat → Int32) (f : Nat → Nat → Int32) (lie2 : Nat → Int32) (seals2 : Nat → Int32) (folds2 : Nat → Int32) (n2 : Nat → Int32) (f2 : Nat → Nat → Int32) (lieS : Nat → Nat → Int32) (sealsS : Nat → Nat → Int32) (foldsS : Nat → Nat → Int32) (nS : Nat → Nat → Int32) (fS_ : Nat → Nat → Nat → Int32) (size : Int32) (nt : Int32) (ft : Nat → Int32) (fme : Nat → Int32) (ffo : Nat → Int32) (ffd : Nat → Int32) (kn : Int32) (taken : Int32) (known : Int32) (kept : Int32) (len : Int32) (fS : Nat → Int32) (fPast : Nat → Int32) (fSnap : Nat → Int32) (fText : Nat → Int32) (fOne : Nat → Int32) (hR : RelW lie seals folds n f lie2 seals2 folds2 n2 f2 lieS sealsS foldsS nS fS_ size nt ft fme ffo ffd kn taken known kept len fS fPast fSnap fText) (sv1 : Int32) (sv2 : Int32) : AG_ifFolded lie seals folds n f lie2 seals2 folds2 n2 f2 lieS sealsS foldsS nS fS_ size nt ft fme ffo ffd kn taken known kept len fS fPast fSnap fText fOne sv1 sv2 := by
  have hR' := hR
  obtain ⟨hP, hsn, ⟨K, hK, eK1, eK2, hH⟩, ht, hw⟩ := hR'
  unfold AG_ifFolded
  rcases letter_cases sv1 with ⟨k, hk, rfl, il, pl⟩ | ⟨il, pl⟩
  · rcases crease_cases sv2 with ⟨c, hc, rfl, ic, pc⟩ | ⟨ic, pc⟩
    · have hr := foldedLength_ok (g := fOne) hk (hP k hk) (c4_nI hc)
      left
      refine ⟨⟨pl, pc, by rw [ck hk]; exact hk⟩, ?_, ?_, ?_, hR⟩
      · unfold P_X11_ifFolded
        simp only [forall_eq, implies_true, true_implies, false_implies, and_true, true_and, not_true_eq_false, not_false_eq_true, if_true, if_false, i10, i20, i00, le00, le10, le20, thr0, thr1, thr2, il, ic]
        exact hr.1
      · unfold F_X11_ifFolded
        simp only [forall_eq, implies_true, true_implies, false_implies, and_true, true_and, not_true_eq_false, not_false_eq_true, if_true, if_false, i10, i20, i00, le00, le10, le20, thr0, thr1, thr2, il, ic]
      · unfold F_X11_ifFolded F_X10_ifFolded F_X2_lie_P F_X2_lie
        simp only [forall_eq, implies_true, true_implies, false_implies, and_true, true_and, not_true_eq_false, not_false_eq_true, if_true, if_false, i10, i20, i00, le00, le10, le20, thr0, thr1, thr2, il, ic, ck hk, hr.2]
    · right
      refine ⟨Or.inr ⟨pl, pc⟩, ?_, ?_, hR⟩
      · unfold P_X11_ifFolded
        simp only [forall_eq, implies_true, true_implies, false_implies, and_true, true_and, not_true_eq_false, not_false_eq_true, if_true, if_false, i10, i20, i00, le00, le10, le20, thr0, thr1, thr2, il, ic]
      · unfold F_X11_ifFolded
        simp only [forall_eq, implies_true, true_implies, false_implies, and_true, true_and, not_true_eq_false, not_false_eq_true, if_true, if_false, i10, i20, i00, le00, le10, le20, thr0, thr1, thr2, il, ic]
  · right
    refine ⟨Or.inl pl, ?_, ?_, hR⟩
    · unfold P_X11_ifFolded
      simp only [forall_eq, implies_true, true_implies, false_implies, and_true, true_and, not_true_eq_false, not_false_eq_true, if_true, if_false, i10, i20, i00, le00, le10, le20, thr0, thr1, thr2, il]
    · unfold F_X11_ifFolded
      simp only [forall_eq, implies_true, true_implies, false_implies, and_true, true_and, not_true_eq_false, not_false_eq_true, if_true, if_false, i10, i20, i00, le00, le10, le20, thr0, thr1, thr2, il]
theorem dist_ok {lie seals folds n : Nat → Int32} {f : Nat → Nat → Int32} {fS g t b : Nat → Int32} (h : PileR lie seals folds n f fS) {k j : Nat} (hk : k < 5) (hj : j < 5) : P_X11_distanceOf fS g t b (nI k) (nI j) ∧ (F_X11_distanceOf fS g t b (nI k) (nI j)).1 = F_X3_lengthBetween (lie k) (lie j) := by
  have h1 := h k hk
  have h2 := h j hj
  have ta := e4_takes (g := g) hk (fun p hp => h1.layp hp)
  have tt := e4_turns (b := b) ta h1.1
  have tb := e4_takesO (g := t) hj (fun p hp => h2.layp hp)
  have hg := e4_mult (b := (F_X11_turns (F_X11_takes fS g (nI k)) b).2) tt tb (lie_rev h1.1) h2.1
  have hL := (lie_join (lie_rev h1.1) h2.1).1
  constructor
  · unfold P_X11_distanceOf
    simp only [forall_eq]
    exact ⟨p_takes hk, p_turns ta h1.1, p_takesO hj, p_mult tb h2.1⟩
  · unfold F_X11_distanceOf F_X3_lengthBetween
    exact e4_len hg hL
theorem btw_le {u w : Int32} (hu : u ∈ lies) (hw : w ∈ lies) : ∃ d, d ≤ 16 ∧ F_X3_lengthBetween u w = nI d := by
  have h := len_nI (lie_join (lie_rev hu) hw).1
  exact ⟨_, h.2, h.1⟩
theorem ag_distance (lie : Nat → Int32) (seals : Nat → Int32) (folds : Nat → Int32) (n : Nat → Int32) (f : Nat → Nat → Int32) (lie2 : Nat → Int32) (seals2 : Nat → Int32) (folds2 : Nat → Int32) (n2 : Nat → Int32) (f2 : Nat → Nat → Int32) (lieS : Nat → Nat → Int32) (sealsS : Nat → Nat → Int32) (foldsS : Nat → Nat → Int32) (nS : Nat → Nat → Int32) (fS_ : Nat → Nat → Nat → Int32) (size : Int32) (nt : Int32) (ft : Nat → Int32) (fme : Nat → Int32) (ffo : Nat → Int32) (ffd : Nat → Int32) (kn : Int32) (taken : Int32) (known : Int32) (kept : Int32) (len : Int32) (fS : Nat → Int32) (fPast : Nat → Int32) (fSnap : Nat → Int32) (fText : Nat → Int32) (fOne : Nat → Int32) (fTwo : Nat → Int32) (fBoth : Nat → Int32) (hR : RelW lie seals folds n f lie2 seals2 folds2 n2 f2 lieS sealsS foldsS nS fS_ size nt ft fme ffo ffd kn taken known kept len fS fPast fSnap fText) (sv1 : Int32) (sv2 : Int32) : AG_distance lie seals folds n f lie2 seals2 folds2 n2 f2 lieS sealsS foldsS nS fS_ size nt ft fme ffo ffd kn taken known kept len fS fPast fSnap fText fOne fTwo fBoth sv1 sv2 := by
  have hR' := hR
  obtain ⟨hP, hsn, ⟨K, hK, eK1, eK2, hH⟩, ht, hw⟩ := hR'
  unfold AG_distance
  rcases letter_cases sv1 with ⟨k, hk, rfl, il, pl⟩ | ⟨il, pl⟩
  · rcases letter_cases sv2 with ⟨k1, hk1, rfl, il1, pl1⟩ | ⟨il1, pl1⟩
    · have hr := dist_ok (g := fOne) (t := fTwo) (b := fBoth) hP hk hk1
      left
      refine ⟨⟨pl, by rw [ck hk]; exact hk, fun r e => ⟨pl1, by rw [ck hk1]; exact hk1⟩⟩, ?_, ?_, ?_, hR⟩
      · unfold P_X11_distance
        simp only [forall_eq, implies_true, true_implies, false_implies, and_true, true_and, not_true_eq_false, not_false_eq_true, if_true, if_false, i10, i20, i00, le00, le10, le20, thr0, thr1, thr2, il, il1]
        exact hr.1
      · unfold F_X11_distance
        simp only [forall_eq, implies_true, true_implies, false_implies, and_true, true_and, not_true_eq_false, not_false_eq_true, if_true, if_false, i10, i20, i00, le00, le10, le20, thr0, thr1, thr2, il, il1]
      · unfold F_X11_distance F_X10_distance F_X2_lie_P F_X2_lie
        simp only [forall_eq, implies_true, true_implies, false_implies, and_true, true_and, not_true_eq_false, not_false_eq_true, if_true, if_false, i10, i20, i00, le00, le10, le20, thr0, thr1, thr2, il, il1, ck hk, ck hk1, hr.2]
    · right
      refine ⟨Or.inr ⟨pl, by rw [ck hk]; exact hk, fun _ _ => pl1⟩, ?_, ?_, hR⟩
      · unfold P_X11_distance
        simp only [forall_eq, implies_true, true_implies, false_implies, and_true, true_and, not_true_eq_false, not_false_eq_true, if_true, if_false, i10, i20, i00, le00, le10, le20, thr0, thr1, thr2, il, il1]
      · unfold F_X11_distance
        simp only [forall_eq, implies_true, true_implies, false_implies, and_true, true_and, not_true_eq_false, not_false_eq_true, if_true, if_false, i10, i20, i00, le00, le10, le20, thr0, thr1, thr2, il, il1]
  · right
    refine ⟨Or.inl pl, ?_, ?_, hR⟩
    · unfold P_X11_distance
      simp only [forall_eq, implies_true, true_implies, false_implies, and_true, true_and, not_true_eq_false, not_false_eq_true, if_true, if_false, i10, i20, i00, le00, le10, le20, thr0, thr1, thr2, il]
    · unfold F_X11_distance
      simp only [forall_eq, implies_true, true_implies, false_implies, and_true, true_and, not_true_eq_false, not_false_eq_true, if_true, if_false, i10, i20, i00, le00, le10, le20, thr0, thr1, thr2, il]
theorem near_pure {k d0 d1 d2 d3 d4 : Nat} (hk : k < 5) (l0 : d0 ≤ 16) (l1 : d1 ≤ 16) (l2 : d2 ≤ 16) (l3 : d3 ≤ 16) (l4 : d4 ≤ 16) :
  (let x7 : Int32 := if (0 : Int32) = nI k then 99 else nI d0
   let x12 : Int32 := if 99 ≤ x7 then -10 else 0
   let x14 : Int32 := if 99 ≤ x7 then 99 else x7
   let x21 : Int32 := if (1 : Int32) = nI k then 99 else nI d1
   let x26 : Int32 := if x14 ≤ x21 then x12 else 1
   let x28 : Int32 := if x14 ≤ x21 then x14 else x21
   let x35 : Int32 := if (2 : Int32) = nI k then 99 else nI d2
   let x40 : Int32 := if x28 ≤ x35 then x26 else 2
   let x42 : Int32 := if x28 ≤ x35 then x28 else x35
   let x49 : Int32 := if (3 : Int32) = nI k then 99 else nI d3
   let x54 : Int32 := if x42 ≤ x49 then x40 else 3
   let x56 : Int32 := if x42 ≤ x49 then x42 else x49
   let x63 : Int32 := if (4 : Int32) = nI k then 99 else nI d4
   if x56 ≤ x63 then x54 else 4) =
  (let x10 : Int32 := if (0 : Int32) = nI k then 17 else (if 17 ≤ nI d0 then 17 else nI d0)
   let x11 : Int32 := if (0 : Int32) = nI k then -10 else (if 17 ≤ nI d0 then -10 else 0)
   let x17 : Int32 := if (1 : Int32) = nI k then x10 else (if x10 ≤ nI d1 then x10 else nI d1)
   let x18 : Int32 := if (1 : Int32) = nI k then x11 else (if x10 ≤ nI d1 then x11 else 1)
   let x24 : Int32 := if (2 : Int32) = nI k then x17 else (if x17 ≤ nI d2 then x17 else nI d2)
   let x25 : Int32 := if (2 : Int32) = nI k then x18 else (if x17 ≤ nI d2 then x18 else 2)
   let x31 : Int32 := if (3 : Int32) = nI k then x24 else (if x24 ≤ nI d3 then x24 else nI d3)
   let x32 : Int32 := if (3 : Int32) = nI k then x25 else (if x24 ≤ nI d3 then x25 else 3)
   if (4 : Int32) = nI k then x32 else (if x31 ≤ nI d4 then x32 else 4)) := by
  have n99 : ∀ d, d ≤ 16 → ((99 : Int32) ≤ nI d) = False := fun d hd => eq_false (nI_ge (b := 99) (by omega) (by decide))
  have n17 : ∀ d, d ≤ 16 → ((17 : Int32) ≤ nI d) = False := fun d hd => eq_false (nI_ge (b := 17) (by omega) (by decide))
  have y99 : ∀ d, d ≤ 16 → (nI d ≤ (99 : Int32)) = True := fun d hd => eq_true (nI_le (b := 99) (by omega) (by decide))
  have t99 : ((99 : Int32) ≤ 99) = True := eq_true (by decide)
  have a0 := n99 d0 l0
  have a1 := n99 d1 l1
  have b0 := n17 d0 l0
  have b1 := n17 d1 l1
  have c0 := y99 d0 l0
  have c1 := y99 d1 l1
  have c2 := y99 d2 l2
  have c3 := y99 d3 l3
  have c4 := y99 d4 l4
  rcases (show k = 0 ∨ k = 1 ∨ k = 2 ∨ k = 3 ∨ k = 4 by omega) with rfl | rfl | rfl | rfl | rfl
  · rw [show nI 0 = 0 from rfl]
    simp only [q1_0, q2_0, q3_0, q4_0, eq_self, if_true, if_false, t99, a0, a1, b0, b1, c0, c1, c2, c3, c4]
  · rw [show nI 1 = 1 from rfl]
    simp only [q0_1, q2_1, q3_1, q4_1, eq_self, if_true, if_false, t99, a0, a1, b0, b1, c0, c1, c2, c3, c4]
  · rw [show nI 2 = 2 from rfl]
    simp only [q0_2, q1_2, q3_2, q4_2, eq_self, if_true, if_false, t99, a0, a1, b0, b1, c0, c1, c2, c3, c4]
    by_cases p01 : nI d0 ≤ nI d1 <;> by_cases p03 : nI d0 ≤ nI d3 <;> by_cases p04 : nI d0 ≤ nI d4 <;> by_cases p13 : nI d1 ≤ nI d3 <;> by_cases p14 : nI d1 ≤ nI d4 <;> by_cases p34 : nI d3 ≤ nI d4 <;> simp only [p01, p03, p04, p13, p14, p34, if_true, if_false, c0, c1, c2, c3, c4]
  · rw [show nI 3 = 3 from rfl]
    simp only [q0_3, q1_3, q2_3, q4_3, eq_self, if_true, if_false, t99, a0, a1, b0, b1, c0, c1, c2, c3, c4]
    by_cases p01 : nI d0 ≤ nI d1 <;> by_cases p02 : nI d0 ≤ nI d2 <;> by_cases p04 : nI d0 ≤ nI d4 <;> by_cases p12 : nI d1 ≤ nI d2 <;> by_cases p14 : nI d1 ≤ nI d4 <;> by_cases p24 : nI d2 ≤ nI d4 <;> simp only [p01, p02, p04, p12, p14, p24, if_true, if_false, c0, c1, c2, c3, c4]
  · rw [show nI 4 = 4 from rfl]
    simp only [q0_4, q1_4, q2_4, q3_4, eq_self, if_true, if_false, t99, a0, a1, b0, b1, c0, c1, c2, c3, c4]
    by_cases p01 : nI d0 ≤ nI d1 <;> by_cases p02 : nI d0 ≤ nI d2 <;> by_cases p03 : nI d0 ≤ nI d3 <;> by_cases p12 : nI d1 ≤ nI d2 <;> by_cases p13 : nI d1 ≤ nI d3 <;> by_cases p23 : nI d2 ≤ nI d3 <;> simp only [p01, p02, p03, p12, p13, p23, if_true, if_false, c0, c1, c2, c3, c4]
theorem near_ok {lie seals folds n : Nat → Int32} {f : Nat → Nat → Int32} {fS g t b : Nat → Int32} (h : PileR lie seals folds n f fS) {k : Nat} (hk : k < 5) : P_X11_nearestTo fS g t b (nI k) ∧ (F_X11_nearestTo fS g t b (nI k)).1 = F_X10_nearest lie (nI k) := by
  have D0 := fun g t b => dist_ok (g := g) (t := t) (b := b) h hk (j := 0) (by decide)
  have D1 := fun g t b => dist_ok (g := g) (t := t) (b := b) h hk (j := 1) (by decide)
  have D2 := fun g t b => dist_ok (g := g) (t := t) (b := b) h hk (j := 2) (by decide)
  have D3 := fun g t b => dist_ok (g := g) (t := t) (b := b) h hk (j := 3) (by decide)
  have D4 := fun g t b => dist_ok (g := g) (t := t) (b := b) h hk (j := 4) (by decide)
  rw [show nI 0 = 0 from rfl] at D0
  rw [show nI 1 = 1 from rfl] at D1
  rw [show nI 2 = 2 from rfl] at D2
  rw [show nI 3 = 3 from rfl] at D3
  rw [show nI 4 = 4 from rfl] at D4
  constructor
  · unfold P_X11_nearestTo
    repeat' first | exact True.intro | exact (D0 _ _ _).1 | exact (D1 _ _ _).1 | exact (D2 _ _ _).1 | exact (D3 _ _ _).1 | exact (D4 _ _ _).1 | apply And.intro | intro _
  · unfold F_X11_nearestTo F_X10_nearest F_X2_lie_P F_X2_lie
    simp only [(D0 _ _ _).2, (D1 _ _ _).2, (D2 _ _ _).2, (D3 _ _ _).2, (D4 _ _ _).2, ck hk]
    obtain ⟨d0, l0, e0⟩ := btw_le (h k hk).1 (h 0 (by decide)).1
    obtain ⟨d1, l1, e1⟩ := btw_le (h k hk).1 (h 1 (by decide)).1
    obtain ⟨d2, l2, e2⟩ := btw_le (h k hk).1 (h 2 (by decide)).1
    obtain ⟨d3, l3, e3⟩ := btw_le (h k hk).1 (h 3 (by decide)).1
    obtain ⟨d4, l4, e4⟩ := btw_le (h k hk).1 (h 4 (by decide)).1
    simp only [e0, e1, e2, e3, e4]
    exact near_pure hk l0 l1 l2 l3 l4
theorem ag_nearest (lie : Nat → Int32) (seals : Nat → Int32) (folds : Nat → Int32) (n : Nat → Int32) (f : Nat → Nat → Int32) (lie2 : Nat → Int32) (seals2 : Nat → Int32) (folds2 : Nat → Int32) (n2 : Nat → Int32) (f2 : Nat → Nat → Int32) (lieS : Nat → Nat → Int32) (sealsS : Nat → Nat → Int32) (foldsS : Nat → Nat → Int32) (nS : Nat → Nat → Int32) (fS_ : Nat → Nat → Nat → Int32) (size : Int32) (nt : Int32) (ft : Nat → Int32) (fme : Nat → Int32) (ffo : Nat → Int32) (ffd : Nat → Int32) (kn : Int32) (taken : Int32) (known : Int32) (kept : Int32) (len : Int32) (fS : Nat → Int32) (fPast : Nat → Int32) (fSnap : Nat → Int32) (fText : Nat → Int32) (fOne : Nat → Int32) (fTwo : Nat → Int32) (fBoth : Nat → Int32) (hR : RelW lie seals folds n f lie2 seals2 folds2 n2 f2 lieS sealsS foldsS nS fS_ size nt ft fme ffo ffd kn taken known kept len fS fPast fSnap fText) (sv1 : Int32) : AG_nearest lie seals folds n f lie2 seals2 folds2 n2 f2 lieS sealsS foldsS nS fS_ size nt ft fme ffo ffd kn taken known kept len fS fPast fSnap fText fOne fTwo fBoth sv1 := by
  have hR' := hR
  obtain ⟨hP, hsn, ⟨K, hK, eK1, eK2, hH⟩, ht, hw⟩ := hR'
  unfold AG_nearest
  rcases letter_cases sv1 with ⟨k, hk, rfl, il, pl⟩ | ⟨il, pl⟩
  · have hr := near_ok (g := fOne) (t := fTwo) (b := fBoth) hP hk
    left
    refine ⟨⟨pl, by rw [ck hk]; exact hk⟩, ?_, ?_, ?_, hR⟩
    · unfold P_X11_nearest
      simp only [forall_eq, implies_true, true_implies, false_implies, and_true, true_and, not_true_eq_false, not_false_eq_true, if_true, if_false, i10, i20, i00, le00, le10, le20, thr0, thr1, thr2, il]
      exact hr.1
    · unfold F_X11_nearest
      simp only [forall_eq, implies_true, true_implies, false_implies, and_true, true_and, not_true_eq_false, not_false_eq_true, if_true, if_false, i10, i20, i00, le00, le10, le20, thr0, thr1, thr2, il]
    · unfold F_X11_nearest
      simp only [forall_eq, implies_true, true_implies, false_implies, and_true, true_and, not_true_eq_false, not_false_eq_true, if_true, if_false, i10, i20, i00, le00, le10, le20, thr0, thr1, thr2, il, hr.2]
  · right
    refine ⟨pl, ?_, ?_, hR⟩
    · unfold P_X11_nearest
      simp only [forall_eq, implies_true, true_implies, false_implies, and_true, true_and, not_true_eq_false, not_false_eq_true, if_true, if_false, i10, i20, i00, le00, le10, le20, thr0, thr1, thr2, il]
    · unfold F_X11_nearest
      simp only [forall_eq, implies_true, true_implies, false_implies, and_true, true_and, not_true_eq_false, not_false_eq_true, if_true, if_false, i10, i20, i00, le00, le10, le20, thr0, thr1, thr2, il]
theorem pf_mk2 : allL (fun L => decide (mkL (lay L 0) (lay L 1) (lay L 2) (lay L 3) = L)) = true := by decide +kernel
theorem lay_inj {u w : Int32} (hu : u ∈ lies) (hw : w ∈ lies) (h0 : lay u 0 = lay w 0) (h1 : lay u 1 = lay w 1) (h2 : lay u 2 = lay w 2) (h3 : lay u 3 = lay w 3) : u = w := by
  rw [← of_decide_eq_true (allL_of pf_mk2 hu), ← of_decide_eq_true (allL_of pf_mk2 hw), h0, h1, h2, h3]
theorem alike_ok {lie seals folds n : Nat → Int32} {f : Nat → Nat → Int32} {fS : Nat → Int32} (h : PileR lie seals folds n f fS) {k j : Nat} (hk : k < 5) (hj : j < 5) : P_X11_areAlike fS (nI k) (nI j) ∧ F_X11_areAlike fS (nI k) (nI j) = if lie j = lie k then 1 else 0 := by
  have h1 := h k hk
  have h2 := h j hj
  have p0 := h1.atp (p := 0) (by decide)
  have p1 := h1.atp (p := 1) (by decide)
  have p2 := h1.atp (p := 2) (by decide)
  have p3 := h1.atp (p := 3) (by decide)
  have r0 := h2.atp (p := 0) (by decide)
  have r1 := h2.atp (p := 1) (by decide)
  have r2 := h2.atp (p := 2) (by decide)
  have r3 := h2.atp (p := 3) (by decide)
  constructor
  · exact ⟨itsP0 hk, fun r2 _ => ⟨itsP0 hj, fun r4 _ x6 _ => ⟨⟨fun _ => trivial, fun _ => ⟨itsP1 hk, fun r9 _ => itsP1 hj⟩⟩, fun x13 _ => ⟨⟨fun _ => trivial, fun _ => ⟨itsP2 hk, fun _ _ => itsP2 hj⟩⟩, fun x20 _ => ⟨fun _ => trivial, fun _ => ⟨itsP3 hk, fun _ _ => itsP3 hj⟩⟩⟩⟩⟩⟩
  · unfold F_X11_areAlike
    simp only [its0 hk, its1 hk, its2 hk, its3 hk, its0 hj, its1 hj, its2 hj, its3 hj, p0, p1, p2, p3, r0, r1, r2, r3]
    by_cases e : lie j = lie k
    · rw [e, if_pos rfl]
      simp only [if_true, i10, if_false]
    · rw [if_neg e]
      by_cases a0 : lay (lie k) 0 = lay (lie j) 0
      · by_cases a1 : lay (lie k) 1 = lay (lie j) 1
        · by_cases a2 : lay (lie k) 2 = lay (lie j) 2
          · by_cases a3 : lay (lie k) 3 = lay (lie j) 3
            · exact absurd (lay_inj h1.1 h2.1 a0 a1 a2 a3).symm e
            · simp only [a0, a1, a2, a3, if_true, if_false, i10]
          · simp only [a0, a1, a2, if_true, if_false, i10]
        · simp only [a0, a1, if_true, if_false, i10]
      · simp only [a0, if_true, if_false]
theorem num4 (l s fo nn : Int32) : F_X2_number l s fo nn 4 = if F_X3_isMirror l = 0 then 0 else 1 := by
  unfold F_X2_number
  simp only [q4_0, q4_1, q4_2, q4_3, if_true, if_false]
theorem num10 (l s fo nn : Int32) : F_X2_number l s fo nn 10 = fo := by
  unfold F_X2_number
  simp only [q10_0, q10_1, q10_2, q10_3, q10_4, q10_5, q10_6, q10_7, q10_8, q10_9, if_true, if_false]
theorem add_cg {a b c d : Int32} (h : a = b) (h2 : c = d) : a + c = b + d := by rw [h, h2]
theorem counted_ok {lie seals folds n : Nat → Int32} {f : Nat → Nat → Int32} {fS g t b : Nat → Int32} (h : PileR lie seals folds n f fS) (size : Int32) {w : Nat} (hw : w ≤ 6) : P_X11_counted fS g t b (nI w) ∧ (F_X11_counted size fS g t b (nI w)).1 = F_X10_count lie seals folds n size (nI w) := by
  have N0 := fun g => lengthOf_ok (g := g) (k := 0) (by decide) (h 0 (by decide))
  have M0 := fun g t b => number_ok (g := g) (t := t) (b := b) (k := 0) (by decide) (h 0 (by decide)) (w := 4) (by decide)
  have F0 := (h 0 (by decide)).at5
  have G0 := (h 0 (by decide)).at6
  have U0 := its5 (fS := fS) (k := 0) (by decide)
  have V0 := its6 (fS := fS) (k := 0) (by decide)
  have u0 := itsP5 (k := 0) (by decide)
  have v0 := itsP6 (k := 0) (by decide)
  rw [show nI 0 = 0 from rfl] at N0 M0 U0 V0 u0 v0
  obtain ⟨S0, hS0, s0, -⟩ := (h 0 (by decide)).2.2.2.1
  have O0 := ones_ok hS0
  rw [← s0] at O0
  have Z0 := len0 (h 0 (by decide)).1
  have N1 := fun g => lengthOf_ok (g := g) (k := 1) (by decide) (h 1 (by decide))
  have M1 := fun g t b => number_ok (g := g) (t := t) (b := b) (k := 1) (by decide) (h 1 (by decide)) (w := 4) (by decide)
  have F1 := (h 1 (by decide)).at5
  have G1 := (h 1 (by decide)).at6
  have U1 := its5 (fS := fS) (k := 1) (by decide)
  have V1 := its6 (fS := fS) (k := 1) (by decide)
  have u1 := itsP5 (k := 1) (by decide)
  have v1 := itsP6 (k := 1) (by decide)
  rw [show nI 1 = 1 from rfl] at N1 M1 U1 V1 u1 v1
  obtain ⟨S1, hS1, s1, -⟩ := (h 1 (by decide)).2.2.2.1
  have O1 := ones_ok hS1
  rw [← s1] at O1
  have Z1 := len0 (h 1 (by decide)).1
  have N2 := fun g => lengthOf_ok (g := g) (k := 2) (by decide) (h 2 (by decide))
  have M2 := fun g t b => number_ok (g := g) (t := t) (b := b) (k := 2) (by decide) (h 2 (by decide)) (w := 4) (by decide)
  have F2 := (h 2 (by decide)).at5
  have G2 := (h 2 (by decide)).at6
  have U2 := its5 (fS := fS) (k := 2) (by decide)
  have V2 := its6 (fS := fS) (k := 2) (by decide)
  have u2 := itsP5 (k := 2) (by decide)
  have v2 := itsP6 (k := 2) (by decide)
  rw [show nI 2 = 2 from rfl] at N2 M2 U2 V2 u2 v2
  obtain ⟨S2, hS2, s2, -⟩ := (h 2 (by decide)).2.2.2.1
  have O2 := ones_ok hS2
  rw [← s2] at O2
  have Z2 := len0 (h 2 (by decide)).1
  have N3 := fun g => lengthOf_ok (g := g) (k := 3) (by decide) (h 3 (by decide))
  have M3 := fun g t b => number_ok (g := g) (t := t) (b := b) (k := 3) (by decide) (h 3 (by decide)) (w := 4) (by decide)
  have F3 := (h 3 (by decide)).at5
  have G3 := (h 3 (by decide)).at6
  have U3 := its5 (fS := fS) (k := 3) (by decide)
  have V3 := its6 (fS := fS) (k := 3) (by decide)
  have u3 := itsP5 (k := 3) (by decide)
  have v3 := itsP6 (k := 3) (by decide)
  rw [show nI 3 = 3 from rfl] at N3 M3 U3 V3 u3 v3
  obtain ⟨S3, hS3, s3, -⟩ := (h 3 (by decide)).2.2.2.1
  have O3 := ones_ok hS3
  rw [← s3] at O3
  have Z3 := len0 (h 3 (by decide)).1
  have N4 := fun g => lengthOf_ok (g := g) (k := 4) (by decide) (h 4 (by decide))
  have M4 := fun g t b => number_ok (g := g) (t := t) (b := b) (k := 4) (by decide) (h 4 (by decide)) (w := 4) (by decide)
  have F4 := (h 4 (by decide)).at5
  have G4 := (h 4 (by decide)).at6
  have U4 := its5 (fS := fS) (k := 4) (by decide)
  have V4 := its6 (fS := fS) (k := 4) (by decide)
  have u4 := itsP5 (k := 4) (by decide)
  have v4 := itsP6 (k := 4) (by decide)
  rw [show nI 4 = 4 from rfl] at N4 M4 U4 V4 u4 v4
  obtain ⟨S4, hS4, s4, -⟩ := (h 4 (by decide)).2.2.2.1
  have O4 := ones_ok hS4
  rw [← s4] at O4
  have Z4 := len0 (h 4 (by decide)).1
  have A10 := alike_ok h (k := 1) (j := 0) (by decide) (by decide)
  rw [show nI 1 = 1 from rfl, show nI 0 = 0 from rfl] at A10
  have A20 := alike_ok h (k := 2) (j := 0) (by decide) (by decide)
  rw [show nI 2 = 2 from rfl, show nI 0 = 0 from rfl] at A20
  have A21 := alike_ok h (k := 2) (j := 1) (by decide) (by decide)
  rw [show nI 2 = 2 from rfl, show nI 1 = 1 from rfl] at A21
  have A30 := alike_ok h (k := 3) (j := 0) (by decide) (by decide)
  rw [show nI 3 = 3 from rfl, show nI 0 = 0 from rfl] at A30
  have A31 := alike_ok h (k := 3) (j := 1) (by decide) (by decide)
  rw [show nI 3 = 3 from rfl, show nI 1 = 1 from rfl] at A31
  have A32 := alike_ok h (k := 3) (j := 2) (by decide) (by decide)
  rw [show nI 3 = 3 from rfl, show nI 2 = 2 from rfl] at A32
  have A40 := alike_ok h (k := 4) (j := 0) (by decide) (by decide)
  rw [show nI 4 = 4 from rfl, show nI 0 = 0 from rfl] at A40
  have A41 := alike_ok h (k := 4) (j := 1) (by decide) (by decide)
  rw [show nI 4 = 4 from rfl, show nI 1 = 1 from rfl] at A41
  have A42 := alike_ok h (k := 4) (j := 2) (by decide) (by decide)
  rw [show nI 4 = 4 from rfl, show nI 2 = 2 from rfl] at A42
  have A43 := alike_ok h (k := 4) (j := 3) (by decide) (by decide)
  rw [show nI 4 = 4 from rfl, show nI 3 = 3 from rfl] at A43
  rw [show nI 4 = 4 from rfl] at M0 M1 M2 M3
  constructor
  · unfold P_X11_counted
    simp only [eq_true (N0 _).1, eq_true (N1 _).1, eq_true (N2 _).1, eq_true (N3 _).1, eq_true (N4 _).1, eq_true (M0 _ _ _).1, eq_true (M1 _ _ _).1, eq_true (M2 _ _ _).1, eq_true (M3 _ _ _).1, eq_true (M4 _ _ _).1, eq_true u0, eq_true u1, eq_true u2, eq_true u3, eq_true u4, eq_true v0, eq_true v1, eq_true v2, eq_true v3, eq_true v4, eq_true A10.1, eq_true A20.1, eq_true A21.1, eq_true A30.1, eq_true A31.1, eq_true A32.1, eq_true A40.1, eq_true A41.1, eq_true A42.1, eq_true A43.1, implies_true, and_self]
  · rcases (show w = 0 ∨ w = 1 ∨ w = 2 ∨ w = 3 ∨ w = 4 ∨ w = 5 ∨ w = 6 by omega) with rfl | rfl | rfl | rfl | rfl | rfl | rfl
    · rw [show nI 0 = 0 from rfl]
      unfold F_X11_counted F_X10_count
      simp only [eq_self, if_true, if_false, q0_1, q0_2, q0_3, q0_4, q0_5, q0_6, F_X4_together, num10, V0, G0, V1, G1, V2, G2, V3, G3, V4, G4]
    · rw [show nI 1 = 1 from rfl]
      unfold F_X11_counted F_X10_count
      simp only [eq_self, if_true, if_false, q1_0, q1_2, q1_3, q1_4, q1_5, q1_6, F_X4_flatLetters, F_X2_lie, (N0 _).2, (N1 _).2, (N2 _).2, (N3 _).2, (N4 _).2, Z0, Z1, Z2, Z3, Z4]
      refine add_cg (add_cg (add_cg (add_cg (add_cg rfl ?_) ?_) ?_) ?_) ?_
      · by_cases z : lie 0 = 1672 <;> simp only [z, if_true, if_false]
      · by_cases z : lie 1 = 1672 <;> simp only [z, if_true, if_false]
      · by_cases z : lie 2 = 1672 <;> simp only [z, if_true, if_false]
      · by_cases z : lie 3 = 1672 <;> simp only [z, if_true, if_false]
      · by_cases z : lie 4 = 1672 <;> simp only [z, if_true, if_false]
    · rw [show nI 2 = 2 from rfl]
      unfold F_X11_counted F_X10_count
      simp only [eq_self, if_true, if_false, q2_0, q2_1, q2_3, q2_4, q2_5, q2_6, F_X4_together, (M0 _ _ _).2.2, (M1 _ _ _).2.2, (M2 _ _ _).2.2, (M3 _ _ _).2.2, (M4 _ _ _).2.2]
    · rw [show nI 3 = 3 from rfl]
      unfold F_X11_counted F_X10_count
      simp only [eq_self, if_true, if_false, q3_0, q3_1, q3_2, q3_4, q3_5, q3_6, F_X4_together, num0, (N0 _).2, (N1 _).2, (N2 _).2, (N3 _).2, (N4 _).2]
    · rw [show nI 4 = 4 from rfl]
      unfold F_X11_counted F_X10_count
      simp only [eq_self, if_true, if_false, q4_0, q4_1, q4_2, q4_3, q4_5, q4_6, F_X4_sealedPositions, U0, F0, O0, U1, F1, O1, U2, F2, O2, U3, F3, O3, U4, F4, O4]
    · rw [show nI 5 = 5 from rfl]
      unfold F_X11_counted F_X10_count
      simp only [eq_self, if_true, if_false, q5_0, q5_1, q5_2, q5_3, q5_4, q5_6, F_X4_unlikeLies, F_X4_liesAsOneBefore_0, F_X4_liesAsOneBefore_1, F_X4_liesAsOneBefore_2, F_X4_liesAsOneBefore_3, F_X4_liesAsOneBefore_4, F_X2_lie, A10.2, A20.2, A21.2, A30.2, A31.2, A32.2, A40.2, A41.2, A42.2, A43.2]
      refine add_cg (add_cg (add_cg (add_cg rfl ?_) ?_) ?_) ?_
      · by_cases e0 : lie 0 = lie 1 <;> simp only [e0, if_true, if_false, i10, i00]
      · by_cases e0 : lie 0 = lie 2 <;> by_cases e1 : lie 1 = lie 2 <;> simp only [e0, e1, if_true, if_false, i10, i00]
      · by_cases e0 : lie 0 = lie 3 <;> by_cases e1 : lie 1 = lie 3 <;> by_cases e2 : lie 2 = lie 3 <;> simp only [e0, e1, e2, if_true, if_false, i10, i00]
      · by_cases e0 : lie 0 = lie 4 <;> by_cases e1 : lie 1 = lie 4 <;> by_cases e2 : lie 2 = lie 4 <;> by_cases e3 : lie 3 = lie 4 <;> simp only [e0, e1, e2, e3, if_true, if_false, i10, i00]
    · rw [show nI 6 = 6 from rfl]
      unfold F_X11_counted F_X10_count
      simp only [eq_self, if_true, if_false, q6_0, q6_1, q6_2, q6_3, q6_4, q6_5, F_X1_size]
theorem ag_count (lie : Nat → Int32) (seals : Nat → Int32) (folds : Nat → Int32) (n : Nat → Int32) (f : Nat → Nat → Int32) (lie2 : Nat → Int32) (seals2 : Nat → Int32) (folds2 : Nat → Int32) (n2 : Nat → Int32) (f2 : Nat → Nat → Int32) (lieS : Nat → Nat → Int32) (sealsS : Nat → Nat → Int32) (foldsS : Nat → Nat → Int32) (nS : Nat → Nat → Int32) (fS_ : Nat → Nat → Nat → Int32) (size : Int32) (nt : Int32) (ft : Nat → Int32) (fme : Nat → Int32) (ffo : Nat → Int32) (ffd : Nat → Int32) (kn : Int32) (taken : Int32) (known : Int32) (kept : Int32) (len : Int32) (fS : Nat → Int32) (fPast : Nat → Int32) (fSnap : Nat → Int32) (fText : Nat → Int32) (fOne : Nat → Int32) (fTwo : Nat → Int32) (fBoth : Nat → Int32) (hR : RelW lie seals folds n f lie2 seals2 folds2 n2 f2 lieS sealsS foldsS nS fS_ size nt ft fme ffo ffd kn taken known kept len fS fPast fSnap fText) (sv1 : Int32) : AG_count lie seals folds n f lie2 seals2 folds2 n2 f2 lieS sealsS foldsS nS fS_ size nt ft fme ffo ffd kn taken known kept len fS fPast fSnap fText fOne fTwo fBoth sv1 := by
  have hR' := hR
  obtain ⟨hP, hsn, ⟨K, hK, eK1, eK2, hH⟩, ht, hw⟩ := hR'
  subst eK1
  subst eK2
  unfold AG_count
  rcases what_cases sv1 (M := 6) (m := 6) rfl (by decide) with ⟨w, hw6, rfl, iw, nw, lw⟩ | ⟨iw, nw⟩
  · have C := counted_ok (g := fOne) (t := fTwo) (b := fBoth) hP (nI K) hw6
    left
    refine ⟨?_, ?_, ?_, ?_, hR⟩
    · unfold P_X10_count
      refine ⟨fun _ => together_P hP (w := 10) (by omega), fun z0 => ⟨fun _ => trivial, fun z1 => ⟨fun _ => together_P hP (w := 4) (by omega), fun z2 => ⟨fun _ => together_P hP (w := 0) (by omega), fun z3 => ⟨fun _ => trivial, fun z4 => ⟨fun _ => trivial, fun z5 => ⟨fun _ => trivial, fun z6 => ?_⟩⟩⟩⟩⟩⟩⟩
      rcases (show w = 0 ∨ w = 1 ∨ w = 2 ∨ w = 3 ∨ w = 4 ∨ w = 5 ∨ w = 6 by omega) with rfl | rfl | rfl | rfl | rfl | rfl | rfl
      · exact z0 rfl
      · exact z1 rfl
      · exact z2 rfl
      · exact z3 rfl
      · exact z4 rfl
      · exact z5 rfl
      · exact z6 rfl
    · unfold P_X11_count
      simp only [forall_eq, implies_true, true_implies, false_implies, and_true, true_and, not_true_eq_false, not_false_eq_true, if_true, if_false, i10, i20, i00, le00, le10, le20, thr0, thr1, thr2, iw]
      exact C.1
    · unfold F_X11_count
      simp only [forall_eq, implies_true, true_implies, false_implies, and_true, true_and, not_true_eq_false, not_false_eq_true, if_true, if_false, i10, i20, i00, le00, le10, le20, thr0, thr1, thr2, iw]
    · unfold F_X11_count
      simp only [forall_eq, implies_true, true_implies, false_implies, and_true, true_and, not_true_eq_false, not_false_eq_true, if_true, if_false, i10, i20, i00, le00, le10, le20, thr0, thr1, thr2, iw, C.2]
  · right
    refine ⟨?_, ?_, ?_, hR⟩
    · have nx : ∀ j, j ≤ 6 → ¬ sv1 = nI j := fun j hj q => by
        rw [q] at nw
        exact nw (nI_nneg (by omega)) (nI_le (b := 6) hj (by decide))
      exact ⟨fun q => nx 0 (by decide) q, fun _ => ⟨fun q => nx 1 (by decide) q, fun _ => ⟨fun q => nx 2 (by decide) q, fun _ => ⟨fun q => nx 3 (by decide) q, fun _ => ⟨fun q => nx 4 (by decide) q, fun _ => ⟨fun q => nx 5 (by decide) q, fun _ => ⟨fun q => nx 6 (by decide) q, fun _ => trivial⟩⟩⟩⟩⟩⟩⟩
    · unfold P_X11_count
      simp only [forall_eq, implies_true, true_implies, false_implies, and_true, true_and, not_true_eq_false, not_false_eq_true, if_true, if_false, i10, i20, i00, le00, le10, le20, thr0, thr1, thr2, iw]
    · unfold F_X11_count
      simp only [forall_eq, implies_true, true_implies, false_implies, and_true, true_and, not_true_eq_false, not_false_eq_true, if_true, if_false, i10, i20, i00, le00, le10, le20, thr0, thr1, thr2, iw]

theorem ck {k : Nat} (h : k < 5) : (nI k).toNatClampNeg = k := nI_clamp (by omega)
theorem K6 {K : Nat} (h : K ≤ 6) : (if K = 6 then 6 else K + 1) ≤ 6 := by split <;> omega
theorem num0 (l s fo nn : Int32) : F_X2_number l s fo nn 0 = F_X3_length l := rfl
theorem num2 (l s fo nn : Int32) : F_X2_number l s fo nn 2 = nn := rfl
theorem nI_sub1 (m : Nat) : nI (m + 1) - 1 = nI m := by rw [← nI_1, Int32.add_sub_cancel]
theorem pnum0 (l : Int32) : P_X2_number l 0 := ⟨fun _ => trivial, fun q => absurd rfl q⟩
theorem pnum2 (l : Int32) : P_X2_number l 2 := ⟨fun _ => trivial, fun _ => ⟨fun q => absurd q (by decide), fun _ => ⟨fun _ => trivial, fun q => absurd rfl q⟩⟩⟩
theorem together_P {lie seals folds n : Nat → Int32} {f : Nat → Nat → Int32} {g : Nat → Int32} (h : PileR lie seals folds n f g) {w : Nat} (hw : w ≤ 10) : P_X4_together lie seals folds n (nI w) := by
  have N := fun (k : Nat) (hk : k < 5) => (number_ok (g := g) (t := g) (b := g) hk (h k hk) hw).2.1
  unfold P_X4_together
  simp only [forall_eq]
  exact ⟨N 0 (by decide), N 1 (by decide), N 2 (by decide), N 3 (by decide), N 4 (by decide)⟩
theorem lengths_ok {lie seals folds n : Nat → Int32} {f : Nat → Nat → Int32} {fS g : Nat → Int32} (h : PileR lie seals folds n f fS) : P_X11_lengths fS g ∧ (F_X11_lengths fS g).1 = F_X4_together lie seals folds n 0 := by
  have N := fun (k : Nat) (hk : k < 5) (g : Nat → Int32) => lengthOf_ok (g := g) hk (h k hk)
  have N0 := fun g => N 0 (by decide) g
  have N1 := fun g => N 1 (by decide) g
  have N2 := fun g => N 2 (by decide) g
  have N3 := fun g => N 3 (by decide) g
  have N4 := fun g => N 4 (by decide) g
  rw [show nI 0 = 0 from rfl] at N0
  rw [show nI 1 = 1 from rfl] at N1
  rw [show nI 2 = 2 from rfl] at N2
  rw [show nI 3 = 3 from rfl] at N3
  rw [show nI 4 = 4 from rfl] at N4
  constructor
  · unfold P_X11_lengths
    simp only [forall_eq]
    exact ⟨(N0 _).1, (N1 _).1, (N2 _).1, (N3 _).1, (N4 _).1⟩
  · unfold F_X11_lengths F_X4_together
    simp only [num0, (N0 _).2, (N1 _).2, (N2 _).2, (N3 _).2, (N4 _).2]
theorem ag_fold (lie : Nat → Int32) (seals : Nat → Int32) (folds : Nat → Int32) (n : Nat → Int32) (f : Nat → Nat → Int32) (lie2 : Nat → Int32) (seals2 : Nat → Int32) (folds2 : Nat → Int32) (n2 : Nat → Int32) (f2 : Nat → Nat → Int32) (PS : Nat → Nat) (AS : Nat → Nat) (LS : Nat → Nat → Nat) (hS_ : Nat → Nat → Nat) (vS : Nat → Nat → Nat) (lieS : Nat → Nat → Int32) (sealsS : Nat → Nat → Int32) (foldsS : Nat → Nat → Int32) (nS : Nat → Nat → Int32) (fS_ : Nat → Nat → Nat → Int32) (size : Int32) (nt : Int32) (ft : Nat → Int32) (fme : Nat → Int32) (ffo : Nat → Int32) (ffd : Nat → Int32) (kn : Int32) (taken : Int32) (known : Int32) (kept : Int32) (len : Int32) (fS : Nat → Int32) (fPast : Nat → Int32) (fSnap : Nat → Int32) (fText : Nat → Int32) (fOne : Nat → Int32) (hR : RelW lie seals folds n f lie2 seals2 folds2 n2 f2 lieS sealsS foldsS nS fS_ size nt ft fme ffo ffd kn taken known kept len fS fPast fSnap fText) (sv1 : Int32) (sv2 : Int32) : AG_fold lie seals folds n f lie2 seals2 folds2 n2 f2 PS AS LS hS_ vS lieS sealsS foldsS nS fS_ size nt ft fme ffo ffd kn taken known kept len fS fPast fSnap fText fOne sv1 sv2 := by
  obtain ⟨hP, hsn, ⟨K, hK, eK1, eK2, hH⟩, ht, hw⟩ := hR
  subst eK1
  subst eK2
  unfold AG_fold
  rcases letter_cases sv1 with ⟨k, hk, rfl, il, pl⟩ | ⟨il, pl⟩
  · rcases crease_cases sv2 with ⟨c, hc, rfl, ic, pc⟩ | ⟨ic, pc⟩
    · have hc4 := c4_nI hc
      have hl := hP k hk
      have hr := reason_ok hk hl hc4
      by_cases h0 : F_X2_reasonAgainst (seals k) (n k) (nI c) = 0
      · left
        have hx : F_X11_reason fS (nI k) (nI c) = 0 := by rw [hr.2]; exact h0
        have FO := folds_ok (g := fOne) hk hl hc4 h0
        have PU := push_ok hK (PS := PS) (AS := AS) (LS := LS) (hS_ := hS_) (vS := vS) hP hH
        have SV := saves_ok hK fS fPast
        have hT : PileR (F_X2_foldOver_P lie folds n f k (nI c)).1 seals (F_X2_foldOver_P lie folds n f k (nI c)).2.1 (F_X2_foldOver_P lie folds n f k (nI c)).2.2.1 (F_X2_foldOver_P lie folds n f k (nI c)).2.2.2 (F_X11_folds fS fOne (nI k) (nI c)).1 := by
          refine pile_set hP hk (fun j hj => ⟨va_ne _ hj, rfl, va_ne _ hj, va_ne _ hj, va_ne _ hj⟩) FO.2.1 ?_
          unfold F_X2_foldOver_P
          simp only [va_same]
          exact FO.2.2.2
        have LE := lengthOf_ok (g := (F_X11_folds fS fOne (nI k) (nI c)).2) hk (hT k hk)
        refine ⟨?_, ?_, ?_, ?_, ?_⟩
        · unfold P_X10_fold
          simp only [forall_eq, ck hk]
          exact ⟨pl, pc, hk, fun _ => ⟨PU.1, ⟨hk, FO.2.2.1⟩, hk, pnum0 _⟩, fun q => absurd h0 q⟩
        · unfold P_X11_fold
          simp only [forall_eq, implies_true, true_implies, false_implies, and_true, true_and, not_true_eq_false, not_false_eq_true, if_true, if_false, i10, i20, i00, le00, le10, le20, thr0, thr1, thr2, il, ic, hx]
          exact ⟨hr.1, SV.1, FO.1, LE.1⟩
        · unfold F_X11_fold
          simp only [forall_eq, implies_true, true_implies, false_implies, and_true, true_and, not_true_eq_false, not_false_eq_true, if_true, if_false, i10, i20, i00, le00, le10, le20, thr0, thr1, thr2, il, ic, hx]
        · unfold F_X11_fold F_X10_fold F_X2_reasonAgainst_P
          simp only [forall_eq, implies_true, true_implies, false_implies, and_true, true_and, not_true_eq_false, not_false_eq_true, if_true, if_false, i10, i20, i00, le00, le10, le20, thr0, thr1, thr2, il, ic, hx, ck hk, h0, LE.2]
          rfl
        · unfold F_X11_fold F_X10_fold F_X2_reasonAgainst_P
          simp only [forall_eq, implies_true, true_implies, false_implies, and_true, true_and, not_true_eq_false, not_false_eq_true, if_true, if_false, i10, i20, i00, le00, le10, le20, thr0, thr1, thr2, il, ic, hx, ck hk, h0]
          exact ⟨hT, hsn, ⟨_, K6 hK, PU.2.1, SV.2.1, PU.2.2⟩, ht, hw⟩
      · right; right
        have hx : F_X11_reason fS (nI k) (nI c) = 1 ∨ F_X11_reason fS (nI k) (nI c) = 2 := by
          rw [hr.2]; exact (reason_val _ _ _).resolve_left h0
        refine ⟨⟨pl, pc, by rw [ck hk]; exact hk, fun r e => ?_⟩, ?_, ?_, ?_⟩
        · rw [e, ck hk]; exact h0
        · unfold P_X11_fold
          rcases hx with hx | hx <;> simp only [forall_eq, implies_true, true_implies, false_implies, and_true, true_and, not_true_eq_false, not_false_eq_true, if_true, if_false, i10, i20, i00, le00, le10, le20, thr0, thr1, thr2, il, ic, hx] <;> exact hr.1
        · unfold F_X11_fold
          rcases hx with hx | hx <;> simp only [forall_eq, implies_true, true_implies, false_implies, and_true, true_and, not_true_eq_false, not_false_eq_true, if_true, if_false, i10, i20, i00, le00, le10, le20, thr0, thr1, thr2, il, ic, hx]
        · unfold F_X11_fold
          rcases hx with hx | hx <;> simp only [forall_eq, implies_true, true_implies, false_implies, and_true, true_and, not_true_eq_false, not_false_eq_true, if_true, if_false, i10, i20, i00, le00, le10, le20, thr0, thr1, thr2, il, ic, hx] <;> exact ⟨hP, hsn, ⟨K, hK, rfl, rfl, hH⟩, ht, hw⟩
    · right; left
      refine ⟨Or.inr ⟨pl, pc⟩, ?_, ?_, ?_⟩
      · unfold P_X11_fold
        simp only [forall_eq, implies_true, true_implies, false_implies, and_true, true_and, not_true_eq_false, not_false_eq_true, if_true, if_false, i10, i20, i00, le00, le10, le20, thr0, thr1, thr2, il, ic]
      · unfold F_X11_fold
        simp only [forall_eq, implies_true, true_implies, false_implies, and_true, true_and, not_true_eq_false, not_false_eq_true, if_true, if_false, i10, i20, i00, le00, le10, le20, thr0, thr1, thr2, il, ic]
      · unfold F_X11_fold
        simp only [forall_eq, implies_true, true_implies, false_implies, and_true, true_and, not_true_eq_false, not_false_eq_true, if_true, if_false, i10, i20, i00, le00, le10, le20, thr0, thr1, thr2, il, ic]
        exact ⟨hP, hsn, ⟨K, hK, rfl, rfl, hH⟩, ht, hw⟩
  · right; left
    refine ⟨Or.inl pl, ?_, ?_, ?_⟩
    · unfold P_X11_fold
      simp only [forall_eq, implies_true, true_implies, false_implies, and_true, true_and, not_true_eq_false, not_false_eq_true, if_true, if_false, i10, i20, i00, le00, le10, le20, thr0, thr1, thr2, il]
    · unfold F_X11_fold
      simp only [forall_eq, implies_true, true_implies, false_implies, and_true, true_and, not_true_eq_false, not_false_eq_true, if_true, if_false, i10, i20, i00, le00, le10, le20, thr0, thr1, thr2, il]
    · unfold F_X11_fold
      simp only [forall_eq, implies_true, true_implies, false_implies, and_true, true_and, not_true_eq_false, not_false_eq_true, if_true, if_false, i10, i20, i00, le00, le10, le20, thr0, thr1, thr2, il]
      exact ⟨hP, hsn, ⟨K, hK, rfl, rfl, hH⟩, ht, hw⟩
theorem latest_ok {N : Nat} (hN : N ≤ 60) (f : Nat → Int32) : P_X2_latestCrease (nI N) ∧ F_X2_latestCrease (nI N) f = if N = 0 then -10 else f (N - 1) := by
  rcases Nat.eq_zero_or_pos N with h0 | h0
  · subst h0
    constructor
    · unfold P_X2_latestCrease F_X6_size
      simp only [forall_eq]
      exact ⟨fun _ => trivial, fun q => absurd (by decide) q⟩
    · unfold F_X2_latestCrease F_X6_at F_X6_size
      simp only [if_pos (show nI 0 - 1 < 0 by decide), if_true]
  · obtain ⟨M, rfl⟩ : ∃ M, N = M + 1 := ⟨N - 1, by omega⟩
    have R := row_at f (N := M + 1) (j := M) (by omega) hN
    constructor
    · unfold P_X2_latestCrease F_X6_size
      simp only [forall_eq, nI_sub1]
      exact R.1
    · unfold F_X2_latestCrease F_X6_size
      simp only [nI_sub1, R.2]
      rw [if_neg (by omega)]
      rfl
theorem m1lt : ((-1 : Int32) < 0) = True := eq_true (by decide)
theorem c4_nn {c : Int32} (h : C4 c) : (c < 0) = False := by rcases h with rfl | rfl | rfl | rfl <;> exact eq_false (by decide)
theorem c4_n10 {c : Int32} (h : C4 c) : ¬ c = -10 := by rcases h with rfl | rfl | rfl | rfl <;> decide
theorem nle0 {M : Nat} (h : M < 100) : (nI (M + 1) ≤ 0) = False := eq_false (nI_ge (a := 0) (b := M + 1) (by omega) (by omega))
theorem drop_ok {M : Nat} (h : M < 100) : F_X6_dropLast (nI (M + 1)) = nI M := by
  unfold F_X6_dropLast
  simp only [nle0 h, if_false, nI_sub1]
theorem ts01 (s c : Int32) : F_X2_touchesSeal s c = 0 ∨ F_X2_touchesSeal s c = 1 := by
  unfold F_X2_touchesSeal
  dsimp only
  generalize (s &&& _) = z
  by_cases h : z = 0
  · rw [if_pos h]; exact Or.inl rfl
  · rw [if_neg h]; exact Or.inr rfl
theorem ag_unfold (lie : Nat → Int32) (seals : Nat → Int32) (folds : Nat → Int32) (n : Nat → Int32) (f : Nat → Nat → Int32) (lie2 : Nat → Int32) (seals2 : Nat → Int32) (folds2 : Nat → Int32) (n2 : Nat → Int32) (f2 : Nat → Nat → Int32) (PS : Nat → Nat) (AS : Nat → Nat) (LS : Nat → Nat → Nat) (hS_ : Nat → Nat → Nat) (vS : Nat → Nat → Nat) (lieS : Nat → Nat → Int32) (sealsS : Nat → Nat → Int32) (foldsS : Nat → Nat → Int32) (nS : Nat → Nat → Int32) (fS_ : Nat → Nat → Nat → Int32) (size : Int32) (nt : Int32) (ft : Nat → Int32) (fme : Nat → Int32) (ffo : Nat → Int32) (ffd : Nat → Int32) (kn : Int32) (taken : Int32) (known : Int32) (kept : Int32) (len : Int32) (fS : Nat → Int32) (fPast : Nat → Int32) (fSnap : Nat → Int32) (fText : Nat → Int32) (fOne : Nat → Int32) (hR : RelW lie seals folds n f lie2 seals2 folds2 n2 f2 lieS sealsS foldsS nS fS_ size nt ft fme ffo ffd kn taken known kept len fS fPast fSnap fText) (sv1 : Int32) : AG_unfold lie seals folds n f lie2 seals2 folds2 n2 f2 PS AS LS hS_ vS lieS sealsS foldsS nS fS_ size nt ft fme ffo ffd kn taken known kept len fS fPast fSnap fText fOne sv1 := by
  obtain ⟨hP, hsn, ⟨K, hK, eK1, eK2, hH⟩, ht, hw⟩ := hR
  subst eK1
  subst eK2
  unfold AG_unfold
  rcases letter_cases sv1 with ⟨k, hk, rfl, il, pl⟩ | ⟨il, pl⟩
  · have hl := hP k hk
    obtain ⟨N, hN, e1, e2, h3⟩ := hl.2.2.1
    have e2' : fS (67 * k + 4) = nI N := e2
    have LC := latest_ok hN (f k)
    rw [← e1] at LC
    rcases Nat.eq_zero_or_pos N with h0 | h0
    · subst h0
      have le0 : (nI 0 ≤ 0) = True := le00
      right; right
      refine ⟨⟨pl, ?_⟩, ?_, ?_, ?_⟩
      · rw [ck hk]
        refine ⟨⟨hk, LC.1⟩, fun r e => ⟨fun _ => trivial, fun q => absurd ?_ q⟩⟩
        rw [e]; exact LC.2
      · unfold P_X11_unfold
        simp only [forall_eq, implies_true, true_implies, false_implies, and_true, true_and, not_true_eq_false, not_false_eq_true, if_true, if_false, i10, i20, i00, le00, le10, le20, thr0, thr1, thr2, il, its4 hk, e2', le0, m1lt]
        exact itsP4 hk
      · unfold F_X11_unfold
        simp only [forall_eq, implies_true, true_implies, false_implies, and_true, true_and, not_true_eq_false, not_false_eq_true, if_true, if_false, i10, i20, i00, le00, le10, le20, thr0, thr1, thr2, il, its4 hk, e2', le0, m1lt]
      · unfold F_X11_unfold
        simp only [forall_eq, implies_true, true_implies, false_implies, and_true, true_and, not_true_eq_false, not_false_eq_true, if_true, if_false, i10, i20, i00, le00, le10, le20, thr0, thr1, thr2, il, its4 hk, e2', le0, m1lt]
        exact ⟨hP, hsn, ⟨K, hK, rfl, rfl, hH⟩, ht, hw⟩
    · obtain ⟨M, rfl⟩ : ∃ M, N = M + 1 := ⟨N - 1, by omega⟩
      have hcM := h3 M (by omega)
      have hc4 : C4 (f k M) := hcM.2
      have l1 : F_X2_latestCrease (n k) (f k) = f k M := LC.2
      have nle := nle0 (M := M) (by omega)
      have e7 : ((7 : Int32) + nI (M + 1)) - 1 = nI (7 + M) := by
        rw [show (7 : Int32) = nI 7 from rfl, nI_add, show 7 + (M + 1) = (7 + M) + 1 by omega, nI_sub1]
      have x10 : F_X11_its fS (nI k) (nI (7 + M)) = f k M := by
        rw [its_eq hk (by omega)]; exact hcM.1
      have pI := its_P hk (W := 7 + M) (by omega)
      have TS := touches_ok hk hl hc4
      by_cases hz : F_X2_touchesSeal (seals k) (f k M) = 0
      · left
        have T := turns_ok (g := fOne) hk hl hc4
        have PU := push_ok hK (PS := PS) (AS := AS) (LS := LS) (hS_ := hS_) (vS := vS) hP hH
        have SV := saves_ok hK fS fPast
        have t4 : (F_X11_turnsOver fS fOne (nI k) (f k M)).1 (67 * k + 4) = nI (M + 1) := by
          rw [T.2.2.2 _ (by intro p hp; omega) (by omega)]; exact e2'
        have hT : PileR (F_X2_takeBack_P lie folds n k (f k M)).1 seals (F_X2_takeBack_P lie folds n k (f k M)).2.1 (F_X2_takeBack_P lie folds n k (f k M)).2.2 f (upd (F_X11_turnsOver fS fOne (nI k) (f k M)).1 (67 * k + 4) (nI M)) := by
          refine pile_set hP hk (fun j hj => ⟨va_ne _ hj, rfl, va_ne _ hj, va_ne _ hj, rfl⟩) (fun i hi => by rw [upd_ne _ (by omega), T.2.2.2 i (by intro p hp; omega) (by omega)]) ?_
          unfold F_X2_takeBack_P F_X2_takeBack
          simp only [va_same, e1, drop_ok (M := M) (by omega)]
          refine ⟨lie_fold hl.1 hc4, fun p hp => ?_, ⟨M, by omega, rfl, upd_same _ _ _, fun j hj => ?_⟩, ?_, ?_⟩
          · dsimp only
            rw [upd_ne _ (by omega)]; exact T.2.1 p hp
          · dsimp only
            rw [upd_ne _ (by omega), T.2.2.2 _ (by intro p hp; omega) (by omega)]
            exact h3 j (by omega)
          · obtain ⟨S, hS, e3, e4⟩ := hl.2.2.2.1
            refine ⟨S, hS, e3, ?_⟩
            dsimp only
            rw [upd_ne _ (by omega), T.2.2.2 _ (by intro p hp; omega) (by omega)]
            exact e4
          · dsimp only
            rw [upd_ne _ (by omega)]; exact T.2.2.1
        have hx : F_X11_touches fS (nI k) (f k M) = 0 := by rw [TS.2]; exact hz
        refine ⟨?_, ?_, ?_, ?_, ?_⟩
        · unfold P_X10_unfold F_X2_latestCrease_P
          simp only [forall_eq, ck hk, l1]
          exact ⟨pl, ⟨hk, LC.1⟩, fun q => c4_n10 hc4 q, fun _ => ⟨hk, fun _ => ⟨PU.1, hk⟩, fun q => absurd hz q⟩⟩
        · unfold P_X11_unfold
          simp only [forall_eq, implies_true, true_implies, false_implies, and_true, true_and, not_true_eq_false, not_false_eq_true, if_true, if_false, i10, i20, i00, le00, le10, le20, thr0, thr1, thr2, il, its4 hk, e2', nle, e7, x10, c4_nn hc4, hx, cl4 hk, t4]
          exact ⟨⟨itsP4 hk, itsP4 hk, pI⟩, TS.1, SV.1, T.1, vi4 hk, vi4 hk⟩
        · unfold F_X11_unfold
          simp only [forall_eq, implies_true, true_implies, false_implies, and_true, true_and, not_true_eq_false, not_false_eq_true, if_true, if_false, i10, i20, i00, le00, le10, le20, thr0, thr1, thr2, il, its4 hk, e2', nle, e7, x10, c4_nn hc4, hx]
        · unfold F_X11_unfold F_X10_unfold F_X2_latestCrease_P F_X2_touchesSeal_P
          simp only [forall_eq, implies_true, true_implies, false_implies, and_true, true_and, not_true_eq_false, not_false_eq_true, if_true, if_false, i10, i20, i00, le00, le10, le20, thr0, thr1, thr2, il, its4 hk, e2', nle, e7, x10, c4_nn hc4, hx, ck hk, l1, if_neg (c4_n10 hc4), hz]
        · unfold F_X11_unfold F_X10_unfold F_X2_latestCrease_P F_X2_touchesSeal_P
          simp only [forall_eq, implies_true, true_implies, false_implies, and_true, true_and, not_true_eq_false, not_false_eq_true, if_true, if_false, i10, i20, i00, le00, le10, le20, thr0, thr1, thr2, il, its4 hk, e2', nle, e7, x10, c4_nn hc4, hx, ck hk, l1, if_neg (c4_n10 hc4), hz, cl4 hk, t4, nI_sub1]
          exact ⟨hT, hsn, ⟨_, K6 hK, PU.2.1, SV.2.1, PU.2.2⟩, ht, hw⟩
      · right; right
        have hx : F_X11_touches fS (nI k) (f k M) = 1 := by rw [TS.2]; exact (ts01 _ _).resolve_left hz
        refine ⟨⟨pl, ?_⟩, ?_, ?_, ?_⟩
        · rw [ck hk]
          refine ⟨⟨hk, LC.1⟩, fun r e => ⟨fun q => absurd (l1.symm.trans (e.symm.trans q)) (c4_n10 hc4), fun _ => ⟨hk, fun r7 e7 => ?_⟩⟩⟩
          rw [e7, e]
          unfold F_X2_touchesSeal_P F_X2_latestCrease_P
          rw [l1]; exact hz
        · unfold P_X11_unfold
          simp only [forall_eq, implies_true, true_implies, false_implies, and_true, true_and, not_true_eq_false, not_false_eq_true, if_true, if_false, i10, i20, i00, le00, le10, le20, thr0, thr1, thr2, il, its4 hk, e2', nle, e7, x10, c4_nn hc4, hx]
          exact ⟨⟨itsP4 hk, itsP4 hk, pI⟩, TS.1⟩
        · unfold F_X11_unfold
          simp only [forall_eq, implies_true, true_implies, false_implies, and_true, true_and, not_true_eq_false, not_false_eq_true, if_true, if_false, i10, i20, i00, le00, le10, le20, thr0, thr1, thr2, il, its4 hk, e2', nle, e7, x10, c4_nn hc4, hx]
        · unfold F_X11_unfold
          simp only [forall_eq, implies_true, true_implies, false_implies, and_true, true_and, not_true_eq_false, not_false_eq_true, if_true, if_false, i10, i20, i00, le00, le10, le20, thr0, thr1, thr2, il, its4 hk, e2', nle, e7, x10, c4_nn hc4, hx]
          exact ⟨hP, hsn, ⟨K, hK, rfl, rfl, hH⟩, ht, hw⟩
  · right; left
    refine ⟨pl, ?_, ?_, ?_⟩
    · unfold P_X11_unfold
      simp only [forall_eq, implies_true, true_implies, false_implies, and_true, true_and, not_true_eq_false, not_false_eq_true, if_true, if_false, i10, i20, i00, le00, le10, le20, thr0, thr1, thr2, il]
    · unfold F_X11_unfold
      simp only [forall_eq, implies_true, true_implies, false_implies, and_true, true_and, not_true_eq_false, not_false_eq_true, if_true, if_false, i10, i20, i00, le00, le10, le20, thr0, thr1, thr2, il]
    · unfold F_X11_unfold
      simp only [forall_eq, implies_true, true_implies, false_implies, and_true, true_and, not_true_eq_false, not_false_eq_true, if_true, if_false, i10, i20, i00, le00, le10, le20, thr0, thr1, thr2, il]
      exact ⟨hP, hsn, ⟨K, hK, rfl, rfl, hH⟩, ht, hw⟩
theorem ag_press (lie : Nat → Int32) (seals : Nat → Int32) (folds : Nat → Int32) (n : Nat → Int32) (f : Nat → Nat → Int32) (lie2 : Nat → Int32) (seals2 : Nat → Int32) (folds2 : Nat → Int32) (n2 : Nat → Int32) (f2 : Nat → Nat → Int32) (PS : Nat → Nat) (AS : Nat → Nat) (LS : Nat → Nat → Nat) (hS_ : Nat → Nat → Nat) (vS : Nat → Nat → Nat) (lieS : Nat → Nat → Int32) (sealsS : Nat → Nat → Int32) (foldsS : Nat → Nat → Int32) (nS : Nat → Nat → Int32) (fS_ : Nat → Nat → Nat → Int32) (size : Int32) (nt : Int32) (ft : Nat → Int32) (fme : Nat → Int32) (ffo : Nat → Int32) (ffd : Nat → Int32) (kn : Int32) (taken : Int32) (known : Int32) (kept : Int32) (len : Int32) (cre : Int32) (fS : Nat → Int32) (fPast : Nat → Int32) (fSnap : Nat → Int32) (fText : Nat → Int32) (fOne : Nat → Int32) (fWord : Nat → Int32) (hR : RelW lie seals folds n f lie2 seals2 folds2 n2 f2 lieS sealsS foldsS nS fS_ size nt ft fme ffo ffd kn taken known kept len fS fPast fSnap fText) (sv1 : Int32) : AG_press lie seals folds n f lie2 seals2 folds2 n2 f2 PS AS LS hS_ vS lieS sealsS foldsS nS fS_ size nt ft fme ffo ffd kn taken known kept len cre fS fPast fSnap fText fOne fWord sv1 := by
  obtain ⟨hP, hsn, ⟨K, hK, eK1, eK2, hH⟩, ht, hw⟩ := hR
  subst eK1
  subst eK2
  unfold AG_press
  rcases letter_cases sv1 with ⟨k, hk, rfl, il, pl⟩ | ⟨il, pl⟩
  · left
    have hl := hP k hk
    obtain ⟨N, hN, e1, e2, h3⟩ := hl.2.2.1
    have e2' : fS (67 * k + 4) = nI N := e2
    have PU := push_ok hK (PS := PS) (AS := AS) (LS := LS) (hS_ := hS_) (vS := vS) hP hH
    have SV := saves_ok hK fS fPast
    have Q := presses_ok (k := k) (l := lie k) (s := seals k) (fo := folds k) (ff := f k) (fS := fS) (g := fOne) (w := fWord) hk hl.1 (fun p hp => hl.layp hp) hl.2.2.2.1 hl.at6
    have RM := remember_ok hl.1 (f k)
    have hT : PileR lie seals folds (F_X2_rememberLeastWord_P lie n f k).1 (F_X2_rememberLeastWord_P lie n f k).2 (F_X11_presses fS fOne fWord (nI k)).2.1 := by
      refine pile_set hP hk (fun j hj => ⟨rfl, rfl, rfl, va_ne _ hj, va_ne _ hj⟩) Q.2.1 ?_
      unfold F_X2_rememberLeastWord_P
      simp only [va_same]
      exact Q.2.2.2
    refine ⟨?_, ?_, ?_, ?_, ?_⟩
    · unfold P_X10_press
      simp only [forall_eq, ck hk]
      exact ⟨pl, PU.1, ⟨hk, pnum2 _⟩, ⟨hk, RM.1⟩, hk, pnum2 _⟩
    · unfold P_X11_press
      simp only [forall_eq, implies_true, true_implies, false_implies, and_true, true_and, not_true_eq_false, not_false_eq_true, if_true, if_false, i10, i20, i00, le00, le10, le20, thr0, thr1, thr2, il]
      exact ⟨SV.1, itsP4 hk, Q.1, itsP4 hk⟩
    · unfold F_X11_press
      simp only [forall_eq, implies_true, true_implies, false_implies, and_true, true_and, not_true_eq_false, not_false_eq_true, if_true, if_false, i10, i20, i00, le00, le10, le20, thr0, thr1, thr2, il]
    · unfold F_X11_press F_X10_press F_X2_number_P F_X2_rememberLeastWord_P
      simp only [forall_eq, implies_true, true_implies, false_implies, and_true, true_and, not_true_eq_false, not_false_eq_true, if_true, if_false, i10, i20, i00, le00, le10, le20, thr0, thr1, thr2, il, its4 hk, e2', Q.2.2.1, ck hk, num2, va_same, e1, RM.2.1]
    · unfold F_X11_press F_X10_press
      simp only [forall_eq, implies_true, true_implies, false_implies, and_true, true_and, not_true_eq_false, not_false_eq_true, if_true, if_false, i10, i20, i00, le00, le10, le20, thr0, thr1, thr2, il, ck hk]
      exact ⟨hT, hsn, ⟨_, K6 hK, PU.2.1, SV.2.1, PU.2.2⟩, ht, hw⟩
  · right
    refine ⟨pl, ?_, ?_, ?_⟩
    · unfold P_X11_press
      simp only [forall_eq, implies_true, true_implies, false_implies, and_true, true_and, not_true_eq_false, not_false_eq_true, if_true, if_false, i10, i20, i00, le00, le10, le20, thr0, thr1, thr2, il]
    · unfold F_X11_press
      simp only [forall_eq, implies_true, true_implies, false_implies, and_true, true_and, not_true_eq_false, not_false_eq_true, if_true, if_false, i10, i20, i00, le00, le10, le20, thr0, thr1, thr2, il]
    · unfold F_X11_press
      simp only [forall_eq, implies_true, true_implies, false_implies, and_true, true_and, not_true_eq_false, not_false_eq_true, if_true, if_false, i10, i20, i00, le00, le10, le20, thr0, thr1, thr2, il]
      exact ⟨hP, hsn, ⟨K, hK, rfl, rfl, hH⟩, ht, hw⟩
theorem lay_flat : ∀ p, p < 4 → lay 1672 p = nI (p + 1) := by
  intro p hp
  rcases (show p = 0 ∨ p = 1 ∨ p = 2 ∨ p = 3 by omega) with rfl | rfl | rfl | rfl <;> decide
theorem lenN_flat : lenN 1672 = 0 := (lenN0 flat_lie).mpr rfl
theorem set6 (f : Nat → Int32) (k : Nat) (a b c d : Int32) : (∀ p, p < 4 → upd (upd (upd (upd (upd (upd f (67 * k + 0) a) (67 * k + 1) b) (67 * k + 2) c) (67 * k + 3) d) (67 * k + 4) 0) (67 * k + 5) 0 (67 * k + p) = h4 a b c d p) ∧ upd (upd (upd (upd (upd (upd f (67 * k + 0) a) (67 * k + 1) b) (67 * k + 2) c) (67 * k + 3) d) (67 * k + 4) 0) (67 * k + 5) 0 (67 * k + 4) = 0 ∧ upd (upd (upd (upd (upd (upd f (67 * k + 0) a) (67 * k + 1) b) (67 * k + 2) c) (67 * k + 3) d) (67 * k + 4) 0) (67 * k + 5) 0 (67 * k + 5) = 0 ∧ ∀ i, (i < 67 * k ∨ 67 * k + 6 ≤ i) → upd (upd (upd (upd (upd (upd f (67 * k + 0) a) (67 * k + 1) b) (67 * k + 2) c) (67 * k + 3) d) (67 * k + 4) 0) (67 * k + 5) 0 i = f i := by
  refine ⟨fun p hp => ?_, ?_, ?_, fun i hi => ?_⟩
  · rcases (show p = 0 ∨ p = 1 ∨ p = 2 ∨ p = 3 by omega) with rfl | rfl | rfl | rfl
    · rw [upd_ne _ (by omega), upd_ne _ (by omega), upd_ne _ (by omega), upd_ne _ (by omega), upd_ne _ (by omega), upd_same]; rfl
    · rw [upd_ne _ (by omega), upd_ne _ (by omega), upd_ne _ (by omega), upd_ne _ (by omega), upd_same]; rfl
    · rw [upd_ne _ (by omega), upd_ne _ (by omega), upd_ne _ (by omega), upd_same]; rfl
    · rw [upd_ne _ (by omega), upd_ne _ (by omega), upd_same]; rfl
  · rw [upd_ne _ (by omega), upd_same]
  · rw [upd_same]
  · rw [upd_ne _ (by omega), upd_ne _ (by omega), upd_ne _ (by omega), upd_ne _ (by omega), upd_ne _ (by omega), upd_ne _ (by omega)]
theorem ag_smooth (lie : Nat → Int32) (seals : Nat → Int32) (folds : Nat → Int32) (n : Nat → Int32) (f : Nat → Nat → Int32) (lie2 : Nat → Int32) (seals2 : Nat → Int32) (folds2 : Nat → Int32) (n2 : Nat → Int32) (f2 : Nat → Nat → Int32) (PS : Nat → Nat) (AS : Nat → Nat) (LS : Nat → Nat → Nat) (hS_ : Nat → Nat → Nat) (vS : Nat → Nat → Nat) (lieS : Nat → Nat → Int32) (sealsS : Nat → Nat → Int32) (foldsS : Nat → Nat → Int32) (nS : Nat → Nat → Int32) (fS_ : Nat → Nat → Nat → Int32) (size : Int32) (nt : Int32) (ft : Nat → Int32) (fme : Nat → Int32) (ffo : Nat → Int32) (ffd : Nat → Int32) (kn : Int32) (taken : Int32) (known : Int32) (kept : Int32) (len : Int32) (fS : Nat → Int32) (fPast : Nat → Int32) (fSnap : Nat → Int32) (fText : Nat → Int32) (fOne : Nat → Int32) (hR : RelW lie seals folds n f lie2 seals2 folds2 n2 f2 lieS sealsS foldsS nS fS_ size nt ft fme ffo ffd kn taken known kept len fS fPast fSnap fText) (sv1 : Int32) : AG_smooth lie seals folds n f lie2 seals2 folds2 n2 f2 PS AS LS hS_ vS lieS sealsS foldsS nS fS_ size nt ft fme ffo ffd kn taken known kept len fS fPast fSnap fText fOne sv1 := by
  obtain ⟨hP, hsn, ⟨K, hK, eK1, eK2, hH⟩, ht, hw⟩ := hR
  subst eK1
  subst eK2
  unfold AG_smooth
  rcases letter_cases sv1 with ⟨k, hk, rfl, il, pl⟩ | ⟨il, pl⟩
  · left
    have hl := hP k hk
    have PU := push_ok hK (PS := PS) (AS := AS) (LS := LS) (hS_ := hS_) (vS := vS) hP hH
    have SV := saves_ok hK fS fPast
    have RM := remember_ok flat_lie (f k)
    rw [lenN_flat] at RM
    have S6 := set6 fS k 1 2 3 4
    have hT : PileR (F_X2_layAfresh_P lie seals n f k 1672).1 (F_X2_layAfresh_P lie seals n f k 1672).2.1 folds (F_X2_layAfresh_P lie seals n f k 1672).2.2.1 (F_X2_layAfresh_P lie seals n f k 1672).2.2.2 (upd (upd (upd (upd (upd (upd fS (67 * k + 0) 1) (67 * k + 1) 2) (67 * k + 2) 3) (67 * k + 3) 4) (67 * k + 4) 0) (67 * k + 5) 0) := by
      refine pile_set hP hk (fun j hj => ⟨va_ne _ hj, va_ne _ hj, rfl, va_ne _ hj, va_ne _ hj⟩) (fun i hi => S6.2.2.2 i (by omega)) ?_
      unfold F_X2_layAfresh_P F_X2_layAfresh
      simp only [va_same, RM.2.1]
      refine ⟨flat_lie, fun p hp => ?_, ⟨0, by omega, rfl, S6.2.1, fun j hj => absurd hj (Nat.not_lt_zero _)⟩, ⟨0, by decide, rfl, S6.2.2.1⟩, ?_⟩
      · dsimp only
        rw [S6.1 p hp]
        show _ = lay 1672 p
        rw [lay_flat p hp]
        rcases (show p = 0 ∨ p = 1 ∨ p = 2 ∨ p = 3 by omega) with rfl | rfl | rfl | rfl <;> rfl
      · dsimp only
        rw [S6.2.2.2 _ (by omega)]; exact hl.at6
    have LE := lengthOf_ok (g := fOne) hk hl
    refine ⟨?_, ?_, ?_, ?_, ?_⟩
    · unfold P_X10_smooth
      simp only [forall_eq, ck hk]
      exact ⟨pl, PU.1, ⟨hk, pnum0 _⟩, hk, RM.1⟩
    · unfold P_X11_smooth
      simp only [forall_eq, implies_true, true_implies, false_implies, and_true, true_and, not_true_eq_false, not_false_eq_true, if_true, if_false, i10, i20, i00, le00, le10, le20, thr0, thr1, thr2, il]
      exact ⟨SV.1, LE.1, vi0 hk, vi1 hk, vi2 hk, vi3 hk, vi4 hk, vi5 hk⟩
    · unfold F_X11_smooth
      simp only [forall_eq, implies_true, true_implies, false_implies, and_true, true_and, not_true_eq_false, not_false_eq_true, if_true, if_false, i10, i20, i00, le00, le10, le20, thr0, thr1, thr2, il]
    · unfold F_X11_smooth F_X10_smooth F_X2_number_P
      simp only [forall_eq, implies_true, true_implies, false_implies, and_true, true_and, not_true_eq_false, not_false_eq_true, if_true, if_false, i10, i20, i00, le00, le10, le20, thr0, thr1, thr2, il, LE.2, ck hk, num0]
    · unfold F_X11_smooth F_X10_smooth
      simp only [forall_eq, implies_true, true_implies, false_implies, and_true, true_and, not_true_eq_false, not_false_eq_true, if_true, if_false, i10, i20, i00, le00, le10, le20, thr0, thr1, thr2, il, ck hk, cl0 hk, cl1 hk, cl2 hk, cl3 hk, cl4 hk, cl5 hk]
      exact ⟨hT, hsn, ⟨_, K6 hK, PU.2.1, SV.2.1, PU.2.2⟩, ht, hw⟩
  · right
    refine ⟨pl, ?_, ?_, ?_⟩
    · unfold P_X11_smooth
      simp only [forall_eq, implies_true, true_implies, false_implies, and_true, true_and, not_true_eq_false, not_false_eq_true, if_true, if_false, i10, i20, i00, le00, le10, le20, thr0, thr1, thr2, il]
    · unfold F_X11_smooth
      simp only [forall_eq, implies_true, true_implies, false_implies, and_true, true_and, not_true_eq_false, not_false_eq_true, if_true, if_false, i10, i20, i00, le00, le10, le20, thr0, thr1, thr2, il]
    · unfold F_X11_smooth
      simp only [forall_eq, implies_true, true_implies, false_implies, and_true, true_and, not_true_eq_false, not_false_eq_true, if_true, if_false, i10, i20, i00, le00, le10, le20, thr0, thr1, thr2, il]
      exact ⟨hP, hsn, ⟨K, hK, rfl, rfl, hH⟩, ht, hw⟩
theorem ag_product (lie : Nat → Int32) (seals : Nat → Int32) (folds : Nat → Int32) (n : Nat → Int32) (f : Nat → Nat → Int32) (lie2 : Nat → Int32) (seals2 : Nat → Int32) (folds2 : Nat → Int32) (n2 : Nat → Int32) (f2 : Nat → Nat → Int32) (PS : Nat → Nat) (AS : Nat → Nat) (LS : Nat → Nat → Nat) (hS_ : Nat → Nat → Nat) (vS : Nat → Nat → Nat) (lieS : Nat → Nat → Int32) (sealsS : Nat → Nat → Int32) (foldsS : Nat → Nat → Int32) (nS : Nat → Nat → Int32) (fS_ : Nat → Nat → Nat → Int32) (size : Int32) (nt : Int32) (ft : Nat → Int32) (fme : Nat → Int32) (ffo : Nat → Int32) (ffd : Nat → Int32) (kn : Int32) (taken : Int32) (known : Int32) (kept : Int32) (len : Int32) (cre : Int32) (fS : Nat → Int32) (fPast : Nat → Int32) (fSnap : Nat → Int32) (fText : Nat → Int32) (fOne : Nat → Int32) (fTwo : Nat → Int32) (fBoth : Nat → Int32) (fWord : Nat → Int32) (hR : RelW lie seals folds n f lie2 seals2 folds2 n2 f2 lieS sealsS foldsS nS fS_ size nt ft fme ffo ffd kn taken known kept len fS fPast fSnap fText) (sv1 : Int32) (sv2 : Int32) (sv3 : Int32) : AG_product lie seals folds n f lie2 seals2 folds2 n2 f2 PS AS LS hS_ vS lieS sealsS foldsS nS fS_ size nt ft fme ffo ffd kn taken known kept len cre fS fPast fSnap fText fOne fTwo fBoth fWord sv1 sv2 sv3 := by
  obtain ⟨hP, hsn, ⟨K, hK, eK1, eK2, hH⟩, ht, hw⟩ := hR
  subst eK1
  subst eK2
  unfold AG_product
  rcases letter_cases sv1 with ⟨k, hk, rfl, il, pl⟩ | ⟨il, pl⟩
  · rcases letter_cases sv2 with ⟨k1, hk1, rfl, il1, pl1⟩ | ⟨il1, pl1⟩
    · rcases letter_cases sv3 with ⟨k2, hk2, rfl, il2, pl2⟩ | ⟨il2, pl2⟩
      · left
        have hl := hP k hk
        have hl1 := hP k1 hk1
        have hl2 := hP k2 hk2
        have PU := push_ok hK (PS := PS) (AS := AS) (LS := LS) (hS_ := hS_) (vS := vS) hP hH
        have SV := saves_ok hK fS fPast
        have ta := e4_takes (g := fOne) hk1 (fun p hp => hl1.layp hp)
        have tb := e4_takesO (g := fTwo) hk2 (fun p hp => hl2.layp hp)
        have hg := e4_mult (b := fBoth) ta tb hl1.1 hl2.1
        have hL := (lie_join hl1.1 hl2.1).1
        have BE := becomes_ok (w := fWord) hk hl hL hg
        have hT : PileR (F_X2_layAfresh_P lie seals n f k (F_X3_joined (lie k1) (lie k2))).1 (F_X2_layAfresh_P lie seals n f k (F_X3_joined (lie k1) (lie k2))).2.1 folds (F_X2_layAfresh_P lie seals n f k (F_X3_joined (lie k1) (lie k2))).2.2.1 (F_X2_layAfresh_P lie seals n f k (F_X3_joined (lie k1) (lie k2))).2.2.2 (F_X11_becomes fS (F_X11_multiplies (F_X11_takes fS fOne (nI k1)) (F_X11_takesOther fS fTwo (nI k2)) fBoth).1 fWord (nI k)).2.2.1 := by
          refine pile_set hP hk (fun j hj => ⟨va_ne _ hj, va_ne _ hj, rfl, va_ne _ hj, va_ne _ hj⟩) BE.2.1 ?_
          unfold F_X2_layAfresh_P
          simp only [va_same]
          exact BE.2.2.2.2
        refine ⟨?_, ?_, ?_, ?_, ?_⟩
        · unfold P_X10_product F_X2_lie_P F_X2_lie
          simp only [forall_eq, ck hk, ck hk1, ck hk2]
          exact ⟨pl, pl1, hk1, pl2, hk2, PU.1, ⟨hk, BE.2.2.2.1⟩, hk, pnum0 _⟩
        · unfold P_X11_product
          simp only [forall_eq, implies_true, true_implies, false_implies, and_true, true_and, not_true_eq_false, not_false_eq_true, if_true, if_false, i10, i20, i00, le00, le10, le20, thr0, thr1, thr2, il, il1, il2]
          exact ⟨SV.1, p_takes hk1, p_takesO hk2, p_mult tb hl2.1, BE.1⟩
        · unfold F_X11_product
          simp only [forall_eq, implies_true, true_implies, false_implies, and_true, true_and, not_true_eq_false, not_false_eq_true, if_true, if_false, i10, i20, i00, le00, le10, le20, thr0, thr1, thr2, il, il1, il2]
        · unfold F_X11_product F_X10_product F_X2_number_P F_X2_layAfresh_P F_X2_lie_P F_X2_lie
          simp only [forall_eq, implies_true, true_implies, false_implies, and_true, true_and, not_true_eq_false, not_false_eq_true, if_true, if_false, i10, i20, i00, le00, le10, le20, thr0, thr1, thr2, il, il1, il2, BE.2.2.1, ck hk, ck hk1, ck hk2, num0, va_same]
          rfl
        · unfold F_X11_product F_X10_product F_X2_lie_P F_X2_lie
          simp only [forall_eq, implies_true, true_implies, false_implies, and_true, true_and, not_true_eq_false, not_false_eq_true, if_true, if_false, i10, i20, i00, le00, le10, le20, thr0, thr1, thr2, il, il1, il2, ck hk, ck hk1, ck hk2]
          exact ⟨hT, hsn, ⟨_, K6 hK, PU.2.1, SV.2.1, PU.2.2⟩, ht, hw⟩
      · right
        refine ⟨Or.inr ⟨pl, Or.inr ⟨pl1, by rw [ck hk1]; exact hk1, fun _ _ => pl2⟩⟩, ?_, ?_, ?_⟩
        · unfold P_X11_product
          simp only [forall_eq, implies_true, true_implies, false_implies, and_true, true_and, not_true_eq_false, not_false_eq_true, if_true, if_false, i10, i20, i00, le00, le10, le20, thr0, thr1, thr2, il, il1, il2]
        · unfold F_X11_product
          simp only [forall_eq, implies_true, true_implies, false_implies, and_true, true_and, not_true_eq_false, not_false_eq_true, if_true, if_false, i10, i20, i00, le00, le10, le20, thr0, thr1, thr2, il, il1, il2]
        · unfold F_X11_product
          simp only [forall_eq, implies_true, true_implies, false_implies, and_true, true_and, not_true_eq_false, not_false_eq_true, if_true, if_false, i10, i20, i00, le00, le10, le20, thr0, thr1, thr2, il, il1, il2]
          exact ⟨hP, hsn, ⟨K, hK, rfl, rfl, hH⟩, ht, hw⟩
    · right
      refine ⟨Or.inr ⟨pl, Or.inl pl1⟩, ?_, ?_, ?_⟩
      · unfold P_X11_product
        simp only [forall_eq, implies_true, true_implies, false_implies, and_true, true_and, not_true_eq_false, not_false_eq_true, if_true, if_false, i10, i20, i00, le00, le10, le20, thr0, thr1, thr2, il, il1]
      · unfold F_X11_product
        simp only [forall_eq, implies_true, true_implies, false_implies, and_true, true_and, not_true_eq_false, not_false_eq_true, if_true, if_false, i10, i20, i00, le00, le10, le20, thr0, thr1, thr2, il, il1]
      · unfold F_X11_product
        simp only [forall_eq, implies_true, true_implies, false_implies, and_true, true_and, not_true_eq_false, not_false_eq_true, if_true, if_false, i10, i20, i00, le00, le10, le20, thr0, thr1, thr2, il, il1]
        exact ⟨hP, hsn, ⟨K, hK, rfl, rfl, hH⟩, ht, hw⟩
  · right
    refine ⟨Or.inl pl, ?_, ?_, ?_⟩
    · unfold P_X11_product
      simp only [forall_eq, implies_true, true_implies, false_implies, and_true, true_and, not_true_eq_false, not_false_eq_true, if_true, if_false, i10, i20, i00, le00, le10, le20, thr0, thr1, thr2, il]
    · unfold F_X11_product
      simp only [forall_eq, implies_true, true_implies, false_implies, and_true, true_and, not_true_eq_false, not_false_eq_true, if_true, if_false, i10, i20, i00, le00, le10, le20, thr0, thr1, thr2, il]
    · unfold F_X11_product
      simp only [forall_eq, implies_true, true_implies, false_implies, and_true, true_and, not_true_eq_false, not_false_eq_true, if_true, if_false, i10, i20, i00, le00, le10, le20, thr0, thr1, thr2, il]
      exact ⟨hP, hsn, ⟨K, hK, rfl, rfl, hH⟩, ht, hw⟩
theorem ag_opposite (lie : Nat → Int32) (seals : Nat → Int32) (folds : Nat → Int32) (n : Nat → Int32) (f : Nat → Nat → Int32) (lie2 : Nat → Int32) (seals2 : Nat → Int32) (folds2 : Nat → Int32) (n2 : Nat → Int32) (f2 : Nat → Nat → Int32) (PS : Nat → Nat) (AS : Nat → Nat) (LS : Nat → Nat → Nat) (hS_ : Nat → Nat → Nat) (vS : Nat → Nat → Nat) (lieS : Nat → Nat → Int32) (sealsS : Nat → Nat → Int32) (foldsS : Nat → Nat → Int32) (nS : Nat → Nat → Int32) (fS_ : Nat → Nat → Nat → Int32) (size : Int32) (nt : Int32) (ft : Nat → Int32) (fme : Nat → Int32) (ffo : Nat → Int32) (ffd : Nat → Int32) (kn : Int32) (taken : Int32) (known : Int32) (kept : Int32) (len : Int32) (cre : Int32) (fS : Nat → Int32) (fPast : Nat → Int32) (fSnap : Nat → Int32) (fText : Nat → Int32) (fOne : Nat → Int32) (fBoth : Nat → Int32) (fWord : Nat → Int32) (hR : RelW lie seals folds n f lie2 seals2 folds2 n2 f2 lieS sealsS foldsS nS fS_ size nt ft fme ffo ffd kn taken known kept len fS fPast fSnap fText) (sv1 : Int32) (sv2 : Int32) : AG_opposite lie seals folds n f lie2 seals2 folds2 n2 f2 PS AS LS hS_ vS lieS sealsS foldsS nS fS_ size nt ft fme ffo ffd kn taken known kept len cre fS fPast fSnap fText fOne fBoth fWord sv1 sv2 := by
  obtain ⟨hP, hsn, ⟨K, hK, eK1, eK2, hH⟩, ht, hw⟩ := hR
  subst eK1
  subst eK2
  unfold AG_opposite
  rcases letter_cases sv1 with ⟨k, hk, rfl, il, pl⟩ | ⟨il, pl⟩
  · rcases letter_cases sv2 with ⟨k1, hk1, rfl, il1, pl1⟩ | ⟨il1, pl1⟩
    · left
      have hl := hP k hk
      have hl1 := hP k1 hk1
      have PU := push_ok hK (PS := PS) (AS := AS) (LS := LS) (hS_ := hS_) (vS := vS) hP hH
      have SV := saves_ok hK fS fPast
      have ta := e4_takes (g := fOne) hk1 (fun p hp => hl1.layp hp)
      have hg := e4_turns (b := fBoth) ta hl1.1
      have hL := lie_rev hl1.1
      have BE := becomes_ok (w := fWord) hk hl hL hg
      have hT : PileR (F_X2_layAfresh_P lie seals n f k (F_X3_reversed (lie k1))).1 (F_X2_layAfresh_P lie seals n f k (F_X3_reversed (lie k1))).2.1 folds (F_X2_layAfresh_P lie seals n f k (F_X3_reversed (lie k1))).2.2.1 (F_X2_layAfresh_P lie seals n f k (F_X3_reversed (lie k1))).2.2.2 (F_X11_becomes fS (F_X11_turns (F_X11_takes fS fOne (nI k1)) fBoth).1 fWord (nI k)).2.2.1 := by
        refine pile_set hP hk (fun j hj => ⟨va_ne _ hj, va_ne _ hj, rfl, va_ne _ hj, va_ne _ hj⟩) BE.2.1 ?_
        unfold F_X2_layAfresh_P
        simp only [va_same]
        exact BE.2.2.2.2
      refine ⟨?_, ?_, ?_, ?_, ?_⟩
      · unfold P_X10_opposite F_X2_lie_P F_X2_lie
        simp only [forall_eq, ck hk, ck hk1]
        exact ⟨pl, pl1, hk1, PU.1, ⟨hk, BE.2.2.2.1⟩, hk, pnum0 _⟩
      · unfold P_X11_opposite
        simp only [forall_eq, implies_true, true_implies, false_implies, and_true, true_and, not_true_eq_false, not_false_eq_true, if_true, if_false, i10, i20, i00, le00, le10, le20, thr0, thr1, thr2, il, il1]
        exact ⟨SV.1, p_takes hk1, p_turns ta hl1.1, BE.1⟩
      · unfold F_X11_opposite
        simp only [forall_eq, implies_true, true_implies, false_implies, and_true, true_and, not_true_eq_false, not_false_eq_true, if_true, if_false, i10, i20, i00, le00, le10, le20, thr0, thr1, thr2, il, il1]
      · unfold F_X11_opposite F_X10_opposite F_X2_number_P F_X2_layAfresh_P F_X2_lie_P F_X2_lie
        simp only [forall_eq, implies_true, true_implies, false_implies, and_true, true_and, not_true_eq_false, not_false_eq_true, if_true, if_false, i10, i20, i00, le00, le10, le20, thr0, thr1, thr2, il, il1, BE.2.2.1, ck hk, ck hk1, num0, va_same]
        rfl
      · unfold F_X11_opposite F_X10_opposite F_X2_lie_P F_X2_lie
        simp only [forall_eq, implies_true, true_implies, false_implies, and_true, true_and, not_true_eq_false, not_false_eq_true, if_true, if_false, i10, i20, i00, le00, le10, le20, thr0, thr1, thr2, il, il1, ck hk, ck hk1]
        exact ⟨hT, hsn, ⟨_, K6 hK, PU.2.1, SV.2.1, PU.2.2⟩, ht, hw⟩
    · right
      refine ⟨Or.inr ⟨pl, pl1⟩, ?_, ?_, ?_⟩
      · unfold P_X11_opposite
        simp only [forall_eq, implies_true, true_implies, false_implies, and_true, true_and, not_true_eq_false, not_false_eq_true, if_true, if_false, i10, i20, i00, le00, le10, le20, thr0, thr1, thr2, il, il1]
      · unfold F_X11_opposite
        simp only [forall_eq, implies_true, true_implies, false_implies, and_true, true_and, not_true_eq_false, not_false_eq_true, if_true, if_false, i10, i20, i00, le00, le10, le20, thr0, thr1, thr2, il, il1]
      · unfold F_X11_opposite
        simp only [forall_eq, implies_true, true_implies, false_implies, and_true, true_and, not_true_eq_false, not_false_eq_true, if_true, if_false, i10, i20, i00, le00, le10, le20, thr0, thr1, thr2, il, il1]
        exact ⟨hP, hsn, ⟨K, hK, rfl, rfl, hH⟩, ht, hw⟩
  · right
    refine ⟨Or.inl pl, ?_, ?_, ?_⟩
    · unfold P_X11_opposite
      simp only [forall_eq, implies_true, true_implies, false_implies, and_true, true_and, not_true_eq_false, not_false_eq_true, if_true, if_false, i10, i20, i00, le00, le10, le20, thr0, thr1, thr2, il]
    · unfold F_X11_opposite
      simp only [forall_eq, implies_true, true_implies, false_implies, and_true, true_and, not_true_eq_false, not_false_eq_true, if_true, if_false, i10, i20, i00, le00, le10, le20, thr0, thr1, thr2, il]
    · unfold F_X11_opposite
      simp only [forall_eq, implies_true, true_implies, false_implies, and_true, true_and, not_true_eq_false, not_false_eq_true, if_true, if_false, i10, i20, i00, le00, le10, le20, thr0, thr1, thr2, il]
      exact ⟨hP, hsn, ⟨K, hK, rfl, rfl, hH⟩, ht, hw⟩

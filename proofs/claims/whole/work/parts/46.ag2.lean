theorem pf_seal : (List.range 16).all (fun S => p4.all (fun p => decide (0 ≤ (nI S ^^^ ((1 : Int32) <<< (nI p &&& 31)))) && decide ((nI S ^^^ ((1 : Int32) <<< (nI p &&& 31))) < 16))) = true := by decide +kernel
theorem pf_ones : (List.range 16).all (fun S => decide (F_X11_ones (nI S) = F_X2_sealed (nI S))) = true := by decide +kernel
theorem seal_in {S p : Nat} (hS : S < 16) (hp : p < 4) : ∃ S', S' < 16 ∧ (nI S ^^^ ((1 : Int32) <<< (nI p &&& 31))) = nI S' := by
  have h := p4_of (List.all_eq_true.mp pf_seal S (List.mem_range.mpr hS)) hp
  rw [Bool.and_eq_true, decide_eq_true_eq, decide_eq_true_eq] at h
  obtain ⟨j, hj, e⟩ := nI_of (x := nI S ^^^ ((1 : Int32) <<< (nI p &&& 31))) (Int32.not_lt.mpr h.1)
  refine ⟨j, ?_, e⟩
  have h2 := h.2
  rw [e] at h2
  exact (nI_ltI (b := 16) hj (by decide)).mp h2
theorem ones_ok {S : Nat} (hS : S < 16) : F_X11_ones (nI S) = F_X2_sealed (nI S) := of_decide_eq_true (List.all_eq_true.mp pf_ones S (List.mem_range.mpr hS))
theorem home_eq (l : Int32) (p : Nat) : F_X3_isHome l (nI p) = if lay l p = nI p + 1 then 1 else 0 := rfl
theorem sealed_eq (s i : Int32) : F_X2_isSealed s i = if ((s >>> (i &&& 31)) &&& 1) = 1 then 1 else 0 := rfl
theorem LetR.at5 {k : Nat} {l s fo nn : Int32} {ff fS : Nat → Int32} (h : LetR l s fo nn ff (fun i => fS (67 * k + i))) : fS (67 * k + 5) = s := by
  obtain ⟨S, hS, e3, e4⟩ := h.2.2.2.1
  rw [e3]; exact e4
theorem LetR.at4 {k : Nat} {l s fo nn : Int32} {ff fS : Nat → Int32} (h : LetR l s fo nn ff (fun i => fS (67 * k + i))) : fS (67 * k + 4) = nn := by
  obtain ⟨N, hN, e1, e2, -⟩ := h.2.2.1
  rw [e1]; exact e2
theorem LetR.atp {k : Nat} {l s fo nn : Int32} {ff fS : Nat → Int32} (h : LetR l s fo nn ff (fun i => fS (67 * k + i))) {p : Nat} (hp : p < 4) : fS (67 * k + p) = lay l p := h.layp hp
theorem ag_seal (lie : Nat → Int32) (seals : Nat → Int32) (folds : Nat → Int32) (n : Nat → Int32) (f : Nat → Nat → Int32) (lie2 : Nat → Int32) (seals2 : Nat → Int32) (folds2 : Nat → Int32) (n2 : Nat → Int32) (f2 : Nat → Nat → Int32) (PS : Nat → Nat) (AS : Nat → Nat) (LS : Nat → Nat → Nat) (hS_ : Nat → Nat → Nat) (vS : Nat → Nat → Nat) (lieS : Nat → Nat → Int32) (sealsS : Nat → Nat → Int32) (foldsS : Nat → Nat → Int32) (nS : Nat → Nat → Int32) (fS_ : Nat → Nat → Nat → Int32) (size : Int32) (nt : Int32) (ft : Nat → Int32) (fme : Nat → Int32) (ffo : Nat → Int32) (ffd : Nat → Int32) (kn : Int32) (taken : Int32) (known : Int32) (kept : Int32) (len : Int32) (fS : Nat → Int32) (fPast : Nat → Int32) (fSnap : Nat → Int32) (fText : Nat → Int32) (hR : RelW lie seals folds n f lie2 seals2 folds2 n2 f2 lieS sealsS foldsS nS fS_ size nt ft fme ffo ffd kn taken known kept len fS fPast fSnap fText) (sv1 : Int32) (sv2 : Int32) : AG_seal lie seals folds n f lie2 seals2 folds2 n2 f2 PS AS LS hS_ vS lieS sealsS foldsS nS fS_ size nt ft fme ffo ffd kn taken known kept len fS fPast fSnap fText sv1 sv2 := by
  obtain ⟨hP, hsn, ⟨K, hK, eK1, eK2, hH⟩, ht, hw⟩ := hR
  subst eK1
  subst eK2
  unfold AG_seal
  rcases letter_cases sv1 with ⟨k, hk, rfl, il, pl⟩ | ⟨il, pl⟩
  · rcases place_cases sv2 with ⟨p, hp, rfl, ip, pp⟩ | ⟨ip, pp⟩
    · have hl := hP k hk
      obtain ⟨S, hS, e3, e4⟩ := hl.2.2.2.1
      obtain ⟨S', hS', eS'⟩ := seal_in hS hp
      rw [← e3] at eS'
      have xp : F_X11_its fS (nI k) (nI p) = lay (lie k) p := by rw [its_eq hk (by omega)]; exact hl.atp hp
      have PU := push_ok hK (PS := PS) (AS := AS) (LS := LS) (hS_ := hS_) (vS := vS) hP hH
      have SV := saves_ok hK fS fPast
      have hT : PileR lie (F_X2_changeSeal_P seals k (nI p)) folds n f (upd fS (67 * k + 5) (seals k ^^^ ((1 : Int32) <<< (nI p &&& 31)))) := by
        refine pile_set hP hk (fun j hj => ⟨rfl, va_ne _ hj, rfl, rfl, rfl⟩) (fun i hi => upd_ne _ (by omega)) ?_
        unfold F_X2_changeSeal_P F_X2_changeSeal
        simp only [va_same, eS']
        obtain ⟨h1, h2, ⟨N, hN, a1, a2, a3⟩, -, h5⟩ := hl
        refine ⟨h1, fun q hq => ?_, ⟨N, hN, a1, ?_, fun j hj => ?_⟩, ⟨S', hS', rfl, upd_same _ _ _⟩, ?_⟩
        · dsimp only
          rw [upd_ne _ (by omega)]; exact h2 q hq
        · dsimp only
          rw [upd_ne _ (by omega)]; exact a2
        · dsimp only
          rw [upd_ne _ (by omega)]; exact a3 j hj
        · dsimp only
          rw [upd_ne _ (by omega)]; exact h5
      by_cases hA : ((seals k >>> (nI p &&& 31)) &&& 1) = 1
      · left
        refine ⟨?_, ?_, ?_, ?_, ?_⟩
        · unfold P_X10_seal F_X2_isSealed_P F_X2_lie_P F_X2_lie
          simp only [forall_eq, ck hk, sealed_eq, home_eq, hA, if_true, if_false]
          exact ⟨pl, pp, hk, fun q => absurd q (by decide), fun _ => ⟨PU.1, hk, hk⟩⟩
        · unfold P_X11_seal
          simp only [forall_eq, implies_true, true_implies, false_implies, and_true, true_and, not_true_eq_false, not_false_eq_true, if_true, if_false, i10, i20, i00, le00, le10, le20, thr0, thr1, thr2, il, ip, its5 hk, hl.at5, xp, cl5 hk, hA]
          exact ⟨itsP5 hk, SV.1, vi5 hk, vi5 hk, itsP5 hk⟩
        · unfold F_X11_seal
          simp only [forall_eq, implies_true, true_implies, false_implies, and_true, true_and, not_true_eq_false, not_false_eq_true, if_true, if_false, i10, i20, i00, le00, le10, le20, thr0, thr1, thr2, il, ip, its5 hk, hl.at5, xp, cl5 hk, hA]
        · unfold F_X11_seal F_X10_seal F_X2_isSealed_P F_X2_lie_P F_X2_lie F_X2_sealed_P F_X2_changeSeal_P F_X2_changeSeal
          simp only [forall_eq, implies_true, true_implies, false_implies, and_true, true_and, not_true_eq_false, not_false_eq_true, if_true, if_false, i10, i20, i00, le00, le10, le20, thr0, thr1, thr2, il, ip, its5 hk, hl.at5, xp, cl5 hk, ck hk, sealed_eq, home_eq, hA, va_same, upd_same]
          rw [eS']; exact (ones_ok hS').symm
        · unfold F_X11_seal F_X10_seal F_X2_isSealed_P F_X2_lie_P F_X2_lie
          simp only [forall_eq, implies_true, true_implies, false_implies, and_true, true_and, not_true_eq_false, not_false_eq_true, if_true, if_false, i10, i20, i00, le00, le10, le20, thr0, thr1, thr2, il, ip, its5 hk, hl.at5, xp, cl5 hk, ck hk, sealed_eq, home_eq, hA]
          exact ⟨hT, hsn, ⟨_, K6 hK, PU.2.1, SV.2.1, PU.2.2⟩, ht, hw⟩
      · by_cases hB : lay (lie k) p = nI p + 1
        · left
          refine ⟨?_, ?_, ?_, ?_, ?_⟩
          · unfold P_X10_seal F_X2_isSealed_P F_X2_lie_P F_X2_lie
            simp only [forall_eq, ck hk, sealed_eq, home_eq, hA, hB, if_true, if_false]
            exact ⟨pl, pp, hk, fun _ => ⟨hk, fun q => absurd q (by decide), fun _ => ⟨PU.1, hk, hk⟩⟩, fun q => absurd trivial q⟩
          · unfold P_X11_seal
            simp only [forall_eq, implies_true, true_implies, false_implies, and_true, true_and, not_true_eq_false, not_false_eq_true, if_true, if_false, i10, i20, i00, le00, le10, le20, thr0, thr1, thr2, il, ip, its5 hk, hl.at5, xp, cl5 hk, hA, hB]
            exact ⟨itsP5 hk, its_P hk (by omega), SV.1, vi5 hk, vi5 hk, itsP5 hk⟩
          · unfold F_X11_seal
            simp only [forall_eq, implies_true, true_implies, false_implies, and_true, true_and, not_true_eq_false, not_false_eq_true, if_true, if_false, i10, i20, i00, le00, le10, le20, thr0, thr1, thr2, il, ip, its5 hk, hl.at5, xp, cl5 hk, hA, hB]
          · unfold F_X11_seal F_X10_seal F_X2_isSealed_P F_X2_lie_P F_X2_lie F_X2_sealed_P F_X2_changeSeal_P F_X2_changeSeal
            simp only [forall_eq, implies_true, true_implies, false_implies, and_true, true_and, not_true_eq_false, not_false_eq_true, if_true, if_false, i10, i20, i00, le00, le10, le20, thr0, thr1, thr2, il, ip, its5 hk, hl.at5, xp, cl5 hk, ck hk, sealed_eq, home_eq, hA, hB, va_same, upd_same]
            rw [eS']; exact (ones_ok hS').symm
          · unfold F_X11_seal F_X10_seal F_X2_isSealed_P F_X2_lie_P F_X2_lie
            simp only [forall_eq, implies_true, true_implies, false_implies, and_true, true_and, not_true_eq_false, not_false_eq_true, if_true, if_false, i10, i20, i00, le00, le10, le20, thr0, thr1, thr2, il, ip, its5 hk, hl.at5, xp, cl5 hk, ck hk, sealed_eq, home_eq, hA, hB]
            exact ⟨hT, hsn, ⟨_, K6 hK, PU.2.1, SV.2.1, PU.2.2⟩, ht, hw⟩
        · right; right
          refine ⟨⟨pl, pp, by rw [ck hk]; exact hk, fun r6 e6 => ⟨?_, by rw [ck hk]; exact hk, fun r27 e27 r28 e28 => ?_⟩⟩, ?_, ?_, ?_⟩
          · rw [e6]; unfold F_X2_isSealed_P; rw [ck hk, sealed_eq, if_neg hA]
          · rw [e28, e27]; unfold F_X2_lie_P F_X2_lie; rw [ck hk, home_eq, if_neg hB]
          · unfold P_X11_seal
            simp only [forall_eq, implies_true, true_implies, false_implies, and_true, true_and, not_true_eq_false, not_false_eq_true, if_true, if_false, i10, i20, i00, le00, le10, le20, thr0, thr1, thr2, il, ip, its5 hk, hl.at5, xp, cl5 hk, hA, hB]
            exact ⟨itsP5 hk, its_P hk (by omega)⟩
          · unfold F_X11_seal
            simp only [forall_eq, implies_true, true_implies, false_implies, and_true, true_and, not_true_eq_false, not_false_eq_true, if_true, if_false, i10, i20, i00, le00, le10, le20, thr0, thr1, thr2, il, ip, its5 hk, hl.at5, xp, cl5 hk, hA, hB]
          · unfold F_X11_seal
            simp only [forall_eq, implies_true, true_implies, false_implies, and_true, true_and, not_true_eq_false, not_false_eq_true, if_true, if_false, i10, i20, i00, le00, le10, le20, thr0, thr1, thr2, il, ip, its5 hk, hl.at5, xp, cl5 hk, hA, hB]
            exact ⟨hP, hsn, ⟨K, hK, rfl, rfl, hH⟩, ht, hw⟩
    · right; left
      refine ⟨Or.inr ⟨pl, pp⟩, ?_, ?_, ?_⟩
      · unfold P_X11_seal
        simp only [forall_eq, implies_true, true_implies, false_implies, and_true, true_and, not_true_eq_false, not_false_eq_true, if_true, if_false, i10, i20, i00, le00, le10, le20, thr0, thr1, thr2, il, ip]
      · unfold F_X11_seal
        simp only [forall_eq, implies_true, true_implies, false_implies, and_true, true_and, not_true_eq_false, not_false_eq_true, if_true, if_false, i10, i20, i00, le00, le10, le20, thr0, thr1, thr2, il, ip]
      · unfold F_X11_seal
        simp only [forall_eq, implies_true, true_implies, false_implies, and_true, true_and, not_true_eq_false, not_false_eq_true, if_true, if_false, i10, i20, i00, le00, le10, le20, thr0, thr1, thr2, il, ip]
        exact ⟨hP, hsn, ⟨K, hK, rfl, rfl, hH⟩, ht, hw⟩
  · right; left
    refine ⟨Or.inl pl, ?_, ?_, ?_⟩
    · unfold P_X11_seal
      simp only [forall_eq, implies_true, true_implies, false_implies, and_true, true_and, not_true_eq_false, not_false_eq_true, if_true, if_false, i10, i20, i00, le00, le10, le20, thr0, thr1, thr2, il]
    · unfold F_X11_seal
      simp only [forall_eq, implies_true, true_implies, false_implies, and_true, true_and, not_true_eq_false, not_false_eq_true, if_true, if_false, i10, i20, i00, le00, le10, le20, thr0, thr1, thr2, il]
    · unfold F_X11_seal
      simp only [forall_eq, implies_true, true_implies, false_implies, and_true, true_and, not_true_eq_false, not_false_eq_true, if_true, if_false, i10, i20, i00, le00, le10, le20, thr0, thr1, thr2, il]
      exact ⟨hP, hsn, ⟨K, hK, rfl, rfl, hH⟩, ht, hw⟩
theorem ag_append (lie : Nat → Int32) (seals : Nat → Int32) (folds : Nat → Int32) (n : Nat → Int32) (f : Nat → Nat → Int32) (lie2 : Nat → Int32) (seals2 : Nat → Int32) (folds2 : Nat → Int32) (n2 : Nat → Int32) (f2 : Nat → Nat → Int32) (lieS : Nat → Nat → Int32) (sealsS : Nat → Nat → Int32) (foldsS : Nat → Nat → Int32) (nS : Nat → Nat → Int32) (fS_ : Nat → Nat → Nat → Int32) (size : Int32) (nt : Int32) (ft : Nat → Int32) (fme : Nat → Int32) (ffo : Nat → Int32) (ffd : Nat → Int32) (kn : Int32) (taken : Int32) (known : Int32) (kept : Int32) (len : Int32) (fS : Nat → Int32) (fPast : Nat → Int32) (fSnap : Nat → Int32) (fText : Nat → Int32) (hR : RelW lie seals folds n f lie2 seals2 folds2 n2 f2 lieS sealsS foldsS nS fS_ size nt ft fme ffo ffd kn taken known kept len fS fPast fSnap fText) (sv1 : Int32) : AG_append lie seals folds n f lie2 seals2 folds2 n2 f2 lieS sealsS foldsS nS fS_ size nt ft fme ffo ffd kn taken known kept len fS fPast fSnap fText sv1 := by
  obtain ⟨hP, hsn, hh, ⟨L, hL, eL1, eL2, hT⟩, hw⟩ := hR
  subst eL1
  subst eL2
  unfold AG_append
  by_cases h1 : sv1 < 33
  · have hi : F_X11_in sv1 33 126 = 0 := by unfold F_X11_in; simp only [h1, if_true]
    right; left
    refine ⟨⟨fun _ => trivial, fun q => absurd h1 q⟩, ?_, ?_, ?_⟩
    · unfold P_X11_append
      simp only [forall_eq, implies_true, true_implies, false_implies, and_true, true_and, not_true_eq_false, not_false_eq_true, if_true, if_false, i10, i20, i00, le00, le10, le20, thr0, thr1, thr2, hi]
    · unfold F_X11_append
      simp only [forall_eq, implies_true, true_implies, false_implies, and_true, true_and, not_true_eq_false, not_false_eq_true, if_true, if_false, i10, i20, i00, le00, le10, le20, thr0, thr1, thr2, hi]
    · unfold F_X11_append
      simp only [forall_eq, implies_true, true_implies, false_implies, and_true, true_and, not_true_eq_false, not_false_eq_true, if_true, if_false, i10, i20, i00, le00, le10, le20, thr0, thr1, thr2, hi]
      exact ⟨hP, hsn, hh, ⟨L, hL, rfl, rfl, hT⟩, hw⟩
  · by_cases h2 : sv1 ≤ 126
    · have h2' : ¬ 126 < sv1 := Int32.not_lt.mpr h2
      have hi : F_X11_in sv1 33 126 = 1 := by unfold F_X11_in; simp only [h1, h2', if_false]
      by_cases h3 : L = 60
      · subst h3
        have e60 : (nI 60 = 60) = True := eq_true rfl
        right; right
        refine ⟨⟨h1, h2, fun r e => ?_⟩, ?_, ?_, ?_⟩
        · rw [e]; decide
        · unfold P_X11_append
          simp only [forall_eq, implies_true, true_implies, false_implies, and_true, true_and, not_true_eq_false, not_false_eq_true, if_true, if_false, i10, i20, i00, le00, le10, le20, thr0, thr1, thr2, hi, e60]
        · unfold F_X11_append
          simp only [forall_eq, implies_true, true_implies, false_implies, and_true, true_and, not_true_eq_false, not_false_eq_true, if_true, if_false, i10, i20, i00, le00, le10, le20, thr0, thr1, thr2, hi, e60]
        · unfold F_X11_append
          simp only [forall_eq, implies_true, true_implies, false_implies, and_true, true_and, not_true_eq_false, not_false_eq_true, if_true, if_false, i10, i20, i00, le00, le10, le20, thr0, thr1, thr2, hi, e60]
          exact ⟨hP, hsn, hh, ⟨60, hL, rfl, rfl, hT⟩, hw⟩
      · have e60 : (nI L = 60) = False := eq_false (fun q => h3 ((nI_eq (b := 60) (by omega) (by decide)).mp q))
        have RA := row_add ft sv1 (N := L) (by omega)
        have hf : F_X6_isFull (nI L) = 0 := by
          unfold F_X6_isFull
          simp only [if_pos (show nI L < 60 from nI_lt (b := 60) (by omega) (by decide))]
        left
        refine ⟨?_, ?_, ?_, ?_, ?_⟩
        · unfold P_X10_append
          exact ⟨fun q => h1 q, fun _ => ⟨fun _ r e => ⟨fun _ => RA.1, fun q => q (e.trans hf)⟩, fun q => q h2⟩⟩
        · unfold P_X11_append
          simp only [forall_eq, implies_true, true_implies, false_implies, and_true, true_and, not_true_eq_false, not_false_eq_true, if_true, if_false, i10, i20, i00, le00, le10, le20, thr0, thr1, thr2, hi, e60]
          exact vp_in_nI (by omega) (by decide)
        · unfold F_X11_append
          simp only [forall_eq, implies_true, true_implies, false_implies, and_true, true_and, not_true_eq_false, not_false_eq_true, if_true, if_false, i10, i20, i00, le00, le10, le20, thr0, thr1, thr2, hi, e60]
        · unfold F_X11_append F_X10_append F_X6_size
          simp only [forall_eq, implies_true, true_implies, false_implies, and_true, true_and, not_true_eq_false, not_false_eq_true, if_true, if_false, i10, i20, i00, le00, le10, le20, thr0, thr1, thr2, hi, e60, h1, h2, hf, RA.2, nI_1]
        · unfold F_X11_append F_X10_append
          simp only [forall_eq, implies_true, true_implies, false_implies, and_true, true_and, not_true_eq_false, not_false_eq_true, if_true, if_false, i10, i20, i00, le00, le10, le20, thr0, thr1, thr2, hi, e60, h1, h2, hf, RA.2, nI_1, nI_clamp (n := L) (by omega)]
          refine ⟨hP, hsn, hh, ⟨L + 1, by omega, rfl, rfl, fun j hj => ?_⟩, hw⟩
          by_cases q : j = L
          · subst q
            rw [upd_same, upd_same]
            exact ⟨rfl, Int32.not_lt.mp h1, h2⟩
          · rw [upd_ne _ q, upd_ne _ q]
            exact hT j (by omega)
    · have h2' : 126 < sv1 := Int32.not_le.mp h2
      have hi : F_X11_in sv1 33 126 = 0 := by unfold F_X11_in; simp only [h1, h2', if_true, if_false]
      right; left
      refine ⟨⟨fun _ => trivial, fun _ => h2⟩, ?_, ?_, ?_⟩
      · unfold P_X11_append
        simp only [forall_eq, implies_true, true_implies, false_implies, and_true, true_and, not_true_eq_false, not_false_eq_true, if_true, if_false, i10, i20, i00, le00, le10, le20, thr0, thr1, thr2, hi]
      · unfold F_X11_append
        simp only [forall_eq, implies_true, true_implies, false_implies, and_true, true_and, not_true_eq_false, not_false_eq_true, if_true, if_false, i10, i20, i00, le00, le10, le20, thr0, thr1, thr2, hi]
      · unfold F_X11_append
        simp only [forall_eq, implies_true, true_implies, false_implies, and_true, true_and, not_true_eq_false, not_false_eq_true, if_true, if_false, i10, i20, i00, le00, le10, le20, thr0, thr1, thr2, hi]
        exact ⟨hP, hsn, hh, ⟨L, hL, rfl, rfl, hT⟩, hw⟩
theorem ag_clearBuffer (lie : Nat → Int32) (seals : Nat → Int32) (folds : Nat → Int32) (n : Nat → Int32) (f : Nat → Nat → Int32) (lie2 : Nat → Int32) (seals2 : Nat → Int32) (folds2 : Nat → Int32) (n2 : Nat → Int32) (f2 : Nat → Nat → Int32) (lieS : Nat → Nat → Int32) (sealsS : Nat → Nat → Int32) (foldsS : Nat → Nat → Int32) (nS : Nat → Nat → Int32) (fS_ : Nat → Nat → Nat → Int32) (size : Int32) (nt : Int32) (ft : Nat → Int32) (fme : Nat → Int32) (ffo : Nat → Int32) (ffd : Nat → Int32) (kn : Int32) (taken : Int32) (known : Int32) (kept : Int32) (len : Int32) (fS : Nat → Int32) (fPast : Nat → Int32) (fSnap : Nat → Int32) (fText : Nat → Int32) (hR : RelW lie seals folds n f lie2 seals2 folds2 n2 f2 lieS sealsS foldsS nS fS_ size nt ft fme ffo ffd kn taken known kept len fS fPast fSnap fText)  : AG_clearBuffer lie seals folds n f lie2 seals2 folds2 n2 f2 lieS sealsS foldsS nS fS_ size nt ft fme ffo ffd kn taken known kept len fS fPast fSnap fText := by
  obtain ⟨hP, hsn, hh, ⟨L, hL, eL1, eL2, hT⟩, hw⟩ := hR
  subst eL1
  subst eL2
  exact ⟨rfl, hP, hsn, hh, ⟨0, by omega, rfl, rfl, fun j hj => absurd hj (Nat.not_lt_zero _)⟩, hw⟩
theorem ag_keep (lie : Nat → Int32) (seals : Nat → Int32) (folds : Nat → Int32) (n : Nat → Int32) (f : Nat → Nat → Int32) (lie2 : Nat → Int32) (seals2 : Nat → Int32) (folds2 : Nat → Int32) (n2 : Nat → Int32) (f2 : Nat → Nat → Int32) (lieS : Nat → Nat → Int32) (sealsS : Nat → Nat → Int32) (foldsS : Nat → Nat → Int32) (nS : Nat → Nat → Int32) (fS_ : Nat → Nat → Nat → Int32) (size : Int32) (nt : Int32) (ft : Nat → Int32) (fme : Nat → Int32) (ffo : Nat → Int32) (ffd : Nat → Int32) (kn : Int32) (taken : Int32) (known : Int32) (kept : Int32) (len : Int32) (fS : Nat → Int32) (fPast : Nat → Int32) (fSnap : Nat → Int32) (fText : Nat → Int32) (fOne : Nat → Int32) (hR : RelW lie seals folds n f lie2 seals2 folds2 n2 f2 lieS sealsS foldsS nS fS_ size nt ft fme ffo ffd kn taken known kept len fS fPast fSnap fText)  : AG_keep lie seals folds n f lie2 seals2 folds2 n2 f2 lieS sealsS foldsS nS fS_ size nt ft fme ffo ffd kn taken known kept len fS fPast fSnap fText fOne := by
  obtain ⟨hP, hsn, hh, ht, hw⟩ := hR
  have C := pile_copy f2 hP
  have Y := cp_keep fS 335 0 (by omega) 336 fSnap (by omega)
  rw [show nI 0 = 0 from rfl] at Y
  have LE := lengths_ok (g := fOne) hP
  have hT := C.2.congr (g' := (F_X11_keep_L7 fS 336 fSnap 0).1) (fun i hi => (Y.2 i).trans (if_pos ⟨Nat.zero_le _, hi⟩))
  unfold AG_keep
  refine ⟨?_, ?_, ?_, ?_⟩
  · unfold P_X10_keep
    simp only [forall_eq]
    exact ⟨C.1, together_P hP (w := 0) (by omega)⟩
  · unfold P_X11_keep
    simp only [forall_eq]
    exact ⟨Y.1, LE.1⟩
  · unfold F_X10_keep F_X11_keep
    simp only [LE.2]
  · unfold F_X10_keep F_X11_keep
    dsimp only
    exact ⟨hP, ⟨1, by decide, rfl, rfl, fun _ => hT⟩, hh, ht, hw⟩
theorem ag_goBack (lie : Nat → Int32) (seals : Nat → Int32) (folds : Nat → Int32) (n : Nat → Int32) (f : Nat → Nat → Int32) (lie2 : Nat → Int32) (seals2 : Nat → Int32) (folds2 : Nat → Int32) (n2 : Nat → Int32) (f2 : Nat → Nat → Int32) (PS : Nat → Nat) (AS : Nat → Nat) (LS : Nat → Nat → Nat) (hS_ : Nat → Nat → Nat) (vS : Nat → Nat → Nat) (lieS : Nat → Nat → Int32) (sealsS : Nat → Nat → Int32) (foldsS : Nat → Nat → Int32) (nS : Nat → Nat → Int32) (fS_ : Nat → Nat → Nat → Int32) (size : Int32) (nt : Int32) (ft : Nat → Int32) (fme : Nat → Int32) (ffo : Nat → Int32) (ffd : Nat → Int32) (kn : Int32) (taken : Int32) (known : Int32) (kept : Int32) (len : Int32) (fS : Nat → Int32) (fPast : Nat → Int32) (fSnap : Nat → Int32) (fText : Nat → Int32) (fOne : Nat → Int32) (hR : RelW lie seals folds n f lie2 seals2 folds2 n2 f2 lieS sealsS foldsS nS fS_ size nt ft fme ffo ffd kn taken known kept len fS fPast fSnap fText)  : AG_goBack lie seals folds n f lie2 seals2 folds2 n2 f2 PS AS LS hS_ vS lieS sealsS foldsS nS fS_ size nt ft fme ffo ffd kn taken known kept len fS fPast fSnap fText fOne := by
  obtain ⟨hP, ⟨T, hT2, eT1, eT2, hsn⟩, ⟨K, hK, eK1, eK2, hH⟩, ht, hw⟩ := hR
  subst eK1
  subst eK2
  subst eT1
  subst eT2
  unfold AG_goBack
  rcases (show T = 0 ∨ T = 1 by omega) with rfl | rfl
  · have z0 : (nI 0 = 0) = True := eq_true rfl
    right
    refine ⟨rfl, ?_, ?_, ?_⟩
    · unfold P_X11_goBack
      simp only [forall_eq, implies_true, true_implies, false_implies, and_true, true_and, not_true_eq_false, not_false_eq_true, if_true, if_false, i10, i20, i00, le00, le10, le20, thr0, thr1, thr2, z0]
    · unfold F_X11_goBack
      simp only [forall_eq, implies_true, true_implies, false_implies, and_true, true_and, not_true_eq_false, not_false_eq_true, if_true, if_false, i10, i20, i00, le00, le10, le20, thr0, thr1, thr2, z0]
    · unfold F_X11_goBack
      simp only [forall_eq, implies_true, true_implies, false_implies, and_true, true_and, not_true_eq_false, not_false_eq_true, if_true, if_false, i10, i20, i00, le00, le10, le20, thr0, thr1, thr2, z0]
      exact ⟨hP, ⟨0, by decide, rfl, rfl, hsn⟩, ⟨K, hK, rfl, rfl, hH⟩, ht, hw⟩
  · have z1 : (nI 1 = 0) = False := eq_false (by decide)
    have hP2 := hsn rfl
    have PU := push_ok hK (PS := PS) (AS := AS) (LS := LS) (hS_ := hS_) (vS := vS) hP hH
    have SV := saves_ok hK fS fPast
    have C := pile_copy f hP2
    have Y := cp_goBack fSnap 335 0 (by omega) 336 fS (by omega)
    rw [show nI 0 = 0 from rfl] at Y
    have hT := C.2.congr (g' := (F_X11_goBack_L27 fSnap 336 fS 0).1) (fun i hi => (Y.2 i).trans (if_pos ⟨Nat.zero_le _, hi⟩))
    have LE := lengths_ok (g := fOne) hT
    left
    refine ⟨?_, ?_, ?_, ?_, ?_⟩
    · unfold P_X10_goBack
      simp only [forall_eq]
      exact ⟨fun q => absurd q (by decide), fun _ => ⟨PU.1, C.1, together_P hT (w := 0) (by omega)⟩⟩
    · unfold P_X11_goBack
      simp only [forall_eq, implies_true, true_implies, false_implies, and_true, true_and, not_true_eq_false, not_false_eq_true, if_true, if_false, i10, i20, i00, le00, le10, le20, thr0, thr1, thr2, z1]
      exact ⟨SV.1, Y.1, LE.1⟩
    · unfold F_X11_goBack
      simp only [forall_eq, implies_true, true_implies, false_implies, and_true, true_and, not_true_eq_false, not_false_eq_true, if_true, if_false, i10, i20, i00, le00, le10, le20, thr0, thr1, thr2, z1]
    · unfold F_X11_goBack F_X10_goBack
      simp only [forall_eq, implies_true, true_implies, false_implies, and_true, true_and, not_true_eq_false, not_false_eq_true, if_true, if_false, i10, i20, i00, le00, le10, le20, thr0, thr1, thr2, z1, LE.2]
    · unfold F_X11_goBack F_X10_goBack
      simp only [forall_eq, implies_true, true_implies, false_implies, and_true, true_and, not_true_eq_false, not_false_eq_true, if_true, if_false, i10, i20, i00, le00, le10, le20, thr0, thr1, thr2, z1]
      exact ⟨hT, ⟨1, by decide, rfl, rfl, hsn⟩, ⟨_, K6 hK, PU.2.1, SV.2.1, PU.2.2⟩, ht, hw⟩
theorem ag_undo (lie : Nat → Int32) (seals : Nat → Int32) (folds : Nat → Int32) (n : Nat → Int32) (f : Nat → Nat → Int32) (lie2 : Nat → Int32) (seals2 : Nat → Int32) (folds2 : Nat → Int32) (n2 : Nat → Int32) (f2 : Nat → Nat → Int32) (lieS : Nat → Nat → Int32) (sealsS : Nat → Nat → Int32) (foldsS : Nat → Nat → Int32) (nS : Nat → Nat → Int32) (fS_ : Nat → Nat → Nat → Int32) (size : Int32) (nt : Int32) (ft : Nat → Int32) (fme : Nat → Int32) (ffo : Nat → Int32) (ffd : Nat → Int32) (kn : Int32) (taken : Int32) (known : Int32) (kept : Int32) (len : Int32) (fS : Nat → Int32) (fPast : Nat → Int32) (fSnap : Nat → Int32) (fText : Nat → Int32) (hR : RelW lie seals folds n f lie2 seals2 folds2 n2 f2 lieS sealsS foldsS nS fS_ size nt ft fme ffo ffd kn taken known kept len fS fPast fSnap fText)  : AG_undo lie seals folds n f lie2 seals2 folds2 n2 f2 lieS sealsS foldsS nS fS_ size nt ft fme ffo ffd kn taken known kept len fS fPast fSnap fText := by
  obtain ⟨hP, hsn, ⟨K, hK, eK1, eK2, hH⟩, ht, hw⟩ := hR
  subst eK1
  subst eK2
  unfold AG_undo
  rcases Nat.eq_zero_or_pos K with h0 | h0
  · subst h0
    have z0 : (nI 0 ≤ 0) = True := eq_true (by decide)
    right
    refine ⟨fun r e => e, ?_, ?_, ?_⟩
    · unfold P_X11_undo
      simp only [forall_eq, implies_true, true_implies, false_implies, and_true, true_and, not_true_eq_false, not_false_eq_true, if_true, if_false, i10, i20, i00, le00, le10, le20, thr0, thr1, thr2, z0]
    · unfold F_X11_undo
      simp only [forall_eq, implies_true, true_implies, false_implies, and_true, true_and, not_true_eq_false, not_false_eq_true, if_true, if_false, i10, i20, i00, le00, le10, le20, thr0, thr1, thr2, z0]
    · unfold F_X11_undo
      simp only [forall_eq, implies_true, true_implies, false_implies, and_true, true_and, not_true_eq_false, not_false_eq_true, if_true, if_false, i10, i20, i00, le00, le10, le20, thr0, thr1, thr2, z0]
      exact ⟨hP, hsn, ⟨0, by omega, rfl, rfl, hH⟩, ht, hw⟩
  · obtain ⟨M, rfl⟩ : ∃ M, K = M + 1 := ⟨K - 1, by omega⟩
    have z0 := nle0 (M := M) (by omega)
    have n0 : ¬ nI (M + 1) = 0 := fun q => by
      have := (nI_eq (b := 0) (by omega) (by decide)).mp (show nI (M + 1) = nI 0 from q)
      omega
    have PO := pop_ok (K := M) (by omega) (lie := lie) (seals := seals) (folds := folds) (n := n) (f := f) hH
    have Y := cp_undo (K0 := M) (by omega) fPast 335 0 (by omega) 336 fS (by omega)
    rw [show nI 0 = 0 from rfl] at Y
    have hT := PO.2.2.congr (g' := (F_X11_undo_L33 fPast (nI M) 336 fS 0).1) (fun i hi => (Y.2 i).trans (if_pos ⟨Nat.zero_le _, hi⟩))
    left
    refine ⟨?_, ?_, ?_, ?_, ?_⟩
    · unfold P_X10_undo F_X1_size
      simp only [forall_eq]
      exact ⟨fun q => n0 q, fun _ => PO.1⟩
    · unfold P_X11_undo
      simp only [forall_eq, implies_true, true_implies, false_implies, and_true, true_and, not_true_eq_false, not_false_eq_true, if_true, if_false, i10, i20, i00, le00, le10, le20, thr0, thr1, thr2, z0, nI_sub1]
      exact Y.1
    · unfold F_X11_undo
      simp only [forall_eq, implies_true, true_implies, false_implies, and_true, true_and, not_true_eq_false, not_false_eq_true, if_true, if_false, i10, i20, i00, le00, le10, le20, thr0, thr1, thr2, z0, nI_sub1]
    · unfold F_X11_undo F_X10_undo F_X1_size
      simp only [forall_eq, implies_true, true_implies, false_implies, and_true, true_and, not_true_eq_false, not_false_eq_true, if_true, if_false, i10, i20, i00, le00, le10, le20, thr0, thr1, thr2, z0, nI_sub1, n0, PO.2.1]
    · unfold F_X11_undo F_X10_undo F_X1_size
      simp only [forall_eq, implies_true, true_implies, false_implies, and_true, true_and, not_true_eq_false, not_false_eq_true, if_true, if_false, i10, i20, i00, le00, le10, le20, thr0, thr1, thr2, z0, nI_sub1, n0, PO.2.1]
      exact ⟨hT, hsn, ⟨M, by omega, rfl, rfl, fun j hj => hH j (by omega)⟩, ht, hw⟩

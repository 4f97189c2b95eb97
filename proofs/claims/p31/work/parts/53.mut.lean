theorem k00 : ((0 : Int32) = 0) = True := eq_self _
theorem number_P0 (L : Int32) : P_X2_number L 0 := ⟨fun _ => trivial, fun q => absurd rfl q⟩
theorem number_P2 (L : Int32) : P_X2_number L 2 := ⟨fun _ => trivial, fun _ => ⟨fun q => absurd q (by decide), fun _ => ⟨fun _ => trivial, fun q => absurd rfl q⟩⟩⟩
theorem fnum0 (l s fo nn : Int32) : F_X2_number l s fo nn 0 = F_X3_length l := rfl
theorem fnum2 (l s fo nn : Int32) : F_X2_number l s fo nn 2 = nn := rfl
theorem letI_fresh {L : Int32} (hL : L ∈ lies) (f0 : Nat → Int32) : LetI L 0 (nI (lenN L)) (F_X2_rememberLeastWord L f0).2 := by
  have R := remember_ok hL f0
  have h16 := (len_nI hL).2
  have hr := lenN_rev hL
  refine ⟨lenN L, 0, by omega, rfl, fun j hj => ?_, ?_, by decide, rfl, fun p hp h => ?_⟩
  · rw [R.2.2 j hj]; exact word_c4 (lie_rev hL) (by omega)
  · rw [fa_congr (lenN L) (fun j hj => R.2.2 j hj), word_makes hL]
  · rw [Nat.zero_div] at h; exact absurd h (by decide)
theorem letI_press {lie seals n : Int32} {f : Nat → Int32} (h : LetI lie seals n f) (f0 : Nat → Int32) : LetI lie seals (nI (lenN lie)) (F_X2_rememberLeastWord lie f0).2 := by
  have hL := h.lie
  obtain ⟨N, S, _, _, _, _, hS, eS, hs⟩ := h
  have R := remember_ok hL f0
  have h16 := (len_nI hL).2
  have hr := lenN_rev hL
  refine ⟨lenN lie, S, by omega, rfl, fun j hj => ?_, ?_, hS, eS, hs⟩
  · rw [R.2.2 j hj]; exact word_c4 (lie_rev hL) (by omega)
  · rw [fa_congr (lenN lie) (fun j hj => R.2.2 j hj), word_makes hL]
theorem s_fold {st : St} (h : Inv st) {k : Nat} (hk : k < 5) {N : Nat} {c : Int32} (hc : C4 c) (hr : F_X2_reasonAgainst (q_seals st k) (q_n st k) c = 0) (eN : q_n st k = nI N) (hN : N ≤ 60) : P_S_fold st (nI k) c ∧ (F_S_fold st (nI k) c).1 = F_X3_length (F_X3_folded (q_lie st k) c) ∧ Put st (F_S_fold st (nI k) c).2 k (F_X3_folded (q_lie st k) c) (q_seals st k) (q_folds st k + 1) (nI (N + 1)) (upd (q_f st k) N c) := by
  have ck : (nI k).toNatClampNeg = k := nI_clamp (by omega)
  obtain ⟨K, hK, eK⟩ := h.2.1
  have PU := pushP hK (PS := q_PS st) (AS := q_AS st) (LS := q_LS st) (hS_ := q_hS_ st) (vS := q_vS st) (lieS := q_lieS st) (sealsS := q_sealsS st) (foldsS := q_foldsS st) (nS := q_nS st) (fS_ := q_fS_ st) (lie := q_lie st) (seals := q_seals st) (folds := q_folds st) (f := q_f st) h.nok
  rw [← eK] at PU
  have hN' := not_full hr eN hN
  have eO : F_X2_foldOver (q_lie st k) (q_folds st k) (q_n st k) (q_f st k) c = (F_X3_folded (q_lie st k) c, q_folds st k + 1, nI (N + 1), upd (q_f st k) N c) := by
    unfold F_X2_foldOver
    rw [eN]
    simp only [(row_add (q_f st k) c hN').2]
  obtain ⟨pu, epu⟩ : ∃ pu, pu = F_X1_push_G (q_PS st) (q_AS st) (q_LS st) (q_hS_ st) (q_vS st) (q_lieS st) (q_sealsS st) (q_foldsS st) (q_nS st) (q_fS_ st) (q_size st) (q_lie st) (q_seals st) (q_folds st) (q_n st) (q_f st) := ⟨_, rfl⟩
  have key : F_X10_fold (q_lie st) (q_seals st) (q_folds st) (q_n st) (q_f st) (q_PS st) (q_AS st) (q_LS st) (q_hS_ st) (q_vS st) (q_lieS st) (q_sealsS st) (q_foldsS st) (q_nS st) (q_fS_ st) (q_size st) (nI k) c = (F_X3_length (F_X3_folded (q_lie st k) c), va_up (q_lie st) k (F_X3_folded (q_lie st k) c), va_up (q_folds st) k (q_folds st k + 1), va_up (q_n st) k (nI (N + 1)), va_up (q_f st) k (upd (q_f st k) N c), pu.1, pu.2.1, pu.2.2.1, pu.2.2.2.1, pu.2.2.2.2.1, pu.2.2.2.2.2.1, pu.2.2.2.2.2.2.1, pu.2.2.2.2.2.2.2.1, pu.2.2.2.2.2.2.2.2.1, pu.2.2.2.2.2.2.2.2.2.1, pu.2.2.2.2.2.2.2.2.2.2) := by
    unfold F_X10_fold
    simp only [F_X2_reasonAgainst_P, F_X2_foldOver_P, F_X2_number_P, ck, hr, eO, k00, if_true, va_same, fnum0, ← epu]
  refine ⟨?_, ?_, ?_⟩
  · unfold P_S_fold P_X10_fold
    refine ⟨P_atB_k hk, creP hc, kcl hk, ?_⟩
    intro r6 e6
    unfold F_X2_reasonAgainst_P at e6
    rw [ck, hr] at e6
    refine ⟨fun _ => ⟨PU.1, ?_⟩, fun q => absurd e6 q⟩
    intros
    refine ⟨⟨kcl hk, ?_⟩, ?_⟩
    · rw [ck]; intro _ _ _ _; rw [eN]; exact (row_add (q_f st k) c hN').1
    · intros; exact ⟨kcl hk, number_P0 _⟩
  · unfold F_S_fold
    rw [key]
  · unfold F_S_fold
    rw [key]
    obtain ⟨K2, hK2, eK2⟩ := PU.2
    refine ⟨⟨?_, ?_, ?_, ?_, ?_⟩, fun j hj => ⟨?_, ?_, ?_, ?_, ?_⟩, ⟨K2, hK2, ?_⟩, rfl, rfl⟩
    · exact va_same _ _ _
    · exact rfl
    · exact va_same _ _ _
    · exact va_same _ _ _
    · exact va_same _ _ _
    · exact va_ne _ hj
    · exact rfl
    · exact va_ne _ hj
    · exact va_ne _ hj
    · exact va_ne _ hj
    · rw [← epu] at eK2; exact eK2
theorem s_unfold {st : St} (h : Inv st) {k : Nat} (hk : k < 5) {M : Nat} {c : Int32} (hc : C4 c) (ec : q_f st k M = c) (hr : F_X2_touchesSeal (q_seals st k) c = 0) (eN : q_n st k = nI (M + 1)) (hM : M + 1 ≤ 60) : P_S_unfold st (nI k) ∧ (F_S_unfold st (nI k)).1 = c ∧ Put st (F_S_unfold st (nI k)).2 k (F_X3_folded (q_lie st k) c) (q_seals st k) (q_folds st k + 1) (nI M) (q_f st k) := by
  have ck : (nI k).toNatClampNeg = k := nI_clamp (by omega)
  obtain ⟨K, hK, eK⟩ := h.2.1
  have PU := pushP hK (PS := q_PS st) (AS := q_AS st) (LS := q_LS st) (hS_ := q_hS_ st) (vS := q_vS st) (lieS := q_lieS st) (sealsS := q_sealsS st) (foldsS := q_foldsS st) (nS := q_nS st) (fS_ := q_fS_ st) (lie := q_lie st) (seals := q_seals st) (folds := q_folds st) (f := q_f st) h.nok
  rw [← eK] at PU
  have RA := row_at (q_f st k) (j := M) (N := M + 1) (by omega) hM
  have eL : F_X2_latestCrease (q_n st k) (q_f st k) = c := by
    unfold F_X2_latestCrease F_X6_size
    rw [eN]
    simp only [nI_pred]
    rw [RA.2, ec]
  have nc : ¬ c = -10 := by rcases hc with rfl | rfl | rfl | rfl <;> decide
  have eD : F_X6_dropLast (nI (M + 1)) = nI M := by
    unfold F_X6_dropLast
    simp only [if_neg (nI_nle (n := M + 1) (by omega) (by omega)), nI_pred]
  have eO : F_X2_takeBack (q_lie st k) (q_folds st k) (q_n st k) c = (F_X3_folded (q_lie st k) c, q_folds st k + 1, nI M) := by
    unfold F_X2_takeBack
    rw [eN]
    simp only [eD]
  obtain ⟨pu, epu⟩ : ∃ pu, pu = F_X1_push_G (q_PS st) (q_AS st) (q_LS st) (q_hS_ st) (q_vS st) (q_lieS st) (q_sealsS st) (q_foldsS st) (q_nS st) (q_fS_ st) (q_size st) (q_lie st) (q_seals st) (q_folds st) (q_n st) (q_f st) := ⟨_, rfl⟩
  have key : F_X10_unfold (q_lie st) (q_seals st) (q_folds st) (q_n st) (q_f st) (q_PS st) (q_AS st) (q_LS st) (q_hS_ st) (q_vS st) (q_lieS st) (q_sealsS st) (q_foldsS st) (q_nS st) (q_fS_ st) (q_size st) (nI k) = (c, va_up (q_lie st) k (F_X3_folded (q_lie st k) c), va_up (q_folds st) k (q_folds st k + 1), va_up (q_n st) k (nI M), pu.1, pu.2.1, pu.2.2.1, pu.2.2.2.1, pu.2.2.2.2.1, pu.2.2.2.2.2.1, pu.2.2.2.2.2.2.1, pu.2.2.2.2.2.2.2.1, pu.2.2.2.2.2.2.2.2.1, pu.2.2.2.2.2.2.2.2.2.1, pu.2.2.2.2.2.2.2.2.2.2) := by
    unfold F_X10_unfold
    simp only [F_X2_latestCrease_P, F_X2_touchesSeal_P, F_X2_takeBack_P, ck, eL, if_neg nc, hr, eO, k00, if_true, ← epu]
  refine ⟨?_, ?_, ?_⟩
  · unfold P_S_unfold P_X10_unfold
    refine ⟨P_atB_k hk, ⟨kcl hk, ?_⟩, ?_⟩
    · rw [ck]; intro r1 e1; rw [e1, eN]; unfold F_X6_size; rw [nI_pred]; exact RA.1
    intro r4 e4
    unfold F_X2_latestCrease_P at e4
    rw [ck, eL] at e4
    refine ⟨fun q => absurd (e4.symm.trans q) nc, fun _ => ⟨kcl hk, ?_⟩⟩
    intro r7 e7
    unfold F_X2_touchesSeal_P at e7
    rw [ck, e4, hr] at e7
    refine ⟨fun _ => ⟨PU.1, ?_⟩, fun q => absurd e7 q⟩
    intros
    exact kcl hk
  · unfold F_S_unfold
    rw [key]
  · unfold F_S_unfold
    rw [key]
    obtain ⟨K2, hK2, eK2⟩ := PU.2
    refine ⟨⟨?_, ?_, ?_, ?_, ?_⟩, fun j hj => ⟨?_, ?_, ?_, ?_, ?_⟩, ⟨K2, hK2, ?_⟩, rfl, rfl⟩
    · exact va_same _ _ _
    · exact rfl
    · exact va_same _ _ _
    · exact va_same _ _ _
    · exact rfl
    · exact va_ne _ hj
    · exact rfl
    · exact va_ne _ hj
    · exact va_ne _ hj
    · exact rfl
    · rw [← epu] at eK2; exact eK2
theorem s_press {st : St} (h : Inv st) {k : Nat} (hk : k < 5)  : P_S_press st (nI k) ∧ (F_S_press st (nI k)).1 = q_n st k - nI (lenN (q_lie st k)) ∧ Put st (F_S_press st (nI k)).2 k (q_lie st k) (q_seals st k) (q_folds st k) (nI (lenN (q_lie st k))) ((F_X2_rememberLeastWord (q_lie st k) (q_f st k)).2) := by
  have ck : (nI k).toNatClampNeg = k := nI_clamp (by omega)
  obtain ⟨K, hK, eK⟩ := h.2.1
  have PU := pushP hK (PS := q_PS st) (AS := q_AS st) (LS := q_LS st) (hS_ := q_hS_ st) (vS := q_vS st) (lieS := q_lieS st) (sealsS := q_sealsS st) (foldsS := q_foldsS st) (nS := q_nS st) (fS_ := q_fS_ st) (lie := q_lie st) (seals := q_seals st) (folds := q_folds st) (f := q_f st) h.nok
  rw [← eK] at PU
  have RM := remember_ok (h.lie hk) (q_f st k)
  obtain ⟨pu, epu⟩ : ∃ pu, pu = F_X1_push_G (q_PS st) (q_AS st) (q_LS st) (q_hS_ st) (q_vS st) (q_lieS st) (q_sealsS st) (q_foldsS st) (q_nS st) (q_fS_ st) (q_size st) (q_lie st) (q_seals st) (q_folds st) (q_n st) (q_f st) := ⟨_, rfl⟩
  have key : F_X10_press (q_lie st) (q_seals st) (q_folds st) (q_n st) (q_f st) (q_PS st) (q_AS st) (q_LS st) (q_hS_ st) (q_vS st) (q_lieS st) (q_sealsS st) (q_foldsS st) (q_nS st) (q_fS_ st) (q_size st) (nI k) = (q_n st k - nI (lenN (q_lie st k)), va_up (q_n st) k (nI (lenN (q_lie st k))), va_up (q_f st) k (F_X2_rememberLeastWord (q_lie st k) (q_f st k)).2, pu.1, pu.2.1, pu.2.2.1, pu.2.2.2.1, pu.2.2.2.2.1, pu.2.2.2.2.2.1, pu.2.2.2.2.2.2.1, pu.2.2.2.2.2.2.2.1, pu.2.2.2.2.2.2.2.2.1, pu.2.2.2.2.2.2.2.2.2.1, pu.2.2.2.2.2.2.2.2.2.2) := by
    unfold F_X10_press
    simp only [F_X2_rememberLeastWord_P, F_X2_number_P, ck, fnum2, va_same, RM.2.1, ← epu]
  refine ⟨?_, ?_, ?_⟩
  · unfold P_S_press P_X10_press
    refine ⟨P_atB_k hk, PU.1, ?_⟩
    intros
    refine ⟨⟨kcl hk, number_P2 _⟩, ?_⟩
    intros
    refine ⟨⟨kcl hk, ?_⟩, ?_⟩
    · rw [ck]; exact RM.1
    · intros; exact ⟨kcl hk, number_P2 _⟩
  · unfold F_S_press
    rw [key]
  · unfold F_S_press
    rw [key]
    obtain ⟨K2, hK2, eK2⟩ := PU.2
    refine ⟨⟨?_, ?_, ?_, ?_, ?_⟩, fun j hj => ⟨?_, ?_, ?_, ?_, ?_⟩, ⟨K2, hK2, ?_⟩, rfl, rfl⟩
    · exact rfl
    · exact rfl
    · exact rfl
    · exact va_same _ _ _
    · exact va_same _ _ _
    · exact rfl
    · exact rfl
    · exact rfl
    · exact va_ne _ hj
    · exact va_ne _ hj
    · rw [← epu] at eK2; exact eK2
theorem s_smooth {st : St} (h : Inv st) {k : Nat} (hk : k < 5)  : P_S_smooth st (nI k) ∧ (F_S_smooth st (nI k)).1 = F_X3_length (q_lie st k) ∧ Put st (F_S_smooth st (nI k)).2 k (1672) (0) (q_folds st k) (nI (lenN 1672)) ((F_X2_rememberLeastWord 1672 (q_f st k)).2) := by
  have ck : (nI k).toNatClampNeg = k := nI_clamp (by omega)
  obtain ⟨K, hK, eK⟩ := h.2.1
  have PU := pushP hK (PS := q_PS st) (AS := q_AS st) (LS := q_LS st) (hS_ := q_hS_ st) (vS := q_vS st) (lieS := q_lieS st) (sealsS := q_sealsS st) (foldsS := q_foldsS st) (nS := q_nS st) (fS_ := q_fS_ st) (lie := q_lie st) (seals := q_seals st) (folds := q_folds st) (f := q_f st) h.nok
  rw [← eK] at PU
  have hL : 1672 ∈ lies := flat_lie
  have RM := remember_ok hL (q_f st k)
  have eO : F_X2_layAfresh (q_f st k) 1672 = (1672, 0, nI (lenN 1672), (F_X2_rememberLeastWord 1672 (q_f st k)).2) := by
    unfold F_X2_layAfresh
    simp only [RM.2.1]
  obtain ⟨pu, epu⟩ : ∃ pu, pu = F_X1_push_G (q_PS st) (q_AS st) (q_LS st) (q_hS_ st) (q_vS st) (q_lieS st) (q_sealsS st) (q_foldsS st) (q_nS st) (q_fS_ st) (q_size st) (q_lie st) (q_seals st) (q_folds st) (q_n st) (q_f st) := ⟨_, rfl⟩
  have key : F_X10_smooth (q_lie st) (q_seals st) (q_folds st) (q_n st) (q_f st) (q_PS st) (q_AS st) (q_LS st) (q_hS_ st) (q_vS st) (q_lieS st) (q_sealsS st) (q_foldsS st) (q_nS st) (q_fS_ st) (q_size st) (nI k) = (F_X3_length (q_lie st k), va_up (q_lie st) k 1672, va_up (q_seals st) k 0, va_up (q_n st) k (nI (lenN 1672)), va_up (q_f st) k (F_X2_rememberLeastWord 1672 (q_f st k)).2, pu.1, pu.2.1, pu.2.2.1, pu.2.2.2.1, pu.2.2.2.2.1, pu.2.2.2.2.2.1, pu.2.2.2.2.2.2.1, pu.2.2.2.2.2.2.2.1, pu.2.2.2.2.2.2.2.2.1, pu.2.2.2.2.2.2.2.2.2.1, pu.2.2.2.2.2.2.2.2.2.2) := by
    unfold F_X10_smooth
    simp only [F_X2_layAfresh_P, F_X2_number_P, ck, eO, va_same, fnum0, ← epu]
  refine ⟨?_, ?_, ?_⟩
  · unfold P_S_smooth P_X10_smooth
    refine ⟨P_atB_k hk, PU.1, ?_⟩
    intros
    refine ⟨⟨kcl hk, number_P0 _⟩, ?_⟩
    intros
    refine ⟨kcl hk, ?_⟩
    rw [ck]; exact RM.1
  · unfold F_S_smooth
    rw [key]
  · unfold F_S_smooth
    rw [key]
    obtain ⟨K2, hK2, eK2⟩ := PU.2
    refine ⟨⟨?_, ?_, ?_, ?_, ?_⟩, fun j hj => ⟨?_, ?_, ?_, ?_, ?_⟩, ⟨K2, hK2, ?_⟩, rfl, rfl⟩
    · exact va_same _ _ _
    · exact va_same _ _ _
    · exact rfl
    · exact va_same _ _ _
    · exact va_same _ _ _
    · exact va_ne _ hj
    · exact va_ne _ hj
    · exact rfl
    · exact va_ne _ hj
    · exact va_ne _ hj
    · rw [← epu] at eK2; exact eK2
theorem s_product {st : St} (h : Inv st) {k : Nat} (hk : k < 5) {a b : Nat} (ha : a < 5) (hb : b < 5) : P_S_product st (nI k) (nI a) (nI b) ∧ (F_S_product st (nI k) (nI a) (nI b)).1 = F_X3_length (F_X3_joined (q_lie st a) (q_lie st b)) ∧ Put st (F_S_product st (nI k) (nI a) (nI b)).2 k ((F_X3_joined (q_lie st a) (q_lie st b))) (0) (q_folds st k) (nI (lenN (F_X3_joined (q_lie st a) (q_lie st b)))) ((F_X2_rememberLeastWord (F_X3_joined (q_lie st a) (q_lie st b)) (q_f st k)).2) := by
  have ck : (nI k).toNatClampNeg = k := nI_clamp (by omega)
  obtain ⟨K, hK, eK⟩ := h.2.1
  have PU := pushP hK (PS := q_PS st) (AS := q_AS st) (LS := q_LS st) (hS_ := q_hS_ st) (vS := q_vS st) (lieS := q_lieS st) (sealsS := q_sealsS st) (foldsS := q_foldsS st) (nS := q_nS st) (fS_ := q_fS_ st) (lie := q_lie st) (seals := q_seals st) (folds := q_folds st) (f := q_f st) h.nok
  rw [← eK] at PU
  have hL : (F_X3_joined (q_lie st a) (q_lie st b)) ∈ lies := (lie_join (h.lie ha) (h.lie hb)).1
  have RM := remember_ok hL (q_f st k)
  have eO : F_X2_layAfresh (q_f st k) (F_X3_joined (q_lie st a) (q_lie st b)) = ((F_X3_joined (q_lie st a) (q_lie st b)), 0, nI (lenN (F_X3_joined (q_lie st a) (q_lie st b))), (F_X2_rememberLeastWord (F_X3_joined (q_lie st a) (q_lie st b)) (q_f st k)).2) := by
    unfold F_X2_layAfresh
    simp only [RM.2.1]
  have ca : (nI a).toNatClampNeg = a := nI_clamp (by omega)
  have cb : (nI b).toNatClampNeg = b := nI_clamp (by omega)
  obtain ⟨pu, epu⟩ : ∃ pu, pu = F_X1_push_G (q_PS st) (q_AS st) (q_LS st) (q_hS_ st) (q_vS st) (q_lieS st) (q_sealsS st) (q_foldsS st) (q_nS st) (q_fS_ st) (q_size st) (q_lie st) (q_seals st) (q_folds st) (q_n st) (q_f st) := ⟨_, rfl⟩
  have key : F_X10_product (q_lie st) (q_seals st) (q_folds st) (q_n st) (q_f st) (q_PS st) (q_AS st) (q_LS st) (q_hS_ st) (q_vS st) (q_lieS st) (q_sealsS st) (q_foldsS st) (q_nS st) (q_fS_ st) (q_size st) (nI k) (nI a) (nI b) = (F_X3_length (F_X3_joined (q_lie st a) (q_lie st b)), va_up (q_lie st) k (F_X3_joined (q_lie st a) (q_lie st b)), va_up (q_seals st) k 0, va_up (q_n st) k (nI (lenN (F_X3_joined (q_lie st a) (q_lie st b)))), va_up (q_f st) k (F_X2_rememberLeastWord (F_X3_joined (q_lie st a) (q_lie st b)) (q_f st k)).2, pu.1, pu.2.1, pu.2.2.1, pu.2.2.2.1, pu.2.2.2.2.1, pu.2.2.2.2.2.1, pu.2.2.2.2.2.2.1, pu.2.2.2.2.2.2.2.1, pu.2.2.2.2.2.2.2.2.1, pu.2.2.2.2.2.2.2.2.2.1, pu.2.2.2.2.2.2.2.2.2.2) := by
    unfold F_X10_product
    simp only [F_X2_layAfresh_P, F_X2_number_P, ck, eO, va_same, fnum0, ca, cb, F_X2_lie_P, F_X2_lie, ← epu]
  refine ⟨?_, ?_, ?_⟩
  · unfold P_S_product P_X10_product
    refine ⟨P_atB_k hk, P_atB_k ha, kcl ha, ?_⟩
    intro r6 e6
    refine ⟨P_atB_k hb, kcl hb, ?_⟩
    intro r10 e10 r11 e11
    unfold F_X2_lie_P F_X2_lie at e6 e10
    rw [ca] at e6
    rw [cb] at e10
    rw [e6, e10] at e11
    refine ⟨PU.1, ?_⟩
    intros
    refine ⟨⟨kcl hk, ?_⟩, ?_⟩
    · rw [ck, e11]; exact RM.1
    · intros; exact ⟨kcl hk, number_P0 _⟩
  · unfold F_S_product
    rw [key]
  · unfold F_S_product
    rw [key]
    obtain ⟨K2, hK2, eK2⟩ := PU.2
    refine ⟨⟨?_, ?_, ?_, ?_, ?_⟩, fun j hj => ⟨?_, ?_, ?_, ?_, ?_⟩, ⟨K2, hK2, ?_⟩, rfl, rfl⟩
    · exact va_same _ _ _
    · exact va_same _ _ _
    · exact rfl
    · exact va_same _ _ _
    · exact va_same _ _ _
    · exact va_ne _ hj
    · exact va_ne _ hj
    · exact rfl
    · exact va_ne _ hj
    · exact va_ne _ hj
    · rw [← epu] at eK2; exact eK2
theorem s_opposite {st : St} (h : Inv st) {k : Nat} (hk : k < 5) {a : Nat} (ha : a < 5) : P_S_opposite st (nI k) (nI a) ∧ (F_S_opposite st (nI k) (nI a)).1 = F_X3_length (F_X3_reversed (q_lie st a)) ∧ Put st (F_S_opposite st (nI k) (nI a)).2 k ((F_X3_reversed (q_lie st a))) (0) (q_folds st k) (nI (lenN (F_X3_reversed (q_lie st a)))) ((F_X2_rememberLeastWord (F_X3_reversed (q_lie st a)) (q_f st k)).2) := by
  have ck : (nI k).toNatClampNeg = k := nI_clamp (by omega)
  obtain ⟨K, hK, eK⟩ := h.2.1
  have PU := pushP hK (PS := q_PS st) (AS := q_AS st) (LS := q_LS st) (hS_ := q_hS_ st) (vS := q_vS st) (lieS := q_lieS st) (sealsS := q_sealsS st) (foldsS := q_foldsS st) (nS := q_nS st) (fS_ := q_fS_ st) (lie := q_lie st) (seals := q_seals st) (folds := q_folds st) (f := q_f st) h.nok
  rw [← eK] at PU
  have hL : (F_X3_reversed (q_lie st a)) ∈ lies := lie_rev (h.lie ha)
  have RM := remember_ok hL (q_f st k)
  have eO : F_X2_layAfresh (q_f st k) (F_X3_reversed (q_lie st a)) = ((F_X3_reversed (q_lie st a)), 0, nI (lenN (F_X3_reversed (q_lie st a))), (F_X2_rememberLeastWord (F_X3_reversed (q_lie st a)) (q_f st k)).2) := by
    unfold F_X2_layAfresh
    simp only [RM.2.1]
  have ca : (nI a).toNatClampNeg = a := nI_clamp (by omega)
  obtain ⟨pu, epu⟩ : ∃ pu, pu = F_X1_push_G (q_PS st) (q_AS st) (q_LS st) (q_hS_ st) (q_vS st) (q_lieS st) (q_sealsS st) (q_foldsS st) (q_nS st) (q_fS_ st) (q_size st) (q_lie st) (q_seals st) (q_folds st) (q_n st) (q_f st) := ⟨_, rfl⟩
  have key : F_X10_opposite (q_lie st) (q_seals st) (q_folds st) (q_n st) (q_f st) (q_PS st) (q_AS st) (q_LS st) (q_hS_ st) (q_vS st) (q_lieS st) (q_sealsS st) (q_foldsS st) (q_nS st) (q_fS_ st) (q_size st) (nI k) (nI a) = (F_X3_length (F_X3_reversed (q_lie st a)), va_up (q_lie st) k (F_X3_reversed (q_lie st a)), va_up (q_seals st) k 0, va_up (q_n st) k (nI (lenN (F_X3_reversed (q_lie st a)))), va_up (q_f st) k (F_X2_rememberLeastWord (F_X3_reversed (q_lie st a)) (q_f st k)).2, pu.1, pu.2.1, pu.2.2.1, pu.2.2.2.1, pu.2.2.2.2.1, pu.2.2.2.2.2.1, pu.2.2.2.2.2.2.1, pu.2.2.2.2.2.2.2.1, pu.2.2.2.2.2.2.2.2.1, pu.2.2.2.2.2.2.2.2.2.1, pu.2.2.2.2.2.2.2.2.2.2) := by
    unfold F_X10_opposite
    simp only [F_X2_layAfresh_P, F_X2_number_P, ck, eO, va_same, fnum0, ca, F_X2_lie_P, F_X2_lie, ← epu]
  refine ⟨?_, ?_, ?_⟩
  · unfold P_S_opposite P_X10_opposite
    refine ⟨P_atB_k hk, P_atB_k ha, kcl ha, ?_⟩
    intro r6 e6 r7 e7
    unfold F_X2_lie_P F_X2_lie at e6
    rw [ca] at e6
    rw [e6] at e7
    refine ⟨PU.1, ?_⟩
    intros
    refine ⟨⟨kcl hk, ?_⟩, ?_⟩
    · rw [ck, e7]; exact RM.1
    · intros; exact ⟨kcl hk, number_P0 _⟩
  · unfold F_S_opposite
    rw [key]
  · unfold F_S_opposite
    rw [key]
    obtain ⟨K2, hK2, eK2⟩ := PU.2
    refine ⟨⟨?_, ?_, ?_, ?_, ?_⟩, fun j hj => ⟨?_, ?_, ?_, ?_, ?_⟩, ⟨K2, hK2, ?_⟩, rfl, rfl⟩
    · exact va_same _ _ _
    · exact va_same _ _ _
    · exact rfl
    · exact va_same _ _ _
    · exact va_same _ _ _
    · exact va_ne _ hj
    · exact va_ne _ hj
    · exact rfl
    · exact va_ne _ hj
    · exact va_ne _ hj
    · rw [← epu] at eK2; exact eK2
theorem s_seal {st : St} (h : Inv st) {k : Nat} (hk : k < 5) {p : Nat} (hp : p < 4) (hs : F_X2_isSealed (q_seals st k) (nI p) = 0 → ¬ F_X3_isHome (q_lie st k) (nI p) = 0) : P_S_seal st (nI k) (nI p) ∧ (F_S_seal st (nI k) (nI p)).1 = F_X2_sealed (F_X2_changeSeal (q_seals st k) (nI p)) ∧ Put st (F_S_seal st (nI k) (nI p)).2 k (q_lie st k) (F_X2_changeSeal (q_seals st k) (nI p)) (q_folds st k) (q_n st k) (q_f st k) := by
  have ck : (nI k).toNatClampNeg = k := nI_clamp (by omega)
  obtain ⟨K, hK, eK⟩ := h.2.1
  have PU := pushP hK (PS := q_PS st) (AS := q_AS st) (LS := q_LS st) (hS_ := q_hS_ st) (vS := q_vS st) (lieS := q_lieS st) (sealsS := q_sealsS st) (foldsS := q_foldsS st) (nS := q_nS st) (fS_ := q_fS_ st) (lie := q_lie st) (seals := q_seals st) (folds := q_folds st) (f := q_f st) h.nok
  rw [← eK] at PU
  obtain ⟨pu, epu⟩ : ∃ pu, pu = F_X1_push_G (q_PS st) (q_AS st) (q_LS st) (q_hS_ st) (q_vS st) (q_lieS st) (q_sealsS st) (q_foldsS st) (q_nS st) (q_fS_ st) (q_size st) (q_lie st) (q_seals st) (q_folds st) (q_n st) (q_f st) := ⟨_, rfl⟩
  have key : F_X10_seal (q_lie st) (q_seals st) (q_folds st) (q_n st) (q_f st) (q_PS st) (q_AS st) (q_LS st) (q_hS_ st) (q_vS st) (q_lieS st) (q_sealsS st) (q_foldsS st) (q_nS st) (q_fS_ st) (q_size st) (nI k) (nI p) = (F_X2_sealed (F_X2_changeSeal (q_seals st k) (nI p)), va_up (q_seals st) k (F_X2_changeSeal (q_seals st k) (nI p)), pu.1, pu.2.1, pu.2.2.1, pu.2.2.2.1, pu.2.2.2.2.1, pu.2.2.2.2.2.1, pu.2.2.2.2.2.2.1, pu.2.2.2.2.2.2.2.1, pu.2.2.2.2.2.2.2.2.1, pu.2.2.2.2.2.2.2.2.2.1, pu.2.2.2.2.2.2.2.2.2.2) := by
    unfold F_X10_seal
    by_cases q : F_X2_isSealed (q_seals st k) (nI p) = 0
    · simp only [F_X2_isSealed_P, F_X2_lie_P, F_X2_lie, F_X2_changeSeal_P, F_X2_sealed_P, ck, va_same, ← epu, if_pos q, if_neg (hs q)]
    · simp only [F_X2_isSealed_P, F_X2_lie_P, F_X2_lie, F_X2_changeSeal_P, F_X2_sealed_P, ck, va_same, ← epu, if_neg q]
  refine ⟨?_, ?_, ?_⟩
  · unfold P_S_seal P_X10_seal
    refine ⟨P_atB_k hk, posP hp, kcl hk, ?_⟩
    intro r6 e6
    unfold F_X2_isSealed_P at e6
    rw [ck] at e6
    refine ⟨fun q => ⟨kcl hk, ?_⟩, fun _ => ⟨PU.1, ?_⟩⟩
    · intro r27 e27 r28 e28
      unfold F_X2_lie_P F_X2_lie at e27
      rw [ck] at e27
      rw [e27] at e28
      have hn := hs (e6.symm.trans q)
      rw [← e28] at hn
      refine ⟨fun z => absurd z hn, fun _ => ⟨PU.1, ?_⟩⟩
      intros
      refine ⟨kcl hk, ?_⟩
      intros; exact kcl hk
    · intros
      refine ⟨kcl hk, ?_⟩
      intros; exact kcl hk
  · unfold F_S_seal
    rw [key]
  · unfold F_S_seal
    rw [key]
    obtain ⟨K2, hK2, eK2⟩ := PU.2
    refine ⟨⟨?_, ?_, ?_, ?_, ?_⟩, fun j hj => ⟨?_, ?_, ?_, ?_, ?_⟩, ⟨K2, hK2, ?_⟩, rfl, rfl⟩
    · exact rfl
    · exact va_same _ _ _
    · exact rfl
    · exact rfl
    · exact rfl
    · exact rfl
    · exact va_ne _ hj
    · exact rfl
    · exact rfl
    · exact rfl
    · rw [← epu] at eK2; exact eK2

theorem low5 (x : Int32) : ∃ k, k < 5 ∧ F_L_low_5 x = nI k := by
  obtain ⟨j, hj, e⟩ := pk_andE x (m := 2147483647) 31 (by decide)
  refine ⟨j % 5, Nat.mod_lt _ (by decide), ?_⟩
  unfold F_L_low_5
  rw [e]
  exact pk_rem (d := 5) hj (by decide) (by decide)
theorem and3 (x : Int32) : ∃ c, c < 4 ∧ x &&& 3 = nI c := by
  obtain ⟨j, hj, e⟩ := pk_andE x (m := 3) 2 (by decide)
  exact ⟨j, hj, e⟩
def unt (c : Int32) (p : Nat) : Bool := if c = 0 then decide (p ≠ 0) else decide (nI p ≠ c - 1) && decide (nI p ≠ c)
theorem pf_unt : allL (fun L => c4.all (fun c => p4.all (fun p => !unt c p || decide (lay (F_X3_folded L c) p = lay L p)))) = true := by decide +kernel
theorem pf_tou : (List.range 16).all (fun S => c4.all (fun c => p4.all (fun p => !decide (F_X2_touchesSeal (nI S) c = 0) || !decide (S / 2 ^ p % 2 = 1) || unt c p))) = true := by decide +kernel
theorem untouched {S : Nat} (hS : S < 16) {L c : Int32} (hL : L ∈ lies) (hc : C4 c) (ht : F_X2_touchesSeal (nI S) c = 0) {p : Nat} (hp : p < 4) (hb : S / 2 ^ p % 2 = 1) : lay (F_X3_folded L c) p = lay L p := by
  have h1 := p4_of (c4_of (List.all_eq_true.mp pf_tou S (List.mem_range.mpr hS)) hc) hp
  have h2 := p4_of (c4_of (allL_of pf_unt hL) hc) hp
  simp only [Bool.or_eq_true, Bool.not_eq_true', decide_eq_false_iff_not, decide_eq_true_eq] at h1 h2
  have h3 := (h1.resolve_left (fun q => q.elim (fun z => z ht) (fun z => z hb)))
  exact h2.resolve_left (fun z => by rw [h3] at z; exact absurd z (by decide))
theorem reason_touch {s n c : Int32} (h : F_X2_reasonAgainst s n c = 0) : F_X2_touchesSeal s c = 0 := by
  unfold F_X2_reasonAgainst at h
  dsimp only at h
  by_cases q : F_X6_isFull n = 0
  · rw [if_pos q] at h
    by_cases r : F_X2_touchesSeal s c = 0
    · exact r
    · rw [if_neg r] at h; exact absurd h (by decide)
  · rw [if_neg q] at h; exact absurd h (by decide)
theorem letI_fold {l s nn c : Int32} {f : Nat → Int32} {N : Nat} (h : LetI l s nn f) (hc : C4 c) (hr : F_X2_reasonAgainst s nn c = 0) (eN : nn = nI N) (hN : N ≤ 60) : LetI (F_X3_folded l c) s (nI (N + 1)) (upd f N c) := by
  have hL := h.lie
  have hN' := not_full hr eN hN
  obtain ⟨N2, S, hN2, eN2, hC, eL, hS, eS, hs⟩ := h
  have e : N2 = N := by
    rw [eN] at eN2
    exact ((nI_eq (by omega) (by omega)).mp eN2).symm
  subst e
  refine ⟨N2 + 1, S, by omega, rfl, fun j hj => ?_, ?_, hS, eS, fun p hp hb => ?_⟩
  · by_cases q : j = N2
    · rw [q, upd_same]; exact hc
    · rw [upd_ne _ q]; exact hC j (by omega)
  · rw [fa, upd_same, fa_congr (g := f) N2 (fun j hj => upd_ne _ (by omega)), ← eL]
  · have ht := reason_touch hr
    rw [eS] at ht
    rw [untouched hS hL hc ht hp hb]
    exact hs p hp hb
theorem letI_unfold {l s c : Int32} {f : Nat → Int32} {M : Nat} (h : LetI l s (nI (M + 1)) f) (hM : M + 1 ≤ 60) (ec : f M = c) (ht : F_X2_touchesSeal s c = 0) : LetI (F_X3_folded l c) s (nI M) f := by
  have hL := h.lie
  obtain ⟨N2, S, hN2, eN2, hC, eL, hS, eS, hs⟩ := h
  have e : M + 1 = N2 := (nI_eq (by omega) (by omega)).mp eN2
  subst e
  have hc : C4 c := by rw [← ec]; exact hC M (by omega)
  refine ⟨M, S, by omega, rfl, fun j hj => hC j (by omega), ?_, hS, eS, fun p hp hb => ?_⟩
  · rw [eL, fa, ec]
    exact fold_fold (fa_lie M (fun j hj => hC j (by omega))) hc
  · rw [eS] at ht
    rw [untouched hS hL hc ht hp hb]
    exact hs p hp hb
theorem pf_seal : (List.range 16).all (fun S => p4.all (fun p => decide (F_X2_isSealed (nI S) (nI p) = nI (S / 2 ^ p % 2)) && decide (F_X2_changeSeal (nI S) (nI p) = nI (S ^^^ 2 ^ p)) && decide (S ^^^ 2 ^ p < 16) && (if S / 2 ^ p % 2 = 0 then decide (F_X2_sealed (F_X2_changeSeal (nI S) (nI p)) = F_L_ones (nI S) + 1) else decide (F_X2_sealed (F_X2_changeSeal (nI S) (nI p)) = F_L_ones (nI S) - 1)) && p4.all (fun q => !decide ((S ^^^ 2 ^ p) / 2 ^ q % 2 = 1) || (decide (q = p) && decide (S / 2 ^ p % 2 = 0)) || decide (S / 2 ^ q % 2 = 1)))) = true := by decide +kernel
theorem pf_homeP : allL (fun L => p4.all (fun p => (decide (F_X3_isHome L (nI p) = 0)) == !(decide (lay L p = nI (p + 1))))) = true := by decide +kernel
theorem home_iff {L : Int32} (hL : L ∈ lies) {p : Nat} (hp : p < 4) : ¬ F_X3_isHome L (nI p) = 0 ↔ lay L p = nI (p + 1) := by
  have h := p4_of (allL_of pf_homeP hL) hp
  rw [beq_iff_eq] at h
  by_cases q : lay L p = nI (p + 1)
  · rw [decide_eq_true q] at h
    exact ⟨fun _ => q, fun _ => of_decide_eq_false h⟩
  · rw [decide_eq_false q] at h
    exact ⟨fun z => absurd (of_decide_eq_true h) z, fun z => absurd z q⟩
theorem seal_tab {S p : Nat} (hS : S < 16) (hp : p < 4) : F_X2_isSealed (nI S) (nI p) = nI (S / 2 ^ p % 2) ∧ F_X2_changeSeal (nI S) (nI p) = nI (S ^^^ 2 ^ p) ∧ S ^^^ 2 ^ p < 16 ∧ (S / 2 ^ p % 2 = 0 → F_X2_sealed (F_X2_changeSeal (nI S) (nI p)) = F_L_ones (nI S) + 1) ∧ (¬ S / 2 ^ p % 2 = 0 → F_X2_sealed (F_X2_changeSeal (nI S) (nI p)) = F_L_ones (nI S) - 1) ∧ ∀ q, q < 4 → (S ^^^ 2 ^ p) / 2 ^ q % 2 = 1 → (q = p ∧ S / 2 ^ p % 2 = 0) ∨ S / 2 ^ q % 2 = 1 := by
  have h := p4_of (List.all_eq_true.mp pf_seal S (List.mem_range.mpr hS)) hp
  rw [Bool.and_eq_true, Bool.and_eq_true, Bool.and_eq_true, Bool.and_eq_true] at h
  obtain ⟨⟨⟨⟨h1, h2⟩, h3⟩, h4⟩, h5⟩ := h
  refine ⟨of_decide_eq_true h1, of_decide_eq_true h2, of_decide_eq_true h3, fun z => ?_, fun z => ?_, fun q hq hb => ?_⟩
  · rw [if_pos z] at h4; exact of_decide_eq_true h4
  · rw [if_neg z] at h4; exact of_decide_eq_true h4
  · have h6 := p4_of h5 hq
    simp only [Bool.or_eq_true, Bool.and_eq_true, Bool.not_eq_true', decide_eq_false_iff_not, decide_eq_true_eq] at h6
    rcases h6 with (h6 | h6) | h6
    · exact absurd hb h6
    · exact Or.inl h6
    · exact Or.inr h6
theorem letI_seal {l s nn : Int32} {f : Nat → Int32} {p : Nat} (h : LetI l s nn f) (hp : p < 4) (hh : F_X2_isSealed s (nI p) = 0 → ¬ F_X3_isHome l (nI p) = 0) : LetI l (F_X2_changeSeal s (nI p)) nn f := by
  have hL := h.lie
  obtain ⟨N, S, hN, eN, hC, eL, hS, eS, hs⟩ := h
  obtain ⟨t1, t2, t3, -, -, t6⟩ := seal_tab hS hp
  rw [eS]
  rw [eS] at hh
  refine ⟨N, S ^^^ 2 ^ p, hN, eN, hC, eL, t3, t2, fun q hq hb => ?_⟩
  rcases t6 q hq hb with ⟨rfl, z⟩ | z
  · exact (home_iff hL hp).mp (hh (by rw [t1, z]; rfl))
  · exact hs q hq z
theorem i_fold {st : St} (h : Inv st) {k : Nat} (hk : k < 5) {c : Int32} (hc : C4 c) (hr : F_X2_reasonAgainst (q_seals st k) (q_n st k) c = 0) : Inv (F_S_fold st (nI k) c).2 := by
  obtain ⟨N, hN, eN⟩ := h.nok k hk
  exact h.put (s_fold h hk hc hr eN hN).2.2 (letI_fold (h.1 k hk) hc hr eN hN)
theorem i_unfold {st : St} (h : Inv st) {k M : Nat} (hk : k < 5) {c : Int32} (ec : q_f st k M = c) (eN : q_n st k = nI (M + 1)) (hM : M + 1 ≤ 60) (ht : F_X2_touchesSeal (q_seals st k) c = 0) : Inv (F_S_unfold st (nI k)).2 := by
  have hl := h.1 k hk
  rw [eN] at hl
  have hc : C4 c := by
    obtain ⟨N2, S, hN2, eN2, hC, _⟩ := hl
    have e : M + 1 = N2 := (nI_eq (by omega) (by omega)).mp eN2
    rw [← ec]
    exact hC M (by omega)
  exact h.put (s_unfold h hk hc ec ht eN hM).2.2 (letI_unfold hl hM ec ht)
theorem i_press {st : St} (h : Inv st) {k : Nat} (hk : k < 5) : Inv (F_S_press st (nI k)).2 := h.put (s_press h hk).2.2 (letI_press (h.1 k hk) _)
theorem i_smooth {st : St} (h : Inv st) {k : Nat} (hk : k < 5) : Inv (F_S_smooth st (nI k)).2 := h.put (s_smooth h hk).2.2 (letI_fresh flat_lie _)
theorem i_product {st : St} (h : Inv st) {k a b : Nat} (hk : k < 5) (ha : a < 5) (hb : b < 5) : Inv (F_S_product st (nI k) (nI a) (nI b)).2 := h.put (s_product h hk ha hb).2.2 (letI_fresh (lie_join (h.lie ha) (h.lie hb)).1 _)
theorem i_opposite {st : St} (h : Inv st) {k a : Nat} (hk : k < 5) (ha : a < 5) : Inv (F_S_opposite st (nI k) (nI a)).2 := h.put (s_opposite h hk ha).2.2 (letI_fresh (lie_rev (h.lie ha)) _)
theorem i_seal {st : St} (h : Inv st) {k p : Nat} (hk : k < 5) (hp : p < 4) (hs : F_X2_isSealed (q_seals st k) (nI p) = 0 → ¬ F_X3_isHome (q_lie st k) (nI p) = 0) : Inv (F_S_seal st (nI k) (nI p)).2 := h.put (s_seal h hk hp hs).2.2 (letI_seal (h.1 k hk) hp hs)
theorem le0_zero {r : Int32} (h : r = 0 ∨ r = 1 ∨ r = 2) (q : r ≤ 0) : r = 0 := by
  rcases h with h | h | h
  · exact h
  · rw [h] at q; exact absurd q (by decide)
  · rw [h] at q; exact absurd q (by decide)
/-- which crease is the latest, and whether it touches, as the law tells it -/
theorem last_ok {st : St} (h : Inv st) {k : Nat} (hk : k < 5) {x35 x42 : Int32} (e35 : x35 = (if q_n st k = 0 then (-10) else F_S_crease st (nI k) (q_n st k - 1))) (e42 : x42 = (if x35 = 0 then (if (q_seals st k &&& 1) = 1 then 1 else 0) else (if x35 ≤ 0 then 0 else (if ((q_seals st k >>> ((x35 - 1) &&& 31)) &&& 3) = 0 then 0 else 1)))) : x35 = -10 ∨ ∃ M, M + 1 ≤ 60 ∧ q_n st k = nI (M + 1) ∧ C4 x35 ∧ q_f st k M = x35 ∧ x42 = F_X2_touchesSeal (q_seals st k) x35 := by
  obtain ⟨N, S, hN, eN, hC, eL, hS, eS, hs⟩ := h.1 k hk
  cases N with
  | zero => left; rw [e35, eN]; rfl
  | succ M =>
    right
    have n0 : ¬ nI (M + 1) = 0 := nI_ne0 (by omega) (by omega)
    have e1 : x35 = q_f st k M := by
      rw [e35, eN, if_neg n0, nI_pred, s_crease_F st hk, eN]
      exact (row_at (q_f st k) (by omega) hN).2
    have hc : C4 x35 := by rw [e1]; exact hC M (by omega)
    refine ⟨M, hN, eN, hc, e1.symm, ?_⟩
    rw [e42, eS]
    by_cases q : x35 = 0
    · rw [if_pos q, q, touch0 hS]
    · have q2 : ¬ x35 ≤ 0 := by rcases hc with z | z | z | z <;> (rw [z] at q ⊢; first | exact absurd rfl q | decide)
      rw [if_neg q, if_neg q2, touch1 hS hc q]
set_option maxRecDepth 20000 in
set_option maxHeartbeats 4000000 in
/-- the law's turns: each says what it should -/
theorem does_P {st : St} (h : Inv st) (v_ w_ : Int32) : P_L_does st v_ w_ := by
  unfold P_L_does
  intro r1 e_r1
  obtain ⟨k, hk, ek⟩ := low5 (v_ >>> ((5 : Int32) &&& 31))
  rw [ek] at e_r1
  have q := e_r1.symm; subst q
  obtain ⟨N, S, hN, eN, hC, eL, hS, eS, hs⟩ := h.1 k hk
  have hL := h.lie hk
  have lN := len_nI hL
  intro x2 e_x2
  obtain ⟨c, hc, ec⟩ := and3 (v_ >>> ((8 : Int32) &&& 31))
  rw [ec] at e_x2
  have c4x : C4 x2 := by rw [e_x2]; exact c4_nI hc
  refine ⟨?_, ?_⟩
  · exact rdP2 h hk
  intro r4 e_r4
  replace e_r4 := (e_r4.trans (rd2 st hk)).trans eN
  refine ⟨?_, ?_⟩
  · exact rdP10 h hk
  intro r6 e_r6
  replace e_r6 := e_r6.trans (rd10 st hk)
  refine ⟨?_, ?_⟩
  · exact rdP0 h hk
  intro r8 e_r8
  replace e_r8 := (e_r8.trans (rd0 st hk)).trans lN.1
  intro r9 e_r9
  refine ⟨fun c148 => ?_, fun c148 => ?_⟩
  · refine ⟨?_, ?_⟩
    · exact s_why_P hk c4x
    intro r11 e_r11
    replace e_r11 := e_r11.trans (s_why_F st hk)
    have w12 : F_X2_reasonAgainst (q_seals st k) (q_n st k) x2 = 0 ∨ F_X2_reasonAgainst (q_seals st k) (q_n st k) x2 = 1 ∨ F_X2_reasonAgainst (q_seals st k) (q_n st k) x2 = 2 := by rw [eS, eN]; exact why_012 hN
    refine ⟨fun c149 => ?_, fun c149 => ?_⟩
    · have hr := le0_zero w12 (by rw [← e_r11]; exact c149)
      have hN' := not_full hr eN hN
      have SF := s_fold h hk c4x hr eN hN
      refine ⟨?_, ?_⟩
      · exact s_if_P hk c4x
      intro r14 e_r14
      replace e_r14 := e_r14.trans (s_if_F st hk)
      refine ⟨?_, ?_⟩
      · exact SF.1
      intro r16 e_r16
      replace e_r16 := e_r16.trans SF.2.1
      intro x17 e_x17
      have u := SF.2.2
      have h17 := i_fold h hk c4x hr
      rw [← e_x17] at u h17
      refine ⟨?_, ?_⟩
      · exact e_r16.trans e_r14.symm
      refine ⟨?_, ?_⟩
      · exact rdP2 h17 hk
      intro r20 e_r20
      replace e_r20 := (e_r20.trans (rd2 x17 hk)).trans u.1.2.2.2.1
      refine ⟨?_, ?_⟩
      · rw [e_r20, e_r4, nI_1]
      refine ⟨?_, ?_⟩
      · rw [e_r4]
        exact s_crease_P hk u.1.2.2.2.1 (by omega) (by omega)
      intro r23 e_r23
      rw [e_r4, s_crease_F x17 hk, u.1.2.2.2.1, u.1.2.2.2.2, (row_at (upd (q_f st k) N x2) (N := N + 1) (by omega) (by omega)).2, upd_same] at e_r23
      refine ⟨?_, ?_⟩
      · exact e_r23
      refine ⟨?_, ?_⟩
      · exact rdP10 h17 hk
      intro r26 e_r26
      replace e_r26 := (e_r26.trans (rd10 x17 hk)).trans u.1.2.2.1
      rw [e_r26, e_r6]
    · refine ⟨fun c150 => trivial, fun c150 => ?_⟩
      · refine ⟨?_, ?_⟩
        · exact rdP7 h hk
        intro r30 e_r30
        replace e_r30 := (e_r30.trans (rd7 st hk)).trans eS
        rw [e_r30]
        refine nI_nle (Nat.pos_of_ne_zero (fun z => ?_)) (by omega)
        refine c149 ?_
        rw [e_r11, eS, eN, z, why_eq hN, if_neg (by rw [← e_r4]; exact c150)]
        rcases c4x with z | z | z | z <;> (rw [z]; decide +kernel)
  refine ⟨fun c151 => ?_, fun c151 => ?_⟩
  · refine ⟨?_, ?_⟩
    · refine ⟨fun c152 => trivial, fun c152 => ?_⟩
      · have n0 := c152
        rw [e_r4] at n0 ⊢
        cases N with
        | zero => exact absurd rfl n0
        | succ M => rw [nI_pred]; exact s_crease_P hk eN hN (by omega)
    intro x35 e_x35
    rw [e_r4, ← eN] at e_x35
    refine ⟨?_, ?_⟩
    · exact rdP7 h hk
    intro r37 e_r37
    replace e_r37 := e_r37.trans (rd7 st hk)
    intro x42 e_x42
    rw [e_r37] at e_x42
    have LO := last_ok h hk e_x35 e_x42
    refine ⟨fun c153 => trivial, fun c153 => ?_⟩
    · refine ⟨fun c154 => ?_, fun c154 => trivial⟩
      · rcases LO with LO | ⟨M, z0, z1, z2, z3, z4⟩
        · exact absurd (by rw [LO]; decide) c153
        have ht : F_X2_touchesSeal (q_seals st k) x35 = 0 := by rw [← z4]; exact c154
        have SU := s_unfold h hk z2 z3 ht z1 z0
        refine ⟨?_, ?_⟩
        · exact SU.1
        intro r46 e_r46
        replace e_r46 := e_r46.trans SU.2.1
        intro x47 e_x47
        have u := SU.2.2
        have h47 := i_unfold h hk z3 z1 z0 ht
        rw [← e_x47] at u h47
        refine ⟨?_, ?_⟩
        · exact e_r46
        refine ⟨?_, ?_⟩
        · exact rdP2 h47 hk
        intro r50 e_r50
        replace e_r50 := (e_r50.trans (rd2 x47 hk)).trans u.1.2.2.2.1
        refine ⟨?_, ?_⟩
        · rw [e_r50, e_r4, ← eN, z1, nI_pred]
        refine ⟨?_, ?_⟩
        · exact rdP10 h47 hk
        intro r53 e_r53
        replace e_r53 := (e_r53.trans (rd10 x47 hk)).trans u.1.2.2.1
        rw [e_r53, e_r6]
  refine ⟨fun c155 => ?_, fun c155 => ?_⟩
  · have SP := s_press h hk
    refine ⟨?_, ?_⟩
    · exact (s_press h hk).1
    intro r57 e_r57
    replace e_r57 := e_r57.trans SP.2.1
    intro x58 e_x58
    have u := SP.2.2
    have h58 := i_press h hk
    rw [← e_x58] at u h58
    have SP2 := s_press h58 hk
    refine ⟨?_, ?_⟩
    · rw [e_r57, e_r4, e_r8, eN]
    refine ⟨?_, ?_⟩
    · exact rdP2 h58 hk
    intro r61 e_r61
    replace e_r61 := (e_r61.trans (rd2 x58 hk)).trans u.1.2.2.2.1
    refine ⟨?_, ?_⟩
    · rw [e_r61, e_r8]
    refine ⟨?_, ?_⟩
    · exact rdP10 h58 hk
    intro r64 e_r64
    replace e_r64 := (e_r64.trans (rd10 x58 hk)).trans u.1.2.2.1
    refine ⟨?_, ?_⟩
    · rw [e_r64, e_r6]
    refine ⟨?_, ?_⟩
    · exact SP2.1
    intro r67 e_r67
    replace e_r67 := e_r67.trans SP2.2.1
    rw [u.1.2.2.2.1, u.1.1] at e_r67
    intro x68 e_x68
    rw [e_r67]
    exact Int32.sub_self _
  refine ⟨fun c156 => ?_, fun c156 => ?_⟩
  · have SM := s_smooth h hk
    refine ⟨fun c157 => ?_, fun c157 => trivial⟩
    · refine ⟨?_, ?_⟩
      · exact (s_smooth h hk).1
      intro r72 e_r72
      replace e_r72 := e_r72.trans SM.2.1
      intro x73 e_x73
      have u := SM.2.2
      have h73 := i_smooth h hk
      rw [← e_x73] at u h73
      refine ⟨?_, ?_⟩
      · rw [e_r72, e_r8, lN.1]
      refine ⟨?_, ?_⟩
      · exact rdP0 h73 hk
      intro r76 e_r76
      replace e_r76 := (e_r76.trans (rd0 x73 hk)).trans (congrArg F_X3_length u.1.1)
      refine ⟨?_, ?_⟩
      · rw [e_r76]
        exact (len0 flat_lie).mpr rfl
      refine ⟨?_, ?_⟩
      · exact rdP2 h73 hk
      intro r79 e_r79
      replace e_r79 := (e_r79.trans (rd2 x73 hk)).trans u.1.2.2.2.1
      refine ⟨?_, ?_⟩
      · rw [e_r79, (lenN0 flat_lie).mpr rfl]
        rfl
      refine ⟨?_, ?_⟩
      · exact rdP7 h73 hk
      intro r82 e_r82
      replace e_r82 := (e_r82.trans (rd7 x73 hk)).trans u.1.2.1
      exact e_r82
  refine ⟨fun c158 => ?_, fun c158 => ?_⟩
  · intro r85 e_r85
    obtain ⟨a, ha, ea⟩ := low5 w_
    rw [ea] at e_r85
    have q := e_r85.symm; subst q
    intro r86 e_r86
    obtain ⟨b, hb, eb⟩ := low5 (w_ >>> ((3 : Int32) &&& 31))
    rw [eb] at e_r86
    have q := e_r86.symm; subst q
    have SQ := s_product h hk ha hb
    have la := len_nI (h.lie ha)
    have lb := len_nI (h.lie hb)
    have lj := len_nI (lie_join (h.lie ha) (h.lie hb)).1
    have lp := len_join (h.lie ha) (h.lie hb)
    refine ⟨?_, ?_⟩
    · exact rdP0 h ha
    intro r88 e_r88
    replace e_r88 := (e_r88.trans (rd0 st ha)).trans la.1
    refine ⟨?_, ?_⟩
    · exact rdP0 h hb
    intro r90 e_r90
    replace e_r90 := (e_r90.trans (rd0 st hb)).trans lb.1
    intro x91 e_x91
    refine ⟨?_, ?_⟩
    · exact SQ.1
    intro r93 e_r93
    replace e_r93 := (e_r93.trans SQ.2.1).trans lj.1
    intro x94 e_x94
    have u := SQ.2.2
    have h94 := i_product h hk ha hb
    rw [← e_x94] at u h94
    refine ⟨?_, ?_⟩
    · exact rdP0 h94 hk
    intro r96 e_r96
    replace e_r96 := ((e_r96.trans (rd0 x94 hk)).trans (congrArg F_X3_length u.1.1)).trans lj.1
    refine ⟨?_, ?_⟩
    · exact e_r93.trans e_r96.symm
    refine ⟨?_, ?_⟩
    · rw [e_x91, e_r93, e_r88, e_r90, nI_add, rem2 (by omega), rem2 (by omega)]
      congr 1
      omega
    refine ⟨?_, ?_⟩
    · exact rdP2 h94 hk
    intro r100 e_r100
    replace e_r100 := (e_r100.trans (rd2 x94 hk)).trans u.1.2.2.2.1
    exact e_r100.trans e_r93.symm
  refine ⟨fun c159 => ?_, fun c159 => ?_⟩
  · intro r102 e_r102
    obtain ⟨a, ha, ea⟩ := low5 w_
    rw [ea] at e_r102
    have q := e_r102.symm; subst q
    have SO := s_opposite h hk ha
    refine ⟨?_, ?_⟩
    · exact rdP0 h ha
    intro r104 e_r104
    replace e_r104 := e_r104.trans (rd0 st ha)
    refine ⟨?_, ?_⟩
    · exact SO.1
    intro r106 e_r106
    replace e_r106 := (e_r106.trans SO.2.1).trans (rev_len (h.lie ha))
    intro x107 e_x107
    have u := SO.2.2
    have h107 := i_opposite h hk ha
    rw [← e_x107] at u h107
    refine ⟨?_, ?_⟩
    · exact e_r106.trans e_r104.symm
    refine ⟨?_, ?_⟩
    · exact rdP7 h107 hk
    intro r110 e_r110
    replace e_r110 := (e_r110.trans (rd7 x107 hk)).trans u.1.2.1
    exact e_r110
  refine ⟨fun c160 => ?_, fun c160 => ?_⟩
  · intro x112 e_x112
    obtain ⟨p, hp, ep⟩ := and3 w_
    rw [ep] at e_x112
    have q := e_x112.symm; subst q
    have T := seal_tab hS hp
    refine ⟨?_, ?_⟩
    · exact rdP7 h hk
    intro r114 e_r114
    replace e_r114 := (e_r114.trans (rd7 st hk)).trans eS
    intro x116 e_x116
    have W : x116 = F_X2_isSealed (nI S) (nI p) := by rw [e_x116, e_r114]; rfl
    refine ⟨?_, ?_⟩
    · exact rdP7 h hk
    intro r118 e_r118
    replace e_r118 := (e_r118.trans (rd7 st hk)).trans eS
    intro r119 e_r119
    refine ⟨fun c161 => ?_, fun c161 => ?_⟩
    · have z0 : S / 2 ^ p % 2 = 0 := by have z := W.symm.trans c161; rw [T.1] at z; exact (nI_eq (b := 0) (by omega) (by decide)).mp z
      refine ⟨?_, ?_⟩
      · exact s_layer_P hk hp
      intro r126 e_r126
      replace e_r126 := e_r126.trans (s_layer_F st hk)
      refine ⟨fun c162 => ?_, fun c162 => trivial⟩
      · have SS := s_seal h hk hp (fun _ => (home_iff hL hp).mpr (by rw [← e_r126, c162, nI_1]))
        refine ⟨?_, ?_⟩
        · exact SS.1
        intro r129 e_r129
        replace e_r129 := e_r129.trans SS.2.1
        intro x130 e_x130
        rw [e_r129, e_r119, e_r118, eS]
        exact T.2.2.2.1 z0
    · have z0 : ¬ S / 2 ^ p % 2 = 0 := fun z => c161 (by rw [W, T.1, z]; rfl)
      have SS := s_seal h hk hp (fun z => absurd z (by rw [eS, ← W]; exact c161))
      refine ⟨?_, ?_⟩
      · exact SS.1
      intro r122 e_r122
      replace e_r122 := e_r122.trans SS.2.1
      intro x123 e_x123
      rw [e_r122, e_r119, e_r118, eS]
      exact T.2.2.2.2.1 z0
  refine ⟨fun c163 => ?_, fun c163 => ?_⟩
  · intro r133 e_r133
    obtain ⟨a, ha, ea⟩ := low5 w_
    rw [ea] at e_r133
    have q := e_r133.symm; subst q
    intro r134 e_r134
    obtain ⟨b, hb, eb⟩ := low5 (w_ >>> ((3 : Int32) &&& 31))
    rw [eb] at e_r134
    have q := e_r134.symm; subst q
    exact areProducts_P h hk ha hb
  exact areNear_ok h hk
set_option maxRecDepth 20000 in
set_option maxHeartbeats 4000000 in
theorem does_I {st : St} (h : Inv st) (v_ w_ : Int32) : Inv (F_L_does st v_ w_) := by
  obtain ⟨k, hk, ek⟩ := low5 (v_ >>> ((5 : Int32) &&& 31))
  obtain ⟨c, hc, ec⟩ := and3 (v_ >>> ((8 : Int32) &&& 31))
  obtain ⟨a, ha, ea⟩ := low5 w_
  obtain ⟨b, hb, eb⟩ := low5 (w_ >>> ((3 : Int32) &&& 31))
  obtain ⟨p, hp, ep⟩ := and3 w_
  obtain ⟨N, S, hN, eN, hC, eL, hS, eS, hs⟩ := h.1 k hk
  have hL := h.lie hk
  unfold F_L_does
  simp only [ek, ec, ea, eb, ep, rd2 st hk, rd7 st hk, s_why_F st hk, s_layer_F st hk]
  by_cases q0 : 0 ≤ F_L_low_18 v_ ∧ F_L_low_18 v_ ≤ 7
  · rw [if_pos q0]
    by_cases q : F_X2_reasonAgainst (q_seals st k) (q_n st k) (nI c) ≤ 0
    · rw [if_pos q]
      exact i_fold h hk (c4_nI hc) (le0_zero (by rw [eS, eN]; exact why_012 hN) q)
    · rw [if_neg q]; exact h
  rw [if_neg q0]
  by_cases q1 : F_L_low_18 v_ = 8
  · rw [if_pos q1]
    obtain ⟨x35, e35⟩ : ∃ z : Int32, z = (if q_n st k = 0 then (-10) else F_S_crease st (nI k) (q_n st k - 1)) := ⟨_, rfl⟩
    rw [← e35]
    obtain ⟨x42, e42⟩ : ∃ z : Int32, z = (if x35 = 0 then (if (q_seals st k &&& 1) = 1 then 1 else 0) else (if x35 ≤ 0 then 0 else (if ((q_seals st k >>> ((x35 - 1) &&& 31)) &&& 3) = 0 then 0 else 1))) := ⟨_, rfl⟩
    rw [← e42]
    have LO := last_ok h hk e35 e42
    by_cases q : x35 < 0
    · rw [if_pos q]; exact h
    · rw [if_neg q]
      by_cases r : x42 = 0
      · rw [if_pos r]
        rcases LO with LO | ⟨M, z0, z1, z2, z3, z4⟩
        · exact absurd (by rw [LO]; decide) q
        · exact i_unfold h hk z3 z1 z0 (by rw [← z4]; exact r)
      · rw [if_neg r]; exact h
  rw [if_neg q1]
  by_cases q2 : F_L_low_18 v_ = 9
  · rw [if_pos q2]; exact i_press (i_press h hk) hk
  rw [if_neg q2]
  by_cases q3 : F_L_low_18 v_ = 10
  · rw [if_pos q3]
    split
    · exact i_smooth h hk
    · exact h
  rw [if_neg q3]
  by_cases q4 : F_L_low_18 v_ = 11
  · rw [if_pos q4]; exact i_product h hk ha hb
  rw [if_neg q4]
  by_cases q5 : F_L_low_18 v_ = 12
  · rw [if_pos q5]; exact i_opposite h hk ha
  rw [if_neg q5]
  by_cases q6 : 13 ≤ F_L_low_18 v_ ∧ F_L_low_18 v_ ≤ 14
  · rw [if_pos q6]
    have W : (if ((q_seals st k >>> (nI p &&& 31)) &&& 1) = 1 then (1 : Int32) else 0) = F_X2_isSealed (q_seals st k) (nI p) := rfl
    rw [W]
    by_cases q : F_X2_isSealed (q_seals st k) (nI p) = 0
    · rw [if_pos q]
      by_cases r : lay (q_lie st k) p = nI p + 1
      · rw [if_pos r]
        exact i_seal h hk hp (fun _ => (home_iff hL hp).mpr (by rw [r, nI_1]))
      · rw [if_neg r]; exact h
    · rw [if_neg q]
      exact i_seal h hk hp (fun z => absurd z q)
  rw [if_neg q6]
  by_cases q7 : F_L_low_18 v_ = 15
  · rw [if_pos q7]; exact areProducts_I h hk ha hb
  rw [if_neg q7]
  exact h

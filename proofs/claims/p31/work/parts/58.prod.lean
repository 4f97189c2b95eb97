theorem itJ_succ : ∀ (n : Nat) (q L : Int32), itJ (n + 1) q L = F_X3_joined (itJ n q L) L := by
  intro n
  induction n with
  | zero => intro q L; rfl
  | succ n ih =>
    intro q L
    have e : itJ (n + 1) q L = itJ n (F_X3_joined q L) L := by rw [itJ]
    rw [e, itJ, ih]
theorem itJ_lie {q L : Int32} (hq : q ∈ lies) (hL : L ∈ lies) : ∀ n, itJ n q L ∈ lies := by
  intro n
  induction n with
  | zero => exact hq
  | succ n ih => rw [itJ_succ]; exact (lie_join ih hL).1
theorem len_pos {L : Int32} (hL : L ∈ lies) (hn : L ≠ 1672) : ¬ F_X3_length L ≤ 0 := by
  rw [(len_nI hL).1]
  have := (len_nI hL).2
  exact nI_nle (Nat.pos_of_ne_zero (fun q => hn ((lenN0 hL).mp q))) (by omega)
/-- a letter so often with itself -/
theorem ap_loop {k o j : Nat} (hk : k < 5) (ho : o < 5) (hok : k ≠ o) {L : Int32} (hL : L ∈ lies) (hj : j < 8) (h0 : itJ j L L = 1672) (hn : ∀ i, i < j → itJ i L L ≠ 1672) : ∀ (t n : Nat), n + t = j → ∀ (fuel : Nat) (sx : St) (y : Int32), t < fuel → Inv sx → q_lie sx k = L → q_lie sx o = itJ n L L → y = F_X3_length (itJ n L L) → P_L_areProducts_L162 (nI (1 + j)) (nI o) (nI k) fuel sx y (nI n) ∧ Inv (F_L_areProducts_L162 (nI (1 + j)) (nI o) (nI k) fuel sx y (nI n)).1 ∧ (F_L_areProducts_L162 (nI (1 + j)) (nI o) (nI k) fuel sx y (nI n)).2.1 = 0 := by
  have e1 : nI (1 + j) - 1 = nI j := by rw [Nat.add_comm]; exact nI_pred j
  intro t
  induction t with
  | zero =>
    intro n hnj fuel sx y hf hI hlk hlo hy
    obtain ⟨f, rfl⟩ : ∃ f, fuel = f + 1 := ⟨fuel - 1, by omega⟩
    have hnj : n = j := by omega
    subst hnj
    have h1 : nI n ≤ nI n := nI_le (Nat.le_refl _) (by omega)
    rw [P_L_areProducts_L162, F_L_areProducts_L162, e1, if_pos h1]
    refine ⟨⟨fun _ => trivial, fun q => absurd h1 q⟩, hI, ?_⟩
    show y = 0
    rw [hy, h0]
    exact (len0 flat_lie).mpr rfl
  | succ t ih =>
    intro n hnj fuel sx y hf hI hlk hlo hy
    obtain ⟨f, rfl⟩ : ∃ f, fuel = f + 1 := ⟨fuel - 1, by omega⟩
    have h1 : ¬ nI j ≤ nI n := nI_ge (by omega) (by omega)
    have h2 : ¬ (9 : Int32) ≤ nI n := nI_ge (b := 9) (by omega) (by decide)
    obtain ⟨p, r, u⟩ := s_product hI ho ho hk
    rw [hlo, hlk, ← itJ_succ] at r u
    have hX := itJ_lie hL hL (n + 1)
    have hI2 := hI.put u (letI_fresh hX _)
    have K := ih (n + 1) (by omega) f (F_S_product sx (nI o) (nI o) (nI k)).2 (F_S_product sx (nI o) (nI o) (nI k)).1 (by omega) hI2 (by rw [(u.2.1 k hok).1, hlk]) u.1.1 r
    rw [P_L_areProducts_L162, F_L_areProducts_L162, e1, if_neg h1, if_neg h2]
    simp only [forall_eq, nI_1]
    refine ⟨⟨fun q => absurd q h1, fun _ => ⟨fun q => absurd q h2, fun _ => ⟨?_, p, K.1⟩⟩⟩, K.2⟩
    rw [hy]
    exact len_pos (itJ_lie hL hL n) (hn n (by omega))
theorem next_ok {k : Nat} (hk : k < 5) : ∃ o, o < 5 ∧ k ≠ o ∧ (nI k + 1) - (nI k + 1) / 5 * 5 = nI o := by
  rcases (show k = 0 ∨ k = 1 ∨ k = 2 ∨ k = 3 ∨ k = 4 by omega) with rfl | rfl | rfl | rfl | rfl
  · exact ⟨1, by decide, by decide, by decide +kernel⟩
  · exact ⟨2, by decide, by decide, by decide +kernel⟩
  · exact ⟨3, by decide, by decide, by decide +kernel⟩
  · exact ⟨4, by decide, by decide, by decide +kernel⟩
  · exact ⟨0, by decide, by decide, by decide +kernel⟩
set_option maxHeartbeats 2000000 in
theorem areProducts_P {st : St} (h : Inv st) {k a b : Nat} (hk : k < 5) (ha : a < 5) (hb : b < 5) : P_L_areProducts st (nI a) (nI b) (nI k) := by
  obtain ⟨p1, r1, u1⟩ := s_product h hk ha hb
  have hM := (lie_join (h.lie ha) (h.lie hb)).1
  obtain ⟨M, eM⟩ : ∃ M, M = F_X3_joined (q_lie st a) (q_lie st b) := ⟨_, rfl⟩
  rw [← eM] at r1 u1 hM
  unfold P_L_areProducts
  refine ⟨?_, ?_⟩
  · exact p1
  intro r2 e_r2
  replace e_r2 := e_r2.trans r1
  intro x3 e_x3
  rw [← e_x3] at u1
  have h3 : Inv x3 := h.put u1 (letI_fresh hM _)
  have l3 : q_lie x3 k = M := u1.1.1
  obtain ⟨p2, r2v, u2⟩ := s_opposite h3 hk hk
  rw [l3] at r2v u2
  refine ⟨?_, ?_⟩
  · exact rdP0 h3 hk
  intro r5 e_r5
  replace e_r5 := (e_r5.trans (rd0 x3 hk)).trans (congrArg F_X3_length l3)
  refine ⟨?_, ?_⟩
  · exact e_r2.trans e_r5.symm
  refine ⟨?_, ?_⟩
  · exact rdP2 h3 hk
  intro r8 e_r8
  replace e_r8 := (e_r8.trans (rd2 x3 hk)).trans u1.1.2.2.2.1
  refine ⟨?_, ?_⟩
  · rw [e_r8, e_r2, (len_nI hM).1]
  refine ⟨?_, ?_⟩
  · exact rdP7 h3 hk
  intro r11 e_r11
  replace e_r11 := (e_r11.trans (rd7 x3 hk)).trans u1.1.2.1
  refine ⟨?_, ?_⟩
  · exact e_r11
  refine ⟨?_, ?_⟩
  · exact p2
  intro r14 e_r14
  replace e_r14 := e_r14.trans (r2v.trans (rev_len hM))
  intro x15 e_x15
  rw [← e_x15] at u2
  have h15 : Inv x15 := h3.put u2 (letI_fresh (lie_rev hM) _)
  have l15 : q_lie x15 k = F_X3_reversed M := u2.1.1
  obtain ⟨p3, r3, u3⟩ := s_opposite h15 hk hk
  rw [l15, rev_rev hM] at r3 u3
  refine ⟨?_, ?_⟩
  · exact e_r14.trans e_r2.symm
  refine ⟨?_, ?_⟩
  · exact p3
  intro r18 e_r18
  replace e_r18 := e_r18.trans r3
  intro x19 e_x19
  rw [← e_x19] at u3
  have h19 : Inv x19 := h15.put u3 (letI_fresh hM _)
  have l19 : q_lie x19 k = M := u3.1.1
  obtain ⟨pp, j, j1, j2, j3, j4⟩ := period_ok hM
  obtain ⟨o, ho, hok, eo⟩ := next_ok hk
  obtain ⟨p4, r4, u4⟩ := s_product h19 ho hk hk
  rw [l19] at r4 u4
  refine ⟨?_, ?_⟩
  · exact e_r18.trans e_r2.symm
  refine ⟨?_, ?_⟩
  · exact rdP3 h19 hk
  intro r22 e_r22
  replace e_r22 := ((e_r22.trans (rd3 x19 hk)).trans (congrArg F_X3_period l19)).trans j2
  intro x23 e_x23
  replace e_x23 := e_x23.trans eo
  refine ⟨?_, ?_⟩
  · rw [e_x23]; exact p4
  intro r25 e_r25
  rw [e_x23] at e_r25
  replace e_r25 := e_r25.trans r4
  intro x26 e_x26
  rw [e_x23] at e_x26
  rw [← e_x26] at u4
  have hMM := (lie_join hM hM).1
  have h26 : Inv x26 := h19.put u4 (letI_fresh hMM _)
  have l26 : q_lie x26 o = itJ 1 M M := u4.1.1
  have l26k : q_lie x26 k = M := (u4.2.1 k hok).1.trans l19
  have ap := fun (hj : 1 ≤ j) => ap_loop hk ho hok hM j1 j3 j4 (j - 1) 1 (by omega) 10 x26 r25 (by omega) h26 l26k l26 (by rw [e_r25]; rfl)
  intro x28 e_x28
  intro x30 e_x30
  refine ⟨?_, ?_⟩
  · rw [e_x28, e_x30, e_r22, e_r2]
    by_cases q : M = 1672
    · have jz : j = 0 := Nat.eq_zero_of_not_pos (fun z => j4 0 z q)
      rw [jz, if_pos (show nI (1 + 0) = 1 from rfl), if_pos ((len0 hM).mpr q)]
    · have jz : 0 < j := Nat.pos_of_ne_zero (fun z => q (by rw [z] at j3; exact j3))
      rw [if_neg (fun z => ?_), if_neg (fun z => q ((len0 hM).mp z))]
      have := (nI_eq (a := 1 + j) (b := 1) (by omega) (by decide)).mp z
      omega
  refine ⟨?_, ?_⟩
  · rw [e_r22]
    exact nI_nle (by omega) (by omega)
  refine ⟨?_, ?_⟩
  · rw [e_r22]
    exact Int32.not_lt.mpr (nI_le (b := 8) (by omega) (by decide))
  refine ⟨?_, ?_⟩
  · rw [e_r22, e_x23]
    rcases Nat.eq_zero_or_pos j with jz | jz
    · subst jz
      rw [P_L_areProducts_L162]
      exact ⟨fun _ => trivial, fun q => absurd (show nI (1 + 0) - 1 ≤ 1 by decide) q⟩
    · exact (ap jz).1
  intro f44 e_f44
  intro z45 e_z45
  intro z46 e_z46
  refine ⟨fun c49 => trivial, fun c49 => ?_⟩
  · have jz : 1 ≤ j := Nat.pos_of_ne_zero (fun z => c49 (by rw [e_r22, z]; rfl))
    rw [e_z45, e_r22, e_x23]
    exact (ap jz).2.2
set_option maxHeartbeats 2000000 in
theorem areProducts_I {st : St} (h : Inv st) {k a b : Nat} (hk : k < 5) (ha : a < 5) (hb : b < 5) : Inv (F_L_areProducts st (nI a) (nI b) (nI k)) := by
  obtain ⟨p1, r1, u1⟩ := s_product h hk ha hb
  have hM := (lie_join (h.lie ha) (h.lie hb)).1
  obtain ⟨M, eM⟩ : ∃ M, M = F_X3_joined (q_lie st a) (q_lie st b) := ⟨_, rfl⟩
  rw [← eM] at r1 u1 hM
  obtain ⟨x3, e_x3⟩ : ∃ z, z = (F_S_product st (nI k) (nI a) (nI b)).2 := ⟨_, rfl⟩
  rw [← e_x3] at u1
  have h3 : Inv x3 := h.put u1 (letI_fresh hM _)
  have l3 : q_lie x3 k = M := u1.1.1
  obtain ⟨p2, r2, u2⟩ := s_opposite h3 hk hk
  rw [l3] at r2 u2
  obtain ⟨x15, e_x15⟩ : ∃ z, z = (F_S_opposite x3 (nI k) (nI k)).2 := ⟨_, rfl⟩
  rw [← e_x15] at u2
  have h15 : Inv x15 := h3.put u2 (letI_fresh (lie_rev hM) _)
  have l15 : q_lie x15 k = F_X3_reversed M := u2.1.1
  obtain ⟨p3, r3, u3⟩ := s_opposite h15 hk hk
  rw [l15, rev_rev hM] at r3 u3
  obtain ⟨x19, e_x19⟩ : ∃ z, z = (F_S_opposite x15 (nI k) (nI k)).2 := ⟨_, rfl⟩
  rw [← e_x19] at u3
  have h19 : Inv x19 := h15.put u3 (letI_fresh hM _)
  have l19 : q_lie x19 k = M := u3.1.1
  obtain ⟨pp, j, j1, j2, j3, j4⟩ := period_ok hM
  obtain ⟨o, ho, hok, eo⟩ := next_ok hk
  obtain ⟨p4, r4, u4⟩ := s_product h19 ho hk hk
  rw [l19] at r4 u4
  obtain ⟨x26, e_x26⟩ : ∃ z, z = (F_S_product x19 (nI o) (nI k) (nI k)).2 := ⟨_, rfl⟩
  rw [← e_x26] at u4
  have hMM := (lie_join hM hM).1
  have h26 : Inv x26 := h19.put u4 (letI_fresh hMM _)
  have l26 : q_lie x26 o = itJ 1 M M := u4.1.1
  have l26k : q_lie x26 k = M := (u4.2.1 k hok).1.trans l19
  have e22 : F_S_letter x19 (nI k) 3 = nI (1 + j) := ((rd3 x19 hk).trans (congrArg F_X3_period l19)).trans j2
  have r4' : (F_S_product x19 (nI o) (nI k) (nI k)).1 = F_X3_length (itJ 1 M M) := r4
  unfold F_L_areProducts
  simp only [eo, ← e_x3, ← e_x15, ← e_x19, e22, ← e_x26]
  rcases Nat.eq_zero_or_pos j with jz | jz
  · subst jz
    rw [F_L_areProducts_L162, if_pos (show nI (1 + 0) - 1 ≤ 1 by decide)]
    exact h26
  · exact (ap_loop hk ho hok hM j1 j3 j4 (j - 1) 1 (by omega) 10 x26 _ (by omega) h26 l26k l26 r4').2.1

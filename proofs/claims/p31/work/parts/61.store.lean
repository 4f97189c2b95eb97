theorem sum5 (a b c d e : Nat) : ((((((0 : Int32) + nI a) + nI b) + nI c) + nI d) + nI e) = nI (a + b + c + d + e) := by
  rw [show (0 : Int32) = nI 0 from rfl, nI_add, nI_add, nI_add, nI_add, nI_add, Nat.zero_add]
theorem pf_mirL : allL (fun L => decide (F_X3_isMirror L = 0) || (decide (F_X3_period L = 2) && !decide (F_X3_length L - F_X3_length L / 2 * 2 = 0))) = true := by decide +kernel
theorem mir_ok {L : Int32} (hL : L ∈ lies) (h : (if F_X3_isMirror L = 0 then (0 : Int32) else 1) = 1) : F_X3_period L = 2 ∧ ¬ (F_X3_length L - F_X3_length L / 2 * 2) = 0 := by
  have k := allL_of pf_mirL hL
  simp only [Bool.or_eq_true, Bool.and_eq_true, Bool.not_eq_true', decide_eq_false_iff_not, decide_eq_true_eq] at k
  refine k.resolve_left (fun q => ?_)
  rw [if_pos q] at h
  exact absurd h (by decide)
theorem together_P {st : St} (h : Inv st) (w : Int32) : P_X4_together (q_lie st) (q_seals st) (q_folds st) (q_n st) w := by
  unfold P_X4_together
  simp only [forall_eq]
  exact ⟨number_P (h.lie (by decide)) _, number_P (h.lie (by decide)) _, number_P (h.lie (by decide)) _, number_P (h.lie (by decide)) _, number_P (h.lie (by decide)) _⟩
theorem count_P {st : St} (h : Inv st) {w : Nat} (hw : w ≤ 6) : P_S_count st (nI w) := by
  refine ⟨fun _ => together_P h _, fun n0 => ⟨fun _ => trivial, fun n1 => ⟨fun _ => together_P h _, fun n2 => ⟨fun _ => together_P h _, fun n3 => ⟨fun _ => trivial, fun n4 => ⟨fun _ => trivial, fun n5 => ⟨fun _ => trivial, fun n6 => ?_⟩⟩⟩⟩⟩⟩⟩
  rcases (show w = 0 ∨ w = 1 ∨ w = 2 ∨ w = 3 ∨ w = 4 ∨ w = 5 ∨ w = 6 by omega) with rfl | rfl | rfl | rfl | rfl | rfl | rfl
  · exact n0 rfl
  · exact n1 rfl
  · exact n2 rfl
  · exact n3 rfl
  · exact n4 rfl
  · exact n5 rfl
  · exact n6 rfl
theorem flat_if {L : Int32} (hL : L ∈ lies) : (if F_X3_length L = 0 then (1 : Int32) else 0) = if L = 1672 then 1 else 0 := by
  by_cases q : L = 1672
  · rw [if_pos q, if_pos ((len0 hL).mpr q)]
  · rw [if_neg q, if_neg (fun z => q ((len0 hL).mp z))]
theorem pf_ones : (List.range 16).all (fun S => decide (F_X2_sealed (nI S) = F_L_ones (nI S))) = true := by decide +kernel
theorem sealed_ones {s : Int32} (h : ∃ S, S < 16 ∧ s = nI S) : F_X2_sealed s = F_L_ones s := by
  obtain ⟨S, hS, rfl⟩ := h
  exact of_decide_eq_true (List.all_eq_true.mp pf_ones S (List.mem_range.mpr hS))
theorem Inv.seals {st : St} (h : Inv st) {k : Nat} (hk : k < 5) : ∃ S, S < 16 ∧ q_seals st k = nI S := by
  obtain ⟨N, S, _, _, _, _, hS, eS, _⟩ := h.1 k hk
  exact ⟨S, hS, eS⟩
theorem unlike {st : St} (h : Inv st) {a b : Nat} (ha : a < 5) (hb : b < 5) : (F_S_distance st (nI a) (nI b) ≤ 0) = (q_lie st b = q_lie st a) := by
  have D := dist_nI (h.lie ha) (h.lie hb)
  rw [s_dist_F st ha hb, D.1]
  apply propext
  constructor
  · intro q
    have : dN (q_lie st a) (q_lie st b) = 0 := by
      rcases Nat.eq_zero_or_pos (dN (q_lie st a) (q_lie st b)) with z | z
      · exact z
      · exact absurd q (nI_nle z (by omega))
    exact ((dist_zero (h.lie ha) (h.lie hb)).mp this).symm
  · intro q
    rw [(dist_zero (h.lie ha) (h.lie hb)).mpr q.symm]
    decide
theorem u00 : ((0 : Int32) = 0) = True := eq_self _
theorem u10 : ((1 : Int32) = 0) = False := eq_false (by decide)
theorem u01 : (0 : Int32) + 1 = 1 := by decide
theorem cnt0 (st : St) : F_S_count st 0 = F_X4_together (q_lie st) (q_seals st) (q_folds st) (q_n st) 10 := rfl
theorem cnt1 (st : St) : F_S_count st 1 = F_X4_flatLetters (q_lie st) := rfl
theorem cnt2 (st : St) : F_S_count st 2 = F_X4_together (q_lie st) (q_seals st) (q_folds st) (q_n st) 4 := rfl
theorem cnt3 (st : St) : F_S_count st 3 = F_X4_together (q_lie st) (q_seals st) (q_folds st) (q_n st) 0 := rfl
theorem cnt4 (st : St) : F_S_count st 4 = F_X4_sealedPositions (q_seals st) := rfl
theorem cnt5 (st : St) : F_S_count st 5 = F_X4_unlikeLies (q_lie st) := rfl
theorem fnum4 (l s fo nn : Int32) : F_X2_number l s fo nn 4 = (if F_X3_isMirror l = 0 then 0 else 1) := rfl
theorem fnum10 (l s fo nn : Int32) : F_X2_number l s fo nn 10 = fo := rfl
theorem tog_len {st : St} (h : Inv st) : ∃ A, A ≤ 80 ∧ F_X4_together (q_lie st) (q_seals st) (q_folds st) (q_n st) 0 = nI A := by
  have L := fun (k : Nat) (hk : k < 5) => len_nI (h.lie hk)
  have L0 := L 0 (by decide)
  have L1 := L 1 (by decide)
  have L2 := L 2 (by decide)
  have L3 := L 3 (by decide)
  have L4 := L 4 (by decide)
  refine ⟨lenN (q_lie st 0) + lenN (q_lie st 1) + lenN (q_lie st 2) + lenN (q_lie st 3) + lenN (q_lie st 4), by omega, ?_⟩
  unfold F_X4_together
  simp only [fnum0, L0.1, L1.1, L2.1, L3.1, L4.1, sum5]
theorem tog_n {st : St} (h : Inv st) : ∃ A, A ≤ 300 ∧ F_X4_together (q_lie st) (q_seals st) (q_folds st) (q_n st) 2 = nI A := by
  obtain ⟨N0, h0, e0⟩ := h.nok 0 (by decide)
  obtain ⟨N1, h1, e1⟩ := h.nok 1 (by decide)
  obtain ⟨N2, h2, e2⟩ := h.nok 2 (by decide)
  obtain ⟨N3, h3, e3⟩ := h.nok 3 (by decide)
  obtain ⟨N4, h4, e4⟩ := h.nok 4 (by decide)
  refine ⟨N0 + N1 + N2 + N3 + N4, by omega, ?_⟩
  unfold F_X4_together
  simp only [fnum2, e0, e1, e2, e3, e4, sum5]
theorem pressed_eq (st : St) : F_S_pressed st = (if F_X4_together (q_lie st) (q_seals st) (q_folds st) (q_n st) 2 = 0 then FP.dconst1 else FP.ddiv (FP.i2d (F_X4_together (q_lie st) (q_seals st) (q_folds st) (q_n st) 0)) (FP.i2d (F_X4_together (q_lie st) (q_seals st) (q_folds st) (q_n st) 2))) := rfl
theorem mean_eq (st : St) : F_S_meanLength st = FP.fdiv (FP.i2f (F_X4_together (q_lie st) (q_seals st) (q_folds st) (q_n st) 0)) 1084227584 := rfl
theorem press_nn {st : St} (h : Inv st) (hn : ¬ F_X4_together (q_lie st) (q_seals st) (q_folds st) (q_n st) 2 = 0) : vf_n64 (FP.ddiv (FP.i2d (F_X4_together (q_lie st) (q_seals st) (q_folds st) (q_n st) 0)) (FP.i2d (F_X4_together (q_lie st) (q_seals st) (q_folds st) (q_n st) 2))) ∧ Op.cmpValue (FP.dcmp (FP.ddiv (FP.i2d (F_X4_together (q_lie st) (q_seals st) (q_folds st) (q_n st) 0)) (FP.i2d (F_X4_together (q_lie st) (q_seals st) (q_folds st) (q_n st) 2))) (FP.ddiv (FP.i2d (F_X4_together (q_lie st) (q_seals st) (q_folds st) (q_n st) 0)) (FP.i2d (F_X4_together (q_lie st) (q_seals st) (q_folds st) (q_n st) 2)))) CmpOp.l = 0 := by
  obtain ⟨A, hA, eA⟩ := tog_len h
  obtain ⟨B, hB, eB⟩ := tog_n h
  rw [eB] at hn
  rw [eA, eB]
  exact div_ok hA (Nat.pos_of_ne_zero (fun z => hn (by rw [z]; rfl))) hB
theorem pressed_P {st : St} (h : Inv st) : P_S_pressed st := by
  refine ⟨together_P h _, ?_⟩
  intro r2 e2
  refine ⟨fun _ => trivial, fun q => ⟨together_P h _, ?_⟩⟩
  intro r5 e5
  rw [e2] at q ⊢
  rw [e5]
  exact (press_nn h q).1
theorem pressed_cmp {st : St} (h : Inv st) : Op.cmpValue (FP.dcmp (F_S_pressed st) (F_S_pressed st)) CmpOp.l = 0 := by
  rw [pressed_eq]
  by_cases q : F_X4_together (q_lie st) (q_seals st) (q_folds st) (q_n st) 2 = 0
  · rw [if_pos q]; exact one_cmp
  · rw [if_neg q]; exact (press_nn h q).2
theorem mean_P {st : St} (h : Inv st) : P_S_meanLength st := by
  refine ⟨together_P h _, ?_⟩
  intro r2 e2
  obtain ⟨A, hA, eA⟩ := tog_len h
  rw [e2, eA]
  exact (mean_ok hA).1
theorem un1 (a0 b : Int32) : (if (if a0 = b then (0 : Int32) else 1) = 0 then (0 : Int32) else 1) = (if (if a0 = b then (1 : Int32) else (0 : Int32)) = 0 then (1 : Int32) else 0) := by
  by_cases h0 : a0 = b <;> simp only [h0, if_true, if_false] <;> first | rfl | decide
theorem un2 (a0 a1 b : Int32) : (if (if (if a0 = b then (0 : Int32) else 1) = 0 then (0 : Int32) else (if a1 = b then 0 else 1)) = 0 then (0 : Int32) else 1) = (if (if a0 = b then (1 : Int32) else (if a1 = b then (1 : Int32) else (0 : Int32))) = 0 then (1 : Int32) else 0) := by
  by_cases h0 : a0 = b <;> by_cases h1 : a1 = b <;> simp only [h0, h1, if_true, if_false] <;> first | rfl | decide
theorem un3 (a0 a1 a2 b : Int32) : (if (if (if (if a0 = b then (0 : Int32) else 1) = 0 then (0 : Int32) else (if a1 = b then 0 else 1)) = 0 then (0 : Int32) else (if a2 = b then 0 else 1)) = 0 then (0 : Int32) else 1) = (if (if a0 = b then (1 : Int32) else (if a1 = b then (1 : Int32) else (if a2 = b then (1 : Int32) else (0 : Int32)))) = 0 then (1 : Int32) else 0) := by
  by_cases h0 : a0 = b <;> by_cases h1 : a1 = b <;> by_cases h2 : a2 = b <;> simp only [h0, h1, h2, if_true, if_false] <;> first | rfl | decide
theorem un4 (a0 a1 a2 a3 b : Int32) : (if (if (if (if (if a0 = b then (0 : Int32) else 1) = 0 then (0 : Int32) else (if a1 = b then 0 else 1)) = 0 then (0 : Int32) else (if a2 = b then 0 else 1)) = 0 then (0 : Int32) else (if a3 = b then 0 else 1)) = 0 then (0 : Int32) else 1) = (if (if a0 = b then (1 : Int32) else (if a1 = b then (1 : Int32) else (if a2 = b then (1 : Int32) else (if a3 = b then (1 : Int32) else (0 : Int32))))) = 0 then (1 : Int32) else 0) := by
  by_cases h0 : a0 = b <;> by_cases h1 : a1 = b <;> by_cases h2 : a2 = b <;> by_cases h3 : a3 = b <;> simp only [h0, h1, h2, h3, if_true, if_false] <;> first | rfl | decide
set_option maxRecDepth 20000 in
set_option maxHeartbeats 4000000 in
/-- what is told of all letters together -/
theorem isStore_ok {st : St} (h : Inv st) : P_L_isStore st := by
  unfold P_L_isStore
  refine ⟨?_, ?_⟩
  · exact rdP10 h (k := 0) (by decide)
  intro r2 e_r2
  replace e_r2 := e_r2.trans (rd10 st (k := 0) (by decide))
  intro x3 e_x3
  refine ⟨?_, ?_⟩
  · exact rdP0 h (k := 0) (by decide)
  intro r5 e_r5
  replace e_r5 := e_r5.trans (rd0 st (k := 0) (by decide))
  intro x7 e_x7
  intro x8 e_x8
  refine ⟨?_, ?_⟩
  · exact rdP4 h (k := 0) (by decide)
  intro r10 e_r10
  replace e_r10 := e_r10.trans (rd4 st (k := 0) (by decide))
  intro x11 e_x11
  refine ⟨?_, ?_⟩
  · exact rdP0 h (k := 0) (by decide)
  intro r13 e_r13
  replace e_r13 := e_r13.trans (rd0 st (k := 0) (by decide))
  intro x14 e_x14
  refine ⟨?_, ?_⟩
  · exact rdP7 h (k := 0) (by decide)
  intro r16 e_r16
  replace e_r16 := e_r16.trans (rd7 st (k := 0) (by decide))
  intro r17 e_r17
  intro x18 e_x18
  refine ⟨?_, ?_⟩
  · exact rdP2 h (k := 0) (by decide)
  intro r20 e_r20
  replace e_r20 := e_r20.trans (rd2 st (k := 0) (by decide))
  intro x21 e_x21
  refine ⟨?_, ?_⟩
  · exact rdP4 h (k := 0) (by decide)
  intro r23 e_r23
  replace e_r23 := e_r23.trans (rd4 st (k := 0) (by decide))
  refine ⟨?_, ?_⟩
  · refine ⟨fun c237 => ?_, fun c237 => trivial⟩
    · refine ⟨?_, ?_⟩
      · exact rdP3 h (k := 0) (by decide)
      intro r26 e_r26
      replace e_r26 := e_r26.trans (rd3 st (k := 0) (by decide))
      refine ⟨?_, ?_⟩
      · rw [e_r26]
        exact (mir_ok (h.lie (by decide)) (by rw [← e_r23]; exact c237)).1
      refine ⟨?_, ?_⟩
      · exact rdP0 h (k := 0) (by decide)
      intro r29 e_r29
      replace e_r29 := e_r29.trans (rd0 st (k := 0) (by decide))
      rw [e_r29]
      exact (mir_ok (h.lie (by decide)) (by rw [← e_r23]; exact c237)).2
  refine ⟨?_, ?_⟩
  · exact s_dist_P st (a := 1) (b := 0) (by decide) (by decide)
  intro r32 e_r32
  intro x34 e_x34
  refine ⟨?_, ?_⟩
  · exact rdP10 h (k := 1) (by decide)
  intro r36 e_r36
  replace e_r36 := e_r36.trans (rd10 st (k := 1) (by decide))
  intro x37 e_x37
  refine ⟨?_, ?_⟩
  · exact rdP0 h (k := 1) (by decide)
  intro r39 e_r39
  replace e_r39 := e_r39.trans (rd0 st (k := 1) (by decide))
  intro x41 e_x41
  intro x42 e_x42
  refine ⟨?_, ?_⟩
  · exact rdP4 h (k := 1) (by decide)
  intro r44 e_r44
  replace e_r44 := e_r44.trans (rd4 st (k := 1) (by decide))
  intro x45 e_x45
  refine ⟨?_, ?_⟩
  · exact rdP0 h (k := 1) (by decide)
  intro r47 e_r47
  replace e_r47 := e_r47.trans (rd0 st (k := 1) (by decide))
  intro x48 e_x48
  refine ⟨?_, ?_⟩
  · exact rdP7 h (k := 1) (by decide)
  intro r50 e_r50
  replace e_r50 := e_r50.trans (rd7 st (k := 1) (by decide))
  intro r51 e_r51
  intro x52 e_x52
  intro x54 e_x54
  intro x55 e_x55
  refine ⟨?_, ?_⟩
  · exact rdP2 h (k := 1) (by decide)
  intro r57 e_r57
  replace e_r57 := e_r57.trans (rd2 st (k := 1) (by decide))
  intro x58 e_x58
  refine ⟨?_, ?_⟩
  · exact rdP4 h (k := 1) (by decide)
  intro r60 e_r60
  replace e_r60 := e_r60.trans (rd4 st (k := 1) (by decide))
  refine ⟨?_, ?_⟩
  · refine ⟨fun c238 => ?_, fun c238 => trivial⟩
    · refine ⟨?_, ?_⟩
      · exact rdP3 h (k := 1) (by decide)
      intro r63 e_r63
      replace e_r63 := e_r63.trans (rd3 st (k := 1) (by decide))
      refine ⟨?_, ?_⟩
      · rw [e_r63]
        exact (mir_ok (h.lie (by decide)) (by rw [← e_r60]; exact c238)).1
      refine ⟨?_, ?_⟩
      · exact rdP0 h (k := 1) (by decide)
      intro r66 e_r66
      replace e_r66 := e_r66.trans (rd0 st (k := 1) (by decide))
      rw [e_r66]
      exact (mir_ok (h.lie (by decide)) (by rw [← e_r60]; exact c238)).2
  refine ⟨?_, ?_⟩
  · exact s_dist_P st (a := 2) (b := 0) (by decide) (by decide)
  intro r69 e_r69
  intro x71 e_x71
  refine ⟨?_, ?_⟩
  · refine ⟨fun c239 => trivial, fun c239 => ?_⟩
    · exact s_dist_P st (a := 2) (b := 1) (by decide) (by decide)
  intro x76 e_x76
  refine ⟨?_, ?_⟩
  · exact rdP10 h (k := 2) (by decide)
  intro r78 e_r78
  replace e_r78 := e_r78.trans (rd10 st (k := 2) (by decide))
  intro x79 e_x79
  refine ⟨?_, ?_⟩
  · exact rdP0 h (k := 2) (by decide)
  intro r81 e_r81
  replace e_r81 := e_r81.trans (rd0 st (k := 2) (by decide))
  intro x83 e_x83
  intro x84 e_x84
  refine ⟨?_, ?_⟩
  · exact rdP4 h (k := 2) (by decide)
  intro r86 e_r86
  replace e_r86 := e_r86.trans (rd4 st (k := 2) (by decide))
  intro x87 e_x87
  refine ⟨?_, ?_⟩
  · exact rdP0 h (k := 2) (by decide)
  intro r89 e_r89
  replace e_r89 := e_r89.trans (rd0 st (k := 2) (by decide))
  intro x90 e_x90
  refine ⟨?_, ?_⟩
  · exact rdP7 h (k := 2) (by decide)
  intro r92 e_r92
  replace e_r92 := e_r92.trans (rd7 st (k := 2) (by decide))
  intro r93 e_r93
  intro x94 e_x94
  intro x96 e_x96
  intro x97 e_x97
  refine ⟨?_, ?_⟩
  · exact rdP2 h (k := 2) (by decide)
  intro r99 e_r99
  replace e_r99 := e_r99.trans (rd2 st (k := 2) (by decide))
  intro x100 e_x100
  refine ⟨?_, ?_⟩
  · exact rdP4 h (k := 2) (by decide)
  intro r102 e_r102
  replace e_r102 := e_r102.trans (rd4 st (k := 2) (by decide))
  refine ⟨?_, ?_⟩
  · refine ⟨fun c240 => ?_, fun c240 => trivial⟩
    · refine ⟨?_, ?_⟩
      · exact rdP3 h (k := 2) (by decide)
      intro r105 e_r105
      replace e_r105 := e_r105.trans (rd3 st (k := 2) (by decide))
      refine ⟨?_, ?_⟩
      · rw [e_r105]
        exact (mir_ok (h.lie (by decide)) (by rw [← e_r102]; exact c240)).1
      refine ⟨?_, ?_⟩
      · exact rdP0 h (k := 2) (by decide)
      intro r108 e_r108
      replace e_r108 := e_r108.trans (rd0 st (k := 2) (by decide))
      rw [e_r108]
      exact (mir_ok (h.lie (by decide)) (by rw [← e_r102]; exact c240)).2
  refine ⟨?_, ?_⟩
  · exact s_dist_P st (a := 3) (b := 0) (by decide) (by decide)
  intro r111 e_r111
  intro x113 e_x113
  refine ⟨?_, ?_⟩
  · refine ⟨fun c241 => trivial, fun c241 => ?_⟩
    · exact s_dist_P st (a := 3) (b := 1) (by decide) (by decide)
  intro x118 e_x118
  refine ⟨?_, ?_⟩
  · refine ⟨fun c242 => trivial, fun c242 => ?_⟩
    · exact s_dist_P st (a := 3) (b := 2) (by decide) (by decide)
  intro x123 e_x123
  refine ⟨?_, ?_⟩
  · exact rdP10 h (k := 3) (by decide)
  intro r125 e_r125
  replace e_r125 := e_r125.trans (rd10 st (k := 3) (by decide))
  intro x126 e_x126
  refine ⟨?_, ?_⟩
  · exact rdP0 h (k := 3) (by decide)
  intro r128 e_r128
  replace e_r128 := e_r128.trans (rd0 st (k := 3) (by decide))
  intro x130 e_x130
  intro x131 e_x131
  refine ⟨?_, ?_⟩
  · exact rdP4 h (k := 3) (by decide)
  intro r133 e_r133
  replace e_r133 := e_r133.trans (rd4 st (k := 3) (by decide))
  intro x134 e_x134
  refine ⟨?_, ?_⟩
  · exact rdP0 h (k := 3) (by decide)
  intro r136 e_r136
  replace e_r136 := e_r136.trans (rd0 st (k := 3) (by decide))
  intro x137 e_x137
  refine ⟨?_, ?_⟩
  · exact rdP7 h (k := 3) (by decide)
  intro r139 e_r139
  replace e_r139 := e_r139.trans (rd7 st (k := 3) (by decide))
  intro r140 e_r140
  intro x141 e_x141
  intro x143 e_x143
  intro x144 e_x144
  refine ⟨?_, ?_⟩
  · exact rdP2 h (k := 3) (by decide)
  intro r146 e_r146
  replace e_r146 := e_r146.trans (rd2 st (k := 3) (by decide))
  intro x147 e_x147
  refine ⟨?_, ?_⟩
  · exact rdP4 h (k := 3) (by decide)
  intro r149 e_r149
  replace e_r149 := e_r149.trans (rd4 st (k := 3) (by decide))
  refine ⟨?_, ?_⟩
  · refine ⟨fun c243 => ?_, fun c243 => trivial⟩
    · refine ⟨?_, ?_⟩
      · exact rdP3 h (k := 3) (by decide)
      intro r152 e_r152
      replace e_r152 := e_r152.trans (rd3 st (k := 3) (by decide))
      refine ⟨?_, ?_⟩
      · rw [e_r152]
        exact (mir_ok (h.lie (by decide)) (by rw [← e_r149]; exact c243)).1
      refine ⟨?_, ?_⟩
      · exact rdP0 h (k := 3) (by decide)
      intro r155 e_r155
      replace e_r155 := e_r155.trans (rd0 st (k := 3) (by decide))
      rw [e_r155]
      exact (mir_ok (h.lie (by decide)) (by rw [← e_r149]; exact c243)).2
  refine ⟨?_, ?_⟩
  · exact s_dist_P st (a := 4) (b := 0) (by decide) (by decide)
  intro r158 e_r158
  intro x160 e_x160
  refine ⟨?_, ?_⟩
  · refine ⟨fun c244 => trivial, fun c244 => ?_⟩
    · exact s_dist_P st (a := 4) (b := 1) (by decide) (by decide)
  intro x165 e_x165
  refine ⟨?_, ?_⟩
  · refine ⟨fun c245 => trivial, fun c245 => ?_⟩
    · exact s_dist_P st (a := 4) (b := 2) (by decide) (by decide)
  intro x170 e_x170
  refine ⟨?_, ?_⟩
  · refine ⟨fun c246 => trivial, fun c246 => ?_⟩
    · exact s_dist_P st (a := 4) (b := 3) (by decide) (by decide)
  intro x175 e_x175
  refine ⟨?_, ?_⟩
  · exact rdP10 h (k := 4) (by decide)
  intro r177 e_r177
  replace e_r177 := e_r177.trans (rd10 st (k := 4) (by decide))
  intro x178 e_x178
  refine ⟨?_, ?_⟩
  · exact rdP0 h (k := 4) (by decide)
  intro r180 e_r180
  replace e_r180 := e_r180.trans (rd0 st (k := 4) (by decide))
  intro x182 e_x182
  intro x183 e_x183
  refine ⟨?_, ?_⟩
  · exact rdP4 h (k := 4) (by decide)
  intro r185 e_r185
  replace e_r185 := e_r185.trans (rd4 st (k := 4) (by decide))
  intro x186 e_x186
  refine ⟨?_, ?_⟩
  · exact rdP0 h (k := 4) (by decide)
  intro r188 e_r188
  replace e_r188 := e_r188.trans (rd0 st (k := 4) (by decide))
  intro x189 e_x189
  refine ⟨?_, ?_⟩
  · exact rdP7 h (k := 4) (by decide)
  intro r191 e_r191
  replace e_r191 := e_r191.trans (rd7 st (k := 4) (by decide))
  intro r192 e_r192
  intro x193 e_x193
  intro x195 e_x195
  intro x196 e_x196
  refine ⟨?_, ?_⟩
  · exact rdP2 h (k := 4) (by decide)
  intro r198 e_r198
  replace e_r198 := e_r198.trans (rd2 st (k := 4) (by decide))
  intro x199 e_x199
  refine ⟨?_, ?_⟩
  · exact rdP4 h (k := 4) (by decide)
  intro r201 e_r201
  replace e_r201 := e_r201.trans (rd4 st (k := 4) (by decide))
  refine ⟨?_, ?_⟩
  · refine ⟨fun c247 => ?_, fun c247 => trivial⟩
    · refine ⟨?_, ?_⟩
      · exact rdP3 h (k := 4) (by decide)
      intro r204 e_r204
      replace e_r204 := e_r204.trans (rd3 st (k := 4) (by decide))
      refine ⟨?_, ?_⟩
      · rw [e_r204]
        exact (mir_ok (h.lie (by decide)) (by rw [← e_r201]; exact c247)).1
      refine ⟨?_, ?_⟩
      · exact rdP0 h (k := 4) (by decide)
      intro r207 e_r207
      replace e_r207 := e_r207.trans (rd0 st (k := 4) (by decide))
      rw [e_r207]
      exact (mir_ok (h.lie (by decide)) (by rw [← e_r201]; exact c247)).2
  refine ⟨?_, ?_⟩
  · exact count_P h (w := 0) (by decide)
  intro r210 e_r210
  refine ⟨?_, ?_⟩
  · have q := e_r210.symm; subst q; have q := e_x178.symm; subst q; have q := e_x126.symm; subst q; have q := e_r177.symm; subst q; have q := e_x79.symm; subst q; have q := e_r125.symm; subst q; have q := e_x37.symm; subst q; have q := e_r78.symm; subst q; have q := e_x3.symm; subst q; have q := e_r36.symm; subst q; have q := e_r2.symm; subst q; rw [cnt0]
    unfold F_X4_together
    simp only [fnum10]
  refine ⟨?_, ?_⟩
  · exact count_P h (w := 1) (by decide)
  intro r213 e_r213
  refine ⟨?_, ?_⟩
  · have q := e_r213.symm; subst q; have q := e_x183.symm; subst q; have q := e_x131.symm; subst q; have q := e_x182.symm; subst q; have q := e_x84.symm; subst q; have q := e_x130.symm; subst q; have q := e_r180.symm; subst q; have q := e_x42.symm; subst q; have q := e_x83.symm; subst q; have q := e_r128.symm; subst q; have q := e_x8.symm; subst q; have q := e_x41.symm; subst q; have q := e_r81.symm; subst q; have q := e_x7.symm; subst q; have q := e_r39.symm; subst q; have q := e_r5.symm; subst q; rw [cnt1]
    unfold F_X4_flatLetters F_X2_lie
    simp only [flat_if (h.lie (k := 0) (by decide)), flat_if (h.lie (k := 1) (by decide)), flat_if (h.lie (k := 2) (by decide)), flat_if (h.lie (k := 3) (by decide)), flat_if (h.lie (k := 4) (by decide))]
  refine ⟨?_, ?_⟩
  · exact count_P h (w := 2) (by decide)
  intro r216 e_r216
  refine ⟨?_, ?_⟩
  · have q := e_r216.symm; subst q; have q := e_x186.symm; subst q; have q := e_x134.symm; subst q; have q := e_r185.symm; subst q; have q := e_x87.symm; subst q; have q := e_r133.symm; subst q; have q := e_x45.symm; subst q; have q := e_r86.symm; subst q; have q := e_x11.symm; subst q; have q := e_r44.symm; subst q; have q := e_r10.symm; subst q; rw [cnt2]
    unfold F_X4_together
    simp only [fnum4]
  refine ⟨?_, ?_⟩
  · exact count_P h (w := 3) (by decide)
  intro r219 e_r219
  refine ⟨?_, ?_⟩
  · have q := e_r219.symm; subst q; have q := e_x189.symm; subst q; have q := e_x137.symm; subst q; have q := e_r188.symm; subst q; have q := e_x90.symm; subst q; have q := e_r136.symm; subst q; have q := e_x48.symm; subst q; have q := e_r89.symm; subst q; have q := e_x14.symm; subst q; have q := e_r47.symm; subst q; have q := e_r13.symm; subst q; rw [cnt3]
    unfold F_X4_together
    simp only [fnum0]
  refine ⟨?_, ?_⟩
  · exact count_P h (w := 4) (by decide)
  intro r222 e_r222
  refine ⟨?_, ?_⟩
  · have q := e_r222.symm; subst q; have q := e_x193.symm; subst q; have q := e_x141.symm; subst q; have q := e_r192.symm; subst q; have q := e_x94.symm; subst q; have q := e_r140.symm; subst q; have q := e_r191.symm; subst q; have q := e_x52.symm; subst q; have q := e_r93.symm; subst q; have q := e_r139.symm; subst q; have q := e_x18.symm; subst q; have q := e_r51.symm; subst q; have q := e_r92.symm; subst q; have q := e_r17.symm; subst q; have q := e_r50.symm; subst q; have q := e_r16.symm; subst q; rw [cnt4]
    unfold F_X4_sealedPositions
    simp only [sealed_ones (h.seals (k := 0) (by decide)), sealed_ones (h.seals (k := 1) (by decide)), sealed_ones (h.seals (k := 2) (by decide)), sealed_ones (h.seals (k := 3) (by decide)), sealed_ones (h.seals (k := 4) (by decide))]
  refine ⟨?_, ?_⟩
  · exact count_P h (w := 5) (by decide)
  intro r225 e_r225
  refine ⟨?_, ?_⟩
  · have U10 : (F_S_distance st 1 0 ≤ 0) = (q_lie st 0 = q_lie st 1) := unlike h (a := 1) (b := 0) (by decide) (by decide)
    have U20 : (F_S_distance st 2 0 ≤ 0) = (q_lie st 0 = q_lie st 2) := unlike h (a := 2) (b := 0) (by decide) (by decide)
    have U21 : (F_S_distance st 2 1 ≤ 0) = (q_lie st 1 = q_lie st 2) := unlike h (a := 2) (b := 1) (by decide) (by decide)
    have U30 : (F_S_distance st 3 0 ≤ 0) = (q_lie st 0 = q_lie st 3) := unlike h (a := 3) (b := 0) (by decide) (by decide)
    have U31 : (F_S_distance st 3 1 ≤ 0) = (q_lie st 1 = q_lie st 3) := unlike h (a := 3) (b := 1) (by decide) (by decide)
    have U32 : (F_S_distance st 3 2 ≤ 0) = (q_lie st 2 = q_lie st 3) := unlike h (a := 3) (b := 2) (by decide) (by decide)
    have U40 : (F_S_distance st 4 0 ≤ 0) = (q_lie st 0 = q_lie st 4) := unlike h (a := 4) (b := 0) (by decide) (by decide)
    have U41 : (F_S_distance st 4 1 ≤ 0) = (q_lie st 1 = q_lie st 4) := unlike h (a := 4) (b := 1) (by decide) (by decide)
    have U42 : (F_S_distance st 4 2 ≤ 0) = (q_lie st 2 = q_lie st 4) := unlike h (a := 4) (b := 2) (by decide) (by decide)
    have U43 : (F_S_distance st 4 3 ≤ 0) = (q_lie st 3 = q_lie st 4) := unlike h (a := 4) (b := 3) (by decide) (by decide)
    have q := e_r225.symm; subst q; have q := e_x196.symm; subst q; have q := e_x144.symm; subst q; have q := e_x195.symm; subst q; have q := e_x97.symm; subst q; have q := e_x143.symm; subst q; have q := e_x175.symm; subst q; have q := e_x55.symm; subst q; have q := e_x96.symm; subst q; have q := e_x123.symm; subst q; have q := e_x170.symm; subst q; have q := e_x54.symm; subst q; have q := e_x76.symm; subst q; have q := e_x118.symm; subst q; have q := e_x165.symm; subst q; have q := e_x34.symm; subst q; have q := e_x71.symm; subst q; have q := e_x113.symm; subst q; have q := e_x160.symm; subst q; have q := e_r32.symm; subst q; have q := e_r69.symm; subst q; have q := e_r111.symm; subst q; have q := e_r158.symm; subst q; rw [cnt5]
    unfold F_X4_unlikeLies F_X4_liesAsOneBefore_0 F_X4_liesAsOneBefore_1 F_X4_liesAsOneBefore_2 F_X4_liesAsOneBefore_3 F_X4_liesAsOneBefore_4 F_X2_lie
    simp only [U10, U20, U21, U30, U31, U32, U40, U41, U42, U43, u00, u01, if_true, un1, un2, un3, un4]
  refine ⟨?_, ?_⟩
  · exact pressed_P h
  intro r228 e_r228
  refine ⟨?_, ?_⟩
  · refine ⟨fun c248 => trivial, fun c248 => ?_⟩
    · have t0 : x189 = F_X4_together (q_lie st) (q_seals st) (q_folds st) (q_n st) 0 := by have q := e_x189.symm; subst q; have q := e_x137.symm; subst q; have q := e_r188.symm; subst q; have q := e_x90.symm; subst q; have q := e_r136.symm; subst q; have q := e_x48.symm; subst q; have q := e_r89.symm; subst q; have q := e_x14.symm; subst q; have q := e_r47.symm; subst q; have q := e_r13.symm; subst q; unfold F_X4_together; simp only [fnum0]
      have t2 : x199 = F_X4_together (q_lie st) (q_seals st) (q_folds st) (q_n st) 2 := by have q := e_x199.symm; subst q; have q := e_x147.symm; subst q; have q := e_r198.symm; subst q; have q := e_x100.symm; subst q; have q := e_r146.symm; subst q; have q := e_x58.symm; subst q; have q := e_r99.symm; subst q; have q := e_x21.symm; subst q; have q := e_r57.symm; subst q; have q := e_r20.symm; subst q; unfold F_X4_together; simp only [fnum2]
      rw [t0, t2]
      exact (press_nn h (by rw [← t2]; exact c248)).1
  intro g231 e_g231
  refine ⟨?_, ?_⟩
  · have t0 : x189 = F_X4_together (q_lie st) (q_seals st) (q_folds st) (q_n st) 0 := by have q := e_x189.symm; subst q; have q := e_x137.symm; subst q; have q := e_r188.symm; subst q; have q := e_x90.symm; subst q; have q := e_r136.symm; subst q; have q := e_x48.symm; subst q; have q := e_r89.symm; subst q; have q := e_x14.symm; subst q; have q := e_r47.symm; subst q; have q := e_r13.symm; subst q; unfold F_X4_together; simp only [fnum0]
    have t2 : x199 = F_X4_together (q_lie st) (q_seals st) (q_folds st) (q_n st) 2 := by have q := e_x199.symm; subst q; have q := e_x147.symm; subst q; have q := e_r198.symm; subst q; have q := e_x100.symm; subst q; have q := e_r146.symm; subst q; have q := e_x58.symm; subst q; have q := e_r99.symm; subst q; have q := e_x21.symm; subst q; have q := e_r57.symm; subst q; have q := e_r20.symm; subst q; unfold F_X4_together; simp only [fnum2]
    have e9 : g231 = F_S_pressed st := by rw [e_g231, t0, t2, pressed_eq]
    rw [e9, e_r228]
    exact pressed_cmp h
  refine ⟨?_, ?_⟩
  · exact mean_P h
  intro r234 e_r234
  refine ⟨?_, ?_⟩
  · have t0 : x189 = F_X4_together (q_lie st) (q_seals st) (q_folds st) (q_n st) 0 := by have q := e_x189.symm; subst q; have q := e_x137.symm; subst q; have q := e_r188.symm; subst q; have q := e_x90.symm; subst q; have q := e_r136.symm; subst q; have q := e_x48.symm; subst q; have q := e_r89.symm; subst q; have q := e_x14.symm; subst q; have q := e_r47.symm; subst q; have q := e_r13.symm; subst q; unfold F_X4_together; simp only [fnum0]
    obtain ⟨A, hA, eA⟩ := tog_len h
    rw [t0, eA]
    exact (mean_ok hA).1
  have t0 : x189 = F_X4_together (q_lie st) (q_seals st) (q_folds st) (q_n st) 0 := by have q := e_x189.symm; subst q; have q := e_x137.symm; subst q; have q := e_r188.symm; subst q; have q := e_x90.symm; subst q; have q := e_r136.symm; subst q; have q := e_x48.symm; subst q; have q := e_r89.symm; subst q; have q := e_x14.symm; subst q; have q := e_r47.symm; subst q; have q := e_r13.symm; subst q; unfold F_X4_together; simp only [fnum0]
  obtain ⟨A, hA, eA⟩ := tog_len h
  rw [e_r234, mean_eq, t0, eA]
  exact (mean_ok hA).2

set_option maxRecDepth 20000 in
set_option maxHeartbeats 4000000 in
/-- all that is told of a letter -/
theorem isLetter_ok {st : St} (h : Inv st) {k : Nat} (hk : k < 5) (fA : Nat → Int32) : P_L_isLetter st fA (nI k) := by
  obtain ⟨N, S, hN, eN, hC, eL, hS, eS, hs⟩ := h.1 k hk
  have hL := h.lie hk
  have fl := fa_len N hC
  rw [← eL] at fl
  have lN := len_nI hL
  unfold P_L_isLetter
  refine ⟨?_, ?_⟩
  · exact rdP0 h hk
  intro r2 e_r2
  replace e_r2 := e_r2.trans (rd0 st hk)
  intro g3 e_g3
  intro g4 e_g4
  intro g5 e_g5
  intro g6 e_g6
  have E_g6 : E4 g6 1672 := by rw [e_g6, e_g5, e_g4, e_g3]; exact e4_flatU fA
  refine ⟨?_, ?_⟩
  · exact rdP2 h hk
  intro r8 e_r8
  replace e_r8 := e_r8.trans (rd2 st hk)
  replace e_r8 := e_r8.trans eN
  refine ⟨?_, ?_⟩
  · rw [e_r8]
    exact (il_loop hk eN hN hC N 0 (by omega) 61 g6 (by omega) E_g6).1
  intro f21 e_f21
  have E_f21 : E4 f21 (q_lie st k) := by
    rw [e_f21, e_r8, eL]
    exact (il_loop hk eN hN hC N 0 (by omega) 61 g6 (by omega) E_g6).2
  intro z22 e_z22
  refine ⟨?_, ?_⟩
  · exact s_layer_P hk (p := 0) (by decide)
  intro r24 e_r24
  replace e_r24 := e_r24.trans (s_layer_F st hk (p := 0))
  intro r25 e_r25
  intro x26 e_x26
  intro x28 e_x28
  intro x29 e_x29
  intro x31 e_x31
  intro x32 e_x32
  refine ⟨?_, ?_⟩
  · exact e_r24.trans (E_f21.at (p := 0) (by decide)).symm
  refine ⟨?_, ?_⟩
  · exact rdP7 h hk
  intro r35 e_r35
  replace e_r35 := e_r35.trans (rd7 st hk)
  replace e_r35 := e_r35.trans eS
  refine ⟨?_, ?_⟩
  · exact ⟨fun c => e_r24.trans (hs 0 (by decide) (bit_of hS (p := 0) (by decide) (by rw [e_r35] at c; exact c))), fun _ => trivial⟩
  refine ⟨?_, ?_⟩
  · exact s_layer_P hk (p := 1) (by decide)
  intro r39 e_r39
  replace e_r39 := e_r39.trans (s_layer_F st hk (p := 1))
  intro r40 e_r40
  intro x41 e_x41
  intro x43 e_x43
  intro x44 e_x44
  intro x46 e_x46
  intro x47 e_x47
  refine ⟨?_, ?_⟩
  · exact e_r39.trans (E_f21.at (p := 1) (by decide)).symm
  refine ⟨?_, ?_⟩
  · exact rdP7 h hk
  intro r50 e_r50
  replace e_r50 := e_r50.trans (rd7 st hk)
  replace e_r50 := e_r50.trans eS
  refine ⟨?_, ?_⟩
  · exact ⟨fun c => e_r39.trans (hs 1 (by decide) (bit_of hS (p := 1) (by decide) (by rw [e_r50] at c; exact c))), fun _ => trivial⟩
  refine ⟨?_, ?_⟩
  · exact s_layer_P hk (p := 2) (by decide)
  intro r54 e_r54
  replace e_r54 := e_r54.trans (s_layer_F st hk (p := 2))
  intro r55 e_r55
  intro x56 e_x56
  intro x58 e_x58
  intro x59 e_x59
  intro x61 e_x61
  intro x62 e_x62
  refine ⟨?_, ?_⟩
  · exact e_r54.trans (E_f21.at (p := 2) (by decide)).symm
  refine ⟨?_, ?_⟩
  · exact rdP7 h hk
  intro r65 e_r65
  replace e_r65 := e_r65.trans (rd7 st hk)
  replace e_r65 := e_r65.trans eS
  refine ⟨?_, ?_⟩
  · exact ⟨fun c => e_r54.trans (hs 2 (by decide) (bit_of hS (p := 2) (by decide) (by rw [e_r65] at c; exact c))), fun _ => trivial⟩
  refine ⟨?_, ?_⟩
  · exact s_layer_P hk (p := 3) (by decide)
  intro r69 e_r69
  replace e_r69 := e_r69.trans (s_layer_F st hk (p := 3))
  intro r70 e_r70
  intro x71 e_x71
  intro x73 e_x73
  intro x74 e_x74
  intro x76 e_x76
  intro x77 e_x77
  refine ⟨?_, ?_⟩
  · exact e_r69.trans (E_f21.at (p := 3) (by decide)).symm
  refine ⟨?_, ?_⟩
  · exact rdP7 h hk
  intro r80 e_r80
  replace e_r80 := e_r80.trans (rd7 st hk)
  replace e_r80 := e_r80.trans eS
  refine ⟨?_, ?_⟩
  · exact ⟨fun c => e_r69.trans (hs 3 (by decide) (bit_of hS (p := 3) (by decide) (by rw [e_r80] at c; exact c))), fun _ => trivial⟩
  refine ⟨?_, ?_⟩
  · have q := e_x71.symm; subst q; have q := e_x56.symm; subst q; have q := e_r70.symm; subst q; have q := e_x41.symm; subst q; have q := e_r55.symm; subst q; have q := e_r69.symm; subst q; have q := e_x26.symm; subst q; have q := e_r40.symm; subst q; have q := e_r54.symm; subst q; have q := e_r25.symm; subst q; have q := e_r39.symm; subst q; have q := e_r24.symm; subst q; exact of_decide_eq_true (allL_of pf_seen hL)
  intro r84 e_r84
  replace e_r84 := e_r84.trans (e4_lenL E_f21 hL)
  refine ⟨?_, ?_⟩
  · exact e_r2.trans e_r84.symm
  refine ⟨?_, ?_⟩
  · exact rdP1 h hk
  intro r87 e_r87
  replace e_r87 := e_r87.trans (rd1 h hk)
  refine ⟨?_, ?_⟩
  · exact e_r87.trans e_r2.symm
  refine ⟨?_, ?_⟩
  · exact rdP5 h hk
  intro r90 e_r90
  replace e_r90 := e_r90.trans (rd5 st hk)
  refine ⟨?_, ?_⟩
  · have q := e_r90.symm; subst q; have q := e_x74.symm; subst q; have q := e_x59.symm; subst q; have q := e_x73.symm; subst q; have q := e_x44.symm; subst q; have q := e_x58.symm; subst q; have q := e_r69.symm; subst q; have q := e_x29.symm; subst q; have q := e_x43.symm; subst q; have q := e_r54.symm; subst q; have q := e_x28.symm; subst q; have q := e_r39.symm; subst q; have q := e_r24.symm; subst q; exact of_decide_eq_true (allL_of pf_homeL hL)
  refine ⟨?_, ?_⟩
  · exact rdP6 h hk
  intro r93 e_r93
  replace e_r93 := e_r93.trans (rd6 st hk)
  refine ⟨?_, ?_⟩
  · have q := e_r93.symm; subst q; have q := e_x77.symm; subst q; have q := e_x62.symm; subst q; have q := e_x76.symm; subst q; have q := e_x47.symm; subst q; have q := e_x61.symm; subst q; have q := e_r69.symm; subst q; have q := e_x32.symm; subst q; have q := e_x46.symm; subst q; have q := e_r54.symm; subst q; have q := e_x31.symm; subst q; have q := e_r39.symm; subst q; have q := e_r24.symm; subst q; exact of_decide_eq_true (allL_of pf_turnL hL)
  refine ⟨?_, ?_⟩
  · rw [e_r8, e_r2, lN.1]
    exact nI_nlt fl.1 (by omega)
  refine ⟨?_, ?_⟩
  · rw [e_r8, e_r2, lN.1, nI_sub fl.1 (by omega), rem2 (by omega), fl.2]
    rfl
  refine ⟨?_, ?_⟩
  · exact p_foldL _ (Or.inl rfl)
  intro g99 e_g99
  have E_g99 : E4 g99 (F_X3_folded (q_lie st k) 0) := by rw [e_g99]; exact e4_foldL E_f21 hL (Or.inl rfl)
  intro r100 e_r100
  replace e_r100 := e_r100.trans (e4_lenL E_g99 (lie_fold hL (Or.inl rfl)))
  refine ⟨?_, ?_⟩
  · exact p_foldL _ (Or.inl rfl)
  intro g103 e_g103
  have E_g103 : E4 g103 (q_lie st k) := by
    have q := e4_foldL E_g99 (lie_fold hL (Or.inl rfl)) (Or.inl rfl)
    rw [fold_fold hL (Or.inl rfl)] at q
    rw [e_g103]; exact q
  intro x105 e_x105
  intro x106 e_x106
  refine ⟨?_, ?_⟩
  · exact rdP7 h hk
  intro r108 e_r108
  replace e_r108 := e_r108.trans (rd7 st hk)
  replace e_r108 := e_r108.trans eS
  intro x110 e_x110
  intro x113 e_x113
  have W_x113 : x113 = F_X2_reasonAgainst (nI S) (nI N) 0 := by
    have q := e_x113.symm; subst q; have q := e_r8.symm; subst q; have q := e_x110.symm; subst q; have q := e_r108.symm; subst q; rw [why_eq hN, touch0 hS]
  intro x115 e_x115
  intro x116 e_x116
  refine ⟨?_, ?_⟩
  · exact s_if_P hk (Or.inl rfl)
  intro r118 e_r118
  replace e_r118 := e_r118.trans (s_if_F st hk)
  refine ⟨?_, ?_⟩
  · exact e_r118.trans e_r100.symm
  intro r120 e_r120
  refine ⟨?_, ?_⟩
  · rw [e_r120, e_r100, e_r2]
    exact diff1 hL (Or.inl rfl)
  refine ⟨?_, ?_⟩
  · exact s_why_P hk (Or.inl rfl)
  intro r123 e_r123
  replace e_r123 := e_r123.trans (s_why_F st hk)
  rw [eS, eN] at e_r123
  refine ⟨?_, ?_⟩
  · exact e_r123.trans W_x113.symm
  refine ⟨?_, ?_⟩
  · exact p_foldL _ (Or.inr (Or.inl rfl))
  intro g127 e_g127
  have E_g127 : E4 g127 (F_X3_folded (q_lie st k) 1) := by rw [e_g127]; exact e4_foldL E_g103 hL (Or.inr (Or.inl rfl))
  intro r128 e_r128
  replace e_r128 := e_r128.trans (e4_lenL E_g127 (lie_fold hL (Or.inr (Or.inl rfl))))
  refine ⟨?_, ?_⟩
  · exact p_foldL _ (Or.inr (Or.inl rfl))
  intro g131 e_g131
  have E_g131 : E4 g131 (q_lie st k) := by
    have q := e4_foldL E_g127 (lie_fold hL (Or.inr (Or.inl rfl))) (Or.inr (Or.inl rfl))
    rw [fold_fold hL (Or.inr (Or.inl rfl))] at q
    rw [e_g131]; exact q
  intro x133 e_x133
  intro x134 e_x134
  refine ⟨?_, ?_⟩
  · exact rdP7 h hk
  intro r136 e_r136
  replace e_r136 := e_r136.trans (rd7 st hk)
  replace e_r136 := e_r136.trans eS
  intro x138 e_x138
  intro x141 e_x141
  have W_x141 : x141 = F_X2_reasonAgainst (nI S) (nI N) 1 := by
    have q := e_x141.symm; subst q; have q := e_r8.symm; subst q; have q := e_x138.symm; subst q; have q := e_r136.symm; subst q; rw [why_eq hN, show F_X2_touchesSeal (nI S) 1 = if ((nI S >>> ((0 : Int32) &&& 31)) &&& 3) = 0 then 0 else 1 from touch1 hS (Or.inr (Or.inl rfl)) (by decide)]
  intro x143 e_x143
  intro x144 e_x144
  refine ⟨?_, ?_⟩
  · exact s_if_P hk (Or.inr (Or.inl rfl))
  intro r146 e_r146
  replace e_r146 := e_r146.trans (s_if_F st hk)
  refine ⟨?_, ?_⟩
  · exact e_r146.trans e_r128.symm
  intro r148 e_r148
  refine ⟨?_, ?_⟩
  · rw [e_r148, e_r128, e_r2]
    exact diff1 hL (Or.inr (Or.inl rfl))
  refine ⟨?_, ?_⟩
  · exact s_why_P hk (Or.inr (Or.inl rfl))
  intro r151 e_r151
  replace e_r151 := e_r151.trans (s_why_F st hk)
  rw [eS, eN] at e_r151
  refine ⟨?_, ?_⟩
  · exact e_r151.trans W_x141.symm
  refine ⟨?_, ?_⟩
  · exact p_foldL _ (Or.inr (Or.inr (Or.inl rfl)))
  intro g155 e_g155
  have E_g155 : E4 g155 (F_X3_folded (q_lie st k) 2) := by rw [e_g155]; exact e4_foldL E_g131 hL (Or.inr (Or.inr (Or.inl rfl)))
  intro r156 e_r156
  replace e_r156 := e_r156.trans (e4_lenL E_g155 (lie_fold hL (Or.inr (Or.inr (Or.inl rfl)))))
  refine ⟨?_, ?_⟩
  · exact p_foldL _ (Or.inr (Or.inr (Or.inl rfl)))
  intro g159 e_g159
  have E_g159 : E4 g159 (q_lie st k) := by
    have q := e4_foldL E_g155 (lie_fold hL (Or.inr (Or.inr (Or.inl rfl)))) (Or.inr (Or.inr (Or.inl rfl)))
    rw [fold_fold hL (Or.inr (Or.inr (Or.inl rfl)))] at q
    rw [e_g159]; exact q
  intro x161 e_x161
  intro x162 e_x162
  refine ⟨?_, ?_⟩
  · exact rdP7 h hk
  intro r164 e_r164
  replace e_r164 := e_r164.trans (rd7 st hk)
  replace e_r164 := e_r164.trans eS
  intro x166 e_x166
  intro x169 e_x169
  have W_x169 : x169 = F_X2_reasonAgainst (nI S) (nI N) 2 := by
    have q := e_x169.symm; subst q; have q := e_r8.symm; subst q; have q := e_x166.symm; subst q; have q := e_r164.symm; subst q; rw [why_eq hN, show F_X2_touchesSeal (nI S) 2 = if ((nI S >>> ((1 : Int32) &&& 31)) &&& 3) = 0 then 0 else 1 from touch1 hS (Or.inr (Or.inr (Or.inl rfl))) (by decide)]
  intro x171 e_x171
  intro x172 e_x172
  refine ⟨?_, ?_⟩
  · exact s_if_P hk (Or.inr (Or.inr (Or.inl rfl)))
  intro r174 e_r174
  replace e_r174 := e_r174.trans (s_if_F st hk)
  refine ⟨?_, ?_⟩
  · exact e_r174.trans e_r156.symm
  intro r176 e_r176
  refine ⟨?_, ?_⟩
  · rw [e_r176, e_r156, e_r2]
    exact diff1 hL (Or.inr (Or.inr (Or.inl rfl)))
  refine ⟨?_, ?_⟩
  · exact s_why_P hk (Or.inr (Or.inr (Or.inl rfl)))
  intro r179 e_r179
  replace e_r179 := e_r179.trans (s_why_F st hk)
  rw [eS, eN] at e_r179
  refine ⟨?_, ?_⟩
  · exact e_r179.trans W_x169.symm
  refine ⟨?_, ?_⟩
  · exact p_foldL _ (Or.inr (Or.inr (Or.inr rfl)))
  intro g183 e_g183
  have E_g183 : E4 g183 (F_X3_folded (q_lie st k) 3) := by rw [e_g183]; exact e4_foldL E_g159 hL (Or.inr (Or.inr (Or.inr rfl)))
  intro r184 e_r184
  replace e_r184 := e_r184.trans (e4_lenL E_g183 (lie_fold hL (Or.inr (Or.inr (Or.inr rfl)))))
  refine ⟨?_, ?_⟩
  · exact p_foldL _ (Or.inr (Or.inr (Or.inr rfl)))
  intro g187 e_g187
  have E_g187 : E4 g187 (q_lie st k) := by
    have q := e4_foldL E_g183 (lie_fold hL (Or.inr (Or.inr (Or.inr rfl)))) (Or.inr (Or.inr (Or.inr rfl)))
    rw [fold_fold hL (Or.inr (Or.inr (Or.inr rfl)))] at q
    rw [e_g187]; exact q
  intro x189 e_x189
  intro x190 e_x190
  refine ⟨?_, ?_⟩
  · exact rdP7 h hk
  intro r192 e_r192
  replace e_r192 := e_r192.trans (rd7 st hk)
  replace e_r192 := e_r192.trans eS
  intro x194 e_x194
  intro x197 e_x197
  have W_x197 : x197 = F_X2_reasonAgainst (nI S) (nI N) 3 := by
    have q := e_x197.symm; subst q; have q := e_r8.symm; subst q; have q := e_x194.symm; subst q; have q := e_r192.symm; subst q; rw [why_eq hN, show F_X2_touchesSeal (nI S) 3 = if ((nI S >>> ((2 : Int32) &&& 31)) &&& 3) = 0 then 0 else 1 from touch1 hS (Or.inr (Or.inr (Or.inr rfl))) (by decide)]
  intro x199 e_x199
  intro x200 e_x200
  refine ⟨?_, ?_⟩
  · exact s_if_P hk (Or.inr (Or.inr (Or.inr rfl)))
  intro r202 e_r202
  replace e_r202 := e_r202.trans (s_if_F st hk)
  refine ⟨?_, ?_⟩
  · exact e_r202.trans e_r184.symm
  intro r204 e_r204
  refine ⟨?_, ?_⟩
  · rw [e_r204, e_r184, e_r2]
    exact diff1 hL (Or.inr (Or.inr (Or.inr rfl)))
  refine ⟨?_, ?_⟩
  · exact s_why_P hk (Or.inr (Or.inr (Or.inr rfl)))
  intro r207 e_r207
  replace e_r207 := e_r207.trans (s_why_F st hk)
  rw [eS, eN] at e_r207
  refine ⟨?_, ?_⟩
  · exact e_r207.trans W_x197.symm
  refine ⟨?_, ?_⟩
  · exact rdP8 h hk
  intro r210 e_r210
  replace e_r210 := e_r210.trans (rd8 st hk)
  refine ⟨?_, ?_⟩
  · have q := e_r210.symm; subst q; have q := e_x190.symm; subst q; have q := e_x162.symm; subst q; have q := e_x189.symm; subst q; have q := e_x134.symm; subst q; have q := e_x161.symm; subst q; have q := e_r2.symm; subst q; have q := e_r184.symm; subst q; have q := e_x106.symm; subst q; have q := e_x133.symm; subst q; have q := e_r156.symm; subst q; have q := e_x105.symm; subst q; have q := e_r128.symm; subst q; have q := e_r100.symm; subst q; exact of_decide_eq_true (allL_of pf_maskL hL)
  refine ⟨?_, ?_⟩
  · exact rdP9 h hk
  intro r213 e_r213
  replace e_r213 := e_r213.trans (rd9 st hk)
  rw [eS, eN] at e_r213
  refine ⟨?_, ?_⟩
  · have q := e_r213.symm; subst q; have q := e_x200.symm; subst q; have q := e_x172.symm; subst q; have q := e_x199.symm; subst q; have q := e_x144.symm; subst q; have q := e_x171.symm; subst q; have q := e_x197.symm; subst q; have q := e_x116.symm; subst q; have q := e_x143.symm; subst q; have q := e_x169.symm; subst q; have q := e_x115.symm; subst q; have q := e_x141.symm; subst q; have q := e_x113.symm; subst q; rw [W_x113, W_x141, W_x169, W_x197]
    exact bar_eq hN
  refine ⟨?_, ?_⟩
  · rw [e_r8]
    exact s_crease_P hk eN hN (by omega)
  intro r216 e_r216
  rw [e_r8, s_crease_F st hk, eN, (row_out (q_f st k) (Nat.le_refl N) (by omega)).2] at e_r216
  exact e_r216

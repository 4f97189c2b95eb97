theorem lk00 : ((0 : Int32) = nI 0) = True := eq_true rfl
theorem lk01 : ((0 : Int32) = nI 1) = False := eq_false (by decide)
theorem lk02 : ((0 : Int32) = nI 2) = False := eq_false (by decide)
theorem lk03 : ((0 : Int32) = nI 3) = False := eq_false (by decide)
theorem lk04 : ((0 : Int32) = nI 4) = False := eq_false (by decide)
theorem lk10 : ((1 : Int32) = nI 0) = False := eq_false (by decide)
theorem lk11 : ((1 : Int32) = nI 1) = True := eq_true rfl
theorem lk12 : ((1 : Int32) = nI 2) = False := eq_false (by decide)
theorem lk13 : ((1 : Int32) = nI 3) = False := eq_false (by decide)
theorem lk14 : ((1 : Int32) = nI 4) = False := eq_false (by decide)
theorem lk20 : ((2 : Int32) = nI 0) = False := eq_false (by decide)
theorem lk21 : ((2 : Int32) = nI 1) = False := eq_false (by decide)
theorem lk22 : ((2 : Int32) = nI 2) = True := eq_true rfl
theorem lk23 : ((2 : Int32) = nI 3) = False := eq_false (by decide)
theorem lk24 : ((2 : Int32) = nI 4) = False := eq_false (by decide)
theorem lk30 : ((3 : Int32) = nI 0) = False := eq_false (by decide)
theorem lk31 : ((3 : Int32) = nI 1) = False := eq_false (by decide)
theorem lk32 : ((3 : Int32) = nI 2) = False := eq_false (by decide)
theorem lk33 : ((3 : Int32) = nI 3) = True := eq_true rfl
theorem lk34 : ((3 : Int32) = nI 4) = False := eq_false (by decide)
theorem lk40 : ((4 : Int32) = nI 0) = False := eq_false (by decide)
theorem lk41 : ((4 : Int32) = nI 1) = False := eq_false (by decide)
theorem lk42 : ((4 : Int32) = nI 2) = False := eq_false (by decide)
theorem lk43 : ((4 : Int32) = nI 3) = False := eq_false (by decide)
theorem lk44 : ((4 : Int32) = nI 4) = True := eq_true rfl
theorem sd_nI {st : St} (h : Inv st) {a b : Nat} (ha : a < 5) (hb : b < 5) : F_S_distance st (nI a) (nI b) = nI (dN (q_lie st a) (q_lie st b)) := (s_dist_F st ha hb).trans (dist_nI (h.lie ha) (h.lie hb)).1
theorem ge17 {d : Nat} (h : d ≤ 16) : ((17 : Int32) ≤ nI d) = False := eq_false (nI_ge (b := 17) (by omega) (by decide))
theorem ge99 {d : Nat} (h : d ≤ 16) : ((99 : Int32) ≤ nI d) = False := eq_false (nI_ge (b := 99) (by omega) (by decide))
set_option maxRecDepth 20000 in
set_option maxHeartbeats 4000000 in
/-- distances, and the nearest letter -/
theorem areNear_ok {st : St} (h : Inv st) {k : Nat} (hk : k < 5) : P_L_areNear st (nI k) := by
  have D := fun (a b : Nat) (ha : a < 5) (hb : b < 5) => (dist_nI (h.lie ha) (h.lie hb))
  unfold P_L_areNear
  refine ⟨?_, ?_⟩
  · exact s_dist_P st (a := k) (b := 0) hk (show 0 < 5 by decide)
  intro r2 e_r2
  replace e_r2 := e_r2.trans (sd_nI h (a := k) (b := 0) hk (show 0 < 5 by decide))
  refine ⟨?_, ?_⟩
  · exact s_dist_P st (a := 0) (b := k) (show 0 < 5 by decide) hk
  intro r4 e_r4
  replace e_r4 := e_r4.trans (sd_nI h (a := 0) (b := k) (show 0 < 5 by decide) hk)
  refine ⟨?_, ?_⟩
  · rw [e_r2, e_r4, dist_sym (h.lie hk) (h.lie (show 0 < 5 by decide))]
  refine ⟨?_, ?_⟩
  · refine ⟨fun c => ?_, fun _ => trivial⟩
    have q := (nI_eq (a := 0) (b := k) (by decide) (by omega)).mp (show nI 0 = nI k from c)
    subst q
    rw [e_r2, dist_self (h.lie (by decide))]
    rfl
  refine ⟨?_, ?_⟩
  · exact s_dist_P st (a := k) (b := 0) hk (show 0 < 5 by decide)
  intro r9 e_r9
  replace e_r9 := e_r9.trans (sd_nI h (a := k) (b := 0) hk (show 0 < 5 by decide))
  refine ⟨?_, ?_⟩
  · exact s_dist_P st (a := 0) (b := 0) (show 0 < 5 by decide) (show 0 < 5 by decide)
  intro r11 e_r11
  replace e_r11 := e_r11.trans (sd_nI h (a := 0) (b := 0) (show 0 < 5 by decide) (show 0 < 5 by decide))
  refine ⟨?_, ?_⟩
  · rw [e_r2, e_r9, e_r11, nI_add]
    have q1 := (D k 0 hk (show 0 < 5 by decide)).2
    have q2 := (D 0 0 (show 0 < 5 by decide) (show 0 < 5 by decide)).2
    exact nI_le (dist_tri (h.lie hk) (h.lie (show 0 < 5 by decide)) (h.lie (show 0 < 5 by decide))) (by unfold dN at *; omega)
  refine ⟨?_, ?_⟩
  · exact s_dist_P st (a := k) (b := 1) hk (show 1 < 5 by decide)
  intro r14 e_r14
  replace e_r14 := e_r14.trans (sd_nI h (a := k) (b := 1) hk (show 1 < 5 by decide))
  refine ⟨?_, ?_⟩
  · exact s_dist_P st (a := 1) (b := 0) (show 1 < 5 by decide) (show 0 < 5 by decide)
  intro r16 e_r16
  replace e_r16 := e_r16.trans (sd_nI h (a := 1) (b := 0) (show 1 < 5 by decide) (show 0 < 5 by decide))
  refine ⟨?_, ?_⟩
  · rw [e_r2, e_r14, e_r16, nI_add]
    have q1 := (D k 1 hk (show 1 < 5 by decide)).2
    have q2 := (D 1 0 (show 1 < 5 by decide) (show 0 < 5 by decide)).2
    exact nI_le (dist_tri (h.lie hk) (h.lie (show 1 < 5 by decide)) (h.lie (show 0 < 5 by decide))) (by unfold dN at *; omega)
  refine ⟨?_, ?_⟩
  · exact s_dist_P st (a := k) (b := 2) hk (show 2 < 5 by decide)
  intro r19 e_r19
  replace e_r19 := e_r19.trans (sd_nI h (a := k) (b := 2) hk (show 2 < 5 by decide))
  refine ⟨?_, ?_⟩
  · exact s_dist_P st (a := 2) (b := 0) (show 2 < 5 by decide) (show 0 < 5 by decide)
  intro r21 e_r21
  replace e_r21 := e_r21.trans (sd_nI h (a := 2) (b := 0) (show 2 < 5 by decide) (show 0 < 5 by decide))
  refine ⟨?_, ?_⟩
  · rw [e_r2, e_r19, e_r21, nI_add]
    have q1 := (D k 2 hk (show 2 < 5 by decide)).2
    have q2 := (D 2 0 (show 2 < 5 by decide) (show 0 < 5 by decide)).2
    exact nI_le (dist_tri (h.lie hk) (h.lie (show 2 < 5 by decide)) (h.lie (show 0 < 5 by decide))) (by unfold dN at *; omega)
  refine ⟨?_, ?_⟩
  · exact s_dist_P st (a := k) (b := 3) hk (show 3 < 5 by decide)
  intro r24 e_r24
  replace e_r24 := e_r24.trans (sd_nI h (a := k) (b := 3) hk (show 3 < 5 by decide))
  refine ⟨?_, ?_⟩
  · exact s_dist_P st (a := 3) (b := 0) (show 3 < 5 by decide) (show 0 < 5 by decide)
  intro r26 e_r26
  replace e_r26 := e_r26.trans (sd_nI h (a := 3) (b := 0) (show 3 < 5 by decide) (show 0 < 5 by decide))
  refine ⟨?_, ?_⟩
  · rw [e_r2, e_r24, e_r26, nI_add]
    have q1 := (D k 3 hk (show 3 < 5 by decide)).2
    have q2 := (D 3 0 (show 3 < 5 by decide) (show 0 < 5 by decide)).2
    exact nI_le (dist_tri (h.lie hk) (h.lie (show 3 < 5 by decide)) (h.lie (show 0 < 5 by decide))) (by unfold dN at *; omega)
  refine ⟨?_, ?_⟩
  · exact s_dist_P st (a := k) (b := 4) hk (show 4 < 5 by decide)
  intro r29 e_r29
  replace e_r29 := e_r29.trans (sd_nI h (a := k) (b := 4) hk (show 4 < 5 by decide))
  refine ⟨?_, ?_⟩
  · exact s_dist_P st (a := 4) (b := 0) (show 4 < 5 by decide) (show 0 < 5 by decide)
  intro r31 e_r31
  replace e_r31 := e_r31.trans (sd_nI h (a := 4) (b := 0) (show 4 < 5 by decide) (show 0 < 5 by decide))
  refine ⟨?_, ?_⟩
  · rw [e_r2, e_r29, e_r31, nI_add]
    have q1 := (D k 4 hk (show 4 < 5 by decide)).2
    have q2 := (D 4 0 (show 4 < 5 by decide) (show 0 < 5 by decide)).2
    exact nI_le (dist_tri (h.lie hk) (h.lie (show 4 < 5 by decide)) (h.lie (show 0 < 5 by decide))) (by unfold dN at *; omega)
  intro x35 e_x35
  intro x38 e_x38
  refine ⟨?_, ?_⟩
  · exact s_dist_P st (a := k) (b := 1) hk (show 1 < 5 by decide)
  intro r40 e_r40
  replace e_r40 := e_r40.trans (sd_nI h (a := k) (b := 1) hk (show 1 < 5 by decide))
  refine ⟨?_, ?_⟩
  · exact s_dist_P st (a := 1) (b := k) (show 1 < 5 by decide) hk
  intro r42 e_r42
  replace e_r42 := e_r42.trans (sd_nI h (a := 1) (b := k) (show 1 < 5 by decide) hk)
  refine ⟨?_, ?_⟩
  · rw [e_r40, e_r42, dist_sym (h.lie hk) (h.lie (show 1 < 5 by decide))]
  refine ⟨?_, ?_⟩
  · refine ⟨fun c => ?_, fun _ => trivial⟩
    have q := (nI_eq (a := 1) (b := k) (by decide) (by omega)).mp (show nI 1 = nI k from c)
    subst q
    rw [e_r40, dist_self (h.lie (by decide))]
    rfl
  refine ⟨?_, ?_⟩
  · exact s_dist_P st (a := k) (b := 0) hk (show 0 < 5 by decide)
  intro r47 e_r47
  replace e_r47 := e_r47.trans (sd_nI h (a := k) (b := 0) hk (show 0 < 5 by decide))
  refine ⟨?_, ?_⟩
  · exact s_dist_P st (a := 0) (b := 1) (show 0 < 5 by decide) (show 1 < 5 by decide)
  intro r49 e_r49
  replace e_r49 := e_r49.trans (sd_nI h (a := 0) (b := 1) (show 0 < 5 by decide) (show 1 < 5 by decide))
  refine ⟨?_, ?_⟩
  · rw [e_r40, e_r47, e_r49, nI_add]
    have q1 := (D k 0 hk (show 0 < 5 by decide)).2
    have q2 := (D 0 1 (show 0 < 5 by decide) (show 1 < 5 by decide)).2
    exact nI_le (dist_tri (h.lie hk) (h.lie (show 0 < 5 by decide)) (h.lie (show 1 < 5 by decide))) (by unfold dN at *; omega)
  refine ⟨?_, ?_⟩
  · exact s_dist_P st (a := k) (b := 1) hk (show 1 < 5 by decide)
  intro r52 e_r52
  replace e_r52 := e_r52.trans (sd_nI h (a := k) (b := 1) hk (show 1 < 5 by decide))
  refine ⟨?_, ?_⟩
  · exact s_dist_P st (a := 1) (b := 1) (show 1 < 5 by decide) (show 1 < 5 by decide)
  intro r54 e_r54
  replace e_r54 := e_r54.trans (sd_nI h (a := 1) (b := 1) (show 1 < 5 by decide) (show 1 < 5 by decide))
  refine ⟨?_, ?_⟩
  · rw [e_r40, e_r52, e_r54, nI_add]
    have q1 := (D k 1 hk (show 1 < 5 by decide)).2
    have q2 := (D 1 1 (show 1 < 5 by decide) (show 1 < 5 by decide)).2
    exact nI_le (dist_tri (h.lie hk) (h.lie (show 1 < 5 by decide)) (h.lie (show 1 < 5 by decide))) (by unfold dN at *; omega)
  refine ⟨?_, ?_⟩
  · exact s_dist_P st (a := k) (b := 2) hk (show 2 < 5 by decide)
  intro r57 e_r57
  replace e_r57 := e_r57.trans (sd_nI h (a := k) (b := 2) hk (show 2 < 5 by decide))
  refine ⟨?_, ?_⟩
  · exact s_dist_P st (a := 2) (b := 1) (show 2 < 5 by decide) (show 1 < 5 by decide)
  intro r59 e_r59
  replace e_r59 := e_r59.trans (sd_nI h (a := 2) (b := 1) (show 2 < 5 by decide) (show 1 < 5 by decide))
  refine ⟨?_, ?_⟩
  · rw [e_r40, e_r57, e_r59, nI_add]
    have q1 := (D k 2 hk (show 2 < 5 by decide)).2
    have q2 := (D 2 1 (show 2 < 5 by decide) (show 1 < 5 by decide)).2
    exact nI_le (dist_tri (h.lie hk) (h.lie (show 2 < 5 by decide)) (h.lie (show 1 < 5 by decide))) (by unfold dN at *; omega)
  refine ⟨?_, ?_⟩
  · exact s_dist_P st (a := k) (b := 3) hk (show 3 < 5 by decide)
  intro r62 e_r62
  replace e_r62 := e_r62.trans (sd_nI h (a := k) (b := 3) hk (show 3 < 5 by decide))
  refine ⟨?_, ?_⟩
  · exact s_dist_P st (a := 3) (b := 1) (show 3 < 5 by decide) (show 1 < 5 by decide)
  intro r64 e_r64
  replace e_r64 := e_r64.trans (sd_nI h (a := 3) (b := 1) (show 3 < 5 by decide) (show 1 < 5 by decide))
  refine ⟨?_, ?_⟩
  · rw [e_r40, e_r62, e_r64, nI_add]
    have q1 := (D k 3 hk (show 3 < 5 by decide)).2
    have q2 := (D 3 1 (show 3 < 5 by decide) (show 1 < 5 by decide)).2
    exact nI_le (dist_tri (h.lie hk) (h.lie (show 3 < 5 by decide)) (h.lie (show 1 < 5 by decide))) (by unfold dN at *; omega)
  refine ⟨?_, ?_⟩
  · exact s_dist_P st (a := k) (b := 4) hk (show 4 < 5 by decide)
  intro r67 e_r67
  replace e_r67 := e_r67.trans (sd_nI h (a := k) (b := 4) hk (show 4 < 5 by decide))
  refine ⟨?_, ?_⟩
  · exact s_dist_P st (a := 4) (b := 1) (show 4 < 5 by decide) (show 1 < 5 by decide)
  intro r69 e_r69
  replace e_r69 := e_r69.trans (sd_nI h (a := 4) (b := 1) (show 4 < 5 by decide) (show 1 < 5 by decide))
  refine ⟨?_, ?_⟩
  · rw [e_r40, e_r67, e_r69, nI_add]
    have q1 := (D k 4 hk (show 4 < 5 by decide)).2
    have q2 := (D 4 1 (show 4 < 5 by decide) (show 1 < 5 by decide)).2
    exact nI_le (dist_tri (h.lie hk) (h.lie (show 4 < 5 by decide)) (h.lie (show 1 < 5 by decide))) (by unfold dN at *; omega)
  intro x73 e_x73
  intro x76 e_x76
  refine ⟨?_, ?_⟩
  · exact s_dist_P st (a := k) (b := 2) hk (show 2 < 5 by decide)
  intro r78 e_r78
  replace e_r78 := e_r78.trans (sd_nI h (a := k) (b := 2) hk (show 2 < 5 by decide))
  refine ⟨?_, ?_⟩
  · exact s_dist_P st (a := 2) (b := k) (show 2 < 5 by decide) hk
  intro r80 e_r80
  replace e_r80 := e_r80.trans (sd_nI h (a := 2) (b := k) (show 2 < 5 by decide) hk)
  refine ⟨?_, ?_⟩
  · rw [e_r78, e_r80, dist_sym (h.lie hk) (h.lie (show 2 < 5 by decide))]
  refine ⟨?_, ?_⟩
  · refine ⟨fun c => ?_, fun _ => trivial⟩
    have q := (nI_eq (a := 2) (b := k) (by decide) (by omega)).mp (show nI 2 = nI k from c)
    subst q
    rw [e_r78, dist_self (h.lie (by decide))]
    rfl
  refine ⟨?_, ?_⟩
  · exact s_dist_P st (a := k) (b := 0) hk (show 0 < 5 by decide)
  intro r85 e_r85
  replace e_r85 := e_r85.trans (sd_nI h (a := k) (b := 0) hk (show 0 < 5 by decide))
  refine ⟨?_, ?_⟩
  · exact s_dist_P st (a := 0) (b := 2) (show 0 < 5 by decide) (show 2 < 5 by decide)
  intro r87 e_r87
  replace e_r87 := e_r87.trans (sd_nI h (a := 0) (b := 2) (show 0 < 5 by decide) (show 2 < 5 by decide))
  refine ⟨?_, ?_⟩
  · rw [e_r78, e_r85, e_r87, nI_add]
    have q1 := (D k 0 hk (show 0 < 5 by decide)).2
    have q2 := (D 0 2 (show 0 < 5 by decide) (show 2 < 5 by decide)).2
    exact nI_le (dist_tri (h.lie hk) (h.lie (show 0 < 5 by decide)) (h.lie (show 2 < 5 by decide))) (by unfold dN at *; omega)
  refine ⟨?_, ?_⟩
  · exact s_dist_P st (a := k) (b := 1) hk (show 1 < 5 by decide)
  intro r90 e_r90
  replace e_r90 := e_r90.trans (sd_nI h (a := k) (b := 1) hk (show 1 < 5 by decide))
  refine ⟨?_, ?_⟩
  · exact s_dist_P st (a := 1) (b := 2) (show 1 < 5 by decide) (show 2 < 5 by decide)
  intro r92 e_r92
  replace e_r92 := e_r92.trans (sd_nI h (a := 1) (b := 2) (show 1 < 5 by decide) (show 2 < 5 by decide))
  refine ⟨?_, ?_⟩
  · rw [e_r78, e_r90, e_r92, nI_add]
    have q1 := (D k 1 hk (show 1 < 5 by decide)).2
    have q2 := (D 1 2 (show 1 < 5 by decide) (show 2 < 5 by decide)).2
    exact nI_le (dist_tri (h.lie hk) (h.lie (show 1 < 5 by decide)) (h.lie (show 2 < 5 by decide))) (by unfold dN at *; omega)
  refine ⟨?_, ?_⟩
  · exact s_dist_P st (a := k) (b := 2) hk (show 2 < 5 by decide)
  intro r95 e_r95
  replace e_r95 := e_r95.trans (sd_nI h (a := k) (b := 2) hk (show 2 < 5 by decide))
  refine ⟨?_, ?_⟩
  · exact s_dist_P st (a := 2) (b := 2) (show 2 < 5 by decide) (show 2 < 5 by decide)
  intro r97 e_r97
  replace e_r97 := e_r97.trans (sd_nI h (a := 2) (b := 2) (show 2 < 5 by decide) (show 2 < 5 by decide))
  refine ⟨?_, ?_⟩
  · rw [e_r78, e_r95, e_r97, nI_add]
    have q1 := (D k 2 hk (show 2 < 5 by decide)).2
    have q2 := (D 2 2 (show 2 < 5 by decide) (show 2 < 5 by decide)).2
    exact nI_le (dist_tri (h.lie hk) (h.lie (show 2 < 5 by decide)) (h.lie (show 2 < 5 by decide))) (by unfold dN at *; omega)
  refine ⟨?_, ?_⟩
  · exact s_dist_P st (a := k) (b := 3) hk (show 3 < 5 by decide)
  intro r100 e_r100
  replace e_r100 := e_r100.trans (sd_nI h (a := k) (b := 3) hk (show 3 < 5 by decide))
  refine ⟨?_, ?_⟩
  · exact s_dist_P st (a := 3) (b := 2) (show 3 < 5 by decide) (show 2 < 5 by decide)
  intro r102 e_r102
  replace e_r102 := e_r102.trans (sd_nI h (a := 3) (b := 2) (show 3 < 5 by decide) (show 2 < 5 by decide))
  refine ⟨?_, ?_⟩
  · rw [e_r78, e_r100, e_r102, nI_add]
    have q1 := (D k 3 hk (show 3 < 5 by decide)).2
    have q2 := (D 3 2 (show 3 < 5 by decide) (show 2 < 5 by decide)).2
    exact nI_le (dist_tri (h.lie hk) (h.lie (show 3 < 5 by decide)) (h.lie (show 2 < 5 by decide))) (by unfold dN at *; omega)
  refine ⟨?_, ?_⟩
  · exact s_dist_P st (a := k) (b := 4) hk (show 4 < 5 by decide)
  intro r105 e_r105
  replace e_r105 := e_r105.trans (sd_nI h (a := k) (b := 4) hk (show 4 < 5 by decide))
  refine ⟨?_, ?_⟩
  · exact s_dist_P st (a := 4) (b := 2) (show 4 < 5 by decide) (show 2 < 5 by decide)
  intro r107 e_r107
  replace e_r107 := e_r107.trans (sd_nI h (a := 4) (b := 2) (show 4 < 5 by decide) (show 2 < 5 by decide))
  refine ⟨?_, ?_⟩
  · rw [e_r78, e_r105, e_r107, nI_add]
    have q1 := (D k 4 hk (show 4 < 5 by decide)).2
    have q2 := (D 4 2 (show 4 < 5 by decide) (show 2 < 5 by decide)).2
    exact nI_le (dist_tri (h.lie hk) (h.lie (show 4 < 5 by decide)) (h.lie (show 2 < 5 by decide))) (by unfold dN at *; omega)
  intro x111 e_x111
  intro x114 e_x114
  refine ⟨?_, ?_⟩
  · exact s_dist_P st (a := k) (b := 3) hk (show 3 < 5 by decide)
  intro r116 e_r116
  replace e_r116 := e_r116.trans (sd_nI h (a := k) (b := 3) hk (show 3 < 5 by decide))
  refine ⟨?_, ?_⟩
  · exact s_dist_P st (a := 3) (b := k) (show 3 < 5 by decide) hk
  intro r118 e_r118
  replace e_r118 := e_r118.trans (sd_nI h (a := 3) (b := k) (show 3 < 5 by decide) hk)
  refine ⟨?_, ?_⟩
  · rw [e_r116, e_r118, dist_sym (h.lie hk) (h.lie (show 3 < 5 by decide))]
  refine ⟨?_, ?_⟩
  · refine ⟨fun c => ?_, fun _ => trivial⟩
    have q := (nI_eq (a := 3) (b := k) (by decide) (by omega)).mp (show nI 3 = nI k from c)
    subst q
    rw [e_r116, dist_self (h.lie (by decide))]
    rfl
  refine ⟨?_, ?_⟩
  · exact s_dist_P st (a := k) (b := 0) hk (show 0 < 5 by decide)
  intro r123 e_r123
  replace e_r123 := e_r123.trans (sd_nI h (a := k) (b := 0) hk (show 0 < 5 by decide))
  refine ⟨?_, ?_⟩
  · exact s_dist_P st (a := 0) (b := 3) (show 0 < 5 by decide) (show 3 < 5 by decide)
  intro r125 e_r125
  replace e_r125 := e_r125.trans (sd_nI h (a := 0) (b := 3) (show 0 < 5 by decide) (show 3 < 5 by decide))
  refine ⟨?_, ?_⟩
  · rw [e_r116, e_r123, e_r125, nI_add]
    have q1 := (D k 0 hk (show 0 < 5 by decide)).2
    have q2 := (D 0 3 (show 0 < 5 by decide) (show 3 < 5 by decide)).2
    exact nI_le (dist_tri (h.lie hk) (h.lie (show 0 < 5 by decide)) (h.lie (show 3 < 5 by decide))) (by unfold dN at *; omega)
  refine ⟨?_, ?_⟩
  · exact s_dist_P st (a := k) (b := 1) hk (show 1 < 5 by decide)
  intro r128 e_r128
  replace e_r128 := e_r128.trans (sd_nI h (a := k) (b := 1) hk (show 1 < 5 by decide))
  refine ⟨?_, ?_⟩
  · exact s_dist_P st (a := 1) (b := 3) (show 1 < 5 by decide) (show 3 < 5 by decide)
  intro r130 e_r130
  replace e_r130 := e_r130.trans (sd_nI h (a := 1) (b := 3) (show 1 < 5 by decide) (show 3 < 5 by decide))
  refine ⟨?_, ?_⟩
  · rw [e_r116, e_r128, e_r130, nI_add]
    have q1 := (D k 1 hk (show 1 < 5 by decide)).2
    have q2 := (D 1 3 (show 1 < 5 by decide) (show 3 < 5 by decide)).2
    exact nI_le (dist_tri (h.lie hk) (h.lie (show 1 < 5 by decide)) (h.lie (show 3 < 5 by decide))) (by unfold dN at *; omega)
  refine ⟨?_, ?_⟩
  · exact s_dist_P st (a := k) (b := 2) hk (show 2 < 5 by decide)
  intro r133 e_r133
  replace e_r133 := e_r133.trans (sd_nI h (a := k) (b := 2) hk (show 2 < 5 by decide))
  refine ⟨?_, ?_⟩
  · exact s_dist_P st (a := 2) (b := 3) (show 2 < 5 by decide) (show 3 < 5 by decide)
  intro r135 e_r135
  replace e_r135 := e_r135.trans (sd_nI h (a := 2) (b := 3) (show 2 < 5 by decide) (show 3 < 5 by decide))
  refine ⟨?_, ?_⟩
  · rw [e_r116, e_r133, e_r135, nI_add]
    have q1 := (D k 2 hk (show 2 < 5 by decide)).2
    have q2 := (D 2 3 (show 2 < 5 by decide) (show 3 < 5 by decide)).2
    exact nI_le (dist_tri (h.lie hk) (h.lie (show 2 < 5 by decide)) (h.lie (show 3 < 5 by decide))) (by unfold dN at *; omega)
  refine ⟨?_, ?_⟩
  · exact s_dist_P st (a := k) (b := 3) hk (show 3 < 5 by decide)
  intro r138 e_r138
  replace e_r138 := e_r138.trans (sd_nI h (a := k) (b := 3) hk (show 3 < 5 by decide))
  refine ⟨?_, ?_⟩
  · exact s_dist_P st (a := 3) (b := 3) (show 3 < 5 by decide) (show 3 < 5 by decide)
  intro r140 e_r140
  replace e_r140 := e_r140.trans (sd_nI h (a := 3) (b := 3) (show 3 < 5 by decide) (show 3 < 5 by decide))
  refine ⟨?_, ?_⟩
  · rw [e_r116, e_r138, e_r140, nI_add]
    have q1 := (D k 3 hk (show 3 < 5 by decide)).2
    have q2 := (D 3 3 (show 3 < 5 by decide) (show 3 < 5 by decide)).2
    exact nI_le (dist_tri (h.lie hk) (h.lie (show 3 < 5 by decide)) (h.lie (show 3 < 5 by decide))) (by unfold dN at *; omega)
  refine ⟨?_, ?_⟩
  · exact s_dist_P st (a := k) (b := 4) hk (show 4 < 5 by decide)
  intro r143 e_r143
  replace e_r143 := e_r143.trans (sd_nI h (a := k) (b := 4) hk (show 4 < 5 by decide))
  refine ⟨?_, ?_⟩
  · exact s_dist_P st (a := 4) (b := 3) (show 4 < 5 by decide) (show 3 < 5 by decide)
  intro r145 e_r145
  replace e_r145 := e_r145.trans (sd_nI h (a := 4) (b := 3) (show 4 < 5 by decide) (show 3 < 5 by decide))
  refine ⟨?_, ?_⟩
  · rw [e_r116, e_r143, e_r145, nI_add]
    have q1 := (D k 4 hk (show 4 < 5 by decide)).2
    have q2 := (D 4 3 (show 4 < 5 by decide) (show 3 < 5 by decide)).2
    exact nI_le (dist_tri (h.lie hk) (h.lie (show 4 < 5 by decide)) (h.lie (show 3 < 5 by decide))) (by unfold dN at *; omega)
  intro x149 e_x149
  intro x152 e_x152
  refine ⟨?_, ?_⟩
  · exact s_dist_P st (a := k) (b := 4) hk (show 4 < 5 by decide)
  intro r154 e_r154
  replace e_r154 := e_r154.trans (sd_nI h (a := k) (b := 4) hk (show 4 < 5 by decide))
  refine ⟨?_, ?_⟩
  · exact s_dist_P st (a := 4) (b := k) (show 4 < 5 by decide) hk
  intro r156 e_r156
  replace e_r156 := e_r156.trans (sd_nI h (a := 4) (b := k) (show 4 < 5 by decide) hk)
  refine ⟨?_, ?_⟩
  · rw [e_r154, e_r156, dist_sym (h.lie hk) (h.lie (show 4 < 5 by decide))]
  refine ⟨?_, ?_⟩
  · refine ⟨fun c => ?_, fun _ => trivial⟩
    have q := (nI_eq (a := 4) (b := k) (by decide) (by omega)).mp (show nI 4 = nI k from c)
    subst q
    rw [e_r154, dist_self (h.lie (by decide))]
    rfl
  refine ⟨?_, ?_⟩
  · exact s_dist_P st (a := k) (b := 0) hk (show 0 < 5 by decide)
  intro r161 e_r161
  replace e_r161 := e_r161.trans (sd_nI h (a := k) (b := 0) hk (show 0 < 5 by decide))
  refine ⟨?_, ?_⟩
  · exact s_dist_P st (a := 0) (b := 4) (show 0 < 5 by decide) (show 4 < 5 by decide)
  intro r163 e_r163
  replace e_r163 := e_r163.trans (sd_nI h (a := 0) (b := 4) (show 0 < 5 by decide) (show 4 < 5 by decide))
  refine ⟨?_, ?_⟩
  · rw [e_r154, e_r161, e_r163, nI_add]
    have q1 := (D k 0 hk (show 0 < 5 by decide)).2
    have q2 := (D 0 4 (show 0 < 5 by decide) (show 4 < 5 by decide)).2
    exact nI_le (dist_tri (h.lie hk) (h.lie (show 0 < 5 by decide)) (h.lie (show 4 < 5 by decide))) (by unfold dN at *; omega)
  refine ⟨?_, ?_⟩
  · exact s_dist_P st (a := k) (b := 1) hk (show 1 < 5 by decide)
  intro r166 e_r166
  replace e_r166 := e_r166.trans (sd_nI h (a := k) (b := 1) hk (show 1 < 5 by decide))
  refine ⟨?_, ?_⟩
  · exact s_dist_P st (a := 1) (b := 4) (show 1 < 5 by decide) (show 4 < 5 by decide)
  intro r168 e_r168
  replace e_r168 := e_r168.trans (sd_nI h (a := 1) (b := 4) (show 1 < 5 by decide) (show 4 < 5 by decide))
  refine ⟨?_, ?_⟩
  · rw [e_r154, e_r166, e_r168, nI_add]
    have q1 := (D k 1 hk (show 1 < 5 by decide)).2
    have q2 := (D 1 4 (show 1 < 5 by decide) (show 4 < 5 by decide)).2
    exact nI_le (dist_tri (h.lie hk) (h.lie (show 1 < 5 by decide)) (h.lie (show 4 < 5 by decide))) (by unfold dN at *; omega)
  refine ⟨?_, ?_⟩
  · exact s_dist_P st (a := k) (b := 2) hk (show 2 < 5 by decide)
  intro r171 e_r171
  replace e_r171 := e_r171.trans (sd_nI h (a := k) (b := 2) hk (show 2 < 5 by decide))
  refine ⟨?_, ?_⟩
  · exact s_dist_P st (a := 2) (b := 4) (show 2 < 5 by decide) (show 4 < 5 by decide)
  intro r173 e_r173
  replace e_r173 := e_r173.trans (sd_nI h (a := 2) (b := 4) (show 2 < 5 by decide) (show 4 < 5 by decide))
  refine ⟨?_, ?_⟩
  · rw [e_r154, e_r171, e_r173, nI_add]
    have q1 := (D k 2 hk (show 2 < 5 by decide)).2
    have q2 := (D 2 4 (show 2 < 5 by decide) (show 4 < 5 by decide)).2
    exact nI_le (dist_tri (h.lie hk) (h.lie (show 2 < 5 by decide)) (h.lie (show 4 < 5 by decide))) (by unfold dN at *; omega)
  refine ⟨?_, ?_⟩
  · exact s_dist_P st (a := k) (b := 3) hk (show 3 < 5 by decide)
  intro r176 e_r176
  replace e_r176 := e_r176.trans (sd_nI h (a := k) (b := 3) hk (show 3 < 5 by decide))
  refine ⟨?_, ?_⟩
  · exact s_dist_P st (a := 3) (b := 4) (show 3 < 5 by decide) (show 4 < 5 by decide)
  intro r178 e_r178
  replace e_r178 := e_r178.trans (sd_nI h (a := 3) (b := 4) (show 3 < 5 by decide) (show 4 < 5 by decide))
  refine ⟨?_, ?_⟩
  · rw [e_r154, e_r176, e_r178, nI_add]
    have q1 := (D k 3 hk (show 3 < 5 by decide)).2
    have q2 := (D 3 4 (show 3 < 5 by decide) (show 4 < 5 by decide)).2
    exact nI_le (dist_tri (h.lie hk) (h.lie (show 3 < 5 by decide)) (h.lie (show 4 < 5 by decide))) (by unfold dN at *; omega)
  refine ⟨?_, ?_⟩
  · exact s_dist_P st (a := k) (b := 4) hk (show 4 < 5 by decide)
  intro r181 e_r181
  replace e_r181 := e_r181.trans (sd_nI h (a := k) (b := 4) hk (show 4 < 5 by decide))
  refine ⟨?_, ?_⟩
  · exact s_dist_P st (a := 4) (b := 4) (show 4 < 5 by decide) (show 4 < 5 by decide)
  intro r183 e_r183
  replace e_r183 := e_r183.trans (sd_nI h (a := 4) (b := 4) (show 4 < 5 by decide) (show 4 < 5 by decide))
  refine ⟨?_, ?_⟩
  · rw [e_r154, e_r181, e_r183, nI_add]
    have q1 := (D k 4 hk (show 4 < 5 by decide)).2
    have q2 := (D 4 4 (show 4 < 5 by decide) (show 4 < 5 by decide)).2
    exact nI_le (dist_tri (h.lie hk) (h.lie (show 4 < 5 by decide)) (h.lie (show 4 < 5 by decide))) (by unfold dN at *; omega)
  intro x187 e_x187
  intro x190 e_x190
  refine ⟨?_, ?_⟩
  · exact ⟨P_atB_k hk, kcl hk⟩
  intro r192 e_r192
  rcases (show k = 0 ∨ k = 1 ∨ k = 2 ∨ k = 3 ∨ k = 4 by omega) with rfl | rfl | rfl | rfl | rfl
  · have d0 := D 0 0 (by decide) (by decide)
    have d1 := D 0 1 (by decide) (by decide)
    have d2 := D 0 2 (by decide) (by decide)
    have d3 := D 0 3 (by decide) (by decide)
    have d4 := D 0 4 (by decide) (by decide)
    have q := e_r192.symm; subst q; have q := e_x187.symm; subst q; have q := e_x149.symm; subst q; have q := e_x152.symm; subst q; have q := e_r154.symm; subst q; have q := e_x111.symm; subst q; have q := e_x114.symm; subst q; have q := e_r116.symm; subst q; have q := e_x73.symm; subst q; have q := e_x76.symm; subst q; have q := e_r78.symm; subst q; have q := e_x35.symm; subst q; have q := e_x38.symm; subst q; have q := e_r40.symm; subst q; have q := e_r2.symm; subst q; unfold F_S_nearest F_X10_nearest F_X2_lie_P F_X2_lie
    simp only [show (nI 0).toNatClampNeg = 0 from nI_clamp (by decide), lk00, lk10, lk20, lk30, lk40, d0.1, d1.1, d2.1, d3.1, d4.1, ge17 d0.2, ge17 d1.2, ge17 d2.2, ge17 d3.2, ge17 d4.2, ge99 d0.2, ge99 d1.2, ge99 d2.2, ge99 d3.2, ge99 d4.2, if_true, if_false]
  · have d0 := D 1 0 (by decide) (by decide)
    have d1 := D 1 1 (by decide) (by decide)
    have d2 := D 1 2 (by decide) (by decide)
    have d3 := D 1 3 (by decide) (by decide)
    have d4 := D 1 4 (by decide) (by decide)
    have q := e_r192.symm; subst q; have q := e_x187.symm; subst q; have q := e_x149.symm; subst q; have q := e_x152.symm; subst q; have q := e_r154.symm; subst q; have q := e_x111.symm; subst q; have q := e_x114.symm; subst q; have q := e_r116.symm; subst q; have q := e_x73.symm; subst q; have q := e_x76.symm; subst q; have q := e_r78.symm; subst q; have q := e_x35.symm; subst q; have q := e_x38.symm; subst q; have q := e_r40.symm; subst q; have q := e_r2.symm; subst q; unfold F_S_nearest F_X10_nearest F_X2_lie_P F_X2_lie
    simp only [show (nI 1).toNatClampNeg = 1 from nI_clamp (by decide), lk01, lk11, lk21, lk31, lk41, d0.1, d1.1, d2.1, d3.1, d4.1, ge17 d0.2, ge17 d1.2, ge17 d2.2, ge17 d3.2, ge17 d4.2, ge99 d0.2, ge99 d1.2, ge99 d2.2, ge99 d3.2, ge99 d4.2, if_true, if_false]
  · have d0 := D 2 0 (by decide) (by decide)
    have d1 := D 2 1 (by decide) (by decide)
    have d2 := D 2 2 (by decide) (by decide)
    have d3 := D 2 3 (by decide) (by decide)
    have d4 := D 2 4 (by decide) (by decide)
    have q := e_r192.symm; subst q; have q := e_x187.symm; subst q; have q := e_x149.symm; subst q; have q := e_x152.symm; subst q; have q := e_r154.symm; subst q; have q := e_x111.symm; subst q; have q := e_x114.symm; subst q; have q := e_r116.symm; subst q; have q := e_x73.symm; subst q; have q := e_x76.symm; subst q; have q := e_r78.symm; subst q; have q := e_x35.symm; subst q; have q := e_x38.symm; subst q; have q := e_r40.symm; subst q; have q := e_r2.symm; subst q; unfold F_S_nearest F_X10_nearest F_X2_lie_P F_X2_lie
    simp only [show (nI 2).toNatClampNeg = 2 from nI_clamp (by decide), lk02, lk12, lk22, lk32, lk42, d0.1, d1.1, d2.1, d3.1, d4.1, ge17 d0.2, ge17 d1.2, ge17 d2.2, ge17 d3.2, ge17 d4.2, ge99 d0.2, ge99 d1.2, ge99 d2.2, ge99 d3.2, ge99 d4.2, if_true, if_false]
  · have d0 := D 3 0 (by decide) (by decide)
    have d1 := D 3 1 (by decide) (by decide)
    have d2 := D 3 2 (by decide) (by decide)
    have d3 := D 3 3 (by decide) (by decide)
    have d4 := D 3 4 (by decide) (by decide)
    have q := e_r192.symm; subst q; have q := e_x187.symm; subst q; have q := e_x149.symm; subst q; have q := e_x152.symm; subst q; have q := e_r154.symm; subst q; have q := e_x111.symm; subst q; have q := e_x114.symm; subst q; have q := e_r116.symm; subst q; have q := e_x73.symm; subst q; have q := e_x76.symm; subst q; have q := e_r78.symm; subst q; have q := e_x35.symm; subst q; have q := e_x38.symm; subst q; have q := e_r40.symm; subst q; have q := e_r2.symm; subst q; unfold F_S_nearest F_X10_nearest F_X2_lie_P F_X2_lie
    simp only [show (nI 3).toNatClampNeg = 3 from nI_clamp (by decide), lk03, lk13, lk23, lk33, lk43, d0.1, d1.1, d2.1, d3.1, d4.1, ge17 d0.2, ge17 d1.2, ge17 d2.2, ge17 d3.2, ge17 d4.2, ge99 d0.2, ge99 d1.2, ge99 d2.2, ge99 d3.2, ge99 d4.2, if_true, if_false]
  · have d0 := D 4 0 (by decide) (by decide)
    have d1 := D 4 1 (by decide) (by decide)
    have d2 := D 4 2 (by decide) (by decide)
    have d3 := D 4 3 (by decide) (by decide)
    have d4 := D 4 4 (by decide) (by decide)
    have q := e_r192.symm; subst q; have q := e_x187.symm; subst q; have q := e_x149.symm; subst q; have q := e_x152.symm; subst q; have q := e_r154.symm; subst q; have q := e_x111.symm; subst q; have q := e_x114.symm; subst q; have q := e_r116.symm; subst q; have q := e_x73.symm; subst q; have q := e_x76.symm; subst q; have q := e_r78.symm; subst q; have q := e_x35.symm; subst q; have q := e_x38.symm; subst q; have q := e_r40.symm; subst q; have q := e_r2.symm; subst q; unfold F_S_nearest F_X10_nearest F_X2_lie_P F_X2_lie
    simp only [show (nI 4).toNatClampNeg = 4 from nI_clamp (by decide), lk04, lk14, lk24, lk34, lk44, d0.1, d1.1, d2.1, d3.1, d4.1, ge17 d0.2, ge17 d1.2, ge17 d2.2, ge17 d3.2, ge17 d4.2, ge99 d0.2, ge99 d1.2, ge99 d2.2, ge99 d3.2, ge99 d4.2, if_true, if_false]

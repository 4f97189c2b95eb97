theorem k_L_areNear : kS yL_areNear cL_areNear 7 (some .boolean) 2 := ⟨t_638, t_6, t_639, by decide +kernel, by decide +kernel, by decide +kernel⟩
set_option maxRecDepth 20000 in
def P_L_areNear (st : St) (letter : Int32) : Prop := ((P_S_distance st letter 0) ∧ (∀ r2 : Int32, r2 = F_S_distance st letter 0 → ((P_S_distance st 0 letter) ∧ (∀ r4 : Int32, r4 = F_S_distance st 0 letter → ((r2 = r4) ∧ ((((0 : Int32) = letter → (r2 = 0)) ∧ (¬ (0 : Int32) = letter → True)) ∧ ((P_S_distance st letter 0) ∧ (∀ r9 : Int32, r9 = F_S_distance st letter 0 → ((P_S_distance st 0 0) ∧ (∀ r11 : Int32, r11 = F_S_distance st 0 0 → ((r2 ≤ (r9 + r11)) ∧ ((P_S_distance st letter 1) ∧ (∀ r14 : Int32, r14 = F_S_distance st letter 1 → ((P_S_distance st 1 0) ∧ (∀ r16 : Int32, r16 = F_S_distance st 1 0 → ((r2 ≤ (r14 + r16)) ∧ ((P_S_distance st letter 2) ∧ (∀ r19 : Int32, r19 = F_S_distance st letter 2 → ((P_S_distance st 2 0) ∧ (∀ r21 : Int32, r21 = F_S_distance st 2 0 → ((r2 ≤ (r19 + r21)) ∧ ((P_S_distance st letter 3) ∧ (∀ r24 : Int32, r24 = F_S_distance st letter 3 → ((P_S_distance st 3 0) ∧ (∀ r26 : Int32, r26 = F_S_distance st 3 0 → ((r2 ≤ (r24 + r26)) ∧ ((P_S_distance st letter 4) ∧ (∀ r29 : Int32, r29 = F_S_distance st letter 4 → ((P_S_distance st 4 0) ∧ (∀ r31 : Int32, r31 = F_S_distance st 4 0 → ((r2 ≤ (r29 + r31)) ∧ (∀ x35 : Int32, x35 = ((if (0 : Int32) = letter then ((-10)) else ((if 99 ≤ r2 then ((-10)) else (0))))) → (∀ x38 : Int32, x38 = ((if (0 : Int32) = letter then (99) else ((if 99 ≤ r2 then (99) else (r2))))) → ((P_S_distance st letter 1) ∧ (∀ r40 : Int32, r40 = F_S_distance st letter 1 → ((P_S_distance st 1 letter) ∧ (∀ r42 : Int32, r42 = F_S_distance st 1 letter → ((r40 = r42) ∧ ((((1 : Int32) = letter → (r40 = 0)) ∧ (¬ (1 : Int32) = letter → True)) ∧ ((P_S_distance st letter 0) ∧ (∀ r47 : Int32, r47 = F_S_distance st letter 0 → ((P_S_distance st 0 1) ∧ (∀ r49 : Int32, r49 = F_S_distance st 0 1 → ((r40 ≤ (r47 + r49)) ∧ ((P_S_distance st letter 1) ∧ (∀ r52 : Int32, r52 = F_S_distance st letter 1 → ((P_S_distance st 1 1) ∧ (∀ r54 : Int32, r54 = F_S_distance st 1 1 → ((r40 ≤ (r52 + r54)) ∧ ((P_S_distance st letter 2) ∧ (∀ r57 : Int32, r57 = F_S_distance st letter 2 → ((P_S_distance st 2 1) ∧ (∀ r59 : Int32, r59 = F_S_distance st 2 1 → ((r40 ≤ (r57 + r59)) ∧ ((P_S_distance st letter 3) ∧ (∀ r62 : Int32, r62 = F_S_distance st letter 3 → ((P_S_distance st 3 1) ∧ (∀ r64 : Int32, r64 = F_S_distance st 3 1 → ((r40 ≤ (r62 + r64)) ∧ ((P_S_distance st letter 4) ∧ (∀ r67 : Int32, r67 = F_S_distance st letter 4 → ((P_S_distance st 4 1) ∧ (∀ r69 : Int32, r69 = F_S_distance st 4 1 → ((r40 ≤ (r67 + r69)) ∧ (∀ x73 : Int32, x73 = ((if (1 : Int32) = letter then (x35) else ((if x38 ≤ r40 then (x35) else (1))))) → (∀ x76 : Int32, x76 = ((if (1 : Int32) = letter then (x38) else ((if x38 ≤ r40 then (x38) else (r40))))) → ((P_S_distance st letter 2) ∧ (∀ r78 : Int32, r78 = F_S_distance st letter 2 → ((P_S_distance st 2 letter) ∧ (∀ r80 : Int32, r80 = F_S_distance st 2 letter → ((r78 = r80) ∧ ((((2 : Int32) = letter → (r78 = 0)) ∧ (¬ (2 : Int32) = letter → True)) ∧ ((P_S_distance st letter 0) ∧ (∀ r85 : Int32, r85 = F_S_distance st letter 0 → ((P_S_distance st 0 2) ∧ (∀ r87 : Int32, r87 = F_S_distance st 0 2 → ((r78 ≤ (r85 + r87)) ∧ ((P_S_distance st letter 1) ∧ (∀ r90 : Int32, r90 = F_S_distance st letter 1 → ((P_S_distance st 1 2) ∧ (∀ r92 : Int32, r92 = F_S_distance st 1 2 → ((r78 ≤ (r90 + r92)) ∧ ((P_S_distance st letter 2) ∧ (∀ r95 : Int32, r95 = F_S_distance st letter 2 → ((P_S_distance st 2 2) ∧ (∀ r97 : Int32, r97 = F_S_distance st 2 2 → ((r78 ≤ (r95 + r97)) ∧ ((P_S_distance st letter 3) ∧ (∀ r100 : Int32, r100 = F_S_distance st letter 3 → ((P_S_distance st 3 2) ∧ (∀ r102 : Int32, r102 = F_S_distance st 3 2 → ((r78 ≤ (r100 + r102)) ∧ ((P_S_distance st letter 4) ∧ (∀ r105 : Int32, r105 = F_S_distance st letter 4 → ((P_S_distance st 4 2) ∧ (∀ r107 : Int32, r107 = F_S_distance st 4 2 → ((r78 ≤ (r105 + r107)) ∧ (∀ x111 : Int32, x111 = ((if (2 : Int32) = letter then (x73) else ((if x76 ≤ r78 then (x73) else (2))))) → (∀ x114 : Int32, x114 = ((if (2 : Int32) = letter then (x76) else ((if x76 ≤ r78 then (x76) else (r78))))) → ((P_S_distance st letter 3) ∧ (∀ r116 : Int32, r116 = F_S_distance st letter 3 → ((P_S_distance st 3 letter) ∧ (∀ r118 : Int32, r118 = F_S_distance st 3 letter → ((r116 = r118) ∧ ((((3 : Int32) = letter → (r116 = 0)) ∧ (¬ (3 : Int32) = letter → True)) ∧ ((P_S_distance st letter 0) ∧ (∀ r123 : Int32, r123 = F_S_distance st letter 0 → ((P_S_distance st 0 3) ∧ (∀ r125 : Int32, r125 = F_S_distance st 0 3 → ((r116 ≤ (r123 + r125)) ∧ ((P_S_distance st letter 1) ∧ (∀ r128 : Int32, r128 = F_S_distance st letter 1 → ((P_S_distance st 1 3) ∧ (∀ r130 : Int32, r130 = F_S_distance st 1 3 → ((r116 ≤ (r128 + r130)) ∧ ((P_S_distance st letter 2) ∧ (∀ r133 : Int32, r133 = F_S_distance st letter 2 → ((P_S_distance st 2 3) ∧ (∀ r135 : Int32, r135 = F_S_distance st 2 3 → ((r116 ≤ (r133 + r135)) ∧ ((P_S_distance st letter 3) ∧ (∀ r138 : Int32, r138 = F_S_distance st letter 3 → ((P_S_distance st 3 3) ∧ (∀ r140 : Int32, r140 = F_S_distance st 3 3 → ((r116 ≤ (r138 + r140)) ∧ ((P_S_distance st letter 4) ∧ (∀ r143 : Int32, r143 = F_S_distance st letter 4 → ((P_S_distance st 4 3) ∧ (∀ r145 : Int32, r145 = F_S_distance st 4 3 → ((r116 ≤ (r143 + r145)) ∧ (∀ x149 : Int32, x149 = ((if (3 : Int32) = letter then (x111) else ((if x114 ≤ r116 then (x111) else (3))))) → (∀ x152 : Int32, x152 = ((if (3 : Int32) = letter then (x114) else ((if x114 ≤ r116 then (x114) else (r116))))) → ((P_S_distance st letter 4) ∧ (∀ r154 : Int32, r154 = F_S_distance st letter 4 → ((P_S_distance st 4 letter) ∧ (∀ r156 : Int32, r156 = F_S_distance st 4 letter → ((r154 = r156) ∧ ((((4 : Int32) = letter → (r154 = 0)) ∧ (¬ (4 : Int32) = letter → True)) ∧ ((P_S_distance st letter 0) ∧ (∀ r161 : Int32, r161 = F_S_distance st letter 0 → ((P_S_distance st 0 4) ∧ (∀ r163 : Int32, r163 = F_S_distance st 0 4 → ((r154 ≤ (r161 + r163)) ∧ ((P_S_distance st letter 1) ∧ (∀ r166 : Int32, r166 = F_S_distance st letter 1 → ((P_S_distance st 1 4) ∧ (∀ r168 : Int32, r168 = F_S_distance st 1 4 → ((r154 ≤ (r166 + r168)) ∧ ((P_S_distance st letter 2) ∧ (∀ r171 : Int32, r171 = F_S_distance st letter 2 → ((P_S_distance st 2 4) ∧ (∀ r173 : Int32, r173 = F_S_distance st 2 4 → ((r154 ≤ (r171 + r173)) ∧ ((P_S_distance st letter 3) ∧ (∀ r176 : Int32, r176 = F_S_distance st letter 3 → ((P_S_distance st 3 4) ∧ (∀ r178 : Int32, r178 = F_S_distance st 3 4 → ((r154 ≤ (r176 + r178)) ∧ ((P_S_distance st letter 4) ∧ (∀ r181 : Int32, r181 = F_S_distance st letter 4 → ((P_S_distance st 4 4) ∧ (∀ r183 : Int32, r183 = F_S_distance st 4 4 → ((r154 ≤ (r181 + r183)) ∧ (∀ x187 : Int32, x187 = ((if (4 : Int32) = letter then (x149) else ((if x152 ≤ r154 then (x149) else (4))))) → (∀ x190 : Int32, x190 = ((if (4 : Int32) = letter then (x152) else ((if x152 ≤ r154 then (x152) else (r154))))) → ((P_S_nearest letter) ∧ (∀ r192 : Int32, r192 = F_S_nearest st letter → (r192 = x187))))))))))))))))))))))))))))))))))))))))))))))))))))))))))))))))))))))))))))))))))))))))))))))))))))))))))))))))))))))))))))))))))))))))))))))))))))))))))))))))))))))))
set_option maxRecDepth 20000 in
set_option maxHeartbeats 8000000 in
theorem m_L_areNear (l : Launch) (D : va_G) (cI cL cP cJ : ClassId) (fl : Nat) (pl : Nat) (a : Nat) (L : Nat → Nat) (h : Nat → Nat) (v : Nat → Nat) (pl2 : Nat) (hi : Nat) (sa : Nat) (tx : Nat) (u : Nat) (w : Nat) (me : Nat) (fo : Nat) (fd : Nat) (taken : Int32) (st : St) (letter : Int32) (hp : P_L_areNear st letter) : M vI l yL_areNear cL_areNear 7 (some .boolean) 4 95 D (tyF cI cL cP cJ) [.ref fl, .int letter] [sysB cI cL cP fl pl a L h v pl2 hi sa tx u w me fo fd taken st] (fun (r : Int32) (w1 : List va_W) => r = 1 ∧ w1 = [sysB cI cL cP fl pl a L h v pl2 hi sa tx u w me fo fd taken st]) := by
  unfold P_L_areNear at hp
  refine m_start (by decide +kernel) (Nat.le_of_ble_eq_true rfl) (fun p e s m args below meth c A Q hA hQ C hr hlo => ?_)
  refine r_Le (L' := [(0, .ref fl), (1, .int letter)]) rfl ?_
  refine r_bipush (v := (-10)) C dL_areNear_0 (by decide) ?_
  refine r_istore_n (L' := [(2, .int (-10)), (0, .ref fl), (1, .int letter)]) C dL_areNear_2 (by decide) rfl ?_
  refine r_bipush (v := 99) C dL_areNear_3 (by decide) ?_
  refine r_istore_n (L' := [(3, .int 99), (2, .int (-10)), (0, .ref fl), (1, .int letter)]) C dL_areNear_5 (by decide) rfl ?_
  refine r_iconst (v := 0) C dL_areNear_6 (by decide) ?_
  refine r_istore (L' := [(4, .int 0), (3, .int 99), (2, .int (-10)), (0, .ref fl), (1, .int letter)]) C dL_areNear_7 (by decide) rfl ?_
  refine r_iload C dL_areNear_9 0 rfl ?_
  refine r_iconst (v := 5) C dL_areNear_11 (by decide) ?_
  refine r_icmp_ge (tgt := 131) C dL_areNear_12 (by decide) (fun c => absurd c (by decide)) (fun _ => ?_)
  refine r_aload_n C dL_areNear_15 3 rfl ?_
  refine r_iload_n C dL_areNear_16 4 rfl ?_
  refine r_iload C dL_areNear_17 0 rfl ?_
  obtain ⟨h1, hp⟩ := hp
  refine r_callV (ci := 8) (wc := [sysB cI cL cP fl pl a L h v pl2 hi sa tx u w me fo fd taken st]) (wr := []) (st := []) C (m_S_distance l D cI cL cP cJ fl pl a L h v pl2 hi sa tx u w me fo fd taken st letter 0 h1) k_X10_distance t_490 [0] (show ([0] : List Nat).Perm (List.range 1) by decide) rfl rfl rfl (q0 := 0) rfl rfl rfl (Nat.le_of_ble_eq_true rfl) ⟨Nat.le_of_ble_eq_true rfl, Nat.le_of_ble_eq_true rfl⟩ ⟨Nat.zero_le _, Nat.zero_le _⟩ dL_areNear_19 (fun r2 wr2 hw2 => ?_)
  obtain ⟨e_r2, rfl⟩ := hw2
  have hp := hp r2 e_r2
  refine r_ws (I' := [sysB cI cL cP fl pl a L h v pl2 hi sa tx u w me fo fd taken st]) rfl ?_
  refine r_istore (L' := [(5, .int r2), (4, .int 0), (3, .int 99), (2, .int (-10)), (0, .ref fl), (1, .int letter)]) C dL_areNear_22 (by decide) rfl ?_
  refine r_iload C dL_areNear_24 0 rfl ?_
  refine r_aload_n C dL_areNear_26 4 rfl ?_
  refine r_iload C dL_areNear_27 1 rfl ?_
  refine r_iload_n C dL_areNear_29 5 rfl ?_
  obtain ⟨h3, hp⟩ := hp
  refine r_callV (ci := 8) (wc := [sysB cI cL cP fl pl a L h v pl2 hi sa tx u w me fo fd taken st]) (wr := []) (st := [.int r2]) C (m_S_distance l D cI cL cP cJ fl pl a L h v pl2 hi sa tx u w me fo fd taken st 0 letter h3) k_X10_distance t_490 [0] (show ([0] : List Nat).Perm (List.range 1) by decide) rfl rfl rfl (q0 := 0) rfl rfl rfl (Nat.le_of_ble_eq_true rfl) ⟨Nat.le_of_ble_eq_true rfl, Nat.le_of_ble_eq_true rfl⟩ ⟨Nat.zero_le _, Nat.zero_le _⟩ dL_areNear_30 (fun r4 wr4 hw4 => ?_)
  obtain ⟨e_r4, rfl⟩ := hw4
  have hp := hp r4 e_r4
  refine r_ws (I' := [sysB cI cL cP fl pl a L h v pl2 hi sa tx u w me fo fd taken st]) rfl ?_
  obtain ⟨h5, hp⟩ := hp
  refine r_icmp_ne (tgt := 47) C dL_areNear_33 (by decide) (fun c => absurd h5 c) (fun _ => ?_)
  refine r_iload C dL_areNear_36 1 rfl ?_
  refine r_iload_n C dL_areNear_38 5 rfl ?_
  obtain ⟨hps, hp⟩ := hp
  suffices K :  V p l e (rmm 4 95) s m args below meth c 7 D A 0 0 Q [sysB cI cL cP fl pl a L h v pl2 hi sa tx u w me fo fd taken st] [(5, .int r2), (4, .int 0), (3, .int 99), (2, .int (-10)), (0, .ref fl), (1, .int letter)] 49 [] by
    have hp := hps
    refine r_icmp_ne (tgt := 49) C dL_areNear_39 (by decide) (fun c6 => ?_) (fun c6 => ?_)
    · exact K 
    · have hp := hp.1 c6
      refine r_iload C dL_areNear_42 0 rfl ?_
      have h7 := hp
      refine r_if_eq (tgt := 49) C dL_areNear_44 (by decide) (fun _ => ?_) (fun c => absurd h7 c)
      exact K 
  skip
  refine r_iconst (v := 0) C dL_areNear_49 (by decide) ?_
  refine r_istore (L' := [(6, .int 0), (5, .int r2), (4, .int 0), (3, .int 99), (2, .int (-10)), (0, .ref fl), (1, .int letter)]) C dL_areNear_50 (by decide) rfl ?_
  refine r_iload C dL_areNear_52 0 rfl ?_
  refine r_iconst (v := 5) C dL_areNear_54 (by decide) ?_
  refine r_icmp_ge (tgt := 87) C dL_areNear_55 (by decide) (fun c => absurd c (by decide)) (fun _ => ?_)
  refine r_iload C dL_areNear_58 1 rfl ?_
  refine r_aload_n C dL_areNear_60 5 rfl ?_
  refine r_iload_n C dL_areNear_61 6 rfl ?_
  refine r_iload C dL_areNear_62 0 rfl ?_
  obtain ⟨h8, hp⟩ := hp
  refine r_callV (ci := 8) (wc := [sysB cI cL cP fl pl a L h v pl2 hi sa tx u w me fo fd taken st]) (wr := []) (st := [.int r2]) C (m_S_distance l D cI cL cP cJ fl pl a L h v pl2 hi sa tx u w me fo fd taken st letter 0 h8) k_X10_distance t_490 [0] (show ([0] : List Nat).Perm (List.range 1) by decide) rfl rfl rfl (q0 := 0) rfl rfl rfl (Nat.le_of_ble_eq_true rfl) ⟨Nat.le_of_ble_eq_true rfl, Nat.le_of_ble_eq_true rfl⟩ ⟨Nat.zero_le _, Nat.zero_le _⟩ dL_areNear_64 (fun r9 wr9 hw9 => ?_)
  obtain ⟨e_r9, rfl⟩ := hw9
  have hp := hp r9 e_r9
  refine r_ws (I' := [sysB cI cL cP fl pl a L h v pl2 hi sa tx u w me fo fd taken st]) rfl ?_
  refine r_aload_n C dL_areNear_67 5 rfl ?_
  refine r_iload C dL_areNear_68 0 rfl ?_
  refine r_iload C dL_areNear_70 2 rfl ?_
  obtain ⟨h10, hp⟩ := hp
  refine r_callV (ci := 8) (wc := [sysB cI cL cP fl pl a L h v pl2 hi sa tx u w me fo fd taken st]) (wr := []) (st := [.int r9, .int r2]) C (m_S_distance l D cI cL cP cJ fl pl a L h v pl2 hi sa tx u w me fo fd taken st 0 0 h10) k_X10_distance t_490 [0] (show ([0] : List Nat).Perm (List.range 1) by decide) rfl rfl rfl (q0 := 0) rfl rfl rfl (Nat.le_of_ble_eq_true rfl) ⟨Nat.le_of_ble_eq_true rfl, Nat.le_of_ble_eq_true rfl⟩ ⟨Nat.zero_le _, Nat.zero_le _⟩ dL_areNear_72 (fun r11 wr11 hw11 => ?_)
  obtain ⟨e_r11, rfl⟩ := hw11
  have hp := hp r11 e_r11
  refine r_ws (I' := [sysB cI cL cP fl pl a L h v pl2 hi sa tx u w me fo fd taken st]) rfl ?_
  refine r_iadd C dL_areNear_75 rfl ?_
  obtain ⟨h12, hp⟩ := hp
  refine r_icmp_le (tgt := 81) C dL_areNear_76 (by decide) (fun _ => ?_) (fun c => absurd h12 c)
  refine r_iinc (v := 1) (L' := [(6, .int 1), (5, .int r2), (4, .int 0), (3, .int 99), (2, .int (-10)), (0, .ref fl), (1, .int letter)]) C dL_areNear_81 0 rfl (by decide) (by decide) rfl ?_
  refine r_goto (tgt := 52) C dL_areNear_84 (by decide) ?_
  refine r_iload C dL_areNear_52 0 rfl ?_
  refine r_iconst (v := 5) C dL_areNear_54 (by decide) ?_
  refine r_icmp_ge (tgt := 87) C dL_areNear_55 (by decide) (fun c => absurd c (by decide)) (fun _ => ?_)
  refine r_iload C dL_areNear_58 1 rfl ?_
  refine r_aload_n C dL_areNear_60 5 rfl ?_
  refine r_iload_n C dL_areNear_61 6 rfl ?_
  refine r_iload C dL_areNear_62 0 rfl ?_
  obtain ⟨h13, hp⟩ := hp
  refine r_callV (ci := 8) (wc := [sysB cI cL cP fl pl a L h v pl2 hi sa tx u w me fo fd taken st]) (wr := []) (st := [.int r2]) C (m_S_distance l D cI cL cP cJ fl pl a L h v pl2 hi sa tx u w me fo fd taken st letter 1 h13) k_X10_distance t_490 [0] (show ([0] : List Nat).Perm (List.range 1) by decide) rfl rfl rfl (q0 := 0) rfl rfl rfl (Nat.le_of_ble_eq_true rfl) ⟨Nat.le_of_ble_eq_true rfl, Nat.le_of_ble_eq_true rfl⟩ ⟨Nat.zero_le _, Nat.zero_le _⟩ dL_areNear_64 (fun r14 wr14 hw14 => ?_)
  obtain ⟨e_r14, rfl⟩ := hw14
  have hp := hp r14 e_r14
  refine r_ws (I' := [sysB cI cL cP fl pl a L h v pl2 hi sa tx u w me fo fd taken st]) rfl ?_
  refine r_aload_n C dL_areNear_67 5 rfl ?_
  refine r_iload C dL_areNear_68 0 rfl ?_
  refine r_iload C dL_areNear_70 2 rfl ?_
  obtain ⟨h15, hp⟩ := hp
  refine r_callV (ci := 8) (wc := [sysB cI cL cP fl pl a L h v pl2 hi sa tx u w me fo fd taken st]) (wr := []) (st := [.int r14, .int r2]) C (m_S_distance l D cI cL cP cJ fl pl a L h v pl2 hi sa tx u w me fo fd taken st 1 0 h15) k_X10_distance t_490 [0] (show ([0] : List Nat).Perm (List.range 1) by decide) rfl rfl rfl (q0 := 0) rfl rfl rfl (Nat.le_of_ble_eq_true rfl) ⟨Nat.le_of_ble_eq_true rfl, Nat.le_of_ble_eq_true rfl⟩ ⟨Nat.zero_le _, Nat.zero_le _⟩ dL_areNear_72 (fun r16 wr16 hw16 => ?_)
  obtain ⟨e_r16, rfl⟩ := hw16
  have hp := hp r16 e_r16
  refine r_ws (I' := [sysB cI cL cP fl pl a L h v pl2 hi sa tx u w me fo fd taken st]) rfl ?_
  refine r_iadd C dL_areNear_75 rfl ?_
  obtain ⟨h17, hp⟩ := hp
  refine r_icmp_le (tgt := 81) C dL_areNear_76 (by decide) (fun _ => ?_) (fun c => absurd h17 c)
  refine r_iinc (v := 2) (L' := [(6, .int 2), (5, .int r2), (4, .int 0), (3, .int 99), (2, .int (-10)), (0, .ref fl), (1, .int letter)]) C dL_areNear_81 0 rfl (by decide) (by decide) rfl ?_
  refine r_goto (tgt := 52) C dL_areNear_84 (by decide) ?_
  refine r_iload C dL_areNear_52 0 rfl ?_
  refine r_iconst (v := 5) C dL_areNear_54 (by decide) ?_
  refine r_icmp_ge (tgt := 87) C dL_areNear_55 (by decide) (fun c => absurd c (by decide)) (fun _ => ?_)
  refine r_iload C dL_areNear_58 1 rfl ?_
  refine r_aload_n C dL_areNear_60 5 rfl ?_
  refine r_iload_n C dL_areNear_61 6 rfl ?_
  refine r_iload C dL_areNear_62 0 rfl ?_
  obtain ⟨h18, hp⟩ := hp
  refine r_callV (ci := 8) (wc := [sysB cI cL cP fl pl a L h v pl2 hi sa tx u w me fo fd taken st]) (wr := []) (st := [.int r2]) C (m_S_distance l D cI cL cP cJ fl pl a L h v pl2 hi sa tx u w me fo fd taken st letter 2 h18) k_X10_distance t_490 [0] (show ([0] : List Nat).Perm (List.range 1) by decide) rfl rfl rfl (q0 := 0) rfl rfl rfl (Nat.le_of_ble_eq_true rfl) ⟨Nat.le_of_ble_eq_true rfl, Nat.le_of_ble_eq_true rfl⟩ ⟨Nat.zero_le _, Nat.zero_le _⟩ dL_areNear_64 (fun r19 wr19 hw19 => ?_)
  obtain ⟨e_r19, rfl⟩ := hw19
  have hp := hp r19 e_r19
  refine r_ws (I' := [sysB cI cL cP fl pl a L h v pl2 hi sa tx u w me fo fd taken st]) rfl ?_
  refine r_aload_n C dL_areNear_67 5 rfl ?_
  refine r_iload C dL_areNear_68 0 rfl ?_
  refine r_iload C dL_areNear_70 2 rfl ?_
  obtain ⟨h20, hp⟩ := hp
  refine r_callV (ci := 8) (wc := [sysB cI cL cP fl pl a L h v pl2 hi sa tx u w me fo fd taken st]) (wr := []) (st := [.int r19, .int r2]) C (m_S_distance l D cI cL cP cJ fl pl a L h v pl2 hi sa tx u w me fo fd taken st 2 0 h20) k_X10_distance t_490 [0] (show ([0] : List Nat).Perm (List.range 1) by decide) rfl rfl rfl (q0 := 0) rfl rfl rfl (Nat.le_of_ble_eq_true rfl) ⟨Nat.le_of_ble_eq_true rfl, Nat.le_of_ble_eq_true rfl⟩ ⟨Nat.zero_le _, Nat.zero_le _⟩ dL_areNear_72 (fun r21 wr21 hw21 => ?_)
  obtain ⟨e_r21, rfl⟩ := hw21
  have hp := hp r21 e_r21
  refine r_ws (I' := [sysB cI cL cP fl pl a L h v pl2 hi sa tx u w me fo fd taken st]) rfl ?_
  refine r_iadd C dL_areNear_75 rfl ?_
  obtain ⟨h22, hp⟩ := hp
  refine r_icmp_le (tgt := 81) C dL_areNear_76 (by decide) (fun _ => ?_) (fun c => absurd h22 c)
  refine r_iinc (v := 3) (L' := [(6, .int 3), (5, .int r2), (4, .int 0), (3, .int 99), (2, .int (-10)), (0, .ref fl), (1, .int letter)]) C dL_areNear_81 0 rfl (by decide) (by decide) rfl ?_
  refine r_goto (tgt := 52) C dL_areNear_84 (by decide) ?_
  refine r_iload C dL_areNear_52 0 rfl ?_
  refine r_iconst (v := 5) C dL_areNear_54 (by decide) ?_
  refine r_icmp_ge (tgt := 87) C dL_areNear_55 (by decide) (fun c => absurd c (by decide)) (fun _ => ?_)
  refine r_iload C dL_areNear_58 1 rfl ?_
  refine r_aload_n C dL_areNear_60 5 rfl ?_
  refine r_iload_n C dL_areNear_61 6 rfl ?_
  refine r_iload C dL_areNear_62 0 rfl ?_
  obtain ⟨h23, hp⟩ := hp
  refine r_callV (ci := 8) (wc := [sysB cI cL cP fl pl a L h v pl2 hi sa tx u w me fo fd taken st]) (wr := []) (st := [.int r2]) C (m_S_distance l D cI cL cP cJ fl pl a L h v pl2 hi sa tx u w me fo fd taken st letter 3 h23) k_X10_distance t_490 [0] (show ([0] : List Nat).Perm (List.range 1) by decide) rfl rfl rfl (q0 := 0) rfl rfl rfl (Nat.le_of_ble_eq_true rfl) ⟨Nat.le_of_ble_eq_true rfl, Nat.le_of_ble_eq_true rfl⟩ ⟨Nat.zero_le _, Nat.zero_le _⟩ dL_areNear_64 (fun r24 wr24 hw24 => ?_)
  obtain ⟨e_r24, rfl⟩ := hw24
  have hp := hp r24 e_r24
  refine r_ws (I' := [sysB cI cL cP fl pl a L h v pl2 hi sa tx u w me fo fd taken st]) rfl ?_
  refine r_aload_n C dL_areNear_67 5 rfl ?_
  refine r_iload C dL_areNear_68 0 rfl ?_
  refine r_iload C dL_areNear_70 2 rfl ?_
  obtain ⟨h25, hp⟩ := hp
  refine r_callV (ci := 8) (wc := [sysB cI cL cP fl pl a L h v pl2 hi sa tx u w me fo fd taken st]) (wr := []) (st := [.int r24, .int r2]) C (m_S_distance l D cI cL cP cJ fl pl a L h v pl2 hi sa tx u w me fo fd taken st 3 0 h25) k_X10_distance t_490 [0] (show ([0] : List Nat).Perm (List.range 1) by decide) rfl rfl rfl (q0 := 0) rfl rfl rfl (Nat.le_of_ble_eq_true rfl) ⟨Nat.le_of_ble_eq_true rfl, Nat.le_of_ble_eq_true rfl⟩ ⟨Nat.zero_le _, Nat.zero_le _⟩ dL_areNear_72 (fun r26 wr26 hw26 => ?_)
  obtain ⟨e_r26, rfl⟩ := hw26
  have hp := hp r26 e_r26
  refine r_ws (I' := [sysB cI cL cP fl pl a L h v pl2 hi sa tx u w me fo fd taken st]) rfl ?_
  refine r_iadd C dL_areNear_75 rfl ?_
  obtain ⟨h27, hp⟩ := hp
  refine r_icmp_le (tgt := 81) C dL_areNear_76 (by decide) (fun _ => ?_) (fun c => absurd h27 c)
  refine r_iinc (v := 4) (L' := [(6, .int 4), (5, .int r2), (4, .int 0), (3, .int 99), (2, .int (-10)), (0, .ref fl), (1, .int letter)]) C dL_areNear_81 0 rfl (by decide) (by decide) rfl ?_
  refine r_goto (tgt := 52) C dL_areNear_84 (by decide) ?_
  refine r_iload C dL_areNear_52 0 rfl ?_
  refine r_iconst (v := 5) C dL_areNear_54 (by decide) ?_
  refine r_icmp_ge (tgt := 87) C dL_areNear_55 (by decide) (fun c => absurd c (by decide)) (fun _ => ?_)
  refine r_iload C dL_areNear_58 1 rfl ?_
  refine r_aload_n C dL_areNear_60 5 rfl ?_
  refine r_iload_n C dL_areNear_61 6 rfl ?_
  refine r_iload C dL_areNear_62 0 rfl ?_
  obtain ⟨h28, hp⟩ := hp
  refine r_callV (ci := 8) (wc := [sysB cI cL cP fl pl a L h v pl2 hi sa tx u w me fo fd taken st]) (wr := []) (st := [.int r2]) C (m_S_distance l D cI cL cP cJ fl pl a L h v pl2 hi sa tx u w me fo fd taken st letter 4 h28) k_X10_distance t_490 [0] (show ([0] : List Nat).Perm (List.range 1) by decide) rfl rfl rfl (q0 := 0) rfl rfl rfl (Nat.le_of_ble_eq_true rfl) ⟨Nat.le_of_ble_eq_true rfl, Nat.le_of_ble_eq_true rfl⟩ ⟨Nat.zero_le _, Nat.zero_le _⟩ dL_areNear_64 (fun r29 wr29 hw29 => ?_)
  obtain ⟨e_r29, rfl⟩ := hw29
  have hp := hp r29 e_r29
  refine r_ws (I' := [sysB cI cL cP fl pl a L h v pl2 hi sa tx u w me fo fd taken st]) rfl ?_
  refine r_aload_n C dL_areNear_67 5 rfl ?_
  refine r_iload C dL_areNear_68 0 rfl ?_
  refine r_iload C dL_areNear_70 2 rfl ?_
  obtain ⟨h30, hp⟩ := hp
  refine r_callV (ci := 8) (wc := [sysB cI cL cP fl pl a L h v pl2 hi sa tx u w me fo fd taken st]) (wr := []) (st := [.int r29, .int r2]) C (m_S_distance l D cI cL cP cJ fl pl a L h v pl2 hi sa tx u w me fo fd taken st 4 0 h30) k_X10_distance t_490 [0] (show ([0] : List Nat).Perm (List.range 1) by decide) rfl rfl rfl (q0 := 0) rfl rfl rfl (Nat.le_of_ble_eq_true rfl) ⟨Nat.le_of_ble_eq_true rfl, Nat.le_of_ble_eq_true rfl⟩ ⟨Nat.zero_le _, Nat.zero_le _⟩ dL_areNear_72 (fun r31 wr31 hw31 => ?_)
  obtain ⟨e_r31, rfl⟩ := hw31
  have hp := hp r31 e_r31
  refine r_ws (I' := [sysB cI cL cP fl pl a L h v pl2 hi sa tx u w me fo fd taken st]) rfl ?_
  refine r_iadd C dL_areNear_75 rfl ?_
  obtain ⟨h32, hp⟩ := hp
  refine r_icmp_le (tgt := 81) C dL_areNear_76 (by decide) (fun _ => ?_) (fun c => absurd h32 c)
  refine r_iinc (v := 5) (L' := [(6, .int 5), (5, .int r2), (4, .int 0), (3, .int 99), (2, .int (-10)), (0, .ref fl), (1, .int letter)]) C dL_areNear_81 0 rfl (by decide) (by decide) rfl ?_
  refine r_goto (tgt := 52) C dL_areNear_84 (by decide) ?_
  refine r_iload C dL_areNear_52 0 rfl ?_
  refine r_iconst (v := 5) C dL_areNear_54 (by decide) ?_
  refine r_icmp_ge (tgt := 87) C dL_areNear_55 (by decide) (fun _ => ?_) (fun c => absurd c (by decide))
  refine r_iload C dL_areNear_87 2 rfl ?_
  refine r_iload_n C dL_areNear_89 6 rfl ?_
  suffices K : ∀ x35 : Int32, x35 = ((if (0 : Int32) = letter then ((-10)) else ((if 99 ≤ r2 then ((-10)) else (0))))) → V p l e (rmm 4 95) s m args below meth c 7 D A 0 0 Q [sysB cI cL cP fl pl a L h v pl2 hi sa tx u w me fo fd taken st] [(6, .int 5), (5, .int r2), (4, .int 0), (3, .int 99), (2, .int (-10)), (0, .ref fl), (1, .int letter)] 105 [.int x35] by
    refine r_icmp_eq (tgt := 104) C dL_areNear_90 (by decide) (fun c33 => ?_) (fun c33 => ?_)
    · refine r_iload_n C dL_areNear_104 4 rfl ?_
      exact K _ (by simp only [if_pos c33])
    · refine r_iload C dL_areNear_93 1 rfl ?_
      refine r_iload_n C dL_areNear_95 3 rfl ?_
      refine r_icmp_ge (tgt := 104) C dL_areNear_96 (by decide) (fun c34 => ?_) (fun c34 => ?_)
      · refine r_iload_n C dL_areNear_104 4 rfl ?_
        exact K _ (by simp only [if_neg c33, if_pos c34])
      · refine r_iload C dL_areNear_99 2 rfl ?_
        refine r_goto (tgt := 105) C dL_areNear_101 (by decide) ?_
        exact K _ (by simp only [if_neg c33, if_neg c34])
  intro x35 e_x35
  have hp := hp x35 e_x35
  refine r_istore_n (L' := [(2, .int x35), (6, .int 5), (5, .int r2), (4, .int 0), (3, .int 99), (0, .ref fl), (1, .int letter)]) C dL_areNear_105 (by decide) rfl ?_
  refine r_iload C dL_areNear_106 3 rfl ?_
  refine r_iload_n C dL_areNear_108 6 rfl ?_
  suffices K : ∀ x38 : Int32, x38 = ((if (0 : Int32) = letter then (99) else ((if 99 ≤ r2 then (99) else (r2))))) → V p l e (rmm 4 95) s m args below meth c 7 D A 0 0 Q [sysB cI cL cP fl pl a L h v pl2 hi sa tx u w me fo fd taken st] [(2, .int x35), (6, .int 5), (5, .int r2), (4, .int 0), (3, .int 99), (0, .ref fl), (1, .int letter)] 124 [.int x38] by
    refine r_icmp_eq (tgt := 123) C dL_areNear_109 (by decide) (fun c36 => ?_) (fun c36 => ?_)
    · refine r_iload_n C dL_areNear_123 4 rfl ?_
      exact K _ (by simp only [if_pos c36])
    · refine r_iload C dL_areNear_112 2 rfl ?_
      refine r_iload_n C dL_areNear_114 4 rfl ?_
      refine r_icmp_ge (tgt := 123) C dL_areNear_115 (by decide) (fun c37 => ?_) (fun c37 => ?_)
      · refine r_iload_n C dL_areNear_123 4 rfl ?_
        exact K _ (by simp only [if_neg c36, if_pos c37])
      · refine r_iload C dL_areNear_118 2 rfl ?_
        refine r_goto (tgt := 124) C dL_areNear_120 (by decide) ?_
        exact K _ (by simp only [if_neg c36, if_neg c37])
  intro x38 e_x38
  have hp := hp x38 e_x38
  refine r_istore_n (L' := [(3, .int x38), (2, .int x35), (6, .int 5), (5, .int r2), (4, .int 0), (0, .ref fl), (1, .int letter)]) C dL_areNear_124 (by decide) rfl ?_
  refine r_iinc (v := 1) (L' := [(4, .int 1), (3, .int x38), (2, .int x35), (6, .int 5), (5, .int r2), (0, .ref fl), (1, .int letter)]) C dL_areNear_125 4 rfl (by decide) (by decide) rfl ?_
  refine r_goto (tgt := 9) C dL_areNear_128 (by decide) ?_
  refine r_iload C dL_areNear_9 0 rfl ?_
  refine r_iconst (v := 5) C dL_areNear_11 (by decide) ?_
  refine r_icmp_ge (tgt := 131) C dL_areNear_12 (by decide) (fun c => absurd c (by decide)) (fun _ => ?_)
  refine r_aload_n C dL_areNear_15 5 rfl ?_
  refine r_iload_n C dL_areNear_16 6 rfl ?_
  refine r_iload C dL_areNear_17 0 rfl ?_
  obtain ⟨h39, hp⟩ := hp
  refine r_callV (ci := 8) (wc := [sysB cI cL cP fl pl a L h v pl2 hi sa tx u w me fo fd taken st]) (wr := []) (st := []) C (m_S_distance l D cI cL cP cJ fl pl a L h v pl2 hi sa tx u w me fo fd taken st letter 1 h39) k_X10_distance t_490 [0] (show ([0] : List Nat).Perm (List.range 1) by decide) rfl rfl rfl (q0 := 0) rfl rfl rfl (Nat.le_of_ble_eq_true rfl) ⟨Nat.le_of_ble_eq_true rfl, Nat.le_of_ble_eq_true rfl⟩ ⟨Nat.zero_le _, Nat.zero_le _⟩ dL_areNear_19 (fun r40 wr40 hw40 => ?_)
  obtain ⟨e_r40, rfl⟩ := hw40
  have hp := hp r40 e_r40
  refine r_ws (I' := [sysB cI cL cP fl pl a L h v pl2 hi sa tx u w me fo fd taken st]) rfl ?_
  refine r_istore (L' := [(5, .int r40), (4, .int 1), (3, .int x38), (2, .int x35), (6, .int 5), (0, .ref fl), (1, .int letter)]) C dL_areNear_22 (by decide) rfl ?_
  refine r_iload C dL_areNear_24 0 rfl ?_
  refine r_aload_n C dL_areNear_26 5 rfl ?_
  refine r_iload C dL_areNear_27 1 rfl ?_
  refine r_iload_n C dL_areNear_29 6 rfl ?_
  obtain ⟨h41, hp⟩ := hp
  refine r_callV (ci := 8) (wc := [sysB cI cL cP fl pl a L h v pl2 hi sa tx u w me fo fd taken st]) (wr := []) (st := [.int r40]) C (m_S_distance l D cI cL cP cJ fl pl a L h v pl2 hi sa tx u w me fo fd taken st 1 letter h41) k_X10_distance t_490 [0] (show ([0] : List Nat).Perm (List.range 1) by decide) rfl rfl rfl (q0 := 0) rfl rfl rfl (Nat.le_of_ble_eq_true rfl) ⟨Nat.le_of_ble_eq_true rfl, Nat.le_of_ble_eq_true rfl⟩ ⟨Nat.zero_le _, Nat.zero_le _⟩ dL_areNear_30 (fun r42 wr42 hw42 => ?_)
  obtain ⟨e_r42, rfl⟩ := hw42
  have hp := hp r42 e_r42
  refine r_ws (I' := [sysB cI cL cP fl pl a L h v pl2 hi sa tx u w me fo fd taken st]) rfl ?_
  obtain ⟨h43, hp⟩ := hp
  refine r_icmp_ne (tgt := 47) C dL_areNear_33 (by decide) (fun c => absurd h43 c) (fun _ => ?_)
  refine r_iload C dL_areNear_36 1 rfl ?_
  refine r_iload_n C dL_areNear_38 6 rfl ?_
  obtain ⟨hps, hp⟩ := hp
  suffices K :  V p l e (rmm 4 95) s m args below meth c 7 D A 0 0 Q [sysB cI cL cP fl pl a L h v pl2 hi sa tx u w me fo fd taken st] [(5, .int r40), (4, .int 1), (3, .int x38), (2, .int x35), (6, .int 5), (0, .ref fl), (1, .int letter)] 49 [] by
    have hp := hps
    refine r_icmp_ne (tgt := 49) C dL_areNear_39 (by decide) (fun c44 => ?_) (fun c44 => ?_)
    · exact K 
    · have hp := hp.1 c44
      refine r_iload C dL_areNear_42 0 rfl ?_
      have h45 := hp
      refine r_if_eq (tgt := 49) C dL_areNear_44 (by decide) (fun _ => ?_) (fun c => absurd h45 c)
      exact K 
  skip
  refine r_iconst (v := 0) C dL_areNear_49 (by decide) ?_
  refine r_istore (L' := [(6, .int 0), (5, .int r40), (4, .int 1), (3, .int x38), (2, .int x35), (0, .ref fl), (1, .int letter)]) C dL_areNear_50 (by decide) rfl ?_
  refine r_iload C dL_areNear_52 0 rfl ?_
  refine r_iconst (v := 5) C dL_areNear_54 (by decide) ?_
  refine r_icmp_ge (tgt := 87) C dL_areNear_55 (by decide) (fun c => absurd c (by decide)) (fun _ => ?_)
  refine r_iload C dL_areNear_58 1 rfl ?_
  refine r_aload_n C dL_areNear_60 5 rfl ?_
  refine r_iload_n C dL_areNear_61 6 rfl ?_
  refine r_iload C dL_areNear_62 0 rfl ?_
  obtain ⟨h46, hp⟩ := hp
  refine r_callV (ci := 8) (wc := [sysB cI cL cP fl pl a L h v pl2 hi sa tx u w me fo fd taken st]) (wr := []) (st := [.int r40]) C (m_S_distance l D cI cL cP cJ fl pl a L h v pl2 hi sa tx u w me fo fd taken st letter 0 h46) k_X10_distance t_490 [0] (show ([0] : List Nat).Perm (List.range 1) by decide) rfl rfl rfl (q0 := 0) rfl rfl rfl (Nat.le_of_ble_eq_true rfl) ⟨Nat.le_of_ble_eq_true rfl, Nat.le_of_ble_eq_true rfl⟩ ⟨Nat.zero_le _, Nat.zero_le _⟩ dL_areNear_64 (fun r47 wr47 hw47 => ?_)
  obtain ⟨e_r47, rfl⟩ := hw47
  have hp := hp r47 e_r47
  refine r_ws (I' := [sysB cI cL cP fl pl a L h v pl2 hi sa tx u w me fo fd taken st]) rfl ?_
  refine r_aload_n C dL_areNear_67 5 rfl ?_
  refine r_iload C dL_areNear_68 0 rfl ?_
  refine r_iload C dL_areNear_70 2 rfl ?_
  obtain ⟨h48, hp⟩ := hp
  refine r_callV (ci := 8) (wc := [sysB cI cL cP fl pl a L h v pl2 hi sa tx u w me fo fd taken st]) (wr := []) (st := [.int r47, .int r40]) C (m_S_distance l D cI cL cP cJ fl pl a L h v pl2 hi sa tx u w me fo fd taken st 0 1 h48) k_X10_distance t_490 [0] (show ([0] : List Nat).Perm (List.range 1) by decide) rfl rfl rfl (q0 := 0) rfl rfl rfl (Nat.le_of_ble_eq_true rfl) ⟨Nat.le_of_ble_eq_true rfl, Nat.le_of_ble_eq_true rfl⟩ ⟨Nat.zero_le _, Nat.zero_le _⟩ dL_areNear_72 (fun r49 wr49 hw49 => ?_)
  obtain ⟨e_r49, rfl⟩ := hw49
  have hp := hp r49 e_r49
  refine r_ws (I' := [sysB cI cL cP fl pl a L h v pl2 hi sa tx u w me fo fd taken st]) rfl ?_
  refine r_iadd C dL_areNear_75 rfl ?_
  obtain ⟨h50, hp⟩ := hp
  refine r_icmp_le (tgt := 81) C dL_areNear_76 (by decide) (fun _ => ?_) (fun c => absurd h50 c)
  refine r_iinc (v := 1) (L' := [(6, .int 1), (5, .int r40), (4, .int 1), (3, .int x38), (2, .int x35), (0, .ref fl), (1, .int letter)]) C dL_areNear_81 0 rfl (by decide) (by decide) rfl ?_
  refine r_goto (tgt := 52) C dL_areNear_84 (by decide) ?_
  refine r_iload C dL_areNear_52 0 rfl ?_
  refine r_iconst (v := 5) C dL_areNear_54 (by decide) ?_
  refine r_icmp_ge (tgt := 87) C dL_areNear_55 (by decide) (fun c => absurd c (by decide)) (fun _ => ?_)
  refine r_iload C dL_areNear_58 1 rfl ?_
  refine r_aload_n C dL_areNear_60 5 rfl ?_
  refine r_iload_n C dL_areNear_61 6 rfl ?_
  refine r_iload C dL_areNear_62 0 rfl ?_
  obtain ⟨h51, hp⟩ := hp
  refine r_callV (ci := 8) (wc := [sysB cI cL cP fl pl a L h v pl2 hi sa tx u w me fo fd taken st]) (wr := []) (st := [.int r40]) C (m_S_distance l D cI cL cP cJ fl pl a L h v pl2 hi sa tx u w me fo fd taken st letter 1 h51) k_X10_distance t_490 [0] (show ([0] : List Nat).Perm (List.range 1) by decide) rfl rfl rfl (q0 := 0) rfl rfl rfl (Nat.le_of_ble_eq_true rfl) ⟨Nat.le_of_ble_eq_true rfl, Nat.le_of_ble_eq_true rfl⟩ ⟨Nat.zero_le _, Nat.zero_le _⟩ dL_areNear_64 (fun r52 wr52 hw52 => ?_)
  obtain ⟨e_r52, rfl⟩ := hw52
  have hp := hp r52 e_r52
  refine r_ws (I' := [sysB cI cL cP fl pl a L h v pl2 hi sa tx u w me fo fd taken st]) rfl ?_
  refine r_aload_n C dL_areNear_67 5 rfl ?_
  refine r_iload C dL_areNear_68 0 rfl ?_
  refine r_iload C dL_areNear_70 2 rfl ?_
  obtain ⟨h53, hp⟩ := hp
  refine r_callV (ci := 8) (wc := [sysB cI cL cP fl pl a L h v pl2 hi sa tx u w me fo fd taken st]) (wr := []) (st := [.int r52, .int r40]) C (m_S_distance l D cI cL cP cJ fl pl a L h v pl2 hi sa tx u w me fo fd taken st 1 1 h53) k_X10_distance t_490 [0] (show ([0] : List Nat).Perm (List.range 1) by decide) rfl rfl rfl (q0 := 0) rfl rfl rfl (Nat.le_of_ble_eq_true rfl) ⟨Nat.le_of_ble_eq_true rfl, Nat.le_of_ble_eq_true rfl⟩ ⟨Nat.zero_le _, Nat.zero_le _⟩ dL_areNear_72 (fun r54 wr54 hw54 => ?_)
  obtain ⟨e_r54, rfl⟩ := hw54
  have hp := hp r54 e_r54
  refine r_ws (I' := [sysB cI cL cP fl pl a L h v pl2 hi sa tx u w me fo fd taken st]) rfl ?_
  refine r_iadd C dL_areNear_75 rfl ?_
  obtain ⟨h55, hp⟩ := hp
  refine r_icmp_le (tgt := 81) C dL_areNear_76 (by decide) (fun _ => ?_) (fun c => absurd h55 c)
  refine r_iinc (v := 2) (L' := [(6, .int 2), (5, .int r40), (4, .int 1), (3, .int x38), (2, .int x35), (0, .ref fl), (1, .int letter)]) C dL_areNear_81 0 rfl (by decide) (by decide) rfl ?_
  refine r_goto (tgt := 52) C dL_areNear_84 (by decide) ?_
  refine r_iload C dL_areNear_52 0 rfl ?_
  refine r_iconst (v := 5) C dL_areNear_54 (by decide) ?_
  refine r_icmp_ge (tgt := 87) C dL_areNear_55 (by decide) (fun c => absurd c (by decide)) (fun _ => ?_)
  refine r_iload C dL_areNear_58 1 rfl ?_
  refine r_aload_n C dL_areNear_60 5 rfl ?_
  refine r_iload_n C dL_areNear_61 6 rfl ?_
  refine r_iload C dL_areNear_62 0 rfl ?_
  obtain ⟨h56, hp⟩ := hp
  refine r_callV (ci := 8) (wc := [sysB cI cL cP fl pl a L h v pl2 hi sa tx u w me fo fd taken st]) (wr := []) (st := [.int r40]) C (m_S_distance l D cI cL cP cJ fl pl a L h v pl2 hi sa tx u w me fo fd taken st letter 2 h56) k_X10_distance t_490 [0] (show ([0] : List Nat).Perm (List.range 1) by decide) rfl rfl rfl (q0 := 0) rfl rfl rfl (Nat.le_of_ble_eq_true rfl) ⟨Nat.le_of_ble_eq_true rfl, Nat.le_of_ble_eq_true rfl⟩ ⟨Nat.zero_le _, Nat.zero_le _⟩ dL_areNear_64 (fun r57 wr57 hw57 => ?_)
  obtain ⟨e_r57, rfl⟩ := hw57
  have hp := hp r57 e_r57
  refine r_ws (I' := [sysB cI cL cP fl pl a L h v pl2 hi sa tx u w me fo fd taken st]) rfl ?_
  refine r_aload_n C dL_areNear_67 5 rfl ?_
  refine r_iload C dL_areNear_68 0 rfl ?_
  refine r_iload C dL_areNear_70 2 rfl ?_
  obtain ⟨h58, hp⟩ := hp
  refine r_callV (ci := 8) (wc := [sysB cI cL cP fl pl a L h v pl2 hi sa tx u w me fo fd taken st]) (wr := []) (st := [.int r57, .int r40]) C (m_S_distance l D cI cL cP cJ fl pl a L h v pl2 hi sa tx u w me fo fd taken st 2 1 h58) k_X10_distance t_490 [0] (show ([0] : List Nat).Perm (List.range 1) by decide) rfl rfl rfl (q0 := 0) rfl rfl rfl (Nat.le_of_ble_eq_true rfl) ⟨Nat.le_of_ble_eq_true rfl, Nat.le_of_ble_eq_true rfl⟩ ⟨Nat.zero_le _, Nat.zero_le _⟩ dL_areNear_72 (fun r59 wr59 hw59 => ?_)
  obtain ⟨e_r59, rfl⟩ := hw59
  have hp := hp r59 e_r59
  refine r_ws (I' := [sysB cI cL cP fl pl a L h v pl2 hi sa tx u w me fo fd taken st]) rfl ?_
  refine r_iadd C dL_areNear_75 rfl ?_
  obtain ⟨h60, hp⟩ := hp
  refine r_icmp_le (tgt := 81) C dL_areNear_76 (by decide) (fun _ => ?_) (fun c => absurd h60 c)
  refine r_iinc (v := 3) (L' := [(6, .int 3), (5, .int r40), (4, .int 1), (3, .int x38), (2, .int x35), (0, .ref fl), (1, .int letter)]) C dL_areNear_81 0 rfl (by decide) (by decide) rfl ?_
  refine r_goto (tgt := 52) C dL_areNear_84 (by decide) ?_
  refine r_iload C dL_areNear_52 0 rfl ?_
  refine r_iconst (v := 5) C dL_areNear_54 (by decide) ?_
  refine r_icmp_ge (tgt := 87) C dL_areNear_55 (by decide) (fun c => absurd c (by decide)) (fun _ => ?_)
  refine r_iload C dL_areNear_58 1 rfl ?_
  refine r_aload_n C dL_areNear_60 5 rfl ?_
  refine r_iload_n C dL_areNear_61 6 rfl ?_
  refine r_iload C dL_areNear_62 0 rfl ?_
  obtain ⟨h61, hp⟩ := hp
  refine r_callV (ci := 8) (wc := [sysB cI cL cP fl pl a L h v pl2 hi sa tx u w me fo fd taken st]) (wr := []) (st := [.int r40]) C (m_S_distance l D cI cL cP cJ fl pl a L h v pl2 hi sa tx u w me fo fd taken st letter 3 h61) k_X10_distance t_490 [0] (show ([0] : List Nat).Perm (List.range 1) by decide) rfl rfl rfl (q0 := 0) rfl rfl rfl (Nat.le_of_ble_eq_true rfl) ⟨Nat.le_of_ble_eq_true rfl, Nat.le_of_ble_eq_true rfl⟩ ⟨Nat.zero_le _, Nat.zero_le _⟩ dL_areNear_64 (fun r62 wr62 hw62 => ?_)
  obtain ⟨e_r62, rfl⟩ := hw62
  have hp := hp r62 e_r62
  refine r_ws (I' := [sysB cI cL cP fl pl a L h v pl2 hi sa tx u w me fo fd taken st]) rfl ?_
  refine r_aload_n C dL_areNear_67 5 rfl ?_
  refine r_iload C dL_areNear_68 0 rfl ?_
  refine r_iload C dL_areNear_70 2 rfl ?_
  obtain ⟨h63, hp⟩ := hp
  refine r_callV (ci := 8) (wc := [sysB cI cL cP fl pl a L h v pl2 hi sa tx u w me fo fd taken st]) (wr := []) (st := [.int r62, .int r40]) C (m_S_distance l D cI cL cP cJ fl pl a L h v pl2 hi sa tx u w me fo fd taken st 3 1 h63) k_X10_distance t_490 [0] (show ([0] : List Nat).Perm (List.range 1) by decide) rfl rfl rfl (q0 := 0) rfl rfl rfl (Nat.le_of_ble_eq_true rfl) ⟨Nat.le_of_ble_eq_true rfl, Nat.le_of_ble_eq_true rfl⟩ ⟨Nat.zero_le _, Nat.zero_le _⟩ dL_areNear_72 (fun r64 wr64 hw64 => ?_)
  obtain ⟨e_r64, rfl⟩ := hw64
  have hp := hp r64 e_r64
  refine r_ws (I' := [sysB cI cL cP fl pl a L h v pl2 hi sa tx u w me fo fd taken st]) rfl ?_
  refine r_iadd C dL_areNear_75 rfl ?_
  obtain ⟨h65, hp⟩ := hp
  refine r_icmp_le (tgt := 81) C dL_areNear_76 (by decide) (fun _ => ?_) (fun c => absurd h65 c)
  refine r_iinc (v := 4) (L' := [(6, .int 4), (5, .int r40), (4, .int 1), (3, .int x38), (2, .int x35), (0, .ref fl), (1, .int letter)]) C dL_areNear_81 0 rfl (by decide) (by decide) rfl ?_
  refine r_goto (tgt := 52) C dL_areNear_84 (by decide) ?_
  refine r_iload C dL_areNear_52 0 rfl ?_
  refine r_iconst (v := 5) C dL_areNear_54 (by decide) ?_
  refine r_icmp_ge (tgt := 87) C dL_areNear_55 (by decide) (fun c => absurd c (by decide)) (fun _ => ?_)
  refine r_iload C dL_areNear_58 1 rfl ?_
  refine r_aload_n C dL_areNear_60 5 rfl ?_
  refine r_iload_n C dL_areNear_61 6 rfl ?_
  refine r_iload C dL_areNear_62 0 rfl ?_
  obtain ⟨h66, hp⟩ := hp
  refine r_callV (ci := 8) (wc := [sysB cI cL cP fl pl a L h v pl2 hi sa tx u w me fo fd taken st]) (wr := []) (st := [.int r40]) C (m_S_distance l D cI cL cP cJ fl pl a L h v pl2 hi sa tx u w me fo fd taken st letter 4 h66) k_X10_distance t_490 [0] (show ([0] : List Nat).Perm (List.range 1) by decide) rfl rfl rfl (q0 := 0) rfl rfl rfl (Nat.le_of_ble_eq_true rfl) ⟨Nat.le_of_ble_eq_true rfl, Nat.le_of_ble_eq_true rfl⟩ ⟨Nat.zero_le _, Nat.zero_le _⟩ dL_areNear_64 (fun r67 wr67 hw67 => ?_)
  obtain ⟨e_r67, rfl⟩ := hw67
  have hp := hp r67 e_r67
  refine r_ws (I' := [sysB cI cL cP fl pl a L h v pl2 hi sa tx u w me fo fd taken st]) rfl ?_
  refine r_aload_n C dL_areNear_67 5 rfl ?_
  refine r_iload C dL_areNear_68 0 rfl ?_
  refine r_iload C dL_areNear_70 2 rfl ?_
  obtain ⟨h68, hp⟩ := hp
  refine r_callV (ci := 8) (wc := [sysB cI cL cP fl pl a L h v pl2 hi sa tx u w me fo fd taken st]) (wr := []) (st := [.int r67, .int r40]) C (m_S_distance l D cI cL cP cJ fl pl a L h v pl2 hi sa tx u w me fo fd taken st 4 1 h68) k_X10_distance t_490 [0] (show ([0] : List Nat).Perm (List.range 1) by decide) rfl rfl rfl (q0 := 0) rfl rfl rfl (Nat.le_of_ble_eq_true rfl) ⟨Nat.le_of_ble_eq_true rfl, Nat.le_of_ble_eq_true rfl⟩ ⟨Nat.zero_le _, Nat.zero_le _⟩ dL_areNear_72 (fun r69 wr69 hw69 => ?_)
  obtain ⟨e_r69, rfl⟩ := hw69
  have hp := hp r69 e_r69
  refine r_ws (I' := [sysB cI cL cP fl pl a L h v pl2 hi sa tx u w me fo fd taken st]) rfl ?_
  refine r_iadd C dL_areNear_75 rfl ?_
  obtain ⟨h70, hp⟩ := hp
  refine r_icmp_le (tgt := 81) C dL_areNear_76 (by decide) (fun _ => ?_) (fun c => absurd h70 c)
  refine r_iinc (v := 5) (L' := [(6, .int 5), (5, .int r40), (4, .int 1), (3, .int x38), (2, .int x35), (0, .ref fl), (1, .int letter)]) C dL_areNear_81 0 rfl (by decide) (by decide) rfl ?_
  refine r_goto (tgt := 52) C dL_areNear_84 (by decide) ?_
  refine r_iload C dL_areNear_52 0 rfl ?_
  refine r_iconst (v := 5) C dL_areNear_54 (by decide) ?_
  refine r_icmp_ge (tgt := 87) C dL_areNear_55 (by decide) (fun _ => ?_) (fun c => absurd c (by decide))
  refine r_iload C dL_areNear_87 2 rfl ?_
  refine r_iload_n C dL_areNear_89 6 rfl ?_
  suffices K : ∀ x73 : Int32, x73 = ((if (1 : Int32) = letter then (x35) else ((if x38 ≤ r40 then (x35) else (1))))) → V p l e (rmm 4 95) s m args below meth c 7 D A 0 0 Q [sysB cI cL cP fl pl a L h v pl2 hi sa tx u w me fo fd taken st] [(6, .int 5), (5, .int r40), (4, .int 1), (3, .int x38), (2, .int x35), (0, .ref fl), (1, .int letter)] 105 [.int x73] by
    refine r_icmp_eq (tgt := 104) C dL_areNear_90 (by decide) (fun c71 => ?_) (fun c71 => ?_)
    · refine r_iload_n C dL_areNear_104 4 rfl ?_
      exact K _ (by simp only [if_pos c71])
    · refine r_iload C dL_areNear_93 1 rfl ?_
      refine r_iload_n C dL_areNear_95 3 rfl ?_
      refine r_icmp_ge (tgt := 104) C dL_areNear_96 (by decide) (fun c72 => ?_) (fun c72 => ?_)
      · refine r_iload_n C dL_areNear_104 4 rfl ?_
        exact K _ (by simp only [if_neg c71, if_pos c72])
      · refine r_iload C dL_areNear_99 2 rfl ?_
        refine r_goto (tgt := 105) C dL_areNear_101 (by decide) ?_
        exact K _ (by simp only [if_neg c71, if_neg c72])
  intro x73 e_x73
  have hp := hp x73 e_x73
  refine r_istore_n (L' := [(2, .int x73), (6, .int 5), (5, .int r40), (4, .int 1), (3, .int x38), (0, .ref fl), (1, .int letter)]) C dL_areNear_105 (by decide) rfl ?_
  refine r_iload C dL_areNear_106 3 rfl ?_
  refine r_iload_n C dL_areNear_108 6 rfl ?_
  suffices K : ∀ x76 : Int32, x76 = ((if (1 : Int32) = letter then (x38) else ((if x38 ≤ r40 then (x38) else (r40))))) → V p l e (rmm 4 95) s m args below meth c 7 D A 0 0 Q [sysB cI cL cP fl pl a L h v pl2 hi sa tx u w me fo fd taken st] [(2, .int x73), (6, .int 5), (5, .int r40), (4, .int 1), (3, .int x38), (0, .ref fl), (1, .int letter)] 124 [.int x76] by
    refine r_icmp_eq (tgt := 123) C dL_areNear_109 (by decide) (fun c74 => ?_) (fun c74 => ?_)
    · refine r_iload_n C dL_areNear_123 4 rfl ?_
      exact K _ (by simp only [if_pos c74])
    · refine r_iload C dL_areNear_112 2 rfl ?_
      refine r_iload_n C dL_areNear_114 4 rfl ?_
      refine r_icmp_ge (tgt := 123) C dL_areNear_115 (by decide) (fun c75 => ?_) (fun c75 => ?_)
      · refine r_iload_n C dL_areNear_123 4 rfl ?_
        exact K _ (by simp only [if_neg c74, if_pos c75])
      · refine r_iload C dL_areNear_118 2 rfl ?_
        refine r_goto (tgt := 124) C dL_areNear_120 (by decide) ?_
        exact K _ (by simp only [if_neg c74, if_neg c75])
  intro x76 e_x76
  have hp := hp x76 e_x76
  refine r_istore_n (L' := [(3, .int x76), (2, .int x73), (6, .int 5), (5, .int r40), (4, .int 1), (0, .ref fl), (1, .int letter)]) C dL_areNear_124 (by decide) rfl ?_
  refine r_iinc (v := 2) (L' := [(4, .int 2), (3, .int x76), (2, .int x73), (6, .int 5), (5, .int r40), (0, .ref fl), (1, .int letter)]) C dL_areNear_125 4 rfl (by decide) (by decide) rfl ?_
  refine r_goto (tgt := 9) C dL_areNear_128 (by decide) ?_
  refine r_iload C dL_areNear_9 0 rfl ?_
  refine r_iconst (v := 5) C dL_areNear_11 (by decide) ?_
  refine r_icmp_ge (tgt := 131) C dL_areNear_12 (by decide) (fun c => absurd c (by decide)) (fun _ => ?_)
  refine r_aload_n C dL_areNear_15 5 rfl ?_
  refine r_iload_n C dL_areNear_16 6 rfl ?_
  refine r_iload C dL_areNear_17 0 rfl ?_
  obtain ⟨h77, hp⟩ := hp
  refine r_callV (ci := 8) (wc := [sysB cI cL cP fl pl a L h v pl2 hi sa tx u w me fo fd taken st]) (wr := []) (st := []) C (m_S_distance l D cI cL cP cJ fl pl a L h v pl2 hi sa tx u w me fo fd taken st letter 2 h77) k_X10_distance t_490 [0] (show ([0] : List Nat).Perm (List.range 1) by decide) rfl rfl rfl (q0 := 0) rfl rfl rfl (Nat.le_of_ble_eq_true rfl) ⟨Nat.le_of_ble_eq_true rfl, Nat.le_of_ble_eq_true rfl⟩ ⟨Nat.zero_le _, Nat.zero_le _⟩ dL_areNear_19 (fun r78 wr78 hw78 => ?_)
  obtain ⟨e_r78, rfl⟩ := hw78
  have hp := hp r78 e_r78
  refine r_ws (I' := [sysB cI cL cP fl pl a L h v pl2 hi sa tx u w me fo fd taken st]) rfl ?_
  refine r_istore (L' := [(5, .int r78), (4, .int 2), (3, .int x76), (2, .int x73), (6, .int 5), (0, .ref fl), (1, .int letter)]) C dL_areNear_22 (by decide) rfl ?_
  refine r_iload C dL_areNear_24 0 rfl ?_
  refine r_aload_n C dL_areNear_26 5 rfl ?_
  refine r_iload C dL_areNear_27 1 rfl ?_
  refine r_iload_n C dL_areNear_29 6 rfl ?_
  obtain ⟨h79, hp⟩ := hp
  refine r_callV (ci := 8) (wc := [sysB cI cL cP fl pl a L h v pl2 hi sa tx u w me fo fd taken st]) (wr := []) (st := [.int r78]) C (m_S_distance l D cI cL cP cJ fl pl a L h v pl2 hi sa tx u w me fo fd taken st 2 letter h79) k_X10_distance t_490 [0] (show ([0] : List Nat).Perm (List.range 1) by decide) rfl rfl rfl (q0 := 0) rfl rfl rfl (Nat.le_of_ble_eq_true rfl) ⟨Nat.le_of_ble_eq_true rfl, Nat.le_of_ble_eq_true rfl⟩ ⟨Nat.zero_le _, Nat.zero_le _⟩ dL_areNear_30 (fun r80 wr80 hw80 => ?_)
  obtain ⟨e_r80, rfl⟩ := hw80
  have hp := hp r80 e_r80
  refine r_ws (I' := [sysB cI cL cP fl pl a L h v pl2 hi sa tx u w me fo fd taken st]) rfl ?_
  obtain ⟨h81, hp⟩ := hp
  refine r_icmp_ne (tgt := 47) C dL_areNear_33 (by decide) (fun c => absurd h81 c) (fun _ => ?_)
  refine r_iload C dL_areNear_36 1 rfl ?_
  refine r_iload_n C dL_areNear_38 6 rfl ?_
  obtain ⟨hps, hp⟩ := hp
  suffices K :  V p l e (rmm 4 95) s m args below meth c 7 D A 0 0 Q [sysB cI cL cP fl pl a L h v pl2 hi sa tx u w me fo fd taken st] [(5, .int r78), (4, .int 2), (3, .int x76), (2, .int x73), (6, .int 5), (0, .ref fl), (1, .int letter)] 49 [] by
    have hp := hps
    refine r_icmp_ne (tgt := 49) C dL_areNear_39 (by decide) (fun c82 => ?_) (fun c82 => ?_)
    · exact K 
    · have hp := hp.1 c82
      refine r_iload C dL_areNear_42 0 rfl ?_
      have h83 := hp
      refine r_if_eq (tgt := 49) C dL_areNear_44 (by decide) (fun _ => ?_) (fun c => absurd h83 c)
      exact K 
  skip
  refine r_iconst (v := 0) C dL_areNear_49 (by decide) ?_
  refine r_istore (L' := [(6, .int 0), (5, .int r78), (4, .int 2), (3, .int x76), (2, .int x73), (0, .ref fl), (1, .int letter)]) C dL_areNear_50 (by decide) rfl ?_
  refine r_iload C dL_areNear_52 0 rfl ?_
  refine r_iconst (v := 5) C dL_areNear_54 (by decide) ?_
  refine r_icmp_ge (tgt := 87) C dL_areNear_55 (by decide) (fun c => absurd c (by decide)) (fun _ => ?_)
  refine r_iload C dL_areNear_58 1 rfl ?_
  refine r_aload_n C dL_areNear_60 5 rfl ?_
  refine r_iload_n C dL_areNear_61 6 rfl ?_
  refine r_iload C dL_areNear_62 0 rfl ?_
  obtain ⟨h84, hp⟩ := hp
  refine r_callV (ci := 8) (wc := [sysB cI cL cP fl pl a L h v pl2 hi sa tx u w me fo fd taken st]) (wr := []) (st := [.int r78]) C (m_S_distance l D cI cL cP cJ fl pl a L h v pl2 hi sa tx u w me fo fd taken st letter 0 h84) k_X10_distance t_490 [0] (show ([0] : List Nat).Perm (List.range 1) by decide) rfl rfl rfl (q0 := 0) rfl rfl rfl (Nat.le_of_ble_eq_true rfl) ⟨Nat.le_of_ble_eq_true rfl, Nat.le_of_ble_eq_true rfl⟩ ⟨Nat.zero_le _, Nat.zero_le _⟩ dL_areNear_64 (fun r85 wr85 hw85 => ?_)
  obtain ⟨e_r85, rfl⟩ := hw85
  have hp := hp r85 e_r85
  refine r_ws (I' := [sysB cI cL cP fl pl a L h v pl2 hi sa tx u w me fo fd taken st]) rfl ?_
  refine r_aload_n C dL_areNear_67 5 rfl ?_
  refine r_iload C dL_areNear_68 0 rfl ?_
  refine r_iload C dL_areNear_70 2 rfl ?_
  obtain ⟨h86, hp⟩ := hp
  refine r_callV (ci := 8) (wc := [sysB cI cL cP fl pl a L h v pl2 hi sa tx u w me fo fd taken st]) (wr := []) (st := [.int r85, .int r78]) C (m_S_distance l D cI cL cP cJ fl pl a L h v pl2 hi sa tx u w me fo fd taken st 0 2 h86) k_X10_distance t_490 [0] (show ([0] : List Nat).Perm (List.range 1) by decide) rfl rfl rfl (q0 := 0) rfl rfl rfl (Nat.le_of_ble_eq_true rfl) ⟨Nat.le_of_ble_eq_true rfl, Nat.le_of_ble_eq_true rfl⟩ ⟨Nat.zero_le _, Nat.zero_le _⟩ dL_areNear_72 (fun r87 wr87 hw87 => ?_)
  obtain ⟨e_r87, rfl⟩ := hw87
  have hp := hp r87 e_r87
  refine r_ws (I' := [sysB cI cL cP fl pl a L h v pl2 hi sa tx u w me fo fd taken st]) rfl ?_
  refine r_iadd C dL_areNear_75 rfl ?_
  obtain ⟨h88, hp⟩ := hp
  refine r_icmp_le (tgt := 81) C dL_areNear_76 (by decide) (fun _ => ?_) (fun c => absurd h88 c)
  refine r_iinc (v := 1) (L' := [(6, .int 1), (5, .int r78), (4, .int 2), (3, .int x76), (2, .int x73), (0, .ref fl), (1, .int letter)]) C dL_areNear_81 0 rfl (by decide) (by decide) rfl ?_
  refine r_goto (tgt := 52) C dL_areNear_84 (by decide) ?_
  refine r_iload C dL_areNear_52 0 rfl ?_
  refine r_iconst (v := 5) C dL_areNear_54 (by decide) ?_
  refine r_icmp_ge (tgt := 87) C dL_areNear_55 (by decide) (fun c => absurd c (by decide)) (fun _ => ?_)
  refine r_iload C dL_areNear_58 1 rfl ?_
  refine r_aload_n C dL_areNear_60 5 rfl ?_
  refine r_iload_n C dL_areNear_61 6 rfl ?_
  refine r_iload C dL_areNear_62 0 rfl ?_
  obtain ⟨h89, hp⟩ := hp
  refine r_callV (ci := 8) (wc := [sysB cI cL cP fl pl a L h v pl2 hi sa tx u w me fo fd taken st]) (wr := []) (st := [.int r78]) C (m_S_distance l D cI cL cP cJ fl pl a L h v pl2 hi sa tx u w me fo fd taken st letter 1 h89) k_X10_distance t_490 [0] (show ([0] : List Nat).Perm (List.range 1) by decide) rfl rfl rfl (q0 := 0) rfl rfl rfl (Nat.le_of_ble_eq_true rfl) ⟨Nat.le_of_ble_eq_true rfl, Nat.le_of_ble_eq_true rfl⟩ ⟨Nat.zero_le _, Nat.zero_le _⟩ dL_areNear_64 (fun r90 wr90 hw90 => ?_)
  obtain ⟨e_r90, rfl⟩ := hw90
  have hp := hp r90 e_r90
  refine r_ws (I' := [sysB cI cL cP fl pl a L h v pl2 hi sa tx u w me fo fd taken st]) rfl ?_
  refine r_aload_n C dL_areNear_67 5 rfl ?_
  refine r_iload C dL_areNear_68 0 rfl ?_
  refine r_iload C dL_areNear_70 2 rfl ?_
  obtain ⟨h91, hp⟩ := hp
  refine r_callV (ci := 8) (wc := [sysB cI cL cP fl pl a L h v pl2 hi sa tx u w me fo fd taken st]) (wr := []) (st := [.int r90, .int r78]) C (m_S_distance l D cI cL cP cJ fl pl a L h v pl2 hi sa tx u w me fo fd taken st 1 2 h91) k_X10_distance t_490 [0] (show ([0] : List Nat).Perm (List.range 1) by decide) rfl rfl rfl (q0 := 0) rfl rfl rfl (Nat.le_of_ble_eq_true rfl) ⟨Nat.le_of_ble_eq_true rfl, Nat.le_of_ble_eq_true rfl⟩ ⟨Nat.zero_le _, Nat.zero_le _⟩ dL_areNear_72 (fun r92 wr92 hw92 => ?_)
  obtain ⟨e_r92, rfl⟩ := hw92
  have hp := hp r92 e_r92
  refine r_ws (I' := [sysB cI cL cP fl pl a L h v pl2 hi sa tx u w me fo fd taken st]) rfl ?_
  refine r_iadd C dL_areNear_75 rfl ?_
  obtain ⟨h93, hp⟩ := hp
  refine r_icmp_le (tgt := 81) C dL_areNear_76 (by decide) (fun _ => ?_) (fun c => absurd h93 c)
  refine r_iinc (v := 2) (L' := [(6, .int 2), (5, .int r78), (4, .int 2), (3, .int x76), (2, .int x73), (0, .ref fl), (1, .int letter)]) C dL_areNear_81 0 rfl (by decide) (by decide) rfl ?_
  refine r_goto (tgt := 52) C dL_areNear_84 (by decide) ?_
  refine r_iload C dL_areNear_52 0 rfl ?_
  refine r_iconst (v := 5) C dL_areNear_54 (by decide) ?_
  refine r_icmp_ge (tgt := 87) C dL_areNear_55 (by decide) (fun c => absurd c (by decide)) (fun _ => ?_)
  refine r_iload C dL_areNear_58 1 rfl ?_
  refine r_aload_n C dL_areNear_60 5 rfl ?_
  refine r_iload_n C dL_areNear_61 6 rfl ?_
  refine r_iload C dL_areNear_62 0 rfl ?_
  obtain ⟨h94, hp⟩ := hp
  refine r_callV (ci := 8) (wc := [sysB cI cL cP fl pl a L h v pl2 hi sa tx u w me fo fd taken st]) (wr := []) (st := [.int r78]) C (m_S_distance l D cI cL cP cJ fl pl a L h v pl2 hi sa tx u w me fo fd taken st letter 2 h94) k_X10_distance t_490 [0] (show ([0] : List Nat).Perm (List.range 1) by decide) rfl rfl rfl (q0 := 0) rfl rfl rfl (Nat.le_of_ble_eq_true rfl) ⟨Nat.le_of_ble_eq_true rfl, Nat.le_of_ble_eq_true rfl⟩ ⟨Nat.zero_le _, Nat.zero_le _⟩ dL_areNear_64 (fun r95 wr95 hw95 => ?_)
  obtain ⟨e_r95, rfl⟩ := hw95
  have hp := hp r95 e_r95
  refine r_ws (I' := [sysB cI cL cP fl pl a L h v pl2 hi sa tx u w me fo fd taken st]) rfl ?_
  refine r_aload_n C dL_areNear_67 5 rfl ?_
  refine r_iload C dL_areNear_68 0 rfl ?_
  refine r_iload C dL_areNear_70 2 rfl ?_
  obtain ⟨h96, hp⟩ := hp
  refine r_callV (ci := 8) (wc := [sysB cI cL cP fl pl a L h v pl2 hi sa tx u w me fo fd taken st]) (wr := []) (st := [.int r95, .int r78]) C (m_S_distance l D cI cL cP cJ fl pl a L h v pl2 hi sa tx u w me fo fd taken st 2 2 h96) k_X10_distance t_490 [0] (show ([0] : List Nat).Perm (List.range 1) by decide) rfl rfl rfl (q0 := 0) rfl rfl rfl (Nat.le_of_ble_eq_true rfl) ⟨Nat.le_of_ble_eq_true rfl, Nat.le_of_ble_eq_true rfl⟩ ⟨Nat.zero_le _, Nat.zero_le _⟩ dL_areNear_72 (fun r97 wr97 hw97 => ?_)
  obtain ⟨e_r97, rfl⟩ := hw97
  have hp := hp r97 e_r97
  refine r_ws (I' := [sysB cI cL cP fl pl a L h v pl2 hi sa tx u w me fo fd taken st]) rfl ?_
  refine r_iadd C dL_areNear_75 rfl ?_
  obtain ⟨h98, hp⟩ := hp
  refine r_icmp_le (tgt := 81) C dL_areNear_76 (by decide) (fun _ => ?_) (fun c => absurd h98 c)
  refine r_iinc (v := 3) (L' := [(6, .int 3), (5, .int r78), (4, .int 2), (3, .int x76), (2, .int x73), (0, .ref fl), (1, .int letter)]) C dL_areNear_81 0 rfl (by decide) (by decide) rfl ?_
  refine r_goto (tgt := 52) C dL_areNear_84 (by decide) ?_
  refine r_iload C dL_areNear_52 0 rfl ?_
  refine r_iconst (v := 5) C dL_areNear_54 (by decide) ?_
  refine r_icmp_ge (tgt := 87) C dL_areNear_55 (by decide) (fun c => absurd c (by decide)) (fun _ => ?_)
  refine r_iload C dL_areNear_58 1 rfl ?_
  refine r_aload_n C dL_areNear_60 5 rfl ?_
  refine r_iload_n C dL_areNear_61 6 rfl ?_
  refine r_iload C dL_areNear_62 0 rfl ?_
  obtain ⟨h99, hp⟩ := hp
  refine r_callV (ci := 8) (wc := [sysB cI cL cP fl pl a L h v pl2 hi sa tx u w me fo fd taken st]) (wr := []) (st := [.int r78]) C (m_S_distance l D cI cL cP cJ fl pl a L h v pl2 hi sa tx u w me fo fd taken st letter 3 h99) k_X10_distance t_490 [0] (show ([0] : List Nat).Perm (List.range 1) by decide) rfl rfl rfl (q0 := 0) rfl rfl rfl (Nat.le_of_ble_eq_true rfl) ⟨Nat.le_of_ble_eq_true rfl, Nat.le_of_ble_eq_true rfl⟩ ⟨Nat.zero_le _, Nat.zero_le _⟩ dL_areNear_64 (fun r100 wr100 hw100 => ?_)
  obtain ⟨e_r100, rfl⟩ := hw100
  have hp := hp r100 e_r100
  refine r_ws (I' := [sysB cI cL cP fl pl a L h v pl2 hi sa tx u w me fo fd taken st]) rfl ?_
  refine r_aload_n C dL_areNear_67 5 rfl ?_
  refine r_iload C dL_areNear_68 0 rfl ?_
  refine r_iload C dL_areNear_70 2 rfl ?_
  obtain ⟨h101, hp⟩ := hp
  refine r_callV (ci := 8) (wc := [sysB cI cL cP fl pl a L h v pl2 hi sa tx u w me fo fd taken st]) (wr := []) (st := [.int r100, .int r78]) C (m_S_distance l D cI cL cP cJ fl pl a L h v pl2 hi sa tx u w me fo fd taken st 3 2 h101) k_X10_distance t_490 [0] (show ([0] : List Nat).Perm (List.range 1) by decide) rfl rfl rfl (q0 := 0) rfl rfl rfl (Nat.le_of_ble_eq_true rfl) ⟨Nat.le_of_ble_eq_true rfl, Nat.le_of_ble_eq_true rfl⟩ ⟨Nat.zero_le _, Nat.zero_le _⟩ dL_areNear_72 (fun r102 wr102 hw102 => ?_)
  obtain ⟨e_r102, rfl⟩ := hw102
  have hp := hp r102 e_r102
  refine r_ws (I' := [sysB cI cL cP fl pl a L h v pl2 hi sa tx u w me fo fd taken st]) rfl ?_
  refine r_iadd C dL_areNear_75 rfl ?_
  obtain ⟨h103, hp⟩ := hp
  refine r_icmp_le (tgt := 81) C dL_areNear_76 (by decide) (fun _ => ?_) (fun c => absurd h103 c)
  refine r_iinc (v := 4) (L' := [(6, .int 4), (5, .int r78), (4, .int 2), (3, .int x76), (2, .int x73), (0, .ref fl), (1, .int letter)]) C dL_areNear_81 0 rfl (by decide) (by decide) rfl ?_
  refine r_goto (tgt := 52) C dL_areNear_84 (by decide) ?_
  refine r_iload C dL_areNear_52 0 rfl ?_
  refine r_iconst (v := 5) C dL_areNear_54 (by decide) ?_
  refine r_icmp_ge (tgt := 87) C dL_areNear_55 (by decide) (fun c => absurd c (by decide)) (fun _ => ?_)
  refine r_iload C dL_areNear_58 1 rfl ?_
  refine r_aload_n C dL_areNear_60 5 rfl ?_
  refine r_iload_n C dL_areNear_61 6 rfl ?_
  refine r_iload C dL_areNear_62 0 rfl ?_
  obtain ⟨h104, hp⟩ := hp
  refine r_callV (ci := 8) (wc := [sysB cI cL cP fl pl a L h v pl2 hi sa tx u w me fo fd taken st]) (wr := []) (st := [.int r78]) C (m_S_distance l D cI cL cP cJ fl pl a L h v pl2 hi sa tx u w me fo fd taken st letter 4 h104) k_X10_distance t_490 [0] (show ([0] : List Nat).Perm (List.range 1) by decide) rfl rfl rfl (q0 := 0) rfl rfl rfl (Nat.le_of_ble_eq_true rfl) ⟨Nat.le_of_ble_eq_true rfl, Nat.le_of_ble_eq_true rfl⟩ ⟨Nat.zero_le _, Nat.zero_le _⟩ dL_areNear_64 (fun r105 wr105 hw105 => ?_)
  obtain ⟨e_r105, rfl⟩ := hw105
  have hp := hp r105 e_r105
  refine r_ws (I' := [sysB cI cL cP fl pl a L h v pl2 hi sa tx u w me fo fd taken st]) rfl ?_
  refine r_aload_n C dL_areNear_67 5 rfl ?_
  refine r_iload C dL_areNear_68 0 rfl ?_
  refine r_iload C dL_areNear_70 2 rfl ?_
  obtain ⟨h106, hp⟩ := hp
  refine r_callV (ci := 8) (wc := [sysB cI cL cP fl pl a L h v pl2 hi sa tx u w me fo fd taken st]) (wr := []) (st := [.int r105, .int r78]) C (m_S_distance l D cI cL cP cJ fl pl a L h v pl2 hi sa tx u w me fo fd taken st 4 2 h106) k_X10_distance t_490 [0] (show ([0] : List Nat).Perm (List.range 1) by decide) rfl rfl rfl (q0 := 0) rfl rfl rfl (Nat.le_of_ble_eq_true rfl) ⟨Nat.le_of_ble_eq_true rfl, Nat.le_of_ble_eq_true rfl⟩ ⟨Nat.zero_le _, Nat.zero_le _⟩ dL_areNear_72 (fun r107 wr107 hw107 => ?_)
  obtain ⟨e_r107, rfl⟩ := hw107
  have hp := hp r107 e_r107
  refine r_ws (I' := [sysB cI cL cP fl pl a L h v pl2 hi sa tx u w me fo fd taken st]) rfl ?_
  refine r_iadd C dL_areNear_75 rfl ?_
  obtain ⟨h108, hp⟩ := hp
  refine r_icmp_le (tgt := 81) C dL_areNear_76 (by decide) (fun _ => ?_) (fun c => absurd h108 c)
  refine r_iinc (v := 5) (L' := [(6, .int 5), (5, .int r78), (4, .int 2), (3, .int x76), (2, .int x73), (0, .ref fl), (1, .int letter)]) C dL_areNear_81 0 rfl (by decide) (by decide) rfl ?_
  refine r_goto (tgt := 52) C dL_areNear_84 (by decide) ?_
  refine r_iload C dL_areNear_52 0 rfl ?_
  refine r_iconst (v := 5) C dL_areNear_54 (by decide) ?_
  refine r_icmp_ge (tgt := 87) C dL_areNear_55 (by decide) (fun _ => ?_) (fun c => absurd c (by decide))
  refine r_iload C dL_areNear_87 2 rfl ?_
  refine r_iload_n C dL_areNear_89 6 rfl ?_
  suffices K : ∀ x111 : Int32, x111 = ((if (2 : Int32) = letter then (x73) else ((if x76 ≤ r78 then (x73) else (2))))) → V p l e (rmm 4 95) s m args below meth c 7 D A 0 0 Q [sysB cI cL cP fl pl a L h v pl2 hi sa tx u w me fo fd taken st] [(6, .int 5), (5, .int r78), (4, .int 2), (3, .int x76), (2, .int x73), (0, .ref fl), (1, .int letter)] 105 [.int x111] by
    refine r_icmp_eq (tgt := 104) C dL_areNear_90 (by decide) (fun c109 => ?_) (fun c109 => ?_)
    · refine r_iload_n C dL_areNear_104 4 rfl ?_
      exact K _ (by simp only [if_pos c109])
    · refine r_iload C dL_areNear_93 1 rfl ?_
      refine r_iload_n C dL_areNear_95 3 rfl ?_
      refine r_icmp_ge (tgt := 104) C dL_areNear_96 (by decide) (fun c110 => ?_) (fun c110 => ?_)
      · refine r_iload_n C dL_areNear_104 4 rfl ?_
        exact K _ (by simp only [if_neg c109, if_pos c110])
      · refine r_iload C dL_areNear_99 2 rfl ?_
        refine r_goto (tgt := 105) C dL_areNear_101 (by decide) ?_
        exact K _ (by simp only [if_neg c109, if_neg c110])
  intro x111 e_x111
  have hp := hp x111 e_x111
  refine r_istore_n (L' := [(2, .int x111), (6, .int 5), (5, .int r78), (4, .int 2), (3, .int x76), (0, .ref fl), (1, .int letter)]) C dL_areNear_105 (by decide) rfl ?_
  refine r_iload C dL_areNear_106 3 rfl ?_
  refine r_iload_n C dL_areNear_108 6 rfl ?_
  suffices K : ∀ x114 : Int32, x114 = ((if (2 : Int32) = letter then (x76) else ((if x76 ≤ r78 then (x76) else (r78))))) → V p l e (rmm 4 95) s m args below meth c 7 D A 0 0 Q [sysB cI cL cP fl pl a L h v pl2 hi sa tx u w me fo fd taken st] [(2, .int x111), (6, .int 5), (5, .int r78), (4, .int 2), (3, .int x76), (0, .ref fl), (1, .int letter)] 124 [.int x114] by
    refine r_icmp_eq (tgt := 123) C dL_areNear_109 (by decide) (fun c112 => ?_) (fun c112 => ?_)
    · refine r_iload_n C dL_areNear_123 4 rfl ?_
      exact K _ (by simp only [if_pos c112])
    · refine r_iload C dL_areNear_112 2 rfl ?_
      refine r_iload_n C dL_areNear_114 4 rfl ?_
      refine r_icmp_ge (tgt := 123) C dL_areNear_115 (by decide) (fun c113 => ?_) (fun c113 => ?_)
      · refine r_iload_n C dL_areNear_123 4 rfl ?_
        exact K _ (by simp only [if_neg c112, if_pos c113])
      · refine r_iload C dL_areNear_118 2 rfl ?_
        refine r_goto (tgt := 124) C dL_areNear_120 (by decide) ?_
        exact K _ (by simp only [if_neg c112, if_neg c113])
  intro x114 e_x114
  have hp := hp x114 e_x114
  refine r_istore_n (L' := [(3, .int x114), (2, .int x111), (6, .int 5), (5, .int r78), (4, .int 2), (0, .ref fl), (1, .int letter)]) C dL_areNear_124 (by decide) rfl ?_
  refine r_iinc (v := 3) (L' := [(4, .int 3), (3, .int x114), (2, .int x111), (6, .int 5), (5, .int r78), (0, .ref fl), (1, .int letter)]) C dL_areNear_125 4 rfl (by decide) (by decide) rfl ?_
  refine r_goto (tgt := 9) C dL_areNear_128 (by decide) ?_
  refine r_iload C dL_areNear_9 0 rfl ?_
  refine r_iconst (v := 5) C dL_areNear_11 (by decide) ?_
  refine r_icmp_ge (tgt := 131) C dL_areNear_12 (by decide) (fun c => absurd c (by decide)) (fun _ => ?_)
  refine r_aload_n C dL_areNear_15 5 rfl ?_
  refine r_iload_n C dL_areNear_16 6 rfl ?_
  refine r_iload C dL_areNear_17 0 rfl ?_
  obtain ⟨h115, hp⟩ := hp
  refine r_callV (ci := 8) (wc := [sysB cI cL cP fl pl a L h v pl2 hi sa tx u w me fo fd taken st]) (wr := []) (st := []) C (m_S_distance l D cI cL cP cJ fl pl a L h v pl2 hi sa tx u w me fo fd taken st letter 3 h115) k_X10_distance t_490 [0] (show ([0] : List Nat).Perm (List.range 1) by decide) rfl rfl rfl (q0 := 0) rfl rfl rfl (Nat.le_of_ble_eq_true rfl) ⟨Nat.le_of_ble_eq_true rfl, Nat.le_of_ble_eq_true rfl⟩ ⟨Nat.zero_le _, Nat.zero_le _⟩ dL_areNear_19 (fun r116 wr116 hw116 => ?_)
  obtain ⟨e_r116, rfl⟩ := hw116
  have hp := hp r116 e_r116
  refine r_ws (I' := [sysB cI cL cP fl pl a L h v pl2 hi sa tx u w me fo fd taken st]) rfl ?_
  refine r_istore (L' := [(5, .int r116), (4, .int 3), (3, .int x114), (2, .int x111), (6, .int 5), (0, .ref fl), (1, .int letter)]) C dL_areNear_22 (by decide) rfl ?_
  refine r_iload C dL_areNear_24 0 rfl ?_
  refine r_aload_n C dL_areNear_26 5 rfl ?_
  refine r_iload C dL_areNear_27 1 rfl ?_
  refine r_iload_n C dL_areNear_29 6 rfl ?_
  obtain ⟨h117, hp⟩ := hp
  refine r_callV (ci := 8) (wc := [sysB cI cL cP fl pl a L h v pl2 hi sa tx u w me fo fd taken st]) (wr := []) (st := [.int r116]) C (m_S_distance l D cI cL cP cJ fl pl a L h v pl2 hi sa tx u w me fo fd taken st 3 letter h117) k_X10_distance t_490 [0] (show ([0] : List Nat).Perm (List.range 1) by decide) rfl rfl rfl (q0 := 0) rfl rfl rfl (Nat.le_of_ble_eq_true rfl) ⟨Nat.le_of_ble_eq_true rfl, Nat.le_of_ble_eq_true rfl⟩ ⟨Nat.zero_le _, Nat.zero_le _⟩ dL_areNear_30 (fun r118 wr118 hw118 => ?_)
  obtain ⟨e_r118, rfl⟩ := hw118
  have hp := hp r118 e_r118
  refine r_ws (I' := [sysB cI cL cP fl pl a L h v pl2 hi sa tx u w me fo fd taken st]) rfl ?_
  obtain ⟨h119, hp⟩ := hp
  refine r_icmp_ne (tgt := 47) C dL_areNear_33 (by decide) (fun c => absurd h119 c) (fun _ => ?_)
  refine r_iload C dL_areNear_36 1 rfl ?_
  refine r_iload_n C dL_areNear_38 6 rfl ?_
  obtain ⟨hps, hp⟩ := hp
  suffices K :  V p l e (rmm 4 95) s m args below meth c 7 D A 0 0 Q [sysB cI cL cP fl pl a L h v pl2 hi sa tx u w me fo fd taken st] [(5, .int r116), (4, .int 3), (3, .int x114), (2, .int x111), (6, .int 5), (0, .ref fl), (1, .int letter)] 49 [] by
    have hp := hps
    refine r_icmp_ne (tgt := 49) C dL_areNear_39 (by decide) (fun c120 => ?_) (fun c120 => ?_)
    · exact K 
    · have hp := hp.1 c120
      refine r_iload C dL_areNear_42 0 rfl ?_
      have h121 := hp
      refine r_if_eq (tgt := 49) C dL_areNear_44 (by decide) (fun _ => ?_) (fun c => absurd h121 c)
      exact K 
  skip
  refine r_iconst (v := 0) C dL_areNear_49 (by decide) ?_
  refine r_istore (L' := [(6, .int 0), (5, .int r116), (4, .int 3), (3, .int x114), (2, .int x111), (0, .ref fl), (1, .int letter)]) C dL_areNear_50 (by decide) rfl ?_
  refine r_iload C dL_areNear_52 0 rfl ?_
  refine r_iconst (v := 5) C dL_areNear_54 (by decide) ?_
  refine r_icmp_ge (tgt := 87) C dL_areNear_55 (by decide) (fun c => absurd c (by decide)) (fun _ => ?_)
  refine r_iload C dL_areNear_58 1 rfl ?_
  refine r_aload_n C dL_areNear_60 5 rfl ?_
  refine r_iload_n C dL_areNear_61 6 rfl ?_
  refine r_iload C dL_areNear_62 0 rfl ?_
  obtain ⟨h122, hp⟩ := hp
  refine r_callV (ci := 8) (wc := [sysB cI cL cP fl pl a L h v pl2 hi sa tx u w me fo fd taken st]) (wr := []) (st := [.int r116]) C (m_S_distance l D cI cL cP cJ fl pl a L h v pl2 hi sa tx u w me fo fd taken st letter 0 h122) k_X10_distance t_490 [0] (show ([0] : List Nat).Perm (List.range 1) by decide) rfl rfl rfl (q0 := 0) rfl rfl rfl (Nat.le_of_ble_eq_true rfl) ⟨Nat.le_of_ble_eq_true rfl, Nat.le_of_ble_eq_true rfl⟩ ⟨Nat.zero_le _, Nat.zero_le _⟩ dL_areNear_64 (fun r123 wr123 hw123 => ?_)
  obtain ⟨e_r123, rfl⟩ := hw123
  have hp := hp r123 e_r123
  refine r_ws (I' := [sysB cI cL cP fl pl a L h v pl2 hi sa tx u w me fo fd taken st]) rfl ?_
  refine r_aload_n C dL_areNear_67 5 rfl ?_
  refine r_iload C dL_areNear_68 0 rfl ?_
  refine r_iload C dL_areNear_70 2 rfl ?_
  obtain ⟨h124, hp⟩ := hp
  refine r_callV (ci := 8) (wc := [sysB cI cL cP fl pl a L h v pl2 hi sa tx u w me fo fd taken st]) (wr := []) (st := [.int r123, .int r116]) C (m_S_distance l D cI cL cP cJ fl pl a L h v pl2 hi sa tx u w me fo fd taken st 0 3 h124) k_X10_distance t_490 [0] (show ([0] : List Nat).Perm (List.range 1) by decide) rfl rfl rfl (q0 := 0) rfl rfl rfl (Nat.le_of_ble_eq_true rfl) ⟨Nat.le_of_ble_eq_true rfl, Nat.le_of_ble_eq_true rfl⟩ ⟨Nat.zero_le _, Nat.zero_le _⟩ dL_areNear_72 (fun r125 wr125 hw125 => ?_)
  obtain ⟨e_r125, rfl⟩ := hw125
  have hp := hp r125 e_r125
  refine r_ws (I' := [sysB cI cL cP fl pl a L h v pl2 hi sa tx u w me fo fd taken st]) rfl ?_
  refine r_iadd C dL_areNear_75 rfl ?_
  obtain ⟨h126, hp⟩ := hp
  refine r_icmp_le (tgt := 81) C dL_areNear_76 (by decide) (fun _ => ?_) (fun c => absurd h126 c)
  refine r_iinc (v := 1) (L' := [(6, .int 1), (5, .int r116), (4, .int 3), (3, .int x114), (2, .int x111), (0, .ref fl), (1, .int letter)]) C dL_areNear_81 0 rfl (by decide) (by decide) rfl ?_
  refine r_goto (tgt := 52) C dL_areNear_84 (by decide) ?_
  refine r_iload C dL_areNear_52 0 rfl ?_
  refine r_iconst (v := 5) C dL_areNear_54 (by decide) ?_
  refine r_icmp_ge (tgt := 87) C dL_areNear_55 (by decide) (fun c => absurd c (by decide)) (fun _ => ?_)
  refine r_iload C dL_areNear_58 1 rfl ?_
  refine r_aload_n C dL_areNear_60 5 rfl ?_
  refine r_iload_n C dL_areNear_61 6 rfl ?_
  refine r_iload C dL_areNear_62 0 rfl ?_
  obtain ⟨h127, hp⟩ := hp
  refine r_callV (ci := 8) (wc := [sysB cI cL cP fl pl a L h v pl2 hi sa tx u w me fo fd taken st]) (wr := []) (st := [.int r116]) C (m_S_distance l D cI cL cP cJ fl pl a L h v pl2 hi sa tx u w me fo fd taken st letter 1 h127) k_X10_distance t_490 [0] (show ([0] : List Nat).Perm (List.range 1) by decide) rfl rfl rfl (q0 := 0) rfl rfl rfl (Nat.le_of_ble_eq_true rfl) ⟨Nat.le_of_ble_eq_true rfl, Nat.le_of_ble_eq_true rfl⟩ ⟨Nat.zero_le _, Nat.zero_le _⟩ dL_areNear_64 (fun r128 wr128 hw128 => ?_)
  obtain ⟨e_r128, rfl⟩ := hw128
  have hp := hp r128 e_r128
  refine r_ws (I' := [sysB cI cL cP fl pl a L h v pl2 hi sa tx u w me fo fd taken st]) rfl ?_
  refine r_aload_n C dL_areNear_67 5 rfl ?_
  refine r_iload C dL_areNear_68 0 rfl ?_
  refine r_iload C dL_areNear_70 2 rfl ?_
  obtain ⟨h129, hp⟩ := hp
  refine r_callV (ci := 8) (wc := [sysB cI cL cP fl pl a L h v pl2 hi sa tx u w me fo fd taken st]) (wr := []) (st := [.int r128, .int r116]) C (m_S_distance l D cI cL cP cJ fl pl a L h v pl2 hi sa tx u w me fo fd taken st 1 3 h129) k_X10_distance t_490 [0] (show ([0] : List Nat).Perm (List.range 1) by decide) rfl rfl rfl (q0 := 0) rfl rfl rfl (Nat.le_of_ble_eq_true rfl) ⟨Nat.le_of_ble_eq_true rfl, Nat.le_of_ble_eq_true rfl⟩ ⟨Nat.zero_le _, Nat.zero_le _⟩ dL_areNear_72 (fun r130 wr130 hw130 => ?_)
  obtain ⟨e_r130, rfl⟩ := hw130
  have hp := hp r130 e_r130
  refine r_ws (I' := [sysB cI cL cP fl pl a L h v pl2 hi sa tx u w me fo fd taken st]) rfl ?_
  refine r_iadd C dL_areNear_75 rfl ?_
  obtain ⟨h131, hp⟩ := hp
  refine r_icmp_le (tgt := 81) C dL_areNear_76 (by decide) (fun _ => ?_) (fun c => absurd h131 c)
  refine r_iinc (v := 2) (L' := [(6, .int 2), (5, .int r116), (4, .int 3), (3, .int x114), (2, .int x111), (0, .ref fl), (1, .int letter)]) C dL_areNear_81 0 rfl (by decide) (by decide) rfl ?_
  refine r_goto (tgt := 52) C dL_areNear_84 (by decide) ?_
  refine r_iload C dL_areNear_52 0 rfl ?_
  refine r_iconst (v := 5) C dL_areNear_54 (by decide) ?_
  refine r_icmp_ge (tgt := 87) C dL_areNear_55 (by decide) (fun c => absurd c (by decide)) (fun _ => ?_)
  refine r_iload C dL_areNear_58 1 rfl ?_
  refine r_aload_n C dL_areNear_60 5 rfl ?_
  refine r_iload_n C dL_areNear_61 6 rfl ?_
  refine r_iload C dL_areNear_62 0 rfl ?_
  obtain ⟨h132, hp⟩ := hp
  refine r_callV (ci := 8) (wc := [sysB cI cL cP fl pl a L h v pl2 hi sa tx u w me fo fd taken st]) (wr := []) (st := [.int r116]) C (m_S_distance l D cI cL cP cJ fl pl a L h v pl2 hi sa tx u w me fo fd taken st letter 2 h132) k_X10_distance t_490 [0] (show ([0] : List Nat).Perm (List.range 1) by decide) rfl rfl rfl (q0 := 0) rfl rfl rfl (Nat.le_of_ble_eq_true rfl) ⟨Nat.le_of_ble_eq_true rfl, Nat.le_of_ble_eq_true rfl⟩ ⟨Nat.zero_le _, Nat.zero_le _⟩ dL_areNear_64 (fun r133 wr133 hw133 => ?_)
  obtain ⟨e_r133, rfl⟩ := hw133
  have hp := hp r133 e_r133
  refine r_ws (I' := [sysB cI cL cP fl pl a L h v pl2 hi sa tx u w me fo fd taken st]) rfl ?_
  refine r_aload_n C dL_areNear_67 5 rfl ?_
  refine r_iload C dL_areNear_68 0 rfl ?_
  refine r_iload C dL_areNear_70 2 rfl ?_
  obtain ⟨h134, hp⟩ := hp
  refine r_callV (ci := 8) (wc := [sysB cI cL cP fl pl a L h v pl2 hi sa tx u w me fo fd taken st]) (wr := []) (st := [.int r133, .int r116]) C (m_S_distance l D cI cL cP cJ fl pl a L h v pl2 hi sa tx u w me fo fd taken st 2 3 h134) k_X10_distance t_490 [0] (show ([0] : List Nat).Perm (List.range 1) by decide) rfl rfl rfl (q0 := 0) rfl rfl rfl (Nat.le_of_ble_eq_true rfl) ⟨Nat.le_of_ble_eq_true rfl, Nat.le_of_ble_eq_true rfl⟩ ⟨Nat.zero_le _, Nat.zero_le _⟩ dL_areNear_72 (fun r135 wr135 hw135 => ?_)
  obtain ⟨e_r135, rfl⟩ := hw135
  have hp := hp r135 e_r135
  refine r_ws (I' := [sysB cI cL cP fl pl a L h v pl2 hi sa tx u w me fo fd taken st]) rfl ?_
  refine r_iadd C dL_areNear_75 rfl ?_
  obtain ⟨h136, hp⟩ := hp
  refine r_icmp_le (tgt := 81) C dL_areNear_76 (by decide) (fun _ => ?_) (fun c => absurd h136 c)
  refine r_iinc (v := 3) (L' := [(6, .int 3), (5, .int r116), (4, .int 3), (3, .int x114), (2, .int x111), (0, .ref fl), (1, .int letter)]) C dL_areNear_81 0 rfl (by decide) (by decide) rfl ?_
  refine r_goto (tgt := 52) C dL_areNear_84 (by decide) ?_
  refine r_iload C dL_areNear_52 0 rfl ?_
  refine r_iconst (v := 5) C dL_areNear_54 (by decide) ?_
  refine r_icmp_ge (tgt := 87) C dL_areNear_55 (by decide) (fun c => absurd c (by decide)) (fun _ => ?_)
  refine r_iload C dL_areNear_58 1 rfl ?_
  refine r_aload_n C dL_areNear_60 5 rfl ?_
  refine r_iload_n C dL_areNear_61 6 rfl ?_
  refine r_iload C dL_areNear_62 0 rfl ?_
  obtain ⟨h137, hp⟩ := hp
  refine r_callV (ci := 8) (wc := [sysB cI cL cP fl pl a L h v pl2 hi sa tx u w me fo fd taken st]) (wr := []) (st := [.int r116]) C (m_S_distance l D cI cL cP cJ fl pl a L h v pl2 hi sa tx u w me fo fd taken st letter 3 h137) k_X10_distance t_490 [0] (show ([0] : List Nat).Perm (List.range 1) by decide) rfl rfl rfl (q0 := 0) rfl rfl rfl (Nat.le_of_ble_eq_true rfl) ⟨Nat.le_of_ble_eq_true rfl, Nat.le_of_ble_eq_true rfl⟩ ⟨Nat.zero_le _, Nat.zero_le _⟩ dL_areNear_64 (fun r138 wr138 hw138 => ?_)
  obtain ⟨e_r138, rfl⟩ := hw138
  have hp := hp r138 e_r138
  refine r_ws (I' := [sysB cI cL cP fl pl a L h v pl2 hi sa tx u w me fo fd taken st]) rfl ?_
  refine r_aload_n C dL_areNear_67 5 rfl ?_
  refine r_iload C dL_areNear_68 0 rfl ?_
  refine r_iload C dL_areNear_70 2 rfl ?_
  obtain ⟨h139, hp⟩ := hp
  refine r_callV (ci := 8) (wc := [sysB cI cL cP fl pl a L h v pl2 hi sa tx u w me fo fd taken st]) (wr := []) (st := [.int r138, .int r116]) C (m_S_distance l D cI cL cP cJ fl pl a L h v pl2 hi sa tx u w me fo fd taken st 3 3 h139) k_X10_distance t_490 [0] (show ([0] : List Nat).Perm (List.range 1) by decide) rfl rfl rfl (q0 := 0) rfl rfl rfl (Nat.le_of_ble_eq_true rfl) ⟨Nat.le_of_ble_eq_true rfl, Nat.le_of_ble_eq_true rfl⟩ ⟨Nat.zero_le _, Nat.zero_le _⟩ dL_areNear_72 (fun r140 wr140 hw140 => ?_)
  obtain ⟨e_r140, rfl⟩ := hw140
  have hp := hp r140 e_r140
  refine r_ws (I' := [sysB cI cL cP fl pl a L h v pl2 hi sa tx u w me fo fd taken st]) rfl ?_
  refine r_iadd C dL_areNear_75 rfl ?_
  obtain ⟨h141, hp⟩ := hp
  refine r_icmp_le (tgt := 81) C dL_areNear_76 (by decide) (fun _ => ?_) (fun c => absurd h141 c)
  refine r_iinc (v := 4) (L' := [(6, .int 4), (5, .int r116), (4, .int 3), (3, .int x114), (2, .int x111), (0, .ref fl), (1, .int letter)]) C dL_areNear_81 0 rfl (by decide) (by decide) rfl ?_
  refine r_goto (tgt := 52) C dL_areNear_84 (by decide) ?_
  refine r_iload C dL_areNear_52 0 rfl ?_
  refine r_iconst (v := 5) C dL_areNear_54 (by decide) ?_
  refine r_icmp_ge (tgt := 87) C dL_areNear_55 (by decide) (fun c => absurd c (by decide)) (fun _ => ?_)
  refine r_iload C dL_areNear_58 1 rfl ?_
  refine r_aload_n C dL_areNear_60 5 rfl ?_
  refine r_iload_n C dL_areNear_61 6 rfl ?_
  refine r_iload C dL_areNear_62 0 rfl ?_
  obtain ⟨h142, hp⟩ := hp
  refine r_callV (ci := 8) (wc := [sysB cI cL cP fl pl a L h v pl2 hi sa tx u w me fo fd taken st]) (wr := []) (st := [.int r116]) C (m_S_distance l D cI cL cP cJ fl pl a L h v pl2 hi sa tx u w me fo fd taken st letter 4 h142) k_X10_distance t_490 [0] (show ([0] : List Nat).Perm (List.range 1) by decide) rfl rfl rfl (q0 := 0) rfl rfl rfl (Nat.le_of_ble_eq_true rfl) ⟨Nat.le_of_ble_eq_true rfl, Nat.le_of_ble_eq_true rfl⟩ ⟨Nat.zero_le _, Nat.zero_le _⟩ dL_areNear_64 (fun r143 wr143 hw143 => ?_)
  obtain ⟨e_r143, rfl⟩ := hw143
  have hp := hp r143 e_r143
  refine r_ws (I' := [sysB cI cL cP fl pl a L h v pl2 hi sa tx u w me fo fd taken st]) rfl ?_
  refine r_aload_n C dL_areNear_67 5 rfl ?_
  refine r_iload C dL_areNear_68 0 rfl ?_
  refine r_iload C dL_areNear_70 2 rfl ?_
  obtain ⟨h144, hp⟩ := hp
  refine r_callV (ci := 8) (wc := [sysB cI cL cP fl pl a L h v pl2 hi sa tx u w me fo fd taken st]) (wr := []) (st := [.int r143, .int r116]) C (m_S_distance l D cI cL cP cJ fl pl a L h v pl2 hi sa tx u w me fo fd taken st 4 3 h144) k_X10_distance t_490 [0] (show ([0] : List Nat).Perm (List.range 1) by decide) rfl rfl rfl (q0 := 0) rfl rfl rfl (Nat.le_of_ble_eq_true rfl) ⟨Nat.le_of_ble_eq_true rfl, Nat.le_of_ble_eq_true rfl⟩ ⟨Nat.zero_le _, Nat.zero_le _⟩ dL_areNear_72 (fun r145 wr145 hw145 => ?_)
  obtain ⟨e_r145, rfl⟩ := hw145
  have hp := hp r145 e_r145
  refine r_ws (I' := [sysB cI cL cP fl pl a L h v pl2 hi sa tx u w me fo fd taken st]) rfl ?_
  refine r_iadd C dL_areNear_75 rfl ?_
  obtain ⟨h146, hp⟩ := hp
  refine r_icmp_le (tgt := 81) C dL_areNear_76 (by decide) (fun _ => ?_) (fun c => absurd h146 c)
  refine r_iinc (v := 5) (L' := [(6, .int 5), (5, .int r116), (4, .int 3), (3, .int x114), (2, .int x111), (0, .ref fl), (1, .int letter)]) C dL_areNear_81 0 rfl (by decide) (by decide) rfl ?_
  refine r_goto (tgt := 52) C dL_areNear_84 (by decide) ?_
  refine r_iload C dL_areNear_52 0 rfl ?_
  refine r_iconst (v := 5) C dL_areNear_54 (by decide) ?_
  refine r_icmp_ge (tgt := 87) C dL_areNear_55 (by decide) (fun _ => ?_) (fun c => absurd c (by decide))
  refine r_iload C dL_areNear_87 2 rfl ?_
  refine r_iload_n C dL_areNear_89 6 rfl ?_
  suffices K : ∀ x149 : Int32, x149 = ((if (3 : Int32) = letter then (x111) else ((if x114 ≤ r116 then (x111) else (3))))) → V p l e (rmm 4 95) s m args below meth c 7 D A 0 0 Q [sysB cI cL cP fl pl a L h v pl2 hi sa tx u w me fo fd taken st] [(6, .int 5), (5, .int r116), (4, .int 3), (3, .int x114), (2, .int x111), (0, .ref fl), (1, .int letter)] 105 [.int x149] by
    refine r_icmp_eq (tgt := 104) C dL_areNear_90 (by decide) (fun c147 => ?_) (fun c147 => ?_)
    · refine r_iload_n C dL_areNear_104 4 rfl ?_
      exact K _ (by simp only [if_pos c147])
    · refine r_iload C dL_areNear_93 1 rfl ?_
      refine r_iload_n C dL_areNear_95 3 rfl ?_
      refine r_icmp_ge (tgt := 104) C dL_areNear_96 (by decide) (fun c148 => ?_) (fun c148 => ?_)
      · refine r_iload_n C dL_areNear_104 4 rfl ?_
        exact K _ (by simp only [if_neg c147, if_pos c148])
      · refine r_iload C dL_areNear_99 2 rfl ?_
        refine r_goto (tgt := 105) C dL_areNear_101 (by decide) ?_
        exact K _ (by simp only [if_neg c147, if_neg c148])
  intro x149 e_x149
  have hp := hp x149 e_x149
  refine r_istore_n (L' := [(2, .int x149), (6, .int 5), (5, .int r116), (4, .int 3), (3, .int x114), (0, .ref fl), (1, .int letter)]) C dL_areNear_105 (by decide) rfl ?_
  refine r_iload C dL_areNear_106 3 rfl ?_
  refine r_iload_n C dL_areNear_108 6 rfl ?_
  suffices K : ∀ x152 : Int32, x152 = ((if (3 : Int32) = letter then (x114) else ((if x114 ≤ r116 then (x114) else (r116))))) → V p l e (rmm 4 95) s m args below meth c 7 D A 0 0 Q [sysB cI cL cP fl pl a L h v pl2 hi sa tx u w me fo fd taken st] [(2, .int x149), (6, .int 5), (5, .int r116), (4, .int 3), (3, .int x114), (0, .ref fl), (1, .int letter)] 124 [.int x152] by
    refine r_icmp_eq (tgt := 123) C dL_areNear_109 (by decide) (fun c150 => ?_) (fun c150 => ?_)
    · refine r_iload_n C dL_areNear_123 4 rfl ?_
      exact K _ (by simp only [if_pos c150])
    · refine r_iload C dL_areNear_112 2 rfl ?_
      refine r_iload_n C dL_areNear_114 4 rfl ?_
      refine r_icmp_ge (tgt := 123) C dL_areNear_115 (by decide) (fun c151 => ?_) (fun c151 => ?_)
      · refine r_iload_n C dL_areNear_123 4 rfl ?_
        exact K _ (by simp only [if_neg c150, if_pos c151])
      · refine r_iload C dL_areNear_118 2 rfl ?_
        refine r_goto (tgt := 124) C dL_areNear_120 (by decide) ?_
        exact K _ (by simp only [if_neg c150, if_neg c151])
  intro x152 e_x152
  have hp := hp x152 e_x152
  refine r_istore_n (L' := [(3, .int x152), (2, .int x149), (6, .int 5), (5, .int r116), (4, .int 3), (0, .ref fl), (1, .int letter)]) C dL_areNear_124 (by decide) rfl ?_
  refine r_iinc (v := 4) (L' := [(4, .int 4), (3, .int x152), (2, .int x149), (6, .int 5), (5, .int r116), (0, .ref fl), (1, .int letter)]) C dL_areNear_125 4 rfl (by decide) (by decide) rfl ?_
  refine r_goto (tgt := 9) C dL_areNear_128 (by decide) ?_
  refine r_iload C dL_areNear_9 0 rfl ?_
  refine r_iconst (v := 5) C dL_areNear_11 (by decide) ?_
  refine r_icmp_ge (tgt := 131) C dL_areNear_12 (by decide) (fun c => absurd c (by decide)) (fun _ => ?_)
  refine r_aload_n C dL_areNear_15 5 rfl ?_
  refine r_iload_n C dL_areNear_16 6 rfl ?_
  refine r_iload C dL_areNear_17 0 rfl ?_
  obtain ⟨h153, hp⟩ := hp
  refine r_callV (ci := 8) (wc := [sysB cI cL cP fl pl a L h v pl2 hi sa tx u w me fo fd taken st]) (wr := []) (st := []) C (m_S_distance l D cI cL cP cJ fl pl a L h v pl2 hi sa tx u w me fo fd taken st letter 4 h153) k_X10_distance t_490 [0] (show ([0] : List Nat).Perm (List.range 1) by decide) rfl rfl rfl (q0 := 0) rfl rfl rfl (Nat.le_of_ble_eq_true rfl) ⟨Nat.le_of_ble_eq_true rfl, Nat.le_of_ble_eq_true rfl⟩ ⟨Nat.zero_le _, Nat.zero_le _⟩ dL_areNear_19 (fun r154 wr154 hw154 => ?_)
  obtain ⟨e_r154, rfl⟩ := hw154
  have hp := hp r154 e_r154
  refine r_ws (I' := [sysB cI cL cP fl pl a L h v pl2 hi sa tx u w me fo fd taken st]) rfl ?_
  refine r_istore (L' := [(5, .int r154), (4, .int 4), (3, .int x152), (2, .int x149), (6, .int 5), (0, .ref fl), (1, .int letter)]) C dL_areNear_22 (by decide) rfl ?_
  refine r_iload C dL_areNear_24 0 rfl ?_
  refine r_aload_n C dL_areNear_26 5 rfl ?_
  refine r_iload C dL_areNear_27 1 rfl ?_
  refine r_iload_n C dL_areNear_29 6 rfl ?_
  obtain ⟨h155, hp⟩ := hp
  refine r_callV (ci := 8) (wc := [sysB cI cL cP fl pl a L h v pl2 hi sa tx u w me fo fd taken st]) (wr := []) (st := [.int r154]) C (m_S_distance l D cI cL cP cJ fl pl a L h v pl2 hi sa tx u w me fo fd taken st 4 letter h155) k_X10_distance t_490 [0] (show ([0] : List Nat).Perm (List.range 1) by decide) rfl rfl rfl (q0 := 0) rfl rfl rfl (Nat.le_of_ble_eq_true rfl) ⟨Nat.le_of_ble_eq_true rfl, Nat.le_of_ble_eq_true rfl⟩ ⟨Nat.zero_le _, Nat.zero_le _⟩ dL_areNear_30 (fun r156 wr156 hw156 => ?_)
  obtain ⟨e_r156, rfl⟩ := hw156
  have hp := hp r156 e_r156
  refine r_ws (I' := [sysB cI cL cP fl pl a L h v pl2 hi sa tx u w me fo fd taken st]) rfl ?_
  obtain ⟨h157, hp⟩ := hp
  refine r_icmp_ne (tgt := 47) C dL_areNear_33 (by decide) (fun c => absurd h157 c) (fun _ => ?_)
  refine r_iload C dL_areNear_36 1 rfl ?_
  refine r_iload_n C dL_areNear_38 6 rfl ?_
  obtain ⟨hps, hp⟩ := hp
  suffices K :  V p l e (rmm 4 95) s m args below meth c 7 D A 0 0 Q [sysB cI cL cP fl pl a L h v pl2 hi sa tx u w me fo fd taken st] [(5, .int r154), (4, .int 4), (3, .int x152), (2, .int x149), (6, .int 5), (0, .ref fl), (1, .int letter)] 49 [] by
    have hp := hps
    refine r_icmp_ne (tgt := 49) C dL_areNear_39 (by decide) (fun c158 => ?_) (fun c158 => ?_)
    · exact K 
    · have hp := hp.1 c158
      refine r_iload C dL_areNear_42 0 rfl ?_
      have h159 := hp
      refine r_if_eq (tgt := 49) C dL_areNear_44 (by decide) (fun _ => ?_) (fun c => absurd h159 c)
      exact K 
  skip
  refine r_iconst (v := 0) C dL_areNear_49 (by decide) ?_
  refine r_istore (L' := [(6, .int 0), (5, .int r154), (4, .int 4), (3, .int x152), (2, .int x149), (0, .ref fl), (1, .int letter)]) C dL_areNear_50 (by decide) rfl ?_
  refine r_iload C dL_areNear_52 0 rfl ?_
  refine r_iconst (v := 5) C dL_areNear_54 (by decide) ?_
  refine r_icmp_ge (tgt := 87) C dL_areNear_55 (by decide) (fun c => absurd c (by decide)) (fun _ => ?_)
  refine r_iload C dL_areNear_58 1 rfl ?_
  refine r_aload_n C dL_areNear_60 5 rfl ?_
  refine r_iload_n C dL_areNear_61 6 rfl ?_
  refine r_iload C dL_areNear_62 0 rfl ?_
  obtain ⟨h160, hp⟩ := hp
  refine r_callV (ci := 8) (wc := [sysB cI cL cP fl pl a L h v pl2 hi sa tx u w me fo fd taken st]) (wr := []) (st := [.int r154]) C (m_S_distance l D cI cL cP cJ fl pl a L h v pl2 hi sa tx u w me fo fd taken st letter 0 h160) k_X10_distance t_490 [0] (show ([0] : List Nat).Perm (List.range 1) by decide) rfl rfl rfl (q0 := 0) rfl rfl rfl (Nat.le_of_ble_eq_true rfl) ⟨Nat.le_of_ble_eq_true rfl, Nat.le_of_ble_eq_true rfl⟩ ⟨Nat.zero_le _, Nat.zero_le _⟩ dL_areNear_64 (fun r161 wr161 hw161 => ?_)
  obtain ⟨e_r161, rfl⟩ := hw161
  have hp := hp r161 e_r161
  refine r_ws (I' := [sysB cI cL cP fl pl a L h v pl2 hi sa tx u w me fo fd taken st]) rfl ?_
  refine r_aload_n C dL_areNear_67 5 rfl ?_
  refine r_iload C dL_areNear_68 0 rfl ?_
  refine r_iload C dL_areNear_70 2 rfl ?_
  obtain ⟨h162, hp⟩ := hp
  refine r_callV (ci := 8) (wc := [sysB cI cL cP fl pl a L h v pl2 hi sa tx u w me fo fd taken st]) (wr := []) (st := [.int r161, .int r154]) C (m_S_distance l D cI cL cP cJ fl pl a L h v pl2 hi sa tx u w me fo fd taken st 0 4 h162) k_X10_distance t_490 [0] (show ([0] : List Nat).Perm (List.range 1) by decide) rfl rfl rfl (q0 := 0) rfl rfl rfl (Nat.le_of_ble_eq_true rfl) ⟨Nat.le_of_ble_eq_true rfl, Nat.le_of_ble_eq_true rfl⟩ ⟨Nat.zero_le _, Nat.zero_le _⟩ dL_areNear_72 (fun r163 wr163 hw163 => ?_)
  obtain ⟨e_r163, rfl⟩ := hw163
  have hp := hp r163 e_r163
  refine r_ws (I' := [sysB cI cL cP fl pl a L h v pl2 hi sa tx u w me fo fd taken st]) rfl ?_
  refine r_iadd C dL_areNear_75 rfl ?_
  obtain ⟨h164, hp⟩ := hp
  refine r_icmp_le (tgt := 81) C dL_areNear_76 (by decide) (fun _ => ?_) (fun c => absurd h164 c)
  refine r_iinc (v := 1) (L' := [(6, .int 1), (5, .int r154), (4, .int 4), (3, .int x152), (2, .int x149), (0, .ref fl), (1, .int letter)]) C dL_areNear_81 0 rfl (by decide) (by decide) rfl ?_
  refine r_goto (tgt := 52) C dL_areNear_84 (by decide) ?_
  refine r_iload C dL_areNear_52 0 rfl ?_
  refine r_iconst (v := 5) C dL_areNear_54 (by decide) ?_
  refine r_icmp_ge (tgt := 87) C dL_areNear_55 (by decide) (fun c => absurd c (by decide)) (fun _ => ?_)
  refine r_iload C dL_areNear_58 1 rfl ?_
  refine r_aload_n C dL_areNear_60 5 rfl ?_
  refine r_iload_n C dL_areNear_61 6 rfl ?_
  refine r_iload C dL_areNear_62 0 rfl ?_
  obtain ⟨h165, hp⟩ := hp
  refine r_callV (ci := 8) (wc := [sysB cI cL cP fl pl a L h v pl2 hi sa tx u w me fo fd taken st]) (wr := []) (st := [.int r154]) C (m_S_distance l D cI cL cP cJ fl pl a L h v pl2 hi sa tx u w me fo fd taken st letter 1 h165) k_X10_distance t_490 [0] (show ([0] : List Nat).Perm (List.range 1) by decide) rfl rfl rfl (q0 := 0) rfl rfl rfl (Nat.le_of_ble_eq_true rfl) ⟨Nat.le_of_ble_eq_true rfl, Nat.le_of_ble_eq_true rfl⟩ ⟨Nat.zero_le _, Nat.zero_le _⟩ dL_areNear_64 (fun r166 wr166 hw166 => ?_)
  obtain ⟨e_r166, rfl⟩ := hw166
  have hp := hp r166 e_r166
  refine r_ws (I' := [sysB cI cL cP fl pl a L h v pl2 hi sa tx u w me fo fd taken st]) rfl ?_
  refine r_aload_n C dL_areNear_67 5 rfl ?_
  refine r_iload C dL_areNear_68 0 rfl ?_
  refine r_iload C dL_areNear_70 2 rfl ?_
  obtain ⟨h167, hp⟩ := hp
  refine r_callV (ci := 8) (wc := [sysB cI cL cP fl pl a L h v pl2 hi sa tx u w me fo fd taken st]) (wr := []) (st := [.int r166, .int r154]) C (m_S_distance l D cI cL cP cJ fl pl a L h v pl2 hi sa tx u w me fo fd taken st 1 4 h167) k_X10_distance t_490 [0] (show ([0] : List Nat).Perm (List.range 1) by decide) rfl rfl rfl (q0 := 0) rfl rfl rfl (Nat.le_of_ble_eq_true rfl) ⟨Nat.le_of_ble_eq_true rfl, Nat.le_of_ble_eq_true rfl⟩ ⟨Nat.zero_le _, Nat.zero_le _⟩ dL_areNear_72 (fun r168 wr168 hw168 => ?_)
  obtain ⟨e_r168, rfl⟩ := hw168
  have hp := hp r168 e_r168
  refine r_ws (I' := [sysB cI cL cP fl pl a L h v pl2 hi sa tx u w me fo fd taken st]) rfl ?_
  refine r_iadd C dL_areNear_75 rfl ?_
  obtain ⟨h169, hp⟩ := hp
  refine r_icmp_le (tgt := 81) C dL_areNear_76 (by decide) (fun _ => ?_) (fun c => absurd h169 c)
  refine r_iinc (v := 2) (L' := [(6, .int 2), (5, .int r154), (4, .int 4), (3, .int x152), (2, .int x149), (0, .ref fl), (1, .int letter)]) C dL_areNear_81 0 rfl (by decide) (by decide) rfl ?_
  refine r_goto (tgt := 52) C dL_areNear_84 (by decide) ?_
  refine r_iload C dL_areNear_52 0 rfl ?_
  refine r_iconst (v := 5) C dL_areNear_54 (by decide) ?_
  refine r_icmp_ge (tgt := 87) C dL_areNear_55 (by decide) (fun c => absurd c (by decide)) (fun _ => ?_)
  refine r_iload C dL_areNear_58 1 rfl ?_
  refine r_aload_n C dL_areNear_60 5 rfl ?_
  refine r_iload_n C dL_areNear_61 6 rfl ?_
  refine r_iload C dL_areNear_62 0 rfl ?_
  obtain ⟨h170, hp⟩ := hp
  refine r_callV (ci := 8) (wc := [sysB cI cL cP fl pl a L h v pl2 hi sa tx u w me fo fd taken st]) (wr := []) (st := [.int r154]) C (m_S_distance l D cI cL cP cJ fl pl a L h v pl2 hi sa tx u w me fo fd taken st letter 2 h170) k_X10_distance t_490 [0] (show ([0] : List Nat).Perm (List.range 1) by decide) rfl rfl rfl (q0 := 0) rfl rfl rfl (Nat.le_of_ble_eq_true rfl) ⟨Nat.le_of_ble_eq_true rfl, Nat.le_of_ble_eq_true rfl⟩ ⟨Nat.zero_le _, Nat.zero_le _⟩ dL_areNear_64 (fun r171 wr171 hw171 => ?_)
  obtain ⟨e_r171, rfl⟩ := hw171
  have hp := hp r171 e_r171
  refine r_ws (I' := [sysB cI cL cP fl pl a L h v pl2 hi sa tx u w me fo fd taken st]) rfl ?_
  refine r_aload_n C dL_areNear_67 5 rfl ?_
  refine r_iload C dL_areNear_68 0 rfl ?_
  refine r_iload C dL_areNear_70 2 rfl ?_
  obtain ⟨h172, hp⟩ := hp
  refine r_callV (ci := 8) (wc := [sysB cI cL cP fl pl a L h v pl2 hi sa tx u w me fo fd taken st]) (wr := []) (st := [.int r171, .int r154]) C (m_S_distance l D cI cL cP cJ fl pl a L h v pl2 hi sa tx u w me fo fd taken st 2 4 h172) k_X10_distance t_490 [0] (show ([0] : List Nat).Perm (List.range 1) by decide) rfl rfl rfl (q0 := 0) rfl rfl rfl (Nat.le_of_ble_eq_true rfl) ⟨Nat.le_of_ble_eq_true rfl, Nat.le_of_ble_eq_true rfl⟩ ⟨Nat.zero_le _, Nat.zero_le _⟩ dL_areNear_72 (fun r173 wr173 hw173 => ?_)
  obtain ⟨e_r173, rfl⟩ := hw173
  have hp := hp r173 e_r173
  refine r_ws (I' := [sysB cI cL cP fl pl a L h v pl2 hi sa tx u w me fo fd taken st]) rfl ?_
  refine r_iadd C dL_areNear_75 rfl ?_
  obtain ⟨h174, hp⟩ := hp
  refine r_icmp_le (tgt := 81) C dL_areNear_76 (by decide) (fun _ => ?_) (fun c => absurd h174 c)
  refine r_iinc (v := 3) (L' := [(6, .int 3), (5, .int r154), (4, .int 4), (3, .int x152), (2, .int x149), (0, .ref fl), (1, .int letter)]) C dL_areNear_81 0 rfl (by decide) (by decide) rfl ?_
  refine r_goto (tgt := 52) C dL_areNear_84 (by decide) ?_
  refine r_iload C dL_areNear_52 0 rfl ?_
  refine r_iconst (v := 5) C dL_areNear_54 (by decide) ?_
  refine r_icmp_ge (tgt := 87) C dL_areNear_55 (by decide) (fun c => absurd c (by decide)) (fun _ => ?_)
  refine r_iload C dL_areNear_58 1 rfl ?_
  refine r_aload_n C dL_areNear_60 5 rfl ?_
  refine r_iload_n C dL_areNear_61 6 rfl ?_
  refine r_iload C dL_areNear_62 0 rfl ?_
  obtain ⟨h175, hp⟩ := hp
  refine r_callV (ci := 8) (wc := [sysB cI cL cP fl pl a L h v pl2 hi sa tx u w me fo fd taken st]) (wr := []) (st := [.int r154]) C (m_S_distance l D cI cL cP cJ fl pl a L h v pl2 hi sa tx u w me fo fd taken st letter 3 h175) k_X10_distance t_490 [0] (show ([0] : List Nat).Perm (List.range 1) by decide) rfl rfl rfl (q0 := 0) rfl rfl rfl (Nat.le_of_ble_eq_true rfl) ⟨Nat.le_of_ble_eq_true rfl, Nat.le_of_ble_eq_true rfl⟩ ⟨Nat.zero_le _, Nat.zero_le _⟩ dL_areNear_64 (fun r176 wr176 hw176 => ?_)
  obtain ⟨e_r176, rfl⟩ := hw176
  have hp := hp r176 e_r176
  refine r_ws (I' := [sysB cI cL cP fl pl a L h v pl2 hi sa tx u w me fo fd taken st]) rfl ?_
  refine r_aload_n C dL_areNear_67 5 rfl ?_
  refine r_iload C dL_areNear_68 0 rfl ?_
  refine r_iload C dL_areNear_70 2 rfl ?_
  obtain ⟨h177, hp⟩ := hp
  refine r_callV (ci := 8) (wc := [sysB cI cL cP fl pl a L h v pl2 hi sa tx u w me fo fd taken st]) (wr := []) (st := [.int r176, .int r154]) C (m_S_distance l D cI cL cP cJ fl pl a L h v pl2 hi sa tx u w me fo fd taken st 3 4 h177) k_X10_distance t_490 [0] (show ([0] : List Nat).Perm (List.range 1) by decide) rfl rfl rfl (q0 := 0) rfl rfl rfl (Nat.le_of_ble_eq_true rfl) ⟨Nat.le_of_ble_eq_true rfl, Nat.le_of_ble_eq_true rfl⟩ ⟨Nat.zero_le _, Nat.zero_le _⟩ dL_areNear_72 (fun r178 wr178 hw178 => ?_)
  obtain ⟨e_r178, rfl⟩ := hw178
  have hp := hp r178 e_r178
  refine r_ws (I' := [sysB cI cL cP fl pl a L h v pl2 hi sa tx u w me fo fd taken st]) rfl ?_
  refine r_iadd C dL_areNear_75 rfl ?_
  obtain ⟨h179, hp⟩ := hp
  refine r_icmp_le (tgt := 81) C dL_areNear_76 (by decide) (fun _ => ?_) (fun c => absurd h179 c)
  refine r_iinc (v := 4) (L' := [(6, .int 4), (5, .int r154), (4, .int 4), (3, .int x152), (2, .int x149), (0, .ref fl), (1, .int letter)]) C dL_areNear_81 0 rfl (by decide) (by decide) rfl ?_
  refine r_goto (tgt := 52) C dL_areNear_84 (by decide) ?_
  refine r_iload C dL_areNear_52 0 rfl ?_
  refine r_iconst (v := 5) C dL_areNear_54 (by decide) ?_
  refine r_icmp_ge (tgt := 87) C dL_areNear_55 (by decide) (fun c => absurd c (by decide)) (fun _ => ?_)
  refine r_iload C dL_areNear_58 1 rfl ?_
  refine r_aload_n C dL_areNear_60 5 rfl ?_
  refine r_iload_n C dL_areNear_61 6 rfl ?_
  refine r_iload C dL_areNear_62 0 rfl ?_
  obtain ⟨h180, hp⟩ := hp
  refine r_callV (ci := 8) (wc := [sysB cI cL cP fl pl a L h v pl2 hi sa tx u w me fo fd taken st]) (wr := []) (st := [.int r154]) C (m_S_distance l D cI cL cP cJ fl pl a L h v pl2 hi sa tx u w me fo fd taken st letter 4 h180) k_X10_distance t_490 [0] (show ([0] : List Nat).Perm (List.range 1) by decide) rfl rfl rfl (q0 := 0) rfl rfl rfl (Nat.le_of_ble_eq_true rfl) ⟨Nat.le_of_ble_eq_true rfl, Nat.le_of_ble_eq_true rfl⟩ ⟨Nat.zero_le _, Nat.zero_le _⟩ dL_areNear_64 (fun r181 wr181 hw181 => ?_)
  obtain ⟨e_r181, rfl⟩ := hw181
  have hp := hp r181 e_r181
  refine r_ws (I' := [sysB cI cL cP fl pl a L h v pl2 hi sa tx u w me fo fd taken st]) rfl ?_
  refine r_aload_n C dL_areNear_67 5 rfl ?_
  refine r_iload C dL_areNear_68 0 rfl ?_
  refine r_iload C dL_areNear_70 2 rfl ?_
  obtain ⟨h182, hp⟩ := hp
  refine r_callV (ci := 8) (wc := [sysB cI cL cP fl pl a L h v pl2 hi sa tx u w me fo fd taken st]) (wr := []) (st := [.int r181, .int r154]) C (m_S_distance l D cI cL cP cJ fl pl a L h v pl2 hi sa tx u w me fo fd taken st 4 4 h182) k_X10_distance t_490 [0] (show ([0] : List Nat).Perm (List.range 1) by decide) rfl rfl rfl (q0 := 0) rfl rfl rfl (Nat.le_of_ble_eq_true rfl) ⟨Nat.le_of_ble_eq_true rfl, Nat.le_of_ble_eq_true rfl⟩ ⟨Nat.zero_le _, Nat.zero_le _⟩ dL_areNear_72 (fun r183 wr183 hw183 => ?_)
  obtain ⟨e_r183, rfl⟩ := hw183
  have hp := hp r183 e_r183
  refine r_ws (I' := [sysB cI cL cP fl pl a L h v pl2 hi sa tx u w me fo fd taken st]) rfl ?_
  refine r_iadd C dL_areNear_75 rfl ?_
  obtain ⟨h184, hp⟩ := hp
  refine r_icmp_le (tgt := 81) C dL_areNear_76 (by decide) (fun _ => ?_) (fun c => absurd h184 c)
  refine r_iinc (v := 5) (L' := [(6, .int 5), (5, .int r154), (4, .int 4), (3, .int x152), (2, .int x149), (0, .ref fl), (1, .int letter)]) C dL_areNear_81 0 rfl (by decide) (by decide) rfl ?_
  refine r_goto (tgt := 52) C dL_areNear_84 (by decide) ?_
  refine r_iload C dL_areNear_52 0 rfl ?_
  refine r_iconst (v := 5) C dL_areNear_54 (by decide) ?_
  refine r_icmp_ge (tgt := 87) C dL_areNear_55 (by decide) (fun _ => ?_) (fun c => absurd c (by decide))
  refine r_iload C dL_areNear_87 2 rfl ?_
  refine r_iload_n C dL_areNear_89 6 rfl ?_
  suffices K : ∀ x187 : Int32, x187 = ((if (4 : Int32) = letter then (x149) else ((if x152 ≤ r154 then (x149) else (4))))) → V p l e (rmm 4 95) s m args below meth c 7 D A 0 0 Q [sysB cI cL cP fl pl a L h v pl2 hi sa tx u w me fo fd taken st] [(6, .int 5), (5, .int r154), (4, .int 4), (3, .int x152), (2, .int x149), (0, .ref fl), (1, .int letter)] 105 [.int x187] by
    refine r_icmp_eq (tgt := 104) C dL_areNear_90 (by decide) (fun c185 => ?_) (fun c185 => ?_)
    · refine r_iload_n C dL_areNear_104 4 rfl ?_
      exact K _ (by simp only [if_pos c185])
    · refine r_iload C dL_areNear_93 1 rfl ?_
      refine r_iload_n C dL_areNear_95 3 rfl ?_
      refine r_icmp_ge (tgt := 104) C dL_areNear_96 (by decide) (fun c186 => ?_) (fun c186 => ?_)
      · refine r_iload_n C dL_areNear_104 4 rfl ?_
        exact K _ (by simp only [if_neg c185, if_pos c186])
      · refine r_iload C dL_areNear_99 2 rfl ?_
        refine r_goto (tgt := 105) C dL_areNear_101 (by decide) ?_
        exact K _ (by simp only [if_neg c185, if_neg c186])
  intro x187 e_x187
  have hp := hp x187 e_x187
  refine r_istore_n (L' := [(2, .int x187), (6, .int 5), (5, .int r154), (4, .int 4), (3, .int x152), (0, .ref fl), (1, .int letter)]) C dL_areNear_105 (by decide) rfl ?_
  refine r_iload C dL_areNear_106 3 rfl ?_
  refine r_iload_n C dL_areNear_108 6 rfl ?_
  suffices K : ∀ x190 : Int32, x190 = ((if (4 : Int32) = letter then (x152) else ((if x152 ≤ r154 then (x152) else (r154))))) → V p l e (rmm 4 95) s m args below meth c 7 D A 0 0 Q [sysB cI cL cP fl pl a L h v pl2 hi sa tx u w me fo fd taken st] [(2, .int x187), (6, .int 5), (5, .int r154), (4, .int 4), (3, .int x152), (0, .ref fl), (1, .int letter)] 124 [.int x190] by
    refine r_icmp_eq (tgt := 123) C dL_areNear_109 (by decide) (fun c188 => ?_) (fun c188 => ?_)
    · refine r_iload_n C dL_areNear_123 4 rfl ?_
      exact K _ (by simp only [if_pos c188])
    · refine r_iload C dL_areNear_112 2 rfl ?_
      refine r_iload_n C dL_areNear_114 4 rfl ?_
      refine r_icmp_ge (tgt := 123) C dL_areNear_115 (by decide) (fun c189 => ?_) (fun c189 => ?_)
      · refine r_iload_n C dL_areNear_123 4 rfl ?_
        exact K _ (by simp only [if_neg c188, if_pos c189])
      · refine r_iload C dL_areNear_118 2 rfl ?_
        refine r_goto (tgt := 124) C dL_areNear_120 (by decide) ?_
        exact K _ (by simp only [if_neg c188, if_neg c189])
  intro x190 e_x190
  have hp := hp x190 e_x190
  refine r_istore_n (L' := [(3, .int x190), (2, .int x187), (6, .int 5), (5, .int r154), (4, .int 4), (0, .ref fl), (1, .int letter)]) C dL_areNear_124 (by decide) rfl ?_
  refine r_iinc (v := 5) (L' := [(4, .int 5), (3, .int x190), (2, .int x187), (6, .int 5), (5, .int r154), (0, .ref fl), (1, .int letter)]) C dL_areNear_125 4 rfl (by decide) (by decide) rfl ?_
  refine r_goto (tgt := 9) C dL_areNear_128 (by decide) ?_
  refine r_iload C dL_areNear_9 0 rfl ?_
  refine r_iconst (v := 5) C dL_areNear_11 (by decide) ?_
  refine r_icmp_ge (tgt := 131) C dL_areNear_12 (by decide) (fun _ => ?_) (fun c => absurd c (by decide))
  refine r_aload_n C dL_areNear_131 5 rfl ?_
  refine r_iload_n C dL_areNear_132 6 rfl ?_
  obtain ⟨h191, hp⟩ := hp
  refine r_callV (ci := 8) (wc := [sysB cI cL cP fl pl a L h v pl2 hi sa tx u w me fo fd taken st]) (wr := []) (st := []) C (m_S_nearest l D cI cL cP cJ fl pl a L h v pl2 hi sa tx u w me fo fd taken st letter h191) k_X10_nearest t_640 [0] (show ([0] : List Nat).Perm (List.range 1) by decide) rfl rfl rfl (q0 := 0) rfl rfl rfl (Nat.le_of_ble_eq_true rfl) ⟨Nat.le_of_ble_eq_true rfl, Nat.le_of_ble_eq_true rfl⟩ ⟨Nat.zero_le _, Nat.zero_le _⟩ dL_areNear_133 (fun r192 wr192 hw192 => ?_)
  obtain ⟨e_r192, rfl⟩ := hw192
  have hp := hp r192 e_r192
  refine r_ws (I' := [sysB cI cL cP fl pl a L h v pl2 hi sa tx u w me fo fd taken st]) rfl ?_
  refine r_iload_n C dL_areNear_136 2 rfl ?_
  have h193 := hp
  refine r_icmp_ne (tgt := 144) C dL_areNear_137 (by decide) (fun c => absurd h193 c) (fun _ => ?_)
  refine r_iconst (v := 1) C dL_areNear_140 (by decide) ?_
  refine r_goto (tgt := 145) C dL_areNear_141 (by decide) ?_
  exact r_zret (r := 1) C hA hr hlo (rfl) dL_areNear_145 [sysB cI cL cP fl pl a L h v pl2 hi sa tx u w me fo fd taken st] ⟨rfl, rfl⟩ rfl hQ

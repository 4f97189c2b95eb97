theorem k_L_areProducts : kS yL_areProducts cL_areProducts 11 (some .boolean) 4 := ⟨t_635, t_6, t_636, by decide +kernel, by decide +kernel, by decide +kernel⟩
def F_L_areProducts_L162 (r22 : Int32) (x23 : Int32) (free : Int32) : Nat → St → Int32 → Int32 → St × Int32 × Int32
  | 0, k34, y35, y36 => (k34, y35, y36)
  | nn + 1, k34, y35, y36 => (if (r22 - 1) ≤ y36 then ((k34, y35, y36)) else ((if 9 ≤ y36 then ((k34, y35, y36)) else (let r41 : Int32 := (F_S_product k34 x23 x23 free).1; let x42 : St := (F_S_product k34 x23 x23 free).2; let x43 : Int32 := y36 + 1; F_L_areProducts_L162 r22 x23 free nn x42 r41 x43))))
def P_L_areProducts_L162 (r22 : Int32) (x23 : Int32) (free : Int32) : Nat → St → Int32 → Int32 → Prop
  | 0, _, _, _ => False
  | nn + 1, k34, y35, y36 => (((r22 - 1) ≤ y36 → True) ∧ (¬ (r22 - 1) ≤ y36 → ((9 ≤ y36 → True) ∧ (¬ 9 ≤ y36 → ((¬ y35 ≤ 0) ∧ ((P_S_product k34 x23 x23 free) ∧ (∀ r41 : Int32, r41 = (F_S_product k34 x23 x23 free).1 → (∀ x42 : St, x42 = (F_S_product k34 x23 x23 free).2 → (∀ x43 : Int32, x43 = y36 + 1 → (P_L_areProducts_L162 r22 x23 free nn x42 r41 x43))))))))))
set_option maxRecDepth 20000 in
def F_L_areProducts (st : St) (fst : Int32) (snd : Int32) (free : Int32) : St := let x3 : St := (F_S_product st free fst snd).2; let x15 : St := (F_S_opposite x3 free free).2; let x19 : St := (F_S_opposite x15 free free).2; let r22 : Int32 := F_S_letter x19 free 3; let x23 : Int32 := (free + 1) - (free + 1) / 5 * 5; let r25 : Int32 := (F_S_product x19 x23 free free).1; let x26 : St := (F_S_product x19 x23 free free).2; let f44 : St := (F_L_areProducts_L162 r22 x23 free 10 x26 r25 1).1; f44
set_option maxRecDepth 20000 in
def P_L_areProducts (st : St) (fst : Int32) (snd : Int32) (free : Int32) : Prop := ((P_S_product st free fst snd) ∧ (∀ r2 : Int32, r2 = (F_S_product st free fst snd).1 → (∀ x3 : St, x3 = (F_S_product st free fst snd).2 → ((P_S_letter x3 free 0) ∧ (∀ r5 : Int32, r5 = F_S_letter x3 free 0 → ((r2 = r5) ∧ ((P_S_letter x3 free 2) ∧ (∀ r8 : Int32, r8 = F_S_letter x3 free 2 → ((r8 = r2) ∧ ((P_S_letter x3 free 7) ∧ (∀ r11 : Int32, r11 = F_S_letter x3 free 7 → ((r11 = 0) ∧ ((P_S_opposite x3 free free) ∧ (∀ r14 : Int32, r14 = (F_S_opposite x3 free free).1 → (∀ x15 : St, x15 = (F_S_opposite x3 free free).2 → ((r14 = r2) ∧ ((P_S_opposite x15 free free) ∧ (∀ r18 : Int32, r18 = (F_S_opposite x15 free free).1 → (∀ x19 : St, x19 = (F_S_opposite x15 free free).2 → ((r18 = r2) ∧ ((P_S_letter x19 free 3) ∧ (∀ r22 : Int32, r22 = F_S_letter x19 free 3 → (∀ x23 : Int32, x23 = (free + 1) - (free + 1) / 5 * 5 → ((P_S_product x19 x23 free free) ∧ (∀ r25 : Int32, r25 = (F_S_product x19 x23 free free).1 → (∀ x26 : St, x26 = (F_S_product x19 x23 free free).2 → (∀ x28 : Int32, x28 = ((if r22 = 1 then (1) else (0))) → (∀ x30 : Int32, x30 = ((if r2 = 0 then (1) else (0))) → ((x28 = x30) ∧ ((¬ r22 ≤ 0) ∧ ((¬ 8 < r22) ∧ ((P_L_areProducts_L162 r22 x23 free 10 x26 r25 1) ∧ (∀ f44 : St, f44 = (F_L_areProducts_L162 r22 x23 free 10 x26 r25 1).1 → (∀ z45 : Int32, z45 = (F_L_areProducts_L162 r22 x23 free 10 x26 r25 1).2.1 → (∀ z46 : Int32, z46 = (F_L_areProducts_L162 r22 x23 free 10 x26 r25 1).2.2 → ((r22 = 1 → True) ∧ (¬ r22 = 1 → (z45 = 0))))))))))))))))))))))))))))))))))))))
set_option maxRecDepth 20000 in
set_option maxHeartbeats 8000000 in
theorem m_L_areProducts (l : Launch) (D : va_G) (cI cL cP cJ : ClassId) (fl : Nat) (pl : Nat) (a : Nat) (L : Nat → Nat) (h : Nat → Nat) (v : Nat → Nat) (pl2 : Nat) (hi : Nat) (sa : Nat) (tx : Nat) (u : Nat) (w : Nat) (me : Nat) (fo : Nat) (fd : Nat) (taken : Int32) (st : St) (fst : Int32) (snd : Int32) (free : Int32) (hp : P_L_areProducts st fst snd free) : M vI l yL_areProducts cL_areProducts 11 (some .boolean) 7 156 D (tyF cI cL cP cJ) [.ref fl, .int fst, .int snd, .int free] [sysB cI cL cP fl pl a L h v pl2 hi sa tx u w me fo fd taken st] (fun (r : Int32) (w1 : List va_W) => r = 1 ∧ w1 = [sysB cI cL cP fl pl a L h v pl2 hi sa tx u w me fo fd taken (F_L_areProducts st fst snd free)]) := by
  unfold P_L_areProducts at hp
  refine m_start (by decide +kernel) (Nat.le_of_ble_eq_true rfl) (fun p e s m args below meth c A Q hA hQ C hr hlo => ?_)
  refine r_Le (L' := [(0, .ref fl), (1, .int fst), (2, .int snd), (3, .int free)]) rfl ?_
  refine r_aload_n C dL_areProducts_0 0 rfl ?_
  refine r_iload_n C dL_areProducts_1 3 rfl ?_
  refine r_iload_n C dL_areProducts_2 1 rfl ?_
  refine r_iload_n C dL_areProducts_3 2 rfl ?_
  obtain ⟨h1, hp⟩ := hp
  refine r_callV (ci := 8) (wc := [sysB cI cL cP fl pl a L h v pl2 hi sa tx u w me fo fd taken st]) (wr := []) (st := []) C (m_S_product l D cI cL cP cJ fl pl a L h v pl2 hi sa tx u w me fo fd taken st free fst snd h1) k_X10_product t_607 [0] (show ([0] : List Nat).Perm (List.range 1) by decide) rfl rfl rfl (q0 := 0) rfl rfl rfl (Nat.le_of_ble_eq_true rfl) ⟨Nat.le_of_ble_eq_true rfl, Nat.le_of_ble_eq_true rfl⟩ ⟨Nat.zero_le _, Nat.zero_le _⟩ dL_areProducts_4 (fun r2 wr2 hw2 => ?_)
  obtain ⟨e_r2, rfl⟩ := hw2
  have hp := hp r2 e_r2
  obtain ⟨x3, e_x3⟩ : ∃ z : St, z = (F_S_product st free fst snd).2 := ⟨_, rfl⟩
  have hp := hp x3 e_x3
  refine r_ws (I' := [sysB cI cL cP fl pl a L h v pl2 hi sa tx u w me fo fd taken x3]) (by rw [e_x3]; rfl) ?_
  refine r_istore (L' := [(4, .int r2), (0, .ref fl), (1, .int fst), (2, .int snd), (3, .int free)]) C dL_areProducts_7 (by decide) rfl ?_
  refine r_iload C dL_areProducts_9 0 rfl ?_
  refine r_aload_n C dL_areProducts_11 1 rfl ?_
  refine r_iload_n C dL_areProducts_12 4 rfl ?_
  refine r_iconst (v := 0) C dL_areProducts_13 (by decide) ?_
  obtain ⟨h4, hp⟩ := hp
  refine r_callV (ci := 8) (wc := [sysB cI cL cP fl pl a L h v pl2 hi sa tx u w me fo fd taken x3]) (wr := []) (st := [.int r2]) C (m_S_letter l D cI cL cP cJ fl pl a L h v pl2 hi sa tx u w me fo fd taken x3 free 0 h4) k_X10_letter t_412 [0] (show ([0] : List Nat).Perm (List.range 1) by decide) rfl rfl rfl (q0 := 0) rfl rfl rfl (Nat.le_of_ble_eq_true rfl) ⟨Nat.le_of_ble_eq_true rfl, Nat.le_of_ble_eq_true rfl⟩ ⟨Nat.zero_le _, Nat.zero_le _⟩ dL_areProducts_14 (fun r5 wr5 hw5 => ?_)
  obtain ⟨e_r5, rfl⟩ := hw5
  have hp := hp r5 e_r5
  refine r_ws (I' := [sysB cI cL cP fl pl a L h v pl2 hi sa tx u w me fo fd taken x3]) rfl ?_
  obtain ⟨h6, hp⟩ := hp
  refine r_icmp_ne (tgt := 45) C dL_areProducts_17 (by decide) (fun c => absurd h6 c) (fun _ => ?_)
  refine r_aload_n C dL_areProducts_20 1 rfl ?_
  refine r_iload_n C dL_areProducts_21 4 rfl ?_
  refine r_iconst (v := 2) C dL_areProducts_22 (by decide) ?_
  obtain ⟨h7, hp⟩ := hp
  refine r_callV (ci := 8) (wc := [sysB cI cL cP fl pl a L h v pl2 hi sa tx u w me fo fd taken x3]) (wr := []) (st := []) C (m_S_letter l D cI cL cP cJ fl pl a L h v pl2 hi sa tx u w me fo fd taken x3 free 2 h7) k_X10_letter t_412 [0] (show ([0] : List Nat).Perm (List.range 1) by decide) rfl rfl rfl (q0 := 0) rfl rfl rfl (Nat.le_of_ble_eq_true rfl) ⟨Nat.le_of_ble_eq_true rfl, Nat.le_of_ble_eq_true rfl⟩ ⟨Nat.zero_le _, Nat.zero_le _⟩ dL_areProducts_23 (fun r8 wr8 hw8 => ?_)
  obtain ⟨e_r8, rfl⟩ := hw8
  have hp := hp r8 e_r8
  refine r_ws (I' := [sysB cI cL cP fl pl a L h v pl2 hi sa tx u w me fo fd taken x3]) rfl ?_
  refine r_iload C dL_areProducts_26 0 rfl ?_
  obtain ⟨h9, hp⟩ := hp
  refine r_icmp_ne (tgt := 45) C dL_areProducts_28 (by decide) (fun c => absurd h9 c) (fun _ => ?_)
  refine r_aload_n C dL_areProducts_31 1 rfl ?_
  refine r_iload_n C dL_areProducts_32 4 rfl ?_
  refine r_bipush (v := 7) C dL_areProducts_33 (by decide) ?_
  obtain ⟨h10, hp⟩ := hp
  refine r_callV (ci := 8) (wc := [sysB cI cL cP fl pl a L h v pl2 hi sa tx u w me fo fd taken x3]) (wr := []) (st := []) C (m_S_letter l D cI cL cP cJ fl pl a L h v pl2 hi sa tx u w me fo fd taken x3 free 7 h10) k_X10_letter t_412 [0] (show ([0] : List Nat).Perm (List.range 1) by decide) rfl rfl rfl (q0 := 0) rfl rfl rfl (Nat.le_of_ble_eq_true rfl) ⟨Nat.le_of_ble_eq_true rfl, Nat.le_of_ble_eq_true rfl⟩ ⟨Nat.zero_le _, Nat.zero_le _⟩ dL_areProducts_35 (fun r11 wr11 hw11 => ?_)
  obtain ⟨e_r11, rfl⟩ := hw11
  have hp := hp r11 e_r11
  refine r_ws (I' := [sysB cI cL cP fl pl a L h v pl2 hi sa tx u w me fo fd taken x3]) rfl ?_
  obtain ⟨h12, hp⟩ := hp
  refine r_if_ne (tgt := 45) C dL_areProducts_38 (by decide) (fun c => absurd h12 c) (fun _ => ?_)
  refine r_iconst (v := 1) C dL_areProducts_41 (by decide) ?_
  refine r_goto (tgt := 46) C dL_areProducts_42 (by decide) ?_
  refine r_istore (L' := [(5, .int 1), (4, .int r2), (0, .ref fl), (1, .int fst), (2, .int snd), (3, .int free)]) C dL_areProducts_46 (by decide) rfl ?_
  refine r_aload_n C dL_areProducts_48 2 rfl ?_
  refine r_iload_n C dL_areProducts_49 5 rfl ?_
  refine r_iload_n C dL_areProducts_50 5 rfl ?_
  obtain ⟨h13, hp⟩ := hp
  refine r_callV (ci := 8) (wc := [sysB cI cL cP fl pl a L h v pl2 hi sa tx u w me fo fd taken x3]) (wr := []) (st := []) C (m_S_opposite l D cI cL cP cJ fl pl a L h v pl2 hi sa tx u w me fo fd taken x3 free free h13) k_X10_opposite t_612 [0] (show ([0] : List Nat).Perm (List.range 1) by decide) rfl rfl rfl (q0 := 0) rfl rfl rfl (Nat.le_of_ble_eq_true rfl) ⟨Nat.le_of_ble_eq_true rfl, Nat.le_of_ble_eq_true rfl⟩ ⟨Nat.zero_le _, Nat.zero_le _⟩ dL_areProducts_51 (fun r14 wr14 hw14 => ?_)
  obtain ⟨e_r14, rfl⟩ := hw14
  have hp := hp r14 e_r14
  obtain ⟨x15, e_x15⟩ : ∃ z : St, z = (F_S_opposite x3 free free).2 := ⟨_, rfl⟩
  have hp := hp x15 e_x15
  refine r_ws (I' := [sysB cI cL cP fl pl a L h v pl2 hi sa tx u w me fo fd taken x15]) (by rw [e_x15]; rfl) ?_
  refine r_istore (L' := [(6, .int r14), (5, .int 1), (4, .int r2), (0, .ref fl), (1, .int fst), (2, .int snd), (3, .int free)]) C dL_areProducts_54 (by decide) rfl ?_
  refine r_iload C dL_areProducts_56 1 rfl ?_
  refine r_if_eq (tgt := 83) C dL_areProducts_58 (by decide) (fun c => absurd c (by decide)) (fun _ => ?_)
  refine r_iload C dL_areProducts_61 0 rfl ?_
  refine r_iload C dL_areProducts_63 2 rfl ?_
  obtain ⟨h16, hp⟩ := hp
  refine r_icmp_ne (tgt := 83) C dL_areProducts_65 (by decide) (fun c => absurd h16 c) (fun _ => ?_)
  refine r_aload_n C dL_areProducts_68 3 rfl ?_
  refine r_iload_n C dL_areProducts_69 6 rfl ?_
  refine r_iload_n C dL_areProducts_70 6 rfl ?_
  obtain ⟨h17, hp⟩ := hp
  refine r_callV (ci := 8) (wc := [sysB cI cL cP fl pl a L h v pl2 hi sa tx u w me fo fd taken x15]) (wr := []) (st := []) C (m_S_opposite l D cI cL cP cJ fl pl a L h v pl2 hi sa tx u w me fo fd taken x15 free free h17) k_X10_opposite t_612 [0] (show ([0] : List Nat).Perm (List.range 1) by decide) rfl rfl rfl (q0 := 0) rfl rfl rfl (Nat.le_of_ble_eq_true rfl) ⟨Nat.le_of_ble_eq_true rfl, Nat.le_of_ble_eq_true rfl⟩ ⟨Nat.zero_le _, Nat.zero_le _⟩ dL_areProducts_71 (fun r18 wr18 hw18 => ?_)
  obtain ⟨e_r18, rfl⟩ := hw18
  have hp := hp r18 e_r18
  obtain ⟨x19, e_x19⟩ : ∃ z : St, z = (F_S_opposite x15 free free).2 := ⟨_, rfl⟩
  have hp := hp x19 e_x19
  refine r_ws (I' := [sysB cI cL cP fl pl a L h v pl2 hi sa tx u w me fo fd taken x19]) (by rw [e_x19]; rfl) ?_
  refine r_iload C dL_areProducts_74 2 rfl ?_
  obtain ⟨h20, hp⟩ := hp
  refine r_icmp_ne (tgt := 83) C dL_areProducts_76 (by decide) (fun c => absurd h20 c) (fun _ => ?_)
  refine r_iconst (v := 1) C dL_areProducts_79 (by decide) ?_
  refine r_goto (tgt := 84) C dL_areProducts_80 (by decide) ?_
  refine r_istore (L' := [(5, .int 1), (6, .int r14), (4, .int r2), (0, .ref fl), (1, .int fst), (2, .int snd), (3, .int free)]) C dL_areProducts_84 (by decide) rfl ?_
  refine r_aload_n C dL_areProducts_86 3 rfl ?_
  refine r_iload_n C dL_areProducts_87 6 rfl ?_
  refine r_iconst (v := 3) C dL_areProducts_88 (by decide) ?_
  obtain ⟨h21, hp⟩ := hp
  refine r_callV (ci := 8) (wc := [sysB cI cL cP fl pl a L h v pl2 hi sa tx u w me fo fd taken x19]) (wr := []) (st := []) C (m_S_letter l D cI cL cP cJ fl pl a L h v pl2 hi sa tx u w me fo fd taken x19 free 3 h21) k_X10_letter t_412 [0] (show ([0] : List Nat).Perm (List.range 1) by decide) rfl rfl rfl (q0 := 0) rfl rfl rfl (Nat.le_of_ble_eq_true rfl) ⟨Nat.le_of_ble_eq_true rfl, Nat.le_of_ble_eq_true rfl⟩ ⟨Nat.zero_le _, Nat.zero_le _⟩ dL_areProducts_89 (fun r22 wr22 hw22 => ?_)
  obtain ⟨e_r22, rfl⟩ := hw22
  have hp := hp r22 e_r22
  refine r_ws (I' := [sysB cI cL cP fl pl a L h v pl2 hi sa tx u w me fo fd taken x19]) rfl ?_
  refine r_istore (L' := [(7, .int r22), (5, .int 1), (6, .int r14), (4, .int r2), (0, .ref fl), (1, .int fst), (2, .int snd), (3, .int free)]) C dL_areProducts_92 (by decide) rfl ?_
  refine r_iload_n C dL_areProducts_94 7 rfl ?_
  refine r_iconst (v := 1) C dL_areProducts_95 (by decide) ?_
  refine r_iadd C dL_areProducts_96 rfl ?_
  refine r_iconst (v := 5) C dL_areProducts_97 (by decide) ?_
  refine r_irem C dL_areProducts_98 (by decide) rfl ?_
  refine r_top (fun x23 e_x23 => ?_)
  have hp := hp x23 e_x23
  refine r_istore (L' := [(8, .int x23), (7, .int r22), (5, .int 1), (6, .int r14), (4, .int r2), (0, .ref fl), (1, .int fst), (2, .int snd), (3, .int free)]) C dL_areProducts_99 (by decide) rfl ?_
  refine r_iconst (v := 1) C dL_areProducts_101 (by decide) ?_
  refine r_istore (L' := [(9, .int 1), (8, .int x23), (7, .int r22), (5, .int 1), (6, .int r14), (4, .int r2), (0, .ref fl), (1, .int fst), (2, .int snd), (3, .int free)]) C dL_areProducts_102 (by decide) rfl ?_
  refine r_aload_n C dL_areProducts_104 6 rfl ?_
  refine r_iload C dL_areProducts_105 1 rfl ?_
  refine r_iload_n C dL_areProducts_107 9 rfl ?_
  refine r_iload_n C dL_areProducts_108 9 rfl ?_
  obtain ⟨h24, hp⟩ := hp
  refine r_callV (ci := 8) (wc := [sysB cI cL cP fl pl a L h v pl2 hi sa tx u w me fo fd taken x19]) (wr := []) (st := []) C (m_S_product l D cI cL cP cJ fl pl a L h v pl2 hi sa tx u w me fo fd taken x19 x23 free free h24) k_X10_product t_607 [0] (show ([0] : List Nat).Perm (List.range 1) by decide) rfl rfl rfl (q0 := 0) rfl rfl rfl (Nat.le_of_ble_eq_true rfl) ⟨Nat.le_of_ble_eq_true rfl, Nat.le_of_ble_eq_true rfl⟩ ⟨Nat.zero_le _, Nat.zero_le _⟩ dL_areProducts_109 (fun r25 wr25 hw25 => ?_)
  obtain ⟨e_r25, rfl⟩ := hw25
  have hp := hp r25 e_r25
  obtain ⟨x26, e_x26⟩ : ∃ z : St, z = (F_S_product x19 x23 free free).2 := ⟨_, rfl⟩
  have hp := hp x26 e_x26
  refine r_ws (I' := [sysB cI cL cP fl pl a L h v pl2 hi sa tx u w me fo fd taken x26]) (by rw [e_x26]; rfl) ?_
  refine r_istore (L' := [(10, .int r25), (9, .int 1), (8, .int x23), (7, .int r22), (5, .int 1), (6, .int r14), (4, .int r2), (0, .ref fl), (1, .int fst), (2, .int snd), (3, .int free)]) C dL_areProducts_112 (by decide) rfl ?_
  refine r_iload C dL_areProducts_114 4 rfl ?_
  refine r_if_eq (tgt := 159) C dL_areProducts_116 (by decide) (fun c => absurd c (by decide)) (fun _ => ?_)
  refine r_iload C dL_areProducts_119 3 rfl ?_
  refine r_iconst (v := 1) C dL_areProducts_121 (by decide) ?_
  suffices K : ∀ x28 : Int32, x28 = ((if r22 = 1 then (1) else (0))) → V p l e (rmm 7 156) s m args below meth c 11 D A 0 0 Q [sysB cI cL cP fl pl a L h v pl2 hi sa tx u w me fo fd taken x26] [(10, .int r25), (9, .int 1), (8, .int x23), (7, .int r22), (5, .int 1), (6, .int r14), (4, .int r2), (0, .ref fl), (1, .int fst), (2, .int snd), (3, .int free)] 130 [.int x28] by
    refine r_icmp_ne (tgt := 129) C dL_areProducts_122 (by decide) (fun c27 => ?_) (fun c27 => ?_)
    · refine r_iconst (v := 0) C dL_areProducts_129 (by decide) ?_
      exact K _ (by simp only [if_neg c27])
    · refine r_iconst (v := 1) C dL_areProducts_125 (by decide) ?_
      refine r_goto (tgt := 130) C dL_areProducts_126 (by decide) ?_
      exact K _ (by simp only [if_pos c27])
  intro x28 e_x28
  have hp := hp x28 e_x28
  refine r_iload C dL_areProducts_130 6 rfl ?_
  suffices K : ∀ x30 : Int32, x30 = ((if r2 = 0 then (1) else (0))) → V p l e (rmm 7 156) s m args below meth c 11 D A 0 0 Q [sysB cI cL cP fl pl a L h v pl2 hi sa tx u w me fo fd taken x26] [(10, .int r25), (9, .int 1), (8, .int x23), (7, .int r22), (5, .int 1), (6, .int r14), (4, .int r2), (0, .ref fl), (1, .int fst), (2, .int snd), (3, .int free)] 140 [.int x30, .int x28] by
    refine r_if_ne (tgt := 139) C dL_areProducts_132 (by decide) (fun c29 => ?_) (fun c29 => ?_)
    · refine r_iconst (v := 0) C dL_areProducts_139 (by decide) ?_
      exact K _ (by simp only [if_neg c29])
    · refine r_iconst (v := 1) C dL_areProducts_135 (by decide) ?_
      refine r_goto (tgt := 140) C dL_areProducts_136 (by decide) ?_
      exact K _ (by simp only [if_pos c29])
  intro x30 e_x30
  have hp := hp x30 e_x30
  obtain ⟨h31, hp⟩ := hp
  refine r_icmp_ne (tgt := 159) C dL_areProducts_140 (by decide) (fun c => absurd h31 c) (fun _ => ?_)
  refine r_iload C dL_areProducts_143 3 rfl ?_
  obtain ⟨h32, hp⟩ := hp
  refine r_if_le (tgt := 159) C dL_areProducts_145 (by decide) (fun c => absurd c h32) (fun _ => ?_)
  refine r_iload C dL_areProducts_148 3 rfl ?_
  refine r_bipush (v := 8) C dL_areProducts_150 (by decide) ?_
  obtain ⟨h33, hp⟩ := hp
  refine r_icmp_gt (tgt := 159) C dL_areProducts_152 (by decide) (fun c => absurd c h33) (fun _ => ?_)
  refine r_iconst (v := 1) C dL_areProducts_155 (by decide) ?_
  refine r_goto (tgt := 160) C dL_areProducts_156 (by decide) ?_
  refine r_istore (L' := [(5, .int 1), (10, .int r25), (9, .int 1), (8, .int x23), (7, .int r22), (6, .int r14), (4, .int r2), (0, .ref fl), (1, .int fst), (2, .int snd), (3, .int free)]) C dL_areProducts_160 (by decide) rfl ?_
  obtain ⟨hpl, hp⟩ := hp
  have hL : ∀ (nn : Nat) (k34 : St) (y35 : Int32) (y36 : Int32), P_L_areProducts_L162 r22 x23 free nn k34 y35 y36 → (∀ f44 : St, f44 = (F_L_areProducts_L162 r22 x23 free nn k34 y35 y36).1 → ∀ z45 : Int32, z45 = (F_L_areProducts_L162 r22 x23 free nn k34 y35 y36).2.1 → ∀ z46 : Int32, z46 = (F_L_areProducts_L162 r22 x23 free nn k34 y35 y36).2.2 → V p l e (rmm 7 156) s m args below meth c 11 D A 0 0 Q [sysB cI cL cP fl pl a L h v pl2 hi sa tx u w me fo fd taken f44] [(5, .int 1), (10, .int z45), (9, .int z46), (8, .int x23), (7, .int r22), (6, .int r14), (4, .int r2), (0, .ref fl), (1, .int fst), (2, .int snd), (3, .int free)] 212 []) → V p l e (rmm 7 156) s m args below meth c 11 D A 0 0 Q [sysB cI cL cP fl pl a L h v pl2 hi sa tx u w me fo fd taken k34] [(5, .int 1), (10, .int y35), (9, .int y36), (8, .int x23), (7, .int r22), (6, .int r14), (4, .int r2), (0, .ref fl), (1, .int fst), (2, .int snd), (3, .int free)] 162 [] := by
    clear hpl hp
    intro nn
    induction nn with
    | zero => intro k34 y35 y36 hp kk; rw [P_L_areProducts_L162] at hp; exact hp.elim
    | succ nn ih =>
      intro k34 y35 y36 hp kk
      rw [P_L_areProducts_L162] at hp
      refine r_iload C dL_areProducts_162 0 rfl ?_
      refine r_if_eq (tgt := 212) C dL_areProducts_164 (by decide) (fun c => absurd c (by decide)) (fun _ => ?_)
      refine r_iload C dL_areProducts_167 2 rfl ?_
      refine r_iload C dL_areProducts_169 4 rfl ?_
      refine r_iconst (v := 1) C dL_areProducts_171 (by decide) ?_
      refine r_isub C dL_areProducts_172 rfl ?_
      refine r_icmp_ge (tgt := 212) C dL_areProducts_173 (by decide) (fun c37 => ?_) (fun c37 => ?_)
      · have eF : F_L_areProducts_L162 r22 x23 free (nn + 1) k34 y35 y36 = (k34, y35, y36) := by simp only [F_L_areProducts_L162, if_pos c37]
        exact kk _ (by rw [eF]) _ (by rw [eF]) _ (by rw [eF])
      · have hp := hp.2 c37
        refine r_iload C dL_areProducts_176 2 rfl ?_
        refine r_bipush (v := 9) C dL_areProducts_178 (by decide) ?_
        refine r_icmp_ge (tgt := 212) C dL_areProducts_180 (by decide) (fun c38 => ?_) (fun c38 => ?_)
        · have eF : F_L_areProducts_L162 r22 x23 free (nn + 1) k34 y35 y36 = (k34, y35, y36) := by simp only [F_L_areProducts_L162, if_neg c37, if_pos c38]
          exact kk _ (by rw [eF]) _ (by rw [eF]) _ (by rw [eF])
        · have hp := hp.2 c38
          refine r_iload C dL_areProducts_183 1 rfl ?_
          obtain ⟨h39, hp⟩ := hp
          refine r_if_le (tgt := 192) C dL_areProducts_185 (by decide) (fun c => absurd c h39) (fun _ => ?_)
          refine r_iconst (v := 1) C dL_areProducts_188 (by decide) ?_
          refine r_goto (tgt := 193) C dL_areProducts_189 (by decide) ?_
          refine r_istore (L' := [(5, .int 1), (10, .int y35), (9, .int y36), (8, .int x23), (7, .int r22), (6, .int r14), (4, .int r2), (0, .ref fl), (1, .int fst), (2, .int snd), (3, .int free)]) C dL_areProducts_193 (by decide) rfl ?_
          refine r_aload_n C dL_areProducts_195 7 rfl ?_
          refine r_iload C dL_areProducts_196 3 rfl ?_
          refine r_iload C dL_areProducts_198 3 rfl ?_
          refine r_iload_n C dL_areProducts_200 10 rfl ?_
          obtain ⟨h40, hp⟩ := hp
          refine r_callV (ci := 8) (wc := [sysB cI cL cP fl pl a L h v pl2 hi sa tx u w me fo fd taken k34]) (wr := []) (st := []) C (m_S_product l D cI cL cP cJ fl pl a L h v pl2 hi sa tx u w me fo fd taken k34 x23 x23 free h40) k_X10_product t_607 [0] (show ([0] : List Nat).Perm (List.range 1) by decide) rfl rfl rfl (q0 := 0) rfl rfl rfl (Nat.le_of_ble_eq_true rfl) ⟨Nat.le_of_ble_eq_true rfl, Nat.le_of_ble_eq_true rfl⟩ ⟨Nat.zero_le _, Nat.zero_le _⟩ dL_areProducts_201 (fun r41 wr41 hw41 => ?_)
          obtain ⟨e_r41, rfl⟩ := hw41
          have hp := hp r41 e_r41
          obtain ⟨x42, e_x42⟩ : ∃ z : St, z = (F_S_product k34 x23 x23 free).2 := ⟨_, rfl⟩
          have hp := hp x42 e_x42
          refine r_ws (I' := [sysB cI cL cP fl pl a L h v pl2 hi sa tx u w me fo fd taken x42]) (by rw [e_x42]; rfl) ?_
          refine r_istore (L' := [(10, .int r41), (5, .int 1), (9, .int y36), (8, .int x23), (7, .int r22), (6, .int r14), (4, .int r2), (0, .ref fl), (1, .int fst), (2, .int snd), (3, .int free)]) C dL_areProducts_204 (by decide) rfl ?_
          obtain ⟨x43, e_x43⟩ : ∃ z : Int32, z = y36 + 1 := ⟨_, rfl⟩
          have hp := hp x43 e_x43
          refine r_iinc (v := x43) (L' := [(9, .int x43), (10, .int r41), (5, .int 1), (8, .int x23), (7, .int r22), (6, .int r14), (4, .int r2), (0, .ref fl), (1, .int fst), (2, .int snd), (3, .int free)]) C dL_areProducts_206 2 rfl (by rw [e_x43]; exact ii (by decide)) (by decide) rfl ?_
          refine r_goto (tgt := 162) C dL_areProducts_209 (by decide) ?_
          refine r_L (L' := [(5, .int 1), (10, .int r41), (9, .int x43), (8, .int x23), (7, .int r22), (6, .int r14), (4, .int r2), (0, .ref fl), (1, .int fst), (2, .int snd), (3, .int free)]) [2, 1, 0, 3, 4, 5, 6, 7, 8, 9, 10] rfl ?_
          have eF : F_L_areProducts_L162 r22 x23 free (nn + 1) k34 y35 y36 = F_L_areProducts_L162 r22 x23 free nn x42 r41 x43 := by have q := e_r41.symm; subst q; have q := e_x42.symm; subst q; have q := e_x43.symm; subst q; simp only [F_L_areProducts_L162, if_neg c37, if_neg c38]
          exact ih x42 r41 x43 hp (fun f44 e_f44 z45 e_z45 z46 e_z46 => kk f44 (by rw [eF]; exact e_f44) z45 (by rw [eF]; exact e_z45) z46 (by rw [eF]; exact e_z46))
  refine hL 10 x26 r25 1 hpl (fun f44 e_f44 z45 e_z45 z46 e_z46 => ?_)
  clear hL hpl
  have hp := hp f44 e_f44
  have hp := hp z45 e_z45
  have hp := hp z46 e_z46
  refine r_iload C dL_areProducts_212 0 rfl ?_
  refine r_if_eq (tgt := 232) C dL_areProducts_214 (by decide) (fun c => absurd c (by decide)) (fun _ => ?_)
  refine r_iload C dL_areProducts_217 4 rfl ?_
  refine r_iconst (v := 1) C dL_areProducts_219 (by decide) ?_
  have hps := hp
  suffices K :  V p l e (rmm 7 156) s m args below meth c 11 D A 0 0 Q [sysB cI cL cP fl pl a L h v pl2 hi sa tx u w me fo fd taken f44] [(5, .int 1), (10, .int z45), (9, .int z46), (8, .int x23), (7, .int r22), (6, .int r14), (4, .int r2), (0, .ref fl), (1, .int fst), (2, .int snd), (3, .int free)] 228 [] by
    have hp := hps
    refine r_icmp_eq (tgt := 228) C dL_areProducts_220 (by decide) (fun c47 => ?_) (fun c47 => ?_)
    · exact K 
    · have hp := hp.2 c47
      refine r_iload C dL_areProducts_223 1 rfl ?_
      have h48 := hp
      refine r_if_ne (tgt := 232) C dL_areProducts_225 (by decide) (fun c => absurd h48 c) (fun _ => ?_)
      exact K 
  skip
  refine r_iconst (v := 1) C dL_areProducts_228 (by decide) ?_
  refine r_goto (tgt := 233) C dL_areProducts_229 (by decide) ?_
  have eF : F_L_areProducts st fst snd free = f44 := by have q := e_r2.symm; subst q; have q := e_x3.symm; subst q; have q := e_r5.symm; subst q; have q := e_r8.symm; subst q; have q := e_r11.symm; subst q; have q := e_r14.symm; subst q; have q := e_x15.symm; subst q; have q := e_r18.symm; subst q; have q := e_x19.symm; subst q; have q := e_r22.symm; subst q; have q := e_x23.symm; subst q; have q := e_r25.symm; subst q; have q := e_x26.symm; subst q; have q := e_x28.symm; subst q; have q := e_x30.symm; subst q; have q := e_f44.symm; subst q; have q := e_z45.symm; subst q; have q := e_z46.symm; subst q; rfl
  exact r_zret (r := 1) C hA hr hlo (rfl) dL_areProducts_233 [sysB cI cL cP fl pl a L h v pl2 hi sa tx u w me fo fd taken f44] ⟨rfl, by simp only [eF]⟩ rfl hQ

def F_L_law_L17  : Nat → St → Int32 → Int32 → St × Int32 × Int32
  | 0, k1, y2, y3 => (k1, y2, y3)
  | nn + 1, k1, y2, y3 => (if 20 < y3 then ((k1, y2, y3)) else (let r6 : Int32 := (F_S_ways k1 y3 0).1; let x7 : St := (F_S_ways k1 y3 0).2; let x8 : Int32 := y2 + r6; let x11 : St := (F_S_ways x7 y3 1).2; let g20 : St := (if 16 < y3 then (x11) else (let x18 : St := (F_S_ways x11 ((16 : Int32) - y3) 0).2; x18)); let x21 : Int32 := y3 + 1; F_L_law_L17 nn g20 x8 x21))
def P_L_law_L17  : Nat → St → Int32 → Int32 → Prop
  | 0, _, _, _ => False
  | nn + 1, k1, y2, y3 => ((20 < y3 → True) ∧ (¬ 20 < y3 → ((P_S_ways k1 y3 0) ∧ (∀ r6 : Int32, r6 = (F_S_ways k1 y3 0).1 → (∀ x7 : St, x7 = (F_S_ways k1 y3 0).2 → (∀ x8 : Int32, x8 = y2 + r6 → ((P_S_ways x7 y3 1) ∧ (∀ r10 : Int32, r10 = (F_S_ways x7 y3 1).1 → (∀ x11 : St, x11 = (F_S_ways x7 y3 1).2 → ((r6 = r10) ∧ (((y3 ≤ 16 → True) ∧ (¬ y3 ≤ 16 → (r6 = 0))) ∧ (((16 < y3 → True) ∧ (¬ 16 < y3 → ((P_S_ways x11 ((16 : Int32) - y3) 0) ∧ (∀ r17 : Int32, r17 = (F_S_ways x11 ((16 : Int32) - y3) 0).1 → (∀ x18 : St, x18 = (F_S_ways x11 ((16 : Int32) - y3) 0).2 → (r6 = r17)))))) ∧ (∀ g20 : St, g20 = ((if 16 < y3 then (x11) else (let x18 : St := (F_S_ways x11 ((16 : Int32) - y3) 0).2; x18))) → (∀ x21 : Int32, x21 = y3 + 1 → (P_L_law_L17 nn g20 x8 x21)))))))))))))))
def F_L_law_L120 (n_ : Nat) (xs : Nat → Int32) : Nat → St → (Nat → Int32) → Int32 → St × (Nat → Int32) × Int32
  | 0, k31, k32, y33 => (k31, k32, y33)
  | nn + 1, k31, k32, y33 => (if 90 ≤ y33 then ((k31, k32, y33)) else (let r36 : Int32 := F_L_cell n_ xs ((2 : Int32) * y33); let r38 : Int32 := F_L_cell n_ xs (((2 : Int32) * y33) + 1); let x41 : St := F_L_does k31 r36 r38; let r42 : Int32 := F_L_low_5 (r36 >>> ((5 : Int32) &&& 31)); let g45 : Nat → Int32 := F_L_isLetter x41 k32 r42; let g54 : Nat → Int32 := (if (y33 - y33 / 5 * 5) = 2 then (let r50 : Int32 := F_L_low_5 (r36 >>> ((9 : Int32) &&& 31)); let g53 : Nat → Int32 := F_L_isLeast x41 g45 r50; g53) else (g45)); let x55 : Int32 := y33 + 1; F_L_law_L120 n_ xs nn x41 g54 x55))
def P_L_law_L120 (n_ : Nat) (xs : Nat → Int32) : Nat → St → (Nat → Int32) → Int32 → Prop
  | 0, _, _, _ => False
  | nn + 1, k31, k32, y33 => ((90 ≤ y33 → True) ∧ (¬ 90 ≤ y33 → ((P_L_cell n_ ((2 : Int32) * y33)) ∧ (∀ r36 : Int32, r36 = F_L_cell n_ xs ((2 : Int32) * y33) → ((P_L_cell n_ (((2 : Int32) * y33) + 1)) ∧ (∀ r38 : Int32, r38 = F_L_cell n_ xs (((2 : Int32) * y33) + 1) → ((P_L_does k31 r36 r38) ∧ (∀ x41 : St, x41 = F_L_does k31 r36 r38 → (∀ r42 : Int32, r42 = F_L_low_5 (r36 >>> ((5 : Int32) &&& 31)) → ((P_L_isLetter x41 k32 r42) ∧ (∀ g45 : Nat → Int32, g45 = F_L_isLetter x41 k32 r42 → ((((y33 - y33 / 4 * 4) = 1 → (P_L_isStore x41)) ∧ (¬ (y33 - y33 / 4 * 4) = 1 → True)) ∧ ((((y33 - y33 / 5 * 5) = 2 → (∀ r50 : Int32, r50 = F_L_low_5 (r36 >>> ((9 : Int32) &&& 31)) → (P_L_isLeast x41 g45 r50))) ∧ (¬ (y33 - y33 / 5 * 5) = 2 → True)) ∧ (∀ g54 : Nat → Int32, g54 = ((if (y33 - y33 / 5 * 5) = 2 then (let r50 : Int32 := F_L_low_5 (r36 >>> ((9 : Int32) &&& 31)); let g53 : Nat → Int32 := F_L_isLeast x41 g45 r50; g53) else (g45))) → (∀ x55 : Int32, x55 = y33 + 1 → (P_L_law_L120 n_ xs nn x41 g54 x55))))))))))))))))
set_option maxRecDepth 20000 in
def P_L_law (st : St) (fA : Nat → Int32) (n_ : Nat) (xs : Nat → Int32) : Prop := ((P_L_law_L17 22 st 0 0) ∧ (∀ f22 : St, f22 = (F_L_law_L17 22 st 0 0).1 → (∀ z23 : Int32, z23 = (F_L_law_L17 22 st 0 0).2.1 → (∀ z24 : Int32, z24 = (F_L_law_L17 22 st 0 0).2.2 → ((z23 = 384) ∧ ((P_L_isStore f22) ∧ ((P_S_count f22 6) ∧ (∀ r29 : Int32, r29 = F_S_count f22 6 → ((r29 = 0) ∧ (P_L_law_L120 n_ xs 91 f22 fA 0))))))))))
section
variable {p : Program} {l : Launch} {e : Env} {s : State} {m : MethodId} {below : List Frame} {meth : Method} {c : Code} {D : va_G} {A : Nat → Prop} {Q : State → Prop}
set_option maxRecDepth 20000 in
set_option maxHeartbeats 16000000 in
theorem law_walk {cI cL cP cJ : ClassId} {fl : Nat} {pl : Nat} {a : Nat} {L : Nat → Nat} {h : Nat → Nat} {v : Nat → Nat} {pl2 : Nat} {hi : Nat} {sa : Nat} {tx : Nat} {u : Nat} {w : Nat} {me : Nat} {fo : Nat} {fd : Nat} {taken : Int32} {st : St} {aA : Nat} {fA : Nat → Int32} {b : Nat} {n_ : Nat} {xs : Nat → Int32} (C : Cx p s m #[Value.ref b] c code 6 RL D (tyF cI cL cP cJ) A) (X : va_X b n_ xs s s.heap ∧ b < s.heap.size ∧ ¬ A b) (Hend : ∀ (I : List va_W) (L : List (Nat × Value)), V p l e room_1 s m #[Value.ref b] below meth c 6 D A 153 3643 Q I L 220 []) (hp : P_L_law st fA n_ xs) : V p l e room_1 s m #[Value.ref b] below meth c 6 D A 153 3643 Q [sysB cI cL cP fl pl a L h v pl2 hi sa tx u w me fo fd taken st, [(aA, .inl (cI, 4, .inl fA))]] [(0, .ref b), (1, .ref fl), (2, .ref aA)] 12 [] := by
  unfold P_L_law at hp
  refine r_iconst (v := 0) C dL_law_12 (by decide) ?_
  refine r_istore_n (L' := [(3, .int 0), (0, .ref b), (1, .ref fl), (2, .ref aA)]) C dL_law_13 (by decide) rfl ?_
  refine r_iconst (v := 0) C dL_law_14 (by decide) ?_
  refine r_istore (L' := [(4, .int 0), (3, .int 0), (0, .ref b), (1, .ref fl), (2, .ref aA)]) C dL_law_15 (by decide) rfl ?_
  obtain ⟨hpl, hp⟩ := hp
  have hL : ∀ (nn : Nat) (k1 : St) (y2 : Int32) (y3 : Int32), P_L_law_L17 nn k1 y2 y3 → (∀ f22 : St, f22 = (F_L_law_L17 nn k1 y2 y3).1 → ∀ z23 : Int32, z23 = (F_L_law_L17 nn k1 y2 y3).2.1 → ∀ z24 : Int32, z24 = (F_L_law_L17 nn k1 y2 y3).2.2 → V p l e room_1 s m #[Value.ref b] below meth c 6 D A 153 3643 Q [sysB cI cL cP fl pl a L h v pl2 hi sa tx u w me fo fd taken f22, [(aA, .inl (cI, 4, .inl fA))]] [(4, .int z24), (3, .int z23), (0, .ref b), (1, .ref fl), (2, .ref aA)] 92 []) → V p l e room_1 s m #[Value.ref b] below meth c 6 D A 153 3643 Q [sysB cI cL cP fl pl a L h v pl2 hi sa tx u w me fo fd taken k1, [(aA, .inl (cI, 4, .inl fA))]] [(4, .int y3), (3, .int y2), (0, .ref b), (1, .ref fl), (2, .ref aA)] 17 [] := by
    clear hpl hp
    intro nn
    induction nn with
    | zero => intro k1 y2 y3 hp kk; rw [P_L_law_L17] at hp; exact hp.elim
    | succ nn ih =>
      intro k1 y2 y3 hp kk
      rw [P_L_law_L17] at hp
      refine r_iload C dL_law_17 0 rfl ?_
      refine r_bipush (v := 20) C dL_law_19 (by decide) ?_
      refine r_icmp_gt (tgt := 92) C dL_law_21 (by decide) (fun c4 => ?_) (fun c4 => ?_)
      · have eF : F_L_law_L17 (nn + 1) k1 y2 y3 = (k1, y2, y3) := by simp only [F_L_law_L17, if_pos c4]
        exact kk _ (by rw [eF]) _ (by rw [eF]) _ (by rw [eF])
      · have hp := hp.2 c4
        refine r_aload_n C dL_law_24 3 rfl ?_
        refine r_iload C dL_law_25 0 rfl ?_
        refine r_iconst (v := 0) C dL_law_27 (by decide) ?_
        obtain ⟨h5, hp⟩ := hp
        refine r_callV (ci := 8) (wc := [sysB cI cL cP fl pl a L h v pl2 hi sa tx u w me fo fd taken k1]) (wr := [[(aA, .inl (cI, 4, .inl fA))]]) (st := []) C (m_S_ways l D cI cL cP cJ fl pl a L h v pl2 hi sa tx u w me fo fd taken k1 y3 0 h5) k_X10_ways t_379 [0, 1] (show ([0, 1] : List Nat).Perm (List.range 2) by decide) rfl rfl rfl (q0 := 0) rfl rfl rfl (Nat.le_of_ble_eq_true rfl) ⟨Nat.le_of_ble_eq_true rfl, Nat.le_of_ble_eq_true rfl⟩ ⟨Nat.le_of_ble_eq_true rfl, Nat.le_of_ble_eq_true rfl⟩ dL_law_28 (fun r6 wr6 hw6 => ?_)
        obtain ⟨e_r6, rfl⟩ := hw6
        have hp := hp r6 e_r6
        obtain ⟨x7, e_x7⟩ : ∃ z : St, z = (F_S_ways k1 y3 0).2 := ⟨_, rfl⟩
        have hp := hp x7 e_x7
        refine r_ws (I' := [sysB cI cL cP fl pl a L h v pl2 hi sa tx u w me fo fd taken x7, [(aA, .inl (cI, 4, .inl fA))]]) (by rw [e_x7]; rfl) ?_
        refine r_istore (L' := [(5, .int r6), (4, .int y3), (3, .int y2), (0, .ref b), (1, .ref fl), (2, .ref aA)]) C dL_law_31 (by decide) rfl ?_
        refine r_iload_n C dL_law_33 2 rfl ?_
        refine r_iload C dL_law_34 0 rfl ?_
        refine r_iadd C dL_law_36 rfl ?_
        refine r_top (fun x8 e_x8 => ?_)
        have hp := hp x8 e_x8
        refine r_istore_n (L' := [(3, .int x8), (5, .int r6), (4, .int y3), (0, .ref b), (1, .ref fl), (2, .ref aA)]) C dL_law_37 (by decide) rfl ?_
        refine r_iload C dL_law_38 1 rfl ?_
        refine r_aload_n C dL_law_40 4 rfl ?_
        refine r_iload C dL_law_41 2 rfl ?_
        refine r_iconst (v := 1) C dL_law_43 (by decide) ?_
        obtain ⟨h9, hp⟩ := hp
        refine r_callV (ci := 8) (wc := [sysB cI cL cP fl pl a L h v pl2 hi sa tx u w me fo fd taken x7]) (wr := [[(aA, .inl (cI, 4, .inl fA))]]) (st := [.int r6]) C (m_S_ways l D cI cL cP cJ fl pl a L h v pl2 hi sa tx u w me fo fd taken x7 y3 1 h9) k_X10_ways t_379 [0, 1] (show ([0, 1] : List Nat).Perm (List.range 2) by decide) rfl rfl rfl (q0 := 0) rfl rfl rfl (Nat.le_of_ble_eq_true rfl) ⟨Nat.le_of_ble_eq_true rfl, Nat.le_of_ble_eq_true rfl⟩ ⟨Nat.le_of_ble_eq_true rfl, Nat.le_of_ble_eq_true rfl⟩ dL_law_44 (fun r10 wr10 hw10 => ?_)
        obtain ⟨e_r10, rfl⟩ := hw10
        have hp := hp r10 e_r10
        obtain ⟨x11, e_x11⟩ : ∃ z : St, z = (F_S_ways x7 y3 1).2 := ⟨_, rfl⟩
        have hp := hp x11 e_x11
        refine r_ws (I' := [sysB cI cL cP fl pl a L h v pl2 hi sa tx u w me fo fd taken x11, [(aA, .inl (cI, 4, .inl fA))]]) (by rw [e_x11]; rfl) ?_
        obtain ⟨h12, hp⟩ := hp
        refine r_icmp_ne (tgt := 84) C dL_law_47 (by decide) (fun c => absurd h12 c) (fun _ => ?_)
        refine r_iload C dL_law_50 2 rfl ?_
        refine r_bipush (v := 16) C dL_law_52 (by decide) ?_
        obtain ⟨hps, hp⟩ := hp
        suffices K :  V p l e room_1 s m #[Value.ref b] below meth c 6 D A 153 3643 Q [sysB cI cL cP fl pl a L h v pl2 hi sa tx u w me fo fd taken x11, [(aA, .inl (cI, 4, .inl fA))]] [(3, .int x8), (5, .int r6), (4, .int y3), (0, .ref b), (1, .ref fl), (2, .ref aA)] 62 [] by
          have hp := hps
          refine r_icmp_le (tgt := 62) C dL_law_54 (by decide) (fun c13 => ?_) (fun c13 => ?_)
          · exact K 
          · have hp := hp.2 c13
            refine r_iload C dL_law_57 1 rfl ?_
            have h14 := hp
            refine r_if_ne (tgt := 84) C dL_law_59 (by decide) (fun c => absurd h14 c) (fun _ => ?_)
            exact K 
        skip
        refine r_iload C dL_law_62 2 rfl ?_
        refine r_bipush (v := 16) C dL_law_64 (by decide) ?_
        obtain ⟨hps, hp⟩ := hp
        suffices K : ∀ g20 : St, g20 = ((if 16 < y3 then (x11) else (let x18 : St := (F_S_ways x11 ((16 : Int32) - y3) 0).2; x18))) → V p l e room_1 s m #[Value.ref b] below meth c 6 D A 153 3643 Q [sysB cI cL cP fl pl a L h v pl2 hi sa tx u w me fo fd taken g20, [(aA, .inl (cI, 4, .inl fA))]] [(3, .int x8), (5, .int r6), (4, .int y3), (0, .ref b), (1, .ref fl), (2, .ref aA)] 86 [] by
          have hp := hps
          refine r_icmp_gt (tgt := 86) C dL_law_66 (by decide) (fun c15 => ?_) (fun c15 => ?_)
          · exact K _ (by simp only [if_pos c15])
          · have hp := hp.2 c15
            refine r_iload C dL_law_69 1 rfl ?_
            refine r_aload_n C dL_law_71 4 rfl ?_
            refine r_bipush (v := 16) C dL_law_72 (by decide) ?_
            refine r_iload C dL_law_74 2 rfl ?_
            refine r_isub C dL_law_76 rfl ?_
            refine r_iconst (v := 0) C dL_law_77 (by decide) ?_
            obtain ⟨h16, hp⟩ := hp
            refine r_callV (ci := 8) (wc := [sysB cI cL cP fl pl a L h v pl2 hi sa tx u w me fo fd taken x11]) (wr := [[(aA, .inl (cI, 4, .inl fA))]]) (st := [.int r6]) C (m_S_ways l D cI cL cP cJ fl pl a L h v pl2 hi sa tx u w me fo fd taken x11 ((16 : Int32) - y3) 0 h16) k_X10_ways t_379 [0, 1] (show ([0, 1] : List Nat).Perm (List.range 2) by decide) rfl rfl rfl (q0 := 0) rfl rfl rfl (Nat.le_of_ble_eq_true rfl) ⟨Nat.le_of_ble_eq_true rfl, Nat.le_of_ble_eq_true rfl⟩ ⟨Nat.le_of_ble_eq_true rfl, Nat.le_of_ble_eq_true rfl⟩ dL_law_78 (fun r17 wr17 hw17 => ?_)
            obtain ⟨e_r17, rfl⟩ := hw17
            have hp := hp r17 e_r17
            obtain ⟨x18, e_x18⟩ : ∃ z : St, z = (F_S_ways x11 ((16 : Int32) - y3) 0).2 := ⟨_, rfl⟩
            have hp := hp x18 e_x18
            refine r_ws (I' := [sysB cI cL cP fl pl a L h v pl2 hi sa tx u w me fo fd taken x18, [(aA, .inl (cI, 4, .inl fA))]]) (by rw [e_x18]; rfl) ?_
            have h19 := hp
            refine r_icmp_eq (tgt := 86) C dL_law_81 (by decide) (fun _ => ?_) (fun c => absurd h19 c)
            exact K _ (by have q := e_r17.symm; subst q; have q := e_x18.symm; subst q; simp only [if_neg c15])
        intro g20 e_g20
        have hp := hp g20 e_g20
        obtain ⟨x21, e_x21⟩ : ∃ z : Int32, z = y3 + 1 := ⟨_, rfl⟩
        have hp := hp x21 e_x21
        refine r_iinc (v := x21) (L' := [(4, .int x21), (3, .int x8), (5, .int r6), (0, .ref b), (1, .ref fl), (2, .ref aA)]) C dL_law_86 2 rfl (by rw [e_x21]; exact ii (by decide)) (by decide) rfl ?_
        refine r_goto (tgt := 17) C dL_law_89 (by decide) ?_
        refine r_L (L' := [(4, .int x21), (3, .int x8), (0, .ref b), (1, .ref fl), (2, .ref aA)]) [0, 1, 3, 4, 5] rfl ?_
        have eF : F_L_law_L17 (nn + 1) k1 y2 y3 = F_L_law_L17 nn g20 x8 x21 := by have q := e_r6.symm; subst q; have q := e_x7.symm; subst q; have q := e_x8.symm; subst q; have q := e_r10.symm; subst q; have q := e_x11.symm; subst q; have q := e_g20.symm; subst q; have q := e_x21.symm; subst q; simp only [F_L_law_L17, if_neg c4]
        exact ih g20 x8 x21 hp (fun f22 e_f22 z23 e_z23 z24 e_z24 => kk f22 (by rw [eF]; exact e_f22) z23 (by rw [eF]; exact e_z23) z24 (by rw [eF]; exact e_z24))
  refine hL 22 st 0 0 hpl (fun f22 e_f22 z23 e_z23 z24 e_z24 => ?_)
  clear hL hpl
  have hp := hp f22 e_f22
  have hp := hp z23 e_z23
  have hp := hp z24 e_z24
  refine r_iload_n C dL_law_92 1 rfl ?_
  refine r_sipush (v := 384) C dL_law_93 (by decide) ?_
  obtain ⟨h25, hp⟩ := hp
  refine r_icmp_ne (tgt := 115) C dL_law_96 (by decide) (fun c => absurd h25 c) (fun _ => ?_)
  refine r_aload_n C dL_law_99 3 rfl ?_
  obtain ⟨h26, hp⟩ := hp
  refine r_callS (wc := [sysB cI cL cP fl pl a L h v pl2 hi sa tx u w me fo fd taken f22]) (wr := [[(aA, .inl (cI, 4, .inl fA))]]) (st := []) C (m_L_isStore l D cI cL cP cJ fl pl a L h v pl2 hi sa tx u w me fo fd taken f22 h26) k_L_isStore t_487 [0, 1] (show ([0, 1] : List Nat).Perm (List.range 2) by decide) rfl rfl rfl (Nat.le_of_ble_eq_true rfl) ⟨Nat.le_of_ble_eq_true rfl, Nat.le_of_ble_eq_true rfl⟩ ⟨Nat.le_of_ble_eq_true rfl, Nat.le_of_ble_eq_true rfl⟩ dL_law_100 (fun r27 wr27 hw27 => ?_)
  obtain ⟨rfl, rfl⟩ := hw27
  refine r_ws (I' := [sysB cI cL cP fl pl a L h v pl2 hi sa tx u w me fo fd taken f22, [(aA, .inl (cI, 4, .inl fA))]]) rfl ?_
  refine r_if_eq (tgt := 115) C dL_law_103 (by decide) (fun c => absurd c (by decide)) (fun _ => ?_)
  refine r_aload_n C dL_law_106 3 rfl ?_
  refine r_bipush (v := 6) C dL_law_107 (by decide) ?_
  obtain ⟨h28, hp⟩ := hp
  refine r_callV (ci := 8) (wc := [sysB cI cL cP fl pl a L h v pl2 hi sa tx u w me fo fd taken f22]) (wr := [[(aA, .inl (cI, 4, .inl fA))]]) (st := []) C (m_S_count l D cI cL cP cJ fl pl a L h v pl2 hi sa tx u w me fo fd taken f22 6 h28) k_X10_count t_181 [0, 1] (show ([0, 1] : List Nat).Perm (List.range 2) by decide) rfl rfl rfl (q0 := 0) rfl rfl rfl (Nat.le_of_ble_eq_true rfl) ⟨Nat.le_of_ble_eq_true rfl, Nat.le_of_ble_eq_true rfl⟩ ⟨Nat.le_of_ble_eq_true rfl, Nat.le_of_ble_eq_true rfl⟩ dL_law_109 (fun r29 wr29 hw29 => ?_)
  obtain ⟨e_r29, rfl⟩ := hw29
  have hp := hp r29 e_r29
  refine r_ws (I' := [sysB cI cL cP fl pl a L h v pl2 hi sa tx u w me fo fd taken f22, [(aA, .inl (cI, 4, .inl fA))]]) rfl ?_
  obtain ⟨h30, hp⟩ := hp
  refine r_if_eq (tgt := 117) C dL_law_112 (by decide) (fun _ => ?_) (fun c => absurd h30 c)
  refine r_iconst (v := 0) C dL_law_117 (by decide) ?_
  refine r_istore (L' := [(4, .int 0), (3, .int z23), (0, .ref b), (1, .ref fl), (2, .ref aA)]) C dL_law_118 (by decide) rfl ?_
  have hpl := hp
  have hL : ∀ (nn : Nat) (k31 : St) (k32 : Nat → Int32) (y33 : Int32), P_L_law_L120 n_ xs nn k31 k32 y33 → (∀ f56 : St, f56 = (F_L_law_L120 n_ xs nn k31 k32 y33).1 → ∀ f57 : Nat → Int32, f57 = (F_L_law_L120 n_ xs nn k31 k32 y33).2.1 → ∀ z58 : Int32, z58 = (F_L_law_L120 n_ xs nn k31 k32 y33).2.2 → V p l e room_1 s m #[Value.ref b] below meth c 6 D A 153 3643 Q [sysB cI cL cP fl pl a L h v pl2 hi sa tx u w me fo fd taken f56, [(aA, .inl (cI, 4, .inl f57))]] [(4, .int z58), (3, .int z23), (0, .ref b), (1, .ref fl), (2, .ref aA)] 220 []) → V p l e room_1 s m #[Value.ref b] below meth c 6 D A 153 3643 Q [sysB cI cL cP fl pl a L h v pl2 hi sa tx u w me fo fd taken k31, [(aA, .inl (cI, 4, .inl k32))]] [(4, .int y33), (3, .int z23), (0, .ref b), (1, .ref fl), (2, .ref aA)] 120 [] := by
    clear hpl
    intro nn
    induction nn with
    | zero => intro k31 k32 y33 hp kk; rw [P_L_law_L120] at hp; exact hp.elim
    | succ nn ih =>
      intro k31 k32 y33 hp kk
      rw [P_L_law_L120] at hp
      refine r_iload C dL_law_120 0 rfl ?_
      refine r_bipush (v := 90) C dL_law_122 (by decide) ?_
      refine r_icmp_ge (tgt := 220) C dL_law_124 (by decide) (fun c34 => ?_) (fun c34 => ?_)
      · have eF : F_L_law_L120 n_ xs (nn + 1) k31 k32 y33 = (k31, k32, y33) := by simp only [F_L_law_L120, if_pos c34]
        exact kk _ (by rw [eF]) _ (by rw [eF]) _ (by rw [eF])
      · have hp := hp.2 c34
        refine r_aload_n C dL_law_127 2 rfl ?_
        refine r_iconst (v := 2) C dL_law_128 (by decide) ?_
        refine r_iload C dL_law_129 0 rfl ?_
        refine r_imul C dL_law_131 rfl ?_
        obtain ⟨h35, hp⟩ := hp
        refine r_callX (st := []) C X.1 X.2.1 X.2.2 (m_L_cell l D cI cL cP cJ b n_ xs ((2 : Int32) * y33) h35) k_L_cell t_402 rfl rfl (Nat.le_of_ble_eq_true rfl) ⟨Nat.le_of_ble_eq_true rfl, Nat.le_of_ble_eq_true rfl⟩ ⟨Nat.le_of_ble_eq_true rfl, Nat.le_of_ble_eq_true rfl⟩ dL_law_132 (fun r36 wr36 hw36 => ?_)
        obtain ⟨e_r36, rfl⟩ := hw36
        have hp := hp r36 e_r36
        refine r_ws (I' := [sysB cI cL cP fl pl a L h v pl2 hi sa tx u w me fo fd taken k31, [(aA, .inl (cI, 4, .inl k32))]]) rfl ?_
        refine r_istore (L' := [(5, .int r36), (4, .int y33), (3, .int z23), (0, .ref b), (1, .ref fl), (2, .ref aA)]) C dL_law_135 (by decide) rfl ?_
        refine r_aload_n C dL_law_137 4 rfl ?_
        refine r_iload C dL_law_138 0 rfl ?_
        refine r_aload_n C dL_law_140 3 rfl ?_
        refine r_iconst (v := 2) C dL_law_141 (by decide) ?_
        refine r_iload C dL_law_142 1 rfl ?_
        refine r_imul C dL_law_144 rfl ?_
        refine r_iconst (v := 1) C dL_law_145 (by decide) ?_
        refine r_iadd C dL_law_146 rfl ?_
        obtain ⟨h37, hp⟩ := hp
        refine r_callX (st := [.int r36, .ref fl]) C X.1 X.2.1 X.2.2 (m_L_cell l D cI cL cP cJ b n_ xs (((2 : Int32) * y33) + 1) h37) k_L_cell t_402 rfl rfl (Nat.le_of_ble_eq_true rfl) ⟨Nat.le_of_ble_eq_true rfl, Nat.le_of_ble_eq_true rfl⟩ ⟨Nat.le_of_ble_eq_true rfl, Nat.le_of_ble_eq_true rfl⟩ dL_law_147 (fun r38 wr38 hw38 => ?_)
        obtain ⟨e_r38, rfl⟩ := hw38
        have hp := hp r38 e_r38
        refine r_ws (I' := [sysB cI cL cP fl pl a L h v pl2 hi sa tx u w me fo fd taken k31, [(aA, .inl (cI, 4, .inl k32))]]) rfl ?_
        obtain ⟨h39, hp⟩ := hp
        refine r_callS (wc := [sysB cI cL cP fl pl a L h v pl2 hi sa tx u w me fo fd taken k31]) (wr := [[(aA, .inl (cI, 4, .inl k32))]]) (st := []) C (m_L_does l D cI cL cP cJ fl pl a L h v pl2 hi sa tx u w me fo fd taken k31 r36 r38 h39) k_L_does t_510 [0, 1] (show ([0, 1] : List Nat).Perm (List.range 2) by decide) rfl rfl rfl (Nat.le_of_ble_eq_true rfl) ⟨Nat.le_of_ble_eq_true rfl, Nat.le_of_ble_eq_true rfl⟩ ⟨Nat.le_of_ble_eq_true rfl, Nat.le_of_ble_eq_true rfl⟩ dL_law_150 (fun r40 wr40 hw40 => ?_)
        obtain ⟨rfl, rfl⟩ := hw40
        obtain ⟨x41, e_x41⟩ : ∃ z : St, z = F_L_does k31 r36 r38 := ⟨_, rfl⟩
        have hp := hp x41 e_x41
        refine r_ws (I' := [sysB cI cL cP fl pl a L h v pl2 hi sa tx u w me fo fd taken x41, [(aA, .inl (cI, 4, .inl k32))]]) (by rw [e_x41]; rfl) ?_
        refine r_if_eq (tgt := 212) C dL_law_153 (by decide) (fun c => absurd c (by decide)) (fun _ => ?_)
        refine r_aload_n C dL_law_156 4 rfl ?_
        refine r_iload C dL_law_157 0 rfl ?_
        refine r_iconst (v := 5) C dL_law_159 (by decide) ?_
        refine r_ishr C dL_law_160 rfl ?_
        refine r_iconst (v := 5) C dL_law_161 (by decide) ?_
        refine r_callS (wc := []) (wr := [sysB cI cL cP fl pl a L h v pl2 hi sa tx u w me fo fd taken x41, [(aA, .inl (cI, 4, .inl k32))]]) (st := [.ref fl]) C (m_L_low_5 l D cI cL cP cJ (r36 >>> ((5 : Int32) &&& 31))) k_L_low t_405 [0, 1] (show ([0, 1] : List Nat).Perm (List.range 2) by decide) rfl rfl rfl (Nat.le_of_ble_eq_true rfl) ⟨Nat.le_of_ble_eq_true rfl, Nat.le_of_ble_eq_true rfl⟩ ⟨Nat.le_of_ble_eq_true rfl, Nat.le_of_ble_eq_true rfl⟩ dL_law_162 (fun r42 wr42 hw42 => ?_)
        obtain ⟨e_r42, rfl⟩ := hw42
        have hp := hp r42 e_r42
        refine r_ws (I' := [sysB cI cL cP fl pl a L h v pl2 hi sa tx u w me fo fd taken x41, [(aA, .inl (cI, 4, .inl k32))]]) rfl ?_
        refine r_aload_n C dL_law_165 5 rfl ?_
        obtain ⟨h43, hp⟩ := hp
        refine r_callS (wc := [sysB cI cL cP fl pl a L h v pl2 hi sa tx u w me fo fd taken x41, [(aA, .inl (cI, 4, .inl k32))]]) (wr := []) (st := []) C (m_L_isLetter l D cI cL cP cJ fl pl a L h v pl2 hi sa tx u w me fo fd taken x41 aA k32 r42 h43) k_L_isLetter t_409 [0, 1] (show ([0, 1] : List Nat).Perm (List.range 2) by decide) rfl rfl rfl (Nat.le_of_ble_eq_true rfl) ⟨Nat.le_of_ble_eq_true rfl, Nat.le_of_ble_eq_true rfl⟩ ⟨Nat.le_of_ble_eq_true rfl, Nat.le_of_ble_eq_true rfl⟩ dL_law_166 (fun r44 wr44 hw44 => ?_)
        obtain ⟨rfl, rfl⟩ := hw44
        obtain ⟨g45, e_g45⟩ : ∃ z : Nat → Int32, z = F_L_isLetter x41 k32 r42 := ⟨_, rfl⟩
        have hp := hp g45 e_g45
        refine r_ws (I' := [sysB cI cL cP fl pl a L h v pl2 hi sa tx u w me fo fd taken x41, [(aA, .inl (cI, 4, .inl g45))]]) (by rw [e_g45]; rfl) ?_
        refine r_if_eq (tgt := 212) C dL_law_169 (by decide) (fun c => absurd c (by decide)) (fun _ => ?_)
        refine r_iload C dL_law_172 1 rfl ?_
        refine r_iconst (v := 4) C dL_law_174 (by decide) ?_
        refine r_irem C dL_law_175 (by decide) rfl ?_
        refine r_iconst (v := 1) C dL_law_176 (by decide) ?_
        obtain ⟨hps, hp⟩ := hp
        suffices K :  V p l e room_1 s m #[Value.ref b] below meth c 6 D A 153 3643 Q [sysB cI cL cP fl pl a L h v pl2 hi sa tx u w me fo fd taken x41, [(aA, .inl (cI, 4, .inl g45))]] [(5, .int r36), (4, .int y33), (3, .int z23), (0, .ref b), (1, .ref fl), (2, .ref aA)] 187 [] by
          have hp := hps
          refine r_icmp_ne (tgt := 187) C dL_law_177 (by decide) (fun c46 => ?_) (fun c46 => ?_)
          · exact K 
          · have hp := hp.1 c46
            refine r_aload_n C dL_law_180 4 rfl ?_
            have h47 := hp
            refine r_callS (wc := [sysB cI cL cP fl pl a L h v pl2 hi sa tx u w me fo fd taken x41]) (wr := [[(aA, .inl (cI, 4, .inl g45))]]) (st := []) C (m_L_isStore l D cI cL cP cJ fl pl a L h v pl2 hi sa tx u w me fo fd taken x41 h47) k_L_isStore t_487 [0, 1] (show ([0, 1] : List Nat).Perm (List.range 2) by decide) rfl rfl rfl (Nat.le_of_ble_eq_true rfl) ⟨Nat.le_of_ble_eq_true rfl, Nat.le_of_ble_eq_true rfl⟩ ⟨Nat.le_of_ble_eq_true rfl, Nat.le_of_ble_eq_true rfl⟩ dL_law_181 (fun r48 wr48 hw48 => ?_)
            obtain ⟨rfl, rfl⟩ := hw48
            refine r_ws (I' := [sysB cI cL cP fl pl a L h v pl2 hi sa tx u w me fo fd taken x41, [(aA, .inl (cI, 4, .inl g45))]]) rfl ?_
            refine r_if_eq (tgt := 212) C dL_law_184 (by decide) (fun c => absurd c (by decide)) (fun _ => ?_)
            exact K 
        skip
        refine r_iload C dL_law_187 1 rfl ?_
        refine r_iconst (v := 5) C dL_law_189 (by decide) ?_
        refine r_irem C dL_law_190 (by decide) rfl ?_
        refine r_iconst (v := 2) C dL_law_191 (by decide) ?_
        obtain ⟨hps, hp⟩ := hp
        suffices K : ∀ g54 : Nat → Int32, g54 = ((if (y33 - y33 / 5 * 5) = 2 then (let r50 : Int32 := F_L_low_5 (r36 >>> ((9 : Int32) &&& 31)); let g53 : Nat → Int32 := F_L_isLeast x41 g45 r50; g53) else (g45))) → V p l e room_1 s m #[Value.ref b] below meth c 6 D A 153 3643 Q [sysB cI cL cP fl pl a L h v pl2 hi sa tx u w me fo fd taken x41, [(aA, .inl (cI, 4, .inl g54))]] [(5, .int r36), (4, .int y33), (3, .int z23), (0, .ref b), (1, .ref fl), (2, .ref aA)] 214 [] by
          have hp := hps
          refine r_icmp_ne (tgt := 214) C dL_law_192 (by decide) (fun c49 => ?_) (fun c49 => ?_)
          · exact K _ (by simp only [if_neg c49])
          · have hp := hp.1 c49
            refine r_aload_n C dL_law_195 4 rfl ?_
            refine r_iload C dL_law_196 0 rfl ?_
            refine r_bipush (v := 9) C dL_law_198 (by decide) ?_
            refine r_ishr C dL_law_200 rfl ?_
            refine r_iconst (v := 5) C dL_law_201 (by decide) ?_
            refine r_callS (wc := []) (wr := [sysB cI cL cP fl pl a L h v pl2 hi sa tx u w me fo fd taken x41, [(aA, .inl (cI, 4, .inl g45))]]) (st := [.ref fl]) C (m_L_low_5 l D cI cL cP cJ (r36 >>> ((9 : Int32) &&& 31))) k_L_low t_405 [0, 1] (show ([0, 1] : List Nat).Perm (List.range 2) by decide) rfl rfl rfl (Nat.le_of_ble_eq_true rfl) ⟨Nat.le_of_ble_eq_true rfl, Nat.le_of_ble_eq_true rfl⟩ ⟨Nat.le_of_ble_eq_true rfl, Nat.le_of_ble_eq_true rfl⟩ dL_law_202 (fun r50 wr50 hw50 => ?_)
            obtain ⟨e_r50, rfl⟩ := hw50
            have hp := hp r50 e_r50
            refine r_ws (I' := [sysB cI cL cP fl pl a L h v pl2 hi sa tx u w me fo fd taken x41, [(aA, .inl (cI, 4, .inl g45))]]) rfl ?_
            refine r_aload_n C dL_law_205 5 rfl ?_
            have h51 := hp
            refine r_callS (wc := [sysB cI cL cP fl pl a L h v pl2 hi sa tx u w me fo fd taken x41, [(aA, .inl (cI, 4, .inl g45))]]) (wr := []) (st := []) C (m_L_isLeast l D cI cL cP cJ fl pl a L h v pl2 hi sa tx u w me fo fd taken x41 aA g45 r50 h51) k_L_isLeast t_471 [0, 1] (show ([0, 1] : List Nat).Perm (List.range 2) by decide) rfl rfl rfl (Nat.le_of_ble_eq_true rfl) ⟨Nat.le_of_ble_eq_true rfl, Nat.le_of_ble_eq_true rfl⟩ ⟨Nat.le_of_ble_eq_true rfl, Nat.le_of_ble_eq_true rfl⟩ dL_law_206 (fun r52 wr52 hw52 => ?_)
            obtain ⟨rfl, rfl⟩ := hw52
            obtain ⟨g53, e_g53⟩ : ∃ z : Nat → Int32, z = F_L_isLeast x41 g45 r50 := ⟨_, rfl⟩
            refine r_ws (I' := [sysB cI cL cP fl pl a L h v pl2 hi sa tx u w me fo fd taken x41, [(aA, .inl (cI, 4, .inl g53))]]) (by rw [e_g53]; rfl) ?_
            refine r_if_ne (tgt := 214) C dL_law_209 (by decide) (fun _ => ?_) (fun c => absurd c (by decide))
            exact K _ (by have q := e_r50.symm; subst q; have q := e_g53.symm; subst q; simp only [if_pos c49])
        intro g54 e_g54
        have hp := hp g54 e_g54
        obtain ⟨x55, e_x55⟩ : ∃ z : Int32, z = y33 + 1 := ⟨_, rfl⟩
        have hp := hp x55 e_x55
        refine r_iinc (v := x55) (L' := [(4, .int x55), (5, .int r36), (3, .int z23), (0, .ref b), (1, .ref fl), (2, .ref aA)]) C dL_law_214 1 rfl (by rw [e_x55]; exact ii (by decide)) (by decide) rfl ?_
        refine r_goto (tgt := 120) C dL_law_217 (by decide) ?_
        refine r_L (L' := [(4, .int x55), (3, .int z23), (0, .ref b), (1, .ref fl), (2, .ref aA)]) [0, 2, 3, 4, 5] rfl ?_
        have eF : F_L_law_L120 n_ xs (nn + 1) k31 k32 y33 = F_L_law_L120 n_ xs nn x41 g54 x55 := by have q := e_r36.symm; subst q; have q := e_r38.symm; subst q; have q := e_x41.symm; subst q; have q := e_r42.symm; subst q; have q := e_g45.symm; subst q; have q := e_g54.symm; subst q; have q := e_x55.symm; subst q; simp only [F_L_law_L120, if_neg c34]
        exact ih x41 g54 x55 hp (fun f56 e_f56 f57 e_f57 z58 e_z58 => kk f56 (by rw [eF]; exact e_f56) f57 (by rw [eF]; exact e_f57) z58 (by rw [eF]; exact e_z58))
  refine hL 91 f22 fA 0 hpl (fun f56 e_f56 f57 e_f57 z58 e_z58 => ?_)
  clear hL hpl
  exact Hend _ _
end

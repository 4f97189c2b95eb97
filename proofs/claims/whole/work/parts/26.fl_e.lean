theorem k_X10_mixedLetter : kV yX10_mixedLetter cX10_mixedLetter 7 (some .long) 2 := ⟨t_519, t_4, t_58, t_520, by decide +kernel, by decide +kernel, by decide +kernel⟩
set_option maxRecDepth 20000 in
def F_X10_mixedLetter (lie : Nat → Int32) (seals : Nat → Int32) (folds : Nat → Int32) (n : Nat → Int32) (f : Nat → Nat → Int32) (acc : Int64) (letter : Int32) : Int64 := let r2 : Int32 := F_X10_layer lie letter 0; let r3 : Int64 := F_X10_mixed acc ((r2 : Int32).toInt64); let r5 : Int32 := F_X10_layer lie letter 1; let r6 : Int64 := F_X10_mixed r3 ((r5 : Int32).toInt64); let r8 : Int32 := F_X10_layer lie letter 2; let r9 : Int64 := F_X10_mixed r6 ((r8 : Int32).toInt64); let r11 : Int32 := F_X10_layer lie letter 3; let r12 : Int64 := F_X10_mixed r9 ((r11 : Int32).toInt64); let r14 : Int32 := F_X10_letter lie seals folds n letter 0; let r15 : Int64 := F_X10_mixed r12 ((r14 : Int32).toInt64); let r17 : Int32 := F_X10_letter lie seals folds n letter 1; let r18 : Int64 := F_X10_mixed r15 ((r17 : Int32).toInt64); let r20 : Int32 := F_X10_letter lie seals folds n letter 2; let r21 : Int64 := F_X10_mixed r18 ((r20 : Int32).toInt64); let r23 : Int32 := F_X10_letter lie seals folds n letter 3; let r24 : Int64 := F_X10_mixed r21 ((r23 : Int32).toInt64); let r26 : Int32 := F_X10_letter lie seals folds n letter 4; let r27 : Int64 := F_X10_mixed r24 ((r26 : Int32).toInt64); let r29 : Int32 := F_X10_letter lie seals folds n letter 5; let r30 : Int64 := F_X10_mixed r27 ((r29 : Int32).toInt64); let r32 : Int32 := F_X10_letter lie seals folds n letter 6; let r33 : Int64 := F_X10_mixed r30 ((r32 : Int32).toInt64); let r35 : Int32 := F_X10_letter lie seals folds n letter 7; let r36 : Int64 := F_X10_mixed r33 ((r35 : Int32).toInt64); let r38 : Int32 := F_X10_letter lie seals folds n letter 8; let r39 : Int64 := F_X10_mixed r36 ((r38 : Int32).toInt64); let r41 : Int32 := F_X10_letter lie seals folds n letter 9; let r42 : Int64 := F_X10_mixed r39 ((r41 : Int32).toInt64); let r44 : Int32 := F_X10_letter lie seals folds n letter 10; let r45 : Int64 := F_X10_mixed r42 ((r44 : Int32).toInt64); let r51 : Int64 := F_X10_mixedRow_P n f letter.toNatClampNeg r45; let r55 : Int32 := F_X2_lie_P lie letter.toNatClampNeg; let r57 : Int64 := F_X10_mixedLeastWord r51 r55; let r59 : Int32 := F_X10_why seals n letter 0; let r60 : Int64 := F_X10_mixed r57 ((r59 : Int32).toInt64); let r62 : Int32 := F_X10_why seals n letter 1; let r63 : Int64 := F_X10_mixed r60 ((r62 : Int32).toInt64); let r65 : Int32 := F_X10_why seals n letter 2; let r66 : Int64 := F_X10_mixed r63 ((r65 : Int32).toInt64); let r68 : Int32 := F_X10_why seals n letter 3; let r69 : Int64 := F_X10_mixed r66 ((r68 : Int32).toInt64); let r71 : Int32 := F_X10_ifFolded lie letter 0; let r72 : Int64 := F_X10_mixed r69 ((r71 : Int32).toInt64); let r74 : Int32 := F_X10_ifFolded lie letter 1; let r75 : Int64 := F_X10_mixed r72 ((r74 : Int32).toInt64); let r77 : Int32 := F_X10_ifFolded lie letter 2; let r78 : Int64 := F_X10_mixed r75 ((r77 : Int32).toInt64); let r80 : Int32 := F_X10_ifFolded lie letter 3; let r81 : Int64 := F_X10_mixed r78 ((r80 : Int32).toInt64); let r83 : Int32 := F_X10_distance lie letter 0; let r84 : Int64 := F_X10_mixed r81 ((r83 : Int32).toInt64); let r86 : Int32 := F_X10_distance lie letter 1; let r87 : Int64 := F_X10_mixed r84 ((r86 : Int32).toInt64); let r89 : Int32 := F_X10_distance lie letter 2; let r90 : Int64 := F_X10_mixed r87 ((r89 : Int32).toInt64); let r92 : Int32 := F_X10_distance lie letter 3; let r93 : Int64 := F_X10_mixed r90 ((r92 : Int32).toInt64); let r95 : Int32 := F_X10_distance lie letter 4; let r96 : Int64 := F_X10_mixed r93 ((r95 : Int32).toInt64); let r98 : Int32 := F_X10_nearest lie letter; let r99 : Int64 := F_X10_mixed r96 ((r98 : Int32).toInt64); r99
set_option maxRecDepth 20000 in
def P_X10_mixedLetter (lie : Nat → Int32) (seals : Nat → Int32) (folds : Nat → Int32) (n : Nat → Int32) (f : Nat → Nat → Int32) (acc : Int64) (letter : Int32) : Prop := ((P_X10_layer letter 0) ∧ (∀ r2 : Int32, r2 = F_X10_layer lie letter 0 → (∀ r3 : Int64, r3 = F_X10_mixed acc ((r2 : Int32).toInt64) → ((P_X10_layer letter 1) ∧ (∀ r5 : Int32, r5 = F_X10_layer lie letter 1 → (∀ r6 : Int64, r6 = F_X10_mixed r3 ((r5 : Int32).toInt64) → ((P_X10_layer letter 2) ∧ (∀ r8 : Int32, r8 = F_X10_layer lie letter 2 → (∀ r9 : Int64, r9 = F_X10_mixed r6 ((r8 : Int32).toInt64) → ((P_X10_layer letter 3) ∧ (∀ r11 : Int32, r11 = F_X10_layer lie letter 3 → (∀ r12 : Int64, r12 = F_X10_mixed r9 ((r11 : Int32).toInt64) → ((P_X10_letter lie letter 0) ∧ (∀ r14 : Int32, r14 = F_X10_letter lie seals folds n letter 0 → (∀ r15 : Int64, r15 = F_X10_mixed r12 ((r14 : Int32).toInt64) → ((P_X10_letter lie letter 1) ∧ (∀ r17 : Int32, r17 = F_X10_letter lie seals folds n letter 1 → (∀ r18 : Int64, r18 = F_X10_mixed r15 ((r17 : Int32).toInt64) → ((P_X10_letter lie letter 2) ∧ (∀ r20 : Int32, r20 = F_X10_letter lie seals folds n letter 2 → (∀ r21 : Int64, r21 = F_X10_mixed r18 ((r20 : Int32).toInt64) → ((P_X10_letter lie letter 3) ∧ (∀ r23 : Int32, r23 = F_X10_letter lie seals folds n letter 3 → (∀ r24 : Int64, r24 = F_X10_mixed r21 ((r23 : Int32).toInt64) → ((P_X10_letter lie letter 4) ∧ (∀ r26 : Int32, r26 = F_X10_letter lie seals folds n letter 4 → (∀ r27 : Int64, r27 = F_X10_mixed r24 ((r26 : Int32).toInt64) → ((P_X10_letter lie letter 5) ∧ (∀ r29 : Int32, r29 = F_X10_letter lie seals folds n letter 5 → (∀ r30 : Int64, r30 = F_X10_mixed r27 ((r29 : Int32).toInt64) → ((P_X10_letter lie letter 6) ∧ (∀ r32 : Int32, r32 = F_X10_letter lie seals folds n letter 6 → (∀ r33 : Int64, r33 = F_X10_mixed r30 ((r32 : Int32).toInt64) → ((P_X10_letter lie letter 7) ∧ (∀ r35 : Int32, r35 = F_X10_letter lie seals folds n letter 7 → (∀ r36 : Int64, r36 = F_X10_mixed r33 ((r35 : Int32).toInt64) → ((P_X10_letter lie letter 8) ∧ (∀ r38 : Int32, r38 = F_X10_letter lie seals folds n letter 8 → (∀ r39 : Int64, r39 = F_X10_mixed r36 ((r38 : Int32).toInt64) → ((P_X10_letter lie letter 9) ∧ (∀ r41 : Int32, r41 = F_X10_letter lie seals folds n letter 9 → (∀ r42 : Int64, r42 = F_X10_mixed r39 ((r41 : Int32).toInt64) → ((P_X10_letter lie letter 10) ∧ (∀ r44 : Int32, r44 = F_X10_letter lie seals folds n letter 10 → (∀ r45 : Int64, r45 = F_X10_mixed r42 ((r44 : Int32).toInt64) → ((P_X4_atB letter) ∧ ((P_X2_remembered_P letter.toNatClampNeg) ∧ ((P_X10_mixedRow_P n f letter.toNatClampNeg r45) ∧ (∀ r51 : Int64, r51 = F_X10_mixedRow_P n f letter.toNatClampNeg r45 → ((P_X4_atB letter) ∧ ((P_X2_lie_P letter.toNatClampNeg) ∧ (∀ r55 : Int32, r55 = F_X2_lie_P lie letter.toNatClampNeg → ((P_X10_mixedLeastWord r51 r55) ∧ (∀ r57 : Int64, r57 = F_X10_mixedLeastWord r51 r55 → ((P_X10_why letter 0) ∧ (∀ r59 : Int32, r59 = F_X10_why seals n letter 0 → (∀ r60 : Int64, r60 = F_X10_mixed r57 ((r59 : Int32).toInt64) → ((P_X10_why letter 1) ∧ (∀ r62 : Int32, r62 = F_X10_why seals n letter 1 → (∀ r63 : Int64, r63 = F_X10_mixed r60 ((r62 : Int32).toInt64) → ((P_X10_why letter 2) ∧ (∀ r65 : Int32, r65 = F_X10_why seals n letter 2 → (∀ r66 : Int64, r66 = F_X10_mixed r63 ((r65 : Int32).toInt64) → ((P_X10_why letter 3) ∧ (∀ r68 : Int32, r68 = F_X10_why seals n letter 3 → (∀ r69 : Int64, r69 = F_X10_mixed r66 ((r68 : Int32).toInt64) → ((P_X10_ifFolded letter 0) ∧ (∀ r71 : Int32, r71 = F_X10_ifFolded lie letter 0 → (∀ r72 : Int64, r72 = F_X10_mixed r69 ((r71 : Int32).toInt64) → ((P_X10_ifFolded letter 1) ∧ (∀ r74 : Int32, r74 = F_X10_ifFolded lie letter 1 → (∀ r75 : Int64, r75 = F_X10_mixed r72 ((r74 : Int32).toInt64) → ((P_X10_ifFolded letter 2) ∧ (∀ r77 : Int32, r77 = F_X10_ifFolded lie letter 2 → (∀ r78 : Int64, r78 = F_X10_mixed r75 ((r77 : Int32).toInt64) → ((P_X10_ifFolded letter 3) ∧ (∀ r80 : Int32, r80 = F_X10_ifFolded lie letter 3 → (∀ r81 : Int64, r81 = F_X10_mixed r78 ((r80 : Int32).toInt64) → ((P_X10_distance lie letter 0) ∧ (∀ r83 : Int32, r83 = F_X10_distance lie letter 0 → (∀ r84 : Int64, r84 = F_X10_mixed r81 ((r83 : Int32).toInt64) → ((P_X10_distance lie letter 1) ∧ (∀ r86 : Int32, r86 = F_X10_distance lie letter 1 → (∀ r87 : Int64, r87 = F_X10_mixed r84 ((r86 : Int32).toInt64) → ((P_X10_distance lie letter 2) ∧ (∀ r89 : Int32, r89 = F_X10_distance lie letter 2 → (∀ r90 : Int64, r90 = F_X10_mixed r87 ((r89 : Int32).toInt64) → ((P_X10_distance lie letter 3) ∧ (∀ r92 : Int32, r92 = F_X10_distance lie letter 3 → (∀ r93 : Int64, r93 = F_X10_mixed r90 ((r92 : Int32).toInt64) → ((P_X10_distance lie letter 4) ∧ (∀ r95 : Int32, r95 = F_X10_distance lie letter 4 → (∀ r96 : Int64, r96 = F_X10_mixed r93 ((r95 : Int32).toInt64) → (P_X10_nearest letter))))))))))))))))))))))))))))))))))))))))))))))))))))))))))))))))))))))))))))))))))))))))))))))
set_option maxRecDepth 20000 in
set_option maxHeartbeats 8000000 in
theorem m_X10_mixedLetter (l : Launch) (D : va_G) (cI cL cP cJ : ClassId) (fl : Nat) (pl : Nat) (a : Nat) (L : Nat → Nat) (h : Nat → Nat) (v : Nat → Nat) (lie : Nat → Int32) (seals : Nat → Int32) (folds : Nat → Int32) (n : Nat → Int32) (f : Nat → Nat → Int32) (pl2 : Nat) (hi : Nat) (tx : Nat) (u : Nat) (w : Nat) (taken : Int32) (acc : Int64) (letter : Int32) (hp : P_X10_mixedLetter lie seals folds n f acc letter) : M vJ l yX10_mixedLetter cX10_mixedLetter 7 (some .long) 6 131 D (tyF cI cL cP cJ) [.ref fl, .long acc, .int letter] [[(fl, .inr (8, [.ref pl, .ref pl2, .ref hi, .ref tx, .ref u, .ref w, .int taken]))], pileB cI cL pl a L h v lie seals folds n f] (fun (r : Int64) (w1 : List va_W) => r = (F_X10_mixedLetter lie seals folds n f acc letter) ∧ w1 = [[(fl, .inr (8, [.ref pl, .ref pl2, .ref hi, .ref tx, .ref u, .ref w, .int taken]))], pileB cI cL pl a L h v lie seals folds n f]) := by
  unfold P_X10_mixedLetter at hp
  refine m_start (by decide +kernel) (Nat.le_of_ble_eq_true rfl) (fun p e s m args below meth c A Q hA hQ C hr hlo => ?_)
  refine r_Le (L' := [(0, .ref fl), (1, .long acc), (3, .int letter)]) rfl ?_
  refine r_lload_n C dX10_mixedLetter_0 1 rfl ?_
  refine r_lstore (L' := [(4, .long acc), (0, .ref fl), (1, .long acc), (3, .int letter)]) C dX10_mixedLetter_1 (by decide) rfl ?_
  refine r_iconst (v := 0) C dX10_mixedLetter_3 (by decide) ?_
  refine r_istore (L' := [(6, .int 0), (4, .long acc), (0, .ref fl), (1, .long acc), (3, .int letter)]) C dX10_mixedLetter_4 (by decide) rfl ?_
  refine r_iload C dX10_mixedLetter_6 0 rfl ?_
  refine r_iconst (v := 4) C dX10_mixedLetter_8 (by decide) ?_
  refine r_icmp_ge (tgt := 33) C dX10_mixedLetter_9 (by decide) (fun c => absurd c (by decide)) (fun _ => ?_)
  refine r_lload C dX10_mixedLetter_12 1 rfl ?_
  refine r_aload_n C dX10_mixedLetter_14 2 rfl ?_
  refine r_iload_n C dX10_mixedLetter_15 4 rfl ?_
  refine r_iload C dX10_mixedLetter_16 0 rfl ?_
  obtain ⟨h1, hp⟩ := hp
  refine r_callV (ci := 8) (wc := [[(fl, .inr (8, [.ref pl, .ref pl2, .ref hi, .ref tx, .ref u, .ref w, .int taken]))], pileB cI cL pl a L h v lie seals folds n f]) (wr := []) (st := [.long acc]) C (m_X10_layer l D cI cL cP cJ fl pl a L h v lie seals folds n f pl2 hi tx u w taken letter 0 h1) k_X10_layer t_521 [0, 1] (show ([0, 1] : List Nat).Perm (List.range 2) by decide) rfl rfl rfl (q0 := 0) rfl rfl rfl (Nat.le_of_ble_eq_true rfl) ⟨Nat.le_of_ble_eq_true rfl, Nat.le_of_ble_eq_true rfl⟩ ⟨Nat.zero_le _, Nat.zero_le _⟩ dX10_mixedLetter_18 (fun r2 wr2 hw2 => ?_)
  obtain ⟨e_r2, rfl⟩ := hw2
  have hp := hp r2 e_r2
  refine r_ws (I' := [[(fl, .inr (8, [.ref pl, .ref pl2, .ref hi, .ref tx, .ref u, .ref w, .int taken]))], pileB cI cL pl a L h v lie seals folds n f]) rfl ?_
  refine r_i2l C dX10_mixedLetter_21 rfl ?_
  refine r_callS (wc := []) (wr := [[(fl, .inr (8, [.ref pl, .ref pl2, .ref hi, .ref tx, .ref u, .ref w, .int taken]))], pileB cI cL pl a L h v lie seals folds n f]) (st := []) C (m_X10_mixed l D cI cL cP cJ acc ((r2 : Int32).toInt64)) k_X10_mixed t_513 [0, 1] (show ([0, 1] : List Nat).Perm (List.range 2) by decide) rfl rfl rfl (Nat.le_of_ble_eq_true rfl) ⟨Nat.le_of_ble_eq_true rfl, Nat.le_of_ble_eq_true rfl⟩ ⟨Nat.zero_le _, Nat.zero_le _⟩ dX10_mixedLetter_22 (fun r3 wr3 hw3 => ?_)
  obtain ⟨e_r3, rfl⟩ := hw3
  have hp := hp r3 e_r3
  refine r_ws (I' := [[(fl, .inr (8, [.ref pl, .ref pl2, .ref hi, .ref tx, .ref u, .ref w, .int taken]))], pileB cI cL pl a L h v lie seals folds n f]) rfl ?_
  refine r_lstore (L' := [(4, .long r3), (6, .int 0), (0, .ref fl), (1, .long acc), (3, .int letter)]) C dX10_mixedLetter_25 (by decide) rfl ?_
  refine r_iinc (v := 1) (L' := [(6, .int 1), (4, .long r3), (0, .ref fl), (1, .long acc), (3, .int letter)]) C dX10_mixedLetter_27 1 rfl (by decide) (by decide) rfl ?_
  refine r_goto (tgt := 6) C dX10_mixedLetter_30 (by decide) ?_
  refine r_iload C dX10_mixedLetter_6 0 rfl ?_
  refine r_iconst (v := 4) C dX10_mixedLetter_8 (by decide) ?_
  refine r_icmp_ge (tgt := 33) C dX10_mixedLetter_9 (by decide) (fun c => absurd c (by decide)) (fun _ => ?_)
  refine r_lload C dX10_mixedLetter_12 1 rfl ?_
  refine r_aload_n C dX10_mixedLetter_14 2 rfl ?_
  refine r_iload_n C dX10_mixedLetter_15 4 rfl ?_
  refine r_iload C dX10_mixedLetter_16 0 rfl ?_
  obtain ⟨h4, hp⟩ := hp
  refine r_callV (ci := 8) (wc := [[(fl, .inr (8, [.ref pl, .ref pl2, .ref hi, .ref tx, .ref u, .ref w, .int taken]))], pileB cI cL pl a L h v lie seals folds n f]) (wr := []) (st := [.long r3]) C (m_X10_layer l D cI cL cP cJ fl pl a L h v lie seals folds n f pl2 hi tx u w taken letter 1 h4) k_X10_layer t_521 [0, 1] (show ([0, 1] : List Nat).Perm (List.range 2) by decide) rfl rfl rfl (q0 := 0) rfl rfl rfl (Nat.le_of_ble_eq_true rfl) ⟨Nat.le_of_ble_eq_true rfl, Nat.le_of_ble_eq_true rfl⟩ ⟨Nat.zero_le _, Nat.zero_le _⟩ dX10_mixedLetter_18 (fun r5 wr5 hw5 => ?_)
  obtain ⟨e_r5, rfl⟩ := hw5
  have hp := hp r5 e_r5
  refine r_ws (I' := [[(fl, .inr (8, [.ref pl, .ref pl2, .ref hi, .ref tx, .ref u, .ref w, .int taken]))], pileB cI cL pl a L h v lie seals folds n f]) rfl ?_
  refine r_i2l C dX10_mixedLetter_21 rfl ?_
  refine r_callS (wc := []) (wr := [[(fl, .inr (8, [.ref pl, .ref pl2, .ref hi, .ref tx, .ref u, .ref w, .int taken]))], pileB cI cL pl a L h v lie seals folds n f]) (st := []) C (m_X10_mixed l D cI cL cP cJ r3 ((r5 : Int32).toInt64)) k_X10_mixed t_513 [0, 1] (show ([0, 1] : List Nat).Perm (List.range 2) by decide) rfl rfl rfl (Nat.le_of_ble_eq_true rfl) ⟨Nat.le_of_ble_eq_true rfl, Nat.le_of_ble_eq_true rfl⟩ ⟨Nat.zero_le _, Nat.zero_le _⟩ dX10_mixedLetter_22 (fun r6 wr6 hw6 => ?_)
  obtain ⟨e_r6, rfl⟩ := hw6
  have hp := hp r6 e_r6
  refine r_ws (I' := [[(fl, .inr (8, [.ref pl, .ref pl2, .ref hi, .ref tx, .ref u, .ref w, .int taken]))], pileB cI cL pl a L h v lie seals folds n f]) rfl ?_
  refine r_lstore (L' := [(4, .long r6), (6, .int 1), (0, .ref fl), (1, .long acc), (3, .int letter)]) C dX10_mixedLetter_25 (by decide) rfl ?_
  refine r_iinc (v := 2) (L' := [(6, .int 2), (4, .long r6), (0, .ref fl), (1, .long acc), (3, .int letter)]) C dX10_mixedLetter_27 1 rfl (by decide) (by decide) rfl ?_
  refine r_goto (tgt := 6) C dX10_mixedLetter_30 (by decide) ?_
  refine r_iload C dX10_mixedLetter_6 0 rfl ?_
  refine r_iconst (v := 4) C dX10_mixedLetter_8 (by decide) ?_
  refine r_icmp_ge (tgt := 33) C dX10_mixedLetter_9 (by decide) (fun c => absurd c (by decide)) (fun _ => ?_)
  refine r_lload C dX10_mixedLetter_12 1 rfl ?_
  refine r_aload_n C dX10_mixedLetter_14 2 rfl ?_
  refine r_iload_n C dX10_mixedLetter_15 4 rfl ?_
  refine r_iload C dX10_mixedLetter_16 0 rfl ?_
  obtain ⟨h7, hp⟩ := hp
  refine r_callV (ci := 8) (wc := [[(fl, .inr (8, [.ref pl, .ref pl2, .ref hi, .ref tx, .ref u, .ref w, .int taken]))], pileB cI cL pl a L h v lie seals folds n f]) (wr := []) (st := [.long r6]) C (m_X10_layer l D cI cL cP cJ fl pl a L h v lie seals folds n f pl2 hi tx u w taken letter 2 h7) k_X10_layer t_521 [0, 1] (show ([0, 1] : List Nat).Perm (List.range 2) by decide) rfl rfl rfl (q0 := 0) rfl rfl rfl (Nat.le_of_ble_eq_true rfl) ⟨Nat.le_of_ble_eq_true rfl, Nat.le_of_ble_eq_true rfl⟩ ⟨Nat.zero_le _, Nat.zero_le _⟩ dX10_mixedLetter_18 (fun r8 wr8 hw8 => ?_)
  obtain ⟨e_r8, rfl⟩ := hw8
  have hp := hp r8 e_r8
  refine r_ws (I' := [[(fl, .inr (8, [.ref pl, .ref pl2, .ref hi, .ref tx, .ref u, .ref w, .int taken]))], pileB cI cL pl a L h v lie seals folds n f]) rfl ?_
  refine r_i2l C dX10_mixedLetter_21 rfl ?_
  refine r_callS (wc := []) (wr := [[(fl, .inr (8, [.ref pl, .ref pl2, .ref hi, .ref tx, .ref u, .ref w, .int taken]))], pileB cI cL pl a L h v lie seals folds n f]) (st := []) C (m_X10_mixed l D cI cL cP cJ r6 ((r8 : Int32).toInt64)) k_X10_mixed t_513 [0, 1] (show ([0, 1] : List Nat).Perm (List.range 2) by decide) rfl rfl rfl (Nat.le_of_ble_eq_true rfl) ⟨Nat.le_of_ble_eq_true rfl, Nat.le_of_ble_eq_true rfl⟩ ⟨Nat.zero_le _, Nat.zero_le _⟩ dX10_mixedLetter_22 (fun r9 wr9 hw9 => ?_)
  obtain ⟨e_r9, rfl⟩ := hw9
  have hp := hp r9 e_r9
  refine r_ws (I' := [[(fl, .inr (8, [.ref pl, .ref pl2, .ref hi, .ref tx, .ref u, .ref w, .int taken]))], pileB cI cL pl a L h v lie seals folds n f]) rfl ?_
  refine r_lstore (L' := [(4, .long r9), (6, .int 2), (0, .ref fl), (1, .long acc), (3, .int letter)]) C dX10_mixedLetter_25 (by decide) rfl ?_
  refine r_iinc (v := 3) (L' := [(6, .int 3), (4, .long r9), (0, .ref fl), (1, .long acc), (3, .int letter)]) C dX10_mixedLetter_27 1 rfl (by decide) (by decide) rfl ?_
  refine r_goto (tgt := 6) C dX10_mixedLetter_30 (by decide) ?_
  refine r_iload C dX10_mixedLetter_6 0 rfl ?_
  refine r_iconst (v := 4) C dX10_mixedLetter_8 (by decide) ?_
  refine r_icmp_ge (tgt := 33) C dX10_mixedLetter_9 (by decide) (fun c => absurd c (by decide)) (fun _ => ?_)
  refine r_lload C dX10_mixedLetter_12 1 rfl ?_
  refine r_aload_n C dX10_mixedLetter_14 2 rfl ?_
  refine r_iload_n C dX10_mixedLetter_15 4 rfl ?_
  refine r_iload C dX10_mixedLetter_16 0 rfl ?_
  obtain ⟨h10, hp⟩ := hp
  refine r_callV (ci := 8) (wc := [[(fl, .inr (8, [.ref pl, .ref pl2, .ref hi, .ref tx, .ref u, .ref w, .int taken]))], pileB cI cL pl a L h v lie seals folds n f]) (wr := []) (st := [.long r9]) C (m_X10_layer l D cI cL cP cJ fl pl a L h v lie seals folds n f pl2 hi tx u w taken letter 3 h10) k_X10_layer t_521 [0, 1] (show ([0, 1] : List Nat).Perm (List.range 2) by decide) rfl rfl rfl (q0 := 0) rfl rfl rfl (Nat.le_of_ble_eq_true rfl) ⟨Nat.le_of_ble_eq_true rfl, Nat.le_of_ble_eq_true rfl⟩ ⟨Nat.zero_le _, Nat.zero_le _⟩ dX10_mixedLetter_18 (fun r11 wr11 hw11 => ?_)
  obtain ⟨e_r11, rfl⟩ := hw11
  have hp := hp r11 e_r11
  refine r_ws (I' := [[(fl, .inr (8, [.ref pl, .ref pl2, .ref hi, .ref tx, .ref u, .ref w, .int taken]))], pileB cI cL pl a L h v lie seals folds n f]) rfl ?_
  refine r_i2l C dX10_mixedLetter_21 rfl ?_
  refine r_callS (wc := []) (wr := [[(fl, .inr (8, [.ref pl, .ref pl2, .ref hi, .ref tx, .ref u, .ref w, .int taken]))], pileB cI cL pl a L h v lie seals folds n f]) (st := []) C (m_X10_mixed l D cI cL cP cJ r9 ((r11 : Int32).toInt64)) k_X10_mixed t_513 [0, 1] (show ([0, 1] : List Nat).Perm (List.range 2) by decide) rfl rfl rfl (Nat.le_of_ble_eq_true rfl) ⟨Nat.le_of_ble_eq_true rfl, Nat.le_of_ble_eq_true rfl⟩ ⟨Nat.zero_le _, Nat.zero_le _⟩ dX10_mixedLetter_22 (fun r12 wr12 hw12 => ?_)
  obtain ⟨e_r12, rfl⟩ := hw12
  have hp := hp r12 e_r12
  refine r_ws (I' := [[(fl, .inr (8, [.ref pl, .ref pl2, .ref hi, .ref tx, .ref u, .ref w, .int taken]))], pileB cI cL pl a L h v lie seals folds n f]) rfl ?_
  refine r_lstore (L' := [(4, .long r12), (6, .int 3), (0, .ref fl), (1, .long acc), (3, .int letter)]) C dX10_mixedLetter_25 (by decide) rfl ?_
  refine r_iinc (v := 4) (L' := [(6, .int 4), (4, .long r12), (0, .ref fl), (1, .long acc), (3, .int letter)]) C dX10_mixedLetter_27 1 rfl (by decide) (by decide) rfl ?_
  refine r_goto (tgt := 6) C dX10_mixedLetter_30 (by decide) ?_
  refine r_iload C dX10_mixedLetter_6 0 rfl ?_
  refine r_iconst (v := 4) C dX10_mixedLetter_8 (by decide) ?_
  refine r_icmp_ge (tgt := 33) C dX10_mixedLetter_9 (by decide) (fun _ => ?_) (fun c => absurd c (by decide))
  refine r_iconst (v := 0) C dX10_mixedLetter_33 (by decide) ?_
  refine r_istore (L' := [(6, .int 0), (4, .long r12), (0, .ref fl), (1, .long acc), (3, .int letter)]) C dX10_mixedLetter_34 (by decide) rfl ?_
  refine r_iload C dX10_mixedLetter_36 0 rfl ?_
  refine r_bipush (v := 10) C dX10_mixedLetter_38 (by decide) ?_
  refine r_icmp_gt (tgt := 64) C dX10_mixedLetter_40 (by decide) (fun c => absurd c (by decide)) (fun _ => ?_)
  refine r_lload C dX10_mixedLetter_43 1 rfl ?_
  refine r_aload_n C dX10_mixedLetter_45 2 rfl ?_
  refine r_iload_n C dX10_mixedLetter_46 4 rfl ?_
  refine r_iload C dX10_mixedLetter_47 0 rfl ?_
  obtain ⟨h13, hp⟩ := hp
  refine r_callV (ci := 8) (wc := [[(fl, .inr (8, [.ref pl, .ref pl2, .ref hi, .ref tx, .ref u, .ref w, .int taken]))], pileB cI cL pl a L h v lie seals folds n f]) (wr := []) (st := [.long r12]) C (m_X10_letter l D cI cL cP cJ fl pl a L h v lie seals folds n f pl2 hi tx u w taken letter 0 h13) k_X10_letter t_534 [0, 1] (show ([0, 1] : List Nat).Perm (List.range 2) by decide) rfl rfl rfl (q0 := 0) rfl rfl rfl (Nat.le_of_ble_eq_true rfl) ⟨Nat.le_of_ble_eq_true rfl, Nat.le_of_ble_eq_true rfl⟩ ⟨Nat.zero_le _, Nat.zero_le _⟩ dX10_mixedLetter_49 (fun r14 wr14 hw14 => ?_)
  obtain ⟨e_r14, rfl⟩ := hw14
  have hp := hp r14 e_r14
  refine r_ws (I' := [[(fl, .inr (8, [.ref pl, .ref pl2, .ref hi, .ref tx, .ref u, .ref w, .int taken]))], pileB cI cL pl a L h v lie seals folds n f]) rfl ?_
  refine r_i2l C dX10_mixedLetter_52 rfl ?_
  refine r_callS (wc := []) (wr := [[(fl, .inr (8, [.ref pl, .ref pl2, .ref hi, .ref tx, .ref u, .ref w, .int taken]))], pileB cI cL pl a L h v lie seals folds n f]) (st := []) C (m_X10_mixed l D cI cL cP cJ r12 ((r14 : Int32).toInt64)) k_X10_mixed t_513 [0, 1] (show ([0, 1] : List Nat).Perm (List.range 2) by decide) rfl rfl rfl (Nat.le_of_ble_eq_true rfl) ⟨Nat.le_of_ble_eq_true rfl, Nat.le_of_ble_eq_true rfl⟩ ⟨Nat.zero_le _, Nat.zero_le _⟩ dX10_mixedLetter_53 (fun r15 wr15 hw15 => ?_)
  obtain ⟨e_r15, rfl⟩ := hw15
  have hp := hp r15 e_r15
  refine r_ws (I' := [[(fl, .inr (8, [.ref pl, .ref pl2, .ref hi, .ref tx, .ref u, .ref w, .int taken]))], pileB cI cL pl a L h v lie seals folds n f]) rfl ?_
  refine r_lstore (L' := [(4, .long r15), (6, .int 0), (0, .ref fl), (1, .long acc), (3, .int letter)]) C dX10_mixedLetter_56 (by decide) rfl ?_
  refine r_iinc (v := 1) (L' := [(6, .int 1), (4, .long r15), (0, .ref fl), (1, .long acc), (3, .int letter)]) C dX10_mixedLetter_58 1 rfl (by decide) (by decide) rfl ?_
  refine r_goto (tgt := 36) C dX10_mixedLetter_61 (by decide) ?_
  refine r_iload C dX10_mixedLetter_36 0 rfl ?_
  refine r_bipush (v := 10) C dX10_mixedLetter_38 (by decide) ?_
  refine r_icmp_gt (tgt := 64) C dX10_mixedLetter_40 (by decide) (fun c => absurd c (by decide)) (fun _ => ?_)
  refine r_lload C dX10_mixedLetter_43 1 rfl ?_
  refine r_aload_n C dX10_mixedLetter_45 2 rfl ?_
  refine r_iload_n C dX10_mixedLetter_46 4 rfl ?_
  refine r_iload C dX10_mixedLetter_47 0 rfl ?_
  obtain ⟨h16, hp⟩ := hp
  refine r_callV (ci := 8) (wc := [[(fl, .inr (8, [.ref pl, .ref pl2, .ref hi, .ref tx, .ref u, .ref w, .int taken]))], pileB cI cL pl a L h v lie seals folds n f]) (wr := []) (st := [.long r15]) C (m_X10_letter l D cI cL cP cJ fl pl a L h v lie seals folds n f pl2 hi tx u w taken letter 1 h16) k_X10_letter t_534 [0, 1] (show ([0, 1] : List Nat).Perm (List.range 2) by decide) rfl rfl rfl (q0 := 0) rfl rfl rfl (Nat.le_of_ble_eq_true rfl) ⟨Nat.le_of_ble_eq_true rfl, Nat.le_of_ble_eq_true rfl⟩ ⟨Nat.zero_le _, Nat.zero_le _⟩ dX10_mixedLetter_49 (fun r17 wr17 hw17 => ?_)
  obtain ⟨e_r17, rfl⟩ := hw17
  have hp := hp r17 e_r17
  refine r_ws (I' := [[(fl, .inr (8, [.ref pl, .ref pl2, .ref hi, .ref tx, .ref u, .ref w, .int taken]))], pileB cI cL pl a L h v lie seals folds n f]) rfl ?_
  refine r_i2l C dX10_mixedLetter_52 rfl ?_
  refine r_callS (wc := []) (wr := [[(fl, .inr (8, [.ref pl, .ref pl2, .ref hi, .ref tx, .ref u, .ref w, .int taken]))], pileB cI cL pl a L h v lie seals folds n f]) (st := []) C (m_X10_mixed l D cI cL cP cJ r15 ((r17 : Int32).toInt64)) k_X10_mixed t_513 [0, 1] (show ([0, 1] : List Nat).Perm (List.range 2) by decide) rfl rfl rfl (Nat.le_of_ble_eq_true rfl) ⟨Nat.le_of_ble_eq_true rfl, Nat.le_of_ble_eq_true rfl⟩ ⟨Nat.zero_le _, Nat.zero_le _⟩ dX10_mixedLetter_53 (fun r18 wr18 hw18 => ?_)
  obtain ⟨e_r18, rfl⟩ := hw18
  have hp := hp r18 e_r18
  refine r_ws (I' := [[(fl, .inr (8, [.ref pl, .ref pl2, .ref hi, .ref tx, .ref u, .ref w, .int taken]))], pileB cI cL pl a L h v lie seals folds n f]) rfl ?_
  refine r_lstore (L' := [(4, .long r18), (6, .int 1), (0, .ref fl), (1, .long acc), (3, .int letter)]) C dX10_mixedLetter_56 (by decide) rfl ?_
  refine r_iinc (v := 2) (L' := [(6, .int 2), (4, .long r18), (0, .ref fl), (1, .long acc), (3, .int letter)]) C dX10_mixedLetter_58 1 rfl (by decide) (by decide) rfl ?_
  refine r_goto (tgt := 36) C dX10_mixedLetter_61 (by decide) ?_
  refine r_iload C dX10_mixedLetter_36 0 rfl ?_
  refine r_bipush (v := 10) C dX10_mixedLetter_38 (by decide) ?_
  refine r_icmp_gt (tgt := 64) C dX10_mixedLetter_40 (by decide) (fun c => absurd c (by decide)) (fun _ => ?_)
  refine r_lload C dX10_mixedLetter_43 1 rfl ?_
  refine r_aload_n C dX10_mixedLetter_45 2 rfl ?_
  refine r_iload_n C dX10_mixedLetter_46 4 rfl ?_
  refine r_iload C dX10_mixedLetter_47 0 rfl ?_
  obtain ⟨h19, hp⟩ := hp
  refine r_callV (ci := 8) (wc := [[(fl, .inr (8, [.ref pl, .ref pl2, .ref hi, .ref tx, .ref u, .ref w, .int taken]))], pileB cI cL pl a L h v lie seals folds n f]) (wr := []) (st := [.long r18]) C (m_X10_letter l D cI cL cP cJ fl pl a L h v lie seals folds n f pl2 hi tx u w taken letter 2 h19) k_X10_letter t_534 [0, 1] (show ([0, 1] : List Nat).Perm (List.range 2) by decide) rfl rfl rfl (q0 := 0) rfl rfl rfl (Nat.le_of_ble_eq_true rfl) ⟨Nat.le_of_ble_eq_true rfl, Nat.le_of_ble_eq_true rfl⟩ ⟨Nat.zero_le _, Nat.zero_le _⟩ dX10_mixedLetter_49 (fun r20 wr20 hw20 => ?_)
  obtain ⟨e_r20, rfl⟩ := hw20
  have hp := hp r20 e_r20
  refine r_ws (I' := [[(fl, .inr (8, [.ref pl, .ref pl2, .ref hi, .ref tx, .ref u, .ref w, .int taken]))], pileB cI cL pl a L h v lie seals folds n f]) rfl ?_
  refine r_i2l C dX10_mixedLetter_52 rfl ?_
  refine r_callS (wc := []) (wr := [[(fl, .inr (8, [.ref pl, .ref pl2, .ref hi, .ref tx, .ref u, .ref w, .int taken]))], pileB cI cL pl a L h v lie seals folds n f]) (st := []) C (m_X10_mixed l D cI cL cP cJ r18 ((r20 : Int32).toInt64)) k_X10_mixed t_513 [0, 1] (show ([0, 1] : List Nat).Perm (List.range 2) by decide) rfl rfl rfl (Nat.le_of_ble_eq_true rfl) ⟨Nat.le_of_ble_eq_true rfl, Nat.le_of_ble_eq_true rfl⟩ ⟨Nat.zero_le _, Nat.zero_le _⟩ dX10_mixedLetter_53 (fun r21 wr21 hw21 => ?_)
  obtain ⟨e_r21, rfl⟩ := hw21
  have hp := hp r21 e_r21
  refine r_ws (I' := [[(fl, .inr (8, [.ref pl, .ref pl2, .ref hi, .ref tx, .ref u, .ref w, .int taken]))], pileB cI cL pl a L h v lie seals folds n f]) rfl ?_
  refine r_lstore (L' := [(4, .long r21), (6, .int 2), (0, .ref fl), (1, .long acc), (3, .int letter)]) C dX10_mixedLetter_56 (by decide) rfl ?_
  refine r_iinc (v := 3) (L' := [(6, .int 3), (4, .long r21), (0, .ref fl), (1, .long acc), (3, .int letter)]) C dX10_mixedLetter_58 1 rfl (by decide) (by decide) rfl ?_
  refine r_goto (tgt := 36) C dX10_mixedLetter_61 (by decide) ?_
  refine r_iload C dX10_mixedLetter_36 0 rfl ?_
  refine r_bipush (v := 10) C dX10_mixedLetter_38 (by decide) ?_
  refine r_icmp_gt (tgt := 64) C dX10_mixedLetter_40 (by decide) (fun c => absurd c (by decide)) (fun _ => ?_)
  refine r_lload C dX10_mixedLetter_43 1 rfl ?_
  refine r_aload_n C dX10_mixedLetter_45 2 rfl ?_
  refine r_iload_n C dX10_mixedLetter_46 4 rfl ?_
  refine r_iload C dX10_mixedLetter_47 0 rfl ?_
  obtain ⟨h22, hp⟩ := hp
  refine r_callV (ci := 8) (wc := [[(fl, .inr (8, [.ref pl, .ref pl2, .ref hi, .ref tx, .ref u, .ref w, .int taken]))], pileB cI cL pl a L h v lie seals folds n f]) (wr := []) (st := [.long r21]) C (m_X10_letter l D cI cL cP cJ fl pl a L h v lie seals folds n f pl2 hi tx u w taken letter 3 h22) k_X10_letter t_534 [0, 1] (show ([0, 1] : List Nat).Perm (List.range 2) by decide) rfl rfl rfl (q0 := 0) rfl rfl rfl (Nat.le_of_ble_eq_true rfl) ⟨Nat.le_of_ble_eq_true rfl, Nat.le_of_ble_eq_true rfl⟩ ⟨Nat.zero_le _, Nat.zero_le _⟩ dX10_mixedLetter_49 (fun r23 wr23 hw23 => ?_)
  obtain ⟨e_r23, rfl⟩ := hw23
  have hp := hp r23 e_r23
  refine r_ws (I' := [[(fl, .inr (8, [.ref pl, .ref pl2, .ref hi, .ref tx, .ref u, .ref w, .int taken]))], pileB cI cL pl a L h v lie seals folds n f]) rfl ?_
  refine r_i2l C dX10_mixedLetter_52 rfl ?_
  refine r_callS (wc := []) (wr := [[(fl, .inr (8, [.ref pl, .ref pl2, .ref hi, .ref tx, .ref u, .ref w, .int taken]))], pileB cI cL pl a L h v lie seals folds n f]) (st := []) C (m_X10_mixed l D cI cL cP cJ r21 ((r23 : Int32).toInt64)) k_X10_mixed t_513 [0, 1] (show ([0, 1] : List Nat).Perm (List.range 2) by decide) rfl rfl rfl (Nat.le_of_ble_eq_true rfl) ⟨Nat.le_of_ble_eq_true rfl, Nat.le_of_ble_eq_true rfl⟩ ⟨Nat.zero_le _, Nat.zero_le _⟩ dX10_mixedLetter_53 (fun r24 wr24 hw24 => ?_)
  obtain ⟨e_r24, rfl⟩ := hw24
  have hp := hp r24 e_r24
  refine r_ws (I' := [[(fl, .inr (8, [.ref pl, .ref pl2, .ref hi, .ref tx, .ref u, .ref w, .int taken]))], pileB cI cL pl a L h v lie seals folds n f]) rfl ?_
  refine r_lstore (L' := [(4, .long r24), (6, .int 3), (0, .ref fl), (1, .long acc), (3, .int letter)]) C dX10_mixedLetter_56 (by decide) rfl ?_
  refine r_iinc (v := 4) (L' := [(6, .int 4), (4, .long r24), (0, .ref fl), (1, .long acc), (3, .int letter)]) C dX10_mixedLetter_58 1 rfl (by decide) (by decide) rfl ?_
  refine r_goto (tgt := 36) C dX10_mixedLetter_61 (by decide) ?_
  refine r_iload C dX10_mixedLetter_36 0 rfl ?_
  refine r_bipush (v := 10) C dX10_mixedLetter_38 (by decide) ?_
  refine r_icmp_gt (tgt := 64) C dX10_mixedLetter_40 (by decide) (fun c => absurd c (by decide)) (fun _ => ?_)
  refine r_lload C dX10_mixedLetter_43 1 rfl ?_
  refine r_aload_n C dX10_mixedLetter_45 2 rfl ?_
  refine r_iload_n C dX10_mixedLetter_46 4 rfl ?_
  refine r_iload C dX10_mixedLetter_47 0 rfl ?_
  obtain ⟨h25, hp⟩ := hp
  refine r_callV (ci := 8) (wc := [[(fl, .inr (8, [.ref pl, .ref pl2, .ref hi, .ref tx, .ref u, .ref w, .int taken]))], pileB cI cL pl a L h v lie seals folds n f]) (wr := []) (st := [.long r24]) C (m_X10_letter l D cI cL cP cJ fl pl a L h v lie seals folds n f pl2 hi tx u w taken letter 4 h25) k_X10_letter t_534 [0, 1] (show ([0, 1] : List Nat).Perm (List.range 2) by decide) rfl rfl rfl (q0 := 0) rfl rfl rfl (Nat.le_of_ble_eq_true rfl) ⟨Nat.le_of_ble_eq_true rfl, Nat.le_of_ble_eq_true rfl⟩ ⟨Nat.zero_le _, Nat.zero_le _⟩ dX10_mixedLetter_49 (fun r26 wr26 hw26 => ?_)
  obtain ⟨e_r26, rfl⟩ := hw26
  have hp := hp r26 e_r26
  refine r_ws (I' := [[(fl, .inr (8, [.ref pl, .ref pl2, .ref hi, .ref tx, .ref u, .ref w, .int taken]))], pileB cI cL pl a L h v lie seals folds n f]) rfl ?_
  refine r_i2l C dX10_mixedLetter_52 rfl ?_
  refine r_callS (wc := []) (wr := [[(fl, .inr (8, [.ref pl, .ref pl2, .ref hi, .ref tx, .ref u, .ref w, .int taken]))], pileB cI cL pl a L h v lie seals folds n f]) (st := []) C (m_X10_mixed l D cI cL cP cJ r24 ((r26 : Int32).toInt64)) k_X10_mixed t_513 [0, 1] (show ([0, 1] : List Nat).Perm (List.range 2) by decide) rfl rfl rfl (Nat.le_of_ble_eq_true rfl) ⟨Nat.le_of_ble_eq_true rfl, Nat.le_of_ble_eq_true rfl⟩ ⟨Nat.zero_le _, Nat.zero_le _⟩ dX10_mixedLetter_53 (fun r27 wr27 hw27 => ?_)
  obtain ⟨e_r27, rfl⟩ := hw27
  have hp := hp r27 e_r27
  refine r_ws (I' := [[(fl, .inr (8, [.ref pl, .ref pl2, .ref hi, .ref tx, .ref u, .ref w, .int taken]))], pileB cI cL pl a L h v lie seals folds n f]) rfl ?_
  refine r_lstore (L' := [(4, .long r27), (6, .int 4), (0, .ref fl), (1, .long acc), (3, .int letter)]) C dX10_mixedLetter_56 (by decide) rfl ?_
  refine r_iinc (v := 5) (L' := [(6, .int 5), (4, .long r27), (0, .ref fl), (1, .long acc), (3, .int letter)]) C dX10_mixedLetter_58 1 rfl (by decide) (by decide) rfl ?_
  refine r_goto (tgt := 36) C dX10_mixedLetter_61 (by decide) ?_
  refine r_iload C dX10_mixedLetter_36 0 rfl ?_
  refine r_bipush (v := 10) C dX10_mixedLetter_38 (by decide) ?_
  refine r_icmp_gt (tgt := 64) C dX10_mixedLetter_40 (by decide) (fun c => absurd c (by decide)) (fun _ => ?_)
  refine r_lload C dX10_mixedLetter_43 1 rfl ?_
  refine r_aload_n C dX10_mixedLetter_45 2 rfl ?_
  refine r_iload_n C dX10_mixedLetter_46 4 rfl ?_
  refine r_iload C dX10_mixedLetter_47 0 rfl ?_
  obtain ⟨h28, hp⟩ := hp
  refine r_callV (ci := 8) (wc := [[(fl, .inr (8, [.ref pl, .ref pl2, .ref hi, .ref tx, .ref u, .ref w, .int taken]))], pileB cI cL pl a L h v lie seals folds n f]) (wr := []) (st := [.long r27]) C (m_X10_letter l D cI cL cP cJ fl pl a L h v lie seals folds n f pl2 hi tx u w taken letter 5 h28) k_X10_letter t_534 [0, 1] (show ([0, 1] : List Nat).Perm (List.range 2) by decide) rfl rfl rfl (q0 := 0) rfl rfl rfl (Nat.le_of_ble_eq_true rfl) ⟨Nat.le_of_ble_eq_true rfl, Nat.le_of_ble_eq_true rfl⟩ ⟨Nat.zero_le _, Nat.zero_le _⟩ dX10_mixedLetter_49 (fun r29 wr29 hw29 => ?_)
  obtain ⟨e_r29, rfl⟩ := hw29
  have hp := hp r29 e_r29
  refine r_ws (I' := [[(fl, .inr (8, [.ref pl, .ref pl2, .ref hi, .ref tx, .ref u, .ref w, .int taken]))], pileB cI cL pl a L h v lie seals folds n f]) rfl ?_
  refine r_i2l C dX10_mixedLetter_52 rfl ?_
  refine r_callS (wc := []) (wr := [[(fl, .inr (8, [.ref pl, .ref pl2, .ref hi, .ref tx, .ref u, .ref w, .int taken]))], pileB cI cL pl a L h v lie seals folds n f]) (st := []) C (m_X10_mixed l D cI cL cP cJ r27 ((r29 : Int32).toInt64)) k_X10_mixed t_513 [0, 1] (show ([0, 1] : List Nat).Perm (List.range 2) by decide) rfl rfl rfl (Nat.le_of_ble_eq_true rfl) ⟨Nat.le_of_ble_eq_true rfl, Nat.le_of_ble_eq_true rfl⟩ ⟨Nat.zero_le _, Nat.zero_le _⟩ dX10_mixedLetter_53 (fun r30 wr30 hw30 => ?_)
  obtain ⟨e_r30, rfl⟩ := hw30
  have hp := hp r30 e_r30
  refine r_ws (I' := [[(fl, .inr (8, [.ref pl, .ref pl2, .ref hi, .ref tx, .ref u, .ref w, .int taken]))], pileB cI cL pl a L h v lie seals folds n f]) rfl ?_
  refine r_lstore (L' := [(4, .long r30), (6, .int 5), (0, .ref fl), (1, .long acc), (3, .int letter)]) C dX10_mixedLetter_56 (by decide) rfl ?_
  refine r_iinc (v := 6) (L' := [(6, .int 6), (4, .long r30), (0, .ref fl), (1, .long acc), (3, .int letter)]) C dX10_mixedLetter_58 1 rfl (by decide) (by decide) rfl ?_
  refine r_goto (tgt := 36) C dX10_mixedLetter_61 (by decide) ?_
  refine r_iload C dX10_mixedLetter_36 0 rfl ?_
  refine r_bipush (v := 10) C dX10_mixedLetter_38 (by decide) ?_
  refine r_icmp_gt (tgt := 64) C dX10_mixedLetter_40 (by decide) (fun c => absurd c (by decide)) (fun _ => ?_)
  refine r_lload C dX10_mixedLetter_43 1 rfl ?_
  refine r_aload_n C dX10_mixedLetter_45 2 rfl ?_
  refine r_iload_n C dX10_mixedLetter_46 4 rfl ?_
  refine r_iload C dX10_mixedLetter_47 0 rfl ?_
  obtain ⟨h31, hp⟩ := hp
  refine r_callV (ci := 8) (wc := [[(fl, .inr (8, [.ref pl, .ref pl2, .ref hi, .ref tx, .ref u, .ref w, .int taken]))], pileB cI cL pl a L h v lie seals folds n f]) (wr := []) (st := [.long r30]) C (m_X10_letter l D cI cL cP cJ fl pl a L h v lie seals folds n f pl2 hi tx u w taken letter 6 h31) k_X10_letter t_534 [0, 1] (show ([0, 1] : List Nat).Perm (List.range 2) by decide) rfl rfl rfl (q0 := 0) rfl rfl rfl (Nat.le_of_ble_eq_true rfl) ⟨Nat.le_of_ble_eq_true rfl, Nat.le_of_ble_eq_true rfl⟩ ⟨Nat.zero_le _, Nat.zero_le _⟩ dX10_mixedLetter_49 (fun r32 wr32 hw32 => ?_)
  obtain ⟨e_r32, rfl⟩ := hw32
  have hp := hp r32 e_r32
  refine r_ws (I' := [[(fl, .inr (8, [.ref pl, .ref pl2, .ref hi, .ref tx, .ref u, .ref w, .int taken]))], pileB cI cL pl a L h v lie seals folds n f]) rfl ?_
  refine r_i2l C dX10_mixedLetter_52 rfl ?_
  refine r_callS (wc := []) (wr := [[(fl, .inr (8, [.ref pl, .ref pl2, .ref hi, .ref tx, .ref u, .ref w, .int taken]))], pileB cI cL pl a L h v lie seals folds n f]) (st := []) C (m_X10_mixed l D cI cL cP cJ r30 ((r32 : Int32).toInt64)) k_X10_mixed t_513 [0, 1] (show ([0, 1] : List Nat).Perm (List.range 2) by decide) rfl rfl rfl (Nat.le_of_ble_eq_true rfl) ⟨Nat.le_of_ble_eq_true rfl, Nat.le_of_ble_eq_true rfl⟩ ⟨Nat.zero_le _, Nat.zero_le _⟩ dX10_mixedLetter_53 (fun r33 wr33 hw33 => ?_)
  obtain ⟨e_r33, rfl⟩ := hw33
  have hp := hp r33 e_r33
  refine r_ws (I' := [[(fl, .inr (8, [.ref pl, .ref pl2, .ref hi, .ref tx, .ref u, .ref w, .int taken]))], pileB cI cL pl a L h v lie seals folds n f]) rfl ?_
  refine r_lstore (L' := [(4, .long r33), (6, .int 6), (0, .ref fl), (1, .long acc), (3, .int letter)]) C dX10_mixedLetter_56 (by decide) rfl ?_
  refine r_iinc (v := 7) (L' := [(6, .int 7), (4, .long r33), (0, .ref fl), (1, .long acc), (3, .int letter)]) C dX10_mixedLetter_58 1 rfl (by decide) (by decide) rfl ?_
  refine r_goto (tgt := 36) C dX10_mixedLetter_61 (by decide) ?_
  refine r_iload C dX10_mixedLetter_36 0 rfl ?_
  refine r_bipush (v := 10) C dX10_mixedLetter_38 (by decide) ?_
  refine r_icmp_gt (tgt := 64) C dX10_mixedLetter_40 (by decide) (fun c => absurd c (by decide)) (fun _ => ?_)
  refine r_lload C dX10_mixedLetter_43 1 rfl ?_
  refine r_aload_n C dX10_mixedLetter_45 2 rfl ?_
  refine r_iload_n C dX10_mixedLetter_46 4 rfl ?_
  refine r_iload C dX10_mixedLetter_47 0 rfl ?_
  obtain ⟨h34, hp⟩ := hp
  refine r_callV (ci := 8) (wc := [[(fl, .inr (8, [.ref pl, .ref pl2, .ref hi, .ref tx, .ref u, .ref w, .int taken]))], pileB cI cL pl a L h v lie seals folds n f]) (wr := []) (st := [.long r33]) C (m_X10_letter l D cI cL cP cJ fl pl a L h v lie seals folds n f pl2 hi tx u w taken letter 7 h34) k_X10_letter t_534 [0, 1] (show ([0, 1] : List Nat).Perm (List.range 2) by decide) rfl rfl rfl (q0 := 0) rfl rfl rfl (Nat.le_of_ble_eq_true rfl) ⟨Nat.le_of_ble_eq_true rfl, Nat.le_of_ble_eq_true rfl⟩ ⟨Nat.zero_le _, Nat.zero_le _⟩ dX10_mixedLetter_49 (fun r35 wr35 hw35 => ?_)
  obtain ⟨e_r35, rfl⟩ := hw35
  have hp := hp r35 e_r35
  refine r_ws (I' := [[(fl, .inr (8, [.ref pl, .ref pl2, .ref hi, .ref tx, .ref u, .ref w, .int taken]))], pileB cI cL pl a L h v lie seals folds n f]) rfl ?_
  refine r_i2l C dX10_mixedLetter_52 rfl ?_
  refine r_callS (wc := []) (wr := [[(fl, .inr (8, [.ref pl, .ref pl2, .ref hi, .ref tx, .ref u, .ref w, .int taken]))], pileB cI cL pl a L h v lie seals folds n f]) (st := []) C (m_X10_mixed l D cI cL cP cJ r33 ((r35 : Int32).toInt64)) k_X10_mixed t_513 [0, 1] (show ([0, 1] : List Nat).Perm (List.range 2) by decide) rfl rfl rfl (Nat.le_of_ble_eq_true rfl) ⟨Nat.le_of_ble_eq_true rfl, Nat.le_of_ble_eq_true rfl⟩ ⟨Nat.zero_le _, Nat.zero_le _⟩ dX10_mixedLetter_53 (fun r36 wr36 hw36 => ?_)
  obtain ⟨e_r36, rfl⟩ := hw36
  have hp := hp r36 e_r36
  refine r_ws (I' := [[(fl, .inr (8, [.ref pl, .ref pl2, .ref hi, .ref tx, .ref u, .ref w, .int taken]))], pileB cI cL pl a L h v lie seals folds n f]) rfl ?_
  refine r_lstore (L' := [(4, .long r36), (6, .int 7), (0, .ref fl), (1, .long acc), (3, .int letter)]) C dX10_mixedLetter_56 (by decide) rfl ?_
  refine r_iinc (v := 8) (L' := [(6, .int 8), (4, .long r36), (0, .ref fl), (1, .long acc), (3, .int letter)]) C dX10_mixedLetter_58 1 rfl (by decide) (by decide) rfl ?_
  refine r_goto (tgt := 36) C dX10_mixedLetter_61 (by decide) ?_
  refine r_iload C dX10_mixedLetter_36 0 rfl ?_
  refine r_bipush (v := 10) C dX10_mixedLetter_38 (by decide) ?_
  refine r_icmp_gt (tgt := 64) C dX10_mixedLetter_40 (by decide) (fun c => absurd c (by decide)) (fun _ => ?_)
  refine r_lload C dX10_mixedLetter_43 1 rfl ?_
  refine r_aload_n C dX10_mixedLetter_45 2 rfl ?_
  refine r_iload_n C dX10_mixedLetter_46 4 rfl ?_
  refine r_iload C dX10_mixedLetter_47 0 rfl ?_
  obtain ⟨h37, hp⟩ := hp
  refine r_callV (ci := 8) (wc := [[(fl, .inr (8, [.ref pl, .ref pl2, .ref hi, .ref tx, .ref u, .ref w, .int taken]))], pileB cI cL pl a L h v lie seals folds n f]) (wr := []) (st := [.long r36]) C (m_X10_letter l D cI cL cP cJ fl pl a L h v lie seals folds n f pl2 hi tx u w taken letter 8 h37) k_X10_letter t_534 [0, 1] (show ([0, 1] : List Nat).Perm (List.range 2) by decide) rfl rfl rfl (q0 := 0) rfl rfl rfl (Nat.le_of_ble_eq_true rfl) ⟨Nat.le_of_ble_eq_true rfl, Nat.le_of_ble_eq_true rfl⟩ ⟨Nat.zero_le _, Nat.zero_le _⟩ dX10_mixedLetter_49 (fun r38 wr38 hw38 => ?_)
  obtain ⟨e_r38, rfl⟩ := hw38
  have hp := hp r38 e_r38
  refine r_ws (I' := [[(fl, .inr (8, [.ref pl, .ref pl2, .ref hi, .ref tx, .ref u, .ref w, .int taken]))], pileB cI cL pl a L h v lie seals folds n f]) rfl ?_
  refine r_i2l C dX10_mixedLetter_52 rfl ?_
  refine r_callS (wc := []) (wr := [[(fl, .inr (8, [.ref pl, .ref pl2, .ref hi, .ref tx, .ref u, .ref w, .int taken]))], pileB cI cL pl a L h v lie seals folds n f]) (st := []) C (m_X10_mixed l D cI cL cP cJ r36 ((r38 : Int32).toInt64)) k_X10_mixed t_513 [0, 1] (show ([0, 1] : List Nat).Perm (List.range 2) by decide) rfl rfl rfl (Nat.le_of_ble_eq_true rfl) ⟨Nat.le_of_ble_eq_true rfl, Nat.le_of_ble_eq_true rfl⟩ ⟨Nat.zero_le _, Nat.zero_le _⟩ dX10_mixedLetter_53 (fun r39 wr39 hw39 => ?_)
  obtain ⟨e_r39, rfl⟩ := hw39
  have hp := hp r39 e_r39
  refine r_ws (I' := [[(fl, .inr (8, [.ref pl, .ref pl2, .ref hi, .ref tx, .ref u, .ref w, .int taken]))], pileB cI cL pl a L h v lie seals folds n f]) rfl ?_
  refine r_lstore (L' := [(4, .long r39), (6, .int 8), (0, .ref fl), (1, .long acc), (3, .int letter)]) C dX10_mixedLetter_56 (by decide) rfl ?_
  refine r_iinc (v := 9) (L' := [(6, .int 9), (4, .long r39), (0, .ref fl), (1, .long acc), (3, .int letter)]) C dX10_mixedLetter_58 1 rfl (by decide) (by decide) rfl ?_
  refine r_goto (tgt := 36) C dX10_mixedLetter_61 (by decide) ?_
  refine r_iload C dX10_mixedLetter_36 0 rfl ?_
  refine r_bipush (v := 10) C dX10_mixedLetter_38 (by decide) ?_
  refine r_icmp_gt (tgt := 64) C dX10_mixedLetter_40 (by decide) (fun c => absurd c (by decide)) (fun _ => ?_)
  refine r_lload C dX10_mixedLetter_43 1 rfl ?_
  refine r_aload_n C dX10_mixedLetter_45 2 rfl ?_
  refine r_iload_n C dX10_mixedLetter_46 4 rfl ?_
  refine r_iload C dX10_mixedLetter_47 0 rfl ?_
  obtain ⟨h40, hp⟩ := hp
  refine r_callV (ci := 8) (wc := [[(fl, .inr (8, [.ref pl, .ref pl2, .ref hi, .ref tx, .ref u, .ref w, .int taken]))], pileB cI cL pl a L h v lie seals folds n f]) (wr := []) (st := [.long r39]) C (m_X10_letter l D cI cL cP cJ fl pl a L h v lie seals folds n f pl2 hi tx u w taken letter 9 h40) k_X10_letter t_534 [0, 1] (show ([0, 1] : List Nat).Perm (List.range 2) by decide) rfl rfl rfl (q0 := 0) rfl rfl rfl (Nat.le_of_ble_eq_true rfl) ⟨Nat.le_of_ble_eq_true rfl, Nat.le_of_ble_eq_true rfl⟩ ⟨Nat.zero_le _, Nat.zero_le _⟩ dX10_mixedLetter_49 (fun r41 wr41 hw41 => ?_)
  obtain ⟨e_r41, rfl⟩ := hw41
  have hp := hp r41 e_r41
  refine r_ws (I' := [[(fl, .inr (8, [.ref pl, .ref pl2, .ref hi, .ref tx, .ref u, .ref w, .int taken]))], pileB cI cL pl a L h v lie seals folds n f]) rfl ?_
  refine r_i2l C dX10_mixedLetter_52 rfl ?_
  refine r_callS (wc := []) (wr := [[(fl, .inr (8, [.ref pl, .ref pl2, .ref hi, .ref tx, .ref u, .ref w, .int taken]))], pileB cI cL pl a L h v lie seals folds n f]) (st := []) C (m_X10_mixed l D cI cL cP cJ r39 ((r41 : Int32).toInt64)) k_X10_mixed t_513 [0, 1] (show ([0, 1] : List Nat).Perm (List.range 2) by decide) rfl rfl rfl (Nat.le_of_ble_eq_true rfl) ⟨Nat.le_of_ble_eq_true rfl, Nat.le_of_ble_eq_true rfl⟩ ⟨Nat.zero_le _, Nat.zero_le _⟩ dX10_mixedLetter_53 (fun r42 wr42 hw42 => ?_)
  obtain ⟨e_r42, rfl⟩ := hw42
  have hp := hp r42 e_r42
  refine r_ws (I' := [[(fl, .inr (8, [.ref pl, .ref pl2, .ref hi, .ref tx, .ref u, .ref w, .int taken]))], pileB cI cL pl a L h v lie seals folds n f]) rfl ?_
  refine r_lstore (L' := [(4, .long r42), (6, .int 9), (0, .ref fl), (1, .long acc), (3, .int letter)]) C dX10_mixedLetter_56 (by decide) rfl ?_
  refine r_iinc (v := 10) (L' := [(6, .int 10), (4, .long r42), (0, .ref fl), (1, .long acc), (3, .int letter)]) C dX10_mixedLetter_58 1 rfl (by decide) (by decide) rfl ?_
  refine r_goto (tgt := 36) C dX10_mixedLetter_61 (by decide) ?_
  refine r_iload C dX10_mixedLetter_36 0 rfl ?_
  refine r_bipush (v := 10) C dX10_mixedLetter_38 (by decide) ?_
  refine r_icmp_gt (tgt := 64) C dX10_mixedLetter_40 (by decide) (fun c => absurd c (by decide)) (fun _ => ?_)
  refine r_lload C dX10_mixedLetter_43 1 rfl ?_
  refine r_aload_n C dX10_mixedLetter_45 2 rfl ?_
  refine r_iload_n C dX10_mixedLetter_46 4 rfl ?_
  refine r_iload C dX10_mixedLetter_47 0 rfl ?_
  obtain ⟨h43, hp⟩ := hp
  refine r_callV (ci := 8) (wc := [[(fl, .inr (8, [.ref pl, .ref pl2, .ref hi, .ref tx, .ref u, .ref w, .int taken]))], pileB cI cL pl a L h v lie seals folds n f]) (wr := []) (st := [.long r42]) C (m_X10_letter l D cI cL cP cJ fl pl a L h v lie seals folds n f pl2 hi tx u w taken letter 10 h43) k_X10_letter t_534 [0, 1] (show ([0, 1] : List Nat).Perm (List.range 2) by decide) rfl rfl rfl (q0 := 0) rfl rfl rfl (Nat.le_of_ble_eq_true rfl) ⟨Nat.le_of_ble_eq_true rfl, Nat.le_of_ble_eq_true rfl⟩ ⟨Nat.zero_le _, Nat.zero_le _⟩ dX10_mixedLetter_49 (fun r44 wr44 hw44 => ?_)
  obtain ⟨e_r44, rfl⟩ := hw44
  have hp := hp r44 e_r44
  refine r_ws (I' := [[(fl, .inr (8, [.ref pl, .ref pl2, .ref hi, .ref tx, .ref u, .ref w, .int taken]))], pileB cI cL pl a L h v lie seals folds n f]) rfl ?_
  refine r_i2l C dX10_mixedLetter_52 rfl ?_
  refine r_callS (wc := []) (wr := [[(fl, .inr (8, [.ref pl, .ref pl2, .ref hi, .ref tx, .ref u, .ref w, .int taken]))], pileB cI cL pl a L h v lie seals folds n f]) (st := []) C (m_X10_mixed l D cI cL cP cJ r42 ((r44 : Int32).toInt64)) k_X10_mixed t_513 [0, 1] (show ([0, 1] : List Nat).Perm (List.range 2) by decide) rfl rfl rfl (Nat.le_of_ble_eq_true rfl) ⟨Nat.le_of_ble_eq_true rfl, Nat.le_of_ble_eq_true rfl⟩ ⟨Nat.zero_le _, Nat.zero_le _⟩ dX10_mixedLetter_53 (fun r45 wr45 hw45 => ?_)
  obtain ⟨e_r45, rfl⟩ := hw45
  have hp := hp r45 e_r45
  refine r_ws (I' := [[(fl, .inr (8, [.ref pl, .ref pl2, .ref hi, .ref tx, .ref u, .ref w, .int taken]))], pileB cI cL pl a L h v lie seals folds n f]) rfl ?_
  refine r_lstore (L' := [(4, .long r45), (6, .int 10), (0, .ref fl), (1, .long acc), (3, .int letter)]) C dX10_mixedLetter_56 (by decide) rfl ?_
  refine r_iinc (v := 11) (L' := [(6, .int 11), (4, .long r45), (0, .ref fl), (1, .long acc), (3, .int letter)]) C dX10_mixedLetter_58 1 rfl (by decide) (by decide) rfl ?_
  refine r_goto (tgt := 36) C dX10_mixedLetter_61 (by decide) ?_
  refine r_iload C dX10_mixedLetter_36 0 rfl ?_
  refine r_bipush (v := 10) C dX10_mixedLetter_38 (by decide) ?_
  refine r_icmp_gt (tgt := 64) C dX10_mixedLetter_40 (by decide) (fun _ => ?_) (fun c => absurd c (by decide))
  refine r_lload C dX10_mixedLetter_64 1 rfl ?_
  refine r_aload_n C dX10_mixedLetter_66 2 rfl ?_
  refine r_get (Cn := RX10) (T := TX10) (N := 7) C inT10 0 rfl rfl 0 (by decide) t_219 rfl dX10_mixedLetter_67 ?_
  refine r_iload_n C dX10_mixedLetter_70 4 rfl ?_
  obtain ⟨h46, hp⟩ := hp
  refine r_callV (ci := 2) (wc := [pileB cI cL pl a L h v lie seals folds n f]) (wr := [[(fl, .inr (8, [.ref pl, .ref pl2, .ref hi, .ref tx, .ref u, .ref w, .int taken]))]]) (st := [.long r45]) C (m_X4_atB l D cI cL cP cJ pl a L h v lie seals folds n f letter h46) k_X4_at t_525 [1, 0] (show ([1, 0] : List Nat).Perm (List.range 2) by decide) rfl rfl rfl (q0 := 0) rfl rfl rfl (Nat.le_of_ble_eq_true rfl) ⟨Nat.le_of_ble_eq_true rfl, Nat.le_of_ble_eq_true rfl⟩ ⟨Nat.zero_le _, Nat.zero_le _⟩ dX10_mixedLetter_71 (fun r47 wr47 hw47 => ?_)
  obtain ⟨rfl, rfl⟩ := hw47
  refine r_ws (I' := [pileB cI cL pl a L h v lie seals folds n f, [(fl, .inr (8, [.ref pl, .ref pl2, .ref hi, .ref tx, .ref u, .ref w, .int taken]))]]) rfl ?_
  obtain ⟨h48, hp⟩ := hp
  refine r_callVX (ci := 1) (wc := [pileB cI cL pl a L h v lie seals folds n f]) (wr := [[(fl, .inr (8, [.ref pl, .ref pl2, .ref hi, .ref tx, .ref u, .ref w, .int taken]))]]) (st := [.long r45]) C (m_X2_remembered_P l D cI cL cP cJ pl a L h v lie seals folds n f letter.toNatClampNeg h48) k_X2_remembered t_540 [0, 1] (show ([0, 1] : List Nat).Perm (List.range 2) by decide) rfl rfl rfl (pile_L (by have q := h48; unfold P_X2_remembered_P at q; exact q)) rfl rfl (Nat.le_of_ble_eq_true rfl) ⟨Nat.le_of_ble_eq_true rfl, Nat.le_of_ble_eq_true rfl⟩ ⟨Nat.zero_le _, Nat.zero_le _⟩ dX10_mixedLetter_74 (fun r49 wr49 hw49 => ?_)
  obtain ⟨rfl, rfl⟩ := hw49
  refine r_ws (I' := [pileB cI cL pl a L h v lie seals folds n f, [(fl, .inr (8, [.ref pl, .ref pl2, .ref hi, .ref tx, .ref u, .ref w, .int taken]))]]) rfl ?_
  obtain ⟨h50, hp⟩ := hp
  refine r_callS (wc := [pileB cI cL pl a L h v lie seals folds n f]) (wr := [[(fl, .inr (8, [.ref pl, .ref pl2, .ref hi, .ref tx, .ref u, .ref w, .int taken]))]]) (st := []) C (m_X10_mixedRow_P l D cI cL cP cJ pl a L h v lie seals folds n f letter.toNatClampNeg r45 h50) k_X10_mixedRow t_544 [0, 1] (show ([0, 1] : List Nat).Perm (List.range 2) by decide) rfl rfl rfl (Nat.le_of_ble_eq_true rfl) ⟨Nat.le_of_ble_eq_true rfl, Nat.le_of_ble_eq_true rfl⟩ ⟨Nat.zero_le _, Nat.zero_le _⟩ dX10_mixedLetter_77 (fun r51 wr51 hw51 => ?_)
  obtain ⟨e_r51, rfl⟩ := hw51
  have hp := hp r51 e_r51
  refine r_ws (I' := [pileB cI cL pl a L h v lie seals folds n f, [(fl, .inr (8, [.ref pl, .ref pl2, .ref hi, .ref tx, .ref u, .ref w, .int taken]))]]) rfl ?_
  refine r_lstore (L' := [(4, .long r51), (6, .int 11), (0, .ref fl), (1, .long acc), (3, .int letter)]) C dX10_mixedLetter_80 (by decide) rfl ?_
  refine r_lload C dX10_mixedLetter_82 0 rfl ?_
  refine r_aload_n C dX10_mixedLetter_84 2 rfl ?_
  refine r_get (Cn := RX10) (T := TX10) (N := 7) C inT10 1 rfl rfl 0 (by decide) t_219 rfl dX10_mixedLetter_85 ?_
  refine r_iload_n C dX10_mixedLetter_88 4 rfl ?_
  obtain ⟨h52, hp⟩ := hp
  refine r_callV (ci := 2) (wc := [pileB cI cL pl a L h v lie seals folds n f]) (wr := [[(fl, .inr (8, [.ref pl, .ref pl2, .ref hi, .ref tx, .ref u, .ref w, .int taken]))]]) (st := [.long r51]) C (m_X4_atB l D cI cL cP cJ pl a L h v lie seals folds n f letter h52) k_X4_at t_525 [0, 1] (show ([0, 1] : List Nat).Perm (List.range 2) by decide) rfl rfl rfl (q0 := 0) rfl rfl rfl (Nat.le_of_ble_eq_true rfl) ⟨Nat.le_of_ble_eq_true rfl, Nat.le_of_ble_eq_true rfl⟩ ⟨Nat.zero_le _, Nat.zero_le _⟩ dX10_mixedLetter_89 (fun r53 wr53 hw53 => ?_)
  obtain ⟨rfl, rfl⟩ := hw53
  refine r_ws (I' := [pileB cI cL pl a L h v lie seals folds n f, [(fl, .inr (8, [.ref pl, .ref pl2, .ref hi, .ref tx, .ref u, .ref w, .int taken]))]]) rfl ?_
  obtain ⟨h54, hp⟩ := hp
  refine r_callVX (ci := 1) (wc := [pileB cI cL pl a L h v lie seals folds n f]) (wr := [[(fl, .inr (8, [.ref pl, .ref pl2, .ref hi, .ref tx, .ref u, .ref w, .int taken]))]]) (st := [.long r51]) C (m_X2_lie_P l D cI cL cP cJ pl a L h v lie seals folds n f letter.toNatClampNeg h54) k_X2_lie t_532 [0, 1] (show ([0, 1] : List Nat).Perm (List.range 2) by decide) rfl rfl rfl (pile_L (by have q := h54; unfold P_X2_lie_P at q; exact q)) rfl rfl (Nat.le_of_ble_eq_true rfl) ⟨Nat.le_of_ble_eq_true rfl, Nat.le_of_ble_eq_true rfl⟩ ⟨Nat.zero_le _, Nat.zero_le _⟩ dX10_mixedLetter_92 (fun r55 wr55 hw55 => ?_)
  obtain ⟨e_r55, rfl⟩ := hw55
  have hp := hp r55 e_r55
  refine r_ws (I' := [pileB cI cL pl a L h v lie seals folds n f, [(fl, .inr (8, [.ref pl, .ref pl2, .ref hi, .ref tx, .ref u, .ref w, .int taken]))]]) rfl ?_
  obtain ⟨h56, hp⟩ := hp
  refine r_callS (wc := []) (wr := [pileB cI cL pl a L h v lie seals folds n f, [(fl, .inr (8, [.ref pl, .ref pl2, .ref hi, .ref tx, .ref u, .ref w, .int taken]))]]) (st := []) C (m_X10_mixedLeastWord l D cI cL cP cJ r51 r55 h56) k_X10_mixedLeastWord t_548 [0, 1] (show ([0, 1] : List Nat).Perm (List.range 2) by decide) rfl rfl rfl (Nat.le_of_ble_eq_true rfl) ⟨Nat.le_of_ble_eq_true rfl, Nat.le_of_ble_eq_true rfl⟩ ⟨Nat.zero_le _, Nat.zero_le _⟩ dX10_mixedLetter_95 (fun r57 wr57 hw57 => ?_)
  obtain ⟨e_r57, rfl⟩ := hw57
  have hp := hp r57 e_r57
  refine r_ws (I' := [pileB cI cL pl a L h v lie seals folds n f, [(fl, .inr (8, [.ref pl, .ref pl2, .ref hi, .ref tx, .ref u, .ref w, .int taken]))]]) rfl ?_
  refine r_lstore (L' := [(4, .long r57), (6, .int 11), (0, .ref fl), (1, .long acc), (3, .int letter)]) C dX10_mixedLetter_98 (by decide) rfl ?_
  refine r_iconst (v := 0) C dX10_mixedLetter_100 (by decide) ?_
  refine r_istore (L' := [(6, .int 0), (4, .long r57), (0, .ref fl), (1, .long acc), (3, .int letter)]) C dX10_mixedLetter_101 (by decide) rfl ?_
  refine r_iload C dX10_mixedLetter_103 0 rfl ?_
  refine r_iconst (v := 4) C dX10_mixedLetter_105 (by decide) ?_
  refine r_icmp_ge (tgt := 130) C dX10_mixedLetter_106 (by decide) (fun c => absurd c (by decide)) (fun _ => ?_)
  refine r_lload C dX10_mixedLetter_109 1 rfl ?_
  refine r_aload_n C dX10_mixedLetter_111 2 rfl ?_
  refine r_iload_n C dX10_mixedLetter_112 4 rfl ?_
  refine r_iload C dX10_mixedLetter_113 0 rfl ?_
  obtain ⟨h58, hp⟩ := hp
  refine r_callV (ci := 8) (wc := [[(fl, .inr (8, [.ref pl, .ref pl2, .ref hi, .ref tx, .ref u, .ref w, .int taken]))], pileB cI cL pl a L h v lie seals folds n f]) (wr := []) (st := [.long r57]) C (m_X10_why l D cI cL cP cJ fl pl a L h v lie seals folds n f pl2 hi tx u w taken letter 0 h58) k_X10_why t_558 [1, 0] (show ([1, 0] : List Nat).Perm (List.range 2) by decide) rfl rfl rfl (q0 := 0) rfl rfl rfl (Nat.le_of_ble_eq_true rfl) ⟨Nat.le_of_ble_eq_true rfl, Nat.le_of_ble_eq_true rfl⟩ ⟨Nat.zero_le _, Nat.zero_le _⟩ dX10_mixedLetter_115 (fun r59 wr59 hw59 => ?_)
  obtain ⟨e_r59, rfl⟩ := hw59
  have hp := hp r59 e_r59
  refine r_ws (I' := [[(fl, .inr (8, [.ref pl, .ref pl2, .ref hi, .ref tx, .ref u, .ref w, .int taken]))], pileB cI cL pl a L h v lie seals folds n f]) rfl ?_
  refine r_i2l C dX10_mixedLetter_118 rfl ?_
  refine r_callS (wc := []) (wr := [[(fl, .inr (8, [.ref pl, .ref pl2, .ref hi, .ref tx, .ref u, .ref w, .int taken]))], pileB cI cL pl a L h v lie seals folds n f]) (st := []) C (m_X10_mixed l D cI cL cP cJ r57 ((r59 : Int32).toInt64)) k_X10_mixed t_513 [0, 1] (show ([0, 1] : List Nat).Perm (List.range 2) by decide) rfl rfl rfl (Nat.le_of_ble_eq_true rfl) ⟨Nat.le_of_ble_eq_true rfl, Nat.le_of_ble_eq_true rfl⟩ ⟨Nat.zero_le _, Nat.zero_le _⟩ dX10_mixedLetter_119 (fun r60 wr60 hw60 => ?_)
  obtain ⟨e_r60, rfl⟩ := hw60
  have hp := hp r60 e_r60
  refine r_ws (I' := [[(fl, .inr (8, [.ref pl, .ref pl2, .ref hi, .ref tx, .ref u, .ref w, .int taken]))], pileB cI cL pl a L h v lie seals folds n f]) rfl ?_
  refine r_lstore (L' := [(4, .long r60), (6, .int 0), (0, .ref fl), (1, .long acc), (3, .int letter)]) C dX10_mixedLetter_122 (by decide) rfl ?_
  refine r_iinc (v := 1) (L' := [(6, .int 1), (4, .long r60), (0, .ref fl), (1, .long acc), (3, .int letter)]) C dX10_mixedLetter_124 1 rfl (by decide) (by decide) rfl ?_
  refine r_goto (tgt := 103) C dX10_mixedLetter_127 (by decide) ?_
  refine r_iload C dX10_mixedLetter_103 0 rfl ?_
  refine r_iconst (v := 4) C dX10_mixedLetter_105 (by decide) ?_
  refine r_icmp_ge (tgt := 130) C dX10_mixedLetter_106 (by decide) (fun c => absurd c (by decide)) (fun _ => ?_)
  refine r_lload C dX10_mixedLetter_109 1 rfl ?_
  refine r_aload_n C dX10_mixedLetter_111 2 rfl ?_
  refine r_iload_n C dX10_mixedLetter_112 4 rfl ?_
  refine r_iload C dX10_mixedLetter_113 0 rfl ?_
  obtain ⟨h61, hp⟩ := hp
  refine r_callV (ci := 8) (wc := [[(fl, .inr (8, [.ref pl, .ref pl2, .ref hi, .ref tx, .ref u, .ref w, .int taken]))], pileB cI cL pl a L h v lie seals folds n f]) (wr := []) (st := [.long r60]) C (m_X10_why l D cI cL cP cJ fl pl a L h v lie seals folds n f pl2 hi tx u w taken letter 1 h61) k_X10_why t_558 [0, 1] (show ([0, 1] : List Nat).Perm (List.range 2) by decide) rfl rfl rfl (q0 := 0) rfl rfl rfl (Nat.le_of_ble_eq_true rfl) ⟨Nat.le_of_ble_eq_true rfl, Nat.le_of_ble_eq_true rfl⟩ ⟨Nat.zero_le _, Nat.zero_le _⟩ dX10_mixedLetter_115 (fun r62 wr62 hw62 => ?_)
  obtain ⟨e_r62, rfl⟩ := hw62
  have hp := hp r62 e_r62
  refine r_ws (I' := [[(fl, .inr (8, [.ref pl, .ref pl2, .ref hi, .ref tx, .ref u, .ref w, .int taken]))], pileB cI cL pl a L h v lie seals folds n f]) rfl ?_
  refine r_i2l C dX10_mixedLetter_118 rfl ?_
  refine r_callS (wc := []) (wr := [[(fl, .inr (8, [.ref pl, .ref pl2, .ref hi, .ref tx, .ref u, .ref w, .int taken]))], pileB cI cL pl a L h v lie seals folds n f]) (st := []) C (m_X10_mixed l D cI cL cP cJ r60 ((r62 : Int32).toInt64)) k_X10_mixed t_513 [0, 1] (show ([0, 1] : List Nat).Perm (List.range 2) by decide) rfl rfl rfl (Nat.le_of_ble_eq_true rfl) ⟨Nat.le_of_ble_eq_true rfl, Nat.le_of_ble_eq_true rfl⟩ ⟨Nat.zero_le _, Nat.zero_le _⟩ dX10_mixedLetter_119 (fun r63 wr63 hw63 => ?_)
  obtain ⟨e_r63, rfl⟩ := hw63
  have hp := hp r63 e_r63
  refine r_ws (I' := [[(fl, .inr (8, [.ref pl, .ref pl2, .ref hi, .ref tx, .ref u, .ref w, .int taken]))], pileB cI cL pl a L h v lie seals folds n f]) rfl ?_
  refine r_lstore (L' := [(4, .long r63), (6, .int 1), (0, .ref fl), (1, .long acc), (3, .int letter)]) C dX10_mixedLetter_122 (by decide) rfl ?_
  refine r_iinc (v := 2) (L' := [(6, .int 2), (4, .long r63), (0, .ref fl), (1, .long acc), (3, .int letter)]) C dX10_mixedLetter_124 1 rfl (by decide) (by decide) rfl ?_
  refine r_goto (tgt := 103) C dX10_mixedLetter_127 (by decide) ?_
  refine r_iload C dX10_mixedLetter_103 0 rfl ?_
  refine r_iconst (v := 4) C dX10_mixedLetter_105 (by decide) ?_
  refine r_icmp_ge (tgt := 130) C dX10_mixedLetter_106 (by decide) (fun c => absurd c (by decide)) (fun _ => ?_)
  refine r_lload C dX10_mixedLetter_109 1 rfl ?_
  refine r_aload_n C dX10_mixedLetter_111 2 rfl ?_
  refine r_iload_n C dX10_mixedLetter_112 4 rfl ?_
  refine r_iload C dX10_mixedLetter_113 0 rfl ?_
  obtain ⟨h64, hp⟩ := hp
  refine r_callV (ci := 8) (wc := [[(fl, .inr (8, [.ref pl, .ref pl2, .ref hi, .ref tx, .ref u, .ref w, .int taken]))], pileB cI cL pl a L h v lie seals folds n f]) (wr := []) (st := [.long r63]) C (m_X10_why l D cI cL cP cJ fl pl a L h v lie seals folds n f pl2 hi tx u w taken letter 2 h64) k_X10_why t_558 [0, 1] (show ([0, 1] : List Nat).Perm (List.range 2) by decide) rfl rfl rfl (q0 := 0) rfl rfl rfl (Nat.le_of_ble_eq_true rfl) ⟨Nat.le_of_ble_eq_true rfl, Nat.le_of_ble_eq_true rfl⟩ ⟨Nat.zero_le _, Nat.zero_le _⟩ dX10_mixedLetter_115 (fun r65 wr65 hw65 => ?_)
  obtain ⟨e_r65, rfl⟩ := hw65
  have hp := hp r65 e_r65
  refine r_ws (I' := [[(fl, .inr (8, [.ref pl, .ref pl2, .ref hi, .ref tx, .ref u, .ref w, .int taken]))], pileB cI cL pl a L h v lie seals folds n f]) rfl ?_
  refine r_i2l C dX10_mixedLetter_118 rfl ?_
  refine r_callS (wc := []) (wr := [[(fl, .inr (8, [.ref pl, .ref pl2, .ref hi, .ref tx, .ref u, .ref w, .int taken]))], pileB cI cL pl a L h v lie seals folds n f]) (st := []) C (m_X10_mixed l D cI cL cP cJ r63 ((r65 : Int32).toInt64)) k_X10_mixed t_513 [0, 1] (show ([0, 1] : List Nat).Perm (List.range 2) by decide) rfl rfl rfl (Nat.le_of_ble_eq_true rfl) ⟨Nat.le_of_ble_eq_true rfl, Nat.le_of_ble_eq_true rfl⟩ ⟨Nat.zero_le _, Nat.zero_le _⟩ dX10_mixedLetter_119 (fun r66 wr66 hw66 => ?_)
  obtain ⟨e_r66, rfl⟩ := hw66
  have hp := hp r66 e_r66
  refine r_ws (I' := [[(fl, .inr (8, [.ref pl, .ref pl2, .ref hi, .ref tx, .ref u, .ref w, .int taken]))], pileB cI cL pl a L h v lie seals folds n f]) rfl ?_
  refine r_lstore (L' := [(4, .long r66), (6, .int 2), (0, .ref fl), (1, .long acc), (3, .int letter)]) C dX10_mixedLetter_122 (by decide) rfl ?_
  refine r_iinc (v := 3) (L' := [(6, .int 3), (4, .long r66), (0, .ref fl), (1, .long acc), (3, .int letter)]) C dX10_mixedLetter_124 1 rfl (by decide) (by decide) rfl ?_
  refine r_goto (tgt := 103) C dX10_mixedLetter_127 (by decide) ?_
  refine r_iload C dX10_mixedLetter_103 0 rfl ?_
  refine r_iconst (v := 4) C dX10_mixedLetter_105 (by decide) ?_
  refine r_icmp_ge (tgt := 130) C dX10_mixedLetter_106 (by decide) (fun c => absurd c (by decide)) (fun _ => ?_)
  refine r_lload C dX10_mixedLetter_109 1 rfl ?_
  refine r_aload_n C dX10_mixedLetter_111 2 rfl ?_
  refine r_iload_n C dX10_mixedLetter_112 4 rfl ?_
  refine r_iload C dX10_mixedLetter_113 0 rfl ?_
  obtain ⟨h67, hp⟩ := hp
  refine r_callV (ci := 8) (wc := [[(fl, .inr (8, [.ref pl, .ref pl2, .ref hi, .ref tx, .ref u, .ref w, .int taken]))], pileB cI cL pl a L h v lie seals folds n f]) (wr := []) (st := [.long r66]) C (m_X10_why l D cI cL cP cJ fl pl a L h v lie seals folds n f pl2 hi tx u w taken letter 3 h67) k_X10_why t_558 [0, 1] (show ([0, 1] : List Nat).Perm (List.range 2) by decide) rfl rfl rfl (q0 := 0) rfl rfl rfl (Nat.le_of_ble_eq_true rfl) ⟨Nat.le_of_ble_eq_true rfl, Nat.le_of_ble_eq_true rfl⟩ ⟨Nat.zero_le _, Nat.zero_le _⟩ dX10_mixedLetter_115 (fun r68 wr68 hw68 => ?_)
  obtain ⟨e_r68, rfl⟩ := hw68
  have hp := hp r68 e_r68
  refine r_ws (I' := [[(fl, .inr (8, [.ref pl, .ref pl2, .ref hi, .ref tx, .ref u, .ref w, .int taken]))], pileB cI cL pl a L h v lie seals folds n f]) rfl ?_
  refine r_i2l C dX10_mixedLetter_118 rfl ?_
  refine r_callS (wc := []) (wr := [[(fl, .inr (8, [.ref pl, .ref pl2, .ref hi, .ref tx, .ref u, .ref w, .int taken]))], pileB cI cL pl a L h v lie seals folds n f]) (st := []) C (m_X10_mixed l D cI cL cP cJ r66 ((r68 : Int32).toInt64)) k_X10_mixed t_513 [0, 1] (show ([0, 1] : List Nat).Perm (List.range 2) by decide) rfl rfl rfl (Nat.le_of_ble_eq_true rfl) ⟨Nat.le_of_ble_eq_true rfl, Nat.le_of_ble_eq_true rfl⟩ ⟨Nat.zero_le _, Nat.zero_le _⟩ dX10_mixedLetter_119 (fun r69 wr69 hw69 => ?_)
  obtain ⟨e_r69, rfl⟩ := hw69
  have hp := hp r69 e_r69
  refine r_ws (I' := [[(fl, .inr (8, [.ref pl, .ref pl2, .ref hi, .ref tx, .ref u, .ref w, .int taken]))], pileB cI cL pl a L h v lie seals folds n f]) rfl ?_
  refine r_lstore (L' := [(4, .long r69), (6, .int 3), (0, .ref fl), (1, .long acc), (3, .int letter)]) C dX10_mixedLetter_122 (by decide) rfl ?_
  refine r_iinc (v := 4) (L' := [(6, .int 4), (4, .long r69), (0, .ref fl), (1, .long acc), (3, .int letter)]) C dX10_mixedLetter_124 1 rfl (by decide) (by decide) rfl ?_
  refine r_goto (tgt := 103) C dX10_mixedLetter_127 (by decide) ?_
  refine r_iload C dX10_mixedLetter_103 0 rfl ?_
  refine r_iconst (v := 4) C dX10_mixedLetter_105 (by decide) ?_
  refine r_icmp_ge (tgt := 130) C dX10_mixedLetter_106 (by decide) (fun _ => ?_) (fun c => absurd c (by decide))
  refine r_iconst (v := 0) C dX10_mixedLetter_130 (by decide) ?_
  refine r_istore (L' := [(6, .int 0), (4, .long r69), (0, .ref fl), (1, .long acc), (3, .int letter)]) C dX10_mixedLetter_131 (by decide) rfl ?_
  refine r_iload C dX10_mixedLetter_133 0 rfl ?_
  refine r_iconst (v := 4) C dX10_mixedLetter_135 (by decide) ?_
  refine r_icmp_ge (tgt := 160) C dX10_mixedLetter_136 (by decide) (fun c => absurd c (by decide)) (fun _ => ?_)
  refine r_lload C dX10_mixedLetter_139 1 rfl ?_
  refine r_aload_n C dX10_mixedLetter_141 2 rfl ?_
  refine r_iload_n C dX10_mixedLetter_142 4 rfl ?_
  refine r_iload C dX10_mixedLetter_143 0 rfl ?_
  obtain ⟨h70, hp⟩ := hp
  refine r_callV (ci := 8) (wc := [[(fl, .inr (8, [.ref pl, .ref pl2, .ref hi, .ref tx, .ref u, .ref w, .int taken]))], pileB cI cL pl a L h v lie seals folds n f]) (wr := []) (st := [.long r69]) C (m_X10_ifFolded l D cI cL cP cJ fl pl a L h v lie seals folds n f pl2 hi tx u w taken letter 0 h70) k_X10_ifFolded t_567 [0, 1] (show ([0, 1] : List Nat).Perm (List.range 2) by decide) rfl rfl rfl (q0 := 0) rfl rfl rfl (Nat.le_of_ble_eq_true rfl) ⟨Nat.le_of_ble_eq_true rfl, Nat.le_of_ble_eq_true rfl⟩ ⟨Nat.zero_le _, Nat.zero_le _⟩ dX10_mixedLetter_145 (fun r71 wr71 hw71 => ?_)
  obtain ⟨e_r71, rfl⟩ := hw71
  have hp := hp r71 e_r71
  refine r_ws (I' := [[(fl, .inr (8, [.ref pl, .ref pl2, .ref hi, .ref tx, .ref u, .ref w, .int taken]))], pileB cI cL pl a L h v lie seals folds n f]) rfl ?_
  refine r_i2l C dX10_mixedLetter_148 rfl ?_
  refine r_callS (wc := []) (wr := [[(fl, .inr (8, [.ref pl, .ref pl2, .ref hi, .ref tx, .ref u, .ref w, .int taken]))], pileB cI cL pl a L h v lie seals folds n f]) (st := []) C (m_X10_mixed l D cI cL cP cJ r69 ((r71 : Int32).toInt64)) k_X10_mixed t_513 [0, 1] (show ([0, 1] : List Nat).Perm (List.range 2) by decide) rfl rfl rfl (Nat.le_of_ble_eq_true rfl) ⟨Nat.le_of_ble_eq_true rfl, Nat.le_of_ble_eq_true rfl⟩ ⟨Nat.zero_le _, Nat.zero_le _⟩ dX10_mixedLetter_149 (fun r72 wr72 hw72 => ?_)
  obtain ⟨e_r72, rfl⟩ := hw72
  have hp := hp r72 e_r72
  refine r_ws (I' := [[(fl, .inr (8, [.ref pl, .ref pl2, .ref hi, .ref tx, .ref u, .ref w, .int taken]))], pileB cI cL pl a L h v lie seals folds n f]) rfl ?_
  refine r_lstore (L' := [(4, .long r72), (6, .int 0), (0, .ref fl), (1, .long acc), (3, .int letter)]) C dX10_mixedLetter_152 (by decide) rfl ?_
  refine r_iinc (v := 1) (L' := [(6, .int 1), (4, .long r72), (0, .ref fl), (1, .long acc), (3, .int letter)]) C dX10_mixedLetter_154 1 rfl (by decide) (by decide) rfl ?_
  refine r_goto (tgt := 133) C dX10_mixedLetter_157 (by decide) ?_
  refine r_iload C dX10_mixedLetter_133 0 rfl ?_
  refine r_iconst (v := 4) C dX10_mixedLetter_135 (by decide) ?_
  refine r_icmp_ge (tgt := 160) C dX10_mixedLetter_136 (by decide) (fun c => absurd c (by decide)) (fun _ => ?_)
  refine r_lload C dX10_mixedLetter_139 1 rfl ?_
  refine r_aload_n C dX10_mixedLetter_141 2 rfl ?_
  refine r_iload_n C dX10_mixedLetter_142 4 rfl ?_
  refine r_iload C dX10_mixedLetter_143 0 rfl ?_
  obtain ⟨h73, hp⟩ := hp
  refine r_callV (ci := 8) (wc := [[(fl, .inr (8, [.ref pl, .ref pl2, .ref hi, .ref tx, .ref u, .ref w, .int taken]))], pileB cI cL pl a L h v lie seals folds n f]) (wr := []) (st := [.long r72]) C (m_X10_ifFolded l D cI cL cP cJ fl pl a L h v lie seals folds n f pl2 hi tx u w taken letter 1 h73) k_X10_ifFolded t_567 [0, 1] (show ([0, 1] : List Nat).Perm (List.range 2) by decide) rfl rfl rfl (q0 := 0) rfl rfl rfl (Nat.le_of_ble_eq_true rfl) ⟨Nat.le_of_ble_eq_true rfl, Nat.le_of_ble_eq_true rfl⟩ ⟨Nat.zero_le _, Nat.zero_le _⟩ dX10_mixedLetter_145 (fun r74 wr74 hw74 => ?_)
  obtain ⟨e_r74, rfl⟩ := hw74
  have hp := hp r74 e_r74
  refine r_ws (I' := [[(fl, .inr (8, [.ref pl, .ref pl2, .ref hi, .ref tx, .ref u, .ref w, .int taken]))], pileB cI cL pl a L h v lie seals folds n f]) rfl ?_
  refine r_i2l C dX10_mixedLetter_148 rfl ?_
  refine r_callS (wc := []) (wr := [[(fl, .inr (8, [.ref pl, .ref pl2, .ref hi, .ref tx, .ref u, .ref w, .int taken]))], pileB cI cL pl a L h v lie seals folds n f]) (st := []) C (m_X10_mixed l D cI cL cP cJ r72 ((r74 : Int32).toInt64)) k_X10_mixed t_513 [0, 1] (show ([0, 1] : List Nat).Perm (List.range 2) by decide) rfl rfl rfl (Nat.le_of_ble_eq_true rfl) ⟨Nat.le_of_ble_eq_true rfl, Nat.le_of_ble_eq_true rfl⟩ ⟨Nat.zero_le _, Nat.zero_le _⟩ dX10_mixedLetter_149 (fun r75 wr75 hw75 => ?_)
  obtain ⟨e_r75, rfl⟩ := hw75
  have hp := hp r75 e_r75
  refine r_ws (I' := [[(fl, .inr (8, [.ref pl, .ref pl2, .ref hi, .ref tx, .ref u, .ref w, .int taken]))], pileB cI cL pl a L h v lie seals folds n f]) rfl ?_
  refine r_lstore (L' := [(4, .long r75), (6, .int 1), (0, .ref fl), (1, .long acc), (3, .int letter)]) C dX10_mixedLetter_152 (by decide) rfl ?_
  refine r_iinc (v := 2) (L' := [(6, .int 2), (4, .long r75), (0, .ref fl), (1, .long acc), (3, .int letter)]) C dX10_mixedLetter_154 1 rfl (by decide) (by decide) rfl ?_
  refine r_goto (tgt := 133) C dX10_mixedLetter_157 (by decide) ?_
  refine r_iload C dX10_mixedLetter_133 0 rfl ?_
  refine r_iconst (v := 4) C dX10_mixedLetter_135 (by decide) ?_
  refine r_icmp_ge (tgt := 160) C dX10_mixedLetter_136 (by decide) (fun c => absurd c (by decide)) (fun _ => ?_)
  refine r_lload C dX10_mixedLetter_139 1 rfl ?_
  refine r_aload_n C dX10_mixedLetter_141 2 rfl ?_
  refine r_iload_n C dX10_mixedLetter_142 4 rfl ?_
  refine r_iload C dX10_mixedLetter_143 0 rfl ?_
  obtain ⟨h76, hp⟩ := hp
  refine r_callV (ci := 8) (wc := [[(fl, .inr (8, [.ref pl, .ref pl2, .ref hi, .ref tx, .ref u, .ref w, .int taken]))], pileB cI cL pl a L h v lie seals folds n f]) (wr := []) (st := [.long r75]) C (m_X10_ifFolded l D cI cL cP cJ fl pl a L h v lie seals folds n f pl2 hi tx u w taken letter 2 h76) k_X10_ifFolded t_567 [0, 1] (show ([0, 1] : List Nat).Perm (List.range 2) by decide) rfl rfl rfl (q0 := 0) rfl rfl rfl (Nat.le_of_ble_eq_true rfl) ⟨Nat.le_of_ble_eq_true rfl, Nat.le_of_ble_eq_true rfl⟩ ⟨Nat.zero_le _, Nat.zero_le _⟩ dX10_mixedLetter_145 (fun r77 wr77 hw77 => ?_)
  obtain ⟨e_r77, rfl⟩ := hw77
  have hp := hp r77 e_r77
  refine r_ws (I' := [[(fl, .inr (8, [.ref pl, .ref pl2, .ref hi, .ref tx, .ref u, .ref w, .int taken]))], pileB cI cL pl a L h v lie seals folds n f]) rfl ?_
  refine r_i2l C dX10_mixedLetter_148 rfl ?_
  refine r_callS (wc := []) (wr := [[(fl, .inr (8, [.ref pl, .ref pl2, .ref hi, .ref tx, .ref u, .ref w, .int taken]))], pileB cI cL pl a L h v lie seals folds n f]) (st := []) C (m_X10_mixed l D cI cL cP cJ r75 ((r77 : Int32).toInt64)) k_X10_mixed t_513 [0, 1] (show ([0, 1] : List Nat).Perm (List.range 2) by decide) rfl rfl rfl (Nat.le_of_ble_eq_true rfl) ⟨Nat.le_of_ble_eq_true rfl, Nat.le_of_ble_eq_true rfl⟩ ⟨Nat.zero_le _, Nat.zero_le _⟩ dX10_mixedLetter_149 (fun r78 wr78 hw78 => ?_)
  obtain ⟨e_r78, rfl⟩ := hw78
  have hp := hp r78 e_r78
  refine r_ws (I' := [[(fl, .inr (8, [.ref pl, .ref pl2, .ref hi, .ref tx, .ref u, .ref w, .int taken]))], pileB cI cL pl a L h v lie seals folds n f]) rfl ?_
  refine r_lstore (L' := [(4, .long r78), (6, .int 2), (0, .ref fl), (1, .long acc), (3, .int letter)]) C dX10_mixedLetter_152 (by decide) rfl ?_
  refine r_iinc (v := 3) (L' := [(6, .int 3), (4, .long r78), (0, .ref fl), (1, .long acc), (3, .int letter)]) C dX10_mixedLetter_154 1 rfl (by decide) (by decide) rfl ?_
  refine r_goto (tgt := 133) C dX10_mixedLetter_157 (by decide) ?_
  refine r_iload C dX10_mixedLetter_133 0 rfl ?_
  refine r_iconst (v := 4) C dX10_mixedLetter_135 (by decide) ?_
  refine r_icmp_ge (tgt := 160) C dX10_mixedLetter_136 (by decide) (fun c => absurd c (by decide)) (fun _ => ?_)
  refine r_lload C dX10_mixedLetter_139 1 rfl ?_
  refine r_aload_n C dX10_mixedLetter_141 2 rfl ?_
  refine r_iload_n C dX10_mixedLetter_142 4 rfl ?_
  refine r_iload C dX10_mixedLetter_143 0 rfl ?_
  obtain ⟨h79, hp⟩ := hp
  refine r_callV (ci := 8) (wc := [[(fl, .inr (8, [.ref pl, .ref pl2, .ref hi, .ref tx, .ref u, .ref w, .int taken]))], pileB cI cL pl a L h v lie seals folds n f]) (wr := []) (st := [.long r78]) C (m_X10_ifFolded l D cI cL cP cJ fl pl a L h v lie seals folds n f pl2 hi tx u w taken letter 3 h79) k_X10_ifFolded t_567 [0, 1] (show ([0, 1] : List Nat).Perm (List.range 2) by decide) rfl rfl rfl (q0 := 0) rfl rfl rfl (Nat.le_of_ble_eq_true rfl) ⟨Nat.le_of_ble_eq_true rfl, Nat.le_of_ble_eq_true rfl⟩ ⟨Nat.zero_le _, Nat.zero_le _⟩ dX10_mixedLetter_145 (fun r80 wr80 hw80 => ?_)
  obtain ⟨e_r80, rfl⟩ := hw80
  have hp := hp r80 e_r80
  refine r_ws (I' := [[(fl, .inr (8, [.ref pl, .ref pl2, .ref hi, .ref tx, .ref u, .ref w, .int taken]))], pileB cI cL pl a L h v lie seals folds n f]) rfl ?_
  refine r_i2l C dX10_mixedLetter_148 rfl ?_
  refine r_callS (wc := []) (wr := [[(fl, .inr (8, [.ref pl, .ref pl2, .ref hi, .ref tx, .ref u, .ref w, .int taken]))], pileB cI cL pl a L h v lie seals folds n f]) (st := []) C (m_X10_mixed l D cI cL cP cJ r78 ((r80 : Int32).toInt64)) k_X10_mixed t_513 [0, 1] (show ([0, 1] : List Nat).Perm (List.range 2) by decide) rfl rfl rfl (Nat.le_of_ble_eq_true rfl) ⟨Nat.le_of_ble_eq_true rfl, Nat.le_of_ble_eq_true rfl⟩ ⟨Nat.zero_le _, Nat.zero_le _⟩ dX10_mixedLetter_149 (fun r81 wr81 hw81 => ?_)
  obtain ⟨e_r81, rfl⟩ := hw81
  have hp := hp r81 e_r81
  refine r_ws (I' := [[(fl, .inr (8, [.ref pl, .ref pl2, .ref hi, .ref tx, .ref u, .ref w, .int taken]))], pileB cI cL pl a L h v lie seals folds n f]) rfl ?_
  refine r_lstore (L' := [(4, .long r81), (6, .int 3), (0, .ref fl), (1, .long acc), (3, .int letter)]) C dX10_mixedLetter_152 (by decide) rfl ?_
  refine r_iinc (v := 4) (L' := [(6, .int 4), (4, .long r81), (0, .ref fl), (1, .long acc), (3, .int letter)]) C dX10_mixedLetter_154 1 rfl (by decide) (by decide) rfl ?_
  refine r_goto (tgt := 133) C dX10_mixedLetter_157 (by decide) ?_
  refine r_iload C dX10_mixedLetter_133 0 rfl ?_
  refine r_iconst (v := 4) C dX10_mixedLetter_135 (by decide) ?_
  refine r_icmp_ge (tgt := 160) C dX10_mixedLetter_136 (by decide) (fun _ => ?_) (fun c => absurd c (by decide))
  refine r_iconst (v := 0) C dX10_mixedLetter_160 (by decide) ?_
  refine r_istore (L' := [(6, .int 0), (4, .long r81), (0, .ref fl), (1, .long acc), (3, .int letter)]) C dX10_mixedLetter_161 (by decide) rfl ?_
  refine r_iload C dX10_mixedLetter_163 0 rfl ?_
  refine r_iconst (v := 5) C dX10_mixedLetter_165 (by decide) ?_
  refine r_icmp_ge (tgt := 190) C dX10_mixedLetter_166 (by decide) (fun c => absurd c (by decide)) (fun _ => ?_)
  refine r_lload C dX10_mixedLetter_169 1 rfl ?_
  refine r_aload_n C dX10_mixedLetter_171 2 rfl ?_
  refine r_iload_n C dX10_mixedLetter_172 4 rfl ?_
  refine r_iload C dX10_mixedLetter_173 0 rfl ?_
  obtain ⟨h82, hp⟩ := hp
  refine r_callV (ci := 8) (wc := [[(fl, .inr (8, [.ref pl, .ref pl2, .ref hi, .ref tx, .ref u, .ref w, .int taken]))], pileB cI cL pl a L h v lie seals folds n f]) (wr := []) (st := [.long r81]) C (m_X10_distance l D cI cL cP cJ fl pl a L h v lie seals folds n f pl2 hi tx u w taken letter 0 h82) k_X10_distance t_572 [0, 1] (show ([0, 1] : List Nat).Perm (List.range 2) by decide) rfl rfl rfl (q0 := 0) rfl rfl rfl (Nat.le_of_ble_eq_true rfl) ⟨Nat.le_of_ble_eq_true rfl, Nat.le_of_ble_eq_true rfl⟩ ⟨Nat.zero_le _, Nat.zero_le _⟩ dX10_mixedLetter_175 (fun r83 wr83 hw83 => ?_)
  obtain ⟨e_r83, rfl⟩ := hw83
  have hp := hp r83 e_r83
  refine r_ws (I' := [[(fl, .inr (8, [.ref pl, .ref pl2, .ref hi, .ref tx, .ref u, .ref w, .int taken]))], pileB cI cL pl a L h v lie seals folds n f]) rfl ?_
  refine r_i2l C dX10_mixedLetter_178 rfl ?_
  refine r_callS (wc := []) (wr := [[(fl, .inr (8, [.ref pl, .ref pl2, .ref hi, .ref tx, .ref u, .ref w, .int taken]))], pileB cI cL pl a L h v lie seals folds n f]) (st := []) C (m_X10_mixed l D cI cL cP cJ r81 ((r83 : Int32).toInt64)) k_X10_mixed t_513 [0, 1] (show ([0, 1] : List Nat).Perm (List.range 2) by decide) rfl rfl rfl (Nat.le_of_ble_eq_true rfl) ⟨Nat.le_of_ble_eq_true rfl, Nat.le_of_ble_eq_true rfl⟩ ⟨Nat.zero_le _, Nat.zero_le _⟩ dX10_mixedLetter_179 (fun r84 wr84 hw84 => ?_)
  obtain ⟨e_r84, rfl⟩ := hw84
  have hp := hp r84 e_r84
  refine r_ws (I' := [[(fl, .inr (8, [.ref pl, .ref pl2, .ref hi, .ref tx, .ref u, .ref w, .int taken]))], pileB cI cL pl a L h v lie seals folds n f]) rfl ?_
  refine r_lstore (L' := [(4, .long r84), (6, .int 0), (0, .ref fl), (1, .long acc), (3, .int letter)]) C dX10_mixedLetter_182 (by decide) rfl ?_
  refine r_iinc (v := 1) (L' := [(6, .int 1), (4, .long r84), (0, .ref fl), (1, .long acc), (3, .int letter)]) C dX10_mixedLetter_184 1 rfl (by decide) (by decide) rfl ?_
  refine r_goto (tgt := 163) C dX10_mixedLetter_187 (by decide) ?_
  refine r_iload C dX10_mixedLetter_163 0 rfl ?_
  refine r_iconst (v := 5) C dX10_mixedLetter_165 (by decide) ?_
  refine r_icmp_ge (tgt := 190) C dX10_mixedLetter_166 (by decide) (fun c => absurd c (by decide)) (fun _ => ?_)
  refine r_lload C dX10_mixedLetter_169 1 rfl ?_
  refine r_aload_n C dX10_mixedLetter_171 2 rfl ?_
  refine r_iload_n C dX10_mixedLetter_172 4 rfl ?_
  refine r_iload C dX10_mixedLetter_173 0 rfl ?_
  obtain ⟨h85, hp⟩ := hp
  refine r_callV (ci := 8) (wc := [[(fl, .inr (8, [.ref pl, .ref pl2, .ref hi, .ref tx, .ref u, .ref w, .int taken]))], pileB cI cL pl a L h v lie seals folds n f]) (wr := []) (st := [.long r84]) C (m_X10_distance l D cI cL cP cJ fl pl a L h v lie seals folds n f pl2 hi tx u w taken letter 1 h85) k_X10_distance t_572 [0, 1] (show ([0, 1] : List Nat).Perm (List.range 2) by decide) rfl rfl rfl (q0 := 0) rfl rfl rfl (Nat.le_of_ble_eq_true rfl) ⟨Nat.le_of_ble_eq_true rfl, Nat.le_of_ble_eq_true rfl⟩ ⟨Nat.zero_le _, Nat.zero_le _⟩ dX10_mixedLetter_175 (fun r86 wr86 hw86 => ?_)
  obtain ⟨e_r86, rfl⟩ := hw86
  have hp := hp r86 e_r86
  refine r_ws (I' := [[(fl, .inr (8, [.ref pl, .ref pl2, .ref hi, .ref tx, .ref u, .ref w, .int taken]))], pileB cI cL pl a L h v lie seals folds n f]) rfl ?_
  refine r_i2l C dX10_mixedLetter_178 rfl ?_
  refine r_callS (wc := []) (wr := [[(fl, .inr (8, [.ref pl, .ref pl2, .ref hi, .ref tx, .ref u, .ref w, .int taken]))], pileB cI cL pl a L h v lie seals folds n f]) (st := []) C (m_X10_mixed l D cI cL cP cJ r84 ((r86 : Int32).toInt64)) k_X10_mixed t_513 [0, 1] (show ([0, 1] : List Nat).Perm (List.range 2) by decide) rfl rfl rfl (Nat.le_of_ble_eq_true rfl) ⟨Nat.le_of_ble_eq_true rfl, Nat.le_of_ble_eq_true rfl⟩ ⟨Nat.zero_le _, Nat.zero_le _⟩ dX10_mixedLetter_179 (fun r87 wr87 hw87 => ?_)
  obtain ⟨e_r87, rfl⟩ := hw87
  have hp := hp r87 e_r87
  refine r_ws (I' := [[(fl, .inr (8, [.ref pl, .ref pl2, .ref hi, .ref tx, .ref u, .ref w, .int taken]))], pileB cI cL pl a L h v lie seals folds n f]) rfl ?_
  refine r_lstore (L' := [(4, .long r87), (6, .int 1), (0, .ref fl), (1, .long acc), (3, .int letter)]) C dX10_mixedLetter_182 (by decide) rfl ?_
  refine r_iinc (v := 2) (L' := [(6, .int 2), (4, .long r87), (0, .ref fl), (1, .long acc), (3, .int letter)]) C dX10_mixedLetter_184 1 rfl (by decide) (by decide) rfl ?_
  refine r_goto (tgt := 163) C dX10_mixedLetter_187 (by decide) ?_
  refine r_iload C dX10_mixedLetter_163 0 rfl ?_
  refine r_iconst (v := 5) C dX10_mixedLetter_165 (by decide) ?_
  refine r_icmp_ge (tgt := 190) C dX10_mixedLetter_166 (by decide) (fun c => absurd c (by decide)) (fun _ => ?_)
  refine r_lload C dX10_mixedLetter_169 1 rfl ?_
  refine r_aload_n C dX10_mixedLetter_171 2 rfl ?_
  refine r_iload_n C dX10_mixedLetter_172 4 rfl ?_
  refine r_iload C dX10_mixedLetter_173 0 rfl ?_
  obtain ⟨h88, hp⟩ := hp
  refine r_callV (ci := 8) (wc := [[(fl, .inr (8, [.ref pl, .ref pl2, .ref hi, .ref tx, .ref u, .ref w, .int taken]))], pileB cI cL pl a L h v lie seals folds n f]) (wr := []) (st := [.long r87]) C (m_X10_distance l D cI cL cP cJ fl pl a L h v lie seals folds n f pl2 hi tx u w taken letter 2 h88) k_X10_distance t_572 [0, 1] (show ([0, 1] : List Nat).Perm (List.range 2) by decide) rfl rfl rfl (q0 := 0) rfl rfl rfl (Nat.le_of_ble_eq_true rfl) ⟨Nat.le_of_ble_eq_true rfl, Nat.le_of_ble_eq_true rfl⟩ ⟨Nat.zero_le _, Nat.zero_le _⟩ dX10_mixedLetter_175 (fun r89 wr89 hw89 => ?_)
  obtain ⟨e_r89, rfl⟩ := hw89
  have hp := hp r89 e_r89
  refine r_ws (I' := [[(fl, .inr (8, [.ref pl, .ref pl2, .ref hi, .ref tx, .ref u, .ref w, .int taken]))], pileB cI cL pl a L h v lie seals folds n f]) rfl ?_
  refine r_i2l C dX10_mixedLetter_178 rfl ?_
  refine r_callS (wc := []) (wr := [[(fl, .inr (8, [.ref pl, .ref pl2, .ref hi, .ref tx, .ref u, .ref w, .int taken]))], pileB cI cL pl a L h v lie seals folds n f]) (st := []) C (m_X10_mixed l D cI cL cP cJ r87 ((r89 : Int32).toInt64)) k_X10_mixed t_513 [0, 1] (show ([0, 1] : List Nat).Perm (List.range 2) by decide) rfl rfl rfl (Nat.le_of_ble_eq_true rfl) ⟨Nat.le_of_ble_eq_true rfl, Nat.le_of_ble_eq_true rfl⟩ ⟨Nat.zero_le _, Nat.zero_le _⟩ dX10_mixedLetter_179 (fun r90 wr90 hw90 => ?_)
  obtain ⟨e_r90, rfl⟩ := hw90
  have hp := hp r90 e_r90
  refine r_ws (I' := [[(fl, .inr (8, [.ref pl, .ref pl2, .ref hi, .ref tx, .ref u, .ref w, .int taken]))], pileB cI cL pl a L h v lie seals folds n f]) rfl ?_
  refine r_lstore (L' := [(4, .long r90), (6, .int 2), (0, .ref fl), (1, .long acc), (3, .int letter)]) C dX10_mixedLetter_182 (by decide) rfl ?_
  refine r_iinc (v := 3) (L' := [(6, .int 3), (4, .long r90), (0, .ref fl), (1, .long acc), (3, .int letter)]) C dX10_mixedLetter_184 1 rfl (by decide) (by decide) rfl ?_
  refine r_goto (tgt := 163) C dX10_mixedLetter_187 (by decide) ?_
  refine r_iload C dX10_mixedLetter_163 0 rfl ?_
  refine r_iconst (v := 5) C dX10_mixedLetter_165 (by decide) ?_
  refine r_icmp_ge (tgt := 190) C dX10_mixedLetter_166 (by decide) (fun c => absurd c (by decide)) (fun _ => ?_)
  refine r_lload C dX10_mixedLetter_169 1 rfl ?_
  refine r_aload_n C dX10_mixedLetter_171 2 rfl ?_
  refine r_iload_n C dX10_mixedLetter_172 4 rfl ?_
  refine r_iload C dX10_mixedLetter_173 0 rfl ?_
  obtain ⟨h91, hp⟩ := hp
  refine r_callV (ci := 8) (wc := [[(fl, .inr (8, [.ref pl, .ref pl2, .ref hi, .ref tx, .ref u, .ref w, .int taken]))], pileB cI cL pl a L h v lie seals folds n f]) (wr := []) (st := [.long r90]) C (m_X10_distance l D cI cL cP cJ fl pl a L h v lie seals folds n f pl2 hi tx u w taken letter 3 h91) k_X10_distance t_572 [0, 1] (show ([0, 1] : List Nat).Perm (List.range 2) by decide) rfl rfl rfl (q0 := 0) rfl rfl rfl (Nat.le_of_ble_eq_true rfl) ⟨Nat.le_of_ble_eq_true rfl, Nat.le_of_ble_eq_true rfl⟩ ⟨Nat.zero_le _, Nat.zero_le _⟩ dX10_mixedLetter_175 (fun r92 wr92 hw92 => ?_)
  obtain ⟨e_r92, rfl⟩ := hw92
  have hp := hp r92 e_r92
  refine r_ws (I' := [[(fl, .inr (8, [.ref pl, .ref pl2, .ref hi, .ref tx, .ref u, .ref w, .int taken]))], pileB cI cL pl a L h v lie seals folds n f]) rfl ?_
  refine r_i2l C dX10_mixedLetter_178 rfl ?_
  refine r_callS (wc := []) (wr := [[(fl, .inr (8, [.ref pl, .ref pl2, .ref hi, .ref tx, .ref u, .ref w, .int taken]))], pileB cI cL pl a L h v lie seals folds n f]) (st := []) C (m_X10_mixed l D cI cL cP cJ r90 ((r92 : Int32).toInt64)) k_X10_mixed t_513 [0, 1] (show ([0, 1] : List Nat).Perm (List.range 2) by decide) rfl rfl rfl (Nat.le_of_ble_eq_true rfl) ⟨Nat.le_of_ble_eq_true rfl, Nat.le_of_ble_eq_true rfl⟩ ⟨Nat.zero_le _, Nat.zero_le _⟩ dX10_mixedLetter_179 (fun r93 wr93 hw93 => ?_)
  obtain ⟨e_r93, rfl⟩ := hw93
  have hp := hp r93 e_r93
  refine r_ws (I' := [[(fl, .inr (8, [.ref pl, .ref pl2, .ref hi, .ref tx, .ref u, .ref w, .int taken]))], pileB cI cL pl a L h v lie seals folds n f]) rfl ?_
  refine r_lstore (L' := [(4, .long r93), (6, .int 3), (0, .ref fl), (1, .long acc), (3, .int letter)]) C dX10_mixedLetter_182 (by decide) rfl ?_
  refine r_iinc (v := 4) (L' := [(6, .int 4), (4, .long r93), (0, .ref fl), (1, .long acc), (3, .int letter)]) C dX10_mixedLetter_184 1 rfl (by decide) (by decide) rfl ?_
  refine r_goto (tgt := 163) C dX10_mixedLetter_187 (by decide) ?_
  refine r_iload C dX10_mixedLetter_163 0 rfl ?_
  refine r_iconst (v := 5) C dX10_mixedLetter_165 (by decide) ?_
  refine r_icmp_ge (tgt := 190) C dX10_mixedLetter_166 (by decide) (fun c => absurd c (by decide)) (fun _ => ?_)
  refine r_lload C dX10_mixedLetter_169 1 rfl ?_
  refine r_aload_n C dX10_mixedLetter_171 2 rfl ?_
  refine r_iload_n C dX10_mixedLetter_172 4 rfl ?_
  refine r_iload C dX10_mixedLetter_173 0 rfl ?_
  obtain ⟨h94, hp⟩ := hp
  refine r_callV (ci := 8) (wc := [[(fl, .inr (8, [.ref pl, .ref pl2, .ref hi, .ref tx, .ref u, .ref w, .int taken]))], pileB cI cL pl a L h v lie seals folds n f]) (wr := []) (st := [.long r93]) C (m_X10_distance l D cI cL cP cJ fl pl a L h v lie seals folds n f pl2 hi tx u w taken letter 4 h94) k_X10_distance t_572 [0, 1] (show ([0, 1] : List Nat).Perm (List.range 2) by decide) rfl rfl rfl (q0 := 0) rfl rfl rfl (Nat.le_of_ble_eq_true rfl) ⟨Nat.le_of_ble_eq_true rfl, Nat.le_of_ble_eq_true rfl⟩ ⟨Nat.zero_le _, Nat.zero_le _⟩ dX10_mixedLetter_175 (fun r95 wr95 hw95 => ?_)
  obtain ⟨e_r95, rfl⟩ := hw95
  have hp := hp r95 e_r95
  refine r_ws (I' := [[(fl, .inr (8, [.ref pl, .ref pl2, .ref hi, .ref tx, .ref u, .ref w, .int taken]))], pileB cI cL pl a L h v lie seals folds n f]) rfl ?_
  refine r_i2l C dX10_mixedLetter_178 rfl ?_
  refine r_callS (wc := []) (wr := [[(fl, .inr (8, [.ref pl, .ref pl2, .ref hi, .ref tx, .ref u, .ref w, .int taken]))], pileB cI cL pl a L h v lie seals folds n f]) (st := []) C (m_X10_mixed l D cI cL cP cJ r93 ((r95 : Int32).toInt64)) k_X10_mixed t_513 [0, 1] (show ([0, 1] : List Nat).Perm (List.range 2) by decide) rfl rfl rfl (Nat.le_of_ble_eq_true rfl) ⟨Nat.le_of_ble_eq_true rfl, Nat.le_of_ble_eq_true rfl⟩ ⟨Nat.zero_le _, Nat.zero_le _⟩ dX10_mixedLetter_179 (fun r96 wr96 hw96 => ?_)
  obtain ⟨e_r96, rfl⟩ := hw96
  have hp := hp r96 e_r96
  refine r_ws (I' := [[(fl, .inr (8, [.ref pl, .ref pl2, .ref hi, .ref tx, .ref u, .ref w, .int taken]))], pileB cI cL pl a L h v lie seals folds n f]) rfl ?_
  refine r_lstore (L' := [(4, .long r96), (6, .int 4), (0, .ref fl), (1, .long acc), (3, .int letter)]) C dX10_mixedLetter_182 (by decide) rfl ?_
  refine r_iinc (v := 5) (L' := [(6, .int 5), (4, .long r96), (0, .ref fl), (1, .long acc), (3, .int letter)]) C dX10_mixedLetter_184 1 rfl (by decide) (by decide) rfl ?_
  refine r_goto (tgt := 163) C dX10_mixedLetter_187 (by decide) ?_
  refine r_iload C dX10_mixedLetter_163 0 rfl ?_
  refine r_iconst (v := 5) C dX10_mixedLetter_165 (by decide) ?_
  refine r_icmp_ge (tgt := 190) C dX10_mixedLetter_166 (by decide) (fun _ => ?_) (fun c => absurd c (by decide))
  refine r_lload C dX10_mixedLetter_190 1 rfl ?_
  refine r_aload_n C dX10_mixedLetter_192 2 rfl ?_
  refine r_iload_n C dX10_mixedLetter_193 4 rfl ?_
  have h97 := hp
  refine r_callV (ci := 8) (wc := [[(fl, .inr (8, [.ref pl, .ref pl2, .ref hi, .ref tx, .ref u, .ref w, .int taken]))], pileB cI cL pl a L h v lie seals folds n f]) (wr := []) (st := [.long r96]) C (m_X10_nearest l D cI cL cP cJ fl pl a L h v lie seals folds n f pl2 hi tx u w taken letter h97) k_X10_nearest t_579 [0, 1] (show ([0, 1] : List Nat).Perm (List.range 2) by decide) rfl rfl rfl (q0 := 0) rfl rfl rfl (Nat.le_of_ble_eq_true rfl) ⟨Nat.le_of_ble_eq_true rfl, Nat.le_of_ble_eq_true rfl⟩ ⟨Nat.zero_le _, Nat.zero_le _⟩ dX10_mixedLetter_194 (fun r98 wr98 hw98 => ?_)
  obtain ⟨e_r98, rfl⟩ := hw98
  refine r_ws (I' := [[(fl, .inr (8, [.ref pl, .ref pl2, .ref hi, .ref tx, .ref u, .ref w, .int taken]))], pileB cI cL pl a L h v lie seals folds n f]) rfl ?_
  refine r_i2l C dX10_mixedLetter_197 rfl ?_
  refine r_callS (wc := []) (wr := [[(fl, .inr (8, [.ref pl, .ref pl2, .ref hi, .ref tx, .ref u, .ref w, .int taken]))], pileB cI cL pl a L h v lie seals folds n f]) (st := []) C (m_X10_mixed l D cI cL cP cJ r96 ((r98 : Int32).toInt64)) k_X10_mixed t_513 [0, 1] (show ([0, 1] : List Nat).Perm (List.range 2) by decide) rfl rfl rfl (Nat.le_of_ble_eq_true rfl) ⟨Nat.le_of_ble_eq_true rfl, Nat.le_of_ble_eq_true rfl⟩ ⟨Nat.zero_le _, Nat.zero_le _⟩ dX10_mixedLetter_198 (fun r99 wr99 hw99 => ?_)
  obtain ⟨e_r99, rfl⟩ := hw99
  refine r_ws (I' := [[(fl, .inr (8, [.ref pl, .ref pl2, .ref hi, .ref tx, .ref u, .ref w, .int taken]))], pileB cI cL pl a L h v lie seals folds n f]) rfl ?_
  have eF : F_X10_mixedLetter lie seals folds n f acc letter = r99 := by have q := e_r2.symm; subst q; have q := e_r3.symm; subst q; have q := e_r5.symm; subst q; have q := e_r6.symm; subst q; have q := e_r8.symm; subst q; have q := e_r9.symm; subst q; have q := e_r11.symm; subst q; have q := e_r12.symm; subst q; have q := e_r14.symm; subst q; have q := e_r15.symm; subst q; have q := e_r17.symm; subst q; have q := e_r18.symm; subst q; have q := e_r20.symm; subst q; have q := e_r21.symm; subst q; have q := e_r23.symm; subst q; have q := e_r24.symm; subst q; have q := e_r26.symm; subst q; have q := e_r27.symm; subst q; have q := e_r29.symm; subst q; have q := e_r30.symm; subst q; have q := e_r32.symm; subst q; have q := e_r33.symm; subst q; have q := e_r35.symm; subst q; have q := e_r36.symm; subst q; have q := e_r38.symm; subst q; have q := e_r39.symm; subst q; have q := e_r41.symm; subst q; have q := e_r42.symm; subst q; have q := e_r44.symm; subst q; have q := e_r45.symm; subst q; have q := e_r51.symm; subst q; have q := e_r55.symm; subst q; have q := e_r57.symm; subst q; have q := e_r59.symm; subst q; have q := e_r60.symm; subst q; have q := e_r62.symm; subst q; have q := e_r63.symm; subst q; have q := e_r65.symm; subst q; have q := e_r66.symm; subst q; have q := e_r68.symm; subst q; have q := e_r69.symm; subst q; have q := e_r71.symm; subst q; have q := e_r72.symm; subst q; have q := e_r74.symm; subst q; have q := e_r75.symm; subst q; have q := e_r77.symm; subst q; have q := e_r78.symm; subst q; have q := e_r80.symm; subst q; have q := e_r81.symm; subst q; have q := e_r83.symm; subst q; have q := e_r84.symm; subst q; have q := e_r86.symm; subst q; have q := e_r87.symm; subst q; have q := e_r89.symm; subst q; have q := e_r90.symm; subst q; have q := e_r92.symm; subst q; have q := e_r93.symm; subst q; have q := e_r95.symm; subst q; have q := e_r96.symm; subst q; have q := e_r98.symm; subst q; have q := e_r99.symm; subst q; rfl
  exact r_lret (r := r99) C hA hr hlo dX10_mixedLetter_201 [[(fl, .inr (8, [.ref pl, .ref pl2, .ref hi, .ref tx, .ref u, .ref w, .int taken]))], pileB cI cL pl a L h v lie seals folds n f] ⟨by simp only [eF], rfl⟩ rfl hQ
theorem k_X10_digest : kV yX10_digest cX10_digest 4 (some .long) 0 := ⟨t_455, t_456, t_58, t_457, by decide +kernel, by decide +kernel, by decide +kernel⟩
set_option maxRecDepth 20000 in
def F_X10_digest (lie : Nat → Int32) (seals : Nat → Int32) (folds : Nat → Int32) (n : Nat → Int32) (f : Nat → Nat → Int32) (size : Int32) (nt : Int32) (ft : Nat → Int32) (fme : Nat → Int32) (ffo : Nat → Int32) (ffd : Nat → Int32) (kn : Int32) (taken : Int32) : Int64 × (Nat → Int32) × (Nat → Int32) × (Nat → Int32) × Int32 := let r2 : Int32 := F_X10_count lie seals folds n size 0; let r3 : Int64 := F_X10_mixed 3733 ((r2 : Int32).toInt64); let r5 : Int32 := F_X10_count lie seals folds n size 1; let r6 : Int64 := F_X10_mixed r3 ((r5 : Int32).toInt64); let r8 : Int32 := F_X10_count lie seals folds n size 2; let r9 : Int64 := F_X10_mixed r6 ((r8 : Int32).toInt64); let r11 : Int32 := F_X10_count lie seals folds n size 3; let r12 : Int64 := F_X10_mixed r9 ((r11 : Int32).toInt64); let r14 : Int32 := F_X10_count lie seals folds n size 4; let r15 : Int64 := F_X10_mixed r12 ((r14 : Int32).toInt64); let r17 : Int32 := F_X10_count lie seals folds n size 5; let r18 : Int64 := F_X10_mixed r15 ((r17 : Int32).toInt64); let r20 : Int32 := F_X10_count lie seals folds n size 6; let r21 : Int64 := F_X10_mixed r18 ((r20 : Int32).toInt64); let r23 : Int64 := F_X10_mixedLetter lie seals folds n f r21 0; let r25 : Int64 := F_X10_mixedLetter lie seals folds n f r23 1; let r27 : Int64 := F_X10_mixedLetter lie seals folds n f r25 2; let r29 : Int64 := F_X10_mixedLetter lie seals folds n f r27 3; let r31 : Int64 := F_X10_mixedLetter lie seals folds n f r29 4; let r33 : Int32 := F_X10_letter lie seals folds n 0 0; let r35 : Int32 := (F_X10_ways fme ffo ffd kn r33 0).1; let g36 : Nat → Int32 := (F_X10_ways fme ffo ffd kn r33 0).2.1; let g37 : Nat → Int32 := (F_X10_ways fme ffo ffd kn r33 0).2.2.1; let g38 : Nat → Int32 := (F_X10_ways fme ffo ffd kn r33 0).2.2.2.1; let x39 : Int32 := (F_X10_ways fme ffo ffd kn r33 0).2.2.2.2; let r40 : Int64 := F_X10_mixed r31 ((r35 : Int32).toInt64); let r42 : Int32 := F_X10_letter lie seals folds n 0 0; let r44 : Int32 := (F_X10_ways g36 g37 g38 x39 r42 1).1; let g45 : Nat → Int32 := (F_X10_ways g36 g37 g38 x39 r42 1).2.1; let g46 : Nat → Int32 := (F_X10_ways g36 g37 g38 x39 r42 1).2.2.1; let g47 : Nat → Int32 := (F_X10_ways g36 g37 g38 x39 r42 1).2.2.2.1; let x48 : Int32 := (F_X10_ways g36 g37 g38 x39 r42 1).2.2.2.2; let r49 : Int64 := F_X10_mixed r40 ((r44 : Int32).toInt64); let r51 : UInt64 := F_X10_pressed lie seals folds n; let r53 : Int64 := F_X0_ofDouble r51; let r54 : Int64 := F_X10_mixed r49 r53; let r56 : UInt32 := F_X10_meanLength lie seals folds n; let r58 : Int32 := F_X0_ofFloat r56; let r59 : Int64 := F_X10_mixed r54 ((r58 : Int32).toInt64); let g61 : Int64 := (if taken = 0 then (0) else (1)); let r62 : Int64 := F_X10_mixed r59 g61; let r64 : Int32 := F_X6_size nt; let r65 : Int64 := F_X10_mixed r62 ((r64 : Int32).toInt64); let r68 : Int64 := F_X10_mixedRow nt ft r65; (r68, g45, g46, g47, x48)
set_option maxRecDepth 20000 in
def P_X10_digest (lie : Nat → Int32) (seals : Nat → Int32) (folds : Nat → Int32) (n : Nat → Int32) (f : Nat → Nat → Int32) (size : Int32) (nt : Int32) (ft : Nat → Int32) (fme : Nat → Int32) (ffo : Nat → Int32) (ffd : Nat → Int32) (kn : Int32) (taken : Int32) : Prop := ((P_X10_count lie seals folds n 0) ∧ (∀ r2 : Int32, r2 = F_X10_count lie seals folds n size 0 → (∀ r3 : Int64, r3 = F_X10_mixed 3733 ((r2 : Int32).toInt64) → ((P_X10_count lie seals folds n 1) ∧ (∀ r5 : Int32, r5 = F_X10_count lie seals folds n size 1 → (∀ r6 : Int64, r6 = F_X10_mixed r3 ((r5 : Int32).toInt64) → ((P_X10_count lie seals folds n 2) ∧ (∀ r8 : Int32, r8 = F_X10_count lie seals folds n size 2 → (∀ r9 : Int64, r9 = F_X10_mixed r6 ((r8 : Int32).toInt64) → ((P_X10_count lie seals folds n 3) ∧ (∀ r11 : Int32, r11 = F_X10_count lie seals folds n size 3 → (∀ r12 : Int64, r12 = F_X10_mixed r9 ((r11 : Int32).toInt64) → ((P_X10_count lie seals folds n 4) ∧ (∀ r14 : Int32, r14 = F_X10_count lie seals folds n size 4 → (∀ r15 : Int64, r15 = F_X10_mixed r12 ((r14 : Int32).toInt64) → ((P_X10_count lie seals folds n 5) ∧ (∀ r17 : Int32, r17 = F_X10_count lie seals folds n size 5 → (∀ r18 : Int64, r18 = F_X10_mixed r15 ((r17 : Int32).toInt64) → ((P_X10_count lie seals folds n 6) ∧ (∀ r20 : Int32, r20 = F_X10_count lie seals folds n size 6 → (∀ r21 : Int64, r21 = F_X10_mixed r18 ((r20 : Int32).toInt64) → ((P_X10_mixedLetter lie seals folds n f r21 0) ∧ (∀ r23 : Int64, r23 = F_X10_mixedLetter lie seals folds n f r21 0 → ((P_X10_mixedLetter lie seals folds n f r23 1) ∧ (∀ r25 : Int64, r25 = F_X10_mixedLetter lie seals folds n f r23 1 → ((P_X10_mixedLetter lie seals folds n f r25 2) ∧ (∀ r27 : Int64, r27 = F_X10_mixedLetter lie seals folds n f r25 2 → ((P_X10_mixedLetter lie seals folds n f r27 3) ∧ (∀ r29 : Int64, r29 = F_X10_mixedLetter lie seals folds n f r27 3 → ((P_X10_mixedLetter lie seals folds n f r29 4) ∧ (∀ r31 : Int64, r31 = F_X10_mixedLetter lie seals folds n f r29 4 → ((P_X10_letter lie 0 0) ∧ (∀ r33 : Int32, r33 = F_X10_letter lie seals folds n 0 0 → ((P_X10_ways fme ffo ffd kn r33 0) ∧ (∀ r35 : Int32, r35 = (F_X10_ways fme ffo ffd kn r33 0).1 → (∀ g36 : Nat → Int32, g36 = (F_X10_ways fme ffo ffd kn r33 0).2.1 → (∀ g37 : Nat → Int32, g37 = (F_X10_ways fme ffo ffd kn r33 0).2.2.1 → (∀ g38 : Nat → Int32, g38 = (F_X10_ways fme ffo ffd kn r33 0).2.2.2.1 → (∀ x39 : Int32, x39 = (F_X10_ways fme ffo ffd kn r33 0).2.2.2.2 → (∀ r40 : Int64, r40 = F_X10_mixed r31 ((r35 : Int32).toInt64) → ((P_X10_letter lie 0 0) ∧ (∀ r42 : Int32, r42 = F_X10_letter lie seals folds n 0 0 → ((P_X10_ways g36 g37 g38 x39 r42 1) ∧ (∀ r44 : Int32, r44 = (F_X10_ways g36 g37 g38 x39 r42 1).1 → (∀ g45 : Nat → Int32, g45 = (F_X10_ways g36 g37 g38 x39 r42 1).2.1 → (∀ g46 : Nat → Int32, g46 = (F_X10_ways g36 g37 g38 x39 r42 1).2.2.1 → (∀ g47 : Nat → Int32, g47 = (F_X10_ways g36 g37 g38 x39 r42 1).2.2.2.1 → (∀ x48 : Int32, x48 = (F_X10_ways g36 g37 g38 x39 r42 1).2.2.2.2 → (∀ r49 : Int64, r49 = F_X10_mixed r40 ((r44 : Int32).toInt64) → ((P_X10_pressed lie seals folds n) ∧ (∀ r51 : UInt64, r51 = F_X10_pressed lie seals folds n → ((P_X0_ofDouble r51) ∧ (∀ r53 : Int64, r53 = F_X0_ofDouble r51 → (∀ r54 : Int64, r54 = F_X10_mixed r49 r53 → ((P_X10_meanLength lie seals folds n) ∧ (∀ r56 : UInt32, r56 = F_X10_meanLength lie seals folds n → ((P_X0_ofFloat r56) ∧ (∀ r58 : Int32, r58 = F_X0_ofFloat r56 → (∀ r59 : Int64, r59 = F_X10_mixed r54 ((r58 : Int32).toInt64) → (∀ g61 : Int64, g61 = ((if taken = 0 then (0) else (1))) → (∀ r62 : Int64, r62 = F_X10_mixed r59 g61 → (∀ r64 : Int32, r64 = F_X6_size nt → (∀ r65 : Int64, r65 = F_X10_mixed r62 ((r64 : Int32).toInt64) → (P_X10_mixedRow nt ft r65))))))))))))))))))))))))))))))))))))))))))))))))))))))))))))))))
set_option maxRecDepth 20000 in
set_option maxHeartbeats 8000000 in
theorem m_X10_digest (l : Launch) (D : va_G) (cI cL cP cJ : ClassId) (fl : Nat) (pl : Nat) (a : Nat) (L : Nat → Nat) (h : Nat → Nat) (v : Nat → Nat) (lie : Nat → Int32) (seals : Nat → Int32) (folds : Nat → Int32) (n : Nat → Int32) (f : Nat → Nat → Int32) (pl2 : Nat) (hi : Nat) (sa : Nat) (PS : Nat → Nat) (AS : Nat → Nat) (LS : Nat → Nat → Nat) (hS_ : Nat → Nat → Nat) (vS : Nat → Nat → Nat) (lieS : Nat → Nat → Int32) (sealsS : Nat → Nat → Int32) (foldsS : Nat → Nat → Int32) (nS : Nat → Nat → Int32) (fS_ : Nat → Nat → Nat → Int32) (size : Int32) (tx : Nat) (ht : Nat) (vt : Nat) (rd : Nat) (nt : Int32) (ft : Nat → Int32) (opnt : Int32) (want : Int32) (u : Nat) (w : Nat) (me : Nat) (fo : Nat) (fd : Nat) (fme : Nat → Int32) (ffo : Nat → Int32) (ffd : Nat → Int32) (kn : Int32) (taken : Int32) (hp : P_X10_digest lie seals folds n f size nt ft fme ffo ffd kn taken) : M vJ l yX10_digest cX10_digest 4 (some .long) 7 157 D (tyF cI cL cP cJ) [.ref fl] [[(fl, .inr (8, [.ref pl, .ref pl2, .ref hi, .ref tx, .ref u, .ref w, .int taken]))], pileB cI cL pl a L h v lie seals folds n f, histB cI cL cP hi sa PS AS LS hS_ vS lieS sealsS foldsS nS fS_ size, txtB cI tx ht vt rd nt ft opnt want, walB cI w me fo fd fme ffo ffd kn] (fun (r : Int64) (w1 : List va_W) => r = (F_X10_digest lie seals folds n f size nt ft fme ffo ffd kn taken).1 ∧ w1 = [[(fl, .inr (8, [.ref pl, .ref pl2, .ref hi, .ref tx, .ref u, .ref w, .int taken]))], pileB cI cL pl a L h v lie seals folds n f, histB cI cL cP hi sa PS AS LS hS_ vS lieS sealsS foldsS nS fS_ size, txtB cI tx ht vt rd nt ft opnt want, walB cI w me fo fd ((F_X10_digest lie seals folds n f size nt ft fme ffo ffd kn taken).2.1) ((F_X10_digest lie seals folds n f size nt ft fme ffo ffd kn taken).2.2.1) ((F_X10_digest lie seals folds n f size nt ft fme ffo ffd kn taken).2.2.2.1) ((F_X10_digest lie seals folds n f size nt ft fme ffo ffd kn taken).2.2.2.2)]) := by
  unfold P_X10_digest at hp
  refine m_start (by decide +kernel) (Nat.le_of_ble_eq_true rfl) (fun p e s m args below meth c A Q hA hQ C hr hlo => ?_)
  refine r_Le (L' := [(0, .ref fl)]) rfl ?_
  refine r_ldc2 (v := 3733) C t_458 dX10_digest_0 ?_
  refine r_lstore_n (L' := [(1, .long 3733), (0, .ref fl)]) C dX10_digest_3 (by decide) rfl ?_
  refine r_iconst (v := 0) C dX10_digest_4 (by decide) ?_
  refine r_istore_n (L' := [(3, .int 0), (1, .long 3733), (0, .ref fl)]) C dX10_digest_5 (by decide) rfl ?_
  refine r_iload_n C dX10_digest_6 0 rfl ?_
  refine r_bipush (v := 6) C dX10_digest_7 (by decide) ?_
  refine r_icmp_gt (tgt := 29) C dX10_digest_9 (by decide) (fun c => absurd c (by decide)) (fun _ => ?_)
  refine r_lload_n C dX10_digest_12 1 rfl ?_
  refine r_aload_n C dX10_digest_13 2 rfl ?_
  refine r_iload_n C dX10_digest_14 0 rfl ?_
  obtain ⟨h1, hp⟩ := hp
  refine r_callV (ci := 8) (wc := [[(fl, .inr (8, [.ref pl, .ref pl2, .ref hi, .ref tx, .ref u, .ref w, .int taken]))], pileB cI cL pl a L h v lie seals folds n f, histB cI cL cP hi sa PS AS LS hS_ vS lieS sealsS foldsS nS fS_ size]) (wr := [txtB cI tx ht vt rd nt ft opnt want, walB cI w me fo fd fme ffo ffd kn]) (st := [.long 3733]) C (m_X10_count l D cI cL cP cJ fl pl a L h v lie seals folds n f pl2 hi sa PS AS LS hS_ vS lieS sealsS foldsS nS fS_ size tx u w taken 0 h1) k_X10_count t_459 [0, 1, 2, 3, 4] (show ([0, 1, 2, 3, 4] : List Nat).Perm (List.range 5) by decide) rfl rfl rfl (q0 := 0) rfl rfl rfl (Nat.le_of_ble_eq_true rfl) ⟨Nat.le_of_ble_eq_true rfl, Nat.le_of_ble_eq_true rfl⟩ ⟨Nat.zero_le _, Nat.zero_le _⟩ dX10_digest_15 (fun r2 wr2 hw2 => ?_)
  obtain ⟨e_r2, rfl⟩ := hw2
  have hp := hp r2 e_r2
  refine r_ws (I' := [[(fl, .inr (8, [.ref pl, .ref pl2, .ref hi, .ref tx, .ref u, .ref w, .int taken]))], pileB cI cL pl a L h v lie seals folds n f, histB cI cL cP hi sa PS AS LS hS_ vS lieS sealsS foldsS nS fS_ size, txtB cI tx ht vt rd nt ft opnt want, walB cI w me fo fd fme ffo ffd kn]) rfl ?_
  refine r_i2l C dX10_digest_18 rfl ?_
  refine r_callS (wc := []) (wr := [[(fl, .inr (8, [.ref pl, .ref pl2, .ref hi, .ref tx, .ref u, .ref w, .int taken]))], pileB cI cL pl a L h v lie seals folds n f, histB cI cL cP hi sa PS AS LS hS_ vS lieS sealsS foldsS nS fS_ size, txtB cI tx ht vt rd nt ft opnt want, walB cI w me fo fd fme ffo ffd kn]) (st := []) C (m_X10_mixed l D cI cL cP cJ 3733 ((r2 : Int32).toInt64)) k_X10_mixed t_513 [0, 1, 2, 3, 4] (show ([0, 1, 2, 3, 4] : List Nat).Perm (List.range 5) by decide) rfl rfl rfl (Nat.le_of_ble_eq_true rfl) ⟨Nat.le_of_ble_eq_true rfl, Nat.le_of_ble_eq_true rfl⟩ ⟨Nat.zero_le _, Nat.zero_le _⟩ dX10_digest_19 (fun r3 wr3 hw3 => ?_)
  obtain ⟨e_r3, rfl⟩ := hw3
  have hp := hp r3 e_r3
  refine r_ws (I' := [[(fl, .inr (8, [.ref pl, .ref pl2, .ref hi, .ref tx, .ref u, .ref w, .int taken]))], pileB cI cL pl a L h v lie seals folds n f, histB cI cL cP hi sa PS AS LS hS_ vS lieS sealsS foldsS nS fS_ size, txtB cI tx ht vt rd nt ft opnt want, walB cI w me fo fd fme ffo ffd kn]) rfl ?_
  refine r_lstore_n (L' := [(1, .long r3), (3, .int 0), (0, .ref fl)]) C dX10_digest_22 (by decide) rfl ?_
  refine r_iinc (v := 1) (L' := [(3, .int 1), (1, .long r3), (0, .ref fl)]) C dX10_digest_23 1 rfl (by decide) (by decide) rfl ?_
  refine r_goto (tgt := 6) C dX10_digest_26 (by decide) ?_
  refine r_iload_n C dX10_digest_6 0 rfl ?_
  refine r_bipush (v := 6) C dX10_digest_7 (by decide) ?_
  refine r_icmp_gt (tgt := 29) C dX10_digest_9 (by decide) (fun c => absurd c (by decide)) (fun _ => ?_)
  refine r_lload_n C dX10_digest_12 1 rfl ?_
  refine r_aload_n C dX10_digest_13 2 rfl ?_
  refine r_iload_n C dX10_digest_14 0 rfl ?_
  obtain ⟨h4, hp⟩ := hp
  refine r_callV (ci := 8) (wc := [[(fl, .inr (8, [.ref pl, .ref pl2, .ref hi, .ref tx, .ref u, .ref w, .int taken]))], pileB cI cL pl a L h v lie seals folds n f, histB cI cL cP hi sa PS AS LS hS_ vS lieS sealsS foldsS nS fS_ size]) (wr := [txtB cI tx ht vt rd nt ft opnt want, walB cI w me fo fd fme ffo ffd kn]) (st := [.long r3]) C (m_X10_count l D cI cL cP cJ fl pl a L h v lie seals folds n f pl2 hi sa PS AS LS hS_ vS lieS sealsS foldsS nS fS_ size tx u w taken 1 h4) k_X10_count t_459 [0, 1, 2, 3, 4] (show ([0, 1, 2, 3, 4] : List Nat).Perm (List.range 5) by decide) rfl rfl rfl (q0 := 0) rfl rfl rfl (Nat.le_of_ble_eq_true rfl) ⟨Nat.le_of_ble_eq_true rfl, Nat.le_of_ble_eq_true rfl⟩ ⟨Nat.zero_le _, Nat.zero_le _⟩ dX10_digest_15 (fun r5 wr5 hw5 => ?_)
  obtain ⟨e_r5, rfl⟩ := hw5
  have hp := hp r5 e_r5
  refine r_ws (I' := [[(fl, .inr (8, [.ref pl, .ref pl2, .ref hi, .ref tx, .ref u, .ref w, .int taken]))], pileB cI cL pl a L h v lie seals folds n f, histB cI cL cP hi sa PS AS LS hS_ vS lieS sealsS foldsS nS fS_ size, txtB cI tx ht vt rd nt ft opnt want, walB cI w me fo fd fme ffo ffd kn]) rfl ?_
  refine r_i2l C dX10_digest_18 rfl ?_
  refine r_callS (wc := []) (wr := [[(fl, .inr (8, [.ref pl, .ref pl2, .ref hi, .ref tx, .ref u, .ref w, .int taken]))], pileB cI cL pl a L h v lie seals folds n f, histB cI cL cP hi sa PS AS LS hS_ vS lieS sealsS foldsS nS fS_ size, txtB cI tx ht vt rd nt ft opnt want, walB cI w me fo fd fme ffo ffd kn]) (st := []) C (m_X10_mixed l D cI cL cP cJ r3 ((r5 : Int32).toInt64)) k_X10_mixed t_513 [0, 1, 2, 3, 4] (show ([0, 1, 2, 3, 4] : List Nat).Perm (List.range 5) by decide) rfl rfl rfl (Nat.le_of_ble_eq_true rfl) ⟨Nat.le_of_ble_eq_true rfl, Nat.le_of_ble_eq_true rfl⟩ ⟨Nat.zero_le _, Nat.zero_le _⟩ dX10_digest_19 (fun r6 wr6 hw6 => ?_)
  obtain ⟨e_r6, rfl⟩ := hw6
  have hp := hp r6 e_r6
  refine r_ws (I' := [[(fl, .inr (8, [.ref pl, .ref pl2, .ref hi, .ref tx, .ref u, .ref w, .int taken]))], pileB cI cL pl a L h v lie seals folds n f, histB cI cL cP hi sa PS AS LS hS_ vS lieS sealsS foldsS nS fS_ size, txtB cI tx ht vt rd nt ft opnt want, walB cI w me fo fd fme ffo ffd kn]) rfl ?_
  refine r_lstore_n (L' := [(1, .long r6), (3, .int 1), (0, .ref fl)]) C dX10_digest_22 (by decide) rfl ?_
  refine r_iinc (v := 2) (L' := [(3, .int 2), (1, .long r6), (0, .ref fl)]) C dX10_digest_23 1 rfl (by decide) (by decide) rfl ?_
  refine r_goto (tgt := 6) C dX10_digest_26 (by decide) ?_
  refine r_iload_n C dX10_digest_6 0 rfl ?_
  refine r_bipush (v := 6) C dX10_digest_7 (by decide) ?_
  refine r_icmp_gt (tgt := 29) C dX10_digest_9 (by decide) (fun c => absurd c (by decide)) (fun _ => ?_)
  refine r_lload_n C dX10_digest_12 1 rfl ?_
  refine r_aload_n C dX10_digest_13 2 rfl ?_
  refine r_iload_n C dX10_digest_14 0 rfl ?_
  obtain ⟨h7, hp⟩ := hp
  refine r_callV (ci := 8) (wc := [[(fl, .inr (8, [.ref pl, .ref pl2, .ref hi, .ref tx, .ref u, .ref w, .int taken]))], pileB cI cL pl a L h v lie seals folds n f, histB cI cL cP hi sa PS AS LS hS_ vS lieS sealsS foldsS nS fS_ size]) (wr := [txtB cI tx ht vt rd nt ft opnt want, walB cI w me fo fd fme ffo ffd kn]) (st := [.long r6]) C (m_X10_count l D cI cL cP cJ fl pl a L h v lie seals folds n f pl2 hi sa PS AS LS hS_ vS lieS sealsS foldsS nS fS_ size tx u w taken 2 h7) k_X10_count t_459 [0, 1, 2, 3, 4] (show ([0, 1, 2, 3, 4] : List Nat).Perm (List.range 5) by decide) rfl rfl rfl (q0 := 0) rfl rfl rfl (Nat.le_of_ble_eq_true rfl) ⟨Nat.le_of_ble_eq_true rfl, Nat.le_of_ble_eq_true rfl⟩ ⟨Nat.zero_le _, Nat.zero_le _⟩ dX10_digest_15 (fun r8 wr8 hw8 => ?_)
  obtain ⟨e_r8, rfl⟩ := hw8
  have hp := hp r8 e_r8
  refine r_ws (I' := [[(fl, .inr (8, [.ref pl, .ref pl2, .ref hi, .ref tx, .ref u, .ref w, .int taken]))], pileB cI cL pl a L h v lie seals folds n f, histB cI cL cP hi sa PS AS LS hS_ vS lieS sealsS foldsS nS fS_ size, txtB cI tx ht vt rd nt ft opnt want, walB cI w me fo fd fme ffo ffd kn]) rfl ?_
  refine r_i2l C dX10_digest_18 rfl ?_
  refine r_callS (wc := []) (wr := [[(fl, .inr (8, [.ref pl, .ref pl2, .ref hi, .ref tx, .ref u, .ref w, .int taken]))], pileB cI cL pl a L h v lie seals folds n f, histB cI cL cP hi sa PS AS LS hS_ vS lieS sealsS foldsS nS fS_ size, txtB cI tx ht vt rd nt ft opnt want, walB cI w me fo fd fme ffo ffd kn]) (st := []) C (m_X10_mixed l D cI cL cP cJ r6 ((r8 : Int32).toInt64)) k_X10_mixed t_513 [0, 1, 2, 3, 4] (show ([0, 1, 2, 3, 4] : List Nat).Perm (List.range 5) by decide) rfl rfl rfl (Nat.le_of_ble_eq_true rfl) ⟨Nat.le_of_ble_eq_true rfl, Nat.le_of_ble_eq_true rfl⟩ ⟨Nat.zero_le _, Nat.zero_le _⟩ dX10_digest_19 (fun r9 wr9 hw9 => ?_)
  obtain ⟨e_r9, rfl⟩ := hw9
  have hp := hp r9 e_r9
  refine r_ws (I' := [[(fl, .inr (8, [.ref pl, .ref pl2, .ref hi, .ref tx, .ref u, .ref w, .int taken]))], pileB cI cL pl a L h v lie seals folds n f, histB cI cL cP hi sa PS AS LS hS_ vS lieS sealsS foldsS nS fS_ size, txtB cI tx ht vt rd nt ft opnt want, walB cI w me fo fd fme ffo ffd kn]) rfl ?_
  refine r_lstore_n (L' := [(1, .long r9), (3, .int 2), (0, .ref fl)]) C dX10_digest_22 (by decide) rfl ?_
  refine r_iinc (v := 3) (L' := [(3, .int 3), (1, .long r9), (0, .ref fl)]) C dX10_digest_23 1 rfl (by decide) (by decide) rfl ?_
  refine r_goto (tgt := 6) C dX10_digest_26 (by decide) ?_
  refine r_iload_n C dX10_digest_6 0 rfl ?_
  refine r_bipush (v := 6) C dX10_digest_7 (by decide) ?_
  refine r_icmp_gt (tgt := 29) C dX10_digest_9 (by decide) (fun c => absurd c (by decide)) (fun _ => ?_)
  refine r_lload_n C dX10_digest_12 1 rfl ?_
  refine r_aload_n C dX10_digest_13 2 rfl ?_
  refine r_iload_n C dX10_digest_14 0 rfl ?_
  obtain ⟨h10, hp⟩ := hp
  refine r_callV (ci := 8) (wc := [[(fl, .inr (8, [.ref pl, .ref pl2, .ref hi, .ref tx, .ref u, .ref w, .int taken]))], pileB cI cL pl a L h v lie seals folds n f, histB cI cL cP hi sa PS AS LS hS_ vS lieS sealsS foldsS nS fS_ size]) (wr := [txtB cI tx ht vt rd nt ft opnt want, walB cI w me fo fd fme ffo ffd kn]) (st := [.long r9]) C (m_X10_count l D cI cL cP cJ fl pl a L h v lie seals folds n f pl2 hi sa PS AS LS hS_ vS lieS sealsS foldsS nS fS_ size tx u w taken 3 h10) k_X10_count t_459 [0, 1, 2, 3, 4] (show ([0, 1, 2, 3, 4] : List Nat).Perm (List.range 5) by decide) rfl rfl rfl (q0 := 0) rfl rfl rfl (Nat.le_of_ble_eq_true rfl) ⟨Nat.le_of_ble_eq_true rfl, Nat.le_of_ble_eq_true rfl⟩ ⟨Nat.zero_le _, Nat.zero_le _⟩ dX10_digest_15 (fun r11 wr11 hw11 => ?_)
  obtain ⟨e_r11, rfl⟩ := hw11
  have hp := hp r11 e_r11
  refine r_ws (I' := [[(fl, .inr (8, [.ref pl, .ref pl2, .ref hi, .ref tx, .ref u, .ref w, .int taken]))], pileB cI cL pl a L h v lie seals folds n f, histB cI cL cP hi sa PS AS LS hS_ vS lieS sealsS foldsS nS fS_ size, txtB cI tx ht vt rd nt ft opnt want, walB cI w me fo fd fme ffo ffd kn]) rfl ?_
  refine r_i2l C dX10_digest_18 rfl ?_
  refine r_callS (wc := []) (wr := [[(fl, .inr (8, [.ref pl, .ref pl2, .ref hi, .ref tx, .ref u, .ref w, .int taken]))], pileB cI cL pl a L h v lie seals folds n f, histB cI cL cP hi sa PS AS LS hS_ vS lieS sealsS foldsS nS fS_ size, txtB cI tx ht vt rd nt ft opnt want, walB cI w me fo fd fme ffo ffd kn]) (st := []) C (m_X10_mixed l D cI cL cP cJ r9 ((r11 : Int32).toInt64)) k_X10_mixed t_513 [0, 1, 2, 3, 4] (show ([0, 1, 2, 3, 4] : List Nat).Perm (List.range 5) by decide) rfl rfl rfl (Nat.le_of_ble_eq_true rfl) ⟨Nat.le_of_ble_eq_true rfl, Nat.le_of_ble_eq_true rfl⟩ ⟨Nat.zero_le _, Nat.zero_le _⟩ dX10_digest_19 (fun r12 wr12 hw12 => ?_)
  obtain ⟨e_r12, rfl⟩ := hw12
  have hp := hp r12 e_r12
  refine r_ws (I' := [[(fl, .inr (8, [.ref pl, .ref pl2, .ref hi, .ref tx, .ref u, .ref w, .int taken]))], pileB cI cL pl a L h v lie seals folds n f, histB cI cL cP hi sa PS AS LS hS_ vS lieS sealsS foldsS nS fS_ size, txtB cI tx ht vt rd nt ft opnt want, walB cI w me fo fd fme ffo ffd kn]) rfl ?_
  refine r_lstore_n (L' := [(1, .long r12), (3, .int 3), (0, .ref fl)]) C dX10_digest_22 (by decide) rfl ?_
  refine r_iinc (v := 4) (L' := [(3, .int 4), (1, .long r12), (0, .ref fl)]) C dX10_digest_23 1 rfl (by decide) (by decide) rfl ?_
  refine r_goto (tgt := 6) C dX10_digest_26 (by decide) ?_
  refine r_iload_n C dX10_digest_6 0 rfl ?_
  refine r_bipush (v := 6) C dX10_digest_7 (by decide) ?_
  refine r_icmp_gt (tgt := 29) C dX10_digest_9 (by decide) (fun c => absurd c (by decide)) (fun _ => ?_)
  refine r_lload_n C dX10_digest_12 1 rfl ?_
  refine r_aload_n C dX10_digest_13 2 rfl ?_
  refine r_iload_n C dX10_digest_14 0 rfl ?_
  obtain ⟨h13, hp⟩ := hp
  refine r_callV (ci := 8) (wc := [[(fl, .inr (8, [.ref pl, .ref pl2, .ref hi, .ref tx, .ref u, .ref w, .int taken]))], pileB cI cL pl a L h v lie seals folds n f, histB cI cL cP hi sa PS AS LS hS_ vS lieS sealsS foldsS nS fS_ size]) (wr := [txtB cI tx ht vt rd nt ft opnt want, walB cI w me fo fd fme ffo ffd kn]) (st := [.long r12]) C (m_X10_count l D cI cL cP cJ fl pl a L h v lie seals folds n f pl2 hi sa PS AS LS hS_ vS lieS sealsS foldsS nS fS_ size tx u w taken 4 h13) k_X10_count t_459 [0, 1, 2, 3, 4] (show ([0, 1, 2, 3, 4] : List Nat).Perm (List.range 5) by decide) rfl rfl rfl (q0 := 0) rfl rfl rfl (Nat.le_of_ble_eq_true rfl) ⟨Nat.le_of_ble_eq_true rfl, Nat.le_of_ble_eq_true rfl⟩ ⟨Nat.zero_le _, Nat.zero_le _⟩ dX10_digest_15 (fun r14 wr14 hw14 => ?_)
  obtain ⟨e_r14, rfl⟩ := hw14
  have hp := hp r14 e_r14
  refine r_ws (I' := [[(fl, .inr (8, [.ref pl, .ref pl2, .ref hi, .ref tx, .ref u, .ref w, .int taken]))], pileB cI cL pl a L h v lie seals folds n f, histB cI cL cP hi sa PS AS LS hS_ vS lieS sealsS foldsS nS fS_ size, txtB cI tx ht vt rd nt ft opnt want, walB cI w me fo fd fme ffo ffd kn]) rfl ?_
  refine r_i2l C dX10_digest_18 rfl ?_
  refine r_callS (wc := []) (wr := [[(fl, .inr (8, [.ref pl, .ref pl2, .ref hi, .ref tx, .ref u, .ref w, .int taken]))], pileB cI cL pl a L h v lie seals folds n f, histB cI cL cP hi sa PS AS LS hS_ vS lieS sealsS foldsS nS fS_ size, txtB cI tx ht vt rd nt ft opnt want, walB cI w me fo fd fme ffo ffd kn]) (st := []) C (m_X10_mixed l D cI cL cP cJ r12 ((r14 : Int32).toInt64)) k_X10_mixed t_513 [0, 1, 2, 3, 4] (show ([0, 1, 2, 3, 4] : List Nat).Perm (List.range 5) by decide) rfl rfl rfl (Nat.le_of_ble_eq_true rfl) ⟨Nat.le_of_ble_eq_true rfl, Nat.le_of_ble_eq_true rfl⟩ ⟨Nat.zero_le _, Nat.zero_le _⟩ dX10_digest_19 (fun r15 wr15 hw15 => ?_)
  obtain ⟨e_r15, rfl⟩ := hw15
  have hp := hp r15 e_r15
  refine r_ws (I' := [[(fl, .inr (8, [.ref pl, .ref pl2, .ref hi, .ref tx, .ref u, .ref w, .int taken]))], pileB cI cL pl a L h v lie seals folds n f, histB cI cL cP hi sa PS AS LS hS_ vS lieS sealsS foldsS nS fS_ size, txtB cI tx ht vt rd nt ft opnt want, walB cI w me fo fd fme ffo ffd kn]) rfl ?_
  refine r_lstore_n (L' := [(1, .long r15), (3, .int 4), (0, .ref fl)]) C dX10_digest_22 (by decide) rfl ?_
  refine r_iinc (v := 5) (L' := [(3, .int 5), (1, .long r15), (0, .ref fl)]) C dX10_digest_23 1 rfl (by decide) (by decide) rfl ?_
  refine r_goto (tgt := 6) C dX10_digest_26 (by decide) ?_
  refine r_iload_n C dX10_digest_6 0 rfl ?_
  refine r_bipush (v := 6) C dX10_digest_7 (by decide) ?_
  refine r_icmp_gt (tgt := 29) C dX10_digest_9 (by decide) (fun c => absurd c (by decide)) (fun _ => ?_)
  refine r_lload_n C dX10_digest_12 1 rfl ?_
  refine r_aload_n C dX10_digest_13 2 rfl ?_
  refine r_iload_n C dX10_digest_14 0 rfl ?_
  obtain ⟨h16, hp⟩ := hp
  refine r_callV (ci := 8) (wc := [[(fl, .inr (8, [.ref pl, .ref pl2, .ref hi, .ref tx, .ref u, .ref w, .int taken]))], pileB cI cL pl a L h v lie seals folds n f, histB cI cL cP hi sa PS AS LS hS_ vS lieS sealsS foldsS nS fS_ size]) (wr := [txtB cI tx ht vt rd nt ft opnt want, walB cI w me fo fd fme ffo ffd kn]) (st := [.long r15]) C (m_X10_count l D cI cL cP cJ fl pl a L h v lie seals folds n f pl2 hi sa PS AS LS hS_ vS lieS sealsS foldsS nS fS_ size tx u w taken 5 h16) k_X10_count t_459 [0, 1, 2, 3, 4] (show ([0, 1, 2, 3, 4] : List Nat).Perm (List.range 5) by decide) rfl rfl rfl (q0 := 0) rfl rfl rfl (Nat.le_of_ble_eq_true rfl) ⟨Nat.le_of_ble_eq_true rfl, Nat.le_of_ble_eq_true rfl⟩ ⟨Nat.zero_le _, Nat.zero_le _⟩ dX10_digest_15 (fun r17 wr17 hw17 => ?_)
  obtain ⟨e_r17, rfl⟩ := hw17
  have hp := hp r17 e_r17
  refine r_ws (I' := [[(fl, .inr (8, [.ref pl, .ref pl2, .ref hi, .ref tx, .ref u, .ref w, .int taken]))], pileB cI cL pl a L h v lie seals folds n f, histB cI cL cP hi sa PS AS LS hS_ vS lieS sealsS foldsS nS fS_ size, txtB cI tx ht vt rd nt ft opnt want, walB cI w me fo fd fme ffo ffd kn]) rfl ?_
  refine r_i2l C dX10_digest_18 rfl ?_
  refine r_callS (wc := []) (wr := [[(fl, .inr (8, [.ref pl, .ref pl2, .ref hi, .ref tx, .ref u, .ref w, .int taken]))], pileB cI cL pl a L h v lie seals folds n f, histB cI cL cP hi sa PS AS LS hS_ vS lieS sealsS foldsS nS fS_ size, txtB cI tx ht vt rd nt ft opnt want, walB cI w me fo fd fme ffo ffd kn]) (st := []) C (m_X10_mixed l D cI cL cP cJ r15 ((r17 : Int32).toInt64)) k_X10_mixed t_513 [0, 1, 2, 3, 4] (show ([0, 1, 2, 3, 4] : List Nat).Perm (List.range 5) by decide) rfl rfl rfl (Nat.le_of_ble_eq_true rfl) ⟨Nat.le_of_ble_eq_true rfl, Nat.le_of_ble_eq_true rfl⟩ ⟨Nat.zero_le _, Nat.zero_le _⟩ dX10_digest_19 (fun r18 wr18 hw18 => ?_)
  obtain ⟨e_r18, rfl⟩ := hw18
  have hp := hp r18 e_r18
  refine r_ws (I' := [[(fl, .inr (8, [.ref pl, .ref pl2, .ref hi, .ref tx, .ref u, .ref w, .int taken]))], pileB cI cL pl a L h v lie seals folds n f, histB cI cL cP hi sa PS AS LS hS_ vS lieS sealsS foldsS nS fS_ size, txtB cI tx ht vt rd nt ft opnt want, walB cI w me fo fd fme ffo ffd kn]) rfl ?_
  refine r_lstore_n (L' := [(1, .long r18), (3, .int 5), (0, .ref fl)]) C dX10_digest_22 (by decide) rfl ?_
  refine r_iinc (v := 6) (L' := [(3, .int 6), (1, .long r18), (0, .ref fl)]) C dX10_digest_23 1 rfl (by decide) (by decide) rfl ?_
  refine r_goto (tgt := 6) C dX10_digest_26 (by decide) ?_
  refine r_iload_n C dX10_digest_6 0 rfl ?_
  refine r_bipush (v := 6) C dX10_digest_7 (by decide) ?_
  refine r_icmp_gt (tgt := 29) C dX10_digest_9 (by decide) (fun c => absurd c (by decide)) (fun _ => ?_)
  refine r_lload_n C dX10_digest_12 1 rfl ?_
  refine r_aload_n C dX10_digest_13 2 rfl ?_
  refine r_iload_n C dX10_digest_14 0 rfl ?_
  obtain ⟨h19, hp⟩ := hp
  refine r_callV (ci := 8) (wc := [[(fl, .inr (8, [.ref pl, .ref pl2, .ref hi, .ref tx, .ref u, .ref w, .int taken]))], pileB cI cL pl a L h v lie seals folds n f, histB cI cL cP hi sa PS AS LS hS_ vS lieS sealsS foldsS nS fS_ size]) (wr := [txtB cI tx ht vt rd nt ft opnt want, walB cI w me fo fd fme ffo ffd kn]) (st := [.long r18]) C (m_X10_count l D cI cL cP cJ fl pl a L h v lie seals folds n f pl2 hi sa PS AS LS hS_ vS lieS sealsS foldsS nS fS_ size tx u w taken 6 h19) k_X10_count t_459 [0, 1, 2, 3, 4] (show ([0, 1, 2, 3, 4] : List Nat).Perm (List.range 5) by decide) rfl rfl rfl (q0 := 0) rfl rfl rfl (Nat.le_of_ble_eq_true rfl) ⟨Nat.le_of_ble_eq_true rfl, Nat.le_of_ble_eq_true rfl⟩ ⟨Nat.zero_le _, Nat.zero_le _⟩ dX10_digest_15 (fun r20 wr20 hw20 => ?_)
  obtain ⟨e_r20, rfl⟩ := hw20
  have hp := hp r20 e_r20
  refine r_ws (I' := [[(fl, .inr (8, [.ref pl, .ref pl2, .ref hi, .ref tx, .ref u, .ref w, .int taken]))], pileB cI cL pl a L h v lie seals folds n f, histB cI cL cP hi sa PS AS LS hS_ vS lieS sealsS foldsS nS fS_ size, txtB cI tx ht vt rd nt ft opnt want, walB cI w me fo fd fme ffo ffd kn]) rfl ?_
  refine r_i2l C dX10_digest_18 rfl ?_
  refine r_callS (wc := []) (wr := [[(fl, .inr (8, [.ref pl, .ref pl2, .ref hi, .ref tx, .ref u, .ref w, .int taken]))], pileB cI cL pl a L h v lie seals folds n f, histB cI cL cP hi sa PS AS LS hS_ vS lieS sealsS foldsS nS fS_ size, txtB cI tx ht vt rd nt ft opnt want, walB cI w me fo fd fme ffo ffd kn]) (st := []) C (m_X10_mixed l D cI cL cP cJ r18 ((r20 : Int32).toInt64)) k_X10_mixed t_513 [0, 1, 2, 3, 4] (show ([0, 1, 2, 3, 4] : List Nat).Perm (List.range 5) by decide) rfl rfl rfl (Nat.le_of_ble_eq_true rfl) ⟨Nat.le_of_ble_eq_true rfl, Nat.le_of_ble_eq_true rfl⟩ ⟨Nat.zero_le _, Nat.zero_le _⟩ dX10_digest_19 (fun r21 wr21 hw21 => ?_)
  obtain ⟨e_r21, rfl⟩ := hw21
  have hp := hp r21 e_r21
  refine r_ws (I' := [[(fl, .inr (8, [.ref pl, .ref pl2, .ref hi, .ref tx, .ref u, .ref w, .int taken]))], pileB cI cL pl a L h v lie seals folds n f, histB cI cL cP hi sa PS AS LS hS_ vS lieS sealsS foldsS nS fS_ size, txtB cI tx ht vt rd nt ft opnt want, walB cI w me fo fd fme ffo ffd kn]) rfl ?_
  refine r_lstore_n (L' := [(1, .long r21), (3, .int 6), (0, .ref fl)]) C dX10_digest_22 (by decide) rfl ?_
  refine r_iinc (v := 7) (L' := [(3, .int 7), (1, .long r21), (0, .ref fl)]) C dX10_digest_23 1 rfl (by decide) (by decide) rfl ?_
  refine r_goto (tgt := 6) C dX10_digest_26 (by decide) ?_
  refine r_iload_n C dX10_digest_6 0 rfl ?_
  refine r_bipush (v := 6) C dX10_digest_7 (by decide) ?_
  refine r_icmp_gt (tgt := 29) C dX10_digest_9 (by decide) (fun _ => ?_) (fun c => absurd c (by decide))
  refine r_iconst (v := 0) C dX10_digest_29 (by decide) ?_
  refine r_istore_n (L' := [(3, .int 0), (1, .long r21), (0, .ref fl)]) C dX10_digest_30 (by decide) rfl ?_
  refine r_iload_n C dX10_digest_31 0 rfl ?_
  refine r_iconst (v := 5) C dX10_digest_32 (by decide) ?_
  refine r_icmp_ge (tgt := 49) C dX10_digest_33 (by decide) (fun c => absurd c (by decide)) (fun _ => ?_)
  refine r_aload_n C dX10_digest_36 2 rfl ?_
  refine r_lload_n C dX10_digest_37 1 rfl ?_
  refine r_iload_n C dX10_digest_38 0 rfl ?_
  obtain ⟨h22, hp⟩ := hp
  refine r_callV (ci := 8) (wc := [[(fl, .inr (8, [.ref pl, .ref pl2, .ref hi, .ref tx, .ref u, .ref w, .int taken]))], pileB cI cL pl a L h v lie seals folds n f]) (wr := [histB cI cL cP hi sa PS AS LS hS_ vS lieS sealsS foldsS nS fS_ size, txtB cI tx ht vt rd nt ft opnt want, walB cI w me fo fd fme ffo ffd kn]) (st := []) C (m_X10_mixedLetter l D cI cL cP cJ fl pl a L h v lie seals folds n f pl2 hi tx u w taken r21 0 h22) k_X10_mixedLetter t_517 [0, 1, 2, 3, 4] (show ([0, 1, 2, 3, 4] : List Nat).Perm (List.range 5) by decide) rfl rfl rfl (q0 := 0) rfl rfl rfl (Nat.le_of_ble_eq_true rfl) ⟨Nat.le_of_ble_eq_true rfl, Nat.le_of_ble_eq_true rfl⟩ ⟨Nat.zero_le _, Nat.zero_le _⟩ dX10_digest_39 (fun r23 wr23 hw23 => ?_)
  obtain ⟨e_r23, rfl⟩ := hw23
  have hp := hp r23 e_r23
  refine r_ws (I' := [[(fl, .inr (8, [.ref pl, .ref pl2, .ref hi, .ref tx, .ref u, .ref w, .int taken]))], pileB cI cL pl a L h v lie seals folds n f, histB cI cL cP hi sa PS AS LS hS_ vS lieS sealsS foldsS nS fS_ size, txtB cI tx ht vt rd nt ft opnt want, walB cI w me fo fd fme ffo ffd kn]) rfl ?_
  refine r_lstore_n (L' := [(1, .long r23), (3, .int 0), (0, .ref fl)]) C dX10_digest_42 (by decide) rfl ?_
  refine r_iinc (v := 1) (L' := [(3, .int 1), (1, .long r23), (0, .ref fl)]) C dX10_digest_43 1 rfl (by decide) (by decide) rfl ?_
  refine r_goto (tgt := 31) C dX10_digest_46 (by decide) ?_
  refine r_iload_n C dX10_digest_31 0 rfl ?_
  refine r_iconst (v := 5) C dX10_digest_32 (by decide) ?_
  refine r_icmp_ge (tgt := 49) C dX10_digest_33 (by decide) (fun c => absurd c (by decide)) (fun _ => ?_)
  refine r_aload_n C dX10_digest_36 2 rfl ?_
  refine r_lload_n C dX10_digest_37 1 rfl ?_
  refine r_iload_n C dX10_digest_38 0 rfl ?_
  obtain ⟨h24, hp⟩ := hp
  refine r_callV (ci := 8) (wc := [[(fl, .inr (8, [.ref pl, .ref pl2, .ref hi, .ref tx, .ref u, .ref w, .int taken]))], pileB cI cL pl a L h v lie seals folds n f]) (wr := [histB cI cL cP hi sa PS AS LS hS_ vS lieS sealsS foldsS nS fS_ size, txtB cI tx ht vt rd nt ft opnt want, walB cI w me fo fd fme ffo ffd kn]) (st := []) C (m_X10_mixedLetter l D cI cL cP cJ fl pl a L h v lie seals folds n f pl2 hi tx u w taken r23 1 h24) k_X10_mixedLetter t_517 [0, 1, 2, 3, 4] (show ([0, 1, 2, 3, 4] : List Nat).Perm (List.range 5) by decide) rfl rfl rfl (q0 := 0) rfl rfl rfl (Nat.le_of_ble_eq_true rfl) ⟨Nat.le_of_ble_eq_true rfl, Nat.le_of_ble_eq_true rfl⟩ ⟨Nat.zero_le _, Nat.zero_le _⟩ dX10_digest_39 (fun r25 wr25 hw25 => ?_)
  obtain ⟨e_r25, rfl⟩ := hw25
  have hp := hp r25 e_r25
  refine r_ws (I' := [[(fl, .inr (8, [.ref pl, .ref pl2, .ref hi, .ref tx, .ref u, .ref w, .int taken]))], pileB cI cL pl a L h v lie seals folds n f, histB cI cL cP hi sa PS AS LS hS_ vS lieS sealsS foldsS nS fS_ size, txtB cI tx ht vt rd nt ft opnt want, walB cI w me fo fd fme ffo ffd kn]) rfl ?_
  refine r_lstore_n (L' := [(1, .long r25), (3, .int 1), (0, .ref fl)]) C dX10_digest_42 (by decide) rfl ?_
  refine r_iinc (v := 2) (L' := [(3, .int 2), (1, .long r25), (0, .ref fl)]) C dX10_digest_43 1 rfl (by decide) (by decide) rfl ?_
  refine r_goto (tgt := 31) C dX10_digest_46 (by decide) ?_
  refine r_iload_n C dX10_digest_31 0 rfl ?_
  refine r_iconst (v := 5) C dX10_digest_32 (by decide) ?_
  refine r_icmp_ge (tgt := 49) C dX10_digest_33 (by decide) (fun c => absurd c (by decide)) (fun _ => ?_)
  refine r_aload_n C dX10_digest_36 2 rfl ?_
  refine r_lload_n C dX10_digest_37 1 rfl ?_
  refine r_iload_n C dX10_digest_38 0 rfl ?_
  obtain ⟨h26, hp⟩ := hp
  refine r_callV (ci := 8) (wc := [[(fl, .inr (8, [.ref pl, .ref pl2, .ref hi, .ref tx, .ref u, .ref w, .int taken]))], pileB cI cL pl a L h v lie seals folds n f]) (wr := [histB cI cL cP hi sa PS AS LS hS_ vS lieS sealsS foldsS nS fS_ size, txtB cI tx ht vt rd nt ft opnt want, walB cI w me fo fd fme ffo ffd kn]) (st := []) C (m_X10_mixedLetter l D cI cL cP cJ fl pl a L h v lie seals folds n f pl2 hi tx u w taken r25 2 h26) k_X10_mixedLetter t_517 [0, 1, 2, 3, 4] (show ([0, 1, 2, 3, 4] : List Nat).Perm (List.range 5) by decide) rfl rfl rfl (q0 := 0) rfl rfl rfl (Nat.le_of_ble_eq_true rfl) ⟨Nat.le_of_ble_eq_true rfl, Nat.le_of_ble_eq_true rfl⟩ ⟨Nat.zero_le _, Nat.zero_le _⟩ dX10_digest_39 (fun r27 wr27 hw27 => ?_)
  obtain ⟨e_r27, rfl⟩ := hw27
  have hp := hp r27 e_r27
  refine r_ws (I' := [[(fl, .inr (8, [.ref pl, .ref pl2, .ref hi, .ref tx, .ref u, .ref w, .int taken]))], pileB cI cL pl a L h v lie seals folds n f, histB cI cL cP hi sa PS AS LS hS_ vS lieS sealsS foldsS nS fS_ size, txtB cI tx ht vt rd nt ft opnt want, walB cI w me fo fd fme ffo ffd kn]) rfl ?_
  refine r_lstore_n (L' := [(1, .long r27), (3, .int 2), (0, .ref fl)]) C dX10_digest_42 (by decide) rfl ?_
  refine r_iinc (v := 3) (L' := [(3, .int 3), (1, .long r27), (0, .ref fl)]) C dX10_digest_43 1 rfl (by decide) (by decide) rfl ?_
  refine r_goto (tgt := 31) C dX10_digest_46 (by decide) ?_
  refine r_iload_n C dX10_digest_31 0 rfl ?_
  refine r_iconst (v := 5) C dX10_digest_32 (by decide) ?_
  refine r_icmp_ge (tgt := 49) C dX10_digest_33 (by decide) (fun c => absurd c (by decide)) (fun _ => ?_)
  refine r_aload_n C dX10_digest_36 2 rfl ?_
  refine r_lload_n C dX10_digest_37 1 rfl ?_
  refine r_iload_n C dX10_digest_38 0 rfl ?_
  obtain ⟨h28, hp⟩ := hp
  refine r_callV (ci := 8) (wc := [[(fl, .inr (8, [.ref pl, .ref pl2, .ref hi, .ref tx, .ref u, .ref w, .int taken]))], pileB cI cL pl a L h v lie seals folds n f]) (wr := [histB cI cL cP hi sa PS AS LS hS_ vS lieS sealsS foldsS nS fS_ size, txtB cI tx ht vt rd nt ft opnt want, walB cI w me fo fd fme ffo ffd kn]) (st := []) C (m_X10_mixedLetter l D cI cL cP cJ fl pl a L h v lie seals folds n f pl2 hi tx u w taken r27 3 h28) k_X10_mixedLetter t_517 [0, 1, 2, 3, 4] (show ([0, 1, 2, 3, 4] : List Nat).Perm (List.range 5) by decide) rfl rfl rfl (q0 := 0) rfl rfl rfl (Nat.le_of_ble_eq_true rfl) ⟨Nat.le_of_ble_eq_true rfl, Nat.le_of_ble_eq_true rfl⟩ ⟨Nat.zero_le _, Nat.zero_le _⟩ dX10_digest_39 (fun r29 wr29 hw29 => ?_)
  obtain ⟨e_r29, rfl⟩ := hw29
  have hp := hp r29 e_r29
  refine r_ws (I' := [[(fl, .inr (8, [.ref pl, .ref pl2, .ref hi, .ref tx, .ref u, .ref w, .int taken]))], pileB cI cL pl a L h v lie seals folds n f, histB cI cL cP hi sa PS AS LS hS_ vS lieS sealsS foldsS nS fS_ size, txtB cI tx ht vt rd nt ft opnt want, walB cI w me fo fd fme ffo ffd kn]) rfl ?_
  refine r_lstore_n (L' := [(1, .long r29), (3, .int 3), (0, .ref fl)]) C dX10_digest_42 (by decide) rfl ?_
  refine r_iinc (v := 4) (L' := [(3, .int 4), (1, .long r29), (0, .ref fl)]) C dX10_digest_43 1 rfl (by decide) (by decide) rfl ?_
  refine r_goto (tgt := 31) C dX10_digest_46 (by decide) ?_
  refine r_iload_n C dX10_digest_31 0 rfl ?_
  refine r_iconst (v := 5) C dX10_digest_32 (by decide) ?_
  refine r_icmp_ge (tgt := 49) C dX10_digest_33 (by decide) (fun c => absurd c (by decide)) (fun _ => ?_)
  refine r_aload_n C dX10_digest_36 2 rfl ?_
  refine r_lload_n C dX10_digest_37 1 rfl ?_
  refine r_iload_n C dX10_digest_38 0 rfl ?_
  obtain ⟨h30, hp⟩ := hp
  refine r_callV (ci := 8) (wc := [[(fl, .inr (8, [.ref pl, .ref pl2, .ref hi, .ref tx, .ref u, .ref w, .int taken]))], pileB cI cL pl a L h v lie seals folds n f]) (wr := [histB cI cL cP hi sa PS AS LS hS_ vS lieS sealsS foldsS nS fS_ size, txtB cI tx ht vt rd nt ft opnt want, walB cI w me fo fd fme ffo ffd kn]) (st := []) C (m_X10_mixedLetter l D cI cL cP cJ fl pl a L h v lie seals folds n f pl2 hi tx u w taken r29 4 h30) k_X10_mixedLetter t_517 [0, 1, 2, 3, 4] (show ([0, 1, 2, 3, 4] : List Nat).Perm (List.range 5) by decide) rfl rfl rfl (q0 := 0) rfl rfl rfl (Nat.le_of_ble_eq_true rfl) ⟨Nat.le_of_ble_eq_true rfl, Nat.le_of_ble_eq_true rfl⟩ ⟨Nat.zero_le _, Nat.zero_le _⟩ dX10_digest_39 (fun r31 wr31 hw31 => ?_)
  obtain ⟨e_r31, rfl⟩ := hw31
  have hp := hp r31 e_r31
  refine r_ws (I' := [[(fl, .inr (8, [.ref pl, .ref pl2, .ref hi, .ref tx, .ref u, .ref w, .int taken]))], pileB cI cL pl a L h v lie seals folds n f, histB cI cL cP hi sa PS AS LS hS_ vS lieS sealsS foldsS nS fS_ size, txtB cI tx ht vt rd nt ft opnt want, walB cI w me fo fd fme ffo ffd kn]) rfl ?_
  refine r_lstore_n (L' := [(1, .long r31), (3, .int 4), (0, .ref fl)]) C dX10_digest_42 (by decide) rfl ?_
  refine r_iinc (v := 5) (L' := [(3, .int 5), (1, .long r31), (0, .ref fl)]) C dX10_digest_43 1 rfl (by decide) (by decide) rfl ?_
  refine r_goto (tgt := 31) C dX10_digest_46 (by decide) ?_
  refine r_iload_n C dX10_digest_31 0 rfl ?_
  refine r_iconst (v := 5) C dX10_digest_32 (by decide) ?_
  refine r_icmp_ge (tgt := 49) C dX10_digest_33 (by decide) (fun _ => ?_) (fun c => absurd c (by decide))
  refine r_lload_n C dX10_digest_49 1 rfl ?_
  refine r_aload_n C dX10_digest_50 2 rfl ?_
  refine r_aload_n C dX10_digest_51 2 rfl ?_
  refine r_iconst (v := 0) C dX10_digest_52 (by decide) ?_
  refine r_iconst (v := 0) C dX10_digest_53 (by decide) ?_
  obtain ⟨h32, hp⟩ := hp
  refine r_callV (ci := 8) (wc := [[(fl, .inr (8, [.ref pl, .ref pl2, .ref hi, .ref tx, .ref u, .ref w, .int taken]))], pileB cI cL pl a L h v lie seals folds n f]) (wr := [histB cI cL cP hi sa PS AS LS hS_ vS lieS sealsS foldsS nS fS_ size, txtB cI tx ht vt rd nt ft opnt want, walB cI w me fo fd fme ffo ffd kn]) (st := [.ref fl, .long r31]) C (m_X10_letter l D cI cL cP cJ fl pl a L h v lie seals folds n f pl2 hi tx u w taken 0 0 h32) k_X10_letter t_534 [0, 1, 2, 3, 4] (show ([0, 1, 2, 3, 4] : List Nat).Perm (List.range 5) by decide) rfl rfl rfl (q0 := 0) rfl rfl rfl (Nat.le_of_ble_eq_true rfl) ⟨Nat.le_of_ble_eq_true rfl, Nat.le_of_ble_eq_true rfl⟩ ⟨Nat.zero_le _, Nat.zero_le _⟩ dX10_digest_54 (fun r33 wr33 hw33 => ?_)
  obtain ⟨e_r33, rfl⟩ := hw33
  have hp := hp r33 e_r33
  refine r_ws (I' := [[(fl, .inr (8, [.ref pl, .ref pl2, .ref hi, .ref tx, .ref u, .ref w, .int taken]))], pileB cI cL pl a L h v lie seals folds n f, histB cI cL cP hi sa PS AS LS hS_ vS lieS sealsS foldsS nS fS_ size, txtB cI tx ht vt rd nt ft opnt want, walB cI w me fo fd fme ffo ffd kn]) rfl ?_
  refine r_iconst (v := 0) C dX10_digest_57 (by decide) ?_
  obtain ⟨h34, hp⟩ := hp
  refine r_callV (ci := 8) (wc := [[(fl, .inr (8, [.ref pl, .ref pl2, .ref hi, .ref tx, .ref u, .ref w, .int taken]))], walB cI w me fo fd fme ffo ffd kn]) (wr := [pileB cI cL pl a L h v lie seals folds n f, histB cI cL cP hi sa PS AS LS hS_ vS lieS sealsS foldsS nS fS_ size, txtB cI tx ht vt rd nt ft opnt want]) (st := [.long r31]) C (m_X10_ways l D cI cL cP cJ fl pl pl2 hi tx u w me fo fd fme ffo ffd kn taken r33 0 h34) k_X10_ways t_583 [0, 4, 1, 2, 3] (show ([0, 4, 1, 2, 3] : List Nat).Perm (List.range 5) by decide) rfl rfl rfl (q0 := 0) rfl rfl rfl (Nat.le_of_ble_eq_true rfl) ⟨Nat.le_of_ble_eq_true rfl, Nat.le_of_ble_eq_true rfl⟩ ⟨Nat.zero_le _, Nat.zero_le _⟩ dX10_digest_58 (fun r35 wr35 hw35 => ?_)
  obtain ⟨e_r35, rfl⟩ := hw35
  have hp := hp r35 e_r35
  obtain ⟨g36, e_g36⟩ : ∃ z : Nat → Int32, z = (F_X10_ways fme ffo ffd kn r33 0).2.1 := ⟨_, rfl⟩
  have hp := hp g36 e_g36
  obtain ⟨g37, e_g37⟩ : ∃ z : Nat → Int32, z = (F_X10_ways fme ffo ffd kn r33 0).2.2.1 := ⟨_, rfl⟩
  have hp := hp g37 e_g37
  obtain ⟨g38, e_g38⟩ : ∃ z : Nat → Int32, z = (F_X10_ways fme ffo ffd kn r33 0).2.2.2.1 := ⟨_, rfl⟩
  have hp := hp g38 e_g38
  obtain ⟨x39, e_x39⟩ : ∃ z : Int32, z = (F_X10_ways fme ffo ffd kn r33 0).2.2.2.2 := ⟨_, rfl⟩
  have hp := hp x39 e_x39
  refine r_ws (I' := [[(fl, .inr (8, [.ref pl, .ref pl2, .ref hi, .ref tx, .ref u, .ref w, .int taken]))], walB cI w me fo fd g36 g37 g38 x39, pileB cI cL pl a L h v lie seals folds n f, histB cI cL cP hi sa PS AS LS hS_ vS lieS sealsS foldsS nS fS_ size, txtB cI tx ht vt rd nt ft opnt want]) (by rw [e_g36, e_g37, e_g38, e_x39]; rfl) ?_
  refine r_i2l C dX10_digest_61 rfl ?_
  refine r_callS (wc := []) (wr := [[(fl, .inr (8, [.ref pl, .ref pl2, .ref hi, .ref tx, .ref u, .ref w, .int taken]))], walB cI w me fo fd g36 g37 g38 x39, pileB cI cL pl a L h v lie seals folds n f, histB cI cL cP hi sa PS AS LS hS_ vS lieS sealsS foldsS nS fS_ size, txtB cI tx ht vt rd nt ft opnt want]) (st := []) C (m_X10_mixed l D cI cL cP cJ r31 ((r35 : Int32).toInt64)) k_X10_mixed t_513 [0, 1, 2, 3, 4] (show ([0, 1, 2, 3, 4] : List Nat).Perm (List.range 5) by decide) rfl rfl rfl (Nat.le_of_ble_eq_true rfl) ⟨Nat.le_of_ble_eq_true rfl, Nat.le_of_ble_eq_true rfl⟩ ⟨Nat.zero_le _, Nat.zero_le _⟩ dX10_digest_62 (fun r40 wr40 hw40 => ?_)
  obtain ⟨e_r40, rfl⟩ := hw40
  have hp := hp r40 e_r40
  refine r_ws (I' := [[(fl, .inr (8, [.ref pl, .ref pl2, .ref hi, .ref tx, .ref u, .ref w, .int taken]))], walB cI w me fo fd g36 g37 g38 x39, pileB cI cL pl a L h v lie seals folds n f, histB cI cL cP hi sa PS AS LS hS_ vS lieS sealsS foldsS nS fS_ size, txtB cI tx ht vt rd nt ft opnt want]) rfl ?_
  refine r_lstore_n (L' := [(1, .long r40), (3, .int 5), (0, .ref fl)]) C dX10_digest_65 (by decide) rfl ?_
  refine r_lload_n C dX10_digest_66 0 rfl ?_
  refine r_aload_n C dX10_digest_67 2 rfl ?_
  refine r_aload_n C dX10_digest_68 2 rfl ?_
  refine r_iconst (v := 0) C dX10_digest_69 (by decide) ?_
  refine r_iconst (v := 0) C dX10_digest_70 (by decide) ?_
  obtain ⟨h41, hp⟩ := hp
  refine r_callV (ci := 8) (wc := [[(fl, .inr (8, [.ref pl, .ref pl2, .ref hi, .ref tx, .ref u, .ref w, .int taken]))], pileB cI cL pl a L h v lie seals folds n f]) (wr := [walB cI w me fo fd g36 g37 g38 x39, histB cI cL cP hi sa PS AS LS hS_ vS lieS sealsS foldsS nS fS_ size, txtB cI tx ht vt rd nt ft opnt want]) (st := [.ref fl, .long r40]) C (m_X10_letter l D cI cL cP cJ fl pl a L h v lie seals folds n f pl2 hi tx u w taken 0 0 h41) k_X10_letter t_534 [0, 2, 1, 3, 4] (show ([0, 2, 1, 3, 4] : List Nat).Perm (List.range 5) by decide) rfl rfl rfl (q0 := 0) rfl rfl rfl (Nat.le_of_ble_eq_true rfl) ⟨Nat.le_of_ble_eq_true rfl, Nat.le_of_ble_eq_true rfl⟩ ⟨Nat.zero_le _, Nat.zero_le _⟩ dX10_digest_71 (fun r42 wr42 hw42 => ?_)
  obtain ⟨e_r42, rfl⟩ := hw42
  have hp := hp r42 e_r42
  refine r_ws (I' := [[(fl, .inr (8, [.ref pl, .ref pl2, .ref hi, .ref tx, .ref u, .ref w, .int taken]))], pileB cI cL pl a L h v lie seals folds n f, walB cI w me fo fd g36 g37 g38 x39, histB cI cL cP hi sa PS AS LS hS_ vS lieS sealsS foldsS nS fS_ size, txtB cI tx ht vt rd nt ft opnt want]) rfl ?_
  refine r_iconst (v := 1) C dX10_digest_74 (by decide) ?_
  obtain ⟨h43, hp⟩ := hp
  refine r_callV (ci := 8) (wc := [[(fl, .inr (8, [.ref pl, .ref pl2, .ref hi, .ref tx, .ref u, .ref w, .int taken]))], walB cI w me fo fd g36 g37 g38 x39]) (wr := [pileB cI cL pl a L h v lie seals folds n f, histB cI cL cP hi sa PS AS LS hS_ vS lieS sealsS foldsS nS fS_ size, txtB cI tx ht vt rd nt ft opnt want]) (st := [.long r40]) C (m_X10_ways l D cI cL cP cJ fl pl pl2 hi tx u w me fo fd g36 g37 g38 x39 taken r42 1 h43) k_X10_ways t_583 [0, 2, 1, 3, 4] (show ([0, 2, 1, 3, 4] : List Nat).Perm (List.range 5) by decide) rfl rfl rfl (q0 := 0) rfl rfl rfl (Nat.le_of_ble_eq_true rfl) ⟨Nat.le_of_ble_eq_true rfl, Nat.le_of_ble_eq_true rfl⟩ ⟨Nat.zero_le _, Nat.zero_le _⟩ dX10_digest_75 (fun r44 wr44 hw44 => ?_)
  obtain ⟨e_r44, rfl⟩ := hw44
  have hp := hp r44 e_r44
  obtain ⟨g45, e_g45⟩ : ∃ z : Nat → Int32, z = (F_X10_ways g36 g37 g38 x39 r42 1).2.1 := ⟨_, rfl⟩
  have hp := hp g45 e_g45
  obtain ⟨g46, e_g46⟩ : ∃ z : Nat → Int32, z = (F_X10_ways g36 g37 g38 x39 r42 1).2.2.1 := ⟨_, rfl⟩
  have hp := hp g46 e_g46
  obtain ⟨g47, e_g47⟩ : ∃ z : Nat → Int32, z = (F_X10_ways g36 g37 g38 x39 r42 1).2.2.2.1 := ⟨_, rfl⟩
  have hp := hp g47 e_g47
  obtain ⟨x48, e_x48⟩ : ∃ z : Int32, z = (F_X10_ways g36 g37 g38 x39 r42 1).2.2.2.2 := ⟨_, rfl⟩
  have hp := hp x48 e_x48
  refine r_ws (I' := [[(fl, .inr (8, [.ref pl, .ref pl2, .ref hi, .ref tx, .ref u, .ref w, .int taken]))], walB cI w me fo fd g45 g46 g47 x48, pileB cI cL pl a L h v lie seals folds n f, histB cI cL cP hi sa PS AS LS hS_ vS lieS sealsS foldsS nS fS_ size, txtB cI tx ht vt rd nt ft opnt want]) (by rw [e_g45, e_g46, e_g47, e_x48]; rfl) ?_
  refine r_i2l C dX10_digest_78 rfl ?_
  refine r_callS (wc := []) (wr := [[(fl, .inr (8, [.ref pl, .ref pl2, .ref hi, .ref tx, .ref u, .ref w, .int taken]))], walB cI w me fo fd g45 g46 g47 x48, pileB cI cL pl a L h v lie seals folds n f, histB cI cL cP hi sa PS AS LS hS_ vS lieS sealsS foldsS nS fS_ size, txtB cI tx ht vt rd nt ft opnt want]) (st := []) C (m_X10_mixed l D cI cL cP cJ r40 ((r44 : Int32).toInt64)) k_X10_mixed t_513 [0, 1, 2, 3, 4] (show ([0, 1, 2, 3, 4] : List Nat).Perm (List.range 5) by decide) rfl rfl rfl (Nat.le_of_ble_eq_true rfl) ⟨Nat.le_of_ble_eq_true rfl, Nat.le_of_ble_eq_true rfl⟩ ⟨Nat.zero_le _, Nat.zero_le _⟩ dX10_digest_79 (fun r49 wr49 hw49 => ?_)
  obtain ⟨e_r49, rfl⟩ := hw49
  have hp := hp r49 e_r49
  refine r_ws (I' := [[(fl, .inr (8, [.ref pl, .ref pl2, .ref hi, .ref tx, .ref u, .ref w, .int taken]))], walB cI w me fo fd g45 g46 g47 x48, pileB cI cL pl a L h v lie seals folds n f, histB cI cL cP hi sa PS AS LS hS_ vS lieS sealsS foldsS nS fS_ size, txtB cI tx ht vt rd nt ft opnt want]) rfl ?_
  refine r_lstore_n (L' := [(1, .long r49), (3, .int 5), (0, .ref fl)]) C dX10_digest_82 (by decide) rfl ?_
  refine r_lload_n C dX10_digest_83 0 rfl ?_
  refine r_aload_n C dX10_digest_84 2 rfl ?_
  obtain ⟨h50, hp⟩ := hp
  refine r_callV (ci := 8) (wc := [[(fl, .inr (8, [.ref pl, .ref pl2, .ref hi, .ref tx, .ref u, .ref w, .int taken]))], pileB cI cL pl a L h v lie seals folds n f]) (wr := [walB cI w me fo fd g45 g46 g47 x48, histB cI cL cP hi sa PS AS LS hS_ vS lieS sealsS foldsS nS fS_ size, txtB cI tx ht vt rd nt ft opnt want]) (st := [.long r49]) C (m_X10_pressed l D cI cL cP cJ fl pl a L h v lie seals folds n f pl2 hi tx u w taken h50) k_X10_pressed t_606 [0, 2, 1, 3, 4] (show ([0, 2, 1, 3, 4] : List Nat).Perm (List.range 5) by decide) rfl rfl rfl (q0 := 0) rfl rfl rfl (Nat.le_of_ble_eq_true rfl) ⟨Nat.le_of_ble_eq_true rfl, Nat.le_of_ble_eq_true rfl⟩ ⟨Nat.zero_le _, Nat.zero_le _⟩ dX10_digest_85 (fun r51 wr51 hw51 => ?_)
  obtain ⟨e_r51, rfl⟩ := hw51
  have hp := hp r51 e_r51
  refine r_ws (I' := [[(fl, .inr (8, [.ref pl, .ref pl2, .ref hi, .ref tx, .ref u, .ref w, .int taken]))], pileB cI cL pl a L h v lie seals folds n f, walB cI w me fo fd g45 g46 g47 x48, histB cI cL cP hi sa PS AS LS hS_ vS lieS sealsS foldsS nS fS_ size, txtB cI tx ht vt rd nt ft opnt want]) rfl ?_
  obtain ⟨h52, hp⟩ := hp
  refine r_callS (wc := []) (wr := [[(fl, .inr (8, [.ref pl, .ref pl2, .ref hi, .ref tx, .ref u, .ref w, .int taken]))], pileB cI cL pl a L h v lie seals folds n f, walB cI w me fo fd g45 g46 g47 x48, histB cI cL cP hi sa PS AS LS hS_ vS lieS sealsS foldsS nS fS_ size, txtB cI tx ht vt rd nt ft opnt want]) (st := [.long r49]) C (m_X0_ofDouble l D cI cL cP cJ r51 h52) k_X0_ofDouble t_607 [0, 1, 2, 3, 4] (show ([0, 1, 2, 3, 4] : List Nat).Perm (List.range 5) by decide) rfl rfl rfl (Nat.le_of_ble_eq_true rfl) ⟨Nat.le_of_ble_eq_true rfl, Nat.le_of_ble_eq_true rfl⟩ ⟨Nat.zero_le _, Nat.zero_le _⟩ dX10_digest_88 (fun r53 wr53 hw53 => ?_)
  obtain ⟨e_r53, rfl⟩ := hw53
  have hp := hp r53 e_r53
  refine r_ws (I' := [[(fl, .inr (8, [.ref pl, .ref pl2, .ref hi, .ref tx, .ref u, .ref w, .int taken]))], pileB cI cL pl a L h v lie seals folds n f, walB cI w me fo fd g45 g46 g47 x48, histB cI cL cP hi sa PS AS LS hS_ vS lieS sealsS foldsS nS fS_ size, txtB cI tx ht vt rd nt ft opnt want]) rfl ?_
  refine r_callS (wc := []) (wr := [[(fl, .inr (8, [.ref pl, .ref pl2, .ref hi, .ref tx, .ref u, .ref w, .int taken]))], pileB cI cL pl a L h v lie seals folds n f, walB cI w me fo fd g45 g46 g47 x48, histB cI cL cP hi sa PS AS LS hS_ vS lieS sealsS foldsS nS fS_ size, txtB cI tx ht vt rd nt ft opnt want]) (st := []) C (m_X10_mixed l D cI cL cP cJ r49 r53) k_X10_mixed t_513 [0, 1, 2, 3, 4] (show ([0, 1, 2, 3, 4] : List Nat).Perm (List.range 5) by decide) rfl rfl rfl (Nat.le_of_ble_eq_true rfl) ⟨Nat.le_of_ble_eq_true rfl, Nat.le_of_ble_eq_true rfl⟩ ⟨Nat.zero_le _, Nat.zero_le _⟩ dX10_digest_91 (fun r54 wr54 hw54 => ?_)
  obtain ⟨e_r54, rfl⟩ := hw54
  have hp := hp r54 e_r54
  refine r_ws (I' := [[(fl, .inr (8, [.ref pl, .ref pl2, .ref hi, .ref tx, .ref u, .ref w, .int taken]))], pileB cI cL pl a L h v lie seals folds n f, walB cI w me fo fd g45 g46 g47 x48, histB cI cL cP hi sa PS AS LS hS_ vS lieS sealsS foldsS nS fS_ size, txtB cI tx ht vt rd nt ft opnt want]) rfl ?_
  refine r_lstore_n (L' := [(1, .long r54), (3, .int 5), (0, .ref fl)]) C dX10_digest_94 (by decide) rfl ?_
  refine r_lload_n C dX10_digest_95 0 rfl ?_
  refine r_aload_n C dX10_digest_96 2 rfl ?_
  obtain ⟨h55, hp⟩ := hp
  refine r_callV (ci := 8) (wc := [[(fl, .inr (8, [.ref pl, .ref pl2, .ref hi, .ref tx, .ref u, .ref w, .int taken]))], pileB cI cL pl a L h v lie seals folds n f]) (wr := [walB cI w me fo fd g45 g46 g47 x48, histB cI cL cP hi sa PS AS LS hS_ vS lieS sealsS foldsS nS fS_ size, txtB cI tx ht vt rd nt ft opnt want]) (st := [.long r54]) C (m_X10_meanLength l D cI cL cP cJ fl pl a L h v lie seals folds n f pl2 hi tx u w taken h55) k_X10_meanLength t_613 [0, 1, 2, 3, 4] (show ([0, 1, 2, 3, 4] : List Nat).Perm (List.range 5) by decide) rfl rfl rfl (q0 := 0) rfl rfl rfl (Nat.le_of_ble_eq_true rfl) ⟨Nat.le_of_ble_eq_true rfl, Nat.le_of_ble_eq_true rfl⟩ ⟨Nat.zero_le _, Nat.zero_le _⟩ dX10_digest_97 (fun r56 wr56 hw56 => ?_)
  obtain ⟨e_r56, rfl⟩ := hw56
  have hp := hp r56 e_r56
  refine r_ws (I' := [[(fl, .inr (8, [.ref pl, .ref pl2, .ref hi, .ref tx, .ref u, .ref w, .int taken]))], pileB cI cL pl a L h v lie seals folds n f, walB cI w me fo fd g45 g46 g47 x48, histB cI cL cP hi sa PS AS LS hS_ vS lieS sealsS foldsS nS fS_ size, txtB cI tx ht vt rd nt ft opnt want]) rfl ?_
  obtain ⟨h57, hp⟩ := hp
  refine r_callS (wc := []) (wr := [[(fl, .inr (8, [.ref pl, .ref pl2, .ref hi, .ref tx, .ref u, .ref w, .int taken]))], pileB cI cL pl a L h v lie seals folds n f, walB cI w me fo fd g45 g46 g47 x48, histB cI cL cP hi sa PS AS LS hS_ vS lieS sealsS foldsS nS fS_ size, txtB cI tx ht vt rd nt ft opnt want]) (st := [.long r54]) C (m_X0_ofFloat l D cI cL cP cJ r56 h57) k_X0_ofFloat t_614 [0, 1, 2, 3, 4] (show ([0, 1, 2, 3, 4] : List Nat).Perm (List.range 5) by decide) rfl rfl rfl (Nat.le_of_ble_eq_true rfl) ⟨Nat.le_of_ble_eq_true rfl, Nat.le_of_ble_eq_true rfl⟩ ⟨Nat.zero_le _, Nat.zero_le _⟩ dX10_digest_100 (fun r58 wr58 hw58 => ?_)
  obtain ⟨e_r58, rfl⟩ := hw58
  have hp := hp r58 e_r58
  refine r_ws (I' := [[(fl, .inr (8, [.ref pl, .ref pl2, .ref hi, .ref tx, .ref u, .ref w, .int taken]))], pileB cI cL pl a L h v lie seals folds n f, walB cI w me fo fd g45 g46 g47 x48, histB cI cL cP hi sa PS AS LS hS_ vS lieS sealsS foldsS nS fS_ size, txtB cI tx ht vt rd nt ft opnt want]) rfl ?_
  refine r_i2l C dX10_digest_103 rfl ?_
  refine r_callS (wc := []) (wr := [[(fl, .inr (8, [.ref pl, .ref pl2, .ref hi, .ref tx, .ref u, .ref w, .int taken]))], pileB cI cL pl a L h v lie seals folds n f, walB cI w me fo fd g45 g46 g47 x48, histB cI cL cP hi sa PS AS LS hS_ vS lieS sealsS foldsS nS fS_ size, txtB cI tx ht vt rd nt ft opnt want]) (st := []) C (m_X10_mixed l D cI cL cP cJ r54 ((r58 : Int32).toInt64)) k_X10_mixed t_513 [0, 1, 2, 3, 4] (show ([0, 1, 2, 3, 4] : List Nat).Perm (List.range 5) by decide) rfl rfl rfl (Nat.le_of_ble_eq_true rfl) ⟨Nat.le_of_ble_eq_true rfl, Nat.le_of_ble_eq_true rfl⟩ ⟨Nat.zero_le _, Nat.zero_le _⟩ dX10_digest_104 (fun r59 wr59 hw59 => ?_)
  obtain ⟨e_r59, rfl⟩ := hw59
  have hp := hp r59 e_r59
  refine r_ws (I' := [[(fl, .inr (8, [.ref pl, .ref pl2, .ref hi, .ref tx, .ref u, .ref w, .int taken]))], pileB cI cL pl a L h v lie seals folds n f, walB cI w me fo fd g45 g46 g47 x48, histB cI cL cP hi sa PS AS LS hS_ vS lieS sealsS foldsS nS fS_ size, txtB cI tx ht vt rd nt ft opnt want]) rfl ?_
  refine r_lstore_n (L' := [(1, .long r59), (3, .int 5), (0, .ref fl)]) C dX10_digest_107 (by decide) rfl ?_
  refine r_lload_n C dX10_digest_108 0 rfl ?_
  refine r_aload_n C dX10_digest_109 2 rfl ?_
  refine r_get (Cn := RX10) (T := TX10) (N := 7) C inT10 0 rfl rfl 6 (by decide) t_225 rfl dX10_digest_110 ?_
  suffices K : ∀ g61 : Int64, g61 = ((if taken = 0 then (0) else (1))) → V p l e (rmm 7 157) s m args below meth c 4 D A 0 0 Q [[(fl, .inr (8, [.ref pl, .ref pl2, .ref hi, .ref tx, .ref u, .ref w, .int taken]))], pileB cI cL pl a L h v lie seals folds n f, walB cI w me fo fd g45 g46 g47 x48, histB cI cL cP hi sa PS AS LS hS_ vS lieS sealsS foldsS nS fS_ size, txtB cI tx ht vt rd nt ft opnt want] [(1, .long r59), (3, .int 5), (0, .ref fl)] 121 [.long g61, .long r59] by
    refine r_if_eq (tgt := 120) C dX10_digest_113 (by decide) (fun c60 => ?_) (fun c60 => ?_)
    · refine r_lconst (v := 0) C dX10_digest_120 (by decide) ?_
      exact K _ (by simp only [if_pos c60])
    · refine r_lconst (v := 1) C dX10_digest_116 (by decide) ?_
      refine r_goto (tgt := 121) C dX10_digest_117 (by decide) ?_
      exact K _ (by simp only [if_neg c60])
  intro g61 e_g61
  have hp := hp g61 e_g61
  refine r_callS (wc := []) (wr := [[(fl, .inr (8, [.ref pl, .ref pl2, .ref hi, .ref tx, .ref u, .ref w, .int taken]))], pileB cI cL pl a L h v lie seals folds n f, walB cI w me fo fd g45 g46 g47 x48, histB cI cL cP hi sa PS AS LS hS_ vS lieS sealsS foldsS nS fS_ size, txtB cI tx ht vt rd nt ft opnt want]) (st := []) C (m_X10_mixed l D cI cL cP cJ r59 g61) k_X10_mixed t_513 [0, 1, 2, 3, 4] (show ([0, 1, 2, 3, 4] : List Nat).Perm (List.range 5) by decide) rfl rfl rfl (Nat.le_of_ble_eq_true rfl) ⟨Nat.le_of_ble_eq_true rfl, Nat.le_of_ble_eq_true rfl⟩ ⟨Nat.zero_le _, Nat.zero_le _⟩ dX10_digest_121 (fun r62 wr62 hw62 => ?_)
  obtain ⟨e_r62, rfl⟩ := hw62
  have hp := hp r62 e_r62
  refine r_ws (I' := [[(fl, .inr (8, [.ref pl, .ref pl2, .ref hi, .ref tx, .ref u, .ref w, .int taken]))], pileB cI cL pl a L h v lie seals folds n f, walB cI w me fo fd g45 g46 g47 x48, histB cI cL cP hi sa PS AS LS hS_ vS lieS sealsS foldsS nS fS_ size, txtB cI tx ht vt rd nt ft opnt want]) rfl ?_
  refine r_lstore_n (L' := [(1, .long r62), (3, .int 5), (0, .ref fl)]) C dX10_digest_124 (by decide) rfl ?_
  refine r_lload_n C dX10_digest_125 0 rfl ?_
  refine r_aload_n C dX10_digest_126 2 rfl ?_
  refine r_get (Cn := RX10) (T := TX10) (N := 7) C inT10 0 rfl rfl 3 (by decide) t_222 rfl dX10_digest_127 ?_
  refine r_callV (ci := 5) (wc := [txtB cI tx ht vt rd nt ft opnt want]) (wr := [[(fl, .inr (8, [.ref pl, .ref pl2, .ref hi, .ref tx, .ref u, .ref w, .int taken]))], pileB cI cL pl a L h v lie seals folds n f, walB cI w me fo fd g45 g46 g47 x48, histB cI cL cP hi sa PS AS LS hS_ vS lieS sealsS foldsS nS fS_ size]) (st := [.long r62]) C (m_X7_codes l D cI cL cP cJ tx ht vt rd nt ft opnt want) k_X7_codes t_245 [4, 0, 1, 2, 3] (show ([4, 0, 1, 2, 3] : List Nat).Perm (List.range 5) by decide) rfl rfl rfl (q0 := 0) rfl rfl rfl (Nat.le_of_ble_eq_true rfl) ⟨Nat.le_of_ble_eq_true rfl, Nat.le_of_ble_eq_true rfl⟩ ⟨Nat.zero_le _, Nat.zero_le _⟩ dX10_digest_130 (fun r63 wr63 hw63 => ?_)
  obtain ⟨e_r63, rfl⟩ := hw63; have q := e_r63.symm; subst q
  refine r_ws (I' := [txtB cI tx ht vt rd nt ft opnt want, [(fl, .inr (8, [.ref pl, .ref pl2, .ref hi, .ref tx, .ref u, .ref w, .int taken]))], pileB cI cL pl a L h v lie seals folds n f, walB cI w me fo fd g45 g46 g47 x48, histB cI cL cP hi sa PS AS LS hS_ vS lieS sealsS foldsS nS fS_ size]) rfl ?_
  refine r_ws (I' := [[(tx, .inr (5, [.ref ht, .ref rd]))], [(ht, .inr (4, [.ref vt, .int nt]))], [(vt, .inl (cI, 60, .inl ft))], [(rd, .inr (3, [.int opnt, .int want]))], [(fl, .inr (8, [.ref pl, .ref pl2, .ref hi, .ref tx, .ref u, .ref w, .int taken]))], pileB cI cL pl a L h v lie seals folds n f, walB cI w me fo fd g45 g46 g47 x48, histB cI cL cP hi sa PS AS LS hS_ vS lieS sealsS foldsS nS fS_ size]) rfl ?_
  refine r_ws (I' := [[(tx, .inr (5, [.ref ht, .ref rd]))], rowB cI ht vt nt ft, [(rd, .inr (3, [.int opnt, .int want]))], [(fl, .inr (8, [.ref pl, .ref pl2, .ref hi, .ref tx, .ref u, .ref w, .int taken]))], pileB cI cL pl a L h v lie seals folds n f, walB cI w me fo fd g45 g46 g47 x48, histB cI cL cP hi sa PS AS LS hS_ vS lieS sealsS foldsS nS fS_ size]) rfl ?_
  refine r_callV (ci := 4) (wc := [rowB cI ht vt nt ft]) (wr := [[(tx, .inr (5, [.ref ht, .ref rd]))], [(rd, .inr (3, [.int opnt, .int want]))], [(fl, .inr (8, [.ref pl, .ref pl2, .ref hi, .ref tx, .ref u, .ref w, .int taken]))], pileB cI cL pl a L h v lie seals folds n f, walB cI w me fo fd g45 g46 g47 x48, histB cI cL cP hi sa PS AS LS hS_ vS lieS sealsS foldsS nS fS_ size]) (st := [.long r62]) C (m_X6_size l D cI cL cP cJ ht vt nt ft) k_X6_size t_249 [1, 0, 2, 3, 4, 5, 6] (show ([1, 0, 2, 3, 4, 5, 6] : List Nat).Perm (List.range 7) by decide) rfl rfl rfl (q0 := 0) rfl rfl rfl (Nat.le_of_ble_eq_true rfl) ⟨Nat.le_of_ble_eq_true rfl, Nat.le_of_ble_eq_true rfl⟩ ⟨Nat.zero_le _, Nat.zero_le _⟩ dX10_digest_133 (fun r64 wr64 hw64 => ?_)
  obtain ⟨e_r64, rfl⟩ := hw64
  have hp := hp r64 e_r64
  refine r_ws (I' := [rowB cI ht vt nt ft, [(tx, .inr (5, [.ref ht, .ref rd]))], [(rd, .inr (3, [.int opnt, .int want]))], [(fl, .inr (8, [.ref pl, .ref pl2, .ref hi, .ref tx, .ref u, .ref w, .int taken]))], pileB cI cL pl a L h v lie seals folds n f, walB cI w me fo fd g45 g46 g47 x48, histB cI cL cP hi sa PS AS LS hS_ vS lieS sealsS foldsS nS fS_ size]) rfl ?_
  refine r_i2l C dX10_digest_136 rfl ?_
  refine r_callS (wc := []) (wr := [rowB cI ht vt nt ft, [(tx, .inr (5, [.ref ht, .ref rd]))], [(rd, .inr (3, [.int opnt, .int want]))], [(fl, .inr (8, [.ref pl, .ref pl2, .ref hi, .ref tx, .ref u, .ref w, .int taken]))], pileB cI cL pl a L h v lie seals folds n f, walB cI w me fo fd g45 g46 g47 x48, histB cI cL cP hi sa PS AS LS hS_ vS lieS sealsS foldsS nS fS_ size]) (st := []) C (m_X10_mixed l D cI cL cP cJ r62 ((r64 : Int32).toInt64)) k_X10_mixed t_513 [0, 1, 2, 3, 4, 5, 6] (show ([0, 1, 2, 3, 4, 5, 6] : List Nat).Perm (List.range 7) by decide) rfl rfl rfl (Nat.le_of_ble_eq_true rfl) ⟨Nat.le_of_ble_eq_true rfl, Nat.le_of_ble_eq_true rfl⟩ ⟨Nat.zero_le _, Nat.zero_le _⟩ dX10_digest_137 (fun r65 wr65 hw65 => ?_)
  obtain ⟨e_r65, rfl⟩ := hw65
  have hp := hp r65 e_r65
  refine r_ws (I' := [rowB cI ht vt nt ft, [(tx, .inr (5, [.ref ht, .ref rd]))], [(rd, .inr (3, [.int opnt, .int want]))], [(fl, .inr (8, [.ref pl, .ref pl2, .ref hi, .ref tx, .ref u, .ref w, .int taken]))], pileB cI cL pl a L h v lie seals folds n f, walB cI w me fo fd g45 g46 g47 x48, histB cI cL cP hi sa PS AS LS hS_ vS lieS sealsS foldsS nS fS_ size]) rfl ?_
  refine r_lstore_n (L' := [(1, .long r65), (3, .int 5), (0, .ref fl)]) C dX10_digest_140 (by decide) rfl ?_
  refine r_lload_n C dX10_digest_141 0 rfl ?_
  refine r_aload_n C dX10_digest_142 2 rfl ?_
  refine r_get (Cn := RX10) (T := TX10) (N := 7) C inT10 3 rfl rfl 3 (by decide) t_222 rfl dX10_digest_143 ?_
  refine r_ws (I' := [[(ht, .inr (4, [.ref vt, .int nt]))], [(vt, .inl (cI, 60, .inl ft))], [(tx, .inr (5, [.ref ht, .ref rd]))], [(rd, .inr (3, [.int opnt, .int want]))], [(fl, .inr (8, [.ref pl, .ref pl2, .ref hi, .ref tx, .ref u, .ref w, .int taken]))], pileB cI cL pl a L h v lie seals folds n f, walB cI w me fo fd g45 g46 g47 x48, histB cI cL cP hi sa PS AS LS hS_ vS lieS sealsS foldsS nS fS_ size]) rfl ?_
  refine r_pl (I' := [[(tx, .inr (5, [.ref ht, .ref rd]))], [(ht, .inr (4, [.ref vt, .int nt]))], [(vt, .inl (cI, 60, .inl ft))], [(rd, .inr (3, [.int opnt, .int want]))], [(fl, .inr (8, [.ref pl, .ref pl2, .ref hi, .ref tx, .ref u, .ref w, .int taken]))], pileB cI cL pl a L h v lie seals folds n f, walB cI w me fo fd g45 g46 g47 x48, histB cI cL cP hi sa PS AS LS hS_ vS lieS sealsS foldsS nS fS_ size]) [2, 0, 1, 3, 4, 5, 6, 7] (show ([2, 0, 1, 3, 4, 5, 6, 7] : List Nat).Perm (List.range 8) by decide) rfl ?_
  refine r_ws (I' := [txtB cI tx ht vt rd nt ft opnt want, [(fl, .inr (8, [.ref pl, .ref pl2, .ref hi, .ref tx, .ref u, .ref w, .int taken]))], pileB cI cL pl a L h v lie seals folds n f, walB cI w me fo fd g45 g46 g47 x48, histB cI cL cP hi sa PS AS LS hS_ vS lieS sealsS foldsS nS fS_ size]) rfl ?_
  refine r_callV (ci := 5) (wc := [txtB cI tx ht vt rd nt ft opnt want]) (wr := [[(fl, .inr (8, [.ref pl, .ref pl2, .ref hi, .ref tx, .ref u, .ref w, .int taken]))], pileB cI cL pl a L h v lie seals folds n f, walB cI w me fo fd g45 g46 g47 x48, histB cI cL cP hi sa PS AS LS hS_ vS lieS sealsS foldsS nS fS_ size]) (st := [.long r65]) C (m_X7_codes l D cI cL cP cJ tx ht vt rd nt ft opnt want) k_X7_codes t_245 [0, 1, 2, 3, 4] (show ([0, 1, 2, 3, 4] : List Nat).Perm (List.range 5) by decide) rfl rfl rfl (q0 := 0) rfl rfl rfl (Nat.le_of_ble_eq_true rfl) ⟨Nat.le_of_ble_eq_true rfl, Nat.le_of_ble_eq_true rfl⟩ ⟨Nat.zero_le _, Nat.zero_le _⟩ dX10_digest_146 (fun r66 wr66 hw66 => ?_)
  obtain ⟨e_r66, rfl⟩ := hw66; have q := e_r66.symm; subst q
  refine r_ws (I' := [txtB cI tx ht vt rd nt ft opnt want, [(fl, .inr (8, [.ref pl, .ref pl2, .ref hi, .ref tx, .ref u, .ref w, .int taken]))], pileB cI cL pl a L h v lie seals folds n f, walB cI w me fo fd g45 g46 g47 x48, histB cI cL cP hi sa PS AS LS hS_ vS lieS sealsS foldsS nS fS_ size]) rfl ?_
  refine r_ws (I' := [[(tx, .inr (5, [.ref ht, .ref rd]))], [(ht, .inr (4, [.ref vt, .int nt]))], [(vt, .inl (cI, 60, .inl ft))], [(rd, .inr (3, [.int opnt, .int want]))], [(fl, .inr (8, [.ref pl, .ref pl2, .ref hi, .ref tx, .ref u, .ref w, .int taken]))], pileB cI cL pl a L h v lie seals folds n f, walB cI w me fo fd g45 g46 g47 x48, histB cI cL cP hi sa PS AS LS hS_ vS lieS sealsS foldsS nS fS_ size]) rfl ?_
  refine r_ws (I' := [[(tx, .inr (5, [.ref ht, .ref rd]))], rowB cI ht vt nt ft, [(rd, .inr (3, [.int opnt, .int want]))], [(fl, .inr (8, [.ref pl, .ref pl2, .ref hi, .ref tx, .ref u, .ref w, .int taken]))], pileB cI cL pl a L h v lie seals folds n f, walB cI w me fo fd g45 g46 g47 x48, histB cI cL cP hi sa PS AS LS hS_ vS lieS sealsS foldsS nS fS_ size]) rfl ?_
  have h67 := hp
  refine r_callS (wc := [rowB cI ht vt nt ft]) (wr := [[(tx, .inr (5, [.ref ht, .ref rd]))], [(rd, .inr (3, [.int opnt, .int want]))], [(fl, .inr (8, [.ref pl, .ref pl2, .ref hi, .ref tx, .ref u, .ref w, .int taken]))], pileB cI cL pl a L h v lie seals folds n f, walB cI w me fo fd g45 g46 g47 x48, histB cI cL cP hi sa PS AS LS hS_ vS lieS sealsS foldsS nS fS_ size]) (st := []) C (m_X10_mixedRow l D cI cL cP cJ ht vt nt ft r65 h67) k_X10_mixedRow t_544 [1, 0, 2, 3, 4, 5, 6] (show ([1, 0, 2, 3, 4, 5, 6] : List Nat).Perm (List.range 7) by decide) rfl rfl rfl (Nat.le_of_ble_eq_true rfl) ⟨Nat.le_of_ble_eq_true rfl, Nat.le_of_ble_eq_true rfl⟩ ⟨Nat.zero_le _, Nat.zero_le _⟩ dX10_digest_149 (fun r68 wr68 hw68 => ?_)
  obtain ⟨e_r68, rfl⟩ := hw68
  refine r_ws (I' := [rowB cI ht vt nt ft, [(tx, .inr (5, [.ref ht, .ref rd]))], [(rd, .inr (3, [.int opnt, .int want]))], [(fl, .inr (8, [.ref pl, .ref pl2, .ref hi, .ref tx, .ref u, .ref w, .int taken]))], pileB cI cL pl a L h v lie seals folds n f, walB cI w me fo fd g45 g46 g47 x48, histB cI cL cP hi sa PS AS LS hS_ vS lieS sealsS foldsS nS fS_ size]) rfl ?_
  refine r_ws (I' := [[(ht, .inr (4, [.ref vt, .int nt]))], [(vt, .inl (cI, 60, .inl ft))], [(tx, .inr (5, [.ref ht, .ref rd]))], [(rd, .inr (3, [.int opnt, .int want]))], [(fl, .inr (8, [.ref pl, .ref pl2, .ref hi, .ref tx, .ref u, .ref w, .int taken]))], pileB cI cL pl a L h v lie seals folds n f, walB cI w me fo fd g45 g46 g47 x48, histB cI cL cP hi sa PS AS LS hS_ vS lieS sealsS foldsS nS fS_ size]) rfl ?_
  refine r_pl (I' := [[(tx, .inr (5, [.ref ht, .ref rd]))], [(ht, .inr (4, [.ref vt, .int nt]))], [(vt, .inl (cI, 60, .inl ft))], [(rd, .inr (3, [.int opnt, .int want]))], [(fl, .inr (8, [.ref pl, .ref pl2, .ref hi, .ref tx, .ref u, .ref w, .int taken]))], pileB cI cL pl a L h v lie seals folds n f, walB cI w me fo fd g45 g46 g47 x48, histB cI cL cP hi sa PS AS LS hS_ vS lieS sealsS foldsS nS fS_ size]) [2, 0, 1, 3, 4, 5, 6, 7] (show ([2, 0, 1, 3, 4, 5, 6, 7] : List Nat).Perm (List.range 8) by decide) rfl ?_
  refine r_ws (I' := [txtB cI tx ht vt rd nt ft opnt want, [(fl, .inr (8, [.ref pl, .ref pl2, .ref hi, .ref tx, .ref u, .ref w, .int taken]))], pileB cI cL pl a L h v lie seals folds n f, walB cI w me fo fd g45 g46 g47 x48, histB cI cL cP hi sa PS AS LS hS_ vS lieS sealsS foldsS nS fS_ size]) rfl ?_
  refine r_pl (I' := [[(fl, .inr (8, [.ref pl, .ref pl2, .ref hi, .ref tx, .ref u, .ref w, .int taken]))], pileB cI cL pl a L h v lie seals folds n f, histB cI cL cP hi sa PS AS LS hS_ vS lieS sealsS foldsS nS fS_ size, txtB cI tx ht vt rd nt ft opnt want, walB cI w me fo fd g45 g46 g47 x48]) [1, 2, 4, 0, 3] (show ([1, 2, 4, 0, 3] : List Nat).Perm (List.range 5) by decide) rfl ?_
  have eF : F_X10_digest lie seals folds n f size nt ft fme ffo ffd kn taken = (r68, g45, g46, g47, x48) := by have q := e_r2.symm; subst q; have q := e_r3.symm; subst q; have q := e_r5.symm; subst q; have q := e_r6.symm; subst q; have q := e_r8.symm; subst q; have q := e_r9.symm; subst q; have q := e_r11.symm; subst q; have q := e_r12.symm; subst q; have q := e_r14.symm; subst q; have q := e_r15.symm; subst q; have q := e_r17.symm; subst q; have q := e_r18.symm; subst q; have q := e_r20.symm; subst q; have q := e_r21.symm; subst q; have q := e_r23.symm; subst q; have q := e_r25.symm; subst q; have q := e_r27.symm; subst q; have q := e_r29.symm; subst q; have q := e_r31.symm; subst q; have q := e_r33.symm; subst q; have q := e_r35.symm; subst q; have q := e_g36.symm; subst q; have q := e_g37.symm; subst q; have q := e_g38.symm; subst q; have q := e_x39.symm; subst q; have q := e_r40.symm; subst q; have q := e_r42.symm; subst q; have q := e_r44.symm; subst q; have q := e_g45.symm; subst q; have q := e_g46.symm; subst q; have q := e_g47.symm; subst q; have q := e_x48.symm; subst q; have q := e_r49.symm; subst q; have q := e_r51.symm; subst q; have q := e_r53.symm; subst q; have q := e_r54.symm; subst q; have q := e_r56.symm; subst q; have q := e_r58.symm; subst q; have q := e_r59.symm; subst q; have q := e_g61.symm; subst q; have q := e_r62.symm; subst q; have q := e_r64.symm; subst q; have q := e_r65.symm; subst q; have q := e_r68.symm; subst q; rfl
  exact r_lret (r := r68) C hA hr hlo dX10_digest_152 [[(fl, .inr (8, [.ref pl, .ref pl2, .ref hi, .ref tx, .ref u, .ref w, .int taken]))], pileB cI cL pl a L h v lie seals folds n f, histB cI cL cP hi sa PS AS LS hS_ vS lieS sealsS foldsS nS fS_ size, txtB cI tx ht vt rd nt ft opnt want, walB cI w me fo fd g45 g46 g47 x48] ⟨by simp only [eF], by simp only [eF]⟩ rfl hQ

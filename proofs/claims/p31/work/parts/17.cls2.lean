/-- five, six values as a function -/
def fn5 {α : Type} (a b c d e : α) : Nat → α := fun k => match k with | 0 => a | 1 => b | 2 => c | 3 => d | _ => e
def fn6 {α : Type} (a b c d e f : α) : Nat → α := fun k => match k with | 0 => a | 1 => b | 2 => c | 3 => d | 4 => e | _ => f
def rfs (L : Nat → Nat) : Nat → Option Nat := fun j => some (L j)
theorem rfs_fn (L : Nat → Nat) (k v : Nat) : va_up (rfs L) k (some v) = rfs (va_up L k v) := by
  funext j
  simp only [va_up, rfs]
  split <;> rfl
abbrev pileB (cI : ClassId) (cL : ClassId) (pl : Nat) (a : Nat) (L : Nat → Nat) (h : Nat → Nat) (v : Nat → Nat) (lie : Nat → Int32) (seals : Nat → Int32) (folds : Nat → Int32) (n : Nat → Int32) (f : Nat → Nat → Int32) : va_W := [(pl, .inr (2, [.ref a])), (a, .inl (cL, 5, .inr (.inr (.inr (.inr (rfs L)))))), (L 0, .inr (1, [.ref (h 0), .int (lie 0), .int (seals 0), .int (folds 0)])), (h 0, .inr (4, [.ref (v 0), .int (n 0)])), (v 0, .inl (cI, 60, .inl (f 0))), (L 1, .inr (1, [.ref (h 1), .int (lie 1), .int (seals 1), .int (folds 1)])), (h 1, .inr (4, [.ref (v 1), .int (n 1)])), (v 1, .inl (cI, 60, .inl (f 1))), (L 2, .inr (1, [.ref (h 2), .int (lie 2), .int (seals 2), .int (folds 2)])), (h 2, .inr (4, [.ref (v 2), .int (n 2)])), (v 2, .inl (cI, 60, .inl (f 2))), (L 3, .inr (1, [.ref (h 3), .int (lie 3), .int (seals 3), .int (folds 3)])), (h 3, .inr (4, [.ref (v 3), .int (n 3)])), (v 3, .inl (cI, 60, .inl (f 3))), (L 4, .inr (1, [.ref (h 4), .int (lie 4), .int (seals 4), .int (folds 4)])), (h 4, .inr (4, [.ref (v 4), .int (n 4)])), (v 4, .inl (cI, 60, .inl (f 4)))]
theorem k_X4_at : kV yX4_at cX4_at 2 (some (.object "FoldedLetters$Letter")) 1 := ⟨t_288, t_289, t_8, t_290, by decide +kernel, by decide +kernel, by decide +kernel⟩
set_option maxRecDepth 20000 in
def P_X4_at (index : Int32) : Prop := ((index < 0 → False) ∧ (¬ index < 0 → ((index < 5 → (vp_in index 5)) ∧ (¬ index < 5 → False))))
set_option maxRecDepth 20000 in
set_option maxHeartbeats 8000000 in
theorem m_X4_at (l : Launch) (D : va_G) (cI cL cP cJ : ClassId) (pl : Nat) (a : Nat) (L : Nat → Nat) (index : Int32) (hp : P_X4_at index) : M vR l yX4_at cX4_at 2 (some (.object "FoldedLetters$Letter")) 0 0 D (tyF cI cL cP cJ) [.ref pl, .int index] [[(pl, .inr (2, [.ref a]))], [(a, .inl (cL, 5, .inr (.inr (.inr (.inr (rfs L))))))]] (fun (r : Nat) (w1 : List va_W) => r = (L index.toNatClampNeg) ∧ w1 = [[(pl, .inr (2, [.ref a]))], [(a, .inl (cL, 5, .inr (.inr (.inr (.inr (rfs L))))))]]) := by
  unfold P_X4_at at hp
  refine m_start (by decide +kernel) (Nat.le_of_ble_eq_true rfl) (fun p e s m args below meth c A Q hA hQ C hr hlo => ?_)
  refine r_Le (L' := [(0, .ref pl), (1, .int index)]) rfl ?_
  refine r_iload_n C dX4_at_0 1 rfl ?_
  refine r_if_lt (tgt := 13) C dX4_at_1 (by decide) (fun c1 => ?_) (fun c1 => ?_)
  · have hp := hp.1 c1
    exact hp.elim
  · have hp := hp.2 c1
    refine r_iload_n C dX4_at_4 1 rfl ?_
    refine r_aload_n C dX4_at_5 0 rfl ?_
    refine r_get (Cn := RX4) (T := TX4) (N := 1) C inT4 0 rfl rfl 0 (by decide) t_73 rfl dX4_at_6 ?_
    refine r_alen (v := 5) C 1 1 rfl rfl rfl dX4_at_9 ?_
    refine r_icmp_lt (tgt := 23) C dX4_at_10 (by decide) (fun c2 => ?_) (fun c2 => ?_)
    · have hp := hp.1 c2
      refine r_aload_n C dX4_at_23 0 rfl ?_
      refine r_get (Cn := RX4) (T := TX4) (N := 1) C inT4 0 rfl rfl 0 (by decide) t_73 rfl dX4_at_24 ?_
      refine r_iload_n C dX4_at_27 1 rfl ?_
      have h3 := hp
      refine r_aald (x := (L index.toNatClampNeg)) C 1 1 rfl rfl h3 dX4_at_28 rfl ?_
      exact r_aret (r := (L index.toNatClampNeg)) C hA hr (Or.inl ⟨_, rfl⟩) hlo dX4_at_29 [[(pl, .inr (2, [.ref a]))], [(a, .inl (cL, 5, .inr (.inr (.inr (.inr (rfs L))))))]] ⟨rfl, rfl⟩ rfl hQ
    · have hp := hp.2 c2
      exact hp.elim
set_option maxRecDepth 20000 in
def P_X4_atB (index : Int32) : Prop := ((index < 0 → False) ∧ (¬ index < 0 → ((index < 5 → (vp_in index 5)) ∧ (¬ index < 5 → False))))
set_option maxRecDepth 20000 in
set_option maxHeartbeats 8000000 in
theorem m_X4_atB (l : Launch) (D : va_G) (cI cL cP cJ : ClassId) (pl : Nat) (a : Nat) (L : Nat → Nat) (h : Nat → Nat) (v : Nat → Nat) (lie : Nat → Int32) (seals : Nat → Int32) (folds : Nat → Int32) (n : Nat → Int32) (f : Nat → Nat → Int32) (index : Int32) (hp : P_X4_atB index) : M vR l yX4_at cX4_at 2 (some (.object "FoldedLetters$Letter")) 0 0 D (tyF cI cL cP cJ) [.ref pl, .int index] [pileB cI cL pl a L h v lie seals folds n f] (fun (r : Nat) (w1 : List va_W) => r = (L index.toNatClampNeg) ∧ w1 = [pileB cI cL pl a L h v lie seals folds n f]) := by
  unfold P_X4_atB at hp
  refine m_start (by decide +kernel) (Nat.le_of_ble_eq_true rfl) (fun p e s m args below meth c A Q hA hQ C hr hlo => ?_)
  refine r_Le (L' := [(0, .ref pl), (1, .int index)]) rfl ?_
  refine r_iload_n C dX4_at_0 1 rfl ?_
  refine r_if_lt (tgt := 13) C dX4_at_1 (by decide) (fun c1 => ?_) (fun c1 => ?_)
  · have hp := hp.1 c1
    exact hp.elim
  · have hp := hp.2 c1
    refine r_iload_n C dX4_at_4 1 rfl ?_
    refine r_aload_n C dX4_at_5 0 rfl ?_
    refine r_ws (I' := [[(pl, .inr (2, [.ref a]))], [(a, .inl (cL, 5, .inr (.inr (.inr (.inr (rfs L))))))], letB cI (L 0) (h 0) (v 0) (lie 0) (seals 0) (folds 0) (n 0) (f 0), letB cI (L 1) (h 1) (v 1) (lie 1) (seals 1) (folds 1) (n 1) (f 1), letB cI (L 2) (h 2) (v 2) (lie 2) (seals 2) (folds 2) (n 2) (f 2), letB cI (L 3) (h 3) (v 3) (lie 3) (seals 3) (folds 3) (n 3) (f 3), letB cI (L 4) (h 4) (v 4) (lie 4) (seals 4) (folds 4) (n 4) (f 4)]) rfl ?_
    refine r_get (Cn := RX4) (T := TX4) (N := 1) C inT4 0 rfl rfl 0 (by decide) t_73 rfl dX4_at_6 ?_
    refine r_alen (v := 5) C 1 1 rfl rfl rfl dX4_at_9 ?_
    refine r_icmp_lt (tgt := 23) C dX4_at_10 (by decide) (fun c2 => ?_) (fun c2 => ?_)
    · have hp := hp.1 c2
      refine r_aload_n C dX4_at_23 0 rfl ?_
      refine r_get (Cn := RX4) (T := TX4) (N := 1) C inT4 0 rfl rfl 0 (by decide) t_73 rfl dX4_at_24 ?_
      refine r_iload_n C dX4_at_27 1 rfl ?_
      have h3 := hp
      refine r_aald (x := (L index.toNatClampNeg)) C 1 1 rfl rfl h3 dX4_at_28 rfl ?_
      refine r_ws (I' := [pileB cI cL pl a L h v lie seals folds n f]) rfl ?_
      exact r_aret (r := (L index.toNatClampNeg)) C hA hr (Or.inl ⟨_, rfl⟩) hlo dX4_at_29 [pileB cI cL pl a L h v lie seals folds n f] ⟨rfl, rfl⟩ rfl hQ
    · have hp := hp.2 c2
      exact hp.elim
theorem P_atB_k {k : Nat} (h : k < 5) : P_X4_atB (nI k) := by
  unfold P_X4_atB
  refine ⟨fun q => absurd q (nI_pos (by omega)), fun _ => ⟨fun _ => vp_in_nI h (by decide), fun q => absurd (nI_lt (a := k) (b := 5) h (by decide)) q⟩⟩
theorem P_at_k {k : Nat} (h : k < 5) : P_X4_at (nI k) := by
  unfold P_X4_at
  refine ⟨fun q => absurd q (nI_pos (by omega)), fun _ => ⟨fun _ => vp_in_nI h (by decide), fun q => absurd (nI_lt (a := k) (b := 5) h (by decide)) q⟩⟩
theorem k_X4_copy : kV yX4_copy cX4_copy 3 none 1 := ⟨t_542, t_543, t_8, t_544, by decide +kernel, by decide +kernel, by decide +kernel⟩
set_option maxRecDepth 20000 in
def F_X4_copy (f : Nat → Nat → Int32) (lie2 : Nat → Int32) (seals2 : Nat → Int32) (folds2 : Nat → Int32) (n2 : Nat → Int32) (f2 : Nat → Nat → Int32) : (Nat → Int32) × (Nat → Int32) × (Nat → Int32) × (Nat → Int32) × (Nat → Nat → Int32) := let x5 : Int32 := (F_X2_copy (f 0) (lie2 0) (seals2 0) (folds2 0) (n2 0) (f2 0)).1; let x6 : Int32 := (F_X2_copy (f 0) (lie2 0) (seals2 0) (folds2 0) (n2 0) (f2 0)).2.1; let x7 : Int32 := (F_X2_copy (f 0) (lie2 0) (seals2 0) (folds2 0) (n2 0) (f2 0)).2.2.1; let x8 : Int32 := (F_X2_copy (f 0) (lie2 0) (seals2 0) (folds2 0) (n2 0) (f2 0)).2.2.2.1; let g9 : Nat → Int32 := (F_X2_copy (f 0) (lie2 0) (seals2 0) (folds2 0) (n2 0) (f2 0)).2.2.2.2; let x13 : Int32 := (F_X2_copy (f 1) (lie2 1) (seals2 1) (folds2 1) (n2 1) (f2 1)).1; let x14 : Int32 := (F_X2_copy (f 1) (lie2 1) (seals2 1) (folds2 1) (n2 1) (f2 1)).2.1; let x15 : Int32 := (F_X2_copy (f 1) (lie2 1) (seals2 1) (folds2 1) (n2 1) (f2 1)).2.2.1; let x16 : Int32 := (F_X2_copy (f 1) (lie2 1) (seals2 1) (folds2 1) (n2 1) (f2 1)).2.2.2.1; let g17 : Nat → Int32 := (F_X2_copy (f 1) (lie2 1) (seals2 1) (folds2 1) (n2 1) (f2 1)).2.2.2.2; let x21 : Int32 := (F_X2_copy (f 2) (lie2 2) (seals2 2) (folds2 2) (n2 2) (f2 2)).1; let x22 : Int32 := (F_X2_copy (f 2) (lie2 2) (seals2 2) (folds2 2) (n2 2) (f2 2)).2.1; let x23 : Int32 := (F_X2_copy (f 2) (lie2 2) (seals2 2) (folds2 2) (n2 2) (f2 2)).2.2.1; let x24 : Int32 := (F_X2_copy (f 2) (lie2 2) (seals2 2) (folds2 2) (n2 2) (f2 2)).2.2.2.1; let g25 : Nat → Int32 := (F_X2_copy (f 2) (lie2 2) (seals2 2) (folds2 2) (n2 2) (f2 2)).2.2.2.2; let x29 : Int32 := (F_X2_copy (f 3) (lie2 3) (seals2 3) (folds2 3) (n2 3) (f2 3)).1; let x30 : Int32 := (F_X2_copy (f 3) (lie2 3) (seals2 3) (folds2 3) (n2 3) (f2 3)).2.1; let x31 : Int32 := (F_X2_copy (f 3) (lie2 3) (seals2 3) (folds2 3) (n2 3) (f2 3)).2.2.1; let x32 : Int32 := (F_X2_copy (f 3) (lie2 3) (seals2 3) (folds2 3) (n2 3) (f2 3)).2.2.2.1; let g33 : Nat → Int32 := (F_X2_copy (f 3) (lie2 3) (seals2 3) (folds2 3) (n2 3) (f2 3)).2.2.2.2; let x37 : Int32 := (F_X2_copy (f 4) (lie2 4) (seals2 4) (folds2 4) (n2 4) (f2 4)).1; let x38 : Int32 := (F_X2_copy (f 4) (lie2 4) (seals2 4) (folds2 4) (n2 4) (f2 4)).2.1; let x39 : Int32 := (F_X2_copy (f 4) (lie2 4) (seals2 4) (folds2 4) (n2 4) (f2 4)).2.2.1; let x40 : Int32 := (F_X2_copy (f 4) (lie2 4) (seals2 4) (folds2 4) (n2 4) (f2 4)).2.2.2.1; let g41 : Nat → Int32 := (F_X2_copy (f 4) (lie2 4) (seals2 4) (folds2 4) (n2 4) (f2 4)).2.2.2.2; ((fn5 x5 x13 x21 x29 x37), (fn5 x6 x14 x22 x30 x38), (fn5 x7 x15 x23 x31 x39), (fn5 x8 x16 x24 x32 x40), (fn5 g9 g17 g25 g33 g41))
set_option maxRecDepth 20000 in
def P_X4_copy (f : Nat → Nat → Int32) (lie2 : Nat → Int32) (seals2 : Nat → Int32) (folds2 : Nat → Int32) (n2 : Nat → Int32) (f2 : Nat → Nat → Int32) : Prop := ((P_X2_copy (f 0) (n2 0) (f2 0)) ∧ (∀ x5 : Int32, x5 = (F_X2_copy (f 0) (lie2 0) (seals2 0) (folds2 0) (n2 0) (f2 0)).1 → (∀ x6 : Int32, x6 = (F_X2_copy (f 0) (lie2 0) (seals2 0) (folds2 0) (n2 0) (f2 0)).2.1 → (∀ x7 : Int32, x7 = (F_X2_copy (f 0) (lie2 0) (seals2 0) (folds2 0) (n2 0) (f2 0)).2.2.1 → (∀ x8 : Int32, x8 = (F_X2_copy (f 0) (lie2 0) (seals2 0) (folds2 0) (n2 0) (f2 0)).2.2.2.1 → (∀ g9 : Nat → Int32, g9 = (F_X2_copy (f 0) (lie2 0) (seals2 0) (folds2 0) (n2 0) (f2 0)).2.2.2.2 → ((P_X2_copy (f 1) (n2 1) (f2 1)) ∧ (∀ x13 : Int32, x13 = (F_X2_copy (f 1) (lie2 1) (seals2 1) (folds2 1) (n2 1) (f2 1)).1 → (∀ x14 : Int32, x14 = (F_X2_copy (f 1) (lie2 1) (seals2 1) (folds2 1) (n2 1) (f2 1)).2.1 → (∀ x15 : Int32, x15 = (F_X2_copy (f 1) (lie2 1) (seals2 1) (folds2 1) (n2 1) (f2 1)).2.2.1 → (∀ x16 : Int32, x16 = (F_X2_copy (f 1) (lie2 1) (seals2 1) (folds2 1) (n2 1) (f2 1)).2.2.2.1 → (∀ g17 : Nat → Int32, g17 = (F_X2_copy (f 1) (lie2 1) (seals2 1) (folds2 1) (n2 1) (f2 1)).2.2.2.2 → ((P_X2_copy (f 2) (n2 2) (f2 2)) ∧ (∀ x21 : Int32, x21 = (F_X2_copy (f 2) (lie2 2) (seals2 2) (folds2 2) (n2 2) (f2 2)).1 → (∀ x22 : Int32, x22 = (F_X2_copy (f 2) (lie2 2) (seals2 2) (folds2 2) (n2 2) (f2 2)).2.1 → (∀ x23 : Int32, x23 = (F_X2_copy (f 2) (lie2 2) (seals2 2) (folds2 2) (n2 2) (f2 2)).2.2.1 → (∀ x24 : Int32, x24 = (F_X2_copy (f 2) (lie2 2) (seals2 2) (folds2 2) (n2 2) (f2 2)).2.2.2.1 → (∀ g25 : Nat → Int32, g25 = (F_X2_copy (f 2) (lie2 2) (seals2 2) (folds2 2) (n2 2) (f2 2)).2.2.2.2 → ((P_X2_copy (f 3) (n2 3) (f2 3)) ∧ (∀ x29 : Int32, x29 = (F_X2_copy (f 3) (lie2 3) (seals2 3) (folds2 3) (n2 3) (f2 3)).1 → (∀ x30 : Int32, x30 = (F_X2_copy (f 3) (lie2 3) (seals2 3) (folds2 3) (n2 3) (f2 3)).2.1 → (∀ x31 : Int32, x31 = (F_X2_copy (f 3) (lie2 3) (seals2 3) (folds2 3) (n2 3) (f2 3)).2.2.1 → (∀ x32 : Int32, x32 = (F_X2_copy (f 3) (lie2 3) (seals2 3) (folds2 3) (n2 3) (f2 3)).2.2.2.1 → (∀ g33 : Nat → Int32, g33 = (F_X2_copy (f 3) (lie2 3) (seals2 3) (folds2 3) (n2 3) (f2 3)).2.2.2.2 → (P_X2_copy (f 4) (n2 4) (f2 4))))))))))))))))))))))))))
set_option maxRecDepth 20000 in
set_option maxHeartbeats 8000000 in
theorem m_X4_copy (l : Launch) (D : va_G) (cI cL cP cJ : ClassId) (pl : Nat) (a : Nat) (L : Nat → Nat) (h : Nat → Nat) (v : Nat → Nat) (lie : Nat → Int32) (seals : Nat → Int32) (folds : Nat → Int32) (n : Nat → Int32) (f : Nat → Nat → Int32) (pl2 : Nat) (a2 : Nat) (L2 : Nat → Nat) (h2 : Nat → Nat) (v2 : Nat → Nat) (lie2 : Nat → Int32) (seals2 : Nat → Int32) (folds2 : Nat → Int32) (n2 : Nat → Int32) (f2 : Nat → Nat → Int32) (hp : P_X4_copy f lie2 seals2 folds2 n2 f2) : M vV l yX4_copy cX4_copy 3 none 3 64 D (tyF cI cL cP cJ) [.ref pl, .ref pl2] [pileB cI cL pl a L h v lie seals folds n f, pileB cI cL pl2 a2 L2 h2 v2 lie2 seals2 folds2 n2 f2] (fun (r : Unit) (w1 : List va_W) => w1 = [pileB cI cL pl a L h v ((F_X4_copy f lie2 seals2 folds2 n2 f2).1) ((F_X4_copy f lie2 seals2 folds2 n2 f2).2.1) ((F_X4_copy f lie2 seals2 folds2 n2 f2).2.2.1) ((F_X4_copy f lie2 seals2 folds2 n2 f2).2.2.2.1) ((F_X4_copy f lie2 seals2 folds2 n2 f2).2.2.2.2), pileB cI cL pl2 a2 L2 h2 v2 lie2 seals2 folds2 n2 f2]) := by
  unfold P_X4_copy at hp
  refine m_start (by decide +kernel) (Nat.le_of_ble_eq_true rfl) (fun p e s m args below meth c A Q hA hQ C hr hlo => ?_)
  refine r_Le (L' := [(0, .ref pl), (1, .ref pl2)]) rfl ?_
  refine r_iconst (v := 0) C dX4_copy_0 (by decide) ?_
  refine r_istore_n (L' := [(2, .int 0), (0, .ref pl), (1, .ref pl2)]) C dX4_copy_1 (by decide) rfl ?_
  refine r_iload_n C dX4_copy_2 0 rfl ?_
  refine r_aload_n C dX4_copy_3 1 rfl ?_
  refine r_ws (I' := [[(pl, .inr (2, [.ref a]))], [(a, .inl (cL, 5, .inr (.inr (.inr (.inr (rfs L))))))], letB cI (L 0) (h 0) (v 0) (lie 0) (seals 0) (folds 0) (n 0) (f 0), letB cI (L 1) (h 1) (v 1) (lie 1) (seals 1) (folds 1) (n 1) (f 1), letB cI (L 2) (h 2) (v 2) (lie 2) (seals 2) (folds 2) (n 2) (f 2), letB cI (L 3) (h 3) (v 3) (lie 3) (seals 3) (folds 3) (n 3) (f 3), letB cI (L 4) (h 4) (v 4) (lie 4) (seals 4) (folds 4) (n 4) (f 4), pileB cI cL pl2 a2 L2 h2 v2 lie2 seals2 folds2 n2 f2]) rfl ?_
  refine r_get (Cn := RX4) (T := TX4) (N := 1) C inT4 0 rfl rfl 0 (by decide) t_73 rfl dX4_copy_4 ?_
  refine r_alen (v := 5) C 1 1 rfl rfl rfl dX4_copy_7 ?_
  refine r_icmp_ge (tgt := 31) C dX4_copy_8 (by decide) (fun c => absurd c (by decide)) (fun _ => ?_)
  refine r_aload_n C dX4_copy_11 1 rfl ?_
  refine r_get (Cn := RX4) (T := TX4) (N := 1) C inT4 0 rfl rfl 0 (by decide) t_73 rfl dX4_copy_12 ?_
  refine r_iload_n C dX4_copy_15 0 rfl ?_
  refine r_aald (x := (L 0)) C 1 1 rfl rfl (vp_in_nI (n := 0) (N := 5) (by decide) (by decide)) dX4_copy_16 rfl ?_
  refine r_aload_n C dX4_copy_17 2 rfl ?_
  refine r_iload_n C dX4_copy_18 0 rfl ?_
  refine r_callV (ci := 2) (wc := [pileB cI cL pl2 a2 L2 h2 v2 lie2 seals2 folds2 n2 f2]) (wr := [[(pl, .inr (2, [.ref a]))], [(a, .inl (cL, 5, .inr (.inr (.inr (.inr (rfs L))))))], letB cI (L 0) (h 0) (v 0) (lie 0) (seals 0) (folds 0) (n 0) (f 0), letB cI (L 1) (h 1) (v 1) (lie 1) (seals 1) (folds 1) (n 1) (f 1), letB cI (L 2) (h 2) (v 2) (lie 2) (seals 2) (folds 2) (n 2) (f 2), letB cI (L 3) (h 3) (v 3) (lie 3) (seals 3) (folds 3) (n 3) (f 3), letB cI (L 4) (h 4) (v 4) (lie 4) (seals 4) (folds 4) (n 4) (f 4)]) (st := [.ref (L 0)]) C (m_X4_atB l D cI cL cP cJ pl2 a2 L2 h2 v2 lie2 seals2 folds2 n2 f2 0 (P_atB_k (k := 0) (by decide))) k_X4_at t_287 [7, 0, 1, 2, 3, 4, 5, 6] (show ([7, 0, 1, 2, 3, 4, 5, 6] : List Nat).Perm (List.range 8) by decide) rfl rfl rfl (q0 := 0) rfl rfl rfl (Nat.le_of_ble_eq_true rfl) ⟨Nat.le_of_ble_eq_true rfl, Nat.le_of_ble_eq_true rfl⟩ ⟨Nat.zero_le _, Nat.zero_le _⟩ dX4_copy_19 (fun r1 wr1 hw1 => ?_)
  obtain ⟨rfl, rfl⟩ := hw1
  refine r_ws (I' := [pileB cI cL pl2 a2 L2 h2 v2 lie2 seals2 folds2 n2 f2, [(pl, .inr (2, [.ref a]))], [(a, .inl (cL, 5, .inr (.inr (.inr (.inr (rfs L))))))], letB cI (L 0) (h 0) (v 0) (lie 0) (seals 0) (folds 0) (n 0) (f 0), letB cI (L 1) (h 1) (v 1) (lie 1) (seals 1) (folds 1) (n 1) (f 1), letB cI (L 2) (h 2) (v 2) (lie 2) (seals 2) (folds 2) (n 2) (f 2), letB cI (L 3) (h 3) (v 3) (lie 3) (seals 3) (folds 3) (n 3) (f 3), letB cI (L 4) (h 4) (v 4) (lie 4) (seals 4) (folds 4) (n 4) (f 4)]) rfl ?_
  refine r_ws (I' := [[(pl2, .inr (2, [.ref a2]))], [(a2, .inl (cL, 5, .inr (.inr (.inr (.inr (rfs L2))))))], letB cI (L2 0) (h2 0) (v2 0) (lie2 0) (seals2 0) (folds2 0) (n2 0) (f2 0), letB cI (L2 1) (h2 1) (v2 1) (lie2 1) (seals2 1) (folds2 1) (n2 1) (f2 1), letB cI (L2 2) (h2 2) (v2 2) (lie2 2) (seals2 2) (folds2 2) (n2 2) (f2 2), letB cI (L2 3) (h2 3) (v2 3) (lie2 3) (seals2 3) (folds2 3) (n2 3) (f2 3), letB cI (L2 4) (h2 4) (v2 4) (lie2 4) (seals2 4) (folds2 4) (n2 4) (f2 4), [(pl, .inr (2, [.ref a]))], [(a, .inl (cL, 5, .inr (.inr (.inr (.inr (rfs L))))))], letB cI (L 0) (h 0) (v 0) (lie 0) (seals 0) (folds 0) (n 0) (f 0), letB cI (L 1) (h 1) (v 1) (lie 1) (seals 1) (folds 1) (n 1) (f 1), letB cI (L 2) (h 2) (v 2) (lie 2) (seals 2) (folds 2) (n 2) (f 2), letB cI (L 3) (h 3) (v 3) (lie 3) (seals 3) (folds 3) (n 3) (f 3), letB cI (L 4) (h 4) (v 4) (lie 4) (seals 4) (folds 4) (n 4) (f 4)]) rfl ?_
  obtain ⟨h3, hp⟩ := hp
  refine r_callV (ci := 1) (wc := [letB cI (L 0) (h 0) (v 0) (lie 0) (seals 0) (folds 0) (n 0) (f 0), letB cI (L2 0) (h2 0) (v2 0) (lie2 0) (seals2 0) (folds2 0) (n2 0) (f2 0)]) (wr := [[(pl2, .inr (2, [.ref a2]))], [(a2, .inl (cL, 5, .inr (.inr (.inr (.inr (rfs L2))))))], letB cI (L2 1) (h2 1) (v2 1) (lie2 1) (seals2 1) (folds2 1) (n2 1) (f2 1), letB cI (L2 2) (h2 2) (v2 2) (lie2 2) (seals2 2) (folds2 2) (n2 2) (f2 2), letB cI (L2 3) (h2 3) (v2 3) (lie2 3) (seals2 3) (folds2 3) (n2 3) (f2 3), letB cI (L2 4) (h2 4) (v2 4) (lie2 4) (seals2 4) (folds2 4) (n2 4) (f2 4), [(pl, .inr (2, [.ref a]))], [(a, .inl (cL, 5, .inr (.inr (.inr (.inr (rfs L))))))], letB cI (L 1) (h 1) (v 1) (lie 1) (seals 1) (folds 1) (n 1) (f 1), letB cI (L 2) (h 2) (v 2) (lie 2) (seals 2) (folds 2) (n 2) (f 2), letB cI (L 3) (h 3) (v 3) (lie 3) (seals 3) (folds 3) (n 3) (f 3), letB cI (L 4) (h 4) (v 4) (lie 4) (seals 4) (folds 4) (n 4) (f 4)]) (st := []) C (m_X2_copy l D cI cL cP cJ (L 0) (h 0) (v 0) (lie 0) (seals 0) (folds 0) (n 0) (f 0) (L2 0) (h2 0) (v2 0) (lie2 0) (seals2 0) (folds2 0) (n2 0) (f2 0) h3) k_X2_copy t_545 [9, 2, 0, 1, 3, 4, 5, 6, 7, 8, 10, 11, 12, 13] (show ([9, 2, 0, 1, 3, 4, 5, 6, 7, 8, 10, 11, 12, 13] : List Nat).Perm (List.range 14) by decide) rfl rfl rfl (q0 := 0) rfl rfl rfl (Nat.le_of_ble_eq_true rfl) ⟨Nat.le_of_ble_eq_true rfl, Nat.le_of_ble_eq_true rfl⟩ ⟨Nat.zero_le _, Nat.zero_le _⟩ dX4_copy_22 (fun r4 wr4 hw4 => ?_)
  obtain rfl := hw4
  obtain ⟨x5, e_x5⟩ : ∃ z : Int32, z = (F_X2_copy (f 0) (lie2 0) (seals2 0) (folds2 0) (n2 0) (f2 0)).1 := ⟨_, rfl⟩
  have hp := hp x5 e_x5
  obtain ⟨x6, e_x6⟩ : ∃ z : Int32, z = (F_X2_copy (f 0) (lie2 0) (seals2 0) (folds2 0) (n2 0) (f2 0)).2.1 := ⟨_, rfl⟩
  have hp := hp x6 e_x6
  obtain ⟨x7, e_x7⟩ : ∃ z : Int32, z = (F_X2_copy (f 0) (lie2 0) (seals2 0) (folds2 0) (n2 0) (f2 0)).2.2.1 := ⟨_, rfl⟩
  have hp := hp x7 e_x7
  obtain ⟨x8, e_x8⟩ : ∃ z : Int32, z = (F_X2_copy (f 0) (lie2 0) (seals2 0) (folds2 0) (n2 0) (f2 0)).2.2.2.1 := ⟨_, rfl⟩
  have hp := hp x8 e_x8
  obtain ⟨g9, e_g9⟩ : ∃ z : Nat → Int32, z = (F_X2_copy (f 0) (lie2 0) (seals2 0) (folds2 0) (n2 0) (f2 0)).2.2.2.2 := ⟨_, rfl⟩
  have hp := hp g9 e_g9
  refine r_ws (I' := [letB cI (L 0) (h 0) (v 0) x5 x6 x7 x8 g9, letB cI (L2 0) (h2 0) (v2 0) (lie2 0) (seals2 0) (folds2 0) (n2 0) (f2 0), [(pl2, .inr (2, [.ref a2]))], [(a2, .inl (cL, 5, .inr (.inr (.inr (.inr (rfs L2))))))], letB cI (L2 1) (h2 1) (v2 1) (lie2 1) (seals2 1) (folds2 1) (n2 1) (f2 1), letB cI (L2 2) (h2 2) (v2 2) (lie2 2) (seals2 2) (folds2 2) (n2 2) (f2 2), letB cI (L2 3) (h2 3) (v2 3) (lie2 3) (seals2 3) (folds2 3) (n2 3) (f2 3), letB cI (L2 4) (h2 4) (v2 4) (lie2 4) (seals2 4) (folds2 4) (n2 4) (f2 4), [(pl, .inr (2, [.ref a]))], [(a, .inl (cL, 5, .inr (.inr (.inr (.inr (rfs L))))))], letB cI (L 1) (h 1) (v 1) (lie 1) (seals 1) (folds 1) (n 1) (f 1), letB cI (L 2) (h 2) (v 2) (lie 2) (seals 2) (folds 2) (n 2) (f 2), letB cI (L 3) (h 3) (v 3) (lie 3) (seals 3) (folds 3) (n 3) (f 3), letB cI (L 4) (h 4) (v 4) (lie 4) (seals 4) (folds 4) (n 4) (f 4)]) (by rw [e_x5, e_x6, e_x7, e_x8, e_g9]; rfl) ?_
  refine r_iinc (v := 1) (L' := [(2, .int 1), (0, .ref pl), (1, .ref pl2)]) C dX4_copy_25 0 rfl (by decide) (by decide) rfl ?_
  refine r_goto (tgt := 2) C dX4_copy_28 (by decide) ?_
  refine r_iload_n C dX4_copy_2 0 rfl ?_
  refine r_aload_n C dX4_copy_3 1 rfl ?_
  refine r_get (Cn := RX4) (T := TX4) (N := 1) C inT4 8 rfl rfl 0 (by decide) t_73 rfl dX4_copy_4 ?_
  refine r_alen (v := 5) C 9 1 rfl rfl rfl dX4_copy_7 ?_
  refine r_icmp_ge (tgt := 31) C dX4_copy_8 (by decide) (fun c => absurd c (by decide)) (fun _ => ?_)
  refine r_aload_n C dX4_copy_11 1 rfl ?_
  refine r_get (Cn := RX4) (T := TX4) (N := 1) C inT4 8 rfl rfl 0 (by decide) t_73 rfl dX4_copy_12 ?_
  refine r_iload_n C dX4_copy_15 0 rfl ?_
  refine r_aald (x := (L 1)) C 9 1 rfl rfl (vp_in_nI (n := 1) (N := 5) (by decide) (by decide)) dX4_copy_16 rfl ?_
  refine r_aload_n C dX4_copy_17 2 rfl ?_
  refine r_iload_n C dX4_copy_18 0 rfl ?_
  refine r_callV (ci := 2) (wc := [[(pl2, .inr (2, [.ref a2]))], [(a2, .inl (cL, 5, .inr (.inr (.inr (.inr (rfs L2))))))]]) (wr := [letB cI (L 0) (h 0) (v 0) x5 x6 x7 x8 g9, letB cI (L2 0) (h2 0) (v2 0) (lie2 0) (seals2 0) (folds2 0) (n2 0) (f2 0), letB cI (L2 1) (h2 1) (v2 1) (lie2 1) (seals2 1) (folds2 1) (n2 1) (f2 1), letB cI (L2 2) (h2 2) (v2 2) (lie2 2) (seals2 2) (folds2 2) (n2 2) (f2 2), letB cI (L2 3) (h2 3) (v2 3) (lie2 3) (seals2 3) (folds2 3) (n2 3) (f2 3), letB cI (L2 4) (h2 4) (v2 4) (lie2 4) (seals2 4) (folds2 4) (n2 4) (f2 4), [(pl, .inr (2, [.ref a]))], [(a, .inl (cL, 5, .inr (.inr (.inr (.inr (rfs L))))))], letB cI (L 1) (h 1) (v 1) (lie 1) (seals 1) (folds 1) (n 1) (f 1), letB cI (L 2) (h 2) (v 2) (lie 2) (seals 2) (folds 2) (n 2) (f 2), letB cI (L 3) (h 3) (v 3) (lie 3) (seals 3) (folds 3) (n 3) (f 3), letB cI (L 4) (h 4) (v 4) (lie 4) (seals 4) (folds 4) (n 4) (f 4)]) (st := [.ref (L 1)]) C (m_X4_at l D cI cL cP cJ pl2 a2 L2 1 (P_at_k (k := 1) (by decide))) k_X4_at t_287 [2, 3, 0, 1, 4, 5, 6, 7, 8, 9, 10, 11, 12, 13] (show ([2, 3, 0, 1, 4, 5, 6, 7, 8, 9, 10, 11, 12, 13] : List Nat).Perm (List.range 14) by decide) rfl rfl rfl (q0 := 0) rfl rfl rfl (Nat.le_of_ble_eq_true rfl) ⟨Nat.le_of_ble_eq_true rfl, Nat.le_of_ble_eq_true rfl⟩ ⟨Nat.zero_le _, Nat.zero_le _⟩ dX4_copy_19 (fun r10 wr10 hw10 => ?_)
  obtain ⟨rfl, rfl⟩ := hw10
  refine r_ws (I' := [[(pl2, .inr (2, [.ref a2]))], [(a2, .inl (cL, 5, .inr (.inr (.inr (.inr (rfs L2))))))], letB cI (L 0) (h 0) (v 0) x5 x6 x7 x8 g9, letB cI (L2 0) (h2 0) (v2 0) (lie2 0) (seals2 0) (folds2 0) (n2 0) (f2 0), letB cI (L2 1) (h2 1) (v2 1) (lie2 1) (seals2 1) (folds2 1) (n2 1) (f2 1), letB cI (L2 2) (h2 2) (v2 2) (lie2 2) (seals2 2) (folds2 2) (n2 2) (f2 2), letB cI (L2 3) (h2 3) (v2 3) (lie2 3) (seals2 3) (folds2 3) (n2 3) (f2 3), letB cI (L2 4) (h2 4) (v2 4) (lie2 4) (seals2 4) (folds2 4) (n2 4) (f2 4), [(pl, .inr (2, [.ref a]))], [(a, .inl (cL, 5, .inr (.inr (.inr (.inr (rfs L))))))], letB cI (L 1) (h 1) (v 1) (lie 1) (seals 1) (folds 1) (n 1) (f 1), letB cI (L 2) (h 2) (v 2) (lie 2) (seals 2) (folds 2) (n 2) (f 2), letB cI (L 3) (h 3) (v 3) (lie 3) (seals 3) (folds 3) (n 3) (f 3), letB cI (L 4) (h 4) (v 4) (lie 4) (seals 4) (folds 4) (n 4) (f 4)]) rfl ?_
  obtain ⟨h11, hp⟩ := hp
  refine r_callV (ci := 1) (wc := [letB cI (L 1) (h 1) (v 1) (lie 1) (seals 1) (folds 1) (n 1) (f 1), letB cI (L2 1) (h2 1) (v2 1) (lie2 1) (seals2 1) (folds2 1) (n2 1) (f2 1)]) (wr := [[(pl2, .inr (2, [.ref a2]))], [(a2, .inl (cL, 5, .inr (.inr (.inr (.inr (rfs L2))))))], letB cI (L 0) (h 0) (v 0) x5 x6 x7 x8 g9, letB cI (L2 0) (h2 0) (v2 0) (lie2 0) (seals2 0) (folds2 0) (n2 0) (f2 0), letB cI (L2 2) (h2 2) (v2 2) (lie2 2) (seals2 2) (folds2 2) (n2 2) (f2 2), letB cI (L2 3) (h2 3) (v2 3) (lie2 3) (seals2 3) (folds2 3) (n2 3) (f2 3), letB cI (L2 4) (h2 4) (v2 4) (lie2 4) (seals2 4) (folds2 4) (n2 4) (f2 4), [(pl, .inr (2, [.ref a]))], [(a, .inl (cL, 5, .inr (.inr (.inr (.inr (rfs L))))))], letB cI (L 2) (h 2) (v 2) (lie 2) (seals 2) (folds 2) (n 2) (f 2), letB cI (L 3) (h 3) (v 3) (lie 3) (seals 3) (folds 3) (n 3) (f 3), letB cI (L 4) (h 4) (v 4) (lie 4) (seals 4) (folds 4) (n 4) (f 4)]) (st := []) C (m_X2_copy l D cI cL cP cJ (L 1) (h 1) (v 1) (lie 1) (seals 1) (folds 1) (n 1) (f 1) (L2 1) (h2 1) (v2 1) (lie2 1) (seals2 1) (folds2 1) (n2 1) (f2 1) h11) k_X2_copy t_545 [10, 4, 0, 1, 2, 3, 5, 6, 7, 8, 9, 11, 12, 13] (show ([10, 4, 0, 1, 2, 3, 5, 6, 7, 8, 9, 11, 12, 13] : List Nat).Perm (List.range 14) by decide) rfl rfl rfl (q0 := 0) rfl rfl rfl (Nat.le_of_ble_eq_true rfl) ⟨Nat.le_of_ble_eq_true rfl, Nat.le_of_ble_eq_true rfl⟩ ⟨Nat.zero_le _, Nat.zero_le _⟩ dX4_copy_22 (fun r12 wr12 hw12 => ?_)
  obtain rfl := hw12
  obtain ⟨x13, e_x13⟩ : ∃ z : Int32, z = (F_X2_copy (f 1) (lie2 1) (seals2 1) (folds2 1) (n2 1) (f2 1)).1 := ⟨_, rfl⟩
  have hp := hp x13 e_x13
  obtain ⟨x14, e_x14⟩ : ∃ z : Int32, z = (F_X2_copy (f 1) (lie2 1) (seals2 1) (folds2 1) (n2 1) (f2 1)).2.1 := ⟨_, rfl⟩
  have hp := hp x14 e_x14
  obtain ⟨x15, e_x15⟩ : ∃ z : Int32, z = (F_X2_copy (f 1) (lie2 1) (seals2 1) (folds2 1) (n2 1) (f2 1)).2.2.1 := ⟨_, rfl⟩
  have hp := hp x15 e_x15
  obtain ⟨x16, e_x16⟩ : ∃ z : Int32, z = (F_X2_copy (f 1) (lie2 1) (seals2 1) (folds2 1) (n2 1) (f2 1)).2.2.2.1 := ⟨_, rfl⟩
  have hp := hp x16 e_x16
  obtain ⟨g17, e_g17⟩ : ∃ z : Nat → Int32, z = (F_X2_copy (f 1) (lie2 1) (seals2 1) (folds2 1) (n2 1) (f2 1)).2.2.2.2 := ⟨_, rfl⟩
  have hp := hp g17 e_g17
  refine r_ws (I' := [letB cI (L 1) (h 1) (v 1) x13 x14 x15 x16 g17, letB cI (L2 1) (h2 1) (v2 1) (lie2 1) (seals2 1) (folds2 1) (n2 1) (f2 1), [(pl2, .inr (2, [.ref a2]))], [(a2, .inl (cL, 5, .inr (.inr (.inr (.inr (rfs L2))))))], letB cI (L 0) (h 0) (v 0) x5 x6 x7 x8 g9, letB cI (L2 0) (h2 0) (v2 0) (lie2 0) (seals2 0) (folds2 0) (n2 0) (f2 0), letB cI (L2 2) (h2 2) (v2 2) (lie2 2) (seals2 2) (folds2 2) (n2 2) (f2 2), letB cI (L2 3) (h2 3) (v2 3) (lie2 3) (seals2 3) (folds2 3) (n2 3) (f2 3), letB cI (L2 4) (h2 4) (v2 4) (lie2 4) (seals2 4) (folds2 4) (n2 4) (f2 4), [(pl, .inr (2, [.ref a]))], [(a, .inl (cL, 5, .inr (.inr (.inr (.inr (rfs L))))))], letB cI (L 2) (h 2) (v 2) (lie 2) (seals 2) (folds 2) (n 2) (f 2), letB cI (L 3) (h 3) (v 3) (lie 3) (seals 3) (folds 3) (n 3) (f 3), letB cI (L 4) (h 4) (v 4) (lie 4) (seals 4) (folds 4) (n 4) (f 4)]) (by rw [e_x13, e_x14, e_x15, e_x16, e_g17]; rfl) ?_
  refine r_iinc (v := 2) (L' := [(2, .int 2), (0, .ref pl), (1, .ref pl2)]) C dX4_copy_25 0 rfl (by decide) (by decide) rfl ?_
  refine r_goto (tgt := 2) C dX4_copy_28 (by decide) ?_
  refine r_iload_n C dX4_copy_2 0 rfl ?_
  refine r_aload_n C dX4_copy_3 1 rfl ?_
  refine r_get (Cn := RX4) (T := TX4) (N := 1) C inT4 9 rfl rfl 0 (by decide) t_73 rfl dX4_copy_4 ?_
  refine r_alen (v := 5) C 10 1 rfl rfl rfl dX4_copy_7 ?_
  refine r_icmp_ge (tgt := 31) C dX4_copy_8 (by decide) (fun c => absurd c (by decide)) (fun _ => ?_)
  refine r_aload_n C dX4_copy_11 1 rfl ?_
  refine r_get (Cn := RX4) (T := TX4) (N := 1) C inT4 9 rfl rfl 0 (by decide) t_73 rfl dX4_copy_12 ?_
  refine r_iload_n C dX4_copy_15 0 rfl ?_
  refine r_aald (x := (L 2)) C 10 1 rfl rfl (vp_in_nI (n := 2) (N := 5) (by decide) (by decide)) dX4_copy_16 rfl ?_
  refine r_aload_n C dX4_copy_17 2 rfl ?_
  refine r_iload_n C dX4_copy_18 0 rfl ?_
  refine r_callV (ci := 2) (wc := [[(pl2, .inr (2, [.ref a2]))], [(a2, .inl (cL, 5, .inr (.inr (.inr (.inr (rfs L2))))))]]) (wr := [letB cI (L 1) (h 1) (v 1) x13 x14 x15 x16 g17, letB cI (L2 1) (h2 1) (v2 1) (lie2 1) (seals2 1) (folds2 1) (n2 1) (f2 1), letB cI (L 0) (h 0) (v 0) x5 x6 x7 x8 g9, letB cI (L2 0) (h2 0) (v2 0) (lie2 0) (seals2 0) (folds2 0) (n2 0) (f2 0), letB cI (L2 2) (h2 2) (v2 2) (lie2 2) (seals2 2) (folds2 2) (n2 2) (f2 2), letB cI (L2 3) (h2 3) (v2 3) (lie2 3) (seals2 3) (folds2 3) (n2 3) (f2 3), letB cI (L2 4) (h2 4) (v2 4) (lie2 4) (seals2 4) (folds2 4) (n2 4) (f2 4), [(pl, .inr (2, [.ref a]))], [(a, .inl (cL, 5, .inr (.inr (.inr (.inr (rfs L))))))], letB cI (L 2) (h 2) (v 2) (lie 2) (seals 2) (folds 2) (n 2) (f 2), letB cI (L 3) (h 3) (v 3) (lie 3) (seals 3) (folds 3) (n 3) (f 3), letB cI (L 4) (h 4) (v 4) (lie 4) (seals 4) (folds 4) (n 4) (f 4)]) (st := [.ref (L 2)]) C (m_X4_at l D cI cL cP cJ pl2 a2 L2 2 (P_at_k (k := 2) (by decide))) k_X4_at t_287 [2, 3, 0, 1, 4, 5, 6, 7, 8, 9, 10, 11, 12, 13] (show ([2, 3, 0, 1, 4, 5, 6, 7, 8, 9, 10, 11, 12, 13] : List Nat).Perm (List.range 14) by decide) rfl rfl rfl (q0 := 0) rfl rfl rfl (Nat.le_of_ble_eq_true rfl) ⟨Nat.le_of_ble_eq_true rfl, Nat.le_of_ble_eq_true rfl⟩ ⟨Nat.zero_le _, Nat.zero_le _⟩ dX4_copy_19 (fun r18 wr18 hw18 => ?_)
  obtain ⟨rfl, rfl⟩ := hw18
  refine r_ws (I' := [[(pl2, .inr (2, [.ref a2]))], [(a2, .inl (cL, 5, .inr (.inr (.inr (.inr (rfs L2))))))], letB cI (L 1) (h 1) (v 1) x13 x14 x15 x16 g17, letB cI (L2 1) (h2 1) (v2 1) (lie2 1) (seals2 1) (folds2 1) (n2 1) (f2 1), letB cI (L 0) (h 0) (v 0) x5 x6 x7 x8 g9, letB cI (L2 0) (h2 0) (v2 0) (lie2 0) (seals2 0) (folds2 0) (n2 0) (f2 0), letB cI (L2 2) (h2 2) (v2 2) (lie2 2) (seals2 2) (folds2 2) (n2 2) (f2 2), letB cI (L2 3) (h2 3) (v2 3) (lie2 3) (seals2 3) (folds2 3) (n2 3) (f2 3), letB cI (L2 4) (h2 4) (v2 4) (lie2 4) (seals2 4) (folds2 4) (n2 4) (f2 4), [(pl, .inr (2, [.ref a]))], [(a, .inl (cL, 5, .inr (.inr (.inr (.inr (rfs L))))))], letB cI (L 2) (h 2) (v 2) (lie 2) (seals 2) (folds 2) (n 2) (f 2), letB cI (L 3) (h 3) (v 3) (lie 3) (seals 3) (folds 3) (n 3) (f 3), letB cI (L 4) (h 4) (v 4) (lie 4) (seals 4) (folds 4) (n 4) (f 4)]) rfl ?_
  obtain ⟨h19, hp⟩ := hp
  refine r_callV (ci := 1) (wc := [letB cI (L 2) (h 2) (v 2) (lie 2) (seals 2) (folds 2) (n 2) (f 2), letB cI (L2 2) (h2 2) (v2 2) (lie2 2) (seals2 2) (folds2 2) (n2 2) (f2 2)]) (wr := [[(pl2, .inr (2, [.ref a2]))], [(a2, .inl (cL, 5, .inr (.inr (.inr (.inr (rfs L2))))))], letB cI (L 1) (h 1) (v 1) x13 x14 x15 x16 g17, letB cI (L2 1) (h2 1) (v2 1) (lie2 1) (seals2 1) (folds2 1) (n2 1) (f2 1), letB cI (L 0) (h 0) (v 0) x5 x6 x7 x8 g9, letB cI (L2 0) (h2 0) (v2 0) (lie2 0) (seals2 0) (folds2 0) (n2 0) (f2 0), letB cI (L2 3) (h2 3) (v2 3) (lie2 3) (seals2 3) (folds2 3) (n2 3) (f2 3), letB cI (L2 4) (h2 4) (v2 4) (lie2 4) (seals2 4) (folds2 4) (n2 4) (f2 4), [(pl, .inr (2, [.ref a]))], [(a, .inl (cL, 5, .inr (.inr (.inr (.inr (rfs L))))))], letB cI (L 3) (h 3) (v 3) (lie 3) (seals 3) (folds 3) (n 3) (f 3), letB cI (L 4) (h 4) (v 4) (lie 4) (seals 4) (folds 4) (n 4) (f 4)]) (st := []) C (m_X2_copy l D cI cL cP cJ (L 2) (h 2) (v 2) (lie 2) (seals 2) (folds 2) (n 2) (f 2) (L2 2) (h2 2) (v2 2) (lie2 2) (seals2 2) (folds2 2) (n2 2) (f2 2) h19) k_X2_copy t_545 [11, 6, 0, 1, 2, 3, 4, 5, 7, 8, 9, 10, 12, 13] (show ([11, 6, 0, 1, 2, 3, 4, 5, 7, 8, 9, 10, 12, 13] : List Nat).Perm (List.range 14) by decide) rfl rfl rfl (q0 := 0) rfl rfl rfl (Nat.le_of_ble_eq_true rfl) ⟨Nat.le_of_ble_eq_true rfl, Nat.le_of_ble_eq_true rfl⟩ ⟨Nat.zero_le _, Nat.zero_le _⟩ dX4_copy_22 (fun r20 wr20 hw20 => ?_)
  obtain rfl := hw20
  obtain ⟨x21, e_x21⟩ : ∃ z : Int32, z = (F_X2_copy (f 2) (lie2 2) (seals2 2) (folds2 2) (n2 2) (f2 2)).1 := ⟨_, rfl⟩
  have hp := hp x21 e_x21
  obtain ⟨x22, e_x22⟩ : ∃ z : Int32, z = (F_X2_copy (f 2) (lie2 2) (seals2 2) (folds2 2) (n2 2) (f2 2)).2.1 := ⟨_, rfl⟩
  have hp := hp x22 e_x22
  obtain ⟨x23, e_x23⟩ : ∃ z : Int32, z = (F_X2_copy (f 2) (lie2 2) (seals2 2) (folds2 2) (n2 2) (f2 2)).2.2.1 := ⟨_, rfl⟩
  have hp := hp x23 e_x23
  obtain ⟨x24, e_x24⟩ : ∃ z : Int32, z = (F_X2_copy (f 2) (lie2 2) (seals2 2) (folds2 2) (n2 2) (f2 2)).2.2.2.1 := ⟨_, rfl⟩
  have hp := hp x24 e_x24
  obtain ⟨g25, e_g25⟩ : ∃ z : Nat → Int32, z = (F_X2_copy (f 2) (lie2 2) (seals2 2) (folds2 2) (n2 2) (f2 2)).2.2.2.2 := ⟨_, rfl⟩
  have hp := hp g25 e_g25
  refine r_ws (I' := [letB cI (L 2) (h 2) (v 2) x21 x22 x23 x24 g25, letB cI (L2 2) (h2 2) (v2 2) (lie2 2) (seals2 2) (folds2 2) (n2 2) (f2 2), [(pl2, .inr (2, [.ref a2]))], [(a2, .inl (cL, 5, .inr (.inr (.inr (.inr (rfs L2))))))], letB cI (L 1) (h 1) (v 1) x13 x14 x15 x16 g17, letB cI (L2 1) (h2 1) (v2 1) (lie2 1) (seals2 1) (folds2 1) (n2 1) (f2 1), letB cI (L 0) (h 0) (v 0) x5 x6 x7 x8 g9, letB cI (L2 0) (h2 0) (v2 0) (lie2 0) (seals2 0) (folds2 0) (n2 0) (f2 0), letB cI (L2 3) (h2 3) (v2 3) (lie2 3) (seals2 3) (folds2 3) (n2 3) (f2 3), letB cI (L2 4) (h2 4) (v2 4) (lie2 4) (seals2 4) (folds2 4) (n2 4) (f2 4), [(pl, .inr (2, [.ref a]))], [(a, .inl (cL, 5, .inr (.inr (.inr (.inr (rfs L))))))], letB cI (L 3) (h 3) (v 3) (lie 3) (seals 3) (folds 3) (n 3) (f 3), letB cI (L 4) (h 4) (v 4) (lie 4) (seals 4) (folds 4) (n 4) (f 4)]) (by rw [e_x21, e_x22, e_x23, e_x24, e_g25]; rfl) ?_
  refine r_iinc (v := 3) (L' := [(2, .int 3), (0, .ref pl), (1, .ref pl2)]) C dX4_copy_25 0 rfl (by decide) (by decide) rfl ?_
  refine r_goto (tgt := 2) C dX4_copy_28 (by decide) ?_
  refine r_iload_n C dX4_copy_2 0 rfl ?_
  refine r_aload_n C dX4_copy_3 1 rfl ?_
  refine r_get (Cn := RX4) (T := TX4) (N := 1) C inT4 10 rfl rfl 0 (by decide) t_73 rfl dX4_copy_4 ?_
  refine r_alen (v := 5) C 11 1 rfl rfl rfl dX4_copy_7 ?_
  refine r_icmp_ge (tgt := 31) C dX4_copy_8 (by decide) (fun c => absurd c (by decide)) (fun _ => ?_)
  refine r_aload_n C dX4_copy_11 1 rfl ?_
  refine r_get (Cn := RX4) (T := TX4) (N := 1) C inT4 10 rfl rfl 0 (by decide) t_73 rfl dX4_copy_12 ?_
  refine r_iload_n C dX4_copy_15 0 rfl ?_
  refine r_aald (x := (L 3)) C 11 1 rfl rfl (vp_in_nI (n := 3) (N := 5) (by decide) (by decide)) dX4_copy_16 rfl ?_
  refine r_aload_n C dX4_copy_17 2 rfl ?_
  refine r_iload_n C dX4_copy_18 0 rfl ?_
  refine r_callV (ci := 2) (wc := [[(pl2, .inr (2, [.ref a2]))], [(a2, .inl (cL, 5, .inr (.inr (.inr (.inr (rfs L2))))))]]) (wr := [letB cI (L 2) (h 2) (v 2) x21 x22 x23 x24 g25, letB cI (L2 2) (h2 2) (v2 2) (lie2 2) (seals2 2) (folds2 2) (n2 2) (f2 2), letB cI (L 1) (h 1) (v 1) x13 x14 x15 x16 g17, letB cI (L2 1) (h2 1) (v2 1) (lie2 1) (seals2 1) (folds2 1) (n2 1) (f2 1), letB cI (L 0) (h 0) (v 0) x5 x6 x7 x8 g9, letB cI (L2 0) (h2 0) (v2 0) (lie2 0) (seals2 0) (folds2 0) (n2 0) (f2 0), letB cI (L2 3) (h2 3) (v2 3) (lie2 3) (seals2 3) (folds2 3) (n2 3) (f2 3), letB cI (L2 4) (h2 4) (v2 4) (lie2 4) (seals2 4) (folds2 4) (n2 4) (f2 4), [(pl, .inr (2, [.ref a]))], [(a, .inl (cL, 5, .inr (.inr (.inr (.inr (rfs L))))))], letB cI (L 3) (h 3) (v 3) (lie 3) (seals 3) (folds 3) (n 3) (f 3), letB cI (L 4) (h 4) (v 4) (lie 4) (seals 4) (folds 4) (n 4) (f 4)]) (st := [.ref (L 3)]) C (m_X4_at l D cI cL cP cJ pl2 a2 L2 3 (P_at_k (k := 3) (by decide))) k_X4_at t_287 [2, 3, 0, 1, 4, 5, 6, 7, 8, 9, 10, 11, 12, 13] (show ([2, 3, 0, 1, 4, 5, 6, 7, 8, 9, 10, 11, 12, 13] : List Nat).Perm (List.range 14) by decide) rfl rfl rfl (q0 := 0) rfl rfl rfl (Nat.le_of_ble_eq_true rfl) ⟨Nat.le_of_ble_eq_true rfl, Nat.le_of_ble_eq_true rfl⟩ ⟨Nat.zero_le _, Nat.zero_le _⟩ dX4_copy_19 (fun r26 wr26 hw26 => ?_)
  obtain ⟨rfl, rfl⟩ := hw26
  refine r_ws (I' := [[(pl2, .inr (2, [.ref a2]))], [(a2, .inl (cL, 5, .inr (.inr (.inr (.inr (rfs L2))))))], letB cI (L 2) (h 2) (v 2) x21 x22 x23 x24 g25, letB cI (L2 2) (h2 2) (v2 2) (lie2 2) (seals2 2) (folds2 2) (n2 2) (f2 2), letB cI (L 1) (h 1) (v 1) x13 x14 x15 x16 g17, letB cI (L2 1) (h2 1) (v2 1) (lie2 1) (seals2 1) (folds2 1) (n2 1) (f2 1), letB cI (L 0) (h 0) (v 0) x5 x6 x7 x8 g9, letB cI (L2 0) (h2 0) (v2 0) (lie2 0) (seals2 0) (folds2 0) (n2 0) (f2 0), letB cI (L2 3) (h2 3) (v2 3) (lie2 3) (seals2 3) (folds2 3) (n2 3) (f2 3), letB cI (L2 4) (h2 4) (v2 4) (lie2 4) (seals2 4) (folds2 4) (n2 4) (f2 4), [(pl, .inr (2, [.ref a]))], [(a, .inl (cL, 5, .inr (.inr (.inr (.inr (rfs L))))))], letB cI (L 3) (h 3) (v 3) (lie 3) (seals 3) (folds 3) (n 3) (f 3), letB cI (L 4) (h 4) (v 4) (lie 4) (seals 4) (folds 4) (n 4) (f 4)]) rfl ?_
  obtain ⟨h27, hp⟩ := hp
  refine r_callV (ci := 1) (wc := [letB cI (L 3) (h 3) (v 3) (lie 3) (seals 3) (folds 3) (n 3) (f 3), letB cI (L2 3) (h2 3) (v2 3) (lie2 3) (seals2 3) (folds2 3) (n2 3) (f2 3)]) (wr := [[(pl2, .inr (2, [.ref a2]))], [(a2, .inl (cL, 5, .inr (.inr (.inr (.inr (rfs L2))))))], letB cI (L 2) (h 2) (v 2) x21 x22 x23 x24 g25, letB cI (L2 2) (h2 2) (v2 2) (lie2 2) (seals2 2) (folds2 2) (n2 2) (f2 2), letB cI (L 1) (h 1) (v 1) x13 x14 x15 x16 g17, letB cI (L2 1) (h2 1) (v2 1) (lie2 1) (seals2 1) (folds2 1) (n2 1) (f2 1), letB cI (L 0) (h 0) (v 0) x5 x6 x7 x8 g9, letB cI (L2 0) (h2 0) (v2 0) (lie2 0) (seals2 0) (folds2 0) (n2 0) (f2 0), letB cI (L2 4) (h2 4) (v2 4) (lie2 4) (seals2 4) (folds2 4) (n2 4) (f2 4), [(pl, .inr (2, [.ref a]))], [(a, .inl (cL, 5, .inr (.inr (.inr (.inr (rfs L))))))], letB cI (L 4) (h 4) (v 4) (lie 4) (seals 4) (folds 4) (n 4) (f 4)]) (st := []) C (m_X2_copy l D cI cL cP cJ (L 3) (h 3) (v 3) (lie 3) (seals 3) (folds 3) (n 3) (f 3) (L2 3) (h2 3) (v2 3) (lie2 3) (seals2 3) (folds2 3) (n2 3) (f2 3) h27) k_X2_copy t_545 [12, 8, 0, 1, 2, 3, 4, 5, 6, 7, 9, 10, 11, 13] (show ([12, 8, 0, 1, 2, 3, 4, 5, 6, 7, 9, 10, 11, 13] : List Nat).Perm (List.range 14) by decide) rfl rfl rfl (q0 := 0) rfl rfl rfl (Nat.le_of_ble_eq_true rfl) ⟨Nat.le_of_ble_eq_true rfl, Nat.le_of_ble_eq_true rfl⟩ ⟨Nat.zero_le _, Nat.zero_le _⟩ dX4_copy_22 (fun r28 wr28 hw28 => ?_)
  obtain rfl := hw28
  obtain ⟨x29, e_x29⟩ : ∃ z : Int32, z = (F_X2_copy (f 3) (lie2 3) (seals2 3) (folds2 3) (n2 3) (f2 3)).1 := ⟨_, rfl⟩
  have hp := hp x29 e_x29
  obtain ⟨x30, e_x30⟩ : ∃ z : Int32, z = (F_X2_copy (f 3) (lie2 3) (seals2 3) (folds2 3) (n2 3) (f2 3)).2.1 := ⟨_, rfl⟩
  have hp := hp x30 e_x30
  obtain ⟨x31, e_x31⟩ : ∃ z : Int32, z = (F_X2_copy (f 3) (lie2 3) (seals2 3) (folds2 3) (n2 3) (f2 3)).2.2.1 := ⟨_, rfl⟩
  have hp := hp x31 e_x31
  obtain ⟨x32, e_x32⟩ : ∃ z : Int32, z = (F_X2_copy (f 3) (lie2 3) (seals2 3) (folds2 3) (n2 3) (f2 3)).2.2.2.1 := ⟨_, rfl⟩
  have hp := hp x32 e_x32
  obtain ⟨g33, e_g33⟩ : ∃ z : Nat → Int32, z = (F_X2_copy (f 3) (lie2 3) (seals2 3) (folds2 3) (n2 3) (f2 3)).2.2.2.2 := ⟨_, rfl⟩
  have hp := hp g33 e_g33
  refine r_ws (I' := [letB cI (L 3) (h 3) (v 3) x29 x30 x31 x32 g33, letB cI (L2 3) (h2 3) (v2 3) (lie2 3) (seals2 3) (folds2 3) (n2 3) (f2 3), [(pl2, .inr (2, [.ref a2]))], [(a2, .inl (cL, 5, .inr (.inr (.inr (.inr (rfs L2))))))], letB cI (L 2) (h 2) (v 2) x21 x22 x23 x24 g25, letB cI (L2 2) (h2 2) (v2 2) (lie2 2) (seals2 2) (folds2 2) (n2 2) (f2 2), letB cI (L 1) (h 1) (v 1) x13 x14 x15 x16 g17, letB cI (L2 1) (h2 1) (v2 1) (lie2 1) (seals2 1) (folds2 1) (n2 1) (f2 1), letB cI (L 0) (h 0) (v 0) x5 x6 x7 x8 g9, letB cI (L2 0) (h2 0) (v2 0) (lie2 0) (seals2 0) (folds2 0) (n2 0) (f2 0), letB cI (L2 4) (h2 4) (v2 4) (lie2 4) (seals2 4) (folds2 4) (n2 4) (f2 4), [(pl, .inr (2, [.ref a]))], [(a, .inl (cL, 5, .inr (.inr (.inr (.inr (rfs L))))))], letB cI (L 4) (h 4) (v 4) (lie 4) (seals 4) (folds 4) (n 4) (f 4)]) (by rw [e_x29, e_x30, e_x31, e_x32, e_g33]; rfl) ?_
  refine r_iinc (v := 4) (L' := [(2, .int 4), (0, .ref pl), (1, .ref pl2)]) C dX4_copy_25 0 rfl (by decide) (by decide) rfl ?_
  refine r_goto (tgt := 2) C dX4_copy_28 (by decide) ?_
  refine r_iload_n C dX4_copy_2 0 rfl ?_
  refine r_aload_n C dX4_copy_3 1 rfl ?_
  refine r_get (Cn := RX4) (T := TX4) (N := 1) C inT4 11 rfl rfl 0 (by decide) t_73 rfl dX4_copy_4 ?_
  refine r_alen (v := 5) C 12 1 rfl rfl rfl dX4_copy_7 ?_
  refine r_icmp_ge (tgt := 31) C dX4_copy_8 (by decide) (fun c => absurd c (by decide)) (fun _ => ?_)
  refine r_aload_n C dX4_copy_11 1 rfl ?_
  refine r_get (Cn := RX4) (T := TX4) (N := 1) C inT4 11 rfl rfl 0 (by decide) t_73 rfl dX4_copy_12 ?_
  refine r_iload_n C dX4_copy_15 0 rfl ?_
  refine r_aald (x := (L 4)) C 12 1 rfl rfl (vp_in_nI (n := 4) (N := 5) (by decide) (by decide)) dX4_copy_16 rfl ?_
  refine r_aload_n C dX4_copy_17 2 rfl ?_
  refine r_iload_n C dX4_copy_18 0 rfl ?_
  refine r_callV (ci := 2) (wc := [[(pl2, .inr (2, [.ref a2]))], [(a2, .inl (cL, 5, .inr (.inr (.inr (.inr (rfs L2))))))]]) (wr := [letB cI (L 3) (h 3) (v 3) x29 x30 x31 x32 g33, letB cI (L2 3) (h2 3) (v2 3) (lie2 3) (seals2 3) (folds2 3) (n2 3) (f2 3), letB cI (L 2) (h 2) (v 2) x21 x22 x23 x24 g25, letB cI (L2 2) (h2 2) (v2 2) (lie2 2) (seals2 2) (folds2 2) (n2 2) (f2 2), letB cI (L 1) (h 1) (v 1) x13 x14 x15 x16 g17, letB cI (L2 1) (h2 1) (v2 1) (lie2 1) (seals2 1) (folds2 1) (n2 1) (f2 1), letB cI (L 0) (h 0) (v 0) x5 x6 x7 x8 g9, letB cI (L2 0) (h2 0) (v2 0) (lie2 0) (seals2 0) (folds2 0) (n2 0) (f2 0), letB cI (L2 4) (h2 4) (v2 4) (lie2 4) (seals2 4) (folds2 4) (n2 4) (f2 4), [(pl, .inr (2, [.ref a]))], [(a, .inl (cL, 5, .inr (.inr (.inr (.inr (rfs L))))))], letB cI (L 4) (h 4) (v 4) (lie 4) (seals 4) (folds 4) (n 4) (f 4)]) (st := [.ref (L 4)]) C (m_X4_at l D cI cL cP cJ pl2 a2 L2 4 (P_at_k (k := 4) (by decide))) k_X4_at t_287 [2, 3, 0, 1, 4, 5, 6, 7, 8, 9, 10, 11, 12, 13] (show ([2, 3, 0, 1, 4, 5, 6, 7, 8, 9, 10, 11, 12, 13] : List Nat).Perm (List.range 14) by decide) rfl rfl rfl (q0 := 0) rfl rfl rfl (Nat.le_of_ble_eq_true rfl) ⟨Nat.le_of_ble_eq_true rfl, Nat.le_of_ble_eq_true rfl⟩ ⟨Nat.zero_le _, Nat.zero_le _⟩ dX4_copy_19 (fun r34 wr34 hw34 => ?_)
  obtain ⟨rfl, rfl⟩ := hw34
  refine r_ws (I' := [[(pl2, .inr (2, [.ref a2]))], [(a2, .inl (cL, 5, .inr (.inr (.inr (.inr (rfs L2))))))], letB cI (L 3) (h 3) (v 3) x29 x30 x31 x32 g33, letB cI (L2 3) (h2 3) (v2 3) (lie2 3) (seals2 3) (folds2 3) (n2 3) (f2 3), letB cI (L 2) (h 2) (v 2) x21 x22 x23 x24 g25, letB cI (L2 2) (h2 2) (v2 2) (lie2 2) (seals2 2) (folds2 2) (n2 2) (f2 2), letB cI (L 1) (h 1) (v 1) x13 x14 x15 x16 g17, letB cI (L2 1) (h2 1) (v2 1) (lie2 1) (seals2 1) (folds2 1) (n2 1) (f2 1), letB cI (L 0) (h 0) (v 0) x5 x6 x7 x8 g9, letB cI (L2 0) (h2 0) (v2 0) (lie2 0) (seals2 0) (folds2 0) (n2 0) (f2 0), letB cI (L2 4) (h2 4) (v2 4) (lie2 4) (seals2 4) (folds2 4) (n2 4) (f2 4), [(pl, .inr (2, [.ref a]))], [(a, .inl (cL, 5, .inr (.inr (.inr (.inr (rfs L))))))], letB cI (L 4) (h 4) (v 4) (lie 4) (seals 4) (folds 4) (n 4) (f 4)]) rfl ?_
  have h35 := hp
  refine r_callV (ci := 1) (wc := [letB cI (L 4) (h 4) (v 4) (lie 4) (seals 4) (folds 4) (n 4) (f 4), letB cI (L2 4) (h2 4) (v2 4) (lie2 4) (seals2 4) (folds2 4) (n2 4) (f2 4)]) (wr := [[(pl2, .inr (2, [.ref a2]))], [(a2, .inl (cL, 5, .inr (.inr (.inr (.inr (rfs L2))))))], letB cI (L 3) (h 3) (v 3) x29 x30 x31 x32 g33, letB cI (L2 3) (h2 3) (v2 3) (lie2 3) (seals2 3) (folds2 3) (n2 3) (f2 3), letB cI (L 2) (h 2) (v 2) x21 x22 x23 x24 g25, letB cI (L2 2) (h2 2) (v2 2) (lie2 2) (seals2 2) (folds2 2) (n2 2) (f2 2), letB cI (L 1) (h 1) (v 1) x13 x14 x15 x16 g17, letB cI (L2 1) (h2 1) (v2 1) (lie2 1) (seals2 1) (folds2 1) (n2 1) (f2 1), letB cI (L 0) (h 0) (v 0) x5 x6 x7 x8 g9, letB cI (L2 0) (h2 0) (v2 0) (lie2 0) (seals2 0) (folds2 0) (n2 0) (f2 0), [(pl, .inr (2, [.ref a]))], [(a, .inl (cL, 5, .inr (.inr (.inr (.inr (rfs L))))))]]) (st := []) C (m_X2_copy l D cI cL cP cJ (L 4) (h 4) (v 4) (lie 4) (seals 4) (folds 4) (n 4) (f 4) (L2 4) (h2 4) (v2 4) (lie2 4) (seals2 4) (folds2 4) (n2 4) (f2 4) h35) k_X2_copy t_545 [13, 10, 0, 1, 2, 3, 4, 5, 6, 7, 8, 9, 11, 12] (show ([13, 10, 0, 1, 2, 3, 4, 5, 6, 7, 8, 9, 11, 12] : List Nat).Perm (List.range 14) by decide) rfl rfl rfl (q0 := 0) rfl rfl rfl (Nat.le_of_ble_eq_true rfl) ⟨Nat.le_of_ble_eq_true rfl, Nat.le_of_ble_eq_true rfl⟩ ⟨Nat.zero_le _, Nat.zero_le _⟩ dX4_copy_22 (fun r36 wr36 hw36 => ?_)
  obtain rfl := hw36
  obtain ⟨x37, e_x37⟩ : ∃ z : Int32, z = (F_X2_copy (f 4) (lie2 4) (seals2 4) (folds2 4) (n2 4) (f2 4)).1 := ⟨_, rfl⟩
  obtain ⟨x38, e_x38⟩ : ∃ z : Int32, z = (F_X2_copy (f 4) (lie2 4) (seals2 4) (folds2 4) (n2 4) (f2 4)).2.1 := ⟨_, rfl⟩
  obtain ⟨x39, e_x39⟩ : ∃ z : Int32, z = (F_X2_copy (f 4) (lie2 4) (seals2 4) (folds2 4) (n2 4) (f2 4)).2.2.1 := ⟨_, rfl⟩
  obtain ⟨x40, e_x40⟩ : ∃ z : Int32, z = (F_X2_copy (f 4) (lie2 4) (seals2 4) (folds2 4) (n2 4) (f2 4)).2.2.2.1 := ⟨_, rfl⟩
  obtain ⟨g41, e_g41⟩ : ∃ z : Nat → Int32, z = (F_X2_copy (f 4) (lie2 4) (seals2 4) (folds2 4) (n2 4) (f2 4)).2.2.2.2 := ⟨_, rfl⟩
  refine r_ws (I' := [letB cI (L 4) (h 4) (v 4) x37 x38 x39 x40 g41, letB cI (L2 4) (h2 4) (v2 4) (lie2 4) (seals2 4) (folds2 4) (n2 4) (f2 4), [(pl2, .inr (2, [.ref a2]))], [(a2, .inl (cL, 5, .inr (.inr (.inr (.inr (rfs L2))))))], letB cI (L 3) (h 3) (v 3) x29 x30 x31 x32 g33, letB cI (L2 3) (h2 3) (v2 3) (lie2 3) (seals2 3) (folds2 3) (n2 3) (f2 3), letB cI (L 2) (h 2) (v 2) x21 x22 x23 x24 g25, letB cI (L2 2) (h2 2) (v2 2) (lie2 2) (seals2 2) (folds2 2) (n2 2) (f2 2), letB cI (L 1) (h 1) (v 1) x13 x14 x15 x16 g17, letB cI (L2 1) (h2 1) (v2 1) (lie2 1) (seals2 1) (folds2 1) (n2 1) (f2 1), letB cI (L 0) (h 0) (v 0) x5 x6 x7 x8 g9, letB cI (L2 0) (h2 0) (v2 0) (lie2 0) (seals2 0) (folds2 0) (n2 0) (f2 0), [(pl, .inr (2, [.ref a]))], [(a, .inl (cL, 5, .inr (.inr (.inr (.inr (rfs L))))))]]) (by rw [e_x37, e_x38, e_x39, e_x40, e_g41]; rfl) ?_
  refine r_iinc (v := 5) (L' := [(2, .int 5), (0, .ref pl), (1, .ref pl2)]) C dX4_copy_25 0 rfl (by decide) (by decide) rfl ?_
  refine r_goto (tgt := 2) C dX4_copy_28 (by decide) ?_
  refine r_iload_n C dX4_copy_2 0 rfl ?_
  refine r_aload_n C dX4_copy_3 1 rfl ?_
  refine r_get (Cn := RX4) (T := TX4) (N := 1) C inT4 12 rfl rfl 0 (by decide) t_73 rfl dX4_copy_4 ?_
  refine r_alen (v := 5) C 13 1 rfl rfl rfl dX4_copy_7 ?_
  refine r_icmp_ge (tgt := 31) C dX4_copy_8 (by decide) (fun _ => ?_) (fun c => absurd c (by decide))
  refine r_pl (I' := [[(pl, .inr (2, [.ref a]))], [(a, .inl (cL, 5, .inr (.inr (.inr (.inr (rfs L))))))], letB cI (L 0) (h 0) (v 0) x5 x6 x7 x8 g9, letB cI (L 1) (h 1) (v 1) x13 x14 x15 x16 g17, letB cI (L 2) (h 2) (v 2) x21 x22 x23 x24 g25, letB cI (L 3) (h 3) (v 3) x29 x30 x31 x32 g33, letB cI (L 4) (h 4) (v 4) x37 x38 x39 x40 g41, letB cI (L2 4) (h2 4) (v2 4) (lie2 4) (seals2 4) (folds2 4) (n2 4) (f2 4), [(pl2, .inr (2, [.ref a2]))], [(a2, .inl (cL, 5, .inr (.inr (.inr (.inr (rfs L2))))))], letB cI (L2 3) (h2 3) (v2 3) (lie2 3) (seals2 3) (folds2 3) (n2 3) (f2 3), letB cI (L2 2) (h2 2) (v2 2) (lie2 2) (seals2 2) (folds2 2) (n2 2) (f2 2), letB cI (L2 1) (h2 1) (v2 1) (lie2 1) (seals2 1) (folds2 1) (n2 1) (f2 1), letB cI (L2 0) (h2 0) (v2 0) (lie2 0) (seals2 0) (folds2 0) (n2 0) (f2 0)]) [12, 13, 10, 8, 6, 4, 0, 1, 2, 3, 5, 7, 9, 11] (show ([12, 13, 10, 8, 6, 4, 0, 1, 2, 3, 5, 7, 9, 11] : List Nat).Perm (List.range 14) by decide) rfl ?_
  refine r_ws (I' := [pileB cI cL pl a L h v (fn5 x5 x13 x21 x29 x37) (fn5 x6 x14 x22 x30 x38) (fn5 x7 x15 x23 x31 x39) (fn5 x8 x16 x24 x32 x40) (fn5 g9 g17 g25 g33 g41), letB cI (L2 4) (h2 4) (v2 4) (lie2 4) (seals2 4) (folds2 4) (n2 4) (f2 4), [(pl2, .inr (2, [.ref a2]))], [(a2, .inl (cL, 5, .inr (.inr (.inr (.inr (rfs L2))))))], letB cI (L2 3) (h2 3) (v2 3) (lie2 3) (seals2 3) (folds2 3) (n2 3) (f2 3), letB cI (L2 2) (h2 2) (v2 2) (lie2 2) (seals2 2) (folds2 2) (n2 2) (f2 2), letB cI (L2 1) (h2 1) (v2 1) (lie2 1) (seals2 1) (folds2 1) (n2 1) (f2 1), letB cI (L2 0) (h2 0) (v2 0) (lie2 0) (seals2 0) (folds2 0) (n2 0) (f2 0)]) rfl ?_
  refine r_pl (I' := [[(pl2, .inr (2, [.ref a2]))], [(a2, .inl (cL, 5, .inr (.inr (.inr (.inr (rfs L2))))))], letB cI (L2 0) (h2 0) (v2 0) (lie2 0) (seals2 0) (folds2 0) (n2 0) (f2 0), letB cI (L2 1) (h2 1) (v2 1) (lie2 1) (seals2 1) (folds2 1) (n2 1) (f2 1), letB cI (L2 2) (h2 2) (v2 2) (lie2 2) (seals2 2) (folds2 2) (n2 2) (f2 2), letB cI (L2 3) (h2 3) (v2 3) (lie2 3) (seals2 3) (folds2 3) (n2 3) (f2 3), letB cI (L2 4) (h2 4) (v2 4) (lie2 4) (seals2 4) (folds2 4) (n2 4) (f2 4), pileB cI cL pl a L h v (fn5 x5 x13 x21 x29 x37) (fn5 x6 x14 x22 x30 x38) (fn5 x7 x15 x23 x31 x39) (fn5 x8 x16 x24 x32 x40) (fn5 g9 g17 g25 g33 g41)]) [2, 3, 7, 6, 5, 4, 1, 0] (show ([2, 3, 7, 6, 5, 4, 1, 0] : List Nat).Perm (List.range 8) by decide) rfl ?_
  refine r_ws (I' := [pileB cI cL pl2 a2 L2 h2 v2 lie2 seals2 folds2 n2 f2, pileB cI cL pl a L h v (fn5 x5 x13 x21 x29 x37) (fn5 x6 x14 x22 x30 x38) (fn5 x7 x15 x23 x31 x39) (fn5 x8 x16 x24 x32 x40) (fn5 g9 g17 g25 g33 g41)]) rfl ?_
  refine r_pl (I' := [pileB cI cL pl a L h v (fn5 x5 x13 x21 x29 x37) (fn5 x6 x14 x22 x30 x38) (fn5 x7 x15 x23 x31 x39) (fn5 x8 x16 x24 x32 x40) (fn5 g9 g17 g25 g33 g41), pileB cI cL pl2 a2 L2 h2 v2 lie2 seals2 folds2 n2 f2]) [1, 0] (show ([1, 0] : List Nat).Perm (List.range 2) by decide) rfl ?_
  have eF : F_X4_copy f lie2 seals2 folds2 n2 f2 = ((fn5 x5 x13 x21 x29 x37), (fn5 x6 x14 x22 x30 x38), (fn5 x7 x15 x23 x31 x39), (fn5 x8 x16 x24 x32 x40), (fn5 g9 g17 g25 g33 g41)) := by have q := e_x5.symm; subst q; have q := e_x6.symm; subst q; have q := e_x7.symm; subst q; have q := e_x8.symm; subst q; have q := e_g9.symm; subst q; have q := e_x13.symm; subst q; have q := e_x14.symm; subst q; have q := e_x15.symm; subst q; have q := e_x16.symm; subst q; have q := e_g17.symm; subst q; have q := e_x21.symm; subst q; have q := e_x22.symm; subst q; have q := e_x23.symm; subst q; have q := e_x24.symm; subst q; have q := e_g25.symm; subst q; have q := e_x29.symm; subst q; have q := e_x30.symm; subst q; have q := e_x31.symm; subst q; have q := e_x32.symm; subst q; have q := e_g33.symm; subst q; have q := e_x37.symm; subst q; have q := e_x38.symm; subst q; have q := e_x39.symm; subst q; have q := e_x40.symm; subst q; have q := e_g41.symm; subst q; rfl
  exact r_vret (r := ()) C hA hr hlo dX4_copy_31 [pileB cI cL pl a L h v (fn5 x5 x13 x21 x29 x37) (fn5 x6 x14 x22 x30 x38) (fn5 x7 x15 x23 x31 x39) (fn5 x8 x16 x24 x32 x40) (fn5 g9 g17 g25 g33 g41), pileB cI cL pl2 a2 L2 h2 v2 lie2 seals2 folds2 n2 f2] (by simp only [eF]) rfl hQ
theorem k_X4_together : kV yX4_together cX4_together 4 (some .int) 1 := ⟨t_186, t_187, t_8, t_188, by decide +kernel, by decide +kernel, by decide +kernel⟩
set_option maxRecDepth 20000 in
def F_X4_together (lie : Nat → Int32) (seals : Nat → Int32) (folds : Nat → Int32) (n : Nat → Int32) (what : Int32) : Int32 := let r2 : Int32 := F_X2_number (lie 0) (seals 0) (folds 0) (n 0) what; let x3 : Int32 := (0 : Int32) + r2; let r5 : Int32 := F_X2_number (lie 1) (seals 1) (folds 1) (n 1) what; let x6 : Int32 := x3 + r5; let r8 : Int32 := F_X2_number (lie 2) (seals 2) (folds 2) (n 2) what; let x9 : Int32 := x6 + r8; let r11 : Int32 := F_X2_number (lie 3) (seals 3) (folds 3) (n 3) what; let x12 : Int32 := x9 + r11; let r14 : Int32 := F_X2_number (lie 4) (seals 4) (folds 4) (n 4) what; let x15 : Int32 := x12 + r14; x15
set_option maxRecDepth 20000 in
def P_X4_together (lie : Nat → Int32) (seals : Nat → Int32) (folds : Nat → Int32) (n : Nat → Int32) (what : Int32) : Prop := ((P_X2_number (lie 0) what) ∧ (∀ r2 : Int32, r2 = F_X2_number (lie 0) (seals 0) (folds 0) (n 0) what → (∀ x3 : Int32, x3 = (0 : Int32) + r2 → ((P_X2_number (lie 1) what) ∧ (∀ r5 : Int32, r5 = F_X2_number (lie 1) (seals 1) (folds 1) (n 1) what → (∀ x6 : Int32, x6 = x3 + r5 → ((P_X2_number (lie 2) what) ∧ (∀ r8 : Int32, r8 = F_X2_number (lie 2) (seals 2) (folds 2) (n 2) what → (∀ x9 : Int32, x9 = x6 + r8 → ((P_X2_number (lie 3) what) ∧ (∀ r11 : Int32, r11 = F_X2_number (lie 3) (seals 3) (folds 3) (n 3) what → (∀ x12 : Int32, x12 = x9 + r11 → (P_X2_number (lie 4) what)))))))))))))
set_option maxRecDepth 20000 in
set_option maxHeartbeats 8000000 in
theorem m_X4_together (l : Launch) (D : va_G) (cI cL cP cJ : ClassId) (pl : Nat) (a : Nat) (L : Nat → Nat) (h : Nat → Nat) (v : Nat → Nat) (lie : Nat → Int32) (seals : Nat → Int32) (folds : Nat → Int32) (n : Nat → Int32) (f : Nat → Nat → Int32) (what : Int32) (hp : P_X4_together lie seals folds n what) : M vI l yX4_together cX4_together 4 (some .int) 5 108 D (tyF cI cL cP cJ) [.ref pl, .int what] [pileB cI cL pl a L h v lie seals folds n f] (fun (r : Int32) (w1 : List va_W) => r = (F_X4_together lie seals folds n what) ∧ w1 = [pileB cI cL pl a L h v lie seals folds n f]) := by
  unfold P_X4_together at hp
  refine m_start (by decide +kernel) (Nat.le_of_ble_eq_true rfl) (fun p e s m args below meth c A Q hA hQ C hr hlo => ?_)
  refine r_Le (L' := [(0, .ref pl), (1, .int what)]) rfl ?_
  refine r_iconst (v := 0) C dX4_together_0 (by decide) ?_
  refine r_istore_n (L' := [(2, .int 0), (0, .ref pl), (1, .int what)]) C dX4_together_1 (by decide) rfl ?_
  refine r_iconst (v := 0) C dX4_together_2 (by decide) ?_
  refine r_istore_n (L' := [(3, .int 0), (2, .int 0), (0, .ref pl), (1, .int what)]) C dX4_together_3 (by decide) rfl ?_
  refine r_iload_n C dX4_together_4 0 rfl ?_
  refine r_aload_n C dX4_together_5 2 rfl ?_
  refine r_ws (I' := [[(pl, .inr (2, [.ref a]))], [(a, .inl (cL, 5, .inr (.inr (.inr (.inr (rfs L))))))], letB cI (L 0) (h 0) (v 0) (lie 0) (seals 0) (folds 0) (n 0) (f 0), letB cI (L 1) (h 1) (v 1) (lie 1) (seals 1) (folds 1) (n 1) (f 1), letB cI (L 2) (h 2) (v 2) (lie 2) (seals 2) (folds 2) (n 2) (f 2), letB cI (L 3) (h 3) (v 3) (lie 3) (seals 3) (folds 3) (n 3) (f 3), letB cI (L 4) (h 4) (v 4) (lie 4) (seals 4) (folds 4) (n 4) (f 4)]) rfl ?_
  refine r_get (Cn := RX4) (T := TX4) (N := 1) C inT4 0 rfl rfl 0 (by decide) t_73 rfl dX4_together_6 ?_
  refine r_alen (v := 5) C 1 1 rfl rfl rfl dX4_together_9 ?_
  refine r_icmp_ge (tgt := 32) C dX4_together_10 (by decide) (fun c => absurd c (by decide)) (fun _ => ?_)
  refine r_iload_n C dX4_together_13 1 rfl ?_
  refine r_aload_n C dX4_together_14 2 rfl ?_
  refine r_get (Cn := RX4) (T := TX4) (N := 1) C inT4 0 rfl rfl 0 (by decide) t_73 rfl dX4_together_15 ?_
  refine r_iload_n C dX4_together_18 0 rfl ?_
  refine r_aald (x := (L 0)) C 1 1 rfl rfl (vp_in_nI (n := 0) (N := 5) (by decide) (by decide)) dX4_together_19 rfl ?_
  refine r_iload_n C dX4_together_20 3 rfl ?_
  obtain ⟨h1, hp⟩ := hp
  refine r_callV (ci := 1) (wc := [letB cI (L 0) (h 0) (v 0) (lie 0) (seals 0) (folds 0) (n 0) (f 0)]) (wr := [[(pl, .inr (2, [.ref a]))], [(a, .inl (cL, 5, .inr (.inr (.inr (.inr (rfs L))))))], letB cI (L 1) (h 1) (v 1) (lie 1) (seals 1) (folds 1) (n 1) (f 1), letB cI (L 2) (h 2) (v 2) (lie 2) (seals 2) (folds 2) (n 2) (f 2), letB cI (L 3) (h 3) (v 3) (lie 3) (seals 3) (folds 3) (n 3) (f 3), letB cI (L 4) (h 4) (v 4) (lie 4) (seals 4) (folds 4) (n 4) (f 4)]) (st := [.int 0]) C (m_X2_number l D cI cL cP cJ (L 0) (h 0) (v 0) (lie 0) (seals 0) (folds 0) (n 0) (f 0) what h1) k_X2_number t_189 [2, 0, 1, 3, 4, 5, 6] (show ([2, 0, 1, 3, 4, 5, 6] : List Nat).Perm (List.range 7) by decide) rfl rfl rfl (q0 := 0) rfl rfl rfl (Nat.le_of_ble_eq_true rfl) ⟨Nat.le_of_ble_eq_true rfl, Nat.le_of_ble_eq_true rfl⟩ ⟨Nat.zero_le _, Nat.zero_le _⟩ dX4_together_21 (fun r2 wr2 hw2 => ?_)
  obtain ⟨e_r2, rfl⟩ := hw2
  have hp := hp r2 e_r2
  refine r_ws (I' := [letB cI (L 0) (h 0) (v 0) (lie 0) (seals 0) (folds 0) (n 0) (f 0), [(pl, .inr (2, [.ref a]))], [(a, .inl (cL, 5, .inr (.inr (.inr (.inr (rfs L))))))], letB cI (L 1) (h 1) (v 1) (lie 1) (seals 1) (folds 1) (n 1) (f 1), letB cI (L 2) (h 2) (v 2) (lie 2) (seals 2) (folds 2) (n 2) (f 2), letB cI (L 3) (h 3) (v 3) (lie 3) (seals 3) (folds 3) (n 3) (f 3), letB cI (L 4) (h 4) (v 4) (lie 4) (seals 4) (folds 4) (n 4) (f 4)]) rfl ?_
  refine r_iadd C dX4_together_24 rfl ?_
  refine r_top (fun x3 e_x3 => ?_)
  have hp := hp x3 e_x3
  refine r_istore_n (L' := [(2, .int x3), (3, .int 0), (0, .ref pl), (1, .int what)]) C dX4_together_25 (by decide) rfl ?_
  refine r_iinc (v := 1) (L' := [(3, .int 1), (2, .int x3), (0, .ref pl), (1, .int what)]) C dX4_together_26 1 rfl (by decide) (by decide) rfl ?_
  refine r_goto (tgt := 4) C dX4_together_29 (by decide) ?_
  refine r_iload_n C dX4_together_4 0 rfl ?_
  refine r_aload_n C dX4_together_5 2 rfl ?_
  refine r_get (Cn := RX4) (T := TX4) (N := 1) C inT4 1 rfl rfl 0 (by decide) t_73 rfl dX4_together_6 ?_
  refine r_alen (v := 5) C 2 1 rfl rfl rfl dX4_together_9 ?_
  refine r_icmp_ge (tgt := 32) C dX4_together_10 (by decide) (fun c => absurd c (by decide)) (fun _ => ?_)
  refine r_iload_n C dX4_together_13 1 rfl ?_
  refine r_aload_n C dX4_together_14 2 rfl ?_
  refine r_get (Cn := RX4) (T := TX4) (N := 1) C inT4 1 rfl rfl 0 (by decide) t_73 rfl dX4_together_15 ?_
  refine r_iload_n C dX4_together_18 0 rfl ?_
  refine r_aald (x := (L 1)) C 2 1 rfl rfl (vp_in_nI (n := 1) (N := 5) (by decide) (by decide)) dX4_together_19 rfl ?_
  refine r_iload_n C dX4_together_20 3 rfl ?_
  obtain ⟨h4, hp⟩ := hp
  refine r_callV (ci := 1) (wc := [letB cI (L 1) (h 1) (v 1) (lie 1) (seals 1) (folds 1) (n 1) (f 1)]) (wr := [letB cI (L 0) (h 0) (v 0) (lie 0) (seals 0) (folds 0) (n 0) (f 0), [(pl, .inr (2, [.ref a]))], [(a, .inl (cL, 5, .inr (.inr (.inr (.inr (rfs L))))))], letB cI (L 2) (h 2) (v 2) (lie 2) (seals 2) (folds 2) (n 2) (f 2), letB cI (L 3) (h 3) (v 3) (lie 3) (seals 3) (folds 3) (n 3) (f 3), letB cI (L 4) (h 4) (v 4) (lie 4) (seals 4) (folds 4) (n 4) (f 4)]) (st := [.int x3]) C (m_X2_number l D cI cL cP cJ (L 1) (h 1) (v 1) (lie 1) (seals 1) (folds 1) (n 1) (f 1) what h4) k_X2_number t_189 [3, 0, 1, 2, 4, 5, 6] (show ([3, 0, 1, 2, 4, 5, 6] : List Nat).Perm (List.range 7) by decide) rfl rfl rfl (q0 := 0) rfl rfl rfl (Nat.le_of_ble_eq_true rfl) ⟨Nat.le_of_ble_eq_true rfl, Nat.le_of_ble_eq_true rfl⟩ ⟨Nat.zero_le _, Nat.zero_le _⟩ dX4_together_21 (fun r5 wr5 hw5 => ?_)
  obtain ⟨e_r5, rfl⟩ := hw5
  have hp := hp r5 e_r5
  refine r_ws (I' := [letB cI (L 1) (h 1) (v 1) (lie 1) (seals 1) (folds 1) (n 1) (f 1), letB cI (L 0) (h 0) (v 0) (lie 0) (seals 0) (folds 0) (n 0) (f 0), [(pl, .inr (2, [.ref a]))], [(a, .inl (cL, 5, .inr (.inr (.inr (.inr (rfs L))))))], letB cI (L 2) (h 2) (v 2) (lie 2) (seals 2) (folds 2) (n 2) (f 2), letB cI (L 3) (h 3) (v 3) (lie 3) (seals 3) (folds 3) (n 3) (f 3), letB cI (L 4) (h 4) (v 4) (lie 4) (seals 4) (folds 4) (n 4) (f 4)]) rfl ?_
  refine r_iadd C dX4_together_24 rfl ?_
  refine r_top (fun x6 e_x6 => ?_)
  have hp := hp x6 e_x6
  refine r_istore_n (L' := [(2, .int x6), (3, .int 1), (0, .ref pl), (1, .int what)]) C dX4_together_25 (by decide) rfl ?_
  refine r_iinc (v := 2) (L' := [(3, .int 2), (2, .int x6), (0, .ref pl), (1, .int what)]) C dX4_together_26 1 rfl (by decide) (by decide) rfl ?_
  refine r_goto (tgt := 4) C dX4_together_29 (by decide) ?_
  refine r_iload_n C dX4_together_4 0 rfl ?_
  refine r_aload_n C dX4_together_5 2 rfl ?_
  refine r_get (Cn := RX4) (T := TX4) (N := 1) C inT4 2 rfl rfl 0 (by decide) t_73 rfl dX4_together_6 ?_
  refine r_alen (v := 5) C 3 1 rfl rfl rfl dX4_together_9 ?_
  refine r_icmp_ge (tgt := 32) C dX4_together_10 (by decide) (fun c => absurd c (by decide)) (fun _ => ?_)
  refine r_iload_n C dX4_together_13 1 rfl ?_
  refine r_aload_n C dX4_together_14 2 rfl ?_
  refine r_get (Cn := RX4) (T := TX4) (N := 1) C inT4 2 rfl rfl 0 (by decide) t_73 rfl dX4_together_15 ?_
  refine r_iload_n C dX4_together_18 0 rfl ?_
  refine r_aald (x := (L 2)) C 3 1 rfl rfl (vp_in_nI (n := 2) (N := 5) (by decide) (by decide)) dX4_together_19 rfl ?_
  refine r_iload_n C dX4_together_20 3 rfl ?_
  obtain ⟨h7, hp⟩ := hp
  refine r_callV (ci := 1) (wc := [letB cI (L 2) (h 2) (v 2) (lie 2) (seals 2) (folds 2) (n 2) (f 2)]) (wr := [letB cI (L 1) (h 1) (v 1) (lie 1) (seals 1) (folds 1) (n 1) (f 1), letB cI (L 0) (h 0) (v 0) (lie 0) (seals 0) (folds 0) (n 0) (f 0), [(pl, .inr (2, [.ref a]))], [(a, .inl (cL, 5, .inr (.inr (.inr (.inr (rfs L))))))], letB cI (L 3) (h 3) (v 3) (lie 3) (seals 3) (folds 3) (n 3) (f 3), letB cI (L 4) (h 4) (v 4) (lie 4) (seals 4) (folds 4) (n 4) (f 4)]) (st := [.int x6]) C (m_X2_number l D cI cL cP cJ (L 2) (h 2) (v 2) (lie 2) (seals 2) (folds 2) (n 2) (f 2) what h7) k_X2_number t_189 [4, 0, 1, 2, 3, 5, 6] (show ([4, 0, 1, 2, 3, 5, 6] : List Nat).Perm (List.range 7) by decide) rfl rfl rfl (q0 := 0) rfl rfl rfl (Nat.le_of_ble_eq_true rfl) ⟨Nat.le_of_ble_eq_true rfl, Nat.le_of_ble_eq_true rfl⟩ ⟨Nat.zero_le _, Nat.zero_le _⟩ dX4_together_21 (fun r8 wr8 hw8 => ?_)
  obtain ⟨e_r8, rfl⟩ := hw8
  have hp := hp r8 e_r8
  refine r_ws (I' := [letB cI (L 2) (h 2) (v 2) (lie 2) (seals 2) (folds 2) (n 2) (f 2), letB cI (L 1) (h 1) (v 1) (lie 1) (seals 1) (folds 1) (n 1) (f 1), letB cI (L 0) (h 0) (v 0) (lie 0) (seals 0) (folds 0) (n 0) (f 0), [(pl, .inr (2, [.ref a]))], [(a, .inl (cL, 5, .inr (.inr (.inr (.inr (rfs L))))))], letB cI (L 3) (h 3) (v 3) (lie 3) (seals 3) (folds 3) (n 3) (f 3), letB cI (L 4) (h 4) (v 4) (lie 4) (seals 4) (folds 4) (n 4) (f 4)]) rfl ?_
  refine r_iadd C dX4_together_24 rfl ?_
  refine r_top (fun x9 e_x9 => ?_)
  have hp := hp x9 e_x9
  refine r_istore_n (L' := [(2, .int x9), (3, .int 2), (0, .ref pl), (1, .int what)]) C dX4_together_25 (by decide) rfl ?_
  refine r_iinc (v := 3) (L' := [(3, .int 3), (2, .int x9), (0, .ref pl), (1, .int what)]) C dX4_together_26 1 rfl (by decide) (by decide) rfl ?_
  refine r_goto (tgt := 4) C dX4_together_29 (by decide) ?_
  refine r_iload_n C dX4_together_4 0 rfl ?_
  refine r_aload_n C dX4_together_5 2 rfl ?_
  refine r_get (Cn := RX4) (T := TX4) (N := 1) C inT4 3 rfl rfl 0 (by decide) t_73 rfl dX4_together_6 ?_
  refine r_alen (v := 5) C 4 1 rfl rfl rfl dX4_together_9 ?_
  refine r_icmp_ge (tgt := 32) C dX4_together_10 (by decide) (fun c => absurd c (by decide)) (fun _ => ?_)
  refine r_iload_n C dX4_together_13 1 rfl ?_
  refine r_aload_n C dX4_together_14 2 rfl ?_
  refine r_get (Cn := RX4) (T := TX4) (N := 1) C inT4 3 rfl rfl 0 (by decide) t_73 rfl dX4_together_15 ?_
  refine r_iload_n C dX4_together_18 0 rfl ?_
  refine r_aald (x := (L 3)) C 4 1 rfl rfl (vp_in_nI (n := 3) (N := 5) (by decide) (by decide)) dX4_together_19 rfl ?_
  refine r_iload_n C dX4_together_20 3 rfl ?_
  obtain ⟨h10, hp⟩ := hp
  refine r_callV (ci := 1) (wc := [letB cI (L 3) (h 3) (v 3) (lie 3) (seals 3) (folds 3) (n 3) (f 3)]) (wr := [letB cI (L 2) (h 2) (v 2) (lie 2) (seals 2) (folds 2) (n 2) (f 2), letB cI (L 1) (h 1) (v 1) (lie 1) (seals 1) (folds 1) (n 1) (f 1), letB cI (L 0) (h 0) (v 0) (lie 0) (seals 0) (folds 0) (n 0) (f 0), [(pl, .inr (2, [.ref a]))], [(a, .inl (cL, 5, .inr (.inr (.inr (.inr (rfs L))))))], letB cI (L 4) (h 4) (v 4) (lie 4) (seals 4) (folds 4) (n 4) (f 4)]) (st := [.int x9]) C (m_X2_number l D cI cL cP cJ (L 3) (h 3) (v 3) (lie 3) (seals 3) (folds 3) (n 3) (f 3) what h10) k_X2_number t_189 [5, 0, 1, 2, 3, 4, 6] (show ([5, 0, 1, 2, 3, 4, 6] : List Nat).Perm (List.range 7) by decide) rfl rfl rfl (q0 := 0) rfl rfl rfl (Nat.le_of_ble_eq_true rfl) ⟨Nat.le_of_ble_eq_true rfl, Nat.le_of_ble_eq_true rfl⟩ ⟨Nat.zero_le _, Nat.zero_le _⟩ dX4_together_21 (fun r11 wr11 hw11 => ?_)
  obtain ⟨e_r11, rfl⟩ := hw11
  have hp := hp r11 e_r11
  refine r_ws (I' := [letB cI (L 3) (h 3) (v 3) (lie 3) (seals 3) (folds 3) (n 3) (f 3), letB cI (L 2) (h 2) (v 2) (lie 2) (seals 2) (folds 2) (n 2) (f 2), letB cI (L 1) (h 1) (v 1) (lie 1) (seals 1) (folds 1) (n 1) (f 1), letB cI (L 0) (h 0) (v 0) (lie 0) (seals 0) (folds 0) (n 0) (f 0), [(pl, .inr (2, [.ref a]))], [(a, .inl (cL, 5, .inr (.inr (.inr (.inr (rfs L))))))], letB cI (L 4) (h 4) (v 4) (lie 4) (seals 4) (folds 4) (n 4) (f 4)]) rfl ?_
  refine r_iadd C dX4_together_24 rfl ?_
  refine r_top (fun x12 e_x12 => ?_)
  have hp := hp x12 e_x12
  refine r_istore_n (L' := [(2, .int x12), (3, .int 3), (0, .ref pl), (1, .int what)]) C dX4_together_25 (by decide) rfl ?_
  refine r_iinc (v := 4) (L' := [(3, .int 4), (2, .int x12), (0, .ref pl), (1, .int what)]) C dX4_together_26 1 rfl (by decide) (by decide) rfl ?_
  refine r_goto (tgt := 4) C dX4_together_29 (by decide) ?_
  refine r_iload_n C dX4_together_4 0 rfl ?_
  refine r_aload_n C dX4_together_5 2 rfl ?_
  refine r_get (Cn := RX4) (T := TX4) (N := 1) C inT4 4 rfl rfl 0 (by decide) t_73 rfl dX4_together_6 ?_
  refine r_alen (v := 5) C 5 1 rfl rfl rfl dX4_together_9 ?_
  refine r_icmp_ge (tgt := 32) C dX4_together_10 (by decide) (fun c => absurd c (by decide)) (fun _ => ?_)
  refine r_iload_n C dX4_together_13 1 rfl ?_
  refine r_aload_n C dX4_together_14 2 rfl ?_
  refine r_get (Cn := RX4) (T := TX4) (N := 1) C inT4 4 rfl rfl 0 (by decide) t_73 rfl dX4_together_15 ?_
  refine r_iload_n C dX4_together_18 0 rfl ?_
  refine r_aald (x := (L 4)) C 5 1 rfl rfl (vp_in_nI (n := 4) (N := 5) (by decide) (by decide)) dX4_together_19 rfl ?_
  refine r_iload_n C dX4_together_20 3 rfl ?_
  have h13 := hp
  refine r_callV (ci := 1) (wc := [letB cI (L 4) (h 4) (v 4) (lie 4) (seals 4) (folds 4) (n 4) (f 4)]) (wr := [letB cI (L 3) (h 3) (v 3) (lie 3) (seals 3) (folds 3) (n 3) (f 3), letB cI (L 2) (h 2) (v 2) (lie 2) (seals 2) (folds 2) (n 2) (f 2), letB cI (L 1) (h 1) (v 1) (lie 1) (seals 1) (folds 1) (n 1) (f 1), letB cI (L 0) (h 0) (v 0) (lie 0) (seals 0) (folds 0) (n 0) (f 0), [(pl, .inr (2, [.ref a]))], [(a, .inl (cL, 5, .inr (.inr (.inr (.inr (rfs L))))))]]) (st := [.int x12]) C (m_X2_number l D cI cL cP cJ (L 4) (h 4) (v 4) (lie 4) (seals 4) (folds 4) (n 4) (f 4) what h13) k_X2_number t_189 [6, 0, 1, 2, 3, 4, 5] (show ([6, 0, 1, 2, 3, 4, 5] : List Nat).Perm (List.range 7) by decide) rfl rfl rfl (q0 := 0) rfl rfl rfl (Nat.le_of_ble_eq_true rfl) ⟨Nat.le_of_ble_eq_true rfl, Nat.le_of_ble_eq_true rfl⟩ ⟨Nat.zero_le _, Nat.zero_le _⟩ dX4_together_21 (fun r14 wr14 hw14 => ?_)
  obtain ⟨e_r14, rfl⟩ := hw14
  refine r_ws (I' := [letB cI (L 4) (h 4) (v 4) (lie 4) (seals 4) (folds 4) (n 4) (f 4), letB cI (L 3) (h 3) (v 3) (lie 3) (seals 3) (folds 3) (n 3) (f 3), letB cI (L 2) (h 2) (v 2) (lie 2) (seals 2) (folds 2) (n 2) (f 2), letB cI (L 1) (h 1) (v 1) (lie 1) (seals 1) (folds 1) (n 1) (f 1), letB cI (L 0) (h 0) (v 0) (lie 0) (seals 0) (folds 0) (n 0) (f 0), [(pl, .inr (2, [.ref a]))], [(a, .inl (cL, 5, .inr (.inr (.inr (.inr (rfs L))))))]]) rfl ?_
  refine r_iadd C dX4_together_24 rfl ?_
  refine r_top (fun x15 e_x15 => ?_)
  refine r_istore_n (L' := [(2, .int x15), (3, .int 4), (0, .ref pl), (1, .int what)]) C dX4_together_25 (by decide) rfl ?_
  refine r_iinc (v := 5) (L' := [(3, .int 5), (2, .int x15), (0, .ref pl), (1, .int what)]) C dX4_together_26 1 rfl (by decide) (by decide) rfl ?_
  refine r_goto (tgt := 4) C dX4_together_29 (by decide) ?_
  refine r_iload_n C dX4_together_4 0 rfl ?_
  refine r_aload_n C dX4_together_5 2 rfl ?_
  refine r_get (Cn := RX4) (T := TX4) (N := 1) C inT4 5 rfl rfl 0 (by decide) t_73 rfl dX4_together_6 ?_
  refine r_alen (v := 5) C 6 1 rfl rfl rfl dX4_together_9 ?_
  refine r_icmp_ge (tgt := 32) C dX4_together_10 (by decide) (fun _ => ?_) (fun c => absurd c (by decide))
  refine r_iload_n C dX4_together_32 1 rfl ?_
  refine r_pl (I' := [[(pl, .inr (2, [.ref a]))], [(a, .inl (cL, 5, .inr (.inr (.inr (.inr (rfs L))))))], letB cI (L 0) (h 0) (v 0) (lie 0) (seals 0) (folds 0) (n 0) (f 0), letB cI (L 1) (h 1) (v 1) (lie 1) (seals 1) (folds 1) (n 1) (f 1), letB cI (L 2) (h 2) (v 2) (lie 2) (seals 2) (folds 2) (n 2) (f 2), letB cI (L 3) (h 3) (v 3) (lie 3) (seals 3) (folds 3) (n 3) (f 3), letB cI (L 4) (h 4) (v 4) (lie 4) (seals 4) (folds 4) (n 4) (f 4)]) [5, 6, 4, 3, 2, 1, 0] (show ([5, 6, 4, 3, 2, 1, 0] : List Nat).Perm (List.range 7) by decide) rfl ?_
  refine r_ws (I' := [pileB cI cL pl a L h v lie seals folds n f]) rfl ?_
  have eF : F_X4_together lie seals folds n what = x15 := by have q := e_r2.symm; subst q; have q := e_x3.symm; subst q; have q := e_r5.symm; subst q; have q := e_x6.symm; subst q; have q := e_r8.symm; subst q; have q := e_x9.symm; subst q; have q := e_r11.symm; subst q; have q := e_x12.symm; subst q; have q := e_r14.symm; subst q; have q := e_x15.symm; subst q; rfl
  exact r_iret (r := x15) C hA hr hlo dX4_together_33 [pileB cI cL pl a L h v lie seals folds n f] ⟨by simp only [eF], rfl⟩ rfl hQ
theorem k_X4_flatLetters : kV yX4_flatLetters cX4_flatLetters 3 (some .int) 0 := ⟨t_258, t_259, t_8, t_260, by decide +kernel, by decide +kernel, by decide +kernel⟩
set_option maxRecDepth 20000 in
def F_X4_flatLetters (lie : Nat → Int32) : Int32 := let r1 : Int32 := F_X2_lie (lie 0); let x3 : Int32 := (if r1 = 1672 then (1) else (0)); let x4 : Int32 := (0 : Int32) + x3; let r5 : Int32 := F_X2_lie (lie 1); let x7 : Int32 := (if r5 = 1672 then (1) else (0)); let x8 : Int32 := x4 + x7; let r9 : Int32 := F_X2_lie (lie 2); let x11 : Int32 := (if r9 = 1672 then (1) else (0)); let x12 : Int32 := x8 + x11; let r13 : Int32 := F_X2_lie (lie 3); let x15 : Int32 := (if r13 = 1672 then (1) else (0)); let x16 : Int32 := x12 + x15; let r17 : Int32 := F_X2_lie (lie 4); let x19 : Int32 := (if r17 = 1672 then (1) else (0)); let x20 : Int32 := x16 + x19; x20
set_option maxRecDepth 20000 in
set_option maxHeartbeats 8000000 in
theorem m_X4_flatLetters (l : Launch) (D : va_G) (cI cL cP cJ : ClassId) (pl : Nat) (a : Nat) (L : Nat → Nat) (h : Nat → Nat) (v : Nat → Nat) (lie : Nat → Int32) (seals : Nat → Int32) (folds : Nat → Int32) (n : Nat → Int32) (f : Nat → Nat → Int32) : M vI l yX4_flatLetters cX4_flatLetters 3 (some .int) 1 20 D (tyF cI cL cP cJ) [.ref pl] [pileB cI cL pl a L h v lie seals folds n f] (fun (r : Int32) (w1 : List va_W) => r = (F_X4_flatLetters lie) ∧ w1 = [pileB cI cL pl a L h v lie seals folds n f]) := by
  refine m_start (by decide +kernel) (Nat.le_of_ble_eq_true rfl) (fun p e s m args below meth c A Q hA hQ C hr hlo => ?_)
  refine r_Le (L' := [(0, .ref pl)]) rfl ?_
  refine r_iconst (v := 0) C dX4_flatLetters_0 (by decide) ?_
  refine r_istore_n (L' := [(1, .int 0), (0, .ref pl)]) C dX4_flatLetters_1 (by decide) rfl ?_
  refine r_iconst (v := 0) C dX4_flatLetters_2 (by decide) ?_
  refine r_istore_n (L' := [(2, .int 0), (1, .int 0), (0, .ref pl)]) C dX4_flatLetters_3 (by decide) rfl ?_
  refine r_iload_n C dX4_flatLetters_4 0 rfl ?_
  refine r_aload_n C dX4_flatLetters_5 2 rfl ?_
  refine r_ws (I' := [[(pl, .inr (2, [.ref a]))], [(a, .inl (cL, 5, .inr (.inr (.inr (.inr (rfs L))))))], letB cI (L 0) (h 0) (v 0) (lie 0) (seals 0) (folds 0) (n 0) (f 0), letB cI (L 1) (h 1) (v 1) (lie 1) (seals 1) (folds 1) (n 1) (f 1), letB cI (L 2) (h 2) (v 2) (lie 2) (seals 2) (folds 2) (n 2) (f 2), letB cI (L 3) (h 3) (v 3) (lie 3) (seals 3) (folds 3) (n 3) (f 3), letB cI (L 4) (h 4) (v 4) (lie 4) (seals 4) (folds 4) (n 4) (f 4)]) rfl ?_
  refine r_get (Cn := RX4) (T := TX4) (N := 1) C inT4 0 rfl rfl 0 (by decide) t_73 rfl dX4_flatLetters_6 ?_
  refine r_alen (v := 5) C 1 1 rfl rfl rfl dX4_flatLetters_9 ?_
  refine r_icmp_ge (tgt := 42) C dX4_flatLetters_10 (by decide) (fun c => absurd c (by decide)) (fun _ => ?_)
  refine r_iload_n C dX4_flatLetters_13 1 rfl ?_
  refine r_aload_n C dX4_flatLetters_14 2 rfl ?_
  refine r_get (Cn := RX4) (T := TX4) (N := 1) C inT4 0 rfl rfl 0 (by decide) t_73 rfl dX4_flatLetters_15 ?_
  refine r_iload_n C dX4_flatLetters_18 0 rfl ?_
  refine r_aald (x := (L 0)) C 1 1 rfl rfl (vp_in_nI (n := 0) (N := 5) (by decide) (by decide)) dX4_flatLetters_19 rfl ?_
  refine r_callV (ci := 1) (wc := [letB cI (L 0) (h 0) (v 0) (lie 0) (seals 0) (folds 0) (n 0) (f 0)]) (wr := [[(pl, .inr (2, [.ref a]))], [(a, .inl (cL, 5, .inr (.inr (.inr (.inr (rfs L))))))], letB cI (L 1) (h 1) (v 1) (lie 1) (seals 1) (folds 1) (n 1) (f 1), letB cI (L 2) (h 2) (v 2) (lie 2) (seals 2) (folds 2) (n 2) (f 2), letB cI (L 3) (h 3) (v 3) (lie 3) (seals 3) (folds 3) (n 3) (f 3), letB cI (L 4) (h 4) (v 4) (lie 4) (seals 4) (folds 4) (n 4) (f 4)]) (st := [.int 0]) C (m_X2_lie l D cI cL cP cJ (L 0) (h 0) (v 0) (lie 0) (seals 0) (folds 0) (n 0) (f 0)) k_X2_lie t_261 [2, 0, 1, 3, 4, 5, 6] (show ([2, 0, 1, 3, 4, 5, 6] : List Nat).Perm (List.range 7) by decide) rfl rfl rfl (q0 := 0) rfl rfl rfl (Nat.le_of_ble_eq_true rfl) ⟨Nat.le_of_ble_eq_true rfl, Nat.le_of_ble_eq_true rfl⟩ ⟨Nat.zero_le _, Nat.zero_le _⟩ dX4_flatLetters_20 (fun r1 wr1 hw1 => ?_)
  obtain ⟨e_r1, rfl⟩ := hw1
  refine r_ws (I' := [letB cI (L 0) (h 0) (v 0) (lie 0) (seals 0) (folds 0) (n 0) (f 0), [(pl, .inr (2, [.ref a]))], [(a, .inl (cL, 5, .inr (.inr (.inr (.inr (rfs L))))))], letB cI (L 1) (h 1) (v 1) (lie 1) (seals 1) (folds 1) (n 1) (f 1), letB cI (L 2) (h 2) (v 2) (lie 2) (seals 2) (folds 2) (n 2) (f 2), letB cI (L 3) (h 3) (v 3) (lie 3) (seals 3) (folds 3) (n 3) (f 3), letB cI (L 4) (h 4) (v 4) (lie 4) (seals 4) (folds 4) (n 4) (f 4)]) rfl ?_
  refine r_sipush (v := 1672) C dX4_flatLetters_23 (by decide) ?_
  suffices K : ∀ x3 : Int32, x3 = ((if r1 = 1672 then (1) else (0))) → V p l e (rmm 1 20) s m args below meth c 3 D A 0 0 Q [letB cI (L 0) (h 0) (v 0) (lie 0) (seals 0) (folds 0) (n 0) (f 0), [(pl, .inr (2, [.ref a]))], [(a, .inl (cL, 5, .inr (.inr (.inr (.inr (rfs L))))))], letB cI (L 1) (h 1) (v 1) (lie 1) (seals 1) (folds 1) (n 1) (f 1), letB cI (L 2) (h 2) (v 2) (lie 2) (seals 2) (folds 2) (n 2) (f 2), letB cI (L 3) (h 3) (v 3) (lie 3) (seals 3) (folds 3) (n 3) (f 3), letB cI (L 4) (h 4) (v 4) (lie 4) (seals 4) (folds 4) (n 4) (f 4)] [(2, .int 0), (1, .int 0), (0, .ref pl)] 34 [.int x3, .int 0] by
    refine r_icmp_ne (tgt := 33) C dX4_flatLetters_26 (by decide) (fun c2 => ?_) (fun c2 => ?_)
    · refine r_iconst (v := 0) C dX4_flatLetters_33 (by decide) ?_
      exact K _ (by simp only [if_neg c2])
    · refine r_iconst (v := 1) C dX4_flatLetters_29 (by decide) ?_
      refine r_goto (tgt := 34) C dX4_flatLetters_30 (by decide) ?_
      exact K _ (by simp only [if_pos c2])
  intro x3 e_x3
  refine r_iadd C dX4_flatLetters_34 rfl ?_
  refine r_top (fun x4 e_x4 => ?_)
  refine r_istore_n (L' := [(1, .int x4), (2, .int 0), (0, .ref pl)]) C dX4_flatLetters_35 (by decide) rfl ?_
  refine r_iinc (v := 1) (L' := [(2, .int 1), (1, .int x4), (0, .ref pl)]) C dX4_flatLetters_36 1 rfl (by decide) (by decide) rfl ?_
  refine r_goto (tgt := 4) C dX4_flatLetters_39 (by decide) ?_
  refine r_iload_n C dX4_flatLetters_4 0 rfl ?_
  refine r_aload_n C dX4_flatLetters_5 2 rfl ?_
  refine r_get (Cn := RX4) (T := TX4) (N := 1) C inT4 1 rfl rfl 0 (by decide) t_73 rfl dX4_flatLetters_6 ?_
  refine r_alen (v := 5) C 2 1 rfl rfl rfl dX4_flatLetters_9 ?_
  refine r_icmp_ge (tgt := 42) C dX4_flatLetters_10 (by decide) (fun c => absurd c (by decide)) (fun _ => ?_)
  refine r_iload_n C dX4_flatLetters_13 1 rfl ?_
  refine r_aload_n C dX4_flatLetters_14 2 rfl ?_
  refine r_get (Cn := RX4) (T := TX4) (N := 1) C inT4 1 rfl rfl 0 (by decide) t_73 rfl dX4_flatLetters_15 ?_
  refine r_iload_n C dX4_flatLetters_18 0 rfl ?_
  refine r_aald (x := (L 1)) C 2 1 rfl rfl (vp_in_nI (n := 1) (N := 5) (by decide) (by decide)) dX4_flatLetters_19 rfl ?_
  refine r_callV (ci := 1) (wc := [letB cI (L 1) (h 1) (v 1) (lie 1) (seals 1) (folds 1) (n 1) (f 1)]) (wr := [letB cI (L 0) (h 0) (v 0) (lie 0) (seals 0) (folds 0) (n 0) (f 0), [(pl, .inr (2, [.ref a]))], [(a, .inl (cL, 5, .inr (.inr (.inr (.inr (rfs L))))))], letB cI (L 2) (h 2) (v 2) (lie 2) (seals 2) (folds 2) (n 2) (f 2), letB cI (L 3) (h 3) (v 3) (lie 3) (seals 3) (folds 3) (n 3) (f 3), letB cI (L 4) (h 4) (v 4) (lie 4) (seals 4) (folds 4) (n 4) (f 4)]) (st := [.int x4]) C (m_X2_lie l D cI cL cP cJ (L 1) (h 1) (v 1) (lie 1) (seals 1) (folds 1) (n 1) (f 1)) k_X2_lie t_261 [3, 0, 1, 2, 4, 5, 6] (show ([3, 0, 1, 2, 4, 5, 6] : List Nat).Perm (List.range 7) by decide) rfl rfl rfl (q0 := 0) rfl rfl rfl (Nat.le_of_ble_eq_true rfl) ⟨Nat.le_of_ble_eq_true rfl, Nat.le_of_ble_eq_true rfl⟩ ⟨Nat.zero_le _, Nat.zero_le _⟩ dX4_flatLetters_20 (fun r5 wr5 hw5 => ?_)
  obtain ⟨e_r5, rfl⟩ := hw5
  refine r_ws (I' := [letB cI (L 1) (h 1) (v 1) (lie 1) (seals 1) (folds 1) (n 1) (f 1), letB cI (L 0) (h 0) (v 0) (lie 0) (seals 0) (folds 0) (n 0) (f 0), [(pl, .inr (2, [.ref a]))], [(a, .inl (cL, 5, .inr (.inr (.inr (.inr (rfs L))))))], letB cI (L 2) (h 2) (v 2) (lie 2) (seals 2) (folds 2) (n 2) (f 2), letB cI (L 3) (h 3) (v 3) (lie 3) (seals 3) (folds 3) (n 3) (f 3), letB cI (L 4) (h 4) (v 4) (lie 4) (seals 4) (folds 4) (n 4) (f 4)]) rfl ?_
  refine r_sipush (v := 1672) C dX4_flatLetters_23 (by decide) ?_
  suffices K : ∀ x7 : Int32, x7 = ((if r5 = 1672 then (1) else (0))) → V p l e (rmm 1 20) s m args below meth c 3 D A 0 0 Q [letB cI (L 1) (h 1) (v 1) (lie 1) (seals 1) (folds 1) (n 1) (f 1), letB cI (L 0) (h 0) (v 0) (lie 0) (seals 0) (folds 0) (n 0) (f 0), [(pl, .inr (2, [.ref a]))], [(a, .inl (cL, 5, .inr (.inr (.inr (.inr (rfs L))))))], letB cI (L 2) (h 2) (v 2) (lie 2) (seals 2) (folds 2) (n 2) (f 2), letB cI (L 3) (h 3) (v 3) (lie 3) (seals 3) (folds 3) (n 3) (f 3), letB cI (L 4) (h 4) (v 4) (lie 4) (seals 4) (folds 4) (n 4) (f 4)] [(2, .int 1), (1, .int x4), (0, .ref pl)] 34 [.int x7, .int x4] by
    refine r_icmp_ne (tgt := 33) C dX4_flatLetters_26 (by decide) (fun c6 => ?_) (fun c6 => ?_)
    · refine r_iconst (v := 0) C dX4_flatLetters_33 (by decide) ?_
      exact K _ (by simp only [if_neg c6])
    · refine r_iconst (v := 1) C dX4_flatLetters_29 (by decide) ?_
      refine r_goto (tgt := 34) C dX4_flatLetters_30 (by decide) ?_
      exact K _ (by simp only [if_pos c6])
  intro x7 e_x7
  refine r_iadd C dX4_flatLetters_34 rfl ?_
  refine r_top (fun x8 e_x8 => ?_)
  refine r_istore_n (L' := [(1, .int x8), (2, .int 1), (0, .ref pl)]) C dX4_flatLetters_35 (by decide) rfl ?_
  refine r_iinc (v := 2) (L' := [(2, .int 2), (1, .int x8), (0, .ref pl)]) C dX4_flatLetters_36 1 rfl (by decide) (by decide) rfl ?_
  refine r_goto (tgt := 4) C dX4_flatLetters_39 (by decide) ?_
  refine r_iload_n C dX4_flatLetters_4 0 rfl ?_
  refine r_aload_n C dX4_flatLetters_5 2 rfl ?_
  refine r_get (Cn := RX4) (T := TX4) (N := 1) C inT4 2 rfl rfl 0 (by decide) t_73 rfl dX4_flatLetters_6 ?_
  refine r_alen (v := 5) C 3 1 rfl rfl rfl dX4_flatLetters_9 ?_
  refine r_icmp_ge (tgt := 42) C dX4_flatLetters_10 (by decide) (fun c => absurd c (by decide)) (fun _ => ?_)
  refine r_iload_n C dX4_flatLetters_13 1 rfl ?_
  refine r_aload_n C dX4_flatLetters_14 2 rfl ?_
  refine r_get (Cn := RX4) (T := TX4) (N := 1) C inT4 2 rfl rfl 0 (by decide) t_73 rfl dX4_flatLetters_15 ?_
  refine r_iload_n C dX4_flatLetters_18 0 rfl ?_
  refine r_aald (x := (L 2)) C 3 1 rfl rfl (vp_in_nI (n := 2) (N := 5) (by decide) (by decide)) dX4_flatLetters_19 rfl ?_
  refine r_callV (ci := 1) (wc := [letB cI (L 2) (h 2) (v 2) (lie 2) (seals 2) (folds 2) (n 2) (f 2)]) (wr := [letB cI (L 1) (h 1) (v 1) (lie 1) (seals 1) (folds 1) (n 1) (f 1), letB cI (L 0) (h 0) (v 0) (lie 0) (seals 0) (folds 0) (n 0) (f 0), [(pl, .inr (2, [.ref a]))], [(a, .inl (cL, 5, .inr (.inr (.inr (.inr (rfs L))))))], letB cI (L 3) (h 3) (v 3) (lie 3) (seals 3) (folds 3) (n 3) (f 3), letB cI (L 4) (h 4) (v 4) (lie 4) (seals 4) (folds 4) (n 4) (f 4)]) (st := [.int x8]) C (m_X2_lie l D cI cL cP cJ (L 2) (h 2) (v 2) (lie 2) (seals 2) (folds 2) (n 2) (f 2)) k_X2_lie t_261 [4, 0, 1, 2, 3, 5, 6] (show ([4, 0, 1, 2, 3, 5, 6] : List Nat).Perm (List.range 7) by decide) rfl rfl rfl (q0 := 0) rfl rfl rfl (Nat.le_of_ble_eq_true rfl) ⟨Nat.le_of_ble_eq_true rfl, Nat.le_of_ble_eq_true rfl⟩ ⟨Nat.zero_le _, Nat.zero_le _⟩ dX4_flatLetters_20 (fun r9 wr9 hw9 => ?_)
  obtain ⟨e_r9, rfl⟩ := hw9
  refine r_ws (I' := [letB cI (L 2) (h 2) (v 2) (lie 2) (seals 2) (folds 2) (n 2) (f 2), letB cI (L 1) (h 1) (v 1) (lie 1) (seals 1) (folds 1) (n 1) (f 1), letB cI (L 0) (h 0) (v 0) (lie 0) (seals 0) (folds 0) (n 0) (f 0), [(pl, .inr (2, [.ref a]))], [(a, .inl (cL, 5, .inr (.inr (.inr (.inr (rfs L))))))], letB cI (L 3) (h 3) (v 3) (lie 3) (seals 3) (folds 3) (n 3) (f 3), letB cI (L 4) (h 4) (v 4) (lie 4) (seals 4) (folds 4) (n 4) (f 4)]) rfl ?_
  refine r_sipush (v := 1672) C dX4_flatLetters_23 (by decide) ?_
  suffices K : ∀ x11 : Int32, x11 = ((if r9 = 1672 then (1) else (0))) → V p l e (rmm 1 20) s m args below meth c 3 D A 0 0 Q [letB cI (L 2) (h 2) (v 2) (lie 2) (seals 2) (folds 2) (n 2) (f 2), letB cI (L 1) (h 1) (v 1) (lie 1) (seals 1) (folds 1) (n 1) (f 1), letB cI (L 0) (h 0) (v 0) (lie 0) (seals 0) (folds 0) (n 0) (f 0), [(pl, .inr (2, [.ref a]))], [(a, .inl (cL, 5, .inr (.inr (.inr (.inr (rfs L))))))], letB cI (L 3) (h 3) (v 3) (lie 3) (seals 3) (folds 3) (n 3) (f 3), letB cI (L 4) (h 4) (v 4) (lie 4) (seals 4) (folds 4) (n 4) (f 4)] [(2, .int 2), (1, .int x8), (0, .ref pl)] 34 [.int x11, .int x8] by
    refine r_icmp_ne (tgt := 33) C dX4_flatLetters_26 (by decide) (fun c10 => ?_) (fun c10 => ?_)
    · refine r_iconst (v := 0) C dX4_flatLetters_33 (by decide) ?_
      exact K _ (by simp only [if_neg c10])
    · refine r_iconst (v := 1) C dX4_flatLetters_29 (by decide) ?_
      refine r_goto (tgt := 34) C dX4_flatLetters_30 (by decide) ?_
      exact K _ (by simp only [if_pos c10])
  intro x11 e_x11
  refine r_iadd C dX4_flatLetters_34 rfl ?_
  refine r_top (fun x12 e_x12 => ?_)
  refine r_istore_n (L' := [(1, .int x12), (2, .int 2), (0, .ref pl)]) C dX4_flatLetters_35 (by decide) rfl ?_
  refine r_iinc (v := 3) (L' := [(2, .int 3), (1, .int x12), (0, .ref pl)]) C dX4_flatLetters_36 1 rfl (by decide) (by decide) rfl ?_
  refine r_goto (tgt := 4) C dX4_flatLetters_39 (by decide) ?_
  refine r_iload_n C dX4_flatLetters_4 0 rfl ?_
  refine r_aload_n C dX4_flatLetters_5 2 rfl ?_
  refine r_get (Cn := RX4) (T := TX4) (N := 1) C inT4 3 rfl rfl 0 (by decide) t_73 rfl dX4_flatLetters_6 ?_
  refine r_alen (v := 5) C 4 1 rfl rfl rfl dX4_flatLetters_9 ?_
  refine r_icmp_ge (tgt := 42) C dX4_flatLetters_10 (by decide) (fun c => absurd c (by decide)) (fun _ => ?_)
  refine r_iload_n C dX4_flatLetters_13 1 rfl ?_
  refine r_aload_n C dX4_flatLetters_14 2 rfl ?_
  refine r_get (Cn := RX4) (T := TX4) (N := 1) C inT4 3 rfl rfl 0 (by decide) t_73 rfl dX4_flatLetters_15 ?_
  refine r_iload_n C dX4_flatLetters_18 0 rfl ?_
  refine r_aald (x := (L 3)) C 4 1 rfl rfl (vp_in_nI (n := 3) (N := 5) (by decide) (by decide)) dX4_flatLetters_19 rfl ?_
  refine r_callV (ci := 1) (wc := [letB cI (L 3) (h 3) (v 3) (lie 3) (seals 3) (folds 3) (n 3) (f 3)]) (wr := [letB cI (L 2) (h 2) (v 2) (lie 2) (seals 2) (folds 2) (n 2) (f 2), letB cI (L 1) (h 1) (v 1) (lie 1) (seals 1) (folds 1) (n 1) (f 1), letB cI (L 0) (h 0) (v 0) (lie 0) (seals 0) (folds 0) (n 0) (f 0), [(pl, .inr (2, [.ref a]))], [(a, .inl (cL, 5, .inr (.inr (.inr (.inr (rfs L))))))], letB cI (L 4) (h 4) (v 4) (lie 4) (seals 4) (folds 4) (n 4) (f 4)]) (st := [.int x12]) C (m_X2_lie l D cI cL cP cJ (L 3) (h 3) (v 3) (lie 3) (seals 3) (folds 3) (n 3) (f 3)) k_X2_lie t_261 [5, 0, 1, 2, 3, 4, 6] (show ([5, 0, 1, 2, 3, 4, 6] : List Nat).Perm (List.range 7) by decide) rfl rfl rfl (q0 := 0) rfl rfl rfl (Nat.le_of_ble_eq_true rfl) ⟨Nat.le_of_ble_eq_true rfl, Nat.le_of_ble_eq_true rfl⟩ ⟨Nat.zero_le _, Nat.zero_le _⟩ dX4_flatLetters_20 (fun r13 wr13 hw13 => ?_)
  obtain ⟨e_r13, rfl⟩ := hw13
  refine r_ws (I' := [letB cI (L 3) (h 3) (v 3) (lie 3) (seals 3) (folds 3) (n 3) (f 3), letB cI (L 2) (h 2) (v 2) (lie 2) (seals 2) (folds 2) (n 2) (f 2), letB cI (L 1) (h 1) (v 1) (lie 1) (seals 1) (folds 1) (n 1) (f 1), letB cI (L 0) (h 0) (v 0) (lie 0) (seals 0) (folds 0) (n 0) (f 0), [(pl, .inr (2, [.ref a]))], [(a, .inl (cL, 5, .inr (.inr (.inr (.inr (rfs L))))))], letB cI (L 4) (h 4) (v 4) (lie 4) (seals 4) (folds 4) (n 4) (f 4)]) rfl ?_
  refine r_sipush (v := 1672) C dX4_flatLetters_23 (by decide) ?_
  suffices K : ∀ x15 : Int32, x15 = ((if r13 = 1672 then (1) else (0))) → V p l e (rmm 1 20) s m args below meth c 3 D A 0 0 Q [letB cI (L 3) (h 3) (v 3) (lie 3) (seals 3) (folds 3) (n 3) (f 3), letB cI (L 2) (h 2) (v 2) (lie 2) (seals 2) (folds 2) (n 2) (f 2), letB cI (L 1) (h 1) (v 1) (lie 1) (seals 1) (folds 1) (n 1) (f 1), letB cI (L 0) (h 0) (v 0) (lie 0) (seals 0) (folds 0) (n 0) (f 0), [(pl, .inr (2, [.ref a]))], [(a, .inl (cL, 5, .inr (.inr (.inr (.inr (rfs L))))))], letB cI (L 4) (h 4) (v 4) (lie 4) (seals 4) (folds 4) (n 4) (f 4)] [(2, .int 3), (1, .int x12), (0, .ref pl)] 34 [.int x15, .int x12] by
    refine r_icmp_ne (tgt := 33) C dX4_flatLetters_26 (by decide) (fun c14 => ?_) (fun c14 => ?_)
    · refine r_iconst (v := 0) C dX4_flatLetters_33 (by decide) ?_
      exact K _ (by simp only [if_neg c14])
    · refine r_iconst (v := 1) C dX4_flatLetters_29 (by decide) ?_
      refine r_goto (tgt := 34) C dX4_flatLetters_30 (by decide) ?_
      exact K _ (by simp only [if_pos c14])
  intro x15 e_x15
  refine r_iadd C dX4_flatLetters_34 rfl ?_
  refine r_top (fun x16 e_x16 => ?_)
  refine r_istore_n (L' := [(1, .int x16), (2, .int 3), (0, .ref pl)]) C dX4_flatLetters_35 (by decide) rfl ?_
  refine r_iinc (v := 4) (L' := [(2, .int 4), (1, .int x16), (0, .ref pl)]) C dX4_flatLetters_36 1 rfl (by decide) (by decide) rfl ?_
  refine r_goto (tgt := 4) C dX4_flatLetters_39 (by decide) ?_
  refine r_iload_n C dX4_flatLetters_4 0 rfl ?_
  refine r_aload_n C dX4_flatLetters_5 2 rfl ?_
  refine r_get (Cn := RX4) (T := TX4) (N := 1) C inT4 4 rfl rfl 0 (by decide) t_73 rfl dX4_flatLetters_6 ?_
  refine r_alen (v := 5) C 5 1 rfl rfl rfl dX4_flatLetters_9 ?_
  refine r_icmp_ge (tgt := 42) C dX4_flatLetters_10 (by decide) (fun c => absurd c (by decide)) (fun _ => ?_)
  refine r_iload_n C dX4_flatLetters_13 1 rfl ?_
  refine r_aload_n C dX4_flatLetters_14 2 rfl ?_
  refine r_get (Cn := RX4) (T := TX4) (N := 1) C inT4 4 rfl rfl 0 (by decide) t_73 rfl dX4_flatLetters_15 ?_
  refine r_iload_n C dX4_flatLetters_18 0 rfl ?_
  refine r_aald (x := (L 4)) C 5 1 rfl rfl (vp_in_nI (n := 4) (N := 5) (by decide) (by decide)) dX4_flatLetters_19 rfl ?_
  refine r_callV (ci := 1) (wc := [letB cI (L 4) (h 4) (v 4) (lie 4) (seals 4) (folds 4) (n 4) (f 4)]) (wr := [letB cI (L 3) (h 3) (v 3) (lie 3) (seals 3) (folds 3) (n 3) (f 3), letB cI (L 2) (h 2) (v 2) (lie 2) (seals 2) (folds 2) (n 2) (f 2), letB cI (L 1) (h 1) (v 1) (lie 1) (seals 1) (folds 1) (n 1) (f 1), letB cI (L 0) (h 0) (v 0) (lie 0) (seals 0) (folds 0) (n 0) (f 0), [(pl, .inr (2, [.ref a]))], [(a, .inl (cL, 5, .inr (.inr (.inr (.inr (rfs L))))))]]) (st := [.int x16]) C (m_X2_lie l D cI cL cP cJ (L 4) (h 4) (v 4) (lie 4) (seals 4) (folds 4) (n 4) (f 4)) k_X2_lie t_261 [6, 0, 1, 2, 3, 4, 5] (show ([6, 0, 1, 2, 3, 4, 5] : List Nat).Perm (List.range 7) by decide) rfl rfl rfl (q0 := 0) rfl rfl rfl (Nat.le_of_ble_eq_true rfl) ⟨Nat.le_of_ble_eq_true rfl, Nat.le_of_ble_eq_true rfl⟩ ⟨Nat.zero_le _, Nat.zero_le _⟩ dX4_flatLetters_20 (fun r17 wr17 hw17 => ?_)
  obtain ⟨e_r17, rfl⟩ := hw17
  refine r_ws (I' := [letB cI (L 4) (h 4) (v 4) (lie 4) (seals 4) (folds 4) (n 4) (f 4), letB cI (L 3) (h 3) (v 3) (lie 3) (seals 3) (folds 3) (n 3) (f 3), letB cI (L 2) (h 2) (v 2) (lie 2) (seals 2) (folds 2) (n 2) (f 2), letB cI (L 1) (h 1) (v 1) (lie 1) (seals 1) (folds 1) (n 1) (f 1), letB cI (L 0) (h 0) (v 0) (lie 0) (seals 0) (folds 0) (n 0) (f 0), [(pl, .inr (2, [.ref a]))], [(a, .inl (cL, 5, .inr (.inr (.inr (.inr (rfs L))))))]]) rfl ?_
  refine r_sipush (v := 1672) C dX4_flatLetters_23 (by decide) ?_
  suffices K : ∀ x19 : Int32, x19 = ((if r17 = 1672 then (1) else (0))) → V p l e (rmm 1 20) s m args below meth c 3 D A 0 0 Q [letB cI (L 4) (h 4) (v 4) (lie 4) (seals 4) (folds 4) (n 4) (f 4), letB cI (L 3) (h 3) (v 3) (lie 3) (seals 3) (folds 3) (n 3) (f 3), letB cI (L 2) (h 2) (v 2) (lie 2) (seals 2) (folds 2) (n 2) (f 2), letB cI (L 1) (h 1) (v 1) (lie 1) (seals 1) (folds 1) (n 1) (f 1), letB cI (L 0) (h 0) (v 0) (lie 0) (seals 0) (folds 0) (n 0) (f 0), [(pl, .inr (2, [.ref a]))], [(a, .inl (cL, 5, .inr (.inr (.inr (.inr (rfs L))))))]] [(2, .int 4), (1, .int x16), (0, .ref pl)] 34 [.int x19, .int x16] by
    refine r_icmp_ne (tgt := 33) C dX4_flatLetters_26 (by decide) (fun c18 => ?_) (fun c18 => ?_)
    · refine r_iconst (v := 0) C dX4_flatLetters_33 (by decide) ?_
      exact K _ (by simp only [if_neg c18])
    · refine r_iconst (v := 1) C dX4_flatLetters_29 (by decide) ?_
      refine r_goto (tgt := 34) C dX4_flatLetters_30 (by decide) ?_
      exact K _ (by simp only [if_pos c18])
  intro x19 e_x19
  refine r_iadd C dX4_flatLetters_34 rfl ?_
  refine r_top (fun x20 e_x20 => ?_)
  refine r_istore_n (L' := [(1, .int x20), (2, .int 4), (0, .ref pl)]) C dX4_flatLetters_35 (by decide) rfl ?_
  refine r_iinc (v := 5) (L' := [(2, .int 5), (1, .int x20), (0, .ref pl)]) C dX4_flatLetters_36 1 rfl (by decide) (by decide) rfl ?_
  refine r_goto (tgt := 4) C dX4_flatLetters_39 (by decide) ?_
  refine r_iload_n C dX4_flatLetters_4 0 rfl ?_
  refine r_aload_n C dX4_flatLetters_5 2 rfl ?_
  refine r_get (Cn := RX4) (T := TX4) (N := 1) C inT4 5 rfl rfl 0 (by decide) t_73 rfl dX4_flatLetters_6 ?_
  refine r_alen (v := 5) C 6 1 rfl rfl rfl dX4_flatLetters_9 ?_
  refine r_icmp_ge (tgt := 42) C dX4_flatLetters_10 (by decide) (fun _ => ?_) (fun c => absurd c (by decide))
  refine r_iload_n C dX4_flatLetters_42 1 rfl ?_
  refine r_pl (I' := [[(pl, .inr (2, [.ref a]))], [(a, .inl (cL, 5, .inr (.inr (.inr (.inr (rfs L))))))], letB cI (L 0) (h 0) (v 0) (lie 0) (seals 0) (folds 0) (n 0) (f 0), letB cI (L 1) (h 1) (v 1) (lie 1) (seals 1) (folds 1) (n 1) (f 1), letB cI (L 2) (h 2) (v 2) (lie 2) (seals 2) (folds 2) (n 2) (f 2), letB cI (L 3) (h 3) (v 3) (lie 3) (seals 3) (folds 3) (n 3) (f 3), letB cI (L 4) (h 4) (v 4) (lie 4) (seals 4) (folds 4) (n 4) (f 4)]) [5, 6, 4, 3, 2, 1, 0] (show ([5, 6, 4, 3, 2, 1, 0] : List Nat).Perm (List.range 7) by decide) rfl ?_
  refine r_ws (I' := [pileB cI cL pl a L h v lie seals folds n f]) rfl ?_
  have eF : F_X4_flatLetters lie = x20 := by have q := e_r1.symm; subst q; have q := e_x3.symm; subst q; have q := e_x4.symm; subst q; have q := e_r5.symm; subst q; have q := e_x7.symm; subst q; have q := e_x8.symm; subst q; have q := e_r9.symm; subst q; have q := e_x11.symm; subst q; have q := e_x12.symm; subst q; have q := e_r13.symm; subst q; have q := e_x15.symm; subst q; have q := e_x16.symm; subst q; have q := e_r17.symm; subst q; have q := e_x19.symm; subst q; have q := e_x20.symm; subst q; rfl
  exact r_iret (r := x20) C hA hr hlo dX4_flatLetters_43 [pileB cI cL pl a L h v lie seals folds n f] ⟨by simp only [eF], rfl⟩ rfl hQ
theorem k_X4_sealedPositions : kV yX4_sealedPositions cX4_sealedPositions 3 (some .int) 0 := ⟨t_266, t_267, t_8, t_268, by decide +kernel, by decide +kernel, by decide +kernel⟩
set_option maxRecDepth 20000 in
def F_X4_sealedPositions (seals : Nat → Int32) : Int32 := let r1 : Int32 := F_X2_sealed (seals 0); let x2 : Int32 := (0 : Int32) + r1; let r3 : Int32 := F_X2_sealed (seals 1); let x4 : Int32 := x2 + r3; let r5 : Int32 := F_X2_sealed (seals 2); let x6 : Int32 := x4 + r5; let r7 : Int32 := F_X2_sealed (seals 3); let x8 : Int32 := x6 + r7; let r9 : Int32 := F_X2_sealed (seals 4); let x10 : Int32 := x8 + r9; x10
set_option maxRecDepth 20000 in
set_option maxHeartbeats 8000000 in
theorem m_X4_sealedPositions (l : Launch) (D : va_G) (cI cL cP cJ : ClassId) (pl : Nat) (a : Nat) (L : Nat → Nat) (h : Nat → Nat) (v : Nat → Nat) (lie : Nat → Int32) (seals : Nat → Int32) (folds : Nat → Int32) (n : Nat → Int32) (f : Nat → Nat → Int32) : M vI l yX4_sealedPositions cX4_sealedPositions 3 (some .int) 2 40 D (tyF cI cL cP cJ) [.ref pl] [pileB cI cL pl a L h v lie seals folds n f] (fun (r : Int32) (w1 : List va_W) => r = (F_X4_sealedPositions seals) ∧ w1 = [pileB cI cL pl a L h v lie seals folds n f]) := by
  refine m_start (by decide +kernel) (Nat.le_of_ble_eq_true rfl) (fun p e s m args below meth c A Q hA hQ C hr hlo => ?_)
  refine r_Le (L' := [(0, .ref pl)]) rfl ?_
  refine r_iconst (v := 0) C dX4_sealedPositions_0 (by decide) ?_
  refine r_istore_n (L' := [(1, .int 0), (0, .ref pl)]) C dX4_sealedPositions_1 (by decide) rfl ?_
  refine r_iconst (v := 0) C dX4_sealedPositions_2 (by decide) ?_
  refine r_istore_n (L' := [(2, .int 0), (1, .int 0), (0, .ref pl)]) C dX4_sealedPositions_3 (by decide) rfl ?_
  refine r_iload_n C dX4_sealedPositions_4 0 rfl ?_
  refine r_aload_n C dX4_sealedPositions_5 2 rfl ?_
  refine r_ws (I' := [[(pl, .inr (2, [.ref a]))], [(a, .inl (cL, 5, .inr (.inr (.inr (.inr (rfs L))))))], letB cI (L 0) (h 0) (v 0) (lie 0) (seals 0) (folds 0) (n 0) (f 0), letB cI (L 1) (h 1) (v 1) (lie 1) (seals 1) (folds 1) (n 1) (f 1), letB cI (L 2) (h 2) (v 2) (lie 2) (seals 2) (folds 2) (n 2) (f 2), letB cI (L 3) (h 3) (v 3) (lie 3) (seals 3) (folds 3) (n 3) (f 3), letB cI (L 4) (h 4) (v 4) (lie 4) (seals 4) (folds 4) (n 4) (f 4)]) rfl ?_
  refine r_get (Cn := RX4) (T := TX4) (N := 1) C inT4 0 rfl rfl 0 (by decide) t_73 rfl dX4_sealedPositions_6 ?_
  refine r_alen (v := 5) C 1 1 rfl rfl rfl dX4_sealedPositions_9 ?_
  refine r_icmp_ge (tgt := 31) C dX4_sealedPositions_10 (by decide) (fun c => absurd c (by decide)) (fun _ => ?_)
  refine r_iload_n C dX4_sealedPositions_13 1 rfl ?_
  refine r_aload_n C dX4_sealedPositions_14 2 rfl ?_
  refine r_get (Cn := RX4) (T := TX4) (N := 1) C inT4 0 rfl rfl 0 (by decide) t_73 rfl dX4_sealedPositions_15 ?_
  refine r_iload_n C dX4_sealedPositions_18 0 rfl ?_
  refine r_aald (x := (L 0)) C 1 1 rfl rfl (vp_in_nI (n := 0) (N := 5) (by decide) (by decide)) dX4_sealedPositions_19 rfl ?_
  refine r_callV (ci := 1) (wc := [letB cI (L 0) (h 0) (v 0) (lie 0) (seals 0) (folds 0) (n 0) (f 0)]) (wr := [[(pl, .inr (2, [.ref a]))], [(a, .inl (cL, 5, .inr (.inr (.inr (.inr (rfs L))))))], letB cI (L 1) (h 1) (v 1) (lie 1) (seals 1) (folds 1) (n 1) (f 1), letB cI (L 2) (h 2) (v 2) (lie 2) (seals 2) (folds 2) (n 2) (f 2), letB cI (L 3) (h 3) (v 3) (lie 3) (seals 3) (folds 3) (n 3) (f 3), letB cI (L 4) (h 4) (v 4) (lie 4) (seals 4) (folds 4) (n 4) (f 4)]) (st := [.int 0]) C (m_X2_sealed l D cI cL cP cJ (L 0) (h 0) (v 0) (lie 0) (seals 0) (folds 0) (n 0) (f 0)) k_X2_sealed t_269 [2, 0, 1, 3, 4, 5, 6] (show ([2, 0, 1, 3, 4, 5, 6] : List Nat).Perm (List.range 7) by decide) rfl rfl rfl (q0 := 0) rfl rfl rfl (Nat.le_of_ble_eq_true rfl) ⟨Nat.le_of_ble_eq_true rfl, Nat.le_of_ble_eq_true rfl⟩ ⟨Nat.zero_le _, Nat.zero_le _⟩ dX4_sealedPositions_20 (fun r1 wr1 hw1 => ?_)
  obtain ⟨e_r1, rfl⟩ := hw1
  refine r_ws (I' := [letB cI (L 0) (h 0) (v 0) (lie 0) (seals 0) (folds 0) (n 0) (f 0), [(pl, .inr (2, [.ref a]))], [(a, .inl (cL, 5, .inr (.inr (.inr (.inr (rfs L))))))], letB cI (L 1) (h 1) (v 1) (lie 1) (seals 1) (folds 1) (n 1) (f 1), letB cI (L 2) (h 2) (v 2) (lie 2) (seals 2) (folds 2) (n 2) (f 2), letB cI (L 3) (h 3) (v 3) (lie 3) (seals 3) (folds 3) (n 3) (f 3), letB cI (L 4) (h 4) (v 4) (lie 4) (seals 4) (folds 4) (n 4) (f 4)]) rfl ?_
  refine r_iadd C dX4_sealedPositions_23 rfl ?_
  refine r_top (fun x2 e_x2 => ?_)
  refine r_istore_n (L' := [(1, .int x2), (2, .int 0), (0, .ref pl)]) C dX4_sealedPositions_24 (by decide) rfl ?_
  refine r_iinc (v := 1) (L' := [(2, .int 1), (1, .int x2), (0, .ref pl)]) C dX4_sealedPositions_25 1 rfl (by decide) (by decide) rfl ?_
  refine r_goto (tgt := 4) C dX4_sealedPositions_28 (by decide) ?_
  refine r_iload_n C dX4_sealedPositions_4 0 rfl ?_
  refine r_aload_n C dX4_sealedPositions_5 2 rfl ?_
  refine r_get (Cn := RX4) (T := TX4) (N := 1) C inT4 1 rfl rfl 0 (by decide) t_73 rfl dX4_sealedPositions_6 ?_
  refine r_alen (v := 5) C 2 1 rfl rfl rfl dX4_sealedPositions_9 ?_
  refine r_icmp_ge (tgt := 31) C dX4_sealedPositions_10 (by decide) (fun c => absurd c (by decide)) (fun _ => ?_)
  refine r_iload_n C dX4_sealedPositions_13 1 rfl ?_
  refine r_aload_n C dX4_sealedPositions_14 2 rfl ?_
  refine r_get (Cn := RX4) (T := TX4) (N := 1) C inT4 1 rfl rfl 0 (by decide) t_73 rfl dX4_sealedPositions_15 ?_
  refine r_iload_n C dX4_sealedPositions_18 0 rfl ?_
  refine r_aald (x := (L 1)) C 2 1 rfl rfl (vp_in_nI (n := 1) (N := 5) (by decide) (by decide)) dX4_sealedPositions_19 rfl ?_
  refine r_callV (ci := 1) (wc := [letB cI (L 1) (h 1) (v 1) (lie 1) (seals 1) (folds 1) (n 1) (f 1)]) (wr := [letB cI (L 0) (h 0) (v 0) (lie 0) (seals 0) (folds 0) (n 0) (f 0), [(pl, .inr (2, [.ref a]))], [(a, .inl (cL, 5, .inr (.inr (.inr (.inr (rfs L))))))], letB cI (L 2) (h 2) (v 2) (lie 2) (seals 2) (folds 2) (n 2) (f 2), letB cI (L 3) (h 3) (v 3) (lie 3) (seals 3) (folds 3) (n 3) (f 3), letB cI (L 4) (h 4) (v 4) (lie 4) (seals 4) (folds 4) (n 4) (f 4)]) (st := [.int x2]) C (m_X2_sealed l D cI cL cP cJ (L 1) (h 1) (v 1) (lie 1) (seals 1) (folds 1) (n 1) (f 1)) k_X2_sealed t_269 [3, 0, 1, 2, 4, 5, 6] (show ([3, 0, 1, 2, 4, 5, 6] : List Nat).Perm (List.range 7) by decide) rfl rfl rfl (q0 := 0) rfl rfl rfl (Nat.le_of_ble_eq_true rfl) ⟨Nat.le_of_ble_eq_true rfl, Nat.le_of_ble_eq_true rfl⟩ ⟨Nat.zero_le _, Nat.zero_le _⟩ dX4_sealedPositions_20 (fun r3 wr3 hw3 => ?_)
  obtain ⟨e_r3, rfl⟩ := hw3
  refine r_ws (I' := [letB cI (L 1) (h 1) (v 1) (lie 1) (seals 1) (folds 1) (n 1) (f 1), letB cI (L 0) (h 0) (v 0) (lie 0) (seals 0) (folds 0) (n 0) (f 0), [(pl, .inr (2, [.ref a]))], [(a, .inl (cL, 5, .inr (.inr (.inr (.inr (rfs L))))))], letB cI (L 2) (h 2) (v 2) (lie 2) (seals 2) (folds 2) (n 2) (f 2), letB cI (L 3) (h 3) (v 3) (lie 3) (seals 3) (folds 3) (n 3) (f 3), letB cI (L 4) (h 4) (v 4) (lie 4) (seals 4) (folds 4) (n 4) (f 4)]) rfl ?_
  refine r_iadd C dX4_sealedPositions_23 rfl ?_
  refine r_top (fun x4 e_x4 => ?_)
  refine r_istore_n (L' := [(1, .int x4), (2, .int 1), (0, .ref pl)]) C dX4_sealedPositions_24 (by decide) rfl ?_
  refine r_iinc (v := 2) (L' := [(2, .int 2), (1, .int x4), (0, .ref pl)]) C dX4_sealedPositions_25 1 rfl (by decide) (by decide) rfl ?_
  refine r_goto (tgt := 4) C dX4_sealedPositions_28 (by decide) ?_
  refine r_iload_n C dX4_sealedPositions_4 0 rfl ?_
  refine r_aload_n C dX4_sealedPositions_5 2 rfl ?_
  refine r_get (Cn := RX4) (T := TX4) (N := 1) C inT4 2 rfl rfl 0 (by decide) t_73 rfl dX4_sealedPositions_6 ?_
  refine r_alen (v := 5) C 3 1 rfl rfl rfl dX4_sealedPositions_9 ?_
  refine r_icmp_ge (tgt := 31) C dX4_sealedPositions_10 (by decide) (fun c => absurd c (by decide)) (fun _ => ?_)
  refine r_iload_n C dX4_sealedPositions_13 1 rfl ?_
  refine r_aload_n C dX4_sealedPositions_14 2 rfl ?_
  refine r_get (Cn := RX4) (T := TX4) (N := 1) C inT4 2 rfl rfl 0 (by decide) t_73 rfl dX4_sealedPositions_15 ?_
  refine r_iload_n C dX4_sealedPositions_18 0 rfl ?_
  refine r_aald (x := (L 2)) C 3 1 rfl rfl (vp_in_nI (n := 2) (N := 5) (by decide) (by decide)) dX4_sealedPositions_19 rfl ?_
  refine r_callV (ci := 1) (wc := [letB cI (L 2) (h 2) (v 2) (lie 2) (seals 2) (folds 2) (n 2) (f 2)]) (wr := [letB cI (L 1) (h 1) (v 1) (lie 1) (seals 1) (folds 1) (n 1) (f 1), letB cI (L 0) (h 0) (v 0) (lie 0) (seals 0) (folds 0) (n 0) (f 0), [(pl, .inr (2, [.ref a]))], [(a, .inl (cL, 5, .inr (.inr (.inr (.inr (rfs L))))))], letB cI (L 3) (h 3) (v 3) (lie 3) (seals 3) (folds 3) (n 3) (f 3), letB cI (L 4) (h 4) (v 4) (lie 4) (seals 4) (folds 4) (n 4) (f 4)]) (st := [.int x4]) C (m_X2_sealed l D cI cL cP cJ (L 2) (h 2) (v 2) (lie 2) (seals 2) (folds 2) (n 2) (f 2)) k_X2_sealed t_269 [4, 0, 1, 2, 3, 5, 6] (show ([4, 0, 1, 2, 3, 5, 6] : List Nat).Perm (List.range 7) by decide) rfl rfl rfl (q0 := 0) rfl rfl rfl (Nat.le_of_ble_eq_true rfl) ⟨Nat.le_of_ble_eq_true rfl, Nat.le_of_ble_eq_true rfl⟩ ⟨Nat.zero_le _, Nat.zero_le _⟩ dX4_sealedPositions_20 (fun r5 wr5 hw5 => ?_)
  obtain ⟨e_r5, rfl⟩ := hw5
  refine r_ws (I' := [letB cI (L 2) (h 2) (v 2) (lie 2) (seals 2) (folds 2) (n 2) (f 2), letB cI (L 1) (h 1) (v 1) (lie 1) (seals 1) (folds 1) (n 1) (f 1), letB cI (L 0) (h 0) (v 0) (lie 0) (seals 0) (folds 0) (n 0) (f 0), [(pl, .inr (2, [.ref a]))], [(a, .inl (cL, 5, .inr (.inr (.inr (.inr (rfs L))))))], letB cI (L 3) (h 3) (v 3) (lie 3) (seals 3) (folds 3) (n 3) (f 3), letB cI (L 4) (h 4) (v 4) (lie 4) (seals 4) (folds 4) (n 4) (f 4)]) rfl ?_
  refine r_iadd C dX4_sealedPositions_23 rfl ?_
  refine r_top (fun x6 e_x6 => ?_)
  refine r_istore_n (L' := [(1, .int x6), (2, .int 2), (0, .ref pl)]) C dX4_sealedPositions_24 (by decide) rfl ?_
  refine r_iinc (v := 3) (L' := [(2, .int 3), (1, .int x6), (0, .ref pl)]) C dX4_sealedPositions_25 1 rfl (by decide) (by decide) rfl ?_
  refine r_goto (tgt := 4) C dX4_sealedPositions_28 (by decide) ?_
  refine r_iload_n C dX4_sealedPositions_4 0 rfl ?_
  refine r_aload_n C dX4_sealedPositions_5 2 rfl ?_
  refine r_get (Cn := RX4) (T := TX4) (N := 1) C inT4 3 rfl rfl 0 (by decide) t_73 rfl dX4_sealedPositions_6 ?_
  refine r_alen (v := 5) C 4 1 rfl rfl rfl dX4_sealedPositions_9 ?_
  refine r_icmp_ge (tgt := 31) C dX4_sealedPositions_10 (by decide) (fun c => absurd c (by decide)) (fun _ => ?_)
  refine r_iload_n C dX4_sealedPositions_13 1 rfl ?_
  refine r_aload_n C dX4_sealedPositions_14 2 rfl ?_
  refine r_get (Cn := RX4) (T := TX4) (N := 1) C inT4 3 rfl rfl 0 (by decide) t_73 rfl dX4_sealedPositions_15 ?_
  refine r_iload_n C dX4_sealedPositions_18 0 rfl ?_
  refine r_aald (x := (L 3)) C 4 1 rfl rfl (vp_in_nI (n := 3) (N := 5) (by decide) (by decide)) dX4_sealedPositions_19 rfl ?_
  refine r_callV (ci := 1) (wc := [letB cI (L 3) (h 3) (v 3) (lie 3) (seals 3) (folds 3) (n 3) (f 3)]) (wr := [letB cI (L 2) (h 2) (v 2) (lie 2) (seals 2) (folds 2) (n 2) (f 2), letB cI (L 1) (h 1) (v 1) (lie 1) (seals 1) (folds 1) (n 1) (f 1), letB cI (L 0) (h 0) (v 0) (lie 0) (seals 0) (folds 0) (n 0) (f 0), [(pl, .inr (2, [.ref a]))], [(a, .inl (cL, 5, .inr (.inr (.inr (.inr (rfs L))))))], letB cI (L 4) (h 4) (v 4) (lie 4) (seals 4) (folds 4) (n 4) (f 4)]) (st := [.int x6]) C (m_X2_sealed l D cI cL cP cJ (L 3) (h 3) (v 3) (lie 3) (seals 3) (folds 3) (n 3) (f 3)) k_X2_sealed t_269 [5, 0, 1, 2, 3, 4, 6] (show ([5, 0, 1, 2, 3, 4, 6] : List Nat).Perm (List.range 7) by decide) rfl rfl rfl (q0 := 0) rfl rfl rfl (Nat.le_of_ble_eq_true rfl) ⟨Nat.le_of_ble_eq_true rfl, Nat.le_of_ble_eq_true rfl⟩ ⟨Nat.zero_le _, Nat.zero_le _⟩ dX4_sealedPositions_20 (fun r7 wr7 hw7 => ?_)
  obtain ⟨e_r7, rfl⟩ := hw7
  refine r_ws (I' := [letB cI (L 3) (h 3) (v 3) (lie 3) (seals 3) (folds 3) (n 3) (f 3), letB cI (L 2) (h 2) (v 2) (lie 2) (seals 2) (folds 2) (n 2) (f 2), letB cI (L 1) (h 1) (v 1) (lie 1) (seals 1) (folds 1) (n 1) (f 1), letB cI (L 0) (h 0) (v 0) (lie 0) (seals 0) (folds 0) (n 0) (f 0), [(pl, .inr (2, [.ref a]))], [(a, .inl (cL, 5, .inr (.inr (.inr (.inr (rfs L))))))], letB cI (L 4) (h 4) (v 4) (lie 4) (seals 4) (folds 4) (n 4) (f 4)]) rfl ?_
  refine r_iadd C dX4_sealedPositions_23 rfl ?_
  refine r_top (fun x8 e_x8 => ?_)
  refine r_istore_n (L' := [(1, .int x8), (2, .int 3), (0, .ref pl)]) C dX4_sealedPositions_24 (by decide) rfl ?_
  refine r_iinc (v := 4) (L' := [(2, .int 4), (1, .int x8), (0, .ref pl)]) C dX4_sealedPositions_25 1 rfl (by decide) (by decide) rfl ?_
  refine r_goto (tgt := 4) C dX4_sealedPositions_28 (by decide) ?_
  refine r_iload_n C dX4_sealedPositions_4 0 rfl ?_
  refine r_aload_n C dX4_sealedPositions_5 2 rfl ?_
  refine r_get (Cn := RX4) (T := TX4) (N := 1) C inT4 4 rfl rfl 0 (by decide) t_73 rfl dX4_sealedPositions_6 ?_
  refine r_alen (v := 5) C 5 1 rfl rfl rfl dX4_sealedPositions_9 ?_
  refine r_icmp_ge (tgt := 31) C dX4_sealedPositions_10 (by decide) (fun c => absurd c (by decide)) (fun _ => ?_)
  refine r_iload_n C dX4_sealedPositions_13 1 rfl ?_
  refine r_aload_n C dX4_sealedPositions_14 2 rfl ?_
  refine r_get (Cn := RX4) (T := TX4) (N := 1) C inT4 4 rfl rfl 0 (by decide) t_73 rfl dX4_sealedPositions_15 ?_
  refine r_iload_n C dX4_sealedPositions_18 0 rfl ?_
  refine r_aald (x := (L 4)) C 5 1 rfl rfl (vp_in_nI (n := 4) (N := 5) (by decide) (by decide)) dX4_sealedPositions_19 rfl ?_
  refine r_callV (ci := 1) (wc := [letB cI (L 4) (h 4) (v 4) (lie 4) (seals 4) (folds 4) (n 4) (f 4)]) (wr := [letB cI (L 3) (h 3) (v 3) (lie 3) (seals 3) (folds 3) (n 3) (f 3), letB cI (L 2) (h 2) (v 2) (lie 2) (seals 2) (folds 2) (n 2) (f 2), letB cI (L 1) (h 1) (v 1) (lie 1) (seals 1) (folds 1) (n 1) (f 1), letB cI (L 0) (h 0) (v 0) (lie 0) (seals 0) (folds 0) (n 0) (f 0), [(pl, .inr (2, [.ref a]))], [(a, .inl (cL, 5, .inr (.inr (.inr (.inr (rfs L))))))]]) (st := [.int x8]) C (m_X2_sealed l D cI cL cP cJ (L 4) (h 4) (v 4) (lie 4) (seals 4) (folds 4) (n 4) (f 4)) k_X2_sealed t_269 [6, 0, 1, 2, 3, 4, 5] (show ([6, 0, 1, 2, 3, 4, 5] : List Nat).Perm (List.range 7) by decide) rfl rfl rfl (q0 := 0) rfl rfl rfl (Nat.le_of_ble_eq_true rfl) ⟨Nat.le_of_ble_eq_true rfl, Nat.le_of_ble_eq_true rfl⟩ ⟨Nat.zero_le _, Nat.zero_le _⟩ dX4_sealedPositions_20 (fun r9 wr9 hw9 => ?_)
  obtain ⟨e_r9, rfl⟩ := hw9
  refine r_ws (I' := [letB cI (L 4) (h 4) (v 4) (lie 4) (seals 4) (folds 4) (n 4) (f 4), letB cI (L 3) (h 3) (v 3) (lie 3) (seals 3) (folds 3) (n 3) (f 3), letB cI (L 2) (h 2) (v 2) (lie 2) (seals 2) (folds 2) (n 2) (f 2), letB cI (L 1) (h 1) (v 1) (lie 1) (seals 1) (folds 1) (n 1) (f 1), letB cI (L 0) (h 0) (v 0) (lie 0) (seals 0) (folds 0) (n 0) (f 0), [(pl, .inr (2, [.ref a]))], [(a, .inl (cL, 5, .inr (.inr (.inr (.inr (rfs L))))))]]) rfl ?_
  refine r_iadd C dX4_sealedPositions_23 rfl ?_
  refine r_top (fun x10 e_x10 => ?_)
  refine r_istore_n (L' := [(1, .int x10), (2, .int 4), (0, .ref pl)]) C dX4_sealedPositions_24 (by decide) rfl ?_
  refine r_iinc (v := 5) (L' := [(2, .int 5), (1, .int x10), (0, .ref pl)]) C dX4_sealedPositions_25 1 rfl (by decide) (by decide) rfl ?_
  refine r_goto (tgt := 4) C dX4_sealedPositions_28 (by decide) ?_
  refine r_iload_n C dX4_sealedPositions_4 0 rfl ?_
  refine r_aload_n C dX4_sealedPositions_5 2 rfl ?_
  refine r_get (Cn := RX4) (T := TX4) (N := 1) C inT4 5 rfl rfl 0 (by decide) t_73 rfl dX4_sealedPositions_6 ?_
  refine r_alen (v := 5) C 6 1 rfl rfl rfl dX4_sealedPositions_9 ?_
  refine r_icmp_ge (tgt := 31) C dX4_sealedPositions_10 (by decide) (fun _ => ?_) (fun c => absurd c (by decide))
  refine r_iload_n C dX4_sealedPositions_31 1 rfl ?_
  refine r_pl (I' := [[(pl, .inr (2, [.ref a]))], [(a, .inl (cL, 5, .inr (.inr (.inr (.inr (rfs L))))))], letB cI (L 0) (h 0) (v 0) (lie 0) (seals 0) (folds 0) (n 0) (f 0), letB cI (L 1) (h 1) (v 1) (lie 1) (seals 1) (folds 1) (n 1) (f 1), letB cI (L 2) (h 2) (v 2) (lie 2) (seals 2) (folds 2) (n 2) (f 2), letB cI (L 3) (h 3) (v 3) (lie 3) (seals 3) (folds 3) (n 3) (f 3), letB cI (L 4) (h 4) (v 4) (lie 4) (seals 4) (folds 4) (n 4) (f 4)]) [5, 6, 4, 3, 2, 1, 0] (show ([5, 6, 4, 3, 2, 1, 0] : List Nat).Perm (List.range 7) by decide) rfl ?_
  refine r_ws (I' := [pileB cI cL pl a L h v lie seals folds n f]) rfl ?_
  have eF : F_X4_sealedPositions seals = x10 := by have q := e_r1.symm; subst q; have q := e_x2.symm; subst q; have q := e_r3.symm; subst q; have q := e_x4.symm; subst q; have q := e_r5.symm; subst q; have q := e_x6.symm; subst q; have q := e_r7.symm; subst q; have q := e_x8.symm; subst q; have q := e_r9.symm; subst q; have q := e_x10.symm; subst q; rfl
  exact r_iret (r := x10) C hA hr hlo dX4_sealedPositions_32 [pileB cI cL pl a L h v lie seals folds n f] ⟨by simp only [eF], rfl⟩ rfl hQ

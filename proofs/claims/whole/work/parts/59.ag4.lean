theorem pf_d0 : (List.range' 1 300).all (fun b => decide (FP.ddiv (FP.i2d (nI 0)) (FP.i2d (nI b)) = 0)) = true := by decide +kernel
theorem z_cmp : ¬ 0 < Op.cmpValue (FP.dcmp 0 FP.dconst0) CmpOp.g := by decide +kernel
theorem z_bits : F_Jxe99ae_doubleToLongBits_ccdee 0 = 0 := by decide +kernel
theorem z_nn : vf_n64 0 := by unfold vf_n64; decide
theorem z_P : P_X0_ofDouble 0 := ⟨fun q => absurd q z_cmp, fun _ => trivial⟩
theorem z_F : F_X0_ofDouble 0 = 0 := by unfold F_X0_ofDouble; rw [if_neg z_cmp]
theorem nm_div {a b : Nat} (ha : 1 ≤ a) (ha2 : a ≤ 80) (hb : 1 ≤ b) (hb2 : b ≤ 300) : ∃ c q, Nm (FP.ddiv (FP.i2d (nI a)) (FP.i2d (nI b))) c q ∧ -62 ≤ q ∧ q ≤ -42 := by
  have h := okD_all ha ha2 hb hb2
  unfold okD at h
  rw [Bool.and_eq_true] at h
  have h1 := Nat.le_of_ble_eq_true h.1
  have h2 := Nat.le_of_ble_eq_true h.2
  exact ⟨_, _, nm_of (by omega) (by omega), by omega, by omega⟩
theorem div_ok {a b : Nat} (ha2 : a ≤ 80) (hb : 1 ≤ b) (hb2 : b ≤ 300) : vf_n64 (FP.ddiv (FP.i2d (nI a)) (FP.i2d (nI b))) ∧ P_X0_ofDouble (FP.ddiv (FP.i2d (nI a)) (FP.i2d (nI b))) ∧ F_X0_ofDouble (FP.ddiv (FP.i2d (nI a)) (FP.i2d (nI b))) = F_Jxe99ae_doubleToLongBits_ccdee (FP.ddiv (FP.i2d (nI a)) (FP.i2d (nI b))) := by
  rcases Nat.eq_zero_or_pos a with h0 | h0
  · subst h0
    have e := of_decide_eq_true (List.all_eq_true.mp pf_d0 b (mem_r' hb (by omega)))
    rw [e]
    exact ⟨z_nn, z_P, by rw [z_F, z_bits]⟩
  · obtain ⟨c, q, h, q1, q2⟩ := nm_div h0 ha2 hb hb2
    have O := ofDouble_ok h q1 q2
    exact ⟨nn64 h.1, O.1, by rw [O.2, longBits_ok h]⟩
theorem one_ok : P_X0_ofDouble FP.dconst1 ∧ F_X0_ofDouble FP.dconst1 = F_Jxe99ae_doubleToLongBits_ccdee FP.dconst1 := by
  have h : Nm FP.dconst1 (2 ^ 52) (-52) := ⟨v_one, Nat.le_refl _, by decide⟩
  have O := ofDouble_ok h (by decide) (by decide)
  exact ⟨O.1, by rw [O.2, longBits_ok h]⟩
theorem mul1 (a : Int32) : FP.dmul (FP.i2d a) FP.dconst1 = FP.i2d a := FP.Core.dmul_one (FP.Core.i2d_fin a).ne_nan
theorem i2d_nn (a : Int32) : vf_n64 (FP.i2d a) := by
  obtain ⟨s, c, q, h⟩ := FP.Core.i2d_fin a
  have h1 : FP.Core.val64 (FP.i2d a) ≠ FP.Core.Datum.nan := (FP.Core.i2d_fin a).ne_nan
  have h2 := (FP.Core.ne_nan _).mp h1
  unfold vf_n64
  rw [UInt64.le_iff_toNat_le, UInt64.toNat_and]
  rw [show (0x7fffffffffffffff : UInt64).toNat = 2 ^ 63 - 1 from rfl, Nat.and_two_pow_sub_one_eq_mod]
  exact h2
def okF (s : Nat) : Bool := decide (FP.fdiv (FP.i2f (nI s)) 1084227584 &&& 0x7fffffff ≤ 0x7f800000) && decide (F_X0_ofFloat (FP.fdiv (FP.i2f (nI s)) 1084227584) = F_Jxf58ca_floatToIntBits_5c35a (FP.fdiv (FP.i2f (nI s)) 1084227584)) && (if s = 0 then decide (FP.f2d (FP.fdiv (FP.i2f (nI s)) 1084227584) = 0) else Nat.ble 1014 ((FP.f2d (FP.fdiv (FP.i2f (nI s)) 1084227584)).toNat / 2 ^ 52) && Nat.ble ((FP.f2d (FP.fdiv (FP.i2f (nI s)) 1084227584)).toNat / 2 ^ 52) 1030)
theorem pf_mean : (List.range 81).all okF = true := by decide +kernel
theorem mean_ok {s : Nat} (hs : s ≤ 80) : vf_n32 (FP.fdiv (FP.i2f (nI s)) 1084227584) ∧ vf_n64 (FP.f2d (FP.fdiv (FP.i2f (nI s)) 1084227584)) ∧ P_X0_ofFloat (FP.fdiv (FP.i2f (nI s)) 1084227584) ∧ F_X0_ofFloat (FP.fdiv (FP.i2f (nI s)) 1084227584) = F_Jxf58ca_floatToIntBits_5c35a (FP.fdiv (FP.i2f (nI s)) 1084227584) := by
  have h := List.all_eq_true.mp pf_mean s (List.mem_range.mpr (by omega))
  unfold okF at h
  rw [Bool.and_eq_true, Bool.and_eq_true] at h
  obtain ⟨⟨h1, h2⟩, h3⟩ := h
  have h1' := of_decide_eq_true h1
  have h2' := of_decide_eq_true h2
  by_cases h0 : s = 0
  · rw [if_pos h0] at h3
    have e := of_decide_eq_true h3
    unfold P_X0_ofFloat
    rw [e]
    exact ⟨h1', z_nn, ⟨z_nn, z_P⟩, h2'⟩
  · rw [if_neg h0, Bool.and_eq_true] at h3
    have b1 := Nat.le_of_ble_eq_true h3.1
    have b2 := Nat.le_of_ble_eq_true h3.2
    have N := nm_of (x := FP.f2d (FP.fdiv (FP.i2f (nI s)) 1084227584)) (by omega) (by omega)
    have O := ofDouble_ok N (by omega) (by omega)
    exact ⟨h1', nn64 N.1, ⟨nn64 N.1, O.1⟩, h2'⟩
theorem sum5 (a b c d e : Nat) : ((((((0 : Int32) + nI a) + nI b) + nI c) + nI d) + nI e) = nI (a + b + c + d + e) := by
  rw [show (0 : Int32) = nI 0 from rfl, nI_add, nI_add, nI_add, nI_add, nI_add, Nat.zero_add]
theorem len_sum {lie seals folds n : Nat → Int32} {f : Nat → Nat → Int32} {g : Nat → Int32} (h : PileR lie seals folds n f g) : ∃ A, A ≤ 80 ∧ F_X4_together lie seals folds n 0 = nI A := by
  have L := fun (k : Nat) (hk : k < 5) => len_nI (h k hk).1
  have L0 := L 0 (by decide)
  have L1 := L 1 (by decide)
  have L2 := L 2 (by decide)
  have L3 := L 3 (by decide)
  have L4 := L 4 (by decide)
  refine ⟨lenN (lie 0) + lenN (lie 1) + lenN (lie 2) + lenN (lie 3) + lenN (lie 4), by omega, ?_⟩
  unfold F_X4_together
  simp only [num0, L0.1, L1.1, L2.1, L3.1, L4.1, sum5]
theorem n_sum {lie seals folds n : Nat → Int32} {f : Nat → Nat → Int32} {fS : Nat → Int32} (h : PileR lie seals folds n f fS) : ∃ A, A ≤ 300 ∧ F_X4_together lie seals folds n 2 = nI A ∧ (((((0 : Int32) + F_X11_its fS 0 4) + F_X11_its fS 1 4) + F_X11_its fS 2 4) + F_X11_its fS 3 4) + F_X11_its fS 4 4 = nI A := by
  obtain ⟨N0, hN0, a0, b0, -⟩ := (h 0 (by decide)).2.2.1
  have i0 := its4 (fS := fS) (k := 0) (by decide)
  rw [show nI 0 = 0 from rfl, show fS (67 * 0 + 4) = nI N0 from b0] at i0
  obtain ⟨N1, hN1, a1, b1, -⟩ := (h 1 (by decide)).2.2.1
  have i1 := its4 (fS := fS) (k := 1) (by decide)
  rw [show nI 1 = 1 from rfl, show fS (67 * 1 + 4) = nI N1 from b1] at i1
  obtain ⟨N2, hN2, a2, b2, -⟩ := (h 2 (by decide)).2.2.1
  have i2 := its4 (fS := fS) (k := 2) (by decide)
  rw [show nI 2 = 2 from rfl, show fS (67 * 2 + 4) = nI N2 from b2] at i2
  obtain ⟨N3, hN3, a3, b3, -⟩ := (h 3 (by decide)).2.2.1
  have i3 := its4 (fS := fS) (k := 3) (by decide)
  rw [show nI 3 = 3 from rfl, show fS (67 * 3 + 4) = nI N3 from b3] at i3
  obtain ⟨N4, hN4, a4, b4, -⟩ := (h 4 (by decide)).2.2.1
  have i4 := its4 (fS := fS) (k := 4) (by decide)
  rw [show nI 4 = 4 from rfl, show fS (67 * 4 + 4) = nI N4 from b4] at i4
  refine ⟨N0 + N1 + N2 + N3 + N4, by omega, ?_, ?_⟩
  · unfold F_X4_together
    simp only [num2, a0, a1, a2, a3, a4, sum5]
  · rw [i0, i1, i2, i3, i4, sum5]
theorem nz_b {b : Nat} (hb : 1 ≤ b) (h : b ≤ 300) : (nI b = 0) = False := eq_false (fun q => by
  have := (nI_eq (b := 0) (by omega) (by decide)).mp (show nI b = nI 0 from q)
  omega)
/-- how well letters are pressed, on both sides -/
theorem pressed_ok {lie seals folds n : Nat → Int32} {f : Nat → Nat → Int32} {fS g : Nat → Int32} (h : PileR lie seals folds n f fS) : P_X10_pressed lie seals folds n ∧ P_X11_pressedNow fS g ∧ (F_X11_pressedNow fS g).1 = F_X10_pressed lie seals folds n ∧ P_X0_ofDouble (F_X10_pressed lie seals folds n) ∧ F_X0_ofDouble (F_X10_pressed lie seals folds n) = F_Jxe99ae_doubleToLongBits_ccdee (F_X10_pressed lie seals folds n) := by
  obtain ⟨A, hA, eA⟩ := len_sum h
  obtain ⟨N, hN, eN1, eN2⟩ := n_sum h
  have LE := lengths_ok (g := g) h
  have p0 := itsP4 (k := 0) (by decide)
  have p1 := itsP4 (k := 1) (by decide)
  have p2 := itsP4 (k := 2) (by decide)
  have p3 := itsP4 (k := 3) (by decide)
  have p4 := itsP4 (k := 4) (by decide)
  rcases Nat.eq_zero_or_pos N with z | z
  · subst z
    have z0 : (nI 0 = 0) = True := eq_true rfl
    have eP : F_X10_pressed lie seals folds n = FP.dconst1 := by
      unfold F_X10_pressed
      simp only [eN1, z0, if_true]
    refine ⟨?_, ?_, ?_, ?_⟩
    · unfold P_X10_pressed
      simp only [forall_eq, eN1, z0, not_true_eq_false, false_implies, implies_true, and_true]
      exact together_P h (w := 2) (by omega)
    · unfold P_X11_pressedNow
      simp only [forall_eq, eN2, z0, not_true_eq_false, false_implies, implies_true, and_true]
      exact ⟨p0, p1, p2, p3, p4⟩
    · rw [eP]
      unfold F_X11_pressedNow
      simp only [eN2, z0, if_true]
    · rw [eP]; exact one_ok
  · have z0 := nz_b z hN
    have D := div_ok hA z hN
    have eP : F_X10_pressed lie seals folds n = FP.ddiv (FP.i2d (nI A)) (FP.i2d (nI N)) := by
      unfold F_X10_pressed
      simp only [eN1, z0, if_false, eA]
    refine ⟨?_, ?_, ?_, ?_⟩
    · unfold P_X10_pressed
      simp only [forall_eq, eN1, z0, eA, not_false_eq_true, true_implies, false_implies, true_and]
      exact ⟨together_P h (w := 2) (by omega), together_P h (w := 0) (by omega), D.1⟩
    · unfold P_X11_pressedNow
      simp only [forall_eq, eN2, z0, LE.2, eA, mul1, not_false_eq_true, true_implies, false_implies, true_and]
      exact ⟨p0, p1, p2, p3, p4, LE.1, i2d_nn _, D.1⟩
    · rw [eP]
      unfold F_X11_pressedNow
      simp only [eN2, z0, if_false, LE.2, eA, mul1]
    · rw [eP]; exact D.2
theorem ag_pressed (lie : Nat → Int32) (seals : Nat → Int32) (folds : Nat → Int32) (n : Nat → Int32) (f : Nat → Nat → Int32) (lie2 : Nat → Int32) (seals2 : Nat → Int32) (folds2 : Nat → Int32) (n2 : Nat → Int32) (f2 : Nat → Nat → Int32) (lieS : Nat → Nat → Int32) (sealsS : Nat → Nat → Int32) (foldsS : Nat → Nat → Int32) (nS : Nat → Nat → Int32) (fS_ : Nat → Nat → Nat → Int32) (size : Int32) (nt : Int32) (ft : Nat → Int32) (fme : Nat → Int32) (ffo : Nat → Int32) (ffd : Nat → Int32) (kn : Int32) (taken : Int32) (known : Int32) (kept : Int32) (len : Int32) (fS : Nat → Int32) (fPast : Nat → Int32) (fSnap : Nat → Int32) (fText : Nat → Int32) (fOne : Nat → Int32) (hR : RelW lie seals folds n f lie2 seals2 folds2 n2 f2 lieS sealsS foldsS nS fS_ size nt ft fme ffo ffd kn taken known kept len fS fPast fSnap fText)  : AG_pressed lie seals folds n f lie2 seals2 folds2 n2 f2 lieS sealsS foldsS nS fS_ size nt ft fme ffo ffd kn taken known kept len fS fPast fSnap fText fOne := by
  have PR := pressed_ok (g := fOne) hR.1
  exact ⟨PR.1, PR.2.1, PR.2.2.1.symm, hR⟩
theorem ag_meanLength (lie : Nat → Int32) (seals : Nat → Int32) (folds : Nat → Int32) (n : Nat → Int32) (f : Nat → Nat → Int32) (lie2 : Nat → Int32) (seals2 : Nat → Int32) (folds2 : Nat → Int32) (n2 : Nat → Int32) (f2 : Nat → Nat → Int32) (lieS : Nat → Nat → Int32) (sealsS : Nat → Nat → Int32) (foldsS : Nat → Nat → Int32) (nS : Nat → Nat → Int32) (fS_ : Nat → Nat → Nat → Int32) (size : Int32) (nt : Int32) (ft : Nat → Int32) (fme : Nat → Int32) (ffo : Nat → Int32) (ffd : Nat → Int32) (kn : Int32) (taken : Int32) (known : Int32) (kept : Int32) (len : Int32) (fS : Nat → Int32) (fPast : Nat → Int32) (fSnap : Nat → Int32) (fText : Nat → Int32) (fOne : Nat → Int32) (hR : RelW lie seals folds n f lie2 seals2 folds2 n2 f2 lieS sealsS foldsS nS fS_ size nt ft fme ffo ffd kn taken known kept len fS fPast fSnap fText)  : AG_meanLength lie seals folds n f lie2 seals2 folds2 n2 f2 lieS sealsS foldsS nS fS_ size nt ft fme ffo ffd kn taken known kept len fS fPast fSnap fText fOne := by
  obtain ⟨A, hA, eA⟩ := len_sum hR.1
  have LE := lengths_ok (g := fOne) hR.1
  have ME := mean_ok hA
  have e1 : F_X10_meanLength lie seals folds n = FP.fdiv (FP.i2f (nI A)) 1084227584 := by
    unfold F_X10_meanLength
    simp only [eA]
  have e2 : (F_X11_meanLength fS fOne).1 = FP.fdiv (FP.i2f (nI A)) 1084227584 := by
    unfold F_X11_meanLength
    simp only [LE.2, eA]
  unfold AG_meanLength
  rw [e1, e2]
  refine ⟨?_, ME.2.1, ?_, ME.2.1, rfl, hR⟩
  · unfold P_X10_meanLength
    simp only [forall_eq, eA]
    exact ⟨together_P hR.1 (w := 0) (by omega), ME.1⟩
  · unfold P_X11_meanLength
    simp only [forall_eq, LE.2, eA]
    exact ⟨LE.1, ME.1⟩

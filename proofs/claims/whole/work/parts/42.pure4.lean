theorem i10 : ((1 : Int32) = 0) = False := eq_false (by decide)
theorem i20 : ((2 : Int32) = 0) = False := eq_false (by decide)
theorem i00 : ((0 : Int32) = 0) = True := eq_self _
theorem le00 : ((0 : Int32) ≤ 0) = True := eq_true (by decide)
theorem le10 : ((1 : Int32) ≤ 0) = False := eq_false (by decide)
theorem le20 : ((2 : Int32) ≤ 0) = False := eq_false (by decide)
theorem l0m : ((0 : Int32) ≤ -1) = False := eq_false (by decide)
theorem l00 : ((0 : Int32) ≤ 0) = True := eq_true (by decide)
theorem l01 : ((0 : Int32) ≤ 1) = True := eq_true (by decide)
theorem l02 : ((0 : Int32) ≤ 2) = True := eq_true (by decide)
theorem thr0 : F_X11_throwsAt 0 = (0, 0) := rfl
theorem thr1 : F_X11_throwsAt 1 = (1, 1) := rfl
theorem thr2 : F_X11_throwsAt 2 = (1, 2) := rfl
theorem q0_1 : ((0 : Int32) = 1) = False := eq_false (by decide)
theorem q0_2 : ((0 : Int32) = 2) = False := eq_false (by decide)
theorem q0_3 : ((0 : Int32) = 3) = False := eq_false (by decide)
theorem q0_4 : ((0 : Int32) = 4) = False := eq_false (by decide)
theorem q0_5 : ((0 : Int32) = 5) = False := eq_false (by decide)
theorem q0_6 : ((0 : Int32) = 6) = False := eq_false (by decide)
theorem q0_7 : ((0 : Int32) = 7) = False := eq_false (by decide)
theorem q0_8 : ((0 : Int32) = 8) = False := eq_false (by decide)
theorem q0_9 : ((0 : Int32) = 9) = False := eq_false (by decide)
theorem q0_10 : ((0 : Int32) = 10) = False := eq_false (by decide)
theorem q1_0 : ((1 : Int32) = 0) = False := eq_false (by decide)
theorem q1_2 : ((1 : Int32) = 2) = False := eq_false (by decide)
theorem q1_3 : ((1 : Int32) = 3) = False := eq_false (by decide)
theorem q1_4 : ((1 : Int32) = 4) = False := eq_false (by decide)
theorem q1_5 : ((1 : Int32) = 5) = False := eq_false (by decide)
theorem q1_6 : ((1 : Int32) = 6) = False := eq_false (by decide)
theorem q1_7 : ((1 : Int32) = 7) = False := eq_false (by decide)
theorem q1_8 : ((1 : Int32) = 8) = False := eq_false (by decide)
theorem q1_9 : ((1 : Int32) = 9) = False := eq_false (by decide)
theorem q1_10 : ((1 : Int32) = 10) = False := eq_false (by decide)
theorem q2_0 : ((2 : Int32) = 0) = False := eq_false (by decide)
theorem q2_1 : ((2 : Int32) = 1) = False := eq_false (by decide)
theorem q2_3 : ((2 : Int32) = 3) = False := eq_false (by decide)
theorem q2_4 : ((2 : Int32) = 4) = False := eq_false (by decide)
theorem q2_5 : ((2 : Int32) = 5) = False := eq_false (by decide)
theorem q2_6 : ((2 : Int32) = 6) = False := eq_false (by decide)
theorem q2_7 : ((2 : Int32) = 7) = False := eq_false (by decide)
theorem q2_8 : ((2 : Int32) = 8) = False := eq_false (by decide)
theorem q2_9 : ((2 : Int32) = 9) = False := eq_false (by decide)
theorem q2_10 : ((2 : Int32) = 10) = False := eq_false (by decide)
theorem q3_0 : ((3 : Int32) = 0) = False := eq_false (by decide)
theorem q3_1 : ((3 : Int32) = 1) = False := eq_false (by decide)
theorem q3_2 : ((3 : Int32) = 2) = False := eq_false (by decide)
theorem q3_4 : ((3 : Int32) = 4) = False := eq_false (by decide)
theorem q3_5 : ((3 : Int32) = 5) = False := eq_false (by decide)
theorem q3_6 : ((3 : Int32) = 6) = False := eq_false (by decide)
theorem q3_7 : ((3 : Int32) = 7) = False := eq_false (by decide)
theorem q3_8 : ((3 : Int32) = 8) = False := eq_false (by decide)
theorem q3_9 : ((3 : Int32) = 9) = False := eq_false (by decide)
theorem q3_10 : ((3 : Int32) = 10) = False := eq_false (by decide)
theorem q4_0 : ((4 : Int32) = 0) = False := eq_false (by decide)
theorem q4_1 : ((4 : Int32) = 1) = False := eq_false (by decide)
theorem q4_2 : ((4 : Int32) = 2) = False := eq_false (by decide)
theorem q4_3 : ((4 : Int32) = 3) = False := eq_false (by decide)
theorem q4_5 : ((4 : Int32) = 5) = False := eq_false (by decide)
theorem q4_6 : ((4 : Int32) = 6) = False := eq_false (by decide)
theorem q4_7 : ((4 : Int32) = 7) = False := eq_false (by decide)
theorem q4_8 : ((4 : Int32) = 8) = False := eq_false (by decide)
theorem q4_9 : ((4 : Int32) = 9) = False := eq_false (by decide)
theorem q4_10 : ((4 : Int32) = 10) = False := eq_false (by decide)
theorem q5_0 : ((5 : Int32) = 0) = False := eq_false (by decide)
theorem q5_1 : ((5 : Int32) = 1) = False := eq_false (by decide)
theorem q5_2 : ((5 : Int32) = 2) = False := eq_false (by decide)
theorem q5_3 : ((5 : Int32) = 3) = False := eq_false (by decide)
theorem q5_4 : ((5 : Int32) = 4) = False := eq_false (by decide)
theorem q5_6 : ((5 : Int32) = 6) = False := eq_false (by decide)
theorem q5_7 : ((5 : Int32) = 7) = False := eq_false (by decide)
theorem q5_8 : ((5 : Int32) = 8) = False := eq_false (by decide)
theorem q5_9 : ((5 : Int32) = 9) = False := eq_false (by decide)
theorem q5_10 : ((5 : Int32) = 10) = False := eq_false (by decide)
theorem q6_0 : ((6 : Int32) = 0) = False := eq_false (by decide)
theorem q6_1 : ((6 : Int32) = 1) = False := eq_false (by decide)
theorem q6_2 : ((6 : Int32) = 2) = False := eq_false (by decide)
theorem q6_3 : ((6 : Int32) = 3) = False := eq_false (by decide)
theorem q6_4 : ((6 : Int32) = 4) = False := eq_false (by decide)
theorem q6_5 : ((6 : Int32) = 5) = False := eq_false (by decide)
theorem q6_7 : ((6 : Int32) = 7) = False := eq_false (by decide)
theorem q6_8 : ((6 : Int32) = 8) = False := eq_false (by decide)
theorem q6_9 : ((6 : Int32) = 9) = False := eq_false (by decide)
theorem q6_10 : ((6 : Int32) = 10) = False := eq_false (by decide)
theorem q7_0 : ((7 : Int32) = 0) = False := eq_false (by decide)
theorem q7_1 : ((7 : Int32) = 1) = False := eq_false (by decide)
theorem q7_2 : ((7 : Int32) = 2) = False := eq_false (by decide)
theorem q7_3 : ((7 : Int32) = 3) = False := eq_false (by decide)
theorem q7_4 : ((7 : Int32) = 4) = False := eq_false (by decide)
theorem q7_5 : ((7 : Int32) = 5) = False := eq_false (by decide)
theorem q7_6 : ((7 : Int32) = 6) = False := eq_false (by decide)
theorem q7_8 : ((7 : Int32) = 8) = False := eq_false (by decide)
theorem q7_9 : ((7 : Int32) = 9) = False := eq_false (by decide)
theorem q7_10 : ((7 : Int32) = 10) = False := eq_false (by decide)
theorem q8_0 : ((8 : Int32) = 0) = False := eq_false (by decide)
theorem q8_1 : ((8 : Int32) = 1) = False := eq_false (by decide)
theorem q8_2 : ((8 : Int32) = 2) = False := eq_false (by decide)
theorem q8_3 : ((8 : Int32) = 3) = False := eq_false (by decide)
theorem q8_4 : ((8 : Int32) = 4) = False := eq_false (by decide)
theorem q8_5 : ((8 : Int32) = 5) = False := eq_false (by decide)
theorem q8_6 : ((8 : Int32) = 6) = False := eq_false (by decide)
theorem q8_7 : ((8 : Int32) = 7) = False := eq_false (by decide)
theorem q8_9 : ((8 : Int32) = 9) = False := eq_false (by decide)
theorem q8_10 : ((8 : Int32) = 10) = False := eq_false (by decide)
theorem q9_0 : ((9 : Int32) = 0) = False := eq_false (by decide)
theorem q9_1 : ((9 : Int32) = 1) = False := eq_false (by decide)
theorem q9_2 : ((9 : Int32) = 2) = False := eq_false (by decide)
theorem q9_3 : ((9 : Int32) = 3) = False := eq_false (by decide)
theorem q9_4 : ((9 : Int32) = 4) = False := eq_false (by decide)
theorem q9_5 : ((9 : Int32) = 5) = False := eq_false (by decide)
theorem q9_6 : ((9 : Int32) = 6) = False := eq_false (by decide)
theorem q9_7 : ((9 : Int32) = 7) = False := eq_false (by decide)
theorem q9_8 : ((9 : Int32) = 8) = False := eq_false (by decide)
theorem q9_10 : ((9 : Int32) = 10) = False := eq_false (by decide)
theorem q10_0 : ((10 : Int32) = 0) = False := eq_false (by decide)
theorem q10_1 : ((10 : Int32) = 1) = False := eq_false (by decide)
theorem q10_2 : ((10 : Int32) = 2) = False := eq_false (by decide)
theorem q10_3 : ((10 : Int32) = 3) = False := eq_false (by decide)
theorem q10_4 : ((10 : Int32) = 4) = False := eq_false (by decide)
theorem q10_5 : ((10 : Int32) = 5) = False := eq_false (by decide)
theorem q10_6 : ((10 : Int32) = 6) = False := eq_false (by decide)
theorem q10_7 : ((10 : Int32) = 7) = False := eq_false (by decide)
theorem q10_8 : ((10 : Int32) = 8) = False := eq_false (by decide)
theorem q10_9 : ((10 : Int32) = 9) = False := eq_false (by decide)
theorem nI_mul (a b : Nat) : nI a * nI b = nI (a * b) := (Int32.ofNat_mul a b).symm
theorem ix {k W : Nat} : ((67 : Int32) * nI k) + nI W = nI (67 * k + W) := by rw [show (67 : Int32) = nI 67 from rfl, nI_mul, nI_add]
theorem its_eq {fS : Nat → Int32} {k W : Nat} (hk : k < 5) (hW : W < 67) : F_X11_its fS (nI k) (nI W) = fS (67 * k + W) := by
  unfold F_X11_its
  rw [ix, nI_clamp (by omega)]
theorem its_P {k W : Nat} (hk : k < 5) (hW : W < 67) : P_X11_its (nI k) (nI W) := by
  unfold P_X11_its
  rw [ix]
  exact vp_in_nI (by omega) (by decide)
theorem its0 {fS : Nat → Int32} {k : Nat} (hk : k < 5) : F_X11_its fS (nI k) 0 = fS (67 * k + 0) := its_eq hk (W := 0) (by decide)
theorem itsP0 {k : Nat} (hk : k < 5) : P_X11_its (nI k) 0 := its_P hk (W := 0) (by decide)
theorem cl0 {k : Nat} (hk : k < 5) : (((67 : Int32) * nI k) + 0).toNatClampNeg = 67 * k + 0 := by rw [show (0 : Int32) = nI 0 from rfl, ix, nI_clamp (by omega)]
theorem vi0 {k : Nat} (hk : k < 5) : vp_in (((67 : Int32) * nI k) + 0) 335 := by rw [show (0 : Int32) = nI 0 from rfl, ix]; exact vp_in_nI (by omega) (by decide)
theorem its1 {fS : Nat → Int32} {k : Nat} (hk : k < 5) : F_X11_its fS (nI k) 1 = fS (67 * k + 1) := its_eq hk (W := 1) (by decide)
theorem itsP1 {k : Nat} (hk : k < 5) : P_X11_its (nI k) 1 := its_P hk (W := 1) (by decide)
theorem cl1 {k : Nat} (hk : k < 5) : (((67 : Int32) * nI k) + 1).toNatClampNeg = 67 * k + 1 := by rw [show (1 : Int32) = nI 1 from rfl, ix, nI_clamp (by omega)]
theorem vi1 {k : Nat} (hk : k < 5) : vp_in (((67 : Int32) * nI k) + 1) 335 := by rw [show (1 : Int32) = nI 1 from rfl, ix]; exact vp_in_nI (by omega) (by decide)
theorem its2 {fS : Nat → Int32} {k : Nat} (hk : k < 5) : F_X11_its fS (nI k) 2 = fS (67 * k + 2) := its_eq hk (W := 2) (by decide)
theorem itsP2 {k : Nat} (hk : k < 5) : P_X11_its (nI k) 2 := its_P hk (W := 2) (by decide)
theorem cl2 {k : Nat} (hk : k < 5) : (((67 : Int32) * nI k) + 2).toNatClampNeg = 67 * k + 2 := by rw [show (2 : Int32) = nI 2 from rfl, ix, nI_clamp (by omega)]
theorem vi2 {k : Nat} (hk : k < 5) : vp_in (((67 : Int32) * nI k) + 2) 335 := by rw [show (2 : Int32) = nI 2 from rfl, ix]; exact vp_in_nI (by omega) (by decide)
theorem its3 {fS : Nat → Int32} {k : Nat} (hk : k < 5) : F_X11_its fS (nI k) 3 = fS (67 * k + 3) := its_eq hk (W := 3) (by decide)
theorem itsP3 {k : Nat} (hk : k < 5) : P_X11_its (nI k) 3 := its_P hk (W := 3) (by decide)
theorem cl3 {k : Nat} (hk : k < 5) : (((67 : Int32) * nI k) + 3).toNatClampNeg = 67 * k + 3 := by rw [show (3 : Int32) = nI 3 from rfl, ix, nI_clamp (by omega)]
theorem vi3 {k : Nat} (hk : k < 5) : vp_in (((67 : Int32) * nI k) + 3) 335 := by rw [show (3 : Int32) = nI 3 from rfl, ix]; exact vp_in_nI (by omega) (by decide)
theorem its4 {fS : Nat → Int32} {k : Nat} (hk : k < 5) : F_X11_its fS (nI k) 4 = fS (67 * k + 4) := its_eq hk (W := 4) (by decide)
theorem itsP4 {k : Nat} (hk : k < 5) : P_X11_its (nI k) 4 := its_P hk (W := 4) (by decide)
theorem cl4 {k : Nat} (hk : k < 5) : (((67 : Int32) * nI k) + 4).toNatClampNeg = 67 * k + 4 := by rw [show (4 : Int32) = nI 4 from rfl, ix, nI_clamp (by omega)]
theorem vi4 {k : Nat} (hk : k < 5) : vp_in (((67 : Int32) * nI k) + 4) 335 := by rw [show (4 : Int32) = nI 4 from rfl, ix]; exact vp_in_nI (by omega) (by decide)
theorem its5 {fS : Nat → Int32} {k : Nat} (hk : k < 5) : F_X11_its fS (nI k) 5 = fS (67 * k + 5) := its_eq hk (W := 5) (by decide)
theorem itsP5 {k : Nat} (hk : k < 5) : P_X11_its (nI k) 5 := its_P hk (W := 5) (by decide)
theorem cl5 {k : Nat} (hk : k < 5) : (((67 : Int32) * nI k) + 5).toNatClampNeg = 67 * k + 5 := by rw [show (5 : Int32) = nI 5 from rfl, ix, nI_clamp (by omega)]
theorem vi5 {k : Nat} (hk : k < 5) : vp_in (((67 : Int32) * nI k) + 5) 335 := by rw [show (5 : Int32) = nI 5 from rfl, ix]; exact vp_in_nI (by omega) (by decide)
theorem its6 {fS : Nat → Int32} {k : Nat} (hk : k < 5) : F_X11_its fS (nI k) 6 = fS (67 * k + 6) := its_eq hk (W := 6) (by decide)
theorem itsP6 {k : Nat} (hk : k < 5) : P_X11_its (nI k) 6 := its_P hk (W := 6) (by decide)
theorem cl6 {k : Nat} (hk : k < 5) : (((67 : Int32) * nI k) + 6).toNatClampNeg = 67 * k + 6 := by rw [show (6 : Int32) = nI 6 from rfl, ix, nI_clamp (by omega)]
theorem vi6 {k : Nat} (hk : k < 5) : vp_in (((67 : Int32) * nI k) + 6) 335 := by rw [show (6 : Int32) = nI 6 from rfl, ix]; exact vp_in_nI (by omega) (by decide)
theorem its7 {fS : Nat → Int32} {k : Nat} (hk : k < 5) : F_X11_its fS (nI k) 7 = fS (67 * k + 7) := its_eq hk (W := 7) (by decide)
theorem itsP7 {k : Nat} (hk : k < 5) : P_X11_its (nI k) 7 := its_P hk (W := 7) (by decide)
theorem cl7 {k : Nat} (hk : k < 5) : (((67 : Int32) * nI k) + 7).toNatClampNeg = 67 * k + 7 := by rw [show (7 : Int32) = nI 7 from rfl, ix, nI_clamp (by omega)]
theorem vi7 {k : Nat} (hk : k < 5) : vp_in (((67 : Int32) * nI k) + 7) 335 := by rw [show (7 : Int32) = nI 7 from rfl, ix]; exact vp_in_nI (by omega) (by decide)
theorem e4_takes {fS g : Nat → Int32} {k : Nat} {L : Int32} (hk : k < 5) (h : ∀ p, p < 4 → fS (67 * k + p) = lay L p) : E4 (F_X11_takes fS g (nI k)) L := by
  refine E4.of fun p hp => ?_
  unfold F_X11_takes
  rw [its0 hk, its1 hk, its2 hk, its3 hk, ← h p hp]
  exact upd4 g (fun p => fS (67 * k + p)) hp
theorem e4_takesO {fS g : Nat → Int32} {k : Nat} {L : Int32} (hk : k < 5) (h : ∀ p, p < 4 → fS (67 * k + p) = lay L p) : E4 (F_X11_takesOther fS g (nI k)) L := by
  refine E4.of fun p hp => ?_
  unfold F_X11_takesOther
  rw [its0 hk, its1 hk, its2 hk, its3 hk, ← h p hp]
  exact upd4 g (fun p => fS (67 * k + p)) hp
theorem p_takes {fS g : Nat → Int32} {k : Nat} (hk : k < 5) : P_X11_takes fS g (nI k) := by
  unfold P_X11_takes
  simp only [forall_eq]
  exact ⟨itsP0 hk, itsP1 hk, itsP2 hk, itsP3 hk⟩
theorem p_takesO {fS g : Nat → Int32} {k : Nat} (hk : k < 5) : P_X11_takesOther fS g (nI k) := by
  unfold P_X11_takesOther
  simp only [forall_eq]
  exact ⟨itsP0 hk, itsP1 hk, itsP2 hk, itsP3 hk⟩
theorem LetR.layp {l s fo nn : Int32} {ff g : Nat → Int32} (h : LetR l s fo nn ff g) {p : Nat} (hp : p < 4) : g p = lay l p := h.2.1 p hp
theorem lengthOf_ok {fS g : Nat → Int32} {k : Nat} {l s fo nn : Int32} {ff : Nat → Int32} (hk : k < 5) (h : LetR l s fo nn ff (fun i => fS (67 * k + i))) : P_X11_lengthOf fS g (nI k) ∧ (F_X11_lengthOf fS g (nI k)).1 = F_X3_length l := by
  unfold P_X11_lengthOf F_X11_lengthOf
  exact ⟨p_takes hk, e4_len (e4_takes hk (fun p hp => h.layp hp)) h.1⟩
theorem foldedBack_ok {fS g : Nat → Int32} {k : Nat} {l s fo nn : Int32} {ff : Nat → Int32} (hk : k < 5) (h : LetR l s fo nn ff (fun i => fS (67 * k + i))) : P_X11_foldedBack fS g (nI k) ∧ (F_X11_foldedBack fS g (nI k)).1 = F_X3_foldsBack l := by
  have hE := e4_takes (g := g) hk (fun p hp => h.layp hp)
  have h16 := (len_nI h.1).2
  have K := mb_loop 100 l h.1 0 0 _ (Nat.zero_le _) (by omega) (by omega) hE
  rw [show nI 0 = 0 from rfl] at K
  unfold P_X11_foldedBack F_X11_foldedBack
  simp only [forall_eq]
  refine ⟨⟨p_takes hk, K.1⟩, ?_⟩
  rw [K.2, Nat.zero_add, (foldsBack_ok h.1).2, (len_nI h.1).1]
theorem period_okS {fS g t b : Nat → Int32} {k : Nat} {l s fo nn : Int32} {ff : Nat → Int32} (hk : k < 5) (h : LetR l s fo nn ff (fun i => fS (67 * k + i))) : P_X11_period fS g t b (nI k) ∧ (F_X11_period fS g t b (nI k)).1 = F_X3_period l := by
  have K := period_ok (b := b) h.1 (e4_takes (g := g) hk (fun p hp => h.layp hp)) (e4_takesO (g := t) hk (fun p hp => h.layp hp))
  unfold P_X11_period F_X11_period
  simp only [forall_eq]
  exact ⟨⟨p_takes hk, p_takesO hk, K.1⟩, K.2.2⟩
theorem mirror_ok {fS : Nat → Int32} {k : Nat} {l s fo nn : Int32} {ff : Nat → Int32} (hk : k < 5) (h : LetR l s fo nn ff (fun i => fS (67 * k + i))) : P_X11_isMirror fS (nI k) ∧ F_X11_isMirror fS (nI k) = F_X3_isMirror l := by
  have h0 : fS (67 * k + 0) = lay l 0 := h.layp (by decide)
  have h1 : fS (67 * k + 1) = lay l 1 := h.layp (by decide)
  have h2 : fS (67 * k + 2) = lay l 2 := h.layp (by decide)
  have h3 : fS (67 * k + 3) = lay l 3 := h.layp (by decide)
  constructor
  · unfold P_X11_isMirror
    simp only [forall_eq, its0 hk, its1 hk, its2 hk, its3 hk, h0, h1, h2, h3]
    refine ⟨itsP0 hk, itsP1 hk, itsP2 hk, itsP3 hk, ?_⟩
    refine ⟨fun hx => ?_, fun _ => trivial⟩
    by_cases a0 : lay l 0 = 1
    · by_cases a1 : lay l 1 = 2
      · by_cases a2 : lay l 2 = 3
        · by_cases a3 : lay l 3 = 4
          · refine absurd hx ?_
            try simp only [a0, a1, a2, a3, if_true, if_false]
            try decide
          · refine absurd hx ?_
            try simp only [a0, a1, a2, a3, if_true, if_false]
            try decide
        · by_cases a3 : lay l 3 = 4
          · refine absurd hx ?_
            try simp only [a0, a1, a2, a3, if_true, if_false]
            try decide
          · simp only [a0, a1, a2, a3, if_true, if_false, l0m, l00, l01, l02]
            exact itsP2 hk
      · by_cases a2 : lay l 2 = 3
        · by_cases a3 : lay l 3 = 4
          · refine absurd hx ?_
            try simp only [a0, a1, a2, a3, if_true, if_false]
            try decide
          · simp only [a0, a1, a2, a3, if_true, if_false, l0m, l00, l01, l02]
            exact itsP1 hk
        · by_cases a3 : lay l 3 = 4
          · simp only [a0, a1, a2, a3, if_true, if_false, l0m, l00, l01, l02]
            exact itsP1 hk
          · refine absurd hx ?_
            try simp only [a0, a1, a2, a3, if_true, if_false]
            try decide
    · by_cases a1 : lay l 1 = 2
      · by_cases a2 : lay l 2 = 3
        · by_cases a3 : lay l 3 = 4
          · refine absurd hx ?_
            try simp only [a0, a1, a2, a3, if_true, if_false]
            try decide
          · simp only [a0, a1, a2, a3, if_true, if_false, l0m, l00, l01, l02]
            exact itsP0 hk
        · by_cases a3 : lay l 3 = 4
          · simp only [a0, a1, a2, a3, if_true, if_false, l0m, l00, l01, l02]
            exact itsP0 hk
          · refine absurd hx ?_
            try simp only [a0, a1, a2, a3, if_true, if_false]
            try decide
      · by_cases a2 : lay l 2 = 3
        · by_cases a3 : lay l 3 = 4
          · simp only [a0, a1, a2, a3, if_true, if_false, l0m, l00, l01, l02]
            exact itsP0 hk
          · refine absurd hx ?_
            try simp only [a0, a1, a2, a3, if_true, if_false]
            try decide
        · by_cases a3 : lay l 3 = 4
          · refine absurd hx ?_
            try simp only [a0, a1, a2, a3, if_true, if_false]
            try decide
          · refine absurd hx ?_
            try simp only [a0, a1, a2, a3, if_true, if_false]
            try decide
  · rw [← of_decide_eq_true (allL_of pf_mir h.1)]
    have e0 : F_X11_its (lay l) 0 0 = lay l 0 := rfl
    have e1 : F_X11_its (lay l) 0 1 = lay l 1 := rfl
    have e2 : F_X11_its (lay l) 0 2 = lay l 2 := rfl
    have e3 : F_X11_its (lay l) 0 3 = lay l 3 := rfl
    have f0 : F_X11_its fS (nI k) 0 = lay l 0 := by rw [its0 hk, h0]
    have f1 : F_X11_its fS (nI k) 1 = lay l 1 := by rw [its1 hk, h1]
    have f2 : F_X11_its fS (nI k) 2 = lay l 2 := by rw [its2 hk, h2]
    have f3 : F_X11_its fS (nI k) 3 = lay l 3 := by rw [its3 hk, h3]
    unfold F_X11_isMirror
    simp only [e0, e1, e2, e3, f0, f1, f2, f3]
    by_cases a0 : lay l 0 = 1 <;> by_cases a1 : lay l 1 = 2 <;> by_cases a2 : lay l 2 = 3 <;> by_cases a3 : lay l 3 = 4 <;> simp only [a0, a1, a2, a3, if_true, if_false, l0m, l00, l01, l02, q0_2, e0, e1, e2, e3, f0, f1, f2, f3]
theorem layers_ok {fS : Nat → Int32} {k : Nat} {l s fo nn : Int32} {ff : Nat → Int32} (hk : k < 5) (h : LetR l s fo nn ff (fun i => fS (67 * k + i))) : (∀ w, P_X11_layers fS (nI k) w) ∧ F_X11_layers fS (nI k) 5 = F_X3_layersHome l ∧ F_X11_layers fS (nI k) 6 = F_X3_layersTurned l := by
  have f0 : F_X11_its fS (nI k) 0 = F_X11_its (lay l) 0 0 := by rw [its0 hk]; exact h.layp (by decide)
  have f1 : F_X11_its fS (nI k) 1 = F_X11_its (lay l) 0 1 := by rw [its1 hk]; exact h.layp (by decide)
  have f2 : F_X11_its fS (nI k) 2 = F_X11_its (lay l) 0 2 := by rw [its2 hk]; exact h.layp (by decide)
  have f3 : F_X11_its fS (nI k) 3 = F_X11_its (lay l) 0 3 := by rw [its3 hk]; exact h.layp (by decide)
  have hh := allL_of pf_home h.1
  rw [Bool.and_eq_true, decide_eq_true_eq, decide_eq_true_eq] at hh
  refine ⟨fun w => ?_, ?_, ?_⟩
  · unfold P_X11_layers
    simp only [forall_eq]
    exact ⟨⟨fun _ => itsP0 hk, fun _ => itsP0 hk⟩, ⟨fun _ => itsP1 hk, fun _ => itsP1 hk⟩, ⟨fun _ => itsP2 hk, fun _ => itsP2 hk⟩, ⟨fun _ => itsP3 hk, fun _ => itsP3 hk⟩⟩
  · rw [← hh.1]
    unfold F_X11_layers
    rw [f0, f1, f2, f3]
  · rw [← hh.2]
    unfold F_X11_layers
    rw [f0, f1, f2, f3]
theorem pf_touch : (List.range 16).all (fun S => c4.all (fun c => decide ((if c = 0 then (if ((nI S) &&& 1) = 1 then (1 : Int32) else 0) else (if (((nI S) >>> ((c - 1) &&& 31)) &&& 3) = 0 then 0 else 1)) = F_X2_touchesSeal (nI S) c))) = true := by decide +kernel
theorem touches_ok {fS : Nat → Int32} {k : Nat} {l s fo nn : Int32} {ff : Nat → Int32} (hk : k < 5) (h : LetR l s fo nn ff (fun i => fS (67 * k + i))) {c : Int32} (hc : C4 c) : P_X11_touches (nI k) ∧ F_X11_touches fS (nI k) c = F_X2_touchesSeal s c := by
  obtain ⟨S, hS, rfl, hg⟩ := h.2.2.2.1
  refine ⟨itsP5 hk, ?_⟩
  unfold F_X11_touches
  dsimp only
  rw [its5 hk, show fS (67 * k + 5) = nI S from hg]
  exact of_decide_eq_true (c4_of (List.all_eq_true.mp pf_touch S (List.mem_range.mpr hS)) hc)
theorem reason_ok {fS : Nat → Int32} {k : Nat} {l s fo nn : Int32} {ff : Nat → Int32} (hk : k < 5) (h : LetR l s fo nn ff (fun i => fS (67 * k + i))) {c : Int32} (hc : C4 c) : P_X11_reason fS (nI k) ∧ F_X11_reason fS (nI k) c = F_X2_reasonAgainst s nn c := by
  obtain ⟨N, hN, e, hg, -⟩ := h.2.2.1
  have ht := touches_ok hk h hc
  have hb := touches_ok hk h (c := 0) (Or.inl rfl)
  constructor
  · unfold P_X11_reason
    simp only [forall_eq]
    exact ⟨itsP4 hk, fun _ => trivial, fun _ => ht.1⟩
  · unfold F_X11_reason F_X2_reasonAgainst F_X6_isFull
    dsimp only
    rw [its4 hk, show fS (67 * k + 4) = nI N from hg, ht.2, e]
    by_cases h60 : N = 60
    · subst h60
      rw [if_pos (show nI 60 = 60 from rfl), if_neg (show ¬ nI 60 < 60 by decide), if_neg (by decide)]
    · rw [if_neg (show ¬ nI N = 60 from fun q => h60 ((nI_eq (b := 60) (by omega) (by decide)).mp q)), if_pos (show nI N < 60 from nI_lt (b := 60) (by omega) (by decide)), if_pos rfl]
theorem reason_val (s nn c : Int32) : F_X2_reasonAgainst s nn c = 0 ∨ F_X2_reasonAgainst s nn c = 1 ∨ F_X2_reasonAgainst s nn c = 2 := by
  unfold F_X2_reasonAgainst
  dsimp only
  split
  · split
    · exact Or.inl rfl
    · exact Or.inr (Or.inr rfl)
  · exact Or.inr (Or.inl rfl)
theorem foldedLength_ok {fS g : Nat → Int32} {k : Nat} {l s fo nn : Int32} {ff : Nat → Int32} (hk : k < 5) (h : LetR l s fo nn ff (fun i => fS (67 * k + i))) {c : Int32} (hc : C4 c) : P_X11_foldedLength fS g (nI k) c ∧ (F_X11_foldedLength fS g (nI k) c).1 = F_X3_length (F_X3_folded l c) := by
  have hE := e4_takes (g := g) hk (fun p hp => h.layp hp)
  unfold P_X11_foldedLength F_X11_foldedLength
  simp only [forall_eq]
  exact ⟨⟨p_takes hk, p_fold _ hc⟩, e4_len (e4_fold hE h.1 hc) (lie_fold h.1 hc)⟩
theorem short_iff {L c : Int32} (hL : L ∈ lies) (hc : C4 c) : (F_X3_length L ≤ F_X3_length (F_X3_folded L c)) ↔ F_X3_isShortenedBy L c = 0 := by
  have h := c4_of (allL_of pf_short hL) hc
  rw [beq_iff_eq] at h
  by_cases a : F_X3_isShortenedBy L c = 0
  · rw [decide_eq_true a] at h
    have := of_decide_eq_false h
    exact ⟨fun _ => a, fun _ => Int32.not_lt.mp this⟩
  · rw [decide_eq_false a] at h
    have := of_decide_eq_true h
    exact ⟨fun q => absurd this (Int32.not_lt.mpr q), fun q => absurd q a⟩
theorem le0_val {x : Int32} (h : x = 0 ∨ x = 1 ∨ x = 2) : x ≤ 0 ↔ x = 0 := by rcases h with rfl | rfl | rfl <;> decide

theorem creases8_ok {fS g : Nat → Int32} {k : Nat} {l s fo nn : Int32} {ff : Nat → Int32} (hk : k < 5) (h : LetR l s fo nn ff (fun i => fS (67 * k + i))) : P_X11_creasesOf fS g (nI k) 8 ∧ (F_X11_creasesOf fS g (nI k) 8).1 = F_X3_shorteningMask l := by
  have FL := fun (g : Nat → Int32) {c : Int32} (hc : C4 c) => foldedLength_ok (g := g) hk h hc
  have SH := fun {c : Int32} (hc : C4 c) => short_iff h.1 hc
  have s0 := SH (c := 0) (Or.inl rfl)
  have s1 := SH (c := 1) (Or.inr (Or.inl rfl))
  have s2 := SH (c := 2) (Or.inr (Or.inr (Or.inl rfl)))
  have s3 := SH (c := 3) (Or.inr (Or.inr (Or.inr rfl)))
  constructor
  · unfold P_X11_creasesOf
    simp only [forall_eq, true_implies, not_true_eq_false, false_implies, and_true]
    exact ⟨(lengthOf_ok hk h).1, (FL _ (Or.inl rfl)).1, (FL _ (Or.inr (Or.inl rfl))).1, (FL _ (Or.inr (Or.inr (Or.inl rfl)))).1, (FL _ (Or.inr (Or.inr (Or.inr rfl)))).1⟩
  · unfold F_X11_creasesOf F_X3_shorteningMask
    simp only [if_true, (lengthOf_ok hk h).2, (FL _ (Or.inl rfl)).2, (FL _ (Or.inr (Or.inl rfl))).2, (FL _ (Or.inr (Or.inr (Or.inl rfl)))).2, (FL _ (Or.inr (Or.inr (Or.inr rfl)))).2, s0, s1, s2, s3]
    by_cases a0 : F_X3_isShortenedBy l 0 = 0 <;> by_cases a1 : F_X3_isShortenedBy l 1 = 0 <;> by_cases a2 : F_X3_isShortenedBy l 2 = 0 <;> by_cases a3 : F_X3_isShortenedBy l 3 = 0 <;> simp only [a0, a1, a2, a3, if_true, if_false] <;> rfl
theorem creases9_ok {fS g : Nat → Int32} {k : Nat} {l s fo nn : Int32} {ff : Nat → Int32} (hk : k < 5) (h : LetR l s fo nn ff (fun i => fS (67 * k + i))) : P_X11_creasesOf fS g (nI k) 9 ∧ (F_X11_creasesOf fS g (nI k) 9).1 = F_X2_barredMask s nn := by
  have RS := fun {c : Int32} (hc : C4 c) => reason_ok hk h hc
  have h98 : ¬ (9 : Int32) = 8 := by decide
  constructor
  · unfold P_X11_creasesOf
    simp only [forall_eq, h98, false_implies, not_false_eq_true, true_implies, true_and]
    exact ⟨(lengthOf_ok hk h).1, (RS (c := 0) (Or.inl rfl)).1, (RS (c := 0) (Or.inl rfl)).1, (RS (c := 0) (Or.inl rfl)).1, (RS (c := 0) (Or.inl rfl)).1⟩
  · unfold F_X11_creasesOf F_X2_barredMask
    simp only [if_neg h98, (RS (Or.inl rfl)).2, (RS (Or.inr (Or.inl rfl))).2, (RS (Or.inr (Or.inr (Or.inl rfl)))).2, (RS (Or.inr (Or.inr (Or.inr rfl)))).2, le0_val (reason_val _ _ _)]
    by_cases a0 : F_X2_reasonAgainst s nn 0 = 0 <;> by_cases a1 : F_X2_reasonAgainst s nn 1 = 0 <;> by_cases a2 : F_X2_reasonAgainst s nn 2 = 0 <;> by_cases a3 : F_X2_reasonAgainst s nn 3 = 0 <;> simp only [a0, a1, a2, a3, if_true, if_false] <;> rfl
theorem mir01 (l : Int32) : F_X3_isMirror l = 0 ∨ F_X3_isMirror l = 1 := by
  unfold F_X3_isMirror
  dsimp only
  split
  · exact Or.inl rfl
  · split
    · exact Or.inr rfl
    · exact Or.inl rfl
/-- a letter's numbers agree -/
theorem number_ok {fS g t b : Nat → Int32} {k : Nat} {l s fo nn : Int32} {ff : Nat → Int32} (hk : k < 5) (h : LetR l s fo nn ff (fun i => fS (67 * k + i))) {w : Nat} (hw : w ≤ 10) : P_X11_number fS g t b (nI k) (nI w) ∧ P_X2_number l (nI w) ∧ (F_X11_number fS g t b (nI k) (nI w)).1 = F_X2_number l s fo nn (nI w) := by
  have N : ∀ a b : Nat, a < 20 → b < 20 → a ≠ b → ¬ nI a = nI b := fun a b ha hb hne q => hne ((nI_eq (by omega) (by omega)).mp q)
  obtain ⟨Nn, hN, eN, hgN, -⟩ := h.2.2.1
  obtain ⟨Sn, hS, eS, hgS⟩ := h.2.2.2.1
  have h4 : fS (67 * k + 4) = nn := by rw [eN]; exact hgN
  have h5 : fS (67 * k + 5) = s := by rw [eS]; exact hgS
  have h6 : fS (67 * k + 6) = fo := h.2.2.2.2
  have C : P_X2_number l (nI w) := by
    unfold P_X2_number
    refine ⟨fun _ => trivial, fun _ => ⟨fun _ => (foldsBack_ok h.1).1, fun _ => ⟨fun _ => trivial, fun _ => ⟨fun _ => (period_ok (b := b) h.1 (e4_takes (g := g) hk (fun p hp => h.layp hp)) (e4_takesO (g := t) hk (fun p hp => h.layp hp))).2.1, fun _ => ⟨fun _ => trivial, fun _ => ⟨fun _ => trivial, fun _ => ⟨fun _ => trivial, fun _ => ⟨fun _ => trivial, fun _ => ⟨fun _ => trivial, fun _ => ⟨fun _ => trivial, fun _ => ⟨fun _ => trivial, fun _ => trivial⟩⟩⟩⟩⟩⟩⟩⟩⟩⟩⟩
  refine ⟨?_, C, ?_⟩
  · unfold P_X11_number
    refine ⟨fun _ => (lengthOf_ok hk h).1, fun _ => ⟨fun _ => (foldedBack_ok hk h).1, fun _ => ⟨fun _ => itsP4 hk, fun _ => ⟨fun _ => (period_okS hk h).1, fun _ => ⟨fun _ => (mirror_ok hk h).1, fun _ => ⟨fun _ => (layers_ok hk h).1 _, fun _ => ⟨fun _ => (layers_ok hk h).1 _, fun _ => ⟨fun _ => itsP5 hk, fun _ => ⟨fun q => ?_, fun _ => ⟨fun q => ?_, fun _ => itsP6 hk⟩⟩⟩⟩⟩⟩⟩⟩⟩⟩
    · rw [q]; exact (creases8_ok hk h).1
    · rw [q]; exact (creases9_ok hk h).1
  · rcases (show w = 0 ∨ w = 1 ∨ w = 2 ∨ w = 3 ∨ w = 4 ∨ w = 5 ∨ w = 6 ∨ w = 7 ∨ w = 8 ∨ w = 9 ∨ w = 10 by omega) with rfl | rfl | rfl | rfl | rfl | rfl | rfl | rfl | rfl | rfl | rfl
    · rw [show nI 0 = 0 from rfl]
      unfold F_X11_number F_X2_number
      simp only [if_true, if_false, q0_1, q0_2, q0_3, q0_4, q0_5, q0_6, q0_7, q0_8, q0_9, q0_10, (lengthOf_ok hk h).2]
    · rw [show nI 1 = 1 from rfl]
      unfold F_X11_number F_X2_number
      simp only [if_true, if_false, q1_0, q1_2, q1_3, q1_4, q1_5, q1_6, q1_7, q1_8, q1_9, q1_10, (foldedBack_ok hk h).2]
    · rw [show nI 2 = 2 from rfl]
      unfold F_X11_number F_X2_number
      simp only [if_true, if_false, q2_0, q2_1, q2_3, q2_4, q2_5, q2_6, q2_7, q2_8, q2_9, q2_10, its4 hk, h4, F_X6_size]
    · rw [show nI 3 = 3 from rfl]
      unfold F_X11_number F_X2_number
      simp only [if_true, if_false, q3_0, q3_1, q3_2, q3_4, q3_5, q3_6, q3_7, q3_8, q3_9, q3_10, (period_okS hk h).2]
    · rw [show nI 4 = 4 from rfl]
      unfold F_X11_number F_X2_number
      simp only [if_true, if_false, q4_0, q4_1, q4_2, q4_3, q4_5, q4_6, q4_7, q4_8, q4_9, q4_10, (mirror_ok hk h).2]
    · rw [show nI 5 = 5 from rfl]
      unfold F_X11_number F_X2_number
      simp only [if_true, if_false, q5_0, q5_1, q5_2, q5_3, q5_4, q5_6, q5_7, q5_8, q5_9, q5_10, (layers_ok hk h).2.1]
    · rw [show nI 6 = 6 from rfl]
      unfold F_X11_number F_X2_number
      simp only [if_true, if_false, q6_0, q6_1, q6_2, q6_3, q6_4, q6_5, q6_7, q6_8, q6_9, q6_10, (layers_ok hk h).2.2]
    · rw [show nI 7 = 7 from rfl]
      unfold F_X11_number F_X2_number
      simp only [if_true, if_false, q7_0, q7_1, q7_2, q7_3, q7_4, q7_5, q7_6, q7_8, q7_9, q7_10, its5 hk, h5]
    · rw [show nI 8 = 8 from rfl]
      unfold F_X11_number F_X2_number
      simp only [if_true, if_false, q8_0, q8_1, q8_2, q8_3, q8_4, q8_5, q8_6, q8_7, q8_9, q8_10, (creases8_ok hk h).2]
    · rw [show nI 9 = 9 from rfl]
      unfold F_X11_number F_X2_number
      simp only [if_true, if_false, q9_0, q9_1, q9_2, q9_3, q9_4, q9_5, q9_6, q9_7, q9_8, q9_10, (creases9_ok hk h).2]
    · rw [show nI 10 = 10 from rfl]
      unfold F_X11_number F_X2_number
      simp only [if_true, if_false, q10_0, q10_1, q10_2, q10_3, q10_4, q10_5, q10_6, q10_7, q10_8, q10_9, its6 hk, h6]

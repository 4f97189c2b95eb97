theorem tnf : ¬ (true = false) := by decide
theorem ar1 {D K c : Nat} (h : c ≤ D * K) (hD : 1 ≤ D) : c + 1 ≤ D * (K + 1) := by rw [Nat.mul_succ]; omega
theorem ar2 {D1 D2 K c1 c2 : Nat} (h1 : c1 ≤ D1 * K) (h2 : c2 ≤ D2 * K) : c1 + c2 ≤ (D1 + D2) * K := by rw [Nat.add_mul]; omega
theorem ar3 {D1 D2 K c1 c2 : Nat} (h1 : c1 ≤ D1 * K) (h2 : c2 ≤ (D2 + 1) * K + 1) : c1 + c2 ≤ (D1 + D2 + 1) * K + 1 := by rw [Nat.add_assoc D1, Nat.add_mul]; omega
theorem ar4 {D K c : Nat} (h : c ≤ D * K) (hD : 1 ≤ D) : 1 + c ≤ D * (K + 1) := by rw [Nat.mul_succ]; omega
theorem ar5 {D K c : Nat} (h : c ≤ (D + 1) * K + 1) : 1 + c ≤ (D + 1) * (K + 1) + 1 := by rw [Nat.mul_succ]; omega
theorem ar6 {D K c : Nat} (h : c ≤ (D + 1) * K + 1) : c ≤ (D + 1) * (K + 1) + 1 := by rw [Nat.mul_succ]; omega
/-- what the reference does with a piece of the text that is a word -/
def OkR (B : Nat) (X fS0 : Nat → Int32) (k : Nat) (s : Int32) (a b d K : Nat) (V : List Int32) (st : St) (fS one op ti : Nat → Int32) : Prop :=
  ((eat s V st).2 = true → ∃ c fS' one' op' ti', c ≤ ((eat s V st).1.2.2.2.2 - st.2.2.2.2) * K ∧ CR k s fS0 (eat s V st).1 fS' ∧ (∀ j, j < d → op' j = op j ∧ ti' j = ti j) ∧ Reach B X k c (ms st fS one op ti a) (ms (eat s V st).1 fS' one' op' ti' b)) ∧ ((eat s V st).2 = false → ∃ c fS', c ≤ ((eat s V st).1.2.2.2.2 - st.2.2.2.2 + 1) * K + 1 ∧ CR k s fS0 (eat s V st).1 fS' ∧ Stops B X k c (ms st fS one op ti a) fS' (nI (eat s V st).1.2.2.2.2))
def RunP (B : Nat) (X fS0 : Nat → Int32) (k : Nat) (s : Int32) (a b d : Nat) (V : List Int32) : Prop := ∀ (st : St) (fS one op ti : Nat → Int32), CR k s fS0 st fS → OkR B X fS0 k s a b d (11 - 2 * d) V st fS one op ti
theorem run_nil {B k a d : Nat} {X fS0 : Nat → Int32} {s : Int32} : RunP B X fS0 k s a a d [] := by
  intro st fS one op ti h
  exact ⟨fun _ => ⟨0, fS, one, op, ti, Nat.zero_le _, h, fun _ _ => ⟨rfl, rfl⟩, Reach.refl⟩, fun q => absurd q tnf⟩
theorem bool_ff {b : Bool} (h : ¬ b = true) : b = false := by cases b; rfl; exact absurd rfl h
theorem run_snoc {B k a b d c : Nat} {T X fS0 : Nat → Int32} {s : Int32} {V : List Int32} (h : Tx B T X) (hk : k < 5) (hb : b < B) (hd : d ≤ 5) (hc : c < 4) (e : T b = nI (48 + c)) (R : RunP B X fS0 k s a b d V) : RunP B X fS0 k s a (b + 1) d (V ++ [nI c]) := by
  intro st fS one op ti hCR
  obtain ⟨r1, r2⟩ := R st fS one op ti hCR
  have M := (eat_m s V st).1
  unfold OkR
  rw [eat_app]
  by_cases q : (eat s V st).2 = true
  · obtain ⟨c1, f1, o1, p1, t1, h1, h2, h3, h4⟩ := r1 q
    rw [if_pos q, eat, eat]
    by_cases hr : F_X2_reasonAgainst s (eat s V st).1.2.2.1 (nI c) = 0
    · obtain ⟨f2, o2, g1, g2⟩ := step_crease (op := p1) (ti := t1) (one := o1) h hb hk hc e h2 hr
      rw [if_pos hr]
      refine ⟨fun _ => ⟨c1 + 1, f2, o2, p1, t1, ?_, g1, h3, h4.trans g2⟩, fun z => absurd z tnf⟩
      show c1 + 1 ≤ ((eat s V st).1.2.2.2.2 + 1 - st.2.2.2.2) * (11 - 2 * d)
      rw [show (eat s V st).1.2.2.2.2 + 1 - st.2.2.2.2 = ((eat s V st).1.2.2.2.2 - st.2.2.2.2) + 1 by omega, Nat.succ_mul]
      omega
    · rw [if_neg hr]
      refine ⟨fun z => absurd z Bool.false_ne_true, fun _ => ⟨c1 + 2, f1, ?_, h2, h4.stops (step_fail h hb hk hc e h2 hr)⟩⟩
      show c1 + 2 ≤ ((eat s V st).1.2.2.2.2 - st.2.2.2.2 + 1) * (11 - 2 * d) + 1
      rw [Nat.succ_mul]
      omega
  · rw [if_neg q]
    exact ⟨fun z => absurd z q, r2⟩
theorem run_bracket {B k p q d F : Nat} {T X fS0 : Nat → Int32} {s : Int32} {V2 : List Int32} (h : Tx B T X) (hd : d < 5) (hq : q + 1 < B) (eq1 : T q = 41) (hdq : dn T q = d + 1) (eF : T (q + 1) = nI (48 + F)) (hF : F ≤ 9) (hV : 0 < V2.length) (R : RunP B X fS0 k s (p + 1) q (d + 1) V2) : ∀ (r t : Nat), t + r = F → 1 ≤ t → ∀ (st : St) (fS one op ti : Nat → Int32), CR k s fS0 st fS → op d = nI p → ti d = nI t → OkR B X fS0 k s (p + 1) (q + 2) d (11 - 2 * (d + 1) + 1) (rep V2 (r + 1)) st fS one op ti := by
  intro r
  induction r with
  | zero =>
    intro t ht h1t st fS one op ti hCR hop hti
    obtain ⟨r1, r2⟩ := R st fS one op ti hCR
    have er : rep V2 (0 + 1) = V2 := by rw [rep, rep, List.append_nil]
    unfold OkR
    rw [er]
    refine ⟨fun z => ?_, fun z => ?_⟩
    · obtain ⟨c1, f1, o1, p1, t1, h1, h2, h3, h4⟩ := r1 z
      have hm := (eat_m s V2 st).2 z
      have SC := (step_close (fS := f1) (one := o1) (op := p1) (ti := t1) (st := (eat s V2 st).1) (k := k) h hq eq1 eF hF hdq hd (t := t) (by rw [(h3 d (Nat.lt_succ_self d)).2, hti]) (by omega)).1 (by omega)
      exact ⟨c1 + 1, f1, o1, p1, t1, ar1 h1 (by omega), h2, fun j hj => h3 j (by omega), h4.trans SC⟩
    · obtain ⟨c1, f1, h1, h2, h3⟩ := r2 z
      exact ⟨c1, f1, ar6 h1, h2, h3⟩
  | succ r ih =>
    intro t ht h1t st fS one op ti hCR hop hti
    obtain ⟨r1, r2⟩ := R st fS one op ti hCR
    have M := (eat_m s V2 st).1
    unfold OkR
    rw [rep, eat_app]
    by_cases z : (eat s V2 st).2 = true
    · obtain ⟨c1, f1, o1, p1, t1, h1, h2, h3, h4⟩ := r1 z
      have hm := (eat_m s V2 st).2 z
      have SC := (step_close (fS := f1) (one := o1) (op := p1) (ti := t1) (st := (eat s V2 st).1) (k := k) h hq eq1 eF hF hdq hd (t := t) (by rw [(h3 d (Nat.lt_succ_self d)).2, hti]) (by omega)).2 (by omega) p (by rw [(h3 d (Nat.lt_succ_self d)).1, hop])
      obtain ⟨i1, i2⟩ := ih (t + 1) (by omega) (by omega) (eat s V2 st).1 f1 o1 p1 (upd t1 d (nI (t + 1))) h2 (by rw [(h3 d (Nat.lt_succ_self d)).1, hop]) (upd_same _ _ _)
      have M2 := (eat_m s (rep V2 (r + 1)) (eat s V2 st).1).1
      rw [if_pos z]
      have hc1 := ar1 h1 (show 1 ≤ (eat s V2 st).1.2.2.2.2 - st.2.2.2.2 by omega)
      refine ⟨fun y => ?_, fun y => ?_⟩
      · obtain ⟨c2, f2, o2, p2, t2, a1, a2, a3, a4⟩ := i1 y
        refine ⟨(c1 + 1) + c2, f2, o2, p2, t2, ?_, a2, fun j hj => ?_, (h4.trans SC).trans a4⟩
        · have := ar2 hc1 a1
          rw [show (eat s V2 st).1.2.2.2.2 - st.2.2.2.2 + ((eat s (rep V2 (r + 1)) (eat s V2 st).1).1.2.2.2.2 - (eat s V2 st).1.2.2.2.2) = (eat s (rep V2 (r + 1)) (eat s V2 st).1).1.2.2.2.2 - st.2.2.2.2 by omega] at this
          exact this
        · have b1 := a3 j hj
          have b2 := h3 j (by omega)
          rw [upd_ne _ (by omega)] at b1
          exact ⟨b1.1.trans b2.1, b1.2.trans b2.2⟩
      · obtain ⟨c2, f2, a1, a2, a3⟩ := i2 y
        refine ⟨(c1 + 1) + c2, f2, ?_, a2, (h4.trans SC).stops a3⟩
        have := ar3 hc1 a1
        rw [show (eat s V2 st).1.2.2.2.2 - st.2.2.2.2 + ((eat s (rep V2 (r + 1)) (eat s V2 st).1).1.2.2.2.2 - (eat s V2 st).1.2.2.2.2) + 1 = (eat s (rep V2 (r + 1)) (eat s V2 st).1).1.2.2.2.2 - st.2.2.2.2 + 1 by omega] at this
        exact this
    · rw [if_neg z]
      refine ⟨fun y => absurd y z, fun y => ?_⟩
      obtain ⟨c1, f1, h1, h2, h3⟩ := r2 y
      exact ⟨c1, f1, ar6 h1, h2, h3⟩
theorem run_rep {B k a p q d F : Nat} {T X fS0 : Nat → Int32} {s : Int32} {V1 V2 : List Int32} (h : Tx B T X) (hd : d < 5) (hp : p < B) (ep : T p = 40) (hdp : dn T p = d) (hq : q + 1 < B) (eq1 : T q = 41) (hdq : dn T q = d + 1) (eF : T (q + 1) = nI (48 + F)) (hF1 : 2 ≤ F) (hF : F ≤ 9) (hV : 0 < V2.length) (R1 : RunP B X fS0 k s a p d V1) (R2 : RunP B X fS0 k s (p + 1) q (d + 1) V2) : RunP B X fS0 k s a (q + 2) d (V1 ++ rep V2 F) := by
  intro st fS one op ti hCR
  obtain ⟨r1, r2⟩ := R1 st fS one op ti hCR
  have M := (eat_m s V1 st).1
  have eK : 11 - 2 * d = 11 - 2 * (d + 1) + 1 + 1 := by omega
  unfold OkR
  rw [eat_app]
  by_cases z : (eat s V1 st).2 = true
  · obtain ⟨c1, f1, o1, p1, t1, h1, h2, h3, h4⟩ := r1 z
    have SO := step_open (fS := f1) (one := o1) (op := p1) (ti := t1) (st := (eat s V1 st).1) (k := k) h hp ep hdp hd
    obtain ⟨i1, i2⟩ := run_bracket h hd hq eq1 hdq eF hF hV R2 (F - 1) 1 (by omega) (Nat.le_refl 1) (eat s V1 st).1 f1 o1 (upd p1 d (nI p)) (upd t1 d 1) h2 (upd_same _ _ _) (upd_same _ _ _)
    rw [show F - 1 + 1 = F by omega] at i1 i2
    have M2 := eat_m s (rep V2 F) (eat s V1 st).1
    rw [if_pos z]
    rw [eK] at h1 ⊢
    refine ⟨fun y => ?_, fun y => ?_⟩
    · obtain ⟨c2, f2, o2, p2, t2, a1, a2, a3, a4⟩ := i1 y
      have hl := M2.2 y
      have hl2 : 1 ≤ (rep V2 F).length := by
        rw [rep_len]
        exact Nat.le_trans (show 1 ≤ 1 * 1 by decide) (Nat.mul_le_mul (show 1 ≤ F by omega) hV)
      refine ⟨c1 + (1 + c2), f2, o2, p2, t2, ?_, a2, fun j hj => ?_, h4.trans (SO.trans a4)⟩
      · have := ar2 h1 (ar4 a1 (by omega))
        rw [show (eat s V1 st).1.2.2.2.2 - st.2.2.2.2 + ((eat s (rep V2 F) (eat s V1 st).1).1.2.2.2.2 - (eat s V1 st).1.2.2.2.2) = (eat s (rep V2 F) (eat s V1 st).1).1.2.2.2.2 - st.2.2.2.2 by omega] at this
        exact this
      · have b1 := a3 j hj
        have b2 := h3 j hj
        rw [upd_ne _ (by omega), upd_ne _ (by omega)] at b1
        exact ⟨b1.1.trans b2.1, b1.2.trans b2.2⟩
    · obtain ⟨c2, f2, a1, a2, a3⟩ := i2 y
      have M2' := M2.1
      refine ⟨c1 + (1 + c2), f2, ?_, a2, h4.stops (SO.stops a3)⟩
      have := ar3 h1 (ar5 a1)
      rw [show (eat s V1 st).1.2.2.2.2 - st.2.2.2.2 + ((eat s (rep V2 F) (eat s V1 st).1).1.2.2.2.2 - (eat s V1 st).1.2.2.2.2) + 1 = (eat s (rep V2 F) (eat s V1 st).1).1.2.2.2.2 - st.2.2.2.2 + 1 by omega] at this
      exact this
  · rw [if_neg z]
    exact ⟨fun y => absurd y z, r2⟩
def sta (p : Nat → Nat) : Nat → Nat
  | 0 => 0
  | j + 1 => p j + 1
def eN (T : Nat → Int32) (i : Nat) : Nat := if wn T i = 2 then i - 1 else i
theorem ps_open {T : Nat → Int32} {i : Nat} (e : T i = 40) : ps T (i + 1) = va_up (ps T i) (dn T i) i := by rw [ps, if_pos e]
theorem ps_non {T : Nat → Int32} {i : Nat} (e : ¬ T i = 40) : ps T (i + 1) = ps T i := by rw [ps, if_neg e]
theorem sta_up {p : Nat → Nat} {d x : Nat} : ∀ j, j ≤ d → sta (va_up p d x) j = sta p j := by
  intro j hj
  cases j with
  | zero => rfl
  | succ j => rw [sta, sta, va_ne _ (by omega)]
/-- how far the text is read -/
def ReadI (B : Nat) (T X fS0 : Nat → Int32) (k : Nat) (s : Int32) (i : Nat) : Prop := (∀ j, j < oN T i → T (ps T i j) = 40 ∧ ps T i j < B ∧ dn T (ps T i j) = j ∧ RunP B X fS0 k s (sta (ps T i) j) (ps T i j) j (vs T i j)) ∧ RunP B X fS0 k s (sta (ps T i) (oN T i)) (eN T i) (oN T i) (vs T i (oN T i)) ∧ (wn T i ≠ 0 → 0 < (vs T i (oN T i)).length) ∧ (wn T i = 2 → 1 ≤ i ∧ T (i - 1) = 41 ∧ dn T (i - 1) = dn T i + 1)
theorem read_i {B k : Nat} {T X fS0 : Nat → Int32} {s : Int32} (h : Tx B T X) (hk : k < 5) (hc : ∀ j, j < B → ∃ m, m < 127 ∧ T j = nI m) (hf : ∀ j, j < B → fit T j = true) : ∀ i, i ≤ B → ReadI B T X fS0 k s i := by
  intro i
  induction i with
  | zero =>
    intro _
    refine ⟨fun j hj => absurd hj (Nat.not_lt_zero _), ?_, fun q => absurd rfl q, fun q => absurd q (by show ¬ (0 : Int32) = 2; decide)⟩
    exact run_nil
  | succ i ih =>
    intro hi
    obtain ⟨h1, h2, h3, h4⟩ := ih (by omega)
    rcases fit_cases (hf i (by omega)) (hc i (by omega)) with ⟨hw, ⟨F, hF1, hF2, e⟩, hd, hw'⟩ | ⟨hw, e, hd5, hd, hw'⟩ | ⟨hw, e, hd0, hd, hw'⟩ | ⟨hw, ⟨c, hc4, e⟩, hd, hw'⟩
    · obtain ⟨i1, e1, d1⟩ := h4 hw
      have oo := o_fig hw
      have o1 : oN T (i + 1) = dn T i := by rw [o_non (ne12 hw'), hd]
      have en : eN T (i + 1) = i + 1 := by unfold eN; rw [if_neg (ne12 hw')]
      have en0 : eN T i = i - 1 := by unfold eN; rw [if_pos hw]
      have ev := vs_fig hw (show F < 100 by omega) e
      have ep := ps_non (T := T) (i := i) (by rw [e]; exact not40 (by omega))
      have hd4 : dn T i < 5 := by
        have := (h.2.2 (i - 1) (by omega)).2
        omega
      rw [oo] at h1 h2 h3
      rw [en0] at h2
      obtain ⟨g1, g2, g3, g4⟩ := h1 (dn T i) (Nat.lt_succ_self _)
      have h3' := h3 (by rw [hw]; decide)
      have RR := run_rep h hd4 g2 g1 g3 (q := i - 1) (F := F) (by omega) e1 d1 (by rw [show i - 1 + 1 = i by omega]; exact e) hF1 hF2 h3' g4 h2
      rw [show i - 1 + 2 = i + 1 by omega] at RR
      have hv : vs T (i + 1) (dn T i) = vs T i (dn T i) ++ rep (vs T i (dn T i + 1)) F := by rw [ev, va_same]
      unfold ReadI
      rw [o1, en, ep, hv]
      refine ⟨fun j hj => ?_, RR, fun _ => ?_, fun q => absurd q (ne12 hw')⟩
      · rw [ev, va_ne _ (by omega)]
        exact h1 j (by omega)
      · rw [List.length_append, rep_len]
        have : 1 * 1 ≤ F * (vs T i (dn T i + 1)).length := Nat.mul_le_mul (show 1 ≤ F by omega) h3'
        omega
    · have oo := o_non hw
      have o1 : oN T (i + 1) = dn T i + 1 := by rw [o_non (ne02 hw'), hd]
      have en : eN T (i + 1) = i + 1 := by unfold eN; rw [if_neg (ne02 hw')]
      have en0 : eN T i = i := by unfold eN; rw [if_neg hw]
      have ev := vs_open hw e
      have ep := ps_open e
      rw [oo] at h1 h2
      rw [en0] at h2
      unfold ReadI
      rw [o1, en]
      refine ⟨fun j hj => ?_, ?_, fun q => absurd hw' q, fun q => absurd q (ne02 hw')⟩
      · by_cases q : j = dn T i
        · subst q
          rw [ep, va_same, sta_up _ (Nat.le_refl _), ev, va_ne _ (by omega)]
          exact ⟨e, by omega, rfl, h2⟩
        · rw [ep, va_ne _ q, sta_up _ (by omega), ev, va_ne _ (by omega)]
          exact h1 j (by omega)
      · rw [ev, va_same, ep, show sta (va_up (ps T i) (dn T i) i) (dn T i + 1) = i + 1 by rw [sta, va_same]]
        exact run_nil
    · have oo := o_non (ne12 hw)
      have o1 : oN T (i + 1) = dn T i := by rw [o_fig hw', hd]; omega
      have en : eN T (i + 1) = i := by unfold eN; rw [if_pos hw']; omega
      have en0 : eN T i = i := by unfold eN; rw [if_neg (ne12 hw)]
      have ev := vs_close hw e
      have ep := ps_non (T := T) (i := i) (by rw [e]; decide)
      rw [oo] at h1 h2 h3
      rw [en0] at h2
      unfold ReadI
      rw [o1, en, ev, ep]
      exact ⟨h1, h2, fun _ => h3 (by rw [hw]; decide), fun _ => ⟨by omega, e, by rw [hd, show i + 1 - 1 = i by omega]; omega⟩⟩
    · have oo := o_non hw
      have o1 : oN T (i + 1) = dn T i := by rw [o_non (ne12 hw'), hd]
      have en : eN T (i + 1) = i + 1 := by unfold eN; rw [if_neg (ne12 hw')]
      have en0 : eN T i = i := by unfold eN; rw [if_neg hw]
      have ev := vs_crease hw (show c < 100 by omega) e
      have ep := ps_non (T := T) (i := i) (by rw [e]; exact not40 (by omega))
      rw [oo] at h1 h2
      rw [en0] at h2
      have hv : vs T (i + 1) (dn T i) = vs T i (dn T i) ++ [nI c] := by rw [ev, va_same]
      unfold ReadI
      rw [o1, en, ep, hv]
      refine ⟨fun j hj => ?_, run_snoc h hk (by omega) (h.2.2 i (by omega)).2 hc4 e h2, fun _ => ?_, fun q => absurd q (ne12 hw')⟩
      · rw [ev, va_ne _ (by omega)]
        exact h1 j hj
      · rw [List.length_append, List.length_cons]
        omega
/-- the reference folds a letter by the word -/
theorem word_run {B k : Nat} {T X fS one op ti : Nat → Int32} {l s fo nn : Int32} {ff : Nat → Int32} (hB : B ≤ 60) (hc : ∀ j, j < B → ∃ m, m < 127 ∧ T j = nI m) (hX : ∀ j, j < B → X j = T j) (cw : CW B T) (hk : k < 5) (hl : LetR l s fo nn ff (fun i => fS (67 * k + i))) : P_X11_word_L43 (nI B) X (nI k) fuelW fS one op ti 0 0 1 ∧ (F_X11_word_L43 (nI B) X (nI k) fuelW fS one op ti 0 0 1).2.2.2.2.1 = nI (eat s (vs T B 0) (l, fo, nn, ff, 0)).1.2.2.2.2 ∧ CR k s fS (eat s (vs T B 0) (l, fo, nn, ff, 0)).1 (F_X11_word_L43 (nI B) X (nI k) fuelW fS one op ti 0 0 1).1 := by
  obtain ⟨h0, hfit, hd, hw⟩ := cw
  have TX := tx_ok hB hc hX hfit
  obtain ⟨-, R, -, -⟩ := read_i (fS0 := fS) (s := s) TX hk hc hfit B (Nat.le_refl _)
  rw [oN_end hd hw, show eN T B = B by unfold eN; rw [if_neg (ne12 hw)]] at R
  obtain ⟨N, hN, e1, -, -⟩ := hl.2.2.1
  obtain ⟨N', hN', -, e3⟩ := eat_n s (vs T B 0) (l, fo, nn, ff, 0) N e1 hN
  have e3' : (eat s (vs T B 0) (l, fo, nn, ff, 0)).1.2.2.2.2 ≤ 60 := by
    have : N' = N + ((eat s (vs T B 0) (l, fo, nn, ff, 0)).1.2.2.2.2 - 0) := e3
    omega
  obtain ⟨r1, r2⟩ := R (l, fo, nn, ff, 0) fS one op ti ⟨hl, fun _ _ => rfl⟩
  by_cases z : (eat s (vs T B 0) (l, fo, nn, ff, 0)).2 = true
  · obtain ⟨c, f1, o1, p1, t1, h1, h2, h3, h4⟩ := r1 z
    have hc1 : c ≤ 60 * 11 := Nat.le_trans h1 (Nat.mul_le_mul (by show (eat s (vs T B 0) (l, fo, nn, ff, 0)).1.2.2.2.2 - 0 ≤ 60; omega) (Nat.sub_le _ _))
    obtain ⟨b1, b2⟩ := h4 (fuelW - c - 1 + 1)
    rw [show fuelW - c - 1 + 1 + c = fuelW by unfold fuelW; omega] at b1 b2
    have hle : nI B ≤ nI B := nI_le (Nat.le_refl _) (by omega)
    have LF : WF B X k (fuelW - c - 1 + 1) (ms (eat s (vs T B 0) (l, fo, nn, ff, 0)).1 f1 o1 p1 t1 B) = ms (eat s (vs T B 0) (l, fo, nn, ff, 0)).1 f1 o1 p1 t1 B := by
      unfold WF ms
      dsimp only
      rw [F_X11_word_L43, if_pos hle]
    have LP : WP B X k (fuelW - c - 1 + 1) (ms (eat s (vs T B 0) (l, fo, nn, ff, 0)).1 f1 o1 p1 t1 B) := by
      unfold WP ms
      dsimp only
      rw [P_X11_word_L43]
      exact ⟨fun _ => trivial, fun q => absurd hle q⟩
    rw [LF] at b1
    have b1' : F_X11_word_L43 (nI B) X (nI k) fuelW fS one op ti 0 0 1 = ms (eat s (vs T B 0) (l, fo, nn, ff, 0)).1 f1 o1 p1 t1 B := b1
    rw [b1']
    exact ⟨b2 LP, rfl, h2⟩
  · obtain ⟨c, f1, h1, h2, h3⟩ := r2 (bool_ff z)
    have hc1 : c ≤ 61 * 11 + 1 := Nat.le_trans h1 (Nat.succ_le_succ (Nat.mul_le_mul (by show (eat s (vs T B 0) (l, fo, nn, ff, 0)).1.2.2.2.2 - 0 + 1 ≤ 61; omega) (Nat.sub_le _ _)))
    obtain ⟨b1, b2, b3⟩ := h3 (fuelW - c)
    rw [show fuelW - c + c = fuelW by unfold fuelW; omega] at b1 b2 b3
    have b2' : (F_X11_word_L43 (nI B) X (nI k) fuelW fS one op ti 0 0 1).1 = f1 := b2
    rw [b2']
    exact ⟨b1, b3, h2⟩
theorem ag_word (lie : Nat → Int32) (seals : Nat → Int32) (folds : Nat → Int32) (n : Nat → Int32) (f : Nat → Nat → Int32) (lie2 : Nat → Int32) (seals2 : Nat → Int32) (folds2 : Nat → Int32) (n2 : Nat → Int32) (f2 : Nat → Nat → Int32) (PS : Nat → Nat) (AS : Nat → Nat) (LS : Nat → Nat → Nat) (hS_ : Nat → Nat → Nat) (vS : Nat → Nat → Nat) (lieS : Nat → Nat → Int32) (sealsS : Nat → Nat → Int32) (foldsS : Nat → Nat → Int32) (nS : Nat → Nat → Int32) (fS_ : Nat → Nat → Nat → Int32) (size : Int32) (nt : Int32) (ft : Nat → Int32) (fu : Nat → Int32) (fhb : Nat → Int32) (fsb : Nat → Int32) (fme : Nat → Int32) (ffo : Nat → Int32) (ffd : Nat → Int32) (kn : Int32) (taken : Int32) (known : Int32) (kept : Int32) (len : Int32) (fS : Nat → Int32) (fPast : Nat → Int32) (fSnap : Nat → Int32) (fText : Nat → Int32) (fOne : Nat → Int32) (fOpen : Nat → Int32) (fTimes : Nat → Int32) (hR : RelW lie seals folds n f lie2 seals2 folds2 n2 f2 lieS sealsS foldsS nS fS_ size nt ft fme ffo ffd kn taken known kept len fS fPast fSnap fText) (sv1 : Int32) : AG_word lie seals folds n f lie2 seals2 folds2 n2 f2 PS AS LS hS_ vS lieS sealsS foldsS nS fS_ size nt ft fu fhb fsb fme ffo ffd kn taken known kept len fS fPast fSnap fText fOne fOpen fTimes sv1 := by
  have hR' := hR
  obtain ⟨hP, hsn, ⟨K, hK, eK1, eK2, hH⟩, ⟨L, hL, eL1, eL2, hT⟩, hw⟩ := hR'
  subst eK1
  subst eK2
  subst eL1
  subst eL2
  obtain ⟨hc, hX⟩ := codes_ok hT
  obtain ⟨w1, w2, w3⟩ := isWord_ok hL hc hX
  unfold AG_word
  rcases letter_cases sv1 with ⟨k, hk, rfl, il, pl⟩ | ⟨il, pl⟩
  · rcases w3 with ⟨cw, w4, w5⟩ | ⟨w4, w5⟩
    · left
      have hl := hP k hk
      obtain ⟨N, hN, e1, -, -⟩ := hl.2.2.1
      have RD := read_ok hL hc cw fu fhb fsb
      have PU := push_ok hK (PS := PS) (AS := AS) (LS := LS) (hS_ := hS_) (vS := vS) hP hH
      have SV := saves_ok hK fS fPast
      have UP := upto_ok (U := vs ft L 0) (l := lie k) (s := seals k) (fo := folds k) (ff := f k) e1 hN RD.2.2.1
      have WR := word_run (one := fOne) (op := fOpen) (ti := fTimes) hL hc hX cw hk hl
      rw [← RD.2.1] at UP
      have hT' : PileR (F_X2_foldUpTo_P lie seals folds n f k (F_X8_read fu fhb fsb (nI L) ft).1 (F_X8_read fu fhb fsb (nI L) ft).2.1).2.1 seals (F_X2_foldUpTo_P lie seals folds n f k (F_X8_read fu fhb fsb (nI L) ft).1 (F_X8_read fu fhb fsb (nI L) ft).2.1).2.2.1 (F_X2_foldUpTo_P lie seals folds n f k (F_X8_read fu fhb fsb (nI L) ft).1 (F_X8_read fu fhb fsb (nI L) ft).2.1).2.2.2.1 (F_X2_foldUpTo_P lie seals folds n f k (F_X8_read fu fhb fsb (nI L) ft).1 (F_X8_read fu fhb fsb (nI L) ft).2.1).2.2.2.2 (F_X11_word_L43 (nI L) fText (nI k) fuelW fS fOne fOpen fTimes 0 0 1).1 := by
        refine pile_set hP hk (fun j hj => ⟨va_ne _ hj, rfl, va_ne _ hj, va_ne _ hj, va_ne _ hj⟩) WR.2.2.2 ?_
        unfold F_X2_foldUpTo_P
        simp only [va_same, UP.2]
        exact WR.2.2.1
      refine ⟨?_, ?_, ?_, ?_, ?_⟩
      · unfold P_X10_word P_X10_needWord P_X2_foldUpTo_P
        simp only [forall_eq, ck hk, w4, i10, false_implies, not_false_eq_true, implies_true, and_true, true_and]
        exact ⟨pl, w1, PU.1, RD.1, hk, UP.1⟩
      · unfold P_X11_word
        simp only [forall_eq, implies_true, true_implies, false_implies, and_true, true_and, not_true_eq_false, not_false_eq_true, if_true, if_false, i10, i20, i00, le00, le10, le20, thr0, thr1, thr2, il, w5]
        exact ⟨w2, SV.1, WR.1⟩
      · unfold F_X11_word
        simp only [forall_eq, implies_true, true_implies, false_implies, and_true, true_and, not_true_eq_false, not_false_eq_true, if_true, if_false, i10, i20, i00, le00, le10, le20, thr0, thr1, thr2, il, w5]
      · unfold F_X11_word F_X10_word F_X2_foldUpTo_P
        simp only [forall_eq, implies_true, true_implies, false_implies, and_true, true_and, not_true_eq_false, not_false_eq_true, if_true, if_false, i10, i20, i00, le00, le10, le20, thr0, thr1, thr2, il, w5, ck hk, UP.2, WR.2.1]
      · unfold F_X11_word F_X10_word
        simp only [forall_eq, implies_true, true_implies, false_implies, and_true, true_and, not_true_eq_false, not_false_eq_true, if_true, if_false, i10, i20, i00, le00, le10, le20, thr0, thr1, thr2, il, w5, ck hk]
        exact ⟨hT', hsn, ⟨_, K6 hK, PU.2.1, SV.2.1, PU.2.2⟩, ⟨0, by omega, rfl, rfl, fun j hj => absurd hj (Nat.not_lt_zero _)⟩, hw⟩
    · right; right
      refine ⟨⟨pl, ?_⟩, ?_, ?_, ?_⟩
      · unfold PX_X10_needWord_2
        simp only [forall_eq]
        exact ⟨w1, w4⟩
      · unfold P_X11_word
        simp only [forall_eq, implies_true, true_implies, false_implies, and_true, true_and, not_true_eq_false, not_false_eq_true, if_true, if_false, i10, i20, i00, le00, le10, le20, thr0, thr1, thr2, il, w5]
        exact w2
      · unfold F_X11_word
        simp only [forall_eq, implies_true, true_implies, false_implies, and_true, true_and, not_true_eq_false, not_false_eq_true, if_true, if_false, i10, i20, i00, le00, le10, le20, thr0, thr1, thr2, il, w5]
      · unfold F_X11_word
        simp only [forall_eq, implies_true, true_implies, false_implies, and_true, true_and, not_true_eq_false, not_false_eq_true, if_true, if_false, i10, i20, i00, le00, le10, le20, thr0, thr1, thr2, il, w5]
        exact hR
  · right; left
    refine ⟨pl, ?_, ?_, ?_⟩
    · unfold P_X11_word
      simp only [forall_eq, implies_true, true_implies, false_implies, and_true, true_and, not_true_eq_false, not_false_eq_true, if_true, if_false, i10, i20, i00, le00, le10, le20, thr0, thr1, thr2, il]
    · unfold F_X11_word
      simp only [forall_eq, implies_true, true_implies, false_implies, and_true, true_and, not_true_eq_false, not_false_eq_true, if_true, if_false, i10, i20, i00, le00, le10, le20, thr0, thr1, thr2, il]
    · unfold F_X11_word
      simp only [forall_eq, implies_true, true_implies, false_implies, and_true, true_and, not_true_eq_false, not_false_eq_true, if_true, if_false, i10, i20, i00, le00, le10, le20, thr0, thr1, thr2, il]
      exact hR

theorem pf_lenL : allL (fun L => decide (F_L_length (lay L) = F_X3_length L)) = true := by decide +kernel
theorem pf_foldL : allL (fun L => c4.all (fun c => p4.all (fun p => decide (F_L_folds (lay L) c p = lay (F_X3_folded L c) p)))) = true := by decide +kernel
theorem pf_mkL : allL (fun L => decide (mkL (lay L 0) (lay L 1) (lay L 2) (lay L 3) = L)) = true := by decide +kernel
theorem pf_unit : allL (fun L => decide (F_X3_joined L 1672 = L) && decide (F_X3_joined 1672 L = L) && decide (F_X3_joined (F_X3_reversed L) L = 1672) && decide (F_X3_joined L (F_X3_reversed L) = 1672)) = true := by decide +kernel
theorem pf_par : allL (fun L => c4.all (fun c => decide (F_X3_length (F_X3_folded L c) = F_X3_length L + 1) || decide (F_X3_length (F_X3_folded L c) + 1 = F_X3_length L))) = true := by decide +kernel
theorem llen_h4 (g : Nat → Int32) : F_L_length g = F_L_length (h4 (g 0) (g 1) (g 2) (g 3)) := rfl
theorem e4_lenL {g : Nat → Int32} {L : Int32} (h : E4 g L) (hL : L ∈ lies) : F_L_length g = F_X3_length L := by
  rw [llen_h4, h.1, h.2.1, h.2.2.1, h.2.2.2, ← llen_h4 (lay L)]
  exact of_decide_eq_true (allL_of pf_lenL hL)
theorem lfo_h4 (g : Nat → Int32) {c : Int32} (hc : C4 c) {p : Nat} (hp : p < 4) : F_L_folds g c p = F_L_folds (h4 (g 0) (g 1) (g 2) (g 3)) c p := by
  rcases (show p = 0 ∨ p = 1 ∨ p = 2 ∨ p = 3 by omega) with rfl | rfl | rfl | rfl <;> rcases hc with rfl | rfl | rfl | rfl <;> rfl
theorem e4_foldL {g : Nat → Int32} {L c : Int32} (h : E4 g L) (hL : L ∈ lies) (hc : C4 c) : E4 (F_L_folds g c) (F_X3_folded L c) := by
  refine E4.of fun p hp => ?_
  rw [lfo_h4 g hc hp, h.1, h.2.1, h.2.2.1, h.2.2.2, ← lfo_h4 (lay L) hc hp]
  exact of_decide_eq_true (p4_of (c4_of (allL_of pf_foldL hL) hc) hp)
theorem p_foldL (g : Nat → Int32) {c : Int32} (hc : C4 c) : P_L_folds g c := by
  unfold P_L_folds
  simp only [forall_eq]
  rcases hc with rfl | rfl | rfl | rfl
  · exact ⟨vp_dec (by decide), ⟨fun _ => trivial, fun q => absurd rfl q⟩, vp_dec (by decide), vp_dec (by decide)⟩
  all_goals exact ⟨vp_dec (by decide), ⟨fun _ => trivial, fun _ => vp_dec (by decide)⟩, vp_dec (by decide), vp_dec (by decide)⟩
/-- the row with which the law begins is the flat letter's -/
theorem e4_flatU (g : Nat → Int32) : E4 (upd (upd (upd (upd g 0 1) 1 2) 2 3) 3 4) 1672 := by
  refine E4.of fun p hp => ?_
  rcases (show p = 0 ∨ p = 1 ∨ p = 2 ∨ p = 3 by omega) with rfl | rfl | rfl | rfl
  · show (1 : Int32) = lay 1672 0; decide +kernel
  · show (2 : Int32) = lay 1672 1; decide +kernel
  · show (3 : Int32) = lay 1672 2; decide +kernel
  · show (4 : Int32) = lay 1672 3; decide +kernel
theorem lay_inj {L K : Int32} (hL : L ∈ lies) (hK : K ∈ lies) (h : ∀ p, p < 4 → lay L p = lay K p) : L = K := by
  rw [← of_decide_eq_true (allL_of pf_mkL hL), ← of_decide_eq_true (allL_of pf_mkL hK), h 0 (by decide), h 1 (by decide), h 2 (by decide), h 3 (by decide)]
theorem unit4 {L : Int32} (hL : L ∈ lies) : F_X3_joined L 1672 = L ∧ F_X3_joined 1672 L = L ∧ F_X3_joined (F_X3_reversed L) L = 1672 ∧ F_X3_joined L (F_X3_reversed L) = 1672 := by
  have h := allL_of pf_unit hL
  simp only [Bool.and_eq_true, decide_eq_true_eq] at h
  exact ⟨h.1.1.1, h.1.1.2, h.1.2, h.2⟩
theorem zz_neg {g : Nat → Int32} {y : Int32} (h : y ∈ S8) : zz g (-y) = - zz g y := by
  simp only [S8, List.mem_cons, List.not_mem_nil, or_false] at h
  unfold zz
  rcases h with rfl | rfl | rfl | rfl | rfl | rfl | rfl | rfl
  iterate 4 exact rfl
  all_goals exact (neg_neg32 _).symm
/-- a fold, layer by layer -/
theorem lay_fold {L c : Int32} (hL : L ∈ lies) (hc : C4 c) {p : Nat} (hp : p < 4) : lay (F_X3_folded L c) p = F_L_folds (lay L) c p := (of_decide_eq_true (p4_of (c4_of (allL_of pf_foldL hL) hc) hp)).symm
theorem zz_zz {x y v : Int32} (hx : x ∈ lies) (hy : y ∈ lies) (hv : v ∈ S8) : zz (lay (F_X3_joined x y)) v = zz (lay x) (zz (lay y) v) := by
  have J := (lie_join hx hy).2 _ (az_lt hv)
  have hs := lay_S8 hy (az_lt hv)
  unfold az at J hs
  by_cases q : 0 ≤ v
  · rw [if_pos q] at J hs
    rw [show zz (lay (F_X3_joined x y)) v = lay (F_X3_joined x y) (v - 1).toNatClampNeg from if_pos q, show zz (lay y) v = lay y (v - 1).toNatClampNeg from if_pos q, J]
  · rw [if_neg q] at J hs
    rw [show zz (lay (F_X3_joined x y)) v = -(lay (F_X3_joined x y) (-v - 1).toNatClampNeg) from if_neg q, show zz (lay y) v = -(lay y (-v - 1).toNatClampNeg) from if_neg q, J, zz_neg hs]
theorem join_assoc {x y z : Int32} (hx : x ∈ lies) (hy : y ∈ lies) (hz : z ∈ lies) : F_X3_joined (F_X3_joined x y) z = F_X3_joined x (F_X3_joined y z) := by
  have hxy := lie_join hx hy
  have hyz := lie_join hy hz
  refine lay_inj (lie_join hxy.1 hz).1 (lie_join hx hyz.1).1 (fun p hp => ?_)
  rw [(lie_join hxy.1 hz).2 p hp, (lie_join hx hyz.1).2 p hp, hyz.2 p hp, zz_zz hx hy (lay_S8 hz hp)]
theorem join_fold {x y c : Int32} (hx : x ∈ lies) (hy : y ∈ lies) (hc : C4 c) : F_X3_joined x (F_X3_folded y c) = F_X3_folded (F_X3_joined x y) c := by
  have hxy := lie_join hx hy
  have hyc := lie_fold hy hc
  refine lay_inj (lie_join hx hyc).1 (lie_fold hxy.1 hc) (fun p hp => ?_)
  rw [(lie_join hx hyc).2 p hp, lay_fold hy hc hp, lay_fold hxy.1 hc hp]
  have J := hxy.2
  have S := fun q hq => lay_S8 hy (p := q) hq
  rcases (show p = 0 ∨ p = 1 ∨ p = 2 ∨ p = 3 by omega) with rfl | rfl | rfl | rfl <;> rcases hc with rfl | rfl | rfl | rfl
  · show zz (lay x) (-(lay y 0)) = -(lay (F_X3_joined x y) 0)
    rw [J 0 (by decide), zz_neg (S 0 (by decide))]
  · exact (J 1 (by decide)).symm
  · exact (J 0 (by decide)).symm
  · exact (J 0 (by decide)).symm
  · exact (J 1 (by decide)).symm
  · exact (J 0 (by decide)).symm
  · exact (J 2 (by decide)).symm
  · exact (J 1 (by decide)).symm
  · exact (J 2 (by decide)).symm
  · exact (J 2 (by decide)).symm
  · exact (J 1 (by decide)).symm
  · exact (J 3 (by decide)).symm
  · exact (J 3 (by decide)).symm
  · exact (J 3 (by decide)).symm
  · exact (J 3 (by decide)).symm
  · exact (J 2 (by decide)).symm
/-- what makes a letter flat is its opposite -/
theorem join_flat {z x : Int32} (hz : z ∈ lies) (hx : x ∈ lies) (h : F_X3_joined z x = 1672) : x = F_X3_reversed z := by
  have hr := lie_rev hz
  have e := join_assoc hr hz hx
  rw [h, (unit4 hz).2.2.1, (unit4 hx).2.1, (unit4 hr).1] at e
  exact e
theorem rev_join {a b : Int32} (ha : a ∈ lies) (hb : b ∈ lies) : F_X3_reversed (F_X3_joined a b) = F_X3_joined (F_X3_reversed b) (F_X3_reversed a) := by
  have hra := lie_rev ha
  have hrb := lie_rev hb
  refine (join_flat (lie_join ha hb).1 (lie_join hrb hra).1 ?_).symm
  rw [join_assoc ha hb (lie_join hrb hra).1, ← join_assoc hb hrb hra, (unit4 hb).2.2.2, (unit4 hra).2.1, (unit4 ha).2.2.2]
theorem par_fold {L c : Int32} (hL : L ∈ lies) (hc : C4 c) : lenN (F_X3_folded L c) = lenN L + 1 ∨ lenN (F_X3_folded L c) + 1 = lenN L := by
  have h := c4_of (allL_of pf_par hL) hc
  rw [Bool.or_eq_true, decide_eq_true_eq, decide_eq_true_eq] at h
  obtain ⟨e1, l1⟩ := len_nI hL
  obtain ⟨e2, l2⟩ := len_nI (lie_fold hL hc)
  rw [e1, e2, nI_1, nI_1, nI_eq (by omega) (by omega), nI_eq (by omega) (by omega)] at h
  exact h
/-- products: at most the lengths together, and of their parity -/
theorem join_len : ∀ (r : Nat) (x y : Int32), x ∈ lies → y ∈ lies → lenN y = r → lenN (F_X3_joined x y) ≤ lenN x + lenN y ∧ (lenN (F_X3_joined x y) + lenN x + lenN y) % 2 = 0 := by
  intro r
  induction r with
  | zero =>
    intro x y hx hy hr
    have := (lenN0 hy).mp hr
    subst this
    rw [(unit4 hx).1]
    omega
  | succ r ih =>
    intro x y hx hy hr
    have hn : y ≠ 1672 := fun q => by have := (lenN0 hy).mpr q; omega
    have hc := (fs_c4 hy hn).1
    obtain ⟨hs1, hs2⟩ := step_lie hy hn
    have K := ih x (stepR y) hx hs1 (by omega)
    have e : F_X3_joined x y = F_X3_folded (F_X3_joined x (stepR y)) (F_X3_firstShortening y) := by
      rw [← join_fold hx hs1 hc]
      unfold stepR
      rw [fold_fold hy hc]
    rw [e]
    rcases par_fold (lie_join hx hs1).1 hc with h | h <;> omega
theorem len_join {x y : Int32} (hx : x ∈ lies) (hy : y ∈ lies) : lenN (F_X3_joined x y) ≤ lenN x + lenN y ∧ (lenN (F_X3_joined x y) + lenN x + lenN y) % 2 = 0 := join_len _ x y hx hy rfl
theorem lenN_rev {x : Int32} (hx : x ∈ lies) : lenN (F_X3_reversed x) = lenN x := by unfold lenN; rw [rev_len hx]
def dist (a b : Int32) : Int32 := F_X3_lengthBetween a b
def dN (a b : Int32) : Nat := lenN (F_X3_joined (F_X3_reversed a) b)
theorem dist_nI {a b : Int32} (ha : a ∈ lies) (hb : b ∈ lies) : F_X3_lengthBetween a b = nI (dN a b) ∧ dN a b ≤ 16 := len_nI (lie_join (lie_rev ha) hb).1
theorem dist_sym {a b : Int32} (ha : a ∈ lies) (hb : b ∈ lies) : dN a b = dN b a := by
  unfold dN
  rw [← lenN_rev (lie_join (lie_rev ha) hb).1, rev_join (lie_rev ha) hb, rev_rev ha]
theorem dist_self {a : Int32} (ha : a ∈ lies) : dN a a = 0 := by
  unfold dN
  rw [(unit4 ha).2.2.1]
  exact (lenN0 flat_lie).mpr rfl
theorem dist_zero {a b : Int32} (ha : a ∈ lies) (hb : b ∈ lies) : dN a b = 0 ↔ a = b := by
  refine ⟨fun h => ?_, fun h => by rw [← h]; exact dist_self ha⟩
  have h1 := (lenN0 (lie_join (lie_rev ha) hb).1).mp h
  have h2 := join_flat (lie_rev ha) hb h1
  rw [rev_rev ha] at h2
  exact h2.symm
theorem dist_tri {a b c : Int32} (ha : a ∈ lies) (hb : b ∈ lies) (hc : c ∈ lies) : dN a c ≤ dN a b + dN b c := by
  have hra := lie_rev ha
  have hrb := lie_rev hb
  have e : F_X3_joined (F_X3_reversed a) c = F_X3_joined (F_X3_joined (F_X3_reversed a) b) (F_X3_joined (F_X3_reversed b) c) := by
    rw [join_assoc hra hb (lie_join hrb hc).1, ← join_assoc hb hrb hc, (unit4 hb).2.2.2, (unit4 hc).2.1]
  unfold dN
  rw [e]
  exact (len_join (lie_join hra hb).1 (lie_join hrb hc).1).1
/-- the flat letter folded by the first ones of a row -/
def fa (f : Nat → Int32) : Nat → Int32
  | 0 => 1672
  | k + 1 => F_X3_folded (fa f k) (f k)
theorem fa_lie {f : Nat → Int32} : ∀ N, (∀ j, j < N → C4 (f j)) → fa f N ∈ lies := by
  intro N
  induction N with
  | zero => intro _; exact flat_lie
  | succ N ih => intro h; exact lie_fold (ih (fun j hj => h j (by omega))) (h N (by omega))
theorem fa_congr {f g : Nat → Int32} : ∀ N, (∀ j, j < N → f j = g j) → fa f N = fa g N := by
  intro N
  induction N with
  | zero => intro _; rfl
  | succ N ih => intro h; rw [fa, fa, ih (fun j hj => h j (by omega)), h N (by omega)]
theorem fa_len {f : Nat → Int32} : ∀ N, (∀ j, j < N → C4 (f j)) → lenN (fa f N) ≤ N ∧ (N - lenN (fa f N)) % 2 = 0 := by
  intro N
  induction N with
  | zero => intro _; rw [show lenN (fa f 0) = 0 from (lenN0 flat_lie).mpr rfl]; omega
  | succ N ih =>
    intro h
    have K := ih (fun j hj => h j (by omega))
    rcases par_fold (fa_lie N (fun j hj => h j (by omega))) (h N (by omega)) with e | e <;> (rw [fa]; omega)
theorem word_c4 {R : Int32} (hR : R ∈ lies) {j : Nat} (hj : j < lenN R) : C4 (wordR R j) := by
  obtain ⟨h1, h2⟩ := seq_lie j R hR (by omega)
  exact (fs_c4 h1 (fun q => by have := (lenN0 h1).mpr q; omega)).1
theorem seq_step : ∀ (k : Nat) (R : Int32), seqR R (k + 1) = stepR (seqR R k) := by
  intro k
  induction k with
  | zero => intro R; rfl
  | succ k ih =>
    intro R
    have e : seqR R (k + 1) = seqR (stepR R) k := by rw [seqR]
    rw [e, seqR, ih]
/-- a letter that is folded on by what makes R flat -/
theorem word_on {R Z X : Int32} (hR : R ∈ lies) (hZ : Z ∈ lies) (hX : X ∈ lies) {j : Nat} (hj : j < lenN R) (h : F_X3_joined Z X = seqR R j) : F_X3_folded X (wordR R j) ∈ lies ∧ F_X3_joined Z (F_X3_folded X (wordR R j)) = seqR R (j + 1) := by
  have hc := word_c4 hR hj
  refine ⟨lie_fold hX hc, ?_⟩
  rw [join_fold hZ hX hc, h, seq_step]
  rfl
theorem seq_end {R : Int32} (hR : R ∈ lies) : seqR R (lenN R) = 1672 := by
  obtain ⟨h1, h2⟩ := seq_lie (lenN R) R hR (Nat.le_refl _)
  exact (lenN0 h1).mp (by omega)
theorem word_fa {L : Int32} (hL : L ∈ lies) : ∀ k, k ≤ lenN L → fa (wordR (F_X3_reversed L)) k ∈ lies ∧ F_X3_joined (F_X3_reversed L) (fa (wordR (F_X3_reversed L)) k) = seqR (F_X3_reversed L) k := by
  intro k
  induction k with
  | zero => intro _; exact ⟨flat_lie, (unit4 (lie_rev hL)).1⟩
  | succ k ih =>
    intro hk
    obtain ⟨h1, h2⟩ := ih (by omega)
    exact word_on (lie_rev hL) (lie_rev hL) h1 (by rw [lenN_rev hL]; omega) h2
/-- the least word makes the letter -/
theorem word_makes {L : Int32} (hL : L ∈ lies) : fa (wordR (F_X3_reversed L)) (lenN L) = L := by
  obtain ⟨h1, h2⟩ := word_fa hL (lenN L) (Nat.le_refl _)
  have e := seq_end (lie_rev hL)
  rw [lenN_rev hL] at e
  rw [e] at h2
  have := join_flat (lie_rev hL) h1 h2
  rw [rev_rev hL] at this
  exact this

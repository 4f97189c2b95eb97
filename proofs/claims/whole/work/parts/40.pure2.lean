theorem vp_dec {i : Int32} {n : Nat} (h : (decide (0 ≤ i.toInt) && decide (i.toInt < n)) = true) : vp_in i n := by
  rw [Bool.and_eq_true, decide_eq_true_eq, decide_eq_true_eq] at h
  exact vp_in_iff.mpr h
def E4 (g : Nat → Int32) (L : Int32) : Prop := g 0 = lay L 0 ∧ g 1 = lay L 1 ∧ g 2 = lay L 2 ∧ g 3 = lay L 3
theorem E4.of {g : Nat → Int32} {L : Int32} (h : ∀ p, p < 4 → g p = lay L p) : E4 g L := ⟨h 0 (by decide), h 1 (by decide), h 2 (by decide), h 3 (by decide)⟩
theorem E4.at {g : Nat → Int32} {L : Int32} (h : E4 g L) {p : Nat} (hp : p < 4) : g p = lay L p := by
  rcases (show p = 0 ∨ p = 1 ∨ p = 2 ∨ p = 3 by omega) with rfl | rfl | rfl | rfl
  · exact h.1
  · exact h.2.1
  · exact h.2.2.1
  · exact h.2.2.2
def h4 (a b c d : Int32) : Nat → Int32 := fun p => if p = 0 then a else if p = 1 then b else if p = 2 then c else d
abbrev C4 (c : Int32) : Prop := c = 0 ∨ c = 1 ∨ c = 2 ∨ c = 3
theorem len_h4 (g : Nat → Int32) : F_X11_lengthOfOne g = F_X11_lengthOfOne (h4 (g 0) (g 1) (g 2) (g 3)) := rfl
theorem e4_len {g : Nat → Int32} {L : Int32} (h : E4 g L) (hL : L ∈ lies) : F_X11_lengthOfOne g = F_X3_length L := by
  rw [len_h4, h.1, h.2.1, h.2.2.1, h.2.2.2, ← len_h4 (lay L)]
  exact of_decide_eq_true (allL_of pf_len hL)
theorem lie_fold {L c : Int32} (hL : L ∈ lies) (hc : C4 c) : F_X3_folded L c ∈ lies := by
  have h := c4_of (allL_of pf_fold hL) hc
  rw [Bool.and_eq_true] at h
  exact lie_of h.1
theorem fold_fold {L c : Int32} (hL : L ∈ lies) (hc : C4 c) : F_X3_folded (F_X3_folded L c) c = L := by
  have h := c4_of (allL_of pf_fold hL) hc
  rw [Bool.and_eq_true] at h
  exact of_decide_eq_true h.2
theorem lie_rev {L : Int32} (hL : L ∈ lies) : F_X3_reversed L ∈ lies := by
  have h := allL_of pf_rev hL
  rw [Bool.and_eq_true, Bool.and_eq_true] at h
  exact lie_of h.1.1
theorem rev_rev {L : Int32} (hL : L ∈ lies) : F_X3_reversed (F_X3_reversed L) = L := by
  have h := allL_of pf_rev hL
  rw [Bool.and_eq_true, Bool.and_eq_true] at h
  exact of_decide_eq_true h.1.2
theorem rev_len {L : Int32} (hL : L ∈ lies) : F_X3_length (F_X3_reversed L) = F_X3_length L := by
  have h := allL_of pf_rev hL
  rw [Bool.and_eq_true, Bool.and_eq_true] at h
  exact of_decide_eq_true h.2
theorem fo_h4 (g : Nat → Int32) {c : Int32} (hc : C4 c) {p : Nat} (hp : p < 4) : F_X11_foldsOne g c p = F_X11_foldsOne (h4 (g 0) (g 1) (g 2) (g 3)) c p := by
  rcases (show p = 0 ∨ p = 1 ∨ p = 2 ∨ p = 3 by omega) with rfl | rfl | rfl | rfl <;> rcases hc with rfl | rfl | rfl | rfl <;> rfl
theorem e4_fold {g : Nat → Int32} {L c : Int32} (h : E4 g L) (hL : L ∈ lies) (hc : C4 c) : E4 (F_X11_foldsOne g c) (F_X3_folded L c) := by
  refine E4.of fun p hp => ?_
  rw [fo_h4 g hc hp, h.1, h.2.1, h.2.2.1, h.2.2.2, ← fo_h4 (lay L) hc hp]
  exact of_decide_eq_true (p4_of (c4_of (allL_of pf_foldsOne hL) hc) hp)
theorem p_fold (g : Nat → Int32) {c : Int32} (hc : C4 c) : P_X11_foldsOne g c := by
  unfold P_X11_foldsOne
  rcases hc with rfl | rfl | rfl | rfl
  · exact ⟨fun _ => trivial, fun h => absurd rfl h⟩
  all_goals exact ⟨fun _ => trivial, fun _ => ⟨vp_dec (by decide), fun _ _ => ⟨vp_dec (by decide), fun _ _ => ⟨vp_dec (by decide), fun _ _ => vp_dec (by decide)⟩⟩⟩⟩
theorem fa_h4 (g : Nat → Int32) (c : Int32) {p : Nat} (hp : p < 4) : F_X11_foldsAhead g c p = F_X11_foldsAhead (h4 (g 0) (g 1) (g 2) (g 3)) c p := by
  rcases (show p = 0 ∨ p = 1 ∨ p = 2 ∨ p = 3 by omega) with rfl | rfl | rfl | rfl <;> rfl
def ahead (L c : Int32) : Int32 := F_X3_reversed (F_X3_folded (F_X3_reversed L) c)
theorem e4_ahead {g : Nat → Int32} {L c : Int32} (h : E4 g L) (hL : L ∈ lies) (hc : C4 c) : E4 (F_X11_foldsAhead g c) (ahead L c) := by
  refine E4.of fun p hp => ?_
  rw [fa_h4 g c hp, h.1, h.2.1, h.2.2.1, h.2.2.2, ← fa_h4 (lay L) c hp]
  exact of_decide_eq_true (p4_of (c4_of (allL_of pf_ahead hL) hc) hp)
theorem lie_ahead {L c : Int32} (hL : L ∈ lies) (hc : C4 c) : ahead L c ∈ lies := lie_rev (lie_fold (lie_rev hL) hc)
theorem ahead_ahead {L c : Int32} (hL : L ∈ lies) (hc : C4 c) : ahead (ahead L c) c = L := by
  unfold ahead
  rw [rev_rev (lie_fold (lie_rev hL) hc), fold_fold (lie_rev hL) hc, rev_rev hL]
theorem len0 {L : Int32} (hL : L ∈ lies) : F_X3_length L = 0 ↔ L = 1672 := by
  have h := allL_of pf_flat hL
  rw [beq_iff_eq] at h
  exact decide_eq_decide.mp h
theorem e4_flat {g : Nat → Int32} {L : Int32} (h : E4 g L) (hL : L ∈ lies) : F_X11_isFlatOne g = if L = 1672 then 1 else 0 := by
  unfold F_X11_isFlatOne
  dsimp only
  rw [e4_len h hL]
  by_cases h1 : L = 1672
  · rw [if_pos h1, if_pos ((len0 hL).mpr h1)]
  · rw [if_neg h1, if_neg (fun q => h1 ((len0 hL).mp q))]
abbrev S8 : List Int32 := [1, 2, 3, 4, -1, -2, -3, -4]
theorem lay_S8 {L : Int32} (hL : L ∈ lies) {p : Nat} (hp : p < 4) : lay L p ∈ S8 := by
  have h := p4_of (allL_of pf_layer hL) hp
  simp only [Bool.or_eq_true, decide_eq_true_eq] at h
  simp only [S8, List.mem_cons, List.not_mem_nil, or_false]
  rcases h with ((((((h | h) | h) | h) | h) | h) | h) | h <;> simp [h]
theorem lay_apart {L : Int32} (hL : L ∈ lies) {p q : Nat} (hp : p < 4) (hq : q < 4) (hne : p ≠ q) : lay L p ≠ lay L q ∧ lay L p ≠ - lay L q := by
  have h := p4_of (p4_of (allL_of pf_apart hL) hp) hq
  simp only [Bool.or_eq_true, Bool.and_eq_true, decide_eq_true_eq] at h
  exact h.resolve_left hne
theorem sz_S8 {y : Int32} (h : y ∈ S8) : vp_in (F_X11_size y - 1) 4 := by
  simp only [S8, List.mem_cons, List.not_mem_nil, or_false] at h
  rcases h with rfl | rfl | rfl | rfl | rfl | rfl | rfl | rfl <;> exact vp_dec (by decide)
theorem p_turns {g b : Nat → Int32} {L : Int32} (h : E4 g L) (hL : L ∈ lies) : P_X11_turns g b := by
  unfold P_X11_turns
  simp only [forall_eq, h.1, h.2.1, h.2.2.1, h.2.2.2]
  exact ⟨sz_S8 (lay_S8 hL (by decide)), sz_S8 (lay_S8 hL (by decide)), sz_S8 (lay_S8 hL (by decide)), sz_S8 (lay_S8 hL (by decide))⟩
theorem pf_cov : allL (fun L => p4.all (fun p => decide (p = (F_X11_size (lay L 0) - 1).toNatClampNeg) || decide (p = (F_X11_size (lay L 1) - 1).toNatClampNeg) || decide (p = (F_X11_size (lay L 2) - 1).toNatClampNeg) || decide (p = (F_X11_size (lay L 3) - 1).toNatClampNeg))) = true := by decide +kernel
theorem upd4 (f g : Nat → Int32) {p : Nat} (hp : p < 4) : upd (upd (upd (upd f 0 (g 0)) 1 (g 1)) 2 (g 2)) 3 (g 3) p = g p := by
  rcases (show p = 0 ∨ p = 1 ∨ p = 2 ∨ p = 3 by omega) with rfl | rfl | rfl | rfl <;> rfl
theorem tu_b (g b : Nat → Int32) {p : Nat} (hp : p < 4) (hc : p = (F_X11_size (g 0) - 1).toNatClampNeg ∨ p = (F_X11_size (g 1) - 1).toNatClampNeg ∨ p = (F_X11_size (g 2) - 1).toNatClampNeg ∨ p = (F_X11_size (g 3) - 1).toNatClampNeg) : (F_X11_turns g b).1 p = (F_X11_turns g (fun _ => 0)).1 p := by
  have key : ∀ b : Nat → Int32, (F_X11_turns g b).1 p = (upd (upd (upd (upd b ((F_X11_size (g 0) - 1).toNatClampNeg) (if 0 ≤ g 0 then 1 else -1)) ((F_X11_size (g 1) - 1).toNatClampNeg) (if 0 ≤ g 1 then 2 else -2)) ((F_X11_size (g 2) - 1).toNatClampNeg) (if 0 ≤ g 2 then 3 else -3)) ((F_X11_size (g 3) - 1).toNatClampNeg) (if 0 ≤ g 3 then 4 else -4)) p := by
    intro b
    unfold F_X11_turns
    dsimp only
    exact upd4 _ _ hp
  rw [key, key]
  dsimp only [upd]
  by_cases a3 : p = (F_X11_size (g 3) - 1).toNatClampNeg
  · rw [if_pos a3, if_pos a3]
  · rw [if_neg a3, if_neg a3]
    by_cases a2 : p = (F_X11_size (g 2) - 1).toNatClampNeg
    · rw [if_pos a2, if_pos a2]
    · rw [if_neg a2, if_neg a2]
      by_cases a1 : p = (F_X11_size (g 1) - 1).toNatClampNeg
      · rw [if_pos a1, if_pos a1]
      · rw [if_neg a1, if_neg a1]
        have a0 : p = (F_X11_size (g 0) - 1).toNatClampNeg := hc.resolve_right (fun q => q.elim a1 (fun q => q.elim a2 a3))
        rw [if_pos a0, if_pos a0]
theorem tu_h4 (g : Nat → Int32) {p : Nat} (hp : p < 4) : (F_X11_turns g (fun _ => 0)).1 p = (F_X11_turns (h4 (g 0) (g 1) (g 2) (g 3)) (fun _ => 0)).1 p := by
  rcases (show p = 0 ∨ p = 1 ∨ p = 2 ∨ p = 3 by omega) with rfl | rfl | rfl | rfl <;> rfl
theorem e4_turns {g b : Nat → Int32} {L : Int32} (h : E4 g L) (hL : L ∈ lies) : E4 (F_X11_turns g b).1 (F_X3_reversed L) := by
  refine E4.of fun p hp => ?_
  have hc := p4_of (allL_of pf_cov hL) hp
  simp only [Bool.or_eq_true, decide_eq_true_eq] at hc
  have hc2 : p = (F_X11_size (g 0) - 1).toNatClampNeg ∨ p = (F_X11_size (g 1) - 1).toNatClampNeg ∨ p = (F_X11_size (g 2) - 1).toNatClampNeg ∨ p = (F_X11_size (g 3) - 1).toNatClampNeg := by
    rw [h.1, h.2.1, h.2.2.1, h.2.2.2]
    rcases hc with ((h1 | h1) | h1) | h1
    · exact Or.inl h1
    · exact Or.inr (Or.inl h1)
    · exact Or.inr (Or.inr (Or.inl h1))
    · exact Or.inr (Or.inr (Or.inr h1))
  rw [tu_b g b hp hc2, tu_h4 g hp, h.1, h.2.1, h.2.2.1, h.2.2.2, ← tu_h4 (lay L) hp]
  exact of_decide_eq_true (p4_of (allL_of pf_turns hL) hp)
/-- four layers put together -/
def mkL (a b c d : Int32) : Int32 := ((((0 : Int32) ||| F_X3_fieldOf a 0) ||| F_X3_fieldOf b 1) ||| F_X3_fieldOf c 2) ||| F_X3_fieldOf d 3
theorem pf_mk : S8.all (fun a => S8.all (fun b => S8.all (fun c => S8.all (fun d => decide (lay (mkL a b c d) 0 = a) && decide (lay (mkL a b c d) 1 = b) && decide (lay (mkL a b c d) 2 = c) && decide (lay (mkL a b c d) 3 = d) && (decide (a = b) || decide (a = -b) || decide (a = c) || decide (a = -c) || decide (a = d) || decide (a = -d) || decide (b = c) || decide (b = -c) || decide (b = d) || decide (b = -d) || decide (c = d) || decide (c = -d) || isLie (mkL a b c d)))))) = true := by decide +kernel
theorem mk_lay {a b c d : Int32} (ha : a ∈ S8) (hb : b ∈ S8) (hc : c ∈ S8) (hd : d ∈ S8) : lay (mkL a b c d) 0 = a ∧ lay (mkL a b c d) 1 = b ∧ lay (mkL a b c d) 2 = c ∧ lay (mkL a b c d) 3 = d ∧ ((a = b ∨ a = -b ∨ a = c ∨ a = -c ∨ a = d ∨ a = -d ∨ b = c ∨ b = -c ∨ b = d ∨ b = -d ∨ c = d ∨ c = -d) ∨ mkL a b c d ∈ lies) := by
  have h := List.all_eq_true.mp (List.all_eq_true.mp (List.all_eq_true.mp (List.all_eq_true.mp pf_mk a ha) b hb) c hc) d hd
  simp only [Bool.and_eq_true, Bool.or_eq_true, decide_eq_true_eq] at h
  obtain ⟨⟨⟨⟨h0, h1⟩, h2⟩, h3⟩, h4⟩ := h
  refine ⟨h0, h1, h2, h3, ?_⟩
  rcases h4 with (((((((((((h | h) | h) | h) | h) | h) | h) | h) | h) | h) | h) | h) | h
  all_goals first | exact Or.inr (lie_of h) | exact Or.inl (by simp only [h, true_or, or_true])
/-- what a layer of a product is: of the first letter, at the place that the second one's layer names -/
def zz (g : Nat → Int32) (y : Int32) : Int32 := if 0 ≤ y then g (y - 1).toNatClampNeg else -(g ((-y) - 1).toNatClampNeg)
def az (y : Int32) : Nat := if 0 ≤ y then (y - 1).toNatClampNeg else ((-y) - 1).toNatClampNeg
theorem az_lt {y : Int32} (h : y ∈ S8) : az y < 4 := by
  simp only [S8, List.mem_cons, List.not_mem_nil, or_false] at h
  rcases h with rfl | rfl | rfl | rfl | rfl | rfl | rfl | rfl <;> decide
theorem az_inj {y z : Int32} (hy : y ∈ S8) (hz : z ∈ S8) (h1 : y ≠ z) (h2 : y ≠ -z) : az y ≠ az z := by
  have : S8.all (fun y => S8.all (fun z => decide (y = z) || decide (y = -z) || decide (az y ≠ az z))) = true := by decide +kernel
  have h := List.all_eq_true.mp (List.all_eq_true.mp this y hy) z hz
  simp only [Bool.or_eq_true, decide_eq_true_eq] at h
  exact (h.resolve_left (fun q => q.elim h1 h2))
theorem zz_az (g : Nat → Int32) (y : Int32) : zz g y = g (az y) ∨ zz g y = -(g (az y)) := by
  unfold zz az
  split
  · exact Or.inl rfl
  · exact Or.inr rfl
theorem S8_neg {y : Int32} (h : y ∈ S8) : -y ∈ S8 := by
  have : S8.all (fun y => decide (-y ∈ S8)) = true := by decide +kernel
  exact of_decide_eq_true (List.all_eq_true.mp this y h)
theorem zz_S8 {g : Nat → Int32} {y : Int32} (hg : ∀ p, p < 4 → g p ∈ S8) (hy : y ∈ S8) : zz g y ∈ S8 := by
  have h := hg _ (az_lt hy)
  rcases zz_az g y with e | e
  · rw [e]; exact h
  · rw [e]; exact S8_neg h
theorem zz_h4 {g g' : Nat → Int32} {y : Int32} (hg : ∀ p, p < 4 → g p = g' p) (hy : y ∈ S8) : zz g y = zz g' y := by
  have h := hg _ (az_lt hy)
  unfold zz az at *
  split
  · rename_i q; rw [if_pos q] at h; exact h
  · rename_i q; rw [if_neg q] at h; rw [h]
theorem join_y (u : Int32) {y : Int32} (hy : y ∈ S8) : (if 0 ≤ y then F_X3_layerAt u ((if 0 ≤ y then y else 0 - y) - 1) else -(F_X3_layerAt u ((if 0 ≤ y then y else 0 - y) - 1))) = zz (lay u) y := by
  simp only [S8, List.mem_cons, List.not_mem_nil, or_false] at hy
  rcases hy with rfl | rfl | rfl | rfl | rfl | rfl | rfl | rfl <;> rfl
theorem joined_mk (u w : Int32) (hw : w ∈ lies) : F_X3_joined u w = mkL (zz (lay u) (lay w 0)) (zz (lay u) (lay w 1)) (zz (lay u) (lay w 2)) (zz (lay u) (lay w 3)) := by
  rw [← join_y u (lay_S8 hw (p := 0) (by decide)), ← join_y u (lay_S8 hw (p := 1) (by decide)), ← join_y u (lay_S8 hw (p := 2) (by decide)), ← join_y u (lay_S8 hw (p := 3) (by decide))]
  rfl
theorem neg_neg32 (x : Int32) : - -x = x := Int32.neg_neg
theorem zz_apart {u w : Int32} (hu : u ∈ lies) (hw : w ∈ lies) {p q : Nat} (hp : p < 4) (hq : q < 4) (hne : p ≠ q) : zz (lay u) (lay w p) ≠ zz (lay u) (lay w q) ∧ zz (lay u) (lay w p) ≠ - zz (lay u) (lay w q) := by
  have h1 := lay_apart hw hp hq hne
  have ha := az_inj (lay_S8 hw hp) (lay_S8 hw hq) h1.1 h1.2
  obtain ⟨h2, h3⟩ := lay_apart hu (az_lt (lay_S8 hw hp)) (az_lt (lay_S8 hw hq)) ha
  rcases zz_az (lay u) (lay w p) with e1 | e1 <;> rcases zz_az (lay u) (lay w q) with e2 | e2 <;> rw [e1, e2]
  · exact ⟨h2, h3⟩
  · exact ⟨h3, by rw [neg_neg32]; exact h2⟩
  · refine ⟨fun h => h3 ?_, fun h => h2 ?_⟩
    · rw [← h, neg_neg32]
    · rw [← neg_neg32 (lay u _), h, neg_neg32]
  · refine ⟨fun h => h2 ?_, fun h => h3 ?_⟩
    · rw [← neg_neg32 (lay u _), h, neg_neg32]
    · rw [neg_neg32] at h; rw [← h, neg_neg32]
theorem lie_join {u w : Int32} (hu : u ∈ lies) (hw : w ∈ lies) : F_X3_joined u w ∈ lies ∧ ∀ p, p < 4 → lay (F_X3_joined u w) p = zz (lay u) (lay w p) := by
  have hg : ∀ p, p < 4 → zz (lay u) (lay w p) ∈ S8 := fun p hp => zz_S8 (fun q hq => lay_S8 hu hq) (lay_S8 hw hp)
  obtain ⟨h0, h1, h2, h3, h4⟩ := mk_lay (hg 0 (by decide)) (hg 1 (by decide)) (hg 2 (by decide)) (hg 3 (by decide))
  rw [joined_mk u w hw]
  refine ⟨?_, fun p hp => ?_⟩
  · refine h4.resolve_left ?_
    have A := fun (p q : Nat) (hp : p < 4) (hq : q < 4) (hne : p ≠ q) => zz_apart hu hw hp hq hne
    have a01 := A 0 1 (by decide) (by decide) (by decide)
    have a02 := A 0 2 (by decide) (by decide) (by decide)
    have a03 := A 0 3 (by decide) (by decide) (by decide)
    have a12 := A 1 2 (by decide) (by decide) (by decide)
    have a13 := A 1 3 (by decide) (by decide) (by decide)
    have a23 := A 2 3 (by decide) (by decide) (by decide)
    simp only [a01.1, a01.2, a02.1, a02.2, a03.1, a03.2, a12.1, a12.2, a13.1, a13.2, a23.1, a23.2, or_self, not_false_eq_true]
  · rcases (show p = 0 ∨ p = 1 ∨ p = 2 ∨ p = 3 by omega) with rfl | rfl | rfl | rfl
    · exact h0
    · exact h1
    · exact h2
    · exact h3
theorem mu_at (g t b : Nat → Int32) {p : Nat} (hp : p < 4) : (F_X11_multiplies g t b).1 p = zz g (t p) := by
  have key : (F_X11_multiplies g t b).1 p = (upd (upd (upd (upd b 0 (zz g (t 0))) 1 (zz g (t 1))) 2 (zz g (t 2))) 3 (zz g (t 3))) p := by
    unfold F_X11_multiplies
    dsimp only
    exact upd4 _ _ hp
  rw [key]
  exact upd4 b (fun q => zz g (t q)) hp
theorem e4_mult {g t b : Nat → Int32} {u w : Int32} (hg : E4 g u) (ht : E4 t w) (hu : u ∈ lies) (hw : w ∈ lies) : E4 (F_X11_multiplies g t b).1 (F_X3_joined u w) := by
  refine E4.of fun p hp => ?_
  rw [mu_at g t b hp, ht.at hp, (lie_join hu hw).2 p hp]
  exact zz_h4 (fun q hq => hg.at hq) (lay_S8 hw hp)
theorem pm_S8 {y : Int32} (h : y ∈ S8) : (0 ≤ y → vp_in (y - 1) 4) ∧ (¬ 0 ≤ y → vp_in ((-y) - 1) 4) := by
  simp only [S8, List.mem_cons, List.not_mem_nil, or_false] at h
  rcases h with rfl | rfl | rfl | rfl | rfl | rfl | rfl | rfl
  iterate 4 exact ⟨fun _ => vp_dec (by decide), fun q => absurd (by decide) q⟩
  all_goals exact ⟨fun q => absurd q (by decide), fun _ => vp_dec (by decide)⟩
theorem p_mult {g t b : Nat → Int32} {w : Int32} (ht : E4 t w) (hw : w ∈ lies) : P_X11_multiplies g t b := by
  unfold P_X11_multiplies
  simp only [forall_eq, ht.1, ht.2.1, ht.2.2.1, ht.2.2.2]
  exact ⟨pm_S8 (lay_S8 hw (by decide)), pm_S8 (lay_S8 hw (by decide)), pm_S8 (lay_S8 hw (by decide)), pm_S8 (lay_S8 hw (by decide))⟩

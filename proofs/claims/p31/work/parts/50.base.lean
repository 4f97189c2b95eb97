def lies : List Int32 := [83, 87, 90, 94, 115, 119, 122, 126, 139, 143, 153, 157, 171, 175, 185, 189, 202, 206, 209, 213, 234, 238, 241, 245, 339, 343, 346, 350, 371, 375, 378, 382, 395, 399, 409, 413, 427, 431, 441, 445, 458, 462, 465, 469, 490, 494, 497, 501, 531, 535, 538, 542, 563, 567, 570, 574, 643, 647, 664, 668, 675, 679, 696, 700, 706, 710, 720, 724, 738, 742, 752, 756, 787, 791, 794, 798, 819, 823, 826, 830, 899, 903, 920, 924, 931, 935, 952, 956, 962, 966, 976, 980, 994, 998, 1008, 1012, 1035, 1039, 1049, 1053, 1067, 1071, 1081, 1085, 1091, 1095, 1112, 1116, 1123, 1127, 1144, 1148, 1217, 1221, 1224, 1228, 1249, 1253, 1256, 1260, 1291, 1295, 1305, 1309, 1323, 1327, 1337, 1341, 1347, 1351, 1368, 1372, 1379, 1383, 1400, 1404, 1473, 1477, 1480, 1484, 1505, 1509, 1512, 1516, 1546, 1550, 1553, 1557, 1578, 1582, 1585, 1589, 1602, 1606, 1616, 1620, 1634, 1638, 1648, 1652, 1665, 1669, 1672, 1676, 1697, 1701, 1704, 1708, 1802, 1806, 1809, 1813, 1834, 1838, 1841, 1845, 1858, 1862, 1872, 1876, 1890, 1894, 1904, 1908, 1921, 1925, 1928, 1932, 1953, 1957, 1960, 1964, 2131, 2135, 2138, 2142, 2163, 2167, 2170, 2174, 2187, 2191, 2201, 2205, 2219, 2223, 2233, 2237, 2250, 2254, 2257, 2261, 2282, 2286, 2289, 2293, 2387, 2391, 2394, 2398, 2419, 2423, 2426, 2430, 2443, 2447, 2457, 2461, 2475, 2479, 2489, 2493, 2506, 2510, 2513, 2517, 2538, 2542, 2545, 2549, 2579, 2583, 2586, 2590, 2611, 2615, 2618, 2622, 2691, 2695, 2712, 2716, 2723, 2727, 2744, 2748, 2754, 2758, 2768, 2772, 2786, 2790, 2800, 2804, 2835, 2839, 2842, 2846, 2867, 2871, 2874, 2878, 2947, 2951, 2968, 2972, 2979, 2983, 3000, 3004, 3010, 3014, 3024, 3028, 3042, 3046, 3056, 3060, 3083, 3087, 3097, 3101, 3115, 3119, 3129, 3133, 3139, 3143, 3160, 3164, 3171, 3175, 3192, 3196, 3265, 3269, 3272, 3276, 3297, 3301, 3304, 3308, 3339, 3343, 3353, 3357, 3371, 3375, 3385, 3389, 3395, 3399, 3416, 3420, 3427, 3431, 3448, 3452, 3521, 3525, 3528, 3532, 3553, 3557, 3560, 3564, 3594, 3598, 3601, 3605, 3626, 3630, 3633, 3637, 3650, 3654, 3664, 3668, 3682, 3686, 3696, 3700, 3713, 3717, 3720, 3724, 3745, 3749, 3752, 3756, 3850, 3854, 3857, 3861, 3882, 3886, 3889, 3893, 3906, 3910, 3920, 3924, 3938, 3942, 3952, 3956, 3969, 3973, 3976, 3980, 4001, 4005, 4008, 4012]
def lieN (n : Nat) : Bool := n < 4096 && (n % 4 != n / 8 % 4) && (n % 4 != n / 64 % 4) && (n % 4 != n / 512 % 4) && (n / 8 % 4 != n / 64 % 4) && (n / 8 % 4 != n / 512 % 4) && (n / 64 % 4 != n / 512 % 4)
theorem lies_eq : lies = ((List.range 4096).filter lieN).map nI := by decide +kernel
def isLie (x : Int32) : Bool := decide (0 ≤ x) && lieN x.toNatClampNeg
theorem lie_of {x : Int32} (h : isLie x = true) : x ∈ lies := by
  unfold isLie at h
  rw [Bool.and_eq_true, decide_eq_true_eq] at h
  obtain ⟨j, hj, rfl⟩ := nI_of (x := x) (Int32.not_lt.mpr h.1)
  rw [nI_clamp hj] at h
  rw [lies_eq]
  refine List.mem_map.mpr ⟨j, List.mem_filter.mpr ⟨List.mem_range.mpr ?_, h.2⟩, rfl⟩
  have := h.2
  unfold lieN at this
  simp only [Bool.and_eq_true, decide_eq_true_eq] at this
  omega
def lay (L : Int32) : Nat → Int32 := fun p => F_X3_layerAt L (nI p)
def allL (P : Int32 → Bool) : Bool := lies.all P
theorem allL_of {P : Int32 → Bool} (h : allL P = true) {L : Int32} (hL : L ∈ lies) : P L = true := List.all_eq_true.mp h L hL
def c4 : List Int32 := [0, 1, 2, 3]
def p4 : List Nat := [0, 1, 2, 3]
theorem c4_of {P : Int32 → Bool} (h : c4.all P = true) {c : Int32} (hc : c = 0 ∨ c = 1 ∨ c = 2 ∨ c = 3) : P c = true := List.all_eq_true.mp h c (by rcases hc with rfl | rfl | rfl | rfl <;> decide)
theorem p4_of {P : Nat → Bool} (h : p4.all P = true) {p : Nat} (hp : p < 4) : P p = true := List.all_eq_true.mp h p (by rcases (show p = 0 ∨ p = 1 ∨ p = 2 ∨ p = 3 by omega) with rfl | rfl | rfl | rfl <;> decide)
theorem pf_fold : allL (fun L => c4.all (fun c => isLie (F_X3_folded L c) && decide (F_X3_folded (F_X3_folded L c) c = L))) = true := by decide +kernel
theorem pf_rev : allL (fun L => isLie (F_X3_reversed L) && decide (F_X3_reversed (F_X3_reversed L) = L) && decide (F_X3_length (F_X3_reversed L) = F_X3_length L)) = true := by decide +kernel
theorem pf_flat : allL (fun L => decide (F_X3_length L = 0) == decide (L = 1672)) = true := by decide +kernel
theorem pf_fs : allL (fun L => let c := F_X3_firstShortening L; if L = 1672 then decide (c = -10) else decide (0 ≤ c) && decide (c < 4) && decide (F_X3_length (F_X3_folded L c) + 1 = F_X3_length L)) = true := by decide +kernel
theorem pf_fs2 : allL (fun L => c4.all (fun c => let d := F_X3_firstShortening L; if L = 1672 then true else (!decide (c < d) || decide (F_X3_length L < F_X3_length (F_X3_folded L c))))) = true := by decide +kernel
theorem pf_short : allL (fun L => c4.all (fun c => decide (F_X3_length (F_X3_folded L c) < F_X3_length L) == !decide (F_X3_isShortenedBy L c = 0))) = true := by decide +kernel
theorem pf_le : allL (fun L => decide (0 ≤ F_X3_length L) && decide (F_X3_length L ≤ 16)) = true := by decide +kernel
theorem pf_layer : allL (fun L => p4.all (fun p => let y := lay L p; decide (y = 1) || decide (y = 2) || decide (y = 3) || decide (y = 4) || decide (y = -1) || decide (y = -2) || decide (y = -3) || decide (y = -4))) = true := by decide +kernel
theorem pf_apart : allL (fun L => p4.all (fun p => p4.all (fun q => decide (p = q) || (decide (lay L p ≠ lay L q) && decide (lay L p ≠ - lay L q))))) = true := by decide +kernel
theorem vp_dec {i : Int32} {n : Nat} (h : (decide (0 ≤ i.toInt) && decide (i.toInt < n)) = true) : vp_in i n := by
  rw [Bool.and_eq_true, decide_eq_true_eq, decide_eq_true_eq] at h
  exact vp_in_iff.mpr h
def E4 (g : Nat → Int32) (L : Int32) : Prop := g 0 = lay L 0 ∧ g 1 = lay L 1 ∧ g 2 = lay L 2 ∧ g 3 = lay L 3
theorem E4.of {g : Nat → Int32} {L : Int32} (h : ∀ p, p < 4 → g p = lay L p) : E4 g L := ⟨h 0 (by decide), h 1 (by decide), h 2 (by decide), h 3 (by decide)⟩
theorem E4.at {g : Nat → Int32} {L : Int32} (h : E4 g L) {p : Nat} (hp : p < 4) : g p = lay L p := by
  rcases (show p = 0 ∨ p = 1 ∨ p = 2 ∨ p = 3 by omega) with rfl | rfl | rfl | rfl
  · exact h.1
  · exact h.2.1
  · exact h.2.2.1
  · exact h.2.2.2
def h4 (a b c d : Int32) : Nat → Int32 := fun p => if p = 0 then a else if p = 1 then b else if p = 2 then c else d
abbrev C4 (c : Int32) : Prop := c = 0 ∨ c = 1 ∨ c = 2 ∨ c = 3
theorem lie_fold {L c : Int32} (hL : L ∈ lies) (hc : C4 c) : F_X3_folded L c ∈ lies := by
  have h := c4_of (allL_of pf_fold hL) hc
  rw [Bool.and_eq_true] at h
  exact lie_of h.1
theorem fold_fold {L c : Int32} (hL : L ∈ lies) (hc : C4 c) : F_X3_folded (F_X3_folded L c) c = L := by
  have h := c4_of (allL_of pf_fold hL) hc
  rw [Bool.and_eq_true] at h
  exact of_decide_eq_true h.2
theorem lie_rev {L : Int32} (hL : L ∈ lies) : F_X3_reversed L ∈ lies := by
  have h := allL_of pf_rev hL
  rw [Bool.and_eq_true, Bool.and_eq_true] at h
  exact lie_of h.1.1
theorem rev_rev {L : Int32} (hL : L ∈ lies) : F_X3_reversed (F_X3_reversed L) = L := by
  have h := allL_of pf_rev hL
  rw [Bool.and_eq_true, Bool.and_eq_true] at h
  exact of_decide_eq_true h.1.2
theorem rev_len {L : Int32} (hL : L ∈ lies) : F_X3_length (F_X3_reversed L) = F_X3_length L := by
  have h := allL_of pf_rev hL
  rw [Bool.and_eq_true, Bool.and_eq_true] at h
  exact of_decide_eq_true h.2
theorem len0 {L : Int32} (hL : L ∈ lies) : F_X3_length L = 0 ↔ L = 1672 := by
  have h := allL_of pf_flat hL
  rw [beq_iff_eq] at h
  exact decide_eq_decide.mp h
abbrev S8 : List Int32 := [1, 2, 3, 4, -1, -2, -3, -4]
theorem lay_S8 {L : Int32} (hL : L ∈ lies) {p : Nat} (hp : p < 4) : lay L p ∈ S8 := by
  have h := p4_of (allL_of pf_layer hL) hp
  simp only [Bool.or_eq_true, decide_eq_true_eq] at h
  simp only [S8, List.mem_cons, List.not_mem_nil, or_false]
  rcases h with ((((((h | h) | h) | h) | h) | h) | h) | h <;> simp [h]
theorem lay_apart {L : Int32} (hL : L ∈ lies) {p q : Nat} (hp : p < 4) (hq : q < 4) (hne : p ≠ q) : lay L p ≠ lay L q ∧ lay L p ≠ - lay L q := by
  have h := p4_of (p4_of (allL_of pf_apart hL) hp) hq
  simp only [Bool.or_eq_true, Bool.and_eq_true, decide_eq_true_eq] at h
  exact h.resolve_left hne
theorem upd4 (f g : Nat → Int32) {p : Nat} (hp : p < 4) : upd (upd (upd (upd f 0 (g 0)) 1 (g 1)) 2 (g 2)) 3 (g 3) p = g p := by
  rcases (show p = 0 ∨ p = 1 ∨ p = 2 ∨ p = 3 by omega) with rfl | rfl | rfl | rfl <;> rfl
def mkL (a b c d : Int32) : Int32 := ((((0 : Int32) ||| F_X3_fieldOf a 0) ||| F_X3_fieldOf b 1) ||| F_X3_fieldOf c 2) ||| F_X3_fieldOf d 3
theorem pf_mk : S8.all (fun a => S8.all (fun b => S8.all (fun c => S8.all (fun d => decide (lay (mkL a b c d) 0 = a) && decide (lay (mkL a b c d) 1 = b) && decide (lay (mkL a b c d) 2 = c) && decide (lay (mkL a b c d) 3 = d) && (decide (a = b) || decide (a = -b) || decide (a = c) || decide (a = -c) || decide (a = d) || decide (a = -d) || decide (b = c) || decide (b = -c) || decide (b = d) || decide (b = -d) || decide (c = d) || decide (c = -d) || isLie (mkL a b c d)))))) = true := by decide +kernel
theorem mk_lay {a b c d : Int32} (ha : a ∈ S8) (hb : b ∈ S8) (hc : c ∈ S8) (hd : d ∈ S8) : lay (mkL a b c d) 0 = a ∧ lay (mkL a b c d) 1 = b ∧ lay (mkL a b c d) 2 = c ∧ lay (mkL a b c d) 3 = d ∧ ((a = b ∨ a = -b ∨ a = c ∨ a = -c ∨ a = d ∨ a = -d ∨ b = c ∨ b = -c ∨ b = d ∨ b = -d ∨ c = d ∨ c = -d) ∨ mkL a b c d ∈ lies) := by
  have h := List.all_eq_true.mp (List.all_eq_true.mp (List.all_eq_true.mp (List.all_eq_true.mp pf_mk a ha) b hb) c hc) d hd
  simp only [Bool.and_eq_true, Bool.or_eq_true, decide_eq_true_eq] at h
  obtain ⟨⟨⟨⟨h0, h1⟩, h2⟩, h3⟩, h4⟩ := h
  refine ⟨h0, h1, h2, h3, ?_⟩
  rcases h4 with (((((((((((h | h) | h) | h) | h) | h) | h) | h) | h) | h) | h) | h) | h
  all_goals first | exact Or.inr (lie_of h) | exact Or.inl (by simp only [h, true_or, or_true])
def az (y : Int32) : Nat := if 0 ≤ y then (y - 1).toNatClampNeg else ((-y) - 1).toNatClampNeg
def zz (g : Nat → Int32) (y : Int32) : Int32 := if 0 ≤ y then g (y - 1).toNatClampNeg else -(g ((-y) - 1).toNatClampNeg)
theorem az_lt {y : Int32} (h : y ∈ S8) : az y < 4 := by
  simp only [S8, List.mem_cons, List.not_mem_nil, or_false] at h
  rcases h with rfl | rfl | rfl | rfl | rfl | rfl | rfl | rfl <;> decide
theorem az_inj {y z : Int32} (hy : y ∈ S8) (hz : z ∈ S8) (h1 : y ≠ z) (h2 : y ≠ -z) : az y ≠ az z := by
  have : S8.all (fun y => S8.all (fun z => decide (y = z) || decide (y = -z) || decide (az y ≠ az z))) = true := by decide +kernel
  have h := List.all_eq_true.mp (List.all_eq_true.mp this y hy) z hz
  simp only [Bool.or_eq_true, decide_eq_true_eq] at h
  exact (h.resolve_left (fun q => q.elim h1 h2))
theorem zz_az (g : Nat → Int32) (y : Int32) : zz g y = g (az y) ∨ zz g y = -(g (az y)) := by
  unfold zz az
  split
  · exact Or.inl rfl
  · exact Or.inr rfl
theorem S8_neg {y : Int32} (h : y ∈ S8) : -y ∈ S8 := by
  have : S8.all (fun y => decide (-y ∈ S8)) = true := by decide +kernel
  exact of_decide_eq_true (List.all_eq_true.mp this y h)
theorem zz_S8 {g : Nat → Int32} {y : Int32} (hg : ∀ p, p < 4 → g p ∈ S8) (hy : y ∈ S8) : zz g y ∈ S8 := by
  have h := hg _ (az_lt hy)
  rcases zz_az g y with e | e
  · rw [e]; exact h
  · rw [e]; exact S8_neg h
theorem zz_h4 {g g' : Nat → Int32} {y : Int32} (hg : ∀ p, p < 4 → g p = g' p) (hy : y ∈ S8) : zz g y = zz g' y := by
  have h := hg _ (az_lt hy)
  unfold zz az at *
  split
  · rename_i q; rw [if_pos q] at h; exact h
  · rename_i q; rw [if_neg q] at h; rw [h]
theorem join_y (u : Int32) {y : Int32} (hy : y ∈ S8) : (if 0 ≤ y then F_X3_layerAt u ((if 0 ≤ y then y else 0 - y) - 1) else -(F_X3_layerAt u ((if 0 ≤ y then y else 0 - y) - 1))) = zz (lay u) y := by
  simp only [S8, List.mem_cons, List.not_mem_nil, or_false] at hy
  rcases hy with rfl | rfl | rfl | rfl | rfl | rfl | rfl | rfl <;> rfl
theorem joined_mk (u w : Int32) (hw : w ∈ lies) : F_X3_joined u w = mkL (zz (lay u) (lay w 0)) (zz (lay u) (lay w 1)) (zz (lay u) (lay w 2)) (zz (lay u) (lay w 3)) := by
  rw [← join_y u (lay_S8 hw (p := 0) (by decide)), ← join_y u (lay_S8 hw (p := 1) (by decide)), ← join_y u (lay_S8 hw (p := 2) (by decide)), ← join_y u (lay_S8 hw (p := 3) (by decide))]
  rfl
theorem neg_neg32 (x : Int32) : - -x = x := Int32.neg_neg
theorem zz_apart {u w : Int32} (hu : u ∈ lies) (hw : w ∈ lies) {p q : Nat} (hp : p < 4) (hq : q < 4) (hne : p ≠ q) : zz (lay u) (lay w p) ≠ zz (lay u) (lay w q) ∧ zz (lay u) (lay w p) ≠ - zz (lay u) (lay w q) := by
  have h1 := lay_apart hw hp hq hne
  have ha := az_inj (lay_S8 hw hp) (lay_S8 hw hq) h1.1 h1.2
  obtain ⟨h2, h3⟩ := lay_apart hu (az_lt (lay_S8 hw hp)) (az_lt (lay_S8 hw hq)) ha
  rcases zz_az (lay u) (lay w p) with e1 | e1 <;> rcases zz_az (lay u) (lay w q) with e2 | e2 <;> rw [e1, e2]
  · exact ⟨h2, h3⟩
  · exact ⟨h3, by rw [neg_neg32]; exact h2⟩
  · refine ⟨fun h => h3 ?_, fun h => h2 ?_⟩
    · rw [← h, neg_neg32]
    · rw [← neg_neg32 (lay u _), h, neg_neg32]
  · refine ⟨fun h => h2 ?_, fun h => h3 ?_⟩
    · rw [← neg_neg32 (lay u _), h, neg_neg32]
    · rw [neg_neg32] at h; rw [← h, neg_neg32]
theorem lie_join {u w : Int32} (hu : u ∈ lies) (hw : w ∈ lies) : F_X3_joined u w ∈ lies ∧ ∀ p, p < 4 → lay (F_X3_joined u w) p = zz (lay u) (lay w p) := by
  have hg : ∀ p, p < 4 → zz (lay u) (lay w p) ∈ S8 := fun p hp => zz_S8 (fun q hq => lay_S8 hu hq) (lay_S8 hw hp)
  obtain ⟨h0, h1, h2, h3, h4⟩ := mk_lay (hg 0 (by decide)) (hg 1 (by decide)) (hg 2 (by decide)) (hg 3 (by decide))
  rw [joined_mk u w hw]
  refine ⟨?_, fun p hp => ?_⟩
  · refine h4.resolve_left ?_
    have A := fun (p q : Nat) (hp : p < 4) (hq : q < 4) (hne : p ≠ q) => zz_apart hu hw hp hq hne
    have a01 := A 0 1 (by decide) (by decide) (by decide)
    have a02 := A 0 2 (by decide) (by decide) (by decide)
    have a03 := A 0 3 (by decide) (by decide) (by decide)
    have a12 := A 1 2 (by decide) (by decide) (by decide)
    have a13 := A 1 3 (by decide) (by decide) (by decide)
    have a23 := A 2 3 (by decide) (by decide) (by decide)
    simp only [a01.1, a01.2, a02.1, a02.2, a03.1, a03.2, a12.1, a12.2, a13.1, a13.2, a23.1, a23.2, or_self, not_false_eq_true]
  · rcases (show p = 0 ∨ p = 1 ∨ p = 2 ∨ p = 3 by omega) with rfl | rfl | rfl | rfl
    · exact h0
    · exact h1
    · exact h2
    · exact h3
theorem c4_range {c : Int32} (h0 : 0 ≤ c) (h1 : c < 4) : C4 c := by
  obtain ⟨j, hj, rfl⟩ := nI_of (x := c) (Int32.not_lt.mpr h0)
  have h2 : j < 4 := (nI_ltI hj (by decide)).mp h1
  rcases (show j = 0 ∨ j = 1 ∨ j = 2 ∨ j = 3 by omega) with rfl | rfl | rfl | rfl
  · exact Or.inl rfl
  · exact Or.inr (Or.inl rfl)
  · exact Or.inr (Or.inr (Or.inl rfl))
  · exact Or.inr (Or.inr (Or.inr rfl))
theorem c4_nI {j : Nat} (h : j < 4) : C4 (nI j) := c4_range (nI_pos' (by omega)) ((nI_ltI (by omega) (by decide)).mpr h)
theorem c4_of_nI {c : Int32} (h : C4 c) : ∃ j, j < 4 ∧ c = nI j := by
  rcases h with rfl | rfl | rfl | rfl
  · exact ⟨0, by decide, rfl⟩
  · exact ⟨1, by decide, rfl⟩
  · exact ⟨2, by decide, rfl⟩
  · exact ⟨3, by decide, rfl⟩
def lenN (L : Int32) : Nat := (F_X3_length L).toNatClampNeg
theorem len_nI {L : Int32} (hL : L ∈ lies) : F_X3_length L = nI (lenN L) ∧ lenN L ≤ 16 := by
  have h := allL_of pf_le hL
  rw [Bool.and_eq_true, decide_eq_true_eq, decide_eq_true_eq] at h
  obtain ⟨j, hj, e⟩ := nI_of2 (x := F_X3_length L) (M := 16) (n := 16) rfl (Int32.not_lt.mpr h.1) h.2
  have : lenN L = j := by unfold lenN; rw [e, nI_clamp (by omega)]
  rw [this]; exact ⟨e, hj⟩
theorem lenN0 {L : Int32} (hL : L ∈ lies) : lenN L = 0 ↔ L = 1672 := by
  rw [← len0 hL, (len_nI hL).1]
  have := (len_nI hL).2
  rw [show (0 : Int32) = nI 0 from rfl, nI_eq (by omega) (by decide)]
theorem flat_lie : (1672 : Int32) ∈ lies := lie_of (by decide +kernel)
theorem fs_flat : F_X3_firstShortening 1672 = -10 := by decide +kernel
theorem fs_c4 {L : Int32} (hL : L ∈ lies) (hn : L ≠ 1672) : C4 (F_X3_firstShortening L) ∧ lenN (F_X3_folded L (F_X3_firstShortening L)) + 1 = lenN L := by
  have h := allL_of pf_fs hL
  dsimp only at h
  rw [if_neg hn] at h
  simp only [Bool.and_eq_true, decide_eq_true_eq] at h
  have hc := c4_range h.1.1 h.1.2
  refine ⟨hc, ?_⟩
  have h2 := h.2
  obtain ⟨e1, l1⟩ := len_nI (lie_fold hL hc)
  obtain ⟨e2, l2⟩ := len_nI hL
  rw [e1, e2, nI_1, nI_eq (by omega) (by omega)] at h2
  exact h2
theorem fs_lt {L c : Int32} (hL : L ∈ lies) (hn : L ≠ 1672) (hc : C4 c) (hlt : c < F_X3_firstShortening L) : F_X3_length L < F_X3_length (F_X3_folded L c) := by
  have h := c4_of (allL_of pf_fs2 hL) hc
  dsimp only at h
  rw [if_neg hn, Bool.or_eq_true, Bool.not_eq_true', decide_eq_false_iff_not, decide_eq_true_eq] at h
  exact h.resolve_left (fun q => q hlt)
theorem rev_flat : F_X3_reversed 1672 = 1672 := by decide +kernel
def stepR (R : Int32) : Int32 := F_X3_folded R (F_X3_firstShortening R)
def seqR (R : Int32) : Nat → Int32
  | 0 => R
  | k + 1 => seqR (stepR R) k
def wordR (R : Int32) (k : Nat) : Int32 := F_X3_firstShortening (seqR R k)
theorem step_lie {R : Int32} (hR : R ∈ lies) (hn : R ≠ 1672) : stepR R ∈ lies ∧ lenN (stepR R) + 1 = lenN R := ⟨lie_fold hR (fs_c4 hR hn).1, (fs_c4 hR hn).2⟩
theorem seq_lie : ∀ (k : Nat) (R : Int32), R ∈ lies → k ≤ lenN R → seqR R k ∈ lies ∧ lenN (seqR R k) + k = lenN R := by
  intro k
  induction k with
  | zero => intro R hR _; exact ⟨hR, rfl⟩
  | succ k ih =>
    intro R hR hk
    have hn : R ≠ 1672 := fun q => by have := (lenN0 hR).mpr q; omega
    obtain ⟨h1, h2⟩ := step_lie hR hn
    obtain ⟨h3, h4⟩ := ih (stepR R) h1 (by omega)
    exact ⟨h3, by show lenN (seqR (stepR R) k) + (k + 1) = lenN R; omega⟩
theorem lc_loop (M : Nat) (hM : M < 2 ^ 31) : ∀ (t d : Nat), d + t = M → ∀ (R : Int32), R ∈ lies → ∀ fuel, t < fuel → P_X3_leastCrease_L7 (nI M) fuel R (nI d) ∧ (F_X3_leastCrease_L7 (nI M) fuel R (nI d)).1 = if t ≤ lenN R then seqR R t else 1672 := by
  intro t
  induction t with
  | zero =>
    intro d hd R hR fuel hf
    obtain ⟨f, rfl⟩ : ∃ f, fuel = f + 1 := ⟨fuel - 1, by omega⟩
    have : nI M ≤ nI d := nI_le (by omega) (by omega)
    rw [P_X3_leastCrease_L7, F_X3_leastCrease_L7, if_pos this, if_pos (Nat.zero_le _)]
    exact ⟨⟨fun _ => trivial, fun q => absurd this q⟩, rfl⟩
  | succ t ih =>
    intro d hd R hR fuel hf
    obtain ⟨f, rfl⟩ : ∃ f, fuel = f + 1 := ⟨fuel - 1, by omega⟩
    have hlt : ¬ nI M ≤ nI d := nI_ge (by omega) (by omega)
    rw [P_X3_leastCrease_L7, F_X3_leastCrease_L7, if_neg hlt]
    by_cases hn : R = 1672
    · rw [if_pos hn]
      refine ⟨⟨fun _ => trivial, fun _ => ⟨fun _ => trivial, fun q => absurd hn q⟩⟩, ?_⟩
      rw [if_neg (by have := (lenN0 hR).mpr hn; omega)]
      exact hn
    · rw [if_neg hn]
      obtain ⟨h1, h2⟩ := step_lie hR hn
      have K := ih (d + 1) (by omega) (stepR R) h1 f (by omega)
      simp only [forall_eq]
      rw [nI_1]
      refine ⟨⟨fun _ => trivial, fun _ => ⟨fun q => absurd q hn, fun _ => K.1⟩⟩, ?_⟩
      show (F_X3_leastCrease_L7 (nI M) f (stepR R) (nI (d + 1))).1 = _
      rw [K.2]
      by_cases hle : t ≤ lenN (stepR R)
      · rw [if_pos hle, if_pos (by omega)]; rfl
      · rw [if_neg hle, if_neg (by omega)]
theorem least_ok {L : Int32} (hL : L ∈ lies) {M : Nat} (hM : M < 2 ^ 31) : P_X3_leastCrease L (nI M) ∧ F_X3_leastCrease L (nI M) = if M < lenN L then wordR (F_X3_reversed L) M else -10 := by
  have hR := lie_rev hL
  have hl : lenN (F_X3_reversed L) = lenN L := by unfold lenN; rw [rev_len hL]
  have K := lc_loop M hM M 0 (by omega) _ hR (M + 1) (by omega)
  rw [show nI 0 = 0 from rfl] at K
  unfold P_X3_leastCrease F_X3_leastCrease
  simp only [forall_eq]
  rw [nI_clamp hM]
  refine ⟨K.1, ?_⟩
  rw [K.2, hl]
  by_cases h1 : M < lenN L
  · rw [if_pos h1, if_pos (by omega)]; rfl
  · rw [if_neg h1]
    by_cases h2 : M ≤ lenN L
    · rw [if_pos h2]
      obtain ⟨h3, h4⟩ := seq_lie M _ hR (by omega)
      rw [(lenN0 h3).mp (by omega), fs_flat]
    · rw [if_neg h2, fs_flat]
theorem fb_loop : ∀ (r : Nat) (L : Int32), L ∈ lies → lenN L = r → ∀ (fuel m : Nat), r < fuel → m + r ≤ 16 → P_X3_foldsBack_L4 fuel L (nI m) ∧ (F_X3_foldsBack_L4 fuel L (nI m)).2 = nI (m + r) := by
  intro r
  induction r with
  | zero =>
    intro L hL hl fuel m hf hm
    obtain ⟨f, rfl⟩ : ∃ f, fuel = f + 1 := ⟨fuel - 1, by omega⟩
    have h0 : L = 1672 := (lenN0 hL).mp hl
    rw [P_X3_foldsBack_L4, F_X3_foldsBack_L4]
    by_cases h1 : 16 ≤ nI m
    · rw [if_pos h1]; exact ⟨⟨fun _ => trivial, fun q => absurd h1 q⟩, rfl⟩
    · rw [if_neg h1, if_pos h0]; exact ⟨⟨fun _ => trivial, fun _ => ⟨fun _ => trivial, fun q => absurd h0 q⟩⟩, rfl⟩
  | succ r ih =>
    intro L hL hl fuel m hf hm
    obtain ⟨f, rfl⟩ : ∃ f, fuel = f + 1 := ⟨fuel - 1, by omega⟩
    have hn : L ≠ 1672 := fun q => by have := (lenN0 hL).mpr q; omega
    have h1 : ¬ (16 : Int32) ≤ nI m := nI_ge (b := 16) (by omega) (by decide)
    obtain ⟨h2, h3⟩ := step_lie hL hn
    have K := ih (stepR L) h2 (by omega) f (m + 1) (by omega) (by omega)
    rw [P_X3_foldsBack_L4, F_X3_foldsBack_L4, if_neg h1, if_neg hn]
    simp only [forall_eq]
    rw [nI_1]
    refine ⟨⟨fun _ => trivial, fun _ => ⟨fun q => absurd q hn, fun _ => K.1⟩⟩, ?_⟩
    show (F_X3_foldsBack_L4 f (stepR L) (nI (m + 1))).2 = _
    rw [K.2]; congr 1; omega
theorem foldsBack_ok {L : Int32} (hL : L ∈ lies) : P_X3_foldsBack L ∧ F_X3_foldsBack L = F_X3_length L := by
  have h16 := (len_nI hL).2
  have K := fb_loop (lenN L) L hL rfl 17 0 (by omega) (by omega)
  rw [show nI 0 = 0 from rfl] at K
  unfold P_X3_foldsBack F_X3_foldsBack
  refine ⟨K.1, ?_⟩
  show (F_X3_foldsBack_L4 17 L 0).2 = _
  rw [K.2, Nat.zero_add, (len_nI hL).1]

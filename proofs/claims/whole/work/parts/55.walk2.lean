/-- the reference's spread so far -/
def RI (m : Nat) (far q : Nat → Int32) : Prop := (∀ j, j < m → q j = nI (rQ j) ∧ far (rQ j) = nI (rD j + 1)) ∧ ∀ x, x < 6561 → (∀ j, j < m → x ≠ rQ j) → far x = 0
def rsF (far q : Nat → Int32) (k : Nat) (r : Int32) : Nat → Int32 := if far r.toNatClampNeg = 0 then upd far r.toNatClampNeg (far (q k).toNatClampNeg + 1) else far
def rsQ (far q : Nat → Int32) (many r : Int32) : Nat → Int32 := if far r.toNatClampNeg = 0 then upd q many.toNatClampNeg r else q
def rsN (far : Nat → Int32) (many r : Int32) : Int32 := if far r.toNatClampNeg = 0 then many + 1 else many
theorem rsF_e (far q : Nat → Int32) (k : Nat) (r : Int32) : rsF far q k r = if far r.toNatClampNeg = 0 then upd far r.toNatClampNeg (far (q k).toNatClampNeg + 1) else far := rfl
theorem rsQ_e (far q : Nat → Int32) (many r : Int32) : rsQ far q many r = if far r.toNatClampNeg = 0 then upd q many.toNatClampNeg r else q := rfl
theorem rsN_e (far : Nat → Int32) (many r : Int32) : rsN far many r = if far r.toNatClampNeg = 0 then many + 1 else many := rfl
theorem hook_un (g : Nat → Int32) (code : Int32) {c : Int32} (hc : C4 c) : F_X11_hook (F_X11_foldsOne (F_X11_unhooks g code) c) = hk code c := by
  unfold hk
  rcases hc with rfl | rfl | rfl | rfl <;> rfl
theorem rD_lt (j : Nat) (hj : j < 384) : rD j < 21 := by
  have H := List.all_eq_true.mp pf_spread (4 * j) (List.mem_range.mpr (by omega))
  unfold okR at H
  rw [show (4 * j) / 4 = j by omega] at H
  simp only [Bool.and_eq_true, decide_eq_true_eq] at H
  exact H.1.2
theorem rs_ok {k c : Nat} (hk4 : k < 384) (hc : c < 4) {one far q : Nat → Int32} {many C : Int32} {m m' : Nat} (em : m = rC (4 * k + c)) (em' : m' = rC (4 * k + c + 1)) (eC : C = nI c) (ekn : many = nI m) (h : RI m far q) : k < m ∧ m ≤ 384 ∧ vp_in (q k) 6561 ∧ P_X11_foldsOne (F_X11_unhooks one (q k)) C ∧ vp_in (F_X11_hook (F_X11_foldsOne (F_X11_unhooks one (q k)) C)) 6561 ∧ (far (F_X11_hook (F_X11_foldsOne (F_X11_unhooks one (q k)) C)).toNatClampNeg = 0 → vp_in many 400) ∧ rsN far many (F_X11_hook (F_X11_foldsOne (F_X11_unhooks one (q k)) C)) = nI m' ∧ RI m' (rsF far q k (F_X11_hook (F_X11_foldsOne (F_X11_unhooks one (q k)) C))) (rsQ far q many (F_X11_hook (F_X11_foldsOne (F_X11_unhooks one (q k)) C))) := by
  have H := List.all_eq_true.mp pf_spread (4 * k + c) (List.mem_range.mpr (by omega))
  unfold okR at H
  rw [show (4 * k + c) / 4 = k by omega, show (4 * k + c) % 4 = c by omega] at H
  simp only [Bool.and_eq_true, decide_eq_true_eq] at H
  obtain ⟨⟨⟨⟨⟨⟨b1, b2⟩, b3⟩, b4⟩, b5⟩, b6⟩, b7⟩ := H
  rw [← em] at b1 b2 b7
  rw [← em'] at b7
  have hC4 : C4 C := by rw [eC]; exact c4_nI hc
  have eq := (h.1 k b1).1
  have ef := (h.1 k b1).2
  have er : F_X11_hook (F_X11_foldsOne (F_X11_unhooks one (q k)) C) = nI (rQ (rI (4 * k + c))) := by
    rw [hook_un _ _ hC4, eq, eC]; exact b3
  refine ⟨b1, b2, by rw [eq]; exact vp_in_nI b5 (by decide), p_fold _ hC4, by rw [er]; exact vp_in_nI b4 (by decide), ?_⟩
  rw [er, ekn]
  unfold rsN rsF rsQ
  rw [nI_clamp (n := rQ (rI (4 * k + c))) (by omega), nI_clamp (n := m) (by omega), eq, nI_clamp (n := rQ k) (by omega), ef, nI_1]
  by_cases hi : rI (4 * k + c) = m
  · rw [if_pos hi] at b7
    simp only [Bool.and_eq_true, decide_eq_true_eq] at b7
    obtain ⟨⟨d1, d2⟩, d3⟩ := b7
    rw [hi] at b4 ⊢
    have hz : far (rQ m) = 0 := h.2 _ b4 (fun j hj => rQ_ne (by omega) d1 (by omega))
    rw [if_pos hz, if_pos hz, if_pos hz, nI_1, d2]
    refine ⟨fun _ => vp_in_nI (by omega) (by decide), rfl, fun j hj => ?_, fun x hx hne => ?_⟩
    · by_cases qq : j = m
      · rw [qq, upd_same, upd_same, d3]
        exact ⟨rfl, rfl⟩
      · rw [upd_ne _ qq, upd_ne _ (rQ_ne qq (by omega) d1)]
        exact h.1 j (by omega)
    · rw [upd_ne _ (hne m (by omega))]
      exact h.2 x hx (fun j hj => hne j (by omega))
  · rw [if_neg hi] at b7
    simp only [Bool.and_eq_true, decide_eq_true_eq] at b7
    obtain ⟨d1, d2⟩ := b7
    have hz : ¬ far (rQ (rI (4 * k + c))) = 0 := by
      rw [(h.1 _ d1).2]
      intro z
      have h20 := rD_lt (rI (4 * k + c)) (by omega)
      have := (nI_eq (b := 0) (by omega) (by decide)).mp z
      omega
    rw [if_neg hz, if_neg hz, if_neg hz, d2]
    exact ⟨fun z => absurd z hz, rfl, h⟩
theorem sp_zero : ∀ (t j : Nat), j + t = 6561 → ∀ (fuel : Nat) (g : Nat → Int32), t < fuel → P_X11_spread_L2 fuel g (nI j) ∧ ∀ i, (F_X11_spread_L2 fuel g (nI j)).1 i = if j ≤ i ∧ i < 6561 then 0 else g i := by
  intro t
  induction t with
  | zero =>
    intro j hj fuel g hf
    obtain ⟨f, rfl⟩ : ∃ f, fuel = f + 1 := ⟨fuel - 1, by omega⟩
    have h1 : (6561 : Int32) ≤ nI j := nI_le (a := 6561) (by omega) (by omega)
    rw [P_X11_spread_L2, F_X11_spread_L2, if_pos h1]
    exact ⟨⟨fun _ => trivial, fun q => absurd h1 q⟩, fun i => by rw [if_neg (by omega)]⟩
  | succ t ih =>
    intro j hj fuel g hf
    obtain ⟨f, rfl⟩ : ∃ f, fuel = f + 1 := ⟨fuel - 1, by omega⟩
    have h1 : ¬ (6561 : Int32) ≤ nI j := nI_ge (b := 6561) (by omega) (by decide)
    have K := ih (j + 1) (by omega) f (upd g j 0) (by omega)
    rw [P_X11_spread_L2, F_X11_spread_L2, if_neg h1]
    simp only [forall_eq, nI_1, nI_clamp (n := j) (by omega)]
    refine ⟨⟨fun _ => trivial, fun _ => ⟨vp_in_nI (by omega) (by decide), K.1⟩⟩, fun i => ?_⟩
    rw [K.2 i]
    by_cases q : j + 1 ≤ i ∧ i < 6561
    · rw [if_pos q, if_pos (by omega)]
    · rw [if_neg q]
      by_cases q2 : i = j
      · rw [q2, upd_same, if_pos (by omega)]
      · rw [upd_ne _ q2, if_neg (by omega)]
theorem spread_loop {d : Nat} (hd : d < 21) : ∀ (t k : Nat), k + t = 384 → ∀ (fuel : Nat) (one far q : Nat → Int32), t < fuel → RI (rC (4 * k)) far q → P_X11_spread_L73 (nI d) fuel one far q (nI (rC (4 * k))) (nI (cR d k)) (nI k) ∧ (F_X11_spread_L73 (nI d) fuel one far q (nI (rC (4 * k))) (nI (cR d k)) (nI k)).2.2.2.2.1 = nI (cR d 384) := by
  intro t
  induction t with
  | zero =>
    intro k hk fuel one far q hf h
    obtain ⟨f, rfl⟩ : ∃ f, fuel = f + 1 := ⟨fuel - 1, by omega⟩
    have hk384 : k = 384 := by omega
    subst hk384
    rw [show rC (4 * 384) = 384 from rC_end]
    have h1 : nI 384 ≤ nI 384 := by decide
    rw [P_X11_spread_L73, F_X11_spread_L73, if_pos h1]
    exact ⟨⟨fun _ => trivial, fun q => absurd h1 q⟩, rfl⟩
  | succ t ih =>
    intro k hk fuel one far q hf h
    obtain ⟨f, rfl⟩ : ∃ f, fuel = f + 1 := ⟨fuel - 1, by omega⟩
    have hk4 : k < 384 := by omega
    have vk : vp_in (nI k) 400 := vp_in_nI (by omega) (by decide)
    obtain ⟨o1, eo1⟩ : ∃ x, x = F_X11_foldsOne (F_X11_unhooks one (q k)) 0 := ⟨_, rfl⟩
    obtain ⟨r1, er1⟩ : ∃ x, x = F_X11_hook o1 := ⟨_, rfl⟩
    obtain ⟨f1, ef1⟩ : ∃ x, x = rsF far q k r1 := ⟨_, rfl⟩
    obtain ⟨q1, eq1⟩ : ∃ x, x = rsQ far q (nI (rC (4 * k))) r1 := ⟨_, rfl⟩
    obtain ⟨m1, em1⟩ : ∃ x, x = rsN far (nI (rC (4 * k))) r1 := ⟨_, rfl⟩
    have S0 := rs_ok (one := one) (many := nI (rC (4 * k))) (m := rC (4 * k)) (C := 0) hk4 (c := 0) (by decide) rfl rfl rfl rfl h
    rw [← eo1, ← er1, ← ef1, ← eq1, ← em1] at S0
    obtain ⟨o2, eo2⟩ : ∃ x, x = F_X11_foldsOne (F_X11_unhooks o1 (q1 k)) 1 := ⟨_, rfl⟩
    obtain ⟨r2, er2⟩ : ∃ x, x = F_X11_hook o2 := ⟨_, rfl⟩
    obtain ⟨f2, ef2⟩ : ∃ x, x = rsF f1 q1 k r2 := ⟨_, rfl⟩
    obtain ⟨q2, eq2⟩ : ∃ x, x = rsQ f1 q1 m1 r2 := ⟨_, rfl⟩
    obtain ⟨m2, em2⟩ : ∃ x, x = rsN f1 m1 r2 := ⟨_, rfl⟩
    have S1 := rs_ok (one := o1) (C := 1) hk4 (c := 1) (by decide) rfl rfl rfl S0.2.2.2.2.2.2.1 S0.2.2.2.2.2.2.2
    rw [← eo2, ← er2, ← ef2, ← eq2, ← em2] at S1
    obtain ⟨o3, eo3⟩ : ∃ x, x = F_X11_foldsOne (F_X11_unhooks o2 (q2 k)) 2 := ⟨_, rfl⟩
    obtain ⟨r3, er3⟩ : ∃ x, x = F_X11_hook o3 := ⟨_, rfl⟩
    obtain ⟨f3, ef3⟩ : ∃ x, x = rsF f2 q2 k r3 := ⟨_, rfl⟩
    obtain ⟨q3, eq3⟩ : ∃ x, x = rsQ f2 q2 m2 r3 := ⟨_, rfl⟩
    obtain ⟨m3, em3⟩ : ∃ x, x = rsN f2 m2 r3 := ⟨_, rfl⟩
    have S2 := rs_ok (one := o2) (C := 2) hk4 (c := 2) (by decide) rfl rfl rfl S1.2.2.2.2.2.2.1 S1.2.2.2.2.2.2.2
    rw [← eo3, ← er3, ← ef3, ← eq3, ← em3] at S2
    obtain ⟨o4, eo4⟩ : ∃ x, x = F_X11_foldsOne (F_X11_unhooks o3 (q3 k)) 3 := ⟨_, rfl⟩
    obtain ⟨r4, er4⟩ : ∃ x, x = F_X11_hook o4 := ⟨_, rfl⟩
    obtain ⟨f4, ef4⟩ : ∃ x, x = rsF f3 q3 k r4 := ⟨_, rfl⟩
    obtain ⟨q4, eq4⟩ : ∃ x, x = rsQ f3 q3 m3 r4 := ⟨_, rfl⟩
    obtain ⟨m4, em4⟩ : ∃ x, x = rsN f3 m3 r4 := ⟨_, rfl⟩
    have S3 := rs_ok (one := o3) (C := 3) hk4 (c := 3) (by decide) rfl rfl rfl S2.2.2.2.2.2.2.1 S2.2.2.2.2.2.2.2
    rw [← eo4, ← er4, ← ef4, ← eq4, ← em4] at S3
    have h1 : ¬ nI (rC (4 * k)) ≤ nI k := nI_ge S0.1 (by have := S0.2.1; omega)
    have S4 := S3.2.2.2.2.2.2.2
    rw [show 4 * k + 3 + 1 = 4 * (k + 1) by omega] at S4
    have e4 : rC (4 * k + 3 + 1) = rC (4 * (k + 1)) := by congr 1
    have ef := (h.1 k S0.1).2
    have eq := (h.1 k S0.1).1
    have h6 : rQ k < 6561 := by
      have H := List.all_eq_true.mp pf_spread (4 * k) (List.mem_range.mpr (by omega))
      unfold okR at H
      rw [show (4 * k) / 4 = k by omega] at H
      simp only [Bool.and_eq_true, decide_eq_true_eq] at H
      exact H.1.1.2
    have en : (nI (cR d k) + if far (q k).toNatClampNeg = nI d + 1 then 1 else 0) = nI (cR d (k + 1)) := by
      rw [eq, nI_clamp (n := rQ k) (by omega), ef, nI_1, cR]
      have hrd := rD_lt k hk4
      by_cases z : rD k = d
      · rw [if_pos (by rw [z]), if_pos z, nI_1]
      · rw [if_neg (fun y => z (by have := (nI_eq (by omega) (by omega)).mp y; omega)), if_neg z, Int32.add_zero, Nat.add_zero]
    have K := ih (k + 1) (by omega) f o4 f4 q4 (by omega) S4
    rw [← e4, ← S3.2.2.2.2.2.2.1] at K
    rw [P_X11_spread_L73, F_X11_spread_L73, if_neg h1]
    simp only [forall_eq, nI_clamp (n := k) (by omega), en, nI_1 k, ← rsF_e, ← rsQ_e, ← rsN_e, ← eo1, ← er1, ← ef1, ← eq1, ← em1, ← eo2, ← er2, ← ef2, ← eq2, ← em2, ← eo3, ← er3, ← ef3, ← eq3, ← em3, ← eo4, ← er4, ← ef4, ← eq4, ← em4]
    exact ⟨⟨fun q => absurd q h1, fun _ => ⟨vk, S0.2.2.1, vk, S0.2.2.2.1, S0.2.2.2.2.1, ⟨fun z => ⟨vk, S0.2.2.1, S0.2.2.2.2.1, S0.2.2.2.2.2.1 z⟩, fun _ => trivial⟩, vk, S1.2.2.2.1, S1.2.2.2.2.1, ⟨fun z => ⟨vk, S1.2.2.1, S1.2.2.2.2.1, S1.2.2.2.2.2.1 z⟩, fun _ => trivial⟩, vk, S2.2.2.2.1, S2.2.2.2.2.1, ⟨fun z => ⟨vk, S2.2.2.1, S2.2.2.2.2.1, S2.2.2.2.2.2.1 z⟩, fun _ => trivial⟩, vk, S3.2.2.2.1, S3.2.2.2.2.1, ⟨fun z => ⟨vk, S3.2.2.1, S3.2.2.2.2.1, S3.2.2.2.2.2.1 z⟩, fun _ => trivial⟩, K.1⟩⟩, K.2⟩
theorem hook_flat (g : Nat → Int32) : F_X11_hook (upd (upd (upd (upd g 0 1) 1 2) 2 3) 3 4) = nI (rQ 0) := by
  rw [rQ_0]
  rfl
theorem spread_run {d : Nat} (hd : d < 21) (one far q : Nat → Int32) (n1 n2 : Nat) (h1 : 6561 < n1) (h2 : 384 < n2) : P_X11_spread_L2 n1 far 0 ∧ P_X11_spread_L73 (nI d) n2 (upd (upd (upd (upd one 0 1) 1 2) 2 3) 3 4) (upd (F_X11_spread_L2 n1 far 0).1 (rQ 0) 1) (upd q 0 (nI (rQ 0))) 1 0 0 ∧ (F_X11_spread_L73 (nI d) n2 (upd (upd (upd (upd one 0 1) 1 2) 2 3) 3 4) (upd (F_X11_spread_L2 n1 far 0).1 (rQ 0) 1) (upd q 0 (nI (rQ 0))) 1 0 0).2.2.2.2.1 = nI (liesOf d) := by
  have Z := sp_zero 6561 0 (by omega) n1 far h1
  rw [show nI 0 = 0 from rfl] at Z
  have e1 : rC (4 * 0) = 1 := by rw [Nat.mul_zero]; exact rC_0
  have hR : RI (rC (4 * 0)) (upd (F_X11_spread_L2 n1 far 0).1 (rQ 0) 1) (upd q 0 (nI (rQ 0))) := by
    rw [e1]
    refine ⟨fun j hj => ?_, fun x hx hne => ?_⟩
    · have e0 : j = 0 := by omega
      rw [e0, upd_same, upd_same, rD_0]
      exact ⟨rfl, rfl⟩
    · rw [upd_ne _ (hne 0 (by decide)), Z.2, if_pos ⟨Nat.zero_le _, hx⟩]
  have L := spread_loop hd 384 0 (by omega) n2 (upd (upd (upd (upd one 0 1) 1 2) 2 3) 3 4) _ _ h2 hR
  have e2 : nI (cR d 0) = 0 := rfl
  have e3 : nI 1 = 1 := rfl
  have e4 : nI 0 = 0 := rfl
  have e5 : cR d 384 = liesOf d := of_decide_eq_true (List.all_eq_true.mp pf_cR d (List.mem_range.mpr hd))
  rw [e1, e2, e3, e4, e5] at L
  exact ⟨Z.1, L⟩
theorem spread_ok {d : Nat} (hd : d < 21) (one far q : Nat → Int32) : P_X11_spread one far q (nI d) ∧ (F_X11_spread one far q (nI d)).1 = nI (liesOf d) := by
  obtain ⟨n1, hn1⟩ : ∃ n, n = 6562 := ⟨_, rfl⟩
  obtain ⟨n2, hn2⟩ : ∃ n, n = 402 := ⟨_, rfl⟩
  have R := spread_run hd one far q n1 n2 (by omega) (by omega)
  have h0 := rQ_lt0
  have hv : vp_in (nI (rQ 0)) 6561 := vp_in_nI h0 (by decide)
  have hq : (nI (rQ 0)).toNatClampNeg = rQ 0 := nI_clamp (by omega)
  constructor
  · unfold P_X11_spread
    rw [← hn1, ← hn2]
    simp only [forall_eq, hook_flat, upd_same, hq]
    exact ⟨R.1, hv, R.2.1⟩
  · unfold F_X11_spread
    rw [← hn1, ← hn2]
    simp only [hook_flat, upd_same, hq]
    exact R.2.2
theorem pf_sums : (List.range 21).all (fun d => decide (F_X10_waysAsSums (nI d) = F_X11_sums (nI d))) = true := by decide +kernel
theorem p_sums (len : Int32) : ∀ (t j : Nat), j + t = 384 → ∀ (fuel : Nat) (y : Int32), t < fuel → P_X11_sums_L4 len fuel y (nI j) := by
  intro t
  induction t with
  | zero =>
    intro j hj fuel y hf
    obtain ⟨f, rfl⟩ : ∃ f, fuel = f + 1 := ⟨fuel - 1, by omega⟩
    have h1 : (384 : Int32) ≤ nI j := nI_le (a := 384) (by omega) (by omega)
    rw [P_X11_sums_L4]
    exact ⟨fun _ => trivial, fun q => absurd h1 q⟩
  | succ t ih =>
    intro j hj fuel y hf
    obtain ⟨f, rfl⟩ : ∃ f, fuel = f + 1 := ⟨fuel - 1, by omega⟩
    rw [P_X11_sums_L4]
    refine ⟨fun _ => trivial, fun _ x5 _ x6 _ x7 e7 => ?_⟩
    rw [e7, nI_1]
    exact ih (j + 1) (by omega) f x6 (by omega)
theorem p_w19 (len a b : Int32) : ∀ (t j : Nat), j + t = 6 → ∀ (fuel : Nat) (y : Int32), t < fuel → P_X10_waysAsSums_L19 len a b fuel y (nI j) := by
  intro t
  induction t with
  | zero =>
    intro j hj fuel y hf
    obtain ⟨f, rfl⟩ : ∃ f, fuel = f + 1 := ⟨fuel - 1, by omega⟩
    have h1 : (5 : Int32) < nI j := nI_lt (a := 5) (by omega) (by omega)
    rw [P_X10_waysAsSums_L19]
    exact ⟨fun _ => trivial, fun q => absurd h1 q⟩
  | succ t ih =>
    intro j hj fuel y hf
    obtain ⟨f, rfl⟩ : ∃ f, fuel = f + 1 := ⟨fuel - 1, by omega⟩
    rw [P_X10_waysAsSums_L19]
    refine ⟨fun _ => trivial, fun _ x10 _ x14 _ x15 e => ?_⟩
    rw [e, nI_1]
    exact ih (j + 1) (by omega) f x14 (by omega)
theorem p_w11 (len a : Int32) : ∀ (t j : Nat), j + t = 4 → ∀ (fuel : Nat) (y : Int32), t < fuel → P_X10_waysAsSums_L11 len a fuel y (nI j) := by
  intro t
  induction t with
  | zero =>
    intro j hj fuel y hf
    obtain ⟨f, rfl⟩ : ∃ f, fuel = f + 1 := ⟨fuel - 1, by omega⟩
    have h1 : (3 : Int32) < nI j := nI_lt (a := 3) (by omega) (by omega)
    rw [P_X10_waysAsSums_L11]
    exact ⟨fun _ => trivial, fun q => absurd h1 q⟩
  | succ t ih =>
    intro j hj fuel y hf
    obtain ⟨f, rfl⟩ : ∃ f, fuel = f + 1 := ⟨fuel - 1, by omega⟩
    rw [P_X10_waysAsSums_L11]
    refine ⟨fun _ => trivial, fun _ => ⟨p_w19 len a (nI j) 6 0 (by omega) 7 y (by omega), fun z16 _ z17 _ x18 e => ?_⟩⟩
    rw [e, nI_1]
    exact ih (j + 1) (by omega) f z16 (by omega)
theorem p_w4 (len : Int32) : ∀ (t j : Nat), j + t = 2 → ∀ (fuel : Nat) (y : Int32), t < fuel → P_X10_waysAsSums_L4 len fuel y (nI j) := by
  intro t
  induction t with
  | zero =>
    intro j hj fuel y hf
    obtain ⟨f, rfl⟩ : ∃ f, fuel = f + 1 := ⟨fuel - 1, by omega⟩
    have h1 : (1 : Int32) < nI j := nI_lt (a := 1) (by omega) (by omega)
    rw [P_X10_waysAsSums_L4]
    exact ⟨fun _ => trivial, fun q => absurd h1 q⟩
  | succ t ih =>
    intro j hj fuel y hf
    obtain ⟨f, rfl⟩ : ∃ f, fuel = f + 1 := ⟨fuel - 1, by omega⟩
    rw [P_X10_waysAsSums_L4]
    refine ⟨fun _ => trivial, fun _ => ⟨p_w11 len (nI j) 4 0 (by omega) 5 y (by omega), fun z19 _ z20 _ x21 e => ?_⟩⟩
    rw [e, nI_1]
    exact ih (j + 1) (by omega) f z19 (by omega)
theorem sums_ok {d : Nat} (hd : d < 21) : P_X10_waysAsSums (nI d) ∧ P_X11_sums (nI d) ∧ F_X10_waysAsSums (nI d) = F_X11_sums (nI d) := ⟨p_w4 _ 2 0 (by omega) 3 0 (by omega), p_sums _ 384 0 (by omega) 385 0 (by omega), of_decide_eq_true (List.all_eq_true.mp pf_sums d (List.mem_range.mpr hd))⟩
theorem ag_ways (lie : Nat → Int32) (seals : Nat → Int32) (folds : Nat → Int32) (n : Nat → Int32) (f : Nat → Nat → Int32) (lie2 : Nat → Int32) (seals2 : Nat → Int32) (folds2 : Nat → Int32) (n2 : Nat → Int32) (f2 : Nat → Nat → Int32) (lieS : Nat → Nat → Int32) (sealsS : Nat → Nat → Int32) (foldsS : Nat → Nat → Int32) (nS : Nat → Nat → Int32) (fS_ : Nat → Nat → Nat → Int32) (size : Int32) (nt : Int32) (ft : Nat → Int32) (fme : Nat → Int32) (ffo : Nat → Int32) (ffd : Nat → Int32) (kn : Int32) (taken : Int32) (known : Int32) (kept : Int32) (len : Int32) (fS : Nat → Int32) (fPast : Nat → Int32) (fSnap : Nat → Int32) (fText : Nat → Int32) (fOne : Nat → Int32) (fFar : Nat → Int32) (fQueue : Nat → Int32) (hR : RelW lie seals folds n f lie2 seals2 folds2 n2 f2 lieS sealsS foldsS nS fS_ size nt ft fme ffo ffd kn taken known kept len fS fPast fSnap fText) (sv1 : Int32) (sv2 : Int32) : AG_ways lie seals folds n f lie2 seals2 folds2 n2 f2 lieS sealsS foldsS nS fS_ size nt ft fme ffo ffd kn taken known kept len fS fPast fSnap fText fOne fFar fQueue sv1 sv2 := by
  have hR' := hR
  obtain ⟨hP, hsn, hh, ht, hw⟩ := hR'
  unfold AG_ways
  rcases what_cases sv1 (M := 20) (m := 20) rfl (by decide) with ⟨d, hd, rfl, id, nd, ld⟩ | ⟨id, nd⟩
  · rcases what_cases sv2 (M := 1) (m := 1) rfl (by decide) with ⟨w, hw1, rfl, iw, nw, lw⟩ | ⟨iw, nw⟩
    · left
      have LI := lies_ok (fme := fme) (ffo := ffo) hw (d := d) (by omega)
      have SP := spread_ok (d := d) (by omega) fOne fFar fQueue
      have SU := sums_ok (d := d) (by omega)
      rcases (show w = 0 ∨ w = 1 by omega) with rfl | rfl
      · have z0 : (nI 0 = 0) = True := eq_true rfl
        refine ⟨?_, ?_, ?_, ?_, ?_⟩
        · exact ⟨fun q => nd q, fun _ => ⟨fun _ => ⟨fun q => nw q, fun _ => ⟨fun _ => ⟨fun _ => SU.1, fun _ => LI.1⟩, fun q => q lw⟩⟩, fun q => q ld⟩⟩
        · unfold P_X11_ways
          simp only [forall_eq, implies_true, true_implies, false_implies, and_true, true_and, not_true_eq_false, not_false_eq_true, if_true, if_false, i10, i20, i00, le00, le10, le20, thr0, thr1, thr2, id, iw, z0]
          exact SU.2.1
        · unfold F_X11_ways
          simp only [forall_eq, implies_true, true_implies, false_implies, and_true, true_and, not_true_eq_false, not_false_eq_true, if_true, if_false, i10, i20, i00, le00, le10, le20, thr0, thr1, thr2, id, iw, z0]
        · unfold F_X11_ways F_X10_ways
          simp only [forall_eq, implies_true, true_implies, false_implies, and_true, true_and, not_true_eq_false, not_false_eq_true, if_true, if_false, i10, i20, i00, le00, le10, le20, thr0, thr1, thr2, id, iw, z0, if_neg nd, if_pos ld, if_neg nw, if_pos lw, SU.2.2]
        · unfold F_X10_ways
          simp only [forall_eq, implies_true, true_implies, false_implies, and_true, true_and, not_true_eq_false, not_false_eq_true, if_true, if_false, i10, i20, i00, le00, le10, le20, thr0, thr1, thr2, z0, if_neg nd, if_pos ld, if_neg nw, if_pos lw]
          exact hR
      · have z0 : (nI 1 = 0) = False := eq_false (by decide)
        refine ⟨?_, ?_, ?_, ?_, ?_⟩
        · exact ⟨fun q => nd q, fun _ => ⟨fun _ => ⟨fun q => nw q, fun _ => ⟨fun _ => ⟨fun _ => SU.1, fun _ => LI.1⟩, fun q => q lw⟩⟩, fun q => q ld⟩⟩
        · unfold P_X11_ways
          simp only [forall_eq, implies_true, true_implies, false_implies, and_true, true_and, not_true_eq_false, not_false_eq_true, if_true, if_false, i10, i20, i00, le00, le10, le20, thr0, thr1, thr2, id, iw, z0]
          exact SP.1
        · unfold F_X11_ways
          simp only [forall_eq, implies_true, true_implies, false_implies, and_true, true_and, not_true_eq_false, not_false_eq_true, if_true, if_false, i10, i20, i00, le00, le10, le20, thr0, thr1, thr2, id, iw, z0]
        · unfold F_X11_ways F_X10_ways
          simp only [forall_eq, implies_true, true_implies, false_implies, and_true, true_and, not_true_eq_false, not_false_eq_true, if_true, if_false, i10, i20, i00, le00, le10, le20, thr0, thr1, thr2, id, iw, z0, if_neg nd, if_pos ld, if_neg nw, if_pos lw, LI.2.1, SP.2]
        · unfold F_X10_ways
          simp only [forall_eq, implies_true, true_implies, false_implies, and_true, true_and, not_true_eq_false, not_false_eq_true, if_true, if_false, i10, i20, i00, le00, le10, le20, thr0, thr1, thr2, z0, if_neg nd, if_pos ld, if_neg nw, if_pos lw]
          exact ⟨hP, hsn, hh, ht, LI.2.2⟩
    · right
      refine ⟨⟨fun _ => trivial, fun _ => ⟨fun _ => ⟨fun _ => trivial, nw⟩, fun _ => trivial⟩⟩, ?_, ?_, hR⟩
      · unfold P_X11_ways
        simp only [forall_eq, implies_true, true_implies, false_implies, and_true, true_and, not_true_eq_false, not_false_eq_true, if_true, if_false, i10, i20, i00, le00, le10, le20, thr0, thr1, thr2, id, iw]
      · unfold F_X11_ways
        simp only [forall_eq, implies_true, true_implies, false_implies, and_true, true_and, not_true_eq_false, not_false_eq_true, if_true, if_false, i10, i20, i00, le00, le10, le20, thr0, thr1, thr2, id, iw]
  · right
    refine ⟨⟨fun _ => trivial, fun q => ⟨fun q2 => absurd q2 (nd q), fun _ => trivial⟩⟩, ?_, ?_, hR⟩
    · unfold P_X11_ways
      simp only [forall_eq, implies_true, true_implies, false_implies, and_true, true_and, not_true_eq_false, not_false_eq_true, if_true, if_false, i10, i20, i00, le00, le10, le20, thr0, thr1, thr2, id]
    · unfold F_X11_ways
      simp only [forall_eq, implies_true, true_implies, false_implies, and_true, true_and, not_true_eq_false, not_false_eq_true, if_true, if_false, i10, i20, i00, le00, le10, le20, thr0, thr1, thr2, id]

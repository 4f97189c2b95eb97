def wsx (me fo fd : Nat → Int32) (kn : Int32) (j : Nat) (c : Int32) : (Nat → Int32) × (Nat → Int32) × (Nat → Int32) × Int32 := if F_X3_firstShortening (F_X3_folded (me j) c) = c then F_X9_meet me fo fd kn (F_X3_folded (me j) c) (fo j + 1) else (me, fo, fd, kn)
theorem wsx1 (me fo fd : Nat → Int32) (kn : Int32) (j : Nat) (c : Int32) : (wsx me fo fd kn j c).1 = if F_X3_firstShortening (F_X3_folded (me j) c) = c then (F_X9_meet me fo fd kn (F_X3_folded (me j) c) (fo j + 1)).1 else me := by unfold wsx; split <;> rfl
theorem wsx2 (me fo fd : Nat → Int32) (kn : Int32) (j : Nat) (c : Int32) : (wsx me fo fd kn j c).2.1 = if F_X3_firstShortening (F_X3_folded (me j) c) = c then (F_X9_meet me fo fd kn (F_X3_folded (me j) c) (fo j + 1)).2.1 else fo := by unfold wsx; split <;> rfl
theorem wsx3 (me fo fd : Nat → Int32) (kn : Int32) (j : Nat) (c : Int32) : (wsx me fo fd kn j c).2.2.1 = if F_X3_firstShortening (F_X3_folded (me j) c) = c then (F_X9_meet me fo fd kn (F_X3_folded (me j) c) (fo j + 1)).2.2.1 else fd := by unfold wsx; split <;> rfl
theorem wsx4 (me fo fd : Nat → Int32) (kn : Int32) (j : Nat) (c : Int32) : (wsx me fo fd kn j c).2.2.2 = if F_X3_firstShortening (F_X3_folded (me j) c) = c then (F_X9_meet me fo fd kn (F_X3_folded (me j) c) (fo j + 1)).2.2.2 else kn := by unfold wsx; split <;> rfl
theorem wsx_ok {k c : Nat} (hk : k < 384) (hc : c < 4) {me fo fd : Nat → Int32} {kn C : Int32} {m m' : Nat} (em : m = wCn (4 * k + c)) (em' : m' = wCn (4 * k + c + 1)) (eC : C = nI c) (ekn : kn = nI m) (h : WI m me fo fd) : (F_X3_firstShortening (F_X3_folded (me k) C) = C → P_X9_meet me fo fd kn (F_X3_folded (me k) C) (fo k + 1)) ∧ (wsx me fo fd kn k C).2.2.2 = nI m' ∧ WI m' (wsx me fo fd kn k C).1 (wsx me fo fd kn k C).2.1 (wsx me fo fd kn k C).2.2.1 := by
  rw [em] at h ekn
  rw [em', eC, ekn]
  obtain ⟨⟨a1, a2⟩, a3, a4, -⟩ := walk_sub hk hc h
  rw [a1, a2]
  refine ⟨fun q => (a3 q).1, ?_⟩
  unfold wsx
  rw [a1, a2]
  by_cases q : F_X3_firstShortening (F_X3_folded (nI (wM k)) (nI c)) = nI c
  · rw [if_pos q]
    exact (a3 q).2
  · rw [if_neg q, a4 q]
    exact ⟨rfl, h⟩
theorem walk_loop : ∀ (t k : Nat), k + t = 384 → ∀ (fuel : Nat) (me fo fd : Nat → Int32), t < fuel → WI (wCn (4 * k)) me fo fd → P_X9_go_L10 fuel me fo fd (nI (wCn (4 * k))) (nI k) ∧ (F_X9_go_L10 fuel me fo fd (nI (wCn (4 * k))) (nI k)).2.2.2.1 = nI 384 ∧ WI 384 (F_X9_go_L10 fuel me fo fd (nI (wCn (4 * k))) (nI k)).1 (F_X9_go_L10 fuel me fo fd (nI (wCn (4 * k))) (nI k)).2.1 (F_X9_go_L10 fuel me fo fd (nI (wCn (4 * k))) (nI k)).2.2.1 := by
  intro t
  induction t with
  | zero =>
    intro k hk fuel me fo fd hf h
    obtain ⟨f, rfl⟩ : ∃ f, fuel = f + 1 := ⟨fuel - 1, by omega⟩
    have hk384 : k = 384 := by omega
    subst hk384
    rw [show wCn (4 * 384) = 384 from wCn_end] at h ⊢
    have h1 : nI 384 ≤ nI 384 := by decide
    rw [P_X9_go_L10, F_X9_go_L10, if_pos h1]
    exact ⟨⟨fun _ => trivial, fun q => absurd h1 q⟩, rfl, h⟩
  | succ t ih =>
    intro k hk fuel me fo fd hf h
    obtain ⟨f, rfl⟩ : ∃ f, fuel = f + 1 := ⟨fuel - 1, by omega⟩
    have hk4 : k < 384 := by omega
    have H := List.all_eq_true.mp pf_walk (4 * k) (List.mem_range.mpr (by omega))
    have h1 : ¬ nI (wCn (4 * k)) ≤ nI k := by
      unfold okW at H
      simp only [Bool.and_eq_true, decide_eq_true_eq] at H
      obtain ⟨⟨b1, b2⟩, -⟩ := H
      exact nI_ge (by omega) (by omega)
    have h2 : ¬ (384 : Int32) ≤ nI k := nI_ge (b := 384) hk4 (by decide)
    have vk : vp_in (nI k) 384 := vp_in_nI hk4 (by decide)
    obtain ⟨a1, ea1⟩ : ∃ x, x = (wsx me fo fd (nI (wCn (4 * k))) k 0).1 := ⟨_, rfl⟩
    obtain ⟨b1, eb1⟩ : ∃ x, x = (wsx me fo fd (nI (wCn (4 * k))) k 0).2.1 := ⟨_, rfl⟩
    obtain ⟨c1, ec1⟩ : ∃ x, x = (wsx me fo fd (nI (wCn (4 * k))) k 0).2.2.1 := ⟨_, rfl⟩
    obtain ⟨d1, ed1⟩ : ∃ x, x = (wsx me fo fd (nI (wCn (4 * k))) k 0).2.2.2 := ⟨_, rfl⟩
    have S0 := wsx_ok (C := 0) (m := wCn (4 * k)) (kn := nI (wCn (4 * k))) hk4 (c := 0) (by decide) rfl rfl rfl rfl h
    rw [← ea1, ← eb1, ← ec1, ← ed1] at S0
    obtain ⟨a2, ea2⟩ : ∃ x, x = (wsx a1 b1 c1 d1 k 1).1 := ⟨_, rfl⟩
    obtain ⟨b2, eb2⟩ : ∃ x, x = (wsx a1 b1 c1 d1 k 1).2.1 := ⟨_, rfl⟩
    obtain ⟨c2, ec2⟩ : ∃ x, x = (wsx a1 b1 c1 d1 k 1).2.2.1 := ⟨_, rfl⟩
    obtain ⟨d2, ed2⟩ : ∃ x, x = (wsx a1 b1 c1 d1 k 1).2.2.2 := ⟨_, rfl⟩
    have S1 := wsx_ok (C := 1) hk4 (c := 1) (by decide) rfl rfl rfl S0.2.1 S0.2.2
    rw [← ea2, ← eb2, ← ec2, ← ed2] at S1
    obtain ⟨a3, ea3⟩ : ∃ x, x = (wsx a2 b2 c2 d2 k 2).1 := ⟨_, rfl⟩
    obtain ⟨b3, eb3⟩ : ∃ x, x = (wsx a2 b2 c2 d2 k 2).2.1 := ⟨_, rfl⟩
    obtain ⟨c3, ec3⟩ : ∃ x, x = (wsx a2 b2 c2 d2 k 2).2.2.1 := ⟨_, rfl⟩
    obtain ⟨d3, ed3⟩ : ∃ x, x = (wsx a2 b2 c2 d2 k 2).2.2.2 := ⟨_, rfl⟩
    have S2 := wsx_ok (C := 2) hk4 (c := 2) (by decide) rfl rfl rfl S1.2.1 S1.2.2
    rw [← ea3, ← eb3, ← ec3, ← ed3] at S2
    obtain ⟨a4, ea4⟩ : ∃ x, x = (wsx a3 b3 c3 d3 k 3).1 := ⟨_, rfl⟩
    obtain ⟨b4, eb4⟩ : ∃ x, x = (wsx a3 b3 c3 d3 k 3).2.1 := ⟨_, rfl⟩
    obtain ⟨c4, ec4⟩ : ∃ x, x = (wsx a3 b3 c3 d3 k 3).2.2.1 := ⟨_, rfl⟩
    obtain ⟨d4, ed4⟩ : ∃ x, x = (wsx a3 b3 c3 d3 k 3).2.2.2 := ⟨_, rfl⟩
    have S3 := wsx_ok (C := 3) hk4 (c := 3) (by decide) rfl rfl rfl S2.2.1 S2.2.2
    rw [← ea4, ← eb4, ← ec4, ← ed4] at S3
    have S4 := S3.2.2
    rw [show 4 * k + 3 + 1 = 4 * (k + 1) by omega] at S4
    have K := ih (k + 1) (by omega) f a4 b4 c4 (by omega) S4
    have e4 : wCn (4 * k + 3 + 1) = wCn (4 * (k + 1)) := by congr 1
    rw [← e4, ← S3.2.1] at K
    rw [P_X9_go_L10, F_X9_go_L10, if_neg h1, if_neg h2]
    simp only [forall_eq, nI_clamp (n := k) (by omega), nI_1, ← wsx1, ← wsx2, ← wsx3, ← wsx4, ← ea1, ← eb1, ← ec1, ← ed1, ← ea2, ← eb2, ← ec2, ← ed2, ← ea3, ← eb3, ← ec3, ← ed3, ← ea4, ← eb4, ← ec4, ← ed4]
    exact ⟨⟨fun q => absurd q h1, fun _ => ⟨fun q => absurd q h2, fun _ => ⟨vk, ⟨fun q => ⟨vk, S0.1 q⟩, fun _ => trivial⟩, vk, ⟨fun q => ⟨vk, S1.1 q⟩, fun _ => trivial⟩, vk, ⟨fun q => ⟨vk, S2.1 q⟩, fun _ => trivial⟩, vk, ⟨fun q => ⟨vk, S3.1 q⟩, fun _ => trivial⟩, K.1⟩⟩⟩, K.2⟩
theorem lies_ok {ffd fme ffo : Nat → Int32} {kn : Int32} (h : WalkR ffd kn) {d : Nat} (hd : d < 21) : P_X9_liesAfter fme ffo ffd kn (nI d) ∧ (F_X9_liesAfter fme ffo ffd kn (nI d)).1 = nI (liesOf d) ∧ WalkR (F_X9_liesAfter fme ffo ffd kn (nI d)).2.2.2.1 (F_X9_liesAfter fme ffo ffd kn (nI d)).2.2.2.2 := by
  have h0 : ¬ nI d < 0 := nI_nneg (by omega)
  have h1 : ¬ (21 : Int32) ≤ nI d := nI_ge (b := 21) hd (by decide)
  rcases h with ⟨e, hz⟩ | ⟨e, hz⟩
  · subst e
    have W0 : WI 0 fme ffo ffd := ⟨fun j hj => absurd hj (Nat.not_lt_zero _), fun d hd => by rw [hz d hd]; rfl⟩
    have ME := meet_ok (m := 0) (by decide) W0 (r := 1672) (e := 0) (by rw [wM_0]; rfl) wD_0 (by decide)
    rw [show nI 0 = 0 from rfl] at ME
    have L := walk_loop 384 0 (by omega) 386 _ _ _ (by omega) (by rw [show wCn (4 * 0) = 0 + 1 from wCn_0]; exact ME.2.2)
    rw [show wCn (4 * 0) = 0 + 1 from wCn_0, ← ME.2.1, show nI 0 = 0 from rfl] at L
    have eg : (F_X9_go fme ffo ffd 0).2.2.1 = (F_X9_go_L10 386 (F_X9_meet fme ffo ffd 0 1672 0).1 (F_X9_meet fme ffo ffd 0 1672 0).2.1 (F_X9_meet fme ffo ffd 0 1672 0).2.2.1 (F_X9_meet fme ffo ffd 0 1672 0).2.2.2 0).2.2.1 := by
      unfold F_X9_go
      dsimp only
    have ek : (F_X9_go fme ffo ffd 0).2.2.2 = nI 384 := by
      unfold F_X9_go
      dsimp only
      exact L.2.1
    have ef : ∀ x, x < 21 → (F_X9_go fme ffo ffd 0).2.2.1 x = nI (liesOf x) := fun x hx => by
      rw [eg, L.2.2.2 x hx, of_decide_eq_true (List.all_eq_true.mp pf_cW x (List.mem_range.mpr hx))]
    refine ⟨?_, ?_, ?_⟩
    · unfold P_X9_liesAfter P_X9_go
      simp only [forall_eq]
      exact ⟨⟨fun _ => ⟨ME.1, L.1⟩, fun _ => trivial⟩, fun _ => trivial, fun _ => ⟨fun _ => trivial, fun _ => vp_in_nI hd (by decide)⟩⟩
    · unfold F_X9_liesAfter
      simp only [if_neg h0, if_neg h1, if_true, nI_clamp (n := d) (by omega), ef d hd]
    · unfold F_X9_liesAfter
      simp only [if_true]
      exact Or.inr ⟨ek, ef⟩
  · have n0 : ¬ kn = 0 := by rw [e]; decide
    refine ⟨?_, ?_, ?_⟩
    · unfold P_X9_liesAfter
      simp only [forall_eq]
      exact ⟨⟨fun q => absurd q n0, fun _ => trivial⟩, fun _ => trivial, fun _ => ⟨fun _ => trivial, fun _ => vp_in_nI hd (by decide)⟩⟩
    · unfold F_X9_liesAfter
      simp only [if_neg h0, if_neg h1, if_neg n0, nI_clamp (n := d) (by omega), hz d hd]
    · unfold F_X9_liesAfter
      simp only [if_neg n0]
      exact Or.inr ⟨e, hz⟩

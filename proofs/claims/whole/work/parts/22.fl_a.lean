section
variable {p : Program} {l : Launch} {e : Env} {R : Room} {s : State} {m : MethodId} {args : Array Value} {below : List Frame} {meth : Method} {c : Code} {cc : ByteArray} {nL : Nat} {own : String} {D : va_G} {tys : List (ClassId × FieldType)} {A : Nat → Prop} {cells slots : Nat} {Q : State → Prop} {I I' : List va_W} {L L' : List (Nat × Value)} {pc : Nat} {st : List Value}
theorem r_callVX {α : Type} {val : α → Option Value} {post : α → List va_W → Prop} {y : MethodName} {bytes : ByteArray} {maxL : Nat} {ret : Option FieldType} {n index fr lo : Nat} {wc wr : List va_W} {b ci : Nat} {rc : vw_C} {As : List Value} {st0 : List Value} (C : Cx p s m args c cc nL own D tys A) (hM : M val l y bytes maxL ret fr lo D tys (.ref b :: As) wc post) (hk : kV y bytes maxL ret n) (hl : Cond.methodLink own index y ∈ tb) (is : List Nat) (hn : is.Perm (List.range I.length)) (hI : is.map (fun i => I[i]?) = (wc ++ wr).map some) (hrc : vwCl[ci]? = some rc) (hcl : rc.1 = y.cls) (hq : ∃ (q0 : Nat) (fs : List Value), wc.flatten[q0]? = some (b, .inr (ci, fs))) (hlen : As.length = n) (hst : st0 = As.reverse ++ .ref b :: st) (hcat : (st.map fun v => v.category).sum ≤ 8) (hR : fr + 1 ≤ R.frames ∧ 8 + (maxL + 11) + lo ≤ R.locals) (hroom : cells ≤ R.cells ∧ slots ≤ R.slots) (hdg : decode cc pc = .ok (.invokevirtual index, 3))
    (kk : ∀ (r : α) (w1 : List va_W), post r w1 → V p l e R s m args below meth c nL D A cells slots Q (w1 ++ wr) L (pc + 3) ((val r).toList ++ st)) : V p l e R s m args below meth c nL D A cells slots Q I L pc st0 := by
  refine r_run (wc := wc) (wr := wr) (a := (Value.ref b :: As).toArray) C (by rw [← List.flatten_append]; exact (pl_perm is hn hI).flatten) ?_ kk
  intro H locs ls hPc hDc hls
  refine va_runV (As := As) (rest := st) C.1 (hM H.size) (kV_cw hk C.1.2.2.2.2 hl hR) ⟨mPre_blind, ?_, fun U hU hW => ⟨rfl, by rw [hU], by rw [hU]; exact hPc, va_K.moved hW.alike C.2.1, hDc⟩⟩ rfl hlen hls.1 hst (by show 2 * 0 + _ ≤ 8; omega) hdg hroom
  rw [← hcl]
  obtain ⟨q0, fs, hq⟩ := hq
  exact va_recv C.2.1 hPc hrc hq
end
theorem pile_L {cI cL : ClassId} {pl a : Nat} {L h v : Nat → Nat} {lie seals folds n : Nat → Int32} {f : Nat → Nat → Int32} {k : Nat} {ws : List va_W} (hk : k < 5) : ∃ (q0 : Nat) (fs : List Value), ((pileB cI cL pl a L h v lie seals folds n f :: ws) : List va_W).flatten[q0]? = some (L k, .inr (1, fs)) := by
  rcases (show k = 0 ∨ k = 1 ∨ k = 2 ∨ k = 3 ∨ k = 4 by omega) with rfl | rfl | rfl | rfl | rfl
  · exact ⟨2, _, rfl⟩
  · exact ⟨5, _, rfl⟩
  · exact ⟨8, _, rfl⟩
  · exact ⟨11, _, rfl⟩
  · exact ⟨14, _, rfl⟩
theorem pile_h {cI cL : ClassId} {pl a : Nat} {L h v : Nat → Nat} {lie seals folds n : Nat → Int32} {f : Nat → Nat → Int32} {k : Nat} {ws : List va_W} (hk : k < 5) : ∃ (q0 : Nat) (fs : List Value), ((pileB cI cL pl a L h v lie seals folds n f :: ws) : List va_W).flatten[q0]? = some (h k, .inr (4, fs)) := by
  rcases (show k = 0 ∨ k = 1 ∨ k = 2 ∨ k = 3 ∨ k = 4 by omega) with rfl | rfl | rfl | rfl | rfl
  · exact ⟨3, _, rfl⟩
  · exact ⟨6, _, rfl⟩
  · exact ⟨9, _, rfl⟩
  · exact ⟨12, _, rfl⟩
  · exact ⟨15, _, rfl⟩
def F_X6_at_P (n : Nat → Int32) (f : Nat → Nat → Int32) (k : Nat) (i : Int32) : Int32 := F_X6_at (n k) (f k) i
def P_X6_at_P (n : Nat → Int32) (k : Nat) (i : Int32) : Prop := k < 5 ∧ P_X6_at (n k) i
set_option maxRecDepth 20000 in
set_option maxHeartbeats 8000000 in
theorem m_X6_at_P (l : Launch) (D : va_G) (cI cL cP cJ : ClassId) (pl : Nat) (a : Nat) (L : Nat → Nat) (h : Nat → Nat) (v : Nat → Nat) (lie : Nat → Int32) (seals : Nat → Int32) (folds : Nat → Int32) (n : Nat → Int32) (f : Nat → Nat → Int32) (k : Nat) (i : Int32) (hp : P_X6_at_P n k i) : M vI l yX6_at cX6_at 2 (some .int) 0 0 D (tyF cI cL cP cJ) [.ref (h k), .int i] [pileB cI cL pl a L h v lie seals folds n f] (fun (r : Int32) (w1 : List va_W) => r = F_X6_at_P n f k i ∧ w1 = [pileB cI cL pl a L h v lie seals folds n f]) := by
  unfold P_X6_at_P at hp
  obtain ⟨hk, hp⟩ := hp
  rcases (show k = 0 ∨ k = 1 ∨ k = 2 ∨ k = 3 ∨ k = 4 by omega) with rfl | rfl | rfl | rfl | rfl
  · refine M_lift (wr := [[(pl, .inr (2, [.ref a]))], [(a, .inl (cL, 5, .inr (.inr (.inr (.inr (rfs L))))))], [(L 0, .inr (1, [.ref (h 0), .int (lie 0), .int (seals 0), .int (folds 0)]))], letB cI (L 1) (h 1) (v 1) (lie 1) (seals 1) (folds 1) (n 1) (f 1), letB cI (L 2) (h 2) (v 2) (lie 2) (seals 2) (folds 2) (n 2) (f 2), letB cI (L 3) (h 3) (v 3) (lie 3) (seals 3) (folds 3) (n 3) (f 3), letB cI (L 4) (h 4) (v 4) (lie 4) (seals 4) (folds 4) (n 4) (f 4)]) (m_X6_at l D cI cL cP cJ (h 0) (v 0) (n 0) (f 0) i hp) ?_ (fun r w hw => ?_)
    · exact (show _ = ([[(pl, .inr (2, [.ref a]))], [(a, .inl (cL, 5, .inr (.inr (.inr (.inr (rfs L))))))], [(L 0, .inr (1, [.ref (h 0), .int (lie 0), .int (seals 0), .int (folds 0)]))], rowB cI (h 0) (v 0) (n 0) (f 0), letB cI (L 1) (h 1) (v 1) (lie 1) (seals 1) (folds 1) (n 1) (f 1), letB cI (L 2) (h 2) (v 2) (lie 2) (seals 2) (folds 2) (n 2) (f 2), letB cI (L 3) (h 3) (v 3) (lie 3) (seals 3) (folds 3) (n 3) (f 3), letB cI (L 4) (h 4) (v 4) (lie 4) (seals 4) (folds 4) (n 4) (f 4)] : List va_W).flatten from rfl) ▸ (List.flatten_append ▸ (pl_perm (I := [[(pl, .inr (2, [.ref a]))], [(a, .inl (cL, 5, .inr (.inr (.inr (.inr (rfs L))))))], [(L 0, .inr (1, [.ref (h 0), .int (lie 0), .int (seals 0), .int (folds 0)]))], rowB cI (h 0) (v 0) (n 0) (f 0), letB cI (L 1) (h 1) (v 1) (lie 1) (seals 1) (folds 1) (n 1) (f 1), letB cI (L 2) (h 2) (v 2) (lie 2) (seals 2) (folds 2) (n 2) (f 2), letB cI (L 3) (h 3) (v 3) (lie 3) (seals 3) (folds 3) (n 3) (f 3), letB cI (L 4) (h 4) (v 4) (lie 4) (seals 4) (folds 4) (n 4) (f 4)]) (J := [rowB cI (h 0) (v 0) (n 0) (f 0)] ++ [[(pl, .inr (2, [.ref a]))], [(a, .inl (cL, 5, .inr (.inr (.inr (.inr (rfs L))))))], [(L 0, .inr (1, [.ref (h 0), .int (lie 0), .int (seals 0), .int (folds 0)]))], letB cI (L 1) (h 1) (v 1) (lie 1) (seals 1) (folds 1) (n 1) (f 1), letB cI (L 2) (h 2) (v 2) (lie 2) (seals 2) (folds 2) (n 2) (f 2), letB cI (L 3) (h 3) (v 3) (lie 3) (seals 3) (folds 3) (n 3) (f 3), letB cI (L 4) (h 4) (v 4) (lie 4) (seals 4) (folds 4) (n 4) (f 4)]) [3, 0, 1, 2, 4, 5, 6, 7] (show ([3, 0, 1, 2, 4, 5, 6, 7] : List Nat).Perm (List.range 8) by decide) rfl).flatten)
    · obtain ⟨rfl, rfl⟩ := hw
      refine ⟨_, ?_, ⟨rfl, rfl⟩⟩
      exact List.Perm.trans (List.Perm.of_eq (show _ = ([rowB cI (h 0) (v 0) (n 0) (f 0), [(pl, .inr (2, [.ref a]))], [(a, .inl (cL, 5, .inr (.inr (.inr (.inr (rfs L))))))], [(L 0, .inr (1, [.ref (h 0), .int (lie 0), .int (seals 0), .int (folds 0)]))], letB cI (L 1) (h 1) (v 1) (lie 1) (seals 1) (folds 1) (n 1) (f 1), letB cI (L 2) (h 2) (v 2) (lie 2) (seals 2) (folds 2) (n 2) (f 2), letB cI (L 3) (h 3) (v 3) (lie 3) (seals 3) (folds 3) (n 3) (f 3), letB cI (L 4) (h 4) (v 4) (lie 4) (seals 4) (folds 4) (n 4) (f 4)] : List va_W).flatten from rfl)) (List.Perm.trans (pl_perm (I := [rowB cI (h 0) (v 0) (n 0) (f 0), [(pl, .inr (2, [.ref a]))], [(a, .inl (cL, 5, .inr (.inr (.inr (.inr (rfs L))))))], [(L 0, .inr (1, [.ref (h 0), .int (lie 0), .int (seals 0), .int (folds 0)]))], letB cI (L 1) (h 1) (v 1) (lie 1) (seals 1) (folds 1) (n 1) (f 1), letB cI (L 2) (h 2) (v 2) (lie 2) (seals 2) (folds 2) (n 2) (f 2), letB cI (L 3) (h 3) (v 3) (lie 3) (seals 3) (folds 3) (n 3) (f 3), letB cI (L 4) (h 4) (v 4) (lie 4) (seals 4) (folds 4) (n 4) (f 4)]) (J := [[(pl, .inr (2, [.ref a]))], [(a, .inl (cL, 5, .inr (.inr (.inr (.inr (rfs L))))))], [(L 0, .inr (1, [.ref (h 0), .int (lie 0), .int (seals 0), .int (folds 0)]))], rowB cI (h 0) (v 0) (n 0) (f 0), letB cI (L 1) (h 1) (v 1) (lie 1) (seals 1) (folds 1) (n 1) (f 1), letB cI (L 2) (h 2) (v 2) (lie 2) (seals 2) (folds 2) (n 2) (f 2), letB cI (L 3) (h 3) (v 3) (lie 3) (seals 3) (folds 3) (n 3) (f 3), letB cI (L 4) (h 4) (v 4) (lie 4) (seals 4) (folds 4) (n 4) (f 4)]) [1, 2, 3, 0, 4, 5, 6, 7] (show ([1, 2, 3, 0, 4, 5, 6, 7] : List Nat).Perm (List.range 8) by decide) rfl).flatten (List.Perm.of_eq rfl))
  · refine M_lift (wr := [[(pl, .inr (2, [.ref a]))], [(a, .inl (cL, 5, .inr (.inr (.inr (.inr (rfs L))))))], letB cI (L 0) (h 0) (v 0) (lie 0) (seals 0) (folds 0) (n 0) (f 0), [(L 1, .inr (1, [.ref (h 1), .int (lie 1), .int (seals 1), .int (folds 1)]))], letB cI (L 2) (h 2) (v 2) (lie 2) (seals 2) (folds 2) (n 2) (f 2), letB cI (L 3) (h 3) (v 3) (lie 3) (seals 3) (folds 3) (n 3) (f 3), letB cI (L 4) (h 4) (v 4) (lie 4) (seals 4) (folds 4) (n 4) (f 4)]) (m_X6_at l D cI cL cP cJ (h 1) (v 1) (n 1) (f 1) i hp) ?_ (fun r w hw => ?_)
    · exact (show _ = ([[(pl, .inr (2, [.ref a]))], [(a, .inl (cL, 5, .inr (.inr (.inr (.inr (rfs L))))))], letB cI (L 0) (h 0) (v 0) (lie 0) (seals 0) (folds 0) (n 0) (f 0), [(L 1, .inr (1, [.ref (h 1), .int (lie 1), .int (seals 1), .int (folds 1)]))], rowB cI (h 1) (v 1) (n 1) (f 1), letB cI (L 2) (h 2) (v 2) (lie 2) (seals 2) (folds 2) (n 2) (f 2), letB cI (L 3) (h 3) (v 3) (lie 3) (seals 3) (folds 3) (n 3) (f 3), letB cI (L 4) (h 4) (v 4) (lie 4) (seals 4) (folds 4) (n 4) (f 4)] : List va_W).flatten from rfl) ▸ (List.flatten_append ▸ (pl_perm (I := [[(pl, .inr (2, [.ref a]))], [(a, .inl (cL, 5, .inr (.inr (.inr (.inr (rfs L))))))], letB cI (L 0) (h 0) (v 0) (lie 0) (seals 0) (folds 0) (n 0) (f 0), [(L 1, .inr (1, [.ref (h 1), .int (lie 1), .int (seals 1), .int (folds 1)]))], rowB cI (h 1) (v 1) (n 1) (f 1), letB cI (L 2) (h 2) (v 2) (lie 2) (seals 2) (folds 2) (n 2) (f 2), letB cI (L 3) (h 3) (v 3) (lie 3) (seals 3) (folds 3) (n 3) (f 3), letB cI (L 4) (h 4) (v 4) (lie 4) (seals 4) (folds 4) (n 4) (f 4)]) (J := [rowB cI (h 1) (v 1) (n 1) (f 1)] ++ [[(pl, .inr (2, [.ref a]))], [(a, .inl (cL, 5, .inr (.inr (.inr (.inr (rfs L))))))], letB cI (L 0) (h 0) (v 0) (lie 0) (seals 0) (folds 0) (n 0) (f 0), [(L 1, .inr (1, [.ref (h 1), .int (lie 1), .int (seals 1), .int (folds 1)]))], letB cI (L 2) (h 2) (v 2) (lie 2) (seals 2) (folds 2) (n 2) (f 2), letB cI (L 3) (h 3) (v 3) (lie 3) (seals 3) (folds 3) (n 3) (f 3), letB cI (L 4) (h 4) (v 4) (lie 4) (seals 4) (folds 4) (n 4) (f 4)]) [4, 0, 1, 2, 3, 5, 6, 7] (show ([4, 0, 1, 2, 3, 5, 6, 7] : List Nat).Perm (List.range 8) by decide) rfl).flatten)
    · obtain ⟨rfl, rfl⟩ := hw
      refine ⟨_, ?_, ⟨rfl, rfl⟩⟩
      exact List.Perm.trans (List.Perm.of_eq (show _ = ([rowB cI (h 1) (v 1) (n 1) (f 1), [(pl, .inr (2, [.ref a]))], [(a, .inl (cL, 5, .inr (.inr (.inr (.inr (rfs L))))))], letB cI (L 0) (h 0) (v 0) (lie 0) (seals 0) (folds 0) (n 0) (f 0), [(L 1, .inr (1, [.ref (h 1), .int (lie 1), .int (seals 1), .int (folds 1)]))], letB cI (L 2) (h 2) (v 2) (lie 2) (seals 2) (folds 2) (n 2) (f 2), letB cI (L 3) (h 3) (v 3) (lie 3) (seals 3) (folds 3) (n 3) (f 3), letB cI (L 4) (h 4) (v 4) (lie 4) (seals 4) (folds 4) (n 4) (f 4)] : List va_W).flatten from rfl)) (List.Perm.trans (pl_perm (I := [rowB cI (h 1) (v 1) (n 1) (f 1), [(pl, .inr (2, [.ref a]))], [(a, .inl (cL, 5, .inr (.inr (.inr (.inr (rfs L))))))], letB cI (L 0) (h 0) (v 0) (lie 0) (seals 0) (folds 0) (n 0) (f 0), [(L 1, .inr (1, [.ref (h 1), .int (lie 1), .int (seals 1), .int (folds 1)]))], letB cI (L 2) (h 2) (v 2) (lie 2) (seals 2) (folds 2) (n 2) (f 2), letB cI (L 3) (h 3) (v 3) (lie 3) (seals 3) (folds 3) (n 3) (f 3), letB cI (L 4) (h 4) (v 4) (lie 4) (seals 4) (folds 4) (n 4) (f 4)]) (J := [[(pl, .inr (2, [.ref a]))], [(a, .inl (cL, 5, .inr (.inr (.inr (.inr (rfs L))))))], letB cI (L 0) (h 0) (v 0) (lie 0) (seals 0) (folds 0) (n 0) (f 0), [(L 1, .inr (1, [.ref (h 1), .int (lie 1), .int (seals 1), .int (folds 1)]))], rowB cI (h 1) (v 1) (n 1) (f 1), letB cI (L 2) (h 2) (v 2) (lie 2) (seals 2) (folds 2) (n 2) (f 2), letB cI (L 3) (h 3) (v 3) (lie 3) (seals 3) (folds 3) (n 3) (f 3), letB cI (L 4) (h 4) (v 4) (lie 4) (seals 4) (folds 4) (n 4) (f 4)]) [1, 2, 3, 4, 0, 5, 6, 7] (show ([1, 2, 3, 4, 0, 5, 6, 7] : List Nat).Perm (List.range 8) by decide) rfl).flatten (List.Perm.of_eq rfl))
  · refine M_lift (wr := [[(pl, .inr (2, [.ref a]))], [(a, .inl (cL, 5, .inr (.inr (.inr (.inr (rfs L))))))], letB cI (L 0) (h 0) (v 0) (lie 0) (seals 0) (folds 0) (n 0) (f 0), letB cI (L 1) (h 1) (v 1) (lie 1) (seals 1) (folds 1) (n 1) (f 1), [(L 2, .inr (1, [.ref (h 2), .int (lie 2), .int (seals 2), .int (folds 2)]))], letB cI (L 3) (h 3) (v 3) (lie 3) (seals 3) (folds 3) (n 3) (f 3), letB cI (L 4) (h 4) (v 4) (lie 4) (seals 4) (folds 4) (n 4) (f 4)]) (m_X6_at l D cI cL cP cJ (h 2) (v 2) (n 2) (f 2) i hp) ?_ (fun r w hw => ?_)
    · exact (show _ = ([[(pl, .inr (2, [.ref a]))], [(a, .inl (cL, 5, .inr (.inr (.inr (.inr (rfs L))))))], letB cI (L 0) (h 0) (v 0) (lie 0) (seals 0) (folds 0) (n 0) (f 0), letB cI (L 1) (h 1) (v 1) (lie 1) (seals 1) (folds 1) (n 1) (f 1), [(L 2, .inr (1, [.ref (h 2), .int (lie 2), .int (seals 2), .int (folds 2)]))], rowB cI (h 2) (v 2) (n 2) (f 2), letB cI (L 3) (h 3) (v 3) (lie 3) (seals 3) (folds 3) (n 3) (f 3), letB cI (L 4) (h 4) (v 4) (lie 4) (seals 4) (folds 4) (n 4) (f 4)] : List va_W).flatten from rfl) ▸ (List.flatten_append ▸ (pl_perm (I := [[(pl, .inr (2, [.ref a]))], [(a, .inl (cL, 5, .inr (.inr (.inr (.inr (rfs L))))))], letB cI (L 0) (h 0) (v 0) (lie 0) (seals 0) (folds 0) (n 0) (f 0), letB cI (L 1) (h 1) (v 1) (lie 1) (seals 1) (folds 1) (n 1) (f 1), [(L 2, .inr (1, [.ref (h 2), .int (lie 2), .int (seals 2), .int (folds 2)]))], rowB cI (h 2) (v 2) (n 2) (f 2), letB cI (L 3) (h 3) (v 3) (lie 3) (seals 3) (folds 3) (n 3) (f 3), letB cI (L 4) (h 4) (v 4) (lie 4) (seals 4) (folds 4) (n 4) (f 4)]) (J := [rowB cI (h 2) (v 2) (n 2) (f 2)] ++ [[(pl, .inr (2, [.ref a]))], [(a, .inl (cL, 5, .inr (.inr (.inr (.inr (rfs L))))))], letB cI (L 0) (h 0) (v 0) (lie 0) (seals 0) (folds 0) (n 0) (f 0), letB cI (L 1) (h 1) (v 1) (lie 1) (seals 1) (folds 1) (n 1) (f 1), [(L 2, .inr (1, [.ref (h 2), .int (lie 2), .int (seals 2), .int (folds 2)]))], letB cI (L 3) (h 3) (v 3) (lie 3) (seals 3) (folds 3) (n 3) (f 3), letB cI (L 4) (h 4) (v 4) (lie 4) (seals 4) (folds 4) (n 4) (f 4)]) [5, 0, 1, 2, 3, 4, 6, 7] (show ([5, 0, 1, 2, 3, 4, 6, 7] : List Nat).Perm (List.range 8) by decide) rfl).flatten)
    · obtain ⟨rfl, rfl⟩ := hw
      refine ⟨_, ?_, ⟨rfl, rfl⟩⟩
      exact List.Perm.trans (List.Perm.of_eq (show _ = ([rowB cI (h 2) (v 2) (n 2) (f 2), [(pl, .inr (2, [.ref a]))], [(a, .inl (cL, 5, .inr (.inr (.inr (.inr (rfs L))))))], letB cI (L 0) (h 0) (v 0) (lie 0) (seals 0) (folds 0) (n 0) (f 0), letB cI (L 1) (h 1) (v 1) (lie 1) (seals 1) (folds 1) (n 1) (f 1), [(L 2, .inr (1, [.ref (h 2), .int (lie 2), .int (seals 2), .int (folds 2)]))], letB cI (L 3) (h 3) (v 3) (lie 3) (seals 3) (folds 3) (n 3) (f 3), letB cI (L 4) (h 4) (v 4) (lie 4) (seals 4) (folds 4) (n 4) (f 4)] : List va_W).flatten from rfl)) (List.Perm.trans (pl_perm (I := [rowB cI (h 2) (v 2) (n 2) (f 2), [(pl, .inr (2, [.ref a]))], [(a, .inl (cL, 5, .inr (.inr (.inr (.inr (rfs L))))))], letB cI (L 0) (h 0) (v 0) (lie 0) (seals 0) (folds 0) (n 0) (f 0), letB cI (L 1) (h 1) (v 1) (lie 1) (seals 1) (folds 1) (n 1) (f 1), [(L 2, .inr (1, [.ref (h 2), .int (lie 2), .int (seals 2), .int (folds 2)]))], letB cI (L 3) (h 3) (v 3) (lie 3) (seals 3) (folds 3) (n 3) (f 3), letB cI (L 4) (h 4) (v 4) (lie 4) (seals 4) (folds 4) (n 4) (f 4)]) (J := [[(pl, .inr (2, [.ref a]))], [(a, .inl (cL, 5, .inr (.inr (.inr (.inr (rfs L))))))], letB cI (L 0) (h 0) (v 0) (lie 0) (seals 0) (folds 0) (n 0) (f 0), letB cI (L 1) (h 1) (v 1) (lie 1) (seals 1) (folds 1) (n 1) (f 1), [(L 2, .inr (1, [.ref (h 2), .int (lie 2), .int (seals 2), .int (folds 2)]))], rowB cI (h 2) (v 2) (n 2) (f 2), letB cI (L 3) (h 3) (v 3) (lie 3) (seals 3) (folds 3) (n 3) (f 3), letB cI (L 4) (h 4) (v 4) (lie 4) (seals 4) (folds 4) (n 4) (f 4)]) [1, 2, 3, 4, 5, 0, 6, 7] (show ([1, 2, 3, 4, 5, 0, 6, 7] : List Nat).Perm (List.range 8) by decide) rfl).flatten (List.Perm.of_eq rfl))
  · refine M_lift (wr := [[(pl, .inr (2, [.ref a]))], [(a, .inl (cL, 5, .inr (.inr (.inr (.inr (rfs L))))))], letB cI (L 0) (h 0) (v 0) (lie 0) (seals 0) (folds 0) (n 0) (f 0), letB cI (L 1) (h 1) (v 1) (lie 1) (seals 1) (folds 1) (n 1) (f 1), letB cI (L 2) (h 2) (v 2) (lie 2) (seals 2) (folds 2) (n 2) (f 2), [(L 3, .inr (1, [.ref (h 3), .int (lie 3), .int (seals 3), .int (folds 3)]))], letB cI (L 4) (h 4) (v 4) (lie 4) (seals 4) (folds 4) (n 4) (f 4)]) (m_X6_at l D cI cL cP cJ (h 3) (v 3) (n 3) (f 3) i hp) ?_ (fun r w hw => ?_)
    · exact (show _ = ([[(pl, .inr (2, [.ref a]))], [(a, .inl (cL, 5, .inr (.inr (.inr (.inr (rfs L))))))], letB cI (L 0) (h 0) (v 0) (lie 0) (seals 0) (folds 0) (n 0) (f 0), letB cI (L 1) (h 1) (v 1) (lie 1) (seals 1) (folds 1) (n 1) (f 1), letB cI (L 2) (h 2) (v 2) (lie 2) (seals 2) (folds 2) (n 2) (f 2), [(L 3, .inr (1, [.ref (h 3), .int (lie 3), .int (seals 3), .int (folds 3)]))], rowB cI (h 3) (v 3) (n 3) (f 3), letB cI (L 4) (h 4) (v 4) (lie 4) (seals 4) (folds 4) (n 4) (f 4)] : List va_W).flatten from rfl) ▸ (List.flatten_append ▸ (pl_perm (I := [[(pl, .inr (2, [.ref a]))], [(a, .inl (cL, 5, .inr (.inr (.inr (.inr (rfs L))))))], letB cI (L 0) (h 0) (v 0) (lie 0) (seals 0) (folds 0) (n 0) (f 0), letB cI (L 1) (h 1) (v 1) (lie 1) (seals 1) (folds 1) (n 1) (f 1), letB cI (L 2) (h 2) (v 2) (lie 2) (seals 2) (folds 2) (n 2) (f 2), [(L 3, .inr (1, [.ref (h 3), .int (lie 3), .int (seals 3), .int (folds 3)]))], rowB cI (h 3) (v 3) (n 3) (f 3), letB cI (L 4) (h 4) (v 4) (lie 4) (seals 4) (folds 4) (n 4) (f 4)]) (J := [rowB cI (h 3) (v 3) (n 3) (f 3)] ++ [[(pl, .inr (2, [.ref a]))], [(a, .inl (cL, 5, .inr (.inr (.inr (.inr (rfs L))))))], letB cI (L 0) (h 0) (v 0) (lie 0) (seals 0) (folds 0) (n 0) (f 0), letB cI (L 1) (h 1) (v 1) (lie 1) (seals 1) (folds 1) (n 1) (f 1), letB cI (L 2) (h 2) (v 2) (lie 2) (seals 2) (folds 2) (n 2) (f 2), [(L 3, .inr (1, [.ref (h 3), .int (lie 3), .int (seals 3), .int (folds 3)]))], letB cI (L 4) (h 4) (v 4) (lie 4) (seals 4) (folds 4) (n 4) (f 4)]) [6, 0, 1, 2, 3, 4, 5, 7] (show ([6, 0, 1, 2, 3, 4, 5, 7] : List Nat).Perm (List.range 8) by decide) rfl).flatten)
    · obtain ⟨rfl, rfl⟩ := hw
      refine ⟨_, ?_, ⟨rfl, rfl⟩⟩
      exact List.Perm.trans (List.Perm.of_eq (show _ = ([rowB cI (h 3) (v 3) (n 3) (f 3), [(pl, .inr (2, [.ref a]))], [(a, .inl (cL, 5, .inr (.inr (.inr (.inr (rfs L))))))], letB cI (L 0) (h 0) (v 0) (lie 0) (seals 0) (folds 0) (n 0) (f 0), letB cI (L 1) (h 1) (v 1) (lie 1) (seals 1) (folds 1) (n 1) (f 1), letB cI (L 2) (h 2) (v 2) (lie 2) (seals 2) (folds 2) (n 2) (f 2), [(L 3, .inr (1, [.ref (h 3), .int (lie 3), .int (seals 3), .int (folds 3)]))], letB cI (L 4) (h 4) (v 4) (lie 4) (seals 4) (folds 4) (n 4) (f 4)] : List va_W).flatten from rfl)) (List.Perm.trans (pl_perm (I := [rowB cI (h 3) (v 3) (n 3) (f 3), [(pl, .inr (2, [.ref a]))], [(a, .inl (cL, 5, .inr (.inr (.inr (.inr (rfs L))))))], letB cI (L 0) (h 0) (v 0) (lie 0) (seals 0) (folds 0) (n 0) (f 0), letB cI (L 1) (h 1) (v 1) (lie 1) (seals 1) (folds 1) (n 1) (f 1), letB cI (L 2) (h 2) (v 2) (lie 2) (seals 2) (folds 2) (n 2) (f 2), [(L 3, .inr (1, [.ref (h 3), .int (lie 3), .int (seals 3), .int (folds 3)]))], letB cI (L 4) (h 4) (v 4) (lie 4) (seals 4) (folds 4) (n 4) (f 4)]) (J := [[(pl, .inr (2, [.ref a]))], [(a, .inl (cL, 5, .inr (.inr (.inr (.inr (rfs L))))))], letB cI (L 0) (h 0) (v 0) (lie 0) (seals 0) (folds 0) (n 0) (f 0), letB cI (L 1) (h 1) (v 1) (lie 1) (seals 1) (folds 1) (n 1) (f 1), letB cI (L 2) (h 2) (v 2) (lie 2) (seals 2) (folds 2) (n 2) (f 2), [(L 3, .inr (1, [.ref (h 3), .int (lie 3), .int (seals 3), .int (folds 3)]))], rowB cI (h 3) (v 3) (n 3) (f 3), letB cI (L 4) (h 4) (v 4) (lie 4) (seals 4) (folds 4) (n 4) (f 4)]) [1, 2, 3, 4, 5, 6, 0, 7] (show ([1, 2, 3, 4, 5, 6, 0, 7] : List Nat).Perm (List.range 8) by decide) rfl).flatten (List.Perm.of_eq rfl))
  · refine M_lift (wr := [[(pl, .inr (2, [.ref a]))], [(a, .inl (cL, 5, .inr (.inr (.inr (.inr (rfs L))))))], letB cI (L 0) (h 0) (v 0) (lie 0) (seals 0) (folds 0) (n 0) (f 0), letB cI (L 1) (h 1) (v 1) (lie 1) (seals 1) (folds 1) (n 1) (f 1), letB cI (L 2) (h 2) (v 2) (lie 2) (seals 2) (folds 2) (n 2) (f 2), letB cI (L 3) (h 3) (v 3) (lie 3) (seals 3) (folds 3) (n 3) (f 3), [(L 4, .inr (1, [.ref (h 4), .int (lie 4), .int (seals 4), .int (folds 4)]))]]) (m_X6_at l D cI cL cP cJ (h 4) (v 4) (n 4) (f 4) i hp) ?_ (fun r w hw => ?_)
    · exact (show _ = ([[(pl, .inr (2, [.ref a]))], [(a, .inl (cL, 5, .inr (.inr (.inr (.inr (rfs L))))))], letB cI (L 0) (h 0) (v 0) (lie 0) (seals 0) (folds 0) (n 0) (f 0), letB cI (L 1) (h 1) (v 1) (lie 1) (seals 1) (folds 1) (n 1) (f 1), letB cI (L 2) (h 2) (v 2) (lie 2) (seals 2) (folds 2) (n 2) (f 2), letB cI (L 3) (h 3) (v 3) (lie 3) (seals 3) (folds 3) (n 3) (f 3), [(L 4, .inr (1, [.ref (h 4), .int (lie 4), .int (seals 4), .int (folds 4)]))], rowB cI (h 4) (v 4) (n 4) (f 4)] : List va_W).flatten from rfl) ▸ (List.flatten_append ▸ (pl_perm (I := [[(pl, .inr (2, [.ref a]))], [(a, .inl (cL, 5, .inr (.inr (.inr (.inr (rfs L))))))], letB cI (L 0) (h 0) (v 0) (lie 0) (seals 0) (folds 0) (n 0) (f 0), letB cI (L 1) (h 1) (v 1) (lie 1) (seals 1) (folds 1) (n 1) (f 1), letB cI (L 2) (h 2) (v 2) (lie 2) (seals 2) (folds 2) (n 2) (f 2), letB cI (L 3) (h 3) (v 3) (lie 3) (seals 3) (folds 3) (n 3) (f 3), [(L 4, .inr (1, [.ref (h 4), .int (lie 4), .int (seals 4), .int (folds 4)]))], rowB cI (h 4) (v 4) (n 4) (f 4)]) (J := [rowB cI (h 4) (v 4) (n 4) (f 4)] ++ [[(pl, .inr (2, [.ref a]))], [(a, .inl (cL, 5, .inr (.inr (.inr (.inr (rfs L))))))], letB cI (L 0) (h 0) (v 0) (lie 0) (seals 0) (folds 0) (n 0) (f 0), letB cI (L 1) (h 1) (v 1) (lie 1) (seals 1) (folds 1) (n 1) (f 1), letB cI (L 2) (h 2) (v 2) (lie 2) (seals 2) (folds 2) (n 2) (f 2), letB cI (L 3) (h 3) (v 3) (lie 3) (seals 3) (folds 3) (n 3) (f 3), [(L 4, .inr (1, [.ref (h 4), .int (lie 4), .int (seals 4), .int (folds 4)]))]]) [7, 0, 1, 2, 3, 4, 5, 6] (show ([7, 0, 1, 2, 3, 4, 5, 6] : List Nat).Perm (List.range 8) by decide) rfl).flatten)
    · obtain ⟨rfl, rfl⟩ := hw
      refine ⟨_, ?_, ⟨rfl, rfl⟩⟩
      exact List.Perm.trans (List.Perm.of_eq (show _ = ([rowB cI (h 4) (v 4) (n 4) (f 4), [(pl, .inr (2, [.ref a]))], [(a, .inl (cL, 5, .inr (.inr (.inr (.inr (rfs L))))))], letB cI (L 0) (h 0) (v 0) (lie 0) (seals 0) (folds 0) (n 0) (f 0), letB cI (L 1) (h 1) (v 1) (lie 1) (seals 1) (folds 1) (n 1) (f 1), letB cI (L 2) (h 2) (v 2) (lie 2) (seals 2) (folds 2) (n 2) (f 2), letB cI (L 3) (h 3) (v 3) (lie 3) (seals 3) (folds 3) (n 3) (f 3), [(L 4, .inr (1, [.ref (h 4), .int (lie 4), .int (seals 4), .int (folds 4)]))]] : List va_W).flatten from rfl)) (List.Perm.trans (pl_perm (I := [rowB cI (h 4) (v 4) (n 4) (f 4), [(pl, .inr (2, [.ref a]))], [(a, .inl (cL, 5, .inr (.inr (.inr (.inr (rfs L))))))], letB cI (L 0) (h 0) (v 0) (lie 0) (seals 0) (folds 0) (n 0) (f 0), letB cI (L 1) (h 1) (v 1) (lie 1) (seals 1) (folds 1) (n 1) (f 1), letB cI (L 2) (h 2) (v 2) (lie 2) (seals 2) (folds 2) (n 2) (f 2), letB cI (L 3) (h 3) (v 3) (lie 3) (seals 3) (folds 3) (n 3) (f 3), [(L 4, .inr (1, [.ref (h 4), .int (lie 4), .int (seals 4), .int (folds 4)]))]]) (J := [[(pl, .inr (2, [.ref a]))], [(a, .inl (cL, 5, .inr (.inr (.inr (.inr (rfs L))))))], letB cI (L 0) (h 0) (v 0) (lie 0) (seals 0) (folds 0) (n 0) (f 0), letB cI (L 1) (h 1) (v 1) (lie 1) (seals 1) (folds 1) (n 1) (f 1), letB cI (L 2) (h 2) (v 2) (lie 2) (seals 2) (folds 2) (n 2) (f 2), letB cI (L 3) (h 3) (v 3) (lie 3) (seals 3) (folds 3) (n 3) (f 3), [(L 4, .inr (1, [.ref (h 4), .int (lie 4), .int (seals 4), .int (folds 4)]))], rowB cI (h 4) (v 4) (n 4) (f 4)]) [1, 2, 3, 4, 5, 6, 7, 0] (show ([1, 2, 3, 4, 5, 6, 7, 0] : List Nat).Perm (List.range 8) by decide) rfl).flatten (List.Perm.of_eq rfl))
def F_X6_size_P (n : Nat → Int32) (k : Nat) : Int32 := F_X6_size (n k)
def P_X6_size_P (k : Nat) : Prop := k < 5
set_option maxRecDepth 20000 in
set_option maxHeartbeats 8000000 in
theorem m_X6_size_P (l : Launch) (D : va_G) (cI cL cP cJ : ClassId) (pl : Nat) (a : Nat) (L : Nat → Nat) (h : Nat → Nat) (v : Nat → Nat) (lie : Nat → Int32) (seals : Nat → Int32) (folds : Nat → Int32) (n : Nat → Int32) (f : Nat → Nat → Int32) (k : Nat) (hp : P_X6_size_P k) : M vI l yX6_size cX6_size 1 (some .int) 0 0 D (tyF cI cL cP cJ) [.ref (h k)] [pileB cI cL pl a L h v lie seals folds n f] (fun (r : Int32) (w1 : List va_W) => r = F_X6_size_P n k ∧ w1 = [pileB cI cL pl a L h v lie seals folds n f]) := by
  unfold P_X6_size_P at hp
  have hk := hp
  rcases (show k = 0 ∨ k = 1 ∨ k = 2 ∨ k = 3 ∨ k = 4 by omega) with rfl | rfl | rfl | rfl | rfl
  · refine M_lift (wr := [[(pl, .inr (2, [.ref a]))], [(a, .inl (cL, 5, .inr (.inr (.inr (.inr (rfs L))))))], [(L 0, .inr (1, [.ref (h 0), .int (lie 0), .int (seals 0), .int (folds 0)]))], letB cI (L 1) (h 1) (v 1) (lie 1) (seals 1) (folds 1) (n 1) (f 1), letB cI (L 2) (h 2) (v 2) (lie 2) (seals 2) (folds 2) (n 2) (f 2), letB cI (L 3) (h 3) (v 3) (lie 3) (seals 3) (folds 3) (n 3) (f 3), letB cI (L 4) (h 4) (v 4) (lie 4) (seals 4) (folds 4) (n 4) (f 4)]) (m_X6_size l D cI cL cP cJ (h 0) (v 0) (n 0) (f 0)) ?_ (fun r w hw => ?_)
    · exact (show _ = ([[(pl, .inr (2, [.ref a]))], [(a, .inl (cL, 5, .inr (.inr (.inr (.inr (rfs L))))))], [(L 0, .inr (1, [.ref (h 0), .int (lie 0), .int (seals 0), .int (folds 0)]))], rowB cI (h 0) (v 0) (n 0) (f 0), letB cI (L 1) (h 1) (v 1) (lie 1) (seals 1) (folds 1) (n 1) (f 1), letB cI (L 2) (h 2) (v 2) (lie 2) (seals 2) (folds 2) (n 2) (f 2), letB cI (L 3) (h 3) (v 3) (lie 3) (seals 3) (folds 3) (n 3) (f 3), letB cI (L 4) (h 4) (v 4) (lie 4) (seals 4) (folds 4) (n 4) (f 4)] : List va_W).flatten from rfl) ▸ (List.flatten_append ▸ (pl_perm (I := [[(pl, .inr (2, [.ref a]))], [(a, .inl (cL, 5, .inr (.inr (.inr (.inr (rfs L))))))], [(L 0, .inr (1, [.ref (h 0), .int (lie 0), .int (seals 0), .int (folds 0)]))], rowB cI (h 0) (v 0) (n 0) (f 0), letB cI (L 1) (h 1) (v 1) (lie 1) (seals 1) (folds 1) (n 1) (f 1), letB cI (L 2) (h 2) (v 2) (lie 2) (seals 2) (folds 2) (n 2) (f 2), letB cI (L 3) (h 3) (v 3) (lie 3) (seals 3) (folds 3) (n 3) (f 3), letB cI (L 4) (h 4) (v 4) (lie 4) (seals 4) (folds 4) (n 4) (f 4)]) (J := [rowB cI (h 0) (v 0) (n 0) (f 0)] ++ [[(pl, .inr (2, [.ref a]))], [(a, .inl (cL, 5, .inr (.inr (.inr (.inr (rfs L))))))], [(L 0, .inr (1, [.ref (h 0), .int (lie 0), .int (seals 0), .int (folds 0)]))], letB cI (L 1) (h 1) (v 1) (lie 1) (seals 1) (folds 1) (n 1) (f 1), letB cI (L 2) (h 2) (v 2) (lie 2) (seals 2) (folds 2) (n 2) (f 2), letB cI (L 3) (h 3) (v 3) (lie 3) (seals 3) (folds 3) (n 3) (f 3), letB cI (L 4) (h 4) (v 4) (lie 4) (seals 4) (folds 4) (n 4) (f 4)]) [3, 0, 1, 2, 4, 5, 6, 7] (show ([3, 0, 1, 2, 4, 5, 6, 7] : List Nat).Perm (List.range 8) by decide) rfl).flatten)
    · obtain ⟨rfl, rfl⟩ := hw
      refine ⟨_, ?_, ⟨rfl, rfl⟩⟩
      exact List.Perm.trans (List.Perm.of_eq (show _ = ([rowB cI (h 0) (v 0) (n 0) (f 0), [(pl, .inr (2, [.ref a]))], [(a, .inl (cL, 5, .inr (.inr (.inr (.inr (rfs L))))))], [(L 0, .inr (1, [.ref (h 0), .int (lie 0), .int (seals 0), .int (folds 0)]))], letB cI (L 1) (h 1) (v 1) (lie 1) (seals 1) (folds 1) (n 1) (f 1), letB cI (L 2) (h 2) (v 2) (lie 2) (seals 2) (folds 2) (n 2) (f 2), letB cI (L 3) (h 3) (v 3) (lie 3) (seals 3) (folds 3) (n 3) (f 3), letB cI (L 4) (h 4) (v 4) (lie 4) (seals 4) (folds 4) (n 4) (f 4)] : List va_W).flatten from rfl)) (List.Perm.trans (pl_perm (I := [rowB cI (h 0) (v 0) (n 0) (f 0), [(pl, .inr (2, [.ref a]))], [(a, .inl (cL, 5, .inr (.inr (.inr (.inr (rfs L))))))], [(L 0, .inr (1, [.ref (h 0), .int (lie 0), .int (seals 0), .int (folds 0)]))], letB cI (L 1) (h 1) (v 1) (lie 1) (seals 1) (folds 1) (n 1) (f 1), letB cI (L 2) (h 2) (v 2) (lie 2) (seals 2) (folds 2) (n 2) (f 2), letB cI (L 3) (h 3) (v 3) (lie 3) (seals 3) (folds 3) (n 3) (f 3), letB cI (L 4) (h 4) (v 4) (lie 4) (seals 4) (folds 4) (n 4) (f 4)]) (J := [[(pl, .inr (2, [.ref a]))], [(a, .inl (cL, 5, .inr (.inr (.inr (.inr (rfs L))))))], [(L 0, .inr (1, [.ref (h 0), .int (lie 0), .int (seals 0), .int (folds 0)]))], rowB cI (h 0) (v 0) (n 0) (f 0), letB cI (L 1) (h 1) (v 1) (lie 1) (seals 1) (folds 1) (n 1) (f 1), letB cI (L 2) (h 2) (v 2) (lie 2) (seals 2) (folds 2) (n 2) (f 2), letB cI (L 3) (h 3) (v 3) (lie 3) (seals 3) (folds 3) (n 3) (f 3), letB cI (L 4) (h 4) (v 4) (lie 4) (seals 4) (folds 4) (n 4) (f 4)]) [1, 2, 3, 0, 4, 5, 6, 7] (show ([1, 2, 3, 0, 4, 5, 6, 7] : List Nat).Perm (List.range 8) by decide) rfl).flatten (List.Perm.of_eq rfl))
  · refine M_lift (wr := [[(pl, .inr (2, [.ref a]))], [(a, .inl (cL, 5, .inr (.inr (.inr (.inr (rfs L))))))], letB cI (L 0) (h 0) (v 0) (lie 0) (seals 0) (folds 0) (n 0) (f 0), [(L 1, .inr (1, [.ref (h 1), .int (lie 1), .int (seals 1), .int (folds 1)]))], letB cI (L 2) (h 2) (v 2) (lie 2) (seals 2) (folds 2) (n 2) (f 2), letB cI (L 3) (h 3) (v 3) (lie 3) (seals 3) (folds 3) (n 3) (f 3), letB cI (L 4) (h 4) (v 4) (lie 4) (seals 4) (folds 4) (n 4) (f 4)]) (m_X6_size l D cI cL cP cJ (h 1) (v 1) (n 1) (f 1)) ?_ (fun r w hw => ?_)
    · exact (show _ = ([[(pl, .inr (2, [.ref a]))], [(a, .inl (cL, 5, .inr (.inr (.inr (.inr (rfs L))))))], letB cI (L 0) (h 0) (v 0) (lie 0) (seals 0) (folds 0) (n 0) (f 0), [(L 1, .inr (1, [.ref (h 1), .int (lie 1), .int (seals 1), .int (folds 1)]))], rowB cI (h 1) (v 1) (n 1) (f 1), letB cI (L 2) (h 2) (v 2) (lie 2) (seals 2) (folds 2) (n 2) (f 2), letB cI (L 3) (h 3) (v 3) (lie 3) (seals 3) (folds 3) (n 3) (f 3), letB cI (L 4) (h 4) (v 4) (lie 4) (seals 4) (folds 4) (n 4) (f 4)] : List va_W).flatten from rfl) ▸ (List.flatten_append ▸ (pl_perm (I := [[(pl, .inr (2, [.ref a]))], [(a, .inl (cL, 5, .inr (.inr (.inr (.inr (rfs L))))))], letB cI (L 0) (h 0) (v 0) (lie 0) (seals 0) (folds 0) (n 0) (f 0), [(L 1, .inr (1, [.ref (h 1), .int (lie 1), .int (seals 1), .int (folds 1)]))], rowB cI (h 1) (v 1) (n 1) (f 1), letB cI (L 2) (h 2) (v 2) (lie 2) (seals 2) (folds 2) (n 2) (f 2), letB cI (L 3) (h 3) (v 3) (lie 3) (seals 3) (folds 3) (n 3) (f 3), letB cI (L 4) (h 4) (v 4) (lie 4) (seals 4) (folds 4) (n 4) (f 4)]) (J := [rowB cI (h 1) (v 1) (n 1) (f 1)] ++ [[(pl, .inr (2, [.ref a]))], [(a, .inl (cL, 5, .inr (.inr (.inr (.inr (rfs L))))))], letB cI (L 0) (h 0) (v 0) (lie 0) (seals 0) (folds 0) (n 0) (f 0), [(L 1, .inr (1, [.ref (h 1), .int (lie 1), .int (seals 1), .int (folds 1)]))], letB cI (L 2) (h 2) (v 2) (lie 2) (seals 2) (folds 2) (n 2) (f 2), letB cI (L 3) (h 3) (v 3) (lie 3) (seals 3) (folds 3) (n 3) (f 3), letB cI (L 4) (h 4) (v 4) (lie 4) (seals 4) (folds 4) (n 4) (f 4)]) [4, 0, 1, 2, 3, 5, 6, 7] (show ([4, 0, 1, 2, 3, 5, 6, 7] : List Nat).Perm (List.range 8) by decide) rfl).flatten)
    · obtain ⟨rfl, rfl⟩ := hw
      refine ⟨_, ?_, ⟨rfl, rfl⟩⟩
      exact List.Perm.trans (List.Perm.of_eq (show _ = ([rowB cI (h 1) (v 1) (n 1) (f 1), [(pl, .inr (2, [.ref a]))], [(a, .inl (cL, 5, .inr (.inr (.inr (.inr (rfs L))))))], letB cI (L 0) (h 0) (v 0) (lie 0) (seals 0) (folds 0) (n 0) (f 0), [(L 1, .inr (1, [.ref (h 1), .int (lie 1), .int (seals 1), .int (folds 1)]))], letB cI (L 2) (h 2) (v 2) (lie 2) (seals 2) (folds 2) (n 2) (f 2), letB cI (L 3) (h 3) (v 3) (lie 3) (seals 3) (folds 3) (n 3) (f 3), letB cI (L 4) (h 4) (v 4) (lie 4) (seals 4) (folds 4) (n 4) (f 4)] : List va_W).flatten from rfl)) (List.Perm.trans (pl_perm (I := [rowB cI (h 1) (v 1) (n 1) (f 1), [(pl, .inr (2, [.ref a]))], [(a, .inl (cL, 5, .inr (.inr (.inr (.inr (rfs L))))))], letB cI (L 0) (h 0) (v 0) (lie 0) (seals 0) (folds 0) (n 0) (f 0), [(L 1, .inr (1, [.ref (h 1), .int (lie 1), .int (seals 1), .int (folds 1)]))], letB cI (L 2) (h 2) (v 2) (lie 2) (seals 2) (folds 2) (n 2) (f 2), letB cI (L 3) (h 3) (v 3) (lie 3) (seals 3) (folds 3) (n 3) (f 3), letB cI (L 4) (h 4) (v 4) (lie 4) (seals 4) (folds 4) (n 4) (f 4)]) (J := [[(pl, .inr (2, [.ref a]))], [(a, .inl (cL, 5, .inr (.inr (.inr (.inr (rfs L))))))], letB cI (L 0) (h 0) (v 0) (lie 0) (seals 0) (folds 0) (n 0) (f 0), [(L 1, .inr (1, [.ref (h 1), .int (lie 1), .int (seals 1), .int (folds 1)]))], rowB cI (h 1) (v 1) (n 1) (f 1), letB cI (L 2) (h 2) (v 2) (lie 2) (seals 2) (folds 2) (n 2) (f 2), letB cI (L 3) (h 3) (v 3) (lie 3) (seals 3) (folds 3) (n 3) (f 3), letB cI (L 4) (h 4) (v 4) (lie 4) (seals 4) (folds 4) (n 4) (f 4)]) [1, 2, 3, 4, 0, 5, 6, 7] (show ([1, 2, 3, 4, 0, 5, 6, 7] : List Nat).Perm (List.range 8) by decide) rfl).flatten (List.Perm.of_eq rfl))
  · refine M_lift (wr := [[(pl, .inr (2, [.ref a]))], [(a, .inl (cL, 5, .inr (.inr (.inr (.inr (rfs L))))))], letB cI (L 0) (h 0) (v 0) (lie 0) (seals 0) (folds 0) (n 0) (f 0), letB cI (L 1) (h 1) (v 1) (lie 1) (seals 1) (folds 1) (n 1) (f 1), [(L 2, .inr (1, [.ref (h 2), .int (lie 2), .int (seals 2), .int (folds 2)]))], letB cI (L 3) (h 3) (v 3) (lie 3) (seals 3) (folds 3) (n 3) (f 3), letB cI (L 4) (h 4) (v 4) (lie 4) (seals 4) (folds 4) (n 4) (f 4)]) (m_X6_size l D cI cL cP cJ (h 2) (v 2) (n 2) (f 2)) ?_ (fun r w hw => ?_)
    · exact (show _ = ([[(pl, .inr (2, [.ref a]))], [(a, .inl (cL, 5, .inr (.inr (.inr (.inr (rfs L))))))], letB cI (L 0) (h 0) (v 0) (lie 0) (seals 0) (folds 0) (n 0) (f 0), letB cI (L 1) (h 1) (v 1) (lie 1) (seals 1) (folds 1) (n 1) (f 1), [(L 2, .inr (1, [.ref (h 2), .int (lie 2), .int (seals 2), .int (folds 2)]))], rowB cI (h 2) (v 2) (n 2) (f 2), letB cI (L 3) (h 3) (v 3) (lie 3) (seals 3) (folds 3) (n 3) (f 3), letB cI (L 4) (h 4) (v 4) (lie 4) (seals 4) (folds 4) (n 4) (f 4)] : List va_W).flatten from rfl) ▸ (List.flatten_append ▸ (pl_perm (I := [[(pl, .inr (2, [.ref a]))], [(a, .inl (cL, 5, .inr (.inr (.inr (.inr (rfs L))))))], letB cI (L 0) (h 0) (v 0) (lie 0) (seals 0) (folds 0) (n 0) (f 0), letB cI (L 1) (h 1) (v 1) (lie 1) (seals 1) (folds 1) (n 1) (f 1), [(L 2, .inr (1, [.ref (h 2), .int (lie 2), .int (seals 2), .int (folds 2)]))], rowB cI (h 2) (v 2) (n 2) (f 2), letB cI (L 3) (h 3) (v 3) (lie 3) (seals 3) (folds 3) (n 3) (f 3), letB cI (L 4) (h 4) (v 4) (lie 4) (seals 4) (folds 4) (n 4) (f 4)]) (J := [rowB cI (h 2) (v 2) (n 2) (f 2)] ++ [[(pl, .inr (2, [.ref a]))], [(a, .inl (cL, 5, .inr (.inr (.inr (.inr (rfs L))))))], letB cI (L 0) (h 0) (v 0) (lie 0) (seals 0) (folds 0) (n 0) (f 0), letB cI (L 1) (h 1) (v 1) (lie 1) (seals 1) (folds 1) (n 1) (f 1), [(L 2, .inr (1, [.ref (h 2), .int (lie 2), .int (seals 2), .int (folds 2)]))], letB cI (L 3) (h 3) (v 3) (lie 3) (seals 3) (folds 3) (n 3) (f 3), letB cI (L 4) (h 4) (v 4) (lie 4) (seals 4) (folds 4) (n 4) (f 4)]) [5, 0, 1, 2, 3, 4, 6, 7] (show ([5, 0, 1, 2, 3, 4, 6, 7] : List Nat).Perm (List.range 8) by decide) rfl).flatten)
    · obtain ⟨rfl, rfl⟩ := hw
      refine ⟨_, ?_, ⟨rfl, rfl⟩⟩
      exact List.Perm.trans (List.Perm.of_eq (show _ = ([rowB cI (h 2) (v 2) (n 2) (f 2), [(pl, .inr (2, [.ref a]))], [(a, .inl (cL, 5, .inr (.inr (.inr (.inr (rfs L))))))], letB cI (L 0) (h 0) (v 0) (lie 0) (seals 0) (folds 0) (n 0) (f 0), letB cI (L 1) (h 1) (v 1) (lie 1) (seals 1) (folds 1) (n 1) (f 1), [(L 2, .inr (1, [.ref (h 2), .int (lie 2), .int (seals 2), .int (folds 2)]))], letB cI (L 3) (h 3) (v 3) (lie 3) (seals 3) (folds 3) (n 3) (f 3), letB cI (L 4) (h 4) (v 4) (lie 4) (seals 4) (folds 4) (n 4) (f 4)] : List va_W).flatten from rfl)) (List.Perm.trans (pl_perm (I := [rowB cI (h 2) (v 2) (n 2) (f 2), [(pl, .inr (2, [.ref a]))], [(a, .inl (cL, 5, .inr (.inr (.inr (.inr (rfs L))))))], letB cI (L 0) (h 0) (v 0) (lie 0) (seals 0) (folds 0) (n 0) (f 0), letB cI (L 1) (h 1) (v 1) (lie 1) (seals 1) (folds 1) (n 1) (f 1), [(L 2, .inr (1, [.ref (h 2), .int (lie 2), .int (seals 2), .int (folds 2)]))], letB cI (L 3) (h 3) (v 3) (lie 3) (seals 3) (folds 3) (n 3) (f 3), letB cI (L 4) (h 4) (v 4) (lie 4) (seals 4) (folds 4) (n 4) (f 4)]) (J := [[(pl, .inr (2, [.ref a]))], [(a, .inl (cL, 5, .inr (.inr (.inr (.inr (rfs L))))))], letB cI (L 0) (h 0) (v 0) (lie 0) (seals 0) (folds 0) (n 0) (f 0), letB cI (L 1) (h 1) (v 1) (lie 1) (seals 1) (folds 1) (n 1) (f 1), [(L 2, .inr (1, [.ref (h 2), .int (lie 2), .int (seals 2), .int (folds 2)]))], rowB cI (h 2) (v 2) (n 2) (f 2), letB cI (L 3) (h 3) (v 3) (lie 3) (seals 3) (folds 3) (n 3) (f 3), letB cI (L 4) (h 4) (v 4) (lie 4) (seals 4) (folds 4) (n 4) (f 4)]) [1, 2, 3, 4, 5, 0, 6, 7] (show ([1, 2, 3, 4, 5, 0, 6, 7] : List Nat).Perm (List.range 8) by decide) rfl).flatten (List.Perm.of_eq rfl))
  · refine M_lift (wr := [[(pl, .inr (2, [.ref a]))], [(a, .inl (cL, 5, .inr (.inr (.inr (.inr (rfs L))))))], letB cI (L 0) (h 0) (v 0) (lie 0) (seals 0) (folds 0) (n 0) (f 0), letB cI (L 1) (h 1) (v 1) (lie 1) (seals 1) (folds 1) (n 1) (f 1), letB cI (L 2) (h 2) (v 2) (lie 2) (seals 2) (folds 2) (n 2) (f 2), [(L 3, .inr (1, [.ref (h 3), .int (lie 3), .int (seals 3), .int (folds 3)]))], letB cI (L 4) (h 4) (v 4) (lie 4) (seals 4) (folds 4) (n 4) (f 4)]) (m_X6_size l D cI cL cP cJ (h 3) (v 3) (n 3) (f 3)) ?_ (fun r w hw => ?_)
    · exact (show _ = ([[(pl, .inr (2, [.ref a]))], [(a, .inl (cL, 5, .inr (.inr (.inr (.inr (rfs L))))))], letB cI (L 0) (h 0) (v 0) (lie 0) (seals 0) (folds 0) (n 0) (f 0), letB cI (L 1) (h 1) (v 1) (lie 1) (seals 1) (folds 1) (n 1) (f 1), letB cI (L 2) (h 2) (v 2) (lie 2) (seals 2) (folds 2) (n 2) (f 2), [(L 3, .inr (1, [.ref (h 3), .int (lie 3), .int (seals 3), .int (folds 3)]))], rowB cI (h 3) (v 3) (n 3) (f 3), letB cI (L 4) (h 4) (v 4) (lie 4) (seals 4) (folds 4) (n 4) (f 4)] : List va_W).flatten from rfl) ▸ (List.flatten_append ▸ (pl_perm (I := [[(pl, .inr (2, [.ref a]))], [(a, .inl (cL, 5, .inr (.inr (.inr (.inr (rfs L))))))], letB cI (L 0) (h 0) (v 0) (lie 0) (seals 0) (folds 0) (n 0) (f 0), letB cI (L 1) (h 1) (v 1) (lie 1) (seals 1) (folds 1) (n 1) (f 1), letB cI (L 2) (h 2) (v 2) (lie 2) (seals 2) (folds 2) (n 2) (f 2), [(L 3, .inr (1, [.ref (h 3), .int (lie 3), .int (seals 3), .int (folds 3)]))], rowB cI (h 3) (v 3) (n 3) (f 3), letB cI (L 4) (h 4) (v 4) (lie 4) (seals 4) (folds 4) (n 4) (f 4)]) (J := [rowB cI (h 3) (v 3) (n 3) (f 3)] ++ [[(pl, .inr (2, [.ref a]))], [(a, .inl (cL, 5, .inr (.inr (.inr (.inr (rfs L))))))], letB cI (L 0) (h 0) (v 0) (lie 0) (seals 0) (folds 0) (n 0) (f 0), letB cI (L 1) (h 1) (v 1) (lie 1) (seals 1) (folds 1) (n 1) (f 1), letB cI (L 2) (h 2) (v 2) (lie 2) (seals 2) (folds 2) (n 2) (f 2), [(L 3, .inr (1, [.ref (h 3), .int (lie 3), .int (seals 3), .int (folds 3)]))], letB cI (L 4) (h 4) (v 4) (lie 4) (seals 4) (folds 4) (n 4) (f 4)]) [6, 0, 1, 2, 3, 4, 5, 7] (show ([6, 0, 1, 2, 3, 4, 5, 7] : List Nat).Perm (List.range 8) by decide) rfl).flatten)
    · obtain ⟨rfl, rfl⟩ := hw
      refine ⟨_, ?_, ⟨rfl, rfl⟩⟩
      exact List.Perm.trans (List.Perm.of_eq (show _ = ([rowB cI (h 3) (v 3) (n 3) (f 3), [(pl, .inr (2, [.ref a]))], [(a, .inl (cL, 5, .inr (.inr (.inr (.inr (rfs L))))))], letB cI (L 0) (h 0) (v 0) (lie 0) (seals 0) (folds 0) (n 0) (f 0), letB cI (L 1) (h 1) (v 1) (lie 1) (seals 1) (folds 1) (n 1) (f 1), letB cI (L 2) (h 2) (v 2) (lie 2) (seals 2) (folds 2) (n 2) (f 2), [(L 3, .inr (1, [.ref (h 3), .int (lie 3), .int (seals 3), .int (folds 3)]))], letB cI (L 4) (h 4) (v 4) (lie 4) (seals 4) (folds 4) (n 4) (f 4)] : List va_W).flatten from rfl)) (List.Perm.trans (pl_perm (I := [rowB cI (h 3) (v 3) (n 3) (f 3), [(pl, .inr (2, [.ref a]))], [(a, .inl (cL, 5, .inr (.inr (.inr (.inr (rfs L))))))], letB cI (L 0) (h 0) (v 0) (lie 0) (seals 0) (folds 0) (n 0) (f 0), letB cI (L 1) (h 1) (v 1) (lie 1) (seals 1) (folds 1) (n 1) (f 1), letB cI (L 2) (h 2) (v 2) (lie 2) (seals 2) (folds 2) (n 2) (f 2), [(L 3, .inr (1, [.ref (h 3), .int (lie 3), .int (seals 3), .int (folds 3)]))], letB cI (L 4) (h 4) (v 4) (lie 4) (seals 4) (folds 4) (n 4) (f 4)]) (J := [[(pl, .inr (2, [.ref a]))], [(a, .inl (cL, 5, .inr (.inr (.inr (.inr (rfs L))))))], letB cI (L 0) (h 0) (v 0) (lie 0) (seals 0) (folds 0) (n 0) (f 0), letB cI (L 1) (h 1) (v 1) (lie 1) (seals 1) (folds 1) (n 1) (f 1), letB cI (L 2) (h 2) (v 2) (lie 2) (seals 2) (folds 2) (n 2) (f 2), [(L 3, .inr (1, [.ref (h 3), .int (lie 3), .int (seals 3), .int (folds 3)]))], rowB cI (h 3) (v 3) (n 3) (f 3), letB cI (L 4) (h 4) (v 4) (lie 4) (seals 4) (folds 4) (n 4) (f 4)]) [1, 2, 3, 4, 5, 6, 0, 7] (show ([1, 2, 3, 4, 5, 6, 0, 7] : List Nat).Perm (List.range 8) by decide) rfl).flatten (List.Perm.of_eq rfl))
  · refine M_lift (wr := [[(pl, .inr (2, [.ref a]))], [(a, .inl (cL, 5, .inr (.inr (.inr (.inr (rfs L))))))], letB cI (L 0) (h 0) (v 0) (lie 0) (seals 0) (folds 0) (n 0) (f 0), letB cI (L 1) (h 1) (v 1) (lie 1) (seals 1) (folds 1) (n 1) (f 1), letB cI (L 2) (h 2) (v 2) (lie 2) (seals 2) (folds 2) (n 2) (f 2), letB cI (L 3) (h 3) (v 3) (lie 3) (seals 3) (folds 3) (n 3) (f 3), [(L 4, .inr (1, [.ref (h 4), .int (lie 4), .int (seals 4), .int (folds 4)]))]]) (m_X6_size l D cI cL cP cJ (h 4) (v 4) (n 4) (f 4)) ?_ (fun r w hw => ?_)
    · exact (show _ = ([[(pl, .inr (2, [.ref a]))], [(a, .inl (cL, 5, .inr (.inr (.inr (.inr (rfs L))))))], letB cI (L 0) (h 0) (v 0) (lie 0) (seals 0) (folds 0) (n 0) (f 0), letB cI (L 1) (h 1) (v 1) (lie 1) (seals 1) (folds 1) (n 1) (f 1), letB cI (L 2) (h 2) (v 2) (lie 2) (seals 2) (folds 2) (n 2) (f 2), letB cI (L 3) (h 3) (v 3) (lie 3) (seals 3) (folds 3) (n 3) (f 3), [(L 4, .inr (1, [.ref (h 4), .int (lie 4), .int (seals 4), .int (folds 4)]))], rowB cI (h 4) (v 4) (n 4) (f 4)] : List va_W).flatten from rfl) ▸ (List.flatten_append ▸ (pl_perm (I := [[(pl, .inr (2, [.ref a]))], [(a, .inl (cL, 5, .inr (.inr (.inr (.inr (rfs L))))))], letB cI (L 0) (h 0) (v 0) (lie 0) (seals 0) (folds 0) (n 0) (f 0), letB cI (L 1) (h 1) (v 1) (lie 1) (seals 1) (folds 1) (n 1) (f 1), letB cI (L 2) (h 2) (v 2) (lie 2) (seals 2) (folds 2) (n 2) (f 2), letB cI (L 3) (h 3) (v 3) (lie 3) (seals 3) (folds 3) (n 3) (f 3), [(L 4, .inr (1, [.ref (h 4), .int (lie 4), .int (seals 4), .int (folds 4)]))], rowB cI (h 4) (v 4) (n 4) (f 4)]) (J := [rowB cI (h 4) (v 4) (n 4) (f 4)] ++ [[(pl, .inr (2, [.ref a]))], [(a, .inl (cL, 5, .inr (.inr (.inr (.inr (rfs L))))))], letB cI (L 0) (h 0) (v 0) (lie 0) (seals 0) (folds 0) (n 0) (f 0), letB cI (L 1) (h 1) (v 1) (lie 1) (seals 1) (folds 1) (n 1) (f 1), letB cI (L 2) (h 2) (v 2) (lie 2) (seals 2) (folds 2) (n 2) (f 2), letB cI (L 3) (h 3) (v 3) (lie 3) (seals 3) (folds 3) (n 3) (f 3), [(L 4, .inr (1, [.ref (h 4), .int (lie 4), .int (seals 4), .int (folds 4)]))]]) [7, 0, 1, 2, 3, 4, 5, 6] (show ([7, 0, 1, 2, 3, 4, 5, 6] : List Nat).Perm (List.range 8) by decide) rfl).flatten)
    · obtain ⟨rfl, rfl⟩ := hw
      refine ⟨_, ?_, ⟨rfl, rfl⟩⟩
      exact List.Perm.trans (List.Perm.of_eq (show _ = ([rowB cI (h 4) (v 4) (n 4) (f 4), [(pl, .inr (2, [.ref a]))], [(a, .inl (cL, 5, .inr (.inr (.inr (.inr (rfs L))))))], letB cI (L 0) (h 0) (v 0) (lie 0) (seals 0) (folds 0) (n 0) (f 0), letB cI (L 1) (h 1) (v 1) (lie 1) (seals 1) (folds 1) (n 1) (f 1), letB cI (L 2) (h 2) (v 2) (lie 2) (seals 2) (folds 2) (n 2) (f 2), letB cI (L 3) (h 3) (v 3) (lie 3) (seals 3) (folds 3) (n 3) (f 3), [(L 4, .inr (1, [.ref (h 4), .int (lie 4), .int (seals 4), .int (folds 4)]))]] : List va_W).flatten from rfl)) (List.Perm.trans (pl_perm (I := [rowB cI (h 4) (v 4) (n 4) (f 4), [(pl, .inr (2, [.ref a]))], [(a, .inl (cL, 5, .inr (.inr (.inr (.inr (rfs L))))))], letB cI (L 0) (h 0) (v 0) (lie 0) (seals 0) (folds 0) (n 0) (f 0), letB cI (L 1) (h 1) (v 1) (lie 1) (seals 1) (folds 1) (n 1) (f 1), letB cI (L 2) (h 2) (v 2) (lie 2) (seals 2) (folds 2) (n 2) (f 2), letB cI (L 3) (h 3) (v 3) (lie 3) (seals 3) (folds 3) (n 3) (f 3), [(L 4, .inr (1, [.ref (h 4), .int (lie 4), .int (seals 4), .int (folds 4)]))]]) (J := [[(pl, .inr (2, [.ref a]))], [(a, .inl (cL, 5, .inr (.inr (.inr (.inr (rfs L))))))], letB cI (L 0) (h 0) (v 0) (lie 0) (seals 0) (folds 0) (n 0) (f 0), letB cI (L 1) (h 1) (v 1) (lie 1) (seals 1) (folds 1) (n 1) (f 1), letB cI (L 2) (h 2) (v 2) (lie 2) (seals 2) (folds 2) (n 2) (f 2), letB cI (L 3) (h 3) (v 3) (lie 3) (seals 3) (folds 3) (n 3) (f 3), [(L 4, .inr (1, [.ref (h 4), .int (lie 4), .int (seals 4), .int (folds 4)]))], rowB cI (h 4) (v 4) (n 4) (f 4)]) [1, 2, 3, 4, 5, 6, 7, 0] (show ([1, 2, 3, 4, 5, 6, 7, 0] : List Nat).Perm (List.range 8) by decide) rfl).flatten (List.Perm.of_eq rfl))
theorem k_X10_needCrease : kS yX10_needCrease cX10_needCrease 1 none 1 := ⟨t_563, t_58, t_564, by decide +kernel, by decide +kernel, by decide +kernel⟩
set_option maxRecDepth 20000 in
def P_X10_needCrease (crease : Int32) : Prop := ((crease < 0 → False) ∧ (¬ crease < 0 → ((crease < 4 → True) ∧ (¬ crease < 4 → False))))
set_option maxRecDepth 20000 in
set_option maxHeartbeats 8000000 in
theorem m_X10_needCrease (l : Launch) (D : va_G) (cI cL cP cJ : ClassId) (crease : Int32) (hp : P_X10_needCrease crease) : M vV l yX10_needCrease cX10_needCrease 1 none 0 0 D (tyF cI cL cP cJ) [.int crease] [] (fun (r : Unit) (w1 : List va_W) => w1 = []) := by
  unfold P_X10_needCrease at hp
  refine m_start (by decide +kernel) (Nat.le_of_ble_eq_true rfl) (fun p e s m args below meth c A Q hA hQ C hr hlo => ?_)
  refine r_Le (L' := [(0, .int crease)]) rfl ?_
  refine r_iload_n C dX10_needCrease_0 0 rfl ?_
  refine r_if_lt (tgt := 9) C dX10_needCrease_1 (by decide) (fun c1 => ?_) (fun c1 => ?_)
  · have hp := hp.1 c1
    exact hp.elim
  · have hp := hp.2 c1
    refine r_iload_n C dX10_needCrease_4 0 rfl ?_
    refine r_iconst (v := 4) C dX10_needCrease_5 (by decide) ?_
    refine r_icmp_lt (tgt := 20) C dX10_needCrease_6 (by decide) (fun c2 => ?_) (fun c2 => ?_)
    · exact r_vret (r := ()) C hA hr hlo dX10_needCrease_20 [] (rfl) rfl hQ
    · have hp := hp.2 c2
      exact hp.elim
theorem k_X10_needPosition : kS yX10_needPosition cX10_needPosition 1 none 1 := ⟨t_527, t_58, t_528, by decide +kernel, by decide +kernel, by decide +kernel⟩
set_option maxRecDepth 20000 in
def P_X10_needPosition (position : Int32) : Prop := ((position < 0 → False) ∧ (¬ position < 0 → ((position < 4 → True) ∧ (¬ position < 4 → False))))
set_option maxRecDepth 20000 in
set_option maxHeartbeats 8000000 in
theorem m_X10_needPosition (l : Launch) (D : va_G) (cI cL cP cJ : ClassId) (position : Int32) (hp : P_X10_needPosition position) : M vV l yX10_needPosition cX10_needPosition 1 none 0 0 D (tyF cI cL cP cJ) [.int position] [] (fun (r : Unit) (w1 : List va_W) => w1 = []) := by
  unfold P_X10_needPosition at hp
  refine m_start (by decide +kernel) (Nat.le_of_ble_eq_true rfl) (fun p e s m args below meth c A Q hA hQ C hr hlo => ?_)
  refine r_Le (L' := [(0, .int position)]) rfl ?_
  refine r_iload_n C dX10_needPosition_0 0 rfl ?_
  refine r_if_lt (tgt := 9) C dX10_needPosition_1 (by decide) (fun c1 => ?_) (fun c1 => ?_)
  · have hp := hp.1 c1
    exact hp.elim
  · have hp := hp.2 c1
    refine r_iload_n C dX10_needPosition_4 0 rfl ?_
    refine r_iconst (v := 4) C dX10_needPosition_5 (by decide) ?_
    refine r_icmp_lt (tgt := 20) C dX10_needPosition_6 (by decide) (fun c2 => ?_) (fun c2 => ?_)
    · exact r_vret (r := ()) C hA hr hlo dX10_needPosition_20 [] (rfl) rfl hQ
    · have hp := hp.2 c2
      exact hp.elim
theorem k_X10_needPlace : kS yX10_needPlace cX10_needPlace 1 none 1 := ⟨t_853, t_58, t_854, by decide +kernel, by decide +kernel, by decide +kernel⟩
set_option maxRecDepth 20000 in
def P_X10_needPlace (place : Int32) : Prop := ((0 ≤ place → True) ∧ (¬ 0 ≤ place → False))
set_option maxRecDepth 20000 in
set_option maxHeartbeats 8000000 in
theorem m_X10_needPlace (l : Launch) (D : va_G) (cI cL cP cJ : ClassId) (place : Int32) (hp : P_X10_needPlace place) : M vV l yX10_needPlace cX10_needPlace 1 none 0 0 D (tyF cI cL cP cJ) [.int place] [] (fun (r : Unit) (w1 : List va_W) => w1 = []) := by
  unfold P_X10_needPlace at hp
  refine m_start (by decide +kernel) (Nat.le_of_ble_eq_true rfl) (fun p e s m args below meth c A Q hA hQ C hr hlo => ?_)
  refine r_Le (L' := [(0, .int place)]) rfl ?_
  refine r_iload_n C dX10_needPlace_0 0 rfl ?_
  refine r_if_ge (tgt := 15) C dX10_needPlace_1 (by decide) (fun c1 => ?_) (fun c1 => ?_)
  · exact r_vret (r := ()) C hA hr hlo dX10_needPlace_15 [] (rfl) rfl hQ
  · have hp := hp.2 c1
    exact hp.elim
theorem k_X10_mixed : kS yX10_mixed cX10_mixed 4 (some .long) 2 := ⟨t_514, t_58, t_515, by decide +kernel, by decide +kernel, by decide +kernel⟩
set_option maxRecDepth 20000 in
def F_X10_mixed (u : Int64) (x : Int64) : Int64 := (31 * u) + x
set_option maxRecDepth 20000 in
set_option maxHeartbeats 8000000 in
theorem m_X10_mixed (l : Launch) (D : va_G) (cI cL cP cJ : ClassId) (u : Int64) (x : Int64) : M vJ l yX10_mixed cX10_mixed 4 (some .long) 0 0 D (tyF cI cL cP cJ) [.long u, .long x] [] (fun (r : Int64) (w1 : List va_W) => r = (F_X10_mixed u x) ∧ w1 = []) := by
  refine m_start (by decide +kernel) (Nat.le_of_ble_eq_true rfl) (fun p e s m args below meth c A Q hA hQ C hr hlo => ?_)
  refine r_Le (L' := [(0, .long u), (2, .long x)]) rfl ?_
  refine r_ldc2 (v := 31) C t_516 dX10_mixed_0 ?_
  refine r_lload_n C dX10_mixed_3 0 rfl ?_
  refine r_lmul C dX10_mixed_4 rfl ?_
  refine r_lload_n C dX10_mixed_5 1 rfl ?_
  refine r_ladd C dX10_mixed_6 rfl ?_
  have eF : F_X10_mixed u x = (31 * u) + x := by rfl
  exact r_lret (r := (31 * u) + x) C hA hr hlo dX10_mixed_7 [] ⟨by simp only [eF], rfl⟩ rfl hQ
theorem k_X10_mixedRow : kS yX10_mixedRow cX10_mixedRow 6 (some .long) 2 := ⟨t_545, t_58, t_546, by decide +kernel, by decide +kernel, by decide +kernel⟩
def F_X10_mixedRow_L5 (n : Int32) (f : Nat → Int32) : Nat → Int64 → Int32 → Int64 × Int32
  | 0, k1, y2 => (k1, y2)
  | nn + 1, k1, y2 => let r3 : Int32 := F_X6_size n; (if r3 ≤ y2 then ((k1, y2)) else (let r6 : Int32 := F_X6_at n f y2; let r7 : Int64 := F_X10_mixed k1 ((r6 : Int32).toInt64); let x8 : Int32 := y2 + 1; F_X10_mixedRow_L5 n f nn r7 x8))
def P_X10_mixedRow_L5 (n : Int32) (f : Nat → Int32) : Nat → Int64 → Int32 → Prop
  | 0, _, _ => False
  | nn + 1, k1, y2 => (∀ r3 : Int32, r3 = F_X6_size n → ((r3 ≤ y2 → True) ∧ (¬ r3 ≤ y2 → ((P_X6_at n y2) ∧ (∀ r6 : Int32, r6 = F_X6_at n f y2 → (∀ r7 : Int64, r7 = F_X10_mixed k1 ((r6 : Int32).toInt64) → (∀ x8 : Int32, x8 = y2 + 1 → (P_X10_mixedRow_L5 n f nn r7 x8))))))))
set_option maxRecDepth 20000 in
def F_X10_mixedRow (n : Int32) (f : Nat → Int32) (u : Int64) : Int64 := let f9 : Int64 := (F_X10_mixedRow_L5 n f 62 u 0).1; f9
set_option maxRecDepth 20000 in
def P_X10_mixedRow (n : Int32) (f : Nat → Int32) (u : Int64) : Prop := (P_X10_mixedRow_L5 n f 62 u 0)
set_option maxRecDepth 20000 in
set_option maxHeartbeats 8000000 in
theorem m_X10_mixedRow (l : Launch) (D : va_G) (cI cL cP cJ : ClassId) (h : Nat) (v : Nat) (n : Int32) (f : Nat → Int32) (u : Int64) (hp : P_X10_mixedRow n f u) : M vJ l yX10_mixedRow cX10_mixedRow 6 (some .long) 1 23 D (tyF cI cL cP cJ) [.long u, .ref h] [rowB cI h v n f] (fun (r : Int64) (w1 : List va_W) => r = (F_X10_mixedRow n f u) ∧ w1 = [rowB cI h v n f]) := by
  unfold P_X10_mixedRow at hp
  refine m_start (by decide +kernel) (Nat.le_of_ble_eq_true rfl) (fun p e s m args below meth c A Q hA hQ C hr hlo => ?_)
  refine r_Le (L' := [(0, .long u), (2, .ref h)]) rfl ?_
  refine r_lload_n C dX10_mixedRow_0 0 rfl ?_
  refine r_lstore_n (L' := [(3, .long u), (0, .long u), (2, .ref h)]) C dX10_mixedRow_1 (by decide) rfl ?_
  refine r_iconst (v := 0) C dX10_mixedRow_2 (by decide) ?_
  refine r_istore (L' := [(5, .int 0), (3, .long u), (0, .long u), (2, .ref h)]) C dX10_mixedRow_3 (by decide) rfl ?_
  have hpl := hp
  have hL : ∀ (nn : Nat) (k1 : Int64) (y2 : Int32), P_X10_mixedRow_L5 n f nn k1 y2 → (∀ f9 : Int64, f9 = (F_X10_mixedRow_L5 n f nn k1 y2).1 → ∀ z10 : Int32, z10 = (F_X10_mixedRow_L5 n f nn k1 y2).2 → V p l e (rmm 1 23) s m args below meth c 6 D A 0 0 Q [rowB cI h v n f] [(5, .int z10), (3, .long f9), (0, .long u), (2, .ref h)] 32 []) → V p l e (rmm 1 23) s m args below meth c 6 D A 0 0 Q [rowB cI h v n f] [(5, .int y2), (3, .long k1), (0, .long u), (2, .ref h)] 5 [] := by
    clear hpl
    intro nn
    induction nn with
    | zero => intro k1 y2 hp kk; rw [P_X10_mixedRow_L5] at hp; exact hp.elim
    | succ nn ih =>
      intro k1 y2 hp kk
      rw [P_X10_mixedRow_L5] at hp
      refine r_iload C dX10_mixedRow_5 0 rfl ?_
      refine r_aload_n C dX10_mixedRow_7 3 rfl ?_
      refine r_callV (ci := 4) (wc := [rowB cI h v n f]) (wr := []) (st := [.int y2]) C (m_X6_size l D cI cL cP cJ h v n f) k_X6_size t_249 [0] (show ([0] : List Nat).Perm (List.range 1) by decide) rfl rfl rfl (q0 := 0) rfl rfl rfl (Nat.le_of_ble_eq_true rfl) ⟨Nat.le_of_ble_eq_true rfl, Nat.le_of_ble_eq_true rfl⟩ ⟨Nat.zero_le _, Nat.zero_le _⟩ dX10_mixedRow_8 (fun r3 wr3 hw3 => ?_)
      obtain ⟨e_r3, rfl⟩ := hw3
      have hp := hp r3 e_r3
      refine r_ws (I' := [rowB cI h v n f]) rfl ?_
      refine r_icmp_ge (tgt := 32) C dX10_mixedRow_11 (by decide) (fun c4 => ?_) (fun c4 => ?_)
      · have eF : F_X10_mixedRow_L5 n f (nn + 1) k1 y2 = (k1, y2) := by have q := e_r3.symm; subst q; simp only [F_X10_mixedRow_L5, if_pos c4]
        exact kk _ (by rw [eF]) _ (by rw [eF])
      · have hp := hp.2 c4
        refine r_lload_n C dX10_mixedRow_14 1 rfl ?_
        refine r_aload_n C dX10_mixedRow_15 3 rfl ?_
        refine r_iload C dX10_mixedRow_16 0 rfl ?_
        obtain ⟨h5, hp⟩ := hp
        refine r_callV (ci := 4) (wc := [rowB cI h v n f]) (wr := []) (st := [.long k1]) C (m_X6_at l D cI cL cP cJ h v n f y2 h5) k_X6_at t_547 [0] (show ([0] : List Nat).Perm (List.range 1) by decide) rfl rfl rfl (q0 := 0) rfl rfl rfl (Nat.le_of_ble_eq_true rfl) ⟨Nat.le_of_ble_eq_true rfl, Nat.le_of_ble_eq_true rfl⟩ ⟨Nat.zero_le _, Nat.zero_le _⟩ dX10_mixedRow_18 (fun r6 wr6 hw6 => ?_)
        obtain ⟨e_r6, rfl⟩ := hw6
        have hp := hp r6 e_r6
        refine r_ws (I' := [rowB cI h v n f]) rfl ?_
        refine r_i2l C dX10_mixedRow_21 rfl ?_
        refine r_callS (wc := []) (wr := [rowB cI h v n f]) (st := []) C (m_X10_mixed l D cI cL cP cJ k1 ((r6 : Int32).toInt64)) k_X10_mixed t_513 [0] (show ([0] : List Nat).Perm (List.range 1) by decide) rfl rfl rfl (Nat.le_of_ble_eq_true rfl) ⟨Nat.le_of_ble_eq_true rfl, Nat.le_of_ble_eq_true rfl⟩ ⟨Nat.zero_le _, Nat.zero_le _⟩ dX10_mixedRow_22 (fun r7 wr7 hw7 => ?_)
        obtain ⟨e_r7, rfl⟩ := hw7
        have hp := hp r7 e_r7
        refine r_ws (I' := [rowB cI h v n f]) rfl ?_
        refine r_lstore_n (L' := [(3, .long r7), (5, .int y2), (0, .long u), (2, .ref h)]) C dX10_mixedRow_25 (by decide) rfl ?_
        obtain ⟨x8, e_x8⟩ : ∃ z : Int32, z = y2 + 1 := ⟨_, rfl⟩
        have hp := hp x8 e_x8
        refine r_iinc (v := x8) (L' := [(5, .int x8), (3, .long r7), (0, .long u), (2, .ref h)]) C dX10_mixedRow_26 1 rfl (by rw [e_x8]; exact ii (by decide)) (by decide) rfl ?_
        refine r_goto (tgt := 5) C dX10_mixedRow_29 (by decide) ?_
        have eF : F_X10_mixedRow_L5 n f (nn + 1) k1 y2 = F_X10_mixedRow_L5 n f nn r7 x8 := by have q := e_r3.symm; subst q; have q := e_r6.symm; subst q; have q := e_r7.symm; subst q; have q := e_x8.symm; subst q; simp only [F_X10_mixedRow_L5, if_neg c4]
        exact ih r7 x8 hp (fun f9 e_f9 z10 e_z10 => kk f9 (by rw [eF]; exact e_f9) z10 (by rw [eF]; exact e_z10))
  refine hL 62 u 0 hpl (fun f9 e_f9 z10 e_z10 => ?_)
  clear hL hpl
  refine r_lload_n C dX10_mixedRow_32 1 rfl ?_
  have eF : F_X10_mixedRow n f u = f9 := by have q := e_f9.symm; subst q; have q := e_z10.symm; subst q; rfl
  exact r_lret (r := f9) C hA hr hlo dX10_mixedRow_33 [rowB cI h v n f] ⟨by simp only [eF], rfl⟩ rfl hQ
def F_X10_mixedRow_P (n : Nat → Int32) (f : Nat → Nat → Int32) (k : Nat) (u : Int64) : Int64 := F_X10_mixedRow (n k) (f k) u
def P_X10_mixedRow_P (n : Nat → Int32) (f : Nat → Nat → Int32) (k : Nat) (u : Int64) : Prop := k < 5 ∧ P_X10_mixedRow (n k) (f k) u
set_option maxRecDepth 20000 in
set_option maxHeartbeats 8000000 in
theorem m_X10_mixedRow_P (l : Launch) (D : va_G) (cI cL cP cJ : ClassId) (pl : Nat) (a : Nat) (L : Nat → Nat) (h : Nat → Nat) (v : Nat → Nat) (lie : Nat → Int32) (seals : Nat → Int32) (folds : Nat → Int32) (n : Nat → Int32) (f : Nat → Nat → Int32) (k : Nat) (u : Int64) (hp : P_X10_mixedRow_P n f k u) : M vJ l yX10_mixedRow cX10_mixedRow 6 (some .long) 1 23 D (tyF cI cL cP cJ) [.long u, .ref (h k)] [pileB cI cL pl a L h v lie seals folds n f] (fun (r : Int64) (w1 : List va_W) => r = F_X10_mixedRow_P n f k u ∧ w1 = [pileB cI cL pl a L h v lie seals folds n f]) := by
  unfold P_X10_mixedRow_P at hp
  obtain ⟨hk, hp⟩ := hp
  rcases (show k = 0 ∨ k = 1 ∨ k = 2 ∨ k = 3 ∨ k = 4 by omega) with rfl | rfl | rfl | rfl | rfl
  · refine M_lift (wr := [[(pl, .inr (2, [.ref a]))], [(a, .inl (cL, 5, .inr (.inr (.inr (.inr (rfs L))))))], [(L 0, .inr (1, [.ref (h 0), .int (lie 0), .int (seals 0), .int (folds 0)]))], letB cI (L 1) (h 1) (v 1) (lie 1) (seals 1) (folds 1) (n 1) (f 1), letB cI (L 2) (h 2) (v 2) (lie 2) (seals 2) (folds 2) (n 2) (f 2), letB cI (L 3) (h 3) (v 3) (lie 3) (seals 3) (folds 3) (n 3) (f 3), letB cI (L 4) (h 4) (v 4) (lie 4) (seals 4) (folds 4) (n 4) (f 4)]) (m_X10_mixedRow l D cI cL cP cJ (h 0) (v 0) (n 0) (f 0) u hp) ?_ (fun r w hw => ?_)
    · exact (show _ = ([[(pl, .inr (2, [.ref a]))], [(a, .inl (cL, 5, .inr (.inr (.inr (.inr (rfs L))))))], [(L 0, .inr (1, [.ref (h 0), .int (lie 0), .int (seals 0), .int (folds 0)]))], rowB cI (h 0) (v 0) (n 0) (f 0), letB cI (L 1) (h 1) (v 1) (lie 1) (seals 1) (folds 1) (n 1) (f 1), letB cI (L 2) (h 2) (v 2) (lie 2) (seals 2) (folds 2) (n 2) (f 2), letB cI (L 3) (h 3) (v 3) (lie 3) (seals 3) (folds 3) (n 3) (f 3), letB cI (L 4) (h 4) (v 4) (lie 4) (seals 4) (folds 4) (n 4) (f 4)] : List va_W).flatten from rfl) ▸ (List.flatten_append ▸ (pl_perm (I := [[(pl, .inr (2, [.ref a]))], [(a, .inl (cL, 5, .inr (.inr (.inr (.inr (rfs L))))))], [(L 0, .inr (1, [.ref (h 0), .int (lie 0), .int (seals 0), .int (folds 0)]))], rowB cI (h 0) (v 0) (n 0) (f 0), letB cI (L 1) (h 1) (v 1) (lie 1) (seals 1) (folds 1) (n 1) (f 1), letB cI (L 2) (h 2) (v 2) (lie 2) (seals 2) (folds 2) (n 2) (f 2), letB cI (L 3) (h 3) (v 3) (lie 3) (seals 3) (folds 3) (n 3) (f 3), letB cI (L 4) (h 4) (v 4) (lie 4) (seals 4) (folds 4) (n 4) (f 4)]) (J := [rowB cI (h 0) (v 0) (n 0) (f 0)] ++ [[(pl, .inr (2, [.ref a]))], [(a, .inl (cL, 5, .inr (.inr (.inr (.inr (rfs L))))))], [(L 0, .inr (1, [.ref (h 0), .int (lie 0), .int (seals 0), .int (folds 0)]))], letB cI (L 1) (h 1) (v 1) (lie 1) (seals 1) (folds 1) (n 1) (f 1), letB cI (L 2) (h 2) (v 2) (lie 2) (seals 2) (folds 2) (n 2) (f 2), letB cI (L 3) (h 3) (v 3) (lie 3) (seals 3) (folds 3) (n 3) (f 3), letB cI (L 4) (h 4) (v 4) (lie 4) (seals 4) (folds 4) (n 4) (f 4)]) [3, 0, 1, 2, 4, 5, 6, 7] (show ([3, 0, 1, 2, 4, 5, 6, 7] : List Nat).Perm (List.range 8) by decide) rfl).flatten)
    · obtain ⟨rfl, rfl⟩ := hw
      refine ⟨_, ?_, ⟨rfl, rfl⟩⟩
      exact List.Perm.trans (List.Perm.of_eq (show _ = ([rowB cI (h 0) (v 0) (n 0) (f 0), [(pl, .inr (2, [.ref a]))], [(a, .inl (cL, 5, .inr (.inr (.inr (.inr (rfs L))))))], [(L 0, .inr (1, [.ref (h 0), .int (lie 0), .int (seals 0), .int (folds 0)]))], letB cI (L 1) (h 1) (v 1) (lie 1) (seals 1) (folds 1) (n 1) (f 1), letB cI (L 2) (h 2) (v 2) (lie 2) (seals 2) (folds 2) (n 2) (f 2), letB cI (L 3) (h 3) (v 3) (lie 3) (seals 3) (folds 3) (n 3) (f 3), letB cI (L 4) (h 4) (v 4) (lie 4) (seals 4) (folds 4) (n 4) (f 4)] : List va_W).flatten from rfl)) (List.Perm.trans (pl_perm (I := [rowB cI (h 0) (v 0) (n 0) (f 0), [(pl, .inr (2, [.ref a]))], [(a, .inl (cL, 5, .inr (.inr (.inr (.inr (rfs L))))))], [(L 0, .inr (1, [.ref (h 0), .int (lie 0), .int (seals 0), .int (folds 0)]))], letB cI (L 1) (h 1) (v 1) (lie 1) (seals 1) (folds 1) (n 1) (f 1), letB cI (L 2) (h 2) (v 2) (lie 2) (seals 2) (folds 2) (n 2) (f 2), letB cI (L 3) (h 3) (v 3) (lie 3) (seals 3) (folds 3) (n 3) (f 3), letB cI (L 4) (h 4) (v 4) (lie 4) (seals 4) (folds 4) (n 4) (f 4)]) (J := [[(pl, .inr (2, [.ref a]))], [(a, .inl (cL, 5, .inr (.inr (.inr (.inr (rfs L))))))], [(L 0, .inr (1, [.ref (h 0), .int (lie 0), .int (seals 0), .int (folds 0)]))], rowB cI (h 0) (v 0) (n 0) (f 0), letB cI (L 1) (h 1) (v 1) (lie 1) (seals 1) (folds 1) (n 1) (f 1), letB cI (L 2) (h 2) (v 2) (lie 2) (seals 2) (folds 2) (n 2) (f 2), letB cI (L 3) (h 3) (v 3) (lie 3) (seals 3) (folds 3) (n 3) (f 3), letB cI (L 4) (h 4) (v 4) (lie 4) (seals 4) (folds 4) (n 4) (f 4)]) [1, 2, 3, 0, 4, 5, 6, 7] (show ([1, 2, 3, 0, 4, 5, 6, 7] : List Nat).Perm (List.range 8) by decide) rfl).flatten (List.Perm.of_eq rfl))
  · refine M_lift (wr := [[(pl, .inr (2, [.ref a]))], [(a, .inl (cL, 5, .inr (.inr (.inr (.inr (rfs L))))))], letB cI (L 0) (h 0) (v 0) (lie 0) (seals 0) (folds 0) (n 0) (f 0), [(L 1, .inr (1, [.ref (h 1), .int (lie 1), .int (seals 1), .int (folds 1)]))], letB cI (L 2) (h 2) (v 2) (lie 2) (seals 2) (folds 2) (n 2) (f 2), letB cI (L 3) (h 3) (v 3) (lie 3) (seals 3) (folds 3) (n 3) (f 3), letB cI (L 4) (h 4) (v 4) (lie 4) (seals 4) (folds 4) (n 4) (f 4)]) (m_X10_mixedRow l D cI cL cP cJ (h 1) (v 1) (n 1) (f 1) u hp) ?_ (fun r w hw => ?_)
    · exact (show _ = ([[(pl, .inr (2, [.ref a]))], [(a, .inl (cL, 5, .inr (.inr (.inr (.inr (rfs L))))))], letB cI (L 0) (h 0) (v 0) (lie 0) (seals 0) (folds 0) (n 0) (f 0), [(L 1, .inr (1, [.ref (h 1), .int (lie 1), .int (seals 1), .int (folds 1)]))], rowB cI (h 1) (v 1) (n 1) (f 1), letB cI (L 2) (h 2) (v 2) (lie 2) (seals 2) (folds 2) (n 2) (f 2), letB cI (L 3) (h 3) (v 3) (lie 3) (seals 3) (folds 3) (n 3) (f 3), letB cI (L 4) (h 4) (v 4) (lie 4) (seals 4) (folds 4) (n 4) (f 4)] : List va_W).flatten from rfl) ▸ (List.flatten_append ▸ (pl_perm (I := [[(pl, .inr (2, [.ref a]))], [(a, .inl (cL, 5, .inr (.inr (.inr (.inr (rfs L))))))], letB cI (L 0) (h 0) (v 0) (lie 0) (seals 0) (folds 0) (n 0) (f 0), [(L 1, .inr (1, [.ref (h 1), .int (lie 1), .int (seals 1), .int (folds 1)]))], rowB cI (h 1) (v 1) (n 1) (f 1), letB cI (L 2) (h 2) (v 2) (lie 2) (seals 2) (folds 2) (n 2) (f 2), letB cI (L 3) (h 3) (v 3) (lie 3) (seals 3) (folds 3) (n 3) (f 3), letB cI (L 4) (h 4) (v 4) (lie 4) (seals 4) (folds 4) (n 4) (f 4)]) (J := [rowB cI (h 1) (v 1) (n 1) (f 1)] ++ [[(pl, .inr (2, [.ref a]))], [(a, .inl (cL, 5, .inr (.inr (.inr (.inr (rfs L))))))], letB cI (L 0) (h 0) (v 0) (lie 0) (seals 0) (folds 0) (n 0) (f 0), [(L 1, .inr (1, [.ref (h 1), .int (lie 1), .int (seals 1), .int (folds 1)]))], letB cI (L 2) (h 2) (v 2) (lie 2) (seals 2) (folds 2) (n 2) (f 2), letB cI (L 3) (h 3) (v 3) (lie 3) (seals 3) (folds 3) (n 3) (f 3), letB cI (L 4) (h 4) (v 4) (lie 4) (seals 4) (folds 4) (n 4) (f 4)]) [4, 0, 1, 2, 3, 5, 6, 7] (show ([4, 0, 1, 2, 3, 5, 6, 7] : List Nat).Perm (List.range 8) by decide) rfl).flatten)
    · obtain ⟨rfl, rfl⟩ := hw
      refine ⟨_, ?_, ⟨rfl, rfl⟩⟩
      exact List.Perm.trans (List.Perm.of_eq (show _ = ([rowB cI (h 1) (v 1) (n 1) (f 1), [(pl, .inr (2, [.ref a]))], [(a, .inl (cL, 5, .inr (.inr (.inr (.inr (rfs L))))))], letB cI (L 0) (h 0) (v 0) (lie 0) (seals 0) (folds 0) (n 0) (f 0), [(L 1, .inr (1, [.ref (h 1), .int (lie 1), .int (seals 1), .int (folds 1)]))], letB cI (L 2) (h 2) (v 2) (lie 2) (seals 2) (folds 2) (n 2) (f 2), letB cI (L 3) (h 3) (v 3) (lie 3) (seals 3) (folds 3) (n 3) (f 3), letB cI (L 4) (h 4) (v 4) (lie 4) (seals 4) (folds 4) (n 4) (f 4)] : List va_W).flatten from rfl)) (List.Perm.trans (pl_perm (I := [rowB cI (h 1) (v 1) (n 1) (f 1), [(pl, .inr (2, [.ref a]))], [(a, .inl (cL, 5, .inr (.inr (.inr (.inr (rfs L))))))], letB cI (L 0) (h 0) (v 0) (lie 0) (seals 0) (folds 0) (n 0) (f 0), [(L 1, .inr (1, [.ref (h 1), .int (lie 1), .int (seals 1), .int (folds 1)]))], letB cI (L 2) (h 2) (v 2) (lie 2) (seals 2) (folds 2) (n 2) (f 2), letB cI (L 3) (h 3) (v 3) (lie 3) (seals 3) (folds 3) (n 3) (f 3), letB cI (L 4) (h 4) (v 4) (lie 4) (seals 4) (folds 4) (n 4) (f 4)]) (J := [[(pl, .inr (2, [.ref a]))], [(a, .inl (cL, 5, .inr (.inr (.inr (.inr (rfs L))))))], letB cI (L 0) (h 0) (v 0) (lie 0) (seals 0) (folds 0) (n 0) (f 0), [(L 1, .inr (1, [.ref (h 1), .int (lie 1), .int (seals 1), .int (folds 1)]))], rowB cI (h 1) (v 1) (n 1) (f 1), letB cI (L 2) (h 2) (v 2) (lie 2) (seals 2) (folds 2) (n 2) (f 2), letB cI (L 3) (h 3) (v 3) (lie 3) (seals 3) (folds 3) (n 3) (f 3), letB cI (L 4) (h 4) (v 4) (lie 4) (seals 4) (folds 4) (n 4) (f 4)]) [1, 2, 3, 4, 0, 5, 6, 7] (show ([1, 2, 3, 4, 0, 5, 6, 7] : List Nat).Perm (List.range 8) by decide) rfl).flatten (List.Perm.of_eq rfl))
  · refine M_lift (wr := [[(pl, .inr (2, [.ref a]))], [(a, .inl (cL, 5, .inr (.inr (.inr (.inr (rfs L))))))], letB cI (L 0) (h 0) (v 0) (lie 0) (seals 0) (folds 0) (n 0) (f 0), letB cI (L 1) (h 1) (v 1) (lie 1) (seals 1) (folds 1) (n 1) (f 1), [(L 2, .inr (1, [.ref (h 2), .int (lie 2), .int (seals 2), .int (folds 2)]))], letB cI (L 3) (h 3) (v 3) (lie 3) (seals 3) (folds 3) (n 3) (f 3), letB cI (L 4) (h 4) (v 4) (lie 4) (seals 4) (folds 4) (n 4) (f 4)]) (m_X10_mixedRow l D cI cL cP cJ (h 2) (v 2) (n 2) (f 2) u hp) ?_ (fun r w hw => ?_)
    · exact (show _ = ([[(pl, .inr (2, [.ref a]))], [(a, .inl (cL, 5, .inr (.inr (.inr (.inr (rfs L))))))], letB cI (L 0) (h 0) (v 0) (lie 0) (seals 0) (folds 0) (n 0) (f 0), letB cI (L 1) (h 1) (v 1) (lie 1) (seals 1) (folds 1) (n 1) (f 1), [(L 2, .inr (1, [.ref (h 2), .int (lie 2), .int (seals 2), .int (folds 2)]))], rowB cI (h 2) (v 2) (n 2) (f 2), letB cI (L 3) (h 3) (v 3) (lie 3) (seals 3) (folds 3) (n 3) (f 3), letB cI (L 4) (h 4) (v 4) (lie 4) (seals 4) (folds 4) (n 4) (f 4)] : List va_W).flatten from rfl) ▸ (List.flatten_append ▸ (pl_perm (I := [[(pl, .inr (2, [.ref a]))], [(a, .inl (cL, 5, .inr (.inr (.inr (.inr (rfs L))))))], letB cI (L 0) (h 0) (v 0) (lie 0) (seals 0) (folds 0) (n 0) (f 0), letB cI (L 1) (h 1) (v 1) (lie 1) (seals 1) (folds 1) (n 1) (f 1), [(L 2, .inr (1, [.ref (h 2), .int (lie 2), .int (seals 2), .int (folds 2)]))], rowB cI (h 2) (v 2) (n 2) (f 2), letB cI (L 3) (h 3) (v 3) (lie 3) (seals 3) (folds 3) (n 3) (f 3), letB cI (L 4) (h 4) (v 4) (lie 4) (seals 4) (folds 4) (n 4) (f 4)]) (J := [rowB cI (h 2) (v 2) (n 2) (f 2)] ++ [[(pl, .inr (2, [.ref a]))], [(a, .inl (cL, 5, .inr (.inr (.inr (.inr (rfs L))))))], letB cI (L 0) (h 0) (v 0) (lie 0) (seals 0) (folds 0) (n 0) (f 0), letB cI (L 1) (h 1) (v 1) (lie 1) (seals 1) (folds 1) (n 1) (f 1), [(L 2, .inr (1, [.ref (h 2), .int (lie 2), .int (seals 2), .int (folds 2)]))], letB cI (L 3) (h 3) (v 3) (lie 3) (seals 3) (folds 3) (n 3) (f 3), letB cI (L 4) (h 4) (v 4) (lie 4) (seals 4) (folds 4) (n 4) (f 4)]) [5, 0, 1, 2, 3, 4, 6, 7] (show ([5, 0, 1, 2, 3, 4, 6, 7] : List Nat).Perm (List.range 8) by decide) rfl).flatten)
    · obtain ⟨rfl, rfl⟩ := hw
      refine ⟨_, ?_, ⟨rfl, rfl⟩⟩
      exact List.Perm.trans (List.Perm.of_eq (show _ = ([rowB cI (h 2) (v 2) (n 2) (f 2), [(pl, .inr (2, [.ref a]))], [(a, .inl (cL, 5, .inr (.inr (.inr (.inr (rfs L))))))], letB cI (L 0) (h 0) (v 0) (lie 0) (seals 0) (folds 0) (n 0) (f 0), letB cI (L 1) (h 1) (v 1) (lie 1) (seals 1) (folds 1) (n 1) (f 1), [(L 2, .inr (1, [.ref (h 2), .int (lie 2), .int (seals 2), .int (folds 2)]))], letB cI (L 3) (h 3) (v 3) (lie 3) (seals 3) (folds 3) (n 3) (f 3), letB cI (L 4) (h 4) (v 4) (lie 4) (seals 4) (folds 4) (n 4) (f 4)] : List va_W).flatten from rfl)) (List.Perm.trans (pl_perm (I := [rowB cI (h 2) (v 2) (n 2) (f 2), [(pl, .inr (2, [.ref a]))], [(a, .inl (cL, 5, .inr (.inr (.inr (.inr (rfs L))))))], letB cI (L 0) (h 0) (v 0) (lie 0) (seals 0) (folds 0) (n 0) (f 0), letB cI (L 1) (h 1) (v 1) (lie 1) (seals 1) (folds 1) (n 1) (f 1), [(L 2, .inr (1, [.ref (h 2), .int (lie 2), .int (seals 2), .int (folds 2)]))], letB cI (L 3) (h 3) (v 3) (lie 3) (seals 3) (folds 3) (n 3) (f 3), letB cI (L 4) (h 4) (v 4) (lie 4) (seals 4) (folds 4) (n 4) (f 4)]) (J := [[(pl, .inr (2, [.ref a]))], [(a, .inl (cL, 5, .inr (.inr (.inr (.inr (rfs L))))))], letB cI (L 0) (h 0) (v 0) (lie 0) (seals 0) (folds 0) (n 0) (f 0), letB cI (L 1) (h 1) (v 1) (lie 1) (seals 1) (folds 1) (n 1) (f 1), [(L 2, .inr (1, [.ref (h 2), .int (lie 2), .int (seals 2), .int (folds 2)]))], rowB cI (h 2) (v 2) (n 2) (f 2), letB cI (L 3) (h 3) (v 3) (lie 3) (seals 3) (folds 3) (n 3) (f 3), letB cI (L 4) (h 4) (v 4) (lie 4) (seals 4) (folds 4) (n 4) (f 4)]) [1, 2, 3, 4, 5, 0, 6, 7] (show ([1, 2, 3, 4, 5, 0, 6, 7] : List Nat).Perm (List.range 8) by decide) rfl).flatten (List.Perm.of_eq rfl))
  · refine M_lift (wr := [[(pl, .inr (2, [.ref a]))], [(a, .inl (cL, 5, .inr (.inr (.inr (.inr (rfs L))))))], letB cI (L 0) (h 0) (v 0) (lie 0) (seals 0) (folds 0) (n 0) (f 0), letB cI (L 1) (h 1) (v 1) (lie 1) (seals 1) (folds 1) (n 1) (f 1), letB cI (L 2) (h 2) (v 2) (lie 2) (seals 2) (folds 2) (n 2) (f 2), [(L 3, .inr (1, [.ref (h 3), .int (lie 3), .int (seals 3), .int (folds 3)]))], letB cI (L 4) (h 4) (v 4) (lie 4) (seals 4) (folds 4) (n 4) (f 4)]) (m_X10_mixedRow l D cI cL cP cJ (h 3) (v 3) (n 3) (f 3) u hp) ?_ (fun r w hw => ?_)
    · exact (show _ = ([[(pl, .inr (2, [.ref a]))], [(a, .inl (cL, 5, .inr (.inr (.inr (.inr (rfs L))))))], letB cI (L 0) (h 0) (v 0) (lie 0) (seals 0) (folds 0) (n 0) (f 0), letB cI (L 1) (h 1) (v 1) (lie 1) (seals 1) (folds 1) (n 1) (f 1), letB cI (L 2) (h 2) (v 2) (lie 2) (seals 2) (folds 2) (n 2) (f 2), [(L 3, .inr (1, [.ref (h 3), .int (lie 3), .int (seals 3), .int (folds 3)]))], rowB cI (h 3) (v 3) (n 3) (f 3), letB cI (L 4) (h 4) (v 4) (lie 4) (seals 4) (folds 4) (n 4) (f 4)] : List va_W).flatten from rfl) ▸ (List.flatten_append ▸ (pl_perm (I := [[(pl, .inr (2, [.ref a]))], [(a, .inl (cL, 5, .inr (.inr (.inr (.inr (rfs L))))))], letB cI (L 0) (h 0) (v 0) (lie 0) (seals 0) (folds 0) (n 0) (f 0), letB cI (L 1) (h 1) (v 1) (lie 1) (seals 1) (folds 1) (n 1) (f 1), letB cI (L 2) (h 2) (v 2) (lie 2) (seals 2) (folds 2) (n 2) (f 2), [(L 3, .inr (1, [.ref (h 3), .int (lie 3), .int (seals 3), .int (folds 3)]))], rowB cI (h 3) (v 3) (n 3) (f 3), letB cI (L 4) (h 4) (v 4) (lie 4) (seals 4) (folds 4) (n 4) (f 4)]) (J := [rowB cI (h 3) (v 3) (n 3) (f 3)] ++ [[(pl, .inr (2, [.ref a]))], [(a, .inl (cL, 5, .inr (.inr (.inr (.inr (rfs L))))))], letB cI (L 0) (h 0) (v 0) (lie 0) (seals 0) (folds 0) (n 0) (f 0), letB cI (L 1) (h 1) (v 1) (lie 1) (seals 1) (folds 1) (n 1) (f 1), letB cI (L 2) (h 2) (v 2) (lie 2) (seals 2) (folds 2) (n 2) (f 2), [(L 3, .inr (1, [.ref (h 3), .int (lie 3), .int (seals 3), .int (folds 3)]))], letB cI (L 4) (h 4) (v 4) (lie 4) (seals 4) (folds 4) (n 4) (f 4)]) [6, 0, 1, 2, 3, 4, 5, 7] (show ([6, 0, 1, 2, 3, 4, 5, 7] : List Nat).Perm (List.range 8) by decide) rfl).flatten)
    · obtain ⟨rfl, rfl⟩ := hw
      refine ⟨_, ?_, ⟨rfl, rfl⟩⟩
      exact List.Perm.trans (List.Perm.of_eq (show _ = ([rowB cI (h 3) (v 3) (n 3) (f 3), [(pl, .inr (2, [.ref a]))], [(a, .inl (cL, 5, .inr (.inr (.inr (.inr (rfs L))))))], letB cI (L 0) (h 0) (v 0) (lie 0) (seals 0) (folds 0) (n 0) (f 0), letB cI (L 1) (h 1) (v 1) (lie 1) (seals 1) (folds 1) (n 1) (f 1), letB cI (L 2) (h 2) (v 2) (lie 2) (seals 2) (folds 2) (n 2) (f 2), [(L 3, .inr (1, [.ref (h 3), .int (lie 3), .int (seals 3), .int (folds 3)]))], letB cI (L 4) (h 4) (v 4) (lie 4) (seals 4) (folds 4) (n 4) (f 4)] : List va_W).flatten from rfl)) (List.Perm.trans (pl_perm (I := [rowB cI (h 3) (v 3) (n 3) (f 3), [(pl, .inr (2, [.ref a]))], [(a, .inl (cL, 5, .inr (.inr (.inr (.inr (rfs L))))))], letB cI (L 0) (h 0) (v 0) (lie 0) (seals 0) (folds 0) (n 0) (f 0), letB cI (L 1) (h 1) (v 1) (lie 1) (seals 1) (folds 1) (n 1) (f 1), letB cI (L 2) (h 2) (v 2) (lie 2) (seals 2) (folds 2) (n 2) (f 2), [(L 3, .inr (1, [.ref (h 3), .int (lie 3), .int (seals 3), .int (folds 3)]))], letB cI (L 4) (h 4) (v 4) (lie 4) (seals 4) (folds 4) (n 4) (f 4)]) (J := [[(pl, .inr (2, [.ref a]))], [(a, .inl (cL, 5, .inr (.inr (.inr (.inr (rfs L))))))], letB cI (L 0) (h 0) (v 0) (lie 0) (seals 0) (folds 0) (n 0) (f 0), letB cI (L 1) (h 1) (v 1) (lie 1) (seals 1) (folds 1) (n 1) (f 1), letB cI (L 2) (h 2) (v 2) (lie 2) (seals 2) (folds 2) (n 2) (f 2), [(L 3, .inr (1, [.ref (h 3), .int (lie 3), .int (seals 3), .int (folds 3)]))], rowB cI (h 3) (v 3) (n 3) (f 3), letB cI (L 4) (h 4) (v 4) (lie 4) (seals 4) (folds 4) (n 4) (f 4)]) [1, 2, 3, 4, 5, 6, 0, 7] (show ([1, 2, 3, 4, 5, 6, 0, 7] : List Nat).Perm (List.range 8) by decide) rfl).flatten (List.Perm.of_eq rfl))
  · refine M_lift (wr := [[(pl, .inr (2, [.ref a]))], [(a, .inl (cL, 5, .inr (.inr (.inr (.inr (rfs L))))))], letB cI (L 0) (h 0) (v 0) (lie 0) (seals 0) (folds 0) (n 0) (f 0), letB cI (L 1) (h 1) (v 1) (lie 1) (seals 1) (folds 1) (n 1) (f 1), letB cI (L 2) (h 2) (v 2) (lie 2) (seals 2) (folds 2) (n 2) (f 2), letB cI (L 3) (h 3) (v 3) (lie 3) (seals 3) (folds 3) (n 3) (f 3), [(L 4, .inr (1, [.ref (h 4), .int (lie 4), .int (seals 4), .int (folds 4)]))]]) (m_X10_mixedRow l D cI cL cP cJ (h 4) (v 4) (n 4) (f 4) u hp) ?_ (fun r w hw => ?_)
    · exact (show _ = ([[(pl, .inr (2, [.ref a]))], [(a, .inl (cL, 5, .inr (.inr (.inr (.inr (rfs L))))))], letB cI (L 0) (h 0) (v 0) (lie 0) (seals 0) (folds 0) (n 0) (f 0), letB cI (L 1) (h 1) (v 1) (lie 1) (seals 1) (folds 1) (n 1) (f 1), letB cI (L 2) (h 2) (v 2) (lie 2) (seals 2) (folds 2) (n 2) (f 2), letB cI (L 3) (h 3) (v 3) (lie 3) (seals 3) (folds 3) (n 3) (f 3), [(L 4, .inr (1, [.ref (h 4), .int (lie 4), .int (seals 4), .int (folds 4)]))], rowB cI (h 4) (v 4) (n 4) (f 4)] : List va_W).flatten from rfl) ▸ (List.flatten_append ▸ (pl_perm (I := [[(pl, .inr (2, [.ref a]))], [(a, .inl (cL, 5, .inr (.inr (.inr (.inr (rfs L))))))], letB cI (L 0) (h 0) (v 0) (lie 0) (seals 0) (folds 0) (n 0) (f 0), letB cI (L 1) (h 1) (v 1) (lie 1) (seals 1) (folds 1) (n 1) (f 1), letB cI (L 2) (h 2) (v 2) (lie 2) (seals 2) (folds 2) (n 2) (f 2), letB cI (L 3) (h 3) (v 3) (lie 3) (seals 3) (folds 3) (n 3) (f 3), [(L 4, .inr (1, [.ref (h 4), .int (lie 4), .int (seals 4), .int (folds 4)]))], rowB cI (h 4) (v 4) (n 4) (f 4)]) (J := [rowB cI (h 4) (v 4) (n 4) (f 4)] ++ [[(pl, .inr (2, [.ref a]))], [(a, .inl (cL, 5, .inr (.inr (.inr (.inr (rfs L))))))], letB cI (L 0) (h 0) (v 0) (lie 0) (seals 0) (folds 0) (n 0) (f 0), letB cI (L 1) (h 1) (v 1) (lie 1) (seals 1) (folds 1) (n 1) (f 1), letB cI (L 2) (h 2) (v 2) (lie 2) (seals 2) (folds 2) (n 2) (f 2), letB cI (L 3) (h 3) (v 3) (lie 3) (seals 3) (folds 3) (n 3) (f 3), [(L 4, .inr (1, [.ref (h 4), .int (lie 4), .int (seals 4), .int (folds 4)]))]]) [7, 0, 1, 2, 3, 4, 5, 6] (show ([7, 0, 1, 2, 3, 4, 5, 6] : List Nat).Perm (List.range 8) by decide) rfl).flatten)
    · obtain ⟨rfl, rfl⟩ := hw
      refine ⟨_, ?_, ⟨rfl, rfl⟩⟩
      exact List.Perm.trans (List.Perm.of_eq (show _ = ([rowB cI (h 4) (v 4) (n 4) (f 4), [(pl, .inr (2, [.ref a]))], [(a, .inl (cL, 5, .inr (.inr (.inr (.inr (rfs L))))))], letB cI (L 0) (h 0) (v 0) (lie 0) (seals 0) (folds 0) (n 0) (f 0), letB cI (L 1) (h 1) (v 1) (lie 1) (seals 1) (folds 1) (n 1) (f 1), letB cI (L 2) (h 2) (v 2) (lie 2) (seals 2) (folds 2) (n 2) (f 2), letB cI (L 3) (h 3) (v 3) (lie 3) (seals 3) (folds 3) (n 3) (f 3), [(L 4, .inr (1, [.ref (h 4), .int (lie 4), .int (seals 4), .int (folds 4)]))]] : List va_W).flatten from rfl)) (List.Perm.trans (pl_perm (I := [rowB cI (h 4) (v 4) (n 4) (f 4), [(pl, .inr (2, [.ref a]))], [(a, .inl (cL, 5, .inr (.inr (.inr (.inr (rfs L))))))], letB cI (L 0) (h 0) (v 0) (lie 0) (seals 0) (folds 0) (n 0) (f 0), letB cI (L 1) (h 1) (v 1) (lie 1) (seals 1) (folds 1) (n 1) (f 1), letB cI (L 2) (h 2) (v 2) (lie 2) (seals 2) (folds 2) (n 2) (f 2), letB cI (L 3) (h 3) (v 3) (lie 3) (seals 3) (folds 3) (n 3) (f 3), [(L 4, .inr (1, [.ref (h 4), .int (lie 4), .int (seals 4), .int (folds 4)]))]]) (J := [[(pl, .inr (2, [.ref a]))], [(a, .inl (cL, 5, .inr (.inr (.inr (.inr (rfs L))))))], letB cI (L 0) (h 0) (v 0) (lie 0) (seals 0) (folds 0) (n 0) (f 0), letB cI (L 1) (h 1) (v 1) (lie 1) (seals 1) (folds 1) (n 1) (f 1), letB cI (L 2) (h 2) (v 2) (lie 2) (seals 2) (folds 2) (n 2) (f 2), letB cI (L 3) (h 3) (v 3) (lie 3) (seals 3) (folds 3) (n 3) (f 3), [(L 4, .inr (1, [.ref (h 4), .int (lie 4), .int (seals 4), .int (folds 4)]))], rowB cI (h 4) (v 4) (n 4) (f 4)]) [1, 2, 3, 4, 5, 6, 7, 0] (show ([1, 2, 3, 4, 5, 6, 7, 0] : List Nat).Perm (List.range 8) by decide) rfl).flatten (List.Perm.of_eq rfl))
theorem k_X10_mixedLeastWord : kS yX10_mixedLeastWord cX10_mixedLeastWord 7 (some .long) 2 := ⟨t_549, t_58, t_550, by decide +kernel, by decide +kernel, by decide +kernel⟩
def F_X10_mixedLeastWord_L11 (r1 : Int32) (lie : Int32) : Nat → Int64 → Int32 → Int64 × Int32
  | 0, k2, y3 => (k2, y3)
  | nn + 1, k2, y3 => (if r1 ≤ y3 then ((k2, y3)) else (let r6 : Int32 := F_X3_leastCrease lie y3; let r7 : Int64 := F_X10_mixed k2 ((r6 : Int32).toInt64); let x8 : Int32 := y3 + 1; F_X10_mixedLeastWord_L11 r1 lie nn r7 x8))
def P_X10_mixedLeastWord_L11 (r1 : Int32) (lie : Int32) : Nat → Int64 → Int32 → Prop
  | 0, _, _ => False
  | nn + 1, k2, y3 => ((r1 ≤ y3 → True) ∧ (¬ r1 ≤ y3 → ((P_X3_leastCrease lie y3) ∧ (∀ r6 : Int32, r6 = F_X3_leastCrease lie y3 → (∀ r7 : Int64, r7 = F_X10_mixed k2 ((r6 : Int32).toInt64) → (∀ x8 : Int32, x8 = y3 + 1 → (P_X10_mixedLeastWord_L11 r1 lie nn r7 x8)))))))
set_option maxRecDepth 20000 in
def F_X10_mixedLeastWord (u : Int64) (lie : Int32) : Int64 := let r1 : Int32 := F_X3_length lie; let f9 : Int64 := (F_X10_mixedLeastWord_L11 r1 lie 18 u 0).1; f9
set_option maxRecDepth 20000 in
def P_X10_mixedLeastWord (u : Int64) (lie : Int32) : Prop := (∀ r1 : Int32, r1 = F_X3_length lie → (P_X10_mixedLeastWord_L11 r1 lie 18 u 0))
set_option maxRecDepth 20000 in
set_option maxHeartbeats 8000000 in
theorem m_X10_mixedLeastWord (l : Launch) (D : va_G) (cI cL cP cJ : ClassId) (u : Int64) (lie : Int32) (hp : P_X10_mixedLeastWord u lie) : M vJ l yX10_mixedLeastWord cX10_mixedLeastWord 7 (some .long) 4 88 D (tyF cI cL cP cJ) [.long u, .int lie] [] (fun (r : Int64) (w1 : List va_W) => r = (F_X10_mixedLeastWord u lie) ∧ w1 = []) := by
  unfold P_X10_mixedLeastWord at hp
  refine m_start (by decide +kernel) (Nat.le_of_ble_eq_true rfl) (fun p e s m args below meth c A Q hA hQ C hr hlo => ?_)
  refine r_Le (L' := [(0, .long u), (2, .int lie)]) rfl ?_
  refine r_lload_n C dX10_mixedLeastWord_0 0 rfl ?_
  refine r_lstore_n (L' := [(3, .long u), (0, .long u), (2, .int lie)]) C dX10_mixedLeastWord_1 (by decide) rfl ?_
  refine r_iload_n C dX10_mixedLeastWord_2 2 rfl ?_
  refine r_callS (wc := []) (wr := []) (st := []) C (m_X3_length l D cI cL cP cJ lie) k_X3_length t_551 [] (show ([] : List Nat).Perm (List.range 0) by decide) rfl rfl rfl (Nat.le_of_ble_eq_true rfl) ⟨Nat.le_of_ble_eq_true rfl, Nat.le_of_ble_eq_true rfl⟩ ⟨Nat.zero_le _, Nat.zero_le _⟩ dX10_mixedLeastWord_3 (fun r1 wr1 hw1 => ?_)
  obtain ⟨e_r1, rfl⟩ := hw1
  have hp := hp r1 e_r1
  refine r_ws (I' := []) rfl ?_
  refine r_istore (L' := [(5, .int r1), (3, .long u), (0, .long u), (2, .int lie)]) C dX10_mixedLeastWord_6 (by decide) rfl ?_
  refine r_iconst (v := 0) C dX10_mixedLeastWord_8 (by decide) ?_
  refine r_istore (L' := [(6, .int 0), (5, .int r1), (3, .long u), (0, .long u), (2, .int lie)]) C dX10_mixedLeastWord_9 (by decide) rfl ?_
  have hpl := hp
  have hL : ∀ (nn : Nat) (k2 : Int64) (y3 : Int32), P_X10_mixedLeastWord_L11 r1 lie nn k2 y3 → (∀ f9 : Int64, f9 = (F_X10_mixedLeastWord_L11 r1 lie nn k2 y3).1 → ∀ z10 : Int32, z10 = (F_X10_mixedLeastWord_L11 r1 lie nn k2 y3).2 → V p l e (rmm 4 88) s m args below meth c 7 D A 0 0 Q [] [(6, .int z10), (5, .int r1), (3, .long f9), (0, .long u), (2, .int lie)] 36 []) → V p l e (rmm 4 88) s m args below meth c 7 D A 0 0 Q [] [(6, .int y3), (5, .int r1), (3, .long k2), (0, .long u), (2, .int lie)] 11 [] := by
    clear hpl
    intro nn
    induction nn with
    | zero => intro k2 y3 hp kk; rw [P_X10_mixedLeastWord_L11] at hp; exact hp.elim
    | succ nn ih =>
      intro k2 y3 hp kk
      rw [P_X10_mixedLeastWord_L11] at hp
      refine r_iload C dX10_mixedLeastWord_11 0 rfl ?_
      refine r_iload C dX10_mixedLeastWord_13 1 rfl ?_
      refine r_icmp_ge (tgt := 36) C dX10_mixedLeastWord_15 (by decide) (fun c4 => ?_) (fun c4 => ?_)
      · have eF : F_X10_mixedLeastWord_L11 r1 lie (nn + 1) k2 y3 = (k2, y3) := by simp only [F_X10_mixedLeastWord_L11, if_pos c4]
        exact kk _ (by rw [eF]) _ (by rw [eF])
      · have hp := hp.2 c4
        refine r_lload_n C dX10_mixedLeastWord_18 2 rfl ?_
        refine r_iload_n C dX10_mixedLeastWord_19 4 rfl ?_
        refine r_iload C dX10_mixedLeastWord_20 0 rfl ?_
        obtain ⟨h5, hp⟩ := hp
        refine r_callS (wc := []) (wr := []) (st := [.long k2]) C (m_X3_leastCrease l D cI cL cP cJ lie y3 h5) k_X3_leastCrease t_552 [] (show ([] : List Nat).Perm (List.range 0) by decide) rfl rfl rfl (Nat.le_of_ble_eq_true rfl) ⟨Nat.le_of_ble_eq_true rfl, Nat.le_of_ble_eq_true rfl⟩ ⟨Nat.zero_le _, Nat.zero_le _⟩ dX10_mixedLeastWord_22 (fun r6 wr6 hw6 => ?_)
        obtain ⟨e_r6, rfl⟩ := hw6
        have hp := hp r6 e_r6
        refine r_ws (I' := []) rfl ?_
        refine r_i2l C dX10_mixedLeastWord_25 rfl ?_
        refine r_callS (wc := []) (wr := []) (st := []) C (m_X10_mixed l D cI cL cP cJ k2 ((r6 : Int32).toInt64)) k_X10_mixed t_513 [] (show ([] : List Nat).Perm (List.range 0) by decide) rfl rfl rfl (Nat.le_of_ble_eq_true rfl) ⟨Nat.le_of_ble_eq_true rfl, Nat.le_of_ble_eq_true rfl⟩ ⟨Nat.zero_le _, Nat.zero_le _⟩ dX10_mixedLeastWord_26 (fun r7 wr7 hw7 => ?_)
        obtain ⟨e_r7, rfl⟩ := hw7
        have hp := hp r7 e_r7
        refine r_ws (I' := []) rfl ?_
        refine r_lstore_n (L' := [(3, .long r7), (6, .int y3), (5, .int r1), (0, .long u), (2, .int lie)]) C dX10_mixedLeastWord_29 (by decide) rfl ?_
        obtain ⟨x8, e_x8⟩ : ∃ z : Int32, z = y3 + 1 := ⟨_, rfl⟩
        have hp := hp x8 e_x8
        refine r_iinc (v := x8) (L' := [(6, .int x8), (3, .long r7), (5, .int r1), (0, .long u), (2, .int lie)]) C dX10_mixedLeastWord_30 1 rfl (by rw [e_x8]; exact ii (by decide)) (by decide) rfl ?_
        refine r_goto (tgt := 11) C dX10_mixedLeastWord_33 (by decide) ?_
        refine r_L (L' := [(6, .int x8), (5, .int r1), (3, .long r7), (0, .long u), (2, .int lie)]) [0, 2, 1, 3, 4] rfl ?_
        have eF : F_X10_mixedLeastWord_L11 r1 lie (nn + 1) k2 y3 = F_X10_mixedLeastWord_L11 r1 lie nn r7 x8 := by have q := e_r6.symm; subst q; have q := e_r7.symm; subst q; have q := e_x8.symm; subst q; simp only [F_X10_mixedLeastWord_L11, if_neg c4]
        exact ih r7 x8 hp (fun f9 e_f9 z10 e_z10 => kk f9 (by rw [eF]; exact e_f9) z10 (by rw [eF]; exact e_z10))
  refine hL 18 u 0 hpl (fun f9 e_f9 z10 e_z10 => ?_)
  clear hL hpl
  refine r_lload_n C dX10_mixedLeastWord_36 2 rfl ?_
  have eF : F_X10_mixedLeastWord u lie = f9 := by have q := e_r1.symm; subst q; have q := e_f9.symm; subst q; have q := e_z10.symm; subst q; rfl
  exact r_lret (r := f9) C hA hr hlo dX10_mixedLeastWord_37 [] ⟨by simp only [eF], rfl⟩ rfl hQ
theorem k_X10_waysAsSums : kS yX10_waysAsSums cX10_waysAsSums 6 (some .int) 1 := ⟨t_590, t_58, t_591, by decide +kernel, by decide +kernel, by decide +kernel⟩
def F_X10_waysAsSums_L19 (length : Int32) (y2 : Int32) (y5 : Int32) : Nat → Int32 → Int32 → Int32 × Int32
  | 0, y7, y8 => (y7, y8)
  | nn + 1, y7, y8 => (if 5 < y8 then ((y7, y8)) else (let x10 : Int32 := ((length - y2) - y5) - y8; let x14 : Int32 := (if x10 < 0 then (y7) else ((if 7 < x10 then (y7) else (let x13 : Int32 := y7 + 1; x13)))); let x15 : Int32 := y8 + 1; F_X10_waysAsSums_L19 length y2 y5 nn x14 x15))
def P_X10_waysAsSums_L19 (length : Int32) (y2 : Int32) (y5 : Int32) : Nat → Int32 → Int32 → Prop
  | 0, _, _ => False
  | nn + 1, y7, y8 => ((5 < y8 → True) ∧ (¬ 5 < y8 → (∀ x10 : Int32, x10 = ((length - y2) - y5) - y8 → (∀ x14 : Int32, x14 = ((if x10 < 0 then (y7) else ((if 7 < x10 then (y7) else (let x13 : Int32 := y7 + 1; x13))))) → (∀ x15 : Int32, x15 = y8 + 1 → (P_X10_waysAsSums_L19 length y2 y5 nn x14 x15))))))
def F_X10_waysAsSums_L11 (length : Int32) (y2 : Int32) : Nat → Int32 → Int32 → Int32 × Int32
  | 0, y4, y5 => (y4, y5)
  | nn + 1, y4, y5 => (if 3 < y5 then ((y4, y5)) else (let z16 : Int32 := (F_X10_waysAsSums_L19 length y2 y5 7 y4 0).1; let x18 : Int32 := y5 + 1; F_X10_waysAsSums_L11 length y2 nn z16 x18))
def P_X10_waysAsSums_L11 (length : Int32) (y2 : Int32) : Nat → Int32 → Int32 → Prop
  | 0, _, _ => False
  | nn + 1, y4, y5 => ((3 < y5 → True) ∧ (¬ 3 < y5 → ((P_X10_waysAsSums_L19 length y2 y5 7 y4 0) ∧ (∀ z16 : Int32, z16 = (F_X10_waysAsSums_L19 length y2 y5 7 y4 0).1 → (∀ z17 : Int32, z17 = (F_X10_waysAsSums_L19 length y2 y5 7 y4 0).2 → (∀ x18 : Int32, x18 = y5 + 1 → (P_X10_waysAsSums_L11 length y2 nn z16 x18)))))))
def F_X10_waysAsSums_L4 (length : Int32) : Nat → Int32 → Int32 → Int32 × Int32
  | 0, y1, y2 => (y1, y2)
  | nn + 1, y1, y2 => (if 1 < y2 then ((y1, y2)) else (let z19 : Int32 := (F_X10_waysAsSums_L11 length y2 5 y1 0).1; let x21 : Int32 := y2 + 1; F_X10_waysAsSums_L4 length nn z19 x21))
def P_X10_waysAsSums_L4 (length : Int32) : Nat → Int32 → Int32 → Prop
  | 0, _, _ => False
  | nn + 1, y1, y2 => ((1 < y2 → True) ∧ (¬ 1 < y2 → ((P_X10_waysAsSums_L11 length y2 5 y1 0) ∧ (∀ z19 : Int32, z19 = (F_X10_waysAsSums_L11 length y2 5 y1 0).1 → (∀ z20 : Int32, z20 = (F_X10_waysAsSums_L11 length y2 5 y1 0).2 → (∀ x21 : Int32, x21 = y2 + 1 → (P_X10_waysAsSums_L4 length nn z19 x21)))))))
set_option maxRecDepth 20000 in
def F_X10_waysAsSums (length : Int32) : Int32 := let z22 : Int32 := (F_X10_waysAsSums_L4 length 3 0 0).1; z22
set_option maxRecDepth 20000 in
def P_X10_waysAsSums (length : Int32) : Prop := (P_X10_waysAsSums_L4 length 3 0 0)
set_option maxRecDepth 20000 in
set_option maxHeartbeats 8000000 in
theorem m_X10_waysAsSums (l : Launch) (D : va_G) (cI cL cP cJ : ClassId) (length : Int32) (hp : P_X10_waysAsSums length) : M vI l yX10_waysAsSums cX10_waysAsSums 6 (some .int) 0 0 D (tyF cI cL cP cJ) [.int length] [] (fun (r : Int32) (w1 : List va_W) => r = (F_X10_waysAsSums length) ∧ w1 = []) := by
  unfold P_X10_waysAsSums at hp
  refine m_start (by decide +kernel) (Nat.le_of_ble_eq_true rfl) (fun p e s m args below meth c A Q hA hQ C hr hlo => ?_)
  refine r_Le (L' := [(0, .int length)]) rfl ?_
  refine r_iconst (v := 0) C dX10_waysAsSums_0 (by decide) ?_
  refine r_istore_n (L' := [(1, .int 0), (0, .int length)]) C dX10_waysAsSums_1 (by decide) rfl ?_
  refine r_iconst (v := 0) C dX10_waysAsSums_2 (by decide) ?_
  refine r_istore_n (L' := [(2, .int 0), (1, .int 0), (0, .int length)]) C dX10_waysAsSums_3 (by decide) rfl ?_
  have hpl := hp
  have hL : ∀ (nn : Nat) (y1 : Int32) (y2 : Int32), P_X10_waysAsSums_L4 length nn y1 y2 → (∀ z22 : Int32, z22 = (F_X10_waysAsSums_L4 length nn y1 y2).1 → ∀ z23 : Int32, z23 = (F_X10_waysAsSums_L4 length nn y1 y2).2 → V p l e (rmm 0 0) s m args below meth c 6 D A 0 0 Q [] [(2, .int z23), (1, .int z22), (0, .int length)] 68 []) → V p l e (rmm 0 0) s m args below meth c 6 D A 0 0 Q [] [(2, .int y2), (1, .int y1), (0, .int length)] 4 [] := by
    clear hpl
    intro nn
    induction nn with
    | zero => intro y1 y2 hp kk; rw [P_X10_waysAsSums_L4] at hp; exact hp.elim
    | succ nn ih =>
      intro y1 y2 hp kk
      rw [P_X10_waysAsSums_L4] at hp
      refine r_iload_n C dX10_waysAsSums_4 0 rfl ?_
      refine r_iconst (v := 1) C dX10_waysAsSums_5 (by decide) ?_
      refine r_icmp_gt (tgt := 68) C dX10_waysAsSums_6 (by decide) (fun c3 => ?_) (fun c3 => ?_)
      · have eF : F_X10_waysAsSums_L4 length (nn + 1) y1 y2 = (y1, y2) := by simp only [F_X10_waysAsSums_L4, if_pos c3]
        exact kk _ (by rw [eF]) _ (by rw [eF])
      · have hp := hp.2 c3
        refine r_iconst (v := 0) C dX10_waysAsSums_9 (by decide) ?_
        refine r_istore_n (L' := [(3, .int 0), (2, .int y2), (1, .int y1), (0, .int length)]) C dX10_waysAsSums_10 (by decide) rfl ?_
        obtain ⟨hpl, hp⟩ := hp
        have hL : ∀ (nn : Nat) (y4 : Int32) (y5 : Int32), P_X10_waysAsSums_L11 length y2 nn y4 y5 → (∀ z19 : Int32, z19 = (F_X10_waysAsSums_L11 length y2 nn y4 y5).1 → ∀ z20 : Int32, z20 = (F_X10_waysAsSums_L11 length y2 nn y4 y5).2 → V p l e (rmm 0 0) s m args below meth c 6 D A 0 0 Q [] [(3, .int z20), (2, .int y2), (1, .int z19), (0, .int length)] 62 []) → V p l e (rmm 0 0) s m args below meth c 6 D A 0 0 Q [] [(3, .int y5), (2, .int y2), (1, .int y4), (0, .int length)] 11 [] := by
          clear hpl hp
          intro nn
          induction nn with
          | zero => intro y4 y5 hp kk; rw [P_X10_waysAsSums_L11] at hp; exact hp.elim
          | succ nn ih =>
            intro y4 y5 hp kk
            rw [P_X10_waysAsSums_L11] at hp
            refine r_iload_n C dX10_waysAsSums_11 0 rfl ?_
            refine r_iconst (v := 3) C dX10_waysAsSums_12 (by decide) ?_
            refine r_icmp_gt (tgt := 62) C dX10_waysAsSums_13 (by decide) (fun c6 => ?_) (fun c6 => ?_)
            · have eF : F_X10_waysAsSums_L11 length y2 (nn + 1) y4 y5 = (y4, y5) := by simp only [F_X10_waysAsSums_L11, if_pos c6]
              exact kk _ (by rw [eF]) _ (by rw [eF])
            · have hp := hp.2 c6
              refine r_iconst (v := 0) C dX10_waysAsSums_16 (by decide) ?_
              refine r_istore (L' := [(4, .int 0), (3, .int y5), (2, .int y2), (1, .int y4), (0, .int length)]) C dX10_waysAsSums_17 (by decide) rfl ?_
              obtain ⟨hpl, hp⟩ := hp
              have hL : ∀ (nn : Nat) (y7 : Int32) (y8 : Int32), P_X10_waysAsSums_L19 length y2 y5 nn y7 y8 → (∀ z16 : Int32, z16 = (F_X10_waysAsSums_L19 length y2 y5 nn y7 y8).1 → ∀ z17 : Int32, z17 = (F_X10_waysAsSums_L19 length y2 y5 nn y7 y8).2 → V p l e (rmm 0 0) s m args below meth c 6 D A 0 0 Q [] [(4, .int z17), (3, .int y5), (2, .int y2), (1, .int z16), (0, .int length)] 56 []) → V p l e (rmm 0 0) s m args below meth c 6 D A 0 0 Q [] [(4, .int y8), (3, .int y5), (2, .int y2), (1, .int y7), (0, .int length)] 19 [] := by
                clear hpl hp
                intro nn
                induction nn with
                | zero => intro y7 y8 hp kk; rw [P_X10_waysAsSums_L19] at hp; exact hp.elim
                | succ nn ih =>
                  intro y7 y8 hp kk
                  rw [P_X10_waysAsSums_L19] at hp
                  refine r_iload C dX10_waysAsSums_19 0 rfl ?_
                  refine r_iconst (v := 5) C dX10_waysAsSums_21 (by decide) ?_
                  refine r_icmp_gt (tgt := 56) C dX10_waysAsSums_22 (by decide) (fun c9 => ?_) (fun c9 => ?_)
                  · have eF : F_X10_waysAsSums_L19 length y2 y5 (nn + 1) y7 y8 = (y7, y8) := by simp only [F_X10_waysAsSums_L19, if_pos c9]
                    exact kk _ (by rw [eF]) _ (by rw [eF])
                  · have hp := hp.2 c9
                    refine r_iload_n C dX10_waysAsSums_25 4 rfl ?_
                    refine r_iload_n C dX10_waysAsSums_26 2 rfl ?_
                    refine r_isub C dX10_waysAsSums_27 rfl ?_
                    refine r_iload_n C dX10_waysAsSums_28 1 rfl ?_
                    refine r_isub C dX10_waysAsSums_29 rfl ?_
                    refine r_iload C dX10_waysAsSums_30 0 rfl ?_
                    refine r_isub C dX10_waysAsSums_32 rfl ?_
                    refine r_top (fun x10 e_x10 => ?_)
                    have hp := hp x10 e_x10
                    refine r_istore (L' := [(5, .int x10), (4, .int y8), (3, .int y5), (2, .int y2), (1, .int y7), (0, .int length)]) C dX10_waysAsSums_33 (by decide) rfl ?_
                    refine r_iload C dX10_waysAsSums_35 0 rfl ?_
                    suffices K : ∀ x14 : Int32, x14 = ((if x10 < 0 then (y7) else ((if 7 < x10 then (y7) else (let x13 : Int32 := y7 + 1; x13))))) → V p l e (rmm 0 0) s m args below meth c 6 D A 0 0 Q [] [(5, .int x10), (4, .int y8), (3, .int y5), (2, .int y2), (1, .int x14), (0, .int length)] 50 [] by
                      refine r_if_lt (tgt := 50) C dX10_waysAsSums_37 (by decide) (fun c11 => ?_) (fun c11 => ?_)
                      · exact K _ (by simp only [if_pos c11])
                      · refine r_iload C dX10_waysAsSums_40 0 rfl ?_
                        refine r_bipush (v := 7) C dX10_waysAsSums_42 (by decide) ?_
                        refine r_icmp_gt (tgt := 50) C dX10_waysAsSums_44 (by decide) (fun c12 => ?_) (fun c12 => ?_)
                        · exact K _ (by simp only [if_neg c11, if_pos c12])
                        · obtain ⟨x13, e_x13⟩ : ∃ z : Int32, z = y7 + 1 := ⟨_, rfl⟩
                          refine r_iinc (v := x13) (L' := [(1, .int x13), (5, .int x10), (4, .int y8), (3, .int y5), (2, .int y2), (0, .int length)]) C dX10_waysAsSums_47 4 rfl (by rw [e_x13]; exact ii (by decide)) (by decide) rfl ?_
                          refine r_L (L' := [(5, .int x10), (4, .int y8), (3, .int y5), (2, .int y2), (1, .int x13), (0, .int length)]) [1, 2, 3, 4, 0, 5] rfl ?_
                          exact K _ (by have q := e_x13.symm; subst q; simp only [if_neg c11, if_neg c12])
                    intro x14 e_x14
                    have hp := hp x14 e_x14
                    obtain ⟨x15, e_x15⟩ : ∃ z : Int32, z = y8 + 1 := ⟨_, rfl⟩
                    have hp := hp x15 e_x15
                    refine r_iinc (v := x15) (L' := [(4, .int x15), (5, .int x10), (3, .int y5), (2, .int y2), (1, .int x14), (0, .int length)]) C dX10_waysAsSums_50 1 rfl (by rw [e_x15]; exact ii (by decide)) (by decide) rfl ?_
                    refine r_goto (tgt := 19) C dX10_waysAsSums_53 (by decide) ?_
                    refine r_L (L' := [(4, .int x15), (3, .int y5), (2, .int y2), (1, .int x14), (0, .int length)]) [0, 2, 3, 4, 5] rfl ?_
                    have eF : F_X10_waysAsSums_L19 length y2 y5 (nn + 1) y7 y8 = F_X10_waysAsSums_L19 length y2 y5 nn x14 x15 := by have q := e_x10.symm; subst q; have q := e_x14.symm; subst q; have q := e_x15.symm; subst q; simp only [F_X10_waysAsSums_L19, if_neg c9]
                    exact ih x14 x15 hp (fun z16 e_z16 z17 e_z17 => kk z16 (by rw [eF]; exact e_z16) z17 (by rw [eF]; exact e_z17))
              refine hL 7 y4 0 hpl (fun z16 e_z16 z17 e_z17 => ?_)
              clear hL hpl
              have hp := hp z16 e_z16
              have hp := hp z17 e_z17
              obtain ⟨x18, e_x18⟩ : ∃ z : Int32, z = y5 + 1 := ⟨_, rfl⟩
              have hp := hp x18 e_x18
              refine r_iinc (v := x18) (L' := [(3, .int x18), (4, .int z17), (2, .int y2), (1, .int z16), (0, .int length)]) C dX10_waysAsSums_56 1 rfl (by rw [e_x18]; exact ii (by decide)) (by decide) rfl ?_
              refine r_goto (tgt := 11) C dX10_waysAsSums_59 (by decide) ?_
              refine r_L (L' := [(3, .int x18), (2, .int y2), (1, .int z16), (0, .int length)]) [0, 2, 3, 4] rfl ?_
              have eF : F_X10_waysAsSums_L11 length y2 (nn + 1) y4 y5 = F_X10_waysAsSums_L11 length y2 nn z16 x18 := by have q := e_z16.symm; subst q; have q := e_z17.symm; subst q; have q := e_x18.symm; subst q; simp only [F_X10_waysAsSums_L11, if_neg c6]
              exact ih z16 x18 hp (fun z19 e_z19 z20 e_z20 => kk z19 (by rw [eF]; exact e_z19) z20 (by rw [eF]; exact e_z20))
        refine hL 5 y1 0 hpl (fun z19 e_z19 z20 e_z20 => ?_)
        clear hL hpl
        have hp := hp z19 e_z19
        have hp := hp z20 e_z20
        obtain ⟨x21, e_x21⟩ : ∃ z : Int32, z = y2 + 1 := ⟨_, rfl⟩
        have hp := hp x21 e_x21
        refine r_iinc (v := x21) (L' := [(2, .int x21), (3, .int z20), (1, .int z19), (0, .int length)]) C dX10_waysAsSums_62 1 rfl (by rw [e_x21]; exact ii (by decide)) (by decide) rfl ?_
        refine r_goto (tgt := 4) C dX10_waysAsSums_65 (by decide) ?_
        refine r_L (L' := [(2, .int x21), (1, .int z19), (0, .int length)]) [0, 2, 3] rfl ?_
        have eF : F_X10_waysAsSums_L4 length (nn + 1) y1 y2 = F_X10_waysAsSums_L4 length nn z19 x21 := by have q := e_z19.symm; subst q; have q := e_z20.symm; subst q; have q := e_x21.symm; subst q; simp only [F_X10_waysAsSums_L4, if_neg c3]
        exact ih z19 x21 hp (fun z22 e_z22 z23 e_z23 => kk z22 (by rw [eF]; exact e_z22) z23 (by rw [eF]; exact e_z23))
  refine hL 3 0 0 hpl (fun z22 e_z22 z23 e_z23 => ?_)
  clear hL hpl
  refine r_iload_n C dX10_waysAsSums_68 1 rfl ?_
  have eF : F_X10_waysAsSums length = z22 := by have q := e_z22.symm; subst q; have q := e_z23.symm; subst q; rfl
  exact r_iret (r := z22) C hA hr hlo dX10_waysAsSums_69 [] ⟨by simp only [eF], rfl⟩ rfl hQ
theorem k_X10_needWord : kV yX10_needWord cX10_needWord 1 none 0 := ⟨t_670, t_8, t_58, t_671, by decide +kernel, by decide +kernel, by decide +kernel⟩
set_option maxRecDepth 20000 in
def F_X10_needWord (nt : Int32) (ft : Nat → Int32) : Int32 × Int32 := let r2 : Int32 := (F_X7_isWord nt ft).1; let x3 : Int32 := (F_X7_isWord nt ft).2.1; let x4 : Int32 := (F_X7_isWord nt ft).2.2; (if r2 = 0 then ((0, 0)) else ((x3, x4)))
set_option maxRecDepth 20000 in
def P_X10_needWord (nt : Int32) (ft : Nat → Int32) : Prop := ((P_X7_isWord nt ft) ∧ (∀ r2 : Int32, r2 = (F_X7_isWord nt ft).1 → (∀ x3 : Int32, x3 = (F_X7_isWord nt ft).2.1 → (∀ x4 : Int32, x4 = (F_X7_isWord nt ft).2.2 → ((r2 = 0 → False) ∧ (¬ r2 = 0 → True))))))
set_option maxRecDepth 20000 in
set_option maxHeartbeats 8000000 in
theorem m_X10_needWord (l : Launch) (D : va_G) (cI cL cP cJ : ClassId) (fl : Nat) (pl : Nat) (pl2 : Nat) (hi : Nat) (tx : Nat) (ht : Nat) (vt : Nat) (rd : Nat) (nt : Int32) (ft : Nat → Int32) (opnt : Int32) (want : Int32) (u : Nat) (w : Nat) (taken : Int32) (hp : P_X10_needWord nt ft) : M vV l yX10_needWord cX10_needWord 1 none 4 85 D (tyF cI cL cP cJ) [.ref fl] [[(fl, .inr (8, [.ref pl, .ref pl2, .ref hi, .ref tx, .ref u, .ref w, .int taken]))], txtB cI tx ht vt rd nt ft opnt want] (fun (r : Unit) (w1 : List va_W) => w1 = [[(fl, .inr (8, [.ref pl, .ref pl2, .ref hi, .ref tx, .ref u, .ref w, .int taken]))], txtB cI tx ht vt rd nt ft ((F_X10_needWord nt ft).1) ((F_X10_needWord nt ft).2)]) := by
  unfold P_X10_needWord at hp
  refine m_start (by decide +kernel) (Nat.le_of_ble_eq_true rfl) (fun p e s m args below meth c A Q hA hQ C hr hlo => ?_)
  refine r_Le (L' := [(0, .ref fl)]) rfl ?_
  refine r_aload_n C dX10_needWord_0 0 rfl ?_
  refine r_get (Cn := RX10) (T := TX10) (N := 7) C inT10 0 rfl rfl 3 (by decide) t_222 rfl dX10_needWord_1 ?_
  obtain ⟨h1, hp⟩ := hp
  refine r_callV (ci := 5) (wc := [txtB cI tx ht vt rd nt ft opnt want]) (wr := [[(fl, .inr (8, [.ref pl, .ref pl2, .ref hi, .ref tx, .ref u, .ref w, .int taken]))]]) (st := []) C (m_X7_isWord l D cI cL cP cJ tx ht vt rd nt ft opnt want h1) k_X7_isWord t_672 [1, 0] (show ([1, 0] : List Nat).Perm (List.range 2) by decide) rfl rfl rfl (q0 := 0) rfl rfl rfl (Nat.le_of_ble_eq_true rfl) ⟨Nat.le_of_ble_eq_true rfl, Nat.le_of_ble_eq_true rfl⟩ ⟨Nat.zero_le _, Nat.zero_le _⟩ dX10_needWord_4 (fun r2 wr2 hw2 => ?_)
  obtain ⟨e_r2, rfl⟩ := hw2
  have hp := hp r2 e_r2
  obtain ⟨x3, e_x3⟩ : ∃ z : Int32, z = (F_X7_isWord nt ft).2.1 := ⟨_, rfl⟩
  have hp := hp x3 e_x3
  obtain ⟨x4, e_x4⟩ : ∃ z : Int32, z = (F_X7_isWord nt ft).2.2 := ⟨_, rfl⟩
  have hp := hp x4 e_x4
  refine r_ws (I' := [txtB cI tx ht vt rd nt ft x3 x4, [(fl, .inr (8, [.ref pl, .ref pl2, .ref hi, .ref tx, .ref u, .ref w, .int taken]))]]) (by rw [e_x3, e_x4]; rfl) ?_
  refine r_if_ne (tgt := 21) C dX10_needWord_7 (by decide) (fun c5 => ?_) (fun c5 => ?_)
  · refine r_pl (I' := [[(fl, .inr (8, [.ref pl, .ref pl2, .ref hi, .ref tx, .ref u, .ref w, .int taken]))], txtB cI tx ht vt rd nt ft x3 x4]) [1, 0] (show ([1, 0] : List Nat).Perm (List.range 2) by decide) rfl ?_
    have eF : F_X10_needWord nt ft = (x3, x4) := by have q := e_r2.symm; subst q; have q := e_x3.symm; subst q; have q := e_x4.symm; subst q; simp only [F_X10_needWord, if_neg c5]
    exact r_vret (r := ()) C hA hr hlo dX10_needWord_21 [[(fl, .inr (8, [.ref pl, .ref pl2, .ref hi, .ref tx, .ref u, .ref w, .int taken]))], txtB cI tx ht vt rd nt ft x3 x4] (by simp only [eF]) rfl hQ
  · have hp := hp.1 c5
    exact hp.elim

/-- a contract of a method that reads the script -/
def msPre (D : va_G) (tys : List (ClassId × FieldType)) (b n : Nat) (xs : Nat → Int32) (sz : Nat) (U : State) : Prop := mPre D tys [] sz U ∧ va_X b n xs U U.heap ∧ b < U.heap.size
theorem msPre_blind {D : va_G} {tys : List (ClassId × FieldType)} {b n : Nat} {xs : Nat → Int32} {sz : Nat} {av : List Value} : FrameBlind (va_Pc av (msPre D tys b n xs sz)) := fun a U g mk q => ⟨q.1, ⟨q.2.1.1, q.2.1.2.1, va_K.moved (u := U) (U := U.calling g mk a) (Vm.Alike.refl U.vm) q.2.1.2.2.1, q.2.1.2.2.2⟩, va_X.moved (u := U) (U := U.calling g mk a) (Vm.Alike.refl U.vm) q.2.2.1, q.2.2.2⟩
def MS (l : Launch) (y : MethodName) (bytes : ByteArray) (maxL : Nat) (ret : Option FieldType) (fr lo : Nat) (D : va_G) (tys : List (ClassId × FieldType)) (av : List Value) (b n : Nat) (xs : Nat → Int32) (post : Int32 → List va_W → Prop) : Prop :=
  ∀ sz, Met l y (Cond.code y bytes maxL ret :: tb) (rmm fr lo) (va_Pc av (msPre D tys b n xs sz)) (mQ vI post D tys [] sz) 0 0 (va_A ([] : List va_W).flatten sz)
theorem ms_start {l : Launch} {y : MethodName} {bytes : ByteArray} {maxL : Nat} {ret : Option FieldType} {fr lo : Nat} {D : va_G} {tys : List (ClassId × FieldType)} {av : List Value} {b n : Nat} {xs : Nat → Int32} {post : Int32 → List va_W → Prop} (hy : plainFor y = true) (hn : (lg_sl av).length ≤ maxL)
    (body : ∀ (p : Program) (e : Env) (s : State) (m : MethodId) (args : Array Value) (below : List Frame) (meth : Method) (c : Code) (A : Nat → Prop) (Q : State → Prop), A = va_A ([] : List va_W).flatten s.heap.size → Q = MQ below (mQ vI post D tys [] s.heap.size) args s 0 0 A → Cx p s m args c bytes maxL y.cls D tys A → meth.sig.returnType = ret → meth.locks = false → va_X b n xs s s.heap → b < s.heap.size → ¬ A b →
      V p l e (rmm fr lo) s m args below meth c maxL D A 0 0 Q [] (lv_args 0 av) 0 []) : MS l y bytes maxL ret fr lo D tys av b n xs post := by
  intro sz
  refine va_MetF (cc := bytes) (maxL := maxL) (ret := ret) hy rfl ?_
  intro p e s m args below meth c s₁ B hml hv
  obtain ⟨rfl, ⟨hsz, hP, hK, hD⟩, hX, hbl⟩ := hv
  subst hsz
  have hts := atoms_spec (ws := Cond.code y bytes maxL ret :: tb) B.pre
  have hbA : ¬ va_A ([] : List va_W).flatten s.heap.size b := by
    rintro (⟨j, x, hj⟩ | hz)
    · simp at hj
    · omega
  have K := body p e s m _ below meth c _ _ rfl rfl ⟨⟨B.exec, B.bytes, hml, findClass_of_methodNamed B.named, fun w h => hts w (List.mem_cons_of_mem _ h)⟩, hK, fun q h => Or.inr h⟩ B.returns B.notSynchronized hX hbl hbA
  rw [lg_entry_eq]
  exact K s.heap [] _ hP hD.self va_S.rf (lv_entry av hn)
section
variable {p : Program} {l : Launch} {e : Env} {R : Room} {s : State} {m : MethodId} {args : Array Value} {below : List Frame} {meth : Method} {c : Code} {cc : ByteArray} {nL : Nat} {own : String} {D : va_G} {tys : List (ClassId × FieldType)} {A : Nat → Prop} {cells slots : Nat} {Q : State → Prop} {I I' : List va_W} {L L' : List (Nat × Value)} {pc : Nat} {st : List Value}
theorem r_sld (C : Cx p s m args c cc nL own D tys A) {b n : Nat} {xs : Nat → Int32} (hX : va_X b n xs s s.heap) (hbl : b < s.heap.size) (hbA : ¬ A b) {i z : Int32} (hin : vp_in i n) (hdg : decode cc pc = .ok (.iaload, 1)) (hz : xs i.toNatClampNeg = z) (kk : V p l e R s m args below meth c nL D A cells slots Q I L (pc + 1) (.int z :: st)) : V p l e R s m args below meth c nL D A cells slots Q I L pc (.int i :: .ref b :: st) := fun H locs ls hP hD hS hl => va_sld C.1.1 C.1.2.1 hX hbl hbA hS hin hdg (by rw [hz]; exact kk H locs ls hP hD hS hl)
theorem r_slen (C : Cx p s m args c cc nL own D tys A) {b n : Nat} {xs : Nat → Int32} (hX : va_X b n xs s s.heap) (hbl : b < s.heap.size) (hbA : ¬ A b) (hdg : decode cc pc = .ok (.arraylength, 1)) (kk : V p l e R s m args below meth c nL D A cells slots Q I L (pc + 1) (.int (Int32.ofNat n) :: st)) : V p l e R s m args below meth c nL D A cells slots Q I L pc (.ref b :: st) := fun H locs ls hP hD hS hl => va_slen C.1.1 C.1.2.1 hX hbl hbA hS hdg (kk H locs ls hP hD hS hl)
theorem r_run2 {α : Type} {val : α → Option Value} {post : α → List va_W → Prop} {wc wr : List va_W} {a : Array Value} {st0 : List Value} (C : Cx p s m args c cc nL own D tys A) (hp : I.flatten.Perm (wc.flatten ++ wr.flatten))
    (hr : ∀ (H : Heap) (locs : List Loc) (ls : Array Slot), va_P D vwCl wc.flatten H → va_D (fun _ => True) wc.flatten → va_S A s.heap H locs → lv_has ls nL L → va_Run p l e R s m args below meth c H locs cells slots 0 0 (F0 m pc ls st0) st (mQ val post D tys wc H.size a) (va_A wc.flatten H.size))
    (kk : ∀ (r : α) (w1 : List va_W), post r w1 → V p l e R s m args below meth c nL D A cells slots Q (w1 ++ wr) L (pc + 3) ((val r).toList ++ st)) : V p l e R s m args below meth c nL D A cells slots Q I L pc st0 := by
  intro H locs ls hP hD hS hl T hT X
  have hP := va_P_perm hp hP
  have hD := va_D_perm hp hD
  have hPc : va_P D vwCl wc.flatten H := va_P_mem.mpr fun x hx => va_P_mem.mp hP x (List.mem_append_left _ hx)
  have hDm := va_D_mem.mp hD
  have hDc : va_D (fun _ => True) wc.flatten := va_D_mem.mpr ⟨by have := hDm.1; rw [List.map_append, List.nodup_append] at this; exact this.1, fun _ _ => trivial⟩
  have hF := fr_free hD hS C.2.2
  obtain ⟨v, st₀, t, T', L', h0, X', hL, e1, e2, ⟨⟨r, w1, hv, hpo, hP1, hK1, hD1⟩, hz, hk⟩, stp⟩ := hr H locs ls hPc hDc hS hl T hT X
  cases hv
  rw [h0] at hz hk
  rw [← e1] at hP1 hz hk
  obtain ⟨hP2, hD2⟩ := fr_join hP hD hk hF hP1 hD1
  obtain ⟨t2, a1, b1⟩ := kk r w1 hpo T'.heap (locs ++ L') ls (by rw [List.flatten_append]; exact hP2) (by rw [List.flatten_append]; exact hD2)
    ⟨Nat.le_trans hS.1 hz, fun q h1 h2 => by rw [hk q (Nat.lt_of_lt_of_le h1 hS.1) (fun z => h2 (hF q z))]; exact hS.2.1 q h1 h2, fun q hq => by
      rcases List.mem_append.mp hq with h | h
      · exact hS.2.2 q h
      · exact hF _ (hL q h)⟩ hl T' rfl X'
  exact ⟨t2, stp t2 a1, b1⟩
/-- the call of a method that reads the script -/
theorem r_callX {post : Int32 → List va_W → Prop} {y : MethodName} {bytes : ByteArray} {maxL : Nat} {ret : Option FieldType} {n index fr lo : Nat} {As : List Value} {st0 : List Value} (C : Cx p s m args c cc nL own D tys A) {b n_ : Nat} {xs : Nat → Int32} (hX : va_X b n_ xs s s.heap) (hbl : b < s.heap.size) (hbA : ¬ A b) (hM : MS l y bytes maxL ret fr lo D tys As b n_ xs post) (hk : kS y bytes maxL ret n) (hl : Cond.methodLink own index y ∈ tb) (hlen : As.length = n) (hst : st0 = As.reverse ++ st) (hcat : (st.map fun v => v.category).sum ≤ 8) (hR : fr + 1 ≤ R.frames ∧ 8 + (maxL + 11) + lo ≤ R.locals) (hroom : cells ≤ R.cells ∧ slots ≤ R.slots) (hdg : decode cc pc = .ok (.invokestatic index, 3))
    (kk : ∀ (r : Int32) (w1 : List va_W), post r w1 → V p l e R s m args below meth c nL D A cells slots Q (w1 ++ I) L (pc + 3) (.int r :: st)) : V p l e R s m args below meth c nL D A cells slots Q I L pc st0 := by
  refine r_run2 (wc := []) (wr := I) (val := vI) (post := post) (a := As.toArray) (st := st) C (List.Perm.refl _) ?_ kk
  intro H locs ls hPc hDc hS hls
  have hXH : va_X b n_ xs s H := hX.kept (hS.2.1 b hbl hbA)
  have hblH : b < H.size := Nat.lt_of_lt_of_le hbl hS.1
  exact va_runS (As := As) (rest := st) C.1 (hM H.size) (kS_cw hk C.1.2.2.2.2 hl hR) ⟨msPre_blind, fun U hU hW => ⟨rfl, ⟨by rw [hU], by rw [hU]; exact hPc, va_K.moved hW.alike C.2.1, hDc⟩, by rw [hU]; exact hXH.moved hW.alike, by rw [hU]; exact hblH⟩⟩ rfl hlen hls.1 hst (by show 2 * 0 + _ ≤ 8; omega) hdg hroom
/-- things that are no longer looked at -/
theorem r_drop {J : List va_W} (kk : V p l e R s m args below meth c nL D A cells slots Q I L pc st) : V p l e R s m args below meth c nL D A cells slots Q (I ++ J) L pc st := fun H locs ls hP hD hS hl => by
  rw [List.flatten_append] at hP hD
  refine kk H locs ls (va_P_mem.mpr fun x hx => va_P_mem.mp hP x (List.mem_append_left _ hx)) ?_ hS hl
  have hm := va_D_mem.mp hD
  have hn := hm.1
  rw [List.map_append, List.nodup_append] at hn
  exact va_D_mem.mpr ⟨hn.1, fun x hx => hm.2 x (List.mem_append_left _ hx)⟩
end
theorem k_L_cell : kS yL_cell cL_cell 2 (some .int) 2 := ⟨t_403, t_6, t_404, by decide +kernel, by decide +kernel, by decide +kernel⟩
def F_L_cell (n_ : Nat) (xs : Nat → Int32) (k : Int32) : Int32 := if Int32.ofNat n_ ≤ k then 7919 * (k + 3) * (k + 11) else xs k.toNatClampNeg
def P_L_cell (n_ : Nat) (k : Int32) : Prop := ¬ Int32.ofNat n_ ≤ k → vp_in k n_
theorem m_L_cell (l : Launch) (D : va_G) (cI cL cP cJ : ClassId) (b n_ : Nat) (xs : Nat → Int32) (k : Int32) (hp : P_L_cell n_ k) : MS l yL_cell cL_cell 2 (some .int) 0 0 D (tyF cI cL cP cJ) [.ref b, .int k] b n_ xs (fun (r : Int32) (w1 : List va_W) => r = F_L_cell n_ xs k ∧ w1 = []) := by
  unfold P_L_cell at hp
  refine ms_start (by decide +kernel) (Nat.le_of_ble_eq_true rfl) (fun p e s m args below meth c A Q hA hQ C hr hlo hX hbl hbA => ?_)
  refine r_Le (L' := [(0, .ref b), (1, .int k)]) rfl ?_
  refine r_iload_n C dL_cell_0 1 rfl ?_
  refine r_aload_n C dL_cell_1 0 rfl ?_
  refine r_slen C hX hbl hbA dL_cell_2 ?_
  refine r_icmp_ge (tgt := 12) C dL_cell_3 (by decide) (fun cc => ?_) (fun cc => ?_)
  · refine r_sipush (v := 7919) C dL_cell_12 (by decide) ?_
    refine r_iload_n C dL_cell_15 1 rfl ?_
    refine r_iconst (v := 3) C dL_cell_16 (by decide) ?_
    refine r_iadd C dL_cell_17 rfl ?_
    refine r_imul C dL_cell_18 rfl ?_
    refine r_iload_n C dL_cell_19 1 rfl ?_
    refine r_bipush (v := 11) C dL_cell_20 (by decide) ?_
    refine r_iadd C dL_cell_22 rfl ?_
    refine r_imul C dL_cell_23 rfl ?_
    have eF : F_L_cell n_ xs k = 7919 * (k + 3) * (k + 11) := if_pos cc
    exact r_iret C hA hr hlo dL_cell_24 [] ⟨by rw [eF], rfl⟩ rfl hQ
  · refine r_aload_n C dL_cell_6 0 rfl ?_
    refine r_iload_n C dL_cell_7 1 rfl ?_
    refine r_sld C hX hbl hbA (hp cc) dL_cell_8 rfl ?_
    refine r_goto (tgt := 24) C dL_cell_9 (by decide) ?_
    have eF : F_L_cell n_ xs k = xs k.toNatClampNeg := if_neg cc
    exact r_iret C hA hr hlo dL_cell_24 [] ⟨by rw [eF], rfl⟩ rfl hQ

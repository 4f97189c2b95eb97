abbrev xstrs : List (String × Nat × String) := [("FoldedLetters$Pile", 20, "there is no such letter"), ("FoldedLetters", 221, "there is no such count"), ("FoldedLetters", 309, "there is no such position"), ("FoldedLetters", 199, "a letter has no such number"), ("FoldedLetters", 306, "there is no such crease"), ("FoldedLetters", 232, "no such length is asked for"), ("FoldedLetters", 234, "the ways are told in two ways alone"), ("FoldedLetters", 63, "the fold can not be done"), ("FoldedLetters", 316, "the buffer is not a complete word"), ("FoldedLetters", 105, "no fold is remembered"), ("FoldedLetters", 111, "the crease touches a sealed position"), ("FoldedLetters", 144, "the layer that belongs there does not lie there"), ("FoldedLetters", 154, "no such character"), ("FoldedLetters", 161, "the buffer is full"), ("FoldedLetters", 188, "there is no snapshot"), ("FoldedLetters", 191, "no state is saved"), ("FoldedLetters", 311, "the place is below 0")]
abbrev xexc : List String := ["java/lang/IndexOutOfBoundsException", "java/lang/IllegalArgumentException", "java/lang/IllegalStateException"]
abbrev xdecl : List String := ["java/lang/RuntimeException", "java/lang/Exception", "java/lang/Throwable"]
abbrev xnames : List String := ["java/lang/RuntimeException", "java/lang/Exception"]
abbrev rmx (fr lo : Nat) : Room := { frames := fr, cells := 1, slots := 6, locals := lo }
def xZ (A : Nat → Prop) (U : State) (H : Heap) : Prop := vx_Zq Bundle.tN "UNASSIGNED_STACK" Bundle.steD A U H ∧ vx_Zq Bundle.tN "SUPPRESSED_SENTINEL" Bundle.listD A U H
theorem xZ.moved {A : Nat → Prop} {u U : State} {H : Heap} (hvm : u.vm.Alike U.vm) (h : xZ A u H) : xZ A U H := ⟨h.1.moved hvm, h.2.moved hvm⟩
theorem xZ.kept {A : Nat → Prop} {U : State} {H H1 : Heap} (h : xZ A U H) (hq : ∀ a : Nat, a < H.size → ¬ A a → H1[a]? = H[a]?) : xZ A U H1 := ⟨h.1.kept hq, h.2.kept hq⟩
theorem xZ.narrow {A B : Nat → Prop} {U : State} {H : Heap} (h : xZ A U H) (hAB : ∀ q, B q → A q) : xZ B U H := ⟨h.1.narrow hAB, h.2.narrow hAB⟩
def xC (U : State) : Prop := (∀ q ∈ xstrs, ∃ a, vk_R q.1 q.2.1 q.2.2 a U) ∧ (∀ E ∈ xexc, va_Nw (.castable E E) U) ∧ ∀ X ∈ xdecl, va_Nw (.declares (Bundle.initS X)) U
theorem xC.warm {s U : State} (hW : s.WarmedH U.vm) (h : xC s) : xC U := ⟨fun q hq => by obtain ⟨a, ha⟩ := h.1 q hq; exact ⟨a, vk_R.warm hW ha⟩, fun E hE => va_Nw.warmC hW (h.2.1 E hE), fun X hX => va_Nw.warmD hW (h.2.2 X hX)⟩
theorem xC.same {s U : State} (hW : U.vm = s.vm) (h : xC s) : xC U := ⟨fun q hq => by obtain ⟨a, ha⟩ := h.1 q hq; exact ⟨a, vk_R.same hW ha⟩, fun E hE => va_Nw.same rfl hW.symm (h.2.1 E hE), fun X hX => va_Nw.same rfl hW.symm (h.2.2 X hX)⟩
def mxPre (D : va_G) (tys : List (ClassId × FieldType)) (w0 : List va_W) (sz : Nat) (U : State) : Prop := mPre D tys w0 sz U ∧ xZ (va_A w0.flatten sz) U U.heap ∧ xC U
theorem mxPre_blind {D : va_G} {tys : List (ClassId × FieldType)} {w0 : List va_W} {sz : Nat} {av : List Value} : FrameBlind (va_Pc av (mxPre D tys w0 sz)) := fun a U g mk q => ⟨q.1, ⟨q.2.1.1, q.2.1.2.1, va_K.moved (u := U) (U := U.calling g mk a) (Vm.Alike.refl U.vm) q.2.1.2.2.1, q.2.1.2.2.2⟩, xZ.moved (u := U) (U := U.calling g mk a) (Vm.Alike.refl U.vm) q.2.2.1, xC.same (s := U) (U := U.calling g mk a) rfl q.2.2.2⟩
def xX (E : String) (D : va_G) (tys : List (ClassId × FieldType)) (w0 w1 : List va_W) (sz : Nat) : String → State → State → Prop := fun E' st t => E' = E ∧ va_P D vwCl w1.flatten t.heap ∧ va_K D vwCl tys t ∧ va_D (va_A w0.flatten sz) w1.flatten ∧ va_F (va_A w0.flatten sz) st t
def xN : Array Value → State → Outcome → State → Prop := fun _ _ _ _ => False
/-- a contract of a call that throws E and leaves the things w1 -/
def MX (l : Launch) (y : MethodName) (bytes : ByteArray) (maxL : Nat) (ret : Option FieldType) (fr lo : Nat) (D : va_G) (tys : List (ClassId × FieldType)) (av : List Value) (w0 w1 : List va_W) (E : String) : Prop :=
  l.stackTraces = false → ∀ sz, vx_Met l y (Cond.code y bytes maxL ret :: tb) (rmx fr lo) (va_Pc av (mxPre D tys w0 sz)) xN (xX E D tys w0 w1 sz) 1 6 (va_A w0.flatten sz)
/-- what a throwing method's walk keeps beside Cx -/
def Cxx (l : Launch) (c : Code) (meth : Method) (s : State) (A : Nat → Prop) : Prop := (∀ x ∈ c.exceptionTable.toList, False) ∧ meth.locks = false ∧ l.stackTraces = false ∧ xZ A s s.heap ∧ xC s
theorem mx_start {l : Launch} {y : MethodName} {bytes : ByteArray} {maxL : Nat} {ret : Option FieldType} {fr lo : Nat} {D : va_G} {tys : List (ClassId × FieldType)} {av : List Value} {w0 w1 : List va_W} {E : String} (hy : plainName y.cls = true) (hn : (lg_sl av).length ≤ maxL)
    (body : ∀ (p : Program) (e : Env) (s : State) (m : MethodId) (args : Array Value) (below : List Frame) (meth : Method) (c : Code) (A : Nat → Prop) (Q : State → Prop), A = va_A w0.flatten s.heap.size → Q = vx_MQ below xN (xX E D tys w0 w1 s.heap.size) args s 1 6 A → Cx p s m args c bytes maxL y.cls D tys A → Cxx l c meth s A →
      V p l e (rmx fr lo) s m args below meth c maxL D A 0 0 Q w0 (lv_args 0 av) 0 []) : MX l y bytes maxL ret fr lo D tys av w0 w1 E := by
  intro htr sz
  refine vx_ofW (cc := bytes) (maxL := maxL) (ret := ret) hy rfl ?_
  intro p e s m args below meth c s₁ B hml ht hv
  obtain ⟨rfl, ⟨hsz, hP, hK, hD⟩, hZ, hC⟩ := hv
  subst hsz
  have hts := atoms_spec (ws := Cond.code y bytes maxL ret :: tb) B.pre
  have K := body p e s m _ below meth c _ _ rfl rfl ⟨⟨B.exec, B.bytes, hml, findClass_of_methodNamed B.named, fun w h => hts w (List.mem_cons_of_mem _ h)⟩, hK, fun q h => Or.inr h⟩ ⟨ht, B.notSynchronized, htr, hZ, hC⟩
  rw [lg_entry_eq]
  exact K s.heap [] _ hP hD.self va_S.rf (lv_entry av hn)
section
variable {p : Program} {l : Launch} {e : Env} {R : Room} {s : State} {m : MethodId} {args : Array Value} {below : List Frame} {meth : Method} {c : Code} {cc : ByteArray} {nL : Nat} {own : String} {D : va_G} {tys : List (ClassId × FieldType)} {A : Nat → Prop} {cells slots : Nat} {Q : State → Prop} {I I' : List va_W} {L L' : List (Nat × Value)} {pc : Nat} {st : List Value}
theorem r_throw {E text : String} {ik is ic : Nat} {w0 w1 : List va_W} (C : Cx p s m args c cc nL own D tys A) (X : Cxx l c meth s A) (hA : A = va_A w0.flatten s.heap.size)
    (hk : Cond.classLink own ik E ∈ tb) (hi : Cond.initialized E ∈ tb) (hs : (own, is, text) ∈ xstrs) (hE : E ∈ xexc)
    (ha1 : ∀ w ∈ (vx_atS own ic E xnames).filter goodWord, w ∈ tb) (ha2 : ∀ w ∈ (vx_atS own ic E xnames).filter (fun w => !goodWord w), w ∈ [Cond.castable E E, Cond.declares (Bundle.initS "java/lang/RuntimeException"), Cond.declares (Bundle.initS "java/lang/Exception"), Cond.declares (Bundle.initS "java/lang/Throwable")])
    (hg : ∀ w ∈ Cond.classLink own ik E :: Cond.initialized E :: vx_atS own ic E xnames, vx_ot w = true) (hfit : Bundle.fit E = true) (hfn : ∀ n ∈ xnames, Bundle.fit n = true)
    (d0 : decode cc pc = .ok (.new ik, 3)) (d3 : decode cc (pc + 3) = .ok (.dup, 1)) (d4 : decode cc (pc + 4) = .ok (.ldc is, 2)) (d6 : decode cc (pc + 6) = .ok (.invokespecial ic, 3)) (d9 : decode cc (pc + 9) = .ok (.athrow, 1))
    (hR : 6 ≤ R.frames ∧ 98 ≤ R.locals ∧ 1 ≤ R.cells ∧ 6 ≤ R.slots) (hcat : (st.map fun v => v.category).sum ≤ 16) (hI : I.flatten = w1.flatten)
    (hQ : Q = vx_MQ below xN (xX E D tys w0 w1 s.heap.size) args s 1 6 A) : V p l e R s m args below meth c nL D A 0 0 Q I L pc st := fun H locs ls hP hD hS hl => by
  subst hQ
  obtain ⟨a, ha⟩ := X.2.2.2.2.1 _ hs
  refine vx_throwS C.1.1 C.1.2.1 X.2.2.1 C.1.2.2.2.1 hfit hfn (C.1.2.2.2.2 _ hk) (C.1.2.2.2.2 _ hi) ha (vx_hat (fun w hw => C.1.2.2.2.2 w (ha1 w hw)) ha2 (vx_c (va_Nw.use rfl (X.2.2.2.2.2.1 E hE)) (vx_c (va_Nw.use rfl (X.2.2.2.2.2.2 "java/lang/RuntimeException" (by decide))) (vx_c (va_Nw.use rfl (X.2.2.2.2.2.2 "java/lang/Exception" (by decide))) (vx_c (va_Nw.use rfl (X.2.2.2.2.2.2 "java/lang/Throwable" (by decide))) vx_n))))) hg X.2.2.2.1.1 X.2.2.2.1.2 hS (hl.1.trans C.1.2.2.1.symm) d0 d3 d4 d6 d9 (fun x hx => (X.1 x hx).elim) (Nat.lt_of_lt_of_le (by decide) hR.1) (by show _ + 82 ≤ _; omega) (by omega) (by omega) X.2.1 (fun t hW hz hq => ?_) (fun z hz => hS.2.2 z hz) (Nat.le_refl _) (Nat.le_refl _)
  have hPm := va_P_mem.mp hP
  refine ⟨rfl, ?_, va_K.moved hW C.2.1, by rw [← hI, ← hA]; exact hD, ?_⟩
  · rw [← hI]
    exact va_P_mem.mpr fun x hx => (hPm x hx).kept (hq _ (hPm x hx).lt)
  · rw [← hA]
    exact ⟨Nat.le_trans hS.1 hz, fun q h1 h2 => (hq q (Nat.lt_of_lt_of_le h1 hS.1)).trans (hS.2.1 q h1 h2)⟩
theorem r_throwW {E text : String} {ik is ic : Nat} {w0 w1 : List va_W} (C : Cx p s m args c cc nL own D tys A) (X : Cxx l c meth s A) (hA : A = va_A w0.flatten s.heap.size)
    (hk : Cond.classLink own ik E ∈ tb) (hi : Cond.initialized E ∈ tb) (hs : (own, is, text) ∈ xstrs) (hE : E ∈ xexc)
    (ha1 : ∀ w ∈ (vx_atS own ic E xnames).filter goodWord, w ∈ tb) (ha2 : ∀ w ∈ (vx_atS own ic E xnames).filter (fun w => !goodWord w), w ∈ [Cond.castable E E, Cond.declares (Bundle.initS "java/lang/RuntimeException"), Cond.declares (Bundle.initS "java/lang/Exception"), Cond.declares (Bundle.initS "java/lang/Throwable")])
    (hg : ∀ w ∈ Cond.classLink own ik E :: Cond.initialized E :: vx_atS own ic E xnames, vx_ot w = true) (hfit : Bundle.fit E = true) (hfn : ∀ n ∈ xnames, Bundle.fit n = true)
    (d0 : decode cc pc = .ok (.new ik, 3)) (d3 : decode cc (pc + 3) = .ok (.dup, 1)) (d4 : decode cc (pc + 4) = .ok (.ldc_w is, 3)) (d6 : decode cc (pc + 7) = .ok (.invokespecial ic, 3)) (d9 : decode cc (pc + 10) = .ok (.athrow, 1))
    (hR : 6 ≤ R.frames ∧ 98 ≤ R.locals ∧ 1 ≤ R.cells ∧ 6 ≤ R.slots) (hcat : (st.map fun v => v.category).sum ≤ 16) (hI : I.flatten = w1.flatten)
    (hQ : Q = vx_MQ below xN (xX E D tys w0 w1 s.heap.size) args s 1 6 A) : V p l e R s m args below meth c nL D A 0 0 Q I L pc st := fun H locs ls hP hD hS hl => by
  subst hQ
  obtain ⟨a, ha⟩ := X.2.2.2.2.1 _ hs
  refine vx_throwSW C.1.1 C.1.2.1 X.2.2.1 C.1.2.2.2.1 hfit hfn (C.1.2.2.2.2 _ hk) (C.1.2.2.2.2 _ hi) ha (vx_hat (fun w hw => C.1.2.2.2.2 w (ha1 w hw)) ha2 (vx_c (va_Nw.use rfl (X.2.2.2.2.2.1 E hE)) (vx_c (va_Nw.use rfl (X.2.2.2.2.2.2 "java/lang/RuntimeException" (by decide))) (vx_c (va_Nw.use rfl (X.2.2.2.2.2.2 "java/lang/Exception" (by decide))) (vx_c (va_Nw.use rfl (X.2.2.2.2.2.2 "java/lang/Throwable" (by decide))) vx_n))))) hg X.2.2.2.1.1 X.2.2.2.1.2 hS (hl.1.trans C.1.2.2.1.symm) d0 d3 d4 d6 d9 (fun x hx => (X.1 x hx).elim) (Nat.lt_of_lt_of_le (by decide) hR.1) (by show _ + 82 ≤ _; omega) (by omega) (by omega) X.2.1 (fun t hW hz hq => ?_) (fun z hz => hS.2.2 z hz) (Nat.le_refl _) (Nat.le_refl _)
  have hPm := va_P_mem.mp hP
  refine ⟨rfl, ?_, va_K.moved hW C.2.1, by rw [← hI, ← hA]; exact hD, ?_⟩
  · rw [← hI]
    exact va_P_mem.mpr fun x hx => (hPm x hx).kept (hq _ (hPm x hx).lt)
  · rw [← hA]
    exact ⟨Nat.le_trans hS.1 hz, fun q h1 h2 => (hq q (Nat.lt_of_lt_of_le h1 hS.1)).trans (hS.2.1 q h1 h2)⟩
/-- behind a callee that throws -/
theorem r_xrun {E : String} {a9 : Array Value} {wc wr w1c : List va_W} {st0 : List Value} (C : Cx p s m args c cc nL own D tys A) (hZ : xZ A s s.heap) (hp : I.flatten.Perm (wc.flatten ++ wr.flatten))
    (hr : ∀ (H : Heap) (locs : List Loc) (ls : Array Slot), va_P D vwCl wc.flatten H → va_D (fun _ => True) wc.flatten → lv_has ls nL L → xZ (va_A wc.flatten H.size) s H → vx_Run p l e R s m args below meth c H locs cells slots 1 6 (F0 m pc ls st0) st (xN a9) (xX E D tys wc w1c H.size) (va_A wc.flatten H.size))
    (kk : ∀ (H1 : Heap) (locs1 : List Loc) (ls : Array Slot) (ce : Cell) (q : Addr), va_P D vwCl (w1c ++ wr).flatten H1 → va_D A (w1c ++ wr).flatten → va_S A s.heap H1 locs1 → lv_has ls nL L → H1[q]? = some ce → ce.vm = .none → s.vm.findClass E = some ce.cls → vx_W p l e R s m args below meth c H1 locs1 (cells + 1) (slots + 6) Q (F0 m pc ls st) q) : V p l e R s m args below meth c nL D A cells slots Q I L pc st0 := by
  intro H locs ls hP hD hS hl T hT X
  have hP := va_P_perm hp hP
  have hD := va_D_perm hp hD
  have hPc : va_P D vwCl wc.flatten H := va_P_mem.mpr fun x hx => va_P_mem.mp hP x (List.mem_append_left _ hx)
  have hDm := va_D_mem.mp hD
  have hDc : va_D (fun _ => True) wc.flatten := va_D_mem.mpr ⟨by have := hDm.1; rw [List.map_append, List.nodup_append] at this; exact this.1, fun _ _ => trivial⟩
  have hF := fr_free hD hS C.2.2
  rcases hr H locs ls hPc hDc hl ((hZ.kept hS.2.1).narrow hF) T hT X with ⟨v, st₀, t, T', L', h0, X', hL, e1, e2, hn, stp⟩ | ⟨q, st₀, t, T', L', E', ce, h0, X', hL, e1, e2, ⟨rfl, hP1, hK1, hD1, hz, hk⟩, hce, hcv, hcl, stp⟩
  · exact hn.elim
  · rw [h0] at hz hk
    rw [← e1] at hP1 hz hk hce
    obtain ⟨hP2, hD2⟩ := fr_join hP hD hk hF hP1 hD1
    obtain ⟨t2, a1, b1⟩ := kk T'.heap (locs ++ L') ls ce q (by rw [List.flatten_append]; exact hP2) (by rw [List.flatten_append]; exact hD2)
      ⟨Nat.le_trans hS.1 hz, fun q h1 h2 => by rw [hk q (Nat.lt_of_lt_of_le h1 hS.1) (fun z => h2 (hF q z))]; exact hS.2.1 q h1 h2, fun q hq => by
        rcases List.mem_append.mp hq with h | h
        · exact hS.2.2 q h
        · exact hF _ (hL q h)⟩ hl hce hcv hcl T' rfl X'
    exact ⟨t2, stp.trans a1, b1⟩
theorem kS_cx {y : MethodName} {bytes : ByteArray} {maxL : Nat} {ret : Option FieldType} {n index fr lo : Nat} (h : kS y bytes maxL ret n) (hts : ∀ w ∈ tb, w.before args s = true) (hl : Cond.methodLink own index y ∈ tb) (hR : fr + 1 ≤ R.frames ∧ 8 + (maxL + 11) + lo ≤ R.locals) : CallB R s args own index y bytes maxL ret (Cond.code y bytes maxL ret :: tb) (rmx fr lo) 1 6 n ∧ (Cond.static y).before args s = true := by
  obtain ⟨h1, h2, h3, h4⟩ := h
  refine va_cwS n hts (tb_goodIn ?_) rfl rfl rfl h4 hR
  intro w hw
  rcases List.mem_append.mp hw with hw | hw
  · rcases List.mem_cons.mp hw with rfl | hw
    · exact hl
    · rcases List.mem_cons.mp hw with rfl | hw
      · exact h1
      · rcases List.mem_cons.mp hw with rfl | hw
        · exact h2
        · cases hw
  · rcases List.mem_cons.mp hw with rfl | hw
    · exact h3
    · exact hw
theorem kV_cx {y : MethodName} {bytes : ByteArray} {maxL : Nat} {ret : Option FieldType} {n index fr lo : Nat} (h : kV y bytes maxL ret n) (hts : ∀ w ∈ tb, w.before args s = true) (hl : Cond.methodLink own index y ∈ tb) (hR : fr + 1 ≤ R.frames ∧ 8 + (maxL + 11) + lo ≤ R.locals) : CallW R s args own y.cls index y bytes maxL ret (Cond.code y bytes maxL ret :: tb) (rmx fr lo) 1 6 n := by
  obtain ⟨h1, h2, h3, h5, h4⟩ := h
  refine cwV n hts (tb_goodIn ?_) rfl rfl rfl ⟨rfl, h4⟩ hR
  intro w hw
  rcases List.mem_append.mp hw with hw | hw
  · rcases List.mem_cons.mp hw with rfl | hw
    · exact hl
    · rcases List.mem_cons.mp hw with rfl | hw
      · exact h1
      · rcases List.mem_cons.mp hw with rfl | hw
        · exact h2
        · rcases List.mem_cons.mp hw with rfl | hw
          · exact h3
          · cases hw
  · rcases List.mem_cons.mp hw with rfl | hw
    · exact h5
    · exact hw
theorem r_xS {E : String} {y : MethodName} {bytes : ByteArray} {maxL : Nat} {ret : Option FieldType} {n index fr lo : Nat} {wc wr w1c : List va_W} {As : List Value} {st0 : List Value} (C : Cx p s m args c cc nL own D tys A) (hlt : l.stackTraces = false) (hZ : xZ A s s.heap) (hC : xC s) (hM : MX l y bytes maxL ret fr lo D tys As wc w1c E) (hk : kS y bytes maxL ret n) (hl : Cond.methodLink own index y ∈ tb) (is : List Nat) (hn : is.Perm (List.range I.length)) (hI : is.map (fun i => I[i]?) = (wc ++ wr).map some) (hlen : As.length = n) (hst : st0 = As.reverse ++ st) (hcat : (st.map fun v => v.category).sum ≤ 8) (hR : fr + 1 ≤ R.frames ∧ 8 + (maxL + 11) + lo ≤ R.locals) (hroom : cells + 1 ≤ R.cells ∧ slots + 6 ≤ R.slots) (hdg : decode cc pc = .ok (.invokestatic index, 3))
    (kk : ∀ (H1 : Heap) (locs1 : List Loc) (ls : Array Slot) (ce : Cell) (q : Addr), va_P D vwCl (w1c ++ wr).flatten H1 → va_D A (w1c ++ wr).flatten → va_S A s.heap H1 locs1 → lv_has ls nL L → H1[q]? = some ce → ce.vm = .none → s.vm.findClass E = some ce.cls → vx_W p l e R s m args below meth c H1 locs1 (cells + 1) (slots + 6) Q (F0 m pc ls st) q) : V p l e R s m args below meth c nL D A cells slots Q I L pc st0 := by
  refine r_xrun (a9 := As.toArray) (wc := wc) (wr := wr) C hZ (by rw [← List.flatten_append]; exact (pl_perm is hn hI).flatten) ?_ kk
  intro H locs ls hPc hDc hls hZc
  exact vx_runS (As := As) (rest := st) C.1 (hM hlt H.size) (kS_cx hk C.1.2.2.2.2 hl hR) ⟨mxPre_blind, fun U hU hW => ⟨rfl, ⟨by rw [hU], by rw [hU]; exact hPc, va_K.moved hW.alike C.2.1, hDc⟩, by rw [hU]; exact hZc.moved hW.alike, hC.warm hW⟩⟩ rfl hlen hls.1 hst (by show 2 * 0 + _ ≤ 8; omega) hdg hroom
theorem r_xV {E : String} {y : MethodName} {bytes : ByteArray} {maxL : Nat} {ret : Option FieldType} {n index fr lo : Nat} {wc wr w1c : List va_W} {b ci q0 : Nat} {fs : List Value} {rc : vw_C} {As : List Value} {st0 : List Value} (C : Cx p s m args c cc nL own D tys A) (hlt : l.stackTraces = false) (hZ : xZ A s s.heap) (hC : xC s) (hM : MX l y bytes maxL ret fr lo D tys (.ref b :: As) wc w1c E) (hk : kV y bytes maxL ret n) (hl : Cond.methodLink own index y ∈ tb) (is : List Nat) (hn : is.Perm (List.range I.length)) (hI : is.map (fun i => I[i]?) = (wc ++ wr).map some) (hrc : vwCl[ci]? = some rc) (hcl : rc.1 = y.cls) (hq : wc.flatten[q0]? = some (b, .inr (ci, fs))) (hlen : As.length = n) (hst : st0 = As.reverse ++ .ref b :: st) (hcat : (st.map fun v => v.category).sum ≤ 8) (hR : fr + 1 ≤ R.frames ∧ 8 + (maxL + 11) + lo ≤ R.locals) (hroom : cells + 1 ≤ R.cells ∧ slots + 6 ≤ R.slots) (hdg : decode cc pc = .ok (.invokevirtual index, 3))
    (kk : ∀ (H1 : Heap) (locs1 : List Loc) (ls : Array Slot) (ce : Cell) (q : Addr), va_P D vwCl (w1c ++ wr).flatten H1 → va_D A (w1c ++ wr).flatten → va_S A s.heap H1 locs1 → lv_has ls nL L → H1[q]? = some ce → ce.vm = .none → s.vm.findClass E = some ce.cls → vx_W p l e R s m args below meth c H1 locs1 (cells + 1) (slots + 6) Q (F0 m pc ls st) q) : V p l e R s m args below meth c nL D A cells slots Q I L pc st0 := by
  refine r_xrun (a9 := (Value.ref b :: As).toArray) (wc := wc) (wr := wr) C hZ (by rw [← List.flatten_append]; exact (pl_perm is hn hI).flatten) ?_ kk
  intro H locs ls hPc hDc hls hZc
  refine vx_runV (As := As) (rest := st) C.1 (hM hlt H.size) (kV_cx hk C.1.2.2.2.2 hl hR) ⟨mxPre_blind, ?_, fun U hU hW => ⟨rfl, ⟨by rw [hU], by rw [hU]; exact hPc, va_K.moved hW.alike C.2.1, hDc⟩, by rw [hU]; exact hZc.moved hW.alike, hC.warm hW⟩⟩ rfl hlen hls.1 hst (by show 2 * 0 + _ ≤ 8; omega) hdg hroom
  rw [← hcl]
  exact va_recv C.2.1 hPc hrc hq
/-- not caught: out of the method -/
theorem r_out {E : String} {w0 w1 J : List va_W} (C : Cx p s m args c cc nL own D tys A) (X : Cxx l c meth s A) (hA : A = va_A w0.flatten s.heap.size) (hQ : Q = vx_MQ below xN (xX E D tys w0 w1 s.heap.size) args s 1 6 A) (is : List Nat) (hn : is.Perm (List.range J.length)) (hI : is.map (fun i => J[i]?) = w1.map some) :
    ∀ (H1 : Heap) (locs1 : List Loc) (ls : Array Slot) (ce : Cell) (q : Addr), va_P D vwCl J.flatten H1 → va_D A J.flatten → va_S A s.heap H1 locs1 → lv_has ls nL L → H1[q]? = some ce → ce.vm = .none → s.vm.findClass E = some ce.cls → vx_W p l e R s m args below meth c H1 locs1 (0 + 1) (0 + 6) Q (F0 m pc ls st) q := by
  intro H1 locs1 ls ce q hP hD hS hl hce hcv hcl
  subst hQ
  have hp : J.flatten.Perm w1.flatten := (pl_perm is hn hI).flatten
  exact vx_out (fun x hx => (X.1 x hx).elim) X.2.1 hce hcv hcl (fun t ht hW => ⟨rfl, by rw [ht]; exact va_P_perm hp hP, va_K.moved hW C.2.1, by rw [← hA]; exact va_D_perm hp hD, by rw [← hA]; exact hS.F ht⟩) (fun z hz => hS.2.2 z hz) (Nat.le_refl _) (Nat.le_refl _)
end

abbrev xncs : List (String × String) := [("java/lang/IllegalStateException", "java/lang/IndexOutOfBoundsException"), ("java/lang/IllegalArgumentException", "java/lang/IndexOutOfBoundsException"), ("java/lang/IllegalStateException", "java/lang/IllegalArgumentException")]
def wC (U : State) : Prop := ∀ q ∈ xncs, va_Nc q.1 q.2 U
theorem wC.moved {s U : State} (hvm : s.vm.Alike U.vm) (h : wC s) : wC U := fun q hq => (h q hq).moved hvm
def wPre (D : va_G) (tys : List (ClassId × FieldType)) (w0 : List va_W) (sz : Nat) (U : State) : Prop := mxPre D tys w0 sz U ∧ wC U
theorem wPre_blind {D : va_G} {tys : List (ClassId × FieldType)} {w0 : List va_W} {sz : Nat} {av : List Value} : FrameBlind (va_Pc av (wPre D tys w0 sz)) := fun a U g mk q =>
  have h := mxPre_blind (D := D) (tys := tys) (w0 := w0) (sz := sz) (av := av) a U g mk ⟨q.1, q.2.1⟩
  ⟨h.1, h.2, wC.moved (s := U) (U := U.calling g mk a) (Vm.Alike.refl U.vm) q.2.2⟩
def xF : String → State → State → Prop := fun _ _ _ => False
/-- a contract of a method of the law with handlers: it returns -/
def MW (l : Launch) (y : MethodName) (bytes : ByteArray) (maxL : Nat) (hh : List (Nat × Nat × Nat × Nat)) (fr lo : Nat) (D : va_G) (tys : List (ClassId × FieldType)) (av : List Value) (w0 : List va_W) (post : Int32 → List va_W → Prop) : Prop :=
  l.stackTraces = false → ∀ sz, vx_Met l y (Cond.codeWith y bytes maxL (some .int) hh :: tb) (rmx fr lo) (va_Pc av (wPre D tys w0 sz)) (mQ vI post D tys w0 sz) xF 1 6 (va_A w0.flatten sz)
def Cw (l : Launch) (c : Code) (hh : List (Nat × Nat × Nat × Nat)) (s : State) (A : Nat → Prop) : Prop := c.exceptionTable.toList = tableOf hh ∧ l.stackTraces = false ∧ xZ A s s.heap ∧ xC s ∧ wC s
theorem mw_start {l : Launch} {y : MethodName} {bytes : ByteArray} {maxL : Nat} {hh : List (Nat × Nat × Nat × Nat)} {fr lo : Nat} {D : va_G} {tys : List (ClassId × FieldType)} {av : List Value} {w0 : List va_W} {post : Int32 → List va_W → Prop} (hy : plainName y.cls = true) (hn : (lg_sl av).length ≤ maxL)
    (body : ∀ (p : Program) (e : Env) (s : State) (m : MethodId) (args : Array Value) (below : List Frame) (meth : Method) (c : Code) (A : Nat → Prop) (Q : State → Prop), A = va_A w0.flatten s.heap.size → Q = vx_MQ below (mQ vI post D tys w0 s.heap.size) xF args s 1 6 A → Cx p s m args c bytes maxL y.cls D tys A → meth.sig.returnType = some .int → meth.locks = false → Cw l c hh s A →
      V p l e (rmx fr lo) s m args below meth c maxL D A 0 0 Q w0 (lv_args 0 av) 0 []) : MW l y bytes maxL hh fr lo D tys av w0 post := by
  intro htr sz
  refine vx_ofWH (cc := bytes) (maxL := maxL) (ret := some .int) hy rfl ?_
  intro p e s m args below meth c s₁ B hml hv
  obtain ⟨rfl, ⟨⟨hsz, hP, hK, hD⟩, hZ, hC⟩, hW⟩ := hv
  subst hsz
  have hts := atoms_spec (ws := Cond.codeWith y bytes maxL (some .int) hh :: tb) B.pre
  have ht := vx_table (x := y) B (hts _ List.mem_cons_self)
  have K := body p e s m _ below meth c _ _ rfl rfl ⟨⟨B.exec, B.bytes, hml, findClass_of_methodNamed B.named, fun w h => hts w (List.mem_cons_of_mem _ h)⟩, hK, fun q h => Or.inr h⟩ B.returns B.notSynchronized ⟨ht, htr, hZ, hC, hW⟩
  rw [lg_entry_eq]
  exact K s.heap [] _ hP hD.self va_S.rf (lv_entry av hn)
section
variable {p : Program} {l : Launch} {e : Env} {R : Room} {s : State} {m : MethodId} {args : Array Value} {below : List Frame} {meth : Method} {c : Code} {cc : ByteArray} {nL : Nat} {own : String} {D : va_G} {tys : List (ClassId × FieldType)} {A : Nat → Prop} {cells slots : Nat} {Q : State → Prop} {I I' : List va_W} {L L' : List (Nat × Value)} {pc : Nat} {st : List Value}
theorem r_iretW {post : Int32 → List va_W → Prop} {w0 : List va_W} {mc ms : Nat} (C : Cx p s m args c cc nL own D tys A) (hA : A = va_A w0.flatten s.heap.size) (hr : meth.sig.returnType = some .int) (hlo : meth.locks = false) {r : Int32} (hdg : decode cc pc = .ok (.ireturn, 1)) (w1 : List va_W) (hp : post r w1) (hI : I.flatten = w1.flatten) (hQ : Q = vx_MQ below (mQ vI post D tys w0 s.heap.size) xF args s mc ms A) (hc : cells ≤ mc) (hs : slots ≤ ms) : V p l e R s m args below meth c nL D A cells slots Q I L pc [.int r] := fun H locs ls hP hD hS hl => by
  subst hQ
  refine W.widen hc hs (vx_ret ?_)
  refine W.iret C.1.1 C.1.2.1 hr (fun t ht hW => ⟨⟨r, w1, rfl, hp, by rw [ht, ← hI]; exact hP, va_K.moved hW.alike C.2.1, by rw [← hI, ← hA]; exact hD⟩, ?_⟩) hS.2.2 hdg hlo
  rw [← hA]
  exact hS.F ht
theorem r_catch {E : String} {J : List va_W} (C : Cx p s m args c cc nL own D tys A) (hC : xC s) (hE : E ∈ xexc) {hh : List (Nat × Nat × Nat × Nat)} (ht : c.exceptionTable.toList = tableOf hh) (pre : List ExceptionTableEntry) (x : ExceptionTableEntry) (suf : List ExceptionTableEntry) (hsplit : tableOf hh = pre ++ x :: suf)
    (hpass : ∀ z ∈ pre, covers z pc = false ∨ (z.catchType ≠ 0 ∧ ∃ nm : String, Cond.classLink own z.catchType nm ∈ tb ∧ va_Nc E nm s)) (hx : covers x pc = true) (h0 : x.catchType ≠ 0) (hl : Cond.classLink own x.catchType E ∈ tb)
    (kk : ∀ q : Nat, V p l e R s m args below meth c nL D A cells slots Q J L x.handlerPc [.ref q]) :
    ∀ (H1 : Heap) (locs1 : List Loc) (ls : Array Slot) (ce : Cell) (q : Addr), va_P D vwCl J.flatten H1 → va_D A J.flatten → va_S A s.heap H1 locs1 → lv_has ls nL L → H1[q]? = some ce → ce.vm = .none → s.vm.findClass E = some ce.cls → vx_W p l e R s m args below meth c H1 locs1 cells slots Q (F0 m pc ls st) q := by
  intro H1 locs1 ls ce q hP hD hS hls hce hcv hcl
  exact vx_catch C.1.2.2.2.1 pre x suf (ht.trans hsplit) (fun z hz => (hpass z hz).imp id (fun h => ⟨h.1, by obtain ⟨nm, h1, h2⟩ := h.2; exact ⟨nm, C.1.2.2.2.2 _ h1, h2⟩⟩)) hx h0 (C.1.2.2.2.2 _ hl) (va_Nw.use rfl (hC.2.1 E hE)) hce hcv hcl (kk q H1 locs1 ls hP hD hS hls)
/-- the call of a method of the law with handlers -/
theorem r_callW {post : Int32 → List va_W → Prop} {y : MethodName} {bytes : ByteArray} {maxL : Nat} {hh : List (Nat × Nat × Nat × Nat)} {n index fr lo : Nat} {wc wr : List va_W} {As : List Value} {st0 : List Value} (C : Cx p s m args c cc nL own D tys A) (hlt : l.stackTraces = false) (hZ : xZ A s s.heap) (hC : xC s) (hw : wC s) (hM : MW l y bytes maxL hh fr lo D tys As wc post) (hks : Cond.static y ∈ tb ∧ Cond.initialized y.cls ∈ tb ∧ Cond.codeWith y bytes maxL (some .int) hh ∈ tb ∧ y.cls ≠ "java/lang/invoke/MethodHandle" ∧ y.cls ≠ "java/lang/invoke/VarHandle" ∧ (parseMethodDescriptor y.desc).map (fun d => d.parameters.length) = some n) (hl : Cond.methodLink own index y ∈ tb) (is : List Nat) (hn : is.Perm (List.range I.length)) (hI : is.map (fun i => I[i]?) = (wc ++ wr).map some) (hlen : As.length = n) (hst : st0 = As.reverse ++ st) (hcat : (st.map fun v => v.category).sum ≤ 8) (hR : fr + 1 ≤ R.frames ∧ 8 + (maxL + 11) + lo ≤ R.locals) (hroom : cells + 1 ≤ R.cells ∧ slots + 6 ≤ R.slots) (hdg : decode cc pc = .ok (.invokestatic index, 3))
    (kk : ∀ (r : Int32) (w1 : List va_W), post r w1 → V p l e R s m args below meth c nL D A (cells + 1) (slots + 6) Q (w1 ++ wr) L (pc + 3) (.int r :: st)) : V p l e R s m args below meth c nL D A cells slots Q I L pc st0 := by
  have hp : I.flatten.Perm (wc.flatten ++ wr.flatten) := by rw [← List.flatten_append]; exact (pl_perm is hn hI).flatten
  intro H locs ls hP hD hS hls T hT X
  have hP := va_P_perm hp hP
  have hD := va_D_perm hp hD
  have hPc : va_P D vwCl wc.flatten H := va_P_mem.mpr fun x hx => va_P_mem.mp hP x (List.mem_append_left _ hx)
  have hDm := va_D_mem.mp hD
  have hDc : va_D (fun _ => True) wc.flatten := va_D_mem.mpr ⟨by have := hDm.1; rw [List.map_append, List.nodup_append] at this; exact this.1, fun _ _ => trivial⟩
  have hF := fr_free hD hS C.2.2
  have hZc := (hZ.kept hS.2.1).narrow hF
  obtain ⟨h1, h2, h3, h4⟩ := hks
  have cw : vx_CSW R s args own index y bytes maxL (some .int) hh (Cond.codeWith y bytes maxL (some .int) hh :: tb) (rmx fr lo) 1 6 n := by
    refine vx_cwSW n C.1.2.2.2.2 (tb_goodIn ?_) rfl rfl rfl h4 hR
    intro w hw
    rcases List.mem_append.mp hw with hw | hw
    · rcases List.mem_cons.mp hw with rfl | hw
      · exact hl
      · rcases List.mem_cons.mp hw with rfl | hw
        · exact h1
        · rcases List.mem_cons.mp hw with rfl | hw
          · exact h2
          · cases hw
    · rcases List.mem_cons.mp hw with rfl | hw
      · exact h3
      · exact hw
  have hrun : vx_Run p l e R s m args below meth c H locs cells slots 1 6 (F0 m pc ls st0) st (mQ vI post D tys wc H.size As.toArray) xF (va_A wc.flatten H.size) :=
    vx_runSX (As := As) (rest := st) C.1 (hM hlt H.size) cw ⟨wPre_blind, fun U hU hW => ⟨rfl, ⟨⟨by rw [hU], by rw [hU]; exact hPc, va_K.moved hW.alike C.2.1, hDc⟩, by rw [hU]; exact hZc.moved hW.alike, hC.warm hW⟩, hw.moved hW.alike⟩⟩ rfl hlen hls.1 hst (by show 2 * 0 + _ ≤ 8; omega) hdg hroom
  rcases hrun T hT X with ⟨v, st₀, t, T', L', h0, X', hL, e1, e2, ⟨⟨r, w1, hv, hpo, hP1, hK1, hD1⟩, hz, hk⟩, stp⟩ | ⟨q, st₀, t, T', L', E', ce, h0, X', hL, e1, e2, hx, hrest⟩
  · cases hv
    rw [h0] at hz hk
    rw [← e1] at hP1 hz hk
    obtain ⟨hP2, hD2⟩ := fr_join hP hD hk hF hP1 hD1
    obtain ⟨t2, a1, b1⟩ := kk r w1 hpo T'.heap (locs ++ L') ls (by rw [List.flatten_append]; exact hP2) (by rw [List.flatten_append]; exact hD2)
      ⟨Nat.le_trans hS.1 hz, fun q h1 h2 => by rw [hk q (Nat.lt_of_lt_of_le h1 hS.1) (fun z => h2 (hF q z))]; exact hS.2.1 q h1 h2, fun q hq => by
        rcases List.mem_append.mp hq with h | h
        · exact hS.2.2 q h
        · exact hF _ (hL q h)⟩ hls T' rfl X'
    exact ⟨t2, stp t2 a1, b1⟩
  · exact hx.elim
end

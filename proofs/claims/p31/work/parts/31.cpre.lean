abbrev nests : List Cond := [Cond.methodLinkNest "FoldedLetters$Pile" 17 ⟨"FoldedLetters$Letter", "<init>", "()V"⟩ "FoldedLetters", Cond.methodLinkNest "FoldedLetters$Letter" 11 ⟨"FoldedLetters$Row", "<init>", "()V"⟩ "FoldedLetters", Cond.methodLinkNest "FoldedLetters" 28 ⟨"FoldedLetters$Text", "<init>", "()V"⟩ "FoldedLetters", Cond.methodLinkNest "FoldedLetters$Text" 9 ⟨"FoldedLetters$Row", "<init>", "()V"⟩ "FoldedLetters", Cond.methodLinkNest "FoldedLetters$Text" 18 ⟨"FoldedLetters$Reader", "<init>", "()V"⟩ "FoldedLetters", Cond.methodLinkNest "FoldedLetters" 35 ⟨"FoldedLetters$Unrolled", "<init>", "()V"⟩ "FoldedLetters", Cond.methodLinkNest "FoldedLetters$Unrolled" 9 ⟨"FoldedLetters$Row", "<init>", "()V"⟩ "FoldedLetters", Cond.methodLinkNest "FoldedLetters" 42 ⟨"FoldedLetters$Walk", "<init>", "()V"⟩ "FoldedLetters"]
abbrev rmc (fr lo mc ms : Nat) : Room := { frames := fr, cells := mc, slots := ms, locals := lo }
def nC (U : State) : Prop := (∀ w ∈ nests, va_Nw w U) ∧ va_AO "FoldedLetters$Letter" U ∧ va_AO "FoldedLetters$Pile" U
theorem nC.warm {s U : State} (hW : s.WarmedH U.vm) (h : nC s) : nC U := by
  refine ⟨fun w hw => ?_, h.2.1.moved hW.alike, h.2.2.moved hW.alike⟩
  have h1 := h.1 w hw
  simp only [nests, List.mem_cons, List.not_mem_nil, or_false] at hw
  rcases hw with rfl | rfl | rfl | rfl | rfl | rfl | rfl | rfl <;> exact va_Nw.warmM hW h1
theorem nC.same {s U : State} (hW : U.vm = s.vm) (h : nC s) : nC U := by
  refine ⟨fun w hw => ?_, h.2.1.moved (by rw [hW]; exact Vm.Alike.refl _), h.2.2.moved (by rw [hW]; exact Vm.Alike.refl _)⟩
  have h1 := h.1 w hw
  simp only [nests, List.mem_cons, List.not_mem_nil, or_false] at hw
  rcases hw with rfl | rfl | rfl | rfl | rfl | rfl | rfl | rfl <;> exact va_Nw.same rfl hW.symm h1
def mcPre (D : va_G) (tys : List (ClassId × FieldType)) (w0 : List va_W) (sz : Nat) (U : State) : Prop := mPre D tys w0 sz U ∧ nC U
theorem mcPre_blind {D : va_G} {tys : List (ClassId × FieldType)} {w0 : List va_W} {sz : Nat} {av : List Value} : FrameBlind (va_Pc av (mcPre D tys w0 sz)) := fun a U g mk q => ⟨q.1, ⟨q.2.1.1, q.2.1.2.1, va_K.moved (u := U) (U := U.calling g mk a) (Vm.Alike.refl U.vm) q.2.1.2.2.1, q.2.1.2.2.2⟩, nC.same (s := U) (U := U.calling g mk a) rfl q.2.2⟩
/-- a constructor's contract: it makes at most mc things of ms fields and places -/
def MC (l : Launch) (y : MethodName) (bytes : ByteArray) (maxL : Nat) (fr lo mc ms : Nat) (D : va_G) (tys : List (ClassId × FieldType)) (av : List Value) (w0 : List va_W) (post : Unit → List va_W → Prop) : Prop :=
  ∀ sz, Met l y (Cond.code y bytes maxL none :: tb) (rmc fr lo mc ms) (va_Pc av (mcPre D tys w0 sz)) (mQ vV post D tys w0 sz) mc ms (va_A w0.flatten sz)
theorem mc_start {l : Launch} {y : MethodName} {bytes : ByteArray} {maxL : Nat} {fr lo mc ms : Nat} {D : va_G} {tys : List (ClassId × FieldType)} {av : List Value} {w0 : List va_W} {post : Unit → List va_W → Prop} (hy : plainName y.cls = true) (hyn : y.name = "<init>") (hn : (lg_sl av).length ≤ maxL)
    (body : ∀ (p : Program) (e : Env) (s : State) (m : MethodId) (args : Array Value) (below : List Frame) (meth : Method) (c : Code) (A : Nat → Prop) (Q : State → Prop), A = va_A w0.flatten s.heap.size → Q = MQ below (mQ vV post D tys w0 s.heap.size) args s mc ms A → Cx p s m args c bytes maxL y.cls D tys A → meth.sig.returnType = none → meth.locks = false → meth.name = "<init>" → nC s →
      V p l e (rmc fr lo mc ms) s m args below meth c maxL D A 0 0 Q w0 (lv_args 0 av) 0 []) : MC l y bytes maxL fr lo mc ms D tys av w0 post := by
  intro sz
  refine Met.ofW (cc := bytes) (maxL := maxL) (ret := none) hy rfl ?_
  intro p e s m args below meth c s₁ B hml hv
  obtain ⟨rfl, ⟨hsz, hP, hK, hD⟩, hC⟩ := hv
  subst hsz
  have hts := atoms_spec (ws := Cond.code y bytes maxL none :: tb) B.pre
  have K := body p e s m _ below meth c _ _ rfl rfl ⟨⟨B.exec, B.bytes, hml, findClass_of_methodNamed B.named, fun w h => hts w (List.mem_cons_of_mem _ h)⟩, hK, fun q h => Or.inr h⟩ B.returns B.notSynchronized ((name_of_methodNamed B.named B.method).1.trans hyn) hC
  rw [lg_entry_eq]
  exact K s.heap [] _ hP hD.self va_S.rf (lv_entry av hn)
section
variable {p : Program} {l : Launch} {e : Env} {R : Room} {s : State} {m : MethodId} {args : Array Value} {below : List Frame} {meth : Method} {c : Code} {cc : ByteArray} {nL : Nat} {own : String} {D : va_G} {tys : List (ClassId × FieldType)} {A : Nat → Prop} {cells slots : Nat} {Q : State → Prop} {I I' : List va_W} {L L' : List (Nat × Value)} {pc : Nat} {st : List Value}
theorem r_new (C : Cx p s m args c cc nL own D tys A) {Cn : String} {T : u_T} {N ci index : Nat} (hin0 : ∀ w ∈ u_ws Cn T N, w ∈ tb) (ty0 : Nat → FieldType) (hty : ∀ k, k < N → parseFieldDescriptor (T k).2.2.1 = some (ty0 k)) (hcl : Cond.classLink own index Cn ∈ tb) (hinst : Cond.instantiable Cn N ∈ tb) (hini : Cond.initialized Cn ∈ tb) (hc : vwCl[ci]? = some (Cn, T, N)) {fs : List Value} (hfs : ∀ j, j < N → defaultValue (ty0 j) = vp_V fs j) (hroom : cells + 1 ≤ R.cells ∧ slots + N ≤ R.slots) (hdg : decode cc pc = .ok (.new index, 3))
    (kk : ∀ q : Nat, V p l e R s m args below meth c nL D A (cells + 1) (slots + N) Q (I ++ [[(q, .inr (ci, fs))]]) L (pc + 3) (.ref q :: st)) : V p l e R s m args below meth c nL D A cells slots Q I L pc st := fun H locs ls hP hD hS hl => by
  refine va_new C.1.1 C.1.2.1 C.1.2.2.2.2 hin0 ty0 hty C.1.2.2.2.1 (C.1.2.2.2.2 _ hcl) (C.1.2.2.2.2 _ hinst) (C.1.2.2.2.2 _ hini) C.2.1 hP hD hS C.2.2 hc hfs hroom.1 hroom.2 hdg (fun q H1 hP1 hD1 hS1 => ?_)
  have e : (I ++ [[(q, .inr (ci, fs))]] : List va_W).flatten = I.flatten ++ [(q, .inr (ci, fs))] := by rw [List.flatten_append]; rfl
  exact kk q H1 locs ls (e ▸ hP1) (e ▸ hD1) hS1 hl
theorem r_newI (C : Cx p s m args c cc nL own D tys A) (t0 : Nat) {cI : ClassId} (ht : tys[t0]? = some (cI, .int)) (harr : Cond.arrayClass .int ∈ tb) {n : Int32} (N : Nat) (hn : ¬ n < 0) (hN : n.toNatClampNeg = N) (hb : N * 4 ≤ 536870912) (hroom : cells + 1 ≤ R.cells ∧ slots + N ≤ R.slots) (hdg : decode cc pc = .ok (.newarray .int, 2))
    (kk : ∀ q : Nat, V p l e R s m args below meth c nL D A (cells + 1) (slots + N) Q (I ++ [[(q, .inl (cI, N, .inl (fun _ => 0)))]]) L (pc + 2) (.ref q :: st)) : V p l e R s m args below meth c nL D A cells slots Q I L pc (.int n :: st) := fun H locs ls hP hD hS hl => by
  refine va_newa (atype := .int) (ty := .int) (a0 := (N, .inl (fun _ => 0))) C.1.1 C.1.2.1 (C.1.2.2.2.2 _ harr) rfl C.2.1 hP hD hS C.2.2 (fun cA => by rw [vp_cell_i]; rfl) hn hN hb hroom.1 hroom.2 hdg (fun q cA H1 hK hP1 hD1 hS1 => ?_)
  have h1 : s.vm.findClass ("[" ++ FieldType.int.toString) = some cA := (hK.2 tys.length (cA, .int) (by simp)).2
  have h2 : s.vm.findClass ("[" ++ FieldType.int.toString) = some cI := (C.2.1.2 t0 _ ht).2
  obtain rfl : cA = cI := Option.some.inj (h1.symm.trans h2)
  have e : (I ++ [[(q, .inl (cA, N, .inl (fun _ => 0)))]] : List va_W).flatten = I.flatten ++ [(q, .inl (cA, N, .inl (fun _ => 0)))] := by rw [List.flatten_append]; rfl
  exact kk q H1 locs ls (e ▸ hP1) (e ▸ hD1) hS1 hl
theorem r_newJ (C : Cx p s m args c cc nL own D tys A) (t0 : Nat) {cI : ClassId} (ht : tys[t0]? = some (cI, .long)) (harr : Cond.arrayClass .long ∈ tb) {n : Int32} (N : Nat) (hn : ¬ n < 0) (hN : n.toNatClampNeg = N) (hb : N * 8 ≤ 536870912) (hroom : cells + 1 ≤ R.cells ∧ slots + N ≤ R.slots) (hdg : decode cc pc = .ok (.newarray .long, 2))
    (kk : ∀ q : Nat, V p l e R s m args below meth c nL D A (cells + 1) (slots + N) Q (I ++ [[(q, .inl (cI, N, .inr (.inl (fun _ => 0))))]]) L (pc + 2) (.ref q :: st)) : V p l e R s m args below meth c nL D A cells slots Q I L pc (.int n :: st) := fun H locs ls hP hD hS hl => by
  refine va_newa (atype := .long) (ty := .long) (a0 := (N, .inr (.inl (fun _ => 0)))) C.1.1 C.1.2.1 (C.1.2.2.2.2 _ harr) rfl C.2.1 hP hD hS C.2.2 (fun cA => by rw [vp_cell_l]; rfl) hn hN hb hroom.1 hroom.2 hdg (fun q cA H1 hK hP1 hD1 hS1 => ?_)
  have h1 : s.vm.findClass ("[" ++ FieldType.long.toString) = some cA := (hK.2 tys.length (cA, .long) (by simp)).2
  have h2 : s.vm.findClass ("[" ++ FieldType.long.toString) = some cI := (C.2.1.2 t0 _ ht).2
  obtain rfl : cA = cI := Option.some.inj (h1.symm.trans h2)
  have e : (I ++ [[(q, .inl (cA, N, .inr (.inl (fun _ => 0))))]] : List va_W).flatten = I.flatten ++ [(q, .inl (cA, N, .inr (.inl (fun _ => 0))))] := by rw [List.flatten_append]; rfl
  exact kk q H1 locs ls (e ▸ hP1) (e ▸ hD1) hS1 hl
theorem r_newq (C : Cx p s m args c cc nL own D tys A) (t0 : Nat) {cI : ClassId} {Cn : String} {index : Nat} (ht : tys[t0]? = some (cI, .object Cn)) (hcl : Cond.classLink own index Cn ∈ tb) (hao : va_AO Cn s) {n : Int32} (N : Nat) (hn : ¬ n < 0) (hN : n.toNatClampNeg = N) (hb : N * 4 ≤ 536870912) (hroom : cells + 1 ≤ R.cells ∧ slots + N ≤ R.slots) (hdg : decode cc pc = .ok (.anewarray index, 3))
    (kk : ∀ q : Nat, V p l e R s m args below meth c nL D A (cells + 1) (slots + N) Q (I ++ [[(q, .inl (cI, N, .inr (.inr (.inr (.inr (fun _ => none))))))]]) L (pc + 3) (.ref q :: st)) : V p l e R s m args below meth c nL D A cells slots Q I L pc (.int n :: st) := fun H locs ls hP hD hS hl => by
  refine va_newq (N' := N) C.1.1 C.1.2.1 C.1.2.2.2.1 (C.1.2.2.2.2 _ hcl) hao C.2.1 hP hD hS C.2.2 hn hN hb hroom.1 hroom.2 hdg (fun q cA H1 hK hP1 hD1 hS1 => ?_)
  obtain ⟨_, _, _, _, _, h1⟩ := (hK.2 tys.length (cA, .object Cn) (by simp)).2
  obtain ⟨_, _, _, _, _, h2⟩ := (C.2.1.2 t0 _ ht).2
  obtain rfl : cA = cI := Option.some.inj (h1.symm.trans h2)
  have e : (I ++ [[(q, .inl (cA, N, .inr (.inr (.inr (.inr (fun _ => none))))))]] : List va_W).flatten = I.flatten ++ [(q, .inl (cA, N, .inr (.inr (.inr (.inr (fun _ => none))))))] := by rw [List.flatten_append]; rfl
  exact kk q H1 locs ls (e ▸ hP1) (e ▸ hD1) hS1 hl
theorem r_obj (C : Cx p s m args c cc nL own D tys A) {a idx : Nat} (h1 : Cond.methodLink own idx Lib.objectInit ∈ tb) (h2 : Cond.instanceMethod Lib.objectInit ∈ tb) (h3 : Cond.code Lib.objectInit ⟨#[0xb1]⟩ 1 none ∈ tb) (hR : 1 ≤ R.frames ∧ (st.map fun v => v.category).sum + 12 ≤ R.locals) (hdg : decode cc pc = .ok (.invokespecial idx, 3))
    (kk : V p l e R s m args below meth c nL D A cells slots Q I L (pc + 3) st) : V p l e R s m args below meth c nL D A cells slots Q I L pc (.ref a :: st) := fun H locs ls hP hD hS hl =>
  W.objInit C.1.1 C.1.2.1 C.1.2.2.2.1 (C.1.2.2.2.2 _ h1) (C.1.2.2.2.2 _ h2) (C.1.2.2.2.2 _ h3) rfl (hl.1.trans C.1.2.2.1.symm) rfl hdg hR.1 (by show 2 * 0 + _ + 12 ≤ _; omega) (kk H locs ls hP hD hS hl)
theorem r_runC {post : Unit → List va_W → Prop} {wc wr : List va_W} {mc ms : Nat} {a : Array Value} {st0 : List Value} (C : Cx p s m args c cc nL own D tys A) (hp : I.flatten.Perm (wc.flatten ++ wr.flatten))
    (hr : ∀ (H : Heap) (locs : List Loc) (ls : Array Slot), va_P D vwCl wc.flatten H → va_D (fun _ => True) wc.flatten → lv_has ls nL L → va_Run p l e R s m args below meth c H locs cells slots mc ms (F0 m pc ls st0) st (mQ vV post D tys wc H.size a) (va_A wc.flatten H.size))
    (kk : ∀ (w1 : List va_W), post () w1 → V p l e R s m args below meth c nL D A (cells + mc) (slots + ms) Q (w1 ++ wr) L (pc + 3) st) : V p l e R s m args below meth c nL D A cells slots Q I L pc st0 := by
  intro H locs ls hP hD hS hl T hT X
  have hP := va_P_perm hp hP
  have hD := va_D_perm hp hD
  have hPc : va_P D vwCl wc.flatten H := va_P_mem.mpr fun x hx => va_P_mem.mp hP x (List.mem_append_left _ hx)
  have hDm := va_D_mem.mp hD
  have hDc : va_D (fun _ => True) wc.flatten := va_D_mem.mpr ⟨by have := hDm.1; rw [List.map_append, List.nodup_append] at this; exact this.1, fun _ _ => trivial⟩
  have hF := fr_free hD hS C.2.2
  obtain ⟨v, st₀, t, T', L', h0, X', hL, e1, e2, ⟨⟨r, w1, hv, hpo, hP1, hK1, hD1⟩, hz, hk⟩, stp⟩ := hr H locs ls hPc hDc hl T hT X
  cases hv
  rw [h0] at hz hk
  rw [← e1] at hP1 hz hk
  obtain ⟨hP2, hD2⟩ := fr_join hP hD hk hF hP1 hD1
  obtain ⟨t2, a1, b1⟩ := kk w1 hpo T'.heap (locs ++ L') ls (by rw [List.flatten_append]; exact hP2) (by rw [List.flatten_append]; exact hD2)
    ⟨Nat.le_trans hS.1 hz, fun q h1 h2 => by rw [hk q (Nat.lt_of_lt_of_le h1 hS.1) (fun z => h2 (hF q z))]; exact hS.2.1 q h1 h2, fun q hq => by
      rcases List.mem_append.mp hq with h | h
      · exact hS.2.2 q h
      · exact hF _ (hL q h)⟩ hl T' rfl X'
  exact ⟨t2, stp t2 a1, b1⟩
def kI (y : MethodName) (bytes : ByteArray) (maxL : Nat) (n : Nat) : Prop := Cond.instanceMethod y ∈ tb ∧ Cond.initialized y.cls ∈ tb ∧ Cond.code y bytes maxL none ∈ tb ∧ y.name = "<init>" ∧ y.cls ≠ "java/lang/invoke/MethodHandle" ∧ y.cls ≠ "java/lang/invoke/VarHandle" ∧ (parseMethodDescriptor y.desc).map (fun d => d.parameters.length) = some n
theorem kI_good {y : MethodName} {bytes : ByteArray} {maxL : Nat} {n : Nat} (h : kI y bytes maxL n) : GoodIn tb (Cond.code y bytes maxL none :: tb) := tb_goodIn fun w hw => by
  rcases List.mem_cons.mp hw with rfl | hw
  · exact h.2.2.1
  · exact hw
theorem r_callI {post : Unit → List va_W → Prop} {y : MethodName} {bytes : ByteArray} {maxL : Nat} {n index fr lo mc ms : Nat} {wc wr : List va_W} {b : Nat} {As : List Value} {st0 : List Value} (C : Cx p s m args c cc nL own D tys A) (hn0 : nC s) (hM : MC l y bytes maxL fr lo mc ms D tys (.ref b :: As) wc post) (hk : kI y bytes maxL n) (hl : Cond.methodLink own index y ∈ tb) (is : List Nat) (hn : is.Perm (List.range I.length)) (hI : is.map (fun i => I[i]?) = (wc ++ wr).map some) (hlen : As.length = n) (hst : st0 = As.reverse ++ .ref b :: st) (hcat : (st.map fun v => v.category).sum ≤ 8) (hR : fr + 1 ≤ R.frames ∧ 8 + (maxL + 11) + lo ≤ R.locals) (hroom : cells + mc ≤ R.cells ∧ slots + ms ≤ R.slots) (hdg : decode cc pc = .ok (.invokespecial index, 3))
    (kk : ∀ (w1 : List va_W), post () w1 → V p l e R s m args below meth c nL D A (cells + mc) (slots + ms) Q (w1 ++ wr) L (pc + 3) st) : V p l e R s m args below meth c nL D A cells slots Q I L pc st0 := by
  refine r_runC (wc := wc) (wr := wr) (a := (Value.ref b :: As).toArray) C (by rw [← List.flatten_append]; exact (pl_perm is hn hI).flatten) ?_ kk
  intro H locs ls hPc hDc hls
  have hg := kI_good hk
  obtain ⟨h1, h2, h3, h4, h5⟩ := hk
  exact va_runI (As := As) (rest := st) C.1 (hM H.size) (cwI n C.1.2.2.2.2 hg rfl rfl rfl (C.1.2.2.2.2 _ h2) (C.1.2.2.2.2 _ hl) (C.1.2.2.2.2 _ h1) h4 h5 hR) ⟨mcPre_blind, fun U hU hW => ⟨rfl, ⟨by rw [hU], by rw [hU]; exact hPc, va_K.moved hW.alike C.2.1, hDc⟩, hn0.warm hW⟩⟩ rfl hlen hls.1 hst (by show 2 * 0 + _ ≤ 8; omega) hdg hroom
theorem r_callN {post : Unit → List va_W → Prop} {y : MethodName} {bytes : ByteArray} {maxL : Nat} {n index fr lo mc ms : Nat} {host : String} {wc wr : List va_W} {b : Nat} {As : List Value} {st0 : List Value} (C : Cx p s m args c cc nL own D tys A) (hn0 : nC s) (hM : MC l y bytes maxL fr lo mc ms D tys (.ref b :: As) wc post) (hk : kI y bytes maxL n) (hl : Cond.methodLinkNest own index y host ∈ nests) (is : List Nat) (hn : is.Perm (List.range I.length)) (hI : is.map (fun i => I[i]?) = (wc ++ wr).map some) (hlen : As.length = n) (hst : st0 = As.reverse ++ .ref b :: st) (hcat : (st.map fun v => v.category).sum ≤ 8) (hR : fr + 1 ≤ R.frames ∧ 8 + (maxL + 11) + lo ≤ R.locals) (hroom : cells + mc ≤ R.cells ∧ slots + ms ≤ R.slots) (hdg : decode cc pc = .ok (.invokespecial index, 3))
    (kk : ∀ (w1 : List va_W), post () w1 → V p l e R s m args below meth c nL D A (cells + mc) (slots + ms) Q (w1 ++ wr) L (pc + 3) st) : V p l e R s m args below meth c nL D A cells slots Q I L pc st0 := by
  refine r_runC (wc := wc) (wr := wr) (a := (Value.ref b :: As).toArray) C (by rw [← List.flatten_append]; exact (pl_perm is hn hI).flatten) ?_ kk
  intro H locs ls hPc hDc hls
  have hg := kI_good hk
  obtain ⟨h1, h2, h3, h4, h5⟩ := hk
  exact va_runIN (As := As) (rest := st) C.1 (hM H.size) ⟨va_cnB n C.1.2.2.2.2 hg rfl rfl rfl (hn0.1 _ hl) (C.1.2.2.2.2 _ h2) h5 hR, h4, C.1.2.2.2.2 _ h1⟩ ⟨mcPre_blind, fun U hU hW => ⟨rfl, ⟨by rw [hU], by rw [hU]; exact hPc, va_K.moved hW.alike C.2.1, hDc⟩, hn0.warm hW⟩⟩ rfl hlen hls.1 hst (by show 2 * 0 + _ ≤ 8; omega) hdg hroom
end

section
variable {p : Program} {l : Launch} {e : Env} {R : Room} {s : State} {m : MethodId} {args : Array Value} {below : List Frame} {meth : Method} {c : Code} {cc : ByteArray} {nL : Nat} {own : String} {D : va_G} {tys : List (ClassId × FieldType)} {A : Nat → Prop} {cells slots : Nat} {Q : State → Prop} {I I' : List va_W} {L L' : List (Nat × Value)} {pc : Nat} {st : List Value}
/-- what stays in a method's walk -/
def Cx (p : Program) (s : State) (m : MethodId) (args : Array Value) (c : Code) (cc : ByteArray) (nL : Nat) (own : String) (D : va_G) (tys : List (ClassId × FieldType)) (A : Nat → Prop) : Prop :=
  CallFix p m c cc nL s args tb own ∧ va_K D vwCl tys s ∧ ∀ q, s.heap.size ≤ q → A q
/-- from this place, with these locals and this stack, over any heap that holds these things, the machine comes to Q -/
def V (p : Program) (l : Launch) (e : Env) (R : Room) (s : State) (m : MethodId) (args : Array Value) (below : List Frame) (meth : Method) (c : Code) (nL : Nat) (D : va_G) (A : Nat → Prop) (cells slots : Nat) (Q : State → Prop) (I : List va_W) (L : List (Nat × Value)) (pc : Nat) (st : List Value) : Prop :=
  ∀ (H : Heap) (locs : List Loc) (ls : Array Slot), va_P D vwCl I.flatten H → va_D A I.flatten → va_S A s.heap H locs → lv_has ls nL L → W p l e R s m args below meth c H locs cells slots Q (F0 m pc ls st)
theorem r_iconst (C : Cx p s m args c cc nL own D tys A) {n : Int} {v : Int32} (hdg : decode cc pc = .ok (.iconst n, 1)) (hv : Int32.ofInt n = v) (kk : V p l e R s m args below meth c nL D A cells slots Q I L (pc + 1) (.int v :: st)) : V p l e R s m args below meth c nL D A cells slots Q I L pc st := fun H locs ls hP hD hS hl => lv_iconst C.1.1 C.1.2.1 hdg hv (kk H locs ls hP hD hS hl)
theorem r_bipush (C : Cx p s m args c cc nL own D tys A) {n : Int} {v : Int32} (hdg : decode cc pc = .ok (.bipush n, 2)) (hv : (Int8.ofInt n).toInt32 = v) (kk : V p l e R s m args below meth c nL D A cells slots Q I L (pc + 2) (.int v :: st)) : V p l e R s m args below meth c nL D A cells slots Q I L pc st := fun H locs ls hP hD hS hl => lv_bipush C.1.1 C.1.2.1 hdg hv (kk H locs ls hP hD hS hl)
theorem r_sipush (C : Cx p s m args c cc nL own D tys A) {n : Int} {v : Int32} (hdg : decode cc pc = .ok (.sipush n, 3)) (hv : (Int16.ofInt n).toInt32 = v) (kk : V p l e R s m args below meth c nL D A cells slots Q I L (pc + 3) (.int v :: st)) : V p l e R s m args below meth c nL D A cells slots Q I L pc st := fun H locs ls hP hD hS hl => lv_sipush C.1.1 C.1.2.1 hdg hv (kk H locs ls hP hD hS hl)
theorem r_lconst (C : Cx p s m args c cc nL own D tys A) {n : Fin 2} {v : Int64} (hdg : decode cc pc = .ok (.lconst n, 1)) (hv : Int64.ofNat (n : Nat) = v) (kk : V p l e R s m args below meth c nL D A cells slots Q I L (pc + 1) (.long v :: st)) : V p l e R s m args below meth c nL D A cells slots Q I L pc st := fun H locs ls hP hD hS hl => lv_lconst C.1.1 C.1.2.1 hdg hv (kk H locs ls hP hD hS hl)
theorem r_dconst0 (C : Cx p s m args c cc nL own D tys A) (hdg : decode cc pc = .ok (.dconst 0, 1)) (kk : V p l e R s m args below meth c nL D A cells slots Q I L (pc + 1) (.double FP.dconst0 :: st)) : V p l e R s m args below meth c nL D A cells slots Q I L pc st := fun H locs ls hP hD hS hl => lv_dconst0 C.1.1 C.1.2.1 hdg  (kk H locs ls hP hD hS hl)
theorem r_dconst1 (C : Cx p s m args c cc nL own D tys A) (hdg : decode cc pc = .ok (.dconst 1, 1)) (kk : V p l e R s m args below meth c nL D A cells slots Q I L (pc + 1) (.double FP.dconst1 :: st)) : V p l e R s m args below meth c nL D A cells slots Q I L pc st := fun H locs ls hP hD hS hl => lv_dconst1 C.1.1 C.1.2.1 hdg  (kk H locs ls hP hD hS hl)
theorem r_i2d (C : Cx p s m args c cc nL own D tys A) {x : Int32} (hdg : decode cc pc = .ok (.i2d, 1)) (kk : V p l e R s m args below meth c nL D A cells slots Q I L (pc + 1) (.double (FP.i2d x) :: st)) : V p l e R s m args below meth c nL D A cells slots Q I L pc (.int x :: st) := fun H locs ls hP hD hS hl => lv_i2d C.1.1 C.1.2.1 hdg  (kk H locs ls hP hD hS hl)
theorem r_i2f (C : Cx p s m args c cc nL own D tys A) {x : Int32} (hdg : decode cc pc = .ok (.i2f, 1)) (kk : V p l e R s m args below meth c nL D A cells slots Q I L (pc + 1) (.float (FP.i2f x) :: st)) : V p l e R s m args below meth c nL D A cells slots Q I L pc (.int x :: st) := fun H locs ls hP hD hS hl => lv_i2f C.1.1 C.1.2.1 hdg  (kk H locs ls hP hD hS hl)
theorem r_i2l (C : Cx p s m args c cc nL own D tys A) {x : Int32} {v : Int64} (hdg : decode cc pc = .ok (.i2l, 1)) (hv : x.toInt64 = v) (kk : V p l e R s m args below meth c nL D A cells slots Q I L (pc + 1) (.long v :: st)) : V p l e R s m args below meth c nL D A cells slots Q I L pc (.int x :: st) := fun H locs ls hP hD hS hl => lv_i2l C.1.1 C.1.2.1 hdg hv (kk H locs ls hP hD hS hl)
theorem r_l2i (C : Cx p s m args c cc nL own D tys A) {x : Int64} {v : Int32} (hdg : decode cc pc = .ok (.l2i, 1)) (hv : x.toInt32 = v) (kk : V p l e R s m args below meth c nL D A cells slots Q I L (pc + 1) (.int v :: st)) : V p l e R s m args below meth c nL D A cells slots Q I L pc (.long x :: st) := fun H locs ls hP hD hS hl => lv_l2i C.1.1 C.1.2.1 hdg hv (kk H locs ls hP hD hS hl)
theorem r_d2l (C : Cx p s m args c cc nL own D tys A) {x : UInt64} (hdg : decode cc pc = .ok (.d2l, 1)) (kk : V p l e R s m args below meth c nL D A cells slots Q I L (pc + 1) (.long (FP.d2l x) :: st)) : V p l e R s m args below meth c nL D A cells slots Q I L pc (.double x :: st) := fun H locs ls hP hD hS hl => lv_d2l C.1.1 C.1.2.1 hdg  (kk H locs ls hP hD hS hl)
theorem r_f2d (C : Cx p s m args c cc nL own D tys A) {x : UInt32} (hdg : decode cc pc = .ok (.f2d, 1)) (hne : vf_n64 (FP.f2d x)) (kk : V p l e R s m args below meth c nL D A cells slots Q I L (pc + 1) (.double (FP.f2d x) :: st)) : V p l e R s m args below meth c nL D A cells slots Q I L pc (.float x :: st) := fun H locs ls hP hD hS hl => lv_f2d C.1.1 C.1.2.1 hdg hne (kk H locs ls hP hD hS hl)
theorem r_ddiv (C : Cx p s m args c cc nL own D tys A) {x y : UInt64} (hdg : decode cc pc = .ok (.ddiv, 1)) (hne : vf_n64 (FP.ddiv x y)) (kk : V p l e R s m args below meth c nL D A cells slots Q I L (pc + 1) (.double (FP.ddiv x y) :: st)) : V p l e R s m args below meth c nL D A cells slots Q I L pc (.double y :: .double x :: st) := fun H locs ls hP hD hS hl => lv_ddiv C.1.1 C.1.2.1 hdg hne (kk H locs ls hP hD hS hl)
theorem r_dmul (C : Cx p s m args c cc nL own D tys A) {x y : UInt64} (hdg : decode cc pc = .ok (.dmul, 1)) (hne : vf_n64 (FP.dmul x y)) (kk : V p l e R s m args below meth c nL D A cells slots Q I L (pc + 1) (.double (FP.dmul x y) :: st)) : V p l e R s m args below meth c nL D A cells slots Q I L pc (.double y :: .double x :: st) := fun H locs ls hP hD hS hl => lv_dmul C.1.1 C.1.2.1 hdg hne (kk H locs ls hP hD hS hl)
theorem r_dsub (C : Cx p s m args c cc nL own D tys A) {x y : UInt64} (hdg : decode cc pc = .ok (.dsub, 1)) (hne : vf_n64 (FP.dsub x y)) (kk : V p l e R s m args below meth c nL D A cells slots Q I L (pc + 1) (.double (FP.dsub x y) :: st)) : V p l e R s m args below meth c nL D A cells slots Q I L pc (.double y :: .double x :: st) := fun H locs ls hP hD hS hl => lv_dsub C.1.1 C.1.2.1 hdg hne (kk H locs ls hP hD hS hl)
theorem r_fdiv (C : Cx p s m args c cc nL own D tys A) {x y : UInt32} (hdg : decode cc pc = .ok (.fdiv, 1)) (hne : vf_n32 (FP.fdiv x y)) (kk : V p l e R s m args below meth c nL D A cells slots Q I L (pc + 1) (.float (FP.fdiv x y) :: st)) : V p l e R s m args below meth c nL D A cells slots Q I L pc (.float y :: .float x :: st) := fun H locs ls hP hD hS hl => lv_fdiv C.1.1 C.1.2.1 hdg hne (kk H locs ls hP hD hS hl)
theorem r_dcmp (C : Cx p s m args c cc nL own D tys A) {x y : UInt64} {op : CmpOp} (hdg : decode cc pc = .ok (.dcmp op, 1)) (kk : V p l e R s m args below meth c nL D A cells slots Q I L (pc + 1) (.int (Op.cmpValue (FP.dcmp x y) op) :: st)) : V p l e R s m args below meth c nL D A cells slots Q I L pc (.double y :: .double x :: st) := fun H locs ls hP hD hS hl => lv_dcmp C.1.1 C.1.2.1 hdg  (kk H locs ls hP hD hS hl)
theorem r_dup (C : Cx p s m args c cc nL own D tys A) {va : Value} (hdg : decode cc pc = .ok (.dup, 1)) (hva : va.category = 1) (kk : V p l e R s m args below meth c nL D A cells slots Q I L (pc + 1) (va :: va :: st)) : V p l e R s m args below meth c nL D A cells slots Q I L pc (va :: st) := fun H locs ls hP hD hS hl => lv_dup C.1.1 C.1.2.1 hdg hva (kk H locs ls hP hD hS hl)
theorem r_dup2_11 (C : Cx p s m args c cc nL own D tys A) {va vb : Value} (hdg : decode cc pc = .ok (.dup2, 1)) (hva : va.category = 1) (hvb : vb.category = 1) (kk : V p l e R s m args below meth c nL D A cells slots Q I L (pc + 1) (va :: vb :: va :: vb :: st)) : V p l e R s m args below meth c nL D A cells slots Q I L pc (va :: vb :: st) := fun H locs ls hP hD hS hl => lv_dup2_11 C.1.1 C.1.2.1 hdg hva hvb (kk H locs ls hP hD hS hl)
theorem r_iadd (C : Cx p s m args c cc nL own D tys A) {x y z : Int32} (hdg : decode cc pc = .ok (.iadd, 1)) (hz : x + y = z) (kk : V p l e R s m args below meth c nL D A cells slots Q I L (pc + 1) (.int z :: st)) : V p l e R s m args below meth c nL D A cells slots Q I L pc (.int y :: .int x :: st) := fun H locs ls hP hD hS hl => lv_iadd C.1.1 C.1.2.1 hdg (by rw [hz]; exact kk H locs ls hP hD hS hl)
theorem r_isub (C : Cx p s m args c cc nL own D tys A) {x y z : Int32} (hdg : decode cc pc = .ok (.isub, 1)) (hz : x - y = z) (kk : V p l e R s m args below meth c nL D A cells slots Q I L (pc + 1) (.int z :: st)) : V p l e R s m args below meth c nL D A cells slots Q I L pc (.int y :: .int x :: st) := fun H locs ls hP hD hS hl => lv_isub C.1.1 C.1.2.1 hdg (by rw [hz]; exact kk H locs ls hP hD hS hl)
theorem r_imul (C : Cx p s m args c cc nL own D tys A) {x y z : Int32} (hdg : decode cc pc = .ok (.imul, 1)) (hz : x * y = z) (kk : V p l e R s m args below meth c nL D A cells slots Q I L (pc + 1) (.int z :: st)) : V p l e R s m args below meth c nL D A cells slots Q I L pc (.int y :: .int x :: st) := fun H locs ls hP hD hS hl => lv_imul C.1.1 C.1.2.1 hdg (by rw [hz]; exact kk H locs ls hP hD hS hl)
theorem r_iand (C : Cx p s m args c cc nL own D tys A) {x y z : Int32} (hdg : decode cc pc = .ok (.iand, 1)) (hz : x &&& y = z) (kk : V p l e R s m args below meth c nL D A cells slots Q I L (pc + 1) (.int z :: st)) : V p l e R s m args below meth c nL D A cells slots Q I L pc (.int y :: .int x :: st) := fun H locs ls hP hD hS hl => lv_iand C.1.1 C.1.2.1 hdg (by rw [hz]; exact kk H locs ls hP hD hS hl)
theorem r_ior (C : Cx p s m args c cc nL own D tys A) {x y z : Int32} (hdg : decode cc pc = .ok (.ior, 1)) (hz : x ||| y = z) (kk : V p l e R s m args below meth c nL D A cells slots Q I L (pc + 1) (.int z :: st)) : V p l e R s m args below meth c nL D A cells slots Q I L pc (.int y :: .int x :: st) := fun H locs ls hP hD hS hl => lv_ior C.1.1 C.1.2.1 hdg (by rw [hz]; exact kk H locs ls hP hD hS hl)
theorem r_ixor (C : Cx p s m args c cc nL own D tys A) {x y z : Int32} (hdg : decode cc pc = .ok (.ixor, 1)) (hz : x ^^^ y = z) (kk : V p l e R s m args below meth c nL D A cells slots Q I L (pc + 1) (.int z :: st)) : V p l e R s m args below meth c nL D A cells slots Q I L pc (.int y :: .int x :: st) := fun H locs ls hP hD hS hl => lv_ixor C.1.1 C.1.2.1 hdg (by rw [hz]; exact kk H locs ls hP hD hS hl)
theorem r_ishl (C : Cx p s m args c cc nL own D tys A) {x y z : Int32} (hdg : decode cc pc = .ok (.ishl, 1)) (hz : x <<< (y &&& 31) = z) (kk : V p l e R s m args below meth c nL D A cells slots Q I L (pc + 1) (.int z :: st)) : V p l e R s m args below meth c nL D A cells slots Q I L pc (.int y :: .int x :: st) := fun H locs ls hP hD hS hl => lv_ishl C.1.1 C.1.2.1 hdg (by rw [hz]; exact kk H locs ls hP hD hS hl)
theorem r_ishr (C : Cx p s m args c cc nL own D tys A) {x y z : Int32} (hdg : decode cc pc = .ok (.ishr, 1)) (hz : x >>> (y &&& 31) = z) (kk : V p l e R s m args below meth c nL D A cells slots Q I L (pc + 1) (.int z :: st)) : V p l e R s m args below meth c nL D A cells slots Q I L pc (.int y :: .int x :: st) := fun H locs ls hP hD hS hl => lv_ishr C.1.1 C.1.2.1 hdg (by rw [hz]; exact kk H locs ls hP hD hS hl)
theorem r_idiv (C : Cx p s m args c cc nL own D tys A) {x y z : Int32} (hdg : decode cc pc = .ok (.idiv, 1)) (hne : ¬ y = 0) (hz : x / y = z) (kk : V p l e R s m args below meth c nL D A cells slots Q I L (pc + 1) (.int z :: st)) : V p l e R s m args below meth c nL D A cells slots Q I L pc (.int y :: .int x :: st) := fun H locs ls hP hD hS hl => lv_idiv C.1.1 C.1.2.1 hdg hne (by rw [hz]; exact kk H locs ls hP hD hS hl)
theorem r_irem (C : Cx p s m args c cc nL own D tys A) {x y z : Int32} (hdg : decode cc pc = .ok (.irem, 1)) (hne : ¬ y = 0) (hz : x - x / y * y = z) (kk : V p l e R s m args below meth c nL D A cells slots Q I L (pc + 1) (.int z :: st)) : V p l e R s m args below meth c nL D A cells slots Q I L pc (.int y :: .int x :: st) := fun H locs ls hP hD hS hl => lv_irem C.1.1 C.1.2.1 hdg hne (by rw [hz]; exact kk H locs ls hP hD hS hl)
theorem r_ineg (C : Cx p s m args c cc nL own D tys A) {x z : Int32} (hdg : decode cc pc = .ok (.ineg, 1)) (hz : -x = z) (kk : V p l e R s m args below meth c nL D A cells slots Q I L (pc + 1) (.int z :: st)) : V p l e R s m args below meth c nL D A cells slots Q I L pc (.int x :: st) := fun H locs ls hP hD hS hl => lv_ineg C.1.1 C.1.2.1 hdg (by rw [hz]; exact kk H locs ls hP hD hS hl)
theorem r_ladd (C : Cx p s m args c cc nL own D tys A) {x y z : Int64} (hdg : decode cc pc = .ok (.ladd, 1)) (hz : x + y = z) (kk : V p l e R s m args below meth c nL D A cells slots Q I L (pc + 1) (.long z :: st)) : V p l e R s m args below meth c nL D A cells slots Q I L pc (.long y :: .long x :: st) := fun H locs ls hP hD hS hl => lv_ladd C.1.1 C.1.2.1 hdg (by rw [hz]; exact kk H locs ls hP hD hS hl)
theorem r_lsub (C : Cx p s m args c cc nL own D tys A) {x y z : Int64} (hdg : decode cc pc = .ok (.lsub, 1)) (hz : x - y = z) (kk : V p l e R s m args below meth c nL D A cells slots Q I L (pc + 1) (.long z :: st)) : V p l e R s m args below meth c nL D A cells slots Q I L pc (.long y :: .long x :: st) := fun H locs ls hP hD hS hl => lv_lsub C.1.1 C.1.2.1 hdg (by rw [hz]; exact kk H locs ls hP hD hS hl)
theorem r_lmul (C : Cx p s m args c cc nL own D tys A) {x y z : Int64} (hdg : decode cc pc = .ok (.lmul, 1)) (hz : x * y = z) (kk : V p l e R s m args below meth c nL D A cells slots Q I L (pc + 1) (.long z :: st)) : V p l e R s m args below meth c nL D A cells slots Q I L pc (.long y :: .long x :: st) := fun H locs ls hP hD hS hl => lv_lmul C.1.1 C.1.2.1 hdg (by rw [hz]; exact kk H locs ls hP hD hS hl)
theorem r_land (C : Cx p s m args c cc nL own D tys A) {x y z : Int64} (hdg : decode cc pc = .ok (.land, 1)) (hz : x &&& y = z) (kk : V p l e R s m args below meth c nL D A cells slots Q I L (pc + 1) (.long z :: st)) : V p l e R s m args below meth c nL D A cells slots Q I L pc (.long y :: .long x :: st) := fun H locs ls hP hD hS hl => lv_land C.1.1 C.1.2.1 hdg (by rw [hz]; exact kk H locs ls hP hD hS hl)
theorem r_lor (C : Cx p s m args c cc nL own D tys A) {x y z : Int64} (hdg : decode cc pc = .ok (.lor, 1)) (hz : x ||| y = z) (kk : V p l e R s m args below meth c nL D A cells slots Q I L (pc + 1) (.long z :: st)) : V p l e R s m args below meth c nL D A cells slots Q I L pc (.long y :: .long x :: st) := fun H locs ls hP hD hS hl => lv_lor C.1.1 C.1.2.1 hdg (by rw [hz]; exact kk H locs ls hP hD hS hl)
theorem r_lshl (C : Cx p s m args c cc nL own D tys A) {x z : Int64} {y : Int32} (hdg : decode cc pc = .ok (.lshl, 1)) (hz : x <<< (y.toInt64 &&& 63) = z) (kk : V p l e R s m args below meth c nL D A cells slots Q I L (pc + 1) (.long z :: st)) : V p l e R s m args below meth c nL D A cells slots Q I L pc (.int y :: .long x :: st) := fun H locs ls hP hD hS hl => lv_lshl C.1.1 C.1.2.1 hdg hz (kk H locs ls hP hD hS hl)
theorem r_lshr (C : Cx p s m args c cc nL own D tys A) {x z : Int64} {y : Int32} (hdg : decode cc pc = .ok (.lshr, 1)) (hz : x >>> (y.toInt64 &&& 63) = z) (kk : V p l e R s m args below meth c nL D A cells slots Q I L (pc + 1) (.long z :: st)) : V p l e R s m args below meth c nL D A cells slots Q I L pc (.int y :: .long x :: st) := fun H locs ls hP hD hS hl => lv_lshr C.1.1 C.1.2.1 hdg hz (kk H locs ls hP hD hS hl)
theorem r_lcmp (C : Cx p s m args c cc nL own D tys A) {x y : Int64} (hdg : decode cc pc = .ok (.lcmp, 1)) (kk : V p l e R s m args below meth c nL D A cells slots Q I L (pc + 1) (.int (lg_cmp x y) :: st)) : V p l e R s m args below meth c nL D A cells slots Q I L pc (.long y :: .long x :: st) := fun H locs ls hP hD hS hl => W.lcmp C.1.1 C.1.2.1 hdg (kk H locs ls hP hD hS hl)
theorem r_top {x : Int32} (kk : ∀ y : Int32, y = x → V p l e R s m args below meth c nL D A cells slots Q I L pc (.int y :: st)) : V p l e R s m args below meth c nL D A cells slots Q I L pc (.int x :: st) := kk x rfl
theorem r_eqi {x y : Int32} (h : x = y) (kk : V p l e R s m args below meth c nL D A cells slots Q I L pc (.int y :: st)) : V p l e R s m args below meth c nL D A cells slots Q I L pc (.int x :: st) := by rw [h]; exact kk
theorem r_iload_n (C : Cx p s m args c cc nL own D tys A) {k : Fin 4} {x : Int32} (hdg : decode cc pc = .ok (.iload_n k, 1)) (j : Nat) (hj : L[j]? = some ((k : Nat), .int x)) (kk : V p l e R s m args below meth c nL D A cells slots Q I L (pc + 1) (.int x :: st)) : V p l e R s m args below meth c nL D A cells slots Q I L pc st := fun H locs ls hP hD hS hl => lv_iload_n C.1.1 C.1.2.1 hdg rfl (lv_at hl j hj) (kk H locs ls hP hD hS hl)
theorem r_iload (C : Cx p s m args c cc nL own D tys A) {i : Nat} {x : Int32} (hdg : decode cc pc = .ok (.iload i, 2)) (j : Nat) (hj : L[j]? = some (i, .int x)) (kk : V p l e R s m args below meth c nL D A cells slots Q I L (pc + 2) (.int x :: st)) : V p l e R s m args below meth c nL D A cells slots Q I L pc st := fun H locs ls hP hD hS hl => lv_iload C.1.1 C.1.2.1 hdg (lv_at hl j hj) (kk H locs ls hP hD hS hl)
theorem r_istore_n (C : Cx p s m args c cc nL own D tys A) {k : Fin 4} {x : Int32} (hdg : decode cc pc = .ok (.istore_n k, 1)) (hn : (k : Nat) < nL) (hL : ((k : Nat), Value.int x) :: L.filter (fun q => !(q.1 == (k : Nat)) && !(q.1 + 1 == (k : Nat) && q.2.category == 2)) = L') (kk : V p l e R s m args below meth c nL D A cells slots Q I L' (pc + 1) st) : V p l e R s m args below meth c nL D A cells slots Q I L pc (.int x :: st) := fun H locs ls hP hD hS hl => lv_istore_n C.1.1 C.1.2.1 hdg rfl hl hn hL (fun ls' hl' => kk H locs ls' hP hD hS hl')
theorem r_istore (C : Cx p s m args c cc nL own D tys A) {i : Nat} {x : Int32} (hdg : decode cc pc = .ok (.istore i, 2)) (hn : i < nL) (hL : (i, Value.int x) :: L.filter (fun q => !(q.1 == i) && !(q.1 + 1 == i && q.2.category == 2)) = L') (kk : V p l e R s m args below meth c nL D A cells slots Q I L' (pc + 2) st) : V p l e R s m args below meth c nL D A cells slots Q I L pc (.int x :: st) := fun H locs ls hP hD hS hl => lv_istore C.1.1 C.1.2.1 hdg hl hn hL (fun ls' hl' => kk H locs ls' hP hD hS hl')
theorem r_lload_n (C : Cx p s m args c cc nL own D tys A) {k : Fin 4} {x : Int64} (hdg : decode cc pc = .ok (.lload_n k, 1)) (j : Nat) (hj : L[j]? = some ((k : Nat), .long x)) (kk : V p l e R s m args below meth c nL D A cells slots Q I L (pc + 1) (.long x :: st)) : V p l e R s m args below meth c nL D A cells slots Q I L pc st := fun H locs ls hP hD hS hl => lv_lload_n C.1.1 C.1.2.1 hdg rfl (lv_at hl j hj) (kk H locs ls hP hD hS hl)
theorem r_lload (C : Cx p s m args c cc nL own D tys A) {i : Nat} {x : Int64} (hdg : decode cc pc = .ok (.lload i, 2)) (j : Nat) (hj : L[j]? = some (i, .long x)) (kk : V p l e R s m args below meth c nL D A cells slots Q I L (pc + 2) (.long x :: st)) : V p l e R s m args below meth c nL D A cells slots Q I L pc st := fun H locs ls hP hD hS hl => lv_lload C.1.1 C.1.2.1 hdg (lv_at hl j hj) (kk H locs ls hP hD hS hl)
theorem r_lstore_n (C : Cx p s m args c cc nL own D tys A) {k : Fin 4} {x : Int64} (hdg : decode cc pc = .ok (.lstore_n k, 1)) (hn : (k : Nat) + 1 < nL) (hL : ((k : Nat), Value.long x) :: L.filter (fun q => !(q.1 == (k : Nat)) && (!(q.1 == (k : Nat) + 1) && !(q.1 + 1 == (k : Nat) && q.2.category == 2))) = L') (kk : V p l e R s m args below meth c nL D A cells slots Q I L' (pc + 1) st) : V p l e R s m args below meth c nL D A cells slots Q I L pc (.long x :: st) := fun H locs ls hP hD hS hl => lv_lstore_n C.1.1 C.1.2.1 hdg rfl hl hn hL (fun ls' hl' => kk H locs ls' hP hD hS hl')
theorem r_lstore (C : Cx p s m args c cc nL own D tys A) {i : Nat} {x : Int64} (hdg : decode cc pc = .ok (.lstore i, 2)) (hn : i + 1 < nL) (hL : (i, Value.long x) :: L.filter (fun q => !(q.1 == i) && (!(q.1 == i + 1) && !(q.1 + 1 == i && q.2.category == 2))) = L') (kk : V p l e R s m args below meth c nL D A cells slots Q I L' (pc + 2) st) : V p l e R s m args below meth c nL D A cells slots Q I L pc (.long x :: st) := fun H locs ls hP hD hS hl => lv_lstore C.1.1 C.1.2.1 hdg hl hn hL (fun ls' hl' => kk H locs ls' hP hD hS hl')
theorem r_dload_n (C : Cx p s m args c cc nL own D tys A) {k : Fin 4} {x : UInt64} (hdg : decode cc pc = .ok (.dload_n k, 1)) (j : Nat) (hj : L[j]? = some ((k : Nat), .double x)) (kk : V p l e R s m args below meth c nL D A cells slots Q I L (pc + 1) (.double x :: st)) : V p l e R s m args below meth c nL D A cells slots Q I L pc st := fun H locs ls hP hD hS hl => lv_dload_n C.1.1 C.1.2.1 hdg rfl (lv_at hl j hj) (kk H locs ls hP hD hS hl)
theorem r_dload (C : Cx p s m args c cc nL own D tys A) {i : Nat} {x : UInt64} (hdg : decode cc pc = .ok (.dload i, 2)) (j : Nat) (hj : L[j]? = some (i, .double x)) (kk : V p l e R s m args below meth c nL D A cells slots Q I L (pc + 2) (.double x :: st)) : V p l e R s m args below meth c nL D A cells slots Q I L pc st := fun H locs ls hP hD hS hl => lv_dload C.1.1 C.1.2.1 hdg (lv_at hl j hj) (kk H locs ls hP hD hS hl)
theorem r_dstore_n (C : Cx p s m args c cc nL own D tys A) {k : Fin 4} {x : UInt64} (hdg : decode cc pc = .ok (.dstore_n k, 1)) (hn : (k : Nat) + 1 < nL) (hL : ((k : Nat), Value.double x) :: L.filter (fun q => !(q.1 == (k : Nat)) && (!(q.1 == (k : Nat) + 1) && !(q.1 + 1 == (k : Nat) && q.2.category == 2))) = L') (kk : V p l e R s m args below meth c nL D A cells slots Q I L' (pc + 1) st) : V p l e R s m args below meth c nL D A cells slots Q I L pc (.double x :: st) := fun H locs ls hP hD hS hl => lv_dstore_n C.1.1 C.1.2.1 hdg rfl hl hn hL (fun ls' hl' => kk H locs ls' hP hD hS hl')
theorem r_dstore (C : Cx p s m args c cc nL own D tys A) {i : Nat} {x : UInt64} (hdg : decode cc pc = .ok (.dstore i, 2)) (hn : i + 1 < nL) (hL : (i, Value.double x) :: L.filter (fun q => !(q.1 == i) && (!(q.1 == i + 1) && !(q.1 + 1 == i && q.2.category == 2))) = L') (kk : V p l e R s m args below meth c nL D A cells slots Q I L' (pc + 2) st) : V p l e R s m args below meth c nL D A cells slots Q I L pc (.double x :: st) := fun H locs ls hP hD hS hl => lv_dstore C.1.1 C.1.2.1 hdg hl hn hL (fun ls' hl' => kk H locs ls' hP hD hS hl')
theorem r_aload_n (C : Cx p s m args c cc nL own D tys A) {k : Fin 4} {x : Nat} (hdg : decode cc pc = .ok (.aload_n k, 1)) (j : Nat) (hj : L[j]? = some ((k : Nat), .ref x)) (kk : V p l e R s m args below meth c nL D A cells slots Q I L (pc + 1) (.ref x :: st)) : V p l e R s m args below meth c nL D A cells slots Q I L pc st := fun H locs ls hP hD hS hl => lv_aload_n C.1.1 C.1.2.1 hdg rfl (lv_at hl j hj) (kk H locs ls hP hD hS hl)
theorem r_aload (C : Cx p s m args c cc nL own D tys A) {i : Nat} {x : Nat} (hdg : decode cc pc = .ok (.aload i, 2)) (j : Nat) (hj : L[j]? = some (i, .ref x)) (kk : V p l e R s m args below meth c nL D A cells slots Q I L (pc + 2) (.ref x :: st)) : V p l e R s m args below meth c nL D A cells slots Q I L pc st := fun H locs ls hP hD hS hl => lv_aload C.1.1 C.1.2.1 hdg (lv_at hl j hj) (kk H locs ls hP hD hS hl)
theorem r_astore_n (C : Cx p s m args c cc nL own D tys A) {k : Fin 4} {x : Nat} (hdg : decode cc pc = .ok (.astore_n k, 1)) (hn : (k : Nat) < nL) (hL : ((k : Nat), Value.ref x) :: L.filter (fun q => !(q.1 == (k : Nat)) && !(q.1 + 1 == (k : Nat) && q.2.category == 2)) = L') (kk : V p l e R s m args below meth c nL D A cells slots Q I L' (pc + 1) st) : V p l e R s m args below meth c nL D A cells slots Q I L pc (.ref x :: st) := fun H locs ls hP hD hS hl => lv_astore_n C.1.1 C.1.2.1 hdg rfl hl hn hL (fun ls' hl' => kk H locs ls' hP hD hS hl')
theorem r_astore (C : Cx p s m args c cc nL own D tys A) {i : Nat} {x : Nat} (hdg : decode cc pc = .ok (.astore i, 2)) (hn : i < nL) (hL : (i, Value.ref x) :: L.filter (fun q => !(q.1 == i) && !(q.1 + 1 == i && q.2.category == 2)) = L') (kk : V p l e R s m args below meth c nL D A cells slots Q I L' (pc + 2) st) : V p l e R s m args below meth c nL D A cells slots Q I L pc (.ref x :: st) := fun H locs ls hP hD hS hl => lv_astore C.1.1 C.1.2.1 hdg hl hn hL (fun ls' hl' => kk H locs ls' hP hD hS hl')
theorem r_fload_n (C : Cx p s m args c cc nL own D tys A) {k : Fin 4} {x : UInt32} (hdg : decode cc pc = .ok (.fload_n k, 1)) (j : Nat) (hj : L[j]? = some ((k : Nat), .float x)) (kk : V p l e R s m args below meth c nL D A cells slots Q I L (pc + 1) (.float x :: st)) : V p l e R s m args below meth c nL D A cells slots Q I L pc st := fun H locs ls hP hD hS hl => lv_fload_n C.1.1 C.1.2.1 hdg rfl (lv_at hl j hj) (kk H locs ls hP hD hS hl)
theorem r_iinc (C : Cx p s m args c cc nL own D tys A) {i : Nat} {n : Int} {x v : Int32} (hdg : decode cc pc = .ok (.iinc i n, 3)) (j : Nat) (hj : L[j]? = some (i, .int x)) (hv : x + Int32.ofInt n = v) (hn : i < nL) (hL : (i, Value.int v) :: L.filter (fun q => !(q.1 == i) && !(q.1 + 1 == i && q.2.category == 2)) = L') (kk : V p l e R s m args below meth c nL D A cells slots Q I L' (pc + 3) st) : V p l e R s m args below meth c nL D A cells slots Q I L pc st := fun H locs ls hP hD hS hl => lv_iinc C.1.1 C.1.2.1 hdg hl hj hv hn hL (fun ls' hl' => kk H locs ls' hP hD hS hl')
theorem r_goto (C : Cx p s m args c cc nL own D tys A) {off : Int} {tgt : Nat} (hdg : decode cc pc = .ok (.goto off, 3)) (ht : (pc : Int) + off = (tgt : Int)) (kk : V p l e R s m args below meth c nL D A cells slots Q I L tgt st) : V p l e R s m args below meth c nL D A cells slots Q I L pc st := fun H locs ls hP hD hS hl => lv_goto C.1.1 C.1.2.1 hdg ht (kk H locs ls hP hD hS hl)
theorem r_if_eq (C : Cx p s m args c cc nL own D tys A) {x : Int32} {off : Int} {tgt : Nat} (hdg : decode cc pc = .ok (.ifCond .eq off, 3)) (ht : (pc : Int) + off = (tgt : Int)) (kt : x = 0 → V p l e R s m args below meth c nL D A cells slots Q I L tgt st) (kf : ¬ x = 0 → V p l e R s m args below meth c nL D A cells slots Q I L (pc + 3) st) : V p l e R s m args below meth c nL D A cells slots Q I L pc (.int x :: st) := fun H locs ls hP hD hS hl => lv_if_eq C.1.1 C.1.2.1 hdg ht (fun h => kt h H locs ls hP hD hS hl) (fun h => kf h H locs ls hP hD hS hl)
theorem r_icmp_eq (C : Cx p s m args c cc nL own D tys A) {x y : Int32} {off : Int} {tgt : Nat} (hdg : decode cc pc = .ok (.if_icmp .eq off, 3)) (ht : (pc : Int) + off = (tgt : Int)) (kt : x = y → V p l e R s m args below meth c nL D A cells slots Q I L tgt st) (kf : ¬ x = y → V p l e R s m args below meth c nL D A cells slots Q I L (pc + 3) st) : V p l e R s m args below meth c nL D A cells slots Q I L pc (.int y :: .int x :: st) := fun H locs ls hP hD hS hl => lv_icmp_eq C.1.1 C.1.2.1 hdg ht (fun h => kt h H locs ls hP hD hS hl) (fun h => kf h H locs ls hP hD hS hl)
theorem r_if_ne (C : Cx p s m args c cc nL own D tys A) {x : Int32} {off : Int} {tgt : Nat} (hdg : decode cc pc = .ok (.ifCond .ne off, 3)) (ht : (pc : Int) + off = (tgt : Int)) (kt : ¬ x = 0 → V p l e R s m args below meth c nL D A cells slots Q I L tgt st) (kf : x = 0 → V p l e R s m args below meth c nL D A cells slots Q I L (pc + 3) st) : V p l e R s m args below meth c nL D A cells slots Q I L pc (.int x :: st) := fun H locs ls hP hD hS hl => lv_if_ne C.1.1 C.1.2.1 hdg ht (fun h => kt h H locs ls hP hD hS hl) (fun h => kf h H locs ls hP hD hS hl)
theorem r_icmp_ne (C : Cx p s m args c cc nL own D tys A) {x y : Int32} {off : Int} {tgt : Nat} (hdg : decode cc pc = .ok (.if_icmp .ne off, 3)) (ht : (pc : Int) + off = (tgt : Int)) (kt : ¬ x = y → V p l e R s m args below meth c nL D A cells slots Q I L tgt st) (kf : x = y → V p l e R s m args below meth c nL D A cells slots Q I L (pc + 3) st) : V p l e R s m args below meth c nL D A cells slots Q I L pc (.int y :: .int x :: st) := fun H locs ls hP hD hS hl => lv_icmp_ne C.1.1 C.1.2.1 hdg ht (fun h => kt h H locs ls hP hD hS hl) (fun h => kf h H locs ls hP hD hS hl)
theorem r_if_lt (C : Cx p s m args c cc nL own D tys A) {x : Int32} {off : Int} {tgt : Nat} (hdg : decode cc pc = .ok (.ifCond .lt off, 3)) (ht : (pc : Int) + off = (tgt : Int)) (kt : x < 0 → V p l e R s m args below meth c nL D A cells slots Q I L tgt st) (kf : ¬ x < 0 → V p l e R s m args below meth c nL D A cells slots Q I L (pc + 3) st) : V p l e R s m args below meth c nL D A cells slots Q I L pc (.int x :: st) := fun H locs ls hP hD hS hl => lv_if_lt C.1.1 C.1.2.1 hdg ht (fun h => kt h H locs ls hP hD hS hl) (fun h => kf h H locs ls hP hD hS hl)
theorem r_icmp_lt (C : Cx p s m args c cc nL own D tys A) {x y : Int32} {off : Int} {tgt : Nat} (hdg : decode cc pc = .ok (.if_icmp .lt off, 3)) (ht : (pc : Int) + off = (tgt : Int)) (kt : x < y → V p l e R s m args below meth c nL D A cells slots Q I L tgt st) (kf : ¬ x < y → V p l e R s m args below meth c nL D A cells slots Q I L (pc + 3) st) : V p l e R s m args below meth c nL D A cells slots Q I L pc (.int y :: .int x :: st) := fun H locs ls hP hD hS hl => lv_icmp_lt C.1.1 C.1.2.1 hdg ht (fun h => kt h H locs ls hP hD hS hl) (fun h => kf h H locs ls hP hD hS hl)
theorem r_if_ge (C : Cx p s m args c cc nL own D tys A) {x : Int32} {off : Int} {tgt : Nat} (hdg : decode cc pc = .ok (.ifCond .ge off, 3)) (ht : (pc : Int) + off = (tgt : Int)) (kt : 0 ≤ x → V p l e R s m args below meth c nL D A cells slots Q I L tgt st) (kf : ¬ 0 ≤ x → V p l e R s m args below meth c nL D A cells slots Q I L (pc + 3) st) : V p l e R s m args below meth c nL D A cells slots Q I L pc (.int x :: st) := fun H locs ls hP hD hS hl => lv_if_ge C.1.1 C.1.2.1 hdg ht (fun h => kt h H locs ls hP hD hS hl) (fun h => kf h H locs ls hP hD hS hl)
theorem r_icmp_ge (C : Cx p s m args c cc nL own D tys A) {x y : Int32} {off : Int} {tgt : Nat} (hdg : decode cc pc = .ok (.if_icmp .ge off, 3)) (ht : (pc : Int) + off = (tgt : Int)) (kt : y ≤ x → V p l e R s m args below meth c nL D A cells slots Q I L tgt st) (kf : ¬ y ≤ x → V p l e R s m args below meth c nL D A cells slots Q I L (pc + 3) st) : V p l e R s m args below meth c nL D A cells slots Q I L pc (.int y :: .int x :: st) := fun H locs ls hP hD hS hl => lv_icmp_ge C.1.1 C.1.2.1 hdg ht (fun h => kt h H locs ls hP hD hS hl) (fun h => kf h H locs ls hP hD hS hl)
theorem r_if_gt (C : Cx p s m args c cc nL own D tys A) {x : Int32} {off : Int} {tgt : Nat} (hdg : decode cc pc = .ok (.ifCond .gt off, 3)) (ht : (pc : Int) + off = (tgt : Int)) (kt : 0 < x → V p l e R s m args below meth c nL D A cells slots Q I L tgt st) (kf : ¬ 0 < x → V p l e R s m args below meth c nL D A cells slots Q I L (pc + 3) st) : V p l e R s m args below meth c nL D A cells slots Q I L pc (.int x :: st) := fun H locs ls hP hD hS hl => lv_if_gt C.1.1 C.1.2.1 hdg ht (fun h => kt h H locs ls hP hD hS hl) (fun h => kf h H locs ls hP hD hS hl)
theorem r_icmp_gt (C : Cx p s m args c cc nL own D tys A) {x y : Int32} {off : Int} {tgt : Nat} (hdg : decode cc pc = .ok (.if_icmp .gt off, 3)) (ht : (pc : Int) + off = (tgt : Int)) (kt : y < x → V p l e R s m args below meth c nL D A cells slots Q I L tgt st) (kf : ¬ y < x → V p l e R s m args below meth c nL D A cells slots Q I L (pc + 3) st) : V p l e R s m args below meth c nL D A cells slots Q I L pc (.int y :: .int x :: st) := fun H locs ls hP hD hS hl => lv_icmp_gt C.1.1 C.1.2.1 hdg ht (fun h => kt h H locs ls hP hD hS hl) (fun h => kf h H locs ls hP hD hS hl)
theorem r_if_le (C : Cx p s m args c cc nL own D tys A) {x : Int32} {off : Int} {tgt : Nat} (hdg : decode cc pc = .ok (.ifCond .le off, 3)) (ht : (pc : Int) + off = (tgt : Int)) (kt : x ≤ 0 → V p l e R s m args below meth c nL D A cells slots Q I L tgt st) (kf : ¬ x ≤ 0 → V p l e R s m args below meth c nL D A cells slots Q I L (pc + 3) st) : V p l e R s m args below meth c nL D A cells slots Q I L pc (.int x :: st) := fun H locs ls hP hD hS hl => lv_if_le C.1.1 C.1.2.1 hdg ht (fun h => kt h H locs ls hP hD hS hl) (fun h => kf h H locs ls hP hD hS hl)
theorem r_icmp_le (C : Cx p s m args c cc nL own D tys A) {x y : Int32} {off : Int} {tgt : Nat} (hdg : decode cc pc = .ok (.if_icmp .le off, 3)) (ht : (pc : Int) + off = (tgt : Int)) (kt : x ≤ y → V p l e R s m args below meth c nL D A cells slots Q I L tgt st) (kf : ¬ x ≤ y → V p l e R s m args below meth c nL D A cells slots Q I L (pc + 3) st) : V p l e R s m args below meth c nL D A cells slots Q I L pc (.int y :: .int x :: st) := fun H locs ls hP hD hS hl => lv_icmp_le C.1.1 C.1.2.1 hdg ht (fun h => kt h H locs ls hP hD hS hl) (fun h => kf h H locs ls hP hD hS hl)
theorem r_ldcf (C : Cx p s m args c cc nL own D tys A) {index : Nat} {v : UInt32} (hc : Cond.constantFloat own index v ∈ tb) (hdg : decode cc pc = .ok (.ldc index, 2)) (kk : V p l e R s m args below meth c nL D A cells slots Q I L (pc + 2) (.float v :: st)) : V p l e R s m args below meth c nL D A cells slots Q I L pc st := fun H locs ls hP hD hS hl => lv_ldcf C.1.1 C.1.2.1 C.1.2.2.2.1 (C.1.2.2.2.2 _ hc) hdg (kk H locs ls hP hD hS hl)
theorem r_ldc2d (C : Cx p s m args c cc nL own D tys A) {index : Nat} {v : UInt64} (hc : Cond.constantDouble own index v ∈ tb) (hdg : decode cc pc = .ok (.ldc2_w index, 3)) (kk : V p l e R s m args below meth c nL D A cells slots Q I L (pc + 3) (.double v :: st)) : V p l e R s m args below meth c nL D A cells slots Q I L pc st := fun H locs ls hP hD hS hl => lv_ldc2d C.1.1 C.1.2.1 C.1.2.2.2.1 (C.1.2.2.2.2 _ hc) hdg (kk H locs ls hP hD hS hl)
theorem r_ldc2 (C : Cx p s m args c cc nL own D tys A) {index : Nat} {v : Int64} (hc : Cond.constantLong own index v ∈ tb) (hdg : decode cc pc = .ok (.ldc2_w index, 3)) (kk : V p l e R s m args below meth c nL D A cells slots Q I L (pc + 3) (.long v :: st)) : V p l e R s m args below meth c nL D A cells slots Q I L pc st := fun H locs ls hP hD hS hl => lv_ldc2 C.1.1 C.1.2.1 C.1.2.2.2.1 (C.1.2.2.2.2 _ hc) hdg (kk H locs ls hP hD hS hl)
theorem r_ldc (C : Cx p s m args c cc nL own D tys A) {index : Nat} {v : Int32} (hc : Cond.constant own index v ∈ tb) (hdg : decode cc pc = .ok (.ldc index, 2)) (kk : V p l e R s m args below meth c nL D A cells slots Q I L (pc + 2) (.int v :: st)) : V p l e R s m args below meth c nL D A cells slots Q I L pc st := fun H locs ls hP hD hS hl => lv_ldc C.1.1 C.1.2.1 C.1.2.2.2.1 (C.1.2.2.2.2 _ hc) hdg (kk H locs ls hP hD hS hl)
theorem r_tin (C : Cx p s m args c cc nL own D tys A) {dflt lo hi : Int} {offs : Array Int} {len : Nat} {x i : Int32} {off : Int} {tgt : Nat} (hdg : decode cc pc = .ok (.tableswitch dflt lo hi offs, len)) (hx : x = i) (h1 : ¬ i.toInt < lo) (h2 : ¬ hi < i.toInt) (ho : offs[(i.toInt - lo).toNat]? = some off) (ht : (pc : Int) + off = (tgt : Int)) (kk : V p l e R s m args below meth c nL D A cells slots Q I L tgt st) : V p l e R s m args below meth c nL D A cells slots Q I L pc (.int x :: st) := fun H locs ls hP hD hS hl => by
  subst hx
  exact lv_tableIn C.1.1 C.1.2.1 hdg h1 h2 ho ht (kk H locs ls hP hD hS hl)
theorem r_tout (C : Cx p s m args c cc nL own D tys A) {dflt lo hi : Int} {offs : Array Int} {len : Nat} {x : Int32} {tgt : Nat} (hdg : decode cc pc = .ok (.tableswitch dflt lo hi offs, len)) (h : x.toInt < lo ∨ hi < x.toInt) (ht : (pc : Int) + dflt = (tgt : Int)) (kk : V p l e R s m args below meth c nL D A cells slots Q I L tgt st) : V p l e R s m args below meth c nL D A cells slots Q I L pc (.int x :: st) := fun H locs ls hP hD hS hl => lv_tableOut C.1.1 C.1.2.1 hdg h ht (kk H locs ls hP hD hS hl)
theorem sw_out {x : Int32} (n : Nat) (hn : n < 100) (h : ∀ i : Nat, i ≤ n → ¬ x = Int32.ofNat i) : x.toInt < 0 ∨ (n : Int) < x.toInt := by
  rcases Int.lt_or_le x.toInt 0 with q | q
  · exact Or.inl q
  · rcases Int.lt_or_le (n : Int) x.toInt with r | r
    · exact Or.inr r
    · exact absurd (Int32.toInt_inj.mp (by show x.toInt = (nI x.toInt.toNat).toInt; rw [nI_toInt (by omega)]; omega)) (h x.toInt.toNat (by omega))
theorem r_Le (h : L = L') (kk : V p l e R s m args below meth c nL D A cells slots Q I L' pc st) : V p l e R s m args below meth c nL D A cells slots Q I L pc st := h ▸ kk
theorem nb01 {x : Int32} (h : x = 0 ∨ x = 1) : narrow .boolean (.int x) = .int x := by rcases h with rfl | rfl <;> rfl
theorem ii {x k : Int32} {n : Int} (h : Int32.ofInt n = k) : x + Int32.ofInt n = x + k := congrArg (x + ·) h
theorem r_L (js : List Nat) (h : lv_pick L js = L') (kk : V p l e R s m args below meth c nL D A cells slots Q I L' pc st) : V p l e R s m args below meth c nL D A cells slots Q I L pc st := fun H locs ls hP hD hS hl => kk H locs ls hP hD hS (lv_sub hl js h)
theorem r_ws (h : I.flatten = I'.flatten) (kk : V p l e R s m args below meth c nL D A cells slots Q I' L pc st) : V p l e R s m args below meth c nL D A cells slots Q I L pc st := fun H locs ls hP hD hS hl => kk H locs ls (h ▸ hP) (h ▸ hD) hS hl
theorem va_P_mem {D : va_G} {ws : va_W} {H : Heap} : va_P D vwCl ws H ↔ ∀ x ∈ ws, va_at D vwCl x H := ⟨fun h x hx => by obtain ⟨k, hk⟩ := List.getElem?_of_mem hx; exact h k x hk, fun h k x hk => h x (List.mem_of_getElem? hk)⟩
theorem va_D_mem {A : Nat → Prop} {ws : va_W} : va_D A ws ↔ (ws.map (·.1)).Nodup ∧ ∀ x ∈ ws, A x.1 := by
  constructor
  · rintro ⟨h1, h2⟩
    refine ⟨?_, fun x hx => by obtain ⟨k, hk⟩ := List.getElem?_of_mem hx; exact h2 k x hk⟩
    rw [List.nodup_iff_pairwise_ne, List.pairwise_map, List.pairwise_iff_getElem]
    intro i j hi hj hij he
    have := h1 i j _ _ (List.getElem?_eq_getElem hi) (List.getElem?_eq_getElem hj) he
    omega
  · rintro ⟨h1, h2⟩
    refine ⟨fun i j x y hi hj hxy => ?_, fun k x hk => h2 x (List.mem_of_getElem? hk)⟩
    rw [List.nodup_iff_pairwise_ne, List.pairwise_map, List.pairwise_iff_getElem] at h1
    obtain ⟨a1, rfl⟩ := List.getElem?_eq_some_iff.mp hi
    obtain ⟨a2, rfl⟩ := List.getElem?_eq_some_iff.mp hj
    rcases Nat.lt_trichotomy i j with q | q | q
    · exact absurd hxy (h1 i j a1 a2 q)
    · exact q
    · exact absurd hxy.symm (h1 j i a2 a1 q)
theorem va_P_perm {D : va_G} {w1 w2 : va_W} {H : Heap} (h : w1.Perm w2) (k : va_P D vwCl w1 H) : va_P D vwCl w2 H := va_P_mem.mpr fun x hx => va_P_mem.mp k x (h.mem_iff.mpr hx)
theorem va_D_perm {A : Nat → Prop} {w1 w2 : va_W} (h : w1.Perm w2) (k : va_D A w1) : va_D A w2 := va_D_mem.mpr ⟨(h.map _).nodup (va_D_mem.mp k).1, fun x hx => (va_D_mem.mp k).2 x (h.mem_iff.mpr hx)⟩
theorem pl_perm {α : Type} {I J : List α} (is : List Nat) (hn : is.Perm (List.range I.length)) (h : is.map (fun i => I[i]?) = J.map some) : I.Perm J := by
  have h1 : (List.range I.length).map (fun i => I[i]?) = I.map some := by
    apply List.ext_getElem?
    intro k
    simp only [List.getElem?_map, List.getElem?_range']
    by_cases hk : k < I.length
    · simp [List.getElem?_range hk, hk]
    · have hk' : I.length ≤ k := Nat.le_of_not_lt hk
      simp [hk']
  have h2 : (I.map some).Perm (J.map some) := by
    rw [← h1, ← h]
    exact (hn.map _).symm
  have h3 := h2.filterMap id
  simpa using h3
theorem r_perm (h : I.flatten.Perm I'.flatten) (kk : V p l e R s m args below meth c nL D A cells slots Q I' L pc st) : V p l e R s m args below meth c nL D A cells slots Q I L pc st := fun H locs ls hP hD hS hl => kk H locs ls (va_P_perm h hP) (va_D_perm h hD) hS hl
theorem r_pl (is : List Nat) (hn : is.Perm (List.range I.length)) (h : is.map (fun i => I[i]?) = I'.map some) (kk : V p l e R s m args below meth c nL D A cells slots Q I' L pc st) : V p l e R s m args below meth c nL D A cells slots Q I L pc st := r_perm (pl_perm is hn h).flatten kk
theorem fl_set {x : Nat × va_E} (x' : Nat × va_E) : ∀ {I : List va_W} {q : Nat}, I[q]? = some [x] → ∃ k : Nat, I.flatten[k]? = some x ∧ I.flatten.set k x' = (I.set q [x']).flatten
  | [], q, h => by simp at h
  | B :: I, 0, h => by
    simp only [List.getElem?_cons_zero, Option.some.injEq] at h
    subst h
    exact ⟨0, rfl, rfl⟩
  | B :: I, q + 1, h => by
    obtain ⟨k, h1, h2⟩ := fl_set x' (I := I) (q := q) (by simpa using h)
    refine ⟨B.length + k, ?_, ?_⟩
    · rw [List.flatten_cons, List.getElem?_append_right (Nat.le_add_right _ _), Nat.add_sub_cancel_left]; exact h1
    · rw [List.flatten_cons, List.set_append_right _ _ (Nat.le_add_right _ _), Nat.add_sub_cancel_left, h2]; rfl
theorem fl_get {I : List va_W} {q : Nat} {x : Nat × va_E} (h : I[q]? = some [x]) : ∃ k : Nat, I.flatten[k]? = some x := by
  obtain ⟨k, h1, -⟩ := fl_set x h
  exact ⟨k, h1⟩
theorem r_get (C : Cx p s m args c cc nL own D tys A) {Cn : String} {T : u_T} {N ci index : Nat} (hin : ∀ w ∈ u_ws Cn T N, w ∈ tb) {a : Nat} {fs : List Value} (q : Nat) (he : I[q]? = some [(a, .inr (ci, fs))]) (hc : vwCl[ci]? = some (Cn, T, N)) (k : Nat) (hk : k < N) (hlink : Cond.fieldLink own index (T k).1 (T k).2.1 (T k).2.2.1 ∈ tb) {v : Value} (hv : fs[k]? = some v) (hdg : decode cc pc = .ok (.getfield index, 3)) (kk : V p l e R s m args below meth c nL D A cells slots Q I L (pc + 3) (v :: st)) : V p l e R s m args below meth c nL D A cells slots Q I L pc (.ref a :: st) := fun H locs ls hP hD hS hl => by
  obtain ⟨j, hj⟩ := fl_get he
  exact va_get C.1.1 C.1.2.1 C.1.2.2.2.2 hin C.1.2.2.2.1 C.2.1 hP j hj hc k hk (C.1.2.2.2.2 _ hlink) (fun _ h => h) hv hdg (kk H locs ls hP hD hS hl)
theorem r_put (C : Cx p s m args c cc nL own D tys A) {Cn : String} {T : u_T} {N ci index : Nat} (hin : ∀ w ∈ u_ws Cn T N, w ∈ tb) {a : Nat} {fs : List Value} (q : Nat) (he : I[q]? = some [(a, .inr (ci, fs))]) (hc : vwCl[ci]? = some (Cn, T, N)) (k : Nat) (hk : k < N) (hlink : Cond.fieldLink own index (T k).1 (T k).2.1 (T k).2.2.1 ∈ tb) {v : Value} (ty0 : Nat → FieldType) (hty : ∀ k, k < N → parseFieldDescriptor (T k).2.2.1 = some (ty0 k)) (hnm : ∀ a, a < N → ∀ b, b < N → a ≠ b → (T a).2.1 ≠ (T b).2.1) (hfin : (T k).2.2.2 = false) (hn : narrow (ty0 k) v = v) (hfit : fits (ty0 k) v = true) (hlen : k < fs.length) (hI : I.set q [(a, .inr (ci, fs.set k v))] = I') (hdg : decode cc pc = .ok (.putfield index, 3)) (kk : V p l e R s m args below meth c nL D A cells slots Q I' L (pc + 3) st) : V p l e R s m args below meth c nL D A cells slots Q I L pc (v :: .ref a :: st) := fun H locs ls hP hD hS hl => by
  obtain ⟨j, hj, hs⟩ := fl_set (I := I) (a, .inr (ci, fs.set k v)) he
  refine va_put C.1.1 C.1.2.1 C.1.2.2.2.2 hin ty0 hty hnm C.1.2.2.2.1 C.2.1 hP hD hS j hj hc k hk (C.1.2.2.2.2 _ hlink) (fun _ h => h) hfin (hty k hk) hn hfit hlen hdg (fun H1 locs1 hP1 hD1 hS1 => ?_)
  rw [hs, hI] at hP1 hD1
  exact kk H1 locs1 ls hP1 hD1 hS1 hl
theorem r_putF (C : Cx p s m args c cc nL own D tys A) {Cn : String} {T : u_T} {N ci index : Nat} (hin : ∀ w ∈ u_ws Cn T N, w ∈ tb) {a : Nat} {fs : List Value} (q : Nat) (he : I[q]? = some [(a, .inr (ci, fs))]) (hc : vwCl[ci]? = some (Cn, T, N)) (k : Nat) (hk : k < N) (hlink : Cond.fieldLink own index (T k).1 (T k).2.1 (T k).2.2.1 ∈ tb) {v : Value} (ty0 : Nat → FieldType) (hty : ∀ k, k < N → parseFieldDescriptor (T k).2.2.1 = some (ty0 k)) (hnm : ∀ a, a < N → ∀ b, b < N → a ≠ b → (T a).2.1 ≠ (T b).2.1) (hfin : (T k).2.2.2 = true) (hin2 : meth.name = "<init>") (hdecl : (T k).1 = own) (hn : narrow (ty0 k) v = v) (hfit : fits (ty0 k) v = true) (hlen : k < fs.length) (hI : I.set q [(a, .inr (ci, fs.set k v))] = I') (hdg : decode cc pc = .ok (.putfield index, 3)) (kk : V p l e R s m args below meth c nL D A cells slots Q I' L (pc + 3) st) : V p l e R s m args below meth c nL D A cells slots Q I L pc (v :: .ref a :: st) := fun H locs ls hP hD hS hl => by
  obtain ⟨j, hj, hs⟩ := fl_set (I := I) (a, .inr (ci, fs.set k v)) he
  refine va_putF C.1.1 C.1.2.1 C.1.2.2.2.2 hin ty0 hty hnm C.1.2.2.2.1 C.2.1 hP hD hS j hj hc k hk (C.1.2.2.2.2 _ hlink) (fun _ h => h) hfin hin2 hdecl (hty k hk) hn hfit hlen hdg (fun H1 locs1 hP1 hD1 hS1 => ?_)
  rw [hs, hI] at hP1 hD1
  exact kk H1 locs1 ls hP1 hD1 hS1 hl
theorem r_iald (C : Cx p s m args c cc nL own D tys A) (q t0 : Nat) {a : Nat} {cA : ClassId} {n : Nat} {f : Nat → Int32} {i z : Int32} (ha : I[q]? = some [(a, .inl (cA, n, .inl f))]) (ht : tys[t0]? = some (cA, .int)) (hin : vp_in i n) (hdg : decode cc pc = .ok (.iaload, 1)) (hz : f i.toNatClampNeg = z) (kk : V p l e R s m args below meth c nL D A cells slots Q I L (pc + 1) (.int z :: st)) : V p l e R s m args below meth c nL D A cells slots Q I L pc (.int i :: .ref a :: st) := fun H locs ls hP hD hS hl => by
  obtain ⟨j, hj⟩ := fl_get ha
  refine va_iald C.1.1 C.1.2.1 C.2.1 hP j t0 hj ht hin hdg ?_
  rw [hz]
  exact kk H locs ls hP hD hS hl
theorem r_lald (C : Cx p s m args c cc nL own D tys A) (q t0 : Nat) {a : Nat} {cA : ClassId} {n : Nat} {f : Nat → Int64} {i : Int32} {z : Int64} (ha : I[q]? = some [(a, .inl (cA, n, .inr (.inl f)))]) (ht : tys[t0]? = some (cA, .long)) (hin : vp_in i n) (hdg : decode cc pc = .ok (.laload, 1)) (hz : f i.toNatClampNeg = z) (kk : V p l e R s m args below meth c nL D A cells slots Q I L (pc + 1) (.long z :: st)) : V p l e R s m args below meth c nL D A cells slots Q I L pc (.int i :: .ref a :: st) := fun H locs ls hP hD hS hl => by
  obtain ⟨j, hj⟩ := fl_get ha
  refine va_lald C.1.1 C.1.2.1 C.2.1 hP j t0 hj ht hin hdg ?_
  rw [hz]
  exact kk H locs ls hP hD hS hl
theorem r_aald (C : Cx p s m args c cc nL own D tys A) (q t0 : Nat) {a : Nat} {cA : ClassId} {Cn : String} {n x : Nat} {f : Nat → Option Nat} {i : Int32} (ha : I[q]? = some [(a, .inl (cA, n, .inr (.inr (.inr (.inr f)))))]) (ht : tys[t0]? = some (cA, .object Cn)) (hin : vp_in i n) (hdg : decode cc pc = .ok (.aaload, 1)) (hz : f i.toNatClampNeg = some x) (kk : V p l e R s m args below meth c nL D A cells slots Q I L (pc + 1) (.ref x :: st)) : V p l e R s m args below meth c nL D A cells slots Q I L pc (.int i :: .ref a :: st) := fun H locs ls hP hD hS hl => by
  obtain ⟨j, hj⟩ := fl_get ha
  refine va_aldq C.1.1 C.1.2.1 C.2.1 hP j t0 hj ht hin hdg ?_
  rw [hz]
  exact kk H locs ls hP hD hS hl
theorem r_iast (C : Cx p s m args c cc nL own D tys A) (q t0 : Nat) {a : Nat} {cA : ClassId} {n : Nat} {f : Nat → Int32} {i x : Int32} (ha : I[q]? = some [(a, .inl (cA, n, .inl f))]) (ht : tys[t0]? = some (cA, .int)) (hin : vp_in i n) (hI : I.set q [(a, .inl (cA, n, .inl (upd f i.toNatClampNeg x)))] = I') (hdg : decode cc pc = .ok (.iastore, 1)) (kk : V p l e R s m args below meth c nL D A cells slots Q I' L (pc + 1) st) : V p l e R s m args below meth c nL D A cells slots Q I L pc (.int x :: .int i :: .ref a :: st) := fun H locs ls hP hD hS hl => by
  obtain ⟨j, hj, hs⟩ := fl_set (I := I) (a, .inl (cA, n, .inl (upd f i.toNatClampNeg x))) ha
  refine va_iast C.1.1 C.1.2.1 C.2.1 hP hD hS j t0 hj ht hin hdg (fun H1 locs1 hP1 hD1 hS1 => ?_)
  rw [hs, hI] at hP1 hD1
  exact kk H1 locs1 ls hP1 hD1 hS1 hl
theorem r_last (C : Cx p s m args c cc nL own D tys A) (q t0 : Nat) {a : Nat} {cA : ClassId} {n : Nat} {f : Nat → Int64} {i : Int32} {x : Int64} (ha : I[q]? = some [(a, .inl (cA, n, .inr (.inl f)))]) (ht : tys[t0]? = some (cA, .long)) (hin : vp_in i n) (hI : I.set q [(a, .inl (cA, n, .inr (.inl (vp_updL f i.toNatClampNeg x))))] = I') (hdg : decode cc pc = .ok (.lastore, 1)) (kk : V p l e R s m args below meth c nL D A cells slots Q I' L (pc + 1) st) : V p l e R s m args below meth c nL D A cells slots Q I L pc (.long x :: .int i :: .ref a :: st) := fun H locs ls hP hD hS hl => by
  obtain ⟨j, hj, hs⟩ := fl_set (I := I) (a, .inl (cA, n, .inr (.inl (vp_updL f i.toNatClampNeg x)))) ha
  refine va_last C.1.1 C.1.2.1 C.2.1 hP hD hS j t0 hj ht hin hdg (fun H1 locs1 hP1 hD1 hS1 => ?_)
  rw [hs, hI] at hP1 hD1
  exact kk H1 locs1 ls hP1 hD1 hS1 hl
theorem r_aast (C : Cx p s m args c cc nL own D tys A) (q t0 qk ci : Nat) {a : Nat} {cA : ClassId} {r : vw_C} {n v : Nat} {vs : List Value} {f : Nat → Option Nat} {i : Int32} (ha : I[q]? = some [(a, .inl (cA, n, .inr (.inr (.inr (.inr f)))))]) (ht : tys[t0]? = some (cA, .object r.1)) (hv : I[qk]? = some [(v, .inr (ci, vs))]) (hc : vwCl[ci]? = some r) (hin : vp_in i n) (hI : I.set q [(a, .inl (cA, n, .inr (.inr (.inr (.inr (va_up f i.toNatClampNeg (some v)))))))] = I') (hdg : decode cc pc = .ok (.aastore, 1)) (kk : V p l e R s m args below meth c nL D A cells slots Q I' L (pc + 1) st) : V p l e R s m args below meth c nL D A cells slots Q I L pc (.ref v :: .int i :: .ref a :: st) := fun H locs ls hP hD hS hl => by
  obtain ⟨j, hj, hs⟩ := fl_set (I := I) (a, .inl (cA, n, .inr (.inr (.inr (.inr (va_up f i.toNatClampNeg (some v))))))) ha
  obtain ⟨j2, hj2⟩ := fl_get hv
  refine va_astq C.1.1 C.1.2.1 C.2.1 hP hD hS j t0 j2 ci hj ht hj2 hc hin hdg (fun H1 locs1 hP1 hD1 hS1 => ?_)
  rw [hs, hI] at hP1 hD1
  exact kk H1 locs1 ls hP1 hD1 hS1 hl
theorem r_alen (C : Cx p s m args c cc nL own D tys A) (q t0 : Nat) {a : Nat} {cA : ClassId} {x : vp_A} {ty : FieldType} {v : Int32} (ha : I[q]? = some [(a, .inl (cA, x))]) (ht : tys[t0]? = some (cA, ty)) (hv : Int32.ofNat x.1 = v) (hdg : decode cc pc = .ok (.arraylength, 1)) (kk : V p l e R s m args below meth c nL D A cells slots Q I L (pc + 1) (.int v :: st)) : V p l e R s m args below meth c nL D A cells slots Q I L pc (.ref a :: st) := fun H locs ls hP hD hS hl => by
  obtain ⟨j, hj⟩ := fl_get ha
  exact va_alen C.1.1 C.1.2.1 C.2.1 hP j t0 hj ht hv hdg (kk H locs ls hP hD hS hl)
theorem r_mabs (C : Cx p s m args c cc nL own D tys A) {index : Nat} {x z : Int32} (h1 : Cond.methodLink own index Lib.Math.abs.name ∈ tb) (h2 : Cond.static Lib.Math.abs.name ∈ tb) (h3 : Cond.initialized "java/lang/Math" ∈ tb) (h4 : Cond.code Lib.Math.abs.name Lib.Math.abs.code 1 (some .int) ∈ tb) (hf : 1 ≤ R.frames) (hlo : (st.map fun v => v.category).sum + 13 ≤ R.locals) (hc : cells ≤ R.cells) (hs : slots ≤ R.slots) (hdg : decode cc pc = .ok (.invokestatic index, 3)) (hz : (if 0 ≤ x then x else 0 - x) = z) (kk : V p l e R s m args below meth c nL D A cells slots Q I L (pc + 3) (.int z :: st)) : V p l e R s m args below meth c nL D A cells slots Q I L pc (.int x :: st) := fun H locs ls hP hD hS hl => by
  refine va_mabs C.1.1 C.1.2.1 (C.1.2.2.1.trans hl.1.symm) C.1.2.2.2.1 (C.1.2.2.2.2 _ h1) (C.1.2.2.2.2 _ h2) (C.1.2.2.2.2 _ h3) (C.1.2.2.2.2 _ h4) hf hlo hc hs hdg ?_
  rw [hz]
  exact kk H locs ls hP hD hS hl
abbrev rmm (fr lo : Nat) : Room := { frames := fr, cells := 0, slots := 0, locals := lo }
/-- a contract: over the things w0 it answers r and leaves the things w1, with post r w1 -/
def mPre (D : va_G) (tys : List (ClassId × FieldType)) (w0 : List va_W) (sz : Nat) (U : State) : Prop := U.heap.size = sz ∧ va_P D vwCl w0.flatten U.heap ∧ va_K D vwCl tys U ∧ va_D (fun _ => True) w0.flatten
def mQ {α : Type} (val : α → Option Value) (post : α → List va_W → Prop) (D : va_G) (tys : List (ClassId × FieldType)) (w0 : List va_W) (sz : Nat) : Array Value → State → Outcome → State → Prop := fun _ st oc t => (∃ (r : α) (w1 : List va_W), oc = .returned (val r) ∧ post r w1 ∧ va_P D vwCl w1.flatten t.heap ∧ va_K D vwCl tys t ∧ va_D (va_A w0.flatten sz) w1.flatten) ∧ va_F (va_A w0.flatten sz) st t
def M {α : Type} (val : α → Option Value) (l : Launch) (y : MethodName) (bytes : ByteArray) (maxL : Nat) (ret : Option FieldType) (fr lo : Nat) (D : va_G) (tys : List (ClassId × FieldType)) (av : List Value) (w0 : List va_W) (post : α → List va_W → Prop) : Prop :=
  ∀ sz, Met l y (Cond.code y bytes maxL ret :: tb) (rmm fr lo) (va_Pc av (mPre D tys w0 sz)) (mQ val post D tys w0 sz) 0 0 (va_A w0.flatten sz)
abbrev vI : Int32 → Option Value := fun r => some (.int r)
abbrev vJ : Int64 → Option Value := fun r => some (.long r)
abbrev vD : UInt64 → Option Value := fun r => some (.double r)
abbrev vF : UInt32 → Option Value := fun r => some (.float r)
abbrev vR : Nat → Option Value := fun r => some (.ref r)
abbrev vV : Unit → Option Value := fun _ => none
theorem mPre_blind {D : va_G} {tys : List (ClassId × FieldType)} {w0 : List va_W} {sz : Nat} {av : List Value} : FrameBlind (va_Pc av (mPre D tys w0 sz)) := fun a U g mk q => ⟨q.1, q.2.1, q.2.2.1, va_K.moved (u := U) (U := U.calling g mk a) (Vm.Alike.refl U.vm) q.2.2.2.1, q.2.2.2.2⟩
theorem m_start {α : Type} {val : α → Option Value} {l : Launch} {y : MethodName} {bytes : ByteArray} {maxL : Nat} {ret : Option FieldType} {fr lo : Nat} {D : va_G} {tys : List (ClassId × FieldType)} {av : List Value} {w0 : List va_W} {post : α → List va_W → Prop} (hy : plainFor y = true) (hn : (lg_sl av).length ≤ maxL)
    (body : ∀ (p : Program) (e : Env) (s : State) (m : MethodId) (args : Array Value) (below : List Frame) (meth : Method) (c : Code) (A : Nat → Prop) (Q : State → Prop), A = va_A w0.flatten s.heap.size → Q = MQ below (mQ val post D tys w0 s.heap.size) args s 0 0 A → Cx p s m args c bytes maxL y.cls D tys A → meth.sig.returnType = ret → meth.locks = false →
      V p l e (rmm fr lo) s m args below meth c maxL D A 0 0 Q w0 (lv_args 0 av) 0 []) : M val l y bytes maxL ret fr lo D tys av w0 post := by
  intro sz
  refine va_MetF (cc := bytes) (maxL := maxL) (ret := ret) hy rfl ?_
  intro p e s m args below meth c s₁ B hml hv
  obtain ⟨rfl, hsz, hP, hK, hD⟩ := hv
  subst hsz
  have hts := atoms_spec (ws := Cond.code y bytes maxL ret :: tb) B.pre
  have K := body p e s m _ below meth c _ _ rfl rfl ⟨⟨B.exec, B.bytes, hml, findClass_of_methodNamed B.named, fun w h => hts w (List.mem_cons_of_mem _ h)⟩, hK, fun q h => Or.inr h⟩ B.returns B.notSynchronized
  rw [lg_entry_eq]
  exact K s.heap [] _ hP hD.self va_S.rf (lv_entry av hn)
section Ends
theorem r_iret {post : Int32 → List va_W → Prop} {w0 : List va_W} (C : Cx p s m args c cc nL own D tys A) (hA : A = va_A w0.flatten s.heap.size) (hr : meth.sig.returnType = some .int) (hlo : meth.locks = false) {r : Int32} (hdg : decode cc pc = .ok (.ireturn, 1)) (w1 : List va_W) (hp : post r w1) (hI : I.flatten = w1.flatten) (hQ : Q = MQ below (mQ vI post D tys w0 s.heap.size) args s cells slots A) : V p l e R s m args below meth c nL D A cells slots Q I L pc [.int r] := fun H locs ls hP hD hS hl => by
  subst hQ
  refine W.iret C.1.1 C.1.2.1 hr (fun t ht hW => ⟨⟨r, w1, rfl, hp, by rw [ht, ← hI]; exact hP, va_K.moved hW.alike C.2.1, by rw [← hI, ← hA]; exact hD⟩, ?_⟩) hS.2.2 hdg hlo
  rw [← hA]
  exact hS.F ht
theorem r_lret {post : Int64 → List va_W → Prop} {w0 : List va_W} (C : Cx p s m args c cc nL own D tys A) (hA : A = va_A w0.flatten s.heap.size) (hr : meth.sig.returnType = some .long) (hlo : meth.locks = false) {r : Int64} (hdg : decode cc pc = .ok (.lreturn, 1)) (w1 : List va_W) (hp : post r w1) (hI : I.flatten = w1.flatten) (hQ : Q = MQ below (mQ vJ post D tys w0 s.heap.size) args s cells slots A) : V p l e R s m args below meth c nL D A cells slots Q I L pc [.long r] := fun H locs ls hP hD hS hl => by
  subst hQ
  refine W.lret C.1.1 C.1.2.1 hr (fun t ht hW => ⟨⟨r, w1, rfl, hp, by rw [ht, ← hI]; exact hP, va_K.moved hW.alike C.2.1, by rw [← hI, ← hA]; exact hD⟩, ?_⟩) hS.2.2 hdg hlo
  rw [← hA]
  exact hS.F ht
theorem r_vret {post : Unit → List va_W → Prop} {w0 : List va_W} (C : Cx p s m args c cc nL own D tys A) (hA : A = va_A w0.flatten s.heap.size) (hr : meth.sig.returnType = none) (hlo : meth.locks = false) {r : Unit} (hdg : decode cc pc = .ok (.return_, 1)) (w1 : List va_W) (hp : post r w1) (hI : I.flatten = w1.flatten) (hQ : Q = MQ below (mQ vV post D tys w0 s.heap.size) args s cells slots A) : V p l e R s m args below meth c nL D A cells slots Q I L pc [] := fun H locs ls hP hD hS hl => by
  subst hQ
  refine W.vret C.1.1 C.1.2.1 hr (fun t ht hW => ⟨⟨r, w1, rfl, hp, by rw [ht, ← hI]; exact hP, va_K.moved hW.alike C.2.1, by rw [← hI, ← hA]; exact hD⟩, ?_⟩) hS.2.2 hdg hlo
  rw [← hA]
  exact hS.F ht
theorem r_zret {post : Int32 → List va_W → Prop} {w0 : List va_W} (C : Cx p s m args c cc nL own D tys A) (hA : A = va_A w0.flatten s.heap.size) (hr : meth.sig.returnType = some .boolean) (hlo : meth.locks = false) {r : Int32} (hz : narrow .boolean (.int r) = .int r) (hdg : decode cc pc = .ok (.ireturn, 1)) (w1 : List va_W) (hp : post r w1) (hI : I.flatten = w1.flatten) (hQ : Q = MQ below (mQ vI post D tys w0 s.heap.size) args s cells slots A) : V p l e R s m args below meth c nL D A cells slots Q I L pc [.int r] := fun H locs ls hP hD hS hl => by
  subst hQ
  refine W.zret C.1.1 C.1.2.1 hr hz (fun t ht hW => ⟨⟨r, w1, rfl, hp, by rw [ht, ← hI]; exact hP, va_K.moved hW.alike C.2.1, by rw [← hI, ← hA]; exact hD⟩, ?_⟩) hS.2.2 hdg hlo
  rw [← hA]
  exact hS.F ht
theorem r_dret {post : UInt64 → List va_W → Prop} {w0 : List va_W} (C : Cx p s m args c cc nL own D tys A) (hA : A = va_A w0.flatten s.heap.size) (hr : meth.sig.returnType = some .double) (hlo : meth.locks = false) {r : UInt64} (hdg : decode cc pc = .ok (.dreturn, 1)) (w1 : List va_W) (hp : post r w1) (hI : I.flatten = w1.flatten) (hQ : Q = MQ below (mQ vD post D tys w0 s.heap.size) args s cells slots A) : V p l e R s m args below meth c nL D A cells slots Q I L pc [.double r] := fun H locs ls hP hD hS hl => by
  subst hQ
  refine W.dret C.1.1 C.1.2.1 hr (fun t ht hW => ⟨⟨r, w1, rfl, hp, by rw [ht, ← hI]; exact hP, va_K.moved hW.alike C.2.1, by rw [← hI, ← hA]; exact hD⟩, ?_⟩) hS.2.2 hdg hlo
  rw [← hA]
  exact hS.F ht
theorem r_fret {post : UInt32 → List va_W → Prop} {w0 : List va_W} (C : Cx p s m args c cc nL own D tys A) (hA : A = va_A w0.flatten s.heap.size) (hr : meth.sig.returnType = some .float) (hlo : meth.locks = false) {r : UInt32} (hdg : decode cc pc = .ok (.freturn, 1)) (w1 : List va_W) (hp : post r w1) (hI : I.flatten = w1.flatten) (hQ : Q = MQ below (mQ vF post D tys w0 s.heap.size) args s cells slots A) : V p l e R s m args below meth c nL D A cells slots Q I L pc [.float r] := fun H locs ls hP hD hS hl => by
  subst hQ
  refine W.fret C.1.1 C.1.2.1 hr (fun t ht hW => ⟨⟨r, w1, rfl, hp, by rw [ht, ← hI]; exact hP, va_K.moved hW.alike C.2.1, by rw [← hI, ← hA]; exact hD⟩, ?_⟩) hS.2.2 hdg hlo
  rw [← hA]
  exact hS.F ht
theorem r_aret {post : Nat → List va_W → Prop} {w0 : List va_W} {rt : FieldType} (C : Cx p s m args c cc nL own D tys A) (hA : A = va_A w0.flatten s.heap.size) (hr : meth.sig.returnType = some rt) (hrt : (∃ n, rt = .object n) ∨ ∃ t, rt = .array t) (hlo : meth.locks = false) {r : Nat} (hdg : decode cc pc = .ok (.areturn, 1)) (w1 : List va_W) (hp : post r w1) (hI : I.flatten = w1.flatten) (hQ : Q = MQ below (mQ vR post D tys w0 s.heap.size) args s cells slots A) : V p l e R s m args below meth c nL D A cells slots Q I L pc [.ref r] := fun H locs ls hP hD hS hl => by
  subst hQ
  refine W.aret C.1.1 C.1.2.1 hr hrt (Or.inr ⟨r, rfl⟩) (fun t ht hW => ⟨⟨r, w1, rfl, hp, by rw [ht, ← hI]; exact hP, va_K.moved hW.alike C.2.1, by rw [← hI, ← hA]; exact hD⟩, ?_⟩) hS.2.2 hdg hlo
  rw [← hA]
  exact hS.F ht
end Ends
theorem fr_join {A : Nat → Prop} {c r w1 : va_W} {H H1 : Heap} (hP : va_P D vwCl (c ++ r) H) (hD : va_D A (c ++ r)) (hk : ∀ q : Nat, q < H.size → ¬ va_A c H.size q → H1[q]? = H[q]?) (hF : ∀ q, va_A c H.size q → A q) (hP1 : va_P D vwCl w1 H1) (hD1 : va_D (va_A c H.size) w1) : va_P D vwCl (w1 ++ r) H1 ∧ va_D A (w1 ++ r) := by
  have hp := va_P_mem.mp hP
  have hd := va_D_mem.mp hD
  have hd1 := va_D_mem.mp hD1
  have apart : ∀ x ∈ r, x.1 < H.size ∧ ¬ va_A c H.size x.1 := by
    intro x hx
    have hl := (hp x (List.mem_append_right _ hx)).lt
    refine ⟨hl, fun h => ?_⟩
    rcases h with ⟨k, y, h⟩ | h
    · have hm := List.mem_of_getElem? h
      have hn := hd.1
      rw [List.map_append, List.nodup_append] at hn
      exact hn.2.2 _ (List.mem_map.mpr ⟨_, hm, rfl⟩) _ (List.mem_map.mpr ⟨_, hx, rfl⟩) rfl
    · omega
  refine ⟨va_P.app hP1 (va_P_mem.mpr fun x hx => (hp x (List.mem_append_right _ hx)).kept (hk _ (apart x hx).1 (apart x hx).2)), va_D_mem.mpr ⟨?_, fun x hx => ?_⟩⟩
  · rw [List.map_append, List.nodup_append]
    have hn := hd.1
    rw [List.map_append, List.nodup_append] at hn
    refine ⟨hd1.1, hn.2.1, ?_⟩
    intro a ha b hb hab
    obtain ⟨x, hx, rfl⟩ := List.mem_map.mp ha
    obtain ⟨y, hy, rfl⟩ := List.mem_map.mp hb
    exact (apart y hy).2 (hab ▸ hd1.2 x hx)
  · rcases List.mem_append.mp hx with h | h
    · exact hF _ (hd1.2 x h)
    · exact hd.2 x (List.mem_append_right _ h)
theorem fr_free {A : Nat → Prop} {c r : va_W} {H0 H : Heap} {locs : List Loc} (hD : va_D A (c ++ r)) (hS : va_S A H0 H locs) (hA : ∀ q, H0.size ≤ q → A q) : ∀ q, va_A c H.size q → A q := by
  intro q h
  rcases h with ⟨k, y, h⟩ | h
  · exact (va_D_mem.mp hD).2 _ (List.mem_append_left _ (List.mem_of_getElem? h))
  · exact hA q (Nat.le_trans hS.1 h)
/-- what a callee is, by the tables -/
def kS (y : MethodName) (bytes : ByteArray) (maxL : Nat) (ret : Option FieldType) (n : Nat) : Prop := Cond.static y ∈ tb ∧ Cond.initialized y.cls ∈ tb ∧ Cond.code y bytes maxL ret ∈ tb ∧ y.cls ≠ "java/lang/invoke/MethodHandle" ∧ y.cls ≠ "java/lang/invoke/VarHandle" ∧ (parseMethodDescriptor y.desc).map (fun d => d.parameters.length) = some n
def kV (y : MethodName) (bytes : ByteArray) (maxL : Nat) (ret : Option FieldType) (n : Nat) : Prop := Cond.instanceMethod y ∈ tb ∧ Cond.selects y.cls y y ∈ tb ∧ Cond.initialized y.cls ∈ tb ∧ Cond.code y bytes maxL ret ∈ tb ∧ y.cls ≠ "java/lang/invoke/MethodHandle" ∧ y.cls ≠ "java/lang/invoke/VarHandle" ∧ (parseMethodDescriptor y.desc).map (fun d => d.parameters.length) = some n
theorem tb_goodIn {ws : List Cond} (h : ∀ w ∈ ws, w ∈ tb) : GoodIn tb ws := fun w hw => ⟨h w hw, tb_good w (h w hw)⟩
theorem kS_cw {y : MethodName} {bytes : ByteArray} {maxL : Nat} {ret : Option FieldType} {n index fr lo : Nat} (h : kS y bytes maxL ret n) (hts : ∀ w ∈ tb, w.before args s = true) (hl : Cond.methodLink own index y ∈ tb) (hR : fr + 1 ≤ R.frames ∧ 8 + (maxL + 11) + lo ≤ R.locals) : CallB R s args own index y bytes maxL ret (Cond.code y bytes maxL ret :: tb) (rmm fr lo) 0 0 n ∧ (Cond.static y).before args s = true := by
  obtain ⟨h1, h2, h3, h4⟩ := h
  refine va_cwS n hts (tb_goodIn ?_) rfl rfl rfl h4 hR
  intro w hw
  rcases List.mem_append.mp hw with hw | hw
  · rcases List.mem_cons.mp hw with rfl | hw
    · exact hl
    · rcases List.mem_cons.mp hw with rfl | hw
      · exact h1
      · rcases List.mem_cons.mp hw with rfl | hw
        · exact h2
        · cases hw
  · rcases List.mem_cons.mp hw with rfl | hw
    · exact h3
    · exact hw
theorem kV_cw {y : MethodName} {bytes : ByteArray} {maxL : Nat} {ret : Option FieldType} {n index fr lo : Nat} (h : kV y bytes maxL ret n) (hts : ∀ w ∈ tb, w.before args s = true) (hl : Cond.methodLink own index y ∈ tb) (hR : fr + 1 ≤ R.frames ∧ 8 + (maxL + 11) + lo ≤ R.locals) : CallW R s args own y.cls index y bytes maxL ret (Cond.code y bytes maxL ret :: tb) (rmm fr lo) 0 0 n := by
  obtain ⟨h1, h2, h3, h5, h4⟩ := h
  refine cwV n hts (tb_goodIn ?_) rfl rfl rfl ⟨rfl, h4⟩ hR
  intro w hw
  rcases List.mem_append.mp hw with hw | hw
  · rcases List.mem_cons.mp hw with rfl | hw
    · exact hl
    · rcases List.mem_cons.mp hw with rfl | hw
      · exact h1
      · rcases List.mem_cons.mp hw with rfl | hw
        · exact h2
        · rcases List.mem_cons.mp hw with rfl | hw
          · exact h3
          · cases hw
  · rcases List.mem_cons.mp hw with rfl | hw
    · exact h5
    · exact hw
theorem r_run {α : Type} {val : α → Option Value} {post : α → List va_W → Prop} {wc wr : List va_W} {a : Array Value} {st0 : List Value} (C : Cx p s m args c cc nL own D tys A) (hp : I.flatten.Perm (wc.flatten ++ wr.flatten))
    (hr : ∀ (H : Heap) (locs : List Loc) (ls : Array Slot), va_P D vwCl wc.flatten H → va_D (fun _ => True) wc.flatten → lv_has ls nL L → va_Run p l e R s m args below meth c H locs cells slots 0 0 (F0 m pc ls st0) st (mQ val post D tys wc H.size a) (va_A wc.flatten H.size))
    (kk : ∀ (r : α) (w1 : List va_W), post r w1 → V p l e R s m args below meth c nL D A cells slots Q (w1 ++ wr) L (pc + 3) ((val r).toList ++ st)) : V p l e R s m args below meth c nL D A cells slots Q I L pc st0 := by
  intro H locs ls hP hD hS hl T hT X
  have hP := va_P_perm hp hP
  have hD := va_D_perm hp hD
  have hPc : va_P D vwCl wc.flatten H := va_P_mem.mpr fun x hx => va_P_mem.mp hP x (List.mem_append_left _ hx)
  have hDm := va_D_mem.mp hD
  have hDc : va_D (fun _ => True) wc.flatten := va_D_mem.mpr ⟨by have := hDm.1; rw [List.map_append, List.nodup_append] at this; exact this.1, fun _ _ => trivial⟩
  have hF := fr_free hD hS C.2.2
  obtain ⟨v, st₀, t, T', L', h0, X', hL, e1, e2, ⟨⟨r, w1, hv, hpo, hP1, hK1, hD1⟩, hz, hk⟩, stp⟩ := hr H locs ls hPc hDc hl T hT X
  cases hv
  rw [h0] at hz hk
  rw [← e1] at hP1 hz hk
  obtain ⟨hP2, hD2⟩ := fr_join hP hD hk hF hP1 hD1
  obtain ⟨t2, a1, b1⟩ := kk r w1 hpo T'.heap (locs ++ L') ls (by rw [List.flatten_append]; exact hP2) (by rw [List.flatten_append]; exact hD2)
    ⟨Nat.le_trans hS.1 hz, fun q h1 h2 => by rw [hk q (Nat.lt_of_lt_of_le h1 hS.1) (fun z => h2 (hF q z))]; exact hS.2.1 q h1 h2, fun q hq => by
      rcases List.mem_append.mp hq with h | h
      · exact hS.2.2 q h
      · exact hF _ (hL q h)⟩ hl T' rfl X'
  exact ⟨t2, stp t2 a1, b1⟩
theorem r_callS {α : Type} {val : α → Option Value} {post : α → List va_W → Prop} {y : MethodName} {bytes : ByteArray} {maxL : Nat} {ret : Option FieldType} {n index fr lo : Nat} {wc wr : List va_W} {As : List Value} {st0 : List Value} (C : Cx p s m args c cc nL own D tys A) (hM : M val l y bytes maxL ret fr lo D tys As wc post) (hk : kS y bytes maxL ret n) (hl : Cond.methodLink own index y ∈ tb) (is : List Nat) (hn : is.Perm (List.range I.length)) (hI : is.map (fun i => I[i]?) = (wc ++ wr).map some) (hlen : As.length = n) (hst : st0 = As.reverse ++ st) (hcat : (st.map fun v => v.category).sum ≤ 8) (hR : fr + 1 ≤ R.frames ∧ 8 + (maxL + 11) + lo ≤ R.locals) (hroom : cells ≤ R.cells ∧ slots ≤ R.slots) (hdg : decode cc pc = .ok (.invokestatic index, 3))
    (kk : ∀ (r : α) (w1 : List va_W), post r w1 → V p l e R s m args below meth c nL D A cells slots Q (w1 ++ wr) L (pc + 3) ((val r).toList ++ st)) : V p l e R s m args below meth c nL D A cells slots Q I L pc st0 := by
  refine r_run (wc := wc) (wr := wr) (a := As.toArray) C (by rw [← List.flatten_append]; exact (pl_perm is hn hI).flatten) ?_ kk
  intro H locs ls hPc hDc hls
  exact va_runS (As := As) (rest := st) C.1 (hM H.size) (kS_cw hk C.1.2.2.2.2 hl hR) ⟨mPre_blind, fun U hU hW => ⟨rfl, by rw [hU], by rw [hU]; exact hPc, va_K.moved hW.alike C.2.1, hDc⟩⟩ rfl hlen hls.1 hst (by show 2 * 0 + _ ≤ 8; omega) hdg hroom
theorem r_callV {α : Type} {val : α → Option Value} {post : α → List va_W → Prop} {y : MethodName} {bytes : ByteArray} {maxL : Nat} {ret : Option FieldType} {n index fr lo : Nat} {wc wr : List va_W} {b ci q0 : Nat} {fs : List Value} {rc : vw_C} {As : List Value} {st0 : List Value} (C : Cx p s m args c cc nL own D tys A) (hM : M val l y bytes maxL ret fr lo D tys (.ref b :: As) wc post) (hk : kV y bytes maxL ret n) (hl : Cond.methodLink own index y ∈ tb) (is : List Nat) (hn : is.Perm (List.range I.length)) (hI : is.map (fun i => I[i]?) = (wc ++ wr).map some) (hrc : vwCl[ci]? = some rc) (hcl : rc.1 = y.cls) (hq : wc.flatten[q0]? = some (b, .inr (ci, fs))) (hlen : As.length = n) (hst : st0 = As.reverse ++ .ref b :: st) (hcat : (st.map fun v => v.category).sum ≤ 8) (hR : fr + 1 ≤ R.frames ∧ 8 + (maxL + 11) + lo ≤ R.locals) (hroom : cells ≤ R.cells ∧ slots ≤ R.slots) (hdg : decode cc pc = .ok (.invokevirtual index, 3))
    (kk : ∀ (r : α) (w1 : List va_W), post r w1 → V p l e R s m args below meth c nL D A cells slots Q (w1 ++ wr) L (pc + 3) ((val r).toList ++ st)) : V p l e R s m args below meth c nL D A cells slots Q I L pc st0 := by
  refine r_run (wc := wc) (wr := wr) (a := (Value.ref b :: As).toArray) C (by rw [← List.flatten_append]; exact (pl_perm is hn hI).flatten) ?_ kk
  intro H locs ls hPc hDc hls
  refine va_runV (As := As) (rest := st) C.1 (hM H.size) (kV_cw hk C.1.2.2.2.2 hl hR) ⟨mPre_blind, ?_, fun U hU hW => ⟨rfl, by rw [hU], by rw [hU]; exact hPc, va_K.moved hW.alike C.2.1, hDc⟩⟩ rfl hlen hls.1 hst (by show 2 * 0 + _ ≤ 8; omega) hdg hroom
  rw [← hcl]
  exact va_recv C.2.1 hPc hrc hq
end

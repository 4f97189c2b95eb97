section
variable {p : Program} {l : Launch} {e : Env} {R : Room} {s : State} {m : MethodId} {args : Array Value} {below : List Frame} {meth : Method} {c : Code} {cc : ByteArray} {nL : Nat} {own : String} {D : va_G} {tys : List (ClassId × FieldType)} {A : Nat → Prop} {cells slots : Nat} {Q : State → Prop} {I I' : List va_W} {L L' : List (Nat × Value)} {pc : Nat} {st : List Value}
theorem r_sld (C : Cx p s m args c cc nL own D tys A) {b n : Nat} {xs : Nat → Int32} (hX : va_X b n xs s s.heap) (hbl : b < s.heap.size) (hbA : ¬ A b) {i z : Int32} (hin : vp_in i n) (hdg : decode cc pc = .ok (.iaload, 1)) (hz : xs i.toNatClampNeg = z) (kk : V p l e R s m args below meth c nL D A cells slots Q I L (pc + 1) (.int z :: st)) : V p l e R s m args below meth c nL D A cells slots Q I L pc (.int i :: .ref b :: st) := fun H locs ls hP hD hS hl => va_sld C.1.1 C.1.2.1 hX hbl hbA hS hin hdg (by rw [hz]; exact kk H locs ls hP hD hS hl)
theorem r_slen (C : Cx p s m args c cc nL own D tys A) {b n : Nat} {xs : Nat → Int32} (hX : va_X b n xs s s.heap) (hbl : b < s.heap.size) (hbA : ¬ A b) (hdg : decode cc pc = .ok (.arraylength, 1)) (kk : V p l e R s m args below meth c nL D A cells slots Q I L (pc + 1) (.int (Int32.ofNat n) :: st)) : V p l e R s m args below meth c nL D A cells slots Q I L pc (.ref b :: st) := fun H locs ls hP hD hS hl => va_slen C.1.1 C.1.2.1 hX hbl hbA hS hdg (kk H locs ls hP hD hS hl)
theorem r_wd {cells' slots' : Nat} (h1 : cells ≤ cells') (h2 : slots ≤ slots') (kk : V p l e R s m args below meth c nL D A cells' slots' Q I L pc st) : V p l e R s m args below meth c nL D A cells slots Q I L pc st := fun H locs ls hP hD hS hl => W.widen h1 h2 (kk H locs ls hP hD hS hl)
end
theorem lgc {x y : Int64} (h : x = y) : lg_cmp x y = 0 := by
  subst h
  unfold lg_cmp
  rw [if_neg (by simp), if_pos rfl]
/-- what the law's walk keeps beside Cx -/
def Lx (l : Launch) (s : State) (A : Nat → Prop) (b n : Nat) (xs : Nat → Int32) : Prop := l.stackTraces = false ∧ xZ A s s.heap ∧ xC s ∧ wC s ∧ va_X b n xs s s.heap ∧ b < s.heap.size ∧ ¬ A b

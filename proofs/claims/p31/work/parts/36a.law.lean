section
variable {p : Program} {l : Launch} {e : Env} {R : Room} {s : State} {m : MethodId} {args : Array Value} {below : List Frame} {meth : Method} {c : Code} {cc : ByteArray} {nL : Nat} {own : String} {D : va_G} {tys : List (ClassId × FieldType)} {A : Nat → Prop} {cells slots : Nat} {Q : State → Prop} {I I' : List va_W} {L L' : List (Nat × Value)} {pc : Nat} {st : List Value}
theorem r_tinR (C : Cx p s m args c cc nL own D tys A) {dflt lo hi : Int} {offs : Array Int} {len : Nat} {x : Int32} {off : Int} {tgt : Nat} (hdg : decode cc pc = .ok (.tableswitch dflt lo hi offs, len)) (hx : (¬ x.toInt < lo) ∧ (¬ hi < x.toInt) ∧ offs[(x.toInt - lo).toNat]? = some off) (ht : (pc : Int) + off = (tgt : Int)) (kk : V p l e R s m args below meth c nL D A cells slots Q I L tgt st) : V p l e R s m args below meth c nL D A cells slots Q I L pc (.int x :: st) := fun H locs ls hP hD hS hl =>
  lv_tableIn C.1.1 C.1.2.1 hdg hx.1 hx.2.1 hx.2.2 ht (kk H locs ls hP hD hS hl)
theorem sw_in {x a b : Int32} {lo hi off : Int} {offs : Array Int} (h : a ≤ x ∧ x ≤ b) (ha : 0 ≤ a) (h1 : lo ≤ a.toInt) (h2 : b.toInt ≤ hi) (h3 : b.toInt < 100) (ho : (List.range 100).all (fun i => decide ((i : Int) < a.toInt) || decide (b.toInt < (i : Int)) || decide (offs[((i : Int) - lo).toNat]? = some off)) = true) : (¬ x.toInt < lo) ∧ (¬ hi < x.toInt) ∧ offs[(x.toInt - lo).toNat]? = some off := by
  have e1 := Int32.le_iff_toInt_le.mp h.1
  have e2 := Int32.le_iff_toInt_le.mp h.2
  have e0 : 0 ≤ a.toInt := Int32.le_iff_toInt_le.mp ha
  refine ⟨by omega, by omega, ?_⟩
  have := List.all_eq_true.mp ho x.toInt.toNat (List.mem_range.mpr (by omega))
  rw [show ((x.toInt.toNat : Nat) : Int) = x.toInt by omega] at this
  simp only [Bool.or_eq_true, decide_eq_true_eq] at this
  rcases this with (h | h) | h
  · omega
  · omega
  · exact h
theorem sw_ne {x a b i : Int32} (h : ¬ (a ≤ x ∧ x ≤ b)) (h1 : a ≤ i) (h2 : i ≤ b) : ¬ x = i := fun q => h (by rw [q]; exact ⟨h1, h2⟩)
theorem sw_outG {x : Int32} (n : Nat) (hn : n < 100) (h : ∀ i : Nat, i ≤ n → ¬ x = Int32.ofNat i) : x.toInt < 0 ∨ (n : Int) < x.toInt := sw_out n hn h
end
theorem k_L_low : kS yL_low cL_low 2 (some .int) 2 := ⟨t_406, t_6, t_407, by decide +kernel, by decide +kernel, by decide +kernel⟩
set_option maxRecDepth 20000 in
def F_L_low_5 (x : Int32) : Int32 := (x &&& 2147483647) - (x &&& 2147483647) / 5 * 5
set_option maxRecDepth 20000 in
set_option maxHeartbeats 8000000 in
theorem m_L_low_5 (l : Launch) (D : va_G) (cI cL cP cJ : ClassId) (x : Int32) : M vI l yL_low cL_low 2 (some .int) 0 0 D (tyF cI cL cP cJ) [.int x, .int 5] [] (fun (r : Int32) (w1 : List va_W) => r = (F_L_low_5 x) ∧ w1 = []) := by
  refine m_start (by decide +kernel) (Nat.le_of_ble_eq_true rfl) (fun p e s m args below meth c A Q hA hQ C hr hlo => ?_)
  refine r_Le (L' := [(0, .int x), (1, .int 5)]) rfl ?_
  refine r_iload_n C dL_low_0 0 rfl ?_
  refine r_ldc (v := 2147483647) C t_408 dL_low_1 ?_
  refine r_iand C dL_low_3 rfl ?_
  refine r_iload_n C dL_low_4 1 rfl ?_
  refine r_irem C dL_low_5 (by decide) rfl ?_
  have eF : F_L_low_5 x = (x &&& 2147483647) - (x &&& 2147483647) / 5 * 5 := by rfl
  exact r_iret (r := (x &&& 2147483647) - (x &&& 2147483647) / 5 * 5) C hA hr hlo dL_low_6 [] ⟨by simp only [eF], rfl⟩ rfl hQ
set_option maxRecDepth 20000 in
def F_L_low_18 (x : Int32) : Int32 := (x &&& 2147483647) - (x &&& 2147483647) / 18 * 18
set_option maxRecDepth 20000 in
set_option maxHeartbeats 8000000 in
theorem m_L_low_18 (l : Launch) (D : va_G) (cI cL cP cJ : ClassId) (x : Int32) : M vI l yL_low cL_low 2 (some .int) 0 0 D (tyF cI cL cP cJ) [.int x, .int 18] [] (fun (r : Int32) (w1 : List va_W) => r = (F_L_low_18 x) ∧ w1 = []) := by
  refine m_start (by decide +kernel) (Nat.le_of_ble_eq_true rfl) (fun p e s m args below meth c A Q hA hQ C hr hlo => ?_)
  refine r_Le (L' := [(0, .int x), (1, .int 18)]) rfl ?_
  refine r_iload_n C dL_low_0 0 rfl ?_
  refine r_ldc (v := 2147483647) C t_408 dL_low_1 ?_
  refine r_iand C dL_low_3 rfl ?_
  refine r_iload_n C dL_low_4 1 rfl ?_
  refine r_irem C dL_low_5 (by decide) rfl ?_
  have eF : F_L_low_18 x = (x &&& 2147483647) - (x &&& 2147483647) / 18 * 18 := by rfl
  exact r_iret (r := (x &&& 2147483647) - (x &&& 2147483647) / 18 * 18) C hA hr hlo dL_low_6 [] ⟨by simp only [eF], rfl⟩ rfl hQ
theorem k_L_ones : kS yL_ones cL_ones 1 (some .int) 1 := ⟨t_498, t_6, t_499, by decide +kernel, by decide +kernel, by decide +kernel⟩
set_option maxRecDepth 20000 in
def F_L_ones (x : Int32) : Int32 := (((x &&& 1) + ((x >>> ((1 : Int32) &&& 31)) &&& 1)) + ((x >>> ((2 : Int32) &&& 31)) &&& 1)) + ((x >>> ((3 : Int32) &&& 31)) &&& 1)
set_option maxRecDepth 20000 in
set_option maxHeartbeats 8000000 in
theorem m_L_ones (l : Launch) (D : va_G) (cI cL cP cJ : ClassId) (x : Int32) : M vI l yL_ones cL_ones 1 (some .int) 0 0 D (tyF cI cL cP cJ) [.int x] [] (fun (r : Int32) (w1 : List va_W) => r = (F_L_ones x) ∧ w1 = []) := by
  refine m_start (by decide +kernel) (Nat.le_of_ble_eq_true rfl) (fun p e s m args below meth c A Q hA hQ C hr hlo => ?_)
  refine r_Le (L' := [(0, .int x)]) rfl ?_
  refine r_iload_n C dL_ones_0 0 rfl ?_
  refine r_iconst (v := 1) C dL_ones_1 (by decide) ?_
  refine r_iand C dL_ones_2 rfl ?_
  refine r_iload_n C dL_ones_3 0 rfl ?_
  refine r_iconst (v := 1) C dL_ones_4 (by decide) ?_
  refine r_ishr C dL_ones_5 rfl ?_
  refine r_iconst (v := 1) C dL_ones_6 (by decide) ?_
  refine r_iand C dL_ones_7 rfl ?_
  refine r_iadd C dL_ones_8 rfl ?_
  refine r_iload_n C dL_ones_9 0 rfl ?_
  refine r_iconst (v := 2) C dL_ones_10 (by decide) ?_
  refine r_ishr C dL_ones_11 rfl ?_
  refine r_iconst (v := 1) C dL_ones_12 (by decide) ?_
  refine r_iand C dL_ones_13 rfl ?_
  refine r_iadd C dL_ones_14 rfl ?_
  refine r_iload_n C dL_ones_15 0 rfl ?_
  refine r_iconst (v := 3) C dL_ones_16 (by decide) ?_
  refine r_ishr C dL_ones_17 rfl ?_
  refine r_iconst (v := 1) C dL_ones_18 (by decide) ?_
  refine r_iand C dL_ones_19 rfl ?_
  refine r_iadd C dL_ones_20 rfl ?_
  have eF : F_L_ones x = (((x &&& 1) + ((x >>> ((1 : Int32) &&& 31)) &&& 1)) + ((x >>> ((2 : Int32) &&& 31)) &&& 1)) + ((x >>> ((3 : Int32) &&& 31)) &&& 1) := by rfl
  exact r_iret (r := (((x &&& 1) + ((x >>> ((1 : Int32) &&& 31)) &&& 1)) + ((x >>> ((2 : Int32) &&& 31)) &&& 1)) + ((x >>> ((3 : Int32) &&& 31)) &&& 1)) C hA hr hlo dL_ones_21 [] ⟨by simp only [eF], rfl⟩ rfl hQ
theorem k_L_size : kS yL_size cL_size 1 (some .int) 1 := ⟨t_451, t_6, t_452, by decide +kernel, by decide +kernel, by decide +kernel⟩
set_option maxRecDepth 20000 in
def F_L_size (x : Int32) : Int32 := let x2 : Int32 := (if 0 ≤ x then (x) else (-x)); x2
set_option maxRecDepth 20000 in
set_option maxHeartbeats 8000000 in
theorem m_L_size (l : Launch) (D : va_G) (cI cL cP cJ : ClassId) (x : Int32) : M vI l yL_size cL_size 1 (some .int) 0 0 D (tyF cI cL cP cJ) [.int x] [] (fun (r : Int32) (w1 : List va_W) => r = (F_L_size x) ∧ w1 = []) := by
  refine m_start (by decide +kernel) (Nat.le_of_ble_eq_true rfl) (fun p e s m args below meth c A Q hA hQ C hr hlo => ?_)
  refine r_Le (L' := [(0, .int x)]) rfl ?_
  refine r_iload_n C dL_size_0 0 rfl ?_
  suffices K : ∀ x2 : Int32, x2 = ((if 0 ≤ x then (x) else (-x))) → V p l e (rmm 0 0) s m args below meth c 1 D A 0 0 Q [] [(0, .int x)] 10 [.int x2] by
    refine r_if_ge (tgt := 9) C dL_size_1 (by decide) (fun c1 => ?_) (fun c1 => ?_)
    · refine r_iload_n C dL_size_9 0 rfl ?_
      exact K _ (by simp only [if_pos c1])
    · refine r_iload_n C dL_size_4 0 rfl ?_
      refine r_ineg C dL_size_5 rfl ?_
      refine r_goto (tgt := 10) C dL_size_6 (by decide) ?_
      exact K _ (by simp only [if_neg c1])
  intro x2 e_x2
  have eF : F_L_size x = x2 := by have q := e_x2.symm; subst q; rfl
  exact r_iret (r := x2) C hA hr hlo dL_size_10 [] ⟨by simp only [eF], rfl⟩ rfl hQ
theorem k_L_folds : kS yL_folds cL_folds 3 none 2 := ⟨t_438, t_6, t_439, by decide +kernel, by decide +kernel, by decide +kernel⟩
set_option maxRecDepth 20000 in
def F_L_folds (fA : Nat → Int32) (crease : Int32) : (Nat → Int32) := let x2 : Int32 := (if crease = 0 then (0) else (crease - 1)); let x4 : Int32 := fA x2.toNatClampNeg; let x6 : Int32 := (if crease = 0 then (0) else (crease - 1)); let x9 : Int32 := (if crease = 0 then (-x4) else (fA crease.toNatClampNeg)); let g11 : Nat → Int32 := upd fA (x6.toNatClampNeg) x9; let x13 : Int32 := (if crease = 0 then (-x4) else (x4)); let g15 : Nat → Int32 := upd g11 (crease.toNatClampNeg) x13; g15
set_option maxRecDepth 20000 in
def P_L_folds (fA : Nat → Int32) (crease : Int32) : Prop := (∀ x2 : Int32, x2 = ((if crease = 0 then (0) else (crease - 1))) → ((vp_in x2 4) ∧ (∀ x4 : Int32, x4 = fA x2.toNatClampNeg → (∀ x6 : Int32, x6 = ((if crease = 0 then (0) else (crease - 1))) → (((crease = 0 → True) ∧ (¬ crease = 0 → (vp_in crease 4))) ∧ (∀ x9 : Int32, x9 = ((if crease = 0 then (-x4) else (fA crease.toNatClampNeg))) → ((vp_in x6 4) ∧ (∀ g11 : Nat → Int32, g11 = upd fA (x6.toNatClampNeg) x9 → (∀ x13 : Int32, x13 = ((if crease = 0 then (-x4) else (x4))) → (vp_in crease 4))))))))))
set_option maxRecDepth 20000 in
set_option maxHeartbeats 8000000 in
theorem m_L_folds (l : Launch) (D : va_G) (cI cL cP cJ : ClassId) (aA : Nat) (fA : Nat → Int32) (crease : Int32) (hp : P_L_folds fA crease) : M vV l yL_folds cL_folds 3 none 0 0 D (tyF cI cL cP cJ) [.ref aA, .int crease] [[(aA, .inl (cI, 4, .inl fA))]] (fun (r : Unit) (w1 : List va_W) => w1 = [[(aA, .inl (cI, 4, .inl (F_L_folds fA crease)))]]) := by
  unfold P_L_folds at hp
  refine m_start (by decide +kernel) (Nat.le_of_ble_eq_true rfl) (fun p e s m args below meth c A Q hA hQ C hr hlo => ?_)
  refine r_Le (L' := [(0, .ref aA), (1, .int crease)]) rfl ?_
  refine r_aload_n C dL_folds_0 0 rfl ?_
  refine r_iload_n C dL_folds_1 1 rfl ?_
  suffices K : ∀ x2 : Int32, x2 = ((if crease = 0 then (0) else (crease - 1))) → V p l e (rmm 0 0) s m args below meth c 3 D A 0 0 Q [[(aA, .inl (cI, 4, .inl fA))]] [(0, .ref aA), (1, .int crease)] 12 [.int x2, .ref aA] by
    refine r_if_ne (tgt := 9) C dL_folds_2 (by decide) (fun c1 => ?_) (fun c1 => ?_)
    · refine r_iload_n C dL_folds_9 1 rfl ?_
      refine r_iconst (v := 1) C dL_folds_10 (by decide) ?_
      refine r_isub C dL_folds_11 rfl ?_
      exact K _ (by simp only [if_neg c1])
    · refine r_iconst (v := 0) C dL_folds_5 (by decide) ?_
      refine r_goto (tgt := 12) C dL_folds_6 (by decide) ?_
      exact K _ (by simp only [if_pos c1])
  intro x2 e_x2
  have hp := hp x2 e_x2
  obtain ⟨h3, hp⟩ := hp
  refine r_iald (z := fA x2.toNatClampNeg) C 0 0 rfl rfl h3 dL_folds_12 rfl ?_
  refine r_top (fun x4 e_x4 => ?_)
  have hp := hp x4 e_x4
  refine r_istore_n (L' := [(2, .int x4), (0, .ref aA), (1, .int crease)]) C dL_folds_13 (by decide) rfl ?_
  refine r_aload_n C dL_folds_14 1 rfl ?_
  refine r_iload_n C dL_folds_15 2 rfl ?_
  suffices K : ∀ x6 : Int32, x6 = ((if crease = 0 then (0) else (crease - 1))) → V p l e (rmm 0 0) s m args below meth c 3 D A 0 0 Q [[(aA, .inl (cI, 4, .inl fA))]] [(2, .int x4), (0, .ref aA), (1, .int crease)] 26 [.int x6, .ref aA] by
    refine r_if_ne (tgt := 23) C dL_folds_16 (by decide) (fun c5 => ?_) (fun c5 => ?_)
    · refine r_iload_n C dL_folds_23 2 rfl ?_
      refine r_iconst (v := 1) C dL_folds_24 (by decide) ?_
      refine r_isub C dL_folds_25 rfl ?_
      exact K _ (by simp only [if_neg c5])
    · refine r_iconst (v := 0) C dL_folds_19 (by decide) ?_
      refine r_goto (tgt := 26) C dL_folds_20 (by decide) ?_
      exact K _ (by simp only [if_pos c5])
  intro x6 e_x6
  have hp := hp x6 e_x6
  refine r_iload_n C dL_folds_26 2 rfl ?_
  obtain ⟨hps, hp⟩ := hp
  suffices K : ∀ x9 : Int32, x9 = ((if crease = 0 then (-x4) else (fA crease.toNatClampNeg))) → V p l e (rmm 0 0) s m args below meth c 3 D A 0 0 Q [[(aA, .inl (cI, 4, .inl fA))]] [(2, .int x4), (0, .ref aA), (1, .int crease)] 38 [.int x9, .int x6, .ref aA] by
    have hp := hps
    refine r_if_ne (tgt := 35) C dL_folds_27 (by decide) (fun c7 => ?_) (fun c7 => ?_)
    · have hp := hp.2 c7
      refine r_aload_n C dL_folds_35 1 rfl ?_
      refine r_iload_n C dL_folds_36 2 rfl ?_
      have h8 := hp
      refine r_iald (z := fA crease.toNatClampNeg) C 0 0 rfl rfl h8 dL_folds_37 rfl ?_
      exact K _ (by simp only [if_neg c7])
    · refine r_iload_n C dL_folds_30 0 rfl ?_
      refine r_ineg C dL_folds_31 rfl ?_
      refine r_goto (tgt := 38) C dL_folds_32 (by decide) ?_
      exact K _ (by simp only [if_pos c7])
  intro x9 e_x9
  have hp := hp x9 e_x9
  obtain ⟨h10, hp⟩ := hp
  obtain ⟨g11, e_g11⟩ : ∃ z : Nat → Int32, z = upd fA (x6.toNatClampNeg) x9 := ⟨_, rfl⟩
  have hp := hp g11 e_g11
  refine r_iast C 0 0 rfl rfl h10 (I' := [[(aA, .inl (cI, 4, .inl g11))]]) (by rw [e_g11]; rfl) dL_folds_38 ?_
  refine r_aload_n C dL_folds_39 1 rfl ?_
  refine r_iload_n C dL_folds_40 2 rfl ?_
  refine r_iload_n C dL_folds_41 2 rfl ?_
  suffices K : ∀ x13 : Int32, x13 = ((if crease = 0 then (-x4) else (x4))) → V p l e (rmm 0 0) s m args below meth c 3 D A 0 0 Q [[(aA, .inl (cI, 4, .inl g11))]] [(2, .int x4), (0, .ref aA), (1, .int crease)] 51 [.int x13, .int crease, .ref aA] by
    refine r_if_ne (tgt := 50) C dL_folds_42 (by decide) (fun c12 => ?_) (fun c12 => ?_)
    · refine r_iload_n C dL_folds_50 0 rfl ?_
      exact K _ (by simp only [if_neg c12])
    · refine r_iload_n C dL_folds_45 0 rfl ?_
      refine r_ineg C dL_folds_46 rfl ?_
      refine r_goto (tgt := 51) C dL_folds_47 (by decide) ?_
      exact K _ (by simp only [if_pos c12])
  intro x13 e_x13
  have hp := hp x13 e_x13
  have h14 := hp
  obtain ⟨g15, e_g15⟩ : ∃ z : Nat → Int32, z = upd g11 (crease.toNatClampNeg) x13 := ⟨_, rfl⟩
  refine r_iast C 0 0 rfl rfl h14 (I' := [[(aA, .inl (cI, 4, .inl g15))]]) (by rw [e_g15]; rfl) dL_folds_51 ?_
  have eF : F_L_folds fA crease = g15 := by have q := e_x2.symm; subst q; have q := e_x4.symm; subst q; have q := e_x6.symm; subst q; have q := e_x9.symm; subst q; have q := e_g11.symm; subst q; have q := e_x13.symm; subst q; have q := e_g15.symm; subst q; rfl
  exact r_vret (r := ()) C hA hr hlo dL_folds_52 [[(aA, .inl (cI, 4, .inl g15))]] (by simp only [eF]) rfl hQ
theorem k_L_length : kS yL_length cL_length 5 (some .int) 1 := ⟨t_454, t_6, t_455, by decide +kernel, by decide +kernel, by decide +kernel⟩
set_option maxRecDepth 20000 in
def F_L_length (fA : Nat → Int32) : Int32 := let x2 : Int32 := (if 0 ≤ ((fA 0) + (fA 0)) then (0) else (1)); let x3 : Int32 := (0 : Int32) + x2; let x5 : Int32 := (if (fA 0) ≤ (fA 1) then (0) else (1)); let x6 : Int32 := x3 + x5; let x8 : Int32 := (if 0 ≤ ((fA 0) + (fA 1)) then (0) else (1)); let x9 : Int32 := x6 + x8; let x11 : Int32 := (if (fA 0) ≤ (fA 2) then (0) else (1)); let x12 : Int32 := x9 + x11; let x14 : Int32 := (if 0 ≤ ((fA 0) + (fA 2)) then (0) else (1)); let x15 : Int32 := x12 + x14; let x17 : Int32 := (if (fA 0) ≤ (fA 3) then (0) else (1)); let x18 : Int32 := x15 + x17; let x20 : Int32 := (if 0 ≤ ((fA 0) + (fA 3)) then (0) else (1)); let x21 : Int32 := x18 + x20; let x22 : Int32 := x21 + 0; let x23 : Int32 := x22 + 0; let x24 : Int32 := x23 + 0; let x26 : Int32 := (if 0 ≤ ((fA 1) + (fA 1)) then (0) else (1)); let x27 : Int32 := x24 + x26; let x29 : Int32 := (if (fA 1) ≤ (fA 2) then (0) else (1)); let x30 : Int32 := x27 + x29; let x32 : Int32 := (if 0 ≤ ((fA 1) + (fA 2)) then (0) else (1)); let x33 : Int32 := x30 + x32; let x35 : Int32 := (if (fA 1) ≤ (fA 3) then (0) else (1)); let x36 : Int32 := x33 + x35; let x38 : Int32 := (if 0 ≤ ((fA 1) + (fA 3)) then (0) else (1)); let x39 : Int32 := x36 + x38; let x40 : Int32 := x39 + 0; let x41 : Int32 := x40 + 0; let x42 : Int32 := x41 + 0; let x43 : Int32 := x42 + 0; let x44 : Int32 := x43 + 0; let x46 : Int32 := (if 0 ≤ ((fA 2) + (fA 2)) then (0) else (1)); let x47 : Int32 := x44 + x46; let x49 : Int32 := (if (fA 2) ≤ (fA 3) then (0) else (1)); let x50 : Int32 := x47 + x49; let x52 : Int32 := (if 0 ≤ ((fA 2) + (fA 3)) then (0) else (1)); let x53 : Int32 := x50 + x52; let x54 : Int32 := x53 + 0; let x55 : Int32 := x54 + 0; let x56 : Int32 := x55 + 0; let x57 : Int32 := x56 + 0; let x58 : Int32 := x57 + 0; let x59 : Int32 := x58 + 0; let x60 : Int32 := x59 + 0; let x62 : Int32 := (if 0 ≤ ((fA 3) + (fA 3)) then (0) else (1)); let x63 : Int32 := x60 + x62; x63
set_option maxRecDepth 20000 in
set_option maxHeartbeats 8000000 in
theorem m_L_length (l : Launch) (D : va_G) (cI cL cP cJ : ClassId) (aA : Nat) (fA : Nat → Int32) : M vI l yL_length cL_length 5 (some .int) 0 0 D (tyF cI cL cP cJ) [.ref aA] [[(aA, .inl (cI, 4, .inl fA))]] (fun (r : Int32) (w1 : List va_W) => r = (F_L_length fA) ∧ w1 = [[(aA, .inl (cI, 4, .inl fA))]]) := by
  refine m_start (by decide +kernel) (Nat.le_of_ble_eq_true rfl) (fun p e s m args below meth c A Q hA hQ C hr hlo => ?_)
  refine r_Le (L' := [(0, .ref aA)]) rfl ?_
  refine r_iconst (v := 0) C dL_length_0 (by decide) ?_
  refine r_istore_n (L' := [(1, .int 0), (0, .ref aA)]) C dL_length_1 (by decide) rfl ?_
  refine r_iconst (v := 0) C dL_length_2 (by decide) ?_
  refine r_istore_n (L' := [(2, .int 0), (1, .int 0), (0, .ref aA)]) C dL_length_3 (by decide) rfl ?_
  refine r_iload_n C dL_length_4 0 rfl ?_
  refine r_bipush (v := 16) C dL_length_5 (by decide) ?_
  refine r_icmp_ge (tgt := 74) C dL_length_7 (by decide) (fun c => absurd c (by decide)) (fun _ => ?_)
  refine r_iload_n C dL_length_10 0 rfl ?_
  refine r_iconst (v := 4) C dL_length_11 (by decide) ?_
  refine r_idiv (z := 0) C dL_length_12 (by decide) (by decide) ?_
  refine r_istore_n (L' := [(3, .int 0), (2, .int 0), (1, .int 0), (0, .ref aA)]) C dL_length_13 (by decide) rfl ?_
  refine r_iload_n C dL_length_14 1 rfl ?_
  refine r_iconst (v := 4) C dL_length_15 (by decide) ?_
  refine r_irem (z := 0) C dL_length_16 (by decide) (by decide) ?_
  refine r_istore (L' := [(4, .int 0), (3, .int 0), (2, .int 0), (1, .int 0), (0, .ref aA)]) C dL_length_17 (by decide) rfl ?_
  refine r_iload_n C dL_length_19 3 rfl ?_
  refine r_iload_n C dL_length_20 1 rfl ?_
  refine r_iload C dL_length_21 0 rfl ?_
  refine r_icmp_ge (tgt := 40) C dL_length_23 (by decide) (fun _ => ?_) (fun c => absurd c (by decide))
  refine r_iconst (v := 0) C dL_length_40 (by decide) ?_
  refine r_iadd (z := 0) C dL_length_41 (by decide) ?_
  refine r_istore_n (L' := [(1, .int 0), (4, .int 0), (3, .int 0), (2, .int 0), (0, .ref aA)]) C dL_length_42 (by decide) rfl ?_
  refine r_iload_n C dL_length_43 0 rfl ?_
  refine r_iload_n C dL_length_44 2 rfl ?_
  refine r_iload C dL_length_45 1 rfl ?_
  refine r_icmp_gt (tgt := 65) C dL_length_47 (by decide) (fun c => absurd c (by decide)) (fun _ => ?_)
  refine r_aload_n C dL_length_50 4 rfl ?_
  refine r_iload_n C dL_length_51 2 rfl ?_
  refine r_iald (z := fA 0) C 0 0 rfl rfl (vp_in_nI (n := 0) (N := 4) (by decide) (by decide)) dL_length_52 (congrArg (fA) (by decide)) ?_
  refine r_aload_n C dL_length_53 4 rfl ?_
  refine r_iload C dL_length_54 1 rfl ?_
  refine r_iald (z := fA 0) C 0 0 rfl rfl (vp_in_nI (n := 0) (N := 4) (by decide) (by decide)) dL_length_56 (congrArg (fA) (by decide)) ?_
  refine r_iadd C dL_length_57 rfl ?_
  suffices K : ∀ x2 : Int32, x2 = ((if 0 ≤ ((fA 0) + (fA 0)) then (0) else (1))) → V p l e (rmm 0 0) s m args below meth c 5 D A 0 0 Q [[(aA, .inl (cI, 4, .inl fA))]] [(1, .int 0), (4, .int 0), (3, .int 0), (2, .int 0), (0, .ref aA)] 66 [.int x2, .int 0] by
    refine r_if_ge (tgt := 65) C dL_length_58 (by decide) (fun c1 => ?_) (fun c1 => ?_)
    · refine r_iconst (v := 0) C dL_length_65 (by decide) ?_
      exact K _ (by simp only [if_pos c1])
    · refine r_iconst (v := 1) C dL_length_61 (by decide) ?_
      refine r_goto (tgt := 66) C dL_length_62 (by decide) ?_
      exact K _ (by simp only [if_neg c1])
  intro x2 e_x2
  refine r_iadd C dL_length_66 rfl ?_
  refine r_top (fun x3 e_x3 => ?_)
  refine r_istore_n (L' := [(1, .int x3), (4, .int 0), (3, .int 0), (2, .int 0), (0, .ref aA)]) C dL_length_67 (by decide) rfl ?_
  refine r_iinc (v := 1) (L' := [(2, .int 1), (1, .int x3), (4, .int 0), (3, .int 0), (0, .ref aA)]) C dL_length_68 3 rfl (by decide) (by decide) rfl ?_
  refine r_goto (tgt := 4) C dL_length_71 (by decide) ?_
  refine r_iload_n C dL_length_4 0 rfl ?_
  refine r_bipush (v := 16) C dL_length_5 (by decide) ?_
  refine r_icmp_ge (tgt := 74) C dL_length_7 (by decide) (fun c => absurd c (by decide)) (fun _ => ?_)
  refine r_iload_n C dL_length_10 0 rfl ?_
  refine r_iconst (v := 4) C dL_length_11 (by decide) ?_
  refine r_idiv (z := 0) C dL_length_12 (by decide) (by decide) ?_
  refine r_istore_n (L' := [(3, .int 0), (2, .int 1), (1, .int x3), (4, .int 0), (0, .ref aA)]) C dL_length_13 (by decide) rfl ?_
  refine r_iload_n C dL_length_14 1 rfl ?_
  refine r_iconst (v := 4) C dL_length_15 (by decide) ?_
  refine r_irem (z := 1) C dL_length_16 (by decide) (by decide) ?_
  refine r_istore (L' := [(4, .int 1), (3, .int 0), (2, .int 1), (1, .int x3), (0, .ref aA)]) C dL_length_17 (by decide) rfl ?_
  refine r_iload_n C dL_length_19 3 rfl ?_
  refine r_iload_n C dL_length_20 1 rfl ?_
  refine r_iload C dL_length_21 0 rfl ?_
  refine r_icmp_ge (tgt := 40) C dL_length_23 (by decide) (fun c => absurd c (by decide)) (fun _ => ?_)
  refine r_aload_n C dL_length_26 4 rfl ?_
  refine r_iload_n C dL_length_27 1 rfl ?_
  refine r_iald (z := fA 0) C 0 0 rfl rfl (vp_in_nI (n := 0) (N := 4) (by decide) (by decide)) dL_length_28 (congrArg (fA) (by decide)) ?_
  refine r_aload_n C dL_length_29 4 rfl ?_
  refine r_iload C dL_length_30 0 rfl ?_
  refine r_iald (z := fA 1) C 0 0 rfl rfl (vp_in_nI (n := 1) (N := 4) (by decide) (by decide)) dL_length_32 (congrArg (fA) (by decide)) ?_
  suffices K : ∀ x5 : Int32, x5 = ((if (fA 0) ≤ (fA 1) then (0) else (1))) → V p l e (rmm 0 0) s m args below meth c 5 D A 0 0 Q [[(aA, .inl (cI, 4, .inl fA))]] [(4, .int 1), (3, .int 0), (2, .int 1), (1, .int x3), (0, .ref aA)] 41 [.int x5, .int x3] by
    refine r_icmp_le (tgt := 40) C dL_length_33 (by decide) (fun c4 => ?_) (fun c4 => ?_)
    · refine r_iconst (v := 0) C dL_length_40 (by decide) ?_
      exact K _ (by simp only [if_pos c4])
    · refine r_iconst (v := 1) C dL_length_36 (by decide) ?_
      refine r_goto (tgt := 41) C dL_length_37 (by decide) ?_
      exact K _ (by simp only [if_neg c4])
  intro x5 e_x5
  refine r_iadd C dL_length_41 rfl ?_
  refine r_top (fun x6 e_x6 => ?_)
  refine r_istore_n (L' := [(1, .int x6), (4, .int 1), (3, .int 0), (2, .int 1), (0, .ref aA)]) C dL_length_42 (by decide) rfl ?_
  refine r_iload_n C dL_length_43 0 rfl ?_
  refine r_iload_n C dL_length_44 2 rfl ?_
  refine r_iload C dL_length_45 1 rfl ?_
  refine r_icmp_gt (tgt := 65) C dL_length_47 (by decide) (fun c => absurd c (by decide)) (fun _ => ?_)
  refine r_aload_n C dL_length_50 4 rfl ?_
  refine r_iload_n C dL_length_51 2 rfl ?_
  refine r_iald (z := fA 0) C 0 0 rfl rfl (vp_in_nI (n := 0) (N := 4) (by decide) (by decide)) dL_length_52 (congrArg (fA) (by decide)) ?_
  refine r_aload_n C dL_length_53 4 rfl ?_
  refine r_iload C dL_length_54 1 rfl ?_
  refine r_iald (z := fA 1) C 0 0 rfl rfl (vp_in_nI (n := 1) (N := 4) (by decide) (by decide)) dL_length_56 (congrArg (fA) (by decide)) ?_
  refine r_iadd C dL_length_57 rfl ?_
  suffices K : ∀ x8 : Int32, x8 = ((if 0 ≤ ((fA 0) + (fA 1)) then (0) else (1))) → V p l e (rmm 0 0) s m args below meth c 5 D A 0 0 Q [[(aA, .inl (cI, 4, .inl fA))]] [(1, .int x6), (4, .int 1), (3, .int 0), (2, .int 1), (0, .ref aA)] 66 [.int x8, .int x6] by
    refine r_if_ge (tgt := 65) C dL_length_58 (by decide) (fun c7 => ?_) (fun c7 => ?_)
    · refine r_iconst (v := 0) C dL_length_65 (by decide) ?_
      exact K _ (by simp only [if_pos c7])
    · refine r_iconst (v := 1) C dL_length_61 (by decide) ?_
      refine r_goto (tgt := 66) C dL_length_62 (by decide) ?_
      exact K _ (by simp only [if_neg c7])
  intro x8 e_x8
  refine r_iadd C dL_length_66 rfl ?_
  refine r_top (fun x9 e_x9 => ?_)
  refine r_istore_n (L' := [(1, .int x9), (4, .int 1), (3, .int 0), (2, .int 1), (0, .ref aA)]) C dL_length_67 (by decide) rfl ?_
  refine r_iinc (v := 2) (L' := [(2, .int 2), (1, .int x9), (4, .int 1), (3, .int 0), (0, .ref aA)]) C dL_length_68 3 rfl (by decide) (by decide) rfl ?_
  refine r_goto (tgt := 4) C dL_length_71 (by decide) ?_
  refine r_iload_n C dL_length_4 0 rfl ?_
  refine r_bipush (v := 16) C dL_length_5 (by decide) ?_
  refine r_icmp_ge (tgt := 74) C dL_length_7 (by decide) (fun c => absurd c (by decide)) (fun _ => ?_)
  refine r_iload_n C dL_length_10 0 rfl ?_
  refine r_iconst (v := 4) C dL_length_11 (by decide) ?_
  refine r_idiv (z := 0) C dL_length_12 (by decide) (by decide) ?_
  refine r_istore_n (L' := [(3, .int 0), (2, .int 2), (1, .int x9), (4, .int 1), (0, .ref aA)]) C dL_length_13 (by decide) rfl ?_
  refine r_iload_n C dL_length_14 1 rfl ?_
  refine r_iconst (v := 4) C dL_length_15 (by decide) ?_
  refine r_irem (z := 2) C dL_length_16 (by decide) (by decide) ?_
  refine r_istore (L' := [(4, .int 2), (3, .int 0), (2, .int 2), (1, .int x9), (0, .ref aA)]) C dL_length_17 (by decide) rfl ?_
  refine r_iload_n C dL_length_19 3 rfl ?_
  refine r_iload_n C dL_length_20 1 rfl ?_
  refine r_iload C dL_length_21 0 rfl ?_
  refine r_icmp_ge (tgt := 40) C dL_length_23 (by decide) (fun c => absurd c (by decide)) (fun _ => ?_)
  refine r_aload_n C dL_length_26 4 rfl ?_
  refine r_iload_n C dL_length_27 1 rfl ?_
  refine r_iald (z := fA 0) C 0 0 rfl rfl (vp_in_nI (n := 0) (N := 4) (by decide) (by decide)) dL_length_28 (congrArg (fA) (by decide)) ?_
  refine r_aload_n C dL_length_29 4 rfl ?_
  refine r_iload C dL_length_30 0 rfl ?_
  refine r_iald (z := fA 2) C 0 0 rfl rfl (vp_in_nI (n := 2) (N := 4) (by decide) (by decide)) dL_length_32 (congrArg (fA) (by decide)) ?_
  suffices K : ∀ x11 : Int32, x11 = ((if (fA 0) ≤ (fA 2) then (0) else (1))) → V p l e (rmm 0 0) s m args below meth c 5 D A 0 0 Q [[(aA, .inl (cI, 4, .inl fA))]] [(4, .int 2), (3, .int 0), (2, .int 2), (1, .int x9), (0, .ref aA)] 41 [.int x11, .int x9] by
    refine r_icmp_le (tgt := 40) C dL_length_33 (by decide) (fun c10 => ?_) (fun c10 => ?_)
    · refine r_iconst (v := 0) C dL_length_40 (by decide) ?_
      exact K _ (by simp only [if_pos c10])
    · refine r_iconst (v := 1) C dL_length_36 (by decide) ?_
      refine r_goto (tgt := 41) C dL_length_37 (by decide) ?_
      exact K _ (by simp only [if_neg c10])
  intro x11 e_x11
  refine r_iadd C dL_length_41 rfl ?_
  refine r_top (fun x12 e_x12 => ?_)
  refine r_istore_n (L' := [(1, .int x12), (4, .int 2), (3, .int 0), (2, .int 2), (0, .ref aA)]) C dL_length_42 (by decide) rfl ?_
  refine r_iload_n C dL_length_43 0 rfl ?_
  refine r_iload_n C dL_length_44 2 rfl ?_
  refine r_iload C dL_length_45 1 rfl ?_
  refine r_icmp_gt (tgt := 65) C dL_length_47 (by decide) (fun c => absurd c (by decide)) (fun _ => ?_)
  refine r_aload_n C dL_length_50 4 rfl ?_
  refine r_iload_n C dL_length_51 2 rfl ?_
  refine r_iald (z := fA 0) C 0 0 rfl rfl (vp_in_nI (n := 0) (N := 4) (by decide) (by decide)) dL_length_52 (congrArg (fA) (by decide)) ?_
  refine r_aload_n C dL_length_53 4 rfl ?_
  refine r_iload C dL_length_54 1 rfl ?_
  refine r_iald (z := fA 2) C 0 0 rfl rfl (vp_in_nI (n := 2) (N := 4) (by decide) (by decide)) dL_length_56 (congrArg (fA) (by decide)) ?_
  refine r_iadd C dL_length_57 rfl ?_
  suffices K : ∀ x14 : Int32, x14 = ((if 0 ≤ ((fA 0) + (fA 2)) then (0) else (1))) → V p l e (rmm 0 0) s m args below meth c 5 D A 0 0 Q [[(aA, .inl (cI, 4, .inl fA))]] [(1, .int x12), (4, .int 2), (3, .int 0), (2, .int 2), (0, .ref aA)] 66 [.int x14, .int x12] by
    refine r_if_ge (tgt := 65) C dL_length_58 (by decide) (fun c13 => ?_) (fun c13 => ?_)
    · refine r_iconst (v := 0) C dL_length_65 (by decide) ?_
      exact K _ (by simp only [if_pos c13])
    · refine r_iconst (v := 1) C dL_length_61 (by decide) ?_
      refine r_goto (tgt := 66) C dL_length_62 (by decide) ?_
      exact K _ (by simp only [if_neg c13])
  intro x14 e_x14
  refine r_iadd C dL_length_66 rfl ?_
  refine r_top (fun x15 e_x15 => ?_)
  refine r_istore_n (L' := [(1, .int x15), (4, .int 2), (3, .int 0), (2, .int 2), (0, .ref aA)]) C dL_length_67 (by decide) rfl ?_
  refine r_iinc (v := 3) (L' := [(2, .int 3), (1, .int x15), (4, .int 2), (3, .int 0), (0, .ref aA)]) C dL_length_68 3 rfl (by decide) (by decide) rfl ?_
  refine r_goto (tgt := 4) C dL_length_71 (by decide) ?_
  refine r_iload_n C dL_length_4 0 rfl ?_
  refine r_bipush (v := 16) C dL_length_5 (by decide) ?_
  refine r_icmp_ge (tgt := 74) C dL_length_7 (by decide) (fun c => absurd c (by decide)) (fun _ => ?_)
  refine r_iload_n C dL_length_10 0 rfl ?_
  refine r_iconst (v := 4) C dL_length_11 (by decide) ?_
  refine r_idiv (z := 0) C dL_length_12 (by decide) (by decide) ?_
  refine r_istore_n (L' := [(3, .int 0), (2, .int 3), (1, .int x15), (4, .int 2), (0, .ref aA)]) C dL_length_13 (by decide) rfl ?_
  refine r_iload_n C dL_length_14 1 rfl ?_
  refine r_iconst (v := 4) C dL_length_15 (by decide) ?_
  refine r_irem (z := 3) C dL_length_16 (by decide) (by decide) ?_
  refine r_istore (L' := [(4, .int 3), (3, .int 0), (2, .int 3), (1, .int x15), (0, .ref aA)]) C dL_length_17 (by decide) rfl ?_
  refine r_iload_n C dL_length_19 3 rfl ?_
  refine r_iload_n C dL_length_20 1 rfl ?_
  refine r_iload C dL_length_21 0 rfl ?_
  refine r_icmp_ge (tgt := 40) C dL_length_23 (by decide) (fun c => absurd c (by decide)) (fun _ => ?_)
  refine r_aload_n C dL_length_26 4 rfl ?_
  refine r_iload_n C dL_length_27 1 rfl ?_
  refine r_iald (z := fA 0) C 0 0 rfl rfl (vp_in_nI (n := 0) (N := 4) (by decide) (by decide)) dL_length_28 (congrArg (fA) (by decide)) ?_
  refine r_aload_n C dL_length_29 4 rfl ?_
  refine r_iload C dL_length_30 0 rfl ?_
  refine r_iald (z := fA 3) C 0 0 rfl rfl (vp_in_nI (n := 3) (N := 4) (by decide) (by decide)) dL_length_32 (congrArg (fA) (by decide)) ?_
  suffices K : ∀ x17 : Int32, x17 = ((if (fA 0) ≤ (fA 3) then (0) else (1))) → V p l e (rmm 0 0) s m args below meth c 5 D A 0 0 Q [[(aA, .inl (cI, 4, .inl fA))]] [(4, .int 3), (3, .int 0), (2, .int 3), (1, .int x15), (0, .ref aA)] 41 [.int x17, .int x15] by
    refine r_icmp_le (tgt := 40) C dL_length_33 (by decide) (fun c16 => ?_) (fun c16 => ?_)
    · refine r_iconst (v := 0) C dL_length_40 (by decide) ?_
      exact K _ (by simp only [if_pos c16])
    · refine r_iconst (v := 1) C dL_length_36 (by decide) ?_
      refine r_goto (tgt := 41) C dL_length_37 (by decide) ?_
      exact K _ (by simp only [if_neg c16])
  intro x17 e_x17
  refine r_iadd C dL_length_41 rfl ?_
  refine r_top (fun x18 e_x18 => ?_)
  refine r_istore_n (L' := [(1, .int x18), (4, .int 3), (3, .int 0), (2, .int 3), (0, .ref aA)]) C dL_length_42 (by decide) rfl ?_
  refine r_iload_n C dL_length_43 0 rfl ?_
  refine r_iload_n C dL_length_44 2 rfl ?_
  refine r_iload C dL_length_45 1 rfl ?_
  refine r_icmp_gt (tgt := 65) C dL_length_47 (by decide) (fun c => absurd c (by decide)) (fun _ => ?_)
  refine r_aload_n C dL_length_50 4 rfl ?_
  refine r_iload_n C dL_length_51 2 rfl ?_
  refine r_iald (z := fA 0) C 0 0 rfl rfl (vp_in_nI (n := 0) (N := 4) (by decide) (by decide)) dL_length_52 (congrArg (fA) (by decide)) ?_
  refine r_aload_n C dL_length_53 4 rfl ?_
  refine r_iload C dL_length_54 1 rfl ?_
  refine r_iald (z := fA 3) C 0 0 rfl rfl (vp_in_nI (n := 3) (N := 4) (by decide) (by decide)) dL_length_56 (congrArg (fA) (by decide)) ?_
  refine r_iadd C dL_length_57 rfl ?_
  suffices K : ∀ x20 : Int32, x20 = ((if 0 ≤ ((fA 0) + (fA 3)) then (0) else (1))) → V p l e (rmm 0 0) s m args below meth c 5 D A 0 0 Q [[(aA, .inl (cI, 4, .inl fA))]] [(1, .int x18), (4, .int 3), (3, .int 0), (2, .int 3), (0, .ref aA)] 66 [.int x20, .int x18] by
    refine r_if_ge (tgt := 65) C dL_length_58 (by decide) (fun c19 => ?_) (fun c19 => ?_)
    · refine r_iconst (v := 0) C dL_length_65 (by decide) ?_
      exact K _ (by simp only [if_pos c19])
    · refine r_iconst (v := 1) C dL_length_61 (by decide) ?_
      refine r_goto (tgt := 66) C dL_length_62 (by decide) ?_
      exact K _ (by simp only [if_neg c19])
  intro x20 e_x20
  refine r_iadd C dL_length_66 rfl ?_
  refine r_top (fun x21 e_x21 => ?_)
  refine r_istore_n (L' := [(1, .int x21), (4, .int 3), (3, .int 0), (2, .int 3), (0, .ref aA)]) C dL_length_67 (by decide) rfl ?_
  refine r_iinc (v := 4) (L' := [(2, .int 4), (1, .int x21), (4, .int 3), (3, .int 0), (0, .ref aA)]) C dL_length_68 3 rfl (by decide) (by decide) rfl ?_
  refine r_goto (tgt := 4) C dL_length_71 (by decide) ?_
  refine r_iload_n C dL_length_4 0 rfl ?_
  refine r_bipush (v := 16) C dL_length_5 (by decide) ?_
  refine r_icmp_ge (tgt := 74) C dL_length_7 (by decide) (fun c => absurd c (by decide)) (fun _ => ?_)
  refine r_iload_n C dL_length_10 0 rfl ?_
  refine r_iconst (v := 4) C dL_length_11 (by decide) ?_
  refine r_idiv (z := 1) C dL_length_12 (by decide) (by decide) ?_
  refine r_istore_n (L' := [(3, .int 1), (2, .int 4), (1, .int x21), (4, .int 3), (0, .ref aA)]) C dL_length_13 (by decide) rfl ?_
  refine r_iload_n C dL_length_14 1 rfl ?_
  refine r_iconst (v := 4) C dL_length_15 (by decide) ?_
  refine r_irem (z := 0) C dL_length_16 (by decide) (by decide) ?_
  refine r_istore (L' := [(4, .int 0), (3, .int 1), (2, .int 4), (1, .int x21), (0, .ref aA)]) C dL_length_17 (by decide) rfl ?_
  refine r_iload_n C dL_length_19 3 rfl ?_
  refine r_iload_n C dL_length_20 1 rfl ?_
  refine r_iload C dL_length_21 0 rfl ?_
  refine r_icmp_ge (tgt := 40) C dL_length_23 (by decide) (fun _ => ?_) (fun c => absurd c (by decide))
  refine r_iconst (v := 0) C dL_length_40 (by decide) ?_
  refine r_iadd C dL_length_41 rfl ?_
  refine r_top (fun x22 e_x22 => ?_)
  refine r_istore_n (L' := [(1, .int x22), (4, .int 0), (3, .int 1), (2, .int 4), (0, .ref aA)]) C dL_length_42 (by decide) rfl ?_
  refine r_iload_n C dL_length_43 0 rfl ?_
  refine r_iload_n C dL_length_44 2 rfl ?_
  refine r_iload C dL_length_45 1 rfl ?_
  refine r_icmp_gt (tgt := 65) C dL_length_47 (by decide) (fun _ => ?_) (fun c => absurd c (by decide))
  refine r_iconst (v := 0) C dL_length_65 (by decide) ?_
  refine r_iadd C dL_length_66 rfl ?_
  refine r_top (fun x23 e_x23 => ?_)
  refine r_istore_n (L' := [(1, .int x23), (4, .int 0), (3, .int 1), (2, .int 4), (0, .ref aA)]) C dL_length_67 (by decide) rfl ?_
  refine r_iinc (v := 5) (L' := [(2, .int 5), (1, .int x23), (4, .int 0), (3, .int 1), (0, .ref aA)]) C dL_length_68 3 rfl (by decide) (by decide) rfl ?_
  refine r_goto (tgt := 4) C dL_length_71 (by decide) ?_
  refine r_iload_n C dL_length_4 0 rfl ?_
  refine r_bipush (v := 16) C dL_length_5 (by decide) ?_
  refine r_icmp_ge (tgt := 74) C dL_length_7 (by decide) (fun c => absurd c (by decide)) (fun _ => ?_)
  refine r_iload_n C dL_length_10 0 rfl ?_
  refine r_iconst (v := 4) C dL_length_11 (by decide) ?_
  refine r_idiv (z := 1) C dL_length_12 (by decide) (by decide) ?_
  refine r_istore_n (L' := [(3, .int 1), (2, .int 5), (1, .int x23), (4, .int 0), (0, .ref aA)]) C dL_length_13 (by decide) rfl ?_
  refine r_iload_n C dL_length_14 1 rfl ?_
  refine r_iconst (v := 4) C dL_length_15 (by decide) ?_
  refine r_irem (z := 1) C dL_length_16 (by decide) (by decide) ?_
  refine r_istore (L' := [(4, .int 1), (3, .int 1), (2, .int 5), (1, .int x23), (0, .ref aA)]) C dL_length_17 (by decide) rfl ?_
  refine r_iload_n C dL_length_19 3 rfl ?_
  refine r_iload_n C dL_length_20 1 rfl ?_
  refine r_iload C dL_length_21 0 rfl ?_
  refine r_icmp_ge (tgt := 40) C dL_length_23 (by decide) (fun _ => ?_) (fun c => absurd c (by decide))
  refine r_iconst (v := 0) C dL_length_40 (by decide) ?_
  refine r_iadd C dL_length_41 rfl ?_
  refine r_top (fun x24 e_x24 => ?_)
  refine r_istore_n (L' := [(1, .int x24), (4, .int 1), (3, .int 1), (2, .int 5), (0, .ref aA)]) C dL_length_42 (by decide) rfl ?_
  refine r_iload_n C dL_length_43 0 rfl ?_
  refine r_iload_n C dL_length_44 2 rfl ?_
  refine r_iload C dL_length_45 1 rfl ?_
  refine r_icmp_gt (tgt := 65) C dL_length_47 (by decide) (fun c => absurd c (by decide)) (fun _ => ?_)
  refine r_aload_n C dL_length_50 4 rfl ?_
  refine r_iload_n C dL_length_51 2 rfl ?_
  refine r_iald (z := fA 1) C 0 0 rfl rfl (vp_in_nI (n := 1) (N := 4) (by decide) (by decide)) dL_length_52 (congrArg (fA) (by decide)) ?_
  refine r_aload_n C dL_length_53 4 rfl ?_
  refine r_iload C dL_length_54 1 rfl ?_
  refine r_iald (z := fA 1) C 0 0 rfl rfl (vp_in_nI (n := 1) (N := 4) (by decide) (by decide)) dL_length_56 (congrArg (fA) (by decide)) ?_
  refine r_iadd C dL_length_57 rfl ?_
  suffices K : ∀ x26 : Int32, x26 = ((if 0 ≤ ((fA 1) + (fA 1)) then (0) else (1))) → V p l e (rmm 0 0) s m args below meth c 5 D A 0 0 Q [[(aA, .inl (cI, 4, .inl fA))]] [(1, .int x24), (4, .int 1), (3, .int 1), (2, .int 5), (0, .ref aA)] 66 [.int x26, .int x24] by
    refine r_if_ge (tgt := 65) C dL_length_58 (by decide) (fun c25 => ?_) (fun c25 => ?_)
    · refine r_iconst (v := 0) C dL_length_65 (by decide) ?_
      exact K _ (by simp only [if_pos c25])
    · refine r_iconst (v := 1) C dL_length_61 (by decide) ?_
      refine r_goto (tgt := 66) C dL_length_62 (by decide) ?_
      exact K _ (by simp only [if_neg c25])
  intro x26 e_x26
  refine r_iadd C dL_length_66 rfl ?_
  refine r_top (fun x27 e_x27 => ?_)
  refine r_istore_n (L' := [(1, .int x27), (4, .int 1), (3, .int 1), (2, .int 5), (0, .ref aA)]) C dL_length_67 (by decide) rfl ?_
  refine r_iinc (v := 6) (L' := [(2, .int 6), (1, .int x27), (4, .int 1), (3, .int 1), (0, .ref aA)]) C dL_length_68 3 rfl (by decide) (by decide) rfl ?_
  refine r_goto (tgt := 4) C dL_length_71 (by decide) ?_
  refine r_iload_n C dL_length_4 0 rfl ?_
  refine r_bipush (v := 16) C dL_length_5 (by decide) ?_
  refine r_icmp_ge (tgt := 74) C dL_length_7 (by decide) (fun c => absurd c (by decide)) (fun _ => ?_)
  refine r_iload_n C dL_length_10 0 rfl ?_
  refine r_iconst (v := 4) C dL_length_11 (by decide) ?_
  refine r_idiv (z := 1) C dL_length_12 (by decide) (by decide) ?_
  refine r_istore_n (L' := [(3, .int 1), (2, .int 6), (1, .int x27), (4, .int 1), (0, .ref aA)]) C dL_length_13 (by decide) rfl ?_
  refine r_iload_n C dL_length_14 1 rfl ?_
  refine r_iconst (v := 4) C dL_length_15 (by decide) ?_
  refine r_irem (z := 2) C dL_length_16 (by decide) (by decide) ?_
  refine r_istore (L' := [(4, .int 2), (3, .int 1), (2, .int 6), (1, .int x27), (0, .ref aA)]) C dL_length_17 (by decide) rfl ?_
  refine r_iload_n C dL_length_19 3 rfl ?_
  refine r_iload_n C dL_length_20 1 rfl ?_
  refine r_iload C dL_length_21 0 rfl ?_
  refine r_icmp_ge (tgt := 40) C dL_length_23 (by decide) (fun c => absurd c (by decide)) (fun _ => ?_)
  refine r_aload_n C dL_length_26 4 rfl ?_
  refine r_iload_n C dL_length_27 1 rfl ?_
  refine r_iald (z := fA 1) C 0 0 rfl rfl (vp_in_nI (n := 1) (N := 4) (by decide) (by decide)) dL_length_28 (congrArg (fA) (by decide)) ?_
  refine r_aload_n C dL_length_29 4 rfl ?_
  refine r_iload C dL_length_30 0 rfl ?_
  refine r_iald (z := fA 2) C 0 0 rfl rfl (vp_in_nI (n := 2) (N := 4) (by decide) (by decide)) dL_length_32 (congrArg (fA) (by decide)) ?_
  suffices K : ∀ x29 : Int32, x29 = ((if (fA 1) ≤ (fA 2) then (0) else (1))) → V p l e (rmm 0 0) s m args below meth c 5 D A 0 0 Q [[(aA, .inl (cI, 4, .inl fA))]] [(4, .int 2), (3, .int 1), (2, .int 6), (1, .int x27), (0, .ref aA)] 41 [.int x29, .int x27] by
    refine r_icmp_le (tgt := 40) C dL_length_33 (by decide) (fun c28 => ?_) (fun c28 => ?_)
    · refine r_iconst (v := 0) C dL_length_40 (by decide) ?_
      exact K _ (by simp only [if_pos c28])
    · refine r_iconst (v := 1) C dL_length_36 (by decide) ?_
      refine r_goto (tgt := 41) C dL_length_37 (by decide) ?_
      exact K _ (by simp only [if_neg c28])
  intro x29 e_x29
  refine r_iadd C dL_length_41 rfl ?_
  refine r_top (fun x30 e_x30 => ?_)
  refine r_istore_n (L' := [(1, .int x30), (4, .int 2), (3, .int 1), (2, .int 6), (0, .ref aA)]) C dL_length_42 (by decide) rfl ?_
  refine r_iload_n C dL_length_43 0 rfl ?_
  refine r_iload_n C dL_length_44 2 rfl ?_
  refine r_iload C dL_length_45 1 rfl ?_
  refine r_icmp_gt (tgt := 65) C dL_length_47 (by decide) (fun c => absurd c (by decide)) (fun _ => ?_)
  refine r_aload_n C dL_length_50 4 rfl ?_
  refine r_iload_n C dL_length_51 2 rfl ?_
  refine r_iald (z := fA 1) C 0 0 rfl rfl (vp_in_nI (n := 1) (N := 4) (by decide) (by decide)) dL_length_52 (congrArg (fA) (by decide)) ?_
  refine r_aload_n C dL_length_53 4 rfl ?_
  refine r_iload C dL_length_54 1 rfl ?_
  refine r_iald (z := fA 2) C 0 0 rfl rfl (vp_in_nI (n := 2) (N := 4) (by decide) (by decide)) dL_length_56 (congrArg (fA) (by decide)) ?_
  refine r_iadd C dL_length_57 rfl ?_
  suffices K : ∀ x32 : Int32, x32 = ((if 0 ≤ ((fA 1) + (fA 2)) then (0) else (1))) → V p l e (rmm 0 0) s m args below meth c 5 D A 0 0 Q [[(aA, .inl (cI, 4, .inl fA))]] [(1, .int x30), (4, .int 2), (3, .int 1), (2, .int 6), (0, .ref aA)] 66 [.int x32, .int x30] by
    refine r_if_ge (tgt := 65) C dL_length_58 (by decide) (fun c31 => ?_) (fun c31 => ?_)
    · refine r_iconst (v := 0) C dL_length_65 (by decide) ?_
      exact K _ (by simp only [if_pos c31])
    · refine r_iconst (v := 1) C dL_length_61 (by decide) ?_
      refine r_goto (tgt := 66) C dL_length_62 (by decide) ?_
      exact K _ (by simp only [if_neg c31])
  intro x32 e_x32
  refine r_iadd C dL_length_66 rfl ?_
  refine r_top (fun x33 e_x33 => ?_)
  refine r_istore_n (L' := [(1, .int x33), (4, .int 2), (3, .int 1), (2, .int 6), (0, .ref aA)]) C dL_length_67 (by decide) rfl ?_
  refine r_iinc (v := 7) (L' := [(2, .int 7), (1, .int x33), (4, .int 2), (3, .int 1), (0, .ref aA)]) C dL_length_68 3 rfl (by decide) (by decide) rfl ?_
  refine r_goto (tgt := 4) C dL_length_71 (by decide) ?_
  refine r_iload_n C dL_length_4 0 rfl ?_
  refine r_bipush (v := 16) C dL_length_5 (by decide) ?_
  refine r_icmp_ge (tgt := 74) C dL_length_7 (by decide) (fun c => absurd c (by decide)) (fun _ => ?_)
  refine r_iload_n C dL_length_10 0 rfl ?_
  refine r_iconst (v := 4) C dL_length_11 (by decide) ?_
  refine r_idiv (z := 1) C dL_length_12 (by decide) (by decide) ?_
  refine r_istore_n (L' := [(3, .int 1), (2, .int 7), (1, .int x33), (4, .int 2), (0, .ref aA)]) C dL_length_13 (by decide) rfl ?_
  refine r_iload_n C dL_length_14 1 rfl ?_
  refine r_iconst (v := 4) C dL_length_15 (by decide) ?_
  refine r_irem (z := 3) C dL_length_16 (by decide) (by decide) ?_
  refine r_istore (L' := [(4, .int 3), (3, .int 1), (2, .int 7), (1, .int x33), (0, .ref aA)]) C dL_length_17 (by decide) rfl ?_
  refine r_iload_n C dL_length_19 3 rfl ?_
  refine r_iload_n C dL_length_20 1 rfl ?_
  refine r_iload C dL_length_21 0 rfl ?_
  refine r_icmp_ge (tgt := 40) C dL_length_23 (by decide) (fun c => absurd c (by decide)) (fun _ => ?_)
  refine r_aload_n C dL_length_26 4 rfl ?_
  refine r_iload_n C dL_length_27 1 rfl ?_
  refine r_iald (z := fA 1) C 0 0 rfl rfl (vp_in_nI (n := 1) (N := 4) (by decide) (by decide)) dL_length_28 (congrArg (fA) (by decide)) ?_
  refine r_aload_n C dL_length_29 4 rfl ?_
  refine r_iload C dL_length_30 0 rfl ?_
  refine r_iald (z := fA 3) C 0 0 rfl rfl (vp_in_nI (n := 3) (N := 4) (by decide) (by decide)) dL_length_32 (congrArg (fA) (by decide)) ?_
  suffices K : ∀ x35 : Int32, x35 = ((if (fA 1) ≤ (fA 3) then (0) else (1))) → V p l e (rmm 0 0) s m args below meth c 5 D A 0 0 Q [[(aA, .inl (cI, 4, .inl fA))]] [(4, .int 3), (3, .int 1), (2, .int 7), (1, .int x33), (0, .ref aA)] 41 [.int x35, .int x33] by
    refine r_icmp_le (tgt := 40) C dL_length_33 (by decide) (fun c34 => ?_) (fun c34 => ?_)
    · refine r_iconst (v := 0) C dL_length_40 (by decide) ?_
      exact K _ (by simp only [if_pos c34])
    · refine r_iconst (v := 1) C dL_length_36 (by decide) ?_
      refine r_goto (tgt := 41) C dL_length_37 (by decide) ?_
      exact K _ (by simp only [if_neg c34])
  intro x35 e_x35
  refine r_iadd C dL_length_41 rfl ?_
  refine r_top (fun x36 e_x36 => ?_)
  refine r_istore_n (L' := [(1, .int x36), (4, .int 3), (3, .int 1), (2, .int 7), (0, .ref aA)]) C dL_length_42 (by decide) rfl ?_
  refine r_iload_n C dL_length_43 0 rfl ?_
  refine r_iload_n C dL_length_44 2 rfl ?_
  refine r_iload C dL_length_45 1 rfl ?_
  refine r_icmp_gt (tgt := 65) C dL_length_47 (by decide) (fun c => absurd c (by decide)) (fun _ => ?_)
  refine r_aload_n C dL_length_50 4 rfl ?_
  refine r_iload_n C dL_length_51 2 rfl ?_
  refine r_iald (z := fA 1) C 0 0 rfl rfl (vp_in_nI (n := 1) (N := 4) (by decide) (by decide)) dL_length_52 (congrArg (fA) (by decide)) ?_
  refine r_aload_n C dL_length_53 4 rfl ?_
  refine r_iload C dL_length_54 1 rfl ?_
  refine r_iald (z := fA 3) C 0 0 rfl rfl (vp_in_nI (n := 3) (N := 4) (by decide) (by decide)) dL_length_56 (congrArg (fA) (by decide)) ?_
  refine r_iadd C dL_length_57 rfl ?_
  suffices K : ∀ x38 : Int32, x38 = ((if 0 ≤ ((fA 1) + (fA 3)) then (0) else (1))) → V p l e (rmm 0 0) s m args below meth c 5 D A 0 0 Q [[(aA, .inl (cI, 4, .inl fA))]] [(1, .int x36), (4, .int 3), (3, .int 1), (2, .int 7), (0, .ref aA)] 66 [.int x38, .int x36] by
    refine r_if_ge (tgt := 65) C dL_length_58 (by decide) (fun c37 => ?_) (fun c37 => ?_)
    · refine r_iconst (v := 0) C dL_length_65 (by decide) ?_
      exact K _ (by simp only [if_pos c37])
    · refine r_iconst (v := 1) C dL_length_61 (by decide) ?_
      refine r_goto (tgt := 66) C dL_length_62 (by decide) ?_
      exact K _ (by simp only [if_neg c37])
  intro x38 e_x38
  refine r_iadd C dL_length_66 rfl ?_
  refine r_top (fun x39 e_x39 => ?_)
  refine r_istore_n (L' := [(1, .int x39), (4, .int 3), (3, .int 1), (2, .int 7), (0, .ref aA)]) C dL_length_67 (by decide) rfl ?_
  refine r_iinc (v := 8) (L' := [(2, .int 8), (1, .int x39), (4, .int 3), (3, .int 1), (0, .ref aA)]) C dL_length_68 3 rfl (by decide) (by decide) rfl ?_
  refine r_goto (tgt := 4) C dL_length_71 (by decide) ?_
  refine r_iload_n C dL_length_4 0 rfl ?_
  refine r_bipush (v := 16) C dL_length_5 (by decide) ?_
  refine r_icmp_ge (tgt := 74) C dL_length_7 (by decide) (fun c => absurd c (by decide)) (fun _ => ?_)
  refine r_iload_n C dL_length_10 0 rfl ?_
  refine r_iconst (v := 4) C dL_length_11 (by decide) ?_
  refine r_idiv (z := 2) C dL_length_12 (by decide) (by decide) ?_
  refine r_istore_n (L' := [(3, .int 2), (2, .int 8), (1, .int x39), (4, .int 3), (0, .ref aA)]) C dL_length_13 (by decide) rfl ?_
  refine r_iload_n C dL_length_14 1 rfl ?_
  refine r_iconst (v := 4) C dL_length_15 (by decide) ?_
  refine r_irem (z := 0) C dL_length_16 (by decide) (by decide) ?_
  refine r_istore (L' := [(4, .int 0), (3, .int 2), (2, .int 8), (1, .int x39), (0, .ref aA)]) C dL_length_17 (by decide) rfl ?_
  refine r_iload_n C dL_length_19 3 rfl ?_
  refine r_iload_n C dL_length_20 1 rfl ?_
  refine r_iload C dL_length_21 0 rfl ?_
  refine r_icmp_ge (tgt := 40) C dL_length_23 (by decide) (fun _ => ?_) (fun c => absurd c (by decide))
  refine r_iconst (v := 0) C dL_length_40 (by decide) ?_
  refine r_iadd C dL_length_41 rfl ?_
  refine r_top (fun x40 e_x40 => ?_)
  refine r_istore_n (L' := [(1, .int x40), (4, .int 0), (3, .int 2), (2, .int 8), (0, .ref aA)]) C dL_length_42 (by decide) rfl ?_
  refine r_iload_n C dL_length_43 0 rfl ?_
  refine r_iload_n C dL_length_44 2 rfl ?_
  refine r_iload C dL_length_45 1 rfl ?_
  refine r_icmp_gt (tgt := 65) C dL_length_47 (by decide) (fun _ => ?_) (fun c => absurd c (by decide))
  refine r_iconst (v := 0) C dL_length_65 (by decide) ?_
  refine r_iadd C dL_length_66 rfl ?_
  refine r_top (fun x41 e_x41 => ?_)
  refine r_istore_n (L' := [(1, .int x41), (4, .int 0), (3, .int 2), (2, .int 8), (0, .ref aA)]) C dL_length_67 (by decide) rfl ?_
  refine r_iinc (v := 9) (L' := [(2, .int 9), (1, .int x41), (4, .int 0), (3, .int 2), (0, .ref aA)]) C dL_length_68 3 rfl (by decide) (by decide) rfl ?_
  refine r_goto (tgt := 4) C dL_length_71 (by decide) ?_
  refine r_iload_n C dL_length_4 0 rfl ?_
  refine r_bipush (v := 16) C dL_length_5 (by decide) ?_
  refine r_icmp_ge (tgt := 74) C dL_length_7 (by decide) (fun c => absurd c (by decide)) (fun _ => ?_)
  refine r_iload_n C dL_length_10 0 rfl ?_
  refine r_iconst (v := 4) C dL_length_11 (by decide) ?_
  refine r_idiv (z := 2) C dL_length_12 (by decide) (by decide) ?_
  refine r_istore_n (L' := [(3, .int 2), (2, .int 9), (1, .int x41), (4, .int 0), (0, .ref aA)]) C dL_length_13 (by decide) rfl ?_
  refine r_iload_n C dL_length_14 1 rfl ?_
  refine r_iconst (v := 4) C dL_length_15 (by decide) ?_
  refine r_irem (z := 1) C dL_length_16 (by decide) (by decide) ?_
  refine r_istore (L' := [(4, .int 1), (3, .int 2), (2, .int 9), (1, .int x41), (0, .ref aA)]) C dL_length_17 (by decide) rfl ?_
  refine r_iload_n C dL_length_19 3 rfl ?_
  refine r_iload_n C dL_length_20 1 rfl ?_
  refine r_iload C dL_length_21 0 rfl ?_
  refine r_icmp_ge (tgt := 40) C dL_length_23 (by decide) (fun _ => ?_) (fun c => absurd c (by decide))
  refine r_iconst (v := 0) C dL_length_40 (by decide) ?_
  refine r_iadd C dL_length_41 rfl ?_
  refine r_top (fun x42 e_x42 => ?_)
  refine r_istore_n (L' := [(1, .int x42), (4, .int 1), (3, .int 2), (2, .int 9), (0, .ref aA)]) C dL_length_42 (by decide) rfl ?_
  refine r_iload_n C dL_length_43 0 rfl ?_
  refine r_iload_n C dL_length_44 2 rfl ?_
  refine r_iload C dL_length_45 1 rfl ?_
  refine r_icmp_gt (tgt := 65) C dL_length_47 (by decide) (fun _ => ?_) (fun c => absurd c (by decide))
  refine r_iconst (v := 0) C dL_length_65 (by decide) ?_
  refine r_iadd C dL_length_66 rfl ?_
  refine r_top (fun x43 e_x43 => ?_)
  refine r_istore_n (L' := [(1, .int x43), (4, .int 1), (3, .int 2), (2, .int 9), (0, .ref aA)]) C dL_length_67 (by decide) rfl ?_
  refine r_iinc (v := 10) (L' := [(2, .int 10), (1, .int x43), (4, .int 1), (3, .int 2), (0, .ref aA)]) C dL_length_68 3 rfl (by decide) (by decide) rfl ?_
  refine r_goto (tgt := 4) C dL_length_71 (by decide) ?_
  refine r_iload_n C dL_length_4 0 rfl ?_
  refine r_bipush (v := 16) C dL_length_5 (by decide) ?_
  refine r_icmp_ge (tgt := 74) C dL_length_7 (by decide) (fun c => absurd c (by decide)) (fun _ => ?_)
  refine r_iload_n C dL_length_10 0 rfl ?_
  refine r_iconst (v := 4) C dL_length_11 (by decide) ?_
  refine r_idiv (z := 2) C dL_length_12 (by decide) (by decide) ?_
  refine r_istore_n (L' := [(3, .int 2), (2, .int 10), (1, .int x43), (4, .int 1), (0, .ref aA)]) C dL_length_13 (by decide) rfl ?_
  refine r_iload_n C dL_length_14 1 rfl ?_
  refine r_iconst (v := 4) C dL_length_15 (by decide) ?_
  refine r_irem (z := 2) C dL_length_16 (by decide) (by decide) ?_
  refine r_istore (L' := [(4, .int 2), (3, .int 2), (2, .int 10), (1, .int x43), (0, .ref aA)]) C dL_length_17 (by decide) rfl ?_
  refine r_iload_n C dL_length_19 3 rfl ?_
  refine r_iload_n C dL_length_20 1 rfl ?_
  refine r_iload C dL_length_21 0 rfl ?_
  refine r_icmp_ge (tgt := 40) C dL_length_23 (by decide) (fun _ => ?_) (fun c => absurd c (by decide))
  refine r_iconst (v := 0) C dL_length_40 (by decide) ?_
  refine r_iadd C dL_length_41 rfl ?_
  refine r_top (fun x44 e_x44 => ?_)
  refine r_istore_n (L' := [(1, .int x44), (4, .int 2), (3, .int 2), (2, .int 10), (0, .ref aA)]) C dL_length_42 (by decide) rfl ?_
  refine r_iload_n C dL_length_43 0 rfl ?_
  refine r_iload_n C dL_length_44 2 rfl ?_
  refine r_iload C dL_length_45 1 rfl ?_
  refine r_icmp_gt (tgt := 65) C dL_length_47 (by decide) (fun c => absurd c (by decide)) (fun _ => ?_)
  refine r_aload_n C dL_length_50 4 rfl ?_
  refine r_iload_n C dL_length_51 2 rfl ?_
  refine r_iald (z := fA 2) C 0 0 rfl rfl (vp_in_nI (n := 2) (N := 4) (by decide) (by decide)) dL_length_52 (congrArg (fA) (by decide)) ?_
  refine r_aload_n C dL_length_53 4 rfl ?_
  refine r_iload C dL_length_54 1 rfl ?_
  refine r_iald (z := fA 2) C 0 0 rfl rfl (vp_in_nI (n := 2) (N := 4) (by decide) (by decide)) dL_length_56 (congrArg (fA) (by decide)) ?_
  refine r_iadd C dL_length_57 rfl ?_
  suffices K : ∀ x46 : Int32, x46 = ((if 0 ≤ ((fA 2) + (fA 2)) then (0) else (1))) → V p l e (rmm 0 0) s m args below meth c 5 D A 0 0 Q [[(aA, .inl (cI, 4, .inl fA))]] [(1, .int x44), (4, .int 2), (3, .int 2), (2, .int 10), (0, .ref aA)] 66 [.int x46, .int x44] by
    refine r_if_ge (tgt := 65) C dL_length_58 (by decide) (fun c45 => ?_) (fun c45 => ?_)
    · refine r_iconst (v := 0) C dL_length_65 (by decide) ?_
      exact K _ (by simp only [if_pos c45])
    · refine r_iconst (v := 1) C dL_length_61 (by decide) ?_
      refine r_goto (tgt := 66) C dL_length_62 (by decide) ?_
      exact K _ (by simp only [if_neg c45])
  intro x46 e_x46
  refine r_iadd C dL_length_66 rfl ?_
  refine r_top (fun x47 e_x47 => ?_)
  refine r_istore_n (L' := [(1, .int x47), (4, .int 2), (3, .int 2), (2, .int 10), (0, .ref aA)]) C dL_length_67 (by decide) rfl ?_
  refine r_iinc (v := 11) (L' := [(2, .int 11), (1, .int x47), (4, .int 2), (3, .int 2), (0, .ref aA)]) C dL_length_68 3 rfl (by decide) (by decide) rfl ?_
  refine r_goto (tgt := 4) C dL_length_71 (by decide) ?_
  refine r_iload_n C dL_length_4 0 rfl ?_
  refine r_bipush (v := 16) C dL_length_5 (by decide) ?_
  refine r_icmp_ge (tgt := 74) C dL_length_7 (by decide) (fun c => absurd c (by decide)) (fun _ => ?_)
  refine r_iload_n C dL_length_10 0 rfl ?_
  refine r_iconst (v := 4) C dL_length_11 (by decide) ?_
  refine r_idiv (z := 2) C dL_length_12 (by decide) (by decide) ?_
  refine r_istore_n (L' := [(3, .int 2), (2, .int 11), (1, .int x47), (4, .int 2), (0, .ref aA)]) C dL_length_13 (by decide) rfl ?_
  refine r_iload_n C dL_length_14 1 rfl ?_
  refine r_iconst (v := 4) C dL_length_15 (by decide) ?_
  refine r_irem (z := 3) C dL_length_16 (by decide) (by decide) ?_
  refine r_istore (L' := [(4, .int 3), (3, .int 2), (2, .int 11), (1, .int x47), (0, .ref aA)]) C dL_length_17 (by decide) rfl ?_
  refine r_iload_n C dL_length_19 3 rfl ?_
  refine r_iload_n C dL_length_20 1 rfl ?_
  refine r_iload C dL_length_21 0 rfl ?_
  refine r_icmp_ge (tgt := 40) C dL_length_23 (by decide) (fun c => absurd c (by decide)) (fun _ => ?_)
  refine r_aload_n C dL_length_26 4 rfl ?_
  refine r_iload_n C dL_length_27 1 rfl ?_
  refine r_iald (z := fA 2) C 0 0 rfl rfl (vp_in_nI (n := 2) (N := 4) (by decide) (by decide)) dL_length_28 (congrArg (fA) (by decide)) ?_
  refine r_aload_n C dL_length_29 4 rfl ?_
  refine r_iload C dL_length_30 0 rfl ?_
  refine r_iald (z := fA 3) C 0 0 rfl rfl (vp_in_nI (n := 3) (N := 4) (by decide) (by decide)) dL_length_32 (congrArg (fA) (by decide)) ?_
  suffices K : ∀ x49 : Int32, x49 = ((if (fA 2) ≤ (fA 3) then (0) else (1))) → V p l e (rmm 0 0) s m args below meth c 5 D A 0 0 Q [[(aA, .inl (cI, 4, .inl fA))]] [(4, .int 3), (3, .int 2), (2, .int 11), (1, .int x47), (0, .ref aA)] 41 [.int x49, .int x47] by
    refine r_icmp_le (tgt := 40) C dL_length_33 (by decide) (fun c48 => ?_) (fun c48 => ?_)
    · refine r_iconst (v := 0) C dL_length_40 (by decide) ?_
      exact K _ (by simp only [if_pos c48])
    · refine r_iconst (v := 1) C dL_length_36 (by decide) ?_
      refine r_goto (tgt := 41) C dL_length_37 (by decide) ?_
      exact K _ (by simp only [if_neg c48])
  intro x49 e_x49
  refine r_iadd C dL_length_41 rfl ?_
  refine r_top (fun x50 e_x50 => ?_)
  refine r_istore_n (L' := [(1, .int x50), (4, .int 3), (3, .int 2), (2, .int 11), (0, .ref aA)]) C dL_length_42 (by decide) rfl ?_
  refine r_iload_n C dL_length_43 0 rfl ?_
  refine r_iload_n C dL_length_44 2 rfl ?_
  refine r_iload C dL_length_45 1 rfl ?_
  refine r_icmp_gt (tgt := 65) C dL_length_47 (by decide) (fun c => absurd c (by decide)) (fun _ => ?_)
  refine r_aload_n C dL_length_50 4 rfl ?_
  refine r_iload_n C dL_length_51 2 rfl ?_
  refine r_iald (z := fA 2) C 0 0 rfl rfl (vp_in_nI (n := 2) (N := 4) (by decide) (by decide)) dL_length_52 (congrArg (fA) (by decide)) ?_
  refine r_aload_n C dL_length_53 4 rfl ?_
  refine r_iload C dL_length_54 1 rfl ?_
  refine r_iald (z := fA 3) C 0 0 rfl rfl (vp_in_nI (n := 3) (N := 4) (by decide) (by decide)) dL_length_56 (congrArg (fA) (by decide)) ?_
  refine r_iadd C dL_length_57 rfl ?_
  suffices K : ∀ x52 : Int32, x52 = ((if 0 ≤ ((fA 2) + (fA 3)) then (0) else (1))) → V p l e (rmm 0 0) s m args below meth c 5 D A 0 0 Q [[(aA, .inl (cI, 4, .inl fA))]] [(1, .int x50), (4, .int 3), (3, .int 2), (2, .int 11), (0, .ref aA)] 66 [.int x52, .int x50] by
    refine r_if_ge (tgt := 65) C dL_length_58 (by decide) (fun c51 => ?_) (fun c51 => ?_)
    · refine r_iconst (v := 0) C dL_length_65 (by decide) ?_
      exact K _ (by simp only [if_pos c51])
    · refine r_iconst (v := 1) C dL_length_61 (by decide) ?_
      refine r_goto (tgt := 66) C dL_length_62 (by decide) ?_
      exact K _ (by simp only [if_neg c51])
  intro x52 e_x52
  refine r_iadd C dL_length_66 rfl ?_
  refine r_top (fun x53 e_x53 => ?_)
  refine r_istore_n (L' := [(1, .int x53), (4, .int 3), (3, .int 2), (2, .int 11), (0, .ref aA)]) C dL_length_67 (by decide) rfl ?_
  refine r_iinc (v := 12) (L' := [(2, .int 12), (1, .int x53), (4, .int 3), (3, .int 2), (0, .ref aA)]) C dL_length_68 3 rfl (by decide) (by decide) rfl ?_
  refine r_goto (tgt := 4) C dL_length_71 (by decide) ?_
  refine r_iload_n C dL_length_4 0 rfl ?_
  refine r_bipush (v := 16) C dL_length_5 (by decide) ?_
  refine r_icmp_ge (tgt := 74) C dL_length_7 (by decide) (fun c => absurd c (by decide)) (fun _ => ?_)
  refine r_iload_n C dL_length_10 0 rfl ?_
  refine r_iconst (v := 4) C dL_length_11 (by decide) ?_
  refine r_idiv (z := 3) C dL_length_12 (by decide) (by decide) ?_
  refine r_istore_n (L' := [(3, .int 3), (2, .int 12), (1, .int x53), (4, .int 3), (0, .ref aA)]) C dL_length_13 (by decide) rfl ?_
  refine r_iload_n C dL_length_14 1 rfl ?_
  refine r_iconst (v := 4) C dL_length_15 (by decide) ?_
  refine r_irem (z := 0) C dL_length_16 (by decide) (by decide) ?_
  refine r_istore (L' := [(4, .int 0), (3, .int 3), (2, .int 12), (1, .int x53), (0, .ref aA)]) C dL_length_17 (by decide) rfl ?_
  refine r_iload_n C dL_length_19 3 rfl ?_
  refine r_iload_n C dL_length_20 1 rfl ?_
  refine r_iload C dL_length_21 0 rfl ?_
  refine r_icmp_ge (tgt := 40) C dL_length_23 (by decide) (fun _ => ?_) (fun c => absurd c (by decide))
  refine r_iconst (v := 0) C dL_length_40 (by decide) ?_
  refine r_iadd C dL_length_41 rfl ?_
  refine r_top (fun x54 e_x54 => ?_)
  refine r_istore_n (L' := [(1, .int x54), (4, .int 0), (3, .int 3), (2, .int 12), (0, .ref aA)]) C dL_length_42 (by decide) rfl ?_
  refine r_iload_n C dL_length_43 0 rfl ?_
  refine r_iload_n C dL_length_44 2 rfl ?_
  refine r_iload C dL_length_45 1 rfl ?_
  refine r_icmp_gt (tgt := 65) C dL_length_47 (by decide) (fun _ => ?_) (fun c => absurd c (by decide))
  refine r_iconst (v := 0) C dL_length_65 (by decide) ?_
  refine r_iadd C dL_length_66 rfl ?_
  refine r_top (fun x55 e_x55 => ?_)
  refine r_istore_n (L' := [(1, .int x55), (4, .int 0), (3, .int 3), (2, .int 12), (0, .ref aA)]) C dL_length_67 (by decide) rfl ?_
  refine r_iinc (v := 13) (L' := [(2, .int 13), (1, .int x55), (4, .int 0), (3, .int 3), (0, .ref aA)]) C dL_length_68 3 rfl (by decide) (by decide) rfl ?_
  refine r_goto (tgt := 4) C dL_length_71 (by decide) ?_
  refine r_iload_n C dL_length_4 0 rfl ?_
  refine r_bipush (v := 16) C dL_length_5 (by decide) ?_
  refine r_icmp_ge (tgt := 74) C dL_length_7 (by decide) (fun c => absurd c (by decide)) (fun _ => ?_)
  refine r_iload_n C dL_length_10 0 rfl ?_
  refine r_iconst (v := 4) C dL_length_11 (by decide) ?_
  refine r_idiv (z := 3) C dL_length_12 (by decide) (by decide) ?_
  refine r_istore_n (L' := [(3, .int 3), (2, .int 13), (1, .int x55), (4, .int 0), (0, .ref aA)]) C dL_length_13 (by decide) rfl ?_
  refine r_iload_n C dL_length_14 1 rfl ?_
  refine r_iconst (v := 4) C dL_length_15 (by decide) ?_
  refine r_irem (z := 1) C dL_length_16 (by decide) (by decide) ?_
  refine r_istore (L' := [(4, .int 1), (3, .int 3), (2, .int 13), (1, .int x55), (0, .ref aA)]) C dL_length_17 (by decide) rfl ?_
  refine r_iload_n C dL_length_19 3 rfl ?_
  refine r_iload_n C dL_length_20 1 rfl ?_
  refine r_iload C dL_length_21 0 rfl ?_
  refine r_icmp_ge (tgt := 40) C dL_length_23 (by decide) (fun _ => ?_) (fun c => absurd c (by decide))
  refine r_iconst (v := 0) C dL_length_40 (by decide) ?_
  refine r_iadd C dL_length_41 rfl ?_
  refine r_top (fun x56 e_x56 => ?_)
  refine r_istore_n (L' := [(1, .int x56), (4, .int 1), (3, .int 3), (2, .int 13), (0, .ref aA)]) C dL_length_42 (by decide) rfl ?_
  refine r_iload_n C dL_length_43 0 rfl ?_
  refine r_iload_n C dL_length_44 2 rfl ?_
  refine r_iload C dL_length_45 1 rfl ?_
  refine r_icmp_gt (tgt := 65) C dL_length_47 (by decide) (fun _ => ?_) (fun c => absurd c (by decide))
  refine r_iconst (v := 0) C dL_length_65 (by decide) ?_
  refine r_iadd C dL_length_66 rfl ?_
  refine r_top (fun x57 e_x57 => ?_)
  refine r_istore_n (L' := [(1, .int x57), (4, .int 1), (3, .int 3), (2, .int 13), (0, .ref aA)]) C dL_length_67 (by decide) rfl ?_
  refine r_iinc (v := 14) (L' := [(2, .int 14), (1, .int x57), (4, .int 1), (3, .int 3), (0, .ref aA)]) C dL_length_68 3 rfl (by decide) (by decide) rfl ?_
  refine r_goto (tgt := 4) C dL_length_71 (by decide) ?_
  refine r_iload_n C dL_length_4 0 rfl ?_
  refine r_bipush (v := 16) C dL_length_5 (by decide) ?_
  refine r_icmp_ge (tgt := 74) C dL_length_7 (by decide) (fun c => absurd c (by decide)) (fun _ => ?_)
  refine r_iload_n C dL_length_10 0 rfl ?_
  refine r_iconst (v := 4) C dL_length_11 (by decide) ?_
  refine r_idiv (z := 3) C dL_length_12 (by decide) (by decide) ?_
  refine r_istore_n (L' := [(3, .int 3), (2, .int 14), (1, .int x57), (4, .int 1), (0, .ref aA)]) C dL_length_13 (by decide) rfl ?_
  refine r_iload_n C dL_length_14 1 rfl ?_
  refine r_iconst (v := 4) C dL_length_15 (by decide) ?_
  refine r_irem (z := 2) C dL_length_16 (by decide) (by decide) ?_
  refine r_istore (L' := [(4, .int 2), (3, .int 3), (2, .int 14), (1, .int x57), (0, .ref aA)]) C dL_length_17 (by decide) rfl ?_
  refine r_iload_n C dL_length_19 3 rfl ?_
  refine r_iload_n C dL_length_20 1 rfl ?_
  refine r_iload C dL_length_21 0 rfl ?_
  refine r_icmp_ge (tgt := 40) C dL_length_23 (by decide) (fun _ => ?_) (fun c => absurd c (by decide))
  refine r_iconst (v := 0) C dL_length_40 (by decide) ?_
  refine r_iadd C dL_length_41 rfl ?_
  refine r_top (fun x58 e_x58 => ?_)
  refine r_istore_n (L' := [(1, .int x58), (4, .int 2), (3, .int 3), (2, .int 14), (0, .ref aA)]) C dL_length_42 (by decide) rfl ?_
  refine r_iload_n C dL_length_43 0 rfl ?_
  refine r_iload_n C dL_length_44 2 rfl ?_
  refine r_iload C dL_length_45 1 rfl ?_
  refine r_icmp_gt (tgt := 65) C dL_length_47 (by decide) (fun _ => ?_) (fun c => absurd c (by decide))
  refine r_iconst (v := 0) C dL_length_65 (by decide) ?_
  refine r_iadd C dL_length_66 rfl ?_
  refine r_top (fun x59 e_x59 => ?_)
  refine r_istore_n (L' := [(1, .int x59), (4, .int 2), (3, .int 3), (2, .int 14), (0, .ref aA)]) C dL_length_67 (by decide) rfl ?_
  refine r_iinc (v := 15) (L' := [(2, .int 15), (1, .int x59), (4, .int 2), (3, .int 3), (0, .ref aA)]) C dL_length_68 3 rfl (by decide) (by decide) rfl ?_
  refine r_goto (tgt := 4) C dL_length_71 (by decide) ?_
  refine r_iload_n C dL_length_4 0 rfl ?_
  refine r_bipush (v := 16) C dL_length_5 (by decide) ?_
  refine r_icmp_ge (tgt := 74) C dL_length_7 (by decide) (fun c => absurd c (by decide)) (fun _ => ?_)
  refine r_iload_n C dL_length_10 0 rfl ?_
  refine r_iconst (v := 4) C dL_length_11 (by decide) ?_
  refine r_idiv (z := 3) C dL_length_12 (by decide) (by decide) ?_
  refine r_istore_n (L' := [(3, .int 3), (2, .int 15), (1, .int x59), (4, .int 2), (0, .ref aA)]) C dL_length_13 (by decide) rfl ?_
  refine r_iload_n C dL_length_14 1 rfl ?_
  refine r_iconst (v := 4) C dL_length_15 (by decide) ?_
  refine r_irem (z := 3) C dL_length_16 (by decide) (by decide) ?_
  refine r_istore (L' := [(4, .int 3), (3, .int 3), (2, .int 15), (1, .int x59), (0, .ref aA)]) C dL_length_17 (by decide) rfl ?_
  refine r_iload_n C dL_length_19 3 rfl ?_
  refine r_iload_n C dL_length_20 1 rfl ?_
  refine r_iload C dL_length_21 0 rfl ?_
  refine r_icmp_ge (tgt := 40) C dL_length_23 (by decide) (fun _ => ?_) (fun c => absurd c (by decide))
  refine r_iconst (v := 0) C dL_length_40 (by decide) ?_
  refine r_iadd C dL_length_41 rfl ?_
  refine r_top (fun x60 e_x60 => ?_)
  refine r_istore_n (L' := [(1, .int x60), (4, .int 3), (3, .int 3), (2, .int 15), (0, .ref aA)]) C dL_length_42 (by decide) rfl ?_
  refine r_iload_n C dL_length_43 0 rfl ?_
  refine r_iload_n C dL_length_44 2 rfl ?_
  refine r_iload C dL_length_45 1 rfl ?_
  refine r_icmp_gt (tgt := 65) C dL_length_47 (by decide) (fun c => absurd c (by decide)) (fun _ => ?_)
  refine r_aload_n C dL_length_50 4 rfl ?_
  refine r_iload_n C dL_length_51 2 rfl ?_
  refine r_iald (z := fA 3) C 0 0 rfl rfl (vp_in_nI (n := 3) (N := 4) (by decide) (by decide)) dL_length_52 (congrArg (fA) (by decide)) ?_
  refine r_aload_n C dL_length_53 4 rfl ?_
  refine r_iload C dL_length_54 1 rfl ?_
  refine r_iald (z := fA 3) C 0 0 rfl rfl (vp_in_nI (n := 3) (N := 4) (by decide) (by decide)) dL_length_56 (congrArg (fA) (by decide)) ?_
  refine r_iadd C dL_length_57 rfl ?_
  suffices K : ∀ x62 : Int32, x62 = ((if 0 ≤ ((fA 3) + (fA 3)) then (0) else (1))) → V p l e (rmm 0 0) s m args below meth c 5 D A 0 0 Q [[(aA, .inl (cI, 4, .inl fA))]] [(1, .int x60), (4, .int 3), (3, .int 3), (2, .int 15), (0, .ref aA)] 66 [.int x62, .int x60] by
    refine r_if_ge (tgt := 65) C dL_length_58 (by decide) (fun c61 => ?_) (fun c61 => ?_)
    · refine r_iconst (v := 0) C dL_length_65 (by decide) ?_
      exact K _ (by simp only [if_pos c61])
    · refine r_iconst (v := 1) C dL_length_61 (by decide) ?_
      refine r_goto (tgt := 66) C dL_length_62 (by decide) ?_
      exact K _ (by simp only [if_neg c61])
  intro x62 e_x62
  refine r_iadd C dL_length_66 rfl ?_
  refine r_top (fun x63 e_x63 => ?_)
  refine r_istore_n (L' := [(1, .int x63), (4, .int 3), (3, .int 3), (2, .int 15), (0, .ref aA)]) C dL_length_67 (by decide) rfl ?_
  refine r_iinc (v := 16) (L' := [(2, .int 16), (1, .int x63), (4, .int 3), (3, .int 3), (0, .ref aA)]) C dL_length_68 3 rfl (by decide) (by decide) rfl ?_
  refine r_goto (tgt := 4) C dL_length_71 (by decide) ?_
  refine r_iload_n C dL_length_4 0 rfl ?_
  refine r_bipush (v := 16) C dL_length_5 (by decide) ?_
  refine r_icmp_ge (tgt := 74) C dL_length_7 (by decide) (fun _ => ?_) (fun c => absurd c (by decide))
  refine r_iload_n C dL_length_74 1 rfl ?_
  have eF : F_L_length fA = x63 := by have q := e_x2.symm; subst q; have q := e_x3.symm; subst q; have q := e_x5.symm; subst q; have q := e_x6.symm; subst q; have q := e_x8.symm; subst q; have q := e_x9.symm; subst q; have q := e_x11.symm; subst q; have q := e_x12.symm; subst q; have q := e_x14.symm; subst q; have q := e_x15.symm; subst q; have q := e_x17.symm; subst q; have q := e_x18.symm; subst q; have q := e_x20.symm; subst q; have q := e_x21.symm; subst q; have q := e_x22.symm; subst q; have q := e_x23.symm; subst q; have q := e_x24.symm; subst q; have q := e_x26.symm; subst q; have q := e_x27.symm; subst q; have q := e_x29.symm; subst q; have q := e_x30.symm; subst q; have q := e_x32.symm; subst q; have q := e_x33.symm; subst q; have q := e_x35.symm; subst q; have q := e_x36.symm; subst q; have q := e_x38.symm; subst q; have q := e_x39.symm; subst q; have q := e_x40.symm; subst q; have q := e_x41.symm; subst q; have q := e_x42.symm; subst q; have q := e_x43.symm; subst q; have q := e_x44.symm; subst q; have q := e_x46.symm; subst q; have q := e_x47.symm; subst q; have q := e_x49.symm; subst q; have q := e_x50.symm; subst q; have q := e_x52.symm; subst q; have q := e_x53.symm; subst q; have q := e_x54.symm; subst q; have q := e_x55.symm; subst q; have q := e_x56.symm; subst q; have q := e_x57.symm; subst q; have q := e_x58.symm; subst q; have q := e_x59.symm; subst q; have q := e_x60.symm; subst q; have q := e_x62.symm; subst q; have q := e_x63.symm; subst q; rfl
  exact r_iret (r := x63) C hA hr hlo dL_length_75 [[(aA, .inl (cI, 4, .inl fA))]] ⟨by simp only [eF], rfl⟩ rfl hQ

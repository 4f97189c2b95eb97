abbrev unrB (cI : ClassId) (u : Nat) (h : Nat) (v : Nat) (hb : Nat) (sb : Nat) (n : Int32) (f : Nat → Int32) (fhb : Nat → Int32) (fsb : Nat → Int32) (opn : Int32) (usz : Int32) : va_W := [(u, .inr (6, [.ref h, .ref hb, .ref sb, .int opn, .int usz])), (h, .inr (4, [.ref v, .int n])), (v, .inl (cI, 60, .inl f)), (hb, .inl (cI, 5, .inl fhb)), (sb, .inl (cI, 5, .inl fsb))]
theorem k_X8_held : kV yX8_held cX8_held 1 (some (.object "FoldedLetters$Row")) 0 := ⟨t_700, t_701, t_65, t_702, by decide +kernel, by decide +kernel, by decide +kernel⟩
set_option maxRecDepth 20000 in
set_option maxHeartbeats 8000000 in
theorem m_X8_held (l : Launch) (D : va_G) (cI cL cP cJ : ClassId) (u : Nat) (h : Nat) (v : Nat) (hb : Nat) (sb : Nat) (n : Int32) (f : Nat → Int32) (fhb : Nat → Int32) (fsb : Nat → Int32) (opn : Int32) (usz : Int32) : M vR l yX8_held cX8_held 1 (some (.object "FoldedLetters$Row")) 0 0 D (tyF cI cL cP cJ) [.ref u] [unrB cI u h v hb sb n f fhb fsb opn usz] (fun (r : Nat) (w1 : List va_W) => r = h ∧ w1 = [unrB cI u h v hb sb n f fhb fsb opn usz]) := by
  refine m_start (by decide +kernel) (Nat.le_of_ble_eq_true rfl) (fun p e s m args below meth c A Q hA hQ C hr hlo => ?_)
  refine r_Le (L' := [(0, .ref u)]) rfl ?_
  refine r_aload_n C dX8_held_0 0 rfl ?_
  refine r_ws (I' := [[(u, .inr (6, [.ref h, .ref hb, .ref sb, .int opn, .int usz]))], [(h, .inr (4, [.ref v, .int n]))], [(v, .inl (cI, 60, .inl f))], [(hb, .inl (cI, 5, .inl fhb))], [(sb, .inl (cI, 5, .inl fsb))]]) rfl ?_
  refine r_get (Cn := RX8) (T := TX8) (N := 5) C inT8 0 rfl rfl 0 (by decide) t_184 rfl dX8_held_1 ?_
  refine r_ws (I' := [unrB cI u h v hb sb n f fhb fsb opn usz]) rfl ?_
  exact r_aret (r := h) C hA hr (Or.inl ⟨_, rfl⟩) hlo dX8_held_4 [unrB cI u h v hb sb n f fhb fsb opn usz] ⟨rfl, rfl⟩ rfl hQ
theorem k_X8_size : kV yX8_size cX8_size 1 (some .int) 0 := ⟨t_811, t_812, t_65, t_813, by decide +kernel, by decide +kernel, by decide +kernel⟩
set_option maxRecDepth 20000 in
def F_X8_size (usz : Int32) : Int32 := usz
set_option maxRecDepth 20000 in
set_option maxHeartbeats 8000000 in
theorem m_X8_size (l : Launch) (D : va_G) (cI cL cP cJ : ClassId) (u : Nat) (h : Nat) (v : Nat) (hb : Nat) (sb : Nat) (n : Int32) (f : Nat → Int32) (fhb : Nat → Int32) (fsb : Nat → Int32) (opn : Int32) (usz : Int32) : M vI l yX8_size cX8_size 1 (some .int) 0 0 D (tyF cI cL cP cJ) [.ref u] [unrB cI u h v hb sb n f fhb fsb opn usz] (fun (r : Int32) (w1 : List va_W) => r = (F_X8_size usz) ∧ w1 = [unrB cI u h v hb sb n f fhb fsb opn usz]) := by
  refine m_start (by decide +kernel) (Nat.le_of_ble_eq_true rfl) (fun p e s m args below meth c A Q hA hQ C hr hlo => ?_)
  refine r_Le (L' := [(0, .ref u)]) rfl ?_
  refine r_aload_n C dX8_size_0 0 rfl ?_
  refine r_ws (I' := [[(u, .inr (6, [.ref h, .ref hb, .ref sb, .int opn, .int usz]))], [(h, .inr (4, [.ref v, .int n]))], [(v, .inl (cI, 60, .inl f))], [(hb, .inl (cI, 5, .inl fhb))], [(sb, .inl (cI, 5, .inl fsb))]]) rfl ?_
  refine r_get (Cn := RX8) (T := TX8) (N := 5) C inT8 0 rfl rfl 4 (by decide) t_188 rfl dX8_size_1 ?_
  refine r_ws (I' := [unrB cI u h v hb sb n f fhb fsb opn usz]) rfl ?_
  have eF : F_X8_size usz = usz := by rfl
  exact r_iret (r := usz) C hA hr hlo dX8_size_4 [unrB cI u h v hb sb n f fhb fsb opn usz] ⟨by simp only [eF], rfl⟩ rfl hQ
theorem k_X8_openBracket : kV yX8_openBracket cX8_openBracket 1 none 0 := ⟨t_697, t_10, t_65, t_698, by decide +kernel, by decide +kernel, by decide +kernel⟩
set_option maxRecDepth 20000 in
def F_X8_openBracket (n : Int32) (fhb : Nat → Int32) (fsb : Nat → Int32) (opn : Int32) (usz : Int32) : (Nat → Int32) × (Nat → Int32) × Int32 := let x9 : Int32 := (if opn < 0 then (opn) else ((if 5 ≤ opn then (opn) else (let x8 : Int32 := opn + 1; x8)))); let g10 : Nat → Int32 := (if opn < 0 then (fhb) else ((if 5 ≤ opn then (fhb) else (let r3 : Int32 := F_X6_size n; let g5 : Nat → Int32 := upd fhb (opn.toNatClampNeg) r3; g5)))); let g11 : Nat → Int32 := (if opn < 0 then (fsb) else ((if 5 ≤ opn then (fsb) else (let g7 : Nat → Int32 := upd fsb (opn.toNatClampNeg) usz; g7)))); (g10, g11, x9)
set_option maxRecDepth 20000 in
def P_X8_openBracket (n : Int32) (fhb : Nat → Int32) (opn : Int32) : Prop := ((opn < 0 → True) ∧ (¬ opn < 0 → ((5 ≤ opn → True) ∧ (¬ 5 ≤ opn → (∀ r3 : Int32, r3 = F_X6_size n → ((vp_in opn 5) ∧ (∀ g5 : Nat → Int32, g5 = upd fhb (opn.toNatClampNeg) r3 → (vp_in opn 5))))))))
set_option maxRecDepth 20000 in
set_option maxHeartbeats 8000000 in
theorem m_X8_openBracket (l : Launch) (D : va_G) (cI cL cP cJ : ClassId) (u : Nat) (h : Nat) (v : Nat) (hb : Nat) (sb : Nat) (n : Int32) (f : Nat → Int32) (fhb : Nat → Int32) (fsb : Nat → Int32) (opn : Int32) (usz : Int32) (hp : P_X8_openBracket n fhb opn) : M vV l yX8_openBracket cX8_openBracket 1 none 1 20 D (tyF cI cL cP cJ) [.ref u] [unrB cI u h v hb sb n f fhb fsb opn usz] (fun (r : Unit) (w1 : List va_W) => w1 = [unrB cI u h v hb sb n f ((F_X8_openBracket n fhb fsb opn usz).1) ((F_X8_openBracket n fhb fsb opn usz).2.1) ((F_X8_openBracket n fhb fsb opn usz).2.2) usz]) := by
  unfold P_X8_openBracket at hp
  refine m_start (by decide +kernel) (Nat.le_of_ble_eq_true rfl) (fun p e s m args below meth c A Q hA hQ C hr hlo => ?_)
  refine r_Le (L' := [(0, .ref u)]) rfl ?_
  refine r_aload_n C dX8_openBracket_0 0 rfl ?_
  refine r_ws (I' := [[(u, .inr (6, [.ref h, .ref hb, .ref sb, .int opn, .int usz]))], [(h, .inr (4, [.ref v, .int n]))], [(v, .inl (cI, 60, .inl f))], [(hb, .inl (cI, 5, .inl fhb))], [(sb, .inl (cI, 5, .inl fsb))]]) rfl ?_
  refine r_get (Cn := RX8) (T := TX8) (N := 5) C inT8 0 rfl rfl 3 (by decide) t_187 rfl dX8_openBracket_1 ?_
  have hps := hp
  suffices K : ∀ x9 : Int32, x9 = ((if opn < 0 then (opn) else ((if 5 ≤ opn then (opn) else (let x8 : Int32 := opn + 1; x8))))) → ∀ g10 : Nat → Int32, g10 = ((if opn < 0 then (fhb) else ((if 5 ≤ opn then (fhb) else (let r3 : Int32 := F_X6_size n; let g5 : Nat → Int32 := upd fhb (opn.toNatClampNeg) r3; g5))))) → ∀ g11 : Nat → Int32, g11 = ((if opn < 0 then (fsb) else ((if 5 ≤ opn then (fsb) else (let g7 : Nat → Int32 := upd fsb (opn.toNatClampNeg) usz; g7))))) → V p l e (rmm 1 20) s m args below meth c 1 D A 0 0 Q [[(u, .inr (6, [.ref h, .ref hb, .ref sb, .int x9, .int usz]))], [(h, .inr (4, [.ref v, .int n]))], [(v, .inl (cI, 60, .inl f))], [(hb, .inl (cI, 5, .inl g10))], [(sb, .inl (cI, 5, .inl g11))]] [(0, .ref u)] 70 [] by
    have hp := hps
    refine r_if_lt (tgt := 70) C dX8_openBracket_4 (by decide) (fun c1 => ?_) (fun c1 => ?_)
    · exact K _ (by simp only [if_pos c1]) _ (by simp only [if_pos c1]) _ (by simp only [if_pos c1])
    · have hp := hp.2 c1
      refine r_aload_n C dX8_openBracket_7 0 rfl ?_
      refine r_get (Cn := RX8) (T := TX8) (N := 5) C inT8 0 rfl rfl 3 (by decide) t_187 rfl dX8_openBracket_8 ?_
      refine r_aload_n C dX8_openBracket_11 0 rfl ?_
      refine r_get (Cn := RX8) (T := TX8) (N := 5) C inT8 0 rfl rfl 1 (by decide) t_185 rfl dX8_openBracket_12 ?_
      refine r_alen (v := 5) C 3 0 rfl rfl rfl dX8_openBracket_15 ?_
      refine r_icmp_ge (tgt := 70) C dX8_openBracket_16 (by decide) (fun c2 => ?_) (fun c2 => ?_)
      · exact K _ (by simp only [if_neg c1, if_pos c2]) _ (by simp only [if_neg c1, if_pos c2]) _ (by simp only [if_neg c1, if_pos c2])
      · have hp := hp.2 c2
        refine r_aload_n C dX8_openBracket_19 0 rfl ?_
        refine r_get (Cn := RX8) (T := TX8) (N := 5) C inT8 0 rfl rfl 3 (by decide) t_187 rfl dX8_openBracket_20 ?_
        refine r_aload_n C dX8_openBracket_23 0 rfl ?_
        refine r_get (Cn := RX8) (T := TX8) (N := 5) C inT8 0 rfl rfl 2 (by decide) t_186 rfl dX8_openBracket_24 ?_
        refine r_alen (v := 5) C 4 0 rfl rfl rfl dX8_openBracket_27 ?_
        refine r_icmp_ge (tgt := 70) C dX8_openBracket_28 (by decide) (fun c => absurd c c2) (fun _ => ?_)
        refine r_aload_n C dX8_openBracket_31 0 rfl ?_
        refine r_get (Cn := RX8) (T := TX8) (N := 5) C inT8 0 rfl rfl 1 (by decide) t_185 rfl dX8_openBracket_32 ?_
        refine r_aload_n C dX8_openBracket_35 0 rfl ?_
        refine r_get (Cn := RX8) (T := TX8) (N := 5) C inT8 0 rfl rfl 3 (by decide) t_187 rfl dX8_openBracket_36 ?_
        refine r_aload_n C dX8_openBracket_39 0 rfl ?_
        refine r_get (Cn := RX8) (T := TX8) (N := 5) C inT8 0 rfl rfl 0 (by decide) t_184 rfl dX8_openBracket_40 ?_
        refine r_ws (I' := [[(u, .inr (6, [.ref h, .ref hb, .ref sb, .int opn, .int usz]))], rowB cI h v n f, [(hb, .inl (cI, 5, .inl fhb))], [(sb, .inl (cI, 5, .inl fsb))]]) rfl ?_
        refine r_callV (ci := 4) (wc := [rowB cI h v n f]) (wr := [[(u, .inr (6, [.ref h, .ref hb, .ref sb, .int opn, .int usz]))], [(hb, .inl (cI, 5, .inl fhb))], [(sb, .inl (cI, 5, .inl fsb))]]) (st := [.int opn, .ref hb]) C (m_X6_size l D cI cL cP cJ h v n f) k_X6_size t_687 [1, 0, 2, 3] (show ([1, 0, 2, 3] : List Nat).Perm (List.range 4) by decide) rfl rfl rfl (q0 := 0) rfl rfl rfl (Nat.le_of_ble_eq_true rfl) ⟨Nat.le_of_ble_eq_true rfl, Nat.le_of_ble_eq_true rfl⟩ ⟨Nat.zero_le _, Nat.zero_le _⟩ dX8_openBracket_43 (fun r3 wr3 hw3 => ?_)
        obtain ⟨e_r3, rfl⟩ := hw3
        have hp := hp r3 e_r3
        refine r_ws (I' := [rowB cI h v n f, [(u, .inr (6, [.ref h, .ref hb, .ref sb, .int opn, .int usz]))], [(hb, .inl (cI, 5, .inl fhb))], [(sb, .inl (cI, 5, .inl fsb))]]) rfl ?_
        obtain ⟨h4, hp⟩ := hp
        obtain ⟨g5, e_g5⟩ : ∃ z : Nat → Int32, z = upd fhb (opn.toNatClampNeg) r3 := ⟨_, rfl⟩
        have hp := hp g5 e_g5
        refine r_iast C 2 0 rfl rfl h4 (I' := [rowB cI h v n f, [(u, .inr (6, [.ref h, .ref hb, .ref sb, .int opn, .int usz]))], [(hb, .inl (cI, 5, .inl g5))], [(sb, .inl (cI, 5, .inl fsb))]]) (by rw [e_g5]; rfl) dX8_openBracket_46 ?_
        refine r_aload_n C dX8_openBracket_47 0 rfl ?_
        refine r_get (Cn := RX8) (T := TX8) (N := 5) C inT8 1 rfl rfl 2 (by decide) t_186 rfl dX8_openBracket_48 ?_
        refine r_aload_n C dX8_openBracket_51 0 rfl ?_
        refine r_get (Cn := RX8) (T := TX8) (N := 5) C inT8 1 rfl rfl 3 (by decide) t_187 rfl dX8_openBracket_52 ?_
        refine r_aload_n C dX8_openBracket_55 0 rfl ?_
        refine r_get (Cn := RX8) (T := TX8) (N := 5) C inT8 1 rfl rfl 4 (by decide) t_188 rfl dX8_openBracket_56 ?_
        have h6 := hp
        obtain ⟨g7, e_g7⟩ : ∃ z : Nat → Int32, z = upd fsb (opn.toNatClampNeg) usz := ⟨_, rfl⟩
        refine r_iast C 3 0 rfl rfl h6 (I' := [rowB cI h v n f, [(u, .inr (6, [.ref h, .ref hb, .ref sb, .int opn, .int usz]))], [(hb, .inl (cI, 5, .inl g5))], [(sb, .inl (cI, 5, .inl g7))]]) (by rw [e_g7]; rfl) dX8_openBracket_59 ?_
        refine r_aload_n C dX8_openBracket_60 0 rfl ?_
        refine r_dup C dX8_openBracket_61 rfl ?_
        refine r_get (Cn := RX8) (T := TX8) (N := 5) C inT8 1 rfl rfl 3 (by decide) t_187 rfl dX8_openBracket_62 ?_
        refine r_iconst (v := 1) C dX8_openBracket_65 (by decide) ?_
        refine r_iadd C dX8_openBracket_66 rfl ?_
        refine r_top (fun x8 e_x8 => ?_)
        refine r_put (Cn := RX8) (T := TX8) (N := 5) C inT8 1 rfl rfl 3 (by decide) t_187 tyX8 tyX8_ok nmX8 rfl rfl rfl (Nat.le_of_ble_eq_true rfl) (I' := [rowB cI h v n f, [(u, .inr (6, [.ref h, .ref hb, .ref sb, .int x8, .int usz]))], [(hb, .inl (cI, 5, .inl g5))], [(sb, .inl (cI, 5, .inl g7))]]) rfl dX8_openBracket_67 ?_
        refine r_ws (I' := [[(h, .inr (4, [.ref v, .int n]))], [(v, .inl (cI, 60, .inl f))], [(u, .inr (6, [.ref h, .ref hb, .ref sb, .int x8, .int usz]))], [(hb, .inl (cI, 5, .inl g5))], [(sb, .inl (cI, 5, .inl g7))]]) rfl ?_
        refine r_pl (I' := [[(u, .inr (6, [.ref h, .ref hb, .ref sb, .int x8, .int usz]))], [(h, .inr (4, [.ref v, .int n]))], [(v, .inl (cI, 60, .inl f))], [(hb, .inl (cI, 5, .inl g5))], [(sb, .inl (cI, 5, .inl g7))]]) [2, 0, 1, 3, 4] (show ([2, 0, 1, 3, 4] : List Nat).Perm (List.range 5) by decide) rfl ?_
        exact K _ (by have q := e_r3.symm; subst q; have q := e_g5.symm; subst q; have q := e_g7.symm; subst q; have q := e_x8.symm; subst q; simp only [if_neg c1, if_neg c2]) _ (by have q := e_r3.symm; subst q; have q := e_g5.symm; subst q; have q := e_g7.symm; subst q; have q := e_x8.symm; subst q; simp only [if_neg c1, if_neg c2]) _ (by have q := e_r3.symm; subst q; have q := e_g5.symm; subst q; have q := e_g7.symm; subst q; have q := e_x8.symm; subst q; simp only [if_neg c1, if_neg c2])
  intro x9 e_x9 g10 e_g10 g11 e_g11
  refine r_ws (I' := [unrB cI u h v hb sb n f g10 g11 x9 usz]) rfl ?_
  have eF : F_X8_openBracket n fhb fsb opn usz = (g10, g11, x9) := by have q := e_x9.symm; subst q; have q := e_g10.symm; subst q; have q := e_g11.symm; subst q; rfl
  exact r_vret (r := ()) C hA hr hlo dX8_openBracket_70 [unrB cI u h v hb sb n f g10 g11 x9 usz] (by simp only [eF]) rfl hQ
theorem k_X8_repeatLast : kV yX8_repeatLast cX8_repeatLast 4 none 1 := ⟨t_691, t_9, t_65, t_692, by decide +kernel, by decide +kernel, by decide +kernel⟩
def F_X8_repeatLast_L93 (x9 : Int32) : Nat → Int32 → (Nat → Int32) → Int32 → Int32 × (Nat → Int32) × Int32
  | 0, y11, k12, y13 => (y11, k12, y13)
  | nn + 1, y11, k12, y13 => (if y13 ≤ 0 then ((y11, k12, y13)) else (let r15 : Int32 := F_X6_isFull y11; (if r15 = 0 then (let r17 : Int32 := F_X6_size y11; let r19 : Int32 := F_X6_at y11 k12 (r17 - x9); let x22 : Int32 := (F_X6_add y11 k12 r19).1; let g23 : Nat → Int32 := (F_X6_add y11 k12 r19).2; let x24 : Int32 := y13 + (-1); F_X8_repeatLast_L93 x9 nn x22 g23 x24) else ((y11, k12, y13)))))
def P_X8_repeatLast_L93 (x9 : Int32) : Nat → Int32 → (Nat → Int32) → Int32 → Prop
  | 0, _, _, _ => False
  | nn + 1, y11, k12, y13 => ((y13 ≤ 0 → True) ∧ (¬ y13 ≤ 0 → (∀ r15 : Int32, r15 = F_X6_isFull y11 → ((r15 = 0 → (∀ r17 : Int32, r17 = F_X6_size y11 → ((P_X6_at y11 (r17 - x9)) ∧ (∀ r19 : Int32, r19 = F_X6_at y11 k12 (r17 - x9) → ((P_X6_add y11) ∧ (∀ x22 : Int32, x22 = (F_X6_add y11 k12 r19).1 → (∀ g23 : Nat → Int32, g23 = (F_X6_add y11 k12 r19).2 → (∀ x24 : Int32, x24 = y13 + (-1) → (P_X8_repeatLast_L93 x9 nn x22 g23 x24))))))))) ∧ (¬ r15 = 0 → True)))))
set_option maxRecDepth 20000 in
def F_X8_repeatLast (n : Int32) (f : Nat → Int32) (fhb : Nat → Int32) (fsb : Nat → Int32) (opn : Int32) (usz : Int32) (tm : Int32) : Int32 × (Nat → Int32) × Int32 × Int32 := (if opn ≤ 0 then ((n, f, opn, usz)) else ((if 5 < opn then ((n, f, opn, usz)) else ((if opn ≤ 5 then (let x4 : Int32 := opn - 1; let x6 : Int32 := usz + ((usz - (fsb x4.toNatClampNeg)) * (tm - 1)); let r7 : Int32 := F_X6_size n; let x9 : Int32 := r7 - (fhb x4.toNatClampNeg); let x10 : Int32 := x9 * (tm - 1); let z25 : Int32 := (F_X8_repeatLast_L93 x9 62 n f x10).1; let f26 : Nat → Int32 := (F_X8_repeatLast_L93 x9 62 n f x10).2.1; (z25, f26, x4, x6)) else ((n, f, opn, usz)))))))
set_option maxRecDepth 20000 in
def P_X8_repeatLast (n : Int32) (f : Nat → Int32) (fhb : Nat → Int32) (fsb : Nat → Int32) (opn : Int32) (usz : Int32) (tm : Int32) : Prop := ((opn ≤ 0 → True) ∧ (¬ opn ≤ 0 → ((5 < opn → True) ∧ (¬ 5 < opn → ((opn ≤ 5 → (∀ x4 : Int32, x4 = opn - 1 → ((vp_in x4 5) ∧ (∀ x6 : Int32, x6 = usz + ((usz - (fsb x4.toNatClampNeg)) * (tm - 1)) → (∀ r7 : Int32, r7 = F_X6_size n → ((vp_in x4 5) ∧ (∀ x9 : Int32, x9 = r7 - (fhb x4.toNatClampNeg) → (∀ x10 : Int32, x10 = x9 * (tm - 1) → (P_X8_repeatLast_L93 x9 62 n f x10))))))))) ∧ (¬ opn ≤ 5 → True))))))
set_option maxRecDepth 20000 in
set_option maxHeartbeats 8000000 in
theorem m_X8_repeatLast (l : Launch) (D : va_G) (cI cL cP cJ : ClassId) (u : Nat) (h : Nat) (v : Nat) (hb : Nat) (sb : Nat) (n : Int32) (f : Nat → Int32) (fhb : Nat → Int32) (fsb : Nat → Int32) (opn : Int32) (usz : Int32) (tm : Int32) (hp : P_X8_repeatLast n f fhb fsb opn usz tm) : M vV l yX8_repeatLast cX8_repeatLast 4 none 1 21 D (tyF cI cL cP cJ) [.ref u, .int tm] [unrB cI u h v hb sb n f fhb fsb opn usz] (fun (r : Unit) (w1 : List va_W) => w1 = [unrB cI u h v hb sb ((F_X8_repeatLast n f fhb fsb opn usz tm).1) ((F_X8_repeatLast n f fhb fsb opn usz tm).2.1) fhb fsb ((F_X8_repeatLast n f fhb fsb opn usz tm).2.2.1) ((F_X8_repeatLast n f fhb fsb opn usz tm).2.2.2)]) := by
  unfold P_X8_repeatLast at hp
  refine m_start (by decide +kernel) (Nat.le_of_ble_eq_true rfl) (fun p e s m args below meth c A Q hA hQ C hr hlo => ?_)
  refine r_Le (L' := [(0, .ref u), (1, .int tm)]) rfl ?_
  refine r_aload_n C dX8_repeatLast_0 0 rfl ?_
  refine r_ws (I' := [[(u, .inr (6, [.ref h, .ref hb, .ref sb, .int opn, .int usz]))], [(h, .inr (4, [.ref v, .int n]))], [(v, .inl (cI, 60, .inl f))], [(hb, .inl (cI, 5, .inl fhb))], [(sb, .inl (cI, 5, .inl fsb))]]) rfl ?_
  refine r_get (Cn := RX8) (T := TX8) (N := 5) C inT8 0 rfl rfl 3 (by decide) t_187 rfl dX8_repeatLast_1 ?_
  refine r_if_le (tgt := 31) C dX8_repeatLast_4 (by decide) (fun c1 => ?_) (fun c1 => ?_)
  · refine r_ws (I' := [unrB cI u h v hb sb n f fhb fsb opn usz]) rfl ?_
    have eF : F_X8_repeatLast n f fhb fsb opn usz tm = (n, f, opn, usz) := by simp only [F_X8_repeatLast, if_pos c1]
    exact r_vret (r := ()) C hA hr hlo dX8_repeatLast_31 [unrB cI u h v hb sb n f fhb fsb opn usz] (by simp only [eF]) rfl hQ
  · have hp := hp.2 c1
    refine r_aload_n C dX8_repeatLast_7 0 rfl ?_
    refine r_get (Cn := RX8) (T := TX8) (N := 5) C inT8 0 rfl rfl 3 (by decide) t_187 rfl dX8_repeatLast_8 ?_
    refine r_aload_n C dX8_repeatLast_11 0 rfl ?_
    refine r_get (Cn := RX8) (T := TX8) (N := 5) C inT8 0 rfl rfl 1 (by decide) t_185 rfl dX8_repeatLast_12 ?_
    refine r_alen (v := 5) C 3 0 rfl rfl rfl dX8_repeatLast_15 ?_
    refine r_icmp_gt (tgt := 31) C dX8_repeatLast_16 (by decide) (fun c2 => ?_) (fun c2 => ?_)
    · refine r_ws (I' := [unrB cI u h v hb sb n f fhb fsb opn usz]) rfl ?_
      have eF : F_X8_repeatLast n f fhb fsb opn usz tm = (n, f, opn, usz) := by simp only [F_X8_repeatLast, if_neg c1, if_pos c2]
      exact r_vret (r := ()) C hA hr hlo dX8_repeatLast_31 [unrB cI u h v hb sb n f fhb fsb opn usz] (by simp only [eF]) rfl hQ
    · have hp := hp.2 c2
      refine r_aload_n C dX8_repeatLast_19 0 rfl ?_
      refine r_get (Cn := RX8) (T := TX8) (N := 5) C inT8 0 rfl rfl 3 (by decide) t_187 rfl dX8_repeatLast_20 ?_
      refine r_aload_n C dX8_repeatLast_23 0 rfl ?_
      refine r_get (Cn := RX8) (T := TX8) (N := 5) C inT8 0 rfl rfl 2 (by decide) t_186 rfl dX8_repeatLast_24 ?_
      refine r_alen (v := 5) C 4 0 rfl rfl rfl dX8_repeatLast_27 ?_
      refine r_icmp_le (tgt := 32) C dX8_repeatLast_28 (by decide) (fun c3 => ?_) (fun c3 => ?_)
      · have hp := hp.1 c3
        refine r_aload_n C dX8_repeatLast_32 0 rfl ?_
        refine r_dup C dX8_repeatLast_33 rfl ?_
        refine r_get (Cn := RX8) (T := TX8) (N := 5) C inT8 0 rfl rfl 3 (by decide) t_187 rfl dX8_repeatLast_34 ?_
        refine r_iconst (v := 1) C dX8_repeatLast_37 (by decide) ?_
        refine r_isub C dX8_repeatLast_38 rfl ?_
        refine r_top (fun x4 e_x4 => ?_)
        have hp := hp x4 e_x4
        refine r_put (Cn := RX8) (T := TX8) (N := 5) C inT8 0 rfl rfl 3 (by decide) t_187 tyX8 tyX8_ok nmX8 rfl rfl rfl (Nat.le_of_ble_eq_true rfl) (I' := [[(u, .inr (6, [.ref h, .ref hb, .ref sb, .int x4, .int usz]))], [(h, .inr (4, [.ref v, .int n]))], [(v, .inl (cI, 60, .inl f))], [(hb, .inl (cI, 5, .inl fhb))], [(sb, .inl (cI, 5, .inl fsb))]]) rfl dX8_repeatLast_39 ?_
        refine r_aload_n C dX8_repeatLast_42 0 rfl ?_
        refine r_dup C dX8_repeatLast_43 rfl ?_
        refine r_get (Cn := RX8) (T := TX8) (N := 5) C inT8 0 rfl rfl 4 (by decide) t_188 rfl dX8_repeatLast_44 ?_
        refine r_aload_n C dX8_repeatLast_47 0 rfl ?_
        refine r_get (Cn := RX8) (T := TX8) (N := 5) C inT8 0 rfl rfl 4 (by decide) t_188 rfl dX8_repeatLast_48 ?_
        refine r_aload_n C dX8_repeatLast_51 0 rfl ?_
        refine r_get (Cn := RX8) (T := TX8) (N := 5) C inT8 0 rfl rfl 2 (by decide) t_186 rfl dX8_repeatLast_52 ?_
        refine r_aload_n C dX8_repeatLast_55 0 rfl ?_
        refine r_get (Cn := RX8) (T := TX8) (N := 5) C inT8 0 rfl rfl 3 (by decide) t_187 rfl dX8_repeatLast_56 ?_
        obtain ⟨h5, hp⟩ := hp
        refine r_iald (z := fsb x4.toNatClampNeg) C 4 0 rfl rfl h5 dX8_repeatLast_59 rfl ?_
        refine r_isub C dX8_repeatLast_60 rfl ?_
        refine r_iload_n C dX8_repeatLast_61 1 rfl ?_
        refine r_iconst (v := 1) C dX8_repeatLast_62 (by decide) ?_
        refine r_isub C dX8_repeatLast_63 rfl ?_
        refine r_imul C dX8_repeatLast_64 rfl ?_
        refine r_iadd C dX8_repeatLast_65 rfl ?_
        refine r_top (fun x6 e_x6 => ?_)
        have hp := hp x6 e_x6
        refine r_put (Cn := RX8) (T := TX8) (N := 5) C inT8 0 rfl rfl 4 (by decide) t_188 tyX8 tyX8_ok nmX8 rfl rfl rfl (Nat.le_of_ble_eq_true rfl) (I' := [[(u, .inr (6, [.ref h, .ref hb, .ref sb, .int x4, .int x6]))], [(h, .inr (4, [.ref v, .int n]))], [(v, .inl (cI, 60, .inl f))], [(hb, .inl (cI, 5, .inl fhb))], [(sb, .inl (cI, 5, .inl fsb))]]) rfl dX8_repeatLast_66 ?_
        refine r_aload_n C dX8_repeatLast_69 0 rfl ?_
        refine r_get (Cn := RX8) (T := TX8) (N := 5) C inT8 0 rfl rfl 0 (by decide) t_184 rfl dX8_repeatLast_70 ?_
        refine r_ws (I' := [[(u, .inr (6, [.ref h, .ref hb, .ref sb, .int x4, .int x6]))], rowB cI h v n f, [(hb, .inl (cI, 5, .inl fhb))], [(sb, .inl (cI, 5, .inl fsb))]]) rfl ?_
        refine r_callV (ci := 4) (wc := [rowB cI h v n f]) (wr := [[(u, .inr (6, [.ref h, .ref hb, .ref sb, .int x4, .int x6]))], [(hb, .inl (cI, 5, .inl fhb))], [(sb, .inl (cI, 5, .inl fsb))]]) (st := []) C (m_X6_size l D cI cL cP cJ h v n f) k_X6_size t_687 [1, 0, 2, 3] (show ([1, 0, 2, 3] : List Nat).Perm (List.range 4) by decide) rfl rfl rfl (q0 := 0) rfl rfl rfl (Nat.le_of_ble_eq_true rfl) ⟨Nat.le_of_ble_eq_true rfl, Nat.le_of_ble_eq_true rfl⟩ ⟨Nat.zero_le _, Nat.zero_le _⟩ dX8_repeatLast_73 (fun r7 wr7 hw7 => ?_)
        obtain ⟨e_r7, rfl⟩ := hw7
        have hp := hp r7 e_r7
        refine r_ws (I' := [rowB cI h v n f, [(u, .inr (6, [.ref h, .ref hb, .ref sb, .int x4, .int x6]))], [(hb, .inl (cI, 5, .inl fhb))], [(sb, .inl (cI, 5, .inl fsb))]]) rfl ?_
        refine r_aload_n C dX8_repeatLast_76 0 rfl ?_
        refine r_get (Cn := RX8) (T := TX8) (N := 5) C inT8 1 rfl rfl 1 (by decide) t_185 rfl dX8_repeatLast_77 ?_
        refine r_aload_n C dX8_repeatLast_80 0 rfl ?_
        refine r_get (Cn := RX8) (T := TX8) (N := 5) C inT8 1 rfl rfl 3 (by decide) t_187 rfl dX8_repeatLast_81 ?_
        obtain ⟨h8, hp⟩ := hp
        refine r_iald (z := fhb x4.toNatClampNeg) C 2 0 rfl rfl h8 dX8_repeatLast_84 rfl ?_
        refine r_isub C dX8_repeatLast_85 rfl ?_
        refine r_top (fun x9 e_x9 => ?_)
        have hp := hp x9 e_x9
        refine r_istore_n (L' := [(2, .int x9), (0, .ref u), (1, .int tm)]) C dX8_repeatLast_86 (by decide) rfl ?_
        refine r_iload_n C dX8_repeatLast_87 0 rfl ?_
        refine r_iload_n C dX8_repeatLast_88 2 rfl ?_
        refine r_iconst (v := 1) C dX8_repeatLast_89 (by decide) ?_
        refine r_isub C dX8_repeatLast_90 rfl ?_
        refine r_imul C dX8_repeatLast_91 rfl ?_
        refine r_top (fun x10 e_x10 => ?_)
        have hp := hp x10 e_x10
        refine r_istore_n (L' := [(3, .int x10), (2, .int x9), (0, .ref u), (1, .int tm)]) C dX8_repeatLast_92 (by decide) rfl ?_
        have hpl := hp
        have hL : ∀ (nn : Nat) (y11 : Int32) (k12 : Nat → Int32) (y13 : Int32), P_X8_repeatLast_L93 x9 nn y11 k12 y13 → (∀ z25 : Int32, z25 = (F_X8_repeatLast_L93 x9 nn y11 k12 y13).1 → ∀ f26 : Nat → Int32, f26 = (F_X8_repeatLast_L93 x9 nn y11 k12 y13).2.1 → ∀ z27 : Int32, z27 = (F_X8_repeatLast_L93 x9 nn y11 k12 y13).2.2 → V p l e (rmm 1 21) s m args below meth c 4 D A 0 0 Q [rowB cI h v z25 f26, [(u, .inr (6, [.ref h, .ref hb, .ref sb, .int x4, .int x6]))], [(hb, .inl (cI, 5, .inl fhb))], [(sb, .inl (cI, 5, .inl fsb))]] [(3, .int z27), (2, .int x9), (0, .ref u), (1, .int tm)] 136 []) → V p l e (rmm 1 21) s m args below meth c 4 D A 0 0 Q [rowB cI h v y11 k12, [(u, .inr (6, [.ref h, .ref hb, .ref sb, .int x4, .int x6]))], [(hb, .inl (cI, 5, .inl fhb))], [(sb, .inl (cI, 5, .inl fsb))]] [(3, .int y13), (2, .int x9), (0, .ref u), (1, .int tm)] 93 [] := by
          clear hpl
          intro nn
          induction nn with
          | zero => intro y11 k12 y13 hp kk; rw [P_X8_repeatLast_L93] at hp; exact hp.elim
          | succ nn ih =>
            intro y11 k12 y13 hp kk
            rw [P_X8_repeatLast_L93] at hp
            refine r_iload_n C dX8_repeatLast_93 0 rfl ?_
            refine r_if_le (tgt := 136) C dX8_repeatLast_94 (by decide) (fun c14 => ?_) (fun c14 => ?_)
            · have eF : F_X8_repeatLast_L93 x9 (nn + 1) y11 k12 y13 = (y11, k12, y13) := by simp only [F_X8_repeatLast_L93, if_pos c14]
              exact kk _ (by rw [eF]) _ (by rw [eF]) _ (by rw [eF])
            · have hp := hp.2 c14
              refine r_aload_n C dX8_repeatLast_97 2 rfl ?_
              refine r_get (Cn := RX8) (T := TX8) (N := 5) C inT8 1 rfl rfl 0 (by decide) t_184 rfl dX8_repeatLast_98 ?_
              refine r_callV (ci := 4) (wc := [rowB cI h v y11 k12]) (wr := [[(u, .inr (6, [.ref h, .ref hb, .ref sb, .int x4, .int x6]))], [(hb, .inl (cI, 5, .inl fhb))], [(sb, .inl (cI, 5, .inl fsb))]]) (st := []) C (m_X6_isFull l D cI cL cP cJ h v y11 k12) k_X6_isFull t_693 [0, 1, 2, 3] (show ([0, 1, 2, 3] : List Nat).Perm (List.range 4) by decide) rfl rfl rfl (q0 := 0) rfl rfl rfl (Nat.le_of_ble_eq_true rfl) ⟨Nat.le_of_ble_eq_true rfl, Nat.le_of_ble_eq_true rfl⟩ ⟨Nat.zero_le _, Nat.zero_le _⟩ dX8_repeatLast_101 (fun r15 wr15 hw15 => ?_)
              obtain ⟨e_r15, rfl⟩ := hw15
              have hp := hp r15 e_r15
              refine r_ws (I' := [rowB cI h v y11 k12, [(u, .inr (6, [.ref h, .ref hb, .ref sb, .int x4, .int x6]))], [(hb, .inl (cI, 5, .inl fhb))], [(sb, .inl (cI, 5, .inl fsb))]]) rfl ?_
              refine r_if_ne (tgt := 136) C dX8_repeatLast_104 (by decide) (fun c16 => ?_) (fun c16 => ?_)
              · have eF : F_X8_repeatLast_L93 x9 (nn + 1) y11 k12 y13 = (y11, k12, y13) := by have q := e_r15.symm; subst q; simp only [F_X8_repeatLast_L93, if_neg c14, if_neg c16]
                exact kk _ (by rw [eF]) _ (by rw [eF]) _ (by rw [eF])
              · have hp := hp.1 c16
                refine r_aload_n C dX8_repeatLast_107 2 rfl ?_
                refine r_get (Cn := RX8) (T := TX8) (N := 5) C inT8 1 rfl rfl 0 (by decide) t_184 rfl dX8_repeatLast_108 ?_
                refine r_aload_n C dX8_repeatLast_111 2 rfl ?_
                refine r_get (Cn := RX8) (T := TX8) (N := 5) C inT8 1 rfl rfl 0 (by decide) t_184 rfl dX8_repeatLast_112 ?_
                refine r_aload_n C dX8_repeatLast_115 2 rfl ?_
                refine r_get (Cn := RX8) (T := TX8) (N := 5) C inT8 1 rfl rfl 0 (by decide) t_184 rfl dX8_repeatLast_116 ?_
                refine r_callV (ci := 4) (wc := [rowB cI h v y11 k12]) (wr := [[(u, .inr (6, [.ref h, .ref hb, .ref sb, .int x4, .int x6]))], [(hb, .inl (cI, 5, .inl fhb))], [(sb, .inl (cI, 5, .inl fsb))]]) (st := [.ref h, .ref h]) C (m_X6_size l D cI cL cP cJ h v y11 k12) k_X6_size t_687 [0, 1, 2, 3] (show ([0, 1, 2, 3] : List Nat).Perm (List.range 4) by decide) rfl rfl rfl (q0 := 0) rfl rfl rfl (Nat.le_of_ble_eq_true rfl) ⟨Nat.le_of_ble_eq_true rfl, Nat.le_of_ble_eq_true rfl⟩ ⟨Nat.zero_le _, Nat.zero_le _⟩ dX8_repeatLast_119 (fun r17 wr17 hw17 => ?_)
                obtain ⟨e_r17, rfl⟩ := hw17
                have hp := hp r17 e_r17
                refine r_ws (I' := [rowB cI h v y11 k12, [(u, .inr (6, [.ref h, .ref hb, .ref sb, .int x4, .int x6]))], [(hb, .inl (cI, 5, .inl fhb))], [(sb, .inl (cI, 5, .inl fsb))]]) rfl ?_
                refine r_iload_n C dX8_repeatLast_122 1 rfl ?_
                refine r_isub C dX8_repeatLast_123 rfl ?_
                obtain ⟨h18, hp⟩ := hp
                refine r_callV (ci := 4) (wc := [rowB cI h v y11 k12]) (wr := [[(u, .inr (6, [.ref h, .ref hb, .ref sb, .int x4, .int x6]))], [(hb, .inl (cI, 5, .inl fhb))], [(sb, .inl (cI, 5, .inl fsb))]]) (st := [.ref h]) C (m_X6_at l D cI cL cP cJ h v y11 k12 (r17 - x9) h18) k_X6_at t_688 [0, 1, 2, 3] (show ([0, 1, 2, 3] : List Nat).Perm (List.range 4) by decide) rfl rfl rfl (q0 := 0) rfl rfl rfl (Nat.le_of_ble_eq_true rfl) ⟨Nat.le_of_ble_eq_true rfl, Nat.le_of_ble_eq_true rfl⟩ ⟨Nat.zero_le _, Nat.zero_le _⟩ dX8_repeatLast_124 (fun r19 wr19 hw19 => ?_)
                obtain ⟨e_r19, rfl⟩ := hw19
                have hp := hp r19 e_r19
                refine r_ws (I' := [rowB cI h v y11 k12, [(u, .inr (6, [.ref h, .ref hb, .ref sb, .int x4, .int x6]))], [(hb, .inl (cI, 5, .inl fhb))], [(sb, .inl (cI, 5, .inl fsb))]]) rfl ?_
                obtain ⟨h20, hp⟩ := hp
                refine r_callV (ci := 4) (wc := [rowB cI h v y11 k12]) (wr := [[(u, .inr (6, [.ref h, .ref hb, .ref sb, .int x4, .int x6]))], [(hb, .inl (cI, 5, .inl fhb))], [(sb, .inl (cI, 5, .inl fsb))]]) (st := []) C (m_X6_add l D cI cL cP cJ h v y11 k12 r19 h20) k_X6_add t_694 [0, 1, 2, 3] (show ([0, 1, 2, 3] : List Nat).Perm (List.range 4) by decide) rfl rfl rfl (q0 := 0) rfl rfl rfl (Nat.le_of_ble_eq_true rfl) ⟨Nat.le_of_ble_eq_true rfl, Nat.le_of_ble_eq_true rfl⟩ ⟨Nat.zero_le _, Nat.zero_le _⟩ dX8_repeatLast_127 (fun r21 wr21 hw21 => ?_)
                obtain rfl := hw21
                obtain ⟨x22, e_x22⟩ : ∃ z : Int32, z = (F_X6_add y11 k12 r19).1 := ⟨_, rfl⟩
                have hp := hp x22 e_x22
                obtain ⟨g23, e_g23⟩ : ∃ z : Nat → Int32, z = (F_X6_add y11 k12 r19).2 := ⟨_, rfl⟩
                have hp := hp g23 e_g23
                refine r_ws (I' := [rowB cI h v x22 g23, [(u, .inr (6, [.ref h, .ref hb, .ref sb, .int x4, .int x6]))], [(hb, .inl (cI, 5, .inl fhb))], [(sb, .inl (cI, 5, .inl fsb))]]) (by rw [e_x22, e_g23]; rfl) ?_
                obtain ⟨x24, e_x24⟩ : ∃ z : Int32, z = y13 + (-1) := ⟨_, rfl⟩
                have hp := hp x24 e_x24
                refine r_iinc (v := x24) (L' := [(3, .int x24), (2, .int x9), (0, .ref u), (1, .int tm)]) C dX8_repeatLast_130 0 rfl (by rw [e_x24]; exact ii (by decide)) (by decide) rfl ?_
                refine r_goto (tgt := 93) C dX8_repeatLast_133 (by decide) ?_
                have eF : F_X8_repeatLast_L93 x9 (nn + 1) y11 k12 y13 = F_X8_repeatLast_L93 x9 nn x22 g23 x24 := by have q := e_r15.symm; subst q; have q := e_r17.symm; subst q; have q := e_r19.symm; subst q; have q := e_x22.symm; subst q; have q := e_g23.symm; subst q; have q := e_x24.symm; subst q; simp only [F_X8_repeatLast_L93, if_neg c14, if_pos c16]
                exact ih x22 g23 x24 hp (fun z25 e_z25 f26 e_f26 z27 e_z27 => kk z25 (by rw [eF]; exact e_z25) f26 (by rw [eF]; exact e_f26) z27 (by rw [eF]; exact e_z27))
        refine hL 62 n f x10 hpl (fun z25 e_z25 f26 e_f26 z27 e_z27 => ?_)
        clear hL hpl
        refine r_ws (I' := [[(h, .inr (4, [.ref v, .int z25]))], [(v, .inl (cI, 60, .inl f26))], [(u, .inr (6, [.ref h, .ref hb, .ref sb, .int x4, .int x6]))], [(hb, .inl (cI, 5, .inl fhb))], [(sb, .inl (cI, 5, .inl fsb))]]) rfl ?_
        refine r_pl (I' := [[(u, .inr (6, [.ref h, .ref hb, .ref sb, .int x4, .int x6]))], [(h, .inr (4, [.ref v, .int z25]))], [(v, .inl (cI, 60, .inl f26))], [(hb, .inl (cI, 5, .inl fhb))], [(sb, .inl (cI, 5, .inl fsb))]]) [2, 0, 1, 3, 4] (show ([2, 0, 1, 3, 4] : List Nat).Perm (List.range 5) by decide) rfl ?_
        refine r_ws (I' := [unrB cI u h v hb sb z25 f26 fhb fsb x4 x6]) rfl ?_
        have eF : F_X8_repeatLast n f fhb fsb opn usz tm = (z25, f26, x4, x6) := by have q := e_x4.symm; subst q; have q := e_x6.symm; subst q; have q := e_r7.symm; subst q; have q := e_x9.symm; subst q; have q := e_x10.symm; subst q; have q := e_z25.symm; subst q; have q := e_f26.symm; subst q; have q := e_z27.symm; subst q; simp only [F_X8_repeatLast, if_neg c1, if_neg c2, if_pos c3]
        exact r_vret (r := ()) C hA hr hlo dX8_repeatLast_136 [unrB cI u h v hb sb z25 f26 fhb fsb x4 x6] (by simp only [eF]) rfl hQ
      · refine r_ws (I' := [unrB cI u h v hb sb n f fhb fsb opn usz]) rfl ?_
        have eF : F_X8_repeatLast n f fhb fsb opn usz tm = (n, f, opn, usz) := by simp only [F_X8_repeatLast, if_neg c1, if_neg c2, if_neg c3]
        exact r_vret (r := ()) C hA hr hlo dX8_repeatLast_31 [unrB cI u h v hb sb n f fhb fsb opn usz] (by simp only [eF]) rfl hQ
theorem k_X8_read : kV yX8_read cX8_read 4 none 1 := ⟨t_683, t_684, t_65, t_685, by decide +kernel, by decide +kernel, by decide +kernel⟩
def F_X8_read_L19 (n2 : Int32) (f2 : Nat → Int32) : Nat → Int32 → (Nat → Int32) → (Nat → Int32) → (Nat → Int32) → Int32 → Int32 → Int32 → Int32 × (Nat → Int32) × (Nat → Int32) × (Nat → Int32) × Int32 × Int32 × Int32
  | 0, y3, k4, k5, k6, y7, y8, y9 => (y3, k4, k5, k6, y7, y8, y9)
  | nn + 1, y3, k4, k5, k6, y7, y8, y9 => let r10 : Int32 := F_X6_size n2; (if r10 ≤ y7 then ((y3, k4, k5, k6, y7, y8, y9)) else (let r13 : Int32 := F_X6_at n2 f2 y7; let r15 : Int32 := F_X6_at n2 f2 (y7 - 1); let x35 : Int32 := (if r15 = 41 then (let x31 : Int32 := (F_X8_repeatLast y3 k4 k5 k6 y8 y9 (r13 - 48)).1; x31) else ((if r13 = 40 then (y3) else ((if r13 = 41 then (y3) else (let x22 : Int32 := (F_X6_add y3 k4 (r13 - 48)).1; x22)))))); let g36 : Nat → Int32 := (if r15 = 41 then (let g32 : Nat → Int32 := (F_X8_repeatLast y3 k4 k5 k6 y8 y9 (r13 - 48)).2.1; g32) else ((if r13 = 40 then (k4) else ((if r13 = 41 then (k4) else (let g23 : Nat → Int32 := (F_X6_add y3 k4 (r13 - 48)).2; g23)))))); let x37 : Int32 := (if r15 = 41 then (let x33 : Int32 := (F_X8_repeatLast y3 k4 k5 k6 y8 y9 (r13 - 48)).2.2.1; x33) else ((if r13 = 40 then (let x28 : Int32 := (F_X8_openBracket y3 k5 k6 y8 y9).2.2; x28) else ((if r13 = 41 then (y8) else (y8)))))); let x38 : Int32 := (if r15 = 41 then (let x34 : Int32 := (F_X8_repeatLast y3 k4 k5 k6 y8 y9 (r13 - 48)).2.2.2; x34) else ((if r13 = 40 then (y9) else ((if r13 = 41 then (y9) else (let x19 : Int32 := y9 + 1; x19)))))); let g39 : Nat → Int32 := (if r15 = 41 then (k5) else ((if r13 = 40 then (let g26 : Nat → Int32 := (F_X8_openBracket y3 k5 k6 y8 y9).1; g26) else ((if r13 = 41 then (k5) else (k5)))))); let g40 : Nat → Int32 := (if r15 = 41 then (k6) else ((if r13 = 40 then (let g27 : Nat → Int32 := (F_X8_openBracket y3 k5 k6 y8 y9).2.1; g27) else ((if r13 = 41 then (k6) else (k6)))))); let x41 : Int32 := y7 + 1; F_X8_read_L19 n2 f2 nn x35 g36 g39 g40 x41 x37 x38))
def P_X8_read_L19 (n2 : Int32) (f2 : Nat → Int32) : Nat → Int32 → (Nat → Int32) → (Nat → Int32) → (Nat → Int32) → Int32 → Int32 → Int32 → Prop
  | 0, _, _, _, _, _, _, _ => False
  | nn + 1, y3, k4, k5, k6, y7, y8, y9 => (∀ r10 : Int32, r10 = F_X6_size n2 → ((r10 ≤ y7 → True) ∧ (¬ r10 ≤ y7 → ((P_X6_at n2 y7) ∧ (∀ r13 : Int32, r13 = F_X6_at n2 f2 y7 → ((P_X6_at n2 (y7 - 1)) ∧ (∀ r15 : Int32, r15 = F_X6_at n2 f2 (y7 - 1) → (((r15 = 41 → (P_X8_repeatLast y3 k4 k5 k6 y8 y9 (r13 - 48))) ∧ (¬ r15 = 41 → ((r13 = 40 → (P_X8_openBracket y3 k5 y8)) ∧ (¬ r13 = 40 → ((r13 = 41 → True) ∧ (¬ r13 = 41 → (∀ x19 : Int32, x19 = y9 + 1 → (P_X6_add y3)))))))) ∧ (∀ x35 : Int32, x35 = ((if r15 = 41 then (let x31 : Int32 := (F_X8_repeatLast y3 k4 k5 k6 y8 y9 (r13 - 48)).1; x31) else ((if r13 = 40 then (y3) else ((if r13 = 41 then (y3) else (let x22 : Int32 := (F_X6_add y3 k4 (r13 - 48)).1; x22))))))) → (∀ g36 : Nat → Int32, g36 = ((if r15 = 41 then (let g32 : Nat → Int32 := (F_X8_repeatLast y3 k4 k5 k6 y8 y9 (r13 - 48)).2.1; g32) else ((if r13 = 40 then (k4) else ((if r13 = 41 then (k4) else (let g23 : Nat → Int32 := (F_X6_add y3 k4 (r13 - 48)).2; g23))))))) → (∀ x37 : Int32, x37 = ((if r15 = 41 then (let x33 : Int32 := (F_X8_repeatLast y3 k4 k5 k6 y8 y9 (r13 - 48)).2.2.1; x33) else ((if r13 = 40 then (let x28 : Int32 := (F_X8_openBracket y3 k5 k6 y8 y9).2.2; x28) else ((if r13 = 41 then (y8) else (y8))))))) → (∀ x38 : Int32, x38 = ((if r15 = 41 then (let x34 : Int32 := (F_X8_repeatLast y3 k4 k5 k6 y8 y9 (r13 - 48)).2.2.2; x34) else ((if r13 = 40 then (y9) else ((if r13 = 41 then (y9) else (let x19 : Int32 := y9 + 1; x19))))))) → (∀ g39 : Nat → Int32, g39 = ((if r15 = 41 then (k5) else ((if r13 = 40 then (let g26 : Nat → Int32 := (F_X8_openBracket y3 k5 k6 y8 y9).1; g26) else ((if r13 = 41 then (k5) else (k5))))))) → (∀ g40 : Nat → Int32, g40 = ((if r15 = 41 then (k6) else ((if r13 = 40 then (let g27 : Nat → Int32 := (F_X8_openBracket y3 k5 k6 y8 y9).2.1; g27) else ((if r13 = 41 then (k6) else (k6))))))) → (∀ x41 : Int32, x41 = y7 + 1 → (P_X8_read_L19 n2 f2 nn x35 g36 g39 g40 x41 x37 x38))))))))))))))))
set_option maxRecDepth 20000 in
def F_X8_read (f : Nat → Int32) (fhb : Nat → Int32) (fsb : Nat → Int32) (n2 : Int32) (f2 : Nat → Int32) : Int32 × (Nat → Int32) × (Nat → Int32) × (Nat → Int32) × Int32 × Int32 := let x2 : Int32 := F_X6_clear ; let z42 : Int32 := (F_X8_read_L19 n2 f2 62 x2 f fhb fsb 0 0 0).1; let f43 : Nat → Int32 := (F_X8_read_L19 n2 f2 62 x2 f fhb fsb 0 0 0).2.1; let f44 : Nat → Int32 := (F_X8_read_L19 n2 f2 62 x2 f fhb fsb 0 0 0).2.2.1; let f45 : Nat → Int32 := (F_X8_read_L19 n2 f2 62 x2 f fhb fsb 0 0 0).2.2.2.1; let z47 : Int32 := (F_X8_read_L19 n2 f2 62 x2 f fhb fsb 0 0 0).2.2.2.2.2.1; let z48 : Int32 := (F_X8_read_L19 n2 f2 62 x2 f fhb fsb 0 0 0).2.2.2.2.2.2; (z42, f43, f44, f45, z47, z48)
set_option maxRecDepth 20000 in
def P_X8_read (f : Nat → Int32) (fhb : Nat → Int32) (fsb : Nat → Int32) (n2 : Int32) (f2 : Nat → Int32) : Prop := (∀ x2 : Int32, x2 = F_X6_clear  → (P_X8_read_L19 n2 f2 62 x2 f fhb fsb 0 0 0))
set_option maxRecDepth 20000 in
set_option maxHeartbeats 8000000 in
theorem m_X8_read (l : Launch) (D : va_G) (cI cL cP cJ : ClassId) (u : Nat) (h : Nat) (v : Nat) (hb : Nat) (sb : Nat) (n : Int32) (f : Nat → Int32) (fhb : Nat → Int32) (fsb : Nat → Int32) (opn : Int32) (usz : Int32) (h2 : Nat) (v2 : Nat) (n2 : Int32) (f2 : Nat → Int32) (hp : P_X8_read f fhb fsb n2 f2) : M vV l yX8_read cX8_read 4 none 2 44 D (tyF cI cL cP cJ) [.ref u, .ref h2] [unrB cI u h v hb sb n f fhb fsb opn usz, rowB cI h2 v2 n2 f2] (fun (r : Unit) (w1 : List va_W) => w1 = [unrB cI u h v hb sb ((F_X8_read f fhb fsb n2 f2).1) ((F_X8_read f fhb fsb n2 f2).2.1) ((F_X8_read f fhb fsb n2 f2).2.2.1) ((F_X8_read f fhb fsb n2 f2).2.2.2.1) ((F_X8_read f fhb fsb n2 f2).2.2.2.2.1) ((F_X8_read f fhb fsb n2 f2).2.2.2.2.2), rowB cI h2 v2 n2 f2]) := by
  unfold P_X8_read at hp
  refine m_start (by decide +kernel) (Nat.le_of_ble_eq_true rfl) (fun p e s m args below meth c A Q hA hQ C hr hlo => ?_)
  refine r_Le (L' := [(0, .ref u), (1, .ref h2)]) rfl ?_
  refine r_aload_n C dX8_read_0 0 rfl ?_
  refine r_iconst (v := 0) C dX8_read_1 (by decide) ?_
  refine r_ws (I' := [[(u, .inr (6, [.ref h, .ref hb, .ref sb, .int opn, .int usz]))], [(h, .inr (4, [.ref v, .int n]))], [(v, .inl (cI, 60, .inl f))], [(hb, .inl (cI, 5, .inl fhb))], [(sb, .inl (cI, 5, .inl fsb))], rowB cI h2 v2 n2 f2]) rfl ?_
  refine r_put (Cn := RX8) (T := TX8) (N := 5) C inT8 0 rfl rfl 3 (by decide) t_187 tyX8 tyX8_ok nmX8 rfl rfl rfl (Nat.le_of_ble_eq_true rfl) (I' := [[(u, .inr (6, [.ref h, .ref hb, .ref sb, .int 0, .int usz]))], [(h, .inr (4, [.ref v, .int n]))], [(v, .inl (cI, 60, .inl f))], [(hb, .inl (cI, 5, .inl fhb))], [(sb, .inl (cI, 5, .inl fsb))], rowB cI h2 v2 n2 f2]) rfl dX8_read_2 ?_
  refine r_aload_n C dX8_read_5 0 rfl ?_
  refine r_iconst (v := 0) C dX8_read_6 (by decide) ?_
  refine r_put (Cn := RX8) (T := TX8) (N := 5) C inT8 0 rfl rfl 4 (by decide) t_188 tyX8 tyX8_ok nmX8 rfl rfl rfl (Nat.le_of_ble_eq_true rfl) (I' := [[(u, .inr (6, [.ref h, .ref hb, .ref sb, .int 0, .int 0]))], [(h, .inr (4, [.ref v, .int n]))], [(v, .inl (cI, 60, .inl f))], [(hb, .inl (cI, 5, .inl fhb))], [(sb, .inl (cI, 5, .inl fsb))], rowB cI h2 v2 n2 f2]) rfl dX8_read_7 ?_
  refine r_aload_n C dX8_read_10 0 rfl ?_
  refine r_get (Cn := RX8) (T := TX8) (N := 5) C inT8 0 rfl rfl 0 (by decide) t_184 rfl dX8_read_11 ?_
  refine r_ws (I' := [[(u, .inr (6, [.ref h, .ref hb, .ref sb, .int 0, .int 0]))], rowB cI h v n f, [(hb, .inl (cI, 5, .inl fhb))], [(sb, .inl (cI, 5, .inl fsb))], rowB cI h2 v2 n2 f2]) rfl ?_
  refine r_callV (ci := 4) (wc := [rowB cI h v n f]) (wr := [[(u, .inr (6, [.ref h, .ref hb, .ref sb, .int 0, .int 0]))], [(hb, .inl (cI, 5, .inl fhb))], [(sb, .inl (cI, 5, .inl fsb))], rowB cI h2 v2 n2 f2]) (st := []) C (m_X6_clear l D cI cL cP cJ h v n f) k_X6_clear t_686 [1, 0, 2, 3, 4] (show ([1, 0, 2, 3, 4] : List Nat).Perm (List.range 5) by decide) rfl rfl rfl (q0 := 0) rfl rfl rfl (Nat.le_of_ble_eq_true rfl) ⟨Nat.le_of_ble_eq_true rfl, Nat.le_of_ble_eq_true rfl⟩ ⟨Nat.zero_le _, Nat.zero_le _⟩ dX8_read_14 (fun r1 wr1 hw1 => ?_)
  obtain rfl := hw1
  obtain ⟨x2, e_x2⟩ : ∃ z : Int32, z = F_X6_clear  := ⟨_, rfl⟩
  have hp := hp x2 e_x2
  refine r_ws (I' := [rowB cI h v x2 f, [(u, .inr (6, [.ref h, .ref hb, .ref sb, .int 0, .int 0]))], [(hb, .inl (cI, 5, .inl fhb))], [(sb, .inl (cI, 5, .inl fsb))], rowB cI h2 v2 n2 f2]) (by rw [e_x2]; rfl) ?_
  refine r_iconst (v := 0) C dX8_read_17 (by decide) ?_
  refine r_istore_n (L' := [(2, .int 0), (0, .ref u), (1, .ref h2)]) C dX8_read_18 (by decide) rfl ?_
  have hpl := hp
  have hL : ∀ (nn : Nat) (y3 : Int32) (k4 : Nat → Int32) (k5 : Nat → Int32) (k6 : Nat → Int32) (y7 : Int32) (y8 : Int32) (y9 : Int32), P_X8_read_L19 n2 f2 nn y3 k4 k5 k6 y7 y8 y9 → (∀ z42 : Int32, z42 = (F_X8_read_L19 n2 f2 nn y3 k4 k5 k6 y7 y8 y9).1 → ∀ f43 : Nat → Int32, f43 = (F_X8_read_L19 n2 f2 nn y3 k4 k5 k6 y7 y8 y9).2.1 → ∀ f44 : Nat → Int32, f44 = (F_X8_read_L19 n2 f2 nn y3 k4 k5 k6 y7 y8 y9).2.2.1 → ∀ f45 : Nat → Int32, f45 = (F_X8_read_L19 n2 f2 nn y3 k4 k5 k6 y7 y8 y9).2.2.2.1 → ∀ z46 : Int32, z46 = (F_X8_read_L19 n2 f2 nn y3 k4 k5 k6 y7 y8 y9).2.2.2.2.1 → ∀ z47 : Int32, z47 = (F_X8_read_L19 n2 f2 nn y3 k4 k5 k6 y7 y8 y9).2.2.2.2.2.1 → ∀ z48 : Int32, z48 = (F_X8_read_L19 n2 f2 nn y3 k4 k5 k6 y7 y8 y9).2.2.2.2.2.2 → V p l e (rmm 2 44) s m args below meth c 4 D A 0 0 Q [rowB cI h v z42 f43, [(u, .inr (6, [.ref h, .ref hb, .ref sb, .int z47, .int z48]))], [(hb, .inl (cI, 5, .inl f44))], [(sb, .inl (cI, 5, .inl f45))], rowB cI h2 v2 n2 f2] [(2, .int z46), (0, .ref u), (1, .ref h2)] 102 []) → V p l e (rmm 2 44) s m args below meth c 4 D A 0 0 Q [rowB cI h v y3 k4, [(u, .inr (6, [.ref h, .ref hb, .ref sb, .int y8, .int y9]))], [(hb, .inl (cI, 5, .inl k5))], [(sb, .inl (cI, 5, .inl k6))], rowB cI h2 v2 n2 f2] [(2, .int y7), (0, .ref u), (1, .ref h2)] 19 [] := by
    clear hpl
    intro nn
    induction nn with
    | zero => intro y3 k4 k5 k6 y7 y8 y9 hp kk; rw [P_X8_read_L19] at hp; exact hp.elim
    | succ nn ih =>
      intro y3 k4 k5 k6 y7 y8 y9 hp kk
      rw [P_X8_read_L19] at hp
      refine r_iload_n C dX8_read_19 0 rfl ?_
      refine r_aload_n C dX8_read_20 2 rfl ?_
      refine r_callV (ci := 4) (wc := [rowB cI h2 v2 n2 f2]) (wr := [rowB cI h v y3 k4, [(u, .inr (6, [.ref h, .ref hb, .ref sb, .int y8, .int y9]))], [(hb, .inl (cI, 5, .inl k5))], [(sb, .inl (cI, 5, .inl k6))]]) (st := [.int y7]) C (m_X6_size l D cI cL cP cJ h2 v2 n2 f2) k_X6_size t_687 [4, 0, 1, 2, 3] (show ([4, 0, 1, 2, 3] : List Nat).Perm (List.range 5) by decide) rfl rfl rfl (q0 := 0) rfl rfl rfl (Nat.le_of_ble_eq_true rfl) ⟨Nat.le_of_ble_eq_true rfl, Nat.le_of_ble_eq_true rfl⟩ ⟨Nat.zero_le _, Nat.zero_le _⟩ dX8_read_21 (fun r10 wr10 hw10 => ?_)
      obtain ⟨e_r10, rfl⟩ := hw10
      have hp := hp r10 e_r10
      refine r_ws (I' := [rowB cI h2 v2 n2 f2, rowB cI h v y3 k4, [(u, .inr (6, [.ref h, .ref hb, .ref sb, .int y8, .int y9]))], [(hb, .inl (cI, 5, .inl k5))], [(sb, .inl (cI, 5, .inl k6))]]) rfl ?_
      refine r_icmp_ge (tgt := 102) C dX8_read_24 (by decide) (fun c11 => ?_) (fun c11 => ?_)
      · refine r_pl (I' := [rowB cI h v y3 k4, [(u, .inr (6, [.ref h, .ref hb, .ref sb, .int y8, .int y9]))], [(hb, .inl (cI, 5, .inl k5))], [(sb, .inl (cI, 5, .inl k6))], rowB cI h2 v2 n2 f2]) [1, 2, 3, 4, 0] (show ([1, 2, 3, 4, 0] : List Nat).Perm (List.range 5) by decide) rfl ?_
        have eF : F_X8_read_L19 n2 f2 (nn + 1) y3 k4 k5 k6 y7 y8 y9 = (y3, k4, k5, k6, y7, y8, y9) := by have q := e_r10.symm; subst q; simp only [F_X8_read_L19, if_pos c11]
        exact kk _ (by rw [eF]) _ (by rw [eF]) _ (by rw [eF]) _ (by rw [eF]) _ (by rw [eF]) _ (by rw [eF]) _ (by rw [eF])
      · have hp := hp.2 c11
        refine r_aload_n C dX8_read_27 2 rfl ?_
        refine r_iload_n C dX8_read_28 0 rfl ?_
        obtain ⟨h12, hp⟩ := hp
        refine r_callV (ci := 4) (wc := [rowB cI h2 v2 n2 f2]) (wr := [rowB cI h v y3 k4, [(u, .inr (6, [.ref h, .ref hb, .ref sb, .int y8, .int y9]))], [(hb, .inl (cI, 5, .inl k5))], [(sb, .inl (cI, 5, .inl k6))]]) (st := []) C (m_X6_at l D cI cL cP cJ h2 v2 n2 f2 y7 h12) k_X6_at t_688 [0, 1, 2, 3, 4] (show ([0, 1, 2, 3, 4] : List Nat).Perm (List.range 5) by decide) rfl rfl rfl (q0 := 0) rfl rfl rfl (Nat.le_of_ble_eq_true rfl) ⟨Nat.le_of_ble_eq_true rfl, Nat.le_of_ble_eq_true rfl⟩ ⟨Nat.zero_le _, Nat.zero_le _⟩ dX8_read_29 (fun r13 wr13 hw13 => ?_)
        obtain ⟨e_r13, rfl⟩ := hw13
        have hp := hp r13 e_r13
        refine r_ws (I' := [rowB cI h2 v2 n2 f2, rowB cI h v y3 k4, [(u, .inr (6, [.ref h, .ref hb, .ref sb, .int y8, .int y9]))], [(hb, .inl (cI, 5, .inl k5))], [(sb, .inl (cI, 5, .inl k6))]]) rfl ?_
        refine r_istore_n (L' := [(3, .int r13), (2, .int y7), (0, .ref u), (1, .ref h2)]) C dX8_read_32 (by decide) rfl ?_
        refine r_aload_n C dX8_read_33 3 rfl ?_
        refine r_iload_n C dX8_read_34 1 rfl ?_
        refine r_iconst (v := 1) C dX8_read_35 (by decide) ?_
        refine r_isub C dX8_read_36 rfl ?_
        obtain ⟨h14, hp⟩ := hp
        refine r_callV (ci := 4) (wc := [rowB cI h2 v2 n2 f2]) (wr := [rowB cI h v y3 k4, [(u, .inr (6, [.ref h, .ref hb, .ref sb, .int y8, .int y9]))], [(hb, .inl (cI, 5, .inl k5))], [(sb, .inl (cI, 5, .inl k6))]]) (st := []) C (m_X6_at l D cI cL cP cJ h2 v2 n2 f2 (y7 - 1) h14) k_X6_at t_688 [0, 1, 2, 3, 4] (show ([0, 1, 2, 3, 4] : List Nat).Perm (List.range 5) by decide) rfl rfl rfl (q0 := 0) rfl rfl rfl (Nat.le_of_ble_eq_true rfl) ⟨Nat.le_of_ble_eq_true rfl, Nat.le_of_ble_eq_true rfl⟩ ⟨Nat.zero_le _, Nat.zero_le _⟩ dX8_read_37 (fun r15 wr15 hw15 => ?_)
        obtain ⟨e_r15, rfl⟩ := hw15
        have hp := hp r15 e_r15
        refine r_ws (I' := [rowB cI h2 v2 n2 f2, rowB cI h v y3 k4, [(u, .inr (6, [.ref h, .ref hb, .ref sb, .int y8, .int y9]))], [(hb, .inl (cI, 5, .inl k5))], [(sb, .inl (cI, 5, .inl k6))]]) rfl ?_
        refine r_bipush (v := 41) C dX8_read_40 (by decide) ?_
        obtain ⟨hps, hp⟩ := hp
        suffices K : ∀ x35 : Int32, x35 = ((if r15 = 41 then (let x31 : Int32 := (F_X8_repeatLast y3 k4 k5 k6 y8 y9 (r13 - 48)).1; x31) else ((if r13 = 40 then (y3) else ((if r13 = 41 then (y3) else (let x22 : Int32 := (F_X6_add y3 k4 (r13 - 48)).1; x22))))))) → ∀ g36 : Nat → Int32, g36 = ((if r15 = 41 then (let g32 : Nat → Int32 := (F_X8_repeatLast y3 k4 k5 k6 y8 y9 (r13 - 48)).2.1; g32) else ((if r13 = 40 then (k4) else ((if r13 = 41 then (k4) else (let g23 : Nat → Int32 := (F_X6_add y3 k4 (r13 - 48)).2; g23))))))) → ∀ x37 : Int32, x37 = ((if r15 = 41 then (let x33 : Int32 := (F_X8_repeatLast y3 k4 k5 k6 y8 y9 (r13 - 48)).2.2.1; x33) else ((if r13 = 40 then (let x28 : Int32 := (F_X8_openBracket y3 k5 k6 y8 y9).2.2; x28) else ((if r13 = 41 then (y8) else (y8))))))) → ∀ x38 : Int32, x38 = ((if r15 = 41 then (let x34 : Int32 := (F_X8_repeatLast y3 k4 k5 k6 y8 y9 (r13 - 48)).2.2.2; x34) else ((if r13 = 40 then (y9) else ((if r13 = 41 then (y9) else (let x19 : Int32 := y9 + 1; x19))))))) → ∀ g39 : Nat → Int32, g39 = ((if r15 = 41 then (k5) else ((if r13 = 40 then (let g26 : Nat → Int32 := (F_X8_openBracket y3 k5 k6 y8 y9).1; g26) else ((if r13 = 41 then (k5) else (k5))))))) → ∀ g40 : Nat → Int32, g40 = ((if r15 = 41 then (k6) else ((if r13 = 40 then (let g27 : Nat → Int32 := (F_X8_openBracket y3 k5 k6 y8 y9).2.1; g27) else ((if r13 = 41 then (k6) else (k6))))))) → V p l e (rmm 2 44) s m args below meth c 4 D A 0 0 Q [rowB cI h2 v2 n2 f2, rowB cI h v x35 g36, [(u, .inr (6, [.ref h, .ref hb, .ref sb, .int x37, .int x38]))], [(hb, .inl (cI, 5, .inl g39))], [(sb, .inl (cI, 5, .inl g40))]] [(3, .int r13), (2, .int y7), (0, .ref u), (1, .ref h2)] 96 [] by
          have hp := hps
          refine r_icmp_ne (tgt := 56) C dX8_read_42 (by decide) (fun c16 => ?_) (fun c16 => ?_)
          · have hp := hp.2 c16
            refine r_iload_n C dX8_read_56 0 rfl ?_
            refine r_bipush (v := 40) C dX8_read_57 (by decide) ?_
            refine r_icmp_ne (tgt := 69) C dX8_read_59 (by decide) (fun c17 => ?_) (fun c17 => ?_)
            · have hp := hp.2 c17
              refine r_iload_n C dX8_read_69 0 rfl ?_
              refine r_bipush (v := 41) C dX8_read_70 (by decide) ?_
              refine r_icmp_eq (tgt := 96) C dX8_read_72 (by decide) (fun c18 => ?_) (fun c18 => ?_)
              · exact K _ (by simp only [if_neg c16, if_neg c17, if_pos c18]) _ (by simp only [if_neg c16, if_neg c17, if_pos c18]) _ (by simp only [if_neg c16, if_neg c17, if_pos c18]) _ (by simp only [if_neg c16, if_neg c17, if_pos c18]) _ (by simp only [if_neg c16, if_neg c17, if_pos c18]) _ (by simp only [if_neg c16, if_neg c17, if_pos c18])
              · have hp := hp.2 c18
                refine r_aload_n C dX8_read_75 2 rfl ?_
                refine r_dup C dX8_read_76 rfl ?_
                refine r_get (Cn := RX8) (T := TX8) (N := 5) C inT8 2 rfl rfl 4 (by decide) t_188 rfl dX8_read_77 ?_
                refine r_iconst (v := 1) C dX8_read_80 (by decide) ?_
                refine r_iadd C dX8_read_81 rfl ?_
                refine r_top (fun x19 e_x19 => ?_)
                have hp := hp x19 e_x19
                refine r_put (Cn := RX8) (T := TX8) (N := 5) C inT8 2 rfl rfl 4 (by decide) t_188 tyX8 tyX8_ok nmX8 rfl rfl rfl (Nat.le_of_ble_eq_true rfl) (I' := [rowB cI h2 v2 n2 f2, rowB cI h v y3 k4, [(u, .inr (6, [.ref h, .ref hb, .ref sb, .int y8, .int x19]))], [(hb, .inl (cI, 5, .inl k5))], [(sb, .inl (cI, 5, .inl k6))]]) rfl dX8_read_82 ?_
                refine r_aload_n C dX8_read_85 2 rfl ?_
                refine r_get (Cn := RX8) (T := TX8) (N := 5) C inT8 2 rfl rfl 0 (by decide) t_184 rfl dX8_read_86 ?_
                refine r_iload_n C dX8_read_89 0 rfl ?_
                refine r_bipush (v := 48) C dX8_read_90 (by decide) ?_
                refine r_isub C dX8_read_92 rfl ?_
                have h20 := hp
                refine r_callV (ci := 4) (wc := [rowB cI h v y3 k4]) (wr := [rowB cI h2 v2 n2 f2, [(u, .inr (6, [.ref h, .ref hb, .ref sb, .int y8, .int x19]))], [(hb, .inl (cI, 5, .inl k5))], [(sb, .inl (cI, 5, .inl k6))]]) (st := []) C (m_X6_add l D cI cL cP cJ h v y3 k4 (r13 - 48) h20) k_X6_add t_694 [1, 0, 2, 3, 4] (show ([1, 0, 2, 3, 4] : List Nat).Perm (List.range 5) by decide) rfl rfl rfl (q0 := 0) rfl rfl rfl (Nat.le_of_ble_eq_true rfl) ⟨Nat.le_of_ble_eq_true rfl, Nat.le_of_ble_eq_true rfl⟩ ⟨Nat.zero_le _, Nat.zero_le _⟩ dX8_read_93 (fun r21 wr21 hw21 => ?_)
                obtain rfl := hw21
                obtain ⟨x22, e_x22⟩ : ∃ z : Int32, z = (F_X6_add y3 k4 (r13 - 48)).1 := ⟨_, rfl⟩
                obtain ⟨g23, e_g23⟩ : ∃ z : Nat → Int32, z = (F_X6_add y3 k4 (r13 - 48)).2 := ⟨_, rfl⟩
                refine r_ws (I' := [rowB cI h v x22 g23, rowB cI h2 v2 n2 f2, [(u, .inr (6, [.ref h, .ref hb, .ref sb, .int y8, .int x19]))], [(hb, .inl (cI, 5, .inl k5))], [(sb, .inl (cI, 5, .inl k6))]]) (by rw [e_x22, e_g23]; rfl) ?_
                refine r_pl (I' := [rowB cI h2 v2 n2 f2, rowB cI h v x22 g23, [(u, .inr (6, [.ref h, .ref hb, .ref sb, .int y8, .int x19]))], [(hb, .inl (cI, 5, .inl k5))], [(sb, .inl (cI, 5, .inl k6))]]) [1, 0, 2, 3, 4] (show ([1, 0, 2, 3, 4] : List Nat).Perm (List.range 5) by decide) rfl ?_
                exact K _ (by have q := e_x19.symm; subst q; have q := e_x22.symm; subst q; have q := e_g23.symm; subst q; simp only [if_neg c16, if_neg c17, if_neg c18]) _ (by have q := e_x19.symm; subst q; have q := e_x22.symm; subst q; have q := e_g23.symm; subst q; simp only [if_neg c16, if_neg c17, if_neg c18]) _ (by have q := e_x19.symm; subst q; have q := e_x22.symm; subst q; have q := e_g23.symm; subst q; simp only [if_neg c16, if_neg c17, if_neg c18]) _ (by have q := e_x19.symm; subst q; have q := e_x22.symm; subst q; have q := e_g23.symm; subst q; simp only [if_neg c16, if_neg c17, if_neg c18]) _ (by have q := e_x19.symm; subst q; have q := e_x22.symm; subst q; have q := e_g23.symm; subst q; simp only [if_neg c16, if_neg c17, if_neg c18]) _ (by have q := e_x19.symm; subst q; have q := e_x22.symm; subst q; have q := e_g23.symm; subst q; simp only [if_neg c16, if_neg c17, if_neg c18])
            · have hp := hp.1 c17
              refine r_aload_n C dX8_read_62 2 rfl ?_
              refine r_ws (I' := [rowB cI h2 v2 n2 f2, [(h, .inr (4, [.ref v, .int y3]))], [(v, .inl (cI, 60, .inl k4))], [(u, .inr (6, [.ref h, .ref hb, .ref sb, .int y8, .int y9]))], [(hb, .inl (cI, 5, .inl k5))], [(sb, .inl (cI, 5, .inl k6))]]) rfl ?_
              refine r_pl (I' := [[(u, .inr (6, [.ref h, .ref hb, .ref sb, .int y8, .int y9]))], [(h, .inr (4, [.ref v, .int y3]))], [(v, .inl (cI, 60, .inl k4))], [(hb, .inl (cI, 5, .inl k5))], [(sb, .inl (cI, 5, .inl k6))], rowB cI h2 v2 n2 f2]) [3, 1, 2, 4, 5, 0] (show ([3, 1, 2, 4, 5, 0] : List Nat).Perm (List.range 6) by decide) rfl ?_
              refine r_ws (I' := [unrB cI u h v hb sb y3 k4 k5 k6 y8 y9, rowB cI h2 v2 n2 f2]) rfl ?_
              have h24 := hp
              refine r_callV (ci := 6) (wc := [unrB cI u h v hb sb y3 k4 k5 k6 y8 y9]) (wr := [rowB cI h2 v2 n2 f2]) (st := []) C (m_X8_openBracket l D cI cL cP cJ u h v hb sb y3 k4 k5 k6 y8 y9 h24) k_X8_openBracket t_695 [0, 1] (show ([0, 1] : List Nat).Perm (List.range 2) by decide) rfl rfl rfl (q0 := 0) rfl rfl rfl (Nat.le_of_ble_eq_true rfl) ⟨Nat.le_of_ble_eq_true rfl, Nat.le_of_ble_eq_true rfl⟩ ⟨Nat.zero_le _, Nat.zero_le _⟩ dX8_read_63 (fun r25 wr25 hw25 => ?_)
              obtain rfl := hw25
              obtain ⟨g26, e_g26⟩ : ∃ z : Nat → Int32, z = (F_X8_openBracket y3 k5 k6 y8 y9).1 := ⟨_, rfl⟩
              obtain ⟨g27, e_g27⟩ : ∃ z : Nat → Int32, z = (F_X8_openBracket y3 k5 k6 y8 y9).2.1 := ⟨_, rfl⟩
              obtain ⟨x28, e_x28⟩ : ∃ z : Int32, z = (F_X8_openBracket y3 k5 k6 y8 y9).2.2 := ⟨_, rfl⟩
              refine r_ws (I' := [unrB cI u h v hb sb y3 k4 g26 g27 x28 y9, rowB cI h2 v2 n2 f2]) (by rw [e_g26, e_g27, e_x28]; rfl) ?_
              refine r_goto (tgt := 96) C dX8_read_66 (by decide) ?_
              refine r_ws (I' := [[(u, .inr (6, [.ref h, .ref hb, .ref sb, .int x28, .int y9]))], [(h, .inr (4, [.ref v, .int y3]))], [(v, .inl (cI, 60, .inl k4))], [(hb, .inl (cI, 5, .inl g26))], [(sb, .inl (cI, 5, .inl g27))], rowB cI h2 v2 n2 f2]) rfl ?_
              refine r_ws (I' := [[(u, .inr (6, [.ref h, .ref hb, .ref sb, .int x28, .int y9]))], rowB cI h v y3 k4, [(hb, .inl (cI, 5, .inl g26))], [(sb, .inl (cI, 5, .inl g27))], rowB cI h2 v2 n2 f2]) rfl ?_
              refine r_pl (I' := [rowB cI h2 v2 n2 f2, rowB cI h v y3 k4, [(u, .inr (6, [.ref h, .ref hb, .ref sb, .int x28, .int y9]))], [(hb, .inl (cI, 5, .inl g26))], [(sb, .inl (cI, 5, .inl g27))]]) [4, 1, 0, 2, 3] (show ([4, 1, 0, 2, 3] : List Nat).Perm (List.range 5) by decide) rfl ?_
              exact K _ (by have q := e_g26.symm; subst q; have q := e_g27.symm; subst q; have q := e_x28.symm; subst q; simp only [if_neg c16, if_pos c17]) _ (by have q := e_g26.symm; subst q; have q := e_g27.symm; subst q; have q := e_x28.symm; subst q; simp only [if_neg c16, if_pos c17]) _ (by have q := e_g26.symm; subst q; have q := e_g27.symm; subst q; have q := e_x28.symm; subst q; simp only [if_neg c16, if_pos c17]) _ (by have q := e_g26.symm; subst q; have q := e_g27.symm; subst q; have q := e_x28.symm; subst q; simp only [if_neg c16, if_pos c17]) _ (by have q := e_g26.symm; subst q; have q := e_g27.symm; subst q; have q := e_x28.symm; subst q; simp only [if_neg c16, if_pos c17]) _ (by have q := e_g26.symm; subst q; have q := e_g27.symm; subst q; have q := e_x28.symm; subst q; simp only [if_neg c16, if_pos c17])
          · have hp := hp.1 c16
            refine r_aload_n C dX8_read_45 2 rfl ?_
            refine r_iload_n C dX8_read_46 0 rfl ?_
            refine r_bipush (v := 48) C dX8_read_47 (by decide) ?_
            refine r_isub C dX8_read_49 rfl ?_
            refine r_ws (I' := [rowB cI h2 v2 n2 f2, [(h, .inr (4, [.ref v, .int y3]))], [(v, .inl (cI, 60, .inl k4))], [(u, .inr (6, [.ref h, .ref hb, .ref sb, .int y8, .int y9]))], [(hb, .inl (cI, 5, .inl k5))], [(sb, .inl (cI, 5, .inl k6))]]) rfl ?_
            refine r_pl (I' := [[(u, .inr (6, [.ref h, .ref hb, .ref sb, .int y8, .int y9]))], [(h, .inr (4, [.ref v, .int y3]))], [(v, .inl (cI, 60, .inl k4))], [(hb, .inl (cI, 5, .inl k5))], [(sb, .inl (cI, 5, .inl k6))], rowB cI h2 v2 n2 f2]) [3, 1, 2, 4, 5, 0] (show ([3, 1, 2, 4, 5, 0] : List Nat).Perm (List.range 6) by decide) rfl ?_
            refine r_ws (I' := [unrB cI u h v hb sb y3 k4 k5 k6 y8 y9, rowB cI h2 v2 n2 f2]) rfl ?_
            have h29 := hp
            refine r_callV (ci := 6) (wc := [unrB cI u h v hb sb y3 k4 k5 k6 y8 y9]) (wr := [rowB cI h2 v2 n2 f2]) (st := []) C (m_X8_repeatLast l D cI cL cP cJ u h v hb sb y3 k4 k5 k6 y8 y9 (r13 - 48) h29) k_X8_repeatLast t_689 [0, 1] (show ([0, 1] : List Nat).Perm (List.range 2) by decide) rfl rfl rfl (q0 := 0) rfl rfl rfl (Nat.le_of_ble_eq_true rfl) ⟨Nat.le_of_ble_eq_true rfl, Nat.le_of_ble_eq_true rfl⟩ ⟨Nat.zero_le _, Nat.zero_le _⟩ dX8_read_50 (fun r30 wr30 hw30 => ?_)
            obtain rfl := hw30
            obtain ⟨x31, e_x31⟩ : ∃ z : Int32, z = (F_X8_repeatLast y3 k4 k5 k6 y8 y9 (r13 - 48)).1 := ⟨_, rfl⟩
            obtain ⟨g32, e_g32⟩ : ∃ z : Nat → Int32, z = (F_X8_repeatLast y3 k4 k5 k6 y8 y9 (r13 - 48)).2.1 := ⟨_, rfl⟩
            obtain ⟨x33, e_x33⟩ : ∃ z : Int32, z = (F_X8_repeatLast y3 k4 k5 k6 y8 y9 (r13 - 48)).2.2.1 := ⟨_, rfl⟩
            obtain ⟨x34, e_x34⟩ : ∃ z : Int32, z = (F_X8_repeatLast y3 k4 k5 k6 y8 y9 (r13 - 48)).2.2.2 := ⟨_, rfl⟩
            refine r_ws (I' := [unrB cI u h v hb sb x31 g32 k5 k6 x33 x34, rowB cI h2 v2 n2 f2]) (by rw [e_x31, e_g32, e_x33, e_x34]; rfl) ?_
            refine r_goto (tgt := 96) C dX8_read_53 (by decide) ?_
            refine r_ws (I' := [[(u, .inr (6, [.ref h, .ref hb, .ref sb, .int x33, .int x34]))], [(h, .inr (4, [.ref v, .int x31]))], [(v, .inl (cI, 60, .inl g32))], [(hb, .inl (cI, 5, .inl k5))], [(sb, .inl (cI, 5, .inl k6))], rowB cI h2 v2 n2 f2]) rfl ?_
            refine r_ws (I' := [[(u, .inr (6, [.ref h, .ref hb, .ref sb, .int x33, .int x34]))], rowB cI h v x31 g32, [(hb, .inl (cI, 5, .inl k5))], [(sb, .inl (cI, 5, .inl k6))], rowB cI h2 v2 n2 f2]) rfl ?_
            refine r_pl (I' := [rowB cI h2 v2 n2 f2, rowB cI h v x31 g32, [(u, .inr (6, [.ref h, .ref hb, .ref sb, .int x33, .int x34]))], [(hb, .inl (cI, 5, .inl k5))], [(sb, .inl (cI, 5, .inl k6))]]) [4, 1, 0, 2, 3] (show ([4, 1, 0, 2, 3] : List Nat).Perm (List.range 5) by decide) rfl ?_
            exact K _ (by have q := e_x31.symm; subst q; have q := e_g32.symm; subst q; have q := e_x33.symm; subst q; have q := e_x34.symm; subst q; simp only [if_pos c16]) _ (by have q := e_x31.symm; subst q; have q := e_g32.symm; subst q; have q := e_x33.symm; subst q; have q := e_x34.symm; subst q; simp only [if_pos c16]) _ (by have q := e_x31.symm; subst q; have q := e_g32.symm; subst q; have q := e_x33.symm; subst q; have q := e_x34.symm; subst q; simp only [if_pos c16]) _ (by have q := e_x31.symm; subst q; have q := e_g32.symm; subst q; have q := e_x33.symm; subst q; have q := e_x34.symm; subst q; simp only [if_pos c16]) _ (by have q := e_x31.symm; subst q; have q := e_g32.symm; subst q; have q := e_x33.symm; subst q; have q := e_x34.symm; subst q; simp only [if_pos c16]) _ (by have q := e_x31.symm; subst q; have q := e_g32.symm; subst q; have q := e_x33.symm; subst q; have q := e_x34.symm; subst q; simp only [if_pos c16])
        intro x35 e_x35 g36 e_g36 x37 e_x37 x38 e_x38 g39 e_g39 g40 e_g40
        have hp := hp x35 e_x35
        have hp := hp g36 e_g36
        have hp := hp x37 e_x37
        have hp := hp x38 e_x38
        have hp := hp g39 e_g39
        have hp := hp g40 e_g40
        obtain ⟨x41, e_x41⟩ : ∃ z : Int32, z = y7 + 1 := ⟨_, rfl⟩
        have hp := hp x41 e_x41
        refine r_iinc (v := x41) (L' := [(2, .int x41), (3, .int r13), (0, .ref u), (1, .ref h2)]) C dX8_read_96 1 rfl (by rw [e_x41]; exact ii (by decide)) (by decide) rfl ?_
        refine r_goto (tgt := 19) C dX8_read_99 (by decide) ?_
        refine r_pl (I' := [rowB cI h v x35 g36, [(u, .inr (6, [.ref h, .ref hb, .ref sb, .int x37, .int x38]))], [(hb, .inl (cI, 5, .inl g39))], [(sb, .inl (cI, 5, .inl g40))], rowB cI h2 v2 n2 f2]) [1, 2, 3, 4, 0] (show ([1, 2, 3, 4, 0] : List Nat).Perm (List.range 5) by decide) rfl ?_
        refine r_L (L' := [(2, .int x41), (0, .ref u), (1, .ref h2)]) [0, 2, 3] rfl ?_
        have eF : F_X8_read_L19 n2 f2 (nn + 1) y3 k4 k5 k6 y7 y8 y9 = F_X8_read_L19 n2 f2 nn x35 g36 g39 g40 x41 x37 x38 := by have q := e_r10.symm; subst q; have q := e_r13.symm; subst q; have q := e_r15.symm; subst q; have q := e_x35.symm; subst q; have q := e_g36.symm; subst q; have q := e_x37.symm; subst q; have q := e_x38.symm; subst q; have q := e_g39.symm; subst q; have q := e_g40.symm; subst q; have q := e_x41.symm; subst q; simp only [F_X8_read_L19, if_neg c11]
        exact ih x35 g36 g39 g40 x41 x37 x38 hp (fun z42 e_z42 f43 e_f43 f44 e_f44 f45 e_f45 z46 e_z46 z47 e_z47 z48 e_z48 => kk z42 (by rw [eF]; exact e_z42) f43 (by rw [eF]; exact e_f43) f44 (by rw [eF]; exact e_f44) f45 (by rw [eF]; exact e_f45) z46 (by rw [eF]; exact e_z46) z47 (by rw [eF]; exact e_z47) z48 (by rw [eF]; exact e_z48))
  refine hL 62 x2 f fhb fsb 0 0 0 hpl (fun z42 e_z42 f43 e_f43 f44 e_f44 f45 e_f45 z46 e_z46 z47 e_z47 z48 e_z48 => ?_)
  clear hL hpl
  refine r_ws (I' := [[(h, .inr (4, [.ref v, .int z42]))], [(v, .inl (cI, 60, .inl f43))], [(u, .inr (6, [.ref h, .ref hb, .ref sb, .int z47, .int z48]))], [(hb, .inl (cI, 5, .inl f44))], [(sb, .inl (cI, 5, .inl f45))], rowB cI h2 v2 n2 f2]) rfl ?_
  refine r_pl (I' := [[(u, .inr (6, [.ref h, .ref hb, .ref sb, .int z47, .int z48]))], [(h, .inr (4, [.ref v, .int z42]))], [(v, .inl (cI, 60, .inl f43))], [(hb, .inl (cI, 5, .inl f44))], [(sb, .inl (cI, 5, .inl f45))], rowB cI h2 v2 n2 f2]) [2, 0, 1, 3, 4, 5] (show ([2, 0, 1, 3, 4, 5] : List Nat).Perm (List.range 6) by decide) rfl ?_
  refine r_ws (I' := [unrB cI u h v hb sb z42 f43 f44 f45 z47 z48, rowB cI h2 v2 n2 f2]) rfl ?_
  have eF : F_X8_read f fhb fsb n2 f2 = (z42, f43, f44, f45, z47, z48) := by have q := e_x2.symm; subst q; have q := e_z42.symm; subst q; have q := e_f43.symm; subst q; have q := e_f44.symm; subst q; have q := e_f45.symm; subst q; have q := e_z46.symm; subst q; have q := e_z47.symm; subst q; have q := e_z48.symm; subst q; rfl
  exact r_vret (r := ()) C hA hr hlo dX8_read_102 [unrB cI u h v hb sb z42 f43 f44 f45 z47 z48, rowB cI h2 v2 n2 f2] (by simp only [eF]) rfl hQ
abbrev walB (cI : ClassId) (w : Nat) (me : Nat) (fo : Nat) (fd : Nat) (fme : Nat → Int32) (ffo : Nat → Int32) (ffd : Nat → Int32) (kn : Int32) : va_W := [(w, .inr (7, [.ref me, .ref fo, .ref fd, .int kn])), (me, .inl (cI, 384, .inl fme)), (fo, .inl (cI, 384, .inl ffo)), (fd, .inl (cI, 21, .inl ffd))]
theorem k_X9_meet : kV yX9_meet cX9_meet 4 none 2 := ⟨t_602, t_6, t_66, t_603, by decide +kernel, by decide +kernel, by decide +kernel⟩
set_option maxRecDepth 20000 in
def F_X9_meet (fme : Nat → Int32) (ffo : Nat → Int32) (ffd : Nat → Int32) (kn : Int32) (lie : Int32) (folds : Int32) : (Nat → Int32) × (Nat → Int32) × (Nat → Int32) × Int32 := let x3 : Int32 := (if kn < 0 then (0) else ((if 384 ≤ kn then (0) else (1)))); let x16 : Int32 := (if x3 = 0 then (kn) else ((if folds < 0 then (kn) else ((if 21 ≤ folds then (kn) else (let x15 : Int32 := kn + 1; x15)))))); let g17 : Nat → Int32 := (if x3 = 0 then (fme) else ((if folds < 0 then (fme) else ((if 21 ≤ folds then (fme) else (let g8 : Nat → Int32 := upd fme (kn.toNatClampNeg) lie; g8)))))); let g18 : Nat → Int32 := (if x3 = 0 then (ffo) else ((if folds < 0 then (ffo) else ((if 21 ≤ folds then (ffo) else (let g10 : Nat → Int32 := upd ffo (kn.toNatClampNeg) folds; g10)))))); let g19 : Nat → Int32 := (if x3 = 0 then (ffd) else ((if folds < 0 then (ffd) else ((if 21 ≤ folds then (ffd) else (let x12 : Int32 := (ffd folds.toNatClampNeg) + 1; let g14 : Nat → Int32 := upd ffd (folds.toNatClampNeg) x12; g14)))))); (g17, g18, g19, x16)
set_option maxRecDepth 20000 in
def P_X9_meet (fme : Nat → Int32) (ffo : Nat → Int32) (ffd : Nat → Int32) (kn : Int32) (lie : Int32) (folds : Int32) : Prop := (∀ x3 : Int32, x3 = ((if kn < 0 then (0) else ((if 384 ≤ kn then (0) else (1))))) → ((x3 = 0 → True) ∧ (¬ x3 = 0 → ((folds < 0 → True) ∧ (¬ folds < 0 → ((21 ≤ folds → True) ∧ (¬ 21 ≤ folds → ((vp_in kn 384) ∧ (∀ g8 : Nat → Int32, g8 = upd fme (kn.toNatClampNeg) lie → ((vp_in kn 384) ∧ (∀ g10 : Nat → Int32, g10 = upd ffo (kn.toNatClampNeg) folds → ((vp_in folds 21) ∧ (∀ x12 : Int32, x12 = (ffd folds.toNatClampNeg) + 1 → (vp_in folds 21))))))))))))))
set_option maxRecDepth 20000 in
set_option maxHeartbeats 8000000 in
theorem m_X9_meet (l : Launch) (D : va_G) (cI cL cP cJ : ClassId) (w : Nat) (me : Nat) (fo : Nat) (fd : Nat) (fme : Nat → Int32) (ffo : Nat → Int32) (ffd : Nat → Int32) (kn : Int32) (lie : Int32) (folds : Int32) (hp : P_X9_meet fme ffo ffd kn lie folds) : M vV l yX9_meet cX9_meet 4 none 0 0 D (tyF cI cL cP cJ) [.ref w, .int lie, .int folds] [walB cI w me fo fd fme ffo ffd kn] (fun (r : Unit) (w1 : List va_W) => w1 = [walB cI w me fo fd ((F_X9_meet fme ffo ffd kn lie folds).1) ((F_X9_meet fme ffo ffd kn lie folds).2.1) ((F_X9_meet fme ffo ffd kn lie folds).2.2.1) ((F_X9_meet fme ffo ffd kn lie folds).2.2.2)]) := by
  unfold P_X9_meet at hp
  refine m_start (by decide +kernel) (Nat.le_of_ble_eq_true rfl) (fun p e s m args below meth c A Q hA hQ C hr hlo => ?_)
  refine r_Le (L' := [(0, .ref w), (1, .int lie), (2, .int folds)]) rfl ?_
  refine r_aload_n C dX9_meet_0 0 rfl ?_
  refine r_ws (I' := [[(w, .inr (7, [.ref me, .ref fo, .ref fd, .int kn]))], [(me, .inl (cI, 384, .inl fme))], [(fo, .inl (cI, 384, .inl ffo))], [(fd, .inl (cI, 21, .inl ffd))]]) rfl ?_
  refine r_get (Cn := RX9) (T := TX9) (N := 4) C inT9 0 rfl rfl 3 (by decide) t_209 rfl dX9_meet_1 ?_
  suffices K : ∀ x3 : Int32, x3 = ((if kn < 0 then (0) else ((if 384 ≤ kn then (0) else (1))))) → V p l e (rmm 0 0) s m args below meth c 4 D A 0 0 Q [[(w, .inr (7, [.ref me, .ref fo, .ref fd, .int kn]))], [(me, .inl (cI, 384, .inl fme))], [(fo, .inl (cI, 384, .inl ffo))], [(fd, .inl (cI, 21, .inl ffd))]] [(0, .ref w), (1, .int lie), (2, .int folds)] 36 [.int x3] by
    refine r_if_lt (tgt := 35) C dX9_meet_4 (by decide) (fun c1 => ?_) (fun c1 => ?_)
    · refine r_iconst (v := 0) C dX9_meet_35 (by decide) ?_
      exact K _ (by simp only [if_pos c1])
    · refine r_aload_n C dX9_meet_7 0 rfl ?_
      refine r_get (Cn := RX9) (T := TX9) (N := 4) C inT9 0 rfl rfl 3 (by decide) t_209 rfl dX9_meet_8 ?_
      refine r_aload_n C dX9_meet_11 0 rfl ?_
      refine r_get (Cn := RX9) (T := TX9) (N := 4) C inT9 0 rfl rfl 0 (by decide) t_206 rfl dX9_meet_12 ?_
      refine r_alen (v := 384) C 1 0 rfl rfl rfl dX9_meet_15 ?_
      refine r_icmp_ge (tgt := 35) C dX9_meet_16 (by decide) (fun c2 => ?_) (fun c2 => ?_)
      · refine r_iconst (v := 0) C dX9_meet_35 (by decide) ?_
        exact K _ (by simp only [if_neg c1, if_pos c2])
      · refine r_aload_n C dX9_meet_19 0 rfl ?_
        refine r_get (Cn := RX9) (T := TX9) (N := 4) C inT9 0 rfl rfl 3 (by decide) t_209 rfl dX9_meet_20 ?_
        refine r_aload_n C dX9_meet_23 0 rfl ?_
        refine r_get (Cn := RX9) (T := TX9) (N := 4) C inT9 0 rfl rfl 1 (by decide) t_207 rfl dX9_meet_24 ?_
        refine r_alen (v := 384) C 2 0 rfl rfl rfl dX9_meet_27 ?_
        refine r_icmp_ge (tgt := 35) C dX9_meet_28 (by decide) (fun c => absurd c c2) (fun _ => ?_)
        refine r_iconst (v := 1) C dX9_meet_31 (by decide) ?_
        refine r_goto (tgt := 36) C dX9_meet_32 (by decide) ?_
        exact K _ (by simp only [if_neg c1, if_neg c2])
  intro x3 e_x3
  have hp := hp x3 e_x3
  refine r_istore_n (L' := [(3, .int x3), (0, .ref w), (1, .int lie), (2, .int folds)]) C dX9_meet_36 (by decide) rfl ?_
  refine r_iload_n C dX9_meet_37 0 rfl ?_
  have hps := hp
  suffices K : ∀ x16 : Int32, x16 = ((if x3 = 0 then (kn) else ((if folds < 0 then (kn) else ((if 21 ≤ folds then (kn) else (let x15 : Int32 := kn + 1; x15))))))) → ∀ g17 : Nat → Int32, g17 = ((if x3 = 0 then (fme) else ((if folds < 0 then (fme) else ((if 21 ≤ folds then (fme) else (let g8 : Nat → Int32 := upd fme (kn.toNatClampNeg) lie; g8))))))) → ∀ g18 : Nat → Int32, g18 = ((if x3 = 0 then (ffo) else ((if folds < 0 then (ffo) else ((if 21 ≤ folds then (ffo) else (let g10 : Nat → Int32 := upd ffo (kn.toNatClampNeg) folds; g10))))))) → ∀ g19 : Nat → Int32, g19 = ((if x3 = 0 then (ffd) else ((if folds < 0 then (ffd) else ((if 21 ≤ folds then (ffd) else (let x12 : Int32 := (ffd folds.toNatClampNeg) + 1; let g14 : Nat → Int32 := upd ffd (folds.toNatClampNeg) x12; g14))))))) → V p l e (rmm 0 0) s m args below meth c 4 D A 0 0 Q [[(w, .inr (7, [.ref me, .ref fo, .ref fd, .int x16]))], [(me, .inl (cI, 384, .inl g17))], [(fo, .inl (cI, 384, .inl g18))], [(fd, .inl (cI, 21, .inl g19))]] [(3, .int x3), (0, .ref w), (1, .int lie), (2, .int folds)] 94 [] by
    have hp := hps
    refine r_if_eq (tgt := 94) C dX9_meet_38 (by decide) (fun c4 => ?_) (fun c4 => ?_)
    · exact K _ (by simp only [if_pos c4]) _ (by simp only [if_pos c4]) _ (by simp only [if_pos c4]) _ (by simp only [if_pos c4])
    · have hp := hp.2 c4
      refine r_iload_n C dX9_meet_41 3 rfl ?_
      refine r_if_lt (tgt := 94) C dX9_meet_42 (by decide) (fun c5 => ?_) (fun c5 => ?_)
      · exact K _ (by simp only [if_neg c4, if_pos c5]) _ (by simp only [if_neg c4, if_pos c5]) _ (by simp only [if_neg c4, if_pos c5]) _ (by simp only [if_neg c4, if_pos c5])
      · have hp := hp.2 c5
        refine r_iload_n C dX9_meet_45 3 rfl ?_
        refine r_aload_n C dX9_meet_46 1 rfl ?_
        refine r_get (Cn := RX9) (T := TX9) (N := 4) C inT9 0 rfl rfl 2 (by decide) t_208 rfl dX9_meet_47 ?_
        refine r_alen (v := 21) C 3 0 rfl rfl rfl dX9_meet_50 ?_
        refine r_icmp_ge (tgt := 94) C dX9_meet_51 (by decide) (fun c6 => ?_) (fun c6 => ?_)
        · exact K _ (by simp only [if_neg c4, if_neg c5, if_pos c6]) _ (by simp only [if_neg c4, if_neg c5, if_pos c6]) _ (by simp only [if_neg c4, if_neg c5, if_pos c6]) _ (by simp only [if_neg c4, if_neg c5, if_pos c6])
        · have hp := hp.2 c6
          refine r_aload_n C dX9_meet_54 1 rfl ?_
          refine r_get (Cn := RX9) (T := TX9) (N := 4) C inT9 0 rfl rfl 0 (by decide) t_206 rfl dX9_meet_55 ?_
          refine r_aload_n C dX9_meet_58 1 rfl ?_
          refine r_get (Cn := RX9) (T := TX9) (N := 4) C inT9 0 rfl rfl 3 (by decide) t_209 rfl dX9_meet_59 ?_
          refine r_iload_n C dX9_meet_62 2 rfl ?_
          obtain ⟨h7, hp⟩ := hp
          obtain ⟨g8, e_g8⟩ : ∃ z : Nat → Int32, z = upd fme (kn.toNatClampNeg) lie := ⟨_, rfl⟩
          have hp := hp g8 e_g8
          refine r_iast C 1 0 rfl rfl h7 (I' := [[(w, .inr (7, [.ref me, .ref fo, .ref fd, .int kn]))], [(me, .inl (cI, 384, .inl g8))], [(fo, .inl (cI, 384, .inl ffo))], [(fd, .inl (cI, 21, .inl ffd))]]) (by rw [e_g8]; rfl) dX9_meet_63 ?_
          refine r_aload_n C dX9_meet_64 1 rfl ?_
          refine r_get (Cn := RX9) (T := TX9) (N := 4) C inT9 0 rfl rfl 1 (by decide) t_207 rfl dX9_meet_65 ?_
          refine r_aload_n C dX9_meet_68 1 rfl ?_
          refine r_get (Cn := RX9) (T := TX9) (N := 4) C inT9 0 rfl rfl 3 (by decide) t_209 rfl dX9_meet_69 ?_
          refine r_iload_n C dX9_meet_72 3 rfl ?_
          obtain ⟨h9, hp⟩ := hp
          obtain ⟨g10, e_g10⟩ : ∃ z : Nat → Int32, z = upd ffo (kn.toNatClampNeg) folds := ⟨_, rfl⟩
          have hp := hp g10 e_g10
          refine r_iast C 2 0 rfl rfl h9 (I' := [[(w, .inr (7, [.ref me, .ref fo, .ref fd, .int kn]))], [(me, .inl (cI, 384, .inl g8))], [(fo, .inl (cI, 384, .inl g10))], [(fd, .inl (cI, 21, .inl ffd))]]) (by rw [e_g10]; rfl) dX9_meet_73 ?_
          refine r_aload_n C dX9_meet_74 1 rfl ?_
          refine r_get (Cn := RX9) (T := TX9) (N := 4) C inT9 0 rfl rfl 2 (by decide) t_208 rfl dX9_meet_75 ?_
          refine r_iload_n C dX9_meet_78 3 rfl ?_
          refine r_dup2_11 C dX9_meet_79 rfl rfl ?_
          obtain ⟨h11, hp⟩ := hp
          refine r_iald (z := ffd folds.toNatClampNeg) C 3 0 rfl rfl h11 dX9_meet_80 rfl ?_
          refine r_iconst (v := 1) C dX9_meet_81 (by decide) ?_
          refine r_iadd C dX9_meet_82 rfl ?_
          refine r_top (fun x12 e_x12 => ?_)
          have hp := hp x12 e_x12
          have h13 := hp
          obtain ⟨g14, e_g14⟩ : ∃ z : Nat → Int32, z = upd ffd (folds.toNatClampNeg) x12 := ⟨_, rfl⟩
          refine r_iast C 3 0 rfl rfl h13 (I' := [[(w, .inr (7, [.ref me, .ref fo, .ref fd, .int kn]))], [(me, .inl (cI, 384, .inl g8))], [(fo, .inl (cI, 384, .inl g10))], [(fd, .inl (cI, 21, .inl g14))]]) (by rw [e_g14]; rfl) dX9_meet_83 ?_
          refine r_aload_n C dX9_meet_84 1 rfl ?_
          refine r_dup C dX9_meet_85 rfl ?_
          refine r_get (Cn := RX9) (T := TX9) (N := 4) C inT9 0 rfl rfl 3 (by decide) t_209 rfl dX9_meet_86 ?_
          refine r_iconst (v := 1) C dX9_meet_89 (by decide) ?_
          refine r_iadd C dX9_meet_90 rfl ?_
          refine r_top (fun x15 e_x15 => ?_)
          refine r_put (Cn := RX9) (T := TX9) (N := 4) C inT9 0 rfl rfl 3 (by decide) t_209 tyX9 tyX9_ok nmX9 rfl rfl rfl (Nat.le_of_ble_eq_true rfl) (I' := [[(w, .inr (7, [.ref me, .ref fo, .ref fd, .int x15]))], [(me, .inl (cI, 384, .inl g8))], [(fo, .inl (cI, 384, .inl g10))], [(fd, .inl (cI, 21, .inl g14))]]) rfl dX9_meet_91 ?_
          exact K _ (by have q := e_g8.symm; subst q; have q := e_g10.symm; subst q; have q := e_x12.symm; subst q; have q := e_g14.symm; subst q; have q := e_x15.symm; subst q; simp only [if_neg c4, if_neg c5, if_neg c6]) _ (by have q := e_g8.symm; subst q; have q := e_g10.symm; subst q; have q := e_x12.symm; subst q; have q := e_g14.symm; subst q; have q := e_x15.symm; subst q; simp only [if_neg c4, if_neg c5, if_neg c6]) _ (by have q := e_g8.symm; subst q; have q := e_g10.symm; subst q; have q := e_x12.symm; subst q; have q := e_g14.symm; subst q; have q := e_x15.symm; subst q; simp only [if_neg c4, if_neg c5, if_neg c6]) _ (by have q := e_g8.symm; subst q; have q := e_g10.symm; subst q; have q := e_x12.symm; subst q; have q := e_g14.symm; subst q; have q := e_x15.symm; subst q; simp only [if_neg c4, if_neg c5, if_neg c6])
  intro x16 e_x16 g17 e_g17 g18 e_g18 g19 e_g19
  refine r_ws (I' := [walB cI w me fo fd g17 g18 g19 x16]) rfl ?_
  have eF : F_X9_meet fme ffo ffd kn lie folds = (g17, g18, g19, x16) := by have q := e_x3.symm; subst q; have q := e_x16.symm; subst q; have q := e_g17.symm; subst q; have q := e_g18.symm; subst q; have q := e_g19.symm; subst q; rfl
  exact r_vret (r := ()) C hA hr hlo dX9_meet_94 [walB cI w me fo fd g17 g18 g19 x16] (by simp only [eF]) rfl hQ
theorem k_X9_go : kV yX9_go cX9_go 4 none 0 := ⟨t_598, t_5, t_66, t_599, by decide +kernel, by decide +kernel, by decide +kernel⟩
def F_X9_go_L10  : Nat → (Nat → Int32) → (Nat → Int32) → (Nat → Int32) → Int32 → Int32 → (Nat → Int32) × (Nat → Int32) × (Nat → Int32) × Int32 × Int32
  | 0, k7, k8, k9, y10, y11 => (k7, k8, k9, y10, y11)
  | nn + 1, k7, k8, k9, y10, y11 => (if y10 ≤ y11 then ((k7, k8, k9, y10, y11)) else ((if 384 ≤ y11 then ((k7, k8, k9, y10, y11)) else (let r15 : Int32 := F_X3_folded (k7 y11.toNatClampNeg) 0; let r16 : Int32 := F_X3_firstShortening r15; let x25 : Int32 := (if r16 = 0 then (let x24 : Int32 := (F_X9_meet k7 k8 k9 y10 r15 ((k8 y11.toNatClampNeg) + 1)).2.2.2; x24) else (y10)); let g26 : Nat → Int32 := (if r16 = 0 then (let g21 : Nat → Int32 := (F_X9_meet k7 k8 k9 y10 r15 ((k8 y11.toNatClampNeg) + 1)).1; g21) else (k7)); let g27 : Nat → Int32 := (if r16 = 0 then (let g22 : Nat → Int32 := (F_X9_meet k7 k8 k9 y10 r15 ((k8 y11.toNatClampNeg) + 1)).2.1; g22) else (k8)); let g28 : Nat → Int32 := (if r16 = 0 then (let g23 : Nat → Int32 := (F_X9_meet k7 k8 k9 y10 r15 ((k8 y11.toNatClampNeg) + 1)).2.2.1; g23) else (k9)); let r30 : Int32 := F_X3_folded (g26 y11.toNatClampNeg) 1; let r31 : Int32 := F_X3_firstShortening r30; let x40 : Int32 := (if r31 = 1 then (let x39 : Int32 := (F_X9_meet g26 g27 g28 x25 r30 ((g27 y11.toNatClampNeg) + 1)).2.2.2; x39) else (x25)); let g41 : Nat → Int32 := (if r31 = 1 then (let g36 : Nat → Int32 := (F_X9_meet g26 g27 g28 x25 r30 ((g27 y11.toNatClampNeg) + 1)).1; g36) else (g26)); let g42 : Nat → Int32 := (if r31 = 1 then (let g37 : Nat → Int32 := (F_X9_meet g26 g27 g28 x25 r30 ((g27 y11.toNatClampNeg) + 1)).2.1; g37) else (g27)); let g43 : Nat → Int32 := (if r31 = 1 then (let g38 : Nat → Int32 := (F_X9_meet g26 g27 g28 x25 r30 ((g27 y11.toNatClampNeg) + 1)).2.2.1; g38) else (g28)); let r45 : Int32 := F_X3_folded (g41 y11.toNatClampNeg) 2; let r46 : Int32 := F_X3_firstShortening r45; let x55 : Int32 := (if r46 = 2 then (let x54 : Int32 := (F_X9_meet g41 g42 g43 x40 r45 ((g42 y11.toNatClampNeg) + 1)).2.2.2; x54) else (x40)); let g56 : Nat → Int32 := (if r46 = 2 then (let g51 : Nat → Int32 := (F_X9_meet g41 g42 g43 x40 r45 ((g42 y11.toNatClampNeg) + 1)).1; g51) else (g41)); let g57 : Nat → Int32 := (if r46 = 2 then (let g52 : Nat → Int32 := (F_X9_meet g41 g42 g43 x40 r45 ((g42 y11.toNatClampNeg) + 1)).2.1; g52) else (g42)); let g58 : Nat → Int32 := (if r46 = 2 then (let g53 : Nat → Int32 := (F_X9_meet g41 g42 g43 x40 r45 ((g42 y11.toNatClampNeg) + 1)).2.2.1; g53) else (g43)); let r60 : Int32 := F_X3_folded (g56 y11.toNatClampNeg) 3; let r61 : Int32 := F_X3_firstShortening r60; let x70 : Int32 := (if r61 = 3 then (let x69 : Int32 := (F_X9_meet g56 g57 g58 x55 r60 ((g57 y11.toNatClampNeg) + 1)).2.2.2; x69) else (x55)); let g71 : Nat → Int32 := (if r61 = 3 then (let g66 : Nat → Int32 := (F_X9_meet g56 g57 g58 x55 r60 ((g57 y11.toNatClampNeg) + 1)).1; g66) else (g56)); let g72 : Nat → Int32 := (if r61 = 3 then (let g67 : Nat → Int32 := (F_X9_meet g56 g57 g58 x55 r60 ((g57 y11.toNatClampNeg) + 1)).2.1; g67) else (g57)); let g73 : Nat → Int32 := (if r61 = 3 then (let g68 : Nat → Int32 := (F_X9_meet g56 g57 g58 x55 r60 ((g57 y11.toNatClampNeg) + 1)).2.2.1; g68) else (g58)); let x74 : Int32 := y11 + 1; F_X9_go_L10 nn g71 g72 g73 x70 x74))))
def P_X9_go_L10  : Nat → (Nat → Int32) → (Nat → Int32) → (Nat → Int32) → Int32 → Int32 → Prop
  | 0, _, _, _, _, _ => False
  | nn + 1, k7, k8, k9, y10, y11 => ((y10 ≤ y11 → True) ∧ (¬ y10 ≤ y11 → ((384 ≤ y11 → True) ∧ (¬ 384 ≤ y11 → ((vp_in y11 384) ∧ (∀ r15 : Int32, r15 = F_X3_folded (k7 y11.toNatClampNeg) 0 → (∀ r16 : Int32, r16 = F_X3_firstShortening r15 → (((r16 = 0 → ((vp_in y11 384) ∧ (P_X9_meet k7 k8 k9 y10 r15 ((k8 y11.toNatClampNeg) + 1)))) ∧ (¬ r16 = 0 → True)) ∧ (∀ x25 : Int32, x25 = ((if r16 = 0 then (let x24 : Int32 := (F_X9_meet k7 k8 k9 y10 r15 ((k8 y11.toNatClampNeg) + 1)).2.2.2; x24) else (y10))) → (∀ g26 : Nat → Int32, g26 = ((if r16 = 0 then (let g21 : Nat → Int32 := (F_X9_meet k7 k8 k9 y10 r15 ((k8 y11.toNatClampNeg) + 1)).1; g21) else (k7))) → (∀ g27 : Nat → Int32, g27 = ((if r16 = 0 then (let g22 : Nat → Int32 := (F_X9_meet k7 k8 k9 y10 r15 ((k8 y11.toNatClampNeg) + 1)).2.1; g22) else (k8))) → (∀ g28 : Nat → Int32, g28 = ((if r16 = 0 then (let g23 : Nat → Int32 := (F_X9_meet k7 k8 k9 y10 r15 ((k8 y11.toNatClampNeg) + 1)).2.2.1; g23) else (k9))) → ((vp_in y11 384) ∧ (∀ r30 : Int32, r30 = F_X3_folded (g26 y11.toNatClampNeg) 1 → (∀ r31 : Int32, r31 = F_X3_firstShortening r30 → (((r31 = 1 → ((vp_in y11 384) ∧ (P_X9_meet g26 g27 g28 x25 r30 ((g27 y11.toNatClampNeg) + 1)))) ∧ (¬ r31 = 1 → True)) ∧ (∀ x40 : Int32, x40 = ((if r31 = 1 then (let x39 : Int32 := (F_X9_meet g26 g27 g28 x25 r30 ((g27 y11.toNatClampNeg) + 1)).2.2.2; x39) else (x25))) → (∀ g41 : Nat → Int32, g41 = ((if r31 = 1 then (let g36 : Nat → Int32 := (F_X9_meet g26 g27 g28 x25 r30 ((g27 y11.toNatClampNeg) + 1)).1; g36) else (g26))) → (∀ g42 : Nat → Int32, g42 = ((if r31 = 1 then (let g37 : Nat → Int32 := (F_X9_meet g26 g27 g28 x25 r30 ((g27 y11.toNatClampNeg) + 1)).2.1; g37) else (g27))) → (∀ g43 : Nat → Int32, g43 = ((if r31 = 1 then (let g38 : Nat → Int32 := (F_X9_meet g26 g27 g28 x25 r30 ((g27 y11.toNatClampNeg) + 1)).2.2.1; g38) else (g28))) → ((vp_in y11 384) ∧ (∀ r45 : Int32, r45 = F_X3_folded (g41 y11.toNatClampNeg) 2 → (∀ r46 : Int32, r46 = F_X3_firstShortening r45 → (((r46 = 2 → ((vp_in y11 384) ∧ (P_X9_meet g41 g42 g43 x40 r45 ((g42 y11.toNatClampNeg) + 1)))) ∧ (¬ r46 = 2 → True)) ∧ (∀ x55 : Int32, x55 = ((if r46 = 2 then (let x54 : Int32 := (F_X9_meet g41 g42 g43 x40 r45 ((g42 y11.toNatClampNeg) + 1)).2.2.2; x54) else (x40))) → (∀ g56 : Nat → Int32, g56 = ((if r46 = 2 then (let g51 : Nat → Int32 := (F_X9_meet g41 g42 g43 x40 r45 ((g42 y11.toNatClampNeg) + 1)).1; g51) else (g41))) → (∀ g57 : Nat → Int32, g57 = ((if r46 = 2 then (let g52 : Nat → Int32 := (F_X9_meet g41 g42 g43 x40 r45 ((g42 y11.toNatClampNeg) + 1)).2.1; g52) else (g42))) → (∀ g58 : Nat → Int32, g58 = ((if r46 = 2 then (let g53 : Nat → Int32 := (F_X9_meet g41 g42 g43 x40 r45 ((g42 y11.toNatClampNeg) + 1)).2.2.1; g53) else (g43))) → ((vp_in y11 384) ∧ (∀ r60 : Int32, r60 = F_X3_folded (g56 y11.toNatClampNeg) 3 → (∀ r61 : Int32, r61 = F_X3_firstShortening r60 → (((r61 = 3 → ((vp_in y11 384) ∧ (P_X9_meet g56 g57 g58 x55 r60 ((g57 y11.toNatClampNeg) + 1)))) ∧ (¬ r61 = 3 → True)) ∧ (∀ x70 : Int32, x70 = ((if r61 = 3 then (let x69 : Int32 := (F_X9_meet g56 g57 g58 x55 r60 ((g57 y11.toNatClampNeg) + 1)).2.2.2; x69) else (x55))) → (∀ g71 : Nat → Int32, g71 = ((if r61 = 3 then (let g66 : Nat → Int32 := (F_X9_meet g56 g57 g58 x55 r60 ((g57 y11.toNatClampNeg) + 1)).1; g66) else (g56))) → (∀ g72 : Nat → Int32, g72 = ((if r61 = 3 then (let g67 : Nat → Int32 := (F_X9_meet g56 g57 g58 x55 r60 ((g57 y11.toNatClampNeg) + 1)).2.1; g67) else (g57))) → (∀ g73 : Nat → Int32, g73 = ((if r61 = 3 then (let g68 : Nat → Int32 := (F_X9_meet g56 g57 g58 x55 r60 ((g57 y11.toNatClampNeg) + 1)).2.2.1; g68) else (g58))) → (∀ x74 : Int32, x74 = y11 + 1 → (P_X9_go_L10 nn g71 g72 g73 x70 x74))))))))))))))))))))))))))))))))))))))
set_option maxRecDepth 20000 in
def F_X9_go (fme : Nat → Int32) (ffo : Nat → Int32) (ffd : Nat → Int32) (kn : Int32) : (Nat → Int32) × (Nat → Int32) × (Nat → Int32) × Int32 := let g3 : Nat → Int32 := (F_X9_meet fme ffo ffd kn 1672 0).1; let g4 : Nat → Int32 := (F_X9_meet fme ffo ffd kn 1672 0).2.1; let g5 : Nat → Int32 := (F_X9_meet fme ffo ffd kn 1672 0).2.2.1; let x6 : Int32 := (F_X9_meet fme ffo ffd kn 1672 0).2.2.2; let f75 : Nat → Int32 := (F_X9_go_L10 386 g3 g4 g5 x6 0).1; let f76 : Nat → Int32 := (F_X9_go_L10 386 g3 g4 g5 x6 0).2.1; let f77 : Nat → Int32 := (F_X9_go_L10 386 g3 g4 g5 x6 0).2.2.1; let z78 : Int32 := (F_X9_go_L10 386 g3 g4 g5 x6 0).2.2.2.1; (f75, f76, f77, z78)
set_option maxRecDepth 20000 in
def P_X9_go (fme : Nat → Int32) (ffo : Nat → Int32) (ffd : Nat → Int32) (kn : Int32) : Prop := ((P_X9_meet fme ffo ffd kn 1672 0) ∧ (∀ g3 : Nat → Int32, g3 = (F_X9_meet fme ffo ffd kn 1672 0).1 → (∀ g4 : Nat → Int32, g4 = (F_X9_meet fme ffo ffd kn 1672 0).2.1 → (∀ g5 : Nat → Int32, g5 = (F_X9_meet fme ffo ffd kn 1672 0).2.2.1 → (∀ x6 : Int32, x6 = (F_X9_meet fme ffo ffd kn 1672 0).2.2.2 → (P_X9_go_L10 386 g3 g4 g5 x6 0))))))
set_option maxRecDepth 20000 in
set_option maxHeartbeats 8000000 in
theorem m_X9_go (l : Launch) (D : va_G) (cI cL cP cJ : ClassId) (w : Nat) (me : Nat) (fo : Nat) (fd : Nat) (fme : Nat → Int32) (ffo : Nat → Int32) (ffd : Nat → Int32) (kn : Int32) (hp : P_X9_go fme ffo ffd kn) : M vV l yX9_go cX9_go 4 none 3 65 D (tyF cI cL cP cJ) [.ref w] [walB cI w me fo fd fme ffo ffd kn] (fun (r : Unit) (w1 : List va_W) => w1 = [walB cI w me fo fd ((F_X9_go fme ffo ffd kn).1) ((F_X9_go fme ffo ffd kn).2.1) ((F_X9_go fme ffo ffd kn).2.2.1) ((F_X9_go fme ffo ffd kn).2.2.2)]) := by
  unfold P_X9_go at hp
  refine m_start (by decide +kernel) (Nat.le_of_ble_eq_true rfl) (fun p e s m args below meth c A Q hA hQ C hr hlo => ?_)
  refine r_Le (L' := [(0, .ref w)]) rfl ?_
  refine r_aload_n C dX9_go_0 0 rfl ?_
  refine r_sipush (v := 1672) C dX9_go_1 (by decide) ?_
  refine r_iconst (v := 0) C dX9_go_4 (by decide) ?_
  obtain ⟨h1, hp⟩ := hp
  refine r_callV (ci := 7) (wc := [walB cI w me fo fd fme ffo ffd kn]) (wr := []) (st := []) C (m_X9_meet l D cI cL cP cJ w me fo fd fme ffo ffd kn 1672 0 h1) k_X9_meet t_600 [0] (show ([0] : List Nat).Perm (List.range 1) by decide) rfl rfl rfl (q0 := 0) rfl rfl rfl (Nat.le_of_ble_eq_true rfl) ⟨Nat.le_of_ble_eq_true rfl, Nat.le_of_ble_eq_true rfl⟩ ⟨Nat.zero_le _, Nat.zero_le _⟩ dX9_go_5 (fun r2 wr2 hw2 => ?_)
  obtain rfl := hw2
  obtain ⟨g3, e_g3⟩ : ∃ z : Nat → Int32, z = (F_X9_meet fme ffo ffd kn 1672 0).1 := ⟨_, rfl⟩
  have hp := hp g3 e_g3
  obtain ⟨g4, e_g4⟩ : ∃ z : Nat → Int32, z = (F_X9_meet fme ffo ffd kn 1672 0).2.1 := ⟨_, rfl⟩
  have hp := hp g4 e_g4
  obtain ⟨g5, e_g5⟩ : ∃ z : Nat → Int32, z = (F_X9_meet fme ffo ffd kn 1672 0).2.2.1 := ⟨_, rfl⟩
  have hp := hp g5 e_g5
  obtain ⟨x6, e_x6⟩ : ∃ z : Int32, z = (F_X9_meet fme ffo ffd kn 1672 0).2.2.2 := ⟨_, rfl⟩
  have hp := hp x6 e_x6
  refine r_ws (I' := [walB cI w me fo fd g3 g4 g5 x6]) (by rw [e_g3, e_g4, e_g5, e_x6]; rfl) ?_
  refine r_iconst (v := 0) C dX9_go_8 (by decide) ?_
  refine r_istore_n (L' := [(1, .int 0), (0, .ref w)]) C dX9_go_9 (by decide) rfl ?_
  have hpl := hp
  have hL : ∀ (nn : Nat) (k7 : Nat → Int32) (k8 : Nat → Int32) (k9 : Nat → Int32) (y10 : Int32) (y11 : Int32), P_X9_go_L10 nn k7 k8 k9 y10 y11 → (∀ f75 : Nat → Int32, f75 = (F_X9_go_L10 nn k7 k8 k9 y10 y11).1 → ∀ f76 : Nat → Int32, f76 = (F_X9_go_L10 nn k7 k8 k9 y10 y11).2.1 → ∀ f77 : Nat → Int32, f77 = (F_X9_go_L10 nn k7 k8 k9 y10 y11).2.2.1 → ∀ z78 : Int32, z78 = (F_X9_go_L10 nn k7 k8 k9 y10 y11).2.2.2.1 → ∀ z79 : Int32, z79 = (F_X9_go_L10 nn k7 k8 k9 y10 y11).2.2.2.2 → V p l e (rmm 3 65) s m args below meth c 4 D A 0 0 Q [walB cI w me fo fd f75 f76 f77 z78] [(1, .int z79), (0, .ref w)] 87 []) → V p l e (rmm 3 65) s m args below meth c 4 D A 0 0 Q [walB cI w me fo fd k7 k8 k9 y10] [(1, .int y11), (0, .ref w)] 10 [] := by
    clear hpl
    intro nn
    induction nn with
    | zero => intro k7 k8 k9 y10 y11 hp kk; rw [P_X9_go_L10] at hp; exact hp.elim
    | succ nn ih =>
      intro k7 k8 k9 y10 y11 hp kk
      rw [P_X9_go_L10] at hp
      refine r_iload_n C dX9_go_10 0 rfl ?_
      refine r_aload_n C dX9_go_11 1 rfl ?_
      refine r_ws (I' := [[(w, .inr (7, [.ref me, .ref fo, .ref fd, .int y10]))], [(me, .inl (cI, 384, .inl k7))], [(fo, .inl (cI, 384, .inl k8))], [(fd, .inl (cI, 21, .inl k9))]]) rfl ?_
      refine r_get (Cn := RX9) (T := TX9) (N := 4) C inT9 0 rfl rfl 3 (by decide) t_209 rfl dX9_go_12 ?_
      refine r_icmp_ge (tgt := 87) C dX9_go_15 (by decide) (fun c12 => ?_) (fun c12 => ?_)
      · refine r_ws (I' := [walB cI w me fo fd k7 k8 k9 y10]) rfl ?_
        have eF : F_X9_go_L10 (nn + 1) k7 k8 k9 y10 y11 = (k7, k8, k9, y10, y11) := by simp only [F_X9_go_L10, if_pos c12]
        exact kk _ (by rw [eF]) _ (by rw [eF]) _ (by rw [eF]) _ (by rw [eF]) _ (by rw [eF])
      · have hp := hp.2 c12
        refine r_iload_n C dX9_go_18 0 rfl ?_
        refine r_aload_n C dX9_go_19 1 rfl ?_
        refine r_get (Cn := RX9) (T := TX9) (N := 4) C inT9 0 rfl rfl 0 (by decide) t_206 rfl dX9_go_20 ?_
        refine r_alen (v := 384) C 1 0 rfl rfl rfl dX9_go_23 ?_
        refine r_icmp_ge (tgt := 87) C dX9_go_24 (by decide) (fun c13 => ?_) (fun c13 => ?_)
        · refine r_ws (I' := [walB cI w me fo fd k7 k8 k9 y10]) rfl ?_
          have eF : F_X9_go_L10 (nn + 1) k7 k8 k9 y10 y11 = (k7, k8, k9, y10, y11) := by simp only [F_X9_go_L10, if_neg c12, if_pos c13]
          exact kk _ (by rw [eF]) _ (by rw [eF]) _ (by rw [eF]) _ (by rw [eF]) _ (by rw [eF])
        · have hp := hp.2 c13
          refine r_iload_n C dX9_go_27 0 rfl ?_
          refine r_aload_n C dX9_go_28 1 rfl ?_
          refine r_get (Cn := RX9) (T := TX9) (N := 4) C inT9 0 rfl rfl 1 (by decide) t_207 rfl dX9_go_29 ?_
          refine r_alen (v := 384) C 2 0 rfl rfl rfl dX9_go_32 ?_
          refine r_icmp_ge (tgt := 87) C dX9_go_33 (by decide) (fun c => absurd c c13) (fun _ => ?_)
          refine r_iconst (v := 0) C dX9_go_36 (by decide) ?_
          refine r_istore_n (L' := [(2, .int 0), (1, .int y11), (0, .ref w)]) C dX9_go_37 (by decide) rfl ?_
          refine r_iload_n C dX9_go_38 0 rfl ?_
          refine r_iconst (v := 4) C dX9_go_39 (by decide) ?_
          refine r_icmp_ge (tgt := 81) C dX9_go_40 (by decide) (fun c => absurd c (by decide)) (fun _ => ?_)
          refine r_aload_n C dX9_go_43 2 rfl ?_
          refine r_get (Cn := RX9) (T := TX9) (N := 4) C inT9 0 rfl rfl 0 (by decide) t_206 rfl dX9_go_44 ?_
          refine r_iload_n C dX9_go_47 1 rfl ?_
          obtain ⟨h14, hp⟩ := hp
          refine r_iald (z := k7 y11.toNatClampNeg) C 1 0 rfl rfl h14 dX9_go_48 rfl ?_
          refine r_iload_n C dX9_go_49 0 rfl ?_
          refine r_callS (wc := []) (wr := [[(w, .inr (7, [.ref me, .ref fo, .ref fd, .int y10]))], [(me, .inl (cI, 384, .inl k7))], [(fo, .inl (cI, 384, .inl k8))], [(fd, .inl (cI, 21, .inl k9))]]) (st := []) C (m_X3_folded l D cI cL cP cJ (k7 y11.toNatClampNeg) 0) k_X3_folded t_604 [0, 1, 2, 3] (show ([0, 1, 2, 3] : List Nat).Perm (List.range 4) by decide) rfl rfl rfl (Nat.le_of_ble_eq_true rfl) ⟨Nat.le_of_ble_eq_true rfl, Nat.le_of_ble_eq_true rfl⟩ ⟨Nat.zero_le _, Nat.zero_le _⟩ dX9_go_50 (fun r15 wr15 hw15 => ?_)
          obtain ⟨e_r15, rfl⟩ := hw15
          have hp := hp r15 e_r15
          refine r_ws (I' := [[(w, .inr (7, [.ref me, .ref fo, .ref fd, .int y10]))], [(me, .inl (cI, 384, .inl k7))], [(fo, .inl (cI, 384, .inl k8))], [(fd, .inl (cI, 21, .inl k9))]]) rfl ?_
          refine r_istore_n (L' := [(3, .int r15), (2, .int 0), (1, .int y11), (0, .ref w)]) C dX9_go_53 (by decide) rfl ?_
          refine r_iload_n C dX9_go_54 0 rfl ?_
          refine r_callS (wc := []) (wr := [[(w, .inr (7, [.ref me, .ref fo, .ref fd, .int y10]))], [(me, .inl (cI, 384, .inl k7))], [(fo, .inl (cI, 384, .inl k8))], [(fd, .inl (cI, 21, .inl k9))]]) (st := []) C (m_X3_firstShortening l D cI cL cP cJ r15) k_X3_firstShortening t_605 [0, 1, 2, 3] (show ([0, 1, 2, 3] : List Nat).Perm (List.range 4) by decide) rfl rfl rfl (Nat.le_of_ble_eq_true rfl) ⟨Nat.le_of_ble_eq_true rfl, Nat.le_of_ble_eq_true rfl⟩ ⟨Nat.zero_le _, Nat.zero_le _⟩ dX9_go_55 (fun r16 wr16 hw16 => ?_)
          obtain ⟨e_r16, rfl⟩ := hw16
          have hp := hp r16 e_r16
          refine r_ws (I' := [[(w, .inr (7, [.ref me, .ref fo, .ref fd, .int y10]))], [(me, .inl (cI, 384, .inl k7))], [(fo, .inl (cI, 384, .inl k8))], [(fd, .inl (cI, 21, .inl k9))]]) rfl ?_
          refine r_iload_n C dX9_go_58 1 rfl ?_
          obtain ⟨hps, hp⟩ := hp
          suffices K : ∀ x25 : Int32, x25 = ((if r16 = 0 then (let x24 : Int32 := (F_X9_meet k7 k8 k9 y10 r15 ((k8 y11.toNatClampNeg) + 1)).2.2.2; x24) else (y10))) → ∀ g26 : Nat → Int32, g26 = ((if r16 = 0 then (let g21 : Nat → Int32 := (F_X9_meet k7 k8 k9 y10 r15 ((k8 y11.toNatClampNeg) + 1)).1; g21) else (k7))) → ∀ g27 : Nat → Int32, g27 = ((if r16 = 0 then (let g22 : Nat → Int32 := (F_X9_meet k7 k8 k9 y10 r15 ((k8 y11.toNatClampNeg) + 1)).2.1; g22) else (k8))) → ∀ g28 : Nat → Int32, g28 = ((if r16 = 0 then (let g23 : Nat → Int32 := (F_X9_meet k7 k8 k9 y10 r15 ((k8 y11.toNatClampNeg) + 1)).2.2.1; g23) else (k9))) → V p l e (rmm 3 65) s m args below meth c 4 D A 0 0 Q [[(w, .inr (7, [.ref me, .ref fo, .ref fd, .int x25]))], [(me, .inl (cI, 384, .inl g26))], [(fo, .inl (cI, 384, .inl g27))], [(fd, .inl (cI, 21, .inl g28))]] [(3, .int r15), (2, .int 0), (1, .int y11), (0, .ref w)] 75 [] by
            have hp := hps
            refine r_icmp_ne (tgt := 75) C dX9_go_59 (by decide) (fun c17 => ?_) (fun c17 => ?_)
            · exact K _ (by simp only [if_neg c17]) _ (by simp only [if_neg c17]) _ (by simp only [if_neg c17]) _ (by simp only [if_neg c17])
            · have hp := hp.1 c17
              refine r_aload_n C dX9_go_62 3 rfl ?_
              refine r_iload_n C dX9_go_63 0 rfl ?_
              refine r_aload_n C dX9_go_64 3 rfl ?_
              refine r_get (Cn := RX9) (T := TX9) (N := 4) C inT9 0 rfl rfl 1 (by decide) t_207 rfl dX9_go_65 ?_
              refine r_iload_n C dX9_go_68 2 rfl ?_
              obtain ⟨h18, hp⟩ := hp
              refine r_iald (z := k8 y11.toNatClampNeg) C 2 0 rfl rfl h18 dX9_go_69 rfl ?_
              refine r_iconst (v := 1) C dX9_go_70 (by decide) ?_
              refine r_iadd C dX9_go_71 rfl ?_
              refine r_ws (I' := [walB cI w me fo fd k7 k8 k9 y10]) rfl ?_
              have h19 := hp
              refine r_callV (ci := 7) (wc := [walB cI w me fo fd k7 k8 k9 y10]) (wr := []) (st := []) C (m_X9_meet l D cI cL cP cJ w me fo fd k7 k8 k9 y10 r15 ((k8 y11.toNatClampNeg) + 1) h19) k_X9_meet t_600 [0] (show ([0] : List Nat).Perm (List.range 1) by decide) rfl rfl rfl (q0 := 0) rfl rfl rfl (Nat.le_of_ble_eq_true rfl) ⟨Nat.le_of_ble_eq_true rfl, Nat.le_of_ble_eq_true rfl⟩ ⟨Nat.zero_le _, Nat.zero_le _⟩ dX9_go_72 (fun r20 wr20 hw20 => ?_)
              obtain rfl := hw20
              obtain ⟨g21, e_g21⟩ : ∃ z : Nat → Int32, z = (F_X9_meet k7 k8 k9 y10 r15 ((k8 y11.toNatClampNeg) + 1)).1 := ⟨_, rfl⟩
              obtain ⟨g22, e_g22⟩ : ∃ z : Nat → Int32, z = (F_X9_meet k7 k8 k9 y10 r15 ((k8 y11.toNatClampNeg) + 1)).2.1 := ⟨_, rfl⟩
              obtain ⟨g23, e_g23⟩ : ∃ z : Nat → Int32, z = (F_X9_meet k7 k8 k9 y10 r15 ((k8 y11.toNatClampNeg) + 1)).2.2.1 := ⟨_, rfl⟩
              obtain ⟨x24, e_x24⟩ : ∃ z : Int32, z = (F_X9_meet k7 k8 k9 y10 r15 ((k8 y11.toNatClampNeg) + 1)).2.2.2 := ⟨_, rfl⟩
              refine r_ws (I' := [walB cI w me fo fd g21 g22 g23 x24]) (by rw [e_g21, e_g22, e_g23, e_x24]; rfl) ?_
              refine r_ws (I' := [[(w, .inr (7, [.ref me, .ref fo, .ref fd, .int x24]))], [(me, .inl (cI, 384, .inl g21))], [(fo, .inl (cI, 384, .inl g22))], [(fd, .inl (cI, 21, .inl g23))]]) rfl ?_
              exact K _ (by have q := e_g21.symm; subst q; have q := e_g22.symm; subst q; have q := e_g23.symm; subst q; have q := e_x24.symm; subst q; simp only [if_pos c17]) _ (by have q := e_g21.symm; subst q; have q := e_g22.symm; subst q; have q := e_g23.symm; subst q; have q := e_x24.symm; subst q; simp only [if_pos c17]) _ (by have q := e_g21.symm; subst q; have q := e_g22.symm; subst q; have q := e_g23.symm; subst q; have q := e_x24.symm; subst q; simp only [if_pos c17]) _ (by have q := e_g21.symm; subst q; have q := e_g22.symm; subst q; have q := e_g23.symm; subst q; have q := e_x24.symm; subst q; simp only [if_pos c17])
          intro x25 e_x25 g26 e_g26 g27 e_g27 g28 e_g28
          have hp := hp x25 e_x25
          have hp := hp g26 e_g26
          have hp := hp g27 e_g27
          have hp := hp g28 e_g28
          refine r_iinc (v := 1) (L' := [(2, .int 1), (3, .int r15), (1, .int y11), (0, .ref w)]) C dX9_go_75 1 rfl (by decide) (by decide) rfl ?_
          refine r_goto (tgt := 38) C dX9_go_78 (by decide) ?_
          refine r_iload_n C dX9_go_38 0 rfl ?_
          refine r_iconst (v := 4) C dX9_go_39 (by decide) ?_
          refine r_icmp_ge (tgt := 81) C dX9_go_40 (by decide) (fun c => absurd c (by decide)) (fun _ => ?_)
          refine r_aload_n C dX9_go_43 3 rfl ?_
          refine r_get (Cn := RX9) (T := TX9) (N := 4) C inT9 0 rfl rfl 0 (by decide) t_206 rfl dX9_go_44 ?_
          refine r_iload_n C dX9_go_47 2 rfl ?_
          obtain ⟨h29, hp⟩ := hp
          refine r_iald (z := g26 y11.toNatClampNeg) C 1 0 rfl rfl h29 dX9_go_48 rfl ?_
          refine r_iload_n C dX9_go_49 0 rfl ?_
          refine r_callS (wc := []) (wr := [[(w, .inr (7, [.ref me, .ref fo, .ref fd, .int x25]))], [(me, .inl (cI, 384, .inl g26))], [(fo, .inl (cI, 384, .inl g27))], [(fd, .inl (cI, 21, .inl g28))]]) (st := []) C (m_X3_folded l D cI cL cP cJ (g26 y11.toNatClampNeg) 1) k_X3_folded t_604 [0, 1, 2, 3] (show ([0, 1, 2, 3] : List Nat).Perm (List.range 4) by decide) rfl rfl rfl (Nat.le_of_ble_eq_true rfl) ⟨Nat.le_of_ble_eq_true rfl, Nat.le_of_ble_eq_true rfl⟩ ⟨Nat.zero_le _, Nat.zero_le _⟩ dX9_go_50 (fun r30 wr30 hw30 => ?_)
          obtain ⟨e_r30, rfl⟩ := hw30
          have hp := hp r30 e_r30
          refine r_ws (I' := [[(w, .inr (7, [.ref me, .ref fo, .ref fd, .int x25]))], [(me, .inl (cI, 384, .inl g26))], [(fo, .inl (cI, 384, .inl g27))], [(fd, .inl (cI, 21, .inl g28))]]) rfl ?_
          refine r_istore_n (L' := [(3, .int r30), (2, .int 1), (1, .int y11), (0, .ref w)]) C dX9_go_53 (by decide) rfl ?_
          refine r_iload_n C dX9_go_54 0 rfl ?_
          refine r_callS (wc := []) (wr := [[(w, .inr (7, [.ref me, .ref fo, .ref fd, .int x25]))], [(me, .inl (cI, 384, .inl g26))], [(fo, .inl (cI, 384, .inl g27))], [(fd, .inl (cI, 21, .inl g28))]]) (st := []) C (m_X3_firstShortening l D cI cL cP cJ r30) k_X3_firstShortening t_605 [0, 1, 2, 3] (show ([0, 1, 2, 3] : List Nat).Perm (List.range 4) by decide) rfl rfl rfl (Nat.le_of_ble_eq_true rfl) ⟨Nat.le_of_ble_eq_true rfl, Nat.le_of_ble_eq_true rfl⟩ ⟨Nat.zero_le _, Nat.zero_le _⟩ dX9_go_55 (fun r31 wr31 hw31 => ?_)
          obtain ⟨e_r31, rfl⟩ := hw31
          have hp := hp r31 e_r31
          refine r_ws (I' := [[(w, .inr (7, [.ref me, .ref fo, .ref fd, .int x25]))], [(me, .inl (cI, 384, .inl g26))], [(fo, .inl (cI, 384, .inl g27))], [(fd, .inl (cI, 21, .inl g28))]]) rfl ?_
          refine r_iload_n C dX9_go_58 1 rfl ?_
          obtain ⟨hps, hp⟩ := hp
          suffices K : ∀ x40 : Int32, x40 = ((if r31 = 1 then (let x39 : Int32 := (F_X9_meet g26 g27 g28 x25 r30 ((g27 y11.toNatClampNeg) + 1)).2.2.2; x39) else (x25))) → ∀ g41 : Nat → Int32, g41 = ((if r31 = 1 then (let g36 : Nat → Int32 := (F_X9_meet g26 g27 g28 x25 r30 ((g27 y11.toNatClampNeg) + 1)).1; g36) else (g26))) → ∀ g42 : Nat → Int32, g42 = ((if r31 = 1 then (let g37 : Nat → Int32 := (F_X9_meet g26 g27 g28 x25 r30 ((g27 y11.toNatClampNeg) + 1)).2.1; g37) else (g27))) → ∀ g43 : Nat → Int32, g43 = ((if r31 = 1 then (let g38 : Nat → Int32 := (F_X9_meet g26 g27 g28 x25 r30 ((g27 y11.toNatClampNeg) + 1)).2.2.1; g38) else (g28))) → V p l e (rmm 3 65) s m args below meth c 4 D A 0 0 Q [[(w, .inr (7, [.ref me, .ref fo, .ref fd, .int x40]))], [(me, .inl (cI, 384, .inl g41))], [(fo, .inl (cI, 384, .inl g42))], [(fd, .inl (cI, 21, .inl g43))]] [(3, .int r30), (2, .int 1), (1, .int y11), (0, .ref w)] 75 [] by
            have hp := hps
            refine r_icmp_ne (tgt := 75) C dX9_go_59 (by decide) (fun c32 => ?_) (fun c32 => ?_)
            · exact K _ (by simp only [if_neg c32]) _ (by simp only [if_neg c32]) _ (by simp only [if_neg c32]) _ (by simp only [if_neg c32])
            · have hp := hp.1 c32
              refine r_aload_n C dX9_go_62 3 rfl ?_
              refine r_iload_n C dX9_go_63 0 rfl ?_
              refine r_aload_n C dX9_go_64 3 rfl ?_
              refine r_get (Cn := RX9) (T := TX9) (N := 4) C inT9 0 rfl rfl 1 (by decide) t_207 rfl dX9_go_65 ?_
              refine r_iload_n C dX9_go_68 2 rfl ?_
              obtain ⟨h33, hp⟩ := hp
              refine r_iald (z := g27 y11.toNatClampNeg) C 2 0 rfl rfl h33 dX9_go_69 rfl ?_
              refine r_iconst (v := 1) C dX9_go_70 (by decide) ?_
              refine r_iadd C dX9_go_71 rfl ?_
              refine r_ws (I' := [walB cI w me fo fd g26 g27 g28 x25]) rfl ?_
              have h34 := hp
              refine r_callV (ci := 7) (wc := [walB cI w me fo fd g26 g27 g28 x25]) (wr := []) (st := []) C (m_X9_meet l D cI cL cP cJ w me fo fd g26 g27 g28 x25 r30 ((g27 y11.toNatClampNeg) + 1) h34) k_X9_meet t_600 [0] (show ([0] : List Nat).Perm (List.range 1) by decide) rfl rfl rfl (q0 := 0) rfl rfl rfl (Nat.le_of_ble_eq_true rfl) ⟨Nat.le_of_ble_eq_true rfl, Nat.le_of_ble_eq_true rfl⟩ ⟨Nat.zero_le _, Nat.zero_le _⟩ dX9_go_72 (fun r35 wr35 hw35 => ?_)
              obtain rfl := hw35
              obtain ⟨g36, e_g36⟩ : ∃ z : Nat → Int32, z = (F_X9_meet g26 g27 g28 x25 r30 ((g27 y11.toNatClampNeg) + 1)).1 := ⟨_, rfl⟩
              obtain ⟨g37, e_g37⟩ : ∃ z : Nat → Int32, z = (F_X9_meet g26 g27 g28 x25 r30 ((g27 y11.toNatClampNeg) + 1)).2.1 := ⟨_, rfl⟩
              obtain ⟨g38, e_g38⟩ : ∃ z : Nat → Int32, z = (F_X9_meet g26 g27 g28 x25 r30 ((g27 y11.toNatClampNeg) + 1)).2.2.1 := ⟨_, rfl⟩
              obtain ⟨x39, e_x39⟩ : ∃ z : Int32, z = (F_X9_meet g26 g27 g28 x25 r30 ((g27 y11.toNatClampNeg) + 1)).2.2.2 := ⟨_, rfl⟩
              refine r_ws (I' := [walB cI w me fo fd g36 g37 g38 x39]) (by rw [e_g36, e_g37, e_g38, e_x39]; rfl) ?_
              refine r_ws (I' := [[(w, .inr (7, [.ref me, .ref fo, .ref fd, .int x39]))], [(me, .inl (cI, 384, .inl g36))], [(fo, .inl (cI, 384, .inl g37))], [(fd, .inl (cI, 21, .inl g38))]]) rfl ?_
              exact K _ (by have q := e_g36.symm; subst q; have q := e_g37.symm; subst q; have q := e_g38.symm; subst q; have q := e_x39.symm; subst q; simp only [if_pos c32]) _ (by have q := e_g36.symm; subst q; have q := e_g37.symm; subst q; have q := e_g38.symm; subst q; have q := e_x39.symm; subst q; simp only [if_pos c32]) _ (by have q := e_g36.symm; subst q; have q := e_g37.symm; subst q; have q := e_g38.symm; subst q; have q := e_x39.symm; subst q; simp only [if_pos c32]) _ (by have q := e_g36.symm; subst q; have q := e_g37.symm; subst q; have q := e_g38.symm; subst q; have q := e_x39.symm; subst q; simp only [if_pos c32])
          intro x40 e_x40 g41 e_g41 g42 e_g42 g43 e_g43
          have hp := hp x40 e_x40
          have hp := hp g41 e_g41
          have hp := hp g42 e_g42
          have hp := hp g43 e_g43
          refine r_iinc (v := 2) (L' := [(2, .int 2), (3, .int r30), (1, .int y11), (0, .ref w)]) C dX9_go_75 1 rfl (by decide) (by decide) rfl ?_
          refine r_goto (tgt := 38) C dX9_go_78 (by decide) ?_
          refine r_iload_n C dX9_go_38 0 rfl ?_
          refine r_iconst (v := 4) C dX9_go_39 (by decide) ?_
          refine r_icmp_ge (tgt := 81) C dX9_go_40 (by decide) (fun c => absurd c (by decide)) (fun _ => ?_)
          refine r_aload_n C dX9_go_43 3 rfl ?_
          refine r_get (Cn := RX9) (T := TX9) (N := 4) C inT9 0 rfl rfl 0 (by decide) t_206 rfl dX9_go_44 ?_
          refine r_iload_n C dX9_go_47 2 rfl ?_
          obtain ⟨h44, hp⟩ := hp
          refine r_iald (z := g41 y11.toNatClampNeg) C 1 0 rfl rfl h44 dX9_go_48 rfl ?_
          refine r_iload_n C dX9_go_49 0 rfl ?_
          refine r_callS (wc := []) (wr := [[(w, .inr (7, [.ref me, .ref fo, .ref fd, .int x40]))], [(me, .inl (cI, 384, .inl g41))], [(fo, .inl (cI, 384, .inl g42))], [(fd, .inl (cI, 21, .inl g43))]]) (st := []) C (m_X3_folded l D cI cL cP cJ (g41 y11.toNatClampNeg) 2) k_X3_folded t_604 [0, 1, 2, 3] (show ([0, 1, 2, 3] : List Nat).Perm (List.range 4) by decide) rfl rfl rfl (Nat.le_of_ble_eq_true rfl) ⟨Nat.le_of_ble_eq_true rfl, Nat.le_of_ble_eq_true rfl⟩ ⟨Nat.zero_le _, Nat.zero_le _⟩ dX9_go_50 (fun r45 wr45 hw45 => ?_)
          obtain ⟨e_r45, rfl⟩ := hw45
          have hp := hp r45 e_r45
          refine r_ws (I' := [[(w, .inr (7, [.ref me, .ref fo, .ref fd, .int x40]))], [(me, .inl (cI, 384, .inl g41))], [(fo, .inl (cI, 384, .inl g42))], [(fd, .inl (cI, 21, .inl g43))]]) rfl ?_
          refine r_istore_n (L' := [(3, .int r45), (2, .int 2), (1, .int y11), (0, .ref w)]) C dX9_go_53 (by decide) rfl ?_
          refine r_iload_n C dX9_go_54 0 rfl ?_
          refine r_callS (wc := []) (wr := [[(w, .inr (7, [.ref me, .ref fo, .ref fd, .int x40]))], [(me, .inl (cI, 384, .inl g41))], [(fo, .inl (cI, 384, .inl g42))], [(fd, .inl (cI, 21, .inl g43))]]) (st := []) C (m_X3_firstShortening l D cI cL cP cJ r45) k_X3_firstShortening t_605 [0, 1, 2, 3] (show ([0, 1, 2, 3] : List Nat).Perm (List.range 4) by decide) rfl rfl rfl (Nat.le_of_ble_eq_true rfl) ⟨Nat.le_of_ble_eq_true rfl, Nat.le_of_ble_eq_true rfl⟩ ⟨Nat.zero_le _, Nat.zero_le _⟩ dX9_go_55 (fun r46 wr46 hw46 => ?_)
          obtain ⟨e_r46, rfl⟩ := hw46
          have hp := hp r46 e_r46
          refine r_ws (I' := [[(w, .inr (7, [.ref me, .ref fo, .ref fd, .int x40]))], [(me, .inl (cI, 384, .inl g41))], [(fo, .inl (cI, 384, .inl g42))], [(fd, .inl (cI, 21, .inl g43))]]) rfl ?_
          refine r_iload_n C dX9_go_58 1 rfl ?_
          obtain ⟨hps, hp⟩ := hp
          suffices K : ∀ x55 : Int32, x55 = ((if r46 = 2 then (let x54 : Int32 := (F_X9_meet g41 g42 g43 x40 r45 ((g42 y11.toNatClampNeg) + 1)).2.2.2; x54) else (x40))) → ∀ g56 : Nat → Int32, g56 = ((if r46 = 2 then (let g51 : Nat → Int32 := (F_X9_meet g41 g42 g43 x40 r45 ((g42 y11.toNatClampNeg) + 1)).1; g51) else (g41))) → ∀ g57 : Nat → Int32, g57 = ((if r46 = 2 then (let g52 : Nat → Int32 := (F_X9_meet g41 g42 g43 x40 r45 ((g42 y11.toNatClampNeg) + 1)).2.1; g52) else (g42))) → ∀ g58 : Nat → Int32, g58 = ((if r46 = 2 then (let g53 : Nat → Int32 := (F_X9_meet g41 g42 g43 x40 r45 ((g42 y11.toNatClampNeg) + 1)).2.2.1; g53) else (g43))) → V p l e (rmm 3 65) s m args below meth c 4 D A 0 0 Q [[(w, .inr (7, [.ref me, .ref fo, .ref fd, .int x55]))], [(me, .inl (cI, 384, .inl g56))], [(fo, .inl (cI, 384, .inl g57))], [(fd, .inl (cI, 21, .inl g58))]] [(3, .int r45), (2, .int 2), (1, .int y11), (0, .ref w)] 75 [] by
            have hp := hps
            refine r_icmp_ne (tgt := 75) C dX9_go_59 (by decide) (fun c47 => ?_) (fun c47 => ?_)
            · exact K _ (by simp only [if_neg c47]) _ (by simp only [if_neg c47]) _ (by simp only [if_neg c47]) _ (by simp only [if_neg c47])
            · have hp := hp.1 c47
              refine r_aload_n C dX9_go_62 3 rfl ?_
              refine r_iload_n C dX9_go_63 0 rfl ?_
              refine r_aload_n C dX9_go_64 3 rfl ?_
              refine r_get (Cn := RX9) (T := TX9) (N := 4) C inT9 0 rfl rfl 1 (by decide) t_207 rfl dX9_go_65 ?_
              refine r_iload_n C dX9_go_68 2 rfl ?_
              obtain ⟨h48, hp⟩ := hp
              refine r_iald (z := g42 y11.toNatClampNeg) C 2 0 rfl rfl h48 dX9_go_69 rfl ?_
              refine r_iconst (v := 1) C dX9_go_70 (by decide) ?_
              refine r_iadd C dX9_go_71 rfl ?_
              refine r_ws (I' := [walB cI w me fo fd g41 g42 g43 x40]) rfl ?_
              have h49 := hp
              refine r_callV (ci := 7) (wc := [walB cI w me fo fd g41 g42 g43 x40]) (wr := []) (st := []) C (m_X9_meet l D cI cL cP cJ w me fo fd g41 g42 g43 x40 r45 ((g42 y11.toNatClampNeg) + 1) h49) k_X9_meet t_600 [0] (show ([0] : List Nat).Perm (List.range 1) by decide) rfl rfl rfl (q0 := 0) rfl rfl rfl (Nat.le_of_ble_eq_true rfl) ⟨Nat.le_of_ble_eq_true rfl, Nat.le_of_ble_eq_true rfl⟩ ⟨Nat.zero_le _, Nat.zero_le _⟩ dX9_go_72 (fun r50 wr50 hw50 => ?_)
              obtain rfl := hw50
              obtain ⟨g51, e_g51⟩ : ∃ z : Nat → Int32, z = (F_X9_meet g41 g42 g43 x40 r45 ((g42 y11.toNatClampNeg) + 1)).1 := ⟨_, rfl⟩
              obtain ⟨g52, e_g52⟩ : ∃ z : Nat → Int32, z = (F_X9_meet g41 g42 g43 x40 r45 ((g42 y11.toNatClampNeg) + 1)).2.1 := ⟨_, rfl⟩
              obtain ⟨g53, e_g53⟩ : ∃ z : Nat → Int32, z = (F_X9_meet g41 g42 g43 x40 r45 ((g42 y11.toNatClampNeg) + 1)).2.2.1 := ⟨_, rfl⟩
              obtain ⟨x54, e_x54⟩ : ∃ z : Int32, z = (F_X9_meet g41 g42 g43 x40 r45 ((g42 y11.toNatClampNeg) + 1)).2.2.2 := ⟨_, rfl⟩
              refine r_ws (I' := [walB cI w me fo fd g51 g52 g53 x54]) (by rw [e_g51, e_g52, e_g53, e_x54]; rfl) ?_
              refine r_ws (I' := [[(w, .inr (7, [.ref me, .ref fo, .ref fd, .int x54]))], [(me, .inl (cI, 384, .inl g51))], [(fo, .inl (cI, 384, .inl g52))], [(fd, .inl (cI, 21, .inl g53))]]) rfl ?_
              exact K _ (by have q := e_g51.symm; subst q; have q := e_g52.symm; subst q; have q := e_g53.symm; subst q; have q := e_x54.symm; subst q; simp only [if_pos c47]) _ (by have q := e_g51.symm; subst q; have q := e_g52.symm; subst q; have q := e_g53.symm; subst q; have q := e_x54.symm; subst q; simp only [if_pos c47]) _ (by have q := e_g51.symm; subst q; have q := e_g52.symm; subst q; have q := e_g53.symm; subst q; have q := e_x54.symm; subst q; simp only [if_pos c47]) _ (by have q := e_g51.symm; subst q; have q := e_g52.symm; subst q; have q := e_g53.symm; subst q; have q := e_x54.symm; subst q; simp only [if_pos c47])
          intro x55 e_x55 g56 e_g56 g57 e_g57 g58 e_g58
          have hp := hp x55 e_x55
          have hp := hp g56 e_g56
          have hp := hp g57 e_g57
          have hp := hp g58 e_g58
          refine r_iinc (v := 3) (L' := [(2, .int 3), (3, .int r45), (1, .int y11), (0, .ref w)]) C dX9_go_75 1 rfl (by decide) (by decide) rfl ?_
          refine r_goto (tgt := 38) C dX9_go_78 (by decide) ?_
          refine r_iload_n C dX9_go_38 0 rfl ?_
          refine r_iconst (v := 4) C dX9_go_39 (by decide) ?_
          refine r_icmp_ge (tgt := 81) C dX9_go_40 (by decide) (fun c => absurd c (by decide)) (fun _ => ?_)
          refine r_aload_n C dX9_go_43 3 rfl ?_
          refine r_get (Cn := RX9) (T := TX9) (N := 4) C inT9 0 rfl rfl 0 (by decide) t_206 rfl dX9_go_44 ?_
          refine r_iload_n C dX9_go_47 2 rfl ?_
          obtain ⟨h59, hp⟩ := hp
          refine r_iald (z := g56 y11.toNatClampNeg) C 1 0 rfl rfl h59 dX9_go_48 rfl ?_
          refine r_iload_n C dX9_go_49 0 rfl ?_
          refine r_callS (wc := []) (wr := [[(w, .inr (7, [.ref me, .ref fo, .ref fd, .int x55]))], [(me, .inl (cI, 384, .inl g56))], [(fo, .inl (cI, 384, .inl g57))], [(fd, .inl (cI, 21, .inl g58))]]) (st := []) C (m_X3_folded l D cI cL cP cJ (g56 y11.toNatClampNeg) 3) k_X3_folded t_604 [0, 1, 2, 3] (show ([0, 1, 2, 3] : List Nat).Perm (List.range 4) by decide) rfl rfl rfl (Nat.le_of_ble_eq_true rfl) ⟨Nat.le_of_ble_eq_true rfl, Nat.le_of_ble_eq_true rfl⟩ ⟨Nat.zero_le _, Nat.zero_le _⟩ dX9_go_50 (fun r60 wr60 hw60 => ?_)
          obtain ⟨e_r60, rfl⟩ := hw60
          have hp := hp r60 e_r60
          refine r_ws (I' := [[(w, .inr (7, [.ref me, .ref fo, .ref fd, .int x55]))], [(me, .inl (cI, 384, .inl g56))], [(fo, .inl (cI, 384, .inl g57))], [(fd, .inl (cI, 21, .inl g58))]]) rfl ?_
          refine r_istore_n (L' := [(3, .int r60), (2, .int 3), (1, .int y11), (0, .ref w)]) C dX9_go_53 (by decide) rfl ?_
          refine r_iload_n C dX9_go_54 0 rfl ?_
          refine r_callS (wc := []) (wr := [[(w, .inr (7, [.ref me, .ref fo, .ref fd, .int x55]))], [(me, .inl (cI, 384, .inl g56))], [(fo, .inl (cI, 384, .inl g57))], [(fd, .inl (cI, 21, .inl g58))]]) (st := []) C (m_X3_firstShortening l D cI cL cP cJ r60) k_X3_firstShortening t_605 [0, 1, 2, 3] (show ([0, 1, 2, 3] : List Nat).Perm (List.range 4) by decide) rfl rfl rfl (Nat.le_of_ble_eq_true rfl) ⟨Nat.le_of_ble_eq_true rfl, Nat.le_of_ble_eq_true rfl⟩ ⟨Nat.zero_le _, Nat.zero_le _⟩ dX9_go_55 (fun r61 wr61 hw61 => ?_)
          obtain ⟨e_r61, rfl⟩ := hw61
          have hp := hp r61 e_r61
          refine r_ws (I' := [[(w, .inr (7, [.ref me, .ref fo, .ref fd, .int x55]))], [(me, .inl (cI, 384, .inl g56))], [(fo, .inl (cI, 384, .inl g57))], [(fd, .inl (cI, 21, .inl g58))]]) rfl ?_
          refine r_iload_n C dX9_go_58 1 rfl ?_
          obtain ⟨hps, hp⟩ := hp
          suffices K : ∀ x70 : Int32, x70 = ((if r61 = 3 then (let x69 : Int32 := (F_X9_meet g56 g57 g58 x55 r60 ((g57 y11.toNatClampNeg) + 1)).2.2.2; x69) else (x55))) → ∀ g71 : Nat → Int32, g71 = ((if r61 = 3 then (let g66 : Nat → Int32 := (F_X9_meet g56 g57 g58 x55 r60 ((g57 y11.toNatClampNeg) + 1)).1; g66) else (g56))) → ∀ g72 : Nat → Int32, g72 = ((if r61 = 3 then (let g67 : Nat → Int32 := (F_X9_meet g56 g57 g58 x55 r60 ((g57 y11.toNatClampNeg) + 1)).2.1; g67) else (g57))) → ∀ g73 : Nat → Int32, g73 = ((if r61 = 3 then (let g68 : Nat → Int32 := (F_X9_meet g56 g57 g58 x55 r60 ((g57 y11.toNatClampNeg) + 1)).2.2.1; g68) else (g58))) → V p l e (rmm 3 65) s m args below meth c 4 D A 0 0 Q [[(w, .inr (7, [.ref me, .ref fo, .ref fd, .int x70]))], [(me, .inl (cI, 384, .inl g71))], [(fo, .inl (cI, 384, .inl g72))], [(fd, .inl (cI, 21, .inl g73))]] [(3, .int r60), (2, .int 3), (1, .int y11), (0, .ref w)] 75 [] by
            have hp := hps
            refine r_icmp_ne (tgt := 75) C dX9_go_59 (by decide) (fun c62 => ?_) (fun c62 => ?_)
            · exact K _ (by simp only [if_neg c62]) _ (by simp only [if_neg c62]) _ (by simp only [if_neg c62]) _ (by simp only [if_neg c62])
            · have hp := hp.1 c62
              refine r_aload_n C dX9_go_62 3 rfl ?_
              refine r_iload_n C dX9_go_63 0 rfl ?_
              refine r_aload_n C dX9_go_64 3 rfl ?_
              refine r_get (Cn := RX9) (T := TX9) (N := 4) C inT9 0 rfl rfl 1 (by decide) t_207 rfl dX9_go_65 ?_
              refine r_iload_n C dX9_go_68 2 rfl ?_
              obtain ⟨h63, hp⟩ := hp
              refine r_iald (z := g57 y11.toNatClampNeg) C 2 0 rfl rfl h63 dX9_go_69 rfl ?_
              refine r_iconst (v := 1) C dX9_go_70 (by decide) ?_
              refine r_iadd C dX9_go_71 rfl ?_
              refine r_ws (I' := [walB cI w me fo fd g56 g57 g58 x55]) rfl ?_
              have h64 := hp
              refine r_callV (ci := 7) (wc := [walB cI w me fo fd g56 g57 g58 x55]) (wr := []) (st := []) C (m_X9_meet l D cI cL cP cJ w me fo fd g56 g57 g58 x55 r60 ((g57 y11.toNatClampNeg) + 1) h64) k_X9_meet t_600 [0] (show ([0] : List Nat).Perm (List.range 1) by decide) rfl rfl rfl (q0 := 0) rfl rfl rfl (Nat.le_of_ble_eq_true rfl) ⟨Nat.le_of_ble_eq_true rfl, Nat.le_of_ble_eq_true rfl⟩ ⟨Nat.zero_le _, Nat.zero_le _⟩ dX9_go_72 (fun r65 wr65 hw65 => ?_)
              obtain rfl := hw65
              obtain ⟨g66, e_g66⟩ : ∃ z : Nat → Int32, z = (F_X9_meet g56 g57 g58 x55 r60 ((g57 y11.toNatClampNeg) + 1)).1 := ⟨_, rfl⟩
              obtain ⟨g67, e_g67⟩ : ∃ z : Nat → Int32, z = (F_X9_meet g56 g57 g58 x55 r60 ((g57 y11.toNatClampNeg) + 1)).2.1 := ⟨_, rfl⟩
              obtain ⟨g68, e_g68⟩ : ∃ z : Nat → Int32, z = (F_X9_meet g56 g57 g58 x55 r60 ((g57 y11.toNatClampNeg) + 1)).2.2.1 := ⟨_, rfl⟩
              obtain ⟨x69, e_x69⟩ : ∃ z : Int32, z = (F_X9_meet g56 g57 g58 x55 r60 ((g57 y11.toNatClampNeg) + 1)).2.2.2 := ⟨_, rfl⟩
              refine r_ws (I' := [walB cI w me fo fd g66 g67 g68 x69]) (by rw [e_g66, e_g67, e_g68, e_x69]; rfl) ?_
              refine r_ws (I' := [[(w, .inr (7, [.ref me, .ref fo, .ref fd, .int x69]))], [(me, .inl (cI, 384, .inl g66))], [(fo, .inl (cI, 384, .inl g67))], [(fd, .inl (cI, 21, .inl g68))]]) rfl ?_
              exact K _ (by have q := e_g66.symm; subst q; have q := e_g67.symm; subst q; have q := e_g68.symm; subst q; have q := e_x69.symm; subst q; simp only [if_pos c62]) _ (by have q := e_g66.symm; subst q; have q := e_g67.symm; subst q; have q := e_g68.symm; subst q; have q := e_x69.symm; subst q; simp only [if_pos c62]) _ (by have q := e_g66.symm; subst q; have q := e_g67.symm; subst q; have q := e_g68.symm; subst q; have q := e_x69.symm; subst q; simp only [if_pos c62]) _ (by have q := e_g66.symm; subst q; have q := e_g67.symm; subst q; have q := e_g68.symm; subst q; have q := e_x69.symm; subst q; simp only [if_pos c62])
          intro x70 e_x70 g71 e_g71 g72 e_g72 g73 e_g73
          have hp := hp x70 e_x70
          have hp := hp g71 e_g71
          have hp := hp g72 e_g72
          have hp := hp g73 e_g73
          refine r_iinc (v := 4) (L' := [(2, .int 4), (3, .int r60), (1, .int y11), (0, .ref w)]) C dX9_go_75 1 rfl (by decide) (by decide) rfl ?_
          refine r_goto (tgt := 38) C dX9_go_78 (by decide) ?_
          refine r_iload_n C dX9_go_38 0 rfl ?_
          refine r_iconst (v := 4) C dX9_go_39 (by decide) ?_
          refine r_icmp_ge (tgt := 81) C dX9_go_40 (by decide) (fun _ => ?_) (fun c => absurd c (by decide))
          obtain ⟨x74, e_x74⟩ : ∃ z : Int32, z = y11 + 1 := ⟨_, rfl⟩
          have hp := hp x74 e_x74
          refine r_iinc (v := x74) (L' := [(1, .int x74), (2, .int 4), (3, .int r60), (0, .ref w)]) C dX9_go_81 2 rfl (by rw [e_x74]; exact ii (by decide)) (by decide) rfl ?_
          refine r_goto (tgt := 10) C dX9_go_84 (by decide) ?_
          refine r_ws (I' := [walB cI w me fo fd g71 g72 g73 x70]) rfl ?_
          refine r_L (L' := [(1, .int x74), (0, .ref w)]) [0, 3] rfl ?_
          have eF : F_X9_go_L10 (nn + 1) k7 k8 k9 y10 y11 = F_X9_go_L10 nn g71 g72 g73 x70 x74 := by have q := e_r15.symm; subst q; have q := e_r16.symm; subst q; have q := e_x25.symm; subst q; have q := e_g26.symm; subst q; have q := e_g27.symm; subst q; have q := e_g28.symm; subst q; have q := e_r30.symm; subst q; have q := e_r31.symm; subst q; have q := e_x40.symm; subst q; have q := e_g41.symm; subst q; have q := e_g42.symm; subst q; have q := e_g43.symm; subst q; have q := e_r45.symm; subst q; have q := e_r46.symm; subst q; have q := e_x55.symm; subst q; have q := e_g56.symm; subst q; have q := e_g57.symm; subst q; have q := e_g58.symm; subst q; have q := e_r60.symm; subst q; have q := e_r61.symm; subst q; have q := e_x70.symm; subst q; have q := e_g71.symm; subst q; have q := e_g72.symm; subst q; have q := e_g73.symm; subst q; have q := e_x74.symm; subst q; simp only [F_X9_go_L10, if_neg c12, if_neg c13]
          exact ih g71 g72 g73 x70 x74 hp (fun f75 e_f75 f76 e_f76 f77 e_f77 z78 e_z78 z79 e_z79 => kk f75 (by rw [eF]; exact e_f75) f76 (by rw [eF]; exact e_f76) f77 (by rw [eF]; exact e_f77) z78 (by rw [eF]; exact e_z78) z79 (by rw [eF]; exact e_z79))
  refine hL 386 g3 g4 g5 x6 0 hpl (fun f75 e_f75 f76 e_f76 f77 e_f77 z78 e_z78 z79 e_z79 => ?_)
  clear hL hpl
  have eF : F_X9_go fme ffo ffd kn = (f75, f76, f77, z78) := by have q := e_g3.symm; subst q; have q := e_g4.symm; subst q; have q := e_g5.symm; subst q; have q := e_x6.symm; subst q; have q := e_f75.symm; subst q; have q := e_f76.symm; subst q; have q := e_f77.symm; subst q; have q := e_z78.symm; subst q; have q := e_z79.symm; subst q; rfl
  exact r_vret (r := ()) C hA hr hlo dX9_go_87 [walB cI w me fo fd f75 f76 f77 z78] (by simp only [eF]) rfl hQ
theorem k_X9_liesAfter : kV yX9_liesAfter cX9_liesAfter 2 (some .int) 1 := ⟨t_593, t_594, t_66, t_595, by decide +kernel, by decide +kernel, by decide +kernel⟩
set_option maxRecDepth 20000 in
def F_X9_liesAfter (fme : Nat → Int32) (ffo : Nat → Int32) (ffd : Nat → Int32) (kn : Int32) (folds : Int32) : Int32 × (Nat → Int32) × (Nat → Int32) × (Nat → Int32) × Int32 := let x8 : Int32 := (if kn = 0 then (let x7 : Int32 := (F_X9_go fme ffo ffd kn).2.2.2; x7) else (kn)); let g9 : Nat → Int32 := (if kn = 0 then (let g4 : Nat → Int32 := (F_X9_go fme ffo ffd kn).1; g4) else (fme)); let g10 : Nat → Int32 := (if kn = 0 then (let g5 : Nat → Int32 := (F_X9_go fme ffo ffd kn).2.1; g5) else (ffo)); let g11 : Nat → Int32 := (if kn = 0 then (let g6 : Nat → Int32 := (F_X9_go fme ffo ffd kn).2.2.1; g6) else (ffd)); let x15 : Int32 := (if folds < 0 then (0) else ((if 21 ≤ folds then (0) else (g11 folds.toNatClampNeg)))); (x15, g9, g10, g11, x8)
set_option maxRecDepth 20000 in
def P_X9_liesAfter (fme : Nat → Int32) (ffo : Nat → Int32) (ffd : Nat → Int32) (kn : Int32) (folds : Int32) : Prop := (((kn = 0 → (P_X9_go fme ffo ffd kn)) ∧ (¬ kn = 0 → True)) ∧ (∀ x8 : Int32, x8 = ((if kn = 0 then (let x7 : Int32 := (F_X9_go fme ffo ffd kn).2.2.2; x7) else (kn))) → (∀ g9 : Nat → Int32, g9 = ((if kn = 0 then (let g4 : Nat → Int32 := (F_X9_go fme ffo ffd kn).1; g4) else (fme))) → (∀ g10 : Nat → Int32, g10 = ((if kn = 0 then (let g5 : Nat → Int32 := (F_X9_go fme ffo ffd kn).2.1; g5) else (ffo))) → (∀ g11 : Nat → Int32, g11 = ((if kn = 0 then (let g6 : Nat → Int32 := (F_X9_go fme ffo ffd kn).2.2.1; g6) else (ffd))) → ((folds < 0 → True) ∧ (¬ folds < 0 → ((21 ≤ folds → True) ∧ (¬ 21 ≤ folds → (vp_in folds 21))))))))))
set_option maxRecDepth 20000 in
set_option maxHeartbeats 8000000 in
theorem m_X9_liesAfter (l : Launch) (D : va_G) (cI cL cP cJ : ClassId) (w : Nat) (me : Nat) (fo : Nat) (fd : Nat) (fme : Nat → Int32) (ffo : Nat → Int32) (ffd : Nat → Int32) (kn : Int32) (folds : Int32) (hp : P_X9_liesAfter fme ffo ffd kn folds) : M vI l yX9_liesAfter cX9_liesAfter 2 (some .int) 4 88 D (tyF cI cL cP cJ) [.ref w, .int folds] [walB cI w me fo fd fme ffo ffd kn] (fun (r : Int32) (w1 : List va_W) => r = (F_X9_liesAfter fme ffo ffd kn folds).1 ∧ w1 = [walB cI w me fo fd ((F_X9_liesAfter fme ffo ffd kn folds).2.1) ((F_X9_liesAfter fme ffo ffd kn folds).2.2.1) ((F_X9_liesAfter fme ffo ffd kn folds).2.2.2.1) ((F_X9_liesAfter fme ffo ffd kn folds).2.2.2.2)]) := by
  unfold P_X9_liesAfter at hp
  refine m_start (by decide +kernel) (Nat.le_of_ble_eq_true rfl) (fun p e s m args below meth c A Q hA hQ C hr hlo => ?_)
  refine r_Le (L' := [(0, .ref w), (1, .int folds)]) rfl ?_
  refine r_aload_n C dX9_liesAfter_0 0 rfl ?_
  refine r_ws (I' := [[(w, .inr (7, [.ref me, .ref fo, .ref fd, .int kn]))], [(me, .inl (cI, 384, .inl fme))], [(fo, .inl (cI, 384, .inl ffo))], [(fd, .inl (cI, 21, .inl ffd))]]) rfl ?_
  refine r_get (Cn := RX9) (T := TX9) (N := 4) C inT9 0 rfl rfl 3 (by decide) t_209 rfl dX9_liesAfter_1 ?_
  obtain ⟨hps, hp⟩ := hp
  suffices K : ∀ x8 : Int32, x8 = ((if kn = 0 then (let x7 : Int32 := (F_X9_go fme ffo ffd kn).2.2.2; x7) else (kn))) → ∀ g9 : Nat → Int32, g9 = ((if kn = 0 then (let g4 : Nat → Int32 := (F_X9_go fme ffo ffd kn).1; g4) else (fme))) → ∀ g10 : Nat → Int32, g10 = ((if kn = 0 then (let g5 : Nat → Int32 := (F_X9_go fme ffo ffd kn).2.1; g5) else (ffo))) → ∀ g11 : Nat → Int32, g11 = ((if kn = 0 then (let g6 : Nat → Int32 := (F_X9_go fme ffo ffd kn).2.2.1; g6) else (ffd))) → V p l e (rmm 4 88) s m args below meth c 2 D A 0 0 Q [[(w, .inr (7, [.ref me, .ref fo, .ref fd, .int x8]))], [(me, .inl (cI, 384, .inl g9))], [(fo, .inl (cI, 384, .inl g10))], [(fd, .inl (cI, 21, .inl g11))]] [(0, .ref w), (1, .int folds)] 11 [] by
    have hp := hps
    refine r_if_ne (tgt := 11) C dX9_liesAfter_4 (by decide) (fun c1 => ?_) (fun c1 => ?_)
    · exact K _ (by simp only [if_neg c1]) _ (by simp only [if_neg c1]) _ (by simp only [if_neg c1]) _ (by simp only [if_neg c1])
    · have hp := hp.1 c1
      refine r_aload_n C dX9_liesAfter_7 0 rfl ?_
      refine r_ws (I' := [walB cI w me fo fd fme ffo ffd kn]) rfl ?_
      have h2 := hp
      refine r_callV (ci := 7) (wc := [walB cI w me fo fd fme ffo ffd kn]) (wr := []) (st := []) C (m_X9_go l D cI cL cP cJ w me fo fd fme ffo ffd kn h2) k_X9_go t_596 [0] (show ([0] : List Nat).Perm (List.range 1) by decide) rfl rfl rfl (q0 := 0) rfl rfl rfl (Nat.le_of_ble_eq_true rfl) ⟨Nat.le_of_ble_eq_true rfl, Nat.le_of_ble_eq_true rfl⟩ ⟨Nat.zero_le _, Nat.zero_le _⟩ dX9_liesAfter_8 (fun r3 wr3 hw3 => ?_)
      obtain rfl := hw3
      obtain ⟨g4, e_g4⟩ : ∃ z : Nat → Int32, z = (F_X9_go fme ffo ffd kn).1 := ⟨_, rfl⟩
      obtain ⟨g5, e_g5⟩ : ∃ z : Nat → Int32, z = (F_X9_go fme ffo ffd kn).2.1 := ⟨_, rfl⟩
      obtain ⟨g6, e_g6⟩ : ∃ z : Nat → Int32, z = (F_X9_go fme ffo ffd kn).2.2.1 := ⟨_, rfl⟩
      obtain ⟨x7, e_x7⟩ : ∃ z : Int32, z = (F_X9_go fme ffo ffd kn).2.2.2 := ⟨_, rfl⟩
      refine r_ws (I' := [walB cI w me fo fd g4 g5 g6 x7]) (by rw [e_g4, e_g5, e_g6, e_x7]; rfl) ?_
      refine r_ws (I' := [[(w, .inr (7, [.ref me, .ref fo, .ref fd, .int x7]))], [(me, .inl (cI, 384, .inl g4))], [(fo, .inl (cI, 384, .inl g5))], [(fd, .inl (cI, 21, .inl g6))]]) rfl ?_
      exact K _ (by have q := e_g4.symm; subst q; have q := e_g5.symm; subst q; have q := e_g6.symm; subst q; have q := e_x7.symm; subst q; simp only [if_pos c1]) _ (by have q := e_g4.symm; subst q; have q := e_g5.symm; subst q; have q := e_g6.symm; subst q; have q := e_x7.symm; subst q; simp only [if_pos c1]) _ (by have q := e_g4.symm; subst q; have q := e_g5.symm; subst q; have q := e_g6.symm; subst q; have q := e_x7.symm; subst q; simp only [if_pos c1]) _ (by have q := e_g4.symm; subst q; have q := e_g5.symm; subst q; have q := e_g6.symm; subst q; have q := e_x7.symm; subst q; simp only [if_pos c1])
  intro x8 e_x8 g9 e_g9 g10 e_g10 g11 e_g11
  have hp := hp x8 e_x8
  have hp := hp g9 e_g9
  have hp := hp g10 e_g10
  have hp := hp g11 e_g11
  refine r_iload_n C dX9_liesAfter_11 1 rfl ?_
  have hps := hp
  suffices K : ∀ x15 : Int32, x15 = ((if folds < 0 then (0) else ((if 21 ≤ folds then (0) else (g11 folds.toNatClampNeg))))) → V p l e (rmm 4 88) s m args below meth c 2 D A 0 0 Q [[(w, .inr (7, [.ref me, .ref fo, .ref fd, .int x8]))], [(me, .inl (cI, 384, .inl g9))], [(fo, .inl (cI, 384, .inl g10))], [(fd, .inl (cI, 21, .inl g11))]] [(0, .ref w), (1, .int folds)] 34 [.int x15] by
    have hp := hps
    refine r_if_lt (tgt := 33) C dX9_liesAfter_12 (by decide) (fun c12 => ?_) (fun c12 => ?_)
    · refine r_iconst (v := 0) C dX9_liesAfter_33 (by decide) ?_
      exact K _ (by simp only [if_pos c12])
    · have hp := hp.2 c12
      refine r_iload_n C dX9_liesAfter_15 1 rfl ?_
      refine r_aload_n C dX9_liesAfter_16 0 rfl ?_
      refine r_get (Cn := RX9) (T := TX9) (N := 4) C inT9 0 rfl rfl 2 (by decide) t_208 rfl dX9_liesAfter_17 ?_
      refine r_alen (v := 21) C 3 0 rfl rfl rfl dX9_liesAfter_20 ?_
      refine r_icmp_ge (tgt := 33) C dX9_liesAfter_21 (by decide) (fun c13 => ?_) (fun c13 => ?_)
      · refine r_iconst (v := 0) C dX9_liesAfter_33 (by decide) ?_
        exact K _ (by simp only [if_neg c12, if_pos c13])
      · have hp := hp.2 c13
        refine r_aload_n C dX9_liesAfter_24 0 rfl ?_
        refine r_get (Cn := RX9) (T := TX9) (N := 4) C inT9 0 rfl rfl 2 (by decide) t_208 rfl dX9_liesAfter_25 ?_
        refine r_iload_n C dX9_liesAfter_28 1 rfl ?_
        have h14 := hp
        refine r_iald (z := g11 folds.toNatClampNeg) C 3 0 rfl rfl h14 dX9_liesAfter_29 rfl ?_
        refine r_goto (tgt := 34) C dX9_liesAfter_30 (by decide) ?_
        exact K _ (by simp only [if_neg c12, if_neg c13])
  intro x15 e_x15
  refine r_ws (I' := [walB cI w me fo fd g9 g10 g11 x8]) rfl ?_
  have eF : F_X9_liesAfter fme ffo ffd kn folds = (x15, g9, g10, g11, x8) := by have q := e_x8.symm; subst q; have q := e_g9.symm; subst q; have q := e_g10.symm; subst q; have q := e_g11.symm; subst q; have q := e_x15.symm; subst q; rfl
  exact r_iret (r := x15) C hA hr hlo dX9_liesAfter_34 [walB cI w me fo fd g9 g10 g11 x8] ⟨by simp only [eF], by simp only [eF]⟩ rfl hQ
theorem k_X0_ofDouble : kS yX0_ofDouble cX0_ofDouble 7 (some .long) 1 := ⟨t_608, t_77, t_609, by decide +kernel, by decide +kernel, by decide +kernel⟩
def F_X0_ofDouble_L18  : Nat → UInt64 → Int64 → Int32 → UInt64 × Int64 × Int32
  | 0, k2, k3, y4 => (k2, k3, y4)
  | nn + 1, k2, k3, y4 => (if 1000 ≤ y4 then ((k2, k3, y4)) else ((if (Op.cmpValue (FP.dcmp k2 4611686018427387904) CmpOp.l) < 0 then ((k2, k3, y4)) else (let x8 : Int32 := y4 + 1; F_X0_ofDouble_L18 nn (FP.ddiv k2 4611686018427387904) (k3 + 1) x8))))
def P_X0_ofDouble_L18  : Nat → UInt64 → Int64 → Int32 → Prop
  | 0, _, _, _ => False
  | nn + 1, k2, k3, y4 => ((1000 ≤ y4 → True) ∧ (¬ 1000 ≤ y4 → (((Op.cmpValue (FP.dcmp k2 4611686018427387904) CmpOp.l) < 0 → True) ∧ (¬ (Op.cmpValue (FP.dcmp k2 4611686018427387904) CmpOp.l) < 0 → ((vf_n64 (FP.ddiv k2 4611686018427387904)) ∧ (∀ x8 : Int32, x8 = y4 + 1 → (P_X0_ofDouble_L18 nn (FP.ddiv k2 4611686018427387904) (k3 + 1) x8)))))))
def F_X0_ofDouble_L55  : Nat → UInt64 → Int64 → Int32 → UInt64 × Int64 × Int32
  | 0, k12, k13, y14 => (k12, k13, y14)
  | nn + 1, k12, k13, y14 => (if 1000 ≤ y14 then ((k12, k13, y14)) else ((if 0 ≤ (Op.cmpValue (FP.dcmp k12 FP.dconst1) CmpOp.g) then ((k12, k13, y14)) else (let x18 : Int32 := y14 + 1; F_X0_ofDouble_L55 nn (FP.dmul k12 4611686018427387904) (k13 - 1) x18))))
def P_X0_ofDouble_L55  : Nat → UInt64 → Int64 → Int32 → Prop
  | 0, _, _, _ => False
  | nn + 1, k12, k13, y14 => ((1000 ≤ y14 → True) ∧ (¬ 1000 ≤ y14 → ((0 ≤ (Op.cmpValue (FP.dcmp k12 FP.dconst1) CmpOp.g) → True) ∧ (¬ 0 ≤ (Op.cmpValue (FP.dcmp k12 FP.dconst1) CmpOp.g) → ((vf_n64 (FP.dmul k12 4611686018427387904)) ∧ (∀ x18 : Int32, x18 = y14 + 1 → (P_X0_ofDouble_L55 nn (FP.dmul k12 4611686018427387904) (k13 - 1) x18)))))))
set_option maxRecDepth 20000 in
def F_X0_ofDouble (u : UInt64) : Int64 := (if 0 < (Op.cmpValue (FP.dcmp u FP.dconst0) CmpOp.g) then (let f9 : UInt64 := (F_X0_ofDouble_L18 12 u 1023 0).1; let f10 : Int64 := (F_X0_ofDouble_L18 12 u 1023 0).2.1; let f19 : UInt64 := (F_X0_ofDouble_L55 12 f9 f10 0).1; let f20 : Int64 := (F_X0_ofDouble_L55 12 f9 f10 0).2.1; (f20 <<< ((52 : Int32).toInt64 &&& 63)) ||| (FP.d2l (FP.dmul (FP.dsub f19 FP.dconst1) 4841369599423283200))) else (0))
set_option maxRecDepth 20000 in
def P_X0_ofDouble (u : UInt64) : Prop := ((0 < (Op.cmpValue (FP.dcmp u FP.dconst0) CmpOp.g) → ((P_X0_ofDouble_L18 12 u 1023 0) ∧ (∀ f9 : UInt64, f9 = (F_X0_ofDouble_L18 12 u 1023 0).1 → (∀ f10 : Int64, f10 = (F_X0_ofDouble_L18 12 u 1023 0).2.1 → (∀ z11 : Int32, z11 = (F_X0_ofDouble_L18 12 u 1023 0).2.2 → ((P_X0_ofDouble_L55 12 f9 f10 0) ∧ (∀ f19 : UInt64, f19 = (F_X0_ofDouble_L55 12 f9 f10 0).1 → (∀ f20 : Int64, f20 = (F_X0_ofDouble_L55 12 f9 f10 0).2.1 → (∀ z21 : Int32, z21 = (F_X0_ofDouble_L55 12 f9 f10 0).2.2 → ((vf_n64 (FP.dsub f19 FP.dconst1)) ∧ (vf_n64 (FP.dmul (FP.dsub f19 FP.dconst1) 4841369599423283200)))))))))))) ∧ (¬ 0 < (Op.cmpValue (FP.dcmp u FP.dconst0) CmpOp.g) → True))
set_option maxRecDepth 20000 in
set_option maxHeartbeats 8000000 in
theorem m_X0_ofDouble (l : Launch) (D : va_G) (cI cL cP cJ : ClassId) (u : UInt64) (hp : P_X0_ofDouble u) : M vJ l yX0_ofDouble cX0_ofDouble 7 (some .long) 0 0 D (tyF cI cL cP cJ) [.double u] [] (fun (r : Int64) (w1 : List va_W) => r = (F_X0_ofDouble u) ∧ w1 = []) := by
  unfold P_X0_ofDouble at hp
  refine m_start (by decide +kernel) (Nat.le_of_ble_eq_true rfl) (fun p e s m args below meth c A Q hA hQ C hr hlo => ?_)
  refine r_Le (L' := [(0, .double u)]) rfl ?_
  refine r_dload_n C dX0_ofDouble_0 0 rfl ?_
  refine r_dconst0 C dX0_ofDouble_1 ?_
  refine r_dcmp C dX0_ofDouble_2 ?_
  refine r_if_gt (tgt := 8) C dX0_ofDouble_3 (by decide) (fun c1 => ?_) (fun c1 => ?_)
  · have hp := hp.1 c1
    refine r_dload_n C dX0_ofDouble_8 0 rfl ?_
    refine r_dstore_n (L' := [(2, .double u), (0, .double u)]) C dX0_ofDouble_9 (by decide) rfl ?_
    refine r_ldc2 (v := 1023) C t_610 dX0_ofDouble_10 ?_
    refine r_lstore (L' := [(4, .long 1023), (2, .double u), (0, .double u)]) C dX0_ofDouble_13 (by decide) rfl ?_
    refine r_iconst (v := 0) C dX0_ofDouble_15 (by decide) ?_
    refine r_istore (L' := [(6, .int 0), (4, .long 1023), (2, .double u), (0, .double u)]) C dX0_ofDouble_16 (by decide) rfl ?_
    obtain ⟨hpl, hp⟩ := hp
    have hL : ∀ (nn : Nat) (k2 : UInt64) (k3 : Int64) (y4 : Int32), P_X0_ofDouble_L18 nn k2 k3 y4 → (∀ f9 : UInt64, f9 = (F_X0_ofDouble_L18 nn k2 k3 y4).1 → ∀ f10 : Int64, f10 = (F_X0_ofDouble_L18 nn k2 k3 y4).2.1 → ∀ z11 : Int32, z11 = (F_X0_ofDouble_L18 nn k2 k3 y4).2.2 → V p l e (rmm 0 0) s m args below meth c 7 D A 0 0 Q [] [(6, .int z11), (4, .long f10), (2, .double f9), (0, .double u)] 52 []) → V p l e (rmm 0 0) s m args below meth c 7 D A 0 0 Q [] [(6, .int y4), (4, .long k3), (2, .double k2), (0, .double u)] 18 [] := by
      clear hpl hp
      intro nn
      induction nn with
      | zero => intro k2 k3 y4 hp kk; rw [P_X0_ofDouble_L18] at hp; exact hp.elim
      | succ nn ih =>
        intro k2 k3 y4 hp kk
        rw [P_X0_ofDouble_L18] at hp
        refine r_iload C dX0_ofDouble_18 0 rfl ?_
        refine r_sipush (v := 1000) C dX0_ofDouble_20 (by decide) ?_
        refine r_icmp_ge (tgt := 52) C dX0_ofDouble_23 (by decide) (fun c5 => ?_) (fun c5 => ?_)
        · have eF : F_X0_ofDouble_L18 (nn + 1) k2 k3 y4 = (k2, k3, y4) := by simp only [F_X0_ofDouble_L18, if_pos c5]
          exact kk _ (by rw [eF]) _ (by rw [eF]) _ (by rw [eF])
        · have hp := hp.2 c5
          refine r_dload_n C dX0_ofDouble_26 2 rfl ?_
          refine r_ldc2d (v := 4611686018427387904) C t_611 dX0_ofDouble_27 ?_
          refine r_dcmp C dX0_ofDouble_30 ?_
          refine r_if_lt (tgt := 52) C dX0_ofDouble_31 (by decide) (fun c6 => ?_) (fun c6 => ?_)
          · have eF : F_X0_ofDouble_L18 (nn + 1) k2 k3 y4 = (k2, k3, y4) := by simp only [F_X0_ofDouble_L18, if_neg c5, if_pos c6]
            exact kk _ (by rw [eF]) _ (by rw [eF]) _ (by rw [eF])
          · have hp := hp.2 c6
            refine r_dload_n C dX0_ofDouble_34 2 rfl ?_
            refine r_ldc2d (v := 4611686018427387904) C t_611 dX0_ofDouble_35 ?_
            obtain ⟨h7, hp⟩ := hp
            refine r_ddiv C dX0_ofDouble_38 h7 ?_
            refine r_dstore_n (L' := [(2, .double (FP.ddiv k2 4611686018427387904)), (6, .int y4), (4, .long k3), (0, .double u)]) C dX0_ofDouble_39 (by decide) rfl ?_
            refine r_lload C dX0_ofDouble_40 2 rfl ?_
            refine r_lconst (v := 1) C dX0_ofDouble_42 (by decide) ?_
            refine r_ladd C dX0_ofDouble_43 rfl ?_
            refine r_lstore (L' := [(4, .long (k3 + 1)), (2, .double (FP.ddiv k2 4611686018427387904)), (6, .int y4), (0, .double u)]) C dX0_ofDouble_44 (by decide) rfl ?_
            obtain ⟨x8, e_x8⟩ : ∃ z : Int32, z = y4 + 1 := ⟨_, rfl⟩
            have hp := hp x8 e_x8
            refine r_iinc (v := x8) (L' := [(6, .int x8), (4, .long (k3 + 1)), (2, .double (FP.ddiv k2 4611686018427387904)), (0, .double u)]) C dX0_ofDouble_46 2 rfl (by rw [e_x8]; exact ii (by decide)) (by decide) rfl ?_
            refine r_goto (tgt := 18) C dX0_ofDouble_49 (by decide) ?_
            have eF : F_X0_ofDouble_L18 (nn + 1) k2 k3 y4 = F_X0_ofDouble_L18 nn (FP.ddiv k2 4611686018427387904) (k3 + 1) x8 := by have q := e_x8.symm; subst q; simp only [F_X0_ofDouble_L18, if_neg c5, if_neg c6]
            exact ih (FP.ddiv k2 4611686018427387904) (k3 + 1) x8 hp (fun f9 e_f9 f10 e_f10 z11 e_z11 => kk f9 (by rw [eF]; exact e_f9) f10 (by rw [eF]; exact e_f10) z11 (by rw [eF]; exact e_z11))
    refine hL 12 u 1023 0 hpl (fun f9 e_f9 f10 e_f10 z11 e_z11 => ?_)
    clear hL hpl
    have hp := hp f9 e_f9
    have hp := hp f10 e_f10
    have hp := hp z11 e_z11
    refine r_iconst (v := 0) C dX0_ofDouble_52 (by decide) ?_
    refine r_istore (L' := [(6, .int 0), (4, .long f10), (2, .double f9), (0, .double u)]) C dX0_ofDouble_53 (by decide) rfl ?_
    obtain ⟨hpl, hp⟩ := hp
    have hL : ∀ (nn : Nat) (k12 : UInt64) (k13 : Int64) (y14 : Int32), P_X0_ofDouble_L55 nn k12 k13 y14 → (∀ f19 : UInt64, f19 = (F_X0_ofDouble_L55 nn k12 k13 y14).1 → ∀ f20 : Int64, f20 = (F_X0_ofDouble_L55 nn k12 k13 y14).2.1 → ∀ z21 : Int32, z21 = (F_X0_ofDouble_L55 nn k12 k13 y14).2.2 → V p l e (rmm 0 0) s m args below meth c 7 D A 0 0 Q [] [(6, .int z21), (4, .long f20), (2, .double f19), (0, .double u)] 87 []) → V p l e (rmm 0 0) s m args below meth c 7 D A 0 0 Q [] [(6, .int y14), (4, .long k13), (2, .double k12), (0, .double u)] 55 [] := by
      clear hpl hp
      intro nn
      induction nn with
      | zero => intro k12 k13 y14 hp kk; rw [P_X0_ofDouble_L55] at hp; exact hp.elim
      | succ nn ih =>
        intro k12 k13 y14 hp kk
        rw [P_X0_ofDouble_L55] at hp
        refine r_iload C dX0_ofDouble_55 0 rfl ?_
        refine r_sipush (v := 1000) C dX0_ofDouble_57 (by decide) ?_
        refine r_icmp_ge (tgt := 87) C dX0_ofDouble_60 (by decide) (fun c15 => ?_) (fun c15 => ?_)
        · have eF : F_X0_ofDouble_L55 (nn + 1) k12 k13 y14 = (k12, k13, y14) := by simp only [F_X0_ofDouble_L55, if_pos c15]
          exact kk _ (by rw [eF]) _ (by rw [eF]) _ (by rw [eF])
        · have hp := hp.2 c15
          refine r_dload_n C dX0_ofDouble_63 2 rfl ?_
          refine r_dconst1 C dX0_ofDouble_64 ?_
          refine r_dcmp C dX0_ofDouble_65 ?_
          refine r_if_ge (tgt := 87) C dX0_ofDouble_66 (by decide) (fun c16 => ?_) (fun c16 => ?_)
          · have eF : F_X0_ofDouble_L55 (nn + 1) k12 k13 y14 = (k12, k13, y14) := by simp only [F_X0_ofDouble_L55, if_neg c15, if_pos c16]
            exact kk _ (by rw [eF]) _ (by rw [eF]) _ (by rw [eF])
          · have hp := hp.2 c16
            refine r_dload_n C dX0_ofDouble_69 2 rfl ?_
            refine r_ldc2d (v := 4611686018427387904) C t_611 dX0_ofDouble_70 ?_
            obtain ⟨h17, hp⟩ := hp
            refine r_dmul C dX0_ofDouble_73 h17 ?_
            refine r_dstore_n (L' := [(2, .double (FP.dmul k12 4611686018427387904)), (6, .int y14), (4, .long k13), (0, .double u)]) C dX0_ofDouble_74 (by decide) rfl ?_
            refine r_lload C dX0_ofDouble_75 2 rfl ?_
            refine r_lconst (v := 1) C dX0_ofDouble_77 (by decide) ?_
            refine r_lsub C dX0_ofDouble_78 rfl ?_
            refine r_lstore (L' := [(4, .long (k13 - 1)), (2, .double (FP.dmul k12 4611686018427387904)), (6, .int y14), (0, .double u)]) C dX0_ofDouble_79 (by decide) rfl ?_
            obtain ⟨x18, e_x18⟩ : ∃ z : Int32, z = y14 + 1 := ⟨_, rfl⟩
            have hp := hp x18 e_x18
            refine r_iinc (v := x18) (L' := [(6, .int x18), (4, .long (k13 - 1)), (2, .double (FP.dmul k12 4611686018427387904)), (0, .double u)]) C dX0_ofDouble_81 2 rfl (by rw [e_x18]; exact ii (by decide)) (by decide) rfl ?_
            refine r_goto (tgt := 55) C dX0_ofDouble_84 (by decide) ?_
            have eF : F_X0_ofDouble_L55 (nn + 1) k12 k13 y14 = F_X0_ofDouble_L55 nn (FP.dmul k12 4611686018427387904) (k13 - 1) x18 := by have q := e_x18.symm; subst q; simp only [F_X0_ofDouble_L55, if_neg c15, if_neg c16]
            exact ih (FP.dmul k12 4611686018427387904) (k13 - 1) x18 hp (fun f19 e_f19 f20 e_f20 z21 e_z21 => kk f19 (by rw [eF]; exact e_f19) f20 (by rw [eF]; exact e_f20) z21 (by rw [eF]; exact e_z21))
    refine hL 12 f9 f10 0 hpl (fun f19 e_f19 f20 e_f20 z21 e_z21 => ?_)
    clear hL hpl
    have hp := hp f19 e_f19
    have hp := hp f20 e_f20
    have hp := hp z21 e_z21
    refine r_lload C dX0_ofDouble_87 1 rfl ?_
    refine r_bipush (v := 52) C dX0_ofDouble_89 (by decide) ?_
    refine r_lshl C dX0_ofDouble_91 rfl ?_
    refine r_dload_n C dX0_ofDouble_92 2 rfl ?_
    refine r_dconst1 C dX0_ofDouble_93 ?_
    obtain ⟨h22, hp⟩ := hp
    refine r_dsub C dX0_ofDouble_94 h22 ?_
    refine r_ldc2d (v := 4841369599423283200) C t_612 dX0_ofDouble_95 ?_
    have h23 := hp
    refine r_dmul C dX0_ofDouble_98 h23 ?_
    refine r_d2l C dX0_ofDouble_99 ?_
    refine r_lor C dX0_ofDouble_100 rfl ?_
    have eF : F_X0_ofDouble u = (f20 <<< ((52 : Int32).toInt64 &&& 63)) ||| (FP.d2l (FP.dmul (FP.dsub f19 FP.dconst1) 4841369599423283200)) := by have q := e_f9.symm; subst q; have q := e_f10.symm; subst q; have q := e_z11.symm; subst q; have q := e_f19.symm; subst q; have q := e_f20.symm; subst q; have q := e_z21.symm; subst q; simp only [F_X0_ofDouble, if_pos c1]
    exact r_lret (r := (f20 <<< ((52 : Int32).toInt64 &&& 63)) ||| (FP.d2l (FP.dmul (FP.dsub f19 FP.dconst1) 4841369599423283200))) C hA hr hlo dX0_ofDouble_101 [] ⟨by simp only [eF], rfl⟩ rfl hQ
  · refine r_lconst (v := 0) C dX0_ofDouble_6 (by decide) ?_
    have eF : F_X0_ofDouble u = 0 := by simp only [F_X0_ofDouble, if_neg c1]
    exact r_lret (r := 0) C hA hr hlo dX0_ofDouble_7 [] ⟨by simp only [eF], rfl⟩ rfl hQ
theorem k_X0_ofFloat : kS yX0_ofFloat cX0_ofFloat 9 (some .int) 1 := ⟨t_615, t_77, t_616, by decide +kernel, by decide +kernel, by decide +kernel⟩
set_option maxRecDepth 20000 in
def F_X0_ofFloat (u : UInt32) : Int32 := let r3 : Int64 := F_X0_ofDouble (FP.f2d u); (if (lg_cmp r3 0) = 0 then (0) else ((((((r3 >>> ((52 : Int32).toInt64 &&& 63)) - 1023) + 127) <<< ((23 : Int32).toInt64 &&& 63)) ||| ((r3 >>> ((29 : Int32).toInt64 &&& 63)) &&& 8388607)).toInt32))
set_option maxRecDepth 20000 in
def P_X0_ofFloat (u : UInt32) : Prop := ((vf_n64 (FP.f2d u)) ∧ (P_X0_ofDouble (FP.f2d u)))
set_option maxRecDepth 20000 in
set_option maxHeartbeats 8000000 in
theorem m_X0_ofFloat (l : Launch) (D : va_G) (cI cL cP cJ : ClassId) (u : UInt32) (hp : P_X0_ofFloat u) : M vI l yX0_ofFloat cX0_ofFloat 9 (some .int) 1 26 D (tyF cI cL cP cJ) [.float u] [] (fun (r : Int32) (w1 : List va_W) => r = (F_X0_ofFloat u) ∧ w1 = []) := by
  unfold P_X0_ofFloat at hp
  refine m_start (by decide +kernel) (Nat.le_of_ble_eq_true rfl) (fun p e s m args below meth c A Q hA hQ C hr hlo => ?_)
  refine r_Le (L' := [(0, .float u)]) rfl ?_
  refine r_fload_n C dX0_ofFloat_0 0 rfl ?_
  obtain ⟨h1, hp⟩ := hp
  refine r_f2d C dX0_ofFloat_1 h1 ?_
  have h2 := hp
  refine r_callS (wc := []) (wr := []) (st := []) C (m_X0_ofDouble l D cI cL cP cJ (FP.f2d u) h2) k_X0_ofDouble t_617 [] (show ([] : List Nat).Perm (List.range 0) by decide) rfl rfl rfl (Nat.le_of_ble_eq_true rfl) ⟨Nat.le_of_ble_eq_true rfl, Nat.le_of_ble_eq_true rfl⟩ ⟨Nat.zero_le _, Nat.zero_le _⟩ dX0_ofFloat_2 (fun r3 wr3 hw3 => ?_)
  obtain ⟨e_r3, rfl⟩ := hw3
  refine r_ws (I' := []) rfl ?_
  refine r_lstore_n (L' := [(1, .long r3), (0, .float u)]) C dX0_ofFloat_5 (by decide) rfl ?_
  refine r_lload_n C dX0_ofFloat_6 0 rfl ?_
  refine r_lconst (v := 0) C dX0_ofFloat_7 (by decide) ?_
  refine r_lcmp C dX0_ofFloat_8 ?_
  refine r_if_ne (tgt := 14) C dX0_ofFloat_9 (by decide) (fun c4 => ?_) (fun c4 => ?_)
  · refine r_lload_n C dX0_ofFloat_14 0 rfl ?_
    refine r_bipush (v := 52) C dX0_ofFloat_15 (by decide) ?_
    refine r_lshr C dX0_ofFloat_17 rfl ?_
    refine r_ldc2 (v := 1023) C t_610 dX0_ofFloat_18 ?_
    refine r_lsub C dX0_ofFloat_21 rfl ?_
    refine r_ldc2 (v := 127) C t_618 dX0_ofFloat_22 ?_
    refine r_ladd C dX0_ofFloat_25 rfl ?_
    refine r_lstore_n (L' := [(3, .long (((r3 >>> ((52 : Int32).toInt64 &&& 63)) - 1023) + 127)), (1, .long r3), (0, .float u)]) C dX0_ofFloat_26 (by decide) rfl ?_
    refine r_ldc2 (v := 8388607) C t_619 dX0_ofFloat_27 ?_
    refine r_lstore (L' := [(5, .long 8388607), (3, .long (((r3 >>> ((52 : Int32).toInt64 &&& 63)) - 1023) + 127)), (1, .long r3), (0, .float u)]) C dX0_ofFloat_30 (by decide) rfl ?_
    refine r_lload_n C dX0_ofFloat_32 2 rfl ?_
    refine r_bipush (v := 29) C dX0_ofFloat_33 (by decide) ?_
    refine r_lshr C dX0_ofFloat_35 rfl ?_
    refine r_lload C dX0_ofFloat_36 0 rfl ?_
    refine r_land C dX0_ofFloat_38 rfl ?_
    refine r_lstore (L' := [(7, .long ((r3 >>> ((29 : Int32).toInt64 &&& 63)) &&& 8388607)), (5, .long 8388607), (3, .long (((r3 >>> ((52 : Int32).toInt64 &&& 63)) - 1023) + 127)), (1, .long r3), (0, .float u)]) C dX0_ofFloat_39 (by decide) rfl ?_
    refine r_lload_n C dX0_ofFloat_41 2 rfl ?_
    refine r_bipush (v := 23) C dX0_ofFloat_42 (by decide) ?_
    refine r_lshl C dX0_ofFloat_44 rfl ?_
    refine r_lload C dX0_ofFloat_45 0 rfl ?_
    refine r_lor C dX0_ofFloat_47 rfl ?_
    refine r_l2i C dX0_ofFloat_48 rfl ?_
    have eF : F_X0_ofFloat u = (((((r3 >>> ((52 : Int32).toInt64 &&& 63)) - 1023) + 127) <<< ((23 : Int32).toInt64 &&& 63)) ||| ((r3 >>> ((29 : Int32).toInt64 &&& 63)) &&& 8388607)).toInt32 := by have q := e_r3.symm; subst q; simp only [F_X0_ofFloat, if_neg c4]
    exact r_iret (r := (((((r3 >>> ((52 : Int32).toInt64 &&& 63)) - 1023) + 127) <<< ((23 : Int32).toInt64 &&& 63)) ||| ((r3 >>> ((29 : Int32).toInt64 &&& 63)) &&& 8388607)).toInt32) C hA hr hlo dX0_ofFloat_49 [] ⟨by simp only [eF], rfl⟩ rfl hQ
  · refine r_iconst (v := 0) C dX0_ofFloat_12 (by decide) ?_
    have eF : F_X0_ofFloat u = 0 := by have q := e_r3.symm; subst q; simp only [F_X0_ofFloat, if_pos c4]
    exact r_iret (r := 0) C hA hr hlo dX0_ofFloat_13 [] ⟨by simp only [eF], rfl⟩ rfl hQ

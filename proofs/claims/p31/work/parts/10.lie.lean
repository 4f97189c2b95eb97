abbrev tyF (cI cL cP cJ : ClassId) : List (ClassId × FieldType) := [(cI, .int), (cL, .object "FoldedLetters$Letter"), (cP, .object "FoldedLetters$Pile")]
theorem k_X3_layerAt : kS yX3_layerAt cX3_layerAt 4 (some .int) 2 := ⟨t_197, t_20, t_198, by decide +kernel, by decide +kernel, by decide +kernel⟩
set_option maxRecDepth 20000 in
def F_X3_layerAt (lie : Int32) (i : Int32) : Int32 := let x1 : Int32 := (lie >>> (((3 : Int32) * i) &&& 31)) &&& 7; let x2 : Int32 := (x1 &&& (-5)) + 1; let x4 : Int32 := (if (x1 &&& 4) = 0 then (x2) else (-x2)); x4
set_option maxRecDepth 20000 in
set_option maxHeartbeats 8000000 in
theorem m_X3_layerAt (l : Launch) (D : va_G) (cI cL cP cJ : ClassId) (lie : Int32) (i : Int32) : M vI l yX3_layerAt cX3_layerAt 4 (some .int) 0 0 D (tyF cI cL cP cJ) [.int lie, .int i] [] (fun (r : Int32) (w1 : List va_W) => r = (F_X3_layerAt lie i) ∧ w1 = []) := by
  refine m_start (by decide +kernel) (Nat.le_of_ble_eq_true rfl) (fun p e s m args below meth c A Q hA hQ C hr hlo => ?_)
  refine r_Le (L' := [(0, .int lie), (1, .int i)]) rfl ?_
  refine r_iload_n C dX3_layerAt_0 0 rfl ?_
  refine r_iconst (v := 3) C dX3_layerAt_1 (by decide) ?_
  refine r_iload_n C dX3_layerAt_2 1 rfl ?_
  refine r_imul C dX3_layerAt_3 rfl ?_
  refine r_ishr C dX3_layerAt_4 rfl ?_
  refine r_bipush (v := 7) C dX3_layerAt_5 (by decide) ?_
  refine r_iand C dX3_layerAt_7 rfl ?_
  refine r_top (fun x1 e_x1 => ?_)
  refine r_istore_n (L' := [(2, .int x1), (0, .int lie), (1, .int i)]) C dX3_layerAt_8 (by decide) rfl ?_
  refine r_iload_n C dX3_layerAt_9 0 rfl ?_
  refine r_bipush (v := (-5)) C dX3_layerAt_10 (by decide) ?_
  refine r_iand C dX3_layerAt_12 rfl ?_
  refine r_iconst (v := 1) C dX3_layerAt_13 (by decide) ?_
  refine r_iadd C dX3_layerAt_14 rfl ?_
  refine r_top (fun x2 e_x2 => ?_)
  refine r_istore_n (L' := [(3, .int x2), (2, .int x1), (0, .int lie), (1, .int i)]) C dX3_layerAt_15 (by decide) rfl ?_
  refine r_iload_n C dX3_layerAt_16 1 rfl ?_
  refine r_iconst (v := 4) C dX3_layerAt_17 (by decide) ?_
  refine r_iand C dX3_layerAt_18 rfl ?_
  suffices K : ∀ x4 : Int32, x4 = ((if (x1 &&& 4) = 0 then (x2) else (-x2))) → V p l e (rmm 0 0) s m args below meth c 4 D A 0 0 Q [] [(3, .int x2), (2, .int x1), (0, .int lie), (1, .int i)] 28 [.int x4] by
    refine r_if_ne (tgt := 26) C dX3_layerAt_19 (by decide) (fun c3 => ?_) (fun c3 => ?_)
    · refine r_iload_n C dX3_layerAt_26 0 rfl ?_
      refine r_ineg C dX3_layerAt_27 rfl ?_
      exact K _ (by simp only [if_neg c3])
    · refine r_iload_n C dX3_layerAt_22 0 rfl ?_
      refine r_goto (tgt := 28) C dX3_layerAt_23 (by decide) ?_
      exact K _ (by simp only [if_pos c3])
  intro x4 e_x4
  have eF : F_X3_layerAt lie i = x4 := by have q := e_x1.symm; subst q; have q := e_x2.symm; subst q; have q := e_x4.symm; subst q; rfl
  exact r_iret (r := x4) C hA hr hlo dX3_layerAt_28 [] ⟨by simp only [eF], rfl⟩ rfl hQ
theorem k_X3_fieldOf : kS yX3_fieldOf cX3_fieldOf 3 (some .int) 2 := ⟨t_225, t_20, t_226, by decide +kernel, by decide +kernel, by decide +kernel⟩
set_option maxRecDepth 20000 in
def F_X3_fieldOf (y : Int32) (i : Int32) : Int32 := let x2 : Int32 := (if 0 ≤ y then (y - 1) else (((-y) - 1) ||| 4)); x2 <<< (((3 : Int32) * i) &&& 31)
set_option maxRecDepth 20000 in
set_option maxHeartbeats 8000000 in
theorem m_X3_fieldOf (l : Launch) (D : va_G) (cI cL cP cJ : ClassId) (y : Int32) (i : Int32) : M vI l yX3_fieldOf cX3_fieldOf 3 (some .int) 0 0 D (tyF cI cL cP cJ) [.int y, .int i] [] (fun (r : Int32) (w1 : List va_W) => r = (F_X3_fieldOf y i) ∧ w1 = []) := by
  refine m_start (by decide +kernel) (Nat.le_of_ble_eq_true rfl) (fun p e s m args below meth c A Q hA hQ C hr hlo => ?_)
  refine r_Le (L' := [(0, .int y), (1, .int i)]) rfl ?_
  refine r_iload_n C dX3_fieldOf_0 0 rfl ?_
  suffices K : ∀ x2 : Int32, x2 = ((if 0 ≤ y then (y - 1) else (((-y) - 1) ||| 4))) → V p l e (rmm 0 0) s m args below meth c 3 D A 0 0 Q [] [(0, .int y), (1, .int i)] 16 [.int x2] by
    refine r_if_ge (tgt := 13) C dX3_fieldOf_1 (by decide) (fun c1 => ?_) (fun c1 => ?_)
    · refine r_iload_n C dX3_fieldOf_13 0 rfl ?_
      refine r_iconst (v := 1) C dX3_fieldOf_14 (by decide) ?_
      refine r_isub C dX3_fieldOf_15 rfl ?_
      exact K _ (by simp only [if_pos c1])
    · refine r_iload_n C dX3_fieldOf_4 0 rfl ?_
      refine r_ineg C dX3_fieldOf_5 rfl ?_
      refine r_iconst (v := 1) C dX3_fieldOf_6 (by decide) ?_
      refine r_isub C dX3_fieldOf_7 rfl ?_
      refine r_iconst (v := 4) C dX3_fieldOf_8 (by decide) ?_
      refine r_ior C dX3_fieldOf_9 rfl ?_
      refine r_goto (tgt := 16) C dX3_fieldOf_10 (by decide) ?_
      exact K _ (by simp only [if_neg c1])
  intro x2 e_x2
  refine r_istore_n (L' := [(2, .int x2), (0, .int y), (1, .int i)]) C dX3_fieldOf_16 (by decide) rfl ?_
  refine r_iload_n C dX3_fieldOf_17 0 rfl ?_
  refine r_iconst (v := 3) C dX3_fieldOf_18 (by decide) ?_
  refine r_iload_n C dX3_fieldOf_19 2 rfl ?_
  refine r_imul C dX3_fieldOf_20 rfl ?_
  refine r_ishl C dX3_fieldOf_21 rfl ?_
  have eF : F_X3_fieldOf y i = x2 <<< (((3 : Int32) * i) &&& 31) := by have q := e_x2.symm; subst q; rfl
  exact r_iret (r := x2 <<< (((3 : Int32) * i) &&& 31)) C hA hr hlo dX3_fieldOf_22 [] ⟨by simp only [eF], rfl⟩ rfl hQ
theorem k_X3_isHome : kS yX3_isHome cX3_isHome 2 (some .boolean) 2 := ⟨t_626, t_20, t_627, by decide +kernel, by decide +kernel, by decide +kernel⟩
set_option maxRecDepth 20000 in
def F_X3_isHome (lie : Int32) (i : Int32) : Int32 := let r1 : Int32 := F_X3_layerAt lie i; let x3 : Int32 := (if r1 = (i + 1) then (1) else (0)); x3
set_option maxRecDepth 20000 in
set_option maxHeartbeats 8000000 in
theorem m_X3_isHome (l : Launch) (D : va_G) (cI cL cP cJ : ClassId) (lie : Int32) (i : Int32) : M vI l yX3_isHome cX3_isHome 2 (some .boolean) 1 23 D (tyF cI cL cP cJ) [.int lie, .int i] [] (fun (r : Int32) (w1 : List va_W) => r = (F_X3_isHome lie i) ∧ w1 = []) := by
  refine m_start (by decide +kernel) (Nat.le_of_ble_eq_true rfl) (fun p e s m args below meth c A Q hA hQ C hr hlo => ?_)
  refine r_Le (L' := [(0, .int lie), (1, .int i)]) rfl ?_
  refine r_iload_n C dX3_isHome_0 0 rfl ?_
  refine r_iload_n C dX3_isHome_1 1 rfl ?_
  refine r_callS (wc := []) (wr := []) (st := []) C (m_X3_layerAt l D cI cL cP cJ lie i) k_X3_layerAt t_196 [] (show ([] : List Nat).Perm (List.range 0) by decide) rfl rfl rfl (Nat.le_of_ble_eq_true rfl) ⟨Nat.le_of_ble_eq_true rfl, Nat.le_of_ble_eq_true rfl⟩ ⟨Nat.zero_le _, Nat.zero_le _⟩ dX3_isHome_2 (fun r1 wr1 hw1 => ?_)
  obtain ⟨e_r1, rfl⟩ := hw1
  refine r_ws (I' := []) rfl ?_
  refine r_iload_n C dX3_isHome_5 1 rfl ?_
  refine r_iconst (v := 1) C dX3_isHome_6 (by decide) ?_
  refine r_iadd C dX3_isHome_7 rfl ?_
  suffices K : ∀ x3 : Int32, x3 = ((if r1 = (i + 1) then (1) else (0))) → V p l e (rmm 1 23) s m args below meth c 2 D A 0 0 Q [] [(0, .int lie), (1, .int i)] 16 [.int x3] by
    refine r_icmp_ne (tgt := 15) C dX3_isHome_8 (by decide) (fun c2 => ?_) (fun c2 => ?_)
    · refine r_iconst (v := 0) C dX3_isHome_15 (by decide) ?_
      exact K _ (by simp only [if_neg c2])
    · refine r_iconst (v := 1) C dX3_isHome_11 (by decide) ?_
      refine r_goto (tgt := 16) C dX3_isHome_12 (by decide) ?_
      exact K _ (by simp only [if_pos c2])
  intro x3 e_x3
  have eF : F_X3_isHome lie i = x3 := by have q := e_r1.symm; subst q; have q := e_x3.symm; subst q; rfl
  exact r_zret (r := x3) C hA hr hlo (nb01 (by first | (rw [e_x3]; (try dsimp only); ((repeat' split) <;> (first | exact Or.inl rfl | exact Or.inr rfl))) | (have q := e_r1.symm; subst q; have q := e_x3.symm; subst q; (try dsimp only); ((repeat' split) <;> (first | exact Or.inl rfl | exact Or.inr rfl))))) dX3_isHome_16 [] ⟨by simp only [eF], rfl⟩ rfl hQ
theorem k_X3_folded : kS yX3_folded cX3_folded 5 (some .int) 2 := ⟨t_209, t_20, t_210, by decide +kernel, by decide +kernel, by decide +kernel⟩
set_option maxRecDepth 20000 in
def F_X3_folded (lie : Int32) (i : Int32) : Int32 := (if i = 0 then (lie ^^^ 4) else (let x2 : Int32 := (3 : Int32) * (i - 1); let x3 : Int32 := (3 : Int32) * i; let x4 : Int32 := ((lie >>> (x2 &&& 31)) ^^^ (lie >>> (x3 &&& 31))) &&& 7; (lie ^^^ (x4 <<< (x2 &&& 31))) ^^^ (x4 <<< (x3 &&& 31))))
set_option maxRecDepth 20000 in
set_option maxHeartbeats 8000000 in
theorem m_X3_folded (l : Launch) (D : va_G) (cI cL cP cJ : ClassId) (lie : Int32) (i : Int32) : M vI l yX3_folded cX3_folded 5 (some .int) 0 0 D (tyF cI cL cP cJ) [.int lie, .int i] [] (fun (r : Int32) (w1 : List va_W) => r = (F_X3_folded lie i) ∧ w1 = []) := by
  refine m_start (by decide +kernel) (Nat.le_of_ble_eq_true rfl) (fun p e s m args below meth c A Q hA hQ C hr hlo => ?_)
  refine r_Le (L' := [(0, .int lie), (1, .int i)]) rfl ?_
  refine r_iload_n C dX3_folded_0 1 rfl ?_
  refine r_if_ne (tgt := 8) C dX3_folded_1 (by decide) (fun c1 => ?_) (fun c1 => ?_)
  · refine r_iconst (v := 3) C dX3_folded_8 (by decide) ?_
    refine r_iload_n C dX3_folded_9 1 rfl ?_
    refine r_iconst (v := 1) C dX3_folded_10 (by decide) ?_
    refine r_isub C dX3_folded_11 rfl ?_
    refine r_imul C dX3_folded_12 rfl ?_
    refine r_top (fun x2 e_x2 => ?_)
    refine r_istore_n (L' := [(2, .int x2), (0, .int lie), (1, .int i)]) C dX3_folded_13 (by decide) rfl ?_
    refine r_iconst (v := 3) C dX3_folded_14 (by decide) ?_
    refine r_iload_n C dX3_folded_15 2 rfl ?_
    refine r_imul C dX3_folded_16 rfl ?_
    refine r_top (fun x3 e_x3 => ?_)
    refine r_istore_n (L' := [(3, .int x3), (2, .int x2), (0, .int lie), (1, .int i)]) C dX3_folded_17 (by decide) rfl ?_
    refine r_iload_n C dX3_folded_18 2 rfl ?_
    refine r_iload_n C dX3_folded_19 1 rfl ?_
    refine r_ishr C dX3_folded_20 rfl ?_
    refine r_iload_n C dX3_folded_21 2 rfl ?_
    refine r_iload_n C dX3_folded_22 0 rfl ?_
    refine r_ishr C dX3_folded_23 rfl ?_
    refine r_ixor C dX3_folded_24 rfl ?_
    refine r_bipush (v := 7) C dX3_folded_25 (by decide) ?_
    refine r_iand C dX3_folded_27 rfl ?_
    refine r_top (fun x4 e_x4 => ?_)
    refine r_istore (L' := [(4, .int x4), (3, .int x3), (2, .int x2), (0, .int lie), (1, .int i)]) C dX3_folded_28 (by decide) rfl ?_
    refine r_iload_n C dX3_folded_30 3 rfl ?_
    refine r_iload C dX3_folded_31 0 rfl ?_
    refine r_iload_n C dX3_folded_33 2 rfl ?_
    refine r_ishl C dX3_folded_34 rfl ?_
    refine r_ixor C dX3_folded_35 rfl ?_
    refine r_iload C dX3_folded_36 0 rfl ?_
    refine r_iload_n C dX3_folded_38 1 rfl ?_
    refine r_ishl C dX3_folded_39 rfl ?_
    refine r_ixor C dX3_folded_40 rfl ?_
    have eF : F_X3_folded lie i = (lie ^^^ (x4 <<< (x2 &&& 31))) ^^^ (x4 <<< (x3 &&& 31)) := by have q := e_x2.symm; subst q; have q := e_x3.symm; subst q; have q := e_x4.symm; subst q; simp only [F_X3_folded, if_neg c1]
    exact r_iret (r := (lie ^^^ (x4 <<< (x2 &&& 31))) ^^^ (x4 <<< (x3 &&& 31))) C hA hr hlo dX3_folded_41 [] ⟨by simp only [eF], rfl⟩ rfl hQ
  · refine r_iload_n C dX3_folded_4 0 rfl ?_
    refine r_iconst (v := 4) C dX3_folded_5 (by decide) ?_
    refine r_ixor C dX3_folded_6 rfl ?_
    have eF : F_X3_folded lie i = lie ^^^ 4 := by simp only [F_X3_folded, if_pos c1]
    exact r_iret (r := lie ^^^ 4) C hA hr hlo dX3_folded_7 [] ⟨by simp only [eF], rfl⟩ rfl hQ
theorem k_X3_joined : kS yX3_joined cX3_joined 6 (some .int) 2 := ⟨t_219, t_20, t_220, by decide +kernel, by decide +kernel, by decide +kernel⟩
set_option maxRecDepth 20000 in
def F_X3_joined (u : Int32) (w : Int32) : Int32 := let r1 : Int32 := F_X3_layerAt w 0; let r2 : Int32 := F_X3_layerAt u ((if 0 ≤ r1 then r1 else 0 - r1) - 1); let x4 : Int32 := (if 0 ≤ r1 then (r2) else (-r2)); let r5 : Int32 := F_X3_fieldOf x4 0; let x6 : Int32 := (0 : Int32) ||| r5; let r7 : Int32 := F_X3_layerAt w 1; let r8 : Int32 := F_X3_layerAt u ((if 0 ≤ r7 then r7 else 0 - r7) - 1); let x10 : Int32 := (if 0 ≤ r7 then (r8) else (-r8)); let r11 : Int32 := F_X3_fieldOf x10 1; let x12 : Int32 := x6 ||| r11; let r13 : Int32 := F_X3_layerAt w 2; let r14 : Int32 := F_X3_layerAt u ((if 0 ≤ r13 then r13 else 0 - r13) - 1); let x16 : Int32 := (if 0 ≤ r13 then (r14) else (-r14)); let r17 : Int32 := F_X3_fieldOf x16 2; let x18 : Int32 := x12 ||| r17; let r19 : Int32 := F_X3_layerAt w 3; let r20 : Int32 := F_X3_layerAt u ((if 0 ≤ r19 then r19 else 0 - r19) - 1); let x22 : Int32 := (if 0 ≤ r19 then (r20) else (-r20)); let r23 : Int32 := F_X3_fieldOf x22 3; let x24 : Int32 := x18 ||| r23; x24
set_option maxRecDepth 20000 in
set_option maxHeartbeats 8000000 in
theorem m_X3_joined (l : Launch) (D : va_G) (cI cL cP cJ : ClassId) (u : Int32) (w : Int32) : M vI l yX3_joined cX3_joined 6 (some .int) 1 23 D (tyF cI cL cP cJ) [.int u, .int w] [] (fun (r : Int32) (w1 : List va_W) => r = (F_X3_joined u w) ∧ w1 = []) := by
  refine m_start (by decide +kernel) (Nat.le_of_ble_eq_true rfl) (fun p e s m args below meth c A Q hA hQ C hr hlo => ?_)
  refine r_Le (L' := [(0, .int u), (1, .int w)]) rfl ?_
  refine r_iconst (v := 0) C dX3_joined_0 (by decide) ?_
  refine r_istore_n (L' := [(2, .int 0), (0, .int u), (1, .int w)]) C dX3_joined_1 (by decide) rfl ?_
  refine r_iconst (v := 0) C dX3_joined_2 (by decide) ?_
  refine r_istore_n (L' := [(3, .int 0), (2, .int 0), (0, .int u), (1, .int w)]) C dX3_joined_3 (by decide) rfl ?_
  refine r_iload_n C dX3_joined_4 0 rfl ?_
  refine r_iconst (v := 4) C dX3_joined_5 (by decide) ?_
  refine r_icmp_ge (tgt := 55) C dX3_joined_6 (by decide) (fun c => absurd c (by decide)) (fun _ => ?_)
  refine r_iload_n C dX3_joined_9 3 rfl ?_
  refine r_iload_n C dX3_joined_10 0 rfl ?_
  refine r_callS (wc := []) (wr := []) (st := []) C (m_X3_layerAt l D cI cL cP cJ w 0) k_X3_layerAt t_196 [] (show ([] : List Nat).Perm (List.range 0) by decide) rfl rfl rfl (Nat.le_of_ble_eq_true rfl) ⟨Nat.le_of_ble_eq_true rfl, Nat.le_of_ble_eq_true rfl⟩ ⟨Nat.zero_le _, Nat.zero_le _⟩ dX3_joined_11 (fun r1 wr1 hw1 => ?_)
  obtain ⟨e_r1, rfl⟩ := hw1
  refine r_ws (I' := []) rfl ?_
  refine r_istore (L' := [(4, .int r1), (3, .int 0), (2, .int 0), (0, .int u), (1, .int w)]) C dX3_joined_14 (by decide) rfl ?_
  refine r_iload_n C dX3_joined_16 3 rfl ?_
  refine r_iload C dX3_joined_17 0 rfl ?_
  refine r_mabs C t_221 t_222 t_22 t_223 (Nat.le_of_ble_eq_true rfl) (Nat.le_of_ble_eq_true rfl) (Nat.zero_le _) (Nat.zero_le _) dX3_joined_19 rfl ?_
  refine r_iconst (v := 1) C dX3_joined_22 (by decide) ?_
  refine r_isub C dX3_joined_23 rfl ?_
  refine r_callS (wc := []) (wr := []) (st := []) C (m_X3_layerAt l D cI cL cP cJ u ((if 0 ≤ r1 then r1 else 0 - r1) - 1)) k_X3_layerAt t_196 [] (show ([] : List Nat).Perm (List.range 0) by decide) rfl rfl rfl (Nat.le_of_ble_eq_true rfl) ⟨Nat.le_of_ble_eq_true rfl, Nat.le_of_ble_eq_true rfl⟩ ⟨Nat.zero_le _, Nat.zero_le _⟩ dX3_joined_24 (fun r2 wr2 hw2 => ?_)
  obtain ⟨e_r2, rfl⟩ := hw2
  refine r_ws (I' := []) rfl ?_
  refine r_istore (L' := [(5, .int r2), (4, .int r1), (3, .int 0), (2, .int 0), (0, .int u), (1, .int w)]) C dX3_joined_27 (by decide) rfl ?_
  refine r_iload_n C dX3_joined_29 3 rfl ?_
  refine r_iload C dX3_joined_30 1 rfl ?_
  suffices K : ∀ x4 : Int32, x4 = ((if 0 ≤ r1 then (r2) else (-r2))) → V p l e (rmm 1 23) s m args below meth c 6 D A 0 0 Q [] [(5, .int r2), (4, .int r1), (3, .int 0), (2, .int 0), (0, .int u), (1, .int w)] 43 [.int x4, .int 0] by
    refine r_if_ge (tgt := 41) C dX3_joined_32 (by decide) (fun c3 => ?_) (fun c3 => ?_)
    · refine r_iload C dX3_joined_41 0 rfl ?_
      exact K _ (by simp only [if_pos c3])
    · refine r_iload C dX3_joined_35 0 rfl ?_
      refine r_ineg C dX3_joined_37 rfl ?_
      refine r_goto (tgt := 43) C dX3_joined_38 (by decide) ?_
      exact K _ (by simp only [if_neg c3])
  intro x4 e_x4
  refine r_iload_n C dX3_joined_43 2 rfl ?_
  refine r_callS (wc := []) (wr := []) (st := [.int 0]) C (m_X3_fieldOf l D cI cL cP cJ x4 0) k_X3_fieldOf t_224 [] (show ([] : List Nat).Perm (List.range 0) by decide) rfl rfl rfl (Nat.le_of_ble_eq_true rfl) ⟨Nat.le_of_ble_eq_true rfl, Nat.le_of_ble_eq_true rfl⟩ ⟨Nat.zero_le _, Nat.zero_le _⟩ dX3_joined_44 (fun r5 wr5 hw5 => ?_)
  obtain ⟨e_r5, rfl⟩ := hw5
  refine r_ws (I' := []) rfl ?_
  refine r_ior C dX3_joined_47 rfl ?_
  refine r_top (fun x6 e_x6 => ?_)
  refine r_istore_n (L' := [(2, .int x6), (5, .int r2), (4, .int r1), (3, .int 0), (0, .int u), (1, .int w)]) C dX3_joined_48 (by decide) rfl ?_
  refine r_iinc (v := 1) (L' := [(3, .int 1), (2, .int x6), (5, .int r2), (4, .int r1), (0, .int u), (1, .int w)]) C dX3_joined_49 3 rfl (by decide) (by decide) rfl ?_
  refine r_goto (tgt := 4) C dX3_joined_52 (by decide) ?_
  refine r_iload_n C dX3_joined_4 0 rfl ?_
  refine r_iconst (v := 4) C dX3_joined_5 (by decide) ?_
  refine r_icmp_ge (tgt := 55) C dX3_joined_6 (by decide) (fun c => absurd c (by decide)) (fun _ => ?_)
  refine r_iload_n C dX3_joined_9 5 rfl ?_
  refine r_iload_n C dX3_joined_10 0 rfl ?_
  refine r_callS (wc := []) (wr := []) (st := []) C (m_X3_layerAt l D cI cL cP cJ w 1) k_X3_layerAt t_196 [] (show ([] : List Nat).Perm (List.range 0) by decide) rfl rfl rfl (Nat.le_of_ble_eq_true rfl) ⟨Nat.le_of_ble_eq_true rfl, Nat.le_of_ble_eq_true rfl⟩ ⟨Nat.zero_le _, Nat.zero_le _⟩ dX3_joined_11 (fun r7 wr7 hw7 => ?_)
  obtain ⟨e_r7, rfl⟩ := hw7
  refine r_ws (I' := []) rfl ?_
  refine r_istore (L' := [(4, .int r7), (3, .int 1), (2, .int x6), (5, .int r2), (0, .int u), (1, .int w)]) C dX3_joined_14 (by decide) rfl ?_
  refine r_iload_n C dX3_joined_16 4 rfl ?_
  refine r_iload C dX3_joined_17 0 rfl ?_
  refine r_mabs C t_221 t_222 t_22 t_223 (Nat.le_of_ble_eq_true rfl) (Nat.le_of_ble_eq_true rfl) (Nat.zero_le _) (Nat.zero_le _) dX3_joined_19 rfl ?_
  refine r_iconst (v := 1) C dX3_joined_22 (by decide) ?_
  refine r_isub C dX3_joined_23 rfl ?_
  refine r_callS (wc := []) (wr := []) (st := []) C (m_X3_layerAt l D cI cL cP cJ u ((if 0 ≤ r7 then r7 else 0 - r7) - 1)) k_X3_layerAt t_196 [] (show ([] : List Nat).Perm (List.range 0) by decide) rfl rfl rfl (Nat.le_of_ble_eq_true rfl) ⟨Nat.le_of_ble_eq_true rfl, Nat.le_of_ble_eq_true rfl⟩ ⟨Nat.zero_le _, Nat.zero_le _⟩ dX3_joined_24 (fun r8 wr8 hw8 => ?_)
  obtain ⟨e_r8, rfl⟩ := hw8
  refine r_ws (I' := []) rfl ?_
  refine r_istore (L' := [(5, .int r8), (4, .int r7), (3, .int 1), (2, .int x6), (0, .int u), (1, .int w)]) C dX3_joined_27 (by decide) rfl ?_
  refine r_iload_n C dX3_joined_29 3 rfl ?_
  refine r_iload C dX3_joined_30 1 rfl ?_
  suffices K : ∀ x10 : Int32, x10 = ((if 0 ≤ r7 then (r8) else (-r8))) → V p l e (rmm 1 23) s m args below meth c 6 D A 0 0 Q [] [(5, .int r8), (4, .int r7), (3, .int 1), (2, .int x6), (0, .int u), (1, .int w)] 43 [.int x10, .int x6] by
    refine r_if_ge (tgt := 41) C dX3_joined_32 (by decide) (fun c9 => ?_) (fun c9 => ?_)
    · refine r_iload C dX3_joined_41 0 rfl ?_
      exact K _ (by simp only [if_pos c9])
    · refine r_iload C dX3_joined_35 0 rfl ?_
      refine r_ineg C dX3_joined_37 rfl ?_
      refine r_goto (tgt := 43) C dX3_joined_38 (by decide) ?_
      exact K _ (by simp only [if_neg c9])
  intro x10 e_x10
  refine r_iload_n C dX3_joined_43 2 rfl ?_
  refine r_callS (wc := []) (wr := []) (st := [.int x6]) C (m_X3_fieldOf l D cI cL cP cJ x10 1) k_X3_fieldOf t_224 [] (show ([] : List Nat).Perm (List.range 0) by decide) rfl rfl rfl (Nat.le_of_ble_eq_true rfl) ⟨Nat.le_of_ble_eq_true rfl, Nat.le_of_ble_eq_true rfl⟩ ⟨Nat.zero_le _, Nat.zero_le _⟩ dX3_joined_44 (fun r11 wr11 hw11 => ?_)
  obtain ⟨e_r11, rfl⟩ := hw11
  refine r_ws (I' := []) rfl ?_
  refine r_ior C dX3_joined_47 rfl ?_
  refine r_top (fun x12 e_x12 => ?_)
  refine r_istore_n (L' := [(2, .int x12), (5, .int r8), (4, .int r7), (3, .int 1), (0, .int u), (1, .int w)]) C dX3_joined_48 (by decide) rfl ?_
  refine r_iinc (v := 2) (L' := [(3, .int 2), (2, .int x12), (5, .int r8), (4, .int r7), (0, .int u), (1, .int w)]) C dX3_joined_49 3 rfl (by decide) (by decide) rfl ?_
  refine r_goto (tgt := 4) C dX3_joined_52 (by decide) ?_
  refine r_iload_n C dX3_joined_4 0 rfl ?_
  refine r_iconst (v := 4) C dX3_joined_5 (by decide) ?_
  refine r_icmp_ge (tgt := 55) C dX3_joined_6 (by decide) (fun c => absurd c (by decide)) (fun _ => ?_)
  refine r_iload_n C dX3_joined_9 5 rfl ?_
  refine r_iload_n C dX3_joined_10 0 rfl ?_
  refine r_callS (wc := []) (wr := []) (st := []) C (m_X3_layerAt l D cI cL cP cJ w 2) k_X3_layerAt t_196 [] (show ([] : List Nat).Perm (List.range 0) by decide) rfl rfl rfl (Nat.le_of_ble_eq_true rfl) ⟨Nat.le_of_ble_eq_true rfl, Nat.le_of_ble_eq_true rfl⟩ ⟨Nat.zero_le _, Nat.zero_le _⟩ dX3_joined_11 (fun r13 wr13 hw13 => ?_)
  obtain ⟨e_r13, rfl⟩ := hw13
  refine r_ws (I' := []) rfl ?_
  refine r_istore (L' := [(4, .int r13), (3, .int 2), (2, .int x12), (5, .int r8), (0, .int u), (1, .int w)]) C dX3_joined_14 (by decide) rfl ?_
  refine r_iload_n C dX3_joined_16 4 rfl ?_
  refine r_iload C dX3_joined_17 0 rfl ?_
  refine r_mabs C t_221 t_222 t_22 t_223 (Nat.le_of_ble_eq_true rfl) (Nat.le_of_ble_eq_true rfl) (Nat.zero_le _) (Nat.zero_le _) dX3_joined_19 rfl ?_
  refine r_iconst (v := 1) C dX3_joined_22 (by decide) ?_
  refine r_isub C dX3_joined_23 rfl ?_
  refine r_callS (wc := []) (wr := []) (st := []) C (m_X3_layerAt l D cI cL cP cJ u ((if 0 ≤ r13 then r13 else 0 - r13) - 1)) k_X3_layerAt t_196 [] (show ([] : List Nat).Perm (List.range 0) by decide) rfl rfl rfl (Nat.le_of_ble_eq_true rfl) ⟨Nat.le_of_ble_eq_true rfl, Nat.le_of_ble_eq_true rfl⟩ ⟨Nat.zero_le _, Nat.zero_le _⟩ dX3_joined_24 (fun r14 wr14 hw14 => ?_)
  obtain ⟨e_r14, rfl⟩ := hw14
  refine r_ws (I' := []) rfl ?_
  refine r_istore (L' := [(5, .int r14), (4, .int r13), (3, .int 2), (2, .int x12), (0, .int u), (1, .int w)]) C dX3_joined_27 (by decide) rfl ?_
  refine r_iload_n C dX3_joined_29 3 rfl ?_
  refine r_iload C dX3_joined_30 1 rfl ?_
  suffices K : ∀ x16 : Int32, x16 = ((if 0 ≤ r13 then (r14) else (-r14))) → V p l e (rmm 1 23) s m args below meth c 6 D A 0 0 Q [] [(5, .int r14), (4, .int r13), (3, .int 2), (2, .int x12), (0, .int u), (1, .int w)] 43 [.int x16, .int x12] by
    refine r_if_ge (tgt := 41) C dX3_joined_32 (by decide) (fun c15 => ?_) (fun c15 => ?_)
    · refine r_iload C dX3_joined_41 0 rfl ?_
      exact K _ (by simp only [if_pos c15])
    · refine r_iload C dX3_joined_35 0 rfl ?_
      refine r_ineg C dX3_joined_37 rfl ?_
      refine r_goto (tgt := 43) C dX3_joined_38 (by decide) ?_
      exact K _ (by simp only [if_neg c15])
  intro x16 e_x16
  refine r_iload_n C dX3_joined_43 2 rfl ?_
  refine r_callS (wc := []) (wr := []) (st := [.int x12]) C (m_X3_fieldOf l D cI cL cP cJ x16 2) k_X3_fieldOf t_224 [] (show ([] : List Nat).Perm (List.range 0) by decide) rfl rfl rfl (Nat.le_of_ble_eq_true rfl) ⟨Nat.le_of_ble_eq_true rfl, Nat.le_of_ble_eq_true rfl⟩ ⟨Nat.zero_le _, Nat.zero_le _⟩ dX3_joined_44 (fun r17 wr17 hw17 => ?_)
  obtain ⟨e_r17, rfl⟩ := hw17
  refine r_ws (I' := []) rfl ?_
  refine r_ior C dX3_joined_47 rfl ?_
  refine r_top (fun x18 e_x18 => ?_)
  refine r_istore_n (L' := [(2, .int x18), (5, .int r14), (4, .int r13), (3, .int 2), (0, .int u), (1, .int w)]) C dX3_joined_48 (by decide) rfl ?_
  refine r_iinc (v := 3) (L' := [(3, .int 3), (2, .int x18), (5, .int r14), (4, .int r13), (0, .int u), (1, .int w)]) C dX3_joined_49 3 rfl (by decide) (by decide) rfl ?_
  refine r_goto (tgt := 4) C dX3_joined_52 (by decide) ?_
  refine r_iload_n C dX3_joined_4 0 rfl ?_
  refine r_iconst (v := 4) C dX3_joined_5 (by decide) ?_
  refine r_icmp_ge (tgt := 55) C dX3_joined_6 (by decide) (fun c => absurd c (by decide)) (fun _ => ?_)
  refine r_iload_n C dX3_joined_9 5 rfl ?_
  refine r_iload_n C dX3_joined_10 0 rfl ?_
  refine r_callS (wc := []) (wr := []) (st := []) C (m_X3_layerAt l D cI cL cP cJ w 3) k_X3_layerAt t_196 [] (show ([] : List Nat).Perm (List.range 0) by decide) rfl rfl rfl (Nat.le_of_ble_eq_true rfl) ⟨Nat.le_of_ble_eq_true rfl, Nat.le_of_ble_eq_true rfl⟩ ⟨Nat.zero_le _, Nat.zero_le _⟩ dX3_joined_11 (fun r19 wr19 hw19 => ?_)
  obtain ⟨e_r19, rfl⟩ := hw19
  refine r_ws (I' := []) rfl ?_
  refine r_istore (L' := [(4, .int r19), (3, .int 3), (2, .int x18), (5, .int r14), (0, .int u), (1, .int w)]) C dX3_joined_14 (by decide) rfl ?_
  refine r_iload_n C dX3_joined_16 4 rfl ?_
  refine r_iload C dX3_joined_17 0 rfl ?_
  refine r_mabs C t_221 t_222 t_22 t_223 (Nat.le_of_ble_eq_true rfl) (Nat.le_of_ble_eq_true rfl) (Nat.zero_le _) (Nat.zero_le _) dX3_joined_19 rfl ?_
  refine r_iconst (v := 1) C dX3_joined_22 (by decide) ?_
  refine r_isub C dX3_joined_23 rfl ?_
  refine r_callS (wc := []) (wr := []) (st := []) C (m_X3_layerAt l D cI cL cP cJ u ((if 0 ≤ r19 then r19 else 0 - r19) - 1)) k_X3_layerAt t_196 [] (show ([] : List Nat).Perm (List.range 0) by decide) rfl rfl rfl (Nat.le_of_ble_eq_true rfl) ⟨Nat.le_of_ble_eq_true rfl, Nat.le_of_ble_eq_true rfl⟩ ⟨Nat.zero_le _, Nat.zero_le _⟩ dX3_joined_24 (fun r20 wr20 hw20 => ?_)
  obtain ⟨e_r20, rfl⟩ := hw20
  refine r_ws (I' := []) rfl ?_
  refine r_istore (L' := [(5, .int r20), (4, .int r19), (3, .int 3), (2, .int x18), (0, .int u), (1, .int w)]) C dX3_joined_27 (by decide) rfl ?_
  refine r_iload_n C dX3_joined_29 3 rfl ?_
  refine r_iload C dX3_joined_30 1 rfl ?_
  suffices K : ∀ x22 : Int32, x22 = ((if 0 ≤ r19 then (r20) else (-r20))) → V p l e (rmm 1 23) s m args below meth c 6 D A 0 0 Q [] [(5, .int r20), (4, .int r19), (3, .int 3), (2, .int x18), (0, .int u), (1, .int w)] 43 [.int x22, .int x18] by
    refine r_if_ge (tgt := 41) C dX3_joined_32 (by decide) (fun c21 => ?_) (fun c21 => ?_)
    · refine r_iload C dX3_joined_41 0 rfl ?_
      exact K _ (by simp only [if_pos c21])
    · refine r_iload C dX3_joined_35 0 rfl ?_
      refine r_ineg C dX3_joined_37 rfl ?_
      refine r_goto (tgt := 43) C dX3_joined_38 (by decide) ?_
      exact K _ (by simp only [if_neg c21])
  intro x22 e_x22
  refine r_iload_n C dX3_joined_43 2 rfl ?_
  refine r_callS (wc := []) (wr := []) (st := [.int x18]) C (m_X3_fieldOf l D cI cL cP cJ x22 3) k_X3_fieldOf t_224 [] (show ([] : List Nat).Perm (List.range 0) by decide) rfl rfl rfl (Nat.le_of_ble_eq_true rfl) ⟨Nat.le_of_ble_eq_true rfl, Nat.le_of_ble_eq_true rfl⟩ ⟨Nat.zero_le _, Nat.zero_le _⟩ dX3_joined_44 (fun r23 wr23 hw23 => ?_)
  obtain ⟨e_r23, rfl⟩ := hw23
  refine r_ws (I' := []) rfl ?_
  refine r_ior C dX3_joined_47 rfl ?_
  refine r_top (fun x24 e_x24 => ?_)
  refine r_istore_n (L' := [(2, .int x24), (5, .int r20), (4, .int r19), (3, .int 3), (0, .int u), (1, .int w)]) C dX3_joined_48 (by decide) rfl ?_
  refine r_iinc (v := 4) (L' := [(3, .int 4), (2, .int x24), (5, .int r20), (4, .int r19), (0, .int u), (1, .int w)]) C dX3_joined_49 3 rfl (by decide) (by decide) rfl ?_
  refine r_goto (tgt := 4) C dX3_joined_52 (by decide) ?_
  refine r_iload_n C dX3_joined_4 0 rfl ?_
  refine r_iconst (v := 4) C dX3_joined_5 (by decide) ?_
  refine r_icmp_ge (tgt := 55) C dX3_joined_6 (by decide) (fun _ => ?_) (fun c => absurd c (by decide))
  refine r_iload_n C dX3_joined_55 1 rfl ?_
  have eF : F_X3_joined u w = x24 := by have q := e_r1.symm; subst q; have q := e_r2.symm; subst q; have q := e_x4.symm; subst q; have q := e_r5.symm; subst q; have q := e_x6.symm; subst q; have q := e_r7.symm; subst q; have q := e_r8.symm; subst q; have q := e_x10.symm; subst q; have q := e_r11.symm; subst q; have q := e_x12.symm; subst q; have q := e_r13.symm; subst q; have q := e_r14.symm; subst q; have q := e_x16.symm; subst q; have q := e_r17.symm; subst q; have q := e_x18.symm; subst q; have q := e_r19.symm; subst q; have q := e_r20.symm; subst q; have q := e_x22.symm; subst q; have q := e_r23.symm; subst q; have q := e_x24.symm; subst q; rfl
  exact r_iret (r := x24) C hA hr hlo dX3_joined_56 [] ⟨by simp only [eF], rfl⟩ rfl hQ
theorem k_X3_reversed : kS yX3_reversed cX3_reversed 5 (some .int) 1 := ⟨t_482, t_20, t_483, by decide +kernel, by decide +kernel, by decide +kernel⟩
set_option maxRecDepth 20000 in
def F_X3_reversed (lie : Int32) : Int32 := let r1 : Int32 := F_X3_layerAt lie 0; let x3 : Int32 := (if 0 ≤ r1 then (1) else ((-1))); let r4 : Int32 := F_X3_fieldOf x3 ((if 0 ≤ r1 then r1 else 0 - r1) - 1); let x5 : Int32 := (0 : Int32) ||| r4; let r6 : Int32 := F_X3_layerAt lie 1; let x8 : Int32 := (if 0 ≤ r6 then (2) else ((-2))); let r9 : Int32 := F_X3_fieldOf x8 ((if 0 ≤ r6 then r6 else 0 - r6) - 1); let x10 : Int32 := x5 ||| r9; let r11 : Int32 := F_X3_layerAt lie 2; let x13 : Int32 := (if 0 ≤ r11 then (3) else ((-3))); let r14 : Int32 := F_X3_fieldOf x13 ((if 0 ≤ r11 then r11 else 0 - r11) - 1); let x15 : Int32 := x10 ||| r14; let r16 : Int32 := F_X3_layerAt lie 3; let x18 : Int32 := (if 0 ≤ r16 then (4) else ((-4))); let r19 : Int32 := F_X3_fieldOf x18 ((if 0 ≤ r16 then r16 else 0 - r16) - 1); let x20 : Int32 := x15 ||| r19; x20
set_option maxRecDepth 20000 in
set_option maxHeartbeats 8000000 in
theorem m_X3_reversed (l : Launch) (D : va_G) (cI cL cP cJ : ClassId) (lie : Int32) : M vI l yX3_reversed cX3_reversed 5 (some .int) 1 23 D (tyF cI cL cP cJ) [.int lie] [] (fun (r : Int32) (w1 : List va_W) => r = (F_X3_reversed lie) ∧ w1 = []) := by
  refine m_start (by decide +kernel) (Nat.le_of_ble_eq_true rfl) (fun p e s m args below meth c A Q hA hQ C hr hlo => ?_)
  refine r_Le (L' := [(0, .int lie)]) rfl ?_
  refine r_iconst (v := 0) C dX3_reversed_0 (by decide) ?_
  refine r_istore_n (L' := [(1, .int 0), (0, .int lie)]) C dX3_reversed_1 (by decide) rfl ?_
  refine r_iconst (v := 0) C dX3_reversed_2 (by decide) ?_
  refine r_istore_n (L' := [(2, .int 0), (1, .int 0), (0, .int lie)]) C dX3_reversed_3 (by decide) rfl ?_
  refine r_iload_n C dX3_reversed_4 0 rfl ?_
  refine r_iconst (v := 4) C dX3_reversed_5 (by decide) ?_
  refine r_icmp_ge (tgt := 50) C dX3_reversed_6 (by decide) (fun c => absurd c (by decide)) (fun _ => ?_)
  refine r_iload_n C dX3_reversed_9 2 rfl ?_
  refine r_iload_n C dX3_reversed_10 0 rfl ?_
  refine r_callS (wc := []) (wr := []) (st := []) C (m_X3_layerAt l D cI cL cP cJ lie 0) k_X3_layerAt t_196 [] (show ([] : List Nat).Perm (List.range 0) by decide) rfl rfl rfl (Nat.le_of_ble_eq_true rfl) ⟨Nat.le_of_ble_eq_true rfl, Nat.le_of_ble_eq_true rfl⟩ ⟨Nat.zero_le _, Nat.zero_le _⟩ dX3_reversed_11 (fun r1 wr1 hw1 => ?_)
  obtain ⟨e_r1, rfl⟩ := hw1
  refine r_ws (I' := []) rfl ?_
  refine r_istore_n (L' := [(3, .int r1), (2, .int 0), (1, .int 0), (0, .int lie)]) C dX3_reversed_14 (by decide) rfl ?_
  refine r_iload_n C dX3_reversed_15 1 rfl ?_
  refine r_iconst (v := 1) C dX3_reversed_16 (by decide) ?_
  refine r_iadd (z := 1) C dX3_reversed_17 (by decide) ?_
  refine r_istore (L' := [(4, .int 1), (3, .int r1), (2, .int 0), (1, .int 0), (0, .int lie)]) C dX3_reversed_18 (by decide) rfl ?_
  refine r_iload_n C dX3_reversed_20 3 rfl ?_
  refine r_iload_n C dX3_reversed_21 1 rfl ?_
  suffices K : ∀ x3 : Int32, x3 = ((if 0 ≤ r1 then (1) else ((-1)))) → V p l e (rmm 1 23) s m args below meth c 5 D A 0 0 Q [] [(4, .int 1), (3, .int r1), (2, .int 0), (1, .int 0), (0, .int lie)] 33 [.int x3, .int 0] by
    refine r_if_ge (tgt := 31) C dX3_reversed_22 (by decide) (fun c2 => ?_) (fun c2 => ?_)
    · refine r_iload C dX3_reversed_31 0 rfl ?_
      exact K _ (by simp only [if_pos c2])
    · refine r_iload C dX3_reversed_25 0 rfl ?_
      refine r_ineg (z := (-1)) C dX3_reversed_27 (by decide) ?_
      refine r_goto (tgt := 33) C dX3_reversed_28 (by decide) ?_
      exact K _ (by simp only [if_neg c2])
  intro x3 e_x3
  refine r_iload_n C dX3_reversed_33 1 rfl ?_
  refine r_mabs C t_221 t_222 t_22 t_223 (Nat.le_of_ble_eq_true rfl) (Nat.le_of_ble_eq_true rfl) (Nat.zero_le _) (Nat.zero_le _) dX3_reversed_34 rfl ?_
  refine r_iconst (v := 1) C dX3_reversed_37 (by decide) ?_
  refine r_isub C dX3_reversed_38 rfl ?_
  refine r_callS (wc := []) (wr := []) (st := [.int 0]) C (m_X3_fieldOf l D cI cL cP cJ x3 ((if 0 ≤ r1 then r1 else 0 - r1) - 1)) k_X3_fieldOf t_224 [] (show ([] : List Nat).Perm (List.range 0) by decide) rfl rfl rfl (Nat.le_of_ble_eq_true rfl) ⟨Nat.le_of_ble_eq_true rfl, Nat.le_of_ble_eq_true rfl⟩ ⟨Nat.zero_le _, Nat.zero_le _⟩ dX3_reversed_39 (fun r4 wr4 hw4 => ?_)
  obtain ⟨e_r4, rfl⟩ := hw4
  refine r_ws (I' := []) rfl ?_
  refine r_ior C dX3_reversed_42 rfl ?_
  refine r_top (fun x5 e_x5 => ?_)
  refine r_istore_n (L' := [(1, .int x5), (4, .int 1), (3, .int r1), (2, .int 0), (0, .int lie)]) C dX3_reversed_43 (by decide) rfl ?_
  refine r_iinc (v := 1) (L' := [(2, .int 1), (1, .int x5), (4, .int 1), (3, .int r1), (0, .int lie)]) C dX3_reversed_44 3 rfl (by decide) (by decide) rfl ?_
  refine r_goto (tgt := 4) C dX3_reversed_47 (by decide) ?_
  refine r_iload_n C dX3_reversed_4 0 rfl ?_
  refine r_iconst (v := 4) C dX3_reversed_5 (by decide) ?_
  refine r_icmp_ge (tgt := 50) C dX3_reversed_6 (by decide) (fun c => absurd c (by decide)) (fun _ => ?_)
  refine r_iload_n C dX3_reversed_9 4 rfl ?_
  refine r_iload_n C dX3_reversed_10 0 rfl ?_
  refine r_callS (wc := []) (wr := []) (st := []) C (m_X3_layerAt l D cI cL cP cJ lie 1) k_X3_layerAt t_196 [] (show ([] : List Nat).Perm (List.range 0) by decide) rfl rfl rfl (Nat.le_of_ble_eq_true rfl) ⟨Nat.le_of_ble_eq_true rfl, Nat.le_of_ble_eq_true rfl⟩ ⟨Nat.zero_le _, Nat.zero_le _⟩ dX3_reversed_11 (fun r6 wr6 hw6 => ?_)
  obtain ⟨e_r6, rfl⟩ := hw6
  refine r_ws (I' := []) rfl ?_
  refine r_istore_n (L' := [(3, .int r6), (2, .int 1), (1, .int x5), (4, .int 1), (0, .int lie)]) C dX3_reversed_14 (by decide) rfl ?_
  refine r_iload_n C dX3_reversed_15 1 rfl ?_
  refine r_iconst (v := 1) C dX3_reversed_16 (by decide) ?_
  refine r_iadd (z := 2) C dX3_reversed_17 (by decide) ?_
  refine r_istore (L' := [(4, .int 2), (3, .int r6), (2, .int 1), (1, .int x5), (0, .int lie)]) C dX3_reversed_18 (by decide) rfl ?_
  refine r_iload_n C dX3_reversed_20 3 rfl ?_
  refine r_iload_n C dX3_reversed_21 1 rfl ?_
  suffices K : ∀ x8 : Int32, x8 = ((if 0 ≤ r6 then (2) else ((-2)))) → V p l e (rmm 1 23) s m args below meth c 5 D A 0 0 Q [] [(4, .int 2), (3, .int r6), (2, .int 1), (1, .int x5), (0, .int lie)] 33 [.int x8, .int x5] by
    refine r_if_ge (tgt := 31) C dX3_reversed_22 (by decide) (fun c7 => ?_) (fun c7 => ?_)
    · refine r_iload C dX3_reversed_31 0 rfl ?_
      exact K _ (by simp only [if_pos c7])
    · refine r_iload C dX3_reversed_25 0 rfl ?_
      refine r_ineg (z := (-2)) C dX3_reversed_27 (by decide) ?_
      refine r_goto (tgt := 33) C dX3_reversed_28 (by decide) ?_
      exact K _ (by simp only [if_neg c7])
  intro x8 e_x8
  refine r_iload_n C dX3_reversed_33 1 rfl ?_
  refine r_mabs C t_221 t_222 t_22 t_223 (Nat.le_of_ble_eq_true rfl) (Nat.le_of_ble_eq_true rfl) (Nat.zero_le _) (Nat.zero_le _) dX3_reversed_34 rfl ?_
  refine r_iconst (v := 1) C dX3_reversed_37 (by decide) ?_
  refine r_isub C dX3_reversed_38 rfl ?_
  refine r_callS (wc := []) (wr := []) (st := [.int x5]) C (m_X3_fieldOf l D cI cL cP cJ x8 ((if 0 ≤ r6 then r6 else 0 - r6) - 1)) k_X3_fieldOf t_224 [] (show ([] : List Nat).Perm (List.range 0) by decide) rfl rfl rfl (Nat.le_of_ble_eq_true rfl) ⟨Nat.le_of_ble_eq_true rfl, Nat.le_of_ble_eq_true rfl⟩ ⟨Nat.zero_le _, Nat.zero_le _⟩ dX3_reversed_39 (fun r9 wr9 hw9 => ?_)
  obtain ⟨e_r9, rfl⟩ := hw9
  refine r_ws (I' := []) rfl ?_
  refine r_ior C dX3_reversed_42 rfl ?_
  refine r_top (fun x10 e_x10 => ?_)
  refine r_istore_n (L' := [(1, .int x10), (4, .int 2), (3, .int r6), (2, .int 1), (0, .int lie)]) C dX3_reversed_43 (by decide) rfl ?_
  refine r_iinc (v := 2) (L' := [(2, .int 2), (1, .int x10), (4, .int 2), (3, .int r6), (0, .int lie)]) C dX3_reversed_44 3 rfl (by decide) (by decide) rfl ?_
  refine r_goto (tgt := 4) C dX3_reversed_47 (by decide) ?_
  refine r_iload_n C dX3_reversed_4 0 rfl ?_
  refine r_iconst (v := 4) C dX3_reversed_5 (by decide) ?_
  refine r_icmp_ge (tgt := 50) C dX3_reversed_6 (by decide) (fun c => absurd c (by decide)) (fun _ => ?_)
  refine r_iload_n C dX3_reversed_9 4 rfl ?_
  refine r_iload_n C dX3_reversed_10 0 rfl ?_
  refine r_callS (wc := []) (wr := []) (st := []) C (m_X3_layerAt l D cI cL cP cJ lie 2) k_X3_layerAt t_196 [] (show ([] : List Nat).Perm (List.range 0) by decide) rfl rfl rfl (Nat.le_of_ble_eq_true rfl) ⟨Nat.le_of_ble_eq_true rfl, Nat.le_of_ble_eq_true rfl⟩ ⟨Nat.zero_le _, Nat.zero_le _⟩ dX3_reversed_11 (fun r11 wr11 hw11 => ?_)
  obtain ⟨e_r11, rfl⟩ := hw11
  refine r_ws (I' := []) rfl ?_
  refine r_istore_n (L' := [(3, .int r11), (2, .int 2), (1, .int x10), (4, .int 2), (0, .int lie)]) C dX3_reversed_14 (by decide) rfl ?_
  refine r_iload_n C dX3_reversed_15 1 rfl ?_
  refine r_iconst (v := 1) C dX3_reversed_16 (by decide) ?_
  refine r_iadd (z := 3) C dX3_reversed_17 (by decide) ?_
  refine r_istore (L' := [(4, .int 3), (3, .int r11), (2, .int 2), (1, .int x10), (0, .int lie)]) C dX3_reversed_18 (by decide) rfl ?_
  refine r_iload_n C dX3_reversed_20 3 rfl ?_
  refine r_iload_n C dX3_reversed_21 1 rfl ?_
  suffices K : ∀ x13 : Int32, x13 = ((if 0 ≤ r11 then (3) else ((-3)))) → V p l e (rmm 1 23) s m args below meth c 5 D A 0 0 Q [] [(4, .int 3), (3, .int r11), (2, .int 2), (1, .int x10), (0, .int lie)] 33 [.int x13, .int x10] by
    refine r_if_ge (tgt := 31) C dX3_reversed_22 (by decide) (fun c12 => ?_) (fun c12 => ?_)
    · refine r_iload C dX3_reversed_31 0 rfl ?_
      exact K _ (by simp only [if_pos c12])
    · refine r_iload C dX3_reversed_25 0 rfl ?_
      refine r_ineg (z := (-3)) C dX3_reversed_27 (by decide) ?_
      refine r_goto (tgt := 33) C dX3_reversed_28 (by decide) ?_
      exact K _ (by simp only [if_neg c12])
  intro x13 e_x13
  refine r_iload_n C dX3_reversed_33 1 rfl ?_
  refine r_mabs C t_221 t_222 t_22 t_223 (Nat.le_of_ble_eq_true rfl) (Nat.le_of_ble_eq_true rfl) (Nat.zero_le _) (Nat.zero_le _) dX3_reversed_34 rfl ?_
  refine r_iconst (v := 1) C dX3_reversed_37 (by decide) ?_
  refine r_isub C dX3_reversed_38 rfl ?_
  refine r_callS (wc := []) (wr := []) (st := [.int x10]) C (m_X3_fieldOf l D cI cL cP cJ x13 ((if 0 ≤ r11 then r11 else 0 - r11) - 1)) k_X3_fieldOf t_224 [] (show ([] : List Nat).Perm (List.range 0) by decide) rfl rfl rfl (Nat.le_of_ble_eq_true rfl) ⟨Nat.le_of_ble_eq_true rfl, Nat.le_of_ble_eq_true rfl⟩ ⟨Nat.zero_le _, Nat.zero_le _⟩ dX3_reversed_39 (fun r14 wr14 hw14 => ?_)
  obtain ⟨e_r14, rfl⟩ := hw14
  refine r_ws (I' := []) rfl ?_
  refine r_ior C dX3_reversed_42 rfl ?_
  refine r_top (fun x15 e_x15 => ?_)
  refine r_istore_n (L' := [(1, .int x15), (4, .int 3), (3, .int r11), (2, .int 2), (0, .int lie)]) C dX3_reversed_43 (by decide) rfl ?_
  refine r_iinc (v := 3) (L' := [(2, .int 3), (1, .int x15), (4, .int 3), (3, .int r11), (0, .int lie)]) C dX3_reversed_44 3 rfl (by decide) (by decide) rfl ?_
  refine r_goto (tgt := 4) C dX3_reversed_47 (by decide) ?_
  refine r_iload_n C dX3_reversed_4 0 rfl ?_
  refine r_iconst (v := 4) C dX3_reversed_5 (by decide) ?_
  refine r_icmp_ge (tgt := 50) C dX3_reversed_6 (by decide) (fun c => absurd c (by decide)) (fun _ => ?_)
  refine r_iload_n C dX3_reversed_9 4 rfl ?_
  refine r_iload_n C dX3_reversed_10 0 rfl ?_
  refine r_callS (wc := []) (wr := []) (st := []) C (m_X3_layerAt l D cI cL cP cJ lie 3) k_X3_layerAt t_196 [] (show ([] : List Nat).Perm (List.range 0) by decide) rfl rfl rfl (Nat.le_of_ble_eq_true rfl) ⟨Nat.le_of_ble_eq_true rfl, Nat.le_of_ble_eq_true rfl⟩ ⟨Nat.zero_le _, Nat.zero_le _⟩ dX3_reversed_11 (fun r16 wr16 hw16 => ?_)
  obtain ⟨e_r16, rfl⟩ := hw16
  refine r_ws (I' := []) rfl ?_
  refine r_istore_n (L' := [(3, .int r16), (2, .int 3), (1, .int x15), (4, .int 3), (0, .int lie)]) C dX3_reversed_14 (by decide) rfl ?_
  refine r_iload_n C dX3_reversed_15 1 rfl ?_
  refine r_iconst (v := 1) C dX3_reversed_16 (by decide) ?_
  refine r_iadd (z := 4) C dX3_reversed_17 (by decide) ?_
  refine r_istore (L' := [(4, .int 4), (3, .int r16), (2, .int 3), (1, .int x15), (0, .int lie)]) C dX3_reversed_18 (by decide) rfl ?_
  refine r_iload_n C dX3_reversed_20 3 rfl ?_
  refine r_iload_n C dX3_reversed_21 1 rfl ?_
  suffices K : ∀ x18 : Int32, x18 = ((if 0 ≤ r16 then (4) else ((-4)))) → V p l e (rmm 1 23) s m args below meth c 5 D A 0 0 Q [] [(4, .int 4), (3, .int r16), (2, .int 3), (1, .int x15), (0, .int lie)] 33 [.int x18, .int x15] by
    refine r_if_ge (tgt := 31) C dX3_reversed_22 (by decide) (fun c17 => ?_) (fun c17 => ?_)
    · refine r_iload C dX3_reversed_31 0 rfl ?_
      exact K _ (by simp only [if_pos c17])
    · refine r_iload C dX3_reversed_25 0 rfl ?_
      refine r_ineg (z := (-4)) C dX3_reversed_27 (by decide) ?_
      refine r_goto (tgt := 33) C dX3_reversed_28 (by decide) ?_
      exact K _ (by simp only [if_neg c17])
  intro x18 e_x18
  refine r_iload_n C dX3_reversed_33 1 rfl ?_
  refine r_mabs C t_221 t_222 t_22 t_223 (Nat.le_of_ble_eq_true rfl) (Nat.le_of_ble_eq_true rfl) (Nat.zero_le _) (Nat.zero_le _) dX3_reversed_34 rfl ?_
  refine r_iconst (v := 1) C dX3_reversed_37 (by decide) ?_
  refine r_isub C dX3_reversed_38 rfl ?_
  refine r_callS (wc := []) (wr := []) (st := [.int x15]) C (m_X3_fieldOf l D cI cL cP cJ x18 ((if 0 ≤ r16 then r16 else 0 - r16) - 1)) k_X3_fieldOf t_224 [] (show ([] : List Nat).Perm (List.range 0) by decide) rfl rfl rfl (Nat.le_of_ble_eq_true rfl) ⟨Nat.le_of_ble_eq_true rfl, Nat.le_of_ble_eq_true rfl⟩ ⟨Nat.zero_le _, Nat.zero_le _⟩ dX3_reversed_39 (fun r19 wr19 hw19 => ?_)
  obtain ⟨e_r19, rfl⟩ := hw19
  refine r_ws (I' := []) rfl ?_
  refine r_ior C dX3_reversed_42 rfl ?_
  refine r_top (fun x20 e_x20 => ?_)
  refine r_istore_n (L' := [(1, .int x20), (4, .int 4), (3, .int r16), (2, .int 3), (0, .int lie)]) C dX3_reversed_43 (by decide) rfl ?_
  refine r_iinc (v := 4) (L' := [(2, .int 4), (1, .int x20), (4, .int 4), (3, .int r16), (0, .int lie)]) C dX3_reversed_44 3 rfl (by decide) (by decide) rfl ?_
  refine r_goto (tgt := 4) C dX3_reversed_47 (by decide) ?_
  refine r_iload_n C dX3_reversed_4 0 rfl ?_
  refine r_iconst (v := 4) C dX3_reversed_5 (by decide) ?_
  refine r_icmp_ge (tgt := 50) C dX3_reversed_6 (by decide) (fun _ => ?_) (fun c => absurd c (by decide))
  refine r_iload_n C dX3_reversed_50 1 rfl ?_
  have eF : F_X3_reversed lie = x20 := by have q := e_r1.symm; subst q; have q := e_x3.symm; subst q; have q := e_r4.symm; subst q; have q := e_x5.symm; subst q; have q := e_r6.symm; subst q; have q := e_x8.symm; subst q; have q := e_r9.symm; subst q; have q := e_x10.symm; subst q; have q := e_r11.symm; subst q; have q := e_x13.symm; subst q; have q := e_r14.symm; subst q; have q := e_x15.symm; subst q; have q := e_r16.symm; subst q; have q := e_x18.symm; subst q; have q := e_r19.symm; subst q; have q := e_x20.symm; subst q; rfl
  exact r_iret (r := x20) C hA hr hlo dX3_reversed_51 [] ⟨by simp only [eF], rfl⟩ rfl hQ
theorem k_X3_length : kS yX3_length cX3_length 6 (some .int) 1 := ⟨t_194, t_20, t_195, by decide +kernel, by decide +kernel, by decide +kernel⟩
set_option maxRecDepth 20000 in
def F_X3_length (lie : Int32) : Int32 := let r1 : Int32 := F_X3_layerAt lie 0; let r2 : Int32 := F_X3_layerAt lie 0; let x4 : Int32 := (if r2 ≤ r1 then (0) else (1)); let x5 : Int32 := (0 : Int32) + x4; let x7 : Int32 := (if 0 ≤ (r2 + r1) then (0) else (1)); let x8 : Int32 := x5 + x7; let r9 : Int32 := F_X3_layerAt lie 1; let r10 : Int32 := F_X3_layerAt lie 0; let x12 : Int32 := (if r10 ≤ r9 then (0) else (1)); let x13 : Int32 := x8 + x12; let x15 : Int32 := (if 0 ≤ (r10 + r9) then (0) else (1)); let x16 : Int32 := x13 + x15; let r17 : Int32 := F_X3_layerAt lie 1; let x19 : Int32 := (if r17 ≤ r9 then (0) else (1)); let x20 : Int32 := x16 + x19; let x22 : Int32 := (if 0 ≤ (r17 + r9) then (0) else (1)); let x23 : Int32 := x20 + x22; let r24 : Int32 := F_X3_layerAt lie 2; let r25 : Int32 := F_X3_layerAt lie 0; let x27 : Int32 := (if r25 ≤ r24 then (0) else (1)); let x28 : Int32 := x23 + x27; let x30 : Int32 := (if 0 ≤ (r25 + r24) then (0) else (1)); let x31 : Int32 := x28 + x30; let r32 : Int32 := F_X3_layerAt lie 1; let x34 : Int32 := (if r32 ≤ r24 then (0) else (1)); let x35 : Int32 := x31 + x34; let x37 : Int32 := (if 0 ≤ (r32 + r24) then (0) else (1)); let x38 : Int32 := x35 + x37; let r39 : Int32 := F_X3_layerAt lie 2; let x41 : Int32 := (if r39 ≤ r24 then (0) else (1)); let x42 : Int32 := x38 + x41; let x44 : Int32 := (if 0 ≤ (r39 + r24) then (0) else (1)); let x45 : Int32 := x42 + x44; let r46 : Int32 := F_X3_layerAt lie 3; let r47 : Int32 := F_X3_layerAt lie 0; let x49 : Int32 := (if r47 ≤ r46 then (0) else (1)); let x50 : Int32 := x45 + x49; let x52 : Int32 := (if 0 ≤ (r47 + r46) then (0) else (1)); let x53 : Int32 := x50 + x52; let r54 : Int32 := F_X3_layerAt lie 1; let x56 : Int32 := (if r54 ≤ r46 then (0) else (1)); let x57 : Int32 := x53 + x56; let x59 : Int32 := (if 0 ≤ (r54 + r46) then (0) else (1)); let x60 : Int32 := x57 + x59; let r61 : Int32 := F_X3_layerAt lie 2; let x63 : Int32 := (if r61 ≤ r46 then (0) else (1)); let x64 : Int32 := x60 + x63; let x66 : Int32 := (if 0 ≤ (r61 + r46) then (0) else (1)); let x67 : Int32 := x64 + x66; let r68 : Int32 := F_X3_layerAt lie 3; let x70 : Int32 := (if r68 ≤ r46 then (0) else (1)); let x71 : Int32 := x67 + x70; let x73 : Int32 := (if 0 ≤ (r68 + r46) then (0) else (1)); let x74 : Int32 := x71 + x73; x74
set_option maxRecDepth 20000 in
set_option maxHeartbeats 8000000 in
theorem m_X3_length (l : Launch) (D : va_G) (cI cL cP cJ : ClassId) (lie : Int32) : M vI l yX3_length cX3_length 6 (some .int) 1 23 D (tyF cI cL cP cJ) [.int lie] [] (fun (r : Int32) (w1 : List va_W) => r = (F_X3_length lie) ∧ w1 = []) := by
  refine m_start (by decide +kernel) (Nat.le_of_ble_eq_true rfl) (fun p e s m args below meth c A Q hA hQ C hr hlo => ?_)
  refine r_Le (L' := [(0, .int lie)]) rfl ?_
  refine r_iconst (v := 0) C dX3_length_0 (by decide) ?_
  refine r_istore_n (L' := [(1, .int 0), (0, .int lie)]) C dX3_length_1 (by decide) rfl ?_
  refine r_iconst (v := 0) C dX3_length_2 (by decide) ?_
  refine r_istore_n (L' := [(2, .int 0), (1, .int 0), (0, .int lie)]) C dX3_length_3 (by decide) rfl ?_
  refine r_iload_n C dX3_length_4 0 rfl ?_
  refine r_iconst (v := 4) C dX3_length_5 (by decide) ?_
  refine r_icmp_ge (tgt := 73) C dX3_length_6 (by decide) (fun c => absurd c (by decide)) (fun _ => ?_)
  refine r_iload_n C dX3_length_9 2 rfl ?_
  refine r_iload_n C dX3_length_10 0 rfl ?_
  refine r_callS (wc := []) (wr := []) (st := []) C (m_X3_layerAt l D cI cL cP cJ lie 0) k_X3_layerAt t_196 [] (show ([] : List Nat).Perm (List.range 0) by decide) rfl rfl rfl (Nat.le_of_ble_eq_true rfl) ⟨Nat.le_of_ble_eq_true rfl, Nat.le_of_ble_eq_true rfl⟩ ⟨Nat.zero_le _, Nat.zero_le _⟩ dX3_length_11 (fun r1 wr1 hw1 => ?_)
  obtain ⟨e_r1, rfl⟩ := hw1
  refine r_ws (I' := []) rfl ?_
  refine r_istore_n (L' := [(3, .int r1), (2, .int 0), (1, .int 0), (0, .int lie)]) C dX3_length_14 (by decide) rfl ?_
  refine r_iconst (v := 0) C dX3_length_15 (by decide) ?_
  refine r_istore (L' := [(4, .int 0), (3, .int r1), (2, .int 0), (1, .int 0), (0, .int lie)]) C dX3_length_16 (by decide) rfl ?_
  refine r_iload C dX3_length_18 0 rfl ?_
  refine r_iload_n C dX3_length_20 2 rfl ?_
  refine r_icmp_gt (tgt := 67) C dX3_length_21 (by decide) (fun c => absurd c (by decide)) (fun _ => ?_)
  refine r_iload_n C dX3_length_24 4 rfl ?_
  refine r_iload C dX3_length_25 0 rfl ?_
  refine r_callS (wc := []) (wr := []) (st := []) C (m_X3_layerAt l D cI cL cP cJ lie 0) k_X3_layerAt t_196 [] (show ([] : List Nat).Perm (List.range 0) by decide) rfl rfl rfl (Nat.le_of_ble_eq_true rfl) ⟨Nat.le_of_ble_eq_true rfl, Nat.le_of_ble_eq_true rfl⟩ ⟨Nat.zero_le _, Nat.zero_le _⟩ dX3_length_27 (fun r2 wr2 hw2 => ?_)
  obtain ⟨e_r2, rfl⟩ := hw2
  refine r_ws (I' := []) rfl ?_
  refine r_istore (L' := [(5, .int r2), (4, .int 0), (3, .int r1), (2, .int 0), (1, .int 0), (0, .int lie)]) C dX3_length_30 (by decide) rfl ?_
  refine r_iload_n C dX3_length_32 4 rfl ?_
  refine r_iload C dX3_length_33 0 rfl ?_
  refine r_iload_n C dX3_length_35 2 rfl ?_
  suffices K : ∀ x4 : Int32, x4 = ((if r2 ≤ r1 then (0) else (1))) → V p l e (rmm 1 23) s m args below meth c 6 D A 0 0 Q [] [(5, .int r2), (4, .int 0), (3, .int r1), (2, .int 0), (1, .int 0), (0, .int lie)] 44 [.int x4, .int 0] by
    refine r_icmp_le (tgt := 43) C dX3_length_36 (by decide) (fun c3 => ?_) (fun c3 => ?_)
    · refine r_iconst (v := 0) C dX3_length_43 (by decide) ?_
      exact K _ (by simp only [if_pos c3])
    · refine r_iconst (v := 1) C dX3_length_39 (by decide) ?_
      refine r_goto (tgt := 44) C dX3_length_40 (by decide) ?_
      exact K _ (by simp only [if_neg c3])
  intro x4 e_x4
  refine r_iadd C dX3_length_44 rfl ?_
  refine r_top (fun x5 e_x5 => ?_)
  refine r_istore_n (L' := [(1, .int x5), (5, .int r2), (4, .int 0), (3, .int r1), (2, .int 0), (0, .int lie)]) C dX3_length_45 (by decide) rfl ?_
  refine r_iload_n C dX3_length_46 0 rfl ?_
  refine r_iload C dX3_length_47 1 rfl ?_
  refine r_iload_n C dX3_length_49 3 rfl ?_
  refine r_iadd C dX3_length_50 rfl ?_
  suffices K : ∀ x7 : Int32, x7 = ((if 0 ≤ (r2 + r1) then (0) else (1))) → V p l e (rmm 1 23) s m args below meth c 6 D A 0 0 Q [] [(1, .int x5), (5, .int r2), (4, .int 0), (3, .int r1), (2, .int 0), (0, .int lie)] 59 [.int x7, .int x5] by
    refine r_if_ge (tgt := 58) C dX3_length_51 (by decide) (fun c6 => ?_) (fun c6 => ?_)
    · refine r_iconst (v := 0) C dX3_length_58 (by decide) ?_
      exact K _ (by simp only [if_pos c6])
    · refine r_iconst (v := 1) C dX3_length_54 (by decide) ?_
      refine r_goto (tgt := 59) C dX3_length_55 (by decide) ?_
      exact K _ (by simp only [if_neg c6])
  intro x7 e_x7
  refine r_iadd C dX3_length_59 rfl ?_
  refine r_top (fun x8 e_x8 => ?_)
  refine r_istore_n (L' := [(1, .int x8), (5, .int r2), (4, .int 0), (3, .int r1), (2, .int 0), (0, .int lie)]) C dX3_length_60 (by decide) rfl ?_
  refine r_iinc (v := 1) (L' := [(4, .int 1), (1, .int x8), (5, .int r2), (3, .int r1), (2, .int 0), (0, .int lie)]) C dX3_length_61 2 rfl (by decide) (by decide) rfl ?_
  refine r_goto (tgt := 18) C dX3_length_64 (by decide) ?_
  refine r_iload C dX3_length_18 0 rfl ?_
  refine r_iload_n C dX3_length_20 4 rfl ?_
  refine r_icmp_gt (tgt := 67) C dX3_length_21 (by decide) (fun _ => ?_) (fun c => absurd c (by decide))
  refine r_iinc (v := 1) (L' := [(2, .int 1), (4, .int 1), (1, .int x8), (5, .int r2), (3, .int r1), (0, .int lie)]) C dX3_length_67 4 rfl (by decide) (by decide) rfl ?_
  refine r_goto (tgt := 4) C dX3_length_70 (by decide) ?_
  refine r_iload_n C dX3_length_4 0 rfl ?_
  refine r_iconst (v := 4) C dX3_length_5 (by decide) ?_
  refine r_icmp_ge (tgt := 73) C dX3_length_6 (by decide) (fun c => absurd c (by decide)) (fun _ => ?_)
  refine r_iload_n C dX3_length_9 5 rfl ?_
  refine r_iload_n C dX3_length_10 0 rfl ?_
  refine r_callS (wc := []) (wr := []) (st := []) C (m_X3_layerAt l D cI cL cP cJ lie 1) k_X3_layerAt t_196 [] (show ([] : List Nat).Perm (List.range 0) by decide) rfl rfl rfl (Nat.le_of_ble_eq_true rfl) ⟨Nat.le_of_ble_eq_true rfl, Nat.le_of_ble_eq_true rfl⟩ ⟨Nat.zero_le _, Nat.zero_le _⟩ dX3_length_11 (fun r9 wr9 hw9 => ?_)
  obtain ⟨e_r9, rfl⟩ := hw9
  refine r_ws (I' := []) rfl ?_
  refine r_istore_n (L' := [(3, .int r9), (2, .int 1), (4, .int 1), (1, .int x8), (5, .int r2), (0, .int lie)]) C dX3_length_14 (by decide) rfl ?_
  refine r_iconst (v := 0) C dX3_length_15 (by decide) ?_
  refine r_istore (L' := [(4, .int 0), (3, .int r9), (2, .int 1), (1, .int x8), (5, .int r2), (0, .int lie)]) C dX3_length_16 (by decide) rfl ?_
  refine r_iload C dX3_length_18 0 rfl ?_
  refine r_iload_n C dX3_length_20 2 rfl ?_
  refine r_icmp_gt (tgt := 67) C dX3_length_21 (by decide) (fun c => absurd c (by decide)) (fun _ => ?_)
  refine r_iload_n C dX3_length_24 5 rfl ?_
  refine r_iload C dX3_length_25 0 rfl ?_
  refine r_callS (wc := []) (wr := []) (st := []) C (m_X3_layerAt l D cI cL cP cJ lie 0) k_X3_layerAt t_196 [] (show ([] : List Nat).Perm (List.range 0) by decide) rfl rfl rfl (Nat.le_of_ble_eq_true rfl) ⟨Nat.le_of_ble_eq_true rfl, Nat.le_of_ble_eq_true rfl⟩ ⟨Nat.zero_le _, Nat.zero_le _⟩ dX3_length_27 (fun r10 wr10 hw10 => ?_)
  obtain ⟨e_r10, rfl⟩ := hw10
  refine r_ws (I' := []) rfl ?_
  refine r_istore (L' := [(5, .int r10), (4, .int 0), (3, .int r9), (2, .int 1), (1, .int x8), (0, .int lie)]) C dX3_length_30 (by decide) rfl ?_
  refine r_iload_n C dX3_length_32 4 rfl ?_
  refine r_iload C dX3_length_33 0 rfl ?_
  refine r_iload_n C dX3_length_35 2 rfl ?_
  suffices K : ∀ x12 : Int32, x12 = ((if r10 ≤ r9 then (0) else (1))) → V p l e (rmm 1 23) s m args below meth c 6 D A 0 0 Q [] [(5, .int r10), (4, .int 0), (3, .int r9), (2, .int 1), (1, .int x8), (0, .int lie)] 44 [.int x12, .int x8] by
    refine r_icmp_le (tgt := 43) C dX3_length_36 (by decide) (fun c11 => ?_) (fun c11 => ?_)
    · refine r_iconst (v := 0) C dX3_length_43 (by decide) ?_
      exact K _ (by simp only [if_pos c11])
    · refine r_iconst (v := 1) C dX3_length_39 (by decide) ?_
      refine r_goto (tgt := 44) C dX3_length_40 (by decide) ?_
      exact K _ (by simp only [if_neg c11])
  intro x12 e_x12
  refine r_iadd C dX3_length_44 rfl ?_
  refine r_top (fun x13 e_x13 => ?_)
  refine r_istore_n (L' := [(1, .int x13), (5, .int r10), (4, .int 0), (3, .int r9), (2, .int 1), (0, .int lie)]) C dX3_length_45 (by decide) rfl ?_
  refine r_iload_n C dX3_length_46 0 rfl ?_
  refine r_iload C dX3_length_47 1 rfl ?_
  refine r_iload_n C dX3_length_49 3 rfl ?_
  refine r_iadd C dX3_length_50 rfl ?_
  suffices K : ∀ x15 : Int32, x15 = ((if 0 ≤ (r10 + r9) then (0) else (1))) → V p l e (rmm 1 23) s m args below meth c 6 D A 0 0 Q [] [(1, .int x13), (5, .int r10), (4, .int 0), (3, .int r9), (2, .int 1), (0, .int lie)] 59 [.int x15, .int x13] by
    refine r_if_ge (tgt := 58) C dX3_length_51 (by decide) (fun c14 => ?_) (fun c14 => ?_)
    · refine r_iconst (v := 0) C dX3_length_58 (by decide) ?_
      exact K _ (by simp only [if_pos c14])
    · refine r_iconst (v := 1) C dX3_length_54 (by decide) ?_
      refine r_goto (tgt := 59) C dX3_length_55 (by decide) ?_
      exact K _ (by simp only [if_neg c14])
  intro x15 e_x15
  refine r_iadd C dX3_length_59 rfl ?_
  refine r_top (fun x16 e_x16 => ?_)
  refine r_istore_n (L' := [(1, .int x16), (5, .int r10), (4, .int 0), (3, .int r9), (2, .int 1), (0, .int lie)]) C dX3_length_60 (by decide) rfl ?_
  refine r_iinc (v := 1) (L' := [(4, .int 1), (1, .int x16), (5, .int r10), (3, .int r9), (2, .int 1), (0, .int lie)]) C dX3_length_61 2 rfl (by decide) (by decide) rfl ?_
  refine r_goto (tgt := 18) C dX3_length_64 (by decide) ?_
  refine r_iload C dX3_length_18 0 rfl ?_
  refine r_iload_n C dX3_length_20 4 rfl ?_
  refine r_icmp_gt (tgt := 67) C dX3_length_21 (by decide) (fun c => absurd c (by decide)) (fun _ => ?_)
  refine r_iload_n C dX3_length_24 5 rfl ?_
  refine r_iload C dX3_length_25 0 rfl ?_
  refine r_callS (wc := []) (wr := []) (st := []) C (m_X3_layerAt l D cI cL cP cJ lie 1) k_X3_layerAt t_196 [] (show ([] : List Nat).Perm (List.range 0) by decide) rfl rfl rfl (Nat.le_of_ble_eq_true rfl) ⟨Nat.le_of_ble_eq_true rfl, Nat.le_of_ble_eq_true rfl⟩ ⟨Nat.zero_le _, Nat.zero_le _⟩ dX3_length_27 (fun r17 wr17 hw17 => ?_)
  obtain ⟨e_r17, rfl⟩ := hw17
  refine r_ws (I' := []) rfl ?_
  refine r_istore (L' := [(5, .int r17), (4, .int 1), (1, .int x16), (3, .int r9), (2, .int 1), (0, .int lie)]) C dX3_length_30 (by decide) rfl ?_
  refine r_iload_n C dX3_length_32 2 rfl ?_
  refine r_iload C dX3_length_33 0 rfl ?_
  refine r_iload_n C dX3_length_35 3 rfl ?_
  suffices K : ∀ x19 : Int32, x19 = ((if r17 ≤ r9 then (0) else (1))) → V p l e (rmm 1 23) s m args below meth c 6 D A 0 0 Q [] [(5, .int r17), (4, .int 1), (1, .int x16), (3, .int r9), (2, .int 1), (0, .int lie)] 44 [.int x19, .int x16] by
    refine r_icmp_le (tgt := 43) C dX3_length_36 (by decide) (fun c18 => ?_) (fun c18 => ?_)
    · refine r_iconst (v := 0) C dX3_length_43 (by decide) ?_
      exact K _ (by simp only [if_pos c18])
    · refine r_iconst (v := 1) C dX3_length_39 (by decide) ?_
      refine r_goto (tgt := 44) C dX3_length_40 (by decide) ?_
      exact K _ (by simp only [if_neg c18])
  intro x19 e_x19
  refine r_iadd C dX3_length_44 rfl ?_
  refine r_top (fun x20 e_x20 => ?_)
  refine r_istore_n (L' := [(1, .int x20), (5, .int r17), (4, .int 1), (3, .int r9), (2, .int 1), (0, .int lie)]) C dX3_length_45 (by decide) rfl ?_
  refine r_iload_n C dX3_length_46 0 rfl ?_
  refine r_iload C dX3_length_47 1 rfl ?_
  refine r_iload_n C dX3_length_49 3 rfl ?_
  refine r_iadd C dX3_length_50 rfl ?_
  suffices K : ∀ x22 : Int32, x22 = ((if 0 ≤ (r17 + r9) then (0) else (1))) → V p l e (rmm 1 23) s m args below meth c 6 D A 0 0 Q [] [(1, .int x20), (5, .int r17), (4, .int 1), (3, .int r9), (2, .int 1), (0, .int lie)] 59 [.int x22, .int x20] by
    refine r_if_ge (tgt := 58) C dX3_length_51 (by decide) (fun c21 => ?_) (fun c21 => ?_)
    · refine r_iconst (v := 0) C dX3_length_58 (by decide) ?_
      exact K _ (by simp only [if_pos c21])
    · refine r_iconst (v := 1) C dX3_length_54 (by decide) ?_
      refine r_goto (tgt := 59) C dX3_length_55 (by decide) ?_
      exact K _ (by simp only [if_neg c21])
  intro x22 e_x22
  refine r_iadd C dX3_length_59 rfl ?_
  refine r_top (fun x23 e_x23 => ?_)
  refine r_istore_n (L' := [(1, .int x23), (5, .int r17), (4, .int 1), (3, .int r9), (2, .int 1), (0, .int lie)]) C dX3_length_60 (by decide) rfl ?_
  refine r_iinc (v := 2) (L' := [(4, .int 2), (1, .int x23), (5, .int r17), (3, .int r9), (2, .int 1), (0, .int lie)]) C dX3_length_61 2 rfl (by decide) (by decide) rfl ?_
  refine r_goto (tgt := 18) C dX3_length_64 (by decide) ?_
  refine r_iload C dX3_length_18 0 rfl ?_
  refine r_iload_n C dX3_length_20 4 rfl ?_
  refine r_icmp_gt (tgt := 67) C dX3_length_21 (by decide) (fun _ => ?_) (fun c => absurd c (by decide))
  refine r_iinc (v := 2) (L' := [(2, .int 2), (4, .int 2), (1, .int x23), (5, .int r17), (3, .int r9), (0, .int lie)]) C dX3_length_67 4 rfl (by decide) (by decide) rfl ?_
  refine r_goto (tgt := 4) C dX3_length_70 (by decide) ?_
  refine r_iload_n C dX3_length_4 0 rfl ?_
  refine r_iconst (v := 4) C dX3_length_5 (by decide) ?_
  refine r_icmp_ge (tgt := 73) C dX3_length_6 (by decide) (fun c => absurd c (by decide)) (fun _ => ?_)
  refine r_iload_n C dX3_length_9 5 rfl ?_
  refine r_iload_n C dX3_length_10 0 rfl ?_
  refine r_callS (wc := []) (wr := []) (st := []) C (m_X3_layerAt l D cI cL cP cJ lie 2) k_X3_layerAt t_196 [] (show ([] : List Nat).Perm (List.range 0) by decide) rfl rfl rfl (Nat.le_of_ble_eq_true rfl) ⟨Nat.le_of_ble_eq_true rfl, Nat.le_of_ble_eq_true rfl⟩ ⟨Nat.zero_le _, Nat.zero_le _⟩ dX3_length_11 (fun r24 wr24 hw24 => ?_)
  obtain ⟨e_r24, rfl⟩ := hw24
  refine r_ws (I' := []) rfl ?_
  refine r_istore_n (L' := [(3, .int r24), (2, .int 2), (4, .int 2), (1, .int x23), (5, .int r17), (0, .int lie)]) C dX3_length_14 (by decide) rfl ?_
  refine r_iconst (v := 0) C dX3_length_15 (by decide) ?_
  refine r_istore (L' := [(4, .int 0), (3, .int r24), (2, .int 2), (1, .int x23), (5, .int r17), (0, .int lie)]) C dX3_length_16 (by decide) rfl ?_
  refine r_iload C dX3_length_18 0 rfl ?_
  refine r_iload_n C dX3_length_20 2 rfl ?_
  refine r_icmp_gt (tgt := 67) C dX3_length_21 (by decide) (fun c => absurd c (by decide)) (fun _ => ?_)
  refine r_iload_n C dX3_length_24 5 rfl ?_
  refine r_iload C dX3_length_25 0 rfl ?_
  refine r_callS (wc := []) (wr := []) (st := []) C (m_X3_layerAt l D cI cL cP cJ lie 0) k_X3_layerAt t_196 [] (show ([] : List Nat).Perm (List.range 0) by decide) rfl rfl rfl (Nat.le_of_ble_eq_true rfl) ⟨Nat.le_of_ble_eq_true rfl, Nat.le_of_ble_eq_true rfl⟩ ⟨Nat.zero_le _, Nat.zero_le _⟩ dX3_length_27 (fun r25 wr25 hw25 => ?_)
  obtain ⟨e_r25, rfl⟩ := hw25
  refine r_ws (I' := []) rfl ?_
  refine r_istore (L' := [(5, .int r25), (4, .int 0), (3, .int r24), (2, .int 2), (1, .int x23), (0, .int lie)]) C dX3_length_30 (by decide) rfl ?_
  refine r_iload_n C dX3_length_32 4 rfl ?_
  refine r_iload C dX3_length_33 0 rfl ?_
  refine r_iload_n C dX3_length_35 2 rfl ?_
  suffices K : ∀ x27 : Int32, x27 = ((if r25 ≤ r24 then (0) else (1))) → V p l e (rmm 1 23) s m args below meth c 6 D A 0 0 Q [] [(5, .int r25), (4, .int 0), (3, .int r24), (2, .int 2), (1, .int x23), (0, .int lie)] 44 [.int x27, .int x23] by
    refine r_icmp_le (tgt := 43) C dX3_length_36 (by decide) (fun c26 => ?_) (fun c26 => ?_)
    · refine r_iconst (v := 0) C dX3_length_43 (by decide) ?_
      exact K _ (by simp only [if_pos c26])
    · refine r_iconst (v := 1) C dX3_length_39 (by decide) ?_
      refine r_goto (tgt := 44) C dX3_length_40 (by decide) ?_
      exact K _ (by simp only [if_neg c26])
  intro x27 e_x27
  refine r_iadd C dX3_length_44 rfl ?_
  refine r_top (fun x28 e_x28 => ?_)
  refine r_istore_n (L' := [(1, .int x28), (5, .int r25), (4, .int 0), (3, .int r24), (2, .int 2), (0, .int lie)]) C dX3_length_45 (by decide) rfl ?_
  refine r_iload_n C dX3_length_46 0 rfl ?_
  refine r_iload C dX3_length_47 1 rfl ?_
  refine r_iload_n C dX3_length_49 3 rfl ?_
  refine r_iadd C dX3_length_50 rfl ?_
  suffices K : ∀ x30 : Int32, x30 = ((if 0 ≤ (r25 + r24) then (0) else (1))) → V p l e (rmm 1 23) s m args below meth c 6 D A 0 0 Q [] [(1, .int x28), (5, .int r25), (4, .int 0), (3, .int r24), (2, .int 2), (0, .int lie)] 59 [.int x30, .int x28] by
    refine r_if_ge (tgt := 58) C dX3_length_51 (by decide) (fun c29 => ?_) (fun c29 => ?_)
    · refine r_iconst (v := 0) C dX3_length_58 (by decide) ?_
      exact K _ (by simp only [if_pos c29])
    · refine r_iconst (v := 1) C dX3_length_54 (by decide) ?_
      refine r_goto (tgt := 59) C dX3_length_55 (by decide) ?_
      exact K _ (by simp only [if_neg c29])
  intro x30 e_x30
  refine r_iadd C dX3_length_59 rfl ?_
  refine r_top (fun x31 e_x31 => ?_)
  refine r_istore_n (L' := [(1, .int x31), (5, .int r25), (4, .int 0), (3, .int r24), (2, .int 2), (0, .int lie)]) C dX3_length_60 (by decide) rfl ?_
  refine r_iinc (v := 1) (L' := [(4, .int 1), (1, .int x31), (5, .int r25), (3, .int r24), (2, .int 2), (0, .int lie)]) C dX3_length_61 2 rfl (by decide) (by decide) rfl ?_
  refine r_goto (tgt := 18) C dX3_length_64 (by decide) ?_
  refine r_iload C dX3_length_18 0 rfl ?_
  refine r_iload_n C dX3_length_20 4 rfl ?_
  refine r_icmp_gt (tgt := 67) C dX3_length_21 (by decide) (fun c => absurd c (by decide)) (fun _ => ?_)
  refine r_iload_n C dX3_length_24 5 rfl ?_
  refine r_iload C dX3_length_25 0 rfl ?_
  refine r_callS (wc := []) (wr := []) (st := []) C (m_X3_layerAt l D cI cL cP cJ lie 1) k_X3_layerAt t_196 [] (show ([] : List Nat).Perm (List.range 0) by decide) rfl rfl rfl (Nat.le_of_ble_eq_true rfl) ⟨Nat.le_of_ble_eq_true rfl, Nat.le_of_ble_eq_true rfl⟩ ⟨Nat.zero_le _, Nat.zero_le _⟩ dX3_length_27 (fun r32 wr32 hw32 => ?_)
  obtain ⟨e_r32, rfl⟩ := hw32
  refine r_ws (I' := []) rfl ?_
  refine r_istore (L' := [(5, .int r32), (4, .int 1), (1, .int x31), (3, .int r24), (2, .int 2), (0, .int lie)]) C dX3_length_30 (by decide) rfl ?_
  refine r_iload_n C dX3_length_32 2 rfl ?_
  refine r_iload C dX3_length_33 0 rfl ?_
  refine r_iload_n C dX3_length_35 3 rfl ?_
  suffices K : ∀ x34 : Int32, x34 = ((if r32 ≤ r24 then (0) else (1))) → V p l e (rmm 1 23) s m args below meth c 6 D A 0 0 Q [] [(5, .int r32), (4, .int 1), (1, .int x31), (3, .int r24), (2, .int 2), (0, .int lie)] 44 [.int x34, .int x31] by
    refine r_icmp_le (tgt := 43) C dX3_length_36 (by decide) (fun c33 => ?_) (fun c33 => ?_)
    · refine r_iconst (v := 0) C dX3_length_43 (by decide) ?_
      exact K _ (by simp only [if_pos c33])
    · refine r_iconst (v := 1) C dX3_length_39 (by decide) ?_
      refine r_goto (tgt := 44) C dX3_length_40 (by decide) ?_
      exact K _ (by simp only [if_neg c33])
  intro x34 e_x34
  refine r_iadd C dX3_length_44 rfl ?_
  refine r_top (fun x35 e_x35 => ?_)
  refine r_istore_n (L' := [(1, .int x35), (5, .int r32), (4, .int 1), (3, .int r24), (2, .int 2), (0, .int lie)]) C dX3_length_45 (by decide) rfl ?_
  refine r_iload_n C dX3_length_46 0 rfl ?_
  refine r_iload C dX3_length_47 1 rfl ?_
  refine r_iload_n C dX3_length_49 3 rfl ?_
  refine r_iadd C dX3_length_50 rfl ?_
  suffices K : ∀ x37 : Int32, x37 = ((if 0 ≤ (r32 + r24) then (0) else (1))) → V p l e (rmm 1 23) s m args below meth c 6 D A 0 0 Q [] [(1, .int x35), (5, .int r32), (4, .int 1), (3, .int r24), (2, .int 2), (0, .int lie)] 59 [.int x37, .int x35] by
    refine r_if_ge (tgt := 58) C dX3_length_51 (by decide) (fun c36 => ?_) (fun c36 => ?_)
    · refine r_iconst (v := 0) C dX3_length_58 (by decide) ?_
      exact K _ (by simp only [if_pos c36])
    · refine r_iconst (v := 1) C dX3_length_54 (by decide) ?_
      refine r_goto (tgt := 59) C dX3_length_55 (by decide) ?_
      exact K _ (by simp only [if_neg c36])
  intro x37 e_x37
  refine r_iadd C dX3_length_59 rfl ?_
  refine r_top (fun x38 e_x38 => ?_)
  refine r_istore_n (L' := [(1, .int x38), (5, .int r32), (4, .int 1), (3, .int r24), (2, .int 2), (0, .int lie)]) C dX3_length_60 (by decide) rfl ?_
  refine r_iinc (v := 2) (L' := [(4, .int 2), (1, .int x38), (5, .int r32), (3, .int r24), (2, .int 2), (0, .int lie)]) C dX3_length_61 2 rfl (by decide) (by decide) rfl ?_
  refine r_goto (tgt := 18) C dX3_length_64 (by decide) ?_
  refine r_iload C dX3_length_18 0 rfl ?_
  refine r_iload_n C dX3_length_20 4 rfl ?_
  refine r_icmp_gt (tgt := 67) C dX3_length_21 (by decide) (fun c => absurd c (by decide)) (fun _ => ?_)
  refine r_iload_n C dX3_length_24 5 rfl ?_
  refine r_iload C dX3_length_25 0 rfl ?_
  refine r_callS (wc := []) (wr := []) (st := []) C (m_X3_layerAt l D cI cL cP cJ lie 2) k_X3_layerAt t_196 [] (show ([] : List Nat).Perm (List.range 0) by decide) rfl rfl rfl (Nat.le_of_ble_eq_true rfl) ⟨Nat.le_of_ble_eq_true rfl, Nat.le_of_ble_eq_true rfl⟩ ⟨Nat.zero_le _, Nat.zero_le _⟩ dX3_length_27 (fun r39 wr39 hw39 => ?_)
  obtain ⟨e_r39, rfl⟩ := hw39
  refine r_ws (I' := []) rfl ?_
  refine r_istore (L' := [(5, .int r39), (4, .int 2), (1, .int x38), (3, .int r24), (2, .int 2), (0, .int lie)]) C dX3_length_30 (by decide) rfl ?_
  refine r_iload_n C dX3_length_32 2 rfl ?_
  refine r_iload C dX3_length_33 0 rfl ?_
  refine r_iload_n C dX3_length_35 3 rfl ?_
  suffices K : ∀ x41 : Int32, x41 = ((if r39 ≤ r24 then (0) else (1))) → V p l e (rmm 1 23) s m args below meth c 6 D A 0 0 Q [] [(5, .int r39), (4, .int 2), (1, .int x38), (3, .int r24), (2, .int 2), (0, .int lie)] 44 [.int x41, .int x38] by
    refine r_icmp_le (tgt := 43) C dX3_length_36 (by decide) (fun c40 => ?_) (fun c40 => ?_)
    · refine r_iconst (v := 0) C dX3_length_43 (by decide) ?_
      exact K _ (by simp only [if_pos c40])
    · refine r_iconst (v := 1) C dX3_length_39 (by decide) ?_
      refine r_goto (tgt := 44) C dX3_length_40 (by decide) ?_
      exact K _ (by simp only [if_neg c40])
  intro x41 e_x41
  refine r_iadd C dX3_length_44 rfl ?_
  refine r_top (fun x42 e_x42 => ?_)
  refine r_istore_n (L' := [(1, .int x42), (5, .int r39), (4, .int 2), (3, .int r24), (2, .int 2), (0, .int lie)]) C dX3_length_45 (by decide) rfl ?_
  refine r_iload_n C dX3_length_46 0 rfl ?_
  refine r_iload C dX3_length_47 1 rfl ?_
  refine r_iload_n C dX3_length_49 3 rfl ?_
  refine r_iadd C dX3_length_50 rfl ?_
  suffices K : ∀ x44 : Int32, x44 = ((if 0 ≤ (r39 + r24) then (0) else (1))) → V p l e (rmm 1 23) s m args below meth c 6 D A 0 0 Q [] [(1, .int x42), (5, .int r39), (4, .int 2), (3, .int r24), (2, .int 2), (0, .int lie)] 59 [.int x44, .int x42] by
    refine r_if_ge (tgt := 58) C dX3_length_51 (by decide) (fun c43 => ?_) (fun c43 => ?_)
    · refine r_iconst (v := 0) C dX3_length_58 (by decide) ?_
      exact K _ (by simp only [if_pos c43])
    · refine r_iconst (v := 1) C dX3_length_54 (by decide) ?_
      refine r_goto (tgt := 59) C dX3_length_55 (by decide) ?_
      exact K _ (by simp only [if_neg c43])
  intro x44 e_x44
  refine r_iadd C dX3_length_59 rfl ?_
  refine r_top (fun x45 e_x45 => ?_)
  refine r_istore_n (L' := [(1, .int x45), (5, .int r39), (4, .int 2), (3, .int r24), (2, .int 2), (0, .int lie)]) C dX3_length_60 (by decide) rfl ?_
  refine r_iinc (v := 3) (L' := [(4, .int 3), (1, .int x45), (5, .int r39), (3, .int r24), (2, .int 2), (0, .int lie)]) C dX3_length_61 2 rfl (by decide) (by decide) rfl ?_
  refine r_goto (tgt := 18) C dX3_length_64 (by decide) ?_
  refine r_iload C dX3_length_18 0 rfl ?_
  refine r_iload_n C dX3_length_20 4 rfl ?_
  refine r_icmp_gt (tgt := 67) C dX3_length_21 (by decide) (fun _ => ?_) (fun c => absurd c (by decide))
  refine r_iinc (v := 3) (L' := [(2, .int 3), (4, .int 3), (1, .int x45), (5, .int r39), (3, .int r24), (0, .int lie)]) C dX3_length_67 4 rfl (by decide) (by decide) rfl ?_
  refine r_goto (tgt := 4) C dX3_length_70 (by decide) ?_
  refine r_iload_n C dX3_length_4 0 rfl ?_
  refine r_iconst (v := 4) C dX3_length_5 (by decide) ?_
  refine r_icmp_ge (tgt := 73) C dX3_length_6 (by decide) (fun c => absurd c (by decide)) (fun _ => ?_)
  refine r_iload_n C dX3_length_9 5 rfl ?_
  refine r_iload_n C dX3_length_10 0 rfl ?_
  refine r_callS (wc := []) (wr := []) (st := []) C (m_X3_layerAt l D cI cL cP cJ lie 3) k_X3_layerAt t_196 [] (show ([] : List Nat).Perm (List.range 0) by decide) rfl rfl rfl (Nat.le_of_ble_eq_true rfl) ⟨Nat.le_of_ble_eq_true rfl, Nat.le_of_ble_eq_true rfl⟩ ⟨Nat.zero_le _, Nat.zero_le _⟩ dX3_length_11 (fun r46 wr46 hw46 => ?_)
  obtain ⟨e_r46, rfl⟩ := hw46
  refine r_ws (I' := []) rfl ?_
  refine r_istore_n (L' := [(3, .int r46), (2, .int 3), (4, .int 3), (1, .int x45), (5, .int r39), (0, .int lie)]) C dX3_length_14 (by decide) rfl ?_
  refine r_iconst (v := 0) C dX3_length_15 (by decide) ?_
  refine r_istore (L' := [(4, .int 0), (3, .int r46), (2, .int 3), (1, .int x45), (5, .int r39), (0, .int lie)]) C dX3_length_16 (by decide) rfl ?_
  refine r_iload C dX3_length_18 0 rfl ?_
  refine r_iload_n C dX3_length_20 2 rfl ?_
  refine r_icmp_gt (tgt := 67) C dX3_length_21 (by decide) (fun c => absurd c (by decide)) (fun _ => ?_)
  refine r_iload_n C dX3_length_24 5 rfl ?_
  refine r_iload C dX3_length_25 0 rfl ?_
  refine r_callS (wc := []) (wr := []) (st := []) C (m_X3_layerAt l D cI cL cP cJ lie 0) k_X3_layerAt t_196 [] (show ([] : List Nat).Perm (List.range 0) by decide) rfl rfl rfl (Nat.le_of_ble_eq_true rfl) ⟨Nat.le_of_ble_eq_true rfl, Nat.le_of_ble_eq_true rfl⟩ ⟨Nat.zero_le _, Nat.zero_le _⟩ dX3_length_27 (fun r47 wr47 hw47 => ?_)
  obtain ⟨e_r47, rfl⟩ := hw47
  refine r_ws (I' := []) rfl ?_
  refine r_istore (L' := [(5, .int r47), (4, .int 0), (3, .int r46), (2, .int 3), (1, .int x45), (0, .int lie)]) C dX3_length_30 (by decide) rfl ?_
  refine r_iload_n C dX3_length_32 4 rfl ?_
  refine r_iload C dX3_length_33 0 rfl ?_
  refine r_iload_n C dX3_length_35 2 rfl ?_
  suffices K : ∀ x49 : Int32, x49 = ((if r47 ≤ r46 then (0) else (1))) → V p l e (rmm 1 23) s m args below meth c 6 D A 0 0 Q [] [(5, .int r47), (4, .int 0), (3, .int r46), (2, .int 3), (1, .int x45), (0, .int lie)] 44 [.int x49, .int x45] by
    refine r_icmp_le (tgt := 43) C dX3_length_36 (by decide) (fun c48 => ?_) (fun c48 => ?_)
    · refine r_iconst (v := 0) C dX3_length_43 (by decide) ?_
      exact K _ (by simp only [if_pos c48])
    · refine r_iconst (v := 1) C dX3_length_39 (by decide) ?_
      refine r_goto (tgt := 44) C dX3_length_40 (by decide) ?_
      exact K _ (by simp only [if_neg c48])
  intro x49 e_x49
  refine r_iadd C dX3_length_44 rfl ?_
  refine r_top (fun x50 e_x50 => ?_)
  refine r_istore_n (L' := [(1, .int x50), (5, .int r47), (4, .int 0), (3, .int r46), (2, .int 3), (0, .int lie)]) C dX3_length_45 (by decide) rfl ?_
  refine r_iload_n C dX3_length_46 0 rfl ?_
  refine r_iload C dX3_length_47 1 rfl ?_
  refine r_iload_n C dX3_length_49 3 rfl ?_
  refine r_iadd C dX3_length_50 rfl ?_
  suffices K : ∀ x52 : Int32, x52 = ((if 0 ≤ (r47 + r46) then (0) else (1))) → V p l e (rmm 1 23) s m args below meth c 6 D A 0 0 Q [] [(1, .int x50), (5, .int r47), (4, .int 0), (3, .int r46), (2, .int 3), (0, .int lie)] 59 [.int x52, .int x50] by
    refine r_if_ge (tgt := 58) C dX3_length_51 (by decide) (fun c51 => ?_) (fun c51 => ?_)
    · refine r_iconst (v := 0) C dX3_length_58 (by decide) ?_
      exact K _ (by simp only [if_pos c51])
    · refine r_iconst (v := 1) C dX3_length_54 (by decide) ?_
      refine r_goto (tgt := 59) C dX3_length_55 (by decide) ?_
      exact K _ (by simp only [if_neg c51])
  intro x52 e_x52
  refine r_iadd C dX3_length_59 rfl ?_
  refine r_top (fun x53 e_x53 => ?_)
  refine r_istore_n (L' := [(1, .int x53), (5, .int r47), (4, .int 0), (3, .int r46), (2, .int 3), (0, .int lie)]) C dX3_length_60 (by decide) rfl ?_
  refine r_iinc (v := 1) (L' := [(4, .int 1), (1, .int x53), (5, .int r47), (3, .int r46), (2, .int 3), (0, .int lie)]) C dX3_length_61 2 rfl (by decide) (by decide) rfl ?_
  refine r_goto (tgt := 18) C dX3_length_64 (by decide) ?_
  refine r_iload C dX3_length_18 0 rfl ?_
  refine r_iload_n C dX3_length_20 4 rfl ?_
  refine r_icmp_gt (tgt := 67) C dX3_length_21 (by decide) (fun c => absurd c (by decide)) (fun _ => ?_)
  refine r_iload_n C dX3_length_24 5 rfl ?_
  refine r_iload C dX3_length_25 0 rfl ?_
  refine r_callS (wc := []) (wr := []) (st := []) C (m_X3_layerAt l D cI cL cP cJ lie 1) k_X3_layerAt t_196 [] (show ([] : List Nat).Perm (List.range 0) by decide) rfl rfl rfl (Nat.le_of_ble_eq_true rfl) ⟨Nat.le_of_ble_eq_true rfl, Nat.le_of_ble_eq_true rfl⟩ ⟨Nat.zero_le _, Nat.zero_le _⟩ dX3_length_27 (fun r54 wr54 hw54 => ?_)
  obtain ⟨e_r54, rfl⟩ := hw54
  refine r_ws (I' := []) rfl ?_
  refine r_istore (L' := [(5, .int r54), (4, .int 1), (1, .int x53), (3, .int r46), (2, .int 3), (0, .int lie)]) C dX3_length_30 (by decide) rfl ?_
  refine r_iload_n C dX3_length_32 2 rfl ?_
  refine r_iload C dX3_length_33 0 rfl ?_
  refine r_iload_n C dX3_length_35 3 rfl ?_
  suffices K : ∀ x56 : Int32, x56 = ((if r54 ≤ r46 then (0) else (1))) → V p l e (rmm 1 23) s m args below meth c 6 D A 0 0 Q [] [(5, .int r54), (4, .int 1), (1, .int x53), (3, .int r46), (2, .int 3), (0, .int lie)] 44 [.int x56, .int x53] by
    refine r_icmp_le (tgt := 43) C dX3_length_36 (by decide) (fun c55 => ?_) (fun c55 => ?_)
    · refine r_iconst (v := 0) C dX3_length_43 (by decide) ?_
      exact K _ (by simp only [if_pos c55])
    · refine r_iconst (v := 1) C dX3_length_39 (by decide) ?_
      refine r_goto (tgt := 44) C dX3_length_40 (by decide) ?_
      exact K _ (by simp only [if_neg c55])
  intro x56 e_x56
  refine r_iadd C dX3_length_44 rfl ?_
  refine r_top (fun x57 e_x57 => ?_)
  refine r_istore_n (L' := [(1, .int x57), (5, .int r54), (4, .int 1), (3, .int r46), (2, .int 3), (0, .int lie)]) C dX3_length_45 (by decide) rfl ?_
  refine r_iload_n C dX3_length_46 0 rfl ?_
  refine r_iload C dX3_length_47 1 rfl ?_
  refine r_iload_n C dX3_length_49 3 rfl ?_
  refine r_iadd C dX3_length_50 rfl ?_
  suffices K : ∀ x59 : Int32, x59 = ((if 0 ≤ (r54 + r46) then (0) else (1))) → V p l e (rmm 1 23) s m args below meth c 6 D A 0 0 Q [] [(1, .int x57), (5, .int r54), (4, .int 1), (3, .int r46), (2, .int 3), (0, .int lie)] 59 [.int x59, .int x57] by
    refine r_if_ge (tgt := 58) C dX3_length_51 (by decide) (fun c58 => ?_) (fun c58 => ?_)
    · refine r_iconst (v := 0) C dX3_length_58 (by decide) ?_
      exact K _ (by simp only [if_pos c58])
    · refine r_iconst (v := 1) C dX3_length_54 (by decide) ?_
      refine r_goto (tgt := 59) C dX3_length_55 (by decide) ?_
      exact K _ (by simp only [if_neg c58])
  intro x59 e_x59
  refine r_iadd C dX3_length_59 rfl ?_
  refine r_top (fun x60 e_x60 => ?_)
  refine r_istore_n (L' := [(1, .int x60), (5, .int r54), (4, .int 1), (3, .int r46), (2, .int 3), (0, .int lie)]) C dX3_length_60 (by decide) rfl ?_
  refine r_iinc (v := 2) (L' := [(4, .int 2), (1, .int x60), (5, .int r54), (3, .int r46), (2, .int 3), (0, .int lie)]) C dX3_length_61 2 rfl (by decide) (by decide) rfl ?_
  refine r_goto (tgt := 18) C dX3_length_64 (by decide) ?_
  refine r_iload C dX3_length_18 0 rfl ?_
  refine r_iload_n C dX3_length_20 4 rfl ?_
  refine r_icmp_gt (tgt := 67) C dX3_length_21 (by decide) (fun c => absurd c (by decide)) (fun _ => ?_)
  refine r_iload_n C dX3_length_24 5 rfl ?_
  refine r_iload C dX3_length_25 0 rfl ?_
  refine r_callS (wc := []) (wr := []) (st := []) C (m_X3_layerAt l D cI cL cP cJ lie 2) k_X3_layerAt t_196 [] (show ([] : List Nat).Perm (List.range 0) by decide) rfl rfl rfl (Nat.le_of_ble_eq_true rfl) ⟨Nat.le_of_ble_eq_true rfl, Nat.le_of_ble_eq_true rfl⟩ ⟨Nat.zero_le _, Nat.zero_le _⟩ dX3_length_27 (fun r61 wr61 hw61 => ?_)
  obtain ⟨e_r61, rfl⟩ := hw61
  refine r_ws (I' := []) rfl ?_
  refine r_istore (L' := [(5, .int r61), (4, .int 2), (1, .int x60), (3, .int r46), (2, .int 3), (0, .int lie)]) C dX3_length_30 (by decide) rfl ?_
  refine r_iload_n C dX3_length_32 2 rfl ?_
  refine r_iload C dX3_length_33 0 rfl ?_
  refine r_iload_n C dX3_length_35 3 rfl ?_
  suffices K : ∀ x63 : Int32, x63 = ((if r61 ≤ r46 then (0) else (1))) → V p l e (rmm 1 23) s m args below meth c 6 D A 0 0 Q [] [(5, .int r61), (4, .int 2), (1, .int x60), (3, .int r46), (2, .int 3), (0, .int lie)] 44 [.int x63, .int x60] by
    refine r_icmp_le (tgt := 43) C dX3_length_36 (by decide) (fun c62 => ?_) (fun c62 => ?_)
    · refine r_iconst (v := 0) C dX3_length_43 (by decide) ?_
      exact K _ (by simp only [if_pos c62])
    · refine r_iconst (v := 1) C dX3_length_39 (by decide) ?_
      refine r_goto (tgt := 44) C dX3_length_40 (by decide) ?_
      exact K _ (by simp only [if_neg c62])
  intro x63 e_x63
  refine r_iadd C dX3_length_44 rfl ?_
  refine r_top (fun x64 e_x64 => ?_)
  refine r_istore_n (L' := [(1, .int x64), (5, .int r61), (4, .int 2), (3, .int r46), (2, .int 3), (0, .int lie)]) C dX3_length_45 (by decide) rfl ?_
  refine r_iload_n C dX3_length_46 0 rfl ?_
  refine r_iload C dX3_length_47 1 rfl ?_
  refine r_iload_n C dX3_length_49 3 rfl ?_
  refine r_iadd C dX3_length_50 rfl ?_
  suffices K : ∀ x66 : Int32, x66 = ((if 0 ≤ (r61 + r46) then (0) else (1))) → V p l e (rmm 1 23) s m args below meth c 6 D A 0 0 Q [] [(1, .int x64), (5, .int r61), (4, .int 2), (3, .int r46), (2, .int 3), (0, .int lie)] 59 [.int x66, .int x64] by
    refine r_if_ge (tgt := 58) C dX3_length_51 (by decide) (fun c65 => ?_) (fun c65 => ?_)
    · refine r_iconst (v := 0) C dX3_length_58 (by decide) ?_
      exact K _ (by simp only [if_pos c65])
    · refine r_iconst (v := 1) C dX3_length_54 (by decide) ?_
      refine r_goto (tgt := 59) C dX3_length_55 (by decide) ?_
      exact K _ (by simp only [if_neg c65])
  intro x66 e_x66
  refine r_iadd C dX3_length_59 rfl ?_
  refine r_top (fun x67 e_x67 => ?_)
  refine r_istore_n (L' := [(1, .int x67), (5, .int r61), (4, .int 2), (3, .int r46), (2, .int 3), (0, .int lie)]) C dX3_length_60 (by decide) rfl ?_
  refine r_iinc (v := 3) (L' := [(4, .int 3), (1, .int x67), (5, .int r61), (3, .int r46), (2, .int 3), (0, .int lie)]) C dX3_length_61 2 rfl (by decide) (by decide) rfl ?_
  refine r_goto (tgt := 18) C dX3_length_64 (by decide) ?_
  refine r_iload C dX3_length_18 0 rfl ?_
  refine r_iload_n C dX3_length_20 4 rfl ?_
  refine r_icmp_gt (tgt := 67) C dX3_length_21 (by decide) (fun c => absurd c (by decide)) (fun _ => ?_)
  refine r_iload_n C dX3_length_24 5 rfl ?_
  refine r_iload C dX3_length_25 0 rfl ?_
  refine r_callS (wc := []) (wr := []) (st := []) C (m_X3_layerAt l D cI cL cP cJ lie 3) k_X3_layerAt t_196 [] (show ([] : List Nat).Perm (List.range 0) by decide) rfl rfl rfl (Nat.le_of_ble_eq_true rfl) ⟨Nat.le_of_ble_eq_true rfl, Nat.le_of_ble_eq_true rfl⟩ ⟨Nat.zero_le _, Nat.zero_le _⟩ dX3_length_27 (fun r68 wr68 hw68 => ?_)
  obtain ⟨e_r68, rfl⟩ := hw68
  refine r_ws (I' := []) rfl ?_
  refine r_istore (L' := [(5, .int r68), (4, .int 3), (1, .int x67), (3, .int r46), (2, .int 3), (0, .int lie)]) C dX3_length_30 (by decide) rfl ?_
  refine r_iload_n C dX3_length_32 2 rfl ?_
  refine r_iload C dX3_length_33 0 rfl ?_
  refine r_iload_n C dX3_length_35 3 rfl ?_
  suffices K : ∀ x70 : Int32, x70 = ((if r68 ≤ r46 then (0) else (1))) → V p l e (rmm 1 23) s m args below meth c 6 D A 0 0 Q [] [(5, .int r68), (4, .int 3), (1, .int x67), (3, .int r46), (2, .int 3), (0, .int lie)] 44 [.int x70, .int x67] by
    refine r_icmp_le (tgt := 43) C dX3_length_36 (by decide) (fun c69 => ?_) (fun c69 => ?_)
    · refine r_iconst (v := 0) C dX3_length_43 (by decide) ?_
      exact K _ (by simp only [if_pos c69])
    · refine r_iconst (v := 1) C dX3_length_39 (by decide) ?_
      refine r_goto (tgt := 44) C dX3_length_40 (by decide) ?_
      exact K _ (by simp only [if_neg c69])
  intro x70 e_x70
  refine r_iadd C dX3_length_44 rfl ?_
  refine r_top (fun x71 e_x71 => ?_)
  refine r_istore_n (L' := [(1, .int x71), (5, .int r68), (4, .int 3), (3, .int r46), (2, .int 3), (0, .int lie)]) C dX3_length_45 (by decide) rfl ?_
  refine r_iload_n C dX3_length_46 0 rfl ?_
  refine r_iload C dX3_length_47 1 rfl ?_
  refine r_iload_n C dX3_length_49 3 rfl ?_
  refine r_iadd C dX3_length_50 rfl ?_
  suffices K : ∀ x73 : Int32, x73 = ((if 0 ≤ (r68 + r46) then (0) else (1))) → V p l e (rmm 1 23) s m args below meth c 6 D A 0 0 Q [] [(1, .int x71), (5, .int r68), (4, .int 3), (3, .int r46), (2, .int 3), (0, .int lie)] 59 [.int x73, .int x71] by
    refine r_if_ge (tgt := 58) C dX3_length_51 (by decide) (fun c72 => ?_) (fun c72 => ?_)
    · refine r_iconst (v := 0) C dX3_length_58 (by decide) ?_
      exact K _ (by simp only [if_pos c72])
    · refine r_iconst (v := 1) C dX3_length_54 (by decide) ?_
      refine r_goto (tgt := 59) C dX3_length_55 (by decide) ?_
      exact K _ (by simp only [if_neg c72])
  intro x73 e_x73
  refine r_iadd C dX3_length_59 rfl ?_
  refine r_top (fun x74 e_x74 => ?_)
  refine r_istore_n (L' := [(1, .int x74), (5, .int r68), (4, .int 3), (3, .int r46), (2, .int 3), (0, .int lie)]) C dX3_length_60 (by decide) rfl ?_
  refine r_iinc (v := 4) (L' := [(4, .int 4), (1, .int x74), (5, .int r68), (3, .int r46), (2, .int 3), (0, .int lie)]) C dX3_length_61 2 rfl (by decide) (by decide) rfl ?_
  refine r_goto (tgt := 18) C dX3_length_64 (by decide) ?_
  refine r_iload C dX3_length_18 0 rfl ?_
  refine r_iload_n C dX3_length_20 4 rfl ?_
  refine r_icmp_gt (tgt := 67) C dX3_length_21 (by decide) (fun _ => ?_) (fun c => absurd c (by decide))
  refine r_iinc (v := 4) (L' := [(2, .int 4), (4, .int 4), (1, .int x74), (5, .int r68), (3, .int r46), (0, .int lie)]) C dX3_length_67 4 rfl (by decide) (by decide) rfl ?_
  refine r_goto (tgt := 4) C dX3_length_70 (by decide) ?_
  refine r_iload_n C dX3_length_4 0 rfl ?_
  refine r_iconst (v := 4) C dX3_length_5 (by decide) ?_
  refine r_icmp_ge (tgt := 73) C dX3_length_6 (by decide) (fun _ => ?_) (fun c => absurd c (by decide))
  refine r_iload_n C dX3_length_73 2 rfl ?_
  have eF : F_X3_length lie = x74 := by have q := e_r1.symm; subst q; have q := e_r2.symm; subst q; have q := e_x4.symm; subst q; have q := e_x5.symm; subst q; have q := e_x7.symm; subst q; have q := e_x8.symm; subst q; have q := e_r9.symm; subst q; have q := e_r10.symm; subst q; have q := e_x12.symm; subst q; have q := e_x13.symm; subst q; have q := e_x15.symm; subst q; have q := e_x16.symm; subst q; have q := e_r17.symm; subst q; have q := e_x19.symm; subst q; have q := e_x20.symm; subst q; have q := e_x22.symm; subst q; have q := e_x23.symm; subst q; have q := e_r24.symm; subst q; have q := e_r25.symm; subst q; have q := e_x27.symm; subst q; have q := e_x28.symm; subst q; have q := e_x30.symm; subst q; have q := e_x31.symm; subst q; have q := e_r32.symm; subst q; have q := e_x34.symm; subst q; have q := e_x35.symm; subst q; have q := e_x37.symm; subst q; have q := e_x38.symm; subst q; have q := e_r39.symm; subst q; have q := e_x41.symm; subst q; have q := e_x42.symm; subst q; have q := e_x44.symm; subst q; have q := e_x45.symm; subst q; have q := e_r46.symm; subst q; have q := e_r47.symm; subst q; have q := e_x49.symm; subst q; have q := e_x50.symm; subst q; have q := e_x52.symm; subst q; have q := e_x53.symm; subst q; have q := e_r54.symm; subst q; have q := e_x56.symm; subst q; have q := e_x57.symm; subst q; have q := e_x59.symm; subst q; have q := e_x60.symm; subst q; have q := e_r61.symm; subst q; have q := e_x63.symm; subst q; have q := e_x64.symm; subst q; have q := e_x66.symm; subst q; have q := e_x67.symm; subst q; have q := e_r68.symm; subst q; have q := e_x70.symm; subst q; have q := e_x71.symm; subst q; have q := e_x73.symm; subst q; have q := e_x74.symm; subst q; rfl
  exact r_iret (r := x74) C hA hr hlo dX3_length_74 [] ⟨by simp only [eF], rfl⟩ rfl hQ
theorem k_X3_lengthBetween : kS yX3_lengthBetween cX3_lengthBetween 2 (some .int) 2 := ⟨t_495, t_20, t_496, by decide +kernel, by decide +kernel, by decide +kernel⟩
set_option maxRecDepth 20000 in
def F_X3_lengthBetween (u : Int32) (w : Int32) : Int32 := let r1 : Int32 := F_X3_reversed u; let r2 : Int32 := F_X3_joined r1 w; let r3 : Int32 := F_X3_length r2; r3
set_option maxRecDepth 20000 in
set_option maxHeartbeats 8000000 in
theorem m_X3_lengthBetween (l : Launch) (D : va_G) (cI cL cP cJ : ClassId) (u : Int32) (w : Int32) : M vI l yX3_lengthBetween cX3_lengthBetween 2 (some .int) 2 48 D (tyF cI cL cP cJ) [.int u, .int w] [] (fun (r : Int32) (w1 : List va_W) => r = (F_X3_lengthBetween u w) ∧ w1 = []) := by
  refine m_start (by decide +kernel) (Nat.le_of_ble_eq_true rfl) (fun p e s m args below meth c A Q hA hQ C hr hlo => ?_)
  refine r_Le (L' := [(0, .int u), (1, .int w)]) rfl ?_
  refine r_iload_n C dX3_lengthBetween_0 0 rfl ?_
  refine r_callS (wc := []) (wr := []) (st := []) C (m_X3_reversed l D cI cL cP cJ u) k_X3_reversed t_481 [] (show ([] : List Nat).Perm (List.range 0) by decide) rfl rfl rfl (Nat.le_of_ble_eq_true rfl) ⟨Nat.le_of_ble_eq_true rfl, Nat.le_of_ble_eq_true rfl⟩ ⟨Nat.zero_le _, Nat.zero_le _⟩ dX3_lengthBetween_1 (fun r1 wr1 hw1 => ?_)
  obtain ⟨e_r1, rfl⟩ := hw1
  refine r_ws (I' := []) rfl ?_
  refine r_iload_n C dX3_lengthBetween_4 1 rfl ?_
  refine r_callS (wc := []) (wr := []) (st := []) C (m_X3_joined l D cI cL cP cJ r1 w) k_X3_joined t_218 [] (show ([] : List Nat).Perm (List.range 0) by decide) rfl rfl rfl (Nat.le_of_ble_eq_true rfl) ⟨Nat.le_of_ble_eq_true rfl, Nat.le_of_ble_eq_true rfl⟩ ⟨Nat.zero_le _, Nat.zero_le _⟩ dX3_lengthBetween_5 (fun r2 wr2 hw2 => ?_)
  obtain ⟨e_r2, rfl⟩ := hw2
  refine r_ws (I' := []) rfl ?_
  refine r_callS (wc := []) (wr := []) (st := []) C (m_X3_length l D cI cL cP cJ r2) k_X3_length t_233 [] (show ([] : List Nat).Perm (List.range 0) by decide) rfl rfl rfl (Nat.le_of_ble_eq_true rfl) ⟨Nat.le_of_ble_eq_true rfl, Nat.le_of_ble_eq_true rfl⟩ ⟨Nat.zero_le _, Nat.zero_le _⟩ dX3_lengthBetween_8 (fun r3 wr3 hw3 => ?_)
  obtain ⟨e_r3, rfl⟩ := hw3
  refine r_ws (I' := []) rfl ?_
  have eF : F_X3_lengthBetween u w = r3 := by have q := e_r1.symm; subst q; have q := e_r2.symm; subst q; have q := e_r3.symm; subst q; rfl
  exact r_iret (r := r3) C hA hr hlo dX3_lengthBetween_11 [] ⟨by simp only [eF], rfl⟩ rfl hQ
theorem k_X3_isShortenedBy : kS yX3_isShortenedBy cX3_isShortenedBy 2 (some .boolean) 2 := ⟨t_206, t_20, t_207, by decide +kernel, by decide +kernel, by decide +kernel⟩
set_option maxRecDepth 20000 in
def F_X3_isShortenedBy (lie : Int32) (i : Int32) : Int32 := (if i = 0 then (let r6 : Int32 := F_X3_layerAt lie 0; let x8 : Int32 := (if 0 ≤ r6 then (0) else (1)); x8) else (let r2 : Int32 := F_X3_layerAt lie (i - 1); let r3 : Int32 := F_X3_layerAt lie i; let x5 : Int32 := (if r2 ≤ r3 then (0) else (1)); x5))
set_option maxRecDepth 20000 in
set_option maxHeartbeats 8000000 in
theorem m_X3_isShortenedBy (l : Launch) (D : va_G) (cI cL cP cJ : ClassId) (lie : Int32) (i : Int32) : M vI l yX3_isShortenedBy cX3_isShortenedBy 2 (some .boolean) 1 23 D (tyF cI cL cP cJ) [.int lie, .int i] [] (fun (r : Int32) (w1 : List va_W) => r = (F_X3_isShortenedBy lie i) ∧ w1 = []) := by
  refine m_start (by decide +kernel) (Nat.le_of_ble_eq_true rfl) (fun p e s m args below meth c A Q hA hQ C hr hlo => ?_)
  refine r_Le (L' := [(0, .int lie), (1, .int i)]) rfl ?_
  refine r_iload_n C dX3_isShortenedBy_0 1 rfl ?_
  refine r_if_ne (tgt := 18) C dX3_isShortenedBy_1 (by decide) (fun c1 => ?_) (fun c1 => ?_)
  · refine r_iload_n C dX3_isShortenedBy_18 0 rfl ?_
    refine r_iload_n C dX3_isShortenedBy_19 1 rfl ?_
    refine r_iconst (v := 1) C dX3_isShortenedBy_20 (by decide) ?_
    refine r_isub C dX3_isShortenedBy_21 rfl ?_
    refine r_callS (wc := []) (wr := []) (st := []) C (m_X3_layerAt l D cI cL cP cJ lie (i - 1)) k_X3_layerAt t_196 [] (show ([] : List Nat).Perm (List.range 0) by decide) rfl rfl rfl (Nat.le_of_ble_eq_true rfl) ⟨Nat.le_of_ble_eq_true rfl, Nat.le_of_ble_eq_true rfl⟩ ⟨Nat.zero_le _, Nat.zero_le _⟩ dX3_isShortenedBy_22 (fun r2 wr2 hw2 => ?_)
    obtain ⟨e_r2, rfl⟩ := hw2
    refine r_ws (I' := []) rfl ?_
    refine r_iload_n C dX3_isShortenedBy_25 0 rfl ?_
    refine r_iload_n C dX3_isShortenedBy_26 1 rfl ?_
    refine r_callS (wc := []) (wr := []) (st := [.int r2]) C (m_X3_layerAt l D cI cL cP cJ lie i) k_X3_layerAt t_196 [] (show ([] : List Nat).Perm (List.range 0) by decide) rfl rfl rfl (Nat.le_of_ble_eq_true rfl) ⟨Nat.le_of_ble_eq_true rfl, Nat.le_of_ble_eq_true rfl⟩ ⟨Nat.zero_le _, Nat.zero_le _⟩ dX3_isShortenedBy_27 (fun r3 wr3 hw3 => ?_)
    obtain ⟨e_r3, rfl⟩ := hw3
    refine r_ws (I' := []) rfl ?_
    suffices K : ∀ x5 : Int32, x5 = ((if r2 ≤ r3 then (0) else (1))) → V p l e (rmm 1 23) s m args below meth c 2 D A 0 0 Q [] [(0, .int lie), (1, .int i)] 38 [.int x5] by
      refine r_icmp_le (tgt := 37) C dX3_isShortenedBy_30 (by decide) (fun c4 => ?_) (fun c4 => ?_)
      · refine r_iconst (v := 0) C dX3_isShortenedBy_37 (by decide) ?_
        exact K _ (by simp only [if_pos c4])
      · refine r_iconst (v := 1) C dX3_isShortenedBy_33 (by decide) ?_
        refine r_goto (tgt := 38) C dX3_isShortenedBy_34 (by decide) ?_
        exact K _ (by simp only [if_neg c4])
    intro x5 e_x5
    have eF : F_X3_isShortenedBy lie i = x5 := by have q := e_r2.symm; subst q; have q := e_r3.symm; subst q; have q := e_x5.symm; subst q; simp only [F_X3_isShortenedBy, if_neg c1]
    exact r_zret (r := x5) C hA hr hlo (nb01 (by first | (rw [e_x5]; (try dsimp only); ((repeat' split) <;> (first | exact Or.inl rfl | exact Or.inr rfl))) | (have q := e_r2.symm; subst q; have q := e_r3.symm; subst q; have q := e_x5.symm; subst q; (try dsimp only); ((repeat' split) <;> (first | exact Or.inl rfl | exact Or.inr rfl))))) dX3_isShortenedBy_38 [] ⟨by simp only [eF], rfl⟩ rfl hQ
  · refine r_iload_n C dX3_isShortenedBy_4 0 rfl ?_
    refine r_iconst (v := 0) C dX3_isShortenedBy_5 (by decide) ?_
    refine r_callS (wc := []) (wr := []) (st := []) C (m_X3_layerAt l D cI cL cP cJ lie 0) k_X3_layerAt t_196 [] (show ([] : List Nat).Perm (List.range 0) by decide) rfl rfl rfl (Nat.le_of_ble_eq_true rfl) ⟨Nat.le_of_ble_eq_true rfl, Nat.le_of_ble_eq_true rfl⟩ ⟨Nat.zero_le _, Nat.zero_le _⟩ dX3_isShortenedBy_6 (fun r6 wr6 hw6 => ?_)
    obtain ⟨e_r6, rfl⟩ := hw6
    refine r_ws (I' := []) rfl ?_
    suffices K : ∀ x8 : Int32, x8 = ((if 0 ≤ r6 then (0) else (1))) → V p l e (rmm 1 23) s m args below meth c 2 D A 0 0 Q [] [(0, .int lie), (1, .int i)] 17 [.int x8] by
      refine r_if_ge (tgt := 16) C dX3_isShortenedBy_9 (by decide) (fun c7 => ?_) (fun c7 => ?_)
      · refine r_iconst (v := 0) C dX3_isShortenedBy_16 (by decide) ?_
        exact K _ (by simp only [if_pos c7])
      · refine r_iconst (v := 1) C dX3_isShortenedBy_12 (by decide) ?_
        refine r_goto (tgt := 17) C dX3_isShortenedBy_13 (by decide) ?_
        exact K _ (by simp only [if_neg c7])
    intro x8 e_x8
    have eF : F_X3_isShortenedBy lie i = x8 := by have q := e_r6.symm; subst q; have q := e_x8.symm; subst q; simp only [F_X3_isShortenedBy, if_pos c1]
    exact r_zret (r := x8) C hA hr hlo (nb01 (by first | (rw [e_x8]; (try dsimp only); ((repeat' split) <;> (first | exact Or.inl rfl | exact Or.inr rfl))) | (have q := e_r6.symm; subst q; have q := e_x8.symm; subst q; (try dsimp only); ((repeat' split) <;> (first | exact Or.inl rfl | exact Or.inr rfl))))) dX3_isShortenedBy_17 [] ⟨by simp only [eF], rfl⟩ rfl hQ
theorem k_X3_firstShortening : kS yX3_firstShortening cX3_firstShortening 2 (some .int) 1 := ⟨t_203, t_20, t_204, by decide +kernel, by decide +kernel, by decide +kernel⟩
set_option maxRecDepth 20000 in
def F_X3_firstShortening (lie : Int32) : Int32 := let r1 : Int32 := F_X3_isShortenedBy lie 0; (if r1 = 0 then (let r3 : Int32 := F_X3_isShortenedBy lie 1; (if r3 = 0 then (let r5 : Int32 := F_X3_isShortenedBy lie 2; (if r5 = 0 then (let r7 : Int32 := F_X3_isShortenedBy lie 3; (if r7 = 0 then ((-10)) else (3))) else (2))) else (1))) else (0))
set_option maxRecDepth 20000 in
set_option maxHeartbeats 8000000 in
theorem m_X3_firstShortening (l : Launch) (D : va_G) (cI cL cP cJ : ClassId) (lie : Int32) : M vI l yX3_firstShortening cX3_firstShortening 2 (some .int) 2 44 D (tyF cI cL cP cJ) [.int lie] [] (fun (r : Int32) (w1 : List va_W) => r = (F_X3_firstShortening lie) ∧ w1 = []) := by
  refine m_start (by decide +kernel) (Nat.le_of_ble_eq_true rfl) (fun p e s m args below meth c A Q hA hQ C hr hlo => ?_)
  refine r_Le (L' := [(0, .int lie)]) rfl ?_
  refine r_iconst (v := 0) C dX3_firstShortening_0 (by decide) ?_
  refine r_istore_n (L' := [(1, .int 0), (0, .int lie)]) C dX3_firstShortening_1 (by decide) rfl ?_
  refine r_iload_n C dX3_firstShortening_2 0 rfl ?_
  refine r_iconst (v := 4) C dX3_firstShortening_3 (by decide) ?_
  refine r_icmp_ge (tgt := 23) C dX3_firstShortening_4 (by decide) (fun c => absurd c (by decide)) (fun _ => ?_)
  refine r_iload_n C dX3_firstShortening_7 1 rfl ?_
  refine r_iload_n C dX3_firstShortening_8 0 rfl ?_
  refine r_callS (wc := []) (wr := []) (st := []) C (m_X3_isShortenedBy l D cI cL cP cJ lie 0) k_X3_isShortenedBy t_205 [] (show ([] : List Nat).Perm (List.range 0) by decide) rfl rfl rfl (Nat.le_of_ble_eq_true rfl) ⟨Nat.le_of_ble_eq_true rfl, Nat.le_of_ble_eq_true rfl⟩ ⟨Nat.zero_le _, Nat.zero_le _⟩ dX3_firstShortening_9 (fun r1 wr1 hw1 => ?_)
  obtain ⟨e_r1, rfl⟩ := hw1
  refine r_ws (I' := []) rfl ?_
  refine r_if_eq (tgt := 17) C dX3_firstShortening_12 (by decide) (fun c2 => ?_) (fun c2 => ?_)
  · refine r_iinc (v := 1) (L' := [(1, .int 1), (0, .int lie)]) C dX3_firstShortening_17 0 rfl (by decide) (by decide) rfl ?_
    refine r_goto (tgt := 2) C dX3_firstShortening_20 (by decide) ?_
    refine r_iload_n C dX3_firstShortening_2 0 rfl ?_
    refine r_iconst (v := 4) C dX3_firstShortening_3 (by decide) ?_
    refine r_icmp_ge (tgt := 23) C dX3_firstShortening_4 (by decide) (fun c => absurd c (by decide)) (fun _ => ?_)
    refine r_iload_n C dX3_firstShortening_7 1 rfl ?_
    refine r_iload_n C dX3_firstShortening_8 0 rfl ?_
    refine r_callS (wc := []) (wr := []) (st := []) C (m_X3_isShortenedBy l D cI cL cP cJ lie 1) k_X3_isShortenedBy t_205 [] (show ([] : List Nat).Perm (List.range 0) by decide) rfl rfl rfl (Nat.le_of_ble_eq_true rfl) ⟨Nat.le_of_ble_eq_true rfl, Nat.le_of_ble_eq_true rfl⟩ ⟨Nat.zero_le _, Nat.zero_le _⟩ dX3_firstShortening_9 (fun r3 wr3 hw3 => ?_)
    obtain ⟨e_r3, rfl⟩ := hw3
    refine r_ws (I' := []) rfl ?_
    refine r_if_eq (tgt := 17) C dX3_firstShortening_12 (by decide) (fun c4 => ?_) (fun c4 => ?_)
    · refine r_iinc (v := 2) (L' := [(1, .int 2), (0, .int lie)]) C dX3_firstShortening_17 0 rfl (by decide) (by decide) rfl ?_
      refine r_goto (tgt := 2) C dX3_firstShortening_20 (by decide) ?_
      refine r_iload_n C dX3_firstShortening_2 0 rfl ?_
      refine r_iconst (v := 4) C dX3_firstShortening_3 (by decide) ?_
      refine r_icmp_ge (tgt := 23) C dX3_firstShortening_4 (by decide) (fun c => absurd c (by decide)) (fun _ => ?_)
      refine r_iload_n C dX3_firstShortening_7 1 rfl ?_
      refine r_iload_n C dX3_firstShortening_8 0 rfl ?_
      refine r_callS (wc := []) (wr := []) (st := []) C (m_X3_isShortenedBy l D cI cL cP cJ lie 2) k_X3_isShortenedBy t_205 [] (show ([] : List Nat).Perm (List.range 0) by decide) rfl rfl rfl (Nat.le_of_ble_eq_true rfl) ⟨Nat.le_of_ble_eq_true rfl, Nat.le_of_ble_eq_true rfl⟩ ⟨Nat.zero_le _, Nat.zero_le _⟩ dX3_firstShortening_9 (fun r5 wr5 hw5 => ?_)
      obtain ⟨e_r5, rfl⟩ := hw5
      refine r_ws (I' := []) rfl ?_
      refine r_if_eq (tgt := 17) C dX3_firstShortening_12 (by decide) (fun c6 => ?_) (fun c6 => ?_)
      · refine r_iinc (v := 3) (L' := [(1, .int 3), (0, .int lie)]) C dX3_firstShortening_17 0 rfl (by decide) (by decide) rfl ?_
        refine r_goto (tgt := 2) C dX3_firstShortening_20 (by decide) ?_
        refine r_iload_n C dX3_firstShortening_2 0 rfl ?_
        refine r_iconst (v := 4) C dX3_firstShortening_3 (by decide) ?_
        refine r_icmp_ge (tgt := 23) C dX3_firstShortening_4 (by decide) (fun c => absurd c (by decide)) (fun _ => ?_)
        refine r_iload_n C dX3_firstShortening_7 1 rfl ?_
        refine r_iload_n C dX3_firstShortening_8 0 rfl ?_
        refine r_callS (wc := []) (wr := []) (st := []) C (m_X3_isShortenedBy l D cI cL cP cJ lie 3) k_X3_isShortenedBy t_205 [] (show ([] : List Nat).Perm (List.range 0) by decide) rfl rfl rfl (Nat.le_of_ble_eq_true rfl) ⟨Nat.le_of_ble_eq_true rfl, Nat.le_of_ble_eq_true rfl⟩ ⟨Nat.zero_le _, Nat.zero_le _⟩ dX3_firstShortening_9 (fun r7 wr7 hw7 => ?_)
        obtain ⟨e_r7, rfl⟩ := hw7
        refine r_ws (I' := []) rfl ?_
        refine r_if_eq (tgt := 17) C dX3_firstShortening_12 (by decide) (fun c8 => ?_) (fun c8 => ?_)
        · refine r_iinc (v := 4) (L' := [(1, .int 4), (0, .int lie)]) C dX3_firstShortening_17 0 rfl (by decide) (by decide) rfl ?_
          refine r_goto (tgt := 2) C dX3_firstShortening_20 (by decide) ?_
          refine r_iload_n C dX3_firstShortening_2 0 rfl ?_
          refine r_iconst (v := 4) C dX3_firstShortening_3 (by decide) ?_
          refine r_icmp_ge (tgt := 23) C dX3_firstShortening_4 (by decide) (fun _ => ?_) (fun c => absurd c (by decide))
          refine r_bipush (v := (-10)) C dX3_firstShortening_23 (by decide) ?_
          have eF : F_X3_firstShortening lie = (-10) := by have q := e_r1.symm; subst q; have q := e_r3.symm; subst q; have q := e_r5.symm; subst q; have q := e_r7.symm; subst q; simp only [F_X3_firstShortening, if_pos c2, if_pos c4, if_pos c6, if_pos c8]
          exact r_iret (r := (-10)) C hA hr hlo dX3_firstShortening_25 [] ⟨by simp only [eF], rfl⟩ rfl hQ
        · refine r_iload_n C dX3_firstShortening_15 0 rfl ?_
          have eF : F_X3_firstShortening lie = 3 := by have q := e_r1.symm; subst q; have q := e_r3.symm; subst q; have q := e_r5.symm; subst q; have q := e_r7.symm; subst q; simp only [F_X3_firstShortening, if_pos c2, if_pos c4, if_pos c6, if_neg c8]
          exact r_iret (r := 3) C hA hr hlo dX3_firstShortening_16 [] ⟨by simp only [eF], rfl⟩ rfl hQ
      · refine r_iload_n C dX3_firstShortening_15 0 rfl ?_
        have eF : F_X3_firstShortening lie = 2 := by have q := e_r1.symm; subst q; have q := e_r3.symm; subst q; have q := e_r5.symm; subst q; simp only [F_X3_firstShortening, if_pos c2, if_pos c4, if_neg c6]
        exact r_iret (r := 2) C hA hr hlo dX3_firstShortening_16 [] ⟨by simp only [eF], rfl⟩ rfl hQ
    · refine r_iload_n C dX3_firstShortening_15 0 rfl ?_
      have eF : F_X3_firstShortening lie = 1 := by have q := e_r1.symm; subst q; have q := e_r3.symm; subst q; simp only [F_X3_firstShortening, if_pos c2, if_neg c4]
      exact r_iret (r := 1) C hA hr hlo dX3_firstShortening_16 [] ⟨by simp only [eF], rfl⟩ rfl hQ
  · refine r_iload_n C dX3_firstShortening_15 0 rfl ?_
    have eF : F_X3_firstShortening lie = 0 := by have q := e_r1.symm; subst q; simp only [F_X3_firstShortening, if_neg c2]
    exact r_iret (r := 0) C hA hr hlo dX3_firstShortening_16 [] ⟨by simp only [eF], rfl⟩ rfl hQ
theorem k_X3_shorteningMask : kS yX3_shorteningMask cX3_shorteningMask 3 (some .int) 1 := ⟨t_239, t_20, t_240, by decide +kernel, by decide +kernel, by decide +kernel⟩
set_option maxRecDepth 20000 in
def F_X3_shorteningMask (lie : Int32) : Int32 := let r1 : Int32 := F_X3_isShortenedBy lie 0; let x3 : Int32 := (if r1 = 0 then (0) else (1)); let x4 : Int32 := (0 : Int32) ||| x3; let r5 : Int32 := F_X3_isShortenedBy lie 1; let x7 : Int32 := (if r5 = 0 then (0) else (2)); let x8 : Int32 := x4 ||| x7; let r9 : Int32 := F_X3_isShortenedBy lie 2; let x11 : Int32 := (if r9 = 0 then (0) else (4)); let x12 : Int32 := x8 ||| x11; let r13 : Int32 := F_X3_isShortenedBy lie 3; let x15 : Int32 := (if r13 = 0 then (0) else (8)); let x16 : Int32 := x12 ||| x15; x16
set_option maxRecDepth 20000 in
set_option maxHeartbeats 8000000 in
theorem m_X3_shorteningMask (l : Launch) (D : va_G) (cI cL cP cJ : ClassId) (lie : Int32) : M vI l yX3_shorteningMask cX3_shorteningMask 3 (some .int) 2 44 D (tyF cI cL cP cJ) [.int lie] [] (fun (r : Int32) (w1 : List va_W) => r = (F_X3_shorteningMask lie) ∧ w1 = []) := by
  refine m_start (by decide +kernel) (Nat.le_of_ble_eq_true rfl) (fun p e s m args below meth c A Q hA hQ C hr hlo => ?_)
  refine r_Le (L' := [(0, .int lie)]) rfl ?_
  refine r_iconst (v := 0) C dX3_shorteningMask_0 (by decide) ?_
  refine r_istore_n (L' := [(1, .int 0), (0, .int lie)]) C dX3_shorteningMask_1 (by decide) rfl ?_
  refine r_iconst (v := 0) C dX3_shorteningMask_2 (by decide) ?_
  refine r_istore_n (L' := [(2, .int 0), (1, .int 0), (0, .int lie)]) C dX3_shorteningMask_3 (by decide) rfl ?_
  refine r_iload_n C dX3_shorteningMask_4 0 rfl ?_
  refine r_iconst (v := 4) C dX3_shorteningMask_5 (by decide) ?_
  refine r_icmp_ge (tgt := 33) C dX3_shorteningMask_6 (by decide) (fun c => absurd c (by decide)) (fun _ => ?_)
  refine r_iload_n C dX3_shorteningMask_9 1 rfl ?_
  refine r_iload_n C dX3_shorteningMask_10 2 rfl ?_
  refine r_iload_n C dX3_shorteningMask_11 0 rfl ?_
  refine r_callS (wc := []) (wr := []) (st := [.int 0]) C (m_X3_isShortenedBy l D cI cL cP cJ lie 0) k_X3_isShortenedBy t_205 [] (show ([] : List Nat).Perm (List.range 0) by decide) rfl rfl rfl (Nat.le_of_ble_eq_true rfl) ⟨Nat.le_of_ble_eq_true rfl, Nat.le_of_ble_eq_true rfl⟩ ⟨Nat.zero_le _, Nat.zero_le _⟩ dX3_shorteningMask_12 (fun r1 wr1 hw1 => ?_)
  obtain ⟨e_r1, rfl⟩ := hw1
  refine r_ws (I' := []) rfl ?_
  suffices K : ∀ x3 : Int32, x3 = ((if r1 = 0 then (0) else (1))) → V p l e (rmm 2 44) s m args below meth c 3 D A 0 0 Q [] [(2, .int 0), (1, .int 0), (0, .int lie)] 25 [.int x3, .int 0] by
    refine r_if_eq (tgt := 24) C dX3_shorteningMask_15 (by decide) (fun c2 => ?_) (fun c2 => ?_)
    · refine r_iconst (v := 0) C dX3_shorteningMask_24 (by decide) ?_
      exact K _ (by simp only [if_pos c2])
    · refine r_iconst (v := 1) C dX3_shorteningMask_18 (by decide) ?_
      refine r_iload_n C dX3_shorteningMask_19 0 rfl ?_
      refine r_ishl (z := 1) C dX3_shorteningMask_20 (by decide) ?_
      refine r_goto (tgt := 25) C dX3_shorteningMask_21 (by decide) ?_
      exact K _ (by simp only [if_neg c2])
  intro x3 e_x3
  refine r_ior C dX3_shorteningMask_25 rfl ?_
  refine r_top (fun x4 e_x4 => ?_)
  refine r_istore_n (L' := [(1, .int x4), (2, .int 0), (0, .int lie)]) C dX3_shorteningMask_26 (by decide) rfl ?_
  refine r_iinc (v := 1) (L' := [(2, .int 1), (1, .int x4), (0, .int lie)]) C dX3_shorteningMask_27 1 rfl (by decide) (by decide) rfl ?_
  refine r_goto (tgt := 4) C dX3_shorteningMask_30 (by decide) ?_
  refine r_iload_n C dX3_shorteningMask_4 0 rfl ?_
  refine r_iconst (v := 4) C dX3_shorteningMask_5 (by decide) ?_
  refine r_icmp_ge (tgt := 33) C dX3_shorteningMask_6 (by decide) (fun c => absurd c (by decide)) (fun _ => ?_)
  refine r_iload_n C dX3_shorteningMask_9 1 rfl ?_
  refine r_iload_n C dX3_shorteningMask_10 2 rfl ?_
  refine r_iload_n C dX3_shorteningMask_11 0 rfl ?_
  refine r_callS (wc := []) (wr := []) (st := [.int x4]) C (m_X3_isShortenedBy l D cI cL cP cJ lie 1) k_X3_isShortenedBy t_205 [] (show ([] : List Nat).Perm (List.range 0) by decide) rfl rfl rfl (Nat.le_of_ble_eq_true rfl) ⟨Nat.le_of_ble_eq_true rfl, Nat.le_of_ble_eq_true rfl⟩ ⟨Nat.zero_le _, Nat.zero_le _⟩ dX3_shorteningMask_12 (fun r5 wr5 hw5 => ?_)
  obtain ⟨e_r5, rfl⟩ := hw5
  refine r_ws (I' := []) rfl ?_
  suffices K : ∀ x7 : Int32, x7 = ((if r5 = 0 then (0) else (2))) → V p l e (rmm 2 44) s m args below meth c 3 D A 0 0 Q [] [(2, .int 1), (1, .int x4), (0, .int lie)] 25 [.int x7, .int x4] by
    refine r_if_eq (tgt := 24) C dX3_shorteningMask_15 (by decide) (fun c6 => ?_) (fun c6 => ?_)
    · refine r_iconst (v := 0) C dX3_shorteningMask_24 (by decide) ?_
      exact K _ (by simp only [if_pos c6])
    · refine r_iconst (v := 1) C dX3_shorteningMask_18 (by decide) ?_
      refine r_iload_n C dX3_shorteningMask_19 0 rfl ?_
      refine r_ishl (z := 2) C dX3_shorteningMask_20 (by decide) ?_
      refine r_goto (tgt := 25) C dX3_shorteningMask_21 (by decide) ?_
      exact K _ (by simp only [if_neg c6])
  intro x7 e_x7
  refine r_ior C dX3_shorteningMask_25 rfl ?_
  refine r_top (fun x8 e_x8 => ?_)
  refine r_istore_n (L' := [(1, .int x8), (2, .int 1), (0, .int lie)]) C dX3_shorteningMask_26 (by decide) rfl ?_
  refine r_iinc (v := 2) (L' := [(2, .int 2), (1, .int x8), (0, .int lie)]) C dX3_shorteningMask_27 1 rfl (by decide) (by decide) rfl ?_
  refine r_goto (tgt := 4) C dX3_shorteningMask_30 (by decide) ?_
  refine r_iload_n C dX3_shorteningMask_4 0 rfl ?_
  refine r_iconst (v := 4) C dX3_shorteningMask_5 (by decide) ?_
  refine r_icmp_ge (tgt := 33) C dX3_shorteningMask_6 (by decide) (fun c => absurd c (by decide)) (fun _ => ?_)
  refine r_iload_n C dX3_shorteningMask_9 1 rfl ?_
  refine r_iload_n C dX3_shorteningMask_10 2 rfl ?_
  refine r_iload_n C dX3_shorteningMask_11 0 rfl ?_
  refine r_callS (wc := []) (wr := []) (st := [.int x8]) C (m_X3_isShortenedBy l D cI cL cP cJ lie 2) k_X3_isShortenedBy t_205 [] (show ([] : List Nat).Perm (List.range 0) by decide) rfl rfl rfl (Nat.le_of_ble_eq_true rfl) ⟨Nat.le_of_ble_eq_true rfl, Nat.le_of_ble_eq_true rfl⟩ ⟨Nat.zero_le _, Nat.zero_le _⟩ dX3_shorteningMask_12 (fun r9 wr9 hw9 => ?_)
  obtain ⟨e_r9, rfl⟩ := hw9
  refine r_ws (I' := []) rfl ?_
  suffices K : ∀ x11 : Int32, x11 = ((if r9 = 0 then (0) else (4))) → V p l e (rmm 2 44) s m args below meth c 3 D A 0 0 Q [] [(2, .int 2), (1, .int x8), (0, .int lie)] 25 [.int x11, .int x8] by
    refine r_if_eq (tgt := 24) C dX3_shorteningMask_15 (by decide) (fun c10 => ?_) (fun c10 => ?_)
    · refine r_iconst (v := 0) C dX3_shorteningMask_24 (by decide) ?_
      exact K _ (by simp only [if_pos c10])
    · refine r_iconst (v := 1) C dX3_shorteningMask_18 (by decide) ?_
      refine r_iload_n C dX3_shorteningMask_19 0 rfl ?_
      refine r_ishl (z := 4) C dX3_shorteningMask_20 (by decide) ?_
      refine r_goto (tgt := 25) C dX3_shorteningMask_21 (by decide) ?_
      exact K _ (by simp only [if_neg c10])
  intro x11 e_x11
  refine r_ior C dX3_shorteningMask_25 rfl ?_
  refine r_top (fun x12 e_x12 => ?_)
  refine r_istore_n (L' := [(1, .int x12), (2, .int 2), (0, .int lie)]) C dX3_shorteningMask_26 (by decide) rfl ?_
  refine r_iinc (v := 3) (L' := [(2, .int 3), (1, .int x12), (0, .int lie)]) C dX3_shorteningMask_27 1 rfl (by decide) (by decide) rfl ?_
  refine r_goto (tgt := 4) C dX3_shorteningMask_30 (by decide) ?_
  refine r_iload_n C dX3_shorteningMask_4 0 rfl ?_
  refine r_iconst (v := 4) C dX3_shorteningMask_5 (by decide) ?_
  refine r_icmp_ge (tgt := 33) C dX3_shorteningMask_6 (by decide) (fun c => absurd c (by decide)) (fun _ => ?_)
  refine r_iload_n C dX3_shorteningMask_9 1 rfl ?_
  refine r_iload_n C dX3_shorteningMask_10 2 rfl ?_
  refine r_iload_n C dX3_shorteningMask_11 0 rfl ?_
  refine r_callS (wc := []) (wr := []) (st := [.int x12]) C (m_X3_isShortenedBy l D cI cL cP cJ lie 3) k_X3_isShortenedBy t_205 [] (show ([] : List Nat).Perm (List.range 0) by decide) rfl rfl rfl (Nat.le_of_ble_eq_true rfl) ⟨Nat.le_of_ble_eq_true rfl, Nat.le_of_ble_eq_true rfl⟩ ⟨Nat.zero_le _, Nat.zero_le _⟩ dX3_shorteningMask_12 (fun r13 wr13 hw13 => ?_)
  obtain ⟨e_r13, rfl⟩ := hw13
  refine r_ws (I' := []) rfl ?_
  suffices K : ∀ x15 : Int32, x15 = ((if r13 = 0 then (0) else (8))) → V p l e (rmm 2 44) s m args below meth c 3 D A 0 0 Q [] [(2, .int 3), (1, .int x12), (0, .int lie)] 25 [.int x15, .int x12] by
    refine r_if_eq (tgt := 24) C dX3_shorteningMask_15 (by decide) (fun c14 => ?_) (fun c14 => ?_)
    · refine r_iconst (v := 0) C dX3_shorteningMask_24 (by decide) ?_
      exact K _ (by simp only [if_pos c14])
    · refine r_iconst (v := 1) C dX3_shorteningMask_18 (by decide) ?_
      refine r_iload_n C dX3_shorteningMask_19 0 rfl ?_
      refine r_ishl (z := 8) C dX3_shorteningMask_20 (by decide) ?_
      refine r_goto (tgt := 25) C dX3_shorteningMask_21 (by decide) ?_
      exact K _ (by simp only [if_neg c14])
  intro x15 e_x15
  refine r_ior C dX3_shorteningMask_25 rfl ?_
  refine r_top (fun x16 e_x16 => ?_)
  refine r_istore_n (L' := [(1, .int x16), (2, .int 3), (0, .int lie)]) C dX3_shorteningMask_26 (by decide) rfl ?_
  refine r_iinc (v := 4) (L' := [(2, .int 4), (1, .int x16), (0, .int lie)]) C dX3_shorteningMask_27 1 rfl (by decide) (by decide) rfl ?_
  refine r_goto (tgt := 4) C dX3_shorteningMask_30 (by decide) ?_
  refine r_iload_n C dX3_shorteningMask_4 0 rfl ?_
  refine r_iconst (v := 4) C dX3_shorteningMask_5 (by decide) ?_
  refine r_icmp_ge (tgt := 33) C dX3_shorteningMask_6 (by decide) (fun _ => ?_) (fun c => absurd c (by decide))
  refine r_iload_n C dX3_shorteningMask_33 1 rfl ?_
  have eF : F_X3_shorteningMask lie = x16 := by have q := e_r1.symm; subst q; have q := e_x3.symm; subst q; have q := e_x4.symm; subst q; have q := e_r5.symm; subst q; have q := e_x7.symm; subst q; have q := e_x8.symm; subst q; have q := e_r9.symm; subst q; have q := e_x11.symm; subst q; have q := e_x12.symm; subst q; have q := e_r13.symm; subst q; have q := e_x15.symm; subst q; have q := e_x16.symm; subst q; rfl
  exact r_iret (r := x16) C hA hr hlo dX3_shorteningMask_34 [] ⟨by simp only [eF], rfl⟩ rfl hQ
theorem k_X3_foldsBack : kS yX3_foldsBack cX3_foldsBack 3 (some .int) 1 := ⟨t_200, t_20, t_201, by decide +kernel, by decide +kernel, by decide +kernel⟩
def F_X3_foldsBack_L4  : Nat → Int32 → Int32 → Int32 × Int32
  | 0, y1, y2 => (y1, y2)
  | nn + 1, y1, y2 => (if 16 ≤ y2 then ((y1, y2)) else ((if y1 = 1672 then ((y1, y2)) else (let r5 : Int32 := F_X3_firstShortening y1; let r6 : Int32 := F_X3_folded y1 r5; let x7 : Int32 := y2 + 1; F_X3_foldsBack_L4 nn r6 x7))))
def P_X3_foldsBack_L4  : Nat → Int32 → Int32 → Prop
  | 0, _, _ => False
  | nn + 1, y1, y2 => ((16 ≤ y2 → True) ∧ (¬ 16 ≤ y2 → ((y1 = 1672 → True) ∧ (¬ y1 = 1672 → (∀ r5 : Int32, r5 = F_X3_firstShortening y1 → (∀ r6 : Int32, r6 = F_X3_folded y1 r5 → (∀ x7 : Int32, x7 = y2 + 1 → (P_X3_foldsBack_L4 nn r6 x7))))))))
set_option maxRecDepth 20000 in
def F_X3_foldsBack (lie : Int32) : Int32 := let z9 : Int32 := (F_X3_foldsBack_L4 17 lie 0).2; z9
set_option maxRecDepth 20000 in
def P_X3_foldsBack (lie : Int32) : Prop := (P_X3_foldsBack_L4 17 lie 0)
set_option maxRecDepth 20000 in
set_option maxHeartbeats 8000000 in
theorem m_X3_foldsBack (l : Launch) (D : va_G) (cI cL cP cJ : ClassId) (lie : Int32) (hp : P_X3_foldsBack lie) : M vI l yX3_foldsBack cX3_foldsBack 3 (some .int) 3 65 D (tyF cI cL cP cJ) [.int lie] [] (fun (r : Int32) (w1 : List va_W) => r = (F_X3_foldsBack lie) ∧ w1 = []) := by
  unfold P_X3_foldsBack at hp
  refine m_start (by decide +kernel) (Nat.le_of_ble_eq_true rfl) (fun p e s m args below meth c A Q hA hQ C hr hlo => ?_)
  refine r_Le (L' := [(0, .int lie)]) rfl ?_
  refine r_iload_n C dX3_foldsBack_0 0 rfl ?_
  refine r_istore_n (L' := [(1, .int lie), (0, .int lie)]) C dX3_foldsBack_1 (by decide) rfl ?_
  refine r_iconst (v := 0) C dX3_foldsBack_2 (by decide) ?_
  refine r_istore_n (L' := [(2, .int 0), (1, .int lie), (0, .int lie)]) C dX3_foldsBack_3 (by decide) rfl ?_
  have hpl := hp
  have hL : ∀ (nn : Nat) (y1 : Int32) (y2 : Int32), P_X3_foldsBack_L4 nn y1 y2 → (∀ z8 : Int32, z8 = (F_X3_foldsBack_L4 nn y1 y2).1 → ∀ z9 : Int32, z9 = (F_X3_foldsBack_L4 nn y1 y2).2 → V p l e (rmm 3 65) s m args below meth c 3 D A 0 0 Q [] [(2, .int z9), (1, .int z8), (0, .int lie)] 32 []) → V p l e (rmm 3 65) s m args below meth c 3 D A 0 0 Q [] [(2, .int y2), (1, .int y1), (0, .int lie)] 4 [] := by
    clear hpl
    intro nn
    induction nn with
    | zero => intro y1 y2 hp kk; rw [P_X3_foldsBack_L4] at hp; exact hp.elim
    | succ nn ih =>
      intro y1 y2 hp kk
      rw [P_X3_foldsBack_L4] at hp
      refine r_iload_n C dX3_foldsBack_4 0 rfl ?_
      refine r_bipush (v := 16) C dX3_foldsBack_5 (by decide) ?_
      refine r_icmp_ge (tgt := 32) C dX3_foldsBack_7 (by decide) (fun c3 => ?_) (fun c3 => ?_)
      · have eF : F_X3_foldsBack_L4 (nn + 1) y1 y2 = (y1, y2) := by simp only [F_X3_foldsBack_L4, if_pos c3]
        exact kk _ (by rw [eF]) _ (by rw [eF])
      · have hp := hp.2 c3
        refine r_iload_n C dX3_foldsBack_10 1 rfl ?_
        refine r_sipush (v := 1672) C dX3_foldsBack_11 (by decide) ?_
        refine r_icmp_eq (tgt := 32) C dX3_foldsBack_14 (by decide) (fun c4 => ?_) (fun c4 => ?_)
        · have eF : F_X3_foldsBack_L4 (nn + 1) y1 y2 = (y1, y2) := by simp only [F_X3_foldsBack_L4, if_neg c3, if_pos c4]
          exact kk _ (by rw [eF]) _ (by rw [eF])
        · have hp := hp.2 c4
          refine r_iload_n C dX3_foldsBack_17 1 rfl ?_
          refine r_iload_n C dX3_foldsBack_18 1 rfl ?_
          refine r_callS (wc := []) (wr := []) (st := [.int y1]) C (m_X3_firstShortening l D cI cL cP cJ y1) k_X3_firstShortening t_202 [] (show ([] : List Nat).Perm (List.range 0) by decide) rfl rfl rfl (Nat.le_of_ble_eq_true rfl) ⟨Nat.le_of_ble_eq_true rfl, Nat.le_of_ble_eq_true rfl⟩ ⟨Nat.zero_le _, Nat.zero_le _⟩ dX3_foldsBack_19 (fun r5 wr5 hw5 => ?_)
          obtain ⟨e_r5, rfl⟩ := hw5
          have hp := hp r5 e_r5
          refine r_ws (I' := []) rfl ?_
          refine r_callS (wc := []) (wr := []) (st := []) C (m_X3_folded l D cI cL cP cJ y1 r5) k_X3_folded t_208 [] (show ([] : List Nat).Perm (List.range 0) by decide) rfl rfl rfl (Nat.le_of_ble_eq_true rfl) ⟨Nat.le_of_ble_eq_true rfl, Nat.le_of_ble_eq_true rfl⟩ ⟨Nat.zero_le _, Nat.zero_le _⟩ dX3_foldsBack_22 (fun r6 wr6 hw6 => ?_)
          obtain ⟨e_r6, rfl⟩ := hw6
          have hp := hp r6 e_r6
          refine r_ws (I' := []) rfl ?_
          refine r_istore_n (L' := [(1, .int r6), (2, .int y2), (0, .int lie)]) C dX3_foldsBack_25 (by decide) rfl ?_
          obtain ⟨x7, e_x7⟩ : ∃ z : Int32, z = y2 + 1 := ⟨_, rfl⟩
          have hp := hp x7 e_x7
          refine r_iinc (v := x7) (L' := [(2, .int x7), (1, .int r6), (0, .int lie)]) C dX3_foldsBack_26 1 rfl (by rw [e_x7]; exact ii (by decide)) (by decide) rfl ?_
          refine r_goto (tgt := 4) C dX3_foldsBack_29 (by decide) ?_
          have eF : F_X3_foldsBack_L4 (nn + 1) y1 y2 = F_X3_foldsBack_L4 nn r6 x7 := by have q := e_r5.symm; subst q; have q := e_r6.symm; subst q; have q := e_x7.symm; subst q; simp only [F_X3_foldsBack_L4, if_neg c3, if_neg c4]
          exact ih r6 x7 hp (fun z8 e_z8 z9 e_z9 => kk z8 (by rw [eF]; exact e_z8) z9 (by rw [eF]; exact e_z9))
  refine hL 17 lie 0 hpl (fun z8 e_z8 z9 e_z9 => ?_)
  clear hL hpl
  refine r_iload_n C dX3_foldsBack_32 0 rfl ?_
  have eF : F_X3_foldsBack lie = z9 := by have q := e_z8.symm; subst q; have q := e_z9.symm; subst q; rfl
  exact r_iret (r := z9) C hA hr hlo dX3_foldsBack_33 [] ⟨by simp only [eF], rfl⟩ rfl hQ
theorem k_X3_leastCrease : kS yX3_leastCrease cX3_leastCrease 4 (some .int) 2 := ⟨t_479, t_20, t_480, by decide +kernel, by decide +kernel, by decide +kernel⟩
def F_X3_leastCrease_L7 (i : Int32) : Nat → Int32 → Int32 → Int32 × Int32
  | 0, y2, y3 => (y2, y3)
  | nn + 1, y2, y3 => (if i ≤ y3 then ((y2, y3)) else ((if y2 = 1672 then ((y2, y3)) else (let r6 : Int32 := F_X3_firstShortening y2; let r7 : Int32 := F_X3_folded y2 r6; let x8 : Int32 := y3 + 1; F_X3_leastCrease_L7 i nn r7 x8))))
def P_X3_leastCrease_L7 (i : Int32) : Nat → Int32 → Int32 → Prop
  | 0, _, _ => False
  | nn + 1, y2, y3 => ((i ≤ y3 → True) ∧ (¬ i ≤ y3 → ((y2 = 1672 → True) ∧ (¬ y2 = 1672 → (∀ r6 : Int32, r6 = F_X3_firstShortening y2 → (∀ r7 : Int32, r7 = F_X3_folded y2 r6 → (∀ x8 : Int32, x8 = y3 + 1 → (P_X3_leastCrease_L7 i nn r7 x8))))))))
set_option maxRecDepth 20000 in
def F_X3_leastCrease (lie : Int32) (i : Int32) : Int32 := let r1 : Int32 := F_X3_reversed lie; let z9 : Int32 := (F_X3_leastCrease_L7 i (i.toNatClampNeg + 1) r1 0).1; let r11 : Int32 := F_X3_firstShortening z9; r11
set_option maxRecDepth 20000 in
def P_X3_leastCrease (lie : Int32) (i : Int32) : Prop := (∀ r1 : Int32, r1 = F_X3_reversed lie → (P_X3_leastCrease_L7 i (i.toNatClampNeg + 1) r1 0))
set_option maxRecDepth 20000 in
set_option maxHeartbeats 8000000 in
theorem m_X3_leastCrease (l : Launch) (D : va_G) (cI cL cP cJ : ClassId) (lie : Int32) (i : Int32) (hp : P_X3_leastCrease lie i) : M vI l yX3_leastCrease cX3_leastCrease 4 (some .int) 3 65 D (tyF cI cL cP cJ) [.int lie, .int i] [] (fun (r : Int32) (w1 : List va_W) => r = (F_X3_leastCrease lie i) ∧ w1 = []) := by
  unfold P_X3_leastCrease at hp
  refine m_start (by decide +kernel) (Nat.le_of_ble_eq_true rfl) (fun p e s m args below meth c A Q hA hQ C hr hlo => ?_)
  refine r_Le (L' := [(0, .int lie), (1, .int i)]) rfl ?_
  refine r_iload_n C dX3_leastCrease_0 0 rfl ?_
  refine r_callS (wc := []) (wr := []) (st := []) C (m_X3_reversed l D cI cL cP cJ lie) k_X3_reversed t_481 [] (show ([] : List Nat).Perm (List.range 0) by decide) rfl rfl rfl (Nat.le_of_ble_eq_true rfl) ⟨Nat.le_of_ble_eq_true rfl, Nat.le_of_ble_eq_true rfl⟩ ⟨Nat.zero_le _, Nat.zero_le _⟩ dX3_leastCrease_1 (fun r1 wr1 hw1 => ?_)
  obtain ⟨e_r1, rfl⟩ := hw1
  have hp := hp r1 e_r1
  refine r_ws (I' := []) rfl ?_
  refine r_istore_n (L' := [(2, .int r1), (0, .int lie), (1, .int i)]) C dX3_leastCrease_4 (by decide) rfl ?_
  refine r_iconst (v := 0) C dX3_leastCrease_5 (by decide) ?_
  refine r_istore_n (L' := [(3, .int 0), (2, .int r1), (0, .int lie), (1, .int i)]) C dX3_leastCrease_6 (by decide) rfl ?_
  have hpl := hp
  have hL : ∀ (nn : Nat) (y2 : Int32) (y3 : Int32), P_X3_leastCrease_L7 i nn y2 y3 → (∀ z9 : Int32, z9 = (F_X3_leastCrease_L7 i nn y2 y3).1 → ∀ z10 : Int32, z10 = (F_X3_leastCrease_L7 i nn y2 y3).2 → V p l e (rmm 3 65) s m args below meth c 4 D A 0 0 Q [] [(3, .int z10), (2, .int z9), (0, .int lie), (1, .int i)] 34 []) → V p l e (rmm 3 65) s m args below meth c 4 D A 0 0 Q [] [(3, .int y3), (2, .int y2), (0, .int lie), (1, .int i)] 7 [] := by
    clear hpl
    intro nn
    induction nn with
    | zero => intro y2 y3 hp kk; rw [P_X3_leastCrease_L7] at hp; exact hp.elim
    | succ nn ih =>
      intro y2 y3 hp kk
      rw [P_X3_leastCrease_L7] at hp
      refine r_iload_n C dX3_leastCrease_7 0 rfl ?_
      refine r_iload_n C dX3_leastCrease_8 3 rfl ?_
      refine r_icmp_ge (tgt := 34) C dX3_leastCrease_9 (by decide) (fun c4 => ?_) (fun c4 => ?_)
      · have eF : F_X3_leastCrease_L7 i (nn + 1) y2 y3 = (y2, y3) := by simp only [F_X3_leastCrease_L7, if_pos c4]
        exact kk _ (by rw [eF]) _ (by rw [eF])
      · have hp := hp.2 c4
        refine r_iload_n C dX3_leastCrease_12 1 rfl ?_
        refine r_sipush (v := 1672) C dX3_leastCrease_13 (by decide) ?_
        refine r_icmp_eq (tgt := 34) C dX3_leastCrease_16 (by decide) (fun c5 => ?_) (fun c5 => ?_)
        · have eF : F_X3_leastCrease_L7 i (nn + 1) y2 y3 = (y2, y3) := by simp only [F_X3_leastCrease_L7, if_neg c4, if_pos c5]
          exact kk _ (by rw [eF]) _ (by rw [eF])
        · have hp := hp.2 c5
          refine r_iload_n C dX3_leastCrease_19 1 rfl ?_
          refine r_iload_n C dX3_leastCrease_20 1 rfl ?_
          refine r_callS (wc := []) (wr := []) (st := [.int y2]) C (m_X3_firstShortening l D cI cL cP cJ y2) k_X3_firstShortening t_202 [] (show ([] : List Nat).Perm (List.range 0) by decide) rfl rfl rfl (Nat.le_of_ble_eq_true rfl) ⟨Nat.le_of_ble_eq_true rfl, Nat.le_of_ble_eq_true rfl⟩ ⟨Nat.zero_le _, Nat.zero_le _⟩ dX3_leastCrease_21 (fun r6 wr6 hw6 => ?_)
          obtain ⟨e_r6, rfl⟩ := hw6
          have hp := hp r6 e_r6
          refine r_ws (I' := []) rfl ?_
          refine r_callS (wc := []) (wr := []) (st := []) C (m_X3_folded l D cI cL cP cJ y2 r6) k_X3_folded t_208 [] (show ([] : List Nat).Perm (List.range 0) by decide) rfl rfl rfl (Nat.le_of_ble_eq_true rfl) ⟨Nat.le_of_ble_eq_true rfl, Nat.le_of_ble_eq_true rfl⟩ ⟨Nat.zero_le _, Nat.zero_le _⟩ dX3_leastCrease_24 (fun r7 wr7 hw7 => ?_)
          obtain ⟨e_r7, rfl⟩ := hw7
          have hp := hp r7 e_r7
          refine r_ws (I' := []) rfl ?_
          refine r_istore_n (L' := [(2, .int r7), (3, .int y3), (0, .int lie), (1, .int i)]) C dX3_leastCrease_27 (by decide) rfl ?_
          obtain ⟨x8, e_x8⟩ : ∃ z : Int32, z = y3 + 1 := ⟨_, rfl⟩
          have hp := hp x8 e_x8
          refine r_iinc (v := x8) (L' := [(3, .int x8), (2, .int r7), (0, .int lie), (1, .int i)]) C dX3_leastCrease_28 1 rfl (by rw [e_x8]; exact ii (by decide)) (by decide) rfl ?_
          refine r_goto (tgt := 7) C dX3_leastCrease_31 (by decide) ?_
          have eF : F_X3_leastCrease_L7 i (nn + 1) y2 y3 = F_X3_leastCrease_L7 i nn r7 x8 := by have q := e_r6.symm; subst q; have q := e_r7.symm; subst q; have q := e_x8.symm; subst q; simp only [F_X3_leastCrease_L7, if_neg c4, if_neg c5]
          exact ih r7 x8 hp (fun z9 e_z9 z10 e_z10 => kk z9 (by rw [eF]; exact e_z9) z10 (by rw [eF]; exact e_z10))
  refine hL (i.toNatClampNeg + 1) r1 0 hpl (fun z9 e_z9 z10 e_z10 => ?_)
  clear hL hpl
  refine r_iload_n C dX3_leastCrease_34 1 rfl ?_
  refine r_callS (wc := []) (wr := []) (st := []) C (m_X3_firstShortening l D cI cL cP cJ z9) k_X3_firstShortening t_202 [] (show ([] : List Nat).Perm (List.range 0) by decide) rfl rfl rfl (Nat.le_of_ble_eq_true rfl) ⟨Nat.le_of_ble_eq_true rfl, Nat.le_of_ble_eq_true rfl⟩ ⟨Nat.zero_le _, Nat.zero_le _⟩ dX3_leastCrease_35 (fun r11 wr11 hw11 => ?_)
  obtain ⟨e_r11, rfl⟩ := hw11
  refine r_ws (I' := []) rfl ?_
  have eF : F_X3_leastCrease lie i = r11 := by have q := e_r1.symm; subst q; have q := e_z9.symm; subst q; have q := e_z10.symm; subst q; have q := e_r11.symm; subst q; rfl
  exact r_iret (r := r11) C hA hr hlo dX3_leastCrease_38 [] ⟨by simp only [eF], rfl⟩ rfl hQ
theorem k_X3_period : kS yX3_period cX3_period 3 (some .int) 1 := ⟨t_216, t_20, t_217, by decide +kernel, by decide +kernel, by decide +kernel⟩
def F_X3_period_L4 (lie : Int32) : Nat → Int32 → Int32 → Int32 × Int32
  | 0, y1, y2 => (y1, y2)
  | nn + 1, y1, y2 => (if 8 ≤ y2 then ((y1, y2)) else ((if y1 = 1672 then ((y1, y2)) else (let r5 : Int32 := F_X3_joined y1 lie; let x6 : Int32 := y2 + 1; F_X3_period_L4 lie nn r5 x6))))
def P_X3_period_L4 (lie : Int32) : Nat → Int32 → Int32 → Prop
  | 0, _, _ => False
  | nn + 1, y1, y2 => ((8 ≤ y2 → True) ∧ (¬ 8 ≤ y2 → ((y1 = 1672 → True) ∧ (¬ y1 = 1672 → (∀ r5 : Int32, r5 = F_X3_joined y1 lie → (∀ x6 : Int32, x6 = y2 + 1 → (P_X3_period_L4 lie nn r5 x6)))))))
set_option maxRecDepth 20000 in
def F_X3_period (lie : Int32) : Int32 := let z8 : Int32 := (F_X3_period_L4 lie 9 lie 1).2; z8
set_option maxRecDepth 20000 in
def P_X3_period (lie : Int32) : Prop := (P_X3_period_L4 lie 9 lie 1)
set_option maxRecDepth 20000 in
set_option maxHeartbeats 8000000 in
theorem m_X3_period (l : Launch) (D : va_G) (cI cL cP cJ : ClassId) (lie : Int32) (hp : P_X3_period lie) : M vI l yX3_period cX3_period 3 (some .int) 2 48 D (tyF cI cL cP cJ) [.int lie] [] (fun (r : Int32) (w1 : List va_W) => r = (F_X3_period lie) ∧ w1 = []) := by
  unfold P_X3_period at hp
  refine m_start (by decide +kernel) (Nat.le_of_ble_eq_true rfl) (fun p e s m args below meth c A Q hA hQ C hr hlo => ?_)
  refine r_Le (L' := [(0, .int lie)]) rfl ?_
  refine r_iload_n C dX3_period_0 0 rfl ?_
  refine r_istore_n (L' := [(1, .int lie), (0, .int lie)]) C dX3_period_1 (by decide) rfl ?_
  refine r_iconst (v := 1) C dX3_period_2 (by decide) ?_
  refine r_istore_n (L' := [(2, .int 1), (1, .int lie), (0, .int lie)]) C dX3_period_3 (by decide) rfl ?_
  have hpl := hp
  have hL : ∀ (nn : Nat) (y1 : Int32) (y2 : Int32), P_X3_period_L4 lie nn y1 y2 → (∀ z7 : Int32, z7 = (F_X3_period_L4 lie nn y1 y2).1 → ∀ z8 : Int32, z8 = (F_X3_period_L4 lie nn y1 y2).2 → V p l e (rmm 2 48) s m args below meth c 3 D A 0 0 Q [] [(2, .int z8), (1, .int z7), (0, .int lie)] 29 []) → V p l e (rmm 2 48) s m args below meth c 3 D A 0 0 Q [] [(2, .int y2), (1, .int y1), (0, .int lie)] 4 [] := by
    clear hpl
    intro nn
    induction nn with
    | zero => intro y1 y2 hp kk; rw [P_X3_period_L4] at hp; exact hp.elim
    | succ nn ih =>
      intro y1 y2 hp kk
      rw [P_X3_period_L4] at hp
      refine r_iload_n C dX3_period_4 0 rfl ?_
      refine r_bipush (v := 8) C dX3_period_5 (by decide) ?_
      refine r_icmp_ge (tgt := 29) C dX3_period_7 (by decide) (fun c3 => ?_) (fun c3 => ?_)
      · have eF : F_X3_period_L4 lie (nn + 1) y1 y2 = (y1, y2) := by simp only [F_X3_period_L4, if_pos c3]
        exact kk _ (by rw [eF]) _ (by rw [eF])
      · have hp := hp.2 c3
        refine r_iload_n C dX3_period_10 1 rfl ?_
        refine r_sipush (v := 1672) C dX3_period_11 (by decide) ?_
        refine r_icmp_eq (tgt := 29) C dX3_period_14 (by decide) (fun c4 => ?_) (fun c4 => ?_)
        · have eF : F_X3_period_L4 lie (nn + 1) y1 y2 = (y1, y2) := by simp only [F_X3_period_L4, if_neg c3, if_pos c4]
          exact kk _ (by rw [eF]) _ (by rw [eF])
        · have hp := hp.2 c4
          refine r_iload_n C dX3_period_17 1 rfl ?_
          refine r_iload_n C dX3_period_18 2 rfl ?_
          refine r_callS (wc := []) (wr := []) (st := []) C (m_X3_joined l D cI cL cP cJ y1 lie) k_X3_joined t_218 [] (show ([] : List Nat).Perm (List.range 0) by decide) rfl rfl rfl (Nat.le_of_ble_eq_true rfl) ⟨Nat.le_of_ble_eq_true rfl, Nat.le_of_ble_eq_true rfl⟩ ⟨Nat.zero_le _, Nat.zero_le _⟩ dX3_period_19 (fun r5 wr5 hw5 => ?_)
          obtain ⟨e_r5, rfl⟩ := hw5
          have hp := hp r5 e_r5
          refine r_ws (I' := []) rfl ?_
          refine r_istore_n (L' := [(1, .int r5), (2, .int y2), (0, .int lie)]) C dX3_period_22 (by decide) rfl ?_
          obtain ⟨x6, e_x6⟩ : ∃ z : Int32, z = y2 + 1 := ⟨_, rfl⟩
          have hp := hp x6 e_x6
          refine r_iinc (v := x6) (L' := [(2, .int x6), (1, .int r5), (0, .int lie)]) C dX3_period_23 1 rfl (by rw [e_x6]; exact ii (by decide)) (by decide) rfl ?_
          refine r_goto (tgt := 4) C dX3_period_26 (by decide) ?_
          have eF : F_X3_period_L4 lie (nn + 1) y1 y2 = F_X3_period_L4 lie nn r5 x6 := by have q := e_r5.symm; subst q; have q := e_x6.symm; subst q; simp only [F_X3_period_L4, if_neg c3, if_neg c4]
          exact ih r5 x6 hp (fun z7 e_z7 z8 e_z8 => kk z7 (by rw [eF]; exact e_z7) z8 (by rw [eF]; exact e_z8))
  refine hL 9 lie 1 hpl (fun z7 e_z7 z8 e_z8 => ?_)
  clear hL hpl
  refine r_iload_n C dX3_period_29 0 rfl ?_
  have eF : F_X3_period lie = z8 := by have q := e_z7.symm; subst q; have q := e_z8.symm; subst q; rfl
  exact r_iret (r := z8) C hA hr hlo dX3_period_30 [] ⟨by simp only [eF], rfl⟩ rfl hQ
theorem k_X3_layersHome : kS yX3_layersHome cX3_layersHome 3 (some .int) 1 := ⟨t_231, t_20, t_232, by decide +kernel, by decide +kernel, by decide +kernel⟩
set_option maxRecDepth 20000 in
def F_X3_layersHome (lie : Int32) : Int32 := let r1 : Int32 := F_X3_layerAt lie 0; let x3 : Int32 := (if r1 = 1 then (1) else (0)); let x4 : Int32 := (0 : Int32) + x3; let r5 : Int32 := F_X3_layerAt lie 1; let x7 : Int32 := (if r5 = 2 then (1) else (0)); let x8 : Int32 := x4 + x7; let r9 : Int32 := F_X3_layerAt lie 2; let x11 : Int32 := (if r9 = 3 then (1) else (0)); let x12 : Int32 := x8 + x11; let r13 : Int32 := F_X3_layerAt lie 3; let x15 : Int32 := (if r13 = 4 then (1) else (0)); let x16 : Int32 := x12 + x15; x16
set_option maxRecDepth 20000 in
set_option maxHeartbeats 8000000 in
theorem m_X3_layersHome (l : Launch) (D : va_G) (cI cL cP cJ : ClassId) (lie : Int32) : M vI l yX3_layersHome cX3_layersHome 3 (some .int) 1 23 D (tyF cI cL cP cJ) [.int lie] [] (fun (r : Int32) (w1 : List va_W) => r = (F_X3_layersHome lie) ∧ w1 = []) := by
  refine m_start (by decide +kernel) (Nat.le_of_ble_eq_true rfl) (fun p e s m args below meth c A Q hA hQ C hr hlo => ?_)
  refine r_Le (L' := [(0, .int lie)]) rfl ?_
  refine r_iconst (v := 0) C dX3_layersHome_0 (by decide) ?_
  refine r_istore_n (L' := [(1, .int 0), (0, .int lie)]) C dX3_layersHome_1 (by decide) rfl ?_
  refine r_iconst (v := 0) C dX3_layersHome_2 (by decide) ?_
  refine r_istore_n (L' := [(2, .int 0), (1, .int 0), (0, .int lie)]) C dX3_layersHome_3 (by decide) rfl ?_
  refine r_iload_n C dX3_layersHome_4 0 rfl ?_
  refine r_iconst (v := 4) C dX3_layersHome_5 (by decide) ?_
  refine r_icmp_ge (tgt := 34) C dX3_layersHome_6 (by decide) (fun c => absurd c (by decide)) (fun _ => ?_)
  refine r_iload_n C dX3_layersHome_9 1 rfl ?_
  refine r_iload_n C dX3_layersHome_10 2 rfl ?_
  refine r_iload_n C dX3_layersHome_11 0 rfl ?_
  refine r_callS (wc := []) (wr := []) (st := [.int 0]) C (m_X3_layerAt l D cI cL cP cJ lie 0) k_X3_layerAt t_196 [] (show ([] : List Nat).Perm (List.range 0) by decide) rfl rfl rfl (Nat.le_of_ble_eq_true rfl) ⟨Nat.le_of_ble_eq_true rfl, Nat.le_of_ble_eq_true rfl⟩ ⟨Nat.zero_le _, Nat.zero_le _⟩ dX3_layersHome_12 (fun r1 wr1 hw1 => ?_)
  obtain ⟨e_r1, rfl⟩ := hw1
  refine r_ws (I' := []) rfl ?_
  refine r_iload_n C dX3_layersHome_15 0 rfl ?_
  refine r_iconst (v := 1) C dX3_layersHome_16 (by decide) ?_
  refine r_iadd (z := 1) C dX3_layersHome_17 (by decide) ?_
  suffices K : ∀ x3 : Int32, x3 = ((if r1 = 1 then (1) else (0))) → V p l e (rmm 1 23) s m args below meth c 3 D A 0 0 Q [] [(2, .int 0), (1, .int 0), (0, .int lie)] 26 [.int x3, .int 0] by
    refine r_icmp_ne (tgt := 25) C dX3_layersHome_18 (by decide) (fun c2 => ?_) (fun c2 => ?_)
    · refine r_iconst (v := 0) C dX3_layersHome_25 (by decide) ?_
      exact K _ (by simp only [if_neg c2])
    · refine r_iconst (v := 1) C dX3_layersHome_21 (by decide) ?_
      refine r_goto (tgt := 26) C dX3_layersHome_22 (by decide) ?_
      exact K _ (by simp only [if_pos c2])
  intro x3 e_x3
  refine r_iadd C dX3_layersHome_26 rfl ?_
  refine r_top (fun x4 e_x4 => ?_)
  refine r_istore_n (L' := [(1, .int x4), (2, .int 0), (0, .int lie)]) C dX3_layersHome_27 (by decide) rfl ?_
  refine r_iinc (v := 1) (L' := [(2, .int 1), (1, .int x4), (0, .int lie)]) C dX3_layersHome_28 1 rfl (by decide) (by decide) rfl ?_
  refine r_goto (tgt := 4) C dX3_layersHome_31 (by decide) ?_
  refine r_iload_n C dX3_layersHome_4 0 rfl ?_
  refine r_iconst (v := 4) C dX3_layersHome_5 (by decide) ?_
  refine r_icmp_ge (tgt := 34) C dX3_layersHome_6 (by decide) (fun c => absurd c (by decide)) (fun _ => ?_)
  refine r_iload_n C dX3_layersHome_9 1 rfl ?_
  refine r_iload_n C dX3_layersHome_10 2 rfl ?_
  refine r_iload_n C dX3_layersHome_11 0 rfl ?_
  refine r_callS (wc := []) (wr := []) (st := [.int x4]) C (m_X3_layerAt l D cI cL cP cJ lie 1) k_X3_layerAt t_196 [] (show ([] : List Nat).Perm (List.range 0) by decide) rfl rfl rfl (Nat.le_of_ble_eq_true rfl) ⟨Nat.le_of_ble_eq_true rfl, Nat.le_of_ble_eq_true rfl⟩ ⟨Nat.zero_le _, Nat.zero_le _⟩ dX3_layersHome_12 (fun r5 wr5 hw5 => ?_)
  obtain ⟨e_r5, rfl⟩ := hw5
  refine r_ws (I' := []) rfl ?_
  refine r_iload_n C dX3_layersHome_15 0 rfl ?_
  refine r_iconst (v := 1) C dX3_layersHome_16 (by decide) ?_
  refine r_iadd (z := 2) C dX3_layersHome_17 (by decide) ?_
  suffices K : ∀ x7 : Int32, x7 = ((if r5 = 2 then (1) else (0))) → V p l e (rmm 1 23) s m args below meth c 3 D A 0 0 Q [] [(2, .int 1), (1, .int x4), (0, .int lie)] 26 [.int x7, .int x4] by
    refine r_icmp_ne (tgt := 25) C dX3_layersHome_18 (by decide) (fun c6 => ?_) (fun c6 => ?_)
    · refine r_iconst (v := 0) C dX3_layersHome_25 (by decide) ?_
      exact K _ (by simp only [if_neg c6])
    · refine r_iconst (v := 1) C dX3_layersHome_21 (by decide) ?_
      refine r_goto (tgt := 26) C dX3_layersHome_22 (by decide) ?_
      exact K _ (by simp only [if_pos c6])
  intro x7 e_x7
  refine r_iadd C dX3_layersHome_26 rfl ?_
  refine r_top (fun x8 e_x8 => ?_)
  refine r_istore_n (L' := [(1, .int x8), (2, .int 1), (0, .int lie)]) C dX3_layersHome_27 (by decide) rfl ?_
  refine r_iinc (v := 2) (L' := [(2, .int 2), (1, .int x8), (0, .int lie)]) C dX3_layersHome_28 1 rfl (by decide) (by decide) rfl ?_
  refine r_goto (tgt := 4) C dX3_layersHome_31 (by decide) ?_
  refine r_iload_n C dX3_layersHome_4 0 rfl ?_
  refine r_iconst (v := 4) C dX3_layersHome_5 (by decide) ?_
  refine r_icmp_ge (tgt := 34) C dX3_layersHome_6 (by decide) (fun c => absurd c (by decide)) (fun _ => ?_)
  refine r_iload_n C dX3_layersHome_9 1 rfl ?_
  refine r_iload_n C dX3_layersHome_10 2 rfl ?_
  refine r_iload_n C dX3_layersHome_11 0 rfl ?_
  refine r_callS (wc := []) (wr := []) (st := [.int x8]) C (m_X3_layerAt l D cI cL cP cJ lie 2) k_X3_layerAt t_196 [] (show ([] : List Nat).Perm (List.range 0) by decide) rfl rfl rfl (Nat.le_of_ble_eq_true rfl) ⟨Nat.le_of_ble_eq_true rfl, Nat.le_of_ble_eq_true rfl⟩ ⟨Nat.zero_le _, Nat.zero_le _⟩ dX3_layersHome_12 (fun r9 wr9 hw9 => ?_)
  obtain ⟨e_r9, rfl⟩ := hw9
  refine r_ws (I' := []) rfl ?_
  refine r_iload_n C dX3_layersHome_15 0 rfl ?_
  refine r_iconst (v := 1) C dX3_layersHome_16 (by decide) ?_
  refine r_iadd (z := 3) C dX3_layersHome_17 (by decide) ?_
  suffices K : ∀ x11 : Int32, x11 = ((if r9 = 3 then (1) else (0))) → V p l e (rmm 1 23) s m args below meth c 3 D A 0 0 Q [] [(2, .int 2), (1, .int x8), (0, .int lie)] 26 [.int x11, .int x8] by
    refine r_icmp_ne (tgt := 25) C dX3_layersHome_18 (by decide) (fun c10 => ?_) (fun c10 => ?_)
    · refine r_iconst (v := 0) C dX3_layersHome_25 (by decide) ?_
      exact K _ (by simp only [if_neg c10])
    · refine r_iconst (v := 1) C dX3_layersHome_21 (by decide) ?_
      refine r_goto (tgt := 26) C dX3_layersHome_22 (by decide) ?_
      exact K _ (by simp only [if_pos c10])
  intro x11 e_x11
  refine r_iadd C dX3_layersHome_26 rfl ?_
  refine r_top (fun x12 e_x12 => ?_)
  refine r_istore_n (L' := [(1, .int x12), (2, .int 2), (0, .int lie)]) C dX3_layersHome_27 (by decide) rfl ?_
  refine r_iinc (v := 3) (L' := [(2, .int 3), (1, .int x12), (0, .int lie)]) C dX3_layersHome_28 1 rfl (by decide) (by decide) rfl ?_
  refine r_goto (tgt := 4) C dX3_layersHome_31 (by decide) ?_
  refine r_iload_n C dX3_layersHome_4 0 rfl ?_
  refine r_iconst (v := 4) C dX3_layersHome_5 (by decide) ?_
  refine r_icmp_ge (tgt := 34) C dX3_layersHome_6 (by decide) (fun c => absurd c (by decide)) (fun _ => ?_)
  refine r_iload_n C dX3_layersHome_9 1 rfl ?_
  refine r_iload_n C dX3_layersHome_10 2 rfl ?_
  refine r_iload_n C dX3_layersHome_11 0 rfl ?_
  refine r_callS (wc := []) (wr := []) (st := [.int x12]) C (m_X3_layerAt l D cI cL cP cJ lie 3) k_X3_layerAt t_196 [] (show ([] : List Nat).Perm (List.range 0) by decide) rfl rfl rfl (Nat.le_of_ble_eq_true rfl) ⟨Nat.le_of_ble_eq_true rfl, Nat.le_of_ble_eq_true rfl⟩ ⟨Nat.zero_le _, Nat.zero_le _⟩ dX3_layersHome_12 (fun r13 wr13 hw13 => ?_)
  obtain ⟨e_r13, rfl⟩ := hw13
  refine r_ws (I' := []) rfl ?_
  refine r_iload_n C dX3_layersHome_15 0 rfl ?_
  refine r_iconst (v := 1) C dX3_layersHome_16 (by decide) ?_
  refine r_iadd (z := 4) C dX3_layersHome_17 (by decide) ?_
  suffices K : ∀ x15 : Int32, x15 = ((if r13 = 4 then (1) else (0))) → V p l e (rmm 1 23) s m args below meth c 3 D A 0 0 Q [] [(2, .int 3), (1, .int x12), (0, .int lie)] 26 [.int x15, .int x12] by
    refine r_icmp_ne (tgt := 25) C dX3_layersHome_18 (by decide) (fun c14 => ?_) (fun c14 => ?_)
    · refine r_iconst (v := 0) C dX3_layersHome_25 (by decide) ?_
      exact K _ (by simp only [if_neg c14])
    · refine r_iconst (v := 1) C dX3_layersHome_21 (by decide) ?_
      refine r_goto (tgt := 26) C dX3_layersHome_22 (by decide) ?_
      exact K _ (by simp only [if_pos c14])
  intro x15 e_x15
  refine r_iadd C dX3_layersHome_26 rfl ?_
  refine r_top (fun x16 e_x16 => ?_)
  refine r_istore_n (L' := [(1, .int x16), (2, .int 3), (0, .int lie)]) C dX3_layersHome_27 (by decide) rfl ?_
  refine r_iinc (v := 4) (L' := [(2, .int 4), (1, .int x16), (0, .int lie)]) C dX3_layersHome_28 1 rfl (by decide) (by decide) rfl ?_
  refine r_goto (tgt := 4) C dX3_layersHome_31 (by decide) ?_
  refine r_iload_n C dX3_layersHome_4 0 rfl ?_
  refine r_iconst (v := 4) C dX3_layersHome_5 (by decide) ?_
  refine r_icmp_ge (tgt := 34) C dX3_layersHome_6 (by decide) (fun _ => ?_) (fun c => absurd c (by decide))
  refine r_iload_n C dX3_layersHome_34 1 rfl ?_
  have eF : F_X3_layersHome lie = x16 := by have q := e_r1.symm; subst q; have q := e_x3.symm; subst q; have q := e_x4.symm; subst q; have q := e_r5.symm; subst q; have q := e_x7.symm; subst q; have q := e_x8.symm; subst q; have q := e_r9.symm; subst q; have q := e_x11.symm; subst q; have q := e_x12.symm; subst q; have q := e_r13.symm; subst q; have q := e_x15.symm; subst q; have q := e_x16.symm; subst q; rfl
  exact r_iret (r := x16) C hA hr hlo dX3_layersHome_35 [] ⟨by simp only [eF], rfl⟩ rfl hQ
theorem k_X3_layersTurned : kS yX3_layersTurned cX3_layersTurned 3 (some .int) 1 := ⟨t_236, t_20, t_237, by decide +kernel, by decide +kernel, by decide +kernel⟩
set_option maxRecDepth 20000 in
def F_X3_layersTurned (lie : Int32) : Int32 := let r1 : Int32 := F_X3_layerAt lie 0; let x3 : Int32 := (if 0 ≤ r1 then (0) else (1)); let x4 : Int32 := (0 : Int32) + x3; let r5 : Int32 := F_X3_layerAt lie 1; let x7 : Int32 := (if 0 ≤ r5 then (0) else (1)); let x8 : Int32 := x4 + x7; let r9 : Int32 := F_X3_layerAt lie 2; let x11 : Int32 := (if 0 ≤ r9 then (0) else (1)); let x12 : Int32 := x8 + x11; let r13 : Int32 := F_X3_layerAt lie 3; let x15 : Int32 := (if 0 ≤ r13 then (0) else (1)); let x16 : Int32 := x12 + x15; x16
set_option maxRecDepth 20000 in
set_option maxHeartbeats 8000000 in
theorem m_X3_layersTurned (l : Launch) (D : va_G) (cI cL cP cJ : ClassId) (lie : Int32) : M vI l yX3_layersTurned cX3_layersTurned 3 (some .int) 1 23 D (tyF cI cL cP cJ) [.int lie] [] (fun (r : Int32) (w1 : List va_W) => r = (F_X3_layersTurned lie) ∧ w1 = []) := by
  refine m_start (by decide +kernel) (Nat.le_of_ble_eq_true rfl) (fun p e s m args below meth c A Q hA hQ C hr hlo => ?_)
  refine r_Le (L' := [(0, .int lie)]) rfl ?_
  refine r_iconst (v := 0) C dX3_layersTurned_0 (by decide) ?_
  refine r_istore_n (L' := [(1, .int 0), (0, .int lie)]) C dX3_layersTurned_1 (by decide) rfl ?_
  refine r_iconst (v := 0) C dX3_layersTurned_2 (by decide) ?_
  refine r_istore_n (L' := [(2, .int 0), (1, .int 0), (0, .int lie)]) C dX3_layersTurned_3 (by decide) rfl ?_
  refine r_iload_n C dX3_layersTurned_4 0 rfl ?_
  refine r_iconst (v := 4) C dX3_layersTurned_5 (by decide) ?_
  refine r_icmp_ge (tgt := 31) C dX3_layersTurned_6 (by decide) (fun c => absurd c (by decide)) (fun _ => ?_)
  refine r_iload_n C dX3_layersTurned_9 1 rfl ?_
  refine r_iload_n C dX3_layersTurned_10 2 rfl ?_
  refine r_iload_n C dX3_layersTurned_11 0 rfl ?_
  refine r_callS (wc := []) (wr := []) (st := [.int 0]) C (m_X3_layerAt l D cI cL cP cJ lie 0) k_X3_layerAt t_196 [] (show ([] : List Nat).Perm (List.range 0) by decide) rfl rfl rfl (Nat.le_of_ble_eq_true rfl) ⟨Nat.le_of_ble_eq_true rfl, Nat.le_of_ble_eq_true rfl⟩ ⟨Nat.zero_le _, Nat.zero_le _⟩ dX3_layersTurned_12 (fun r1 wr1 hw1 => ?_)
  obtain ⟨e_r1, rfl⟩ := hw1
  refine r_ws (I' := []) rfl ?_
  suffices K : ∀ x3 : Int32, x3 = ((if 0 ≤ r1 then (0) else (1))) → V p l e (rmm 1 23) s m args below meth c 3 D A 0 0 Q [] [(2, .int 0), (1, .int 0), (0, .int lie)] 23 [.int x3, .int 0] by
    refine r_if_ge (tgt := 22) C dX3_layersTurned_15 (by decide) (fun c2 => ?_) (fun c2 => ?_)
    · refine r_iconst (v := 0) C dX3_layersTurned_22 (by decide) ?_
      exact K _ (by simp only [if_pos c2])
    · refine r_iconst (v := 1) C dX3_layersTurned_18 (by decide) ?_
      refine r_goto (tgt := 23) C dX3_layersTurned_19 (by decide) ?_
      exact K _ (by simp only [if_neg c2])
  intro x3 e_x3
  refine r_iadd C dX3_layersTurned_23 rfl ?_
  refine r_top (fun x4 e_x4 => ?_)
  refine r_istore_n (L' := [(1, .int x4), (2, .int 0), (0, .int lie)]) C dX3_layersTurned_24 (by decide) rfl ?_
  refine r_iinc (v := 1) (L' := [(2, .int 1), (1, .int x4), (0, .int lie)]) C dX3_layersTurned_25 1 rfl (by decide) (by decide) rfl ?_
  refine r_goto (tgt := 4) C dX3_layersTurned_28 (by decide) ?_
  refine r_iload_n C dX3_layersTurned_4 0 rfl ?_
  refine r_iconst (v := 4) C dX3_layersTurned_5 (by decide) ?_
  refine r_icmp_ge (tgt := 31) C dX3_layersTurned_6 (by decide) (fun c => absurd c (by decide)) (fun _ => ?_)
  refine r_iload_n C dX3_layersTurned_9 1 rfl ?_
  refine r_iload_n C dX3_layersTurned_10 2 rfl ?_
  refine r_iload_n C dX3_layersTurned_11 0 rfl ?_
  refine r_callS (wc := []) (wr := []) (st := [.int x4]) C (m_X3_layerAt l D cI cL cP cJ lie 1) k_X3_layerAt t_196 [] (show ([] : List Nat).Perm (List.range 0) by decide) rfl rfl rfl (Nat.le_of_ble_eq_true rfl) ⟨Nat.le_of_ble_eq_true rfl, Nat.le_of_ble_eq_true rfl⟩ ⟨Nat.zero_le _, Nat.zero_le _⟩ dX3_layersTurned_12 (fun r5 wr5 hw5 => ?_)
  obtain ⟨e_r5, rfl⟩ := hw5
  refine r_ws (I' := []) rfl ?_
  suffices K : ∀ x7 : Int32, x7 = ((if 0 ≤ r5 then (0) else (1))) → V p l e (rmm 1 23) s m args below meth c 3 D A 0 0 Q [] [(2, .int 1), (1, .int x4), (0, .int lie)] 23 [.int x7, .int x4] by
    refine r_if_ge (tgt := 22) C dX3_layersTurned_15 (by decide) (fun c6 => ?_) (fun c6 => ?_)
    · refine r_iconst (v := 0) C dX3_layersTurned_22 (by decide) ?_
      exact K _ (by simp only [if_pos c6])
    · refine r_iconst (v := 1) C dX3_layersTurned_18 (by decide) ?_
      refine r_goto (tgt := 23) C dX3_layersTurned_19 (by decide) ?_
      exact K _ (by simp only [if_neg c6])
  intro x7 e_x7
  refine r_iadd C dX3_layersTurned_23 rfl ?_
  refine r_top (fun x8 e_x8 => ?_)
  refine r_istore_n (L' := [(1, .int x8), (2, .int 1), (0, .int lie)]) C dX3_layersTurned_24 (by decide) rfl ?_
  refine r_iinc (v := 2) (L' := [(2, .int 2), (1, .int x8), (0, .int lie)]) C dX3_layersTurned_25 1 rfl (by decide) (by decide) rfl ?_
  refine r_goto (tgt := 4) C dX3_layersTurned_28 (by decide) ?_
  refine r_iload_n C dX3_layersTurned_4 0 rfl ?_
  refine r_iconst (v := 4) C dX3_layersTurned_5 (by decide) ?_
  refine r_icmp_ge (tgt := 31) C dX3_layersTurned_6 (by decide) (fun c => absurd c (by decide)) (fun _ => ?_)
  refine r_iload_n C dX3_layersTurned_9 1 rfl ?_
  refine r_iload_n C dX3_layersTurned_10 2 rfl ?_
  refine r_iload_n C dX3_layersTurned_11 0 rfl ?_
  refine r_callS (wc := []) (wr := []) (st := [.int x8]) C (m_X3_layerAt l D cI cL cP cJ lie 2) k_X3_layerAt t_196 [] (show ([] : List Nat).Perm (List.range 0) by decide) rfl rfl rfl (Nat.le_of_ble_eq_true rfl) ⟨Nat.le_of_ble_eq_true rfl, Nat.le_of_ble_eq_true rfl⟩ ⟨Nat.zero_le _, Nat.zero_le _⟩ dX3_layersTurned_12 (fun r9 wr9 hw9 => ?_)
  obtain ⟨e_r9, rfl⟩ := hw9
  refine r_ws (I' := []) rfl ?_
  suffices K : ∀ x11 : Int32, x11 = ((if 0 ≤ r9 then (0) else (1))) → V p l e (rmm 1 23) s m args below meth c 3 D A 0 0 Q [] [(2, .int 2), (1, .int x8), (0, .int lie)] 23 [.int x11, .int x8] by
    refine r_if_ge (tgt := 22) C dX3_layersTurned_15 (by decide) (fun c10 => ?_) (fun c10 => ?_)
    · refine r_iconst (v := 0) C dX3_layersTurned_22 (by decide) ?_
      exact K _ (by simp only [if_pos c10])
    · refine r_iconst (v := 1) C dX3_layersTurned_18 (by decide) ?_
      refine r_goto (tgt := 23) C dX3_layersTurned_19 (by decide) ?_
      exact K _ (by simp only [if_neg c10])
  intro x11 e_x11
  refine r_iadd C dX3_layersTurned_23 rfl ?_
  refine r_top (fun x12 e_x12 => ?_)
  refine r_istore_n (L' := [(1, .int x12), (2, .int 2), (0, .int lie)]) C dX3_layersTurned_24 (by decide) rfl ?_
  refine r_iinc (v := 3) (L' := [(2, .int 3), (1, .int x12), (0, .int lie)]) C dX3_layersTurned_25 1 rfl (by decide) (by decide) rfl ?_
  refine r_goto (tgt := 4) C dX3_layersTurned_28 (by decide) ?_
  refine r_iload_n C dX3_layersTurned_4 0 rfl ?_
  refine r_iconst (v := 4) C dX3_layersTurned_5 (by decide) ?_
  refine r_icmp_ge (tgt := 31) C dX3_layersTurned_6 (by decide) (fun c => absurd c (by decide)) (fun _ => ?_)
  refine r_iload_n C dX3_layersTurned_9 1 rfl ?_
  refine r_iload_n C dX3_layersTurned_10 2 rfl ?_
  refine r_iload_n C dX3_layersTurned_11 0 rfl ?_
  refine r_callS (wc := []) (wr := []) (st := [.int x12]) C (m_X3_layerAt l D cI cL cP cJ lie 3) k_X3_layerAt t_196 [] (show ([] : List Nat).Perm (List.range 0) by decide) rfl rfl rfl (Nat.le_of_ble_eq_true rfl) ⟨Nat.le_of_ble_eq_true rfl, Nat.le_of_ble_eq_true rfl⟩ ⟨Nat.zero_le _, Nat.zero_le _⟩ dX3_layersTurned_12 (fun r13 wr13 hw13 => ?_)
  obtain ⟨e_r13, rfl⟩ := hw13
  refine r_ws (I' := []) rfl ?_
  suffices K : ∀ x15 : Int32, x15 = ((if 0 ≤ r13 then (0) else (1))) → V p l e (rmm 1 23) s m args below meth c 3 D A 0 0 Q [] [(2, .int 3), (1, .int x12), (0, .int lie)] 23 [.int x15, .int x12] by
    refine r_if_ge (tgt := 22) C dX3_layersTurned_15 (by decide) (fun c14 => ?_) (fun c14 => ?_)
    · refine r_iconst (v := 0) C dX3_layersTurned_22 (by decide) ?_
      exact K _ (by simp only [if_pos c14])
    · refine r_iconst (v := 1) C dX3_layersTurned_18 (by decide) ?_
      refine r_goto (tgt := 23) C dX3_layersTurned_19 (by decide) ?_
      exact K _ (by simp only [if_neg c14])
  intro x15 e_x15
  refine r_iadd C dX3_layersTurned_23 rfl ?_
  refine r_top (fun x16 e_x16 => ?_)
  refine r_istore_n (L' := [(1, .int x16), (2, .int 3), (0, .int lie)]) C dX3_layersTurned_24 (by decide) rfl ?_
  refine r_iinc (v := 4) (L' := [(2, .int 4), (1, .int x16), (0, .int lie)]) C dX3_layersTurned_25 1 rfl (by decide) (by decide) rfl ?_
  refine r_goto (tgt := 4) C dX3_layersTurned_28 (by decide) ?_
  refine r_iload_n C dX3_layersTurned_4 0 rfl ?_
  refine r_iconst (v := 4) C dX3_layersTurned_5 (by decide) ?_
  refine r_icmp_ge (tgt := 31) C dX3_layersTurned_6 (by decide) (fun _ => ?_) (fun c => absurd c (by decide))
  refine r_iload_n C dX3_layersTurned_31 1 rfl ?_
  have eF : F_X3_layersTurned lie = x16 := by have q := e_r1.symm; subst q; have q := e_x3.symm; subst q; have q := e_x4.symm; subst q; have q := e_r5.symm; subst q; have q := e_x7.symm; subst q; have q := e_x8.symm; subst q; have q := e_r9.symm; subst q; have q := e_x11.symm; subst q; have q := e_x12.symm; subst q; have q := e_r13.symm; subst q; have q := e_x15.symm; subst q; have q := e_x16.symm; subst q; rfl
  exact r_iret (r := x16) C hA hr hlo dX3_layersTurned_32 [] ⟨by simp only [eF], rfl⟩ rfl hQ
theorem k_X3_isMirror : kS yX3_isMirror cX3_isMirror 1 (some .boolean) 1 := ⟨t_228, t_20, t_229, by decide +kernel, by decide +kernel, by decide +kernel⟩
set_option maxRecDepth 20000 in
def F_X3_isMirror (lie : Int32) : Int32 := let r1 : Int32 := F_X3_layersHome lie; let x5 : Int32 := (if r1 < 2 then (0) else (let r3 : Int32 := F_X3_length lie; (if (r3 &&& 1) = 1 then (1) else (0)))); x5
set_option maxRecDepth 20000 in
set_option maxHeartbeats 8000000 in
theorem m_X3_isMirror (l : Launch) (D : va_G) (cI cL cP cJ : ClassId) (lie : Int32) : M vI l yX3_isMirror cX3_isMirror 1 (some .boolean) 2 48 D (tyF cI cL cP cJ) [.int lie] [] (fun (r : Int32) (w1 : List va_W) => r = (F_X3_isMirror lie) ∧ w1 = []) := by
  refine m_start (by decide +kernel) (Nat.le_of_ble_eq_true rfl) (fun p e s m args below meth c A Q hA hQ C hr hlo => ?_)
  refine r_Le (L' := [(0, .int lie)]) rfl ?_
  refine r_iload_n C dX3_isMirror_0 0 rfl ?_
  refine r_callS (wc := []) (wr := []) (st := []) C (m_X3_layersHome l D cI cL cP cJ lie) k_X3_layersHome t_230 [] (show ([] : List Nat).Perm (List.range 0) by decide) rfl rfl rfl (Nat.le_of_ble_eq_true rfl) ⟨Nat.le_of_ble_eq_true rfl, Nat.le_of_ble_eq_true rfl⟩ ⟨Nat.zero_le _, Nat.zero_le _⟩ dX3_isMirror_1 (fun r1 wr1 hw1 => ?_)
  obtain ⟨e_r1, rfl⟩ := hw1
  refine r_ws (I' := []) rfl ?_
  refine r_iconst (v := 2) C dX3_isMirror_4 (by decide) ?_
  suffices K : ∀ x5 : Int32, x5 = ((if r1 < 2 then (0) else (let r3 : Int32 := F_X3_length lie; (if (r3 &&& 1) = 1 then (1) else (0))))) → V p l e (rmm 2 48) s m args below meth c 1 D A 0 0 Q [] [(0, .int lie)] 23 [.int x5] by
    refine r_icmp_lt (tgt := 22) C dX3_isMirror_5 (by decide) (fun c2 => ?_) (fun c2 => ?_)
    · refine r_iconst (v := 0) C dX3_isMirror_22 (by decide) ?_
      exact K _ (by simp only [if_pos c2])
    · refine r_iload_n C dX3_isMirror_8 0 rfl ?_
      refine r_callS (wc := []) (wr := []) (st := []) C (m_X3_length l D cI cL cP cJ lie) k_X3_length t_233 [] (show ([] : List Nat).Perm (List.range 0) by decide) rfl rfl rfl (Nat.le_of_ble_eq_true rfl) ⟨Nat.le_of_ble_eq_true rfl, Nat.le_of_ble_eq_true rfl⟩ ⟨Nat.zero_le _, Nat.zero_le _⟩ dX3_isMirror_9 (fun r3 wr3 hw3 => ?_)
      obtain ⟨e_r3, rfl⟩ := hw3
      refine r_ws (I' := []) rfl ?_
      refine r_iconst (v := 1) C dX3_isMirror_12 (by decide) ?_
      refine r_iand C dX3_isMirror_13 rfl ?_
      refine r_iconst (v := 1) C dX3_isMirror_14 (by decide) ?_
      refine r_icmp_ne (tgt := 22) C dX3_isMirror_15 (by decide) (fun c4 => ?_) (fun c4 => ?_)
      · refine r_iconst (v := 0) C dX3_isMirror_22 (by decide) ?_
        exact K _ (by have q := e_r3.symm; subst q; simp only [if_neg c2, if_neg c4])
      · refine r_iconst (v := 1) C dX3_isMirror_18 (by decide) ?_
        refine r_goto (tgt := 23) C dX3_isMirror_19 (by decide) ?_
        exact K _ (by have q := e_r3.symm; subst q; simp only [if_neg c2, if_pos c4])
  intro x5 e_x5
  have eF : F_X3_isMirror lie = x5 := by have q := e_r1.symm; subst q; have q := e_x5.symm; subst q; rfl
  exact r_zret (r := x5) C hA hr hlo (nb01 (by first | (rw [e_x5]; (try dsimp only); ((repeat' split) <;> (first | exact Or.inl rfl | exact Or.inr rfl))) | (have q := e_r1.symm; subst q; have q := e_x5.symm; subst q; (try dsimp only); ((repeat' split) <;> (first | exact Or.inl rfl | exact Or.inr rfl))))) dX3_isMirror_23 [] ⟨by simp only [eF], rfl⟩ rfl hQ

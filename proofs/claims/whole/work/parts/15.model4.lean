theorem k_X11_hook : kV yX11_hook cX11_hook 3 (some .int) 0 := ⟨t_1232, t_51, t_67, t_1233, by decide +kernel, by decide +kernel, by decide +kernel⟩
set_option maxRecDepth 20000 in
def F_X11_hook (fOne : Nat → Int32) : Int32 := let x1 : Int32 := ((0 : Int32) + (fOne 0)) + 4; let x2 : Int32 := (((9 : Int32) * x1) + (fOne 1)) + 4; let x3 : Int32 := (((9 : Int32) * x2) + (fOne 2)) + 4; let x4 : Int32 := (((9 : Int32) * x3) + (fOne 3)) + 4; x4
set_option maxRecDepth 20000 in
set_option maxHeartbeats 8000000 in
theorem m_X11_hook (l : Launch) (D : va_G) (cI cL cP cJ : ClassId) (o : Nat) (aS : Nat) (aPast : Nat) (aSnap : Nat) (aText : Nat) (aOne : Nat) (aTwo : Nat) (aBoth : Nat) (aWord : Nat) (aOpen : Nat) (aTimes : Nat) (aFar : Nat) (aQueue : Nat) (known : Int32) (kept : Int32) (len : Int32) (thr : Int32) (cre : Int32) (hash : Int64) (fOne : Nat → Int32) : M vI l yX11_hook cX11_hook 3 (some .int) 0 0 D (tyF cI cL cP cJ) [.ref o] [[(o, .inr (9, [.ref aS, .ref aPast, .int known, .ref aSnap, .int kept, .ref aText, .int len, .int thr, .ref aOne, .ref aTwo, .ref aBoth, .ref aWord, .int cre, .ref aOpen, .ref aTimes, .ref aFar, .ref aQueue, .long hash]))], [(aOne, .inl (cI, 4, .inl fOne))]] (fun (r : Int32) (w1 : List va_W) => r = (F_X11_hook fOne) ∧ w1 = [[(o, .inr (9, [.ref aS, .ref aPast, .int known, .ref aSnap, .int kept, .ref aText, .int len, .int thr, .ref aOne, .ref aTwo, .ref aBoth, .ref aWord, .int cre, .ref aOpen, .ref aTimes, .ref aFar, .ref aQueue, .long hash]))], [(aOne, .inl (cI, 4, .inl fOne))]]) := by
  refine m_start (by decide +kernel) (Nat.le_of_ble_eq_true rfl) (fun p e s m args below meth c A Q hA hQ C hr hlo => ?_)
  refine r_Le (L' := [(0, .ref o)]) rfl ?_
  refine r_iconst (v := 0) C dX11_hook_0 (by decide) ?_
  refine r_istore_n (L' := [(1, .int 0), (0, .ref o)]) C dX11_hook_1 (by decide) rfl ?_
  refine r_iconst (v := 0) C dX11_hook_2 (by decide) ?_
  refine r_istore_n (L' := [(2, .int 0), (1, .int 0), (0, .ref o)]) C dX11_hook_3 (by decide) rfl ?_
  refine r_iload_n C dX11_hook_4 0 rfl ?_
  refine r_iconst (v := 4) C dX11_hook_5 (by decide) ?_
  refine r_icmp_ge (tgt := 29) C dX11_hook_6 (by decide) (fun c => absurd c (by decide)) (fun _ => ?_)
  refine r_bipush (v := 9) C dX11_hook_9 (by decide) ?_
  refine r_iload_n C dX11_hook_11 1 rfl ?_
  refine r_imul (z := 0) C dX11_hook_12 (by decide) ?_
  refine r_aload_n C dX11_hook_13 2 rfl ?_
  refine r_get (Cn := RX11) (T := TX11) (N := 18) C inT11 0 rfl rfl 8 (by decide) t_901 rfl dX11_hook_14 ?_
  refine r_iload_n C dX11_hook_17 0 rfl ?_
  refine r_iald (z := fOne 0) C 1 0 rfl rfl (vp_in_nI (n := 0) (N := 4) (by decide) (by decide)) dX11_hook_18 (congrArg (fOne) (by decide)) ?_
  refine r_iadd C dX11_hook_19 rfl ?_
  refine r_iconst (v := 4) C dX11_hook_20 (by decide) ?_
  refine r_iadd C dX11_hook_21 rfl ?_
  refine r_top (fun x1 e_x1 => ?_)
  refine r_istore_n (L' := [(1, .int x1), (2, .int 0), (0, .ref o)]) C dX11_hook_22 (by decide) rfl ?_
  refine r_iinc (v := 1) (L' := [(2, .int 1), (1, .int x1), (0, .ref o)]) C dX11_hook_23 1 rfl (by decide) (by decide) rfl ?_
  refine r_goto (tgt := 4) C dX11_hook_26 (by decide) ?_
  refine r_iload_n C dX11_hook_4 0 rfl ?_
  refine r_iconst (v := 4) C dX11_hook_5 (by decide) ?_
  refine r_icmp_ge (tgt := 29) C dX11_hook_6 (by decide) (fun c => absurd c (by decide)) (fun _ => ?_)
  refine r_bipush (v := 9) C dX11_hook_9 (by decide) ?_
  refine r_iload_n C dX11_hook_11 1 rfl ?_
  refine r_imul C dX11_hook_12 rfl ?_
  refine r_aload_n C dX11_hook_13 2 rfl ?_
  refine r_get (Cn := RX11) (T := TX11) (N := 18) C inT11 0 rfl rfl 8 (by decide) t_901 rfl dX11_hook_14 ?_
  refine r_iload_n C dX11_hook_17 0 rfl ?_
  refine r_iald (z := fOne 1) C 1 0 rfl rfl (vp_in_nI (n := 1) (N := 4) (by decide) (by decide)) dX11_hook_18 (congrArg (fOne) (by decide)) ?_
  refine r_iadd C dX11_hook_19 rfl ?_
  refine r_iconst (v := 4) C dX11_hook_20 (by decide) ?_
  refine r_iadd C dX11_hook_21 rfl ?_
  refine r_top (fun x2 e_x2 => ?_)
  refine r_istore_n (L' := [(1, .int x2), (2, .int 1), (0, .ref o)]) C dX11_hook_22 (by decide) rfl ?_
  refine r_iinc (v := 2) (L' := [(2, .int 2), (1, .int x2), (0, .ref o)]) C dX11_hook_23 1 rfl (by decide) (by decide) rfl ?_
  refine r_goto (tgt := 4) C dX11_hook_26 (by decide) ?_
  refine r_iload_n C dX11_hook_4 0 rfl ?_
  refine r_iconst (v := 4) C dX11_hook_5 (by decide) ?_
  refine r_icmp_ge (tgt := 29) C dX11_hook_6 (by decide) (fun c => absurd c (by decide)) (fun _ => ?_)
  refine r_bipush (v := 9) C dX11_hook_9 (by decide) ?_
  refine r_iload_n C dX11_hook_11 1 rfl ?_
  refine r_imul C dX11_hook_12 rfl ?_
  refine r_aload_n C dX11_hook_13 2 rfl ?_
  refine r_get (Cn := RX11) (T := TX11) (N := 18) C inT11 0 rfl rfl 8 (by decide) t_901 rfl dX11_hook_14 ?_
  refine r_iload_n C dX11_hook_17 0 rfl ?_
  refine r_iald (z := fOne 2) C 1 0 rfl rfl (vp_in_nI (n := 2) (N := 4) (by decide) (by decide)) dX11_hook_18 (congrArg (fOne) (by decide)) ?_
  refine r_iadd C dX11_hook_19 rfl ?_
  refine r_iconst (v := 4) C dX11_hook_20 (by decide) ?_
  refine r_iadd C dX11_hook_21 rfl ?_
  refine r_top (fun x3 e_x3 => ?_)
  refine r_istore_n (L' := [(1, .int x3), (2, .int 2), (0, .ref o)]) C dX11_hook_22 (by decide) rfl ?_
  refine r_iinc (v := 3) (L' := [(2, .int 3), (1, .int x3), (0, .ref o)]) C dX11_hook_23 1 rfl (by decide) (by decide) rfl ?_
  refine r_goto (tgt := 4) C dX11_hook_26 (by decide) ?_
  refine r_iload_n C dX11_hook_4 0 rfl ?_
  refine r_iconst (v := 4) C dX11_hook_5 (by decide) ?_
  refine r_icmp_ge (tgt := 29) C dX11_hook_6 (by decide) (fun c => absurd c (by decide)) (fun _ => ?_)
  refine r_bipush (v := 9) C dX11_hook_9 (by decide) ?_
  refine r_iload_n C dX11_hook_11 1 rfl ?_
  refine r_imul C dX11_hook_12 rfl ?_
  refine r_aload_n C dX11_hook_13 2 rfl ?_
  refine r_get (Cn := RX11) (T := TX11) (N := 18) C inT11 0 rfl rfl 8 (by decide) t_901 rfl dX11_hook_14 ?_
  refine r_iload_n C dX11_hook_17 0 rfl ?_
  refine r_iald (z := fOne 3) C 1 0 rfl rfl (vp_in_nI (n := 3) (N := 4) (by decide) (by decide)) dX11_hook_18 (congrArg (fOne) (by decide)) ?_
  refine r_iadd C dX11_hook_19 rfl ?_
  refine r_iconst (v := 4) C dX11_hook_20 (by decide) ?_
  refine r_iadd C dX11_hook_21 rfl ?_
  refine r_top (fun x4 e_x4 => ?_)
  refine r_istore_n (L' := [(1, .int x4), (2, .int 3), (0, .ref o)]) C dX11_hook_22 (by decide) rfl ?_
  refine r_iinc (v := 4) (L' := [(2, .int 4), (1, .int x4), (0, .ref o)]) C dX11_hook_23 1 rfl (by decide) (by decide) rfl ?_
  refine r_goto (tgt := 4) C dX11_hook_26 (by decide) ?_
  refine r_iload_n C dX11_hook_4 0 rfl ?_
  refine r_iconst (v := 4) C dX11_hook_5 (by decide) ?_
  refine r_icmp_ge (tgt := 29) C dX11_hook_6 (by decide) (fun _ => ?_) (fun c => absurd c (by decide))
  refine r_iload_n C dX11_hook_29 1 rfl ?_
  have eF : F_X11_hook fOne = x4 := by have q := e_x1.symm; subst q; have q := e_x2.symm; subst q; have q := e_x3.symm; subst q; have q := e_x4.symm; subst q; rfl
  exact r_iret (r := x4) C hA hr hlo dX11_hook_30 [[(o, .inr (9, [.ref aS, .ref aPast, .int known, .ref aSnap, .int kept, .ref aText, .int len, .int thr, .ref aOne, .ref aTwo, .ref aBoth, .ref aWord, .int cre, .ref aOpen, .ref aTimes, .ref aFar, .ref aQueue, .long hash]))], [(aOne, .inl (cI, 4, .inl fOne))]] ⟨by simp only [eF], rfl⟩ rfl hQ
theorem k_X11_unhooks : kV yX11_unhooks cX11_unhooks 4 none 1 := ⟨t_1236, t_52, t_67, t_1237, by decide +kernel, by decide +kernel, by decide +kernel⟩
set_option maxRecDepth 20000 in
def F_X11_unhooks (fOne : Nat → Int32) (code : Int32) : (Nat → Int32) := let x1 : Int32 := (code - code / 9 * 9) - 4; let g2 : Nat → Int32 := upd fOne 3 x1; let x3 : Int32 := code / 9; let x4 : Int32 := (x3 - x3 / 9 * 9) - 4; let g5 : Nat → Int32 := upd g2 2 x4; let x6 : Int32 := x3 / 9; let x7 : Int32 := (x6 - x6 / 9 * 9) - 4; let g8 : Nat → Int32 := upd g5 1 x7; let x9 : Int32 := x6 / 9; let x10 : Int32 := (x9 - x9 / 9 * 9) - 4; let g11 : Nat → Int32 := upd g8 0 x10; g11
set_option maxRecDepth 20000 in
set_option maxHeartbeats 8000000 in
theorem m_X11_unhooks (l : Launch) (D : va_G) (cI cL cP cJ : ClassId) (o : Nat) (aS : Nat) (aPast : Nat) (aSnap : Nat) (aText : Nat) (aOne : Nat) (aTwo : Nat) (aBoth : Nat) (aWord : Nat) (aOpen : Nat) (aTimes : Nat) (aFar : Nat) (aQueue : Nat) (known : Int32) (kept : Int32) (len : Int32) (thr : Int32) (cre : Int32) (hash : Int64) (fOne : Nat → Int32) (code : Int32) : M vV l yX11_unhooks cX11_unhooks 4 none 0 0 D (tyF cI cL cP cJ) [.ref o, .int code] [[(o, .inr (9, [.ref aS, .ref aPast, .int known, .ref aSnap, .int kept, .ref aText, .int len, .int thr, .ref aOne, .ref aTwo, .ref aBoth, .ref aWord, .int cre, .ref aOpen, .ref aTimes, .ref aFar, .ref aQueue, .long hash]))], [(aOne, .inl (cI, 4, .inl fOne))]] (fun (r : Unit) (w1 : List va_W) => w1 = [[(o, .inr (9, [.ref aS, .ref aPast, .int known, .ref aSnap, .int kept, .ref aText, .int len, .int thr, .ref aOne, .ref aTwo, .ref aBoth, .ref aWord, .int cre, .ref aOpen, .ref aTimes, .ref aFar, .ref aQueue, .long hash]))], [(aOne, .inl (cI, 4, .inl (F_X11_unhooks fOne code)))]]) := by
  refine m_start (by decide +kernel) (Nat.le_of_ble_eq_true rfl) (fun p e s m args below meth c A Q hA hQ C hr hlo => ?_)
  refine r_Le (L' := [(0, .ref o), (1, .int code)]) rfl ?_
  refine r_iload_n C dX11_unhooks_0 1 rfl ?_
  refine r_istore_n (L' := [(2, .int code), (0, .ref o), (1, .int code)]) C dX11_unhooks_1 (by decide) rfl ?_
  refine r_iconst (v := 3) C dX11_unhooks_2 (by decide) ?_
  refine r_istore_n (L' := [(3, .int 3), (2, .int code), (0, .ref o), (1, .int code)]) C dX11_unhooks_3 (by decide) rfl ?_
  refine r_iload_n C dX11_unhooks_4 0 rfl ?_
  refine r_if_lt (tgt := 31) C dX11_unhooks_5 (by decide) (fun c => absurd c (by decide)) (fun _ => ?_)
  refine r_aload_n C dX11_unhooks_8 2 rfl ?_
  refine r_get (Cn := RX11) (T := TX11) (N := 18) C inT11 0 rfl rfl 8 (by decide) t_901 rfl dX11_unhooks_9 ?_
  refine r_iload_n C dX11_unhooks_12 0 rfl ?_
  refine r_iload_n C dX11_unhooks_13 1 rfl ?_
  refine r_bipush (v := 9) C dX11_unhooks_14 (by decide) ?_
  refine r_irem C dX11_unhooks_16 (by decide) rfl ?_
  refine r_iconst (v := 4) C dX11_unhooks_17 (by decide) ?_
  refine r_isub C dX11_unhooks_18 rfl ?_
  refine r_top (fun x1 e_x1 => ?_)
  obtain ⟨g2, e_g2⟩ : ∃ z : Nat → Int32, z = upd fOne 3 x1 := ⟨_, rfl⟩
  refine r_iast C 1 0 rfl rfl (vp_in_nI (n := 3) (N := 4) (by decide) (by decide)) (I' := [[(o, .inr (9, [.ref aS, .ref aPast, .int known, .ref aSnap, .int kept, .ref aText, .int len, .int thr, .ref aOne, .ref aTwo, .ref aBoth, .ref aWord, .int cre, .ref aOpen, .ref aTimes, .ref aFar, .ref aQueue, .long hash]))], [(aOne, .inl (cI, 4, .inl g2))]]) (by rw [e_g2]; rfl) dX11_unhooks_19 ?_
  refine r_iload_n C dX11_unhooks_20 1 rfl ?_
  refine r_bipush (v := 9) C dX11_unhooks_21 (by decide) ?_
  refine r_idiv C dX11_unhooks_23 (by decide) rfl ?_
  refine r_top (fun x3 e_x3 => ?_)
  refine r_istore_n (L' := [(2, .int x3), (3, .int 3), (0, .ref o), (1, .int code)]) C dX11_unhooks_24 (by decide) rfl ?_
  refine r_iinc (v := 2) (L' := [(3, .int 2), (2, .int x3), (0, .ref o), (1, .int code)]) C dX11_unhooks_25 1 rfl (by decide) (by decide) rfl ?_
  refine r_goto (tgt := 4) C dX11_unhooks_28 (by decide) ?_
  refine r_iload_n C dX11_unhooks_4 0 rfl ?_
  refine r_if_lt (tgt := 31) C dX11_unhooks_5 (by decide) (fun c => absurd c (by decide)) (fun _ => ?_)
  refine r_aload_n C dX11_unhooks_8 2 rfl ?_
  refine r_get (Cn := RX11) (T := TX11) (N := 18) C inT11 0 rfl rfl 8 (by decide) t_901 rfl dX11_unhooks_9 ?_
  refine r_iload_n C dX11_unhooks_12 0 rfl ?_
  refine r_iload_n C dX11_unhooks_13 1 rfl ?_
  refine r_bipush (v := 9) C dX11_unhooks_14 (by decide) ?_
  refine r_irem C dX11_unhooks_16 (by decide) rfl ?_
  refine r_iconst (v := 4) C dX11_unhooks_17 (by decide) ?_
  refine r_isub C dX11_unhooks_18 rfl ?_
  refine r_top (fun x4 e_x4 => ?_)
  obtain ⟨g5, e_g5⟩ : ∃ z : Nat → Int32, z = upd g2 2 x4 := ⟨_, rfl⟩
  refine r_iast C 1 0 rfl rfl (vp_in_nI (n := 2) (N := 4) (by decide) (by decide)) (I' := [[(o, .inr (9, [.ref aS, .ref aPast, .int known, .ref aSnap, .int kept, .ref aText, .int len, .int thr, .ref aOne, .ref aTwo, .ref aBoth, .ref aWord, .int cre, .ref aOpen, .ref aTimes, .ref aFar, .ref aQueue, .long hash]))], [(aOne, .inl (cI, 4, .inl g5))]]) (by rw [e_g5]; rfl) dX11_unhooks_19 ?_
  refine r_iload_n C dX11_unhooks_20 1 rfl ?_
  refine r_bipush (v := 9) C dX11_unhooks_21 (by decide) ?_
  refine r_idiv C dX11_unhooks_23 (by decide) rfl ?_
  refine r_top (fun x6 e_x6 => ?_)
  refine r_istore_n (L' := [(2, .int x6), (3, .int 2), (0, .ref o), (1, .int code)]) C dX11_unhooks_24 (by decide) rfl ?_
  refine r_iinc (v := 1) (L' := [(3, .int 1), (2, .int x6), (0, .ref o), (1, .int code)]) C dX11_unhooks_25 1 rfl (by decide) (by decide) rfl ?_
  refine r_goto (tgt := 4) C dX11_unhooks_28 (by decide) ?_
  refine r_iload_n C dX11_unhooks_4 0 rfl ?_
  refine r_if_lt (tgt := 31) C dX11_unhooks_5 (by decide) (fun c => absurd c (by decide)) (fun _ => ?_)
  refine r_aload_n C dX11_unhooks_8 2 rfl ?_
  refine r_get (Cn := RX11) (T := TX11) (N := 18) C inT11 0 rfl rfl 8 (by decide) t_901 rfl dX11_unhooks_9 ?_
  refine r_iload_n C dX11_unhooks_12 0 rfl ?_
  refine r_iload_n C dX11_unhooks_13 1 rfl ?_
  refine r_bipush (v := 9) C dX11_unhooks_14 (by decide) ?_
  refine r_irem C dX11_unhooks_16 (by decide) rfl ?_
  refine r_iconst (v := 4) C dX11_unhooks_17 (by decide) ?_
  refine r_isub C dX11_unhooks_18 rfl ?_
  refine r_top (fun x7 e_x7 => ?_)
  obtain ⟨g8, e_g8⟩ : ∃ z : Nat → Int32, z = upd g5 1 x7 := ⟨_, rfl⟩
  refine r_iast C 1 0 rfl rfl (vp_in_nI (n := 1) (N := 4) (by decide) (by decide)) (I' := [[(o, .inr (9, [.ref aS, .ref aPast, .int known, .ref aSnap, .int kept, .ref aText, .int len, .int thr, .ref aOne, .ref aTwo, .ref aBoth, .ref aWord, .int cre, .ref aOpen, .ref aTimes, .ref aFar, .ref aQueue, .long hash]))], [(aOne, .inl (cI, 4, .inl g8))]]) (by rw [e_g8]; rfl) dX11_unhooks_19 ?_
  refine r_iload_n C dX11_unhooks_20 1 rfl ?_
  refine r_bipush (v := 9) C dX11_unhooks_21 (by decide) ?_
  refine r_idiv C dX11_unhooks_23 (by decide) rfl ?_
  refine r_top (fun x9 e_x9 => ?_)
  refine r_istore_n (L' := [(2, .int x9), (3, .int 1), (0, .ref o), (1, .int code)]) C dX11_unhooks_24 (by decide) rfl ?_
  refine r_iinc (v := 0) (L' := [(3, .int 0), (2, .int x9), (0, .ref o), (1, .int code)]) C dX11_unhooks_25 1 rfl (by decide) (by decide) rfl ?_
  refine r_goto (tgt := 4) C dX11_unhooks_28 (by decide) ?_
  refine r_iload_n C dX11_unhooks_4 0 rfl ?_
  refine r_if_lt (tgt := 31) C dX11_unhooks_5 (by decide) (fun c => absurd c (by decide)) (fun _ => ?_)
  refine r_aload_n C dX11_unhooks_8 2 rfl ?_
  refine r_get (Cn := RX11) (T := TX11) (N := 18) C inT11 0 rfl rfl 8 (by decide) t_901 rfl dX11_unhooks_9 ?_
  refine r_iload_n C dX11_unhooks_12 0 rfl ?_
  refine r_iload_n C dX11_unhooks_13 1 rfl ?_
  refine r_bipush (v := 9) C dX11_unhooks_14 (by decide) ?_
  refine r_irem C dX11_unhooks_16 (by decide) rfl ?_
  refine r_iconst (v := 4) C dX11_unhooks_17 (by decide) ?_
  refine r_isub C dX11_unhooks_18 rfl ?_
  refine r_top (fun x10 e_x10 => ?_)
  obtain ⟨g11, e_g11⟩ : ∃ z : Nat → Int32, z = upd g8 0 x10 := ⟨_, rfl⟩
  refine r_iast C 1 0 rfl rfl (vp_in_nI (n := 0) (N := 4) (by decide) (by decide)) (I' := [[(o, .inr (9, [.ref aS, .ref aPast, .int known, .ref aSnap, .int kept, .ref aText, .int len, .int thr, .ref aOne, .ref aTwo, .ref aBoth, .ref aWord, .int cre, .ref aOpen, .ref aTimes, .ref aFar, .ref aQueue, .long hash]))], [(aOne, .inl (cI, 4, .inl g11))]]) (by rw [e_g11]; rfl) dX11_unhooks_19 ?_
  refine r_iload_n C dX11_unhooks_20 1 rfl ?_
  refine r_bipush (v := 9) C dX11_unhooks_21 (by decide) ?_
  refine r_idiv C dX11_unhooks_23 (by decide) rfl ?_
  refine r_top (fun x12 e_x12 => ?_)
  refine r_istore_n (L' := [(2, .int x12), (3, .int 0), (0, .ref o), (1, .int code)]) C dX11_unhooks_24 (by decide) rfl ?_
  refine r_iinc (v := (-1)) (L' := [(3, .int (-1)), (2, .int x12), (0, .ref o), (1, .int code)]) C dX11_unhooks_25 1 rfl (by decide) (by decide) rfl ?_
  refine r_goto (tgt := 4) C dX11_unhooks_28 (by decide) ?_
  refine r_iload_n C dX11_unhooks_4 0 rfl ?_
  refine r_if_lt (tgt := 31) C dX11_unhooks_5 (by decide) (fun _ => ?_) (fun c => absurd c (by decide))
  have eF : F_X11_unhooks fOne code = g11 := by have q := e_x1.symm; subst q; have q := e_g2.symm; subst q; have q := e_x3.symm; subst q; have q := e_x4.symm; subst q; have q := e_g5.symm; subst q; have q := e_x6.symm; subst q; have q := e_x7.symm; subst q; have q := e_g8.symm; subst q; have q := e_x9.symm; subst q; have q := e_x10.symm; subst q; have q := e_g11.symm; subst q; have q := e_x12.symm; subst q; rfl
  exact r_vret (r := ()) C hA hr hlo dX11_unhooks_31 [[(o, .inr (9, [.ref aS, .ref aPast, .int known, .ref aSnap, .int kept, .ref aText, .int len, .int thr, .ref aOne, .ref aTwo, .ref aBoth, .ref aWord, .int cre, .ref aOpen, .ref aTimes, .ref aFar, .ref aQueue, .long hash]))], [(aOne, .inl (cI, 4, .inl g11))]] (by simp only [eF]) rfl hQ
theorem k_X11_spread : kV yX11_spread cX11_spread 7 (some .int) 1 := ⟨t_1228, t_50, t_67, t_1229, by decide +kernel, by decide +kernel, by decide +kernel⟩
def F_X11_spread_L2  : Nat → (Nat → Int32) → Int32 → (Nat → Int32) × Int32
  | 0, k1, y2 => (k1, y2)
  | nn + 1, k1, y2 => (if 6561 ≤ y2 then ((k1, y2)) else (let g5 : Nat → Int32 := upd k1 (y2.toNatClampNeg) 0; let x6 : Int32 := y2 + 1; F_X11_spread_L2 nn g5 x6))
def P_X11_spread_L2  : Nat → (Nat → Int32) → Int32 → Prop
  | 0, _, _ => False
  | nn + 1, k1, y2 => ((6561 ≤ y2 → True) ∧ (¬ 6561 ≤ y2 → ((vp_in y2 6561) ∧ (∀ g5 : Nat → Int32, g5 = upd k1 (y2.toNatClampNeg) 0 → (∀ x6 : Int32, x6 = y2 + 1 → (P_X11_spread_L2 nn g5 x6))))))
def F_X11_spread_L73 (length : Int32) : Nat → (Nat → Int32) → (Nat → Int32) → (Nat → Int32) → Int32 → Int32 → Int32 → (Nat → Int32) × (Nat → Int32) × (Nat → Int32) × Int32 × Int32 × Int32
  | 0, k17, k18, k19, y20, y21, y22 => (k17, k18, k19, y20, y21, y22)
  | nn + 1, k17, k18, k19, y20, y21, y22 => (if y20 ≤ y22 then ((k17, k18, k19, y20, y21, y22)) else (let x27 : Int32 := (if (k18 (k19 y22.toNatClampNeg).toNatClampNeg) = (length + 1) then (1) else (0)); let x28 : Int32 := y21 + x27; let g31 : Nat → Int32 := F_X11_unhooks k17 (k19 y22.toNatClampNeg); let g34 : Nat → Int32 := F_X11_foldsOne g31 0; let r35 : Int32 := F_X11_hook g34; let x46 : Int32 := (if (k18 r35.toNatClampNeg) = 0 then (let x45 : Int32 := y20 + 1; x45) else (y20)); let g47 : Nat → Int32 := (if (k18 r35.toNatClampNeg) = 0 then (let x40 : Int32 := (k18 (k19 y22.toNatClampNeg).toNatClampNeg) + 1; let g42 : Nat → Int32 := upd k18 (r35.toNatClampNeg) x40; g42) else (k18)); let g48 : Nat → Int32 := (if (k18 r35.toNatClampNeg) = 0 then (let g44 : Nat → Int32 := upd k19 (y20.toNatClampNeg) r35; g44) else (k19)); let g51 : Nat → Int32 := F_X11_unhooks g34 (g48 y22.toNatClampNeg); let g54 : Nat → Int32 := F_X11_foldsOne g51 1; let r55 : Int32 := F_X11_hook g54; let x66 : Int32 := (if (g47 r55.toNatClampNeg) = 0 then (let x65 : Int32 := x46 + 1; x65) else (x46)); let g67 : Nat → Int32 := (if (g47 r55.toNatClampNeg) = 0 then (let x60 : Int32 := (g47 (g48 y22.toNatClampNeg).toNatClampNeg) + 1; let g62 : Nat → Int32 := upd g47 (r55.toNatClampNeg) x60; g62) else (g47)); let g68 : Nat → Int32 := (if (g47 r55.toNatClampNeg) = 0 then (let g64 : Nat → Int32 := upd g48 (x46.toNatClampNeg) r55; g64) else (g48)); let g71 : Nat → Int32 := F_X11_unhooks g54 (g68 y22.toNatClampNeg); let g74 : Nat → Int32 := F_X11_foldsOne g71 2; let r75 : Int32 := F_X11_hook g74; let x86 : Int32 := (if (g67 r75.toNatClampNeg) = 0 then (let x85 : Int32 := x66 + 1; x85) else (x66)); let g87 : Nat → Int32 := (if (g67 r75.toNatClampNeg) = 0 then (let x80 : Int32 := (g67 (g68 y22.toNatClampNeg).toNatClampNeg) + 1; let g82 : Nat → Int32 := upd g67 (r75.toNatClampNeg) x80; g82) else (g67)); let g88 : Nat → Int32 := (if (g67 r75.toNatClampNeg) = 0 then (let g84 : Nat → Int32 := upd g68 (x66.toNatClampNeg) r75; g84) else (g68)); let g91 : Nat → Int32 := F_X11_unhooks g74 (g88 y22.toNatClampNeg); let g94 : Nat → Int32 := F_X11_foldsOne g91 3; let r95 : Int32 := F_X11_hook g94; let x106 : Int32 := (if (g87 r95.toNatClampNeg) = 0 then (let x105 : Int32 := x86 + 1; x105) else (x86)); let g107 : Nat → Int32 := (if (g87 r95.toNatClampNeg) = 0 then (let x100 : Int32 := (g87 (g88 y22.toNatClampNeg).toNatClampNeg) + 1; let g102 : Nat → Int32 := upd g87 (r95.toNatClampNeg) x100; g102) else (g87)); let g108 : Nat → Int32 := (if (g87 r95.toNatClampNeg) = 0 then (let g104 : Nat → Int32 := upd g88 (x86.toNatClampNeg) r95; g104) else (g88)); let x109 : Int32 := y22 + 1; F_X11_spread_L73 length nn g94 g107 g108 x106 x28 x109))
def P_X11_spread_L73 (length : Int32) : Nat → (Nat → Int32) → (Nat → Int32) → (Nat → Int32) → Int32 → Int32 → Int32 → Prop
  | 0, _, _, _, _, _, _ => False
  | nn + 1, k17, k18, k19, y20, y21, y22 => ((y20 ≤ y22 → True) ∧ (¬ y20 ≤ y22 → ((vp_in y22 400) ∧ ((vp_in (k19 y22.toNatClampNeg) 6561) ∧ (∀ x27 : Int32, x27 = ((if (k18 (k19 y22.toNatClampNeg).toNatClampNeg) = (length + 1) then (1) else (0))) → (∀ x28 : Int32, x28 = y21 + x27 → ((vp_in y22 400) ∧ (∀ g31 : Nat → Int32, g31 = F_X11_unhooks k17 (k19 y22.toNatClampNeg) → ((P_X11_foldsOne g31 0) ∧ (∀ g34 : Nat → Int32, g34 = F_X11_foldsOne g31 0 → (∀ r35 : Int32, r35 = F_X11_hook g34 → ((vp_in r35 6561) ∧ ((((k18 r35.toNatClampNeg) = 0 → ((vp_in y22 400) ∧ ((vp_in (k19 y22.toNatClampNeg) 6561) ∧ (∀ x40 : Int32, x40 = (k18 (k19 y22.toNatClampNeg).toNatClampNeg) + 1 → ((vp_in r35 6561) ∧ (∀ g42 : Nat → Int32, g42 = upd k18 (r35.toNatClampNeg) x40 → (vp_in y20 400))))))) ∧ (¬ (k18 r35.toNatClampNeg) = 0 → True)) ∧ (∀ x46 : Int32, x46 = ((if (k18 r35.toNatClampNeg) = 0 then (let x45 : Int32 := y20 + 1; x45) else (y20))) → (∀ g47 : Nat → Int32, g47 = ((if (k18 r35.toNatClampNeg) = 0 then (let x40 : Int32 := (k18 (k19 y22.toNatClampNeg).toNatClampNeg) + 1; let g42 : Nat → Int32 := upd k18 (r35.toNatClampNeg) x40; g42) else (k18))) → (∀ g48 : Nat → Int32, g48 = ((if (k18 r35.toNatClampNeg) = 0 then (let g44 : Nat → Int32 := upd k19 (y20.toNatClampNeg) r35; g44) else (k19))) → ((vp_in y22 400) ∧ (∀ g51 : Nat → Int32, g51 = F_X11_unhooks g34 (g48 y22.toNatClampNeg) → ((P_X11_foldsOne g51 1) ∧ (∀ g54 : Nat → Int32, g54 = F_X11_foldsOne g51 1 → (∀ r55 : Int32, r55 = F_X11_hook g54 → ((vp_in r55 6561) ∧ ((((g47 r55.toNatClampNeg) = 0 → ((vp_in y22 400) ∧ ((vp_in (g48 y22.toNatClampNeg) 6561) ∧ (∀ x60 : Int32, x60 = (g47 (g48 y22.toNatClampNeg).toNatClampNeg) + 1 → ((vp_in r55 6561) ∧ (∀ g62 : Nat → Int32, g62 = upd g47 (r55.toNatClampNeg) x60 → (vp_in x46 400))))))) ∧ (¬ (g47 r55.toNatClampNeg) = 0 → True)) ∧ (∀ x66 : Int32, x66 = ((if (g47 r55.toNatClampNeg) = 0 then (let x65 : Int32 := x46 + 1; x65) else (x46))) → (∀ g67 : Nat → Int32, g67 = ((if (g47 r55.toNatClampNeg) = 0 then (let x60 : Int32 := (g47 (g48 y22.toNatClampNeg).toNatClampNeg) + 1; let g62 : Nat → Int32 := upd g47 (r55.toNatClampNeg) x60; g62) else (g47))) → (∀ g68 : Nat → Int32, g68 = ((if (g47 r55.toNatClampNeg) = 0 then (let g64 : Nat → Int32 := upd g48 (x46.toNatClampNeg) r55; g64) else (g48))) → ((vp_in y22 400) ∧ (∀ g71 : Nat → Int32, g71 = F_X11_unhooks g54 (g68 y22.toNatClampNeg) → ((P_X11_foldsOne g71 2) ∧ (∀ g74 : Nat → Int32, g74 = F_X11_foldsOne g71 2 → (∀ r75 : Int32, r75 = F_X11_hook g74 → ((vp_in r75 6561) ∧ ((((g67 r75.toNatClampNeg) = 0 → ((vp_in y22 400) ∧ ((vp_in (g68 y22.toNatClampNeg) 6561) ∧ (∀ x80 : Int32, x80 = (g67 (g68 y22.toNatClampNeg).toNatClampNeg) + 1 → ((vp_in r75 6561) ∧ (∀ g82 : Nat → Int32, g82 = upd g67 (r75.toNatClampNeg) x80 → (vp_in x66 400))))))) ∧ (¬ (g67 r75.toNatClampNeg) = 0 → True)) ∧ (∀ x86 : Int32, x86 = ((if (g67 r75.toNatClampNeg) = 0 then (let x85 : Int32 := x66 + 1; x85) else (x66))) → (∀ g87 : Nat → Int32, g87 = ((if (g67 r75.toNatClampNeg) = 0 then (let x80 : Int32 := (g67 (g68 y22.toNatClampNeg).toNatClampNeg) + 1; let g82 : Nat → Int32 := upd g67 (r75.toNatClampNeg) x80; g82) else (g67))) → (∀ g88 : Nat → Int32, g88 = ((if (g67 r75.toNatClampNeg) = 0 then (let g84 : Nat → Int32 := upd g68 (x66.toNatClampNeg) r75; g84) else (g68))) → ((vp_in y22 400) ∧ (∀ g91 : Nat → Int32, g91 = F_X11_unhooks g74 (g88 y22.toNatClampNeg) → ((P_X11_foldsOne g91 3) ∧ (∀ g94 : Nat → Int32, g94 = F_X11_foldsOne g91 3 → (∀ r95 : Int32, r95 = F_X11_hook g94 → ((vp_in r95 6561) ∧ ((((g87 r95.toNatClampNeg) = 0 → ((vp_in y22 400) ∧ ((vp_in (g88 y22.toNatClampNeg) 6561) ∧ (∀ x100 : Int32, x100 = (g87 (g88 y22.toNatClampNeg).toNatClampNeg) + 1 → ((vp_in r95 6561) ∧ (∀ g102 : Nat → Int32, g102 = upd g87 (r95.toNatClampNeg) x100 → (vp_in x86 400))))))) ∧ (¬ (g87 r95.toNatClampNeg) = 0 → True)) ∧ (∀ x106 : Int32, x106 = ((if (g87 r95.toNatClampNeg) = 0 then (let x105 : Int32 := x86 + 1; x105) else (x86))) → (∀ g107 : Nat → Int32, g107 = ((if (g87 r95.toNatClampNeg) = 0 then (let x100 : Int32 := (g87 (g88 y22.toNatClampNeg).toNatClampNeg) + 1; let g102 : Nat → Int32 := upd g87 (r95.toNatClampNeg) x100; g102) else (g87))) → (∀ g108 : Nat → Int32, g108 = ((if (g87 r95.toNatClampNeg) = 0 then (let g104 : Nat → Int32 := upd g88 (x86.toNatClampNeg) r95; g104) else (g88))) → (∀ x109 : Int32, x109 = y22 + 1 → (P_X11_spread_L73 length nn g94 g107 g108 x106 x28 x109))))))))))))))))))))))))))))))))))))))))))))))))
set_option maxRecDepth 20000 in
def F_X11_spread (fOne : Nat → Int32) (fFar : Nat → Int32) (fQueue : Nat → Int32) (length : Int32) : Int32 × (Nat → Int32) × (Nat → Int32) × (Nat → Int32) := let f7 : Nat → Int32 := (F_X11_spread_L2 6562 fFar 0).1; let g9 : Nat → Int32 := upd fOne 0 1; let g10 : Nat → Int32 := upd g9 1 2; let g11 : Nat → Int32 := upd g10 2 3; let g12 : Nat → Int32 := upd g11 3 4; let r13 : Int32 := F_X11_hook g12; let g14 : Nat → Int32 := upd fQueue 0 r13; let g16 : Nat → Int32 := upd f7 ((g14 0).toNatClampNeg) 1; let f110 : Nat → Int32 := (F_X11_spread_L73 length 402 g12 g16 g14 1 0 0).1; let f111 : Nat → Int32 := (F_X11_spread_L73 length 402 g12 g16 g14 1 0 0).2.1; let f112 : Nat → Int32 := (F_X11_spread_L73 length 402 g12 g16 g14 1 0 0).2.2.1; let z114 : Int32 := (F_X11_spread_L73 length 402 g12 g16 g14 1 0 0).2.2.2.2.1; (z114, f110, f111, f112)
set_option maxRecDepth 20000 in
def P_X11_spread (fOne : Nat → Int32) (fFar : Nat → Int32) (fQueue : Nat → Int32) (length : Int32) : Prop := ((P_X11_spread_L2 6562 fFar 0) ∧ (∀ f7 : Nat → Int32, f7 = (F_X11_spread_L2 6562 fFar 0).1 → (∀ z8 : Int32, z8 = (F_X11_spread_L2 6562 fFar 0).2 → (∀ g9 : Nat → Int32, g9 = upd fOne 0 1 → (∀ g10 : Nat → Int32, g10 = upd g9 1 2 → (∀ g11 : Nat → Int32, g11 = upd g10 2 3 → (∀ g12 : Nat → Int32, g12 = upd g11 3 4 → (∀ r13 : Int32, r13 = F_X11_hook g12 → (∀ g14 : Nat → Int32, g14 = upd fQueue 0 r13 → ((vp_in (g14 0) 6561) ∧ (∀ g16 : Nat → Int32, g16 = upd f7 ((g14 0).toNatClampNeg) 1 → (P_X11_spread_L73 length 402 g12 g16 g14 1 0 0))))))))))))
set_option maxRecDepth 20000 in
set_option maxHeartbeats 8000000 in
theorem m_X11_spread (l : Launch) (D : va_G) (cI cL cP cJ : ClassId) (o : Nat) (aS : Nat) (aPast : Nat) (aSnap : Nat) (aText : Nat) (aOne : Nat) (aTwo : Nat) (aBoth : Nat) (aWord : Nat) (aOpen : Nat) (aTimes : Nat) (aFar : Nat) (aQueue : Nat) (known : Int32) (kept : Int32) (len : Int32) (thr : Int32) (cre : Int32) (hash : Int64) (fOne : Nat → Int32) (fFar : Nat → Int32) (fQueue : Nat → Int32) (length : Int32) (hp : P_X11_spread fOne fFar fQueue length) : M vI l yX11_spread cX11_spread 7 (some .int) 1 23 D (tyF cI cL cP cJ) [.ref o, .int length] [[(o, .inr (9, [.ref aS, .ref aPast, .int known, .ref aSnap, .int kept, .ref aText, .int len, .int thr, .ref aOne, .ref aTwo, .ref aBoth, .ref aWord, .int cre, .ref aOpen, .ref aTimes, .ref aFar, .ref aQueue, .long hash]))], [(aOne, .inl (cI, 4, .inl fOne))], [(aFar, .inl (cI, 6561, .inl fFar))], [(aQueue, .inl (cI, 400, .inl fQueue))]] (fun (r : Int32) (w1 : List va_W) => r = (F_X11_spread fOne fFar fQueue length).1 ∧ w1 = [[(o, .inr (9, [.ref aS, .ref aPast, .int known, .ref aSnap, .int kept, .ref aText, .int len, .int thr, .ref aOne, .ref aTwo, .ref aBoth, .ref aWord, .int cre, .ref aOpen, .ref aTimes, .ref aFar, .ref aQueue, .long hash]))], [(aOne, .inl (cI, 4, .inl ((F_X11_spread fOne fFar fQueue length).2.1)))], [(aFar, .inl (cI, 6561, .inl ((F_X11_spread fOne fFar fQueue length).2.2.1)))], [(aQueue, .inl (cI, 400, .inl ((F_X11_spread fOne fFar fQueue length).2.2.2)))]]) := by
  unfold P_X11_spread at hp
  refine m_start (by decide +kernel) (Nat.le_of_ble_eq_true rfl) (fun p e s m args below meth c A Q hA hQ C hr hlo => ?_)
  refine r_Le (L' := [(0, .ref o), (1, .int length)]) rfl ?_
  refine r_iconst (v := 0) C dX11_spread_0 (by decide) ?_
  refine r_istore_n (L' := [(2, .int 0), (0, .ref o), (1, .int length)]) C dX11_spread_1 (by decide) rfl ?_
  obtain ⟨hpl, hp⟩ := hp
  have hL : ∀ (nn : Nat) (k1 : Nat → Int32) (y2 : Int32), P_X11_spread_L2 nn k1 y2 → (∀ f7 : Nat → Int32, f7 = (F_X11_spread_L2 nn k1 y2).1 → ∀ z8 : Int32, z8 = (F_X11_spread_L2 nn k1 y2).2 → V p l e (rmm 1 23) s m args below meth c 7 D A 0 0 Q [[(o, .inr (9, [.ref aS, .ref aPast, .int known, .ref aSnap, .int kept, .ref aText, .int len, .int thr, .ref aOne, .ref aTwo, .ref aBoth, .ref aWord, .int cre, .ref aOpen, .ref aTimes, .ref aFar, .ref aQueue, .long hash]))], [(aOne, .inl (cI, 4, .inl fOne))], [(aFar, .inl (cI, 6561, .inl f7))], [(aQueue, .inl (cI, 400, .inl fQueue))]] [(2, .int z8), (0, .ref o), (1, .int length)] 22 []) → V p l e (rmm 1 23) s m args below meth c 7 D A 0 0 Q [[(o, .inr (9, [.ref aS, .ref aPast, .int known, .ref aSnap, .int kept, .ref aText, .int len, .int thr, .ref aOne, .ref aTwo, .ref aBoth, .ref aWord, .int cre, .ref aOpen, .ref aTimes, .ref aFar, .ref aQueue, .long hash]))], [(aOne, .inl (cI, 4, .inl fOne))], [(aFar, .inl (cI, 6561, .inl k1))], [(aQueue, .inl (cI, 400, .inl fQueue))]] [(2, .int y2), (0, .ref o), (1, .int length)] 2 [] := by
    clear hpl hp
    intro nn
    induction nn with
    | zero => intro k1 y2 hp kk; rw [P_X11_spread_L2] at hp; exact hp.elim
    | succ nn ih =>
      intro k1 y2 hp kk
      rw [P_X11_spread_L2] at hp
      refine r_iload_n C dX11_spread_2 0 rfl ?_
      refine r_sipush (v := 6561) C dX11_spread_3 (by decide) ?_
      refine r_icmp_ge (tgt := 22) C dX11_spread_6 (by decide) (fun c3 => ?_) (fun c3 => ?_)
      · have eF : F_X11_spread_L2 (nn + 1) k1 y2 = (k1, y2) := by simp only [F_X11_spread_L2, if_pos c3]
        exact kk _ (by rw [eF]) _ (by rw [eF])
      · have hp := hp.2 c3
        refine r_aload_n C dX11_spread_9 1 rfl ?_
        refine r_get (Cn := RX11) (T := TX11) (N := 18) C inT11 0 rfl rfl 15 (by decide) t_908 rfl dX11_spread_10 ?_
        refine r_iload_n C dX11_spread_13 0 rfl ?_
        refine r_iconst (v := 0) C dX11_spread_14 (by decide) ?_
        obtain ⟨h4, hp⟩ := hp
        obtain ⟨g5, e_g5⟩ : ∃ z : Nat → Int32, z = upd k1 (y2.toNatClampNeg) 0 := ⟨_, rfl⟩
        have hp := hp g5 e_g5
        refine r_iast C 2 0 rfl rfl h4 (I' := [[(o, .inr (9, [.ref aS, .ref aPast, .int known, .ref aSnap, .int kept, .ref aText, .int len, .int thr, .ref aOne, .ref aTwo, .ref aBoth, .ref aWord, .int cre, .ref aOpen, .ref aTimes, .ref aFar, .ref aQueue, .long hash]))], [(aOne, .inl (cI, 4, .inl fOne))], [(aFar, .inl (cI, 6561, .inl g5))], [(aQueue, .inl (cI, 400, .inl fQueue))]]) (by rw [e_g5]; rfl) dX11_spread_15 ?_
        obtain ⟨x6, e_x6⟩ : ∃ z : Int32, z = y2 + 1 := ⟨_, rfl⟩
        have hp := hp x6 e_x6
        refine r_iinc (v := x6) (L' := [(2, .int x6), (0, .ref o), (1, .int length)]) C dX11_spread_16 0 rfl (by rw [e_x6]; exact ii (by decide)) (by decide) rfl ?_
        refine r_goto (tgt := 2) C dX11_spread_19 (by decide) ?_
        have eF : F_X11_spread_L2 (nn + 1) k1 y2 = F_X11_spread_L2 nn g5 x6 := by have q := e_g5.symm; subst q; have q := e_x6.symm; subst q; simp only [F_X11_spread_L2, if_neg c3]
        exact ih g5 x6 hp (fun f7 e_f7 z8 e_z8 => kk f7 (by rw [eF]; exact e_f7) z8 (by rw [eF]; exact e_z8))
  refine hL 6562 fFar 0 hpl (fun f7 e_f7 z8 e_z8 => ?_)
  clear hL hpl
  have hp := hp f7 e_f7
  have hp := hp z8 e_z8
  refine r_iconst (v := 0) C dX11_spread_22 (by decide) ?_
  refine r_istore_n (L' := [(2, .int 0), (0, .ref o), (1, .int length)]) C dX11_spread_23 (by decide) rfl ?_
  refine r_iload_n C dX11_spread_24 0 rfl ?_
  refine r_iconst (v := 4) C dX11_spread_25 (by decide) ?_
  refine r_icmp_ge (tgt := 44) C dX11_spread_26 (by decide) (fun c => absurd c (by decide)) (fun _ => ?_)
  refine r_aload_n C dX11_spread_29 1 rfl ?_
  refine r_get (Cn := RX11) (T := TX11) (N := 18) C inT11 0 rfl rfl 8 (by decide) t_901 rfl dX11_spread_30 ?_
  refine r_iload_n C dX11_spread_33 0 rfl ?_
  refine r_iload_n C dX11_spread_34 0 rfl ?_
  refine r_iconst (v := 1) C dX11_spread_35 (by decide) ?_
  refine r_iadd (z := 1) C dX11_spread_36 (by decide) ?_
  obtain ⟨g9, e_g9⟩ : ∃ z : Nat → Int32, z = upd fOne 0 1 := ⟨_, rfl⟩
  have hp := hp g9 e_g9
  refine r_iast C 1 0 rfl rfl (vp_in_nI (n := 0) (N := 4) (by decide) (by decide)) (I' := [[(o, .inr (9, [.ref aS, .ref aPast, .int known, .ref aSnap, .int kept, .ref aText, .int len, .int thr, .ref aOne, .ref aTwo, .ref aBoth, .ref aWord, .int cre, .ref aOpen, .ref aTimes, .ref aFar, .ref aQueue, .long hash]))], [(aOne, .inl (cI, 4, .inl g9))], [(aFar, .inl (cI, 6561, .inl f7))], [(aQueue, .inl (cI, 400, .inl fQueue))]]) (by rw [e_g9]; rfl) dX11_spread_37 ?_
  refine r_iinc (v := 1) (L' := [(2, .int 1), (0, .ref o), (1, .int length)]) C dX11_spread_38 0 rfl (by decide) (by decide) rfl ?_
  refine r_goto (tgt := 24) C dX11_spread_41 (by decide) ?_
  refine r_iload_n C dX11_spread_24 0 rfl ?_
  refine r_iconst (v := 4) C dX11_spread_25 (by decide) ?_
  refine r_icmp_ge (tgt := 44) C dX11_spread_26 (by decide) (fun c => absurd c (by decide)) (fun _ => ?_)
  refine r_aload_n C dX11_spread_29 1 rfl ?_
  refine r_get (Cn := RX11) (T := TX11) (N := 18) C inT11 0 rfl rfl 8 (by decide) t_901 rfl dX11_spread_30 ?_
  refine r_iload_n C dX11_spread_33 0 rfl ?_
  refine r_iload_n C dX11_spread_34 0 rfl ?_
  refine r_iconst (v := 1) C dX11_spread_35 (by decide) ?_
  refine r_iadd (z := 2) C dX11_spread_36 (by decide) ?_
  obtain ⟨g10, e_g10⟩ : ∃ z : Nat → Int32, z = upd g9 1 2 := ⟨_, rfl⟩
  have hp := hp g10 e_g10
  refine r_iast C 1 0 rfl rfl (vp_in_nI (n := 1) (N := 4) (by decide) (by decide)) (I' := [[(o, .inr (9, [.ref aS, .ref aPast, .int known, .ref aSnap, .int kept, .ref aText, .int len, .int thr, .ref aOne, .ref aTwo, .ref aBoth, .ref aWord, .int cre, .ref aOpen, .ref aTimes, .ref aFar, .ref aQueue, .long hash]))], [(aOne, .inl (cI, 4, .inl g10))], [(aFar, .inl (cI, 6561, .inl f7))], [(aQueue, .inl (cI, 400, .inl fQueue))]]) (by rw [e_g10]; rfl) dX11_spread_37 ?_
  refine r_iinc (v := 2) (L' := [(2, .int 2), (0, .ref o), (1, .int length)]) C dX11_spread_38 0 rfl (by decide) (by decide) rfl ?_
  refine r_goto (tgt := 24) C dX11_spread_41 (by decide) ?_
  refine r_iload_n C dX11_spread_24 0 rfl ?_
  refine r_iconst (v := 4) C dX11_spread_25 (by decide) ?_
  refine r_icmp_ge (tgt := 44) C dX11_spread_26 (by decide) (fun c => absurd c (by decide)) (fun _ => ?_)
  refine r_aload_n C dX11_spread_29 1 rfl ?_
  refine r_get (Cn := RX11) (T := TX11) (N := 18) C inT11 0 rfl rfl 8 (by decide) t_901 rfl dX11_spread_30 ?_
  refine r_iload_n C dX11_spread_33 0 rfl ?_
  refine r_iload_n C dX11_spread_34 0 rfl ?_
  refine r_iconst (v := 1) C dX11_spread_35 (by decide) ?_
  refine r_iadd (z := 3) C dX11_spread_36 (by decide) ?_
  obtain ⟨g11, e_g11⟩ : ∃ z : Nat → Int32, z = upd g10 2 3 := ⟨_, rfl⟩
  have hp := hp g11 e_g11
  refine r_iast C 1 0 rfl rfl (vp_in_nI (n := 2) (N := 4) (by decide) (by decide)) (I' := [[(o, .inr (9, [.ref aS, .ref aPast, .int known, .ref aSnap, .int kept, .ref aText, .int len, .int thr, .ref aOne, .ref aTwo, .ref aBoth, .ref aWord, .int cre, .ref aOpen, .ref aTimes, .ref aFar, .ref aQueue, .long hash]))], [(aOne, .inl (cI, 4, .inl g11))], [(aFar, .inl (cI, 6561, .inl f7))], [(aQueue, .inl (cI, 400, .inl fQueue))]]) (by rw [e_g11]; rfl) dX11_spread_37 ?_
  refine r_iinc (v := 3) (L' := [(2, .int 3), (0, .ref o), (1, .int length)]) C dX11_spread_38 0 rfl (by decide) (by decide) rfl ?_
  refine r_goto (tgt := 24) C dX11_spread_41 (by decide) ?_
  refine r_iload_n C dX11_spread_24 0 rfl ?_
  refine r_iconst (v := 4) C dX11_spread_25 (by decide) ?_
  refine r_icmp_ge (tgt := 44) C dX11_spread_26 (by decide) (fun c => absurd c (by decide)) (fun _ => ?_)
  refine r_aload_n C dX11_spread_29 1 rfl ?_
  refine r_get (Cn := RX11) (T := TX11) (N := 18) C inT11 0 rfl rfl 8 (by decide) t_901 rfl dX11_spread_30 ?_
  refine r_iload_n C dX11_spread_33 0 rfl ?_
  refine r_iload_n C dX11_spread_34 0 rfl ?_
  refine r_iconst (v := 1) C dX11_spread_35 (by decide) ?_
  refine r_iadd (z := 4) C dX11_spread_36 (by decide) ?_
  obtain ⟨g12, e_g12⟩ : ∃ z : Nat → Int32, z = upd g11 3 4 := ⟨_, rfl⟩
  have hp := hp g12 e_g12
  refine r_iast C 1 0 rfl rfl (vp_in_nI (n := 3) (N := 4) (by decide) (by decide)) (I' := [[(o, .inr (9, [.ref aS, .ref aPast, .int known, .ref aSnap, .int kept, .ref aText, .int len, .int thr, .ref aOne, .ref aTwo, .ref aBoth, .ref aWord, .int cre, .ref aOpen, .ref aTimes, .ref aFar, .ref aQueue, .long hash]))], [(aOne, .inl (cI, 4, .inl g12))], [(aFar, .inl (cI, 6561, .inl f7))], [(aQueue, .inl (cI, 400, .inl fQueue))]]) (by rw [e_g12]; rfl) dX11_spread_37 ?_
  refine r_iinc (v := 4) (L' := [(2, .int 4), (0, .ref o), (1, .int length)]) C dX11_spread_38 0 rfl (by decide) (by decide) rfl ?_
  refine r_goto (tgt := 24) C dX11_spread_41 (by decide) ?_
  refine r_iload_n C dX11_spread_24 0 rfl ?_
  refine r_iconst (v := 4) C dX11_spread_25 (by decide) ?_
  refine r_icmp_ge (tgt := 44) C dX11_spread_26 (by decide) (fun _ => ?_) (fun c => absurd c (by decide))
  refine r_aload_n C dX11_spread_44 1 rfl ?_
  refine r_get (Cn := RX11) (T := TX11) (N := 18) C inT11 0 rfl rfl 16 (by decide) t_909 rfl dX11_spread_45 ?_
  refine r_iconst (v := 0) C dX11_spread_48 (by decide) ?_
  refine r_aload_n C dX11_spread_49 1 rfl ?_
  refine r_callV (ci := 9) (wc := [[(o, .inr (9, [.ref aS, .ref aPast, .int known, .ref aSnap, .int kept, .ref aText, .int len, .int thr, .ref aOne, .ref aTwo, .ref aBoth, .ref aWord, .int cre, .ref aOpen, .ref aTimes, .ref aFar, .ref aQueue, .long hash]))], [(aOne, .inl (cI, 4, .inl g12))]]) (wr := [[(aFar, .inl (cI, 6561, .inl f7))], [(aQueue, .inl (cI, 400, .inl fQueue))]]) (st := [.int 0, .ref aQueue]) C (m_X11_hook l D cI cL cP cJ o aS aPast aSnap aText aOne aTwo aBoth aWord aOpen aTimes aFar aQueue known kept len thr cre hash g12) k_X11_hook t_1230 [0, 1, 2, 3] (show ([0, 1, 2, 3] : List Nat).Perm (List.range 4) by decide) rfl rfl rfl (q0 := 0) rfl rfl rfl (Nat.le_of_ble_eq_true rfl) ⟨Nat.le_of_ble_eq_true rfl, Nat.le_of_ble_eq_true rfl⟩ ⟨Nat.zero_le _, Nat.zero_le _⟩ dX11_spread_50 (fun r13 wr13 hw13 => ?_)
  obtain ⟨e_r13, rfl⟩ := hw13
  have hp := hp r13 e_r13
  refine r_ws (I' := [[(o, .inr (9, [.ref aS, .ref aPast, .int known, .ref aSnap, .int kept, .ref aText, .int len, .int thr, .ref aOne, .ref aTwo, .ref aBoth, .ref aWord, .int cre, .ref aOpen, .ref aTimes, .ref aFar, .ref aQueue, .long hash]))], [(aOne, .inl (cI, 4, .inl g12))], [(aFar, .inl (cI, 6561, .inl f7))], [(aQueue, .inl (cI, 400, .inl fQueue))]]) rfl ?_
  obtain ⟨g14, e_g14⟩ : ∃ z : Nat → Int32, z = upd fQueue 0 r13 := ⟨_, rfl⟩
  have hp := hp g14 e_g14
  refine r_iast C 3 0 rfl rfl (vp_in_nI (n := 0) (N := 400) (by decide) (by decide)) (I' := [[(o, .inr (9, [.ref aS, .ref aPast, .int known, .ref aSnap, .int kept, .ref aText, .int len, .int thr, .ref aOne, .ref aTwo, .ref aBoth, .ref aWord, .int cre, .ref aOpen, .ref aTimes, .ref aFar, .ref aQueue, .long hash]))], [(aOne, .inl (cI, 4, .inl g12))], [(aFar, .inl (cI, 6561, .inl f7))], [(aQueue, .inl (cI, 400, .inl g14))]]) (by rw [e_g14]; rfl) dX11_spread_53 ?_
  refine r_aload_n C dX11_spread_54 1 rfl ?_
  refine r_get (Cn := RX11) (T := TX11) (N := 18) C inT11 0 rfl rfl 15 (by decide) t_908 rfl dX11_spread_55 ?_
  refine r_aload_n C dX11_spread_58 1 rfl ?_
  refine r_get (Cn := RX11) (T := TX11) (N := 18) C inT11 0 rfl rfl 16 (by decide) t_909 rfl dX11_spread_59 ?_
  refine r_iconst (v := 0) C dX11_spread_62 (by decide) ?_
  refine r_iald (z := g14 0) C 3 0 rfl rfl (vp_in_nI (n := 0) (N := 400) (by decide) (by decide)) dX11_spread_63 (congrArg (g14) (by decide)) ?_
  refine r_iconst (v := 1) C dX11_spread_64 (by decide) ?_
  obtain ⟨h15, hp⟩ := hp
  obtain ⟨g16, e_g16⟩ : ∃ z : Nat → Int32, z = upd f7 ((g14 0).toNatClampNeg) 1 := ⟨_, rfl⟩
  have hp := hp g16 e_g16
  refine r_iast C 2 0 rfl rfl h15 (I' := [[(o, .inr (9, [.ref aS, .ref aPast, .int known, .ref aSnap, .int kept, .ref aText, .int len, .int thr, .ref aOne, .ref aTwo, .ref aBoth, .ref aWord, .int cre, .ref aOpen, .ref aTimes, .ref aFar, .ref aQueue, .long hash]))], [(aOne, .inl (cI, 4, .inl g12))], [(aFar, .inl (cI, 6561, .inl g16))], [(aQueue, .inl (cI, 400, .inl g14))]]) (by rw [e_g16]; rfl) dX11_spread_65 ?_
  refine r_iconst (v := 1) C dX11_spread_66 (by decide) ?_
  refine r_istore_n (L' := [(2, .int 1), (0, .ref o), (1, .int length)]) C dX11_spread_67 (by decide) rfl ?_
  refine r_iconst (v := 0) C dX11_spread_68 (by decide) ?_
  refine r_istore_n (L' := [(3, .int 0), (2, .int 1), (0, .ref o), (1, .int length)]) C dX11_spread_69 (by decide) rfl ?_
  refine r_iconst (v := 0) C dX11_spread_70 (by decide) ?_
  refine r_istore (L' := [(4, .int 0), (3, .int 0), (2, .int 1), (0, .ref o), (1, .int length)]) C dX11_spread_71 (by decide) rfl ?_
  have hpl := hp
  have hL : ∀ (nn : Nat) (k17 : Nat → Int32) (k18 : Nat → Int32) (k19 : Nat → Int32) (y20 : Int32) (y21 : Int32) (y22 : Int32), P_X11_spread_L73 length nn k17 k18 k19 y20 y21 y22 → (∀ f110 : Nat → Int32, f110 = (F_X11_spread_L73 length nn k17 k18 k19 y20 y21 y22).1 → ∀ f111 : Nat → Int32, f111 = (F_X11_spread_L73 length nn k17 k18 k19 y20 y21 y22).2.1 → ∀ f112 : Nat → Int32, f112 = (F_X11_spread_L73 length nn k17 k18 k19 y20 y21 y22).2.2.1 → ∀ z113 : Int32, z113 = (F_X11_spread_L73 length nn k17 k18 k19 y20 y21 y22).2.2.2.1 → ∀ z114 : Int32, z114 = (F_X11_spread_L73 length nn k17 k18 k19 y20 y21 y22).2.2.2.2.1 → ∀ z115 : Int32, z115 = (F_X11_spread_L73 length nn k17 k18 k19 y20 y21 y22).2.2.2.2.2 → V p l e (rmm 1 23) s m args below meth c 7 D A 0 0 Q [[(o, .inr (9, [.ref aS, .ref aPast, .int known, .ref aSnap, .int kept, .ref aText, .int len, .int thr, .ref aOne, .ref aTwo, .ref aBoth, .ref aWord, .int cre, .ref aOpen, .ref aTimes, .ref aFar, .ref aQueue, .long hash]))], [(aOne, .inl (cI, 4, .inl f110))], [(aFar, .inl (cI, 6561, .inl f111))], [(aQueue, .inl (cI, 400, .inl f112))]] [(4, .int z115), (3, .int z114), (2, .int z113), (0, .ref o), (1, .int length)] 191 []) → V p l e (rmm 1 23) s m args below meth c 7 D A 0 0 Q [[(o, .inr (9, [.ref aS, .ref aPast, .int known, .ref aSnap, .int kept, .ref aText, .int len, .int thr, .ref aOne, .ref aTwo, .ref aBoth, .ref aWord, .int cre, .ref aOpen, .ref aTimes, .ref aFar, .ref aQueue, .long hash]))], [(aOne, .inl (cI, 4, .inl k17))], [(aFar, .inl (cI, 6561, .inl k18))], [(aQueue, .inl (cI, 400, .inl k19))]] [(4, .int y22), (3, .int y21), (2, .int y20), (0, .ref o), (1, .int length)] 73 [] := by
    clear hpl
    intro nn
    induction nn with
    | zero => intro k17 k18 k19 y20 y21 y22 hp kk; rw [P_X11_spread_L73] at hp; exact hp.elim
    | succ nn ih =>
      intro k17 k18 k19 y20 y21 y22 hp kk
      rw [P_X11_spread_L73] at hp
      refine r_iload C dX11_spread_73 0 rfl ?_
      refine r_iload_n C dX11_spread_75 2 rfl ?_
      refine r_icmp_ge (tgt := 191) C dX11_spread_76 (by decide) (fun c23 => ?_) (fun c23 => ?_)
      · have eF : F_X11_spread_L73 length (nn + 1) k17 k18 k19 y20 y21 y22 = (k17, k18, k19, y20, y21, y22) := by simp only [F_X11_spread_L73, if_pos c23]
        exact kk _ (by rw [eF]) _ (by rw [eF]) _ (by rw [eF]) _ (by rw [eF]) _ (by rw [eF]) _ (by rw [eF])
      · have hp := hp.2 c23
        refine r_iload_n C dX11_spread_79 1 rfl ?_
        refine r_aload_n C dX11_spread_80 3 rfl ?_
        refine r_get (Cn := RX11) (T := TX11) (N := 18) C inT11 0 rfl rfl 15 (by decide) t_908 rfl dX11_spread_81 ?_
        refine r_aload_n C dX11_spread_84 3 rfl ?_
        refine r_get (Cn := RX11) (T := TX11) (N := 18) C inT11 0 rfl rfl 16 (by decide) t_909 rfl dX11_spread_85 ?_
        refine r_iload C dX11_spread_88 0 rfl ?_
        obtain ⟨h24, hp⟩ := hp
        refine r_iald (z := k19 y22.toNatClampNeg) C 3 0 rfl rfl h24 dX11_spread_90 rfl ?_
        obtain ⟨h25, hp⟩ := hp
        refine r_iald (z := k18 (k19 y22.toNatClampNeg).toNatClampNeg) C 2 0 rfl rfl h25 dX11_spread_91 rfl ?_
        refine r_iload_n C dX11_spread_92 4 rfl ?_
        refine r_iconst (v := 1) C dX11_spread_93 (by decide) ?_
        refine r_iadd C dX11_spread_94 rfl ?_
        suffices K : ∀ x27 : Int32, x27 = ((if (k18 (k19 y22.toNatClampNeg).toNatClampNeg) = (length + 1) then (1) else (0))) → V p l e (rmm 1 23) s m args below meth c 7 D A 0 0 Q [[(o, .inr (9, [.ref aS, .ref aPast, .int known, .ref aSnap, .int kept, .ref aText, .int len, .int thr, .ref aOne, .ref aTwo, .ref aBoth, .ref aWord, .int cre, .ref aOpen, .ref aTimes, .ref aFar, .ref aQueue, .long hash]))], [(aOne, .inl (cI, 4, .inl k17))], [(aFar, .inl (cI, 6561, .inl k18))], [(aQueue, .inl (cI, 400, .inl k19))]] [(4, .int y22), (3, .int y21), (2, .int y20), (0, .ref o), (1, .int length)] 103 [.int x27, .int y21] by
          refine r_icmp_ne (tgt := 102) C dX11_spread_95 (by decide) (fun c26 => ?_) (fun c26 => ?_)
          · refine r_iconst (v := 0) C dX11_spread_102 (by decide) ?_
            exact K _ (by simp only [if_neg c26])
          · refine r_iconst (v := 1) C dX11_spread_98 (by decide) ?_
            refine r_goto (tgt := 103) C dX11_spread_99 (by decide) ?_
            exact K _ (by simp only [if_pos c26])
        intro x27 e_x27
        have hp := hp x27 e_x27
        refine r_iadd C dX11_spread_103 rfl ?_
        refine r_top (fun x28 e_x28 => ?_)
        have hp := hp x28 e_x28
        refine r_istore_n (L' := [(3, .int x28), (4, .int y22), (2, .int y20), (0, .ref o), (1, .int length)]) C dX11_spread_104 (by decide) rfl ?_
        refine r_iconst (v := 0) C dX11_spread_105 (by decide) ?_
        refine r_istore (L' := [(5, .int 0), (3, .int x28), (4, .int y22), (2, .int y20), (0, .ref o), (1, .int length)]) C dX11_spread_106 (by decide) rfl ?_
        refine r_iload C dX11_spread_108 0 rfl ?_
        refine r_iconst (v := 4) C dX11_spread_110 (by decide) ?_
        refine r_icmp_ge (tgt := 185) C dX11_spread_111 (by decide) (fun c => absurd c (by decide)) (fun _ => ?_)
        refine r_aload_n C dX11_spread_114 4 rfl ?_
        refine r_aload_n C dX11_spread_115 4 rfl ?_
        refine r_get (Cn := RX11) (T := TX11) (N := 18) C inT11 0 rfl rfl 16 (by decide) t_909 rfl dX11_spread_116 ?_
        refine r_iload C dX11_spread_119 2 rfl ?_
        obtain ⟨h29, hp⟩ := hp
        refine r_iald (z := k19 y22.toNatClampNeg) C 3 0 rfl rfl h29 dX11_spread_121 rfl ?_
        refine r_callV (ci := 9) (wc := [[(o, .inr (9, [.ref aS, .ref aPast, .int known, .ref aSnap, .int kept, .ref aText, .int len, .int thr, .ref aOne, .ref aTwo, .ref aBoth, .ref aWord, .int cre, .ref aOpen, .ref aTimes, .ref aFar, .ref aQueue, .long hash]))], [(aOne, .inl (cI, 4, .inl k17))]]) (wr := [[(aFar, .inl (cI, 6561, .inl k18))], [(aQueue, .inl (cI, 400, .inl k19))]]) (st := []) C (m_X11_unhooks l D cI cL cP cJ o aS aPast aSnap aText aOne aTwo aBoth aWord aOpen aTimes aFar aQueue known kept len thr cre hash k17 (k19 y22.toNatClampNeg)) k_X11_unhooks t_1234 [0, 1, 2, 3] (show ([0, 1, 2, 3] : List Nat).Perm (List.range 4) by decide) rfl rfl rfl (q0 := 0) rfl rfl rfl (Nat.le_of_ble_eq_true rfl) ⟨Nat.le_of_ble_eq_true rfl, Nat.le_of_ble_eq_true rfl⟩ ⟨Nat.zero_le _, Nat.zero_le _⟩ dX11_spread_122 (fun r30 wr30 hw30 => ?_)
        obtain rfl := hw30
        obtain ⟨g31, e_g31⟩ : ∃ z : Nat → Int32, z = F_X11_unhooks k17 (k19 y22.toNatClampNeg) := ⟨_, rfl⟩
        have hp := hp g31 e_g31
        refine r_ws (I' := [[(o, .inr (9, [.ref aS, .ref aPast, .int known, .ref aSnap, .int kept, .ref aText, .int len, .int thr, .ref aOne, .ref aTwo, .ref aBoth, .ref aWord, .int cre, .ref aOpen, .ref aTimes, .ref aFar, .ref aQueue, .long hash]))], [(aOne, .inl (cI, 4, .inl g31))], [(aFar, .inl (cI, 6561, .inl k18))], [(aQueue, .inl (cI, 400, .inl k19))]]) (by rw [e_g31]; rfl) ?_
        refine r_aload_n C dX11_spread_125 4 rfl ?_
        refine r_iload C dX11_spread_126 0 rfl ?_
        obtain ⟨h32, hp⟩ := hp
        refine r_callV (ci := 9) (wc := [[(o, .inr (9, [.ref aS, .ref aPast, .int known, .ref aSnap, .int kept, .ref aText, .int len, .int thr, .ref aOne, .ref aTwo, .ref aBoth, .ref aWord, .int cre, .ref aOpen, .ref aTimes, .ref aFar, .ref aQueue, .long hash]))], [(aOne, .inl (cI, 4, .inl g31))]]) (wr := [[(aFar, .inl (cI, 6561, .inl k18))], [(aQueue, .inl (cI, 400, .inl k19))]]) (st := []) C (m_X11_foldsOne l D cI cL cP cJ o aS aPast aSnap aText aOne aTwo aBoth aWord aOpen aTimes aFar aQueue known kept len thr cre hash g31 0 h32) k_X11_foldsOne t_994 [0, 1, 2, 3] (show ([0, 1, 2, 3] : List Nat).Perm (List.range 4) by decide) rfl rfl rfl (q0 := 0) rfl rfl rfl (Nat.le_of_ble_eq_true rfl) ⟨Nat.le_of_ble_eq_true rfl, Nat.le_of_ble_eq_true rfl⟩ ⟨Nat.zero_le _, Nat.zero_le _⟩ dX11_spread_128 (fun r33 wr33 hw33 => ?_)
        obtain rfl := hw33
        obtain ⟨g34, e_g34⟩ : ∃ z : Nat → Int32, z = F_X11_foldsOne g31 0 := ⟨_, rfl⟩
        have hp := hp g34 e_g34
        refine r_ws (I' := [[(o, .inr (9, [.ref aS, .ref aPast, .int known, .ref aSnap, .int kept, .ref aText, .int len, .int thr, .ref aOne, .ref aTwo, .ref aBoth, .ref aWord, .int cre, .ref aOpen, .ref aTimes, .ref aFar, .ref aQueue, .long hash]))], [(aOne, .inl (cI, 4, .inl g34))], [(aFar, .inl (cI, 6561, .inl k18))], [(aQueue, .inl (cI, 400, .inl k19))]]) (by rw [e_g34]; rfl) ?_
        refine r_aload_n C dX11_spread_131 4 rfl ?_
        refine r_callV (ci := 9) (wc := [[(o, .inr (9, [.ref aS, .ref aPast, .int known, .ref aSnap, .int kept, .ref aText, .int len, .int thr, .ref aOne, .ref aTwo, .ref aBoth, .ref aWord, .int cre, .ref aOpen, .ref aTimes, .ref aFar, .ref aQueue, .long hash]))], [(aOne, .inl (cI, 4, .inl g34))]]) (wr := [[(aFar, .inl (cI, 6561, .inl k18))], [(aQueue, .inl (cI, 400, .inl k19))]]) (st := []) C (m_X11_hook l D cI cL cP cJ o aS aPast aSnap aText aOne aTwo aBoth aWord aOpen aTimes aFar aQueue known kept len thr cre hash g34) k_X11_hook t_1230 [0, 1, 2, 3] (show ([0, 1, 2, 3] : List Nat).Perm (List.range 4) by decide) rfl rfl rfl (q0 := 0) rfl rfl rfl (Nat.le_of_ble_eq_true rfl) ⟨Nat.le_of_ble_eq_true rfl, Nat.le_of_ble_eq_true rfl⟩ ⟨Nat.zero_le _, Nat.zero_le _⟩ dX11_spread_132 (fun r35 wr35 hw35 => ?_)
        obtain ⟨e_r35, rfl⟩ := hw35
        have hp := hp r35 e_r35
        refine r_ws (I' := [[(o, .inr (9, [.ref aS, .ref aPast, .int known, .ref aSnap, .int kept, .ref aText, .int len, .int thr, .ref aOne, .ref aTwo, .ref aBoth, .ref aWord, .int cre, .ref aOpen, .ref aTimes, .ref aFar, .ref aQueue, .long hash]))], [(aOne, .inl (cI, 4, .inl g34))], [(aFar, .inl (cI, 6561, .inl k18))], [(aQueue, .inl (cI, 400, .inl k19))]]) rfl ?_
        refine r_istore (L' := [(6, .int r35), (5, .int 0), (3, .int x28), (4, .int y22), (2, .int y20), (0, .ref o), (1, .int length)]) C dX11_spread_135 (by decide) rfl ?_
        refine r_aload_n C dX11_spread_137 5 rfl ?_
        refine r_get (Cn := RX11) (T := TX11) (N := 18) C inT11 0 rfl rfl 15 (by decide) t_908 rfl dX11_spread_138 ?_
        refine r_iload C dX11_spread_141 0 rfl ?_
        obtain ⟨h36, hp⟩ := hp
        refine r_iald (z := k18 r35.toNatClampNeg) C 2 0 rfl rfl h36 dX11_spread_143 rfl ?_
        obtain ⟨hps, hp⟩ := hp
        suffices K : ∀ x46 : Int32, x46 = ((if (k18 r35.toNatClampNeg) = 0 then (let x45 : Int32 := y20 + 1; x45) else (y20))) → ∀ g47 : Nat → Int32, g47 = ((if (k18 r35.toNatClampNeg) = 0 then (let x40 : Int32 := (k18 (k19 y22.toNatClampNeg).toNatClampNeg) + 1; let g42 : Nat → Int32 := upd k18 (r35.toNatClampNeg) x40; g42) else (k18))) → ∀ g48 : Nat → Int32, g48 = ((if (k18 r35.toNatClampNeg) = 0 then (let g44 : Nat → Int32 := upd k19 (y20.toNatClampNeg) r35; g44) else (k19))) → V p l e (rmm 1 23) s m args below meth c 7 D A 0 0 Q [[(o, .inr (9, [.ref aS, .ref aPast, .int known, .ref aSnap, .int kept, .ref aText, .int len, .int thr, .ref aOne, .ref aTwo, .ref aBoth, .ref aWord, .int cre, .ref aOpen, .ref aTimes, .ref aFar, .ref aQueue, .long hash]))], [(aOne, .inl (cI, 4, .inl g34))], [(aFar, .inl (cI, 6561, .inl g47))], [(aQueue, .inl (cI, 400, .inl g48))]] [(6, .int r35), (5, .int 0), (3, .int x28), (4, .int y22), (2, .int x46), (0, .ref o), (1, .int length)] 179 [] by
          have hp := hps
          refine r_if_ne (tgt := 179) C dX11_spread_144 (by decide) (fun c37 => ?_) (fun c37 => ?_)
          · exact K _ (by simp only [if_neg c37]) _ (by simp only [if_neg c37]) _ (by simp only [if_neg c37])
          · have hp := hp.1 c37
            refine r_aload_n C dX11_spread_147 5 rfl ?_
            refine r_get (Cn := RX11) (T := TX11) (N := 18) C inT11 0 rfl rfl 15 (by decide) t_908 rfl dX11_spread_148 ?_
            refine r_iload C dX11_spread_151 0 rfl ?_
            refine r_aload_n C dX11_spread_153 5 rfl ?_
            refine r_get (Cn := RX11) (T := TX11) (N := 18) C inT11 0 rfl rfl 15 (by decide) t_908 rfl dX11_spread_154 ?_
            refine r_aload_n C dX11_spread_157 5 rfl ?_
            refine r_get (Cn := RX11) (T := TX11) (N := 18) C inT11 0 rfl rfl 16 (by decide) t_909 rfl dX11_spread_158 ?_
            refine r_iload C dX11_spread_161 3 rfl ?_
            obtain ⟨h38, hp⟩ := hp
            refine r_iald (z := k19 y22.toNatClampNeg) C 3 0 rfl rfl h38 dX11_spread_163 rfl ?_
            obtain ⟨h39, hp⟩ := hp
            refine r_iald (z := k18 (k19 y22.toNatClampNeg).toNatClampNeg) C 2 0 rfl rfl h39 dX11_spread_164 rfl ?_
            refine r_iconst (v := 1) C dX11_spread_165 (by decide) ?_
            refine r_iadd C dX11_spread_166 rfl ?_
            refine r_top (fun x40 e_x40 => ?_)
            have hp := hp x40 e_x40
            obtain ⟨h41, hp⟩ := hp
            obtain ⟨g42, e_g42⟩ : ∃ z : Nat → Int32, z = upd k18 (r35.toNatClampNeg) x40 := ⟨_, rfl⟩
            have hp := hp g42 e_g42
            refine r_iast C 2 0 rfl rfl h41 (I' := [[(o, .inr (9, [.ref aS, .ref aPast, .int known, .ref aSnap, .int kept, .ref aText, .int len, .int thr, .ref aOne, .ref aTwo, .ref aBoth, .ref aWord, .int cre, .ref aOpen, .ref aTimes, .ref aFar, .ref aQueue, .long hash]))], [(aOne, .inl (cI, 4, .inl g34))], [(aFar, .inl (cI, 6561, .inl g42))], [(aQueue, .inl (cI, 400, .inl k19))]]) (by rw [e_g42]; rfl) dX11_spread_167 ?_
            refine r_aload_n C dX11_spread_168 5 rfl ?_
            refine r_get (Cn := RX11) (T := TX11) (N := 18) C inT11 0 rfl rfl 16 (by decide) t_909 rfl dX11_spread_169 ?_
            refine r_iload_n C dX11_spread_172 4 rfl ?_
            refine r_iload C dX11_spread_173 0 rfl ?_
            have h43 := hp
            obtain ⟨g44, e_g44⟩ : ∃ z : Nat → Int32, z = upd k19 (y20.toNatClampNeg) r35 := ⟨_, rfl⟩
            refine r_iast C 3 0 rfl rfl h43 (I' := [[(o, .inr (9, [.ref aS, .ref aPast, .int known, .ref aSnap, .int kept, .ref aText, .int len, .int thr, .ref aOne, .ref aTwo, .ref aBoth, .ref aWord, .int cre, .ref aOpen, .ref aTimes, .ref aFar, .ref aQueue, .long hash]))], [(aOne, .inl (cI, 4, .inl g34))], [(aFar, .inl (cI, 6561, .inl g42))], [(aQueue, .inl (cI, 400, .inl g44))]]) (by rw [e_g44]; rfl) dX11_spread_175 ?_
            obtain ⟨x45, e_x45⟩ : ∃ z : Int32, z = y20 + 1 := ⟨_, rfl⟩
            refine r_iinc (v := x45) (L' := [(2, .int x45), (6, .int r35), (5, .int 0), (3, .int x28), (4, .int y22), (0, .ref o), (1, .int length)]) C dX11_spread_176 4 rfl (by rw [e_x45]; exact ii (by decide)) (by decide) rfl ?_
            refine r_L (L' := [(6, .int r35), (5, .int 0), (3, .int x28), (4, .int y22), (2, .int x45), (0, .ref o), (1, .int length)]) [1, 2, 3, 4, 0, 5, 6] rfl ?_
            exact K _ (by have q := e_x40.symm; subst q; have q := e_g42.symm; subst q; have q := e_g44.symm; subst q; have q := e_x45.symm; subst q; simp only [if_pos c37]) _ (by have q := e_x40.symm; subst q; have q := e_g42.symm; subst q; have q := e_g44.symm; subst q; have q := e_x45.symm; subst q; simp only [if_pos c37]) _ (by have q := e_x40.symm; subst q; have q := e_g42.symm; subst q; have q := e_g44.symm; subst q; have q := e_x45.symm; subst q; simp only [if_pos c37])
        intro x46 e_x46 g47 e_g47 g48 e_g48
        have hp := hp x46 e_x46
        have hp := hp g47 e_g47
        have hp := hp g48 e_g48
        refine r_iinc (v := 1) (L' := [(5, .int 1), (6, .int r35), (3, .int x28), (4, .int y22), (2, .int x46), (0, .ref o), (1, .int length)]) C dX11_spread_179 1 rfl (by decide) (by decide) rfl ?_
        refine r_goto (tgt := 108) C dX11_spread_182 (by decide) ?_
        refine r_iload C dX11_spread_108 0 rfl ?_
        refine r_iconst (v := 4) C dX11_spread_110 (by decide) ?_
        refine r_icmp_ge (tgt := 185) C dX11_spread_111 (by decide) (fun c => absurd c (by decide)) (fun _ => ?_)
        refine r_aload_n C dX11_spread_114 5 rfl ?_
        refine r_aload_n C dX11_spread_115 5 rfl ?_
        refine r_get (Cn := RX11) (T := TX11) (N := 18) C inT11 0 rfl rfl 16 (by decide) t_909 rfl dX11_spread_116 ?_
        refine r_iload C dX11_spread_119 3 rfl ?_
        obtain ⟨h49, hp⟩ := hp
        refine r_iald (z := g48 y22.toNatClampNeg) C 3 0 rfl rfl h49 dX11_spread_121 rfl ?_
        refine r_callV (ci := 9) (wc := [[(o, .inr (9, [.ref aS, .ref aPast, .int known, .ref aSnap, .int kept, .ref aText, .int len, .int thr, .ref aOne, .ref aTwo, .ref aBoth, .ref aWord, .int cre, .ref aOpen, .ref aTimes, .ref aFar, .ref aQueue, .long hash]))], [(aOne, .inl (cI, 4, .inl g34))]]) (wr := [[(aFar, .inl (cI, 6561, .inl g47))], [(aQueue, .inl (cI, 400, .inl g48))]]) (st := []) C (m_X11_unhooks l D cI cL cP cJ o aS aPast aSnap aText aOne aTwo aBoth aWord aOpen aTimes aFar aQueue known kept len thr cre hash g34 (g48 y22.toNatClampNeg)) k_X11_unhooks t_1234 [0, 1, 2, 3] (show ([0, 1, 2, 3] : List Nat).Perm (List.range 4) by decide) rfl rfl rfl (q0 := 0) rfl rfl rfl (Nat.le_of_ble_eq_true rfl) ⟨Nat.le_of_ble_eq_true rfl, Nat.le_of_ble_eq_true rfl⟩ ⟨Nat.zero_le _, Nat.zero_le _⟩ dX11_spread_122 (fun r50 wr50 hw50 => ?_)
        obtain rfl := hw50
        obtain ⟨g51, e_g51⟩ : ∃ z : Nat → Int32, z = F_X11_unhooks g34 (g48 y22.toNatClampNeg) := ⟨_, rfl⟩
        have hp := hp g51 e_g51
        refine r_ws (I' := [[(o, .inr (9, [.ref aS, .ref aPast, .int known, .ref aSnap, .int kept, .ref aText, .int len, .int thr, .ref aOne, .ref aTwo, .ref aBoth, .ref aWord, .int cre, .ref aOpen, .ref aTimes, .ref aFar, .ref aQueue, .long hash]))], [(aOne, .inl (cI, 4, .inl g51))], [(aFar, .inl (cI, 6561, .inl g47))], [(aQueue, .inl (cI, 400, .inl g48))]]) (by rw [e_g51]; rfl) ?_
        refine r_aload_n C dX11_spread_125 5 rfl ?_
        refine r_iload C dX11_spread_126 0 rfl ?_
        obtain ⟨h52, hp⟩ := hp
        refine r_callV (ci := 9) (wc := [[(o, .inr (9, [.ref aS, .ref aPast, .int known, .ref aSnap, .int kept, .ref aText, .int len, .int thr, .ref aOne, .ref aTwo, .ref aBoth, .ref aWord, .int cre, .ref aOpen, .ref aTimes, .ref aFar, .ref aQueue, .long hash]))], [(aOne, .inl (cI, 4, .inl g51))]]) (wr := [[(aFar, .inl (cI, 6561, .inl g47))], [(aQueue, .inl (cI, 400, .inl g48))]]) (st := []) C (m_X11_foldsOne l D cI cL cP cJ o aS aPast aSnap aText aOne aTwo aBoth aWord aOpen aTimes aFar aQueue known kept len thr cre hash g51 1 h52) k_X11_foldsOne t_994 [0, 1, 2, 3] (show ([0, 1, 2, 3] : List Nat).Perm (List.range 4) by decide) rfl rfl rfl (q0 := 0) rfl rfl rfl (Nat.le_of_ble_eq_true rfl) ⟨Nat.le_of_ble_eq_true rfl, Nat.le_of_ble_eq_true rfl⟩ ⟨Nat.zero_le _, Nat.zero_le _⟩ dX11_spread_128 (fun r53 wr53 hw53 => ?_)
        obtain rfl := hw53
        obtain ⟨g54, e_g54⟩ : ∃ z : Nat → Int32, z = F_X11_foldsOne g51 1 := ⟨_, rfl⟩
        have hp := hp g54 e_g54
        refine r_ws (I' := [[(o, .inr (9, [.ref aS, .ref aPast, .int known, .ref aSnap, .int kept, .ref aText, .int len, .int thr, .ref aOne, .ref aTwo, .ref aBoth, .ref aWord, .int cre, .ref aOpen, .ref aTimes, .ref aFar, .ref aQueue, .long hash]))], [(aOne, .inl (cI, 4, .inl g54))], [(aFar, .inl (cI, 6561, .inl g47))], [(aQueue, .inl (cI, 400, .inl g48))]]) (by rw [e_g54]; rfl) ?_
        refine r_aload_n C dX11_spread_131 5 rfl ?_
        refine r_callV (ci := 9) (wc := [[(o, .inr (9, [.ref aS, .ref aPast, .int known, .ref aSnap, .int kept, .ref aText, .int len, .int thr, .ref aOne, .ref aTwo, .ref aBoth, .ref aWord, .int cre, .ref aOpen, .ref aTimes, .ref aFar, .ref aQueue, .long hash]))], [(aOne, .inl (cI, 4, .inl g54))]]) (wr := [[(aFar, .inl (cI, 6561, .inl g47))], [(aQueue, .inl (cI, 400, .inl g48))]]) (st := []) C (m_X11_hook l D cI cL cP cJ o aS aPast aSnap aText aOne aTwo aBoth aWord aOpen aTimes aFar aQueue known kept len thr cre hash g54) k_X11_hook t_1230 [0, 1, 2, 3] (show ([0, 1, 2, 3] : List Nat).Perm (List.range 4) by decide) rfl rfl rfl (q0 := 0) rfl rfl rfl (Nat.le_of_ble_eq_true rfl) ⟨Nat.le_of_ble_eq_true rfl, Nat.le_of_ble_eq_true rfl⟩ ⟨Nat.zero_le _, Nat.zero_le _⟩ dX11_spread_132 (fun r55 wr55 hw55 => ?_)
        obtain ⟨e_r55, rfl⟩ := hw55
        have hp := hp r55 e_r55
        refine r_ws (I' := [[(o, .inr (9, [.ref aS, .ref aPast, .int known, .ref aSnap, .int kept, .ref aText, .int len, .int thr, .ref aOne, .ref aTwo, .ref aBoth, .ref aWord, .int cre, .ref aOpen, .ref aTimes, .ref aFar, .ref aQueue, .long hash]))], [(aOne, .inl (cI, 4, .inl g54))], [(aFar, .inl (cI, 6561, .inl g47))], [(aQueue, .inl (cI, 400, .inl g48))]]) rfl ?_
        refine r_istore (L' := [(6, .int r55), (5, .int 1), (3, .int x28), (4, .int y22), (2, .int x46), (0, .ref o), (1, .int length)]) C dX11_spread_135 (by decide) rfl ?_
        refine r_aload_n C dX11_spread_137 5 rfl ?_
        refine r_get (Cn := RX11) (T := TX11) (N := 18) C inT11 0 rfl rfl 15 (by decide) t_908 rfl dX11_spread_138 ?_
        refine r_iload C dX11_spread_141 0 rfl ?_
        obtain ⟨h56, hp⟩ := hp
        refine r_iald (z := g47 r55.toNatClampNeg) C 2 0 rfl rfl h56 dX11_spread_143 rfl ?_
        obtain ⟨hps, hp⟩ := hp
        suffices K : ∀ x66 : Int32, x66 = ((if (g47 r55.toNatClampNeg) = 0 then (let x65 : Int32 := x46 + 1; x65) else (x46))) → ∀ g67 : Nat → Int32, g67 = ((if (g47 r55.toNatClampNeg) = 0 then (let x60 : Int32 := (g47 (g48 y22.toNatClampNeg).toNatClampNeg) + 1; let g62 : Nat → Int32 := upd g47 (r55.toNatClampNeg) x60; g62) else (g47))) → ∀ g68 : Nat → Int32, g68 = ((if (g47 r55.toNatClampNeg) = 0 then (let g64 : Nat → Int32 := upd g48 (x46.toNatClampNeg) r55; g64) else (g48))) → V p l e (rmm 1 23) s m args below meth c 7 D A 0 0 Q [[(o, .inr (9, [.ref aS, .ref aPast, .int known, .ref aSnap, .int kept, .ref aText, .int len, .int thr, .ref aOne, .ref aTwo, .ref aBoth, .ref aWord, .int cre, .ref aOpen, .ref aTimes, .ref aFar, .ref aQueue, .long hash]))], [(aOne, .inl (cI, 4, .inl g54))], [(aFar, .inl (cI, 6561, .inl g67))], [(aQueue, .inl (cI, 400, .inl g68))]] [(6, .int r55), (5, .int 1), (3, .int x28), (4, .int y22), (2, .int x66), (0, .ref o), (1, .int length)] 179 [] by
          have hp := hps
          refine r_if_ne (tgt := 179) C dX11_spread_144 (by decide) (fun c57 => ?_) (fun c57 => ?_)
          · exact K _ (by simp only [if_neg c57]) _ (by simp only [if_neg c57]) _ (by simp only [if_neg c57])
          · have hp := hp.1 c57
            refine r_aload_n C dX11_spread_147 5 rfl ?_
            refine r_get (Cn := RX11) (T := TX11) (N := 18) C inT11 0 rfl rfl 15 (by decide) t_908 rfl dX11_spread_148 ?_
            refine r_iload C dX11_spread_151 0 rfl ?_
            refine r_aload_n C dX11_spread_153 5 rfl ?_
            refine r_get (Cn := RX11) (T := TX11) (N := 18) C inT11 0 rfl rfl 15 (by decide) t_908 rfl dX11_spread_154 ?_
            refine r_aload_n C dX11_spread_157 5 rfl ?_
            refine r_get (Cn := RX11) (T := TX11) (N := 18) C inT11 0 rfl rfl 16 (by decide) t_909 rfl dX11_spread_158 ?_
            refine r_iload C dX11_spread_161 3 rfl ?_
            obtain ⟨h58, hp⟩ := hp
            refine r_iald (z := g48 y22.toNatClampNeg) C 3 0 rfl rfl h58 dX11_spread_163 rfl ?_
            obtain ⟨h59, hp⟩ := hp
            refine r_iald (z := g47 (g48 y22.toNatClampNeg).toNatClampNeg) C 2 0 rfl rfl h59 dX11_spread_164 rfl ?_
            refine r_iconst (v := 1) C dX11_spread_165 (by decide) ?_
            refine r_iadd C dX11_spread_166 rfl ?_
            refine r_top (fun x60 e_x60 => ?_)
            have hp := hp x60 e_x60
            obtain ⟨h61, hp⟩ := hp
            obtain ⟨g62, e_g62⟩ : ∃ z : Nat → Int32, z = upd g47 (r55.toNatClampNeg) x60 := ⟨_, rfl⟩
            have hp := hp g62 e_g62
            refine r_iast C 2 0 rfl rfl h61 (I' := [[(o, .inr (9, [.ref aS, .ref aPast, .int known, .ref aSnap, .int kept, .ref aText, .int len, .int thr, .ref aOne, .ref aTwo, .ref aBoth, .ref aWord, .int cre, .ref aOpen, .ref aTimes, .ref aFar, .ref aQueue, .long hash]))], [(aOne, .inl (cI, 4, .inl g54))], [(aFar, .inl (cI, 6561, .inl g62))], [(aQueue, .inl (cI, 400, .inl g48))]]) (by rw [e_g62]; rfl) dX11_spread_167 ?_
            refine r_aload_n C dX11_spread_168 5 rfl ?_
            refine r_get (Cn := RX11) (T := TX11) (N := 18) C inT11 0 rfl rfl 16 (by decide) t_909 rfl dX11_spread_169 ?_
            refine r_iload_n C dX11_spread_172 4 rfl ?_
            refine r_iload C dX11_spread_173 0 rfl ?_
            have h63 := hp
            obtain ⟨g64, e_g64⟩ : ∃ z : Nat → Int32, z = upd g48 (x46.toNatClampNeg) r55 := ⟨_, rfl⟩
            refine r_iast C 3 0 rfl rfl h63 (I' := [[(o, .inr (9, [.ref aS, .ref aPast, .int known, .ref aSnap, .int kept, .ref aText, .int len, .int thr, .ref aOne, .ref aTwo, .ref aBoth, .ref aWord, .int cre, .ref aOpen, .ref aTimes, .ref aFar, .ref aQueue, .long hash]))], [(aOne, .inl (cI, 4, .inl g54))], [(aFar, .inl (cI, 6561, .inl g62))], [(aQueue, .inl (cI, 400, .inl g64))]]) (by rw [e_g64]; rfl) dX11_spread_175 ?_
            obtain ⟨x65, e_x65⟩ : ∃ z : Int32, z = x46 + 1 := ⟨_, rfl⟩
            refine r_iinc (v := x65) (L' := [(2, .int x65), (6, .int r55), (5, .int 1), (3, .int x28), (4, .int y22), (0, .ref o), (1, .int length)]) C dX11_spread_176 4 rfl (by rw [e_x65]; exact ii (by decide)) (by decide) rfl ?_
            refine r_L (L' := [(6, .int r55), (5, .int 1), (3, .int x28), (4, .int y22), (2, .int x65), (0, .ref o), (1, .int length)]) [1, 2, 3, 4, 0, 5, 6] rfl ?_
            exact K _ (by have q := e_x60.symm; subst q; have q := e_g62.symm; subst q; have q := e_g64.symm; subst q; have q := e_x65.symm; subst q; simp only [if_pos c57]) _ (by have q := e_x60.symm; subst q; have q := e_g62.symm; subst q; have q := e_g64.symm; subst q; have q := e_x65.symm; subst q; simp only [if_pos c57]) _ (by have q := e_x60.symm; subst q; have q := e_g62.symm; subst q; have q := e_g64.symm; subst q; have q := e_x65.symm; subst q; simp only [if_pos c57])
        intro x66 e_x66 g67 e_g67 g68 e_g68
        have hp := hp x66 e_x66
        have hp := hp g67 e_g67
        have hp := hp g68 e_g68
        refine r_iinc (v := 2) (L' := [(5, .int 2), (6, .int r55), (3, .int x28), (4, .int y22), (2, .int x66), (0, .ref o), (1, .int length)]) C dX11_spread_179 1 rfl (by decide) (by decide) rfl ?_
        refine r_goto (tgt := 108) C dX11_spread_182 (by decide) ?_
        refine r_iload C dX11_spread_108 0 rfl ?_
        refine r_iconst (v := 4) C dX11_spread_110 (by decide) ?_
        refine r_icmp_ge (tgt := 185) C dX11_spread_111 (by decide) (fun c => absurd c (by decide)) (fun _ => ?_)
        refine r_aload_n C dX11_spread_114 5 rfl ?_
        refine r_aload_n C dX11_spread_115 5 rfl ?_
        refine r_get (Cn := RX11) (T := TX11) (N := 18) C inT11 0 rfl rfl 16 (by decide) t_909 rfl dX11_spread_116 ?_
        refine r_iload C dX11_spread_119 3 rfl ?_
        obtain ⟨h69, hp⟩ := hp
        refine r_iald (z := g68 y22.toNatClampNeg) C 3 0 rfl rfl h69 dX11_spread_121 rfl ?_
        refine r_callV (ci := 9) (wc := [[(o, .inr (9, [.ref aS, .ref aPast, .int known, .ref aSnap, .int kept, .ref aText, .int len, .int thr, .ref aOne, .ref aTwo, .ref aBoth, .ref aWord, .int cre, .ref aOpen, .ref aTimes, .ref aFar, .ref aQueue, .long hash]))], [(aOne, .inl (cI, 4, .inl g54))]]) (wr := [[(aFar, .inl (cI, 6561, .inl g67))], [(aQueue, .inl (cI, 400, .inl g68))]]) (st := []) C (m_X11_unhooks l D cI cL cP cJ o aS aPast aSnap aText aOne aTwo aBoth aWord aOpen aTimes aFar aQueue known kept len thr cre hash g54 (g68 y22.toNatClampNeg)) k_X11_unhooks t_1234 [0, 1, 2, 3] (show ([0, 1, 2, 3] : List Nat).Perm (List.range 4) by decide) rfl rfl rfl (q0 := 0) rfl rfl rfl (Nat.le_of_ble_eq_true rfl) ⟨Nat.le_of_ble_eq_true rfl, Nat.le_of_ble_eq_true rfl⟩ ⟨Nat.zero_le _, Nat.zero_le _⟩ dX11_spread_122 (fun r70 wr70 hw70 => ?_)
        obtain rfl := hw70
        obtain ⟨g71, e_g71⟩ : ∃ z : Nat → Int32, z = F_X11_unhooks g54 (g68 y22.toNatClampNeg) := ⟨_, rfl⟩
        have hp := hp g71 e_g71
        refine r_ws (I' := [[(o, .inr (9, [.ref aS, .ref aPast, .int known, .ref aSnap, .int kept, .ref aText, .int len, .int thr, .ref aOne, .ref aTwo, .ref aBoth, .ref aWord, .int cre, .ref aOpen, .ref aTimes, .ref aFar, .ref aQueue, .long hash]))], [(aOne, .inl (cI, 4, .inl g71))], [(aFar, .inl (cI, 6561, .inl g67))], [(aQueue, .inl (cI, 400, .inl g68))]]) (by rw [e_g71]; rfl) ?_
        refine r_aload_n C dX11_spread_125 5 rfl ?_
        refine r_iload C dX11_spread_126 0 rfl ?_
        obtain ⟨h72, hp⟩ := hp
        refine r_callV (ci := 9) (wc := [[(o, .inr (9, [.ref aS, .ref aPast, .int known, .ref aSnap, .int kept, .ref aText, .int len, .int thr, .ref aOne, .ref aTwo, .ref aBoth, .ref aWord, .int cre, .ref aOpen, .ref aTimes, .ref aFar, .ref aQueue, .long hash]))], [(aOne, .inl (cI, 4, .inl g71))]]) (wr := [[(aFar, .inl (cI, 6561, .inl g67))], [(aQueue, .inl (cI, 400, .inl g68))]]) (st := []) C (m_X11_foldsOne l D cI cL cP cJ o aS aPast aSnap aText aOne aTwo aBoth aWord aOpen aTimes aFar aQueue known kept len thr cre hash g71 2 h72) k_X11_foldsOne t_994 [0, 1, 2, 3] (show ([0, 1, 2, 3] : List Nat).Perm (List.range 4) by decide) rfl rfl rfl (q0 := 0) rfl rfl rfl (Nat.le_of_ble_eq_true rfl) ⟨Nat.le_of_ble_eq_true rfl, Nat.le_of_ble_eq_true rfl⟩ ⟨Nat.zero_le _, Nat.zero_le _⟩ dX11_spread_128 (fun r73 wr73 hw73 => ?_)
        obtain rfl := hw73
        obtain ⟨g74, e_g74⟩ : ∃ z : Nat → Int32, z = F_X11_foldsOne g71 2 := ⟨_, rfl⟩
        have hp := hp g74 e_g74
        refine r_ws (I' := [[(o, .inr (9, [.ref aS, .ref aPast, .int known, .ref aSnap, .int kept, .ref aText, .int len, .int thr, .ref aOne, .ref aTwo, .ref aBoth, .ref aWord, .int cre, .ref aOpen, .ref aTimes, .ref aFar, .ref aQueue, .long hash]))], [(aOne, .inl (cI, 4, .inl g74))], [(aFar, .inl (cI, 6561, .inl g67))], [(aQueue, .inl (cI, 400, .inl g68))]]) (by rw [e_g74]; rfl) ?_
        refine r_aload_n C dX11_spread_131 5 rfl ?_
        refine r_callV (ci := 9) (wc := [[(o, .inr (9, [.ref aS, .ref aPast, .int known, .ref aSnap, .int kept, .ref aText, .int len, .int thr, .ref aOne, .ref aTwo, .ref aBoth, .ref aWord, .int cre, .ref aOpen, .ref aTimes, .ref aFar, .ref aQueue, .long hash]))], [(aOne, .inl (cI, 4, .inl g74))]]) (wr := [[(aFar, .inl (cI, 6561, .inl g67))], [(aQueue, .inl (cI, 400, .inl g68))]]) (st := []) C (m_X11_hook l D cI cL cP cJ o aS aPast aSnap aText aOne aTwo aBoth aWord aOpen aTimes aFar aQueue known kept len thr cre hash g74) k_X11_hook t_1230 [0, 1, 2, 3] (show ([0, 1, 2, 3] : List Nat).Perm (List.range 4) by decide) rfl rfl rfl (q0 := 0) rfl rfl rfl (Nat.le_of_ble_eq_true rfl) ⟨Nat.le_of_ble_eq_true rfl, Nat.le_of_ble_eq_true rfl⟩ ⟨Nat.zero_le _, Nat.zero_le _⟩ dX11_spread_132 (fun r75 wr75 hw75 => ?_)
        obtain ⟨e_r75, rfl⟩ := hw75
        have hp := hp r75 e_r75
        refine r_ws (I' := [[(o, .inr (9, [.ref aS, .ref aPast, .int known, .ref aSnap, .int kept, .ref aText, .int len, .int thr, .ref aOne, .ref aTwo, .ref aBoth, .ref aWord, .int cre, .ref aOpen, .ref aTimes, .ref aFar, .ref aQueue, .long hash]))], [(aOne, .inl (cI, 4, .inl g74))], [(aFar, .inl (cI, 6561, .inl g67))], [(aQueue, .inl (cI, 400, .inl g68))]]) rfl ?_
        refine r_istore (L' := [(6, .int r75), (5, .int 2), (3, .int x28), (4, .int y22), (2, .int x66), (0, .ref o), (1, .int length)]) C dX11_spread_135 (by decide) rfl ?_
        refine r_aload_n C dX11_spread_137 5 rfl ?_
        refine r_get (Cn := RX11) (T := TX11) (N := 18) C inT11 0 rfl rfl 15 (by decide) t_908 rfl dX11_spread_138 ?_
        refine r_iload C dX11_spread_141 0 rfl ?_
        obtain ⟨h76, hp⟩ := hp
        refine r_iald (z := g67 r75.toNatClampNeg) C 2 0 rfl rfl h76 dX11_spread_143 rfl ?_
        obtain ⟨hps, hp⟩ := hp
        suffices K : ∀ x86 : Int32, x86 = ((if (g67 r75.toNatClampNeg) = 0 then (let x85 : Int32 := x66 + 1; x85) else (x66))) → ∀ g87 : Nat → Int32, g87 = ((if (g67 r75.toNatClampNeg) = 0 then (let x80 : Int32 := (g67 (g68 y22.toNatClampNeg).toNatClampNeg) + 1; let g82 : Nat → Int32 := upd g67 (r75.toNatClampNeg) x80; g82) else (g67))) → ∀ g88 : Nat → Int32, g88 = ((if (g67 r75.toNatClampNeg) = 0 then (let g84 : Nat → Int32 := upd g68 (x66.toNatClampNeg) r75; g84) else (g68))) → V p l e (rmm 1 23) s m args below meth c 7 D A 0 0 Q [[(o, .inr (9, [.ref aS, .ref aPast, .int known, .ref aSnap, .int kept, .ref aText, .int len, .int thr, .ref aOne, .ref aTwo, .ref aBoth, .ref aWord, .int cre, .ref aOpen, .ref aTimes, .ref aFar, .ref aQueue, .long hash]))], [(aOne, .inl (cI, 4, .inl g74))], [(aFar, .inl (cI, 6561, .inl g87))], [(aQueue, .inl (cI, 400, .inl g88))]] [(6, .int r75), (5, .int 2), (3, .int x28), (4, .int y22), (2, .int x86), (0, .ref o), (1, .int length)] 179 [] by
          have hp := hps
          refine r_if_ne (tgt := 179) C dX11_spread_144 (by decide) (fun c77 => ?_) (fun c77 => ?_)
          · exact K _ (by simp only [if_neg c77]) _ (by simp only [if_neg c77]) _ (by simp only [if_neg c77])
          · have hp := hp.1 c77
            refine r_aload_n C dX11_spread_147 5 rfl ?_
            refine r_get (Cn := RX11) (T := TX11) (N := 18) C inT11 0 rfl rfl 15 (by decide) t_908 rfl dX11_spread_148 ?_
            refine r_iload C dX11_spread_151 0 rfl ?_
            refine r_aload_n C dX11_spread_153 5 rfl ?_
            refine r_get (Cn := RX11) (T := TX11) (N := 18) C inT11 0 rfl rfl 15 (by decide) t_908 rfl dX11_spread_154 ?_
            refine r_aload_n C dX11_spread_157 5 rfl ?_
            refine r_get (Cn := RX11) (T := TX11) (N := 18) C inT11 0 rfl rfl 16 (by decide) t_909 rfl dX11_spread_158 ?_
            refine r_iload C dX11_spread_161 3 rfl ?_
            obtain ⟨h78, hp⟩ := hp
            refine r_iald (z := g68 y22.toNatClampNeg) C 3 0 rfl rfl h78 dX11_spread_163 rfl ?_
            obtain ⟨h79, hp⟩ := hp
            refine r_iald (z := g67 (g68 y22.toNatClampNeg).toNatClampNeg) C 2 0 rfl rfl h79 dX11_spread_164 rfl ?_
            refine r_iconst (v := 1) C dX11_spread_165 (by decide) ?_
            refine r_iadd C dX11_spread_166 rfl ?_
            refine r_top (fun x80 e_x80 => ?_)
            have hp := hp x80 e_x80
            obtain ⟨h81, hp⟩ := hp
            obtain ⟨g82, e_g82⟩ : ∃ z : Nat → Int32, z = upd g67 (r75.toNatClampNeg) x80 := ⟨_, rfl⟩
            have hp := hp g82 e_g82
            refine r_iast C 2 0 rfl rfl h81 (I' := [[(o, .inr (9, [.ref aS, .ref aPast, .int known, .ref aSnap, .int kept, .ref aText, .int len, .int thr, .ref aOne, .ref aTwo, .ref aBoth, .ref aWord, .int cre, .ref aOpen, .ref aTimes, .ref aFar, .ref aQueue, .long hash]))], [(aOne, .inl (cI, 4, .inl g74))], [(aFar, .inl (cI, 6561, .inl g82))], [(aQueue, .inl (cI, 400, .inl g68))]]) (by rw [e_g82]; rfl) dX11_spread_167 ?_
            refine r_aload_n C dX11_spread_168 5 rfl ?_
            refine r_get (Cn := RX11) (T := TX11) (N := 18) C inT11 0 rfl rfl 16 (by decide) t_909 rfl dX11_spread_169 ?_
            refine r_iload_n C dX11_spread_172 4 rfl ?_
            refine r_iload C dX11_spread_173 0 rfl ?_
            have h83 := hp
            obtain ⟨g84, e_g84⟩ : ∃ z : Nat → Int32, z = upd g68 (x66.toNatClampNeg) r75 := ⟨_, rfl⟩
            refine r_iast C 3 0 rfl rfl h83 (I' := [[(o, .inr (9, [.ref aS, .ref aPast, .int known, .ref aSnap, .int kept, .ref aText, .int len, .int thr, .ref aOne, .ref aTwo, .ref aBoth, .ref aWord, .int cre, .ref aOpen, .ref aTimes, .ref aFar, .ref aQueue, .long hash]))], [(aOne, .inl (cI, 4, .inl g74))], [(aFar, .inl (cI, 6561, .inl g82))], [(aQueue, .inl (cI, 400, .inl g84))]]) (by rw [e_g84]; rfl) dX11_spread_175 ?_
            obtain ⟨x85, e_x85⟩ : ∃ z : Int32, z = x66 + 1 := ⟨_, rfl⟩
            refine r_iinc (v := x85) (L' := [(2, .int x85), (6, .int r75), (5, .int 2), (3, .int x28), (4, .int y22), (0, .ref o), (1, .int length)]) C dX11_spread_176 4 rfl (by rw [e_x85]; exact ii (by decide)) (by decide) rfl ?_
            refine r_L (L' := [(6, .int r75), (5, .int 2), (3, .int x28), (4, .int y22), (2, .int x85), (0, .ref o), (1, .int length)]) [1, 2, 3, 4, 0, 5, 6] rfl ?_
            exact K _ (by have q := e_x80.symm; subst q; have q := e_g82.symm; subst q; have q := e_g84.symm; subst q; have q := e_x85.symm; subst q; simp only [if_pos c77]) _ (by have q := e_x80.symm; subst q; have q := e_g82.symm; subst q; have q := e_g84.symm; subst q; have q := e_x85.symm; subst q; simp only [if_pos c77]) _ (by have q := e_x80.symm; subst q; have q := e_g82.symm; subst q; have q := e_g84.symm; subst q; have q := e_x85.symm; subst q; simp only [if_pos c77])
        intro x86 e_x86 g87 e_g87 g88 e_g88
        have hp := hp x86 e_x86
        have hp := hp g87 e_g87
        have hp := hp g88 e_g88
        refine r_iinc (v := 3) (L' := [(5, .int 3), (6, .int r75), (3, .int x28), (4, .int y22), (2, .int x86), (0, .ref o), (1, .int length)]) C dX11_spread_179 1 rfl (by decide) (by decide) rfl ?_
        refine r_goto (tgt := 108) C dX11_spread_182 (by decide) ?_
        refine r_iload C dX11_spread_108 0 rfl ?_
        refine r_iconst (v := 4) C dX11_spread_110 (by decide) ?_
        refine r_icmp_ge (tgt := 185) C dX11_spread_111 (by decide) (fun c => absurd c (by decide)) (fun _ => ?_)
        refine r_aload_n C dX11_spread_114 5 rfl ?_
        refine r_aload_n C dX11_spread_115 5 rfl ?_
        refine r_get (Cn := RX11) (T := TX11) (N := 18) C inT11 0 rfl rfl 16 (by decide) t_909 rfl dX11_spread_116 ?_
        refine r_iload C dX11_spread_119 3 rfl ?_
        obtain ⟨h89, hp⟩ := hp
        refine r_iald (z := g88 y22.toNatClampNeg) C 3 0 rfl rfl h89 dX11_spread_121 rfl ?_
        refine r_callV (ci := 9) (wc := [[(o, .inr (9, [.ref aS, .ref aPast, .int known, .ref aSnap, .int kept, .ref aText, .int len, .int thr, .ref aOne, .ref aTwo, .ref aBoth, .ref aWord, .int cre, .ref aOpen, .ref aTimes, .ref aFar, .ref aQueue, .long hash]))], [(aOne, .inl (cI, 4, .inl g74))]]) (wr := [[(aFar, .inl (cI, 6561, .inl g87))], [(aQueue, .inl (cI, 400, .inl g88))]]) (st := []) C (m_X11_unhooks l D cI cL cP cJ o aS aPast aSnap aText aOne aTwo aBoth aWord aOpen aTimes aFar aQueue known kept len thr cre hash g74 (g88 y22.toNatClampNeg)) k_X11_unhooks t_1234 [0, 1, 2, 3] (show ([0, 1, 2, 3] : List Nat).Perm (List.range 4) by decide) rfl rfl rfl (q0 := 0) rfl rfl rfl (Nat.le_of_ble_eq_true rfl) ⟨Nat.le_of_ble_eq_true rfl, Nat.le_of_ble_eq_true rfl⟩ ⟨Nat.zero_le _, Nat.zero_le _⟩ dX11_spread_122 (fun r90 wr90 hw90 => ?_)
        obtain rfl := hw90
        obtain ⟨g91, e_g91⟩ : ∃ z : Nat → Int32, z = F_X11_unhooks g74 (g88 y22.toNatClampNeg) := ⟨_, rfl⟩
        have hp := hp g91 e_g91
        refine r_ws (I' := [[(o, .inr (9, [.ref aS, .ref aPast, .int known, .ref aSnap, .int kept, .ref aText, .int len, .int thr, .ref aOne, .ref aTwo, .ref aBoth, .ref aWord, .int cre, .ref aOpen, .ref aTimes, .ref aFar, .ref aQueue, .long hash]))], [(aOne, .inl (cI, 4, .inl g91))], [(aFar, .inl (cI, 6561, .inl g87))], [(aQueue, .inl (cI, 400, .inl g88))]]) (by rw [e_g91]; rfl) ?_
        refine r_aload_n C dX11_spread_125 5 rfl ?_
        refine r_iload C dX11_spread_126 0 rfl ?_
        obtain ⟨h92, hp⟩ := hp
        refine r_callV (ci := 9) (wc := [[(o, .inr (9, [.ref aS, .ref aPast, .int known, .ref aSnap, .int kept, .ref aText, .int len, .int thr, .ref aOne, .ref aTwo, .ref aBoth, .ref aWord, .int cre, .ref aOpen, .ref aTimes, .ref aFar, .ref aQueue, .long hash]))], [(aOne, .inl (cI, 4, .inl g91))]]) (wr := [[(aFar, .inl (cI, 6561, .inl g87))], [(aQueue, .inl (cI, 400, .inl g88))]]) (st := []) C (m_X11_foldsOne l D cI cL cP cJ o aS aPast aSnap aText aOne aTwo aBoth aWord aOpen aTimes aFar aQueue known kept len thr cre hash g91 3 h92) k_X11_foldsOne t_994 [0, 1, 2, 3] (show ([0, 1, 2, 3] : List Nat).Perm (List.range 4) by decide) rfl rfl rfl (q0 := 0) rfl rfl rfl (Nat.le_of_ble_eq_true rfl) ⟨Nat.le_of_ble_eq_true rfl, Nat.le_of_ble_eq_true rfl⟩ ⟨Nat.zero_le _, Nat.zero_le _⟩ dX11_spread_128 (fun r93 wr93 hw93 => ?_)
        obtain rfl := hw93
        obtain ⟨g94, e_g94⟩ : ∃ z : Nat → Int32, z = F_X11_foldsOne g91 3 := ⟨_, rfl⟩
        have hp := hp g94 e_g94
        refine r_ws (I' := [[(o, .inr (9, [.ref aS, .ref aPast, .int known, .ref aSnap, .int kept, .ref aText, .int len, .int thr, .ref aOne, .ref aTwo, .ref aBoth, .ref aWord, .int cre, .ref aOpen, .ref aTimes, .ref aFar, .ref aQueue, .long hash]))], [(aOne, .inl (cI, 4, .inl g94))], [(aFar, .inl (cI, 6561, .inl g87))], [(aQueue, .inl (cI, 400, .inl g88))]]) (by rw [e_g94]; rfl) ?_
        refine r_aload_n C dX11_spread_131 5 rfl ?_
        refine r_callV (ci := 9) (wc := [[(o, .inr (9, [.ref aS, .ref aPast, .int known, .ref aSnap, .int kept, .ref aText, .int len, .int thr, .ref aOne, .ref aTwo, .ref aBoth, .ref aWord, .int cre, .ref aOpen, .ref aTimes, .ref aFar, .ref aQueue, .long hash]))], [(aOne, .inl (cI, 4, .inl g94))]]) (wr := [[(aFar, .inl (cI, 6561, .inl g87))], [(aQueue, .inl (cI, 400, .inl g88))]]) (st := []) C (m_X11_hook l D cI cL cP cJ o aS aPast aSnap aText aOne aTwo aBoth aWord aOpen aTimes aFar aQueue known kept len thr cre hash g94) k_X11_hook t_1230 [0, 1, 2, 3] (show ([0, 1, 2, 3] : List Nat).Perm (List.range 4) by decide) rfl rfl rfl (q0 := 0) rfl rfl rfl (Nat.le_of_ble_eq_true rfl) ⟨Nat.le_of_ble_eq_true rfl, Nat.le_of_ble_eq_true rfl⟩ ⟨Nat.zero_le _, Nat.zero_le _⟩ dX11_spread_132 (fun r95 wr95 hw95 => ?_)
        obtain ⟨e_r95, rfl⟩ := hw95
        have hp := hp r95 e_r95
        refine r_ws (I' := [[(o, .inr (9, [.ref aS, .ref aPast, .int known, .ref aSnap, .int kept, .ref aText, .int len, .int thr, .ref aOne, .ref aTwo, .ref aBoth, .ref aWord, .int cre, .ref aOpen, .ref aTimes, .ref aFar, .ref aQueue, .long hash]))], [(aOne, .inl (cI, 4, .inl g94))], [(aFar, .inl (cI, 6561, .inl g87))], [(aQueue, .inl (cI, 400, .inl g88))]]) rfl ?_
        refine r_istore (L' := [(6, .int r95), (5, .int 3), (3, .int x28), (4, .int y22), (2, .int x86), (0, .ref o), (1, .int length)]) C dX11_spread_135 (by decide) rfl ?_
        refine r_aload_n C dX11_spread_137 5 rfl ?_
        refine r_get (Cn := RX11) (T := TX11) (N := 18) C inT11 0 rfl rfl 15 (by decide) t_908 rfl dX11_spread_138 ?_
        refine r_iload C dX11_spread_141 0 rfl ?_
        obtain ⟨h96, hp⟩ := hp
        refine r_iald (z := g87 r95.toNatClampNeg) C 2 0 rfl rfl h96 dX11_spread_143 rfl ?_
        obtain ⟨hps, hp⟩ := hp
        suffices K : ∀ x106 : Int32, x106 = ((if (g87 r95.toNatClampNeg) = 0 then (let x105 : Int32 := x86 + 1; x105) else (x86))) → ∀ g107 : Nat → Int32, g107 = ((if (g87 r95.toNatClampNeg) = 0 then (let x100 : Int32 := (g87 (g88 y22.toNatClampNeg).toNatClampNeg) + 1; let g102 : Nat → Int32 := upd g87 (r95.toNatClampNeg) x100; g102) else (g87))) → ∀ g108 : Nat → Int32, g108 = ((if (g87 r95.toNatClampNeg) = 0 then (let g104 : Nat → Int32 := upd g88 (x86.toNatClampNeg) r95; g104) else (g88))) → V p l e (rmm 1 23) s m args below meth c 7 D A 0 0 Q [[(o, .inr (9, [.ref aS, .ref aPast, .int known, .ref aSnap, .int kept, .ref aText, .int len, .int thr, .ref aOne, .ref aTwo, .ref aBoth, .ref aWord, .int cre, .ref aOpen, .ref aTimes, .ref aFar, .ref aQueue, .long hash]))], [(aOne, .inl (cI, 4, .inl g94))], [(aFar, .inl (cI, 6561, .inl g107))], [(aQueue, .inl (cI, 400, .inl g108))]] [(6, .int r95), (5, .int 3), (3, .int x28), (4, .int y22), (2, .int x106), (0, .ref o), (1, .int length)] 179 [] by
          have hp := hps
          refine r_if_ne (tgt := 179) C dX11_spread_144 (by decide) (fun c97 => ?_) (fun c97 => ?_)
          · exact K _ (by simp only [if_neg c97]) _ (by simp only [if_neg c97]) _ (by simp only [if_neg c97])
          · have hp := hp.1 c97
            refine r_aload_n C dX11_spread_147 5 rfl ?_
            refine r_get (Cn := RX11) (T := TX11) (N := 18) C inT11 0 rfl rfl 15 (by decide) t_908 rfl dX11_spread_148 ?_
            refine r_iload C dX11_spread_151 0 rfl ?_
            refine r_aload_n C dX11_spread_153 5 rfl ?_
            refine r_get (Cn := RX11) (T := TX11) (N := 18) C inT11 0 rfl rfl 15 (by decide) t_908 rfl dX11_spread_154 ?_
            refine r_aload_n C dX11_spread_157 5 rfl ?_
            refine r_get (Cn := RX11) (T := TX11) (N := 18) C inT11 0 rfl rfl 16 (by decide) t_909 rfl dX11_spread_158 ?_
            refine r_iload C dX11_spread_161 3 rfl ?_
            obtain ⟨h98, hp⟩ := hp
            refine r_iald (z := g88 y22.toNatClampNeg) C 3 0 rfl rfl h98 dX11_spread_163 rfl ?_
            obtain ⟨h99, hp⟩ := hp
            refine r_iald (z := g87 (g88 y22.toNatClampNeg).toNatClampNeg) C 2 0 rfl rfl h99 dX11_spread_164 rfl ?_
            refine r_iconst (v := 1) C dX11_spread_165 (by decide) ?_
            refine r_iadd C dX11_spread_166 rfl ?_
            refine r_top (fun x100 e_x100 => ?_)
            have hp := hp x100 e_x100
            obtain ⟨h101, hp⟩ := hp
            obtain ⟨g102, e_g102⟩ : ∃ z : Nat → Int32, z = upd g87 (r95.toNatClampNeg) x100 := ⟨_, rfl⟩
            have hp := hp g102 e_g102
            refine r_iast C 2 0 rfl rfl h101 (I' := [[(o, .inr (9, [.ref aS, .ref aPast, .int known, .ref aSnap, .int kept, .ref aText, .int len, .int thr, .ref aOne, .ref aTwo, .ref aBoth, .ref aWord, .int cre, .ref aOpen, .ref aTimes, .ref aFar, .ref aQueue, .long hash]))], [(aOne, .inl (cI, 4, .inl g94))], [(aFar, .inl (cI, 6561, .inl g102))], [(aQueue, .inl (cI, 400, .inl g88))]]) (by rw [e_g102]; rfl) dX11_spread_167 ?_
            refine r_aload_n C dX11_spread_168 5 rfl ?_
            refine r_get (Cn := RX11) (T := TX11) (N := 18) C inT11 0 rfl rfl 16 (by decide) t_909 rfl dX11_spread_169 ?_
            refine r_iload_n C dX11_spread_172 4 rfl ?_
            refine r_iload C dX11_spread_173 0 rfl ?_
            have h103 := hp
            obtain ⟨g104, e_g104⟩ : ∃ z : Nat → Int32, z = upd g88 (x86.toNatClampNeg) r95 := ⟨_, rfl⟩
            refine r_iast C 3 0 rfl rfl h103 (I' := [[(o, .inr (9, [.ref aS, .ref aPast, .int known, .ref aSnap, .int kept, .ref aText, .int len, .int thr, .ref aOne, .ref aTwo, .ref aBoth, .ref aWord, .int cre, .ref aOpen, .ref aTimes, .ref aFar, .ref aQueue, .long hash]))], [(aOne, .inl (cI, 4, .inl g94))], [(aFar, .inl (cI, 6561, .inl g102))], [(aQueue, .inl (cI, 400, .inl g104))]]) (by rw [e_g104]; rfl) dX11_spread_175 ?_
            obtain ⟨x105, e_x105⟩ : ∃ z : Int32, z = x86 + 1 := ⟨_, rfl⟩
            refine r_iinc (v := x105) (L' := [(2, .int x105), (6, .int r95), (5, .int 3), (3, .int x28), (4, .int y22), (0, .ref o), (1, .int length)]) C dX11_spread_176 4 rfl (by rw [e_x105]; exact ii (by decide)) (by decide) rfl ?_
            refine r_L (L' := [(6, .int r95), (5, .int 3), (3, .int x28), (4, .int y22), (2, .int x105), (0, .ref o), (1, .int length)]) [1, 2, 3, 4, 0, 5, 6] rfl ?_
            exact K _ (by have q := e_x100.symm; subst q; have q := e_g102.symm; subst q; have q := e_g104.symm; subst q; have q := e_x105.symm; subst q; simp only [if_pos c97]) _ (by have q := e_x100.symm; subst q; have q := e_g102.symm; subst q; have q := e_g104.symm; subst q; have q := e_x105.symm; subst q; simp only [if_pos c97]) _ (by have q := e_x100.symm; subst q; have q := e_g102.symm; subst q; have q := e_g104.symm; subst q; have q := e_x105.symm; subst q; simp only [if_pos c97])
        intro x106 e_x106 g107 e_g107 g108 e_g108
        have hp := hp x106 e_x106
        have hp := hp g107 e_g107
        have hp := hp g108 e_g108
        refine r_iinc (v := 4) (L' := [(5, .int 4), (6, .int r95), (3, .int x28), (4, .int y22), (2, .int x106), (0, .ref o), (1, .int length)]) C dX11_spread_179 1 rfl (by decide) (by decide) rfl ?_
        refine r_goto (tgt := 108) C dX11_spread_182 (by decide) ?_
        refine r_iload C dX11_spread_108 0 rfl ?_
        refine r_iconst (v := 4) C dX11_spread_110 (by decide) ?_
        refine r_icmp_ge (tgt := 185) C dX11_spread_111 (by decide) (fun _ => ?_) (fun c => absurd c (by decide))
        obtain ⟨x109, e_x109⟩ : ∃ z : Int32, z = y22 + 1 := ⟨_, rfl⟩
        have hp := hp x109 e_x109
        refine r_iinc (v := x109) (L' := [(4, .int x109), (5, .int 4), (6, .int r95), (3, .int x28), (2, .int x106), (0, .ref o), (1, .int length)]) C dX11_spread_185 3 rfl (by rw [e_x109]; exact ii (by decide)) (by decide) rfl ?_
        refine r_goto (tgt := 73) C dX11_spread_188 (by decide) ?_
        refine r_L (L' := [(4, .int x109), (3, .int x28), (2, .int x106), (0, .ref o), (1, .int length)]) [0, 3, 4, 5, 6] rfl ?_
        have eF : F_X11_spread_L73 length (nn + 1) k17 k18 k19 y20 y21 y22 = F_X11_spread_L73 length nn g94 g107 g108 x106 x28 x109 := by have q := e_x27.symm; subst q; have q := e_x28.symm; subst q; have q := e_g31.symm; subst q; have q := e_g34.symm; subst q; have q := e_r35.symm; subst q; have q := e_x46.symm; subst q; have q := e_g47.symm; subst q; have q := e_g48.symm; subst q; have q := e_g51.symm; subst q; have q := e_g54.symm; subst q; have q := e_r55.symm; subst q; have q := e_x66.symm; subst q; have q := e_g67.symm; subst q; have q := e_g68.symm; subst q; have q := e_g71.symm; subst q; have q := e_g74.symm; subst q; have q := e_r75.symm; subst q; have q := e_x86.symm; subst q; have q := e_g87.symm; subst q; have q := e_g88.symm; subst q; have q := e_g91.symm; subst q; have q := e_g94.symm; subst q; have q := e_r95.symm; subst q; have q := e_x106.symm; subst q; have q := e_g107.symm; subst q; have q := e_g108.symm; subst q; have q := e_x109.symm; subst q; simp only [F_X11_spread_L73, if_neg c23]
        exact ih g94 g107 g108 x106 x28 x109 hp (fun f110 e_f110 f111 e_f111 f112 e_f112 z113 e_z113 z114 e_z114 z115 e_z115 => kk f110 (by rw [eF]; exact e_f110) f111 (by rw [eF]; exact e_f111) f112 (by rw [eF]; exact e_f112) z113 (by rw [eF]; exact e_z113) z114 (by rw [eF]; exact e_z114) z115 (by rw [eF]; exact e_z115))
  refine hL 402 g12 g16 g14 1 0 0 hpl (fun f110 e_f110 f111 e_f111 f112 e_f112 z113 e_z113 z114 e_z114 z115 e_z115 => ?_)
  clear hL hpl
  refine r_iload_n C dX11_spread_191 1 rfl ?_
  have eF : F_X11_spread fOne fFar fQueue length = (z114, f110, f111, f112) := by have q := e_f7.symm; subst q; have q := e_z8.symm; subst q; have q := e_g9.symm; subst q; have q := e_g10.symm; subst q; have q := e_g11.symm; subst q; have q := e_g12.symm; subst q; have q := e_r13.symm; subst q; have q := e_g14.symm; subst q; have q := e_g16.symm; subst q; have q := e_f110.symm; subst q; have q := e_f111.symm; subst q; have q := e_f112.symm; subst q; have q := e_z113.symm; subst q; have q := e_z114.symm; subst q; have q := e_z115.symm; subst q; rfl
  exact r_iret (r := z114) C hA hr hlo dX11_spread_192 [[(o, .inr (9, [.ref aS, .ref aPast, .int known, .ref aSnap, .int kept, .ref aText, .int len, .int thr, .ref aOne, .ref aTwo, .ref aBoth, .ref aWord, .int cre, .ref aOpen, .ref aTimes, .ref aFar, .ref aQueue, .long hash]))], [(aOne, .inl (cI, 4, .inl f110))], [(aFar, .inl (cI, 6561, .inl f111))], [(aQueue, .inl (cI, 400, .inl f112))]] ⟨by simp only [eF], by simp only [eF]⟩ rfl hQ
theorem k_X11_sums : kS yX11_sums cX11_sums 3 (some .int) 1 := ⟨t_1224, t_67, t_1225, by decide +kernel, by decide +kernel, by decide +kernel⟩
def F_X11_sums_L4 (length : Int32) : Nat → Int32 → Int32 → Int32 × Int32
  | 0, y1, y2 => (y1, y2)
  | nn + 1, y1, y2 => (if 384 ≤ y2 then ((y1, y2)) else (let x5 : Int32 := (if ((((y2 - y2 / 2 * 2) + ((y2 / 2) - (y2 / 2) / 4 * 4)) + ((y2 / 8) - (y2 / 8) / 6 * 6)) + (y2 / 48)) = length then (1) else (0)); let x6 : Int32 := y1 + x5; let x7 : Int32 := y2 + 1; F_X11_sums_L4 length nn x6 x7))
def P_X11_sums_L4 (length : Int32) : Nat → Int32 → Int32 → Prop
  | 0, _, _ => False
  | nn + 1, y1, y2 => ((384 ≤ y2 → True) ∧ (¬ 384 ≤ y2 → (∀ x5 : Int32, x5 = ((if ((((y2 - y2 / 2 * 2) + ((y2 / 2) - (y2 / 2) / 4 * 4)) + ((y2 / 8) - (y2 / 8) / 6 * 6)) + (y2 / 48)) = length then (1) else (0))) → (∀ x6 : Int32, x6 = y1 + x5 → (∀ x7 : Int32, x7 = y2 + 1 → (P_X11_sums_L4 length nn x6 x7))))))
set_option maxRecDepth 20000 in
def F_X11_sums (length : Int32) : Int32 := let z8 : Int32 := (F_X11_sums_L4 length 385 0 0).1; z8
set_option maxRecDepth 20000 in
def P_X11_sums (length : Int32) : Prop := (P_X11_sums_L4 length 385 0 0)
set_option maxRecDepth 20000 in
set_option maxHeartbeats 8000000 in
theorem m_X11_sums (l : Launch) (D : va_G) (cI cL cP cJ : ClassId) (length : Int32) (hp : P_X11_sums length) : M vI l yX11_sums cX11_sums 3 (some .int) 0 0 D (tyF cI cL cP cJ) [.int length] [] (fun (r : Int32) (w1 : List va_W) => r = (F_X11_sums length) ∧ w1 = []) := by
  unfold P_X11_sums at hp
  refine m_start (by decide +kernel) (Nat.le_of_ble_eq_true rfl) (fun p e s m args below meth c A Q hA hQ C hr hlo => ?_)
  refine r_Le (L' := [(0, .int length)]) rfl ?_
  refine r_iconst (v := 0) C dX11_sums_0 (by decide) ?_
  refine r_istore_n (L' := [(1, .int 0), (0, .int length)]) C dX11_sums_1 (by decide) rfl ?_
  refine r_iconst (v := 0) C dX11_sums_2 (by decide) ?_
  refine r_istore_n (L' := [(2, .int 0), (1, .int 0), (0, .int length)]) C dX11_sums_3 (by decide) rfl ?_
  have hpl := hp
  have hL : ∀ (nn : Nat) (y1 : Int32) (y2 : Int32), P_X11_sums_L4 length nn y1 y2 → (∀ z8 : Int32, z8 = (F_X11_sums_L4 length nn y1 y2).1 → ∀ z9 : Int32, z9 = (F_X11_sums_L4 length nn y1 y2).2 → V p l e (rmm 0 0) s m args below meth c 3 D A 0 0 Q [] [(2, .int z9), (1, .int z8), (0, .int length)] 51 []) → V p l e (rmm 0 0) s m args below meth c 3 D A 0 0 Q [] [(2, .int y2), (1, .int y1), (0, .int length)] 4 [] := by
    clear hpl
    intro nn
    induction nn with
    | zero => intro y1 y2 hp kk; rw [P_X11_sums_L4] at hp; exact hp.elim
    | succ nn ih =>
      intro y1 y2 hp kk
      rw [P_X11_sums_L4] at hp
      refine r_iload_n C dX11_sums_4 0 rfl ?_
      refine r_sipush (v := 384) C dX11_sums_5 (by decide) ?_
      refine r_icmp_ge (tgt := 51) C dX11_sums_8 (by decide) (fun c3 => ?_) (fun c3 => ?_)
      · have eF : F_X11_sums_L4 length (nn + 1) y1 y2 = (y1, y2) := by simp only [F_X11_sums_L4, if_pos c3]
        exact kk _ (by rw [eF]) _ (by rw [eF])
      · have hp := hp.2 c3
        refine r_iload_n C dX11_sums_11 1 rfl ?_
        refine r_iload_n C dX11_sums_12 0 rfl ?_
        refine r_iconst (v := 2) C dX11_sums_13 (by decide) ?_
        refine r_irem C dX11_sums_14 (by decide) rfl ?_
        refine r_iload_n C dX11_sums_15 0 rfl ?_
        refine r_iconst (v := 2) C dX11_sums_16 (by decide) ?_
        refine r_idiv C dX11_sums_17 (by decide) rfl ?_
        refine r_iconst (v := 4) C dX11_sums_18 (by decide) ?_
        refine r_irem C dX11_sums_19 (by decide) rfl ?_
        refine r_iadd C dX11_sums_20 rfl ?_
        refine r_iload_n C dX11_sums_21 0 rfl ?_
        refine r_bipush (v := 8) C dX11_sums_22 (by decide) ?_
        refine r_idiv C dX11_sums_24 (by decide) rfl ?_
        refine r_bipush (v := 6) C dX11_sums_25 (by decide) ?_
        refine r_irem C dX11_sums_27 (by decide) rfl ?_
        refine r_iadd C dX11_sums_28 rfl ?_
        refine r_iload_n C dX11_sums_29 0 rfl ?_
        refine r_bipush (v := 48) C dX11_sums_30 (by decide) ?_
        refine r_idiv C dX11_sums_32 (by decide) rfl ?_
        refine r_iadd C dX11_sums_33 rfl ?_
        refine r_iload_n C dX11_sums_34 2 rfl ?_
        suffices K : ∀ x5 : Int32, x5 = ((if ((((y2 - y2 / 2 * 2) + ((y2 / 2) - (y2 / 2) / 4 * 4)) + ((y2 / 8) - (y2 / 8) / 6 * 6)) + (y2 / 48)) = length then (1) else (0))) → V p l e (rmm 0 0) s m args below meth c 3 D A 0 0 Q [] [(2, .int y2), (1, .int y1), (0, .int length)] 43 [.int x5, .int y1] by
          refine r_icmp_ne (tgt := 42) C dX11_sums_35 (by decide) (fun c4 => ?_) (fun c4 => ?_)
          · refine r_iconst (v := 0) C dX11_sums_42 (by decide) ?_
            exact K _ (by simp only [if_neg c4])
          · refine r_iconst (v := 1) C dX11_sums_38 (by decide) ?_
            refine r_goto (tgt := 43) C dX11_sums_39 (by decide) ?_
            exact K _ (by simp only [if_pos c4])
        intro x5 e_x5
        have hp := hp x5 e_x5
        refine r_iadd C dX11_sums_43 rfl ?_
        refine r_top (fun x6 e_x6 => ?_)
        have hp := hp x6 e_x6
        refine r_istore_n (L' := [(1, .int x6), (2, .int y2), (0, .int length)]) C dX11_sums_44 (by decide) rfl ?_
        obtain ⟨x7, e_x7⟩ : ∃ z : Int32, z = y2 + 1 := ⟨_, rfl⟩
        have hp := hp x7 e_x7
        refine r_iinc (v := x7) (L' := [(2, .int x7), (1, .int x6), (0, .int length)]) C dX11_sums_45 1 rfl (by rw [e_x7]; exact ii (by decide)) (by decide) rfl ?_
        refine r_goto (tgt := 4) C dX11_sums_48 (by decide) ?_
        have eF : F_X11_sums_L4 length (nn + 1) y1 y2 = F_X11_sums_L4 length nn x6 x7 := by have q := e_x5.symm; subst q; have q := e_x6.symm; subst q; have q := e_x7.symm; subst q; simp only [F_X11_sums_L4, if_neg c3]
        exact ih x6 x7 hp (fun z8 e_z8 z9 e_z9 => kk z8 (by rw [eF]; exact e_z8) z9 (by rw [eF]; exact e_z9))
  refine hL 385 0 0 hpl (fun z8 e_z8 z9 e_z9 => ?_)
  clear hL hpl
  refine r_iload_n C dX11_sums_51 1 rfl ?_
  have eF : F_X11_sums length = z8 := by have q := e_z8.symm; subst q; have q := e_z9.symm; subst q; rfl
  exact r_iret (r := z8) C hA hr hlo dX11_sums_52 [] ⟨by simp only [eF], rfl⟩ rfl hQ
theorem k_X11_ways : kV yX11_ways cX11_ways 3 (some .int) 2 := ⟨t_1220, t_1221, t_67, t_1222, by decide +kernel, by decide +kernel, by decide +kernel⟩
set_option maxRecDepth 20000 in
def F_X11_ways (fOne : Nat → Int32) (fFar : Nat → Int32) (fQueue : Nat → Int32) (length : Int32) (what : Int32) : Int32 × Int32 × (Nat → Int32) × (Nat → Int32) × (Nat → Int32) := let r1 : Int32 := F_X11_in length 0 20; let x5 : Int32 := (if r1 = 0 then (1) else (let r3 : Int32 := F_X11_in what 0 1; (if r3 = 0 then (1) else (0)))); let r6 : Int32 := (F_X11_throwsAt x5).1; let x7 : Int32 := (F_X11_throwsAt x5).2; (if r6 = 0 then (let x17 : Int32 := (if what = 0 then (let r16 : Int32 := F_X11_sums length; r16) else (let r11 : Int32 := (F_X11_spread fOne fFar fQueue length).1; r11)); let g18 : Nat → Int32 := (if what = 0 then (fOne) else (let g12 : Nat → Int32 := (F_X11_spread fOne fFar fQueue length).2.1; g12)); let g19 : Nat → Int32 := (if what = 0 then (fFar) else (let g13 : Nat → Int32 := (F_X11_spread fOne fFar fQueue length).2.2.1; g13)); let g20 : Nat → Int32 := (if what = 0 then (fQueue) else (let g14 : Nat → Int32 := (F_X11_spread fOne fFar fQueue length).2.2.2; g14)); (x17, x7, g18, g19, g20)) else ((0, x7, fOne, fFar, fQueue)))
set_option maxRecDepth 20000 in
def P_X11_ways (fOne : Nat → Int32) (fFar : Nat → Int32) (fQueue : Nat → Int32) (length : Int32) (what : Int32) : Prop := (∀ r1 : Int32, r1 = F_X11_in length 0 20 → (∀ x5 : Int32, x5 = ((if r1 = 0 then (1) else (let r3 : Int32 := F_X11_in what 0 1; (if r3 = 0 then (1) else (0))))) → (∀ r6 : Int32, r6 = (F_X11_throwsAt x5).1 → (∀ x7 : Int32, x7 = (F_X11_throwsAt x5).2 → ((r6 = 0 → ((what = 0 → (P_X11_sums length)) ∧ (¬ what = 0 → (P_X11_spread fOne fFar fQueue length)))) ∧ (¬ r6 = 0 → True))))))
set_option maxRecDepth 20000 in
set_option maxHeartbeats 8000000 in
theorem m_X11_ways (l : Launch) (D : va_G) (cI cL cP cJ : ClassId) (o : Nat) (aS : Nat) (aPast : Nat) (aSnap : Nat) (aText : Nat) (aOne : Nat) (aTwo : Nat) (aBoth : Nat) (aWord : Nat) (aOpen : Nat) (aTimes : Nat) (aFar : Nat) (aQueue : Nat) (known : Int32) (kept : Int32) (len : Int32) (thr : Int32) (cre : Int32) (hash : Int64) (fOne : Nat → Int32) (fFar : Nat → Int32) (fQueue : Nat → Int32) (length : Int32) (what : Int32) (hp : P_X11_ways fOne fFar fQueue length what) : M vI l yX11_ways cX11_ways 3 (some .int) 2 49 D (tyF cI cL cP cJ) [.ref o, .int length, .int what] [[(o, .inr (9, [.ref aS, .ref aPast, .int known, .ref aSnap, .int kept, .ref aText, .int len, .int thr, .ref aOne, .ref aTwo, .ref aBoth, .ref aWord, .int cre, .ref aOpen, .ref aTimes, .ref aFar, .ref aQueue, .long hash]))], [(aOne, .inl (cI, 4, .inl fOne))], [(aFar, .inl (cI, 6561, .inl fFar))], [(aQueue, .inl (cI, 400, .inl fQueue))]] (fun (r : Int32) (w1 : List va_W) => r = (F_X11_ways fOne fFar fQueue length what).1 ∧ w1 = [[(o, .inr (9, [.ref aS, .ref aPast, .int known, .ref aSnap, .int kept, .ref aText, .int len, .int ((F_X11_ways fOne fFar fQueue length what).2.1), .ref aOne, .ref aTwo, .ref aBoth, .ref aWord, .int cre, .ref aOpen, .ref aTimes, .ref aFar, .ref aQueue, .long hash]))], [(aOne, .inl (cI, 4, .inl ((F_X11_ways fOne fFar fQueue length what).2.2.1)))], [(aFar, .inl (cI, 6561, .inl ((F_X11_ways fOne fFar fQueue length what).2.2.2.1)))], [(aQueue, .inl (cI, 400, .inl ((F_X11_ways fOne fFar fQueue length what).2.2.2.2)))]]) := by
  unfold P_X11_ways at hp
  refine m_start (by decide +kernel) (Nat.le_of_ble_eq_true rfl) (fun p e s m args below meth c A Q hA hQ C hr hlo => ?_)
  refine r_Le (L' := [(0, .ref o), (1, .int length), (2, .int what)]) rfl ?_
  refine r_aload_n C dX11_ways_0 0 rfl ?_
  refine r_iload_n C dX11_ways_1 1 rfl ?_
  refine r_iconst (v := 0) C dX11_ways_2 (by decide) ?_
  refine r_bipush (v := 20) C dX11_ways_3 (by decide) ?_
  refine r_callS (wc := []) (wr := [[(o, .inr (9, [.ref aS, .ref aPast, .int known, .ref aSnap, .int kept, .ref aText, .int len, .int thr, .ref aOne, .ref aTwo, .ref aBoth, .ref aWord, .int cre, .ref aOpen, .ref aTimes, .ref aFar, .ref aQueue, .long hash]))], [(aOne, .inl (cI, 4, .inl fOne))], [(aFar, .inl (cI, 6561, .inl fFar))], [(aQueue, .inl (cI, 400, .inl fQueue))]]) (st := [.ref o]) C (m_X11_in l D cI cL cP cJ length 0 20) k_X11_in t_959 [0, 1, 2, 3] (show ([0, 1, 2, 3] : List Nat).Perm (List.range 4) by decide) rfl rfl rfl (Nat.le_of_ble_eq_true rfl) ⟨Nat.le_of_ble_eq_true rfl, Nat.le_of_ble_eq_true rfl⟩ ⟨Nat.zero_le _, Nat.zero_le _⟩ dX11_ways_5 (fun r1 wr1 hw1 => ?_)
  obtain ⟨e_r1, rfl⟩ := hw1
  have hp := hp r1 e_r1
  refine r_ws (I' := [[(o, .inr (9, [.ref aS, .ref aPast, .int known, .ref aSnap, .int kept, .ref aText, .int len, .int thr, .ref aOne, .ref aTwo, .ref aBoth, .ref aWord, .int cre, .ref aOpen, .ref aTimes, .ref aFar, .ref aQueue, .long hash]))], [(aOne, .inl (cI, 4, .inl fOne))], [(aFar, .inl (cI, 6561, .inl fFar))], [(aQueue, .inl (cI, 400, .inl fQueue))]]) rfl ?_
  suffices K : ∀ x5 : Int32, x5 = ((if r1 = 0 then (1) else (let r3 : Int32 := F_X11_in what 0 1; (if r3 = 0 then (1) else (0))))) → V p l e (rmm 2 49) s m args below meth c 3 D A 0 0 Q [[(o, .inr (9, [.ref aS, .ref aPast, .int known, .ref aSnap, .int kept, .ref aText, .int len, .int thr, .ref aOne, .ref aTwo, .ref aBoth, .ref aWord, .int cre, .ref aOpen, .ref aTimes, .ref aFar, .ref aQueue, .long hash]))], [(aOne, .inl (cI, 4, .inl fOne))], [(aFar, .inl (cI, 6561, .inl fFar))], [(aQueue, .inl (cI, 400, .inl fQueue))]] [(0, .ref o), (1, .int length), (2, .int what)] 25 [.int x5, .ref o] by
    refine r_if_eq (tgt := 24) C dX11_ways_8 (by decide) (fun c2 => ?_) (fun c2 => ?_)
    · refine r_iconst (v := 1) C dX11_ways_24 (by decide) ?_
      exact K _ (by simp only [if_pos c2])
    · refine r_iload_n C dX11_ways_11 2 rfl ?_
      refine r_iconst (v := 0) C dX11_ways_12 (by decide) ?_
      refine r_iconst (v := 1) C dX11_ways_13 (by decide) ?_
      refine r_callS (wc := []) (wr := [[(o, .inr (9, [.ref aS, .ref aPast, .int known, .ref aSnap, .int kept, .ref aText, .int len, .int thr, .ref aOne, .ref aTwo, .ref aBoth, .ref aWord, .int cre, .ref aOpen, .ref aTimes, .ref aFar, .ref aQueue, .long hash]))], [(aOne, .inl (cI, 4, .inl fOne))], [(aFar, .inl (cI, 6561, .inl fFar))], [(aQueue, .inl (cI, 400, .inl fQueue))]]) (st := [.ref o]) C (m_X11_in l D cI cL cP cJ what 0 1) k_X11_in t_959 [0, 1, 2, 3] (show ([0, 1, 2, 3] : List Nat).Perm (List.range 4) by decide) rfl rfl rfl (Nat.le_of_ble_eq_true rfl) ⟨Nat.le_of_ble_eq_true rfl, Nat.le_of_ble_eq_true rfl⟩ ⟨Nat.zero_le _, Nat.zero_le _⟩ dX11_ways_14 (fun r3 wr3 hw3 => ?_)
      obtain ⟨e_r3, rfl⟩ := hw3
      refine r_ws (I' := [[(o, .inr (9, [.ref aS, .ref aPast, .int known, .ref aSnap, .int kept, .ref aText, .int len, .int thr, .ref aOne, .ref aTwo, .ref aBoth, .ref aWord, .int cre, .ref aOpen, .ref aTimes, .ref aFar, .ref aQueue, .long hash]))], [(aOne, .inl (cI, 4, .inl fOne))], [(aFar, .inl (cI, 6561, .inl fFar))], [(aQueue, .inl (cI, 400, .inl fQueue))]]) rfl ?_
      refine r_if_eq (tgt := 24) C dX11_ways_17 (by decide) (fun c4 => ?_) (fun c4 => ?_)
      · refine r_iconst (v := 1) C dX11_ways_24 (by decide) ?_
        exact K _ (by have q := e_r3.symm; subst q; simp only [if_neg c2, if_pos c4])
      · refine r_iconst (v := 0) C dX11_ways_20 (by decide) ?_
        refine r_goto (tgt := 25) C dX11_ways_21 (by decide) ?_
        exact K _ (by have q := e_r3.symm; subst q; simp only [if_neg c2, if_neg c4])
  intro x5 e_x5
  have hp := hp x5 e_x5
  refine r_callV (ci := 9) (wc := [[(o, .inr (9, [.ref aS, .ref aPast, .int known, .ref aSnap, .int kept, .ref aText, .int len, .int thr, .ref aOne, .ref aTwo, .ref aBoth, .ref aWord, .int cre, .ref aOpen, .ref aTimes, .ref aFar, .ref aQueue, .long hash]))]]) (wr := [[(aOne, .inl (cI, 4, .inl fOne))], [(aFar, .inl (cI, 6561, .inl fFar))], [(aQueue, .inl (cI, 400, .inl fQueue))]]) (st := []) C (m_X11_throwsAt l D cI cL cP cJ o aS aPast aSnap aText aOne aTwo aBoth aWord aOpen aTimes aFar aQueue known kept len thr cre hash x5) k_X11_throwsAt t_974 [0, 1, 2, 3] (show ([0, 1, 2, 3] : List Nat).Perm (List.range 4) by decide) rfl rfl rfl (q0 := 0) rfl rfl rfl (Nat.le_of_ble_eq_true rfl) ⟨Nat.le_of_ble_eq_true rfl, Nat.le_of_ble_eq_true rfl⟩ ⟨Nat.zero_le _, Nat.zero_le _⟩ dX11_ways_25 (fun r6 wr6 hw6 => ?_)
  obtain ⟨e_r6, rfl⟩ := hw6
  have hp := hp r6 e_r6
  obtain ⟨x7, e_x7⟩ : ∃ z : Int32, z = (F_X11_throwsAt x5).2 := ⟨_, rfl⟩
  have hp := hp x7 e_x7
  refine r_ws (I' := [[(o, .inr (9, [.ref aS, .ref aPast, .int known, .ref aSnap, .int kept, .ref aText, .int len, .int x7, .ref aOne, .ref aTwo, .ref aBoth, .ref aWord, .int cre, .ref aOpen, .ref aTimes, .ref aFar, .ref aQueue, .long hash]))], [(aOne, .inl (cI, 4, .inl fOne))], [(aFar, .inl (cI, 6561, .inl fFar))], [(aQueue, .inl (cI, 400, .inl fQueue))]]) (by rw [e_x7]; rfl) ?_
  refine r_if_eq (tgt := 33) C dX11_ways_28 (by decide) (fun c8 => ?_) (fun c8 => ?_)
  · have hp := hp.1 c8
    refine r_iload_n C dX11_ways_33 2 rfl ?_
    have hps := hp
    suffices K : ∀ x17 : Int32, x17 = ((if what = 0 then (let r16 : Int32 := F_X11_sums length; r16) else (let r11 : Int32 := (F_X11_spread fOne fFar fQueue length).1; r11))) → ∀ g18 : Nat → Int32, g18 = ((if what = 0 then (fOne) else (let g12 : Nat → Int32 := (F_X11_spread fOne fFar fQueue length).2.1; g12))) → ∀ g19 : Nat → Int32, g19 = ((if what = 0 then (fFar) else (let g13 : Nat → Int32 := (F_X11_spread fOne fFar fQueue length).2.2.1; g13))) → ∀ g20 : Nat → Int32, g20 = ((if what = 0 then (fQueue) else (let g14 : Nat → Int32 := (F_X11_spread fOne fFar fQueue length).2.2.2; g14))) → V p l e (rmm 2 49) s m args below meth c 3 D A 0 0 Q [[(o, .inr (9, [.ref aS, .ref aPast, .int known, .ref aSnap, .int kept, .ref aText, .int len, .int x7, .ref aOne, .ref aTwo, .ref aBoth, .ref aWord, .int cre, .ref aOpen, .ref aTimes, .ref aFar, .ref aQueue, .long hash]))], [(aOne, .inl (cI, 4, .inl g18))], [(aFar, .inl (cI, 6561, .inl g19))], [(aQueue, .inl (cI, 400, .inl g20))]] [(0, .ref o), (1, .int length), (2, .int what)] 49 [.int x17] by
      have hp := hps
      refine r_if_ne (tgt := 44) C dX11_ways_34 (by decide) (fun c9 => ?_) (fun c9 => ?_)
      · have hp := hp.2 c9
        refine r_aload_n C dX11_ways_44 0 rfl ?_
        refine r_iload_n C dX11_ways_45 1 rfl ?_
        have h10 := hp
        refine r_callV (ci := 9) (wc := [[(o, .inr (9, [.ref aS, .ref aPast, .int known, .ref aSnap, .int kept, .ref aText, .int len, .int x7, .ref aOne, .ref aTwo, .ref aBoth, .ref aWord, .int cre, .ref aOpen, .ref aTimes, .ref aFar, .ref aQueue, .long hash]))], [(aOne, .inl (cI, 4, .inl fOne))], [(aFar, .inl (cI, 6561, .inl fFar))], [(aQueue, .inl (cI, 400, .inl fQueue))]]) (wr := []) (st := []) C (m_X11_spread l D cI cL cP cJ o aS aPast aSnap aText aOne aTwo aBoth aWord aOpen aTimes aFar aQueue known kept len x7 cre hash fOne fFar fQueue length h10) k_X11_spread t_1226 [0, 1, 2, 3] (show ([0, 1, 2, 3] : List Nat).Perm (List.range 4) by decide) rfl rfl rfl (q0 := 0) rfl rfl rfl (Nat.le_of_ble_eq_true rfl) ⟨Nat.le_of_ble_eq_true rfl, Nat.le_of_ble_eq_true rfl⟩ ⟨Nat.zero_le _, Nat.zero_le _⟩ dX11_ways_46 (fun r11 wr11 hw11 => ?_)
        obtain ⟨e_r11, rfl⟩ := hw11
        obtain ⟨g12, e_g12⟩ : ∃ z : Nat → Int32, z = (F_X11_spread fOne fFar fQueue length).2.1 := ⟨_, rfl⟩
        obtain ⟨g13, e_g13⟩ : ∃ z : Nat → Int32, z = (F_X11_spread fOne fFar fQueue length).2.2.1 := ⟨_, rfl⟩
        obtain ⟨g14, e_g14⟩ : ∃ z : Nat → Int32, z = (F_X11_spread fOne fFar fQueue length).2.2.2 := ⟨_, rfl⟩
        refine r_ws (I' := [[(o, .inr (9, [.ref aS, .ref aPast, .int known, .ref aSnap, .int kept, .ref aText, .int len, .int x7, .ref aOne, .ref aTwo, .ref aBoth, .ref aWord, .int cre, .ref aOpen, .ref aTimes, .ref aFar, .ref aQueue, .long hash]))], [(aOne, .inl (cI, 4, .inl g12))], [(aFar, .inl (cI, 6561, .inl g13))], [(aQueue, .inl (cI, 400, .inl g14))]]) (by rw [e_g12, e_g13, e_g14]; rfl) ?_
        exact K _ (by have q := e_r11.symm; subst q; have q := e_g12.symm; subst q; have q := e_g13.symm; subst q; have q := e_g14.symm; subst q; simp only [if_neg c9]) _ (by have q := e_r11.symm; subst q; have q := e_g12.symm; subst q; have q := e_g13.symm; subst q; have q := e_g14.symm; subst q; simp only [if_neg c9]) _ (by have q := e_r11.symm; subst q; have q := e_g12.symm; subst q; have q := e_g13.symm; subst q; have q := e_g14.symm; subst q; simp only [if_neg c9]) _ (by have q := e_r11.symm; subst q; have q := e_g12.symm; subst q; have q := e_g13.symm; subst q; have q := e_g14.symm; subst q; simp only [if_neg c9])
      · have hp := hp.1 c9
        refine r_iload_n C dX11_ways_37 1 rfl ?_
        have h15 := hp
        refine r_callS (wc := []) (wr := [[(o, .inr (9, [.ref aS, .ref aPast, .int known, .ref aSnap, .int kept, .ref aText, .int len, .int x7, .ref aOne, .ref aTwo, .ref aBoth, .ref aWord, .int cre, .ref aOpen, .ref aTimes, .ref aFar, .ref aQueue, .long hash]))], [(aOne, .inl (cI, 4, .inl fOne))], [(aFar, .inl (cI, 6561, .inl fFar))], [(aQueue, .inl (cI, 400, .inl fQueue))]]) (st := []) C (m_X11_sums l D cI cL cP cJ length h15) k_X11_sums t_1223 [0, 1, 2, 3] (show ([0, 1, 2, 3] : List Nat).Perm (List.range 4) by decide) rfl rfl rfl (Nat.le_of_ble_eq_true rfl) ⟨Nat.le_of_ble_eq_true rfl, Nat.le_of_ble_eq_true rfl⟩ ⟨Nat.zero_le _, Nat.zero_le _⟩ dX11_ways_38 (fun r16 wr16 hw16 => ?_)
        obtain ⟨e_r16, rfl⟩ := hw16
        refine r_ws (I' := [[(o, .inr (9, [.ref aS, .ref aPast, .int known, .ref aSnap, .int kept, .ref aText, .int len, .int x7, .ref aOne, .ref aTwo, .ref aBoth, .ref aWord, .int cre, .ref aOpen, .ref aTimes, .ref aFar, .ref aQueue, .long hash]))], [(aOne, .inl (cI, 4, .inl fOne))], [(aFar, .inl (cI, 6561, .inl fFar))], [(aQueue, .inl (cI, 400, .inl fQueue))]]) rfl ?_
        refine r_goto (tgt := 49) C dX11_ways_41 (by decide) ?_
        exact K _ (by have q := e_r16.symm; subst q; simp only [if_pos c9]) _ (by have q := e_r16.symm; subst q; simp only [if_pos c9]) _ (by have q := e_r16.symm; subst q; simp only [if_pos c9]) _ (by have q := e_r16.symm; subst q; simp only [if_pos c9])
    intro x17 e_x17 g18 e_g18 g19 e_g19 g20 e_g20
    have eF : F_X11_ways fOne fFar fQueue length what = (x17, x7, g18, g19, g20) := by have q := e_r1.symm; subst q; have q := e_x5.symm; subst q; have q := e_r6.symm; subst q; have q := e_x7.symm; subst q; have q := e_x17.symm; subst q; have q := e_g18.symm; subst q; have q := e_g19.symm; subst q; have q := e_g20.symm; subst q; simp only [F_X11_ways, if_pos c8]
    exact r_iret (r := x17) C hA hr hlo dX11_ways_49 [[(o, .inr (9, [.ref aS, .ref aPast, .int known, .ref aSnap, .int kept, .ref aText, .int len, .int x7, .ref aOne, .ref aTwo, .ref aBoth, .ref aWord, .int cre, .ref aOpen, .ref aTimes, .ref aFar, .ref aQueue, .long hash]))], [(aOne, .inl (cI, 4, .inl g18))], [(aFar, .inl (cI, 6561, .inl g19))], [(aQueue, .inl (cI, 400, .inl g20))]] ⟨by simp only [eF], by simp only [eF]⟩ rfl hQ
  · refine r_iconst (v := 0) C dX11_ways_31 (by decide) ?_
    have eF : F_X11_ways fOne fFar fQueue length what = (0, x7, fOne, fFar, fQueue) := by have q := e_r1.symm; subst q; have q := e_x5.symm; subst q; have q := e_r6.symm; subst q; have q := e_x7.symm; subst q; simp only [F_X11_ways, if_neg c8]
    exact r_iret (r := 0) C hA hr hlo dX11_ways_32 [[(o, .inr (9, [.ref aS, .ref aPast, .int known, .ref aSnap, .int kept, .ref aText, .int len, .int x7, .ref aOne, .ref aTwo, .ref aBoth, .ref aWord, .int cre, .ref aOpen, .ref aTimes, .ref aFar, .ref aQueue, .long hash]))], [(aOne, .inl (cI, 4, .inl fOne))], [(aFar, .inl (cI, 6561, .inl fFar))], [(aQueue, .inl (cI, 400, .inl fQueue))]] ⟨by simp only [eF], by simp only [eF]⟩ rfl hQ
theorem k_X11_pressedNow : kV yX11_pressedNow cX11_pressedNow 3 (some .double) 0 := ⟨t_1244, t_53, t_67, t_1245, by decide +kernel, by decide +kernel, by decide +kernel⟩
set_option maxRecDepth 20000 in
def F_X11_pressedNow (fS : Nat → Int32) (fOne : Nat → Int32) : UInt64 × (Nat → Int32) := let r2 : Int32 := F_X11_its fS 0 4; let x3 : Int32 := (0 : Int32) + r2; let r5 : Int32 := F_X11_its fS 1 4; let x6 : Int32 := x3 + r5; let r8 : Int32 := F_X11_its fS 2 4; let x9 : Int32 := x6 + r8; let r11 : Int32 := F_X11_its fS 3 4; let x12 : Int32 := x9 + r11; let r14 : Int32 := F_X11_its fS 4 4; let x15 : Int32 := x12 + r14; let g22 : UInt64 := (if x15 = 0 then (FP.dconst1) else (let r18 : Int32 := (F_X11_lengths fS fOne).1; FP.ddiv (FP.dmul (FP.i2d r18) FP.dconst1) (FP.i2d x15))); let g23 : Nat → Int32 := (if x15 = 0 then (fOne) else (let g19 : Nat → Int32 := (F_X11_lengths fS fOne).2; g19)); (g22, g23)
set_option maxRecDepth 20000 in
def P_X11_pressedNow (fS : Nat → Int32) (fOne : Nat → Int32) : Prop := ((P_X11_its 0 4) ∧ (∀ r2 : Int32, r2 = F_X11_its fS 0 4 → (∀ x3 : Int32, x3 = (0 : Int32) + r2 → ((P_X11_its 1 4) ∧ (∀ r5 : Int32, r5 = F_X11_its fS 1 4 → (∀ x6 : Int32, x6 = x3 + r5 → ((P_X11_its 2 4) ∧ (∀ r8 : Int32, r8 = F_X11_its fS 2 4 → (∀ x9 : Int32, x9 = x6 + r8 → ((P_X11_its 3 4) ∧ (∀ r11 : Int32, r11 = F_X11_its fS 3 4 → (∀ x12 : Int32, x12 = x9 + r11 → ((P_X11_its 4 4) ∧ (∀ r14 : Int32, r14 = F_X11_its fS 4 4 → (∀ x15 : Int32, x15 = x12 + r14 → ((x15 = 0 → True) ∧ (¬ x15 = 0 → ((P_X11_lengths fS fOne) ∧ (∀ r18 : Int32, r18 = (F_X11_lengths fS fOne).1 → (∀ g19 : Nat → Int32, g19 = (F_X11_lengths fS fOne).2 → ((vf_n64 (FP.dmul (FP.i2d r18) FP.dconst1)) ∧ (vf_n64 (FP.ddiv (FP.dmul (FP.i2d r18) FP.dconst1) (FP.i2d x15))))))))))))))))))))))))
set_option maxRecDepth 20000 in
set_option maxHeartbeats 8000000 in
theorem m_X11_pressedNow (l : Launch) (D : va_G) (cI cL cP cJ : ClassId) (o : Nat) (aS : Nat) (aPast : Nat) (aSnap : Nat) (aText : Nat) (aOne : Nat) (aTwo : Nat) (aBoth : Nat) (aWord : Nat) (aOpen : Nat) (aTimes : Nat) (aFar : Nat) (aQueue : Nat) (known : Int32) (kept : Int32) (len : Int32) (thr : Int32) (cre : Int32) (hash : Int64) (fS : Nat → Int32) (fOne : Nat → Int32) (hp : P_X11_pressedNow fS fOne) : M vD l yX11_pressedNow cX11_pressedNow 3 (some .double) 4 87 D (tyF cI cL cP cJ) [.ref o] [[(o, .inr (9, [.ref aS, .ref aPast, .int known, .ref aSnap, .int kept, .ref aText, .int len, .int thr, .ref aOne, .ref aTwo, .ref aBoth, .ref aWord, .int cre, .ref aOpen, .ref aTimes, .ref aFar, .ref aQueue, .long hash]))], [(aS, .inl (cI, 335, .inl fS))], [(aOne, .inl (cI, 4, .inl fOne))]] (fun (r : UInt64) (w1 : List va_W) => r = (F_X11_pressedNow fS fOne).1 ∧ w1 = [[(o, .inr (9, [.ref aS, .ref aPast, .int known, .ref aSnap, .int kept, .ref aText, .int len, .int thr, .ref aOne, .ref aTwo, .ref aBoth, .ref aWord, .int cre, .ref aOpen, .ref aTimes, .ref aFar, .ref aQueue, .long hash]))], [(aS, .inl (cI, 335, .inl fS))], [(aOne, .inl (cI, 4, .inl ((F_X11_pressedNow fS fOne).2)))]]) := by
  unfold P_X11_pressedNow at hp
  refine m_start (by decide +kernel) (Nat.le_of_ble_eq_true rfl) (fun p e s m args below meth c A Q hA hQ C hr hlo => ?_)
  refine r_Le (L' := [(0, .ref o)]) rfl ?_
  refine r_iconst (v := 0) C dX11_pressedNow_0 (by decide) ?_
  refine r_istore_n (L' := [(1, .int 0), (0, .ref o)]) C dX11_pressedNow_1 (by decide) rfl ?_
  refine r_iconst (v := 0) C dX11_pressedNow_2 (by decide) ?_
  refine r_istore_n (L' := [(2, .int 0), (1, .int 0), (0, .ref o)]) C dX11_pressedNow_3 (by decide) rfl ?_
  refine r_iload_n C dX11_pressedNow_4 0 rfl ?_
  refine r_iconst (v := 5) C dX11_pressedNow_5 (by decide) ?_
  refine r_icmp_ge (tgt := 24) C dX11_pressedNow_6 (by decide) (fun c => absurd c (by decide)) (fun _ => ?_)
  refine r_iload_n C dX11_pressedNow_9 1 rfl ?_
  refine r_aload_n C dX11_pressedNow_10 2 rfl ?_
  refine r_iload_n C dX11_pressedNow_11 0 rfl ?_
  refine r_iconst (v := 4) C dX11_pressedNow_12 (by decide) ?_
  obtain ⟨h1, hp⟩ := hp
  refine r_callV (ci := 9) (wc := [[(o, .inr (9, [.ref aS, .ref aPast, .int known, .ref aSnap, .int kept, .ref aText, .int len, .int thr, .ref aOne, .ref aTwo, .ref aBoth, .ref aWord, .int cre, .ref aOpen, .ref aTimes, .ref aFar, .ref aQueue, .long hash]))], [(aS, .inl (cI, 335, .inl fS))]]) (wr := [[(aOne, .inl (cI, 4, .inl fOne))]]) (st := [.int 0]) C (m_X11_its l D cI cL cP cJ o aS aPast aSnap aText aOne aTwo aBoth aWord aOpen aTimes aFar aQueue known kept len thr cre hash fS 0 4 h1) k_X11_its t_966 [0, 1, 2] (show ([0, 1, 2] : List Nat).Perm (List.range 3) by decide) rfl rfl rfl (q0 := 0) rfl rfl rfl (Nat.le_of_ble_eq_true rfl) ⟨Nat.le_of_ble_eq_true rfl, Nat.le_of_ble_eq_true rfl⟩ ⟨Nat.zero_le _, Nat.zero_le _⟩ dX11_pressedNow_13 (fun r2 wr2 hw2 => ?_)
  obtain ⟨e_r2, rfl⟩ := hw2
  have hp := hp r2 e_r2
  refine r_ws (I' := [[(o, .inr (9, [.ref aS, .ref aPast, .int known, .ref aSnap, .int kept, .ref aText, .int len, .int thr, .ref aOne, .ref aTwo, .ref aBoth, .ref aWord, .int cre, .ref aOpen, .ref aTimes, .ref aFar, .ref aQueue, .long hash]))], [(aS, .inl (cI, 335, .inl fS))], [(aOne, .inl (cI, 4, .inl fOne))]]) rfl ?_
  refine r_iadd C dX11_pressedNow_16 rfl ?_
  refine r_top (fun x3 e_x3 => ?_)
  have hp := hp x3 e_x3
  refine r_istore_n (L' := [(1, .int x3), (2, .int 0), (0, .ref o)]) C dX11_pressedNow_17 (by decide) rfl ?_
  refine r_iinc (v := 1) (L' := [(2, .int 1), (1, .int x3), (0, .ref o)]) C dX11_pressedNow_18 1 rfl (by decide) (by decide) rfl ?_
  refine r_goto (tgt := 4) C dX11_pressedNow_21 (by decide) ?_
  refine r_iload_n C dX11_pressedNow_4 0 rfl ?_
  refine r_iconst (v := 5) C dX11_pressedNow_5 (by decide) ?_
  refine r_icmp_ge (tgt := 24) C dX11_pressedNow_6 (by decide) (fun c => absurd c (by decide)) (fun _ => ?_)
  refine r_iload_n C dX11_pressedNow_9 1 rfl ?_
  refine r_aload_n C dX11_pressedNow_10 2 rfl ?_
  refine r_iload_n C dX11_pressedNow_11 0 rfl ?_
  refine r_iconst (v := 4) C dX11_pressedNow_12 (by decide) ?_
  obtain ⟨h4, hp⟩ := hp
  refine r_callV (ci := 9) (wc := [[(o, .inr (9, [.ref aS, .ref aPast, .int known, .ref aSnap, .int kept, .ref aText, .int len, .int thr, .ref aOne, .ref aTwo, .ref aBoth, .ref aWord, .int cre, .ref aOpen, .ref aTimes, .ref aFar, .ref aQueue, .long hash]))], [(aS, .inl (cI, 335, .inl fS))]]) (wr := [[(aOne, .inl (cI, 4, .inl fOne))]]) (st := [.int x3]) C (m_X11_its l D cI cL cP cJ o aS aPast aSnap aText aOne aTwo aBoth aWord aOpen aTimes aFar aQueue known kept len thr cre hash fS 1 4 h4) k_X11_its t_966 [0, 1, 2] (show ([0, 1, 2] : List Nat).Perm (List.range 3) by decide) rfl rfl rfl (q0 := 0) rfl rfl rfl (Nat.le_of_ble_eq_true rfl) ⟨Nat.le_of_ble_eq_true rfl, Nat.le_of_ble_eq_true rfl⟩ ⟨Nat.zero_le _, Nat.zero_le _⟩ dX11_pressedNow_13 (fun r5 wr5 hw5 => ?_)
  obtain ⟨e_r5, rfl⟩ := hw5
  have hp := hp r5 e_r5
  refine r_ws (I' := [[(o, .inr (9, [.ref aS, .ref aPast, .int known, .ref aSnap, .int kept, .ref aText, .int len, .int thr, .ref aOne, .ref aTwo, .ref aBoth, .ref aWord, .int cre, .ref aOpen, .ref aTimes, .ref aFar, .ref aQueue, .long hash]))], [(aS, .inl (cI, 335, .inl fS))], [(aOne, .inl (cI, 4, .inl fOne))]]) rfl ?_
  refine r_iadd C dX11_pressedNow_16 rfl ?_
  refine r_top (fun x6 e_x6 => ?_)
  have hp := hp x6 e_x6
  refine r_istore_n (L' := [(1, .int x6), (2, .int 1), (0, .ref o)]) C dX11_pressedNow_17 (by decide) rfl ?_
  refine r_iinc (v := 2) (L' := [(2, .int 2), (1, .int x6), (0, .ref o)]) C dX11_pressedNow_18 1 rfl (by decide) (by decide) rfl ?_
  refine r_goto (tgt := 4) C dX11_pressedNow_21 (by decide) ?_
  refine r_iload_n C dX11_pressedNow_4 0 rfl ?_
  refine r_iconst (v := 5) C dX11_pressedNow_5 (by decide) ?_
  refine r_icmp_ge (tgt := 24) C dX11_pressedNow_6 (by decide) (fun c => absurd c (by decide)) (fun _ => ?_)
  refine r_iload_n C dX11_pressedNow_9 1 rfl ?_
  refine r_aload_n C dX11_pressedNow_10 2 rfl ?_
  refine r_iload_n C dX11_pressedNow_11 0 rfl ?_
  refine r_iconst (v := 4) C dX11_pressedNow_12 (by decide) ?_
  obtain ⟨h7, hp⟩ := hp
  refine r_callV (ci := 9) (wc := [[(o, .inr (9, [.ref aS, .ref aPast, .int known, .ref aSnap, .int kept, .ref aText, .int len, .int thr, .ref aOne, .ref aTwo, .ref aBoth, .ref aWord, .int cre, .ref aOpen, .ref aTimes, .ref aFar, .ref aQueue, .long hash]))], [(aS, .inl (cI, 335, .inl fS))]]) (wr := [[(aOne, .inl (cI, 4, .inl fOne))]]) (st := [.int x6]) C (m_X11_its l D cI cL cP cJ o aS aPast aSnap aText aOne aTwo aBoth aWord aOpen aTimes aFar aQueue known kept len thr cre hash fS 2 4 h7) k_X11_its t_966 [0, 1, 2] (show ([0, 1, 2] : List Nat).Perm (List.range 3) by decide) rfl rfl rfl (q0 := 0) rfl rfl rfl (Nat.le_of_ble_eq_true rfl) ⟨Nat.le_of_ble_eq_true rfl, Nat.le_of_ble_eq_true rfl⟩ ⟨Nat.zero_le _, Nat.zero_le _⟩ dX11_pressedNow_13 (fun r8 wr8 hw8 => ?_)
  obtain ⟨e_r8, rfl⟩ := hw8
  have hp := hp r8 e_r8
  refine r_ws (I' := [[(o, .inr (9, [.ref aS, .ref aPast, .int known, .ref aSnap, .int kept, .ref aText, .int len, .int thr, .ref aOne, .ref aTwo, .ref aBoth, .ref aWord, .int cre, .ref aOpen, .ref aTimes, .ref aFar, .ref aQueue, .long hash]))], [(aS, .inl (cI, 335, .inl fS))], [(aOne, .inl (cI, 4, .inl fOne))]]) rfl ?_
  refine r_iadd C dX11_pressedNow_16 rfl ?_
  refine r_top (fun x9 e_x9 => ?_)
  have hp := hp x9 e_x9
  refine r_istore_n (L' := [(1, .int x9), (2, .int 2), (0, .ref o)]) C dX11_pressedNow_17 (by decide) rfl ?_
  refine r_iinc (v := 3) (L' := [(2, .int 3), (1, .int x9), (0, .ref o)]) C dX11_pressedNow_18 1 rfl (by decide) (by decide) rfl ?_
  refine r_goto (tgt := 4) C dX11_pressedNow_21 (by decide) ?_
  refine r_iload_n C dX11_pressedNow_4 0 rfl ?_
  refine r_iconst (v := 5) C dX11_pressedNow_5 (by decide) ?_
  refine r_icmp_ge (tgt := 24) C dX11_pressedNow_6 (by decide) (fun c => absurd c (by decide)) (fun _ => ?_)
  refine r_iload_n C dX11_pressedNow_9 1 rfl ?_
  refine r_aload_n C dX11_pressedNow_10 2 rfl ?_
  refine r_iload_n C dX11_pressedNow_11 0 rfl ?_
  refine r_iconst (v := 4) C dX11_pressedNow_12 (by decide) ?_
  obtain ⟨h10, hp⟩ := hp
  refine r_callV (ci := 9) (wc := [[(o, .inr (9, [.ref aS, .ref aPast, .int known, .ref aSnap, .int kept, .ref aText, .int len, .int thr, .ref aOne, .ref aTwo, .ref aBoth, .ref aWord, .int cre, .ref aOpen, .ref aTimes, .ref aFar, .ref aQueue, .long hash]))], [(aS, .inl (cI, 335, .inl fS))]]) (wr := [[(aOne, .inl (cI, 4, .inl fOne))]]) (st := [.int x9]) C (m_X11_its l D cI cL cP cJ o aS aPast aSnap aText aOne aTwo aBoth aWord aOpen aTimes aFar aQueue known kept len thr cre hash fS 3 4 h10) k_X11_its t_966 [0, 1, 2] (show ([0, 1, 2] : List Nat).Perm (List.range 3) by decide) rfl rfl rfl (q0 := 0) rfl rfl rfl (Nat.le_of_ble_eq_true rfl) ⟨Nat.le_of_ble_eq_true rfl, Nat.le_of_ble_eq_true rfl⟩ ⟨Nat.zero_le _, Nat.zero_le _⟩ dX11_pressedNow_13 (fun r11 wr11 hw11 => ?_)
  obtain ⟨e_r11, rfl⟩ := hw11
  have hp := hp r11 e_r11
  refine r_ws (I' := [[(o, .inr (9, [.ref aS, .ref aPast, .int known, .ref aSnap, .int kept, .ref aText, .int len, .int thr, .ref aOne, .ref aTwo, .ref aBoth, .ref aWord, .int cre, .ref aOpen, .ref aTimes, .ref aFar, .ref aQueue, .long hash]))], [(aS, .inl (cI, 335, .inl fS))], [(aOne, .inl (cI, 4, .inl fOne))]]) rfl ?_
  refine r_iadd C dX11_pressedNow_16 rfl ?_
  refine r_top (fun x12 e_x12 => ?_)
  have hp := hp x12 e_x12
  refine r_istore_n (L' := [(1, .int x12), (2, .int 3), (0, .ref o)]) C dX11_pressedNow_17 (by decide) rfl ?_
  refine r_iinc (v := 4) (L' := [(2, .int 4), (1, .int x12), (0, .ref o)]) C dX11_pressedNow_18 1 rfl (by decide) (by decide) rfl ?_
  refine r_goto (tgt := 4) C dX11_pressedNow_21 (by decide) ?_
  refine r_iload_n C dX11_pressedNow_4 0 rfl ?_
  refine r_iconst (v := 5) C dX11_pressedNow_5 (by decide) ?_
  refine r_icmp_ge (tgt := 24) C dX11_pressedNow_6 (by decide) (fun c => absurd c (by decide)) (fun _ => ?_)
  refine r_iload_n C dX11_pressedNow_9 1 rfl ?_
  refine r_aload_n C dX11_pressedNow_10 2 rfl ?_
  refine r_iload_n C dX11_pressedNow_11 0 rfl ?_
  refine r_iconst (v := 4) C dX11_pressedNow_12 (by decide) ?_
  obtain ⟨h13, hp⟩ := hp
  refine r_callV (ci := 9) (wc := [[(o, .inr (9, [.ref aS, .ref aPast, .int known, .ref aSnap, .int kept, .ref aText, .int len, .int thr, .ref aOne, .ref aTwo, .ref aBoth, .ref aWord, .int cre, .ref aOpen, .ref aTimes, .ref aFar, .ref aQueue, .long hash]))], [(aS, .inl (cI, 335, .inl fS))]]) (wr := [[(aOne, .inl (cI, 4, .inl fOne))]]) (st := [.int x12]) C (m_X11_its l D cI cL cP cJ o aS aPast aSnap aText aOne aTwo aBoth aWord aOpen aTimes aFar aQueue known kept len thr cre hash fS 4 4 h13) k_X11_its t_966 [0, 1, 2] (show ([0, 1, 2] : List Nat).Perm (List.range 3) by decide) rfl rfl rfl (q0 := 0) rfl rfl rfl (Nat.le_of_ble_eq_true rfl) ⟨Nat.le_of_ble_eq_true rfl, Nat.le_of_ble_eq_true rfl⟩ ⟨Nat.zero_le _, Nat.zero_le _⟩ dX11_pressedNow_13 (fun r14 wr14 hw14 => ?_)
  obtain ⟨e_r14, rfl⟩ := hw14
  have hp := hp r14 e_r14
  refine r_ws (I' := [[(o, .inr (9, [.ref aS, .ref aPast, .int known, .ref aSnap, .int kept, .ref aText, .int len, .int thr, .ref aOne, .ref aTwo, .ref aBoth, .ref aWord, .int cre, .ref aOpen, .ref aTimes, .ref aFar, .ref aQueue, .long hash]))], [(aS, .inl (cI, 335, .inl fS))], [(aOne, .inl (cI, 4, .inl fOne))]]) rfl ?_
  refine r_iadd C dX11_pressedNow_16 rfl ?_
  refine r_top (fun x15 e_x15 => ?_)
  have hp := hp x15 e_x15
  refine r_istore_n (L' := [(1, .int x15), (2, .int 4), (0, .ref o)]) C dX11_pressedNow_17 (by decide) rfl ?_
  refine r_iinc (v := 5) (L' := [(2, .int 5), (1, .int x15), (0, .ref o)]) C dX11_pressedNow_18 1 rfl (by decide) (by decide) rfl ?_
  refine r_goto (tgt := 4) C dX11_pressedNow_21 (by decide) ?_
  refine r_iload_n C dX11_pressedNow_4 0 rfl ?_
  refine r_iconst (v := 5) C dX11_pressedNow_5 (by decide) ?_
  refine r_icmp_ge (tgt := 24) C dX11_pressedNow_6 (by decide) (fun _ => ?_) (fun c => absurd c (by decide))
  refine r_iload_n C dX11_pressedNow_24 1 rfl ?_
  have hps := hp
  suffices K : ∀ g22 : UInt64, g22 = ((if x15 = 0 then (FP.dconst1) else (let r18 : Int32 := (F_X11_lengths fS fOne).1; FP.ddiv (FP.dmul (FP.i2d r18) FP.dconst1) (FP.i2d x15)))) → ∀ g23 : Nat → Int32, g23 = ((if x15 = 0 then (fOne) else (let g19 : Nat → Int32 := (F_X11_lengths fS fOne).2; g19))) → V p l e (rmm 4 87) s m args below meth c 3 D A 0 0 Q [[(o, .inr (9, [.ref aS, .ref aPast, .int known, .ref aSnap, .int kept, .ref aText, .int len, .int thr, .ref aOne, .ref aTwo, .ref aBoth, .ref aWord, .int cre, .ref aOpen, .ref aTimes, .ref aFar, .ref aQueue, .long hash]))], [(aS, .inl (cI, 335, .inl fS))], [(aOne, .inl (cI, 4, .inl g23))]] [(2, .int 5), (1, .int x15), (0, .ref o)] 42 [.double g22] by
    have hp := hps
    refine r_if_ne (tgt := 32) C dX11_pressedNow_25 (by decide) (fun c16 => ?_) (fun c16 => ?_)
    · have hp := hp.2 c16
      refine r_aload_n C dX11_pressedNow_32 2 rfl ?_
      obtain ⟨h17, hp⟩ := hp
      refine r_callV (ci := 9) (wc := [[(o, .inr (9, [.ref aS, .ref aPast, .int known, .ref aSnap, .int kept, .ref aText, .int len, .int thr, .ref aOne, .ref aTwo, .ref aBoth, .ref aWord, .int cre, .ref aOpen, .ref aTimes, .ref aFar, .ref aQueue, .long hash]))], [(aS, .inl (cI, 335, .inl fS))], [(aOne, .inl (cI, 4, .inl fOne))]]) (wr := []) (st := []) C (m_X11_lengths l D cI cL cP cJ o aS aPast aSnap aText aOne aTwo aBoth aWord aOpen aTimes aFar aQueue known kept len thr cre hash fS fOne h17) k_X11_lengths t_1127 [0, 1, 2] (show ([0, 1, 2] : List Nat).Perm (List.range 3) by decide) rfl rfl rfl (q0 := 0) rfl rfl rfl (Nat.le_of_ble_eq_true rfl) ⟨Nat.le_of_ble_eq_true rfl, Nat.le_of_ble_eq_true rfl⟩ ⟨Nat.zero_le _, Nat.zero_le _⟩ dX11_pressedNow_33 (fun r18 wr18 hw18 => ?_)
      obtain ⟨e_r18, rfl⟩ := hw18
      have hp := hp r18 e_r18
      obtain ⟨g19, e_g19⟩ : ∃ z : Nat → Int32, z = (F_X11_lengths fS fOne).2 := ⟨_, rfl⟩
      have hp := hp g19 e_g19
      refine r_ws (I' := [[(o, .inr (9, [.ref aS, .ref aPast, .int known, .ref aSnap, .int kept, .ref aText, .int len, .int thr, .ref aOne, .ref aTwo, .ref aBoth, .ref aWord, .int cre, .ref aOpen, .ref aTimes, .ref aFar, .ref aQueue, .long hash]))], [(aS, .inl (cI, 335, .inl fS))], [(aOne, .inl (cI, 4, .inl g19))]]) (by rw [e_g19]; rfl) ?_
      refine r_i2d C dX11_pressedNow_36 ?_
      refine r_dconst1 C dX11_pressedNow_37 ?_
      obtain ⟨h20, hp⟩ := hp
      refine r_dmul C dX11_pressedNow_38 h20 ?_
      refine r_iload_n C dX11_pressedNow_39 1 rfl ?_
      refine r_i2d C dX11_pressedNow_40 ?_
      have h21 := hp
      refine r_ddiv C dX11_pressedNow_41 h21 ?_
      exact K _ (by have q := e_r18.symm; subst q; have q := e_g19.symm; subst q; simp only [if_neg c16]) _ (by have q := e_r18.symm; subst q; have q := e_g19.symm; subst q; simp only [if_neg c16])
    · refine r_dconst1 C dX11_pressedNow_28 ?_
      refine r_goto (tgt := 42) C dX11_pressedNow_29 (by decide) ?_
      exact K _ (by simp only [if_pos c16]) _ (by simp only [if_pos c16])
  intro g22 e_g22 g23 e_g23
  have eF : F_X11_pressedNow fS fOne = (g22, g23) := by have q := e_r2.symm; subst q; have q := e_x3.symm; subst q; have q := e_r5.symm; subst q; have q := e_x6.symm; subst q; have q := e_r8.symm; subst q; have q := e_x9.symm; subst q; have q := e_r11.symm; subst q; have q := e_x12.symm; subst q; have q := e_r14.symm; subst q; have q := e_x15.symm; subst q; have q := e_g22.symm; subst q; have q := e_g23.symm; subst q; rfl
  exact r_dret (r := g22) C hA hr hlo dX11_pressedNow_42 [[(o, .inr (9, [.ref aS, .ref aPast, .int known, .ref aSnap, .int kept, .ref aText, .int len, .int thr, .ref aOne, .ref aTwo, .ref aBoth, .ref aWord, .int cre, .ref aOpen, .ref aTimes, .ref aFar, .ref aQueue, .long hash]))], [(aS, .inl (cI, 335, .inl fS))], [(aOne, .inl (cI, 4, .inl g23))]] ⟨by simp only [eF], by simp only [eF]⟩ rfl hQ
theorem k_X11_pressed : kV yX11_pressed cX11_pressed 1 (some .double) 0 := ⟨t_1239, t_1240, t_67, t_1241, by decide +kernel, by decide +kernel, by decide +kernel⟩
set_option maxRecDepth 20000 in
def F_X11_pressed (fS : Nat → Int32) (fOne : Nat → Int32) : UInt64 × Int32 × (Nat → Int32) := let r2 : UInt64 := (F_X11_pressedNow fS fOne).1; let g3 : Nat → Int32 := (F_X11_pressedNow fS fOne).2; (r2, 0, g3)
set_option maxRecDepth 20000 in
def P_X11_pressed (fS : Nat → Int32) (fOne : Nat → Int32) : Prop := (P_X11_pressedNow fS fOne)
set_option maxRecDepth 20000 in
set_option maxHeartbeats 8000000 in
theorem m_X11_pressed (l : Launch) (D : va_G) (cI cL cP cJ : ClassId) (o : Nat) (aS : Nat) (aPast : Nat) (aSnap : Nat) (aText : Nat) (aOne : Nat) (aTwo : Nat) (aBoth : Nat) (aWord : Nat) (aOpen : Nat) (aTimes : Nat) (aFar : Nat) (aQueue : Nat) (known : Int32) (kept : Int32) (len : Int32) (thr : Int32) (cre : Int32) (hash : Int64) (fS : Nat → Int32) (fOne : Nat → Int32) (hp : P_X11_pressed fS fOne) : M vD l yX11_pressed cX11_pressed 1 (some .double) 5 109 D (tyF cI cL cP cJ) [.ref o] [[(o, .inr (9, [.ref aS, .ref aPast, .int known, .ref aSnap, .int kept, .ref aText, .int len, .int thr, .ref aOne, .ref aTwo, .ref aBoth, .ref aWord, .int cre, .ref aOpen, .ref aTimes, .ref aFar, .ref aQueue, .long hash]))], [(aS, .inl (cI, 335, .inl fS))], [(aOne, .inl (cI, 4, .inl fOne))]] (fun (r : UInt64) (w1 : List va_W) => r = (F_X11_pressed fS fOne).1 ∧ w1 = [[(o, .inr (9, [.ref aS, .ref aPast, .int known, .ref aSnap, .int kept, .ref aText, .int len, .int ((F_X11_pressed fS fOne).2.1), .ref aOne, .ref aTwo, .ref aBoth, .ref aWord, .int cre, .ref aOpen, .ref aTimes, .ref aFar, .ref aQueue, .long hash]))], [(aS, .inl (cI, 335, .inl fS))], [(aOne, .inl (cI, 4, .inl ((F_X11_pressed fS fOne).2.2)))]]) := by
  unfold P_X11_pressed at hp
  refine m_start (by decide +kernel) (Nat.le_of_ble_eq_true rfl) (fun p e s m args below meth c A Q hA hQ C hr hlo => ?_)
  refine r_Le (L' := [(0, .ref o)]) rfl ?_
  refine r_aload_n C dX11_pressed_0 0 rfl ?_
  refine r_iconst (v := 0) C dX11_pressed_1 (by decide) ?_
  refine r_put (Cn := RX11) (T := TX11) (N := 18) C inT11 0 rfl rfl 7 (by decide) t_900 tyX11 tyX11_ok nmX11 rfl rfl rfl (Nat.le_of_ble_eq_true rfl) (I' := [[(o, .inr (9, [.ref aS, .ref aPast, .int known, .ref aSnap, .int kept, .ref aText, .int len, .int 0, .ref aOne, .ref aTwo, .ref aBoth, .ref aWord, .int cre, .ref aOpen, .ref aTimes, .ref aFar, .ref aQueue, .long hash]))], [(aS, .inl (cI, 335, .inl fS))], [(aOne, .inl (cI, 4, .inl fOne))]]) rfl dX11_pressed_2 ?_
  refine r_aload_n C dX11_pressed_5 0 rfl ?_
  have h1 := hp
  refine r_callV (ci := 9) (wc := [[(o, .inr (9, [.ref aS, .ref aPast, .int known, .ref aSnap, .int kept, .ref aText, .int len, .int 0, .ref aOne, .ref aTwo, .ref aBoth, .ref aWord, .int cre, .ref aOpen, .ref aTimes, .ref aFar, .ref aQueue, .long hash]))], [(aS, .inl (cI, 335, .inl fS))], [(aOne, .inl (cI, 4, .inl fOne))]]) (wr := []) (st := []) C (m_X11_pressedNow l D cI cL cP cJ o aS aPast aSnap aText aOne aTwo aBoth aWord aOpen aTimes aFar aQueue known kept len 0 cre hash fS fOne h1) k_X11_pressedNow t_1242 [0, 1, 2] (show ([0, 1, 2] : List Nat).Perm (List.range 3) by decide) rfl rfl rfl (q0 := 0) rfl rfl rfl (Nat.le_of_ble_eq_true rfl) ⟨Nat.le_of_ble_eq_true rfl, Nat.le_of_ble_eq_true rfl⟩ ⟨Nat.zero_le _, Nat.zero_le _⟩ dX11_pressed_6 (fun r2 wr2 hw2 => ?_)
  obtain ⟨e_r2, rfl⟩ := hw2
  obtain ⟨g3, e_g3⟩ : ∃ z : Nat → Int32, z = (F_X11_pressedNow fS fOne).2 := ⟨_, rfl⟩
  refine r_ws (I' := [[(o, .inr (9, [.ref aS, .ref aPast, .int known, .ref aSnap, .int kept, .ref aText, .int len, .int 0, .ref aOne, .ref aTwo, .ref aBoth, .ref aWord, .int cre, .ref aOpen, .ref aTimes, .ref aFar, .ref aQueue, .long hash]))], [(aS, .inl (cI, 335, .inl fS))], [(aOne, .inl (cI, 4, .inl g3))]]) (by rw [e_g3]; rfl) ?_
  have eF : F_X11_pressed fS fOne = (r2, 0, g3) := by have q := e_r2.symm; subst q; have q := e_g3.symm; subst q; rfl
  exact r_dret (r := r2) C hA hr hlo dX11_pressed_9 [[(o, .inr (9, [.ref aS, .ref aPast, .int known, .ref aSnap, .int kept, .ref aText, .int len, .int 0, .ref aOne, .ref aTwo, .ref aBoth, .ref aWord, .int cre, .ref aOpen, .ref aTimes, .ref aFar, .ref aQueue, .long hash]))], [(aS, .inl (cI, 335, .inl fS))], [(aOne, .inl (cI, 4, .inl g3))]] ⟨by simp only [eF], by simp only [eF]⟩ rfl hQ
theorem k_X11_meanLength : kV yX11_meanLength cX11_meanLength 1 (some .float) 0 := ⟨t_1247, t_1248, t_67, t_1249, by decide +kernel, by decide +kernel, by decide +kernel⟩
set_option maxRecDepth 20000 in
def F_X11_meanLength (fS : Nat → Int32) (fOne : Nat → Int32) : UInt32 × Int32 × (Nat → Int32) := let r2 : Int32 := (F_X11_lengths fS fOne).1; let g3 : Nat → Int32 := (F_X11_lengths fS fOne).2; (FP.fdiv (FP.i2f r2) 1084227584, 0, g3)
set_option maxRecDepth 20000 in
def P_X11_meanLength (fS : Nat → Int32) (fOne : Nat → Int32) : Prop := ((P_X11_lengths fS fOne) ∧ (∀ r2 : Int32, r2 = (F_X11_lengths fS fOne).1 → (∀ g3 : Nat → Int32, g3 = (F_X11_lengths fS fOne).2 → (vf_n32 (FP.fdiv (FP.i2f r2) 1084227584)))))
set_option maxRecDepth 20000 in
set_option maxHeartbeats 8000000 in
theorem m_X11_meanLength (l : Launch) (D : va_G) (cI cL cP cJ : ClassId) (o : Nat) (aS : Nat) (aPast : Nat) (aSnap : Nat) (aText : Nat) (aOne : Nat) (aTwo : Nat) (aBoth : Nat) (aWord : Nat) (aOpen : Nat) (aTimes : Nat) (aFar : Nat) (aQueue : Nat) (known : Int32) (kept : Int32) (len : Int32) (thr : Int32) (cre : Int32) (hash : Int64) (fS : Nat → Int32) (fOne : Nat → Int32) (hp : P_X11_meanLength fS fOne) : M vF l yX11_meanLength cX11_meanLength 1 (some .float) 4 87 D (tyF cI cL cP cJ) [.ref o] [[(o, .inr (9, [.ref aS, .ref aPast, .int known, .ref aSnap, .int kept, .ref aText, .int len, .int thr, .ref aOne, .ref aTwo, .ref aBoth, .ref aWord, .int cre, .ref aOpen, .ref aTimes, .ref aFar, .ref aQueue, .long hash]))], [(aS, .inl (cI, 335, .inl fS))], [(aOne, .inl (cI, 4, .inl fOne))]] (fun (r : UInt32) (w1 : List va_W) => r = (F_X11_meanLength fS fOne).1 ∧ w1 = [[(o, .inr (9, [.ref aS, .ref aPast, .int known, .ref aSnap, .int kept, .ref aText, .int len, .int ((F_X11_meanLength fS fOne).2.1), .ref aOne, .ref aTwo, .ref aBoth, .ref aWord, .int cre, .ref aOpen, .ref aTimes, .ref aFar, .ref aQueue, .long hash]))], [(aS, .inl (cI, 335, .inl fS))], [(aOne, .inl (cI, 4, .inl ((F_X11_meanLength fS fOne).2.2)))]]) := by
  unfold P_X11_meanLength at hp
  refine m_start (by decide +kernel) (Nat.le_of_ble_eq_true rfl) (fun p e s m args below meth c A Q hA hQ C hr hlo => ?_)
  refine r_Le (L' := [(0, .ref o)]) rfl ?_
  refine r_aload_n C dX11_meanLength_0 0 rfl ?_
  refine r_iconst (v := 0) C dX11_meanLength_1 (by decide) ?_
  refine r_put (Cn := RX11) (T := TX11) (N := 18) C inT11 0 rfl rfl 7 (by decide) t_900 tyX11 tyX11_ok nmX11 rfl rfl rfl (Nat.le_of_ble_eq_true rfl) (I' := [[(o, .inr (9, [.ref aS, .ref aPast, .int known, .ref aSnap, .int kept, .ref aText, .int len, .int 0, .ref aOne, .ref aTwo, .ref aBoth, .ref aWord, .int cre, .ref aOpen, .ref aTimes, .ref aFar, .ref aQueue, .long hash]))], [(aS, .inl (cI, 335, .inl fS))], [(aOne, .inl (cI, 4, .inl fOne))]]) rfl dX11_meanLength_2 ?_
  refine r_aload_n C dX11_meanLength_5 0 rfl ?_
  obtain ⟨h1, hp⟩ := hp
  refine r_callV (ci := 9) (wc := [[(o, .inr (9, [.ref aS, .ref aPast, .int known, .ref aSnap, .int kept, .ref aText, .int len, .int 0, .ref aOne, .ref aTwo, .ref aBoth, .ref aWord, .int cre, .ref aOpen, .ref aTimes, .ref aFar, .ref aQueue, .long hash]))], [(aS, .inl (cI, 335, .inl fS))], [(aOne, .inl (cI, 4, .inl fOne))]]) (wr := []) (st := []) C (m_X11_lengths l D cI cL cP cJ o aS aPast aSnap aText aOne aTwo aBoth aWord aOpen aTimes aFar aQueue known kept len 0 cre hash fS fOne h1) k_X11_lengths t_1127 [0, 1, 2] (show ([0, 1, 2] : List Nat).Perm (List.range 3) by decide) rfl rfl rfl (q0 := 0) rfl rfl rfl (Nat.le_of_ble_eq_true rfl) ⟨Nat.le_of_ble_eq_true rfl, Nat.le_of_ble_eq_true rfl⟩ ⟨Nat.zero_le _, Nat.zero_le _⟩ dX11_meanLength_6 (fun r2 wr2 hw2 => ?_)
  obtain ⟨e_r2, rfl⟩ := hw2
  have hp := hp r2 e_r2
  obtain ⟨g3, e_g3⟩ : ∃ z : Nat → Int32, z = (F_X11_lengths fS fOne).2 := ⟨_, rfl⟩
  have hp := hp g3 e_g3
  refine r_ws (I' := [[(o, .inr (9, [.ref aS, .ref aPast, .int known, .ref aSnap, .int kept, .ref aText, .int len, .int 0, .ref aOne, .ref aTwo, .ref aBoth, .ref aWord, .int cre, .ref aOpen, .ref aTimes, .ref aFar, .ref aQueue, .long hash]))], [(aS, .inl (cI, 335, .inl fS))], [(aOne, .inl (cI, 4, .inl g3))]]) (by rw [e_g3]; rfl) ?_
  refine r_i2f C dX11_meanLength_9 ?_
  refine r_ldcf (v := 1084227584) C t_1250 dX11_meanLength_10 ?_
  have h4 := hp
  refine r_fdiv C dX11_meanLength_12 h4 ?_
  have eF : F_X11_meanLength fS fOne = (FP.fdiv (FP.i2f r2) 1084227584, 0, g3) := by have q := e_r2.symm; subst q; have q := e_g3.symm; subst q; rfl
  exact r_fret (r := FP.fdiv (FP.i2f r2) 1084227584) C hA hr hlo dX11_meanLength_13 [[(o, .inr (9, [.ref aS, .ref aPast, .int known, .ref aSnap, .int kept, .ref aText, .int len, .int 0, .ref aOne, .ref aTwo, .ref aBoth, .ref aWord, .int cre, .ref aOpen, .ref aTimes, .ref aFar, .ref aQueue, .long hash]))], [(aS, .inl (cI, 335, .inl fS))], [(aOne, .inl (cI, 4, .inl g3))]] ⟨by simp only [eF], by simp only [eF]⟩ rfl hQ
theorem k_X11_adds : kV yX11_adds cX11_adds 3 none 1 := ⟨t_1258, t_54, t_67, t_1259, by decide +kernel, by decide +kernel, by decide +kernel⟩
set_option maxRecDepth 20000 in
def F_X11_adds (hash : Int64) (u : Int64) : Int64 := (31 * hash) + u
set_option maxRecDepth 20000 in
set_option maxHeartbeats 8000000 in
theorem m_X11_adds (l : Launch) (D : va_G) (cI cL cP cJ : ClassId) (o : Nat) (aS : Nat) (aPast : Nat) (aSnap : Nat) (aText : Nat) (aOne : Nat) (aTwo : Nat) (aBoth : Nat) (aWord : Nat) (aOpen : Nat) (aTimes : Nat) (aFar : Nat) (aQueue : Nat) (known : Int32) (kept : Int32) (len : Int32) (thr : Int32) (cre : Int32) (hash : Int64) (u : Int64) : M vV l yX11_adds cX11_adds 3 none 0 0 D (tyF cI cL cP cJ) [.ref o, .long u] [[(o, .inr (9, [.ref aS, .ref aPast, .int known, .ref aSnap, .int kept, .ref aText, .int len, .int thr, .ref aOne, .ref aTwo, .ref aBoth, .ref aWord, .int cre, .ref aOpen, .ref aTimes, .ref aFar, .ref aQueue, .long hash]))]] (fun (r : Unit) (w1 : List va_W) => w1 = [[(o, .inr (9, [.ref aS, .ref aPast, .int known, .ref aSnap, .int kept, .ref aText, .int len, .int thr, .ref aOne, .ref aTwo, .ref aBoth, .ref aWord, .int cre, .ref aOpen, .ref aTimes, .ref aFar, .ref aQueue, .long (F_X11_adds hash u)]))]]) := by
  refine m_start (by decide +kernel) (Nat.le_of_ble_eq_true rfl) (fun p e s m args below meth c A Q hA hQ C hr hlo => ?_)
  refine r_Le (L' := [(0, .ref o), (1, .long u)]) rfl ?_
  refine r_aload_n C dX11_adds_0 0 rfl ?_
  refine r_ldc2 (v := 31) C t_1260 dX11_adds_1 ?_
  refine r_aload_n C dX11_adds_4 0 rfl ?_
  refine r_get (Cn := RX11) (T := TX11) (N := 18) C inT11 0 rfl rfl 17 (by decide) t_910 rfl dX11_adds_5 ?_
  refine r_lmul C dX11_adds_8 rfl ?_
  refine r_lload_n C dX11_adds_9 1 rfl ?_
  refine r_ladd C dX11_adds_10 rfl ?_
  refine r_put (Cn := RX11) (T := TX11) (N := 18) C inT11 0 rfl rfl 17 (by decide) t_910 tyX11 tyX11_ok nmX11 rfl rfl rfl (Nat.le_of_ble_eq_true rfl) (I' := [[(o, .inr (9, [.ref aS, .ref aPast, .int known, .ref aSnap, .int kept, .ref aText, .int len, .int thr, .ref aOne, .ref aTwo, .ref aBoth, .ref aWord, .int cre, .ref aOpen, .ref aTimes, .ref aFar, .ref aQueue, .long ((31 * hash) + u)]))]]) rfl dX11_adds_11 ?_
  have eF : F_X11_adds hash u = (31 * hash) + u := by rfl
  exact r_vret (r := ()) C hA hr hlo dX11_adds_14 [[(o, .inr (9, [.ref aS, .ref aPast, .int known, .ref aSnap, .int kept, .ref aText, .int len, .int thr, .ref aOne, .ref aTwo, .ref aBoth, .ref aWord, .int cre, .ref aOpen, .ref aTimes, .ref aFar, .ref aQueue, .long ((31 * hash) + u)]))]] (by simp only [eF]) rfl hQ
theorem k_X11_addsWord : kV yX11_addsWord cX11_addsWord 3 none 1 := ⟨t_1267, t_56, t_67, t_1268, by decide +kernel, by decide +kernel, by decide +kernel⟩
def F_X11_addsWord_L11 (x6 : Int32) (g8 : Nat → Int32) : Nat → Int32 → Int64 → Int32 × Int64
  | 0, y9, k10 => (y9, k10)
  | nn + 1, y9, k10 => (if x6 ≤ y9 then ((y9, k10)) else (let x14 : Int64 := F_X11_adds k10 ((g8 y9.toNatClampNeg : Int32).toInt64); let x15 : Int32 := y9 + 1; F_X11_addsWord_L11 x6 g8 nn x15 x14))
def P_X11_addsWord_L11 (x6 : Int32) (g8 : Nat → Int32) : Nat → Int32 → Int64 → Prop
  | 0, _, _ => False
  | nn + 1, y9, k10 => ((x6 ≤ y9 → True) ∧ (¬ x6 ≤ y9 → ((vp_in y9 20) ∧ (∀ x14 : Int64, x14 = F_X11_adds k10 ((g8 y9.toNatClampNeg : Int32).toInt64) → (∀ x15 : Int32, x15 = y9 + 1 → (P_X11_addsWord_L11 x6 g8 nn x15 x14))))))
set_option maxRecDepth 20000 in
def F_X11_addsWord (hash : Int64) (fS : Nat → Int32) (fOne : Nat → Int32) (fWord : Nat → Int32) (letter : Int32) : Int32 × Int64 × (Nat → Int32) × (Nat → Int32) := let g3 : Nat → Int32 := F_X11_takes fS fOne letter; let x6 : Int32 := (F_X11_words g3 fWord).1; let g7 : Nat → Int32 := (F_X11_words g3 fWord).2.1; let g8 : Nat → Int32 := (F_X11_words g3 fWord).2.2; let f17 : Int64 := (F_X11_addsWord_L11 x6 g8 22 0 hash).2; (x6, f17, g7, g8)
set_option maxRecDepth 20000 in
def P_X11_addsWord (hash : Int64) (fS : Nat → Int32) (fOne : Nat → Int32) (fWord : Nat → Int32) (letter : Int32) : Prop := ((P_X11_takes fS fOne letter) ∧ (∀ g3 : Nat → Int32, g3 = F_X11_takes fS fOne letter → ((P_X11_words g3 fWord) ∧ (∀ x6 : Int32, x6 = (F_X11_words g3 fWord).1 → (∀ g7 : Nat → Int32, g7 = (F_X11_words g3 fWord).2.1 → (∀ g8 : Nat → Int32, g8 = (F_X11_words g3 fWord).2.2 → (P_X11_addsWord_L11 x6 g8 22 0 hash)))))))
set_option maxRecDepth 20000 in
set_option maxHeartbeats 8000000 in
theorem m_X11_addsWord (l : Launch) (D : va_G) (cI cL cP cJ : ClassId) (o : Nat) (aS : Nat) (aPast : Nat) (aSnap : Nat) (aText : Nat) (aOne : Nat) (aTwo : Nat) (aBoth : Nat) (aWord : Nat) (aOpen : Nat) (aTimes : Nat) (aFar : Nat) (aQueue : Nat) (known : Int32) (kept : Int32) (len : Int32) (thr : Int32) (cre : Int32) (hash : Int64) (fS : Nat → Int32) (fOne : Nat → Int32) (fWord : Nat → Int32) (letter : Int32) (hp : P_X11_addsWord hash fS fOne fWord letter) : M vV l yX11_addsWord cX11_addsWord 3 none 3 67 D (tyF cI cL cP cJ) [.ref o, .int letter] [[(o, .inr (9, [.ref aS, .ref aPast, .int known, .ref aSnap, .int kept, .ref aText, .int len, .int thr, .ref aOne, .ref aTwo, .ref aBoth, .ref aWord, .int cre, .ref aOpen, .ref aTimes, .ref aFar, .ref aQueue, .long hash]))], [(aS, .inl (cI, 335, .inl fS))], [(aOne, .inl (cI, 4, .inl fOne))], [(aWord, .inl (cI, 20, .inl fWord))]] (fun (r : Unit) (w1 : List va_W) => w1 = [[(o, .inr (9, [.ref aS, .ref aPast, .int known, .ref aSnap, .int kept, .ref aText, .int len, .int thr, .ref aOne, .ref aTwo, .ref aBoth, .ref aWord, .int ((F_X11_addsWord hash fS fOne fWord letter).1), .ref aOpen, .ref aTimes, .ref aFar, .ref aQueue, .long ((F_X11_addsWord hash fS fOne fWord letter).2.1)]))], [(aS, .inl (cI, 335, .inl fS))], [(aOne, .inl (cI, 4, .inl ((F_X11_addsWord hash fS fOne fWord letter).2.2.1)))], [(aWord, .inl (cI, 20, .inl ((F_X11_addsWord hash fS fOne fWord letter).2.2.2)))]]) := by
  unfold P_X11_addsWord at hp
  refine m_start (by decide +kernel) (Nat.le_of_ble_eq_true rfl) (fun p e s m args below meth c A Q hA hQ C hr hlo => ?_)
  refine r_Le (L' := [(0, .ref o), (1, .int letter)]) rfl ?_
  refine r_aload_n C dX11_addsWord_0 0 rfl ?_
  refine r_iload_n C dX11_addsWord_1 1 rfl ?_
  obtain ⟨h1, hp⟩ := hp
  refine r_callV (ci := 9) (wc := [[(o, .inr (9, [.ref aS, .ref aPast, .int known, .ref aSnap, .int kept, .ref aText, .int len, .int thr, .ref aOne, .ref aTwo, .ref aBoth, .ref aWord, .int cre, .ref aOpen, .ref aTimes, .ref aFar, .ref aQueue, .long hash]))], [(aS, .inl (cI, 335, .inl fS))], [(aOne, .inl (cI, 4, .inl fOne))]]) (wr := [[(aWord, .inl (cI, 20, .inl fWord))]]) (st := []) C (m_X11_takes l D cI cL cP cJ o aS aPast aSnap aText aOne aTwo aBoth aWord aOpen aTimes aFar aQueue known kept len thr cre hash fS fOne letter h1) k_X11_takes t_990 [0, 1, 2, 3] (show ([0, 1, 2, 3] : List Nat).Perm (List.range 4) by decide) rfl rfl rfl (q0 := 0) rfl rfl rfl (Nat.le_of_ble_eq_true rfl) ⟨Nat.le_of_ble_eq_true rfl, Nat.le_of_ble_eq_true rfl⟩ ⟨Nat.zero_le _, Nat.zero_le _⟩ dX11_addsWord_2 (fun r2 wr2 hw2 => ?_)
  obtain rfl := hw2
  obtain ⟨g3, e_g3⟩ : ∃ z : Nat → Int32, z = F_X11_takes fS fOne letter := ⟨_, rfl⟩
  have hp := hp g3 e_g3
  refine r_ws (I' := [[(o, .inr (9, [.ref aS, .ref aPast, .int known, .ref aSnap, .int kept, .ref aText, .int len, .int thr, .ref aOne, .ref aTwo, .ref aBoth, .ref aWord, .int cre, .ref aOpen, .ref aTimes, .ref aFar, .ref aQueue, .long hash]))], [(aS, .inl (cI, 335, .inl fS))], [(aOne, .inl (cI, 4, .inl g3))], [(aWord, .inl (cI, 20, .inl fWord))]]) (by rw [e_g3]; rfl) ?_
  refine r_aload_n C dX11_addsWord_5 0 rfl ?_
  obtain ⟨h4, hp⟩ := hp
  refine r_callV (ci := 9) (wc := [[(o, .inr (9, [.ref aS, .ref aPast, .int known, .ref aSnap, .int kept, .ref aText, .int len, .int thr, .ref aOne, .ref aTwo, .ref aBoth, .ref aWord, .int cre, .ref aOpen, .ref aTimes, .ref aFar, .ref aQueue, .long hash]))], [(aOne, .inl (cI, 4, .inl g3))], [(aWord, .inl (cI, 20, .inl fWord))]]) (wr := [[(aS, .inl (cI, 335, .inl fS))]]) (st := []) C (m_X11_words l D cI cL cP cJ o aS aPast aSnap aText aOne aTwo aBoth aWord aOpen aTimes aFar aQueue known kept len thr cre hash g3 fWord h4) k_X11_words t_1022 [0, 2, 3, 1] (show ([0, 2, 3, 1] : List Nat).Perm (List.range 4) by decide) rfl rfl rfl (q0 := 0) rfl rfl rfl (Nat.le_of_ble_eq_true rfl) ⟨Nat.le_of_ble_eq_true rfl, Nat.le_of_ble_eq_true rfl⟩ ⟨Nat.zero_le _, Nat.zero_le _⟩ dX11_addsWord_6 (fun r5 wr5 hw5 => ?_)
  obtain rfl := hw5
  obtain ⟨x6, e_x6⟩ : ∃ z : Int32, z = (F_X11_words g3 fWord).1 := ⟨_, rfl⟩
  have hp := hp x6 e_x6
  obtain ⟨g7, e_g7⟩ : ∃ z : Nat → Int32, z = (F_X11_words g3 fWord).2.1 := ⟨_, rfl⟩
  have hp := hp g7 e_g7
  obtain ⟨g8, e_g8⟩ : ∃ z : Nat → Int32, z = (F_X11_words g3 fWord).2.2 := ⟨_, rfl⟩
  have hp := hp g8 e_g8
  refine r_ws (I' := [[(o, .inr (9, [.ref aS, .ref aPast, .int known, .ref aSnap, .int kept, .ref aText, .int len, .int thr, .ref aOne, .ref aTwo, .ref aBoth, .ref aWord, .int x6, .ref aOpen, .ref aTimes, .ref aFar, .ref aQueue, .long hash]))], [(aOne, .inl (cI, 4, .inl g7))], [(aWord, .inl (cI, 20, .inl g8))], [(aS, .inl (cI, 335, .inl fS))]]) (by rw [e_x6, e_g7, e_g8]; rfl) ?_
  refine r_iconst (v := 0) C dX11_addsWord_9 (by decide) ?_
  refine r_istore_n (L' := [(2, .int 0), (0, .ref o), (1, .int letter)]) C dX11_addsWord_10 (by decide) rfl ?_
  have hpl := hp
  have hL : ∀ (nn : Nat) (y9 : Int32) (k10 : Int64), P_X11_addsWord_L11 x6 g8 nn y9 k10 → (∀ z16 : Int32, z16 = (F_X11_addsWord_L11 x6 g8 nn y9 k10).1 → ∀ f17 : Int64, f17 = (F_X11_addsWord_L11 x6 g8 nn y9 k10).2 → V p l e (rmm 3 67) s m args below meth c 3 D A 0 0 Q [[(o, .inr (9, [.ref aS, .ref aPast, .int known, .ref aSnap, .int kept, .ref aText, .int len, .int thr, .ref aOne, .ref aTwo, .ref aBoth, .ref aWord, .int x6, .ref aOpen, .ref aTimes, .ref aFar, .ref aQueue, .long f17]))], [(aOne, .inl (cI, 4, .inl g7))], [(aWord, .inl (cI, 20, .inl g8))], [(aS, .inl (cI, 335, .inl fS))]] [(2, .int z16), (0, .ref o), (1, .int letter)] 36 []) → V p l e (rmm 3 67) s m args below meth c 3 D A 0 0 Q [[(o, .inr (9, [.ref aS, .ref aPast, .int known, .ref aSnap, .int kept, .ref aText, .int len, .int thr, .ref aOne, .ref aTwo, .ref aBoth, .ref aWord, .int x6, .ref aOpen, .ref aTimes, .ref aFar, .ref aQueue, .long k10]))], [(aOne, .inl (cI, 4, .inl g7))], [(aWord, .inl (cI, 20, .inl g8))], [(aS, .inl (cI, 335, .inl fS))]] [(2, .int y9), (0, .ref o), (1, .int letter)] 11 [] := by
    clear hpl
    intro nn
    induction nn with
    | zero => intro y9 k10 hp kk; rw [P_X11_addsWord_L11] at hp; exact hp.elim
    | succ nn ih =>
      intro y9 k10 hp kk
      rw [P_X11_addsWord_L11] at hp
      refine r_iload_n C dX11_addsWord_11 0 rfl ?_
      refine r_aload_n C dX11_addsWord_12 1 rfl ?_
      refine r_get (Cn := RX11) (T := TX11) (N := 18) C inT11 0 rfl rfl 12 (by decide) t_905 rfl dX11_addsWord_13 ?_
      refine r_icmp_ge (tgt := 36) C dX11_addsWord_16 (by decide) (fun c11 => ?_) (fun c11 => ?_)
      · have eF : F_X11_addsWord_L11 x6 g8 (nn + 1) y9 k10 = (y9, k10) := by simp only [F_X11_addsWord_L11, if_pos c11]
        exact kk _ (by rw [eF]) _ (by rw [eF])
      · have hp := hp.2 c11
        refine r_aload_n C dX11_addsWord_19 1 rfl ?_
        refine r_aload_n C dX11_addsWord_20 1 rfl ?_
        refine r_get (Cn := RX11) (T := TX11) (N := 18) C inT11 0 rfl rfl 11 (by decide) t_904 rfl dX11_addsWord_21 ?_
        refine r_iload_n C dX11_addsWord_24 0 rfl ?_
        obtain ⟨h12, hp⟩ := hp
        refine r_iald (z := g8 y9.toNatClampNeg) C 2 0 rfl rfl h12 dX11_addsWord_25 rfl ?_
        refine r_i2l C dX11_addsWord_26 rfl ?_
        refine r_callV (ci := 9) (wc := [[(o, .inr (9, [.ref aS, .ref aPast, .int known, .ref aSnap, .int kept, .ref aText, .int len, .int thr, .ref aOne, .ref aTwo, .ref aBoth, .ref aWord, .int x6, .ref aOpen, .ref aTimes, .ref aFar, .ref aQueue, .long k10]))]]) (wr := [[(aOne, .inl (cI, 4, .inl g7))], [(aWord, .inl (cI, 20, .inl g8))], [(aS, .inl (cI, 335, .inl fS))]]) (st := []) C (m_X11_adds l D cI cL cP cJ o aS aPast aSnap aText aOne aTwo aBoth aWord aOpen aTimes aFar aQueue known kept len thr x6 k10 ((g8 y9.toNatClampNeg : Int32).toInt64)) k_X11_adds t_1256 [0, 1, 2, 3] (show ([0, 1, 2, 3] : List Nat).Perm (List.range 4) by decide) rfl rfl rfl (q0 := 0) rfl rfl rfl (Nat.le_of_ble_eq_true rfl) ⟨Nat.le_of_ble_eq_true rfl, Nat.le_of_ble_eq_true rfl⟩ ⟨Nat.zero_le _, Nat.zero_le _⟩ dX11_addsWord_27 (fun r13 wr13 hw13 => ?_)
        obtain rfl := hw13
        obtain ⟨x14, e_x14⟩ : ∃ z : Int64, z = F_X11_adds k10 ((g8 y9.toNatClampNeg : Int32).toInt64) := ⟨_, rfl⟩
        have hp := hp x14 e_x14
        refine r_ws (I' := [[(o, .inr (9, [.ref aS, .ref aPast, .int known, .ref aSnap, .int kept, .ref aText, .int len, .int thr, .ref aOne, .ref aTwo, .ref aBoth, .ref aWord, .int x6, .ref aOpen, .ref aTimes, .ref aFar, .ref aQueue, .long x14]))], [(aOne, .inl (cI, 4, .inl g7))], [(aWord, .inl (cI, 20, .inl g8))], [(aS, .inl (cI, 335, .inl fS))]]) (by rw [e_x14]; rfl) ?_
        obtain ⟨x15, e_x15⟩ : ∃ z : Int32, z = y9 + 1 := ⟨_, rfl⟩
        have hp := hp x15 e_x15
        refine r_iinc (v := x15) (L' := [(2, .int x15), (0, .ref o), (1, .int letter)]) C dX11_addsWord_30 0 rfl (by rw [e_x15]; exact ii (by decide)) (by decide) rfl ?_
        refine r_goto (tgt := 11) C dX11_addsWord_33 (by decide) ?_
        have eF : F_X11_addsWord_L11 x6 g8 (nn + 1) y9 k10 = F_X11_addsWord_L11 x6 g8 nn x15 x14 := by have q := e_x14.symm; subst q; have q := e_x15.symm; subst q; simp only [F_X11_addsWord_L11, if_neg c11]
        exact ih x15 x14 hp (fun z16 e_z16 f17 e_f17 => kk z16 (by rw [eF]; exact e_z16) f17 (by rw [eF]; exact e_f17))
  refine hL 22 0 hash hpl (fun z16 e_z16 f17 e_f17 => ?_)
  clear hL hpl
  refine r_pl (I' := [[(o, .inr (9, [.ref aS, .ref aPast, .int known, .ref aSnap, .int kept, .ref aText, .int len, .int thr, .ref aOne, .ref aTwo, .ref aBoth, .ref aWord, .int x6, .ref aOpen, .ref aTimes, .ref aFar, .ref aQueue, .long f17]))], [(aS, .inl (cI, 335, .inl fS))], [(aOne, .inl (cI, 4, .inl g7))], [(aWord, .inl (cI, 20, .inl g8))]]) [0, 3, 1, 2] (show ([0, 3, 1, 2] : List Nat).Perm (List.range 4) by decide) rfl ?_
  have eF : F_X11_addsWord hash fS fOne fWord letter = (x6, f17, g7, g8) := by have q := e_g3.symm; subst q; have q := e_x6.symm; subst q; have q := e_g7.symm; subst q; have q := e_g8.symm; subst q; have q := e_z16.symm; subst q; have q := e_f17.symm; subst q; rfl
  exact r_vret (r := ()) C hA hr hlo dX11_addsWord_36 [[(o, .inr (9, [.ref aS, .ref aPast, .int known, .ref aSnap, .int kept, .ref aText, .int len, .int thr, .ref aOne, .ref aTwo, .ref aBoth, .ref aWord, .int x6, .ref aOpen, .ref aTimes, .ref aFar, .ref aQueue, .long f17]))], [(aS, .inl (cI, 335, .inl fS))], [(aOne, .inl (cI, 4, .inl g7))], [(aWord, .inl (cI, 20, .inl g8))]] (by simp only [eF]) rfl hQ
theorem k_X11_addsLetter : kV yX11_addsLetter cX11_addsLetter 3 none 1 := ⟨t_1263, t_55, t_67, t_1264, by decide +kernel, by decide +kernel, by decide +kernel⟩
def F_X11_addsLetter_L51 (fS : Nat → Int32) (letter : Int32) : Nat → Int32 → Int64 → Int32 × Int64
  | 0, y94, k95 => (y94, k95)
  | nn + 1, y94, k95 => let r97 : Int32 := F_X11_its fS letter 4; (if r97 ≤ y94 then ((y94, k95)) else (let r100 : Int32 := F_X11_its fS letter ((7 : Int32) + y94); let x102 : Int64 := F_X11_adds k95 ((r100 : Int32).toInt64); let x103 : Int32 := y94 + 1; F_X11_addsLetter_L51 fS letter nn x103 x102))
def P_X11_addsLetter_L51 (fS : Nat → Int32) (letter : Int32) : Nat → Int32 → Int64 → Prop
  | 0, _, _ => False
  | nn + 1, y94, k95 => ((P_X11_its letter 4) ∧ (∀ r97 : Int32, r97 = F_X11_its fS letter 4 → ((r97 ≤ y94 → True) ∧ (¬ r97 ≤ y94 → ((P_X11_its letter ((7 : Int32) + y94)) ∧ (∀ r100 : Int32, r100 = F_X11_its fS letter ((7 : Int32) + y94) → (∀ x102 : Int64, x102 = F_X11_adds k95 ((r100 : Int32).toInt64) → (∀ x103 : Int32, x103 = y94 + 1 → (P_X11_addsLetter_L51 fS letter nn x103 x102)))))))))
set_option maxRecDepth 20000 in
def F_X11_addsLetter (hash : Int64) (fS : Nat → Int32) (fOne : Nat → Int32) (fTwo : Nat → Int32) (fBoth : Nat → Int32) (fWord : Nat → Int32) (letter : Int32) : Int32 × Int64 × (Nat → Int32) × (Nat → Int32) × (Nat → Int32) × (Nat → Int32) := let r2 : Int32 := F_X11_its fS letter 0; let x4 : Int64 := F_X11_adds hash ((r2 : Int32).toInt64); let r6 : Int32 := F_X11_its fS letter 1; let x8 : Int64 := F_X11_adds x4 ((r6 : Int32).toInt64); let r10 : Int32 := F_X11_its fS letter 2; let x12 : Int64 := F_X11_adds x8 ((r10 : Int32).toInt64); let r14 : Int32 := F_X11_its fS letter 3; let x16 : Int64 := F_X11_adds x12 ((r14 : Int32).toInt64); let r18 : Int32 := (F_X11_number fS fOne fTwo fBoth letter 0).1; let g19 : Nat → Int32 := (F_X11_number fS fOne fTwo fBoth letter 0).2.1; let g20 : Nat → Int32 := (F_X11_number fS fOne fTwo fBoth letter 0).2.2.1; let g21 : Nat → Int32 := (F_X11_number fS fOne fTwo fBoth letter 0).2.2.2; let x23 : Int64 := F_X11_adds x16 ((r18 : Int32).toInt64); let r25 : Int32 := (F_X11_number fS g19 g20 g21 letter 1).1; let g26 : Nat → Int32 := (F_X11_number fS g19 g20 g21 letter 1).2.1; let g27 : Nat → Int32 := (F_X11_number fS g19 g20 g21 letter 1).2.2.1; let g28 : Nat → Int32 := (F_X11_number fS g19 g20 g21 letter 1).2.2.2; let x30 : Int64 := F_X11_adds x23 ((r25 : Int32).toInt64); let r32 : Int32 := (F_X11_number fS g26 g27 g28 letter 2).1; let g33 : Nat → Int32 := (F_X11_number fS g26 g27 g28 letter 2).2.1; let g34 : Nat → Int32 := (F_X11_number fS g26 g27 g28 letter 2).2.2.1; let g35 : Nat → Int32 := (F_X11_number fS g26 g27 g28 letter 2).2.2.2; let x37 : Int64 := F_X11_adds x30 ((r32 : Int32).toInt64); let r39 : Int32 := (F_X11_number fS g33 g34 g35 letter 3).1; let g40 : Nat → Int32 := (F_X11_number fS g33 g34 g35 letter 3).2.1; let g41 : Nat → Int32 := (F_X11_number fS g33 g34 g35 letter 3).2.2.1; let g42 : Nat → Int32 := (F_X11_number fS g33 g34 g35 letter 3).2.2.2; let x44 : Int64 := F_X11_adds x37 ((r39 : Int32).toInt64); let r46 : Int32 := (F_X11_number fS g40 g41 g42 letter 4).1; let g47 : Nat → Int32 := (F_X11_number fS g40 g41 g42 letter 4).2.1; let g48 : Nat → Int32 := (F_X11_number fS g40 g41 g42 letter 4).2.2.1; let g49 : Nat → Int32 := (F_X11_number fS g40 g41 g42 letter 4).2.2.2; let x51 : Int64 := F_X11_adds x44 ((r46 : Int32).toInt64); let r53 : Int32 := (F_X11_number fS g47 g48 g49 letter 5).1; let g54 : Nat → Int32 := (F_X11_number fS g47 g48 g49 letter 5).2.1; let g55 : Nat → Int32 := (F_X11_number fS g47 g48 g49 letter 5).2.2.1; let g56 : Nat → Int32 := (F_X11_number fS g47 g48 g49 letter 5).2.2.2; let x58 : Int64 := F_X11_adds x51 ((r53 : Int32).toInt64); let r60 : Int32 := (F_X11_number fS g54 g55 g56 letter 6).1; let g61 : Nat → Int32 := (F_X11_number fS g54 g55 g56 letter 6).2.1; let g62 : Nat → Int32 := (F_X11_number fS g54 g55 g56 letter 6).2.2.1; let g63 : Nat → Int32 := (F_X11_number fS g54 g55 g56 letter 6).2.2.2; let x65 : Int64 := F_X11_adds x58 ((r60 : Int32).toInt64); let r67 : Int32 := (F_X11_number fS g61 g62 g63 letter 7).1; let g68 : Nat → Int32 := (F_X11_number fS g61 g62 g63 letter 7).2.1; let g69 : Nat → Int32 := (F_X11_number fS g61 g62 g63 letter 7).2.2.1; let g70 : Nat → Int32 := (F_X11_number fS g61 g62 g63 letter 7).2.2.2; let x72 : Int64 := F_X11_adds x65 ((r67 : Int32).toInt64); let r74 : Int32 := (F_X11_number fS g68 g69 g70 letter 8).1; let g75 : Nat → Int32 := (F_X11_number fS g68 g69 g70 letter 8).2.1; let g76 : Nat → Int32 := (F_X11_number fS g68 g69 g70 letter 8).2.2.1; let g77 : Nat → Int32 := (F_X11_number fS g68 g69 g70 letter 8).2.2.2; let x79 : Int64 := F_X11_adds x72 ((r74 : Int32).toInt64); let r81 : Int32 := (F_X11_number fS g75 g76 g77 letter 9).1; let g82 : Nat → Int32 := (F_X11_number fS g75 g76 g77 letter 9).2.1; let g83 : Nat → Int32 := (F_X11_number fS g75 g76 g77 letter 9).2.2.1; let g84 : Nat → Int32 := (F_X11_number fS g75 g76 g77 letter 9).2.2.2; let x86 : Int64 := F_X11_adds x79 ((r81 : Int32).toInt64); let r88 : Int32 := (F_X11_number fS g82 g83 g84 letter 10).1; let g89 : Nat → Int32 := (F_X11_number fS g82 g83 g84 letter 10).2.1; let g90 : Nat → Int32 := (F_X11_number fS g82 g83 g84 letter 10).2.2.1; let g91 : Nat → Int32 := (F_X11_number fS g82 g83 g84 letter 10).2.2.2; let x93 : Int64 := F_X11_adds x86 ((r88 : Int32).toInt64); let f105 : Int64 := (F_X11_addsLetter_L51 fS letter 62 0 x93).2; let x108 : Int32 := (F_X11_addsWord f105 fS g89 fWord letter).1; let x109 : Int64 := (F_X11_addsWord f105 fS g89 fWord letter).2.1; let g110 : Nat → Int32 := (F_X11_addsWord f105 fS g89 fWord letter).2.2.1; let g111 : Nat → Int32 := (F_X11_addsWord f105 fS g89 fWord letter).2.2.2; let r113 : Int32 := F_X11_reason fS letter 0; let x115 : Int64 := F_X11_adds x109 ((r113 : Int32).toInt64); let r117 : Int32 := F_X11_reason fS letter 1; let x119 : Int64 := F_X11_adds x115 ((r117 : Int32).toInt64); let r121 : Int32 := F_X11_reason fS letter 2; let x123 : Int64 := F_X11_adds x119 ((r121 : Int32).toInt64); let r125 : Int32 := F_X11_reason fS letter 3; let x127 : Int64 := F_X11_adds x123 ((r125 : Int32).toInt64); let r129 : Int32 := (F_X11_foldedLength fS g110 letter 0).1; let g130 : Nat → Int32 := (F_X11_foldedLength fS g110 letter 0).2; let x132 : Int64 := F_X11_adds x127 ((r129 : Int32).toInt64); let r134 : Int32 := (F_X11_foldedLength fS g130 letter 1).1; let g135 : Nat → Int32 := (F_X11_foldedLength fS g130 letter 1).2; let x137 : Int64 := F_X11_adds x132 ((r134 : Int32).toInt64); let r139 : Int32 := (F_X11_foldedLength fS g135 letter 2).1; let g140 : Nat → Int32 := (F_X11_foldedLength fS g135 letter 2).2; let x142 : Int64 := F_X11_adds x137 ((r139 : Int32).toInt64); let r144 : Int32 := (F_X11_foldedLength fS g140 letter 3).1; let g145 : Nat → Int32 := (F_X11_foldedLength fS g140 letter 3).2; let x147 : Int64 := F_X11_adds x142 ((r144 : Int32).toInt64); let r149 : Int32 := (F_X11_distanceOf fS g145 g90 g91 letter 0).1; let g150 : Nat → Int32 := (F_X11_distanceOf fS g145 g90 g91 letter 0).2.1; let g151 : Nat → Int32 := (F_X11_distanceOf fS g145 g90 g91 letter 0).2.2.1; let g152 : Nat → Int32 := (F_X11_distanceOf fS g145 g90 g91 letter 0).2.2.2; let x154 : Int64 := F_X11_adds x147 ((r149 : Int32).toInt64); let r156 : Int32 := (F_X11_distanceOf fS g150 g151 g152 letter 1).1; let g157 : Nat → Int32 := (F_X11_distanceOf fS g150 g151 g152 letter 1).2.1; let g158 : Nat → Int32 := (F_X11_distanceOf fS g150 g151 g152 letter 1).2.2.1; let g159 : Nat → Int32 := (F_X11_distanceOf fS g150 g151 g152 letter 1).2.2.2; let x161 : Int64 := F_X11_adds x154 ((r156 : Int32).toInt64); let r163 : Int32 := (F_X11_distanceOf fS g157 g158 g159 letter 2).1; let g164 : Nat → Int32 := (F_X11_distanceOf fS g157 g158 g159 letter 2).2.1; let g165 : Nat → Int32 := (F_X11_distanceOf fS g157 g158 g159 letter 2).2.2.1; let g166 : Nat → Int32 := (F_X11_distanceOf fS g157 g158 g159 letter 2).2.2.2; let x168 : Int64 := F_X11_adds x161 ((r163 : Int32).toInt64); let r170 : Int32 := (F_X11_distanceOf fS g164 g165 g166 letter 3).1; let g171 : Nat → Int32 := (F_X11_distanceOf fS g164 g165 g166 letter 3).2.1; let g172 : Nat → Int32 := (F_X11_distanceOf fS g164 g165 g166 letter 3).2.2.1; let g173 : Nat → Int32 := (F_X11_distanceOf fS g164 g165 g166 letter 3).2.2.2; let x175 : Int64 := F_X11_adds x168 ((r170 : Int32).toInt64); let r177 : Int32 := (F_X11_distanceOf fS g171 g172 g173 letter 4).1; let g178 : Nat → Int32 := (F_X11_distanceOf fS g171 g172 g173 letter 4).2.1; let g179 : Nat → Int32 := (F_X11_distanceOf fS g171 g172 g173 letter 4).2.2.1; let g180 : Nat → Int32 := (F_X11_distanceOf fS g171 g172 g173 letter 4).2.2.2; let x182 : Int64 := F_X11_adds x175 ((r177 : Int32).toInt64); let r184 : Int32 := (F_X11_nearestTo fS g178 g179 g180 letter).1; let g185 : Nat → Int32 := (F_X11_nearestTo fS g178 g179 g180 letter).2.1; let g186 : Nat → Int32 := (F_X11_nearestTo fS g178 g179 g180 letter).2.2.1; let g187 : Nat → Int32 := (F_X11_nearestTo fS g178 g179 g180 letter).2.2.2; let x189 : Int64 := F_X11_adds x182 ((r184 : Int32).toInt64); (x108, x189, g185, g186, g187, g111)
set_option maxRecDepth 20000 in
def P_X11_addsLetter (hash : Int64) (fS : Nat → Int32) (fOne : Nat → Int32) (fTwo : Nat → Int32) (fBoth : Nat → Int32) (fWord : Nat → Int32) (letter : Int32) : Prop := ((P_X11_its letter 0) ∧ (∀ r2 : Int32, r2 = F_X11_its fS letter 0 → (∀ x4 : Int64, x4 = F_X11_adds hash ((r2 : Int32).toInt64) → ((P_X11_its letter 1) ∧ (∀ r6 : Int32, r6 = F_X11_its fS letter 1 → (∀ x8 : Int64, x8 = F_X11_adds x4 ((r6 : Int32).toInt64) → ((P_X11_its letter 2) ∧ (∀ r10 : Int32, r10 = F_X11_its fS letter 2 → (∀ x12 : Int64, x12 = F_X11_adds x8 ((r10 : Int32).toInt64) → ((P_X11_its letter 3) ∧ (∀ r14 : Int32, r14 = F_X11_its fS letter 3 → (∀ x16 : Int64, x16 = F_X11_adds x12 ((r14 : Int32).toInt64) → ((P_X11_number fS fOne fTwo fBoth letter 0) ∧ (∀ r18 : Int32, r18 = (F_X11_number fS fOne fTwo fBoth letter 0).1 → (∀ g19 : Nat → Int32, g19 = (F_X11_number fS fOne fTwo fBoth letter 0).2.1 → (∀ g20 : Nat → Int32, g20 = (F_X11_number fS fOne fTwo fBoth letter 0).2.2.1 → (∀ g21 : Nat → Int32, g21 = (F_X11_number fS fOne fTwo fBoth letter 0).2.2.2 → (∀ x23 : Int64, x23 = F_X11_adds x16 ((r18 : Int32).toInt64) → ((P_X11_number fS g19 g20 g21 letter 1) ∧ (∀ r25 : Int32, r25 = (F_X11_number fS g19 g20 g21 letter 1).1 → (∀ g26 : Nat → Int32, g26 = (F_X11_number fS g19 g20 g21 letter 1).2.1 → (∀ g27 : Nat → Int32, g27 = (F_X11_number fS g19 g20 g21 letter 1).2.2.1 → (∀ g28 : Nat → Int32, g28 = (F_X11_number fS g19 g20 g21 letter 1).2.2.2 → (∀ x30 : Int64, x30 = F_X11_adds x23 ((r25 : Int32).toInt64) → ((P_X11_number fS g26 g27 g28 letter 2) ∧ (∀ r32 : Int32, r32 = (F_X11_number fS g26 g27 g28 letter 2).1 → (∀ g33 : Nat → Int32, g33 = (F_X11_number fS g26 g27 g28 letter 2).2.1 → (∀ g34 : Nat → Int32, g34 = (F_X11_number fS g26 g27 g28 letter 2).2.2.1 → (∀ g35 : Nat → Int32, g35 = (F_X11_number fS g26 g27 g28 letter 2).2.2.2 → (∀ x37 : Int64, x37 = F_X11_adds x30 ((r32 : Int32).toInt64) → ((P_X11_number fS g33 g34 g35 letter 3) ∧ (∀ r39 : Int32, r39 = (F_X11_number fS g33 g34 g35 letter 3).1 → (∀ g40 : Nat → Int32, g40 = (F_X11_number fS g33 g34 g35 letter 3).2.1 → (∀ g41 : Nat → Int32, g41 = (F_X11_number fS g33 g34 g35 letter 3).2.2.1 → (∀ g42 : Nat → Int32, g42 = (F_X11_number fS g33 g34 g35 letter 3).2.2.2 → (∀ x44 : Int64, x44 = F_X11_adds x37 ((r39 : Int32).toInt64) → ((P_X11_number fS g40 g41 g42 letter 4) ∧ (∀ r46 : Int32, r46 = (F_X11_number fS g40 g41 g42 letter 4).1 → (∀ g47 : Nat → Int32, g47 = (F_X11_number fS g40 g41 g42 letter 4).2.1 → (∀ g48 : Nat → Int32, g48 = (F_X11_number fS g40 g41 g42 letter 4).2.2.1 → (∀ g49 : Nat → Int32, g49 = (F_X11_number fS g40 g41 g42 letter 4).2.2.2 → (∀ x51 : Int64, x51 = F_X11_adds x44 ((r46 : Int32).toInt64) → ((P_X11_number fS g47 g48 g49 letter 5) ∧ (∀ r53 : Int32, r53 = (F_X11_number fS g47 g48 g49 letter 5).1 → (∀ g54 : Nat → Int32, g54 = (F_X11_number fS g47 g48 g49 letter 5).2.1 → (∀ g55 : Nat → Int32, g55 = (F_X11_number fS g47 g48 g49 letter 5).2.2.1 → (∀ g56 : Nat → Int32, g56 = (F_X11_number fS g47 g48 g49 letter 5).2.2.2 → (∀ x58 : Int64, x58 = F_X11_adds x51 ((r53 : Int32).toInt64) → ((P_X11_number fS g54 g55 g56 letter 6) ∧ (∀ r60 : Int32, r60 = (F_X11_number fS g54 g55 g56 letter 6).1 → (∀ g61 : Nat → Int32, g61 = (F_X11_number fS g54 g55 g56 letter 6).2.1 → (∀ g62 : Nat → Int32, g62 = (F_X11_number fS g54 g55 g56 letter 6).2.2.1 → (∀ g63 : Nat → Int32, g63 = (F_X11_number fS g54 g55 g56 letter 6).2.2.2 → (∀ x65 : Int64, x65 = F_X11_adds x58 ((r60 : Int32).toInt64) → ((P_X11_number fS g61 g62 g63 letter 7) ∧ (∀ r67 : Int32, r67 = (F_X11_number fS g61 g62 g63 letter 7).1 → (∀ g68 : Nat → Int32, g68 = (F_X11_number fS g61 g62 g63 letter 7).2.1 → (∀ g69 : Nat → Int32, g69 = (F_X11_number fS g61 g62 g63 letter 7).2.2.1 → (∀ g70 : Nat → Int32, g70 = (F_X11_number fS g61 g62 g63 letter 7).2.2.2 → (∀ x72 : Int64, x72 = F_X11_adds x65 ((r67 : Int32).toInt64) → ((P_X11_number fS g68 g69 g70 letter 8) ∧ (∀ r74 : Int32, r74 = (F_X11_number fS g68 g69 g70 letter 8).1 → (∀ g75 : Nat → Int32, g75 = (F_X11_number fS g68 g69 g70 letter 8).2.1 → (∀ g76 : Nat → Int32, g76 = (F_X11_number fS g68 g69 g70 letter 8).2.2.1 → (∀ g77 : Nat → Int32, g77 = (F_X11_number fS g68 g69 g70 letter 8).2.2.2 → (∀ x79 : Int64, x79 = F_X11_adds x72 ((r74 : Int32).toInt64) → ((P_X11_number fS g75 g76 g77 letter 9) ∧ (∀ r81 : Int32, r81 = (F_X11_number fS g75 g76 g77 letter 9).1 → (∀ g82 : Nat → Int32, g82 = (F_X11_number fS g75 g76 g77 letter 9).2.1 → (∀ g83 : Nat → Int32, g83 = (F_X11_number fS g75 g76 g77 letter 9).2.2.1 → (∀ g84 : Nat → Int32, g84 = (F_X11_number fS g75 g76 g77 letter 9).2.2.2 → (∀ x86 : Int64, x86 = F_X11_adds x79 ((r81 : Int32).toInt64) → ((P_X11_number fS g82 g83 g84 letter 10) ∧ (∀ r88 : Int32, r88 = (F_X11_number fS g82 g83 g84 letter 10).1 → (∀ g89 : Nat → Int32, g89 = (F_X11_number fS g82 g83 g84 letter 10).2.1 → (∀ g90 : Nat → Int32, g90 = (F_X11_number fS g82 g83 g84 letter 10).2.2.1 → (∀ g91 : Nat → Int32, g91 = (F_X11_number fS g82 g83 g84 letter 10).2.2.2 → (∀ x93 : Int64, x93 = F_X11_adds x86 ((r88 : Int32).toInt64) → ((P_X11_addsLetter_L51 fS letter 62 0 x93) ∧ (∀ z104 : Int32, z104 = (F_X11_addsLetter_L51 fS letter 62 0 x93).1 → (∀ f105 : Int64, f105 = (F_X11_addsLetter_L51 fS letter 62 0 x93).2 → ((P_X11_addsWord f105 fS g89 fWord letter) ∧ (∀ x108 : Int32, x108 = (F_X11_addsWord f105 fS g89 fWord letter).1 → (∀ x109 : Int64, x109 = (F_X11_addsWord f105 fS g89 fWord letter).2.1 → (∀ g110 : Nat → Int32, g110 = (F_X11_addsWord f105 fS g89 fWord letter).2.2.1 → (∀ g111 : Nat → Int32, g111 = (F_X11_addsWord f105 fS g89 fWord letter).2.2.2 → ((P_X11_reason fS letter) ∧ (∀ r113 : Int32, r113 = F_X11_reason fS letter 0 → (∀ x115 : Int64, x115 = F_X11_adds x109 ((r113 : Int32).toInt64) → ((P_X11_reason fS letter) ∧ (∀ r117 : Int32, r117 = F_X11_reason fS letter 1 → (∀ x119 : Int64, x119 = F_X11_adds x115 ((r117 : Int32).toInt64) → ((P_X11_reason fS letter) ∧ (∀ r121 : Int32, r121 = F_X11_reason fS letter 2 → (∀ x123 : Int64, x123 = F_X11_adds x119 ((r121 : Int32).toInt64) → ((P_X11_reason fS letter) ∧ (∀ r125 : Int32, r125 = F_X11_reason fS letter 3 → (∀ x127 : Int64, x127 = F_X11_adds x123 ((r125 : Int32).toInt64) → ((P_X11_foldedLength fS g110 letter 0) ∧ (∀ r129 : Int32, r129 = (F_X11_foldedLength fS g110 letter 0).1 → (∀ g130 : Nat → Int32, g130 = (F_X11_foldedLength fS g110 letter 0).2 → (∀ x132 : Int64, x132 = F_X11_adds x127 ((r129 : Int32).toInt64) → ((P_X11_foldedLength fS g130 letter 1) ∧ (∀ r134 : Int32, r134 = (F_X11_foldedLength fS g130 letter 1).1 → (∀ g135 : Nat → Int32, g135 = (F_X11_foldedLength fS g130 letter 1).2 → (∀ x137 : Int64, x137 = F_X11_adds x132 ((r134 : Int32).toInt64) → ((P_X11_foldedLength fS g135 letter 2) ∧ (∀ r139 : Int32, r139 = (F_X11_foldedLength fS g135 letter 2).1 → (∀ g140 : Nat → Int32, g140 = (F_X11_foldedLength fS g135 letter 2).2 → (∀ x142 : Int64, x142 = F_X11_adds x137 ((r139 : Int32).toInt64) → ((P_X11_foldedLength fS g140 letter 3) ∧ (∀ r144 : Int32, r144 = (F_X11_foldedLength fS g140 letter 3).1 → (∀ g145 : Nat → Int32, g145 = (F_X11_foldedLength fS g140 letter 3).2 → (∀ x147 : Int64, x147 = F_X11_adds x142 ((r144 : Int32).toInt64) → ((P_X11_distanceOf fS g145 g90 g91 letter 0) ∧ (∀ r149 : Int32, r149 = (F_X11_distanceOf fS g145 g90 g91 letter 0).1 → (∀ g150 : Nat → Int32, g150 = (F_X11_distanceOf fS g145 g90 g91 letter 0).2.1 → (∀ g151 : Nat → Int32, g151 = (F_X11_distanceOf fS g145 g90 g91 letter 0).2.2.1 → (∀ g152 : Nat → Int32, g152 = (F_X11_distanceOf fS g145 g90 g91 letter 0).2.2.2 → (∀ x154 : Int64, x154 = F_X11_adds x147 ((r149 : Int32).toInt64) → ((P_X11_distanceOf fS g150 g151 g152 letter 1) ∧ (∀ r156 : Int32, r156 = (F_X11_distanceOf fS g150 g151 g152 letter 1).1 → (∀ g157 : Nat → Int32, g157 = (F_X11_distanceOf fS g150 g151 g152 letter 1).2.1 → (∀ g158 : Nat → Int32, g158 = (F_X11_distanceOf fS g150 g151 g152 letter 1).2.2.1 → (∀ g159 : Nat → Int32, g159 = (F_X11_distanceOf fS g150 g151 g152 letter 1).2.2.2 → (∀ x161 : Int64, x161 = F_X11_adds x154 ((r156 : Int32).toInt64) → ((P_X11_distanceOf fS g157 g158 g159 letter 2) ∧ (∀ r163 : Int32, r163 = (F_X11_distanceOf fS g157 g158 g159 letter 2).1 → (∀ g164 : Nat → Int32, g164 = (F_X11_distanceOf fS g157 g158 g159 letter 2).2.1 → (∀ g165 : Nat → Int32, g165 = (F_X11_distanceOf fS g157 g158 g159 letter 2).2.2.1 → (∀ g166 : Nat → Int32, g166 = (F_X11_distanceOf fS g157 g158 g159 letter 2).2.2.2 → (∀ x168 : Int64, x168 = F_X11_adds x161 ((r163 : Int32).toInt64) → ((P_X11_distanceOf fS g164 g165 g166 letter 3) ∧ (∀ r170 : Int32, r170 = (F_X11_distanceOf fS g164 g165 g166 letter 3).1 → (∀ g171 : Nat → Int32, g171 = (F_X11_distanceOf fS g164 g165 g166 letter 3).2.1 → (∀ g172 : Nat → Int32, g172 = (F_X11_distanceOf fS g164 g165 g166 letter 3).2.2.1 → (∀ g173 : Nat → Int32, g173 = (F_X11_distanceOf fS g164 g165 g166 letter 3).2.2.2 → (∀ x175 : Int64, x175 = F_X11_adds x168 ((r170 : Int32).toInt64) → ((P_X11_distanceOf fS g171 g172 g173 letter 4) ∧ (∀ r177 : Int32, r177 = (F_X11_distanceOf fS g171 g172 g173 letter 4).1 → (∀ g178 : Nat → Int32, g178 = (F_X11_distanceOf fS g171 g172 g173 letter 4).2.1 → (∀ g179 : Nat → Int32, g179 = (F_X11_distanceOf fS g171 g172 g173 letter 4).2.2.1 → (∀ g180 : Nat → Int32, g180 = (F_X11_distanceOf fS g171 g172 g173 letter 4).2.2.2 → (∀ x182 : Int64, x182 = F_X11_adds x175 ((r177 : Int32).toInt64) → (P_X11_nearestTo fS g178 g179 g180 letter)))))))))))))))))))))))))))))))))))))))))))))))))))))))))))))))))))))))))))))))))))))))))))))))))))))))))))))))))))))))))))))))))))))))))))))))))
set_option maxRecDepth 20000 in
set_option maxHeartbeats 8000000 in
theorem m_X11_addsLetter (l : Launch) (D : va_G) (cI cL cP cJ : ClassId) (o : Nat) (aS : Nat) (aPast : Nat) (aSnap : Nat) (aText : Nat) (aOne : Nat) (aTwo : Nat) (aBoth : Nat) (aWord : Nat) (aOpen : Nat) (aTimes : Nat) (aFar : Nat) (aQueue : Nat) (known : Int32) (kept : Int32) (len : Int32) (thr : Int32) (cre : Int32) (hash : Int64) (fS : Nat → Int32) (fOne : Nat → Int32) (fTwo : Nat → Int32) (fBoth : Nat → Int32) (fWord : Nat → Int32) (letter : Int32) (hp : P_X11_addsLetter hash fS fOne fTwo fBoth fWord letter) : M vV l yX11_addsLetter cX11_addsLetter 3 none 5 115 D (tyF cI cL cP cJ) [.ref o, .int letter] [[(o, .inr (9, [.ref aS, .ref aPast, .int known, .ref aSnap, .int kept, .ref aText, .int len, .int thr, .ref aOne, .ref aTwo, .ref aBoth, .ref aWord, .int cre, .ref aOpen, .ref aTimes, .ref aFar, .ref aQueue, .long hash]))], [(aS, .inl (cI, 335, .inl fS))], [(aOne, .inl (cI, 4, .inl fOne))], [(aTwo, .inl (cI, 4, .inl fTwo))], [(aBoth, .inl (cI, 4, .inl fBoth))], [(aWord, .inl (cI, 20, .inl fWord))]] (fun (r : Unit) (w1 : List va_W) => w1 = [[(o, .inr (9, [.ref aS, .ref aPast, .int known, .ref aSnap, .int kept, .ref aText, .int len, .int thr, .ref aOne, .ref aTwo, .ref aBoth, .ref aWord, .int ((F_X11_addsLetter hash fS fOne fTwo fBoth fWord letter).1), .ref aOpen, .ref aTimes, .ref aFar, .ref aQueue, .long ((F_X11_addsLetter hash fS fOne fTwo fBoth fWord letter).2.1)]))], [(aS, .inl (cI, 335, .inl fS))], [(aOne, .inl (cI, 4, .inl ((F_X11_addsLetter hash fS fOne fTwo fBoth fWord letter).2.2.1)))], [(aTwo, .inl (cI, 4, .inl ((F_X11_addsLetter hash fS fOne fTwo fBoth fWord letter).2.2.2.1)))], [(aBoth, .inl (cI, 4, .inl ((F_X11_addsLetter hash fS fOne fTwo fBoth fWord letter).2.2.2.2.1)))], [(aWord, .inl (cI, 20, .inl ((F_X11_addsLetter hash fS fOne fTwo fBoth fWord letter).2.2.2.2.2)))]]) := by
  unfold P_X11_addsLetter at hp
  refine m_start (by decide +kernel) (Nat.le_of_ble_eq_true rfl) (fun p e s m args below meth c A Q hA hQ C hr hlo => ?_)
  refine r_Le (L' := [(0, .ref o), (1, .int letter)]) rfl ?_
  refine r_iconst (v := 0) C dX11_addsLetter_0 (by decide) ?_
  refine r_istore_n (L' := [(2, .int 0), (0, .ref o), (1, .int letter)]) C dX11_addsLetter_1 (by decide) rfl ?_
  refine r_iload_n C dX11_addsLetter_2 0 rfl ?_
  refine r_iconst (v := 4) C dX11_addsLetter_3 (by decide) ?_
  refine r_icmp_ge (tgt := 24) C dX11_addsLetter_4 (by decide) (fun c => absurd c (by decide)) (fun _ => ?_)
  refine r_aload_n C dX11_addsLetter_7 1 rfl ?_
  refine r_aload_n C dX11_addsLetter_8 1 rfl ?_
  refine r_iload_n C dX11_addsLetter_9 2 rfl ?_
  refine r_iload_n C dX11_addsLetter_10 0 rfl ?_
  obtain ⟨h1, hp⟩ := hp
  refine r_callV (ci := 9) (wc := [[(o, .inr (9, [.ref aS, .ref aPast, .int known, .ref aSnap, .int kept, .ref aText, .int len, .int thr, .ref aOne, .ref aTwo, .ref aBoth, .ref aWord, .int cre, .ref aOpen, .ref aTimes, .ref aFar, .ref aQueue, .long hash]))], [(aS, .inl (cI, 335, .inl fS))]]) (wr := [[(aOne, .inl (cI, 4, .inl fOne))], [(aTwo, .inl (cI, 4, .inl fTwo))], [(aBoth, .inl (cI, 4, .inl fBoth))], [(aWord, .inl (cI, 20, .inl fWord))]]) (st := [.ref o]) C (m_X11_its l D cI cL cP cJ o aS aPast aSnap aText aOne aTwo aBoth aWord aOpen aTimes aFar aQueue known kept len thr cre hash fS letter 0 h1) k_X11_its t_966 [0, 1, 2, 3, 4, 5] (show ([0, 1, 2, 3, 4, 5] : List Nat).Perm (List.range 6) by decide) rfl rfl rfl (q0 := 0) rfl rfl rfl (Nat.le_of_ble_eq_true rfl) ⟨Nat.le_of_ble_eq_true rfl, Nat.le_of_ble_eq_true rfl⟩ ⟨Nat.zero_le _, Nat.zero_le _⟩ dX11_addsLetter_11 (fun r2 wr2 hw2 => ?_)
  obtain ⟨e_r2, rfl⟩ := hw2
  have hp := hp r2 e_r2
  refine r_ws (I' := [[(o, .inr (9, [.ref aS, .ref aPast, .int known, .ref aSnap, .int kept, .ref aText, .int len, .int thr, .ref aOne, .ref aTwo, .ref aBoth, .ref aWord, .int cre, .ref aOpen, .ref aTimes, .ref aFar, .ref aQueue, .long hash]))], [(aS, .inl (cI, 335, .inl fS))], [(aOne, .inl (cI, 4, .inl fOne))], [(aTwo, .inl (cI, 4, .inl fTwo))], [(aBoth, .inl (cI, 4, .inl fBoth))], [(aWord, .inl (cI, 20, .inl fWord))]]) rfl ?_
  refine r_i2l C dX11_addsLetter_14 rfl ?_
  refine r_callV (ci := 9) (wc := [[(o, .inr (9, [.ref aS, .ref aPast, .int known, .ref aSnap, .int kept, .ref aText, .int len, .int thr, .ref aOne, .ref aTwo, .ref aBoth, .ref aWord, .int cre, .ref aOpen, .ref aTimes, .ref aFar, .ref aQueue, .long hash]))]]) (wr := [[(aS, .inl (cI, 335, .inl fS))], [(aOne, .inl (cI, 4, .inl fOne))], [(aTwo, .inl (cI, 4, .inl fTwo))], [(aBoth, .inl (cI, 4, .inl fBoth))], [(aWord, .inl (cI, 20, .inl fWord))]]) (st := []) C (m_X11_adds l D cI cL cP cJ o aS aPast aSnap aText aOne aTwo aBoth aWord aOpen aTimes aFar aQueue known kept len thr cre hash ((r2 : Int32).toInt64)) k_X11_adds t_1256 [0, 1, 2, 3, 4, 5] (show ([0, 1, 2, 3, 4, 5] : List Nat).Perm (List.range 6) by decide) rfl rfl rfl (q0 := 0) rfl rfl rfl (Nat.le_of_ble_eq_true rfl) ⟨Nat.le_of_ble_eq_true rfl, Nat.le_of_ble_eq_true rfl⟩ ⟨Nat.zero_le _, Nat.zero_le _⟩ dX11_addsLetter_15 (fun r3 wr3 hw3 => ?_)
  obtain rfl := hw3
  obtain ⟨x4, e_x4⟩ : ∃ z : Int64, z = F_X11_adds hash ((r2 : Int32).toInt64) := ⟨_, rfl⟩
  have hp := hp x4 e_x4
  refine r_ws (I' := [[(o, .inr (9, [.ref aS, .ref aPast, .int known, .ref aSnap, .int kept, .ref aText, .int len, .int thr, .ref aOne, .ref aTwo, .ref aBoth, .ref aWord, .int cre, .ref aOpen, .ref aTimes, .ref aFar, .ref aQueue, .long x4]))], [(aS, .inl (cI, 335, .inl fS))], [(aOne, .inl (cI, 4, .inl fOne))], [(aTwo, .inl (cI, 4, .inl fTwo))], [(aBoth, .inl (cI, 4, .inl fBoth))], [(aWord, .inl (cI, 20, .inl fWord))]]) (by rw [e_x4]; rfl) ?_
  refine r_iinc (v := 1) (L' := [(2, .int 1), (0, .ref o), (1, .int letter)]) C dX11_addsLetter_18 0 rfl (by decide) (by decide) rfl ?_
  refine r_goto (tgt := 2) C dX11_addsLetter_21 (by decide) ?_
  refine r_iload_n C dX11_addsLetter_2 0 rfl ?_
  refine r_iconst (v := 4) C dX11_addsLetter_3 (by decide) ?_
  refine r_icmp_ge (tgt := 24) C dX11_addsLetter_4 (by decide) (fun c => absurd c (by decide)) (fun _ => ?_)
  refine r_aload_n C dX11_addsLetter_7 1 rfl ?_
  refine r_aload_n C dX11_addsLetter_8 1 rfl ?_
  refine r_iload_n C dX11_addsLetter_9 2 rfl ?_
  refine r_iload_n C dX11_addsLetter_10 0 rfl ?_
  obtain ⟨h5, hp⟩ := hp
  refine r_callV (ci := 9) (wc := [[(o, .inr (9, [.ref aS, .ref aPast, .int known, .ref aSnap, .int kept, .ref aText, .int len, .int thr, .ref aOne, .ref aTwo, .ref aBoth, .ref aWord, .int cre, .ref aOpen, .ref aTimes, .ref aFar, .ref aQueue, .long x4]))], [(aS, .inl (cI, 335, .inl fS))]]) (wr := [[(aOne, .inl (cI, 4, .inl fOne))], [(aTwo, .inl (cI, 4, .inl fTwo))], [(aBoth, .inl (cI, 4, .inl fBoth))], [(aWord, .inl (cI, 20, .inl fWord))]]) (st := [.ref o]) C (m_X11_its l D cI cL cP cJ o aS aPast aSnap aText aOne aTwo aBoth aWord aOpen aTimes aFar aQueue known kept len thr cre x4 fS letter 1 h5) k_X11_its t_966 [0, 1, 2, 3, 4, 5] (show ([0, 1, 2, 3, 4, 5] : List Nat).Perm (List.range 6) by decide) rfl rfl rfl (q0 := 0) rfl rfl rfl (Nat.le_of_ble_eq_true rfl) ⟨Nat.le_of_ble_eq_true rfl, Nat.le_of_ble_eq_true rfl⟩ ⟨Nat.zero_le _, Nat.zero_le _⟩ dX11_addsLetter_11 (fun r6 wr6 hw6 => ?_)
  obtain ⟨e_r6, rfl⟩ := hw6
  have hp := hp r6 e_r6
  refine r_ws (I' := [[(o, .inr (9, [.ref aS, .ref aPast, .int known, .ref aSnap, .int kept, .ref aText, .int len, .int thr, .ref aOne, .ref aTwo, .ref aBoth, .ref aWord, .int cre, .ref aOpen, .ref aTimes, .ref aFar, .ref aQueue, .long x4]))], [(aS, .inl (cI, 335, .inl fS))], [(aOne, .inl (cI, 4, .inl fOne))], [(aTwo, .inl (cI, 4, .inl fTwo))], [(aBoth, .inl (cI, 4, .inl fBoth))], [(aWord, .inl (cI, 20, .inl fWord))]]) rfl ?_
  refine r_i2l C dX11_addsLetter_14 rfl ?_
  refine r_callV (ci := 9) (wc := [[(o, .inr (9, [.ref aS, .ref aPast, .int known, .ref aSnap, .int kept, .ref aText, .int len, .int thr, .ref aOne, .ref aTwo, .ref aBoth, .ref aWord, .int cre, .ref aOpen, .ref aTimes, .ref aFar, .ref aQueue, .long x4]))]]) (wr := [[(aS, .inl (cI, 335, .inl fS))], [(aOne, .inl (cI, 4, .inl fOne))], [(aTwo, .inl (cI, 4, .inl fTwo))], [(aBoth, .inl (cI, 4, .inl fBoth))], [(aWord, .inl (cI, 20, .inl fWord))]]) (st := []) C (m_X11_adds l D cI cL cP cJ o aS aPast aSnap aText aOne aTwo aBoth aWord aOpen aTimes aFar aQueue known kept len thr cre x4 ((r6 : Int32).toInt64)) k_X11_adds t_1256 [0, 1, 2, 3, 4, 5] (show ([0, 1, 2, 3, 4, 5] : List Nat).Perm (List.range 6) by decide) rfl rfl rfl (q0 := 0) rfl rfl rfl (Nat.le_of_ble_eq_true rfl) ⟨Nat.le_of_ble_eq_true rfl, Nat.le_of_ble_eq_true rfl⟩ ⟨Nat.zero_le _, Nat.zero_le _⟩ dX11_addsLetter_15 (fun r7 wr7 hw7 => ?_)
  obtain rfl := hw7
  obtain ⟨x8, e_x8⟩ : ∃ z : Int64, z = F_X11_adds x4 ((r6 : Int32).toInt64) := ⟨_, rfl⟩
  have hp := hp x8 e_x8
  refine r_ws (I' := [[(o, .inr (9, [.ref aS, .ref aPast, .int known, .ref aSnap, .int kept, .ref aText, .int len, .int thr, .ref aOne, .ref aTwo, .ref aBoth, .ref aWord, .int cre, .ref aOpen, .ref aTimes, .ref aFar, .ref aQueue, .long x8]))], [(aS, .inl (cI, 335, .inl fS))], [(aOne, .inl (cI, 4, .inl fOne))], [(aTwo, .inl (cI, 4, .inl fTwo))], [(aBoth, .inl (cI, 4, .inl fBoth))], [(aWord, .inl (cI, 20, .inl fWord))]]) (by rw [e_x8]; rfl) ?_
  refine r_iinc (v := 2) (L' := [(2, .int 2), (0, .ref o), (1, .int letter)]) C dX11_addsLetter_18 0 rfl (by decide) (by decide) rfl ?_
  refine r_goto (tgt := 2) C dX11_addsLetter_21 (by decide) ?_
  refine r_iload_n C dX11_addsLetter_2 0 rfl ?_
  refine r_iconst (v := 4) C dX11_addsLetter_3 (by decide) ?_
  refine r_icmp_ge (tgt := 24) C dX11_addsLetter_4 (by decide) (fun c => absurd c (by decide)) (fun _ => ?_)
  refine r_aload_n C dX11_addsLetter_7 1 rfl ?_
  refine r_aload_n C dX11_addsLetter_8 1 rfl ?_
  refine r_iload_n C dX11_addsLetter_9 2 rfl ?_
  refine r_iload_n C dX11_addsLetter_10 0 rfl ?_
  obtain ⟨h9, hp⟩ := hp
  refine r_callV (ci := 9) (wc := [[(o, .inr (9, [.ref aS, .ref aPast, .int known, .ref aSnap, .int kept, .ref aText, .int len, .int thr, .ref aOne, .ref aTwo, .ref aBoth, .ref aWord, .int cre, .ref aOpen, .ref aTimes, .ref aFar, .ref aQueue, .long x8]))], [(aS, .inl (cI, 335, .inl fS))]]) (wr := [[(aOne, .inl (cI, 4, .inl fOne))], [(aTwo, .inl (cI, 4, .inl fTwo))], [(aBoth, .inl (cI, 4, .inl fBoth))], [(aWord, .inl (cI, 20, .inl fWord))]]) (st := [.ref o]) C (m_X11_its l D cI cL cP cJ o aS aPast aSnap aText aOne aTwo aBoth aWord aOpen aTimes aFar aQueue known kept len thr cre x8 fS letter 2 h9) k_X11_its t_966 [0, 1, 2, 3, 4, 5] (show ([0, 1, 2, 3, 4, 5] : List Nat).Perm (List.range 6) by decide) rfl rfl rfl (q0 := 0) rfl rfl rfl (Nat.le_of_ble_eq_true rfl) ⟨Nat.le_of_ble_eq_true rfl, Nat.le_of_ble_eq_true rfl⟩ ⟨Nat.zero_le _, Nat.zero_le _⟩ dX11_addsLetter_11 (fun r10 wr10 hw10 => ?_)
  obtain ⟨e_r10, rfl⟩ := hw10
  have hp := hp r10 e_r10
  refine r_ws (I' := [[(o, .inr (9, [.ref aS, .ref aPast, .int known, .ref aSnap, .int kept, .ref aText, .int len, .int thr, .ref aOne, .ref aTwo, .ref aBoth, .ref aWord, .int cre, .ref aOpen, .ref aTimes, .ref aFar, .ref aQueue, .long x8]))], [(aS, .inl (cI, 335, .inl fS))], [(aOne, .inl (cI, 4, .inl fOne))], [(aTwo, .inl (cI, 4, .inl fTwo))], [(aBoth, .inl (cI, 4, .inl fBoth))], [(aWord, .inl (cI, 20, .inl fWord))]]) rfl ?_
  refine r_i2l C dX11_addsLetter_14 rfl ?_
  refine r_callV (ci := 9) (wc := [[(o, .inr (9, [.ref aS, .ref aPast, .int known, .ref aSnap, .int kept, .ref aText, .int len, .int thr, .ref aOne, .ref aTwo, .ref aBoth, .ref aWord, .int cre, .ref aOpen, .ref aTimes, .ref aFar, .ref aQueue, .long x8]))]]) (wr := [[(aS, .inl (cI, 335, .inl fS))], [(aOne, .inl (cI, 4, .inl fOne))], [(aTwo, .inl (cI, 4, .inl fTwo))], [(aBoth, .inl (cI, 4, .inl fBoth))], [(aWord, .inl (cI, 20, .inl fWord))]]) (st := []) C (m_X11_adds l D cI cL cP cJ o aS aPast aSnap aText aOne aTwo aBoth aWord aOpen aTimes aFar aQueue known kept len thr cre x8 ((r10 : Int32).toInt64)) k_X11_adds t_1256 [0, 1, 2, 3, 4, 5] (show ([0, 1, 2, 3, 4, 5] : List Nat).Perm (List.range 6) by decide) rfl rfl rfl (q0 := 0) rfl rfl rfl (Nat.le_of_ble_eq_true rfl) ⟨Nat.le_of_ble_eq_true rfl, Nat.le_of_ble_eq_true rfl⟩ ⟨Nat.zero_le _, Nat.zero_le _⟩ dX11_addsLetter_15 (fun r11 wr11 hw11 => ?_)
  obtain rfl := hw11
  obtain ⟨x12, e_x12⟩ : ∃ z : Int64, z = F_X11_adds x8 ((r10 : Int32).toInt64) := ⟨_, rfl⟩
  have hp := hp x12 e_x12
  refine r_ws (I' := [[(o, .inr (9, [.ref aS, .ref aPast, .int known, .ref aSnap, .int kept, .ref aText, .int len, .int thr, .ref aOne, .ref aTwo, .ref aBoth, .ref aWord, .int cre, .ref aOpen, .ref aTimes, .ref aFar, .ref aQueue, .long x12]))], [(aS, .inl (cI, 335, .inl fS))], [(aOne, .inl (cI, 4, .inl fOne))], [(aTwo, .inl (cI, 4, .inl fTwo))], [(aBoth, .inl (cI, 4, .inl fBoth))], [(aWord, .inl (cI, 20, .inl fWord))]]) (by rw [e_x12]; rfl) ?_
  refine r_iinc (v := 3) (L' := [(2, .int 3), (0, .ref o), (1, .int letter)]) C dX11_addsLetter_18 0 rfl (by decide) (by decide) rfl ?_
  refine r_goto (tgt := 2) C dX11_addsLetter_21 (by decide) ?_
  refine r_iload_n C dX11_addsLetter_2 0 rfl ?_
  refine r_iconst (v := 4) C dX11_addsLetter_3 (by decide) ?_
  refine r_icmp_ge (tgt := 24) C dX11_addsLetter_4 (by decide) (fun c => absurd c (by decide)) (fun _ => ?_)
  refine r_aload_n C dX11_addsLetter_7 1 rfl ?_
  refine r_aload_n C dX11_addsLetter_8 1 rfl ?_
  refine r_iload_n C dX11_addsLetter_9 2 rfl ?_
  refine r_iload_n C dX11_addsLetter_10 0 rfl ?_
  obtain ⟨h13, hp⟩ := hp
  refine r_callV (ci := 9) (wc := [[(o, .inr (9, [.ref aS, .ref aPast, .int known, .ref aSnap, .int kept, .ref aText, .int len, .int thr, .ref aOne, .ref aTwo, .ref aBoth, .ref aWord, .int cre, .ref aOpen, .ref aTimes, .ref aFar, .ref aQueue, .long x12]))], [(aS, .inl (cI, 335, .inl fS))]]) (wr := [[(aOne, .inl (cI, 4, .inl fOne))], [(aTwo, .inl (cI, 4, .inl fTwo))], [(aBoth, .inl (cI, 4, .inl fBoth))], [(aWord, .inl (cI, 20, .inl fWord))]]) (st := [.ref o]) C (m_X11_its l D cI cL cP cJ o aS aPast aSnap aText aOne aTwo aBoth aWord aOpen aTimes aFar aQueue known kept len thr cre x12 fS letter 3 h13) k_X11_its t_966 [0, 1, 2, 3, 4, 5] (show ([0, 1, 2, 3, 4, 5] : List Nat).Perm (List.range 6) by decide) rfl rfl rfl (q0 := 0) rfl rfl rfl (Nat.le_of_ble_eq_true rfl) ⟨Nat.le_of_ble_eq_true rfl, Nat.le_of_ble_eq_true rfl⟩ ⟨Nat.zero_le _, Nat.zero_le _⟩ dX11_addsLetter_11 (fun r14 wr14 hw14 => ?_)
  obtain ⟨e_r14, rfl⟩ := hw14
  have hp := hp r14 e_r14
  refine r_ws (I' := [[(o, .inr (9, [.ref aS, .ref aPast, .int known, .ref aSnap, .int kept, .ref aText, .int len, .int thr, .ref aOne, .ref aTwo, .ref aBoth, .ref aWord, .int cre, .ref aOpen, .ref aTimes, .ref aFar, .ref aQueue, .long x12]))], [(aS, .inl (cI, 335, .inl fS))], [(aOne, .inl (cI, 4, .inl fOne))], [(aTwo, .inl (cI, 4, .inl fTwo))], [(aBoth, .inl (cI, 4, .inl fBoth))], [(aWord, .inl (cI, 20, .inl fWord))]]) rfl ?_
  refine r_i2l C dX11_addsLetter_14 rfl ?_
  refine r_callV (ci := 9) (wc := [[(o, .inr (9, [.ref aS, .ref aPast, .int known, .ref aSnap, .int kept, .ref aText, .int len, .int thr, .ref aOne, .ref aTwo, .ref aBoth, .ref aWord, .int cre, .ref aOpen, .ref aTimes, .ref aFar, .ref aQueue, .long x12]))]]) (wr := [[(aS, .inl (cI, 335, .inl fS))], [(aOne, .inl (cI, 4, .inl fOne))], [(aTwo, .inl (cI, 4, .inl fTwo))], [(aBoth, .inl (cI, 4, .inl fBoth))], [(aWord, .inl (cI, 20, .inl fWord))]]) (st := []) C (m_X11_adds l D cI cL cP cJ o aS aPast aSnap aText aOne aTwo aBoth aWord aOpen aTimes aFar aQueue known kept len thr cre x12 ((r14 : Int32).toInt64)) k_X11_adds t_1256 [0, 1, 2, 3, 4, 5] (show ([0, 1, 2, 3, 4, 5] : List Nat).Perm (List.range 6) by decide) rfl rfl rfl (q0 := 0) rfl rfl rfl (Nat.le_of_ble_eq_true rfl) ⟨Nat.le_of_ble_eq_true rfl, Nat.le_of_ble_eq_true rfl⟩ ⟨Nat.zero_le _, Nat.zero_le _⟩ dX11_addsLetter_15 (fun r15 wr15 hw15 => ?_)
  obtain rfl := hw15
  obtain ⟨x16, e_x16⟩ : ∃ z : Int64, z = F_X11_adds x12 ((r14 : Int32).toInt64) := ⟨_, rfl⟩
  have hp := hp x16 e_x16
  refine r_ws (I' := [[(o, .inr (9, [.ref aS, .ref aPast, .int known, .ref aSnap, .int kept, .ref aText, .int len, .int thr, .ref aOne, .ref aTwo, .ref aBoth, .ref aWord, .int cre, .ref aOpen, .ref aTimes, .ref aFar, .ref aQueue, .long x16]))], [(aS, .inl (cI, 335, .inl fS))], [(aOne, .inl (cI, 4, .inl fOne))], [(aTwo, .inl (cI, 4, .inl fTwo))], [(aBoth, .inl (cI, 4, .inl fBoth))], [(aWord, .inl (cI, 20, .inl fWord))]]) (by rw [e_x16]; rfl) ?_
  refine r_iinc (v := 4) (L' := [(2, .int 4), (0, .ref o), (1, .int letter)]) C dX11_addsLetter_18 0 rfl (by decide) (by decide) rfl ?_
  refine r_goto (tgt := 2) C dX11_addsLetter_21 (by decide) ?_
  refine r_iload_n C dX11_addsLetter_2 0 rfl ?_
  refine r_iconst (v := 4) C dX11_addsLetter_3 (by decide) ?_
  refine r_icmp_ge (tgt := 24) C dX11_addsLetter_4 (by decide) (fun _ => ?_) (fun c => absurd c (by decide))
  refine r_iconst (v := 0) C dX11_addsLetter_24 (by decide) ?_
  refine r_istore_n (L' := [(2, .int 0), (0, .ref o), (1, .int letter)]) C dX11_addsLetter_25 (by decide) rfl ?_
  refine r_iload_n C dX11_addsLetter_26 0 rfl ?_
  refine r_bipush (v := 10) C dX11_addsLetter_27 (by decide) ?_
  refine r_icmp_gt (tgt := 49) C dX11_addsLetter_29 (by decide) (fun c => absurd c (by decide)) (fun _ => ?_)
  refine r_aload_n C dX11_addsLetter_32 1 rfl ?_
  refine r_aload_n C dX11_addsLetter_33 1 rfl ?_
  refine r_iload_n C dX11_addsLetter_34 2 rfl ?_
  refine r_iload_n C dX11_addsLetter_35 0 rfl ?_
  obtain ⟨h17, hp⟩ := hp
  refine r_callV (ci := 9) (wc := [[(o, .inr (9, [.ref aS, .ref aPast, .int known, .ref aSnap, .int kept, .ref aText, .int len, .int thr, .ref aOne, .ref aTwo, .ref aBoth, .ref aWord, .int cre, .ref aOpen, .ref aTimes, .ref aFar, .ref aQueue, .long x16]))], [(aS, .inl (cI, 335, .inl fS))], [(aOne, .inl (cI, 4, .inl fOne))], [(aTwo, .inl (cI, 4, .inl fTwo))], [(aBoth, .inl (cI, 4, .inl fBoth))]]) (wr := [[(aWord, .inl (cI, 20, .inl fWord))]]) (st := [.ref o]) C (m_X11_number l D cI cL cP cJ o aS aPast aSnap aText aOne aTwo aBoth aWord aOpen aTimes aFar aQueue known kept len thr cre x16 fS fOne fTwo fBoth letter 0 h17) k_X11_number t_1147 [0, 1, 2, 3, 4, 5] (show ([0, 1, 2, 3, 4, 5] : List Nat).Perm (List.range 6) by decide) rfl rfl rfl (q0 := 0) rfl rfl rfl (Nat.le_of_ble_eq_true rfl) ⟨Nat.le_of_ble_eq_true rfl, Nat.le_of_ble_eq_true rfl⟩ ⟨Nat.zero_le _, Nat.zero_le _⟩ dX11_addsLetter_36 (fun r18 wr18 hw18 => ?_)
  obtain ⟨e_r18, rfl⟩ := hw18
  have hp := hp r18 e_r18
  obtain ⟨g19, e_g19⟩ : ∃ z : Nat → Int32, z = (F_X11_number fS fOne fTwo fBoth letter 0).2.1 := ⟨_, rfl⟩
  have hp := hp g19 e_g19
  obtain ⟨g20, e_g20⟩ : ∃ z : Nat → Int32, z = (F_X11_number fS fOne fTwo fBoth letter 0).2.2.1 := ⟨_, rfl⟩
  have hp := hp g20 e_g20
  obtain ⟨g21, e_g21⟩ : ∃ z : Nat → Int32, z = (F_X11_number fS fOne fTwo fBoth letter 0).2.2.2 := ⟨_, rfl⟩
  have hp := hp g21 e_g21
  refine r_ws (I' := [[(o, .inr (9, [.ref aS, .ref aPast, .int known, .ref aSnap, .int kept, .ref aText, .int len, .int thr, .ref aOne, .ref aTwo, .ref aBoth, .ref aWord, .int cre, .ref aOpen, .ref aTimes, .ref aFar, .ref aQueue, .long x16]))], [(aS, .inl (cI, 335, .inl fS))], [(aOne, .inl (cI, 4, .inl g19))], [(aTwo, .inl (cI, 4, .inl g20))], [(aBoth, .inl (cI, 4, .inl g21))], [(aWord, .inl (cI, 20, .inl fWord))]]) (by rw [e_g19, e_g20, e_g21]; rfl) ?_
  refine r_i2l C dX11_addsLetter_39 rfl ?_
  refine r_callV (ci := 9) (wc := [[(o, .inr (9, [.ref aS, .ref aPast, .int known, .ref aSnap, .int kept, .ref aText, .int len, .int thr, .ref aOne, .ref aTwo, .ref aBoth, .ref aWord, .int cre, .ref aOpen, .ref aTimes, .ref aFar, .ref aQueue, .long x16]))]]) (wr := [[(aS, .inl (cI, 335, .inl fS))], [(aOne, .inl (cI, 4, .inl g19))], [(aTwo, .inl (cI, 4, .inl g20))], [(aBoth, .inl (cI, 4, .inl g21))], [(aWord, .inl (cI, 20, .inl fWord))]]) (st := []) C (m_X11_adds l D cI cL cP cJ o aS aPast aSnap aText aOne aTwo aBoth aWord aOpen aTimes aFar aQueue known kept len thr cre x16 ((r18 : Int32).toInt64)) k_X11_adds t_1256 [0, 1, 2, 3, 4, 5] (show ([0, 1, 2, 3, 4, 5] : List Nat).Perm (List.range 6) by decide) rfl rfl rfl (q0 := 0) rfl rfl rfl (Nat.le_of_ble_eq_true rfl) ⟨Nat.le_of_ble_eq_true rfl, Nat.le_of_ble_eq_true rfl⟩ ⟨Nat.zero_le _, Nat.zero_le _⟩ dX11_addsLetter_40 (fun r22 wr22 hw22 => ?_)
  obtain rfl := hw22
  obtain ⟨x23, e_x23⟩ : ∃ z : Int64, z = F_X11_adds x16 ((r18 : Int32).toInt64) := ⟨_, rfl⟩
  have hp := hp x23 e_x23
  refine r_ws (I' := [[(o, .inr (9, [.ref aS, .ref aPast, .int known, .ref aSnap, .int kept, .ref aText, .int len, .int thr, .ref aOne, .ref aTwo, .ref aBoth, .ref aWord, .int cre, .ref aOpen, .ref aTimes, .ref aFar, .ref aQueue, .long x23]))], [(aS, .inl (cI, 335, .inl fS))], [(aOne, .inl (cI, 4, .inl g19))], [(aTwo, .inl (cI, 4, .inl g20))], [(aBoth, .inl (cI, 4, .inl g21))], [(aWord, .inl (cI, 20, .inl fWord))]]) (by rw [e_x23]; rfl) ?_
  refine r_iinc (v := 1) (L' := [(2, .int 1), (0, .ref o), (1, .int letter)]) C dX11_addsLetter_43 0 rfl (by decide) (by decide) rfl ?_
  refine r_goto (tgt := 26) C dX11_addsLetter_46 (by decide) ?_
  refine r_iload_n C dX11_addsLetter_26 0 rfl ?_
  refine r_bipush (v := 10) C dX11_addsLetter_27 (by decide) ?_
  refine r_icmp_gt (tgt := 49) C dX11_addsLetter_29 (by decide) (fun c => absurd c (by decide)) (fun _ => ?_)
  refine r_aload_n C dX11_addsLetter_32 1 rfl ?_
  refine r_aload_n C dX11_addsLetter_33 1 rfl ?_
  refine r_iload_n C dX11_addsLetter_34 2 rfl ?_
  refine r_iload_n C dX11_addsLetter_35 0 rfl ?_
  obtain ⟨h24, hp⟩ := hp
  refine r_callV (ci := 9) (wc := [[(o, .inr (9, [.ref aS, .ref aPast, .int known, .ref aSnap, .int kept, .ref aText, .int len, .int thr, .ref aOne, .ref aTwo, .ref aBoth, .ref aWord, .int cre, .ref aOpen, .ref aTimes, .ref aFar, .ref aQueue, .long x23]))], [(aS, .inl (cI, 335, .inl fS))], [(aOne, .inl (cI, 4, .inl g19))], [(aTwo, .inl (cI, 4, .inl g20))], [(aBoth, .inl (cI, 4, .inl g21))]]) (wr := [[(aWord, .inl (cI, 20, .inl fWord))]]) (st := [.ref o]) C (m_X11_number l D cI cL cP cJ o aS aPast aSnap aText aOne aTwo aBoth aWord aOpen aTimes aFar aQueue known kept len thr cre x23 fS g19 g20 g21 letter 1 h24) k_X11_number t_1147 [0, 1, 2, 3, 4, 5] (show ([0, 1, 2, 3, 4, 5] : List Nat).Perm (List.range 6) by decide) rfl rfl rfl (q0 := 0) rfl rfl rfl (Nat.le_of_ble_eq_true rfl) ⟨Nat.le_of_ble_eq_true rfl, Nat.le_of_ble_eq_true rfl⟩ ⟨Nat.zero_le _, Nat.zero_le _⟩ dX11_addsLetter_36 (fun r25 wr25 hw25 => ?_)
  obtain ⟨e_r25, rfl⟩ := hw25
  have hp := hp r25 e_r25
  obtain ⟨g26, e_g26⟩ : ∃ z : Nat → Int32, z = (F_X11_number fS g19 g20 g21 letter 1).2.1 := ⟨_, rfl⟩
  have hp := hp g26 e_g26
  obtain ⟨g27, e_g27⟩ : ∃ z : Nat → Int32, z = (F_X11_number fS g19 g20 g21 letter 1).2.2.1 := ⟨_, rfl⟩
  have hp := hp g27 e_g27
  obtain ⟨g28, e_g28⟩ : ∃ z : Nat → Int32, z = (F_X11_number fS g19 g20 g21 letter 1).2.2.2 := ⟨_, rfl⟩
  have hp := hp g28 e_g28
  refine r_ws (I' := [[(o, .inr (9, [.ref aS, .ref aPast, .int known, .ref aSnap, .int kept, .ref aText, .int len, .int thr, .ref aOne, .ref aTwo, .ref aBoth, .ref aWord, .int cre, .ref aOpen, .ref aTimes, .ref aFar, .ref aQueue, .long x23]))], [(aS, .inl (cI, 335, .inl fS))], [(aOne, .inl (cI, 4, .inl g26))], [(aTwo, .inl (cI, 4, .inl g27))], [(aBoth, .inl (cI, 4, .inl g28))], [(aWord, .inl (cI, 20, .inl fWord))]]) (by rw [e_g26, e_g27, e_g28]; rfl) ?_
  refine r_i2l C dX11_addsLetter_39 rfl ?_
  refine r_callV (ci := 9) (wc := [[(o, .inr (9, [.ref aS, .ref aPast, .int known, .ref aSnap, .int kept, .ref aText, .int len, .int thr, .ref aOne, .ref aTwo, .ref aBoth, .ref aWord, .int cre, .ref aOpen, .ref aTimes, .ref aFar, .ref aQueue, .long x23]))]]) (wr := [[(aS, .inl (cI, 335, .inl fS))], [(aOne, .inl (cI, 4, .inl g26))], [(aTwo, .inl (cI, 4, .inl g27))], [(aBoth, .inl (cI, 4, .inl g28))], [(aWord, .inl (cI, 20, .inl fWord))]]) (st := []) C (m_X11_adds l D cI cL cP cJ o aS aPast aSnap aText aOne aTwo aBoth aWord aOpen aTimes aFar aQueue known kept len thr cre x23 ((r25 : Int32).toInt64)) k_X11_adds t_1256 [0, 1, 2, 3, 4, 5] (show ([0, 1, 2, 3, 4, 5] : List Nat).Perm (List.range 6) by decide) rfl rfl rfl (q0 := 0) rfl rfl rfl (Nat.le_of_ble_eq_true rfl) ⟨Nat.le_of_ble_eq_true rfl, Nat.le_of_ble_eq_true rfl⟩ ⟨Nat.zero_le _, Nat.zero_le _⟩ dX11_addsLetter_40 (fun r29 wr29 hw29 => ?_)
  obtain rfl := hw29
  obtain ⟨x30, e_x30⟩ : ∃ z : Int64, z = F_X11_adds x23 ((r25 : Int32).toInt64) := ⟨_, rfl⟩
  have hp := hp x30 e_x30
  refine r_ws (I' := [[(o, .inr (9, [.ref aS, .ref aPast, .int known, .ref aSnap, .int kept, .ref aText, .int len, .int thr, .ref aOne, .ref aTwo, .ref aBoth, .ref aWord, .int cre, .ref aOpen, .ref aTimes, .ref aFar, .ref aQueue, .long x30]))], [(aS, .inl (cI, 335, .inl fS))], [(aOne, .inl (cI, 4, .inl g26))], [(aTwo, .inl (cI, 4, .inl g27))], [(aBoth, .inl (cI, 4, .inl g28))], [(aWord, .inl (cI, 20, .inl fWord))]]) (by rw [e_x30]; rfl) ?_
  refine r_iinc (v := 2) (L' := [(2, .int 2), (0, .ref o), (1, .int letter)]) C dX11_addsLetter_43 0 rfl (by decide) (by decide) rfl ?_
  refine r_goto (tgt := 26) C dX11_addsLetter_46 (by decide) ?_
  refine r_iload_n C dX11_addsLetter_26 0 rfl ?_
  refine r_bipush (v := 10) C dX11_addsLetter_27 (by decide) ?_
  refine r_icmp_gt (tgt := 49) C dX11_addsLetter_29 (by decide) (fun c => absurd c (by decide)) (fun _ => ?_)
  refine r_aload_n C dX11_addsLetter_32 1 rfl ?_
  refine r_aload_n C dX11_addsLetter_33 1 rfl ?_
  refine r_iload_n C dX11_addsLetter_34 2 rfl ?_
  refine r_iload_n C dX11_addsLetter_35 0 rfl ?_
  obtain ⟨h31, hp⟩ := hp
  refine r_callV (ci := 9) (wc := [[(o, .inr (9, [.ref aS, .ref aPast, .int known, .ref aSnap, .int kept, .ref aText, .int len, .int thr, .ref aOne, .ref aTwo, .ref aBoth, .ref aWord, .int cre, .ref aOpen, .ref aTimes, .ref aFar, .ref aQueue, .long x30]))], [(aS, .inl (cI, 335, .inl fS))], [(aOne, .inl (cI, 4, .inl g26))], [(aTwo, .inl (cI, 4, .inl g27))], [(aBoth, .inl (cI, 4, .inl g28))]]) (wr := [[(aWord, .inl (cI, 20, .inl fWord))]]) (st := [.ref o]) C (m_X11_number l D cI cL cP cJ o aS aPast aSnap aText aOne aTwo aBoth aWord aOpen aTimes aFar aQueue known kept len thr cre x30 fS g26 g27 g28 letter 2 h31) k_X11_number t_1147 [0, 1, 2, 3, 4, 5] (show ([0, 1, 2, 3, 4, 5] : List Nat).Perm (List.range 6) by decide) rfl rfl rfl (q0 := 0) rfl rfl rfl (Nat.le_of_ble_eq_true rfl) ⟨Nat.le_of_ble_eq_true rfl, Nat.le_of_ble_eq_true rfl⟩ ⟨Nat.zero_le _, Nat.zero_le _⟩ dX11_addsLetter_36 (fun r32 wr32 hw32 => ?_)
  obtain ⟨e_r32, rfl⟩ := hw32
  have hp := hp r32 e_r32
  obtain ⟨g33, e_g33⟩ : ∃ z : Nat → Int32, z = (F_X11_number fS g26 g27 g28 letter 2).2.1 := ⟨_, rfl⟩
  have hp := hp g33 e_g33
  obtain ⟨g34, e_g34⟩ : ∃ z : Nat → Int32, z = (F_X11_number fS g26 g27 g28 letter 2).2.2.1 := ⟨_, rfl⟩
  have hp := hp g34 e_g34
  obtain ⟨g35, e_g35⟩ : ∃ z : Nat → Int32, z = (F_X11_number fS g26 g27 g28 letter 2).2.2.2 := ⟨_, rfl⟩
  have hp := hp g35 e_g35
  refine r_ws (I' := [[(o, .inr (9, [.ref aS, .ref aPast, .int known, .ref aSnap, .int kept, .ref aText, .int len, .int thr, .ref aOne, .ref aTwo, .ref aBoth, .ref aWord, .int cre, .ref aOpen, .ref aTimes, .ref aFar, .ref aQueue, .long x30]))], [(aS, .inl (cI, 335, .inl fS))], [(aOne, .inl (cI, 4, .inl g33))], [(aTwo, .inl (cI, 4, .inl g34))], [(aBoth, .inl (cI, 4, .inl g35))], [(aWord, .inl (cI, 20, .inl fWord))]]) (by rw [e_g33, e_g34, e_g35]; rfl) ?_
  refine r_i2l C dX11_addsLetter_39 rfl ?_
  refine r_callV (ci := 9) (wc := [[(o, .inr (9, [.ref aS, .ref aPast, .int known, .ref aSnap, .int kept, .ref aText, .int len, .int thr, .ref aOne, .ref aTwo, .ref aBoth, .ref aWord, .int cre, .ref aOpen, .ref aTimes, .ref aFar, .ref aQueue, .long x30]))]]) (wr := [[(aS, .inl (cI, 335, .inl fS))], [(aOne, .inl (cI, 4, .inl g33))], [(aTwo, .inl (cI, 4, .inl g34))], [(aBoth, .inl (cI, 4, .inl g35))], [(aWord, .inl (cI, 20, .inl fWord))]]) (st := []) C (m_X11_adds l D cI cL cP cJ o aS aPast aSnap aText aOne aTwo aBoth aWord aOpen aTimes aFar aQueue known kept len thr cre x30 ((r32 : Int32).toInt64)) k_X11_adds t_1256 [0, 1, 2, 3, 4, 5] (show ([0, 1, 2, 3, 4, 5] : List Nat).Perm (List.range 6) by decide) rfl rfl rfl (q0 := 0) rfl rfl rfl (Nat.le_of_ble_eq_true rfl) ⟨Nat.le_of_ble_eq_true rfl, Nat.le_of_ble_eq_true rfl⟩ ⟨Nat.zero_le _, Nat.zero_le _⟩ dX11_addsLetter_40 (fun r36 wr36 hw36 => ?_)
  obtain rfl := hw36
  obtain ⟨x37, e_x37⟩ : ∃ z : Int64, z = F_X11_adds x30 ((r32 : Int32).toInt64) := ⟨_, rfl⟩
  have hp := hp x37 e_x37
  refine r_ws (I' := [[(o, .inr (9, [.ref aS, .ref aPast, .int known, .ref aSnap, .int kept, .ref aText, .int len, .int thr, .ref aOne, .ref aTwo, .ref aBoth, .ref aWord, .int cre, .ref aOpen, .ref aTimes, .ref aFar, .ref aQueue, .long x37]))], [(aS, .inl (cI, 335, .inl fS))], [(aOne, .inl (cI, 4, .inl g33))], [(aTwo, .inl (cI, 4, .inl g34))], [(aBoth, .inl (cI, 4, .inl g35))], [(aWord, .inl (cI, 20, .inl fWord))]]) (by rw [e_x37]; rfl) ?_
  refine r_iinc (v := 3) (L' := [(2, .int 3), (0, .ref o), (1, .int letter)]) C dX11_addsLetter_43 0 rfl (by decide) (by decide) rfl ?_
  refine r_goto (tgt := 26) C dX11_addsLetter_46 (by decide) ?_
  refine r_iload_n C dX11_addsLetter_26 0 rfl ?_
  refine r_bipush (v := 10) C dX11_addsLetter_27 (by decide) ?_
  refine r_icmp_gt (tgt := 49) C dX11_addsLetter_29 (by decide) (fun c => absurd c (by decide)) (fun _ => ?_)
  refine r_aload_n C dX11_addsLetter_32 1 rfl ?_
  refine r_aload_n C dX11_addsLetter_33 1 rfl ?_
  refine r_iload_n C dX11_addsLetter_34 2 rfl ?_
  refine r_iload_n C dX11_addsLetter_35 0 rfl ?_
  obtain ⟨h38, hp⟩ := hp
  refine r_callV (ci := 9) (wc := [[(o, .inr (9, [.ref aS, .ref aPast, .int known, .ref aSnap, .int kept, .ref aText, .int len, .int thr, .ref aOne, .ref aTwo, .ref aBoth, .ref aWord, .int cre, .ref aOpen, .ref aTimes, .ref aFar, .ref aQueue, .long x37]))], [(aS, .inl (cI, 335, .inl fS))], [(aOne, .inl (cI, 4, .inl g33))], [(aTwo, .inl (cI, 4, .inl g34))], [(aBoth, .inl (cI, 4, .inl g35))]]) (wr := [[(aWord, .inl (cI, 20, .inl fWord))]]) (st := [.ref o]) C (m_X11_number l D cI cL cP cJ o aS aPast aSnap aText aOne aTwo aBoth aWord aOpen aTimes aFar aQueue known kept len thr cre x37 fS g33 g34 g35 letter 3 h38) k_X11_number t_1147 [0, 1, 2, 3, 4, 5] (show ([0, 1, 2, 3, 4, 5] : List Nat).Perm (List.range 6) by decide) rfl rfl rfl (q0 := 0) rfl rfl rfl (Nat.le_of_ble_eq_true rfl) ⟨Nat.le_of_ble_eq_true rfl, Nat.le_of_ble_eq_true rfl⟩ ⟨Nat.zero_le _, Nat.zero_le _⟩ dX11_addsLetter_36 (fun r39 wr39 hw39 => ?_)
  obtain ⟨e_r39, rfl⟩ := hw39
  have hp := hp r39 e_r39
  obtain ⟨g40, e_g40⟩ : ∃ z : Nat → Int32, z = (F_X11_number fS g33 g34 g35 letter 3).2.1 := ⟨_, rfl⟩
  have hp := hp g40 e_g40
  obtain ⟨g41, e_g41⟩ : ∃ z : Nat → Int32, z = (F_X11_number fS g33 g34 g35 letter 3).2.2.1 := ⟨_, rfl⟩
  have hp := hp g41 e_g41
  obtain ⟨g42, e_g42⟩ : ∃ z : Nat → Int32, z = (F_X11_number fS g33 g34 g35 letter 3).2.2.2 := ⟨_, rfl⟩
  have hp := hp g42 e_g42
  refine r_ws (I' := [[(o, .inr (9, [.ref aS, .ref aPast, .int known, .ref aSnap, .int kept, .ref aText, .int len, .int thr, .ref aOne, .ref aTwo, .ref aBoth, .ref aWord, .int cre, .ref aOpen, .ref aTimes, .ref aFar, .ref aQueue, .long x37]))], [(aS, .inl (cI, 335, .inl fS))], [(aOne, .inl (cI, 4, .inl g40))], [(aTwo, .inl (cI, 4, .inl g41))], [(aBoth, .inl (cI, 4, .inl g42))], [(aWord, .inl (cI, 20, .inl fWord))]]) (by rw [e_g40, e_g41, e_g42]; rfl) ?_
  refine r_i2l C dX11_addsLetter_39 rfl ?_
  refine r_callV (ci := 9) (wc := [[(o, .inr (9, [.ref aS, .ref aPast, .int known, .ref aSnap, .int kept, .ref aText, .int len, .int thr, .ref aOne, .ref aTwo, .ref aBoth, .ref aWord, .int cre, .ref aOpen, .ref aTimes, .ref aFar, .ref aQueue, .long x37]))]]) (wr := [[(aS, .inl (cI, 335, .inl fS))], [(aOne, .inl (cI, 4, .inl g40))], [(aTwo, .inl (cI, 4, .inl g41))], [(aBoth, .inl (cI, 4, .inl g42))], [(aWord, .inl (cI, 20, .inl fWord))]]) (st := []) C (m_X11_adds l D cI cL cP cJ o aS aPast aSnap aText aOne aTwo aBoth aWord aOpen aTimes aFar aQueue known kept len thr cre x37 ((r39 : Int32).toInt64)) k_X11_adds t_1256 [0, 1, 2, 3, 4, 5] (show ([0, 1, 2, 3, 4, 5] : List Nat).Perm (List.range 6) by decide) rfl rfl rfl (q0 := 0) rfl rfl rfl (Nat.le_of_ble_eq_true rfl) ⟨Nat.le_of_ble_eq_true rfl, Nat.le_of_ble_eq_true rfl⟩ ⟨Nat.zero_le _, Nat.zero_le _⟩ dX11_addsLetter_40 (fun r43 wr43 hw43 => ?_)
  obtain rfl := hw43
  obtain ⟨x44, e_x44⟩ : ∃ z : Int64, z = F_X11_adds x37 ((r39 : Int32).toInt64) := ⟨_, rfl⟩
  have hp := hp x44 e_x44
  refine r_ws (I' := [[(o, .inr (9, [.ref aS, .ref aPast, .int known, .ref aSnap, .int kept, .ref aText, .int len, .int thr, .ref aOne, .ref aTwo, .ref aBoth, .ref aWord, .int cre, .ref aOpen, .ref aTimes, .ref aFar, .ref aQueue, .long x44]))], [(aS, .inl (cI, 335, .inl fS))], [(aOne, .inl (cI, 4, .inl g40))], [(aTwo, .inl (cI, 4, .inl g41))], [(aBoth, .inl (cI, 4, .inl g42))], [(aWord, .inl (cI, 20, .inl fWord))]]) (by rw [e_x44]; rfl) ?_
  refine r_iinc (v := 4) (L' := [(2, .int 4), (0, .ref o), (1, .int letter)]) C dX11_addsLetter_43 0 rfl (by decide) (by decide) rfl ?_
  refine r_goto (tgt := 26) C dX11_addsLetter_46 (by decide) ?_
  refine r_iload_n C dX11_addsLetter_26 0 rfl ?_
  refine r_bipush (v := 10) C dX11_addsLetter_27 (by decide) ?_
  refine r_icmp_gt (tgt := 49) C dX11_addsLetter_29 (by decide) (fun c => absurd c (by decide)) (fun _ => ?_)
  refine r_aload_n C dX11_addsLetter_32 1 rfl ?_
  refine r_aload_n C dX11_addsLetter_33 1 rfl ?_
  refine r_iload_n C dX11_addsLetter_34 2 rfl ?_
  refine r_iload_n C dX11_addsLetter_35 0 rfl ?_
  obtain ⟨h45, hp⟩ := hp
  refine r_callV (ci := 9) (wc := [[(o, .inr (9, [.ref aS, .ref aPast, .int known, .ref aSnap, .int kept, .ref aText, .int len, .int thr, .ref aOne, .ref aTwo, .ref aBoth, .ref aWord, .int cre, .ref aOpen, .ref aTimes, .ref aFar, .ref aQueue, .long x44]))], [(aS, .inl (cI, 335, .inl fS))], [(aOne, .inl (cI, 4, .inl g40))], [(aTwo, .inl (cI, 4, .inl g41))], [(aBoth, .inl (cI, 4, .inl g42))]]) (wr := [[(aWord, .inl (cI, 20, .inl fWord))]]) (st := [.ref o]) C (m_X11_number l D cI cL cP cJ o aS aPast aSnap aText aOne aTwo aBoth aWord aOpen aTimes aFar aQueue known kept len thr cre x44 fS g40 g41 g42 letter 4 h45) k_X11_number t_1147 [0, 1, 2, 3, 4, 5] (show ([0, 1, 2, 3, 4, 5] : List Nat).Perm (List.range 6) by decide) rfl rfl rfl (q0 := 0) rfl rfl rfl (Nat.le_of_ble_eq_true rfl) ⟨Nat.le_of_ble_eq_true rfl, Nat.le_of_ble_eq_true rfl⟩ ⟨Nat.zero_le _, Nat.zero_le _⟩ dX11_addsLetter_36 (fun r46 wr46 hw46 => ?_)
  obtain ⟨e_r46, rfl⟩ := hw46
  have hp := hp r46 e_r46
  obtain ⟨g47, e_g47⟩ : ∃ z : Nat → Int32, z = (F_X11_number fS g40 g41 g42 letter 4).2.1 := ⟨_, rfl⟩
  have hp := hp g47 e_g47
  obtain ⟨g48, e_g48⟩ : ∃ z : Nat → Int32, z = (F_X11_number fS g40 g41 g42 letter 4).2.2.1 := ⟨_, rfl⟩
  have hp := hp g48 e_g48
  obtain ⟨g49, e_g49⟩ : ∃ z : Nat → Int32, z = (F_X11_number fS g40 g41 g42 letter 4).2.2.2 := ⟨_, rfl⟩
  have hp := hp g49 e_g49
  refine r_ws (I' := [[(o, .inr (9, [.ref aS, .ref aPast, .int known, .ref aSnap, .int kept, .ref aText, .int len, .int thr, .ref aOne, .ref aTwo, .ref aBoth, .ref aWord, .int cre, .ref aOpen, .ref aTimes, .ref aFar, .ref aQueue, .long x44]))], [(aS, .inl (cI, 335, .inl fS))], [(aOne, .inl (cI, 4, .inl g47))], [(aTwo, .inl (cI, 4, .inl g48))], [(aBoth, .inl (cI, 4, .inl g49))], [(aWord, .inl (cI, 20, .inl fWord))]]) (by rw [e_g47, e_g48, e_g49]; rfl) ?_
  refine r_i2l C dX11_addsLetter_39 rfl ?_
  refine r_callV (ci := 9) (wc := [[(o, .inr (9, [.ref aS, .ref aPast, .int known, .ref aSnap, .int kept, .ref aText, .int len, .int thr, .ref aOne, .ref aTwo, .ref aBoth, .ref aWord, .int cre, .ref aOpen, .ref aTimes, .ref aFar, .ref aQueue, .long x44]))]]) (wr := [[(aS, .inl (cI, 335, .inl fS))], [(aOne, .inl (cI, 4, .inl g47))], [(aTwo, .inl (cI, 4, .inl g48))], [(aBoth, .inl (cI, 4, .inl g49))], [(aWord, .inl (cI, 20, .inl fWord))]]) (st := []) C (m_X11_adds l D cI cL cP cJ o aS aPast aSnap aText aOne aTwo aBoth aWord aOpen aTimes aFar aQueue known kept len thr cre x44 ((r46 : Int32).toInt64)) k_X11_adds t_1256 [0, 1, 2, 3, 4, 5] (show ([0, 1, 2, 3, 4, 5] : List Nat).Perm (List.range 6) by decide) rfl rfl rfl (q0 := 0) rfl rfl rfl (Nat.le_of_ble_eq_true rfl) ⟨Nat.le_of_ble_eq_true rfl, Nat.le_of_ble_eq_true rfl⟩ ⟨Nat.zero_le _, Nat.zero_le _⟩ dX11_addsLetter_40 (fun r50 wr50 hw50 => ?_)
  obtain rfl := hw50
  obtain ⟨x51, e_x51⟩ : ∃ z : Int64, z = F_X11_adds x44 ((r46 : Int32).toInt64) := ⟨_, rfl⟩
  have hp := hp x51 e_x51
  refine r_ws (I' := [[(o, .inr (9, [.ref aS, .ref aPast, .int known, .ref aSnap, .int kept, .ref aText, .int len, .int thr, .ref aOne, .ref aTwo, .ref aBoth, .ref aWord, .int cre, .ref aOpen, .ref aTimes, .ref aFar, .ref aQueue, .long x51]))], [(aS, .inl (cI, 335, .inl fS))], [(aOne, .inl (cI, 4, .inl g47))], [(aTwo, .inl (cI, 4, .inl g48))], [(aBoth, .inl (cI, 4, .inl g49))], [(aWord, .inl (cI, 20, .inl fWord))]]) (by rw [e_x51]; rfl) ?_
  refine r_iinc (v := 5) (L' := [(2, .int 5), (0, .ref o), (1, .int letter)]) C dX11_addsLetter_43 0 rfl (by decide) (by decide) rfl ?_
  refine r_goto (tgt := 26) C dX11_addsLetter_46 (by decide) ?_
  refine r_iload_n C dX11_addsLetter_26 0 rfl ?_
  refine r_bipush (v := 10) C dX11_addsLetter_27 (by decide) ?_
  refine r_icmp_gt (tgt := 49) C dX11_addsLetter_29 (by decide) (fun c => absurd c (by decide)) (fun _ => ?_)
  refine r_aload_n C dX11_addsLetter_32 1 rfl ?_
  refine r_aload_n C dX11_addsLetter_33 1 rfl ?_
  refine r_iload_n C dX11_addsLetter_34 2 rfl ?_
  refine r_iload_n C dX11_addsLetter_35 0 rfl ?_
  obtain ⟨h52, hp⟩ := hp
  refine r_callV (ci := 9) (wc := [[(o, .inr (9, [.ref aS, .ref aPast, .int known, .ref aSnap, .int kept, .ref aText, .int len, .int thr, .ref aOne, .ref aTwo, .ref aBoth, .ref aWord, .int cre, .ref aOpen, .ref aTimes, .ref aFar, .ref aQueue, .long x51]))], [(aS, .inl (cI, 335, .inl fS))], [(aOne, .inl (cI, 4, .inl g47))], [(aTwo, .inl (cI, 4, .inl g48))], [(aBoth, .inl (cI, 4, .inl g49))]]) (wr := [[(aWord, .inl (cI, 20, .inl fWord))]]) (st := [.ref o]) C (m_X11_number l D cI cL cP cJ o aS aPast aSnap aText aOne aTwo aBoth aWord aOpen aTimes aFar aQueue known kept len thr cre x51 fS g47 g48 g49 letter 5 h52) k_X11_number t_1147 [0, 1, 2, 3, 4, 5] (show ([0, 1, 2, 3, 4, 5] : List Nat).Perm (List.range 6) by decide) rfl rfl rfl (q0 := 0) rfl rfl rfl (Nat.le_of_ble_eq_true rfl) ⟨Nat.le_of_ble_eq_true rfl, Nat.le_of_ble_eq_true rfl⟩ ⟨Nat.zero_le _, Nat.zero_le _⟩ dX11_addsLetter_36 (fun r53 wr53 hw53 => ?_)
  obtain ⟨e_r53, rfl⟩ := hw53
  have hp := hp r53 e_r53
  obtain ⟨g54, e_g54⟩ : ∃ z : Nat → Int32, z = (F_X11_number fS g47 g48 g49 letter 5).2.1 := ⟨_, rfl⟩
  have hp := hp g54 e_g54
  obtain ⟨g55, e_g55⟩ : ∃ z : Nat → Int32, z = (F_X11_number fS g47 g48 g49 letter 5).2.2.1 := ⟨_, rfl⟩
  have hp := hp g55 e_g55
  obtain ⟨g56, e_g56⟩ : ∃ z : Nat → Int32, z = (F_X11_number fS g47 g48 g49 letter 5).2.2.2 := ⟨_, rfl⟩
  have hp := hp g56 e_g56
  refine r_ws (I' := [[(o, .inr (9, [.ref aS, .ref aPast, .int known, .ref aSnap, .int kept, .ref aText, .int len, .int thr, .ref aOne, .ref aTwo, .ref aBoth, .ref aWord, .int cre, .ref aOpen, .ref aTimes, .ref aFar, .ref aQueue, .long x51]))], [(aS, .inl (cI, 335, .inl fS))], [(aOne, .inl (cI, 4, .inl g54))], [(aTwo, .inl (cI, 4, .inl g55))], [(aBoth, .inl (cI, 4, .inl g56))], [(aWord, .inl (cI, 20, .inl fWord))]]) (by rw [e_g54, e_g55, e_g56]; rfl) ?_
  refine r_i2l C dX11_addsLetter_39 rfl ?_
  refine r_callV (ci := 9) (wc := [[(o, .inr (9, [.ref aS, .ref aPast, .int known, .ref aSnap, .int kept, .ref aText, .int len, .int thr, .ref aOne, .ref aTwo, .ref aBoth, .ref aWord, .int cre, .ref aOpen, .ref aTimes, .ref aFar, .ref aQueue, .long x51]))]]) (wr := [[(aS, .inl (cI, 335, .inl fS))], [(aOne, .inl (cI, 4, .inl g54))], [(aTwo, .inl (cI, 4, .inl g55))], [(aBoth, .inl (cI, 4, .inl g56))], [(aWord, .inl (cI, 20, .inl fWord))]]) (st := []) C (m_X11_adds l D cI cL cP cJ o aS aPast aSnap aText aOne aTwo aBoth aWord aOpen aTimes aFar aQueue known kept len thr cre x51 ((r53 : Int32).toInt64)) k_X11_adds t_1256 [0, 1, 2, 3, 4, 5] (show ([0, 1, 2, 3, 4, 5] : List Nat).Perm (List.range 6) by decide) rfl rfl rfl (q0 := 0) rfl rfl rfl (Nat.le_of_ble_eq_true rfl) ⟨Nat.le_of_ble_eq_true rfl, Nat.le_of_ble_eq_true rfl⟩ ⟨Nat.zero_le _, Nat.zero_le _⟩ dX11_addsLetter_40 (fun r57 wr57 hw57 => ?_)
  obtain rfl := hw57
  obtain ⟨x58, e_x58⟩ : ∃ z : Int64, z = F_X11_adds x51 ((r53 : Int32).toInt64) := ⟨_, rfl⟩
  have hp := hp x58 e_x58
  refine r_ws (I' := [[(o, .inr (9, [.ref aS, .ref aPast, .int known, .ref aSnap, .int kept, .ref aText, .int len, .int thr, .ref aOne, .ref aTwo, .ref aBoth, .ref aWord, .int cre, .ref aOpen, .ref aTimes, .ref aFar, .ref aQueue, .long x58]))], [(aS, .inl (cI, 335, .inl fS))], [(aOne, .inl (cI, 4, .inl g54))], [(aTwo, .inl (cI, 4, .inl g55))], [(aBoth, .inl (cI, 4, .inl g56))], [(aWord, .inl (cI, 20, .inl fWord))]]) (by rw [e_x58]; rfl) ?_
  refine r_iinc (v := 6) (L' := [(2, .int 6), (0, .ref o), (1, .int letter)]) C dX11_addsLetter_43 0 rfl (by decide) (by decide) rfl ?_
  refine r_goto (tgt := 26) C dX11_addsLetter_46 (by decide) ?_
  refine r_iload_n C dX11_addsLetter_26 0 rfl ?_
  refine r_bipush (v := 10) C dX11_addsLetter_27 (by decide) ?_
  refine r_icmp_gt (tgt := 49) C dX11_addsLetter_29 (by decide) (fun c => absurd c (by decide)) (fun _ => ?_)
  refine r_aload_n C dX11_addsLetter_32 1 rfl ?_
  refine r_aload_n C dX11_addsLetter_33 1 rfl ?_
  refine r_iload_n C dX11_addsLetter_34 2 rfl ?_
  refine r_iload_n C dX11_addsLetter_35 0 rfl ?_
  obtain ⟨h59, hp⟩ := hp
  refine r_callV (ci := 9) (wc := [[(o, .inr (9, [.ref aS, .ref aPast, .int known, .ref aSnap, .int kept, .ref aText, .int len, .int thr, .ref aOne, .ref aTwo, .ref aBoth, .ref aWord, .int cre, .ref aOpen, .ref aTimes, .ref aFar, .ref aQueue, .long x58]))], [(aS, .inl (cI, 335, .inl fS))], [(aOne, .inl (cI, 4, .inl g54))], [(aTwo, .inl (cI, 4, .inl g55))], [(aBoth, .inl (cI, 4, .inl g56))]]) (wr := [[(aWord, .inl (cI, 20, .inl fWord))]]) (st := [.ref o]) C (m_X11_number l D cI cL cP cJ o aS aPast aSnap aText aOne aTwo aBoth aWord aOpen aTimes aFar aQueue known kept len thr cre x58 fS g54 g55 g56 letter 6 h59) k_X11_number t_1147 [0, 1, 2, 3, 4, 5] (show ([0, 1, 2, 3, 4, 5] : List Nat).Perm (List.range 6) by decide) rfl rfl rfl (q0 := 0) rfl rfl rfl (Nat.le_of_ble_eq_true rfl) ⟨Nat.le_of_ble_eq_true rfl, Nat.le_of_ble_eq_true rfl⟩ ⟨Nat.zero_le _, Nat.zero_le _⟩ dX11_addsLetter_36 (fun r60 wr60 hw60 => ?_)
  obtain ⟨e_r60, rfl⟩ := hw60
  have hp := hp r60 e_r60
  obtain ⟨g61, e_g61⟩ : ∃ z : Nat → Int32, z = (F_X11_number fS g54 g55 g56 letter 6).2.1 := ⟨_, rfl⟩
  have hp := hp g61 e_g61
  obtain ⟨g62, e_g62⟩ : ∃ z : Nat → Int32, z = (F_X11_number fS g54 g55 g56 letter 6).2.2.1 := ⟨_, rfl⟩
  have hp := hp g62 e_g62
  obtain ⟨g63, e_g63⟩ : ∃ z : Nat → Int32, z = (F_X11_number fS g54 g55 g56 letter 6).2.2.2 := ⟨_, rfl⟩
  have hp := hp g63 e_g63
  refine r_ws (I' := [[(o, .inr (9, [.ref aS, .ref aPast, .int known, .ref aSnap, .int kept, .ref aText, .int len, .int thr, .ref aOne, .ref aTwo, .ref aBoth, .ref aWord, .int cre, .ref aOpen, .ref aTimes, .ref aFar, .ref aQueue, .long x58]))], [(aS, .inl (cI, 335, .inl fS))], [(aOne, .inl (cI, 4, .inl g61))], [(aTwo, .inl (cI, 4, .inl g62))], [(aBoth, .inl (cI, 4, .inl g63))], [(aWord, .inl (cI, 20, .inl fWord))]]) (by rw [e_g61, e_g62, e_g63]; rfl) ?_
  refine r_i2l C dX11_addsLetter_39 rfl ?_
  refine r_callV (ci := 9) (wc := [[(o, .inr (9, [.ref aS, .ref aPast, .int known, .ref aSnap, .int kept, .ref aText, .int len, .int thr, .ref aOne, .ref aTwo, .ref aBoth, .ref aWord, .int cre, .ref aOpen, .ref aTimes, .ref aFar, .ref aQueue, .long x58]))]]) (wr := [[(aS, .inl (cI, 335, .inl fS))], [(aOne, .inl (cI, 4, .inl g61))], [(aTwo, .inl (cI, 4, .inl g62))], [(aBoth, .inl (cI, 4, .inl g63))], [(aWord, .inl (cI, 20, .inl fWord))]]) (st := []) C (m_X11_adds l D cI cL cP cJ o aS aPast aSnap aText aOne aTwo aBoth aWord aOpen aTimes aFar aQueue known kept len thr cre x58 ((r60 : Int32).toInt64)) k_X11_adds t_1256 [0, 1, 2, 3, 4, 5] (show ([0, 1, 2, 3, 4, 5] : List Nat).Perm (List.range 6) by decide) rfl rfl rfl (q0 := 0) rfl rfl rfl (Nat.le_of_ble_eq_true rfl) ⟨Nat.le_of_ble_eq_true rfl, Nat.le_of_ble_eq_true rfl⟩ ⟨Nat.zero_le _, Nat.zero_le _⟩ dX11_addsLetter_40 (fun r64 wr64 hw64 => ?_)
  obtain rfl := hw64
  obtain ⟨x65, e_x65⟩ : ∃ z : Int64, z = F_X11_adds x58 ((r60 : Int32).toInt64) := ⟨_, rfl⟩
  have hp := hp x65 e_x65
  refine r_ws (I' := [[(o, .inr (9, [.ref aS, .ref aPast, .int known, .ref aSnap, .int kept, .ref aText, .int len, .int thr, .ref aOne, .ref aTwo, .ref aBoth, .ref aWord, .int cre, .ref aOpen, .ref aTimes, .ref aFar, .ref aQueue, .long x65]))], [(aS, .inl (cI, 335, .inl fS))], [(aOne, .inl (cI, 4, .inl g61))], [(aTwo, .inl (cI, 4, .inl g62))], [(aBoth, .inl (cI, 4, .inl g63))], [(aWord, .inl (cI, 20, .inl fWord))]]) (by rw [e_x65]; rfl) ?_
  refine r_iinc (v := 7) (L' := [(2, .int 7), (0, .ref o), (1, .int letter)]) C dX11_addsLetter_43 0 rfl (by decide) (by decide) rfl ?_
  refine r_goto (tgt := 26) C dX11_addsLetter_46 (by decide) ?_
  refine r_iload_n C dX11_addsLetter_26 0 rfl ?_
  refine r_bipush (v := 10) C dX11_addsLetter_27 (by decide) ?_
  refine r_icmp_gt (tgt := 49) C dX11_addsLetter_29 (by decide) (fun c => absurd c (by decide)) (fun _ => ?_)
  refine r_aload_n C dX11_addsLetter_32 1 rfl ?_
  refine r_aload_n C dX11_addsLetter_33 1 rfl ?_
  refine r_iload_n C dX11_addsLetter_34 2 rfl ?_
  refine r_iload_n C dX11_addsLetter_35 0 rfl ?_
  obtain ⟨h66, hp⟩ := hp
  refine r_callV (ci := 9) (wc := [[(o, .inr (9, [.ref aS, .ref aPast, .int known, .ref aSnap, .int kept, .ref aText, .int len, .int thr, .ref aOne, .ref aTwo, .ref aBoth, .ref aWord, .int cre, .ref aOpen, .ref aTimes, .ref aFar, .ref aQueue, .long x65]))], [(aS, .inl (cI, 335, .inl fS))], [(aOne, .inl (cI, 4, .inl g61))], [(aTwo, .inl (cI, 4, .inl g62))], [(aBoth, .inl (cI, 4, .inl g63))]]) (wr := [[(aWord, .inl (cI, 20, .inl fWord))]]) (st := [.ref o]) C (m_X11_number l D cI cL cP cJ o aS aPast aSnap aText aOne aTwo aBoth aWord aOpen aTimes aFar aQueue known kept len thr cre x65 fS g61 g62 g63 letter 7 h66) k_X11_number t_1147 [0, 1, 2, 3, 4, 5] (show ([0, 1, 2, 3, 4, 5] : List Nat).Perm (List.range 6) by decide) rfl rfl rfl (q0 := 0) rfl rfl rfl (Nat.le_of_ble_eq_true rfl) ⟨Nat.le_of_ble_eq_true rfl, Nat.le_of_ble_eq_true rfl⟩ ⟨Nat.zero_le _, Nat.zero_le _⟩ dX11_addsLetter_36 (fun r67 wr67 hw67 => ?_)
  obtain ⟨e_r67, rfl⟩ := hw67
  have hp := hp r67 e_r67
  obtain ⟨g68, e_g68⟩ : ∃ z : Nat → Int32, z = (F_X11_number fS g61 g62 g63 letter 7).2.1 := ⟨_, rfl⟩
  have hp := hp g68 e_g68
  obtain ⟨g69, e_g69⟩ : ∃ z : Nat → Int32, z = (F_X11_number fS g61 g62 g63 letter 7).2.2.1 := ⟨_, rfl⟩
  have hp := hp g69 e_g69
  obtain ⟨g70, e_g70⟩ : ∃ z : Nat → Int32, z = (F_X11_number fS g61 g62 g63 letter 7).2.2.2 := ⟨_, rfl⟩
  have hp := hp g70 e_g70
  refine r_ws (I' := [[(o, .inr (9, [.ref aS, .ref aPast, .int known, .ref aSnap, .int kept, .ref aText, .int len, .int thr, .ref aOne, .ref aTwo, .ref aBoth, .ref aWord, .int cre, .ref aOpen, .ref aTimes, .ref aFar, .ref aQueue, .long x65]))], [(aS, .inl (cI, 335, .inl fS))], [(aOne, .inl (cI, 4, .inl g68))], [(aTwo, .inl (cI, 4, .inl g69))], [(aBoth, .inl (cI, 4, .inl g70))], [(aWord, .inl (cI, 20, .inl fWord))]]) (by rw [e_g68, e_g69, e_g70]; rfl) ?_
  refine r_i2l C dX11_addsLetter_39 rfl ?_
  refine r_callV (ci := 9) (wc := [[(o, .inr (9, [.ref aS, .ref aPast, .int known, .ref aSnap, .int kept, .ref aText, .int len, .int thr, .ref aOne, .ref aTwo, .ref aBoth, .ref aWord, .int cre, .ref aOpen, .ref aTimes, .ref aFar, .ref aQueue, .long x65]))]]) (wr := [[(aS, .inl (cI, 335, .inl fS))], [(aOne, .inl (cI, 4, .inl g68))], [(aTwo, .inl (cI, 4, .inl g69))], [(aBoth, .inl (cI, 4, .inl g70))], [(aWord, .inl (cI, 20, .inl fWord))]]) (st := []) C (m_X11_adds l D cI cL cP cJ o aS aPast aSnap aText aOne aTwo aBoth aWord aOpen aTimes aFar aQueue known kept len thr cre x65 ((r67 : Int32).toInt64)) k_X11_adds t_1256 [0, 1, 2, 3, 4, 5] (show ([0, 1, 2, 3, 4, 5] : List Nat).Perm (List.range 6) by decide) rfl rfl rfl (q0 := 0) rfl rfl rfl (Nat.le_of_ble_eq_true rfl) ⟨Nat.le_of_ble_eq_true rfl, Nat.le_of_ble_eq_true rfl⟩ ⟨Nat.zero_le _, Nat.zero_le _⟩ dX11_addsLetter_40 (fun r71 wr71 hw71 => ?_)
  obtain rfl := hw71
  obtain ⟨x72, e_x72⟩ : ∃ z : Int64, z = F_X11_adds x65 ((r67 : Int32).toInt64) := ⟨_, rfl⟩
  have hp := hp x72 e_x72
  refine r_ws (I' := [[(o, .inr (9, [.ref aS, .ref aPast, .int known, .ref aSnap, .int kept, .ref aText, .int len, .int thr, .ref aOne, .ref aTwo, .ref aBoth, .ref aWord, .int cre, .ref aOpen, .ref aTimes, .ref aFar, .ref aQueue, .long x72]))], [(aS, .inl (cI, 335, .inl fS))], [(aOne, .inl (cI, 4, .inl g68))], [(aTwo, .inl (cI, 4, .inl g69))], [(aBoth, .inl (cI, 4, .inl g70))], [(aWord, .inl (cI, 20, .inl fWord))]]) (by rw [e_x72]; rfl) ?_
  refine r_iinc (v := 8) (L' := [(2, .int 8), (0, .ref o), (1, .int letter)]) C dX11_addsLetter_43 0 rfl (by decide) (by decide) rfl ?_
  refine r_goto (tgt := 26) C dX11_addsLetter_46 (by decide) ?_
  refine r_iload_n C dX11_addsLetter_26 0 rfl ?_
  refine r_bipush (v := 10) C dX11_addsLetter_27 (by decide) ?_
  refine r_icmp_gt (tgt := 49) C dX11_addsLetter_29 (by decide) (fun c => absurd c (by decide)) (fun _ => ?_)
  refine r_aload_n C dX11_addsLetter_32 1 rfl ?_
  refine r_aload_n C dX11_addsLetter_33 1 rfl ?_
  refine r_iload_n C dX11_addsLetter_34 2 rfl ?_
  refine r_iload_n C dX11_addsLetter_35 0 rfl ?_
  obtain ⟨h73, hp⟩ := hp
  refine r_callV (ci := 9) (wc := [[(o, .inr (9, [.ref aS, .ref aPast, .int known, .ref aSnap, .int kept, .ref aText, .int len, .int thr, .ref aOne, .ref aTwo, .ref aBoth, .ref aWord, .int cre, .ref aOpen, .ref aTimes, .ref aFar, .ref aQueue, .long x72]))], [(aS, .inl (cI, 335, .inl fS))], [(aOne, .inl (cI, 4, .inl g68))], [(aTwo, .inl (cI, 4, .inl g69))], [(aBoth, .inl (cI, 4, .inl g70))]]) (wr := [[(aWord, .inl (cI, 20, .inl fWord))]]) (st := [.ref o]) C (m_X11_number l D cI cL cP cJ o aS aPast aSnap aText aOne aTwo aBoth aWord aOpen aTimes aFar aQueue known kept len thr cre x72 fS g68 g69 g70 letter 8 h73) k_X11_number t_1147 [0, 1, 2, 3, 4, 5] (show ([0, 1, 2, 3, 4, 5] : List Nat).Perm (List.range 6) by decide) rfl rfl rfl (q0 := 0) rfl rfl rfl (Nat.le_of_ble_eq_true rfl) ⟨Nat.le_of_ble_eq_true rfl, Nat.le_of_ble_eq_true rfl⟩ ⟨Nat.zero_le _, Nat.zero_le _⟩ dX11_addsLetter_36 (fun r74 wr74 hw74 => ?_)
  obtain ⟨e_r74, rfl⟩ := hw74
  have hp := hp r74 e_r74
  obtain ⟨g75, e_g75⟩ : ∃ z : Nat → Int32, z = (F_X11_number fS g68 g69 g70 letter 8).2.1 := ⟨_, rfl⟩
  have hp := hp g75 e_g75
  obtain ⟨g76, e_g76⟩ : ∃ z : Nat → Int32, z = (F_X11_number fS g68 g69 g70 letter 8).2.2.1 := ⟨_, rfl⟩
  have hp := hp g76 e_g76
  obtain ⟨g77, e_g77⟩ : ∃ z : Nat → Int32, z = (F_X11_number fS g68 g69 g70 letter 8).2.2.2 := ⟨_, rfl⟩
  have hp := hp g77 e_g77
  refine r_ws (I' := [[(o, .inr (9, [.ref aS, .ref aPast, .int known, .ref aSnap, .int kept, .ref aText, .int len, .int thr, .ref aOne, .ref aTwo, .ref aBoth, .ref aWord, .int cre, .ref aOpen, .ref aTimes, .ref aFar, .ref aQueue, .long x72]))], [(aS, .inl (cI, 335, .inl fS))], [(aOne, .inl (cI, 4, .inl g75))], [(aTwo, .inl (cI, 4, .inl g76))], [(aBoth, .inl (cI, 4, .inl g77))], [(aWord, .inl (cI, 20, .inl fWord))]]) (by rw [e_g75, e_g76, e_g77]; rfl) ?_
  refine r_i2l C dX11_addsLetter_39 rfl ?_
  refine r_callV (ci := 9) (wc := [[(o, .inr (9, [.ref aS, .ref aPast, .int known, .ref aSnap, .int kept, .ref aText, .int len, .int thr, .ref aOne, .ref aTwo, .ref aBoth, .ref aWord, .int cre, .ref aOpen, .ref aTimes, .ref aFar, .ref aQueue, .long x72]))]]) (wr := [[(aS, .inl (cI, 335, .inl fS))], [(aOne, .inl (cI, 4, .inl g75))], [(aTwo, .inl (cI, 4, .inl g76))], [(aBoth, .inl (cI, 4, .inl g77))], [(aWord, .inl (cI, 20, .inl fWord))]]) (st := []) C (m_X11_adds l D cI cL cP cJ o aS aPast aSnap aText aOne aTwo aBoth aWord aOpen aTimes aFar aQueue known kept len thr cre x72 ((r74 : Int32).toInt64)) k_X11_adds t_1256 [0, 1, 2, 3, 4, 5] (show ([0, 1, 2, 3, 4, 5] : List Nat).Perm (List.range 6) by decide) rfl rfl rfl (q0 := 0) rfl rfl rfl (Nat.le_of_ble_eq_true rfl) ⟨Nat.le_of_ble_eq_true rfl, Nat.le_of_ble_eq_true rfl⟩ ⟨Nat.zero_le _, Nat.zero_le _⟩ dX11_addsLetter_40 (fun r78 wr78 hw78 => ?_)
  obtain rfl := hw78
  obtain ⟨x79, e_x79⟩ : ∃ z : Int64, z = F_X11_adds x72 ((r74 : Int32).toInt64) := ⟨_, rfl⟩
  have hp := hp x79 e_x79
  refine r_ws (I' := [[(o, .inr (9, [.ref aS, .ref aPast, .int known, .ref aSnap, .int kept, .ref aText, .int len, .int thr, .ref aOne, .ref aTwo, .ref aBoth, .ref aWord, .int cre, .ref aOpen, .ref aTimes, .ref aFar, .ref aQueue, .long x79]))], [(aS, .inl (cI, 335, .inl fS))], [(aOne, .inl (cI, 4, .inl g75))], [(aTwo, .inl (cI, 4, .inl g76))], [(aBoth, .inl (cI, 4, .inl g77))], [(aWord, .inl (cI, 20, .inl fWord))]]) (by rw [e_x79]; rfl) ?_
  refine r_iinc (v := 9) (L' := [(2, .int 9), (0, .ref o), (1, .int letter)]) C dX11_addsLetter_43 0 rfl (by decide) (by decide) rfl ?_
  refine r_goto (tgt := 26) C dX11_addsLetter_46 (by decide) ?_
  refine r_iload_n C dX11_addsLetter_26 0 rfl ?_
  refine r_bipush (v := 10) C dX11_addsLetter_27 (by decide) ?_
  refine r_icmp_gt (tgt := 49) C dX11_addsLetter_29 (by decide) (fun c => absurd c (by decide)) (fun _ => ?_)
  refine r_aload_n C dX11_addsLetter_32 1 rfl ?_
  refine r_aload_n C dX11_addsLetter_33 1 rfl ?_
  refine r_iload_n C dX11_addsLetter_34 2 rfl ?_
  refine r_iload_n C dX11_addsLetter_35 0 rfl ?_
  obtain ⟨h80, hp⟩ := hp
  refine r_callV (ci := 9) (wc := [[(o, .inr (9, [.ref aS, .ref aPast, .int known, .ref aSnap, .int kept, .ref aText, .int len, .int thr, .ref aOne, .ref aTwo, .ref aBoth, .ref aWord, .int cre, .ref aOpen, .ref aTimes, .ref aFar, .ref aQueue, .long x79]))], [(aS, .inl (cI, 335, .inl fS))], [(aOne, .inl (cI, 4, .inl g75))], [(aTwo, .inl (cI, 4, .inl g76))], [(aBoth, .inl (cI, 4, .inl g77))]]) (wr := [[(aWord, .inl (cI, 20, .inl fWord))]]) (st := [.ref o]) C (m_X11_number l D cI cL cP cJ o aS aPast aSnap aText aOne aTwo aBoth aWord aOpen aTimes aFar aQueue known kept len thr cre x79 fS g75 g76 g77 letter 9 h80) k_X11_number t_1147 [0, 1, 2, 3, 4, 5] (show ([0, 1, 2, 3, 4, 5] : List Nat).Perm (List.range 6) by decide) rfl rfl rfl (q0 := 0) rfl rfl rfl (Nat.le_of_ble_eq_true rfl) ⟨Nat.le_of_ble_eq_true rfl, Nat.le_of_ble_eq_true rfl⟩ ⟨Nat.zero_le _, Nat.zero_le _⟩ dX11_addsLetter_36 (fun r81 wr81 hw81 => ?_)
  obtain ⟨e_r81, rfl⟩ := hw81
  have hp := hp r81 e_r81
  obtain ⟨g82, e_g82⟩ : ∃ z : Nat → Int32, z = (F_X11_number fS g75 g76 g77 letter 9).2.1 := ⟨_, rfl⟩
  have hp := hp g82 e_g82
  obtain ⟨g83, e_g83⟩ : ∃ z : Nat → Int32, z = (F_X11_number fS g75 g76 g77 letter 9).2.2.1 := ⟨_, rfl⟩
  have hp := hp g83 e_g83
  obtain ⟨g84, e_g84⟩ : ∃ z : Nat → Int32, z = (F_X11_number fS g75 g76 g77 letter 9).2.2.2 := ⟨_, rfl⟩
  have hp := hp g84 e_g84
  refine r_ws (I' := [[(o, .inr (9, [.ref aS, .ref aPast, .int known, .ref aSnap, .int kept, .ref aText, .int len, .int thr, .ref aOne, .ref aTwo, .ref aBoth, .ref aWord, .int cre, .ref aOpen, .ref aTimes, .ref aFar, .ref aQueue, .long x79]))], [(aS, .inl (cI, 335, .inl fS))], [(aOne, .inl (cI, 4, .inl g82))], [(aTwo, .inl (cI, 4, .inl g83))], [(aBoth, .inl (cI, 4, .inl g84))], [(aWord, .inl (cI, 20, .inl fWord))]]) (by rw [e_g82, e_g83, e_g84]; rfl) ?_
  refine r_i2l C dX11_addsLetter_39 rfl ?_
  refine r_callV (ci := 9) (wc := [[(o, .inr (9, [.ref aS, .ref aPast, .int known, .ref aSnap, .int kept, .ref aText, .int len, .int thr, .ref aOne, .ref aTwo, .ref aBoth, .ref aWord, .int cre, .ref aOpen, .ref aTimes, .ref aFar, .ref aQueue, .long x79]))]]) (wr := [[(aS, .inl (cI, 335, .inl fS))], [(aOne, .inl (cI, 4, .inl g82))], [(aTwo, .inl (cI, 4, .inl g83))], [(aBoth, .inl (cI, 4, .inl g84))], [(aWord, .inl (cI, 20, .inl fWord))]]) (st := []) C (m_X11_adds l D cI cL cP cJ o aS aPast aSnap aText aOne aTwo aBoth aWord aOpen aTimes aFar aQueue known kept len thr cre x79 ((r81 : Int32).toInt64)) k_X11_adds t_1256 [0, 1, 2, 3, 4, 5] (show ([0, 1, 2, 3, 4, 5] : List Nat).Perm (List.range 6) by decide) rfl rfl rfl (q0 := 0) rfl rfl rfl (Nat.le_of_ble_eq_true rfl) ⟨Nat.le_of_ble_eq_true rfl, Nat.le_of_ble_eq_true rfl⟩ ⟨Nat.zero_le _, Nat.zero_le _⟩ dX11_addsLetter_40 (fun r85 wr85 hw85 => ?_)
  obtain rfl := hw85
  obtain ⟨x86, e_x86⟩ : ∃ z : Int64, z = F_X11_adds x79 ((r81 : Int32).toInt64) := ⟨_, rfl⟩
  have hp := hp x86 e_x86
  refine r_ws (I' := [[(o, .inr (9, [.ref aS, .ref aPast, .int known, .ref aSnap, .int kept, .ref aText, .int len, .int thr, .ref aOne, .ref aTwo, .ref aBoth, .ref aWord, .int cre, .ref aOpen, .ref aTimes, .ref aFar, .ref aQueue, .long x86]))], [(aS, .inl (cI, 335, .inl fS))], [(aOne, .inl (cI, 4, .inl g82))], [(aTwo, .inl (cI, 4, .inl g83))], [(aBoth, .inl (cI, 4, .inl g84))], [(aWord, .inl (cI, 20, .inl fWord))]]) (by rw [e_x86]; rfl) ?_
  refine r_iinc (v := 10) (L' := [(2, .int 10), (0, .ref o), (1, .int letter)]) C dX11_addsLetter_43 0 rfl (by decide) (by decide) rfl ?_
  refine r_goto (tgt := 26) C dX11_addsLetter_46 (by decide) ?_
  refine r_iload_n C dX11_addsLetter_26 0 rfl ?_
  refine r_bipush (v := 10) C dX11_addsLetter_27 (by decide) ?_
  refine r_icmp_gt (tgt := 49) C dX11_addsLetter_29 (by decide) (fun c => absurd c (by decide)) (fun _ => ?_)
  refine r_aload_n C dX11_addsLetter_32 1 rfl ?_
  refine r_aload_n C dX11_addsLetter_33 1 rfl ?_
  refine r_iload_n C dX11_addsLetter_34 2 rfl ?_
  refine r_iload_n C dX11_addsLetter_35 0 rfl ?_
  obtain ⟨h87, hp⟩ := hp
  refine r_callV (ci := 9) (wc := [[(o, .inr (9, [.ref aS, .ref aPast, .int known, .ref aSnap, .int kept, .ref aText, .int len, .int thr, .ref aOne, .ref aTwo, .ref aBoth, .ref aWord, .int cre, .ref aOpen, .ref aTimes, .ref aFar, .ref aQueue, .long x86]))], [(aS, .inl (cI, 335, .inl fS))], [(aOne, .inl (cI, 4, .inl g82))], [(aTwo, .inl (cI, 4, .inl g83))], [(aBoth, .inl (cI, 4, .inl g84))]]) (wr := [[(aWord, .inl (cI, 20, .inl fWord))]]) (st := [.ref o]) C (m_X11_number l D cI cL cP cJ o aS aPast aSnap aText aOne aTwo aBoth aWord aOpen aTimes aFar aQueue known kept len thr cre x86 fS g82 g83 g84 letter 10 h87) k_X11_number t_1147 [0, 1, 2, 3, 4, 5] (show ([0, 1, 2, 3, 4, 5] : List Nat).Perm (List.range 6) by decide) rfl rfl rfl (q0 := 0) rfl rfl rfl (Nat.le_of_ble_eq_true rfl) ⟨Nat.le_of_ble_eq_true rfl, Nat.le_of_ble_eq_true rfl⟩ ⟨Nat.zero_le _, Nat.zero_le _⟩ dX11_addsLetter_36 (fun r88 wr88 hw88 => ?_)
  obtain ⟨e_r88, rfl⟩ := hw88
  have hp := hp r88 e_r88
  obtain ⟨g89, e_g89⟩ : ∃ z : Nat → Int32, z = (F_X11_number fS g82 g83 g84 letter 10).2.1 := ⟨_, rfl⟩
  have hp := hp g89 e_g89
  obtain ⟨g90, e_g90⟩ : ∃ z : Nat → Int32, z = (F_X11_number fS g82 g83 g84 letter 10).2.2.1 := ⟨_, rfl⟩
  have hp := hp g90 e_g90
  obtain ⟨g91, e_g91⟩ : ∃ z : Nat → Int32, z = (F_X11_number fS g82 g83 g84 letter 10).2.2.2 := ⟨_, rfl⟩
  have hp := hp g91 e_g91
  refine r_ws (I' := [[(o, .inr (9, [.ref aS, .ref aPast, .int known, .ref aSnap, .int kept, .ref aText, .int len, .int thr, .ref aOne, .ref aTwo, .ref aBoth, .ref aWord, .int cre, .ref aOpen, .ref aTimes, .ref aFar, .ref aQueue, .long x86]))], [(aS, .inl (cI, 335, .inl fS))], [(aOne, .inl (cI, 4, .inl g89))], [(aTwo, .inl (cI, 4, .inl g90))], [(aBoth, .inl (cI, 4, .inl g91))], [(aWord, .inl (cI, 20, .inl fWord))]]) (by rw [e_g89, e_g90, e_g91]; rfl) ?_
  refine r_i2l C dX11_addsLetter_39 rfl ?_
  refine r_callV (ci := 9) (wc := [[(o, .inr (9, [.ref aS, .ref aPast, .int known, .ref aSnap, .int kept, .ref aText, .int len, .int thr, .ref aOne, .ref aTwo, .ref aBoth, .ref aWord, .int cre, .ref aOpen, .ref aTimes, .ref aFar, .ref aQueue, .long x86]))]]) (wr := [[(aS, .inl (cI, 335, .inl fS))], [(aOne, .inl (cI, 4, .inl g89))], [(aTwo, .inl (cI, 4, .inl g90))], [(aBoth, .inl (cI, 4, .inl g91))], [(aWord, .inl (cI, 20, .inl fWord))]]) (st := []) C (m_X11_adds l D cI cL cP cJ o aS aPast aSnap aText aOne aTwo aBoth aWord aOpen aTimes aFar aQueue known kept len thr cre x86 ((r88 : Int32).toInt64)) k_X11_adds t_1256 [0, 1, 2, 3, 4, 5] (show ([0, 1, 2, 3, 4, 5] : List Nat).Perm (List.range 6) by decide) rfl rfl rfl (q0 := 0) rfl rfl rfl (Nat.le_of_ble_eq_true rfl) ⟨Nat.le_of_ble_eq_true rfl, Nat.le_of_ble_eq_true rfl⟩ ⟨Nat.zero_le _, Nat.zero_le _⟩ dX11_addsLetter_40 (fun r92 wr92 hw92 => ?_)
  obtain rfl := hw92
  obtain ⟨x93, e_x93⟩ : ∃ z : Int64, z = F_X11_adds x86 ((r88 : Int32).toInt64) := ⟨_, rfl⟩
  have hp := hp x93 e_x93
  refine r_ws (I' := [[(o, .inr (9, [.ref aS, .ref aPast, .int known, .ref aSnap, .int kept, .ref aText, .int len, .int thr, .ref aOne, .ref aTwo, .ref aBoth, .ref aWord, .int cre, .ref aOpen, .ref aTimes, .ref aFar, .ref aQueue, .long x93]))], [(aS, .inl (cI, 335, .inl fS))], [(aOne, .inl (cI, 4, .inl g89))], [(aTwo, .inl (cI, 4, .inl g90))], [(aBoth, .inl (cI, 4, .inl g91))], [(aWord, .inl (cI, 20, .inl fWord))]]) (by rw [e_x93]; rfl) ?_
  refine r_iinc (v := 11) (L' := [(2, .int 11), (0, .ref o), (1, .int letter)]) C dX11_addsLetter_43 0 rfl (by decide) (by decide) rfl ?_
  refine r_goto (tgt := 26) C dX11_addsLetter_46 (by decide) ?_
  refine r_iload_n C dX11_addsLetter_26 0 rfl ?_
  refine r_bipush (v := 10) C dX11_addsLetter_27 (by decide) ?_
  refine r_icmp_gt (tgt := 49) C dX11_addsLetter_29 (by decide) (fun _ => ?_) (fun c => absurd c (by decide))
  refine r_iconst (v := 0) C dX11_addsLetter_49 (by decide) ?_
  refine r_istore_n (L' := [(2, .int 0), (0, .ref o), (1, .int letter)]) C dX11_addsLetter_50 (by decide) rfl ?_
  obtain ⟨hpl, hp⟩ := hp
  have hL : ∀ (nn : Nat) (y94 : Int32) (k95 : Int64), P_X11_addsLetter_L51 fS letter nn y94 k95 → (∀ z104 : Int32, z104 = (F_X11_addsLetter_L51 fS letter nn y94 k95).1 → ∀ f105 : Int64, f105 = (F_X11_addsLetter_L51 fS letter nn y94 k95).2 → V p l e (rmm 5 115) s m args below meth c 3 D A 0 0 Q [[(o, .inr (9, [.ref aS, .ref aPast, .int known, .ref aSnap, .int kept, .ref aText, .int len, .int thr, .ref aOne, .ref aTwo, .ref aBoth, .ref aWord, .int cre, .ref aOpen, .ref aTimes, .ref aFar, .ref aQueue, .long f105]))], [(aS, .inl (cI, 335, .inl fS))], [(aOne, .inl (cI, 4, .inl g89))], [(aTwo, .inl (cI, 4, .inl g90))], [(aBoth, .inl (cI, 4, .inl g91))], [(aWord, .inl (cI, 20, .inl fWord))]] [(2, .int z104), (0, .ref o), (1, .int letter)] 81 []) → V p l e (rmm 5 115) s m args below meth c 3 D A 0 0 Q [[(o, .inr (9, [.ref aS, .ref aPast, .int known, .ref aSnap, .int kept, .ref aText, .int len, .int thr, .ref aOne, .ref aTwo, .ref aBoth, .ref aWord, .int cre, .ref aOpen, .ref aTimes, .ref aFar, .ref aQueue, .long k95]))], [(aS, .inl (cI, 335, .inl fS))], [(aOne, .inl (cI, 4, .inl g89))], [(aTwo, .inl (cI, 4, .inl g90))], [(aBoth, .inl (cI, 4, .inl g91))], [(aWord, .inl (cI, 20, .inl fWord))]] [(2, .int y94), (0, .ref o), (1, .int letter)] 51 [] := by
    clear hpl hp
    intro nn
    induction nn with
    | zero => intro y94 k95 hp kk; rw [P_X11_addsLetter_L51] at hp; exact hp.elim
    | succ nn ih =>
      intro y94 k95 hp kk
      rw [P_X11_addsLetter_L51] at hp
      refine r_iload_n C dX11_addsLetter_51 0 rfl ?_
      refine r_aload_n C dX11_addsLetter_52 1 rfl ?_
      refine r_iload_n C dX11_addsLetter_53 2 rfl ?_
      refine r_iconst (v := 4) C dX11_addsLetter_54 (by decide) ?_
      obtain ⟨h96, hp⟩ := hp
      refine r_callV (ci := 9) (wc := [[(o, .inr (9, [.ref aS, .ref aPast, .int known, .ref aSnap, .int kept, .ref aText, .int len, .int thr, .ref aOne, .ref aTwo, .ref aBoth, .ref aWord, .int cre, .ref aOpen, .ref aTimes, .ref aFar, .ref aQueue, .long k95]))], [(aS, .inl (cI, 335, .inl fS))]]) (wr := [[(aOne, .inl (cI, 4, .inl g89))], [(aTwo, .inl (cI, 4, .inl g90))], [(aBoth, .inl (cI, 4, .inl g91))], [(aWord, .inl (cI, 20, .inl fWord))]]) (st := [.int y94]) C (m_X11_its l D cI cL cP cJ o aS aPast aSnap aText aOne aTwo aBoth aWord aOpen aTimes aFar aQueue known kept len thr cre k95 fS letter 4 h96) k_X11_its t_966 [0, 1, 2, 3, 4, 5] (show ([0, 1, 2, 3, 4, 5] : List Nat).Perm (List.range 6) by decide) rfl rfl rfl (q0 := 0) rfl rfl rfl (Nat.le_of_ble_eq_true rfl) ⟨Nat.le_of_ble_eq_true rfl, Nat.le_of_ble_eq_true rfl⟩ ⟨Nat.zero_le _, Nat.zero_le _⟩ dX11_addsLetter_55 (fun r97 wr97 hw97 => ?_)
      obtain ⟨e_r97, rfl⟩ := hw97
      have hp := hp r97 e_r97
      refine r_ws (I' := [[(o, .inr (9, [.ref aS, .ref aPast, .int known, .ref aSnap, .int kept, .ref aText, .int len, .int thr, .ref aOne, .ref aTwo, .ref aBoth, .ref aWord, .int cre, .ref aOpen, .ref aTimes, .ref aFar, .ref aQueue, .long k95]))], [(aS, .inl (cI, 335, .inl fS))], [(aOne, .inl (cI, 4, .inl g89))], [(aTwo, .inl (cI, 4, .inl g90))], [(aBoth, .inl (cI, 4, .inl g91))], [(aWord, .inl (cI, 20, .inl fWord))]]) rfl ?_
      refine r_icmp_ge (tgt := 81) C dX11_addsLetter_58 (by decide) (fun c98 => ?_) (fun c98 => ?_)
      · have eF : F_X11_addsLetter_L51 fS letter (nn + 1) y94 k95 = (y94, k95) := by have q := e_r97.symm; subst q; simp only [F_X11_addsLetter_L51, if_pos c98]
        exact kk _ (by rw [eF]) _ (by rw [eF])
      · have hp := hp.2 c98
        refine r_aload_n C dX11_addsLetter_61 1 rfl ?_
        refine r_aload_n C dX11_addsLetter_62 1 rfl ?_
        refine r_iload_n C dX11_addsLetter_63 2 rfl ?_
        refine r_bipush (v := 7) C dX11_addsLetter_64 (by decide) ?_
        refine r_iload_n C dX11_addsLetter_66 0 rfl ?_
        refine r_iadd C dX11_addsLetter_67 rfl ?_
        obtain ⟨h99, hp⟩ := hp
        refine r_callV (ci := 9) (wc := [[(o, .inr (9, [.ref aS, .ref aPast, .int known, .ref aSnap, .int kept, .ref aText, .int len, .int thr, .ref aOne, .ref aTwo, .ref aBoth, .ref aWord, .int cre, .ref aOpen, .ref aTimes, .ref aFar, .ref aQueue, .long k95]))], [(aS, .inl (cI, 335, .inl fS))]]) (wr := [[(aOne, .inl (cI, 4, .inl g89))], [(aTwo, .inl (cI, 4, .inl g90))], [(aBoth, .inl (cI, 4, .inl g91))], [(aWord, .inl (cI, 20, .inl fWord))]]) (st := [.ref o]) C (m_X11_its l D cI cL cP cJ o aS aPast aSnap aText aOne aTwo aBoth aWord aOpen aTimes aFar aQueue known kept len thr cre k95 fS letter ((7 : Int32) + y94) h99) k_X11_its t_966 [0, 1, 2, 3, 4, 5] (show ([0, 1, 2, 3, 4, 5] : List Nat).Perm (List.range 6) by decide) rfl rfl rfl (q0 := 0) rfl rfl rfl (Nat.le_of_ble_eq_true rfl) ⟨Nat.le_of_ble_eq_true rfl, Nat.le_of_ble_eq_true rfl⟩ ⟨Nat.zero_le _, Nat.zero_le _⟩ dX11_addsLetter_68 (fun r100 wr100 hw100 => ?_)
        obtain ⟨e_r100, rfl⟩ := hw100
        have hp := hp r100 e_r100
        refine r_ws (I' := [[(o, .inr (9, [.ref aS, .ref aPast, .int known, .ref aSnap, .int kept, .ref aText, .int len, .int thr, .ref aOne, .ref aTwo, .ref aBoth, .ref aWord, .int cre, .ref aOpen, .ref aTimes, .ref aFar, .ref aQueue, .long k95]))], [(aS, .inl (cI, 335, .inl fS))], [(aOne, .inl (cI, 4, .inl g89))], [(aTwo, .inl (cI, 4, .inl g90))], [(aBoth, .inl (cI, 4, .inl g91))], [(aWord, .inl (cI, 20, .inl fWord))]]) rfl ?_
        refine r_i2l C dX11_addsLetter_71 rfl ?_
        refine r_callV (ci := 9) (wc := [[(o, .inr (9, [.ref aS, .ref aPast, .int known, .ref aSnap, .int kept, .ref aText, .int len, .int thr, .ref aOne, .ref aTwo, .ref aBoth, .ref aWord, .int cre, .ref aOpen, .ref aTimes, .ref aFar, .ref aQueue, .long k95]))]]) (wr := [[(aS, .inl (cI, 335, .inl fS))], [(aOne, .inl (cI, 4, .inl g89))], [(aTwo, .inl (cI, 4, .inl g90))], [(aBoth, .inl (cI, 4, .inl g91))], [(aWord, .inl (cI, 20, .inl fWord))]]) (st := []) C (m_X11_adds l D cI cL cP cJ o aS aPast aSnap aText aOne aTwo aBoth aWord aOpen aTimes aFar aQueue known kept len thr cre k95 ((r100 : Int32).toInt64)) k_X11_adds t_1256 [0, 1, 2, 3, 4, 5] (show ([0, 1, 2, 3, 4, 5] : List Nat).Perm (List.range 6) by decide) rfl rfl rfl (q0 := 0) rfl rfl rfl (Nat.le_of_ble_eq_true rfl) ⟨Nat.le_of_ble_eq_true rfl, Nat.le_of_ble_eq_true rfl⟩ ⟨Nat.zero_le _, Nat.zero_le _⟩ dX11_addsLetter_72 (fun r101 wr101 hw101 => ?_)
        obtain rfl := hw101
        obtain ⟨x102, e_x102⟩ : ∃ z : Int64, z = F_X11_adds k95 ((r100 : Int32).toInt64) := ⟨_, rfl⟩
        have hp := hp x102 e_x102
        refine r_ws (I' := [[(o, .inr (9, [.ref aS, .ref aPast, .int known, .ref aSnap, .int kept, .ref aText, .int len, .int thr, .ref aOne, .ref aTwo, .ref aBoth, .ref aWord, .int cre, .ref aOpen, .ref aTimes, .ref aFar, .ref aQueue, .long x102]))], [(aS, .inl (cI, 335, .inl fS))], [(aOne, .inl (cI, 4, .inl g89))], [(aTwo, .inl (cI, 4, .inl g90))], [(aBoth, .inl (cI, 4, .inl g91))], [(aWord, .inl (cI, 20, .inl fWord))]]) (by rw [e_x102]; rfl) ?_
        obtain ⟨x103, e_x103⟩ : ∃ z : Int32, z = y94 + 1 := ⟨_, rfl⟩
        have hp := hp x103 e_x103
        refine r_iinc (v := x103) (L' := [(2, .int x103), (0, .ref o), (1, .int letter)]) C dX11_addsLetter_75 0 rfl (by rw [e_x103]; exact ii (by decide)) (by decide) rfl ?_
        refine r_goto (tgt := 51) C dX11_addsLetter_78 (by decide) ?_
        have eF : F_X11_addsLetter_L51 fS letter (nn + 1) y94 k95 = F_X11_addsLetter_L51 fS letter nn x103 x102 := by have q := e_r97.symm; subst q; have q := e_r100.symm; subst q; have q := e_x102.symm; subst q; have q := e_x103.symm; subst q; simp only [F_X11_addsLetter_L51, if_neg c98]
        exact ih x103 x102 hp (fun z104 e_z104 f105 e_f105 => kk z104 (by rw [eF]; exact e_z104) f105 (by rw [eF]; exact e_f105))
  refine hL 62 0 x93 hpl (fun z104 e_z104 f105 e_f105 => ?_)
  clear hL hpl
  have hp := hp z104 e_z104
  have hp := hp f105 e_f105
  refine r_aload_n C dX11_addsLetter_81 1 rfl ?_
  refine r_iload_n C dX11_addsLetter_82 2 rfl ?_
  obtain ⟨h106, hp⟩ := hp
  refine r_callV (ci := 9) (wc := [[(o, .inr (9, [.ref aS, .ref aPast, .int known, .ref aSnap, .int kept, .ref aText, .int len, .int thr, .ref aOne, .ref aTwo, .ref aBoth, .ref aWord, .int cre, .ref aOpen, .ref aTimes, .ref aFar, .ref aQueue, .long f105]))], [(aS, .inl (cI, 335, .inl fS))], [(aOne, .inl (cI, 4, .inl g89))], [(aWord, .inl (cI, 20, .inl fWord))]]) (wr := [[(aTwo, .inl (cI, 4, .inl g90))], [(aBoth, .inl (cI, 4, .inl g91))]]) (st := []) C (m_X11_addsWord l D cI cL cP cJ o aS aPast aSnap aText aOne aTwo aBoth aWord aOpen aTimes aFar aQueue known kept len thr cre f105 fS g89 fWord letter h106) k_X11_addsWord t_1265 [0, 1, 2, 5, 3, 4] (show ([0, 1, 2, 5, 3, 4] : List Nat).Perm (List.range 6) by decide) rfl rfl rfl (q0 := 0) rfl rfl rfl (Nat.le_of_ble_eq_true rfl) ⟨Nat.le_of_ble_eq_true rfl, Nat.le_of_ble_eq_true rfl⟩ ⟨Nat.zero_le _, Nat.zero_le _⟩ dX11_addsLetter_83 (fun r107 wr107 hw107 => ?_)
  obtain rfl := hw107
  obtain ⟨x108, e_x108⟩ : ∃ z : Int32, z = (F_X11_addsWord f105 fS g89 fWord letter).1 := ⟨_, rfl⟩
  have hp := hp x108 e_x108
  obtain ⟨x109, e_x109⟩ : ∃ z : Int64, z = (F_X11_addsWord f105 fS g89 fWord letter).2.1 := ⟨_, rfl⟩
  have hp := hp x109 e_x109
  obtain ⟨g110, e_g110⟩ : ∃ z : Nat → Int32, z = (F_X11_addsWord f105 fS g89 fWord letter).2.2.1 := ⟨_, rfl⟩
  have hp := hp g110 e_g110
  obtain ⟨g111, e_g111⟩ : ∃ z : Nat → Int32, z = (F_X11_addsWord f105 fS g89 fWord letter).2.2.2 := ⟨_, rfl⟩
  have hp := hp g111 e_g111
  refine r_ws (I' := [[(o, .inr (9, [.ref aS, .ref aPast, .int known, .ref aSnap, .int kept, .ref aText, .int len, .int thr, .ref aOne, .ref aTwo, .ref aBoth, .ref aWord, .int x108, .ref aOpen, .ref aTimes, .ref aFar, .ref aQueue, .long x109]))], [(aS, .inl (cI, 335, .inl fS))], [(aOne, .inl (cI, 4, .inl g110))], [(aWord, .inl (cI, 20, .inl g111))], [(aTwo, .inl (cI, 4, .inl g90))], [(aBoth, .inl (cI, 4, .inl g91))]]) (by rw [e_x108, e_x109, e_g110, e_g111]; rfl) ?_
  refine r_iconst (v := 0) C dX11_addsLetter_86 (by decide) ?_
  refine r_istore_n (L' := [(2, .int 0), (0, .ref o), (1, .int letter)]) C dX11_addsLetter_87 (by decide) rfl ?_
  refine r_iload_n C dX11_addsLetter_88 0 rfl ?_
  refine r_iconst (v := 4) C dX11_addsLetter_89 (by decide) ?_
  refine r_icmp_ge (tgt := 110) C dX11_addsLetter_90 (by decide) (fun c => absurd c (by decide)) (fun _ => ?_)
  refine r_aload_n C dX11_addsLetter_93 1 rfl ?_
  refine r_aload_n C dX11_addsLetter_94 1 rfl ?_
  refine r_iload_n C dX11_addsLetter_95 2 rfl ?_
  refine r_iload_n C dX11_addsLetter_96 0 rfl ?_
  obtain ⟨h112, hp⟩ := hp
  refine r_callV (ci := 9) (wc := [[(o, .inr (9, [.ref aS, .ref aPast, .int known, .ref aSnap, .int kept, .ref aText, .int len, .int thr, .ref aOne, .ref aTwo, .ref aBoth, .ref aWord, .int x108, .ref aOpen, .ref aTimes, .ref aFar, .ref aQueue, .long x109]))], [(aS, .inl (cI, 335, .inl fS))]]) (wr := [[(aOne, .inl (cI, 4, .inl g110))], [(aWord, .inl (cI, 20, .inl g111))], [(aTwo, .inl (cI, 4, .inl g90))], [(aBoth, .inl (cI, 4, .inl g91))]]) (st := [.ref o]) C (m_X11_reason l D cI cL cP cJ o aS aPast aSnap aText aOne aTwo aBoth aWord aOpen aTimes aFar aQueue known kept len thr x108 x109 fS letter 0 h112) k_X11_reason t_962 [0, 1, 2, 3, 4, 5] (show ([0, 1, 2, 3, 4, 5] : List Nat).Perm (List.range 6) by decide) rfl rfl rfl (q0 := 0) rfl rfl rfl (Nat.le_of_ble_eq_true rfl) ⟨Nat.le_of_ble_eq_true rfl, Nat.le_of_ble_eq_true rfl⟩ ⟨Nat.zero_le _, Nat.zero_le _⟩ dX11_addsLetter_97 (fun r113 wr113 hw113 => ?_)
  obtain ⟨e_r113, rfl⟩ := hw113
  have hp := hp r113 e_r113
  refine r_ws (I' := [[(o, .inr (9, [.ref aS, .ref aPast, .int known, .ref aSnap, .int kept, .ref aText, .int len, .int thr, .ref aOne, .ref aTwo, .ref aBoth, .ref aWord, .int x108, .ref aOpen, .ref aTimes, .ref aFar, .ref aQueue, .long x109]))], [(aS, .inl (cI, 335, .inl fS))], [(aOne, .inl (cI, 4, .inl g110))], [(aWord, .inl (cI, 20, .inl g111))], [(aTwo, .inl (cI, 4, .inl g90))], [(aBoth, .inl (cI, 4, .inl g91))]]) rfl ?_
  refine r_i2l C dX11_addsLetter_100 rfl ?_
  refine r_callV (ci := 9) (wc := [[(o, .inr (9, [.ref aS, .ref aPast, .int known, .ref aSnap, .int kept, .ref aText, .int len, .int thr, .ref aOne, .ref aTwo, .ref aBoth, .ref aWord, .int x108, .ref aOpen, .ref aTimes, .ref aFar, .ref aQueue, .long x109]))]]) (wr := [[(aS, .inl (cI, 335, .inl fS))], [(aOne, .inl (cI, 4, .inl g110))], [(aWord, .inl (cI, 20, .inl g111))], [(aTwo, .inl (cI, 4, .inl g90))], [(aBoth, .inl (cI, 4, .inl g91))]]) (st := []) C (m_X11_adds l D cI cL cP cJ o aS aPast aSnap aText aOne aTwo aBoth aWord aOpen aTimes aFar aQueue known kept len thr x108 x109 ((r113 : Int32).toInt64)) k_X11_adds t_1256 [0, 1, 2, 3, 4, 5] (show ([0, 1, 2, 3, 4, 5] : List Nat).Perm (List.range 6) by decide) rfl rfl rfl (q0 := 0) rfl rfl rfl (Nat.le_of_ble_eq_true rfl) ⟨Nat.le_of_ble_eq_true rfl, Nat.le_of_ble_eq_true rfl⟩ ⟨Nat.zero_le _, Nat.zero_le _⟩ dX11_addsLetter_101 (fun r114 wr114 hw114 => ?_)
  obtain rfl := hw114
  obtain ⟨x115, e_x115⟩ : ∃ z : Int64, z = F_X11_adds x109 ((r113 : Int32).toInt64) := ⟨_, rfl⟩
  have hp := hp x115 e_x115
  refine r_ws (I' := [[(o, .inr (9, [.ref aS, .ref aPast, .int known, .ref aSnap, .int kept, .ref aText, .int len, .int thr, .ref aOne, .ref aTwo, .ref aBoth, .ref aWord, .int x108, .ref aOpen, .ref aTimes, .ref aFar, .ref aQueue, .long x115]))], [(aS, .inl (cI, 335, .inl fS))], [(aOne, .inl (cI, 4, .inl g110))], [(aWord, .inl (cI, 20, .inl g111))], [(aTwo, .inl (cI, 4, .inl g90))], [(aBoth, .inl (cI, 4, .inl g91))]]) (by rw [e_x115]; rfl) ?_
  refine r_iinc (v := 1) (L' := [(2, .int 1), (0, .ref o), (1, .int letter)]) C dX11_addsLetter_104 0 rfl (by decide) (by decide) rfl ?_
  refine r_goto (tgt := 88) C dX11_addsLetter_107 (by decide) ?_
  refine r_iload_n C dX11_addsLetter_88 0 rfl ?_
  refine r_iconst (v := 4) C dX11_addsLetter_89 (by decide) ?_
  refine r_icmp_ge (tgt := 110) C dX11_addsLetter_90 (by decide) (fun c => absurd c (by decide)) (fun _ => ?_)
  refine r_aload_n C dX11_addsLetter_93 1 rfl ?_
  refine r_aload_n C dX11_addsLetter_94 1 rfl ?_
  refine r_iload_n C dX11_addsLetter_95 2 rfl ?_
  refine r_iload_n C dX11_addsLetter_96 0 rfl ?_
  obtain ⟨h116, hp⟩ := hp
  refine r_callV (ci := 9) (wc := [[(o, .inr (9, [.ref aS, .ref aPast, .int known, .ref aSnap, .int kept, .ref aText, .int len, .int thr, .ref aOne, .ref aTwo, .ref aBoth, .ref aWord, .int x108, .ref aOpen, .ref aTimes, .ref aFar, .ref aQueue, .long x115]))], [(aS, .inl (cI, 335, .inl fS))]]) (wr := [[(aOne, .inl (cI, 4, .inl g110))], [(aWord, .inl (cI, 20, .inl g111))], [(aTwo, .inl (cI, 4, .inl g90))], [(aBoth, .inl (cI, 4, .inl g91))]]) (st := [.ref o]) C (m_X11_reason l D cI cL cP cJ o aS aPast aSnap aText aOne aTwo aBoth aWord aOpen aTimes aFar aQueue known kept len thr x108 x115 fS letter 1 h116) k_X11_reason t_962 [0, 1, 2, 3, 4, 5] (show ([0, 1, 2, 3, 4, 5] : List Nat).Perm (List.range 6) by decide) rfl rfl rfl (q0 := 0) rfl rfl rfl (Nat.le_of_ble_eq_true rfl) ⟨Nat.le_of_ble_eq_true rfl, Nat.le_of_ble_eq_true rfl⟩ ⟨Nat.zero_le _, Nat.zero_le _⟩ dX11_addsLetter_97 (fun r117 wr117 hw117 => ?_)
  obtain ⟨e_r117, rfl⟩ := hw117
  have hp := hp r117 e_r117
  refine r_ws (I' := [[(o, .inr (9, [.ref aS, .ref aPast, .int known, .ref aSnap, .int kept, .ref aText, .int len, .int thr, .ref aOne, .ref aTwo, .ref aBoth, .ref aWord, .int x108, .ref aOpen, .ref aTimes, .ref aFar, .ref aQueue, .long x115]))], [(aS, .inl (cI, 335, .inl fS))], [(aOne, .inl (cI, 4, .inl g110))], [(aWord, .inl (cI, 20, .inl g111))], [(aTwo, .inl (cI, 4, .inl g90))], [(aBoth, .inl (cI, 4, .inl g91))]]) rfl ?_
  refine r_i2l C dX11_addsLetter_100 rfl ?_
  refine r_callV (ci := 9) (wc := [[(o, .inr (9, [.ref aS, .ref aPast, .int known, .ref aSnap, .int kept, .ref aText, .int len, .int thr, .ref aOne, .ref aTwo, .ref aBoth, .ref aWord, .int x108, .ref aOpen, .ref aTimes, .ref aFar, .ref aQueue, .long x115]))]]) (wr := [[(aS, .inl (cI, 335, .inl fS))], [(aOne, .inl (cI, 4, .inl g110))], [(aWord, .inl (cI, 20, .inl g111))], [(aTwo, .inl (cI, 4, .inl g90))], [(aBoth, .inl (cI, 4, .inl g91))]]) (st := []) C (m_X11_adds l D cI cL cP cJ o aS aPast aSnap aText aOne aTwo aBoth aWord aOpen aTimes aFar aQueue known kept len thr x108 x115 ((r117 : Int32).toInt64)) k_X11_adds t_1256 [0, 1, 2, 3, 4, 5] (show ([0, 1, 2, 3, 4, 5] : List Nat).Perm (List.range 6) by decide) rfl rfl rfl (q0 := 0) rfl rfl rfl (Nat.le_of_ble_eq_true rfl) ⟨Nat.le_of_ble_eq_true rfl, Nat.le_of_ble_eq_true rfl⟩ ⟨Nat.zero_le _, Nat.zero_le _⟩ dX11_addsLetter_101 (fun r118 wr118 hw118 => ?_)
  obtain rfl := hw118
  obtain ⟨x119, e_x119⟩ : ∃ z : Int64, z = F_X11_adds x115 ((r117 : Int32).toInt64) := ⟨_, rfl⟩
  have hp := hp x119 e_x119
  refine r_ws (I' := [[(o, .inr (9, [.ref aS, .ref aPast, .int known, .ref aSnap, .int kept, .ref aText, .int len, .int thr, .ref aOne, .ref aTwo, .ref aBoth, .ref aWord, .int x108, .ref aOpen, .ref aTimes, .ref aFar, .ref aQueue, .long x119]))], [(aS, .inl (cI, 335, .inl fS))], [(aOne, .inl (cI, 4, .inl g110))], [(aWord, .inl (cI, 20, .inl g111))], [(aTwo, .inl (cI, 4, .inl g90))], [(aBoth, .inl (cI, 4, .inl g91))]]) (by rw [e_x119]; rfl) ?_
  refine r_iinc (v := 2) (L' := [(2, .int 2), (0, .ref o), (1, .int letter)]) C dX11_addsLetter_104 0 rfl (by decide) (by decide) rfl ?_
  refine r_goto (tgt := 88) C dX11_addsLetter_107 (by decide) ?_
  refine r_iload_n C dX11_addsLetter_88 0 rfl ?_
  refine r_iconst (v := 4) C dX11_addsLetter_89 (by decide) ?_
  refine r_icmp_ge (tgt := 110) C dX11_addsLetter_90 (by decide) (fun c => absurd c (by decide)) (fun _ => ?_)
  refine r_aload_n C dX11_addsLetter_93 1 rfl ?_
  refine r_aload_n C dX11_addsLetter_94 1 rfl ?_
  refine r_iload_n C dX11_addsLetter_95 2 rfl ?_
  refine r_iload_n C dX11_addsLetter_96 0 rfl ?_
  obtain ⟨h120, hp⟩ := hp
  refine r_callV (ci := 9) (wc := [[(o, .inr (9, [.ref aS, .ref aPast, .int known, .ref aSnap, .int kept, .ref aText, .int len, .int thr, .ref aOne, .ref aTwo, .ref aBoth, .ref aWord, .int x108, .ref aOpen, .ref aTimes, .ref aFar, .ref aQueue, .long x119]))], [(aS, .inl (cI, 335, .inl fS))]]) (wr := [[(aOne, .inl (cI, 4, .inl g110))], [(aWord, .inl (cI, 20, .inl g111))], [(aTwo, .inl (cI, 4, .inl g90))], [(aBoth, .inl (cI, 4, .inl g91))]]) (st := [.ref o]) C (m_X11_reason l D cI cL cP cJ o aS aPast aSnap aText aOne aTwo aBoth aWord aOpen aTimes aFar aQueue known kept len thr x108 x119 fS letter 2 h120) k_X11_reason t_962 [0, 1, 2, 3, 4, 5] (show ([0, 1, 2, 3, 4, 5] : List Nat).Perm (List.range 6) by decide) rfl rfl rfl (q0 := 0) rfl rfl rfl (Nat.le_of_ble_eq_true rfl) ⟨Nat.le_of_ble_eq_true rfl, Nat.le_of_ble_eq_true rfl⟩ ⟨Nat.zero_le _, Nat.zero_le _⟩ dX11_addsLetter_97 (fun r121 wr121 hw121 => ?_)
  obtain ⟨e_r121, rfl⟩ := hw121
  have hp := hp r121 e_r121
  refine r_ws (I' := [[(o, .inr (9, [.ref aS, .ref aPast, .int known, .ref aSnap, .int kept, .ref aText, .int len, .int thr, .ref aOne, .ref aTwo, .ref aBoth, .ref aWord, .int x108, .ref aOpen, .ref aTimes, .ref aFar, .ref aQueue, .long x119]))], [(aS, .inl (cI, 335, .inl fS))], [(aOne, .inl (cI, 4, .inl g110))], [(aWord, .inl (cI, 20, .inl g111))], [(aTwo, .inl (cI, 4, .inl g90))], [(aBoth, .inl (cI, 4, .inl g91))]]) rfl ?_
  refine r_i2l C dX11_addsLetter_100 rfl ?_
  refine r_callV (ci := 9) (wc := [[(o, .inr (9, [.ref aS, .ref aPast, .int known, .ref aSnap, .int kept, .ref aText, .int len, .int thr, .ref aOne, .ref aTwo, .ref aBoth, .ref aWord, .int x108, .ref aOpen, .ref aTimes, .ref aFar, .ref aQueue, .long x119]))]]) (wr := [[(aS, .inl (cI, 335, .inl fS))], [(aOne, .inl (cI, 4, .inl g110))], [(aWord, .inl (cI, 20, .inl g111))], [(aTwo, .inl (cI, 4, .inl g90))], [(aBoth, .inl (cI, 4, .inl g91))]]) (st := []) C (m_X11_adds l D cI cL cP cJ o aS aPast aSnap aText aOne aTwo aBoth aWord aOpen aTimes aFar aQueue known kept len thr x108 x119 ((r121 : Int32).toInt64)) k_X11_adds t_1256 [0, 1, 2, 3, 4, 5] (show ([0, 1, 2, 3, 4, 5] : List Nat).Perm (List.range 6) by decide) rfl rfl rfl (q0 := 0) rfl rfl rfl (Nat.le_of_ble_eq_true rfl) ⟨Nat.le_of_ble_eq_true rfl, Nat.le_of_ble_eq_true rfl⟩ ⟨Nat.zero_le _, Nat.zero_le _⟩ dX11_addsLetter_101 (fun r122 wr122 hw122 => ?_)
  obtain rfl := hw122
  obtain ⟨x123, e_x123⟩ : ∃ z : Int64, z = F_X11_adds x119 ((r121 : Int32).toInt64) := ⟨_, rfl⟩
  have hp := hp x123 e_x123
  refine r_ws (I' := [[(o, .inr (9, [.ref aS, .ref aPast, .int known, .ref aSnap, .int kept, .ref aText, .int len, .int thr, .ref aOne, .ref aTwo, .ref aBoth, .ref aWord, .int x108, .ref aOpen, .ref aTimes, .ref aFar, .ref aQueue, .long x123]))], [(aS, .inl (cI, 335, .inl fS))], [(aOne, .inl (cI, 4, .inl g110))], [(aWord, .inl (cI, 20, .inl g111))], [(aTwo, .inl (cI, 4, .inl g90))], [(aBoth, .inl (cI, 4, .inl g91))]]) (by rw [e_x123]; rfl) ?_
  refine r_iinc (v := 3) (L' := [(2, .int 3), (0, .ref o), (1, .int letter)]) C dX11_addsLetter_104 0 rfl (by decide) (by decide) rfl ?_
  refine r_goto (tgt := 88) C dX11_addsLetter_107 (by decide) ?_
  refine r_iload_n C dX11_addsLetter_88 0 rfl ?_
  refine r_iconst (v := 4) C dX11_addsLetter_89 (by decide) ?_
  refine r_icmp_ge (tgt := 110) C dX11_addsLetter_90 (by decide) (fun c => absurd c (by decide)) (fun _ => ?_)
  refine r_aload_n C dX11_addsLetter_93 1 rfl ?_
  refine r_aload_n C dX11_addsLetter_94 1 rfl ?_
  refine r_iload_n C dX11_addsLetter_95 2 rfl ?_
  refine r_iload_n C dX11_addsLetter_96 0 rfl ?_
  obtain ⟨h124, hp⟩ := hp
  refine r_callV (ci := 9) (wc := [[(o, .inr (9, [.ref aS, .ref aPast, .int known, .ref aSnap, .int kept, .ref aText, .int len, .int thr, .ref aOne, .ref aTwo, .ref aBoth, .ref aWord, .int x108, .ref aOpen, .ref aTimes, .ref aFar, .ref aQueue, .long x123]))], [(aS, .inl (cI, 335, .inl fS))]]) (wr := [[(aOne, .inl (cI, 4, .inl g110))], [(aWord, .inl (cI, 20, .inl g111))], [(aTwo, .inl (cI, 4, .inl g90))], [(aBoth, .inl (cI, 4, .inl g91))]]) (st := [.ref o]) C (m_X11_reason l D cI cL cP cJ o aS aPast aSnap aText aOne aTwo aBoth aWord aOpen aTimes aFar aQueue known kept len thr x108 x123 fS letter 3 h124) k_X11_reason t_962 [0, 1, 2, 3, 4, 5] (show ([0, 1, 2, 3, 4, 5] : List Nat).Perm (List.range 6) by decide) rfl rfl rfl (q0 := 0) rfl rfl rfl (Nat.le_of_ble_eq_true rfl) ⟨Nat.le_of_ble_eq_true rfl, Nat.le_of_ble_eq_true rfl⟩ ⟨Nat.zero_le _, Nat.zero_le _⟩ dX11_addsLetter_97 (fun r125 wr125 hw125 => ?_)
  obtain ⟨e_r125, rfl⟩ := hw125
  have hp := hp r125 e_r125
  refine r_ws (I' := [[(o, .inr (9, [.ref aS, .ref aPast, .int known, .ref aSnap, .int kept, .ref aText, .int len, .int thr, .ref aOne, .ref aTwo, .ref aBoth, .ref aWord, .int x108, .ref aOpen, .ref aTimes, .ref aFar, .ref aQueue, .long x123]))], [(aS, .inl (cI, 335, .inl fS))], [(aOne, .inl (cI, 4, .inl g110))], [(aWord, .inl (cI, 20, .inl g111))], [(aTwo, .inl (cI, 4, .inl g90))], [(aBoth, .inl (cI, 4, .inl g91))]]) rfl ?_
  refine r_i2l C dX11_addsLetter_100 rfl ?_
  refine r_callV (ci := 9) (wc := [[(o, .inr (9, [.ref aS, .ref aPast, .int known, .ref aSnap, .int kept, .ref aText, .int len, .int thr, .ref aOne, .ref aTwo, .ref aBoth, .ref aWord, .int x108, .ref aOpen, .ref aTimes, .ref aFar, .ref aQueue, .long x123]))]]) (wr := [[(aS, .inl (cI, 335, .inl fS))], [(aOne, .inl (cI, 4, .inl g110))], [(aWord, .inl (cI, 20, .inl g111))], [(aTwo, .inl (cI, 4, .inl g90))], [(aBoth, .inl (cI, 4, .inl g91))]]) (st := []) C (m_X11_adds l D cI cL cP cJ o aS aPast aSnap aText aOne aTwo aBoth aWord aOpen aTimes aFar aQueue known kept len thr x108 x123 ((r125 : Int32).toInt64)) k_X11_adds t_1256 [0, 1, 2, 3, 4, 5] (show ([0, 1, 2, 3, 4, 5] : List Nat).Perm (List.range 6) by decide) rfl rfl rfl (q0 := 0) rfl rfl rfl (Nat.le_of_ble_eq_true rfl) ⟨Nat.le_of_ble_eq_true rfl, Nat.le_of_ble_eq_true rfl⟩ ⟨Nat.zero_le _, Nat.zero_le _⟩ dX11_addsLetter_101 (fun r126 wr126 hw126 => ?_)
  obtain rfl := hw126
  obtain ⟨x127, e_x127⟩ : ∃ z : Int64, z = F_X11_adds x123 ((r125 : Int32).toInt64) := ⟨_, rfl⟩
  have hp := hp x127 e_x127
  refine r_ws (I' := [[(o, .inr (9, [.ref aS, .ref aPast, .int known, .ref aSnap, .int kept, .ref aText, .int len, .int thr, .ref aOne, .ref aTwo, .ref aBoth, .ref aWord, .int x108, .ref aOpen, .ref aTimes, .ref aFar, .ref aQueue, .long x127]))], [(aS, .inl (cI, 335, .inl fS))], [(aOne, .inl (cI, 4, .inl g110))], [(aWord, .inl (cI, 20, .inl g111))], [(aTwo, .inl (cI, 4, .inl g90))], [(aBoth, .inl (cI, 4, .inl g91))]]) (by rw [e_x127]; rfl) ?_
  refine r_iinc (v := 4) (L' := [(2, .int 4), (0, .ref o), (1, .int letter)]) C dX11_addsLetter_104 0 rfl (by decide) (by decide) rfl ?_
  refine r_goto (tgt := 88) C dX11_addsLetter_107 (by decide) ?_
  refine r_iload_n C dX11_addsLetter_88 0 rfl ?_
  refine r_iconst (v := 4) C dX11_addsLetter_89 (by decide) ?_
  refine r_icmp_ge (tgt := 110) C dX11_addsLetter_90 (by decide) (fun _ => ?_) (fun c => absurd c (by decide))
  refine r_iconst (v := 0) C dX11_addsLetter_110 (by decide) ?_
  refine r_istore_n (L' := [(2, .int 0), (0, .ref o), (1, .int letter)]) C dX11_addsLetter_111 (by decide) rfl ?_
  refine r_iload_n C dX11_addsLetter_112 0 rfl ?_
  refine r_iconst (v := 4) C dX11_addsLetter_113 (by decide) ?_
  refine r_icmp_ge (tgt := 134) C dX11_addsLetter_114 (by decide) (fun c => absurd c (by decide)) (fun _ => ?_)
  refine r_aload_n C dX11_addsLetter_117 1 rfl ?_
  refine r_aload_n C dX11_addsLetter_118 1 rfl ?_
  refine r_iload_n C dX11_addsLetter_119 2 rfl ?_
  refine r_iload_n C dX11_addsLetter_120 0 rfl ?_
  obtain ⟨h128, hp⟩ := hp
  refine r_callV (ci := 9) (wc := [[(o, .inr (9, [.ref aS, .ref aPast, .int known, .ref aSnap, .int kept, .ref aText, .int len, .int thr, .ref aOne, .ref aTwo, .ref aBoth, .ref aWord, .int x108, .ref aOpen, .ref aTimes, .ref aFar, .ref aQueue, .long x127]))], [(aS, .inl (cI, 335, .inl fS))], [(aOne, .inl (cI, 4, .inl g110))]]) (wr := [[(aWord, .inl (cI, 20, .inl g111))], [(aTwo, .inl (cI, 4, .inl g90))], [(aBoth, .inl (cI, 4, .inl g91))]]) (st := [.ref o]) C (m_X11_foldedLength l D cI cL cP cJ o aS aPast aSnap aText aOne aTwo aBoth aWord aOpen aTimes aFar aQueue known kept len thr x108 x127 fS g110 letter 0 h128) k_X11_foldedLength t_1171 [0, 1, 2, 3, 4, 5] (show ([0, 1, 2, 3, 4, 5] : List Nat).Perm (List.range 6) by decide) rfl rfl rfl (q0 := 0) rfl rfl rfl (Nat.le_of_ble_eq_true rfl) ⟨Nat.le_of_ble_eq_true rfl, Nat.le_of_ble_eq_true rfl⟩ ⟨Nat.zero_le _, Nat.zero_le _⟩ dX11_addsLetter_121 (fun r129 wr129 hw129 => ?_)
  obtain ⟨e_r129, rfl⟩ := hw129
  have hp := hp r129 e_r129
  obtain ⟨g130, e_g130⟩ : ∃ z : Nat → Int32, z = (F_X11_foldedLength fS g110 letter 0).2 := ⟨_, rfl⟩
  have hp := hp g130 e_g130
  refine r_ws (I' := [[(o, .inr (9, [.ref aS, .ref aPast, .int known, .ref aSnap, .int kept, .ref aText, .int len, .int thr, .ref aOne, .ref aTwo, .ref aBoth, .ref aWord, .int x108, .ref aOpen, .ref aTimes, .ref aFar, .ref aQueue, .long x127]))], [(aS, .inl (cI, 335, .inl fS))], [(aOne, .inl (cI, 4, .inl g130))], [(aWord, .inl (cI, 20, .inl g111))], [(aTwo, .inl (cI, 4, .inl g90))], [(aBoth, .inl (cI, 4, .inl g91))]]) (by rw [e_g130]; rfl) ?_
  refine r_i2l C dX11_addsLetter_124 rfl ?_
  refine r_callV (ci := 9) (wc := [[(o, .inr (9, [.ref aS, .ref aPast, .int known, .ref aSnap, .int kept, .ref aText, .int len, .int thr, .ref aOne, .ref aTwo, .ref aBoth, .ref aWord, .int x108, .ref aOpen, .ref aTimes, .ref aFar, .ref aQueue, .long x127]))]]) (wr := [[(aS, .inl (cI, 335, .inl fS))], [(aOne, .inl (cI, 4, .inl g130))], [(aWord, .inl (cI, 20, .inl g111))], [(aTwo, .inl (cI, 4, .inl g90))], [(aBoth, .inl (cI, 4, .inl g91))]]) (st := []) C (m_X11_adds l D cI cL cP cJ o aS aPast aSnap aText aOne aTwo aBoth aWord aOpen aTimes aFar aQueue known kept len thr x108 x127 ((r129 : Int32).toInt64)) k_X11_adds t_1256 [0, 1, 2, 3, 4, 5] (show ([0, 1, 2, 3, 4, 5] : List Nat).Perm (List.range 6) by decide) rfl rfl rfl (q0 := 0) rfl rfl rfl (Nat.le_of_ble_eq_true rfl) ⟨Nat.le_of_ble_eq_true rfl, Nat.le_of_ble_eq_true rfl⟩ ⟨Nat.zero_le _, Nat.zero_le _⟩ dX11_addsLetter_125 (fun r131 wr131 hw131 => ?_)
  obtain rfl := hw131
  obtain ⟨x132, e_x132⟩ : ∃ z : Int64, z = F_X11_adds x127 ((r129 : Int32).toInt64) := ⟨_, rfl⟩
  have hp := hp x132 e_x132
  refine r_ws (I' := [[(o, .inr (9, [.ref aS, .ref aPast, .int known, .ref aSnap, .int kept, .ref aText, .int len, .int thr, .ref aOne, .ref aTwo, .ref aBoth, .ref aWord, .int x108, .ref aOpen, .ref aTimes, .ref aFar, .ref aQueue, .long x132]))], [(aS, .inl (cI, 335, .inl fS))], [(aOne, .inl (cI, 4, .inl g130))], [(aWord, .inl (cI, 20, .inl g111))], [(aTwo, .inl (cI, 4, .inl g90))], [(aBoth, .inl (cI, 4, .inl g91))]]) (by rw [e_x132]; rfl) ?_
  refine r_iinc (v := 1) (L' := [(2, .int 1), (0, .ref o), (1, .int letter)]) C dX11_addsLetter_128 0 rfl (by decide) (by decide) rfl ?_
  refine r_goto (tgt := 112) C dX11_addsLetter_131 (by decide) ?_
  refine r_iload_n C dX11_addsLetter_112 0 rfl ?_
  refine r_iconst (v := 4) C dX11_addsLetter_113 (by decide) ?_
  refine r_icmp_ge (tgt := 134) C dX11_addsLetter_114 (by decide) (fun c => absurd c (by decide)) (fun _ => ?_)
  refine r_aload_n C dX11_addsLetter_117 1 rfl ?_
  refine r_aload_n C dX11_addsLetter_118 1 rfl ?_
  refine r_iload_n C dX11_addsLetter_119 2 rfl ?_
  refine r_iload_n C dX11_addsLetter_120 0 rfl ?_
  obtain ⟨h133, hp⟩ := hp
  refine r_callV (ci := 9) (wc := [[(o, .inr (9, [.ref aS, .ref aPast, .int known, .ref aSnap, .int kept, .ref aText, .int len, .int thr, .ref aOne, .ref aTwo, .ref aBoth, .ref aWord, .int x108, .ref aOpen, .ref aTimes, .ref aFar, .ref aQueue, .long x132]))], [(aS, .inl (cI, 335, .inl fS))], [(aOne, .inl (cI, 4, .inl g130))]]) (wr := [[(aWord, .inl (cI, 20, .inl g111))], [(aTwo, .inl (cI, 4, .inl g90))], [(aBoth, .inl (cI, 4, .inl g91))]]) (st := [.ref o]) C (m_X11_foldedLength l D cI cL cP cJ o aS aPast aSnap aText aOne aTwo aBoth aWord aOpen aTimes aFar aQueue known kept len thr x108 x132 fS g130 letter 1 h133) k_X11_foldedLength t_1171 [0, 1, 2, 3, 4, 5] (show ([0, 1, 2, 3, 4, 5] : List Nat).Perm (List.range 6) by decide) rfl rfl rfl (q0 := 0) rfl rfl rfl (Nat.le_of_ble_eq_true rfl) ⟨Nat.le_of_ble_eq_true rfl, Nat.le_of_ble_eq_true rfl⟩ ⟨Nat.zero_le _, Nat.zero_le _⟩ dX11_addsLetter_121 (fun r134 wr134 hw134 => ?_)
  obtain ⟨e_r134, rfl⟩ := hw134
  have hp := hp r134 e_r134
  obtain ⟨g135, e_g135⟩ : ∃ z : Nat → Int32, z = (F_X11_foldedLength fS g130 letter 1).2 := ⟨_, rfl⟩
  have hp := hp g135 e_g135
  refine r_ws (I' := [[(o, .inr (9, [.ref aS, .ref aPast, .int known, .ref aSnap, .int kept, .ref aText, .int len, .int thr, .ref aOne, .ref aTwo, .ref aBoth, .ref aWord, .int x108, .ref aOpen, .ref aTimes, .ref aFar, .ref aQueue, .long x132]))], [(aS, .inl (cI, 335, .inl fS))], [(aOne, .inl (cI, 4, .inl g135))], [(aWord, .inl (cI, 20, .inl g111))], [(aTwo, .inl (cI, 4, .inl g90))], [(aBoth, .inl (cI, 4, .inl g91))]]) (by rw [e_g135]; rfl) ?_
  refine r_i2l C dX11_addsLetter_124 rfl ?_
  refine r_callV (ci := 9) (wc := [[(o, .inr (9, [.ref aS, .ref aPast, .int known, .ref aSnap, .int kept, .ref aText, .int len, .int thr, .ref aOne, .ref aTwo, .ref aBoth, .ref aWord, .int x108, .ref aOpen, .ref aTimes, .ref aFar, .ref aQueue, .long x132]))]]) (wr := [[(aS, .inl (cI, 335, .inl fS))], [(aOne, .inl (cI, 4, .inl g135))], [(aWord, .inl (cI, 20, .inl g111))], [(aTwo, .inl (cI, 4, .inl g90))], [(aBoth, .inl (cI, 4, .inl g91))]]) (st := []) C (m_X11_adds l D cI cL cP cJ o aS aPast aSnap aText aOne aTwo aBoth aWord aOpen aTimes aFar aQueue known kept len thr x108 x132 ((r134 : Int32).toInt64)) k_X11_adds t_1256 [0, 1, 2, 3, 4, 5] (show ([0, 1, 2, 3, 4, 5] : List Nat).Perm (List.range 6) by decide) rfl rfl rfl (q0 := 0) rfl rfl rfl (Nat.le_of_ble_eq_true rfl) ⟨Nat.le_of_ble_eq_true rfl, Nat.le_of_ble_eq_true rfl⟩ ⟨Nat.zero_le _, Nat.zero_le _⟩ dX11_addsLetter_125 (fun r136 wr136 hw136 => ?_)
  obtain rfl := hw136
  obtain ⟨x137, e_x137⟩ : ∃ z : Int64, z = F_X11_adds x132 ((r134 : Int32).toInt64) := ⟨_, rfl⟩
  have hp := hp x137 e_x137
  refine r_ws (I' := [[(o, .inr (9, [.ref aS, .ref aPast, .int known, .ref aSnap, .int kept, .ref aText, .int len, .int thr, .ref aOne, .ref aTwo, .ref aBoth, .ref aWord, .int x108, .ref aOpen, .ref aTimes, .ref aFar, .ref aQueue, .long x137]))], [(aS, .inl (cI, 335, .inl fS))], [(aOne, .inl (cI, 4, .inl g135))], [(aWord, .inl (cI, 20, .inl g111))], [(aTwo, .inl (cI, 4, .inl g90))], [(aBoth, .inl (cI, 4, .inl g91))]]) (by rw [e_x137]; rfl) ?_
  refine r_iinc (v := 2) (L' := [(2, .int 2), (0, .ref o), (1, .int letter)]) C dX11_addsLetter_128 0 rfl (by decide) (by decide) rfl ?_
  refine r_goto (tgt := 112) C dX11_addsLetter_131 (by decide) ?_
  refine r_iload_n C dX11_addsLetter_112 0 rfl ?_
  refine r_iconst (v := 4) C dX11_addsLetter_113 (by decide) ?_
  refine r_icmp_ge (tgt := 134) C dX11_addsLetter_114 (by decide) (fun c => absurd c (by decide)) (fun _ => ?_)
  refine r_aload_n C dX11_addsLetter_117 1 rfl ?_
  refine r_aload_n C dX11_addsLetter_118 1 rfl ?_
  refine r_iload_n C dX11_addsLetter_119 2 rfl ?_
  refine r_iload_n C dX11_addsLetter_120 0 rfl ?_
  obtain ⟨h138, hp⟩ := hp
  refine r_callV (ci := 9) (wc := [[(o, .inr (9, [.ref aS, .ref aPast, .int known, .ref aSnap, .int kept, .ref aText, .int len, .int thr, .ref aOne, .ref aTwo, .ref aBoth, .ref aWord, .int x108, .ref aOpen, .ref aTimes, .ref aFar, .ref aQueue, .long x137]))], [(aS, .inl (cI, 335, .inl fS))], [(aOne, .inl (cI, 4, .inl g135))]]) (wr := [[(aWord, .inl (cI, 20, .inl g111))], [(aTwo, .inl (cI, 4, .inl g90))], [(aBoth, .inl (cI, 4, .inl g91))]]) (st := [.ref o]) C (m_X11_foldedLength l D cI cL cP cJ o aS aPast aSnap aText aOne aTwo aBoth aWord aOpen aTimes aFar aQueue known kept len thr x108 x137 fS g135 letter 2 h138) k_X11_foldedLength t_1171 [0, 1, 2, 3, 4, 5] (show ([0, 1, 2, 3, 4, 5] : List Nat).Perm (List.range 6) by decide) rfl rfl rfl (q0 := 0) rfl rfl rfl (Nat.le_of_ble_eq_true rfl) ⟨Nat.le_of_ble_eq_true rfl, Nat.le_of_ble_eq_true rfl⟩ ⟨Nat.zero_le _, Nat.zero_le _⟩ dX11_addsLetter_121 (fun r139 wr139 hw139 => ?_)
  obtain ⟨e_r139, rfl⟩ := hw139
  have hp := hp r139 e_r139
  obtain ⟨g140, e_g140⟩ : ∃ z : Nat → Int32, z = (F_X11_foldedLength fS g135 letter 2).2 := ⟨_, rfl⟩
  have hp := hp g140 e_g140
  refine r_ws (I' := [[(o, .inr (9, [.ref aS, .ref aPast, .int known, .ref aSnap, .int kept, .ref aText, .int len, .int thr, .ref aOne, .ref aTwo, .ref aBoth, .ref aWord, .int x108, .ref aOpen, .ref aTimes, .ref aFar, .ref aQueue, .long x137]))], [(aS, .inl (cI, 335, .inl fS))], [(aOne, .inl (cI, 4, .inl g140))], [(aWord, .inl (cI, 20, .inl g111))], [(aTwo, .inl (cI, 4, .inl g90))], [(aBoth, .inl (cI, 4, .inl g91))]]) (by rw [e_g140]; rfl) ?_
  refine r_i2l C dX11_addsLetter_124 rfl ?_
  refine r_callV (ci := 9) (wc := [[(o, .inr (9, [.ref aS, .ref aPast, .int known, .ref aSnap, .int kept, .ref aText, .int len, .int thr, .ref aOne, .ref aTwo, .ref aBoth, .ref aWord, .int x108, .ref aOpen, .ref aTimes, .ref aFar, .ref aQueue, .long x137]))]]) (wr := [[(aS, .inl (cI, 335, .inl fS))], [(aOne, .inl (cI, 4, .inl g140))], [(aWord, .inl (cI, 20, .inl g111))], [(aTwo, .inl (cI, 4, .inl g90))], [(aBoth, .inl (cI, 4, .inl g91))]]) (st := []) C (m_X11_adds l D cI cL cP cJ o aS aPast aSnap aText aOne aTwo aBoth aWord aOpen aTimes aFar aQueue known kept len thr x108 x137 ((r139 : Int32).toInt64)) k_X11_adds t_1256 [0, 1, 2, 3, 4, 5] (show ([0, 1, 2, 3, 4, 5] : List Nat).Perm (List.range 6) by decide) rfl rfl rfl (q0 := 0) rfl rfl rfl (Nat.le_of_ble_eq_true rfl) ⟨Nat.le_of_ble_eq_true rfl, Nat.le_of_ble_eq_true rfl⟩ ⟨Nat.zero_le _, Nat.zero_le _⟩ dX11_addsLetter_125 (fun r141 wr141 hw141 => ?_)
  obtain rfl := hw141
  obtain ⟨x142, e_x142⟩ : ∃ z : Int64, z = F_X11_adds x137 ((r139 : Int32).toInt64) := ⟨_, rfl⟩
  have hp := hp x142 e_x142
  refine r_ws (I' := [[(o, .inr (9, [.ref aS, .ref aPast, .int known, .ref aSnap, .int kept, .ref aText, .int len, .int thr, .ref aOne, .ref aTwo, .ref aBoth, .ref aWord, .int x108, .ref aOpen, .ref aTimes, .ref aFar, .ref aQueue, .long x142]))], [(aS, .inl (cI, 335, .inl fS))], [(aOne, .inl (cI, 4, .inl g140))], [(aWord, .inl (cI, 20, .inl g111))], [(aTwo, .inl (cI, 4, .inl g90))], [(aBoth, .inl (cI, 4, .inl g91))]]) (by rw [e_x142]; rfl) ?_
  refine r_iinc (v := 3) (L' := [(2, .int 3), (0, .ref o), (1, .int letter)]) C dX11_addsLetter_128 0 rfl (by decide) (by decide) rfl ?_
  refine r_goto (tgt := 112) C dX11_addsLetter_131 (by decide) ?_
  refine r_iload_n C dX11_addsLetter_112 0 rfl ?_
  refine r_iconst (v := 4) C dX11_addsLetter_113 (by decide) ?_
  refine r_icmp_ge (tgt := 134) C dX11_addsLetter_114 (by decide) (fun c => absurd c (by decide)) (fun _ => ?_)
  refine r_aload_n C dX11_addsLetter_117 1 rfl ?_
  refine r_aload_n C dX11_addsLetter_118 1 rfl ?_
  refine r_iload_n C dX11_addsLetter_119 2 rfl ?_
  refine r_iload_n C dX11_addsLetter_120 0 rfl ?_
  obtain ⟨h143, hp⟩ := hp
  refine r_callV (ci := 9) (wc := [[(o, .inr (9, [.ref aS, .ref aPast, .int known, .ref aSnap, .int kept, .ref aText, .int len, .int thr, .ref aOne, .ref aTwo, .ref aBoth, .ref aWord, .int x108, .ref aOpen, .ref aTimes, .ref aFar, .ref aQueue, .long x142]))], [(aS, .inl (cI, 335, .inl fS))], [(aOne, .inl (cI, 4, .inl g140))]]) (wr := [[(aWord, .inl (cI, 20, .inl g111))], [(aTwo, .inl (cI, 4, .inl g90))], [(aBoth, .inl (cI, 4, .inl g91))]]) (st := [.ref o]) C (m_X11_foldedLength l D cI cL cP cJ o aS aPast aSnap aText aOne aTwo aBoth aWord aOpen aTimes aFar aQueue known kept len thr x108 x142 fS g140 letter 3 h143) k_X11_foldedLength t_1171 [0, 1, 2, 3, 4, 5] (show ([0, 1, 2, 3, 4, 5] : List Nat).Perm (List.range 6) by decide) rfl rfl rfl (q0 := 0) rfl rfl rfl (Nat.le_of_ble_eq_true rfl) ⟨Nat.le_of_ble_eq_true rfl, Nat.le_of_ble_eq_true rfl⟩ ⟨Nat.zero_le _, Nat.zero_le _⟩ dX11_addsLetter_121 (fun r144 wr144 hw144 => ?_)
  obtain ⟨e_r144, rfl⟩ := hw144
  have hp := hp r144 e_r144
  obtain ⟨g145, e_g145⟩ : ∃ z : Nat → Int32, z = (F_X11_foldedLength fS g140 letter 3).2 := ⟨_, rfl⟩
  have hp := hp g145 e_g145
  refine r_ws (I' := [[(o, .inr (9, [.ref aS, .ref aPast, .int known, .ref aSnap, .int kept, .ref aText, .int len, .int thr, .ref aOne, .ref aTwo, .ref aBoth, .ref aWord, .int x108, .ref aOpen, .ref aTimes, .ref aFar, .ref aQueue, .long x142]))], [(aS, .inl (cI, 335, .inl fS))], [(aOne, .inl (cI, 4, .inl g145))], [(aWord, .inl (cI, 20, .inl g111))], [(aTwo, .inl (cI, 4, .inl g90))], [(aBoth, .inl (cI, 4, .inl g91))]]) (by rw [e_g145]; rfl) ?_
  refine r_i2l C dX11_addsLetter_124 rfl ?_
  refine r_callV (ci := 9) (wc := [[(o, .inr (9, [.ref aS, .ref aPast, .int known, .ref aSnap, .int kept, .ref aText, .int len, .int thr, .ref aOne, .ref aTwo, .ref aBoth, .ref aWord, .int x108, .ref aOpen, .ref aTimes, .ref aFar, .ref aQueue, .long x142]))]]) (wr := [[(aS, .inl (cI, 335, .inl fS))], [(aOne, .inl (cI, 4, .inl g145))], [(aWord, .inl (cI, 20, .inl g111))], [(aTwo, .inl (cI, 4, .inl g90))], [(aBoth, .inl (cI, 4, .inl g91))]]) (st := []) C (m_X11_adds l D cI cL cP cJ o aS aPast aSnap aText aOne aTwo aBoth aWord aOpen aTimes aFar aQueue known kept len thr x108 x142 ((r144 : Int32).toInt64)) k_X11_adds t_1256 [0, 1, 2, 3, 4, 5] (show ([0, 1, 2, 3, 4, 5] : List Nat).Perm (List.range 6) by decide) rfl rfl rfl (q0 := 0) rfl rfl rfl (Nat.le_of_ble_eq_true rfl) ⟨Nat.le_of_ble_eq_true rfl, Nat.le_of_ble_eq_true rfl⟩ ⟨Nat.zero_le _, Nat.zero_le _⟩ dX11_addsLetter_125 (fun r146 wr146 hw146 => ?_)
  obtain rfl := hw146
  obtain ⟨x147, e_x147⟩ : ∃ z : Int64, z = F_X11_adds x142 ((r144 : Int32).toInt64) := ⟨_, rfl⟩
  have hp := hp x147 e_x147
  refine r_ws (I' := [[(o, .inr (9, [.ref aS, .ref aPast, .int known, .ref aSnap, .int kept, .ref aText, .int len, .int thr, .ref aOne, .ref aTwo, .ref aBoth, .ref aWord, .int x108, .ref aOpen, .ref aTimes, .ref aFar, .ref aQueue, .long x147]))], [(aS, .inl (cI, 335, .inl fS))], [(aOne, .inl (cI, 4, .inl g145))], [(aWord, .inl (cI, 20, .inl g111))], [(aTwo, .inl (cI, 4, .inl g90))], [(aBoth, .inl (cI, 4, .inl g91))]]) (by rw [e_x147]; rfl) ?_
  refine r_iinc (v := 4) (L' := [(2, .int 4), (0, .ref o), (1, .int letter)]) C dX11_addsLetter_128 0 rfl (by decide) (by decide) rfl ?_
  refine r_goto (tgt := 112) C dX11_addsLetter_131 (by decide) ?_
  refine r_iload_n C dX11_addsLetter_112 0 rfl ?_
  refine r_iconst (v := 4) C dX11_addsLetter_113 (by decide) ?_
  refine r_icmp_ge (tgt := 134) C dX11_addsLetter_114 (by decide) (fun _ => ?_) (fun c => absurd c (by decide))
  refine r_iconst (v := 0) C dX11_addsLetter_134 (by decide) ?_
  refine r_istore_n (L' := [(2, .int 0), (0, .ref o), (1, .int letter)]) C dX11_addsLetter_135 (by decide) rfl ?_
  refine r_iload_n C dX11_addsLetter_136 0 rfl ?_
  refine r_iconst (v := 5) C dX11_addsLetter_137 (by decide) ?_
  refine r_icmp_ge (tgt := 158) C dX11_addsLetter_138 (by decide) (fun c => absurd c (by decide)) (fun _ => ?_)
  refine r_aload_n C dX11_addsLetter_141 1 rfl ?_
  refine r_aload_n C dX11_addsLetter_142 1 rfl ?_
  refine r_iload_n C dX11_addsLetter_143 2 rfl ?_
  refine r_iload_n C dX11_addsLetter_144 0 rfl ?_
  obtain ⟨h148, hp⟩ := hp
  refine r_callV (ci := 9) (wc := [[(o, .inr (9, [.ref aS, .ref aPast, .int known, .ref aSnap, .int kept, .ref aText, .int len, .int thr, .ref aOne, .ref aTwo, .ref aBoth, .ref aWord, .int x108, .ref aOpen, .ref aTimes, .ref aFar, .ref aQueue, .long x147]))], [(aS, .inl (cI, 335, .inl fS))], [(aOne, .inl (cI, 4, .inl g145))], [(aTwo, .inl (cI, 4, .inl g90))], [(aBoth, .inl (cI, 4, .inl g91))]]) (wr := [[(aWord, .inl (cI, 20, .inl g111))]]) (st := [.ref o]) C (m_X11_distanceOf l D cI cL cP cJ o aS aPast aSnap aText aOne aTwo aBoth aWord aOpen aTimes aFar aQueue known kept len thr x108 x147 fS g145 g90 g91 letter 0 h148) k_X11_distanceOf t_1207 [0, 1, 2, 4, 5, 3] (show ([0, 1, 2, 4, 5, 3] : List Nat).Perm (List.range 6) by decide) rfl rfl rfl (q0 := 0) rfl rfl rfl (Nat.le_of_ble_eq_true rfl) ⟨Nat.le_of_ble_eq_true rfl, Nat.le_of_ble_eq_true rfl⟩ ⟨Nat.zero_le _, Nat.zero_le _⟩ dX11_addsLetter_145 (fun r149 wr149 hw149 => ?_)
  obtain ⟨e_r149, rfl⟩ := hw149
  have hp := hp r149 e_r149
  obtain ⟨g150, e_g150⟩ : ∃ z : Nat → Int32, z = (F_X11_distanceOf fS g145 g90 g91 letter 0).2.1 := ⟨_, rfl⟩
  have hp := hp g150 e_g150
  obtain ⟨g151, e_g151⟩ : ∃ z : Nat → Int32, z = (F_X11_distanceOf fS g145 g90 g91 letter 0).2.2.1 := ⟨_, rfl⟩
  have hp := hp g151 e_g151
  obtain ⟨g152, e_g152⟩ : ∃ z : Nat → Int32, z = (F_X11_distanceOf fS g145 g90 g91 letter 0).2.2.2 := ⟨_, rfl⟩
  have hp := hp g152 e_g152
  refine r_ws (I' := [[(o, .inr (9, [.ref aS, .ref aPast, .int known, .ref aSnap, .int kept, .ref aText, .int len, .int thr, .ref aOne, .ref aTwo, .ref aBoth, .ref aWord, .int x108, .ref aOpen, .ref aTimes, .ref aFar, .ref aQueue, .long x147]))], [(aS, .inl (cI, 335, .inl fS))], [(aOne, .inl (cI, 4, .inl g150))], [(aTwo, .inl (cI, 4, .inl g151))], [(aBoth, .inl (cI, 4, .inl g152))], [(aWord, .inl (cI, 20, .inl g111))]]) (by rw [e_g150, e_g151, e_g152]; rfl) ?_
  refine r_i2l C dX11_addsLetter_148 rfl ?_
  refine r_callV (ci := 9) (wc := [[(o, .inr (9, [.ref aS, .ref aPast, .int known, .ref aSnap, .int kept, .ref aText, .int len, .int thr, .ref aOne, .ref aTwo, .ref aBoth, .ref aWord, .int x108, .ref aOpen, .ref aTimes, .ref aFar, .ref aQueue, .long x147]))]]) (wr := [[(aS, .inl (cI, 335, .inl fS))], [(aOne, .inl (cI, 4, .inl g150))], [(aTwo, .inl (cI, 4, .inl g151))], [(aBoth, .inl (cI, 4, .inl g152))], [(aWord, .inl (cI, 20, .inl g111))]]) (st := []) C (m_X11_adds l D cI cL cP cJ o aS aPast aSnap aText aOne aTwo aBoth aWord aOpen aTimes aFar aQueue known kept len thr x108 x147 ((r149 : Int32).toInt64)) k_X11_adds t_1256 [0, 1, 2, 3, 4, 5] (show ([0, 1, 2, 3, 4, 5] : List Nat).Perm (List.range 6) by decide) rfl rfl rfl (q0 := 0) rfl rfl rfl (Nat.le_of_ble_eq_true rfl) ⟨Nat.le_of_ble_eq_true rfl, Nat.le_of_ble_eq_true rfl⟩ ⟨Nat.zero_le _, Nat.zero_le _⟩ dX11_addsLetter_149 (fun r153 wr153 hw153 => ?_)
  obtain rfl := hw153
  obtain ⟨x154, e_x154⟩ : ∃ z : Int64, z = F_X11_adds x147 ((r149 : Int32).toInt64) := ⟨_, rfl⟩
  have hp := hp x154 e_x154
  refine r_ws (I' := [[(o, .inr (9, [.ref aS, .ref aPast, .int known, .ref aSnap, .int kept, .ref aText, .int len, .int thr, .ref aOne, .ref aTwo, .ref aBoth, .ref aWord, .int x108, .ref aOpen, .ref aTimes, .ref aFar, .ref aQueue, .long x154]))], [(aS, .inl (cI, 335, .inl fS))], [(aOne, .inl (cI, 4, .inl g150))], [(aTwo, .inl (cI, 4, .inl g151))], [(aBoth, .inl (cI, 4, .inl g152))], [(aWord, .inl (cI, 20, .inl g111))]]) (by rw [e_x154]; rfl) ?_
  refine r_iinc (v := 1) (L' := [(2, .int 1), (0, .ref o), (1, .int letter)]) C dX11_addsLetter_152 0 rfl (by decide) (by decide) rfl ?_
  refine r_goto (tgt := 136) C dX11_addsLetter_155 (by decide) ?_
  refine r_iload_n C dX11_addsLetter_136 0 rfl ?_
  refine r_iconst (v := 5) C dX11_addsLetter_137 (by decide) ?_
  refine r_icmp_ge (tgt := 158) C dX11_addsLetter_138 (by decide) (fun c => absurd c (by decide)) (fun _ => ?_)
  refine r_aload_n C dX11_addsLetter_141 1 rfl ?_
  refine r_aload_n C dX11_addsLetter_142 1 rfl ?_
  refine r_iload_n C dX11_addsLetter_143 2 rfl ?_
  refine r_iload_n C dX11_addsLetter_144 0 rfl ?_
  obtain ⟨h155, hp⟩ := hp
  refine r_callV (ci := 9) (wc := [[(o, .inr (9, [.ref aS, .ref aPast, .int known, .ref aSnap, .int kept, .ref aText, .int len, .int thr, .ref aOne, .ref aTwo, .ref aBoth, .ref aWord, .int x108, .ref aOpen, .ref aTimes, .ref aFar, .ref aQueue, .long x154]))], [(aS, .inl (cI, 335, .inl fS))], [(aOne, .inl (cI, 4, .inl g150))], [(aTwo, .inl (cI, 4, .inl g151))], [(aBoth, .inl (cI, 4, .inl g152))]]) (wr := [[(aWord, .inl (cI, 20, .inl g111))]]) (st := [.ref o]) C (m_X11_distanceOf l D cI cL cP cJ o aS aPast aSnap aText aOne aTwo aBoth aWord aOpen aTimes aFar aQueue known kept len thr x108 x154 fS g150 g151 g152 letter 1 h155) k_X11_distanceOf t_1207 [0, 1, 2, 3, 4, 5] (show ([0, 1, 2, 3, 4, 5] : List Nat).Perm (List.range 6) by decide) rfl rfl rfl (q0 := 0) rfl rfl rfl (Nat.le_of_ble_eq_true rfl) ⟨Nat.le_of_ble_eq_true rfl, Nat.le_of_ble_eq_true rfl⟩ ⟨Nat.zero_le _, Nat.zero_le _⟩ dX11_addsLetter_145 (fun r156 wr156 hw156 => ?_)
  obtain ⟨e_r156, rfl⟩ := hw156
  have hp := hp r156 e_r156
  obtain ⟨g157, e_g157⟩ : ∃ z : Nat → Int32, z = (F_X11_distanceOf fS g150 g151 g152 letter 1).2.1 := ⟨_, rfl⟩
  have hp := hp g157 e_g157
  obtain ⟨g158, e_g158⟩ : ∃ z : Nat → Int32, z = (F_X11_distanceOf fS g150 g151 g152 letter 1).2.2.1 := ⟨_, rfl⟩
  have hp := hp g158 e_g158
  obtain ⟨g159, e_g159⟩ : ∃ z : Nat → Int32, z = (F_X11_distanceOf fS g150 g151 g152 letter 1).2.2.2 := ⟨_, rfl⟩
  have hp := hp g159 e_g159
  refine r_ws (I' := [[(o, .inr (9, [.ref aS, .ref aPast, .int known, .ref aSnap, .int kept, .ref aText, .int len, .int thr, .ref aOne, .ref aTwo, .ref aBoth, .ref aWord, .int x108, .ref aOpen, .ref aTimes, .ref aFar, .ref aQueue, .long x154]))], [(aS, .inl (cI, 335, .inl fS))], [(aOne, .inl (cI, 4, .inl g157))], [(aTwo, .inl (cI, 4, .inl g158))], [(aBoth, .inl (cI, 4, .inl g159))], [(aWord, .inl (cI, 20, .inl g111))]]) (by rw [e_g157, e_g158, e_g159]; rfl) ?_
  refine r_i2l C dX11_addsLetter_148 rfl ?_
  refine r_callV (ci := 9) (wc := [[(o, .inr (9, [.ref aS, .ref aPast, .int known, .ref aSnap, .int kept, .ref aText, .int len, .int thr, .ref aOne, .ref aTwo, .ref aBoth, .ref aWord, .int x108, .ref aOpen, .ref aTimes, .ref aFar, .ref aQueue, .long x154]))]]) (wr := [[(aS, .inl (cI, 335, .inl fS))], [(aOne, .inl (cI, 4, .inl g157))], [(aTwo, .inl (cI, 4, .inl g158))], [(aBoth, .inl (cI, 4, .inl g159))], [(aWord, .inl (cI, 20, .inl g111))]]) (st := []) C (m_X11_adds l D cI cL cP cJ o aS aPast aSnap aText aOne aTwo aBoth aWord aOpen aTimes aFar aQueue known kept len thr x108 x154 ((r156 : Int32).toInt64)) k_X11_adds t_1256 [0, 1, 2, 3, 4, 5] (show ([0, 1, 2, 3, 4, 5] : List Nat).Perm (List.range 6) by decide) rfl rfl rfl (q0 := 0) rfl rfl rfl (Nat.le_of_ble_eq_true rfl) ⟨Nat.le_of_ble_eq_true rfl, Nat.le_of_ble_eq_true rfl⟩ ⟨Nat.zero_le _, Nat.zero_le _⟩ dX11_addsLetter_149 (fun r160 wr160 hw160 => ?_)
  obtain rfl := hw160
  obtain ⟨x161, e_x161⟩ : ∃ z : Int64, z = F_X11_adds x154 ((r156 : Int32).toInt64) := ⟨_, rfl⟩
  have hp := hp x161 e_x161
  refine r_ws (I' := [[(o, .inr (9, [.ref aS, .ref aPast, .int known, .ref aSnap, .int kept, .ref aText, .int len, .int thr, .ref aOne, .ref aTwo, .ref aBoth, .ref aWord, .int x108, .ref aOpen, .ref aTimes, .ref aFar, .ref aQueue, .long x161]))], [(aS, .inl (cI, 335, .inl fS))], [(aOne, .inl (cI, 4, .inl g157))], [(aTwo, .inl (cI, 4, .inl g158))], [(aBoth, .inl (cI, 4, .inl g159))], [(aWord, .inl (cI, 20, .inl g111))]]) (by rw [e_x161]; rfl) ?_
  refine r_iinc (v := 2) (L' := [(2, .int 2), (0, .ref o), (1, .int letter)]) C dX11_addsLetter_152 0 rfl (by decide) (by decide) rfl ?_
  refine r_goto (tgt := 136) C dX11_addsLetter_155 (by decide) ?_
  refine r_iload_n C dX11_addsLetter_136 0 rfl ?_
  refine r_iconst (v := 5) C dX11_addsLetter_137 (by decide) ?_
  refine r_icmp_ge (tgt := 158) C dX11_addsLetter_138 (by decide) (fun c => absurd c (by decide)) (fun _ => ?_)
  refine r_aload_n C dX11_addsLetter_141 1 rfl ?_
  refine r_aload_n C dX11_addsLetter_142 1 rfl ?_
  refine r_iload_n C dX11_addsLetter_143 2 rfl ?_
  refine r_iload_n C dX11_addsLetter_144 0 rfl ?_
  obtain ⟨h162, hp⟩ := hp
  refine r_callV (ci := 9) (wc := [[(o, .inr (9, [.ref aS, .ref aPast, .int known, .ref aSnap, .int kept, .ref aText, .int len, .int thr, .ref aOne, .ref aTwo, .ref aBoth, .ref aWord, .int x108, .ref aOpen, .ref aTimes, .ref aFar, .ref aQueue, .long x161]))], [(aS, .inl (cI, 335, .inl fS))], [(aOne, .inl (cI, 4, .inl g157))], [(aTwo, .inl (cI, 4, .inl g158))], [(aBoth, .inl (cI, 4, .inl g159))]]) (wr := [[(aWord, .inl (cI, 20, .inl g111))]]) (st := [.ref o]) C (m_X11_distanceOf l D cI cL cP cJ o aS aPast aSnap aText aOne aTwo aBoth aWord aOpen aTimes aFar aQueue known kept len thr x108 x161 fS g157 g158 g159 letter 2 h162) k_X11_distanceOf t_1207 [0, 1, 2, 3, 4, 5] (show ([0, 1, 2, 3, 4, 5] : List Nat).Perm (List.range 6) by decide) rfl rfl rfl (q0 := 0) rfl rfl rfl (Nat.le_of_ble_eq_true rfl) ⟨Nat.le_of_ble_eq_true rfl, Nat.le_of_ble_eq_true rfl⟩ ⟨Nat.zero_le _, Nat.zero_le _⟩ dX11_addsLetter_145 (fun r163 wr163 hw163 => ?_)
  obtain ⟨e_r163, rfl⟩ := hw163
  have hp := hp r163 e_r163
  obtain ⟨g164, e_g164⟩ : ∃ z : Nat → Int32, z = (F_X11_distanceOf fS g157 g158 g159 letter 2).2.1 := ⟨_, rfl⟩
  have hp := hp g164 e_g164
  obtain ⟨g165, e_g165⟩ : ∃ z : Nat → Int32, z = (F_X11_distanceOf fS g157 g158 g159 letter 2).2.2.1 := ⟨_, rfl⟩
  have hp := hp g165 e_g165
  obtain ⟨g166, e_g166⟩ : ∃ z : Nat → Int32, z = (F_X11_distanceOf fS g157 g158 g159 letter 2).2.2.2 := ⟨_, rfl⟩
  have hp := hp g166 e_g166
  refine r_ws (I' := [[(o, .inr (9, [.ref aS, .ref aPast, .int known, .ref aSnap, .int kept, .ref aText, .int len, .int thr, .ref aOne, .ref aTwo, .ref aBoth, .ref aWord, .int x108, .ref aOpen, .ref aTimes, .ref aFar, .ref aQueue, .long x161]))], [(aS, .inl (cI, 335, .inl fS))], [(aOne, .inl (cI, 4, .inl g164))], [(aTwo, .inl (cI, 4, .inl g165))], [(aBoth, .inl (cI, 4, .inl g166))], [(aWord, .inl (cI, 20, .inl g111))]]) (by rw [e_g164, e_g165, e_g166]; rfl) ?_
  refine r_i2l C dX11_addsLetter_148 rfl ?_
  refine r_callV (ci := 9) (wc := [[(o, .inr (9, [.ref aS, .ref aPast, .int known, .ref aSnap, .int kept, .ref aText, .int len, .int thr, .ref aOne, .ref aTwo, .ref aBoth, .ref aWord, .int x108, .ref aOpen, .ref aTimes, .ref aFar, .ref aQueue, .long x161]))]]) (wr := [[(aS, .inl (cI, 335, .inl fS))], [(aOne, .inl (cI, 4, .inl g164))], [(aTwo, .inl (cI, 4, .inl g165))], [(aBoth, .inl (cI, 4, .inl g166))], [(aWord, .inl (cI, 20, .inl g111))]]) (st := []) C (m_X11_adds l D cI cL cP cJ o aS aPast aSnap aText aOne aTwo aBoth aWord aOpen aTimes aFar aQueue known kept len thr x108 x161 ((r163 : Int32).toInt64)) k_X11_adds t_1256 [0, 1, 2, 3, 4, 5] (show ([0, 1, 2, 3, 4, 5] : List Nat).Perm (List.range 6) by decide) rfl rfl rfl (q0 := 0) rfl rfl rfl (Nat.le_of_ble_eq_true rfl) ⟨Nat.le_of_ble_eq_true rfl, Nat.le_of_ble_eq_true rfl⟩ ⟨Nat.zero_le _, Nat.zero_le _⟩ dX11_addsLetter_149 (fun r167 wr167 hw167 => ?_)
  obtain rfl := hw167
  obtain ⟨x168, e_x168⟩ : ∃ z : Int64, z = F_X11_adds x161 ((r163 : Int32).toInt64) := ⟨_, rfl⟩
  have hp := hp x168 e_x168
  refine r_ws (I' := [[(o, .inr (9, [.ref aS, .ref aPast, .int known, .ref aSnap, .int kept, .ref aText, .int len, .int thr, .ref aOne, .ref aTwo, .ref aBoth, .ref aWord, .int x108, .ref aOpen, .ref aTimes, .ref aFar, .ref aQueue, .long x168]))], [(aS, .inl (cI, 335, .inl fS))], [(aOne, .inl (cI, 4, .inl g164))], [(aTwo, .inl (cI, 4, .inl g165))], [(aBoth, .inl (cI, 4, .inl g166))], [(aWord, .inl (cI, 20, .inl g111))]]) (by rw [e_x168]; rfl) ?_
  refine r_iinc (v := 3) (L' := [(2, .int 3), (0, .ref o), (1, .int letter)]) C dX11_addsLetter_152 0 rfl (by decide) (by decide) rfl ?_
  refine r_goto (tgt := 136) C dX11_addsLetter_155 (by decide) ?_
  refine r_iload_n C dX11_addsLetter_136 0 rfl ?_
  refine r_iconst (v := 5) C dX11_addsLetter_137 (by decide) ?_
  refine r_icmp_ge (tgt := 158) C dX11_addsLetter_138 (by decide) (fun c => absurd c (by decide)) (fun _ => ?_)
  refine r_aload_n C dX11_addsLetter_141 1 rfl ?_
  refine r_aload_n C dX11_addsLetter_142 1 rfl ?_
  refine r_iload_n C dX11_addsLetter_143 2 rfl ?_
  refine r_iload_n C dX11_addsLetter_144 0 rfl ?_
  obtain ⟨h169, hp⟩ := hp
  refine r_callV (ci := 9) (wc := [[(o, .inr (9, [.ref aS, .ref aPast, .int known, .ref aSnap, .int kept, .ref aText, .int len, .int thr, .ref aOne, .ref aTwo, .ref aBoth, .ref aWord, .int x108, .ref aOpen, .ref aTimes, .ref aFar, .ref aQueue, .long x168]))], [(aS, .inl (cI, 335, .inl fS))], [(aOne, .inl (cI, 4, .inl g164))], [(aTwo, .inl (cI, 4, .inl g165))], [(aBoth, .inl (cI, 4, .inl g166))]]) (wr := [[(aWord, .inl (cI, 20, .inl g111))]]) (st := [.ref o]) C (m_X11_distanceOf l D cI cL cP cJ o aS aPast aSnap aText aOne aTwo aBoth aWord aOpen aTimes aFar aQueue known kept len thr x108 x168 fS g164 g165 g166 letter 3 h169) k_X11_distanceOf t_1207 [0, 1, 2, 3, 4, 5] (show ([0, 1, 2, 3, 4, 5] : List Nat).Perm (List.range 6) by decide) rfl rfl rfl (q0 := 0) rfl rfl rfl (Nat.le_of_ble_eq_true rfl) ⟨Nat.le_of_ble_eq_true rfl, Nat.le_of_ble_eq_true rfl⟩ ⟨Nat.zero_le _, Nat.zero_le _⟩ dX11_addsLetter_145 (fun r170 wr170 hw170 => ?_)
  obtain ⟨e_r170, rfl⟩ := hw170
  have hp := hp r170 e_r170
  obtain ⟨g171, e_g171⟩ : ∃ z : Nat → Int32, z = (F_X11_distanceOf fS g164 g165 g166 letter 3).2.1 := ⟨_, rfl⟩
  have hp := hp g171 e_g171
  obtain ⟨g172, e_g172⟩ : ∃ z : Nat → Int32, z = (F_X11_distanceOf fS g164 g165 g166 letter 3).2.2.1 := ⟨_, rfl⟩
  have hp := hp g172 e_g172
  obtain ⟨g173, e_g173⟩ : ∃ z : Nat → Int32, z = (F_X11_distanceOf fS g164 g165 g166 letter 3).2.2.2 := ⟨_, rfl⟩
  have hp := hp g173 e_g173
  refine r_ws (I' := [[(o, .inr (9, [.ref aS, .ref aPast, .int known, .ref aSnap, .int kept, .ref aText, .int len, .int thr, .ref aOne, .ref aTwo, .ref aBoth, .ref aWord, .int x108, .ref aOpen, .ref aTimes, .ref aFar, .ref aQueue, .long x168]))], [(aS, .inl (cI, 335, .inl fS))], [(aOne, .inl (cI, 4, .inl g171))], [(aTwo, .inl (cI, 4, .inl g172))], [(aBoth, .inl (cI, 4, .inl g173))], [(aWord, .inl (cI, 20, .inl g111))]]) (by rw [e_g171, e_g172, e_g173]; rfl) ?_
  refine r_i2l C dX11_addsLetter_148 rfl ?_
  refine r_callV (ci := 9) (wc := [[(o, .inr (9, [.ref aS, .ref aPast, .int known, .ref aSnap, .int kept, .ref aText, .int len, .int thr, .ref aOne, .ref aTwo, .ref aBoth, .ref aWord, .int x108, .ref aOpen, .ref aTimes, .ref aFar, .ref aQueue, .long x168]))]]) (wr := [[(aS, .inl (cI, 335, .inl fS))], [(aOne, .inl (cI, 4, .inl g171))], [(aTwo, .inl (cI, 4, .inl g172))], [(aBoth, .inl (cI, 4, .inl g173))], [(aWord, .inl (cI, 20, .inl g111))]]) (st := []) C (m_X11_adds l D cI cL cP cJ o aS aPast aSnap aText aOne aTwo aBoth aWord aOpen aTimes aFar aQueue known kept len thr x108 x168 ((r170 : Int32).toInt64)) k_X11_adds t_1256 [0, 1, 2, 3, 4, 5] (show ([0, 1, 2, 3, 4, 5] : List Nat).Perm (List.range 6) by decide) rfl rfl rfl (q0 := 0) rfl rfl rfl (Nat.le_of_ble_eq_true rfl) ⟨Nat.le_of_ble_eq_true rfl, Nat.le_of_ble_eq_true rfl⟩ ⟨Nat.zero_le _, Nat.zero_le _⟩ dX11_addsLetter_149 (fun r174 wr174 hw174 => ?_)
  obtain rfl := hw174
  obtain ⟨x175, e_x175⟩ : ∃ z : Int64, z = F_X11_adds x168 ((r170 : Int32).toInt64) := ⟨_, rfl⟩
  have hp := hp x175 e_x175
  refine r_ws (I' := [[(o, .inr (9, [.ref aS, .ref aPast, .int known, .ref aSnap, .int kept, .ref aText, .int len, .int thr, .ref aOne, .ref aTwo, .ref aBoth, .ref aWord, .int x108, .ref aOpen, .ref aTimes, .ref aFar, .ref aQueue, .long x175]))], [(aS, .inl (cI, 335, .inl fS))], [(aOne, .inl (cI, 4, .inl g171))], [(aTwo, .inl (cI, 4, .inl g172))], [(aBoth, .inl (cI, 4, .inl g173))], [(aWord, .inl (cI, 20, .inl g111))]]) (by rw [e_x175]; rfl) ?_
  refine r_iinc (v := 4) (L' := [(2, .int 4), (0, .ref o), (1, .int letter)]) C dX11_addsLetter_152 0 rfl (by decide) (by decide) rfl ?_
  refine r_goto (tgt := 136) C dX11_addsLetter_155 (by decide) ?_
  refine r_iload_n C dX11_addsLetter_136 0 rfl ?_
  refine r_iconst (v := 5) C dX11_addsLetter_137 (by decide) ?_
  refine r_icmp_ge (tgt := 158) C dX11_addsLetter_138 (by decide) (fun c => absurd c (by decide)) (fun _ => ?_)
  refine r_aload_n C dX11_addsLetter_141 1 rfl ?_
  refine r_aload_n C dX11_addsLetter_142 1 rfl ?_
  refine r_iload_n C dX11_addsLetter_143 2 rfl ?_
  refine r_iload_n C dX11_addsLetter_144 0 rfl ?_
  obtain ⟨h176, hp⟩ := hp
  refine r_callV (ci := 9) (wc := [[(o, .inr (9, [.ref aS, .ref aPast, .int known, .ref aSnap, .int kept, .ref aText, .int len, .int thr, .ref aOne, .ref aTwo, .ref aBoth, .ref aWord, .int x108, .ref aOpen, .ref aTimes, .ref aFar, .ref aQueue, .long x175]))], [(aS, .inl (cI, 335, .inl fS))], [(aOne, .inl (cI, 4, .inl g171))], [(aTwo, .inl (cI, 4, .inl g172))], [(aBoth, .inl (cI, 4, .inl g173))]]) (wr := [[(aWord, .inl (cI, 20, .inl g111))]]) (st := [.ref o]) C (m_X11_distanceOf l D cI cL cP cJ o aS aPast aSnap aText aOne aTwo aBoth aWord aOpen aTimes aFar aQueue known kept len thr x108 x175 fS g171 g172 g173 letter 4 h176) k_X11_distanceOf t_1207 [0, 1, 2, 3, 4, 5] (show ([0, 1, 2, 3, 4, 5] : List Nat).Perm (List.range 6) by decide) rfl rfl rfl (q0 := 0) rfl rfl rfl (Nat.le_of_ble_eq_true rfl) ⟨Nat.le_of_ble_eq_true rfl, Nat.le_of_ble_eq_true rfl⟩ ⟨Nat.zero_le _, Nat.zero_le _⟩ dX11_addsLetter_145 (fun r177 wr177 hw177 => ?_)
  obtain ⟨e_r177, rfl⟩ := hw177
  have hp := hp r177 e_r177
  obtain ⟨g178, e_g178⟩ : ∃ z : Nat → Int32, z = (F_X11_distanceOf fS g171 g172 g173 letter 4).2.1 := ⟨_, rfl⟩
  have hp := hp g178 e_g178
  obtain ⟨g179, e_g179⟩ : ∃ z : Nat → Int32, z = (F_X11_distanceOf fS g171 g172 g173 letter 4).2.2.1 := ⟨_, rfl⟩
  have hp := hp g179 e_g179
  obtain ⟨g180, e_g180⟩ : ∃ z : Nat → Int32, z = (F_X11_distanceOf fS g171 g172 g173 letter 4).2.2.2 := ⟨_, rfl⟩
  have hp := hp g180 e_g180
  refine r_ws (I' := [[(o, .inr (9, [.ref aS, .ref aPast, .int known, .ref aSnap, .int kept, .ref aText, .int len, .int thr, .ref aOne, .ref aTwo, .ref aBoth, .ref aWord, .int x108, .ref aOpen, .ref aTimes, .ref aFar, .ref aQueue, .long x175]))], [(aS, .inl (cI, 335, .inl fS))], [(aOne, .inl (cI, 4, .inl g178))], [(aTwo, .inl (cI, 4, .inl g179))], [(aBoth, .inl (cI, 4, .inl g180))], [(aWord, .inl (cI, 20, .inl g111))]]) (by rw [e_g178, e_g179, e_g180]; rfl) ?_
  refine r_i2l C dX11_addsLetter_148 rfl ?_
  refine r_callV (ci := 9) (wc := [[(o, .inr (9, [.ref aS, .ref aPast, .int known, .ref aSnap, .int kept, .ref aText, .int len, .int thr, .ref aOne, .ref aTwo, .ref aBoth, .ref aWord, .int x108, .ref aOpen, .ref aTimes, .ref aFar, .ref aQueue, .long x175]))]]) (wr := [[(aS, .inl (cI, 335, .inl fS))], [(aOne, .inl (cI, 4, .inl g178))], [(aTwo, .inl (cI, 4, .inl g179))], [(aBoth, .inl (cI, 4, .inl g180))], [(aWord, .inl (cI, 20, .inl g111))]]) (st := []) C (m_X11_adds l D cI cL cP cJ o aS aPast aSnap aText aOne aTwo aBoth aWord aOpen aTimes aFar aQueue known kept len thr x108 x175 ((r177 : Int32).toInt64)) k_X11_adds t_1256 [0, 1, 2, 3, 4, 5] (show ([0, 1, 2, 3, 4, 5] : List Nat).Perm (List.range 6) by decide) rfl rfl rfl (q0 := 0) rfl rfl rfl (Nat.le_of_ble_eq_true rfl) ⟨Nat.le_of_ble_eq_true rfl, Nat.le_of_ble_eq_true rfl⟩ ⟨Nat.zero_le _, Nat.zero_le _⟩ dX11_addsLetter_149 (fun r181 wr181 hw181 => ?_)
  obtain rfl := hw181
  obtain ⟨x182, e_x182⟩ : ∃ z : Int64, z = F_X11_adds x175 ((r177 : Int32).toInt64) := ⟨_, rfl⟩
  have hp := hp x182 e_x182
  refine r_ws (I' := [[(o, .inr (9, [.ref aS, .ref aPast, .int known, .ref aSnap, .int kept, .ref aText, .int len, .int thr, .ref aOne, .ref aTwo, .ref aBoth, .ref aWord, .int x108, .ref aOpen, .ref aTimes, .ref aFar, .ref aQueue, .long x182]))], [(aS, .inl (cI, 335, .inl fS))], [(aOne, .inl (cI, 4, .inl g178))], [(aTwo, .inl (cI, 4, .inl g179))], [(aBoth, .inl (cI, 4, .inl g180))], [(aWord, .inl (cI, 20, .inl g111))]]) (by rw [e_x182]; rfl) ?_
  refine r_iinc (v := 5) (L' := [(2, .int 5), (0, .ref o), (1, .int letter)]) C dX11_addsLetter_152 0 rfl (by decide) (by decide) rfl ?_
  refine r_goto (tgt := 136) C dX11_addsLetter_155 (by decide) ?_
  refine r_iload_n C dX11_addsLetter_136 0 rfl ?_
  refine r_iconst (v := 5) C dX11_addsLetter_137 (by decide) ?_
  refine r_icmp_ge (tgt := 158) C dX11_addsLetter_138 (by decide) (fun _ => ?_) (fun c => absurd c (by decide))
  refine r_aload_n C dX11_addsLetter_158 1 rfl ?_
  refine r_aload_n C dX11_addsLetter_159 1 rfl ?_
  refine r_iload_n C dX11_addsLetter_160 2 rfl ?_
  have h183 := hp
  refine r_callV (ci := 9) (wc := [[(o, .inr (9, [.ref aS, .ref aPast, .int known, .ref aSnap, .int kept, .ref aText, .int len, .int thr, .ref aOne, .ref aTwo, .ref aBoth, .ref aWord, .int x108, .ref aOpen, .ref aTimes, .ref aFar, .ref aQueue, .long x182]))], [(aS, .inl (cI, 335, .inl fS))], [(aOne, .inl (cI, 4, .inl g178))], [(aTwo, .inl (cI, 4, .inl g179))], [(aBoth, .inl (cI, 4, .inl g180))]]) (wr := [[(aWord, .inl (cI, 20, .inl g111))]]) (st := [.ref o]) C (m_X11_nearestTo l D cI cL cP cJ o aS aPast aSnap aText aOne aTwo aBoth aWord aOpen aTimes aFar aQueue known kept len thr x108 x182 fS g178 g179 g180 letter h183) k_X11_nearestTo t_1215 [0, 1, 2, 3, 4, 5] (show ([0, 1, 2, 3, 4, 5] : List Nat).Perm (List.range 6) by decide) rfl rfl rfl (q0 := 0) rfl rfl rfl (Nat.le_of_ble_eq_true rfl) ⟨Nat.le_of_ble_eq_true rfl, Nat.le_of_ble_eq_true rfl⟩ ⟨Nat.zero_le _, Nat.zero_le _⟩ dX11_addsLetter_161 (fun r184 wr184 hw184 => ?_)
  obtain ⟨e_r184, rfl⟩ := hw184
  obtain ⟨g185, e_g185⟩ : ∃ z : Nat → Int32, z = (F_X11_nearestTo fS g178 g179 g180 letter).2.1 := ⟨_, rfl⟩
  obtain ⟨g186, e_g186⟩ : ∃ z : Nat → Int32, z = (F_X11_nearestTo fS g178 g179 g180 letter).2.2.1 := ⟨_, rfl⟩
  obtain ⟨g187, e_g187⟩ : ∃ z : Nat → Int32, z = (F_X11_nearestTo fS g178 g179 g180 letter).2.2.2 := ⟨_, rfl⟩
  refine r_ws (I' := [[(o, .inr (9, [.ref aS, .ref aPast, .int known, .ref aSnap, .int kept, .ref aText, .int len, .int thr, .ref aOne, .ref aTwo, .ref aBoth, .ref aWord, .int x108, .ref aOpen, .ref aTimes, .ref aFar, .ref aQueue, .long x182]))], [(aS, .inl (cI, 335, .inl fS))], [(aOne, .inl (cI, 4, .inl g185))], [(aTwo, .inl (cI, 4, .inl g186))], [(aBoth, .inl (cI, 4, .inl g187))], [(aWord, .inl (cI, 20, .inl g111))]]) (by rw [e_g185, e_g186, e_g187]; rfl) ?_
  refine r_i2l C dX11_addsLetter_164 rfl ?_
  refine r_callV (ci := 9) (wc := [[(o, .inr (9, [.ref aS, .ref aPast, .int known, .ref aSnap, .int kept, .ref aText, .int len, .int thr, .ref aOne, .ref aTwo, .ref aBoth, .ref aWord, .int x108, .ref aOpen, .ref aTimes, .ref aFar, .ref aQueue, .long x182]))]]) (wr := [[(aS, .inl (cI, 335, .inl fS))], [(aOne, .inl (cI, 4, .inl g185))], [(aTwo, .inl (cI, 4, .inl g186))], [(aBoth, .inl (cI, 4, .inl g187))], [(aWord, .inl (cI, 20, .inl g111))]]) (st := []) C (m_X11_adds l D cI cL cP cJ o aS aPast aSnap aText aOne aTwo aBoth aWord aOpen aTimes aFar aQueue known kept len thr x108 x182 ((r184 : Int32).toInt64)) k_X11_adds t_1256 [0, 1, 2, 3, 4, 5] (show ([0, 1, 2, 3, 4, 5] : List Nat).Perm (List.range 6) by decide) rfl rfl rfl (q0 := 0) rfl rfl rfl (Nat.le_of_ble_eq_true rfl) ⟨Nat.le_of_ble_eq_true rfl, Nat.le_of_ble_eq_true rfl⟩ ⟨Nat.zero_le _, Nat.zero_le _⟩ dX11_addsLetter_165 (fun r188 wr188 hw188 => ?_)
  obtain rfl := hw188
  obtain ⟨x189, e_x189⟩ : ∃ z : Int64, z = F_X11_adds x182 ((r184 : Int32).toInt64) := ⟨_, rfl⟩
  refine r_ws (I' := [[(o, .inr (9, [.ref aS, .ref aPast, .int known, .ref aSnap, .int kept, .ref aText, .int len, .int thr, .ref aOne, .ref aTwo, .ref aBoth, .ref aWord, .int x108, .ref aOpen, .ref aTimes, .ref aFar, .ref aQueue, .long x189]))], [(aS, .inl (cI, 335, .inl fS))], [(aOne, .inl (cI, 4, .inl g185))], [(aTwo, .inl (cI, 4, .inl g186))], [(aBoth, .inl (cI, 4, .inl g187))], [(aWord, .inl (cI, 20, .inl g111))]]) (by rw [e_x189]; rfl) ?_
  have eF : F_X11_addsLetter hash fS fOne fTwo fBoth fWord letter = (x108, x189, g185, g186, g187, g111) := by have q := e_r2.symm; subst q; have q := e_x4.symm; subst q; have q := e_r6.symm; subst q; have q := e_x8.symm; subst q; have q := e_r10.symm; subst q; have q := e_x12.symm; subst q; have q := e_r14.symm; subst q; have q := e_x16.symm; subst q; have q := e_r18.symm; subst q; have q := e_g19.symm; subst q; have q := e_g20.symm; subst q; have q := e_g21.symm; subst q; have q := e_x23.symm; subst q; have q := e_r25.symm; subst q; have q := e_g26.symm; subst q; have q := e_g27.symm; subst q; have q := e_g28.symm; subst q; have q := e_x30.symm; subst q; have q := e_r32.symm; subst q; have q := e_g33.symm; subst q; have q := e_g34.symm; subst q; have q := e_g35.symm; subst q; have q := e_x37.symm; subst q; have q := e_r39.symm; subst q; have q := e_g40.symm; subst q; have q := e_g41.symm; subst q; have q := e_g42.symm; subst q; have q := e_x44.symm; subst q; have q := e_r46.symm; subst q; have q := e_g47.symm; subst q; have q := e_g48.symm; subst q; have q := e_g49.symm; subst q; have q := e_x51.symm; subst q; have q := e_r53.symm; subst q; have q := e_g54.symm; subst q; have q := e_g55.symm; subst q; have q := e_g56.symm; subst q; have q := e_x58.symm; subst q; have q := e_r60.symm; subst q; have q := e_g61.symm; subst q; have q := e_g62.symm; subst q; have q := e_g63.symm; subst q; have q := e_x65.symm; subst q; have q := e_r67.symm; subst q; have q := e_g68.symm; subst q; have q := e_g69.symm; subst q; have q := e_g70.symm; subst q; have q := e_x72.symm; subst q; have q := e_r74.symm; subst q; have q := e_g75.symm; subst q; have q := e_g76.symm; subst q; have q := e_g77.symm; subst q; have q := e_x79.symm; subst q; have q := e_r81.symm; subst q; have q := e_g82.symm; subst q; have q := e_g83.symm; subst q; have q := e_g84.symm; subst q; have q := e_x86.symm; subst q; have q := e_r88.symm; subst q; have q := e_g89.symm; subst q; have q := e_g90.symm; subst q; have q := e_g91.symm; subst q; have q := e_x93.symm; subst q; have q := e_z104.symm; subst q; have q := e_f105.symm; subst q; have q := e_x108.symm; subst q; have q := e_x109.symm; subst q; have q := e_g110.symm; subst q; have q := e_g111.symm; subst q; have q := e_r113.symm; subst q; have q := e_x115.symm; subst q; have q := e_r117.symm; subst q; have q := e_x119.symm; subst q; have q := e_r121.symm; subst q; have q := e_x123.symm; subst q; have q := e_r125.symm; subst q; have q := e_x127.symm; subst q; have q := e_r129.symm; subst q; have q := e_g130.symm; subst q; have q := e_x132.symm; subst q; have q := e_r134.symm; subst q; have q := e_g135.symm; subst q; have q := e_x137.symm; subst q; have q := e_r139.symm; subst q; have q := e_g140.symm; subst q; have q := e_x142.symm; subst q; have q := e_r144.symm; subst q; have q := e_g145.symm; subst q; have q := e_x147.symm; subst q; have q := e_r149.symm; subst q; have q := e_g150.symm; subst q; have q := e_g151.symm; subst q; have q := e_g152.symm; subst q; have q := e_x154.symm; subst q; have q := e_r156.symm; subst q; have q := e_g157.symm; subst q; have q := e_g158.symm; subst q; have q := e_g159.symm; subst q; have q := e_x161.symm; subst q; have q := e_r163.symm; subst q; have q := e_g164.symm; subst q; have q := e_g165.symm; subst q; have q := e_g166.symm; subst q; have q := e_x168.symm; subst q; have q := e_r170.symm; subst q; have q := e_g171.symm; subst q; have q := e_g172.symm; subst q; have q := e_g173.symm; subst q; have q := e_x175.symm; subst q; have q := e_r177.symm; subst q; have q := e_g178.symm; subst q; have q := e_g179.symm; subst q; have q := e_g180.symm; subst q; have q := e_x182.symm; subst q; have q := e_r184.symm; subst q; have q := e_g185.symm; subst q; have q := e_g186.symm; subst q; have q := e_g187.symm; subst q; have q := e_x189.symm; subst q; rfl
  exact r_vret (r := ()) C hA hr hlo dX11_addsLetter_168 [[(o, .inr (9, [.ref aS, .ref aPast, .int known, .ref aSnap, .int kept, .ref aText, .int len, .int thr, .ref aOne, .ref aTwo, .ref aBoth, .ref aWord, .int x108, .ref aOpen, .ref aTimes, .ref aFar, .ref aQueue, .long x189]))], [(aS, .inl (cI, 335, .inl fS))], [(aOne, .inl (cI, 4, .inl g185))], [(aTwo, .inl (cI, 4, .inl g186))], [(aBoth, .inl (cI, 4, .inl g187))], [(aWord, .inl (cI, 20, .inl g111))]] (by simp only [eF]) rfl hQ
theorem k_X11_digest : kV yX11_digest cX11_digest 3 (some .long) 0 := ⟨t_1252, t_1253, t_67, t_1254, by decide +kernel, by decide +kernel, by decide +kernel⟩
def F_X11_digest_L133 (len : Int32) (fText : Nat → Int32) : Nat → Int32 → Int64 → Int32 × Int64
  | 0, y123, k124 => (y123, k124)
  | nn + 1, y123, k124 => (if len ≤ y123 then ((y123, k124)) else (let x128 : Int64 := F_X11_adds k124 ((fText y123.toNatClampNeg : Int32).toInt64); let x129 : Int32 := y123 + 1; F_X11_digest_L133 len fText nn x129 x128))
def P_X11_digest_L133 (len : Int32) (fText : Nat → Int32) : Nat → Int32 → Int64 → Prop
  | 0, _, _ => False
  | nn + 1, y123, k124 => ((len ≤ y123 → True) ∧ (¬ len ≤ y123 → ((vp_in y123 60) ∧ (∀ x128 : Int64, x128 = F_X11_adds k124 ((fText y123.toNatClampNeg : Int32).toInt64) → (∀ x129 : Int32, x129 = y123 + 1 → (P_X11_digest_L133 len fText nn x129 x128))))))
set_option maxRecDepth 20000 in
def F_X11_digest (known : Int32) (kept : Int32) (len : Int32) (fS : Nat → Int32) (fText : Nat → Int32) (fOne : Nat → Int32) (fTwo : Nat → Int32) (fBoth : Nat → Int32) (fWord : Nat → Int32) (fFar : Nat → Int32) (fQueue : Nat → Int32) : Int64 × Int32 × Int32 × Int64 × (Nat → Int32) × (Nat → Int32) × (Nat → Int32) × (Nat → Int32) × (Nat → Int32) × (Nat → Int32) := let r2 : Int32 := (F_X11_counted known fS fOne fTwo fBoth 0).1; let g3 : Nat → Int32 := (F_X11_counted known fS fOne fTwo fBoth 0).2.1; let g4 : Nat → Int32 := (F_X11_counted known fS fOne fTwo fBoth 0).2.2.1; let g5 : Nat → Int32 := (F_X11_counted known fS fOne fTwo fBoth 0).2.2.2; let x7 : Int64 := F_X11_adds 3733 ((r2 : Int32).toInt64); let r9 : Int32 := (F_X11_counted known fS g3 g4 g5 1).1; let g10 : Nat → Int32 := (F_X11_counted known fS g3 g4 g5 1).2.1; let g11 : Nat → Int32 := (F_X11_counted known fS g3 g4 g5 1).2.2.1; let g12 : Nat → Int32 := (F_X11_counted known fS g3 g4 g5 1).2.2.2; let x14 : Int64 := F_X11_adds x7 ((r9 : Int32).toInt64); let r16 : Int32 := (F_X11_counted known fS g10 g11 g12 2).1; let g17 : Nat → Int32 := (F_X11_counted known fS g10 g11 g12 2).2.1; let g18 : Nat → Int32 := (F_X11_counted known fS g10 g11 g12 2).2.2.1; let g19 : Nat → Int32 := (F_X11_counted known fS g10 g11 g12 2).2.2.2; let x21 : Int64 := F_X11_adds x14 ((r16 : Int32).toInt64); let r23 : Int32 := (F_X11_counted known fS g17 g18 g19 3).1; let g24 : Nat → Int32 := (F_X11_counted known fS g17 g18 g19 3).2.1; let g25 : Nat → Int32 := (F_X11_counted known fS g17 g18 g19 3).2.2.1; let g26 : Nat → Int32 := (F_X11_counted known fS g17 g18 g19 3).2.2.2; let x28 : Int64 := F_X11_adds x21 ((r23 : Int32).toInt64); let r30 : Int32 := (F_X11_counted known fS g24 g25 g26 4).1; let g31 : Nat → Int32 := (F_X11_counted known fS g24 g25 g26 4).2.1; let g32 : Nat → Int32 := (F_X11_counted known fS g24 g25 g26 4).2.2.1; let g33 : Nat → Int32 := (F_X11_counted known fS g24 g25 g26 4).2.2.2; let x35 : Int64 := F_X11_adds x28 ((r30 : Int32).toInt64); let r37 : Int32 := (F_X11_counted known fS g31 g32 g33 5).1; let g38 : Nat → Int32 := (F_X11_counted known fS g31 g32 g33 5).2.1; let g39 : Nat → Int32 := (F_X11_counted known fS g31 g32 g33 5).2.2.1; let g40 : Nat → Int32 := (F_X11_counted known fS g31 g32 g33 5).2.2.2; let x42 : Int64 := F_X11_adds x35 ((r37 : Int32).toInt64); let r44 : Int32 := (F_X11_counted known fS g38 g39 g40 6).1; let g45 : Nat → Int32 := (F_X11_counted known fS g38 g39 g40 6).2.1; let g46 : Nat → Int32 := (F_X11_counted known fS g38 g39 g40 6).2.2.1; let g47 : Nat → Int32 := (F_X11_counted known fS g38 g39 g40 6).2.2.2; let x49 : Int64 := F_X11_adds x42 ((r44 : Int32).toInt64); let x53 : Int64 := (F_X11_addsLetter x49 fS g45 g46 g47 fWord 0).2.1; let g54 : Nat → Int32 := (F_X11_addsLetter x49 fS g45 g46 g47 fWord 0).2.2.1; let g55 : Nat → Int32 := (F_X11_addsLetter x49 fS g45 g46 g47 fWord 0).2.2.2.1; let g56 : Nat → Int32 := (F_X11_addsLetter x49 fS g45 g46 g47 fWord 0).2.2.2.2.1; let g57 : Nat → Int32 := (F_X11_addsLetter x49 fS g45 g46 g47 fWord 0).2.2.2.2.2; let x61 : Int64 := (F_X11_addsLetter x53 fS g54 g55 g56 g57 1).2.1; let g62 : Nat → Int32 := (F_X11_addsLetter x53 fS g54 g55 g56 g57 1).2.2.1; let g63 : Nat → Int32 := (F_X11_addsLetter x53 fS g54 g55 g56 g57 1).2.2.2.1; let g64 : Nat → Int32 := (F_X11_addsLetter x53 fS g54 g55 g56 g57 1).2.2.2.2.1; let g65 : Nat → Int32 := (F_X11_addsLetter x53 fS g54 g55 g56 g57 1).2.2.2.2.2; let x69 : Int64 := (F_X11_addsLetter x61 fS g62 g63 g64 g65 2).2.1; let g70 : Nat → Int32 := (F_X11_addsLetter x61 fS g62 g63 g64 g65 2).2.2.1; let g71 : Nat → Int32 := (F_X11_addsLetter x61 fS g62 g63 g64 g65 2).2.2.2.1; let g72 : Nat → Int32 := (F_X11_addsLetter x61 fS g62 g63 g64 g65 2).2.2.2.2.1; let g73 : Nat → Int32 := (F_X11_addsLetter x61 fS g62 g63 g64 g65 2).2.2.2.2.2; let x77 : Int64 := (F_X11_addsLetter x69 fS g70 g71 g72 g73 3).2.1; let g78 : Nat → Int32 := (F_X11_addsLetter x69 fS g70 g71 g72 g73 3).2.2.1; let g79 : Nat → Int32 := (F_X11_addsLetter x69 fS g70 g71 g72 g73 3).2.2.2.1; let g80 : Nat → Int32 := (F_X11_addsLetter x69 fS g70 g71 g72 g73 3).2.2.2.2.1; let g81 : Nat → Int32 := (F_X11_addsLetter x69 fS g70 g71 g72 g73 3).2.2.2.2.2; let x84 : Int32 := (F_X11_addsLetter x77 fS g78 g79 g80 g81 4).1; let x85 : Int64 := (F_X11_addsLetter x77 fS g78 g79 g80 g81 4).2.1; let g86 : Nat → Int32 := (F_X11_addsLetter x77 fS g78 g79 g80 g81 4).2.2.1; let g87 : Nat → Int32 := (F_X11_addsLetter x77 fS g78 g79 g80 g81 4).2.2.2.1; let g88 : Nat → Int32 := (F_X11_addsLetter x77 fS g78 g79 g80 g81 4).2.2.2.2.1; let g89 : Nat → Int32 := (F_X11_addsLetter x77 fS g78 g79 g80 g81 4).2.2.2.2.2; let r91 : Int32 := (F_X11_lengthOf fS g86 0).1; let g92 : Nat → Int32 := (F_X11_lengthOf fS g86 0).2; let r94 : Int32 := F_X11_sums r91; let x96 : Int64 := F_X11_adds x85 ((r94 : Int32).toInt64); let r98 : Int32 := (F_X11_spread g92 fFar fQueue r91).1; let g99 : Nat → Int32 := (F_X11_spread g92 fFar fQueue r91).2.1; let g100 : Nat → Int32 := (F_X11_spread g92 fFar fQueue r91).2.2.1; let g101 : Nat → Int32 := (F_X11_spread g92 fFar fQueue r91).2.2.2; let x103 : Int64 := F_X11_adds x96 ((r98 : Int32).toInt64); let r105 : UInt64 := (F_X11_pressedNow fS g99).1; let g106 : Nat → Int32 := (F_X11_pressedNow fS g99).2; let r107 : Int64 := F_Jxe99ae_doubleToLongBits_ccdee r105; let x109 : Int64 := F_X11_adds x103 r107; let r111 : Int32 := (F_X11_lengths fS g106).1; let g112 : Nat → Int32 := (F_X11_lengths fS g106).2; let r114 : Int32 := F_Jxf58ca_floatToIntBits_5c35a (FP.fdiv (FP.i2f r111) 1084227584); let x116 : Int64 := F_X11_adds x109 ((r114 : Int32).toInt64); let g118 : Int64 := (if kept = 0 then (0) else (1)); let x120 : Int64 := F_X11_adds x116 g118; let x122 : Int64 := F_X11_adds x120 ((len : Int32).toInt64); let f131 : Int64 := (F_X11_digest_L133 len fText 62 0 x122).2; (f131, 0, x84, f131, g112, g87, g88, g89, g100, g101)
set_option maxRecDepth 20000 in
def P_X11_digest (known : Int32) (kept : Int32) (len : Int32) (fS : Nat → Int32) (fText : Nat → Int32) (fOne : Nat → Int32) (fTwo : Nat → Int32) (fBoth : Nat → Int32) (fWord : Nat → Int32) (fFar : Nat → Int32) (fQueue : Nat → Int32) : Prop := ((P_X11_counted fS fOne fTwo fBoth 0) ∧ (∀ r2 : Int32, r2 = (F_X11_counted known fS fOne fTwo fBoth 0).1 → (∀ g3 : Nat → Int32, g3 = (F_X11_counted known fS fOne fTwo fBoth 0).2.1 → (∀ g4 : Nat → Int32, g4 = (F_X11_counted known fS fOne fTwo fBoth 0).2.2.1 → (∀ g5 : Nat → Int32, g5 = (F_X11_counted known fS fOne fTwo fBoth 0).2.2.2 → (∀ x7 : Int64, x7 = F_X11_adds 3733 ((r2 : Int32).toInt64) → ((P_X11_counted fS g3 g4 g5 1) ∧ (∀ r9 : Int32, r9 = (F_X11_counted known fS g3 g4 g5 1).1 → (∀ g10 : Nat → Int32, g10 = (F_X11_counted known fS g3 g4 g5 1).2.1 → (∀ g11 : Nat → Int32, g11 = (F_X11_counted known fS g3 g4 g5 1).2.2.1 → (∀ g12 : Nat → Int32, g12 = (F_X11_counted known fS g3 g4 g5 1).2.2.2 → (∀ x14 : Int64, x14 = F_X11_adds x7 ((r9 : Int32).toInt64) → ((P_X11_counted fS g10 g11 g12 2) ∧ (∀ r16 : Int32, r16 = (F_X11_counted known fS g10 g11 g12 2).1 → (∀ g17 : Nat → Int32, g17 = (F_X11_counted known fS g10 g11 g12 2).2.1 → (∀ g18 : Nat → Int32, g18 = (F_X11_counted known fS g10 g11 g12 2).2.2.1 → (∀ g19 : Nat → Int32, g19 = (F_X11_counted known fS g10 g11 g12 2).2.2.2 → (∀ x21 : Int64, x21 = F_X11_adds x14 ((r16 : Int32).toInt64) → ((P_X11_counted fS g17 g18 g19 3) ∧ (∀ r23 : Int32, r23 = (F_X11_counted known fS g17 g18 g19 3).1 → (∀ g24 : Nat → Int32, g24 = (F_X11_counted known fS g17 g18 g19 3).2.1 → (∀ g25 : Nat → Int32, g25 = (F_X11_counted known fS g17 g18 g19 3).2.2.1 → (∀ g26 : Nat → Int32, g26 = (F_X11_counted known fS g17 g18 g19 3).2.2.2 → (∀ x28 : Int64, x28 = F_X11_adds x21 ((r23 : Int32).toInt64) → ((P_X11_counted fS g24 g25 g26 4) ∧ (∀ r30 : Int32, r30 = (F_X11_counted known fS g24 g25 g26 4).1 → (∀ g31 : Nat → Int32, g31 = (F_X11_counted known fS g24 g25 g26 4).2.1 → (∀ g32 : Nat → Int32, g32 = (F_X11_counted known fS g24 g25 g26 4).2.2.1 → (∀ g33 : Nat → Int32, g33 = (F_X11_counted known fS g24 g25 g26 4).2.2.2 → (∀ x35 : Int64, x35 = F_X11_adds x28 ((r30 : Int32).toInt64) → ((P_X11_counted fS g31 g32 g33 5) ∧ (∀ r37 : Int32, r37 = (F_X11_counted known fS g31 g32 g33 5).1 → (∀ g38 : Nat → Int32, g38 = (F_X11_counted known fS g31 g32 g33 5).2.1 → (∀ g39 : Nat → Int32, g39 = (F_X11_counted known fS g31 g32 g33 5).2.2.1 → (∀ g40 : Nat → Int32, g40 = (F_X11_counted known fS g31 g32 g33 5).2.2.2 → (∀ x42 : Int64, x42 = F_X11_adds x35 ((r37 : Int32).toInt64) → ((P_X11_counted fS g38 g39 g40 6) ∧ (∀ r44 : Int32, r44 = (F_X11_counted known fS g38 g39 g40 6).1 → (∀ g45 : Nat → Int32, g45 = (F_X11_counted known fS g38 g39 g40 6).2.1 → (∀ g46 : Nat → Int32, g46 = (F_X11_counted known fS g38 g39 g40 6).2.2.1 → (∀ g47 : Nat → Int32, g47 = (F_X11_counted known fS g38 g39 g40 6).2.2.2 → (∀ x49 : Int64, x49 = F_X11_adds x42 ((r44 : Int32).toInt64) → ((P_X11_addsLetter x49 fS g45 g46 g47 fWord 0) ∧ (∀ x52 : Int32, x52 = (F_X11_addsLetter x49 fS g45 g46 g47 fWord 0).1 → (∀ x53 : Int64, x53 = (F_X11_addsLetter x49 fS g45 g46 g47 fWord 0).2.1 → (∀ g54 : Nat → Int32, g54 = (F_X11_addsLetter x49 fS g45 g46 g47 fWord 0).2.2.1 → (∀ g55 : Nat → Int32, g55 = (F_X11_addsLetter x49 fS g45 g46 g47 fWord 0).2.2.2.1 → (∀ g56 : Nat → Int32, g56 = (F_X11_addsLetter x49 fS g45 g46 g47 fWord 0).2.2.2.2.1 → (∀ g57 : Nat → Int32, g57 = (F_X11_addsLetter x49 fS g45 g46 g47 fWord 0).2.2.2.2.2 → ((P_X11_addsLetter x53 fS g54 g55 g56 g57 1) ∧ (∀ x60 : Int32, x60 = (F_X11_addsLetter x53 fS g54 g55 g56 g57 1).1 → (∀ x61 : Int64, x61 = (F_X11_addsLetter x53 fS g54 g55 g56 g57 1).2.1 → (∀ g62 : Nat → Int32, g62 = (F_X11_addsLetter x53 fS g54 g55 g56 g57 1).2.2.1 → (∀ g63 : Nat → Int32, g63 = (F_X11_addsLetter x53 fS g54 g55 g56 g57 1).2.2.2.1 → (∀ g64 : Nat → Int32, g64 = (F_X11_addsLetter x53 fS g54 g55 g56 g57 1).2.2.2.2.1 → (∀ g65 : Nat → Int32, g65 = (F_X11_addsLetter x53 fS g54 g55 g56 g57 1).2.2.2.2.2 → ((P_X11_addsLetter x61 fS g62 g63 g64 g65 2) ∧ (∀ x68 : Int32, x68 = (F_X11_addsLetter x61 fS g62 g63 g64 g65 2).1 → (∀ x69 : Int64, x69 = (F_X11_addsLetter x61 fS g62 g63 g64 g65 2).2.1 → (∀ g70 : Nat → Int32, g70 = (F_X11_addsLetter x61 fS g62 g63 g64 g65 2).2.2.1 → (∀ g71 : Nat → Int32, g71 = (F_X11_addsLetter x61 fS g62 g63 g64 g65 2).2.2.2.1 → (∀ g72 : Nat → Int32, g72 = (F_X11_addsLetter x61 fS g62 g63 g64 g65 2).2.2.2.2.1 → (∀ g73 : Nat → Int32, g73 = (F_X11_addsLetter x61 fS g62 g63 g64 g65 2).2.2.2.2.2 → ((P_X11_addsLetter x69 fS g70 g71 g72 g73 3) ∧ (∀ x76 : Int32, x76 = (F_X11_addsLetter x69 fS g70 g71 g72 g73 3).1 → (∀ x77 : Int64, x77 = (F_X11_addsLetter x69 fS g70 g71 g72 g73 3).2.1 → (∀ g78 : Nat → Int32, g78 = (F_X11_addsLetter x69 fS g70 g71 g72 g73 3).2.2.1 → (∀ g79 : Nat → Int32, g79 = (F_X11_addsLetter x69 fS g70 g71 g72 g73 3).2.2.2.1 → (∀ g80 : Nat → Int32, g80 = (F_X11_addsLetter x69 fS g70 g71 g72 g73 3).2.2.2.2.1 → (∀ g81 : Nat → Int32, g81 = (F_X11_addsLetter x69 fS g70 g71 g72 g73 3).2.2.2.2.2 → ((P_X11_addsLetter x77 fS g78 g79 g80 g81 4) ∧ (∀ x84 : Int32, x84 = (F_X11_addsLetter x77 fS g78 g79 g80 g81 4).1 → (∀ x85 : Int64, x85 = (F_X11_addsLetter x77 fS g78 g79 g80 g81 4).2.1 → (∀ g86 : Nat → Int32, g86 = (F_X11_addsLetter x77 fS g78 g79 g80 g81 4).2.2.1 → (∀ g87 : Nat → Int32, g87 = (F_X11_addsLetter x77 fS g78 g79 g80 g81 4).2.2.2.1 → (∀ g88 : Nat → Int32, g88 = (F_X11_addsLetter x77 fS g78 g79 g80 g81 4).2.2.2.2.1 → (∀ g89 : Nat → Int32, g89 = (F_X11_addsLetter x77 fS g78 g79 g80 g81 4).2.2.2.2.2 → ((P_X11_lengthOf fS g86 0) ∧ (∀ r91 : Int32, r91 = (F_X11_lengthOf fS g86 0).1 → (∀ g92 : Nat → Int32, g92 = (F_X11_lengthOf fS g86 0).2 → ((P_X11_sums r91) ∧ (∀ r94 : Int32, r94 = F_X11_sums r91 → (∀ x96 : Int64, x96 = F_X11_adds x85 ((r94 : Int32).toInt64) → ((P_X11_spread g92 fFar fQueue r91) ∧ (∀ r98 : Int32, r98 = (F_X11_spread g92 fFar fQueue r91).1 → (∀ g99 : Nat → Int32, g99 = (F_X11_spread g92 fFar fQueue r91).2.1 → (∀ g100 : Nat → Int32, g100 = (F_X11_spread g92 fFar fQueue r91).2.2.1 → (∀ g101 : Nat → Int32, g101 = (F_X11_spread g92 fFar fQueue r91).2.2.2 → (∀ x103 : Int64, x103 = F_X11_adds x96 ((r98 : Int32).toInt64) → ((P_X11_pressedNow fS g99) ∧ (∀ r105 : UInt64, r105 = (F_X11_pressedNow fS g99).1 → (∀ g106 : Nat → Int32, g106 = (F_X11_pressedNow fS g99).2 → (∀ r107 : Int64, r107 = F_Jxe99ae_doubleToLongBits_ccdee r105 → (∀ x109 : Int64, x109 = F_X11_adds x103 r107 → ((P_X11_lengths fS g106) ∧ (∀ r111 : Int32, r111 = (F_X11_lengths fS g106).1 → (∀ g112 : Nat → Int32, g112 = (F_X11_lengths fS g106).2 → ((vf_n32 (FP.fdiv (FP.i2f r111) 1084227584)) ∧ (∀ r114 : Int32, r114 = F_Jxf58ca_floatToIntBits_5c35a (FP.fdiv (FP.i2f r111) 1084227584) → (∀ x116 : Int64, x116 = F_X11_adds x109 ((r114 : Int32).toInt64) → (∀ g118 : Int64, g118 = ((if kept = 0 then (0) else (1))) → (∀ x120 : Int64, x120 = F_X11_adds x116 g118 → (∀ x122 : Int64, x122 = F_X11_adds x120 ((len : Int32).toInt64) → (P_X11_digest_L133 len fText 62 0 x122))))))))))))))))))))))))))))))))))))))))))))))))))))))))))))))))))))))))))))))))))))))))))))))))))))))))
set_option maxRecDepth 20000 in
set_option maxHeartbeats 8000000 in
theorem m_X11_digest (l : Launch) (D : va_G) (cI cL cP cJ : ClassId) (o : Nat) (aS : Nat) (aPast : Nat) (aSnap : Nat) (aText : Nat) (aOne : Nat) (aTwo : Nat) (aBoth : Nat) (aWord : Nat) (aOpen : Nat) (aTimes : Nat) (aFar : Nat) (aQueue : Nat) (known : Int32) (kept : Int32) (len : Int32) (thr : Int32) (cre : Int32) (hash : Int64) (fS : Nat → Int32) (fText : Nat → Int32) (fOne : Nat → Int32) (fTwo : Nat → Int32) (fBoth : Nat → Int32) (fWord : Nat → Int32) (fFar : Nat → Int32) (fQueue : Nat → Int32) (hp : P_X11_digest known kept len fS fText fOne fTwo fBoth fWord fFar fQueue) : M vJ l yX11_digest cX11_digest 3 (some .long) 6 140 D (tyF cI cL cP cJ) [.ref o] [[(o, .inr (9, [.ref aS, .ref aPast, .int known, .ref aSnap, .int kept, .ref aText, .int len, .int thr, .ref aOne, .ref aTwo, .ref aBoth, .ref aWord, .int cre, .ref aOpen, .ref aTimes, .ref aFar, .ref aQueue, .long hash]))], [(aS, .inl (cI, 335, .inl fS))], [(aText, .inl (cI, 60, .inl fText))], [(aOne, .inl (cI, 4, .inl fOne))], [(aTwo, .inl (cI, 4, .inl fTwo))], [(aBoth, .inl (cI, 4, .inl fBoth))], [(aWord, .inl (cI, 20, .inl fWord))], [(aFar, .inl (cI, 6561, .inl fFar))], [(aQueue, .inl (cI, 400, .inl fQueue))]] (fun (r : Int64) (w1 : List va_W) => r = (F_X11_digest known kept len fS fText fOne fTwo fBoth fWord fFar fQueue).1 ∧ w1 = [[(o, .inr (9, [.ref aS, .ref aPast, .int known, .ref aSnap, .int kept, .ref aText, .int len, .int ((F_X11_digest known kept len fS fText fOne fTwo fBoth fWord fFar fQueue).2.1), .ref aOne, .ref aTwo, .ref aBoth, .ref aWord, .int ((F_X11_digest known kept len fS fText fOne fTwo fBoth fWord fFar fQueue).2.2.1), .ref aOpen, .ref aTimes, .ref aFar, .ref aQueue, .long ((F_X11_digest known kept len fS fText fOne fTwo fBoth fWord fFar fQueue).2.2.2.1)]))], [(aS, .inl (cI, 335, .inl fS))], [(aText, .inl (cI, 60, .inl fText))], [(aOne, .inl (cI, 4, .inl ((F_X11_digest known kept len fS fText fOne fTwo fBoth fWord fFar fQueue).2.2.2.2.1)))], [(aTwo, .inl (cI, 4, .inl ((F_X11_digest known kept len fS fText fOne fTwo fBoth fWord fFar fQueue).2.2.2.2.2.1)))], [(aBoth, .inl (cI, 4, .inl ((F_X11_digest known kept len fS fText fOne fTwo fBoth fWord fFar fQueue).2.2.2.2.2.2.1)))], [(aWord, .inl (cI, 20, .inl ((F_X11_digest known kept len fS fText fOne fTwo fBoth fWord fFar fQueue).2.2.2.2.2.2.2.1)))], [(aFar, .inl (cI, 6561, .inl ((F_X11_digest known kept len fS fText fOne fTwo fBoth fWord fFar fQueue).2.2.2.2.2.2.2.2.1)))], [(aQueue, .inl (cI, 400, .inl ((F_X11_digest known kept len fS fText fOne fTwo fBoth fWord fFar fQueue).2.2.2.2.2.2.2.2.2)))]]) := by
  unfold P_X11_digest at hp
  refine m_start (by decide +kernel) (Nat.le_of_ble_eq_true rfl) (fun p e s m args below meth c A Q hA hQ C hr hlo => ?_)
  refine r_Le (L' := [(0, .ref o)]) rfl ?_
  refine r_aload_n C dX11_digest_0 0 rfl ?_
  refine r_iconst (v := 0) C dX11_digest_1 (by decide) ?_
  refine r_put (Cn := RX11) (T := TX11) (N := 18) C inT11 0 rfl rfl 7 (by decide) t_900 tyX11 tyX11_ok nmX11 rfl rfl rfl (Nat.le_of_ble_eq_true rfl) (I' := [[(o, .inr (9, [.ref aS, .ref aPast, .int known, .ref aSnap, .int kept, .ref aText, .int len, .int 0, .ref aOne, .ref aTwo, .ref aBoth, .ref aWord, .int cre, .ref aOpen, .ref aTimes, .ref aFar, .ref aQueue, .long hash]))], [(aS, .inl (cI, 335, .inl fS))], [(aText, .inl (cI, 60, .inl fText))], [(aOne, .inl (cI, 4, .inl fOne))], [(aTwo, .inl (cI, 4, .inl fTwo))], [(aBoth, .inl (cI, 4, .inl fBoth))], [(aWord, .inl (cI, 20, .inl fWord))], [(aFar, .inl (cI, 6561, .inl fFar))], [(aQueue, .inl (cI, 400, .inl fQueue))]]) rfl dX11_digest_2 ?_
  refine r_aload_n C dX11_digest_5 0 rfl ?_
  refine r_ldc2 (v := 3733) C t_1255 dX11_digest_6 ?_
  refine r_put (Cn := RX11) (T := TX11) (N := 18) C inT11 0 rfl rfl 17 (by decide) t_910 tyX11 tyX11_ok nmX11 rfl rfl rfl (Nat.le_of_ble_eq_true rfl) (I' := [[(o, .inr (9, [.ref aS, .ref aPast, .int known, .ref aSnap, .int kept, .ref aText, .int len, .int 0, .ref aOne, .ref aTwo, .ref aBoth, .ref aWord, .int cre, .ref aOpen, .ref aTimes, .ref aFar, .ref aQueue, .long 3733]))], [(aS, .inl (cI, 335, .inl fS))], [(aText, .inl (cI, 60, .inl fText))], [(aOne, .inl (cI, 4, .inl fOne))], [(aTwo, .inl (cI, 4, .inl fTwo))], [(aBoth, .inl (cI, 4, .inl fBoth))], [(aWord, .inl (cI, 20, .inl fWord))], [(aFar, .inl (cI, 6561, .inl fFar))], [(aQueue, .inl (cI, 400, .inl fQueue))]]) rfl dX11_digest_9 ?_
  refine r_iconst (v := 0) C dX11_digest_12 (by decide) ?_
  refine r_istore_n (L' := [(1, .int 0), (0, .ref o)]) C dX11_digest_13 (by decide) rfl ?_
  refine r_iload_n C dX11_digest_14 0 rfl ?_
  refine r_bipush (v := 6) C dX11_digest_15 (by decide) ?_
  refine r_icmp_gt (tgt := 36) C dX11_digest_17 (by decide) (fun c => absurd c (by decide)) (fun _ => ?_)
  refine r_aload_n C dX11_digest_20 1 rfl ?_
  refine r_aload_n C dX11_digest_21 1 rfl ?_
  refine r_iload_n C dX11_digest_22 0 rfl ?_
  obtain ⟨h1, hp⟩ := hp
  refine r_callV (ci := 9) (wc := [[(o, .inr (9, [.ref aS, .ref aPast, .int known, .ref aSnap, .int kept, .ref aText, .int len, .int 0, .ref aOne, .ref aTwo, .ref aBoth, .ref aWord, .int cre, .ref aOpen, .ref aTimes, .ref aFar, .ref aQueue, .long 3733]))], [(aS, .inl (cI, 335, .inl fS))], [(aOne, .inl (cI, 4, .inl fOne))], [(aTwo, .inl (cI, 4, .inl fTwo))], [(aBoth, .inl (cI, 4, .inl fBoth))]]) (wr := [[(aText, .inl (cI, 60, .inl fText))], [(aWord, .inl (cI, 20, .inl fWord))], [(aFar, .inl (cI, 6561, .inl fFar))], [(aQueue, .inl (cI, 400, .inl fQueue))]]) (st := [.ref o]) C (m_X11_counted l D cI cL cP cJ o aS aPast aSnap aText aOne aTwo aBoth aWord aOpen aTimes aFar aQueue known kept len 0 cre 3733 fS fOne fTwo fBoth 0 h1) k_X11_counted t_1187 [0, 1, 3, 4, 5, 2, 6, 7, 8] (show ([0, 1, 3, 4, 5, 2, 6, 7, 8] : List Nat).Perm (List.range 9) by decide) rfl rfl rfl (q0 := 0) rfl rfl rfl (Nat.le_of_ble_eq_true rfl) ⟨Nat.le_of_ble_eq_true rfl, Nat.le_of_ble_eq_true rfl⟩ ⟨Nat.zero_le _, Nat.zero_le _⟩ dX11_digest_23 (fun r2 wr2 hw2 => ?_)
  obtain ⟨e_r2, rfl⟩ := hw2
  have hp := hp r2 e_r2
  obtain ⟨g3, e_g3⟩ : ∃ z : Nat → Int32, z = (F_X11_counted known fS fOne fTwo fBoth 0).2.1 := ⟨_, rfl⟩
  have hp := hp g3 e_g3
  obtain ⟨g4, e_g4⟩ : ∃ z : Nat → Int32, z = (F_X11_counted known fS fOne fTwo fBoth 0).2.2.1 := ⟨_, rfl⟩
  have hp := hp g4 e_g4
  obtain ⟨g5, e_g5⟩ : ∃ z : Nat → Int32, z = (F_X11_counted known fS fOne fTwo fBoth 0).2.2.2 := ⟨_, rfl⟩
  have hp := hp g5 e_g5
  refine r_ws (I' := [[(o, .inr (9, [.ref aS, .ref aPast, .int known, .ref aSnap, .int kept, .ref aText, .int len, .int 0, .ref aOne, .ref aTwo, .ref aBoth, .ref aWord, .int cre, .ref aOpen, .ref aTimes, .ref aFar, .ref aQueue, .long 3733]))], [(aS, .inl (cI, 335, .inl fS))], [(aOne, .inl (cI, 4, .inl g3))], [(aTwo, .inl (cI, 4, .inl g4))], [(aBoth, .inl (cI, 4, .inl g5))], [(aText, .inl (cI, 60, .inl fText))], [(aWord, .inl (cI, 20, .inl fWord))], [(aFar, .inl (cI, 6561, .inl fFar))], [(aQueue, .inl (cI, 400, .inl fQueue))]]) (by rw [e_g3, e_g4, e_g5]; rfl) ?_
  refine r_i2l C dX11_digest_26 rfl ?_
  refine r_callV (ci := 9) (wc := [[(o, .inr (9, [.ref aS, .ref aPast, .int known, .ref aSnap, .int kept, .ref aText, .int len, .int 0, .ref aOne, .ref aTwo, .ref aBoth, .ref aWord, .int cre, .ref aOpen, .ref aTimes, .ref aFar, .ref aQueue, .long 3733]))]]) (wr := [[(aS, .inl (cI, 335, .inl fS))], [(aOne, .inl (cI, 4, .inl g3))], [(aTwo, .inl (cI, 4, .inl g4))], [(aBoth, .inl (cI, 4, .inl g5))], [(aText, .inl (cI, 60, .inl fText))], [(aWord, .inl (cI, 20, .inl fWord))], [(aFar, .inl (cI, 6561, .inl fFar))], [(aQueue, .inl (cI, 400, .inl fQueue))]]) (st := []) C (m_X11_adds l D cI cL cP cJ o aS aPast aSnap aText aOne aTwo aBoth aWord aOpen aTimes aFar aQueue known kept len 0 cre 3733 ((r2 : Int32).toInt64)) k_X11_adds t_1256 [0, 1, 2, 3, 4, 5, 6, 7, 8] (show ([0, 1, 2, 3, 4, 5, 6, 7, 8] : List Nat).Perm (List.range 9) by decide) rfl rfl rfl (q0 := 0) rfl rfl rfl (Nat.le_of_ble_eq_true rfl) ⟨Nat.le_of_ble_eq_true rfl, Nat.le_of_ble_eq_true rfl⟩ ⟨Nat.zero_le _, Nat.zero_le _⟩ dX11_digest_27 (fun r6 wr6 hw6 => ?_)
  obtain rfl := hw6
  obtain ⟨x7, e_x7⟩ : ∃ z : Int64, z = F_X11_adds 3733 ((r2 : Int32).toInt64) := ⟨_, rfl⟩
  have hp := hp x7 e_x7
  refine r_ws (I' := [[(o, .inr (9, [.ref aS, .ref aPast, .int known, .ref aSnap, .int kept, .ref aText, .int len, .int 0, .ref aOne, .ref aTwo, .ref aBoth, .ref aWord, .int cre, .ref aOpen, .ref aTimes, .ref aFar, .ref aQueue, .long x7]))], [(aS, .inl (cI, 335, .inl fS))], [(aOne, .inl (cI, 4, .inl g3))], [(aTwo, .inl (cI, 4, .inl g4))], [(aBoth, .inl (cI, 4, .inl g5))], [(aText, .inl (cI, 60, .inl fText))], [(aWord, .inl (cI, 20, .inl fWord))], [(aFar, .inl (cI, 6561, .inl fFar))], [(aQueue, .inl (cI, 400, .inl fQueue))]]) (by rw [e_x7]; rfl) ?_
  refine r_iinc (v := 1) (L' := [(1, .int 1), (0, .ref o)]) C dX11_digest_30 0 rfl (by decide) (by decide) rfl ?_
  refine r_goto (tgt := 14) C dX11_digest_33 (by decide) ?_
  refine r_iload_n C dX11_digest_14 0 rfl ?_
  refine r_bipush (v := 6) C dX11_digest_15 (by decide) ?_
  refine r_icmp_gt (tgt := 36) C dX11_digest_17 (by decide) (fun c => absurd c (by decide)) (fun _ => ?_)
  refine r_aload_n C dX11_digest_20 1 rfl ?_
  refine r_aload_n C dX11_digest_21 1 rfl ?_
  refine r_iload_n C dX11_digest_22 0 rfl ?_
  obtain ⟨h8, hp⟩ := hp
  refine r_callV (ci := 9) (wc := [[(o, .inr (9, [.ref aS, .ref aPast, .int known, .ref aSnap, .int kept, .ref aText, .int len, .int 0, .ref aOne, .ref aTwo, .ref aBoth, .ref aWord, .int cre, .ref aOpen, .ref aTimes, .ref aFar, .ref aQueue, .long x7]))], [(aS, .inl (cI, 335, .inl fS))], [(aOne, .inl (cI, 4, .inl g3))], [(aTwo, .inl (cI, 4, .inl g4))], [(aBoth, .inl (cI, 4, .inl g5))]]) (wr := [[(aText, .inl (cI, 60, .inl fText))], [(aWord, .inl (cI, 20, .inl fWord))], [(aFar, .inl (cI, 6561, .inl fFar))], [(aQueue, .inl (cI, 400, .inl fQueue))]]) (st := [.ref o]) C (m_X11_counted l D cI cL cP cJ o aS aPast aSnap aText aOne aTwo aBoth aWord aOpen aTimes aFar aQueue known kept len 0 cre x7 fS g3 g4 g5 1 h8) k_X11_counted t_1187 [0, 1, 2, 3, 4, 5, 6, 7, 8] (show ([0, 1, 2, 3, 4, 5, 6, 7, 8] : List Nat).Perm (List.range 9) by decide) rfl rfl rfl (q0 := 0) rfl rfl rfl (Nat.le_of_ble_eq_true rfl) ⟨Nat.le_of_ble_eq_true rfl, Nat.le_of_ble_eq_true rfl⟩ ⟨Nat.zero_le _, Nat.zero_le _⟩ dX11_digest_23 (fun r9 wr9 hw9 => ?_)
  obtain ⟨e_r9, rfl⟩ := hw9
  have hp := hp r9 e_r9
  obtain ⟨g10, e_g10⟩ : ∃ z : Nat → Int32, z = (F_X11_counted known fS g3 g4 g5 1).2.1 := ⟨_, rfl⟩
  have hp := hp g10 e_g10
  obtain ⟨g11, e_g11⟩ : ∃ z : Nat → Int32, z = (F_X11_counted known fS g3 g4 g5 1).2.2.1 := ⟨_, rfl⟩
  have hp := hp g11 e_g11
  obtain ⟨g12, e_g12⟩ : ∃ z : Nat → Int32, z = (F_X11_counted known fS g3 g4 g5 1).2.2.2 := ⟨_, rfl⟩
  have hp := hp g12 e_g12
  refine r_ws (I' := [[(o, .inr (9, [.ref aS, .ref aPast, .int known, .ref aSnap, .int kept, .ref aText, .int len, .int 0, .ref aOne, .ref aTwo, .ref aBoth, .ref aWord, .int cre, .ref aOpen, .ref aTimes, .ref aFar, .ref aQueue, .long x7]))], [(aS, .inl (cI, 335, .inl fS))], [(aOne, .inl (cI, 4, .inl g10))], [(aTwo, .inl (cI, 4, .inl g11))], [(aBoth, .inl (cI, 4, .inl g12))], [(aText, .inl (cI, 60, .inl fText))], [(aWord, .inl (cI, 20, .inl fWord))], [(aFar, .inl (cI, 6561, .inl fFar))], [(aQueue, .inl (cI, 400, .inl fQueue))]]) (by rw [e_g10, e_g11, e_g12]; rfl) ?_
  refine r_i2l C dX11_digest_26 rfl ?_
  refine r_callV (ci := 9) (wc := [[(o, .inr (9, [.ref aS, .ref aPast, .int known, .ref aSnap, .int kept, .ref aText, .int len, .int 0, .ref aOne, .ref aTwo, .ref aBoth, .ref aWord, .int cre, .ref aOpen, .ref aTimes, .ref aFar, .ref aQueue, .long x7]))]]) (wr := [[(aS, .inl (cI, 335, .inl fS))], [(aOne, .inl (cI, 4, .inl g10))], [(aTwo, .inl (cI, 4, .inl g11))], [(aBoth, .inl (cI, 4, .inl g12))], [(aText, .inl (cI, 60, .inl fText))], [(aWord, .inl (cI, 20, .inl fWord))], [(aFar, .inl (cI, 6561, .inl fFar))], [(aQueue, .inl (cI, 400, .inl fQueue))]]) (st := []) C (m_X11_adds l D cI cL cP cJ o aS aPast aSnap aText aOne aTwo aBoth aWord aOpen aTimes aFar aQueue known kept len 0 cre x7 ((r9 : Int32).toInt64)) k_X11_adds t_1256 [0, 1, 2, 3, 4, 5, 6, 7, 8] (show ([0, 1, 2, 3, 4, 5, 6, 7, 8] : List Nat).Perm (List.range 9) by decide) rfl rfl rfl (q0 := 0) rfl rfl rfl (Nat.le_of_ble_eq_true rfl) ⟨Nat.le_of_ble_eq_true rfl, Nat.le_of_ble_eq_true rfl⟩ ⟨Nat.zero_le _, Nat.zero_le _⟩ dX11_digest_27 (fun r13 wr13 hw13 => ?_)
  obtain rfl := hw13
  obtain ⟨x14, e_x14⟩ : ∃ z : Int64, z = F_X11_adds x7 ((r9 : Int32).toInt64) := ⟨_, rfl⟩
  have hp := hp x14 e_x14
  refine r_ws (I' := [[(o, .inr (9, [.ref aS, .ref aPast, .int known, .ref aSnap, .int kept, .ref aText, .int len, .int 0, .ref aOne, .ref aTwo, .ref aBoth, .ref aWord, .int cre, .ref aOpen, .ref aTimes, .ref aFar, .ref aQueue, .long x14]))], [(aS, .inl (cI, 335, .inl fS))], [(aOne, .inl (cI, 4, .inl g10))], [(aTwo, .inl (cI, 4, .inl g11))], [(aBoth, .inl (cI, 4, .inl g12))], [(aText, .inl (cI, 60, .inl fText))], [(aWord, .inl (cI, 20, .inl fWord))], [(aFar, .inl (cI, 6561, .inl fFar))], [(aQueue, .inl (cI, 400, .inl fQueue))]]) (by rw [e_x14]; rfl) ?_
  refine r_iinc (v := 2) (L' := [(1, .int 2), (0, .ref o)]) C dX11_digest_30 0 rfl (by decide) (by decide) rfl ?_
  refine r_goto (tgt := 14) C dX11_digest_33 (by decide) ?_
  refine r_iload_n C dX11_digest_14 0 rfl ?_
  refine r_bipush (v := 6) C dX11_digest_15 (by decide) ?_
  refine r_icmp_gt (tgt := 36) C dX11_digest_17 (by decide) (fun c => absurd c (by decide)) (fun _ => ?_)
  refine r_aload_n C dX11_digest_20 1 rfl ?_
  refine r_aload_n C dX11_digest_21 1 rfl ?_
  refine r_iload_n C dX11_digest_22 0 rfl ?_
  obtain ⟨h15, hp⟩ := hp
  refine r_callV (ci := 9) (wc := [[(o, .inr (9, [.ref aS, .ref aPast, .int known, .ref aSnap, .int kept, .ref aText, .int len, .int 0, .ref aOne, .ref aTwo, .ref aBoth, .ref aWord, .int cre, .ref aOpen, .ref aTimes, .ref aFar, .ref aQueue, .long x14]))], [(aS, .inl (cI, 335, .inl fS))], [(aOne, .inl (cI, 4, .inl g10))], [(aTwo, .inl (cI, 4, .inl g11))], [(aBoth, .inl (cI, 4, .inl g12))]]) (wr := [[(aText, .inl (cI, 60, .inl fText))], [(aWord, .inl (cI, 20, .inl fWord))], [(aFar, .inl (cI, 6561, .inl fFar))], [(aQueue, .inl (cI, 400, .inl fQueue))]]) (st := [.ref o]) C (m_X11_counted l D cI cL cP cJ o aS aPast aSnap aText aOne aTwo aBoth aWord aOpen aTimes aFar aQueue known kept len 0 cre x14 fS g10 g11 g12 2 h15) k_X11_counted t_1187 [0, 1, 2, 3, 4, 5, 6, 7, 8] (show ([0, 1, 2, 3, 4, 5, 6, 7, 8] : List Nat).Perm (List.range 9) by decide) rfl rfl rfl (q0 := 0) rfl rfl rfl (Nat.le_of_ble_eq_true rfl) ⟨Nat.le_of_ble_eq_true rfl, Nat.le_of_ble_eq_true rfl⟩ ⟨Nat.zero_le _, Nat.zero_le _⟩ dX11_digest_23 (fun r16 wr16 hw16 => ?_)
  obtain ⟨e_r16, rfl⟩ := hw16
  have hp := hp r16 e_r16
  obtain ⟨g17, e_g17⟩ : ∃ z : Nat → Int32, z = (F_X11_counted known fS g10 g11 g12 2).2.1 := ⟨_, rfl⟩
  have hp := hp g17 e_g17
  obtain ⟨g18, e_g18⟩ : ∃ z : Nat → Int32, z = (F_X11_counted known fS g10 g11 g12 2).2.2.1 := ⟨_, rfl⟩
  have hp := hp g18 e_g18
  obtain ⟨g19, e_g19⟩ : ∃ z : Nat → Int32, z = (F_X11_counted known fS g10 g11 g12 2).2.2.2 := ⟨_, rfl⟩
  have hp := hp g19 e_g19
  refine r_ws (I' := [[(o, .inr (9, [.ref aS, .ref aPast, .int known, .ref aSnap, .int kept, .ref aText, .int len, .int 0, .ref aOne, .ref aTwo, .ref aBoth, .ref aWord, .int cre, .ref aOpen, .ref aTimes, .ref aFar, .ref aQueue, .long x14]))], [(aS, .inl (cI, 335, .inl fS))], [(aOne, .inl (cI, 4, .inl g17))], [(aTwo, .inl (cI, 4, .inl g18))], [(aBoth, .inl (cI, 4, .inl g19))], [(aText, .inl (cI, 60, .inl fText))], [(aWord, .inl (cI, 20, .inl fWord))], [(aFar, .inl (cI, 6561, .inl fFar))], [(aQueue, .inl (cI, 400, .inl fQueue))]]) (by rw [e_g17, e_g18, e_g19]; rfl) ?_
  refine r_i2l C dX11_digest_26 rfl ?_
  refine r_callV (ci := 9) (wc := [[(o, .inr (9, [.ref aS, .ref aPast, .int known, .ref aSnap, .int kept, .ref aText, .int len, .int 0, .ref aOne, .ref aTwo, .ref aBoth, .ref aWord, .int cre, .ref aOpen, .ref aTimes, .ref aFar, .ref aQueue, .long x14]))]]) (wr := [[(aS, .inl (cI, 335, .inl fS))], [(aOne, .inl (cI, 4, .inl g17))], [(aTwo, .inl (cI, 4, .inl g18))], [(aBoth, .inl (cI, 4, .inl g19))], [(aText, .inl (cI, 60, .inl fText))], [(aWord, .inl (cI, 20, .inl fWord))], [(aFar, .inl (cI, 6561, .inl fFar))], [(aQueue, .inl (cI, 400, .inl fQueue))]]) (st := []) C (m_X11_adds l D cI cL cP cJ o aS aPast aSnap aText aOne aTwo aBoth aWord aOpen aTimes aFar aQueue known kept len 0 cre x14 ((r16 : Int32).toInt64)) k_X11_adds t_1256 [0, 1, 2, 3, 4, 5, 6, 7, 8] (show ([0, 1, 2, 3, 4, 5, 6, 7, 8] : List Nat).Perm (List.range 9) by decide) rfl rfl rfl (q0 := 0) rfl rfl rfl (Nat.le_of_ble_eq_true rfl) ⟨Nat.le_of_ble_eq_true rfl, Nat.le_of_ble_eq_true rfl⟩ ⟨Nat.zero_le _, Nat.zero_le _⟩ dX11_digest_27 (fun r20 wr20 hw20 => ?_)
  obtain rfl := hw20
  obtain ⟨x21, e_x21⟩ : ∃ z : Int64, z = F_X11_adds x14 ((r16 : Int32).toInt64) := ⟨_, rfl⟩
  have hp := hp x21 e_x21
  refine r_ws (I' := [[(o, .inr (9, [.ref aS, .ref aPast, .int known, .ref aSnap, .int kept, .ref aText, .int len, .int 0, .ref aOne, .ref aTwo, .ref aBoth, .ref aWord, .int cre, .ref aOpen, .ref aTimes, .ref aFar, .ref aQueue, .long x21]))], [(aS, .inl (cI, 335, .inl fS))], [(aOne, .inl (cI, 4, .inl g17))], [(aTwo, .inl (cI, 4, .inl g18))], [(aBoth, .inl (cI, 4, .inl g19))], [(aText, .inl (cI, 60, .inl fText))], [(aWord, .inl (cI, 20, .inl fWord))], [(aFar, .inl (cI, 6561, .inl fFar))], [(aQueue, .inl (cI, 400, .inl fQueue))]]) (by rw [e_x21]; rfl) ?_
  refine r_iinc (v := 3) (L' := [(1, .int 3), (0, .ref o)]) C dX11_digest_30 0 rfl (by decide) (by decide) rfl ?_
  refine r_goto (tgt := 14) C dX11_digest_33 (by decide) ?_
  refine r_iload_n C dX11_digest_14 0 rfl ?_
  refine r_bipush (v := 6) C dX11_digest_15 (by decide) ?_
  refine r_icmp_gt (tgt := 36) C dX11_digest_17 (by decide) (fun c => absurd c (by decide)) (fun _ => ?_)
  refine r_aload_n C dX11_digest_20 1 rfl ?_
  refine r_aload_n C dX11_digest_21 1 rfl ?_
  refine r_iload_n C dX11_digest_22 0 rfl ?_
  obtain ⟨h22, hp⟩ := hp
  refine r_callV (ci := 9) (wc := [[(o, .inr (9, [.ref aS, .ref aPast, .int known, .ref aSnap, .int kept, .ref aText, .int len, .int 0, .ref aOne, .ref aTwo, .ref aBoth, .ref aWord, .int cre, .ref aOpen, .ref aTimes, .ref aFar, .ref aQueue, .long x21]))], [(aS, .inl (cI, 335, .inl fS))], [(aOne, .inl (cI, 4, .inl g17))], [(aTwo, .inl (cI, 4, .inl g18))], [(aBoth, .inl (cI, 4, .inl g19))]]) (wr := [[(aText, .inl (cI, 60, .inl fText))], [(aWord, .inl (cI, 20, .inl fWord))], [(aFar, .inl (cI, 6561, .inl fFar))], [(aQueue, .inl (cI, 400, .inl fQueue))]]) (st := [.ref o]) C (m_X11_counted l D cI cL cP cJ o aS aPast aSnap aText aOne aTwo aBoth aWord aOpen aTimes aFar aQueue known kept len 0 cre x21 fS g17 g18 g19 3 h22) k_X11_counted t_1187 [0, 1, 2, 3, 4, 5, 6, 7, 8] (show ([0, 1, 2, 3, 4, 5, 6, 7, 8] : List Nat).Perm (List.range 9) by decide) rfl rfl rfl (q0 := 0) rfl rfl rfl (Nat.le_of_ble_eq_true rfl) ⟨Nat.le_of_ble_eq_true rfl, Nat.le_of_ble_eq_true rfl⟩ ⟨Nat.zero_le _, Nat.zero_le _⟩ dX11_digest_23 (fun r23 wr23 hw23 => ?_)
  obtain ⟨e_r23, rfl⟩ := hw23
  have hp := hp r23 e_r23
  obtain ⟨g24, e_g24⟩ : ∃ z : Nat → Int32, z = (F_X11_counted known fS g17 g18 g19 3).2.1 := ⟨_, rfl⟩
  have hp := hp g24 e_g24
  obtain ⟨g25, e_g25⟩ : ∃ z : Nat → Int32, z = (F_X11_counted known fS g17 g18 g19 3).2.2.1 := ⟨_, rfl⟩
  have hp := hp g25 e_g25
  obtain ⟨g26, e_g26⟩ : ∃ z : Nat → Int32, z = (F_X11_counted known fS g17 g18 g19 3).2.2.2 := ⟨_, rfl⟩
  have hp := hp g26 e_g26
  refine r_ws (I' := [[(o, .inr (9, [.ref aS, .ref aPast, .int known, .ref aSnap, .int kept, .ref aText, .int len, .int 0, .ref aOne, .ref aTwo, .ref aBoth, .ref aWord, .int cre, .ref aOpen, .ref aTimes, .ref aFar, .ref aQueue, .long x21]))], [(aS, .inl (cI, 335, .inl fS))], [(aOne, .inl (cI, 4, .inl g24))], [(aTwo, .inl (cI, 4, .inl g25))], [(aBoth, .inl (cI, 4, .inl g26))], [(aText, .inl (cI, 60, .inl fText))], [(aWord, .inl (cI, 20, .inl fWord))], [(aFar, .inl (cI, 6561, .inl fFar))], [(aQueue, .inl (cI, 400, .inl fQueue))]]) (by rw [e_g24, e_g25, e_g26]; rfl) ?_
  refine r_i2l C dX11_digest_26 rfl ?_
  refine r_callV (ci := 9) (wc := [[(o, .inr (9, [.ref aS, .ref aPast, .int known, .ref aSnap, .int kept, .ref aText, .int len, .int 0, .ref aOne, .ref aTwo, .ref aBoth, .ref aWord, .int cre, .ref aOpen, .ref aTimes, .ref aFar, .ref aQueue, .long x21]))]]) (wr := [[(aS, .inl (cI, 335, .inl fS))], [(aOne, .inl (cI, 4, .inl g24))], [(aTwo, .inl (cI, 4, .inl g25))], [(aBoth, .inl (cI, 4, .inl g26))], [(aText, .inl (cI, 60, .inl fText))], [(aWord, .inl (cI, 20, .inl fWord))], [(aFar, .inl (cI, 6561, .inl fFar))], [(aQueue, .inl (cI, 400, .inl fQueue))]]) (st := []) C (m_X11_adds l D cI cL cP cJ o aS aPast aSnap aText aOne aTwo aBoth aWord aOpen aTimes aFar aQueue known kept len 0 cre x21 ((r23 : Int32).toInt64)) k_X11_adds t_1256 [0, 1, 2, 3, 4, 5, 6, 7, 8] (show ([0, 1, 2, 3, 4, 5, 6, 7, 8] : List Nat).Perm (List.range 9) by decide) rfl rfl rfl (q0 := 0) rfl rfl rfl (Nat.le_of_ble_eq_true rfl) ⟨Nat.le_of_ble_eq_true rfl, Nat.le_of_ble_eq_true rfl⟩ ⟨Nat.zero_le _, Nat.zero_le _⟩ dX11_digest_27 (fun r27 wr27 hw27 => ?_)
  obtain rfl := hw27
  obtain ⟨x28, e_x28⟩ : ∃ z : Int64, z = F_X11_adds x21 ((r23 : Int32).toInt64) := ⟨_, rfl⟩
  have hp := hp x28 e_x28
  refine r_ws (I' := [[(o, .inr (9, [.ref aS, .ref aPast, .int known, .ref aSnap, .int kept, .ref aText, .int len, .int 0, .ref aOne, .ref aTwo, .ref aBoth, .ref aWord, .int cre, .ref aOpen, .ref aTimes, .ref aFar, .ref aQueue, .long x28]))], [(aS, .inl (cI, 335, .inl fS))], [(aOne, .inl (cI, 4, .inl g24))], [(aTwo, .inl (cI, 4, .inl g25))], [(aBoth, .inl (cI, 4, .inl g26))], [(aText, .inl (cI, 60, .inl fText))], [(aWord, .inl (cI, 20, .inl fWord))], [(aFar, .inl (cI, 6561, .inl fFar))], [(aQueue, .inl (cI, 400, .inl fQueue))]]) (by rw [e_x28]; rfl) ?_
  refine r_iinc (v := 4) (L' := [(1, .int 4), (0, .ref o)]) C dX11_digest_30 0 rfl (by decide) (by decide) rfl ?_
  refine r_goto (tgt := 14) C dX11_digest_33 (by decide) ?_
  refine r_iload_n C dX11_digest_14 0 rfl ?_
  refine r_bipush (v := 6) C dX11_digest_15 (by decide) ?_
  refine r_icmp_gt (tgt := 36) C dX11_digest_17 (by decide) (fun c => absurd c (by decide)) (fun _ => ?_)
  refine r_aload_n C dX11_digest_20 1 rfl ?_
  refine r_aload_n C dX11_digest_21 1 rfl ?_
  refine r_iload_n C dX11_digest_22 0 rfl ?_
  obtain ⟨h29, hp⟩ := hp
  refine r_callV (ci := 9) (wc := [[(o, .inr (9, [.ref aS, .ref aPast, .int known, .ref aSnap, .int kept, .ref aText, .int len, .int 0, .ref aOne, .ref aTwo, .ref aBoth, .ref aWord, .int cre, .ref aOpen, .ref aTimes, .ref aFar, .ref aQueue, .long x28]))], [(aS, .inl (cI, 335, .inl fS))], [(aOne, .inl (cI, 4, .inl g24))], [(aTwo, .inl (cI, 4, .inl g25))], [(aBoth, .inl (cI, 4, .inl g26))]]) (wr := [[(aText, .inl (cI, 60, .inl fText))], [(aWord, .inl (cI, 20, .inl fWord))], [(aFar, .inl (cI, 6561, .inl fFar))], [(aQueue, .inl (cI, 400, .inl fQueue))]]) (st := [.ref o]) C (m_X11_counted l D cI cL cP cJ o aS aPast aSnap aText aOne aTwo aBoth aWord aOpen aTimes aFar aQueue known kept len 0 cre x28 fS g24 g25 g26 4 h29) k_X11_counted t_1187 [0, 1, 2, 3, 4, 5, 6, 7, 8] (show ([0, 1, 2, 3, 4, 5, 6, 7, 8] : List Nat).Perm (List.range 9) by decide) rfl rfl rfl (q0 := 0) rfl rfl rfl (Nat.le_of_ble_eq_true rfl) ⟨Nat.le_of_ble_eq_true rfl, Nat.le_of_ble_eq_true rfl⟩ ⟨Nat.zero_le _, Nat.zero_le _⟩ dX11_digest_23 (fun r30 wr30 hw30 => ?_)
  obtain ⟨e_r30, rfl⟩ := hw30
  have hp := hp r30 e_r30
  obtain ⟨g31, e_g31⟩ : ∃ z : Nat → Int32, z = (F_X11_counted known fS g24 g25 g26 4).2.1 := ⟨_, rfl⟩
  have hp := hp g31 e_g31
  obtain ⟨g32, e_g32⟩ : ∃ z : Nat → Int32, z = (F_X11_counted known fS g24 g25 g26 4).2.2.1 := ⟨_, rfl⟩
  have hp := hp g32 e_g32
  obtain ⟨g33, e_g33⟩ : ∃ z : Nat → Int32, z = (F_X11_counted known fS g24 g25 g26 4).2.2.2 := ⟨_, rfl⟩
  have hp := hp g33 e_g33
  refine r_ws (I' := [[(o, .inr (9, [.ref aS, .ref aPast, .int known, .ref aSnap, .int kept, .ref aText, .int len, .int 0, .ref aOne, .ref aTwo, .ref aBoth, .ref aWord, .int cre, .ref aOpen, .ref aTimes, .ref aFar, .ref aQueue, .long x28]))], [(aS, .inl (cI, 335, .inl fS))], [(aOne, .inl (cI, 4, .inl g31))], [(aTwo, .inl (cI, 4, .inl g32))], [(aBoth, .inl (cI, 4, .inl g33))], [(aText, .inl (cI, 60, .inl fText))], [(aWord, .inl (cI, 20, .inl fWord))], [(aFar, .inl (cI, 6561, .inl fFar))], [(aQueue, .inl (cI, 400, .inl fQueue))]]) (by rw [e_g31, e_g32, e_g33]; rfl) ?_
  refine r_i2l C dX11_digest_26 rfl ?_
  refine r_callV (ci := 9) (wc := [[(o, .inr (9, [.ref aS, .ref aPast, .int known, .ref aSnap, .int kept, .ref aText, .int len, .int 0, .ref aOne, .ref aTwo, .ref aBoth, .ref aWord, .int cre, .ref aOpen, .ref aTimes, .ref aFar, .ref aQueue, .long x28]))]]) (wr := [[(aS, .inl (cI, 335, .inl fS))], [(aOne, .inl (cI, 4, .inl g31))], [(aTwo, .inl (cI, 4, .inl g32))], [(aBoth, .inl (cI, 4, .inl g33))], [(aText, .inl (cI, 60, .inl fText))], [(aWord, .inl (cI, 20, .inl fWord))], [(aFar, .inl (cI, 6561, .inl fFar))], [(aQueue, .inl (cI, 400, .inl fQueue))]]) (st := []) C (m_X11_adds l D cI cL cP cJ o aS aPast aSnap aText aOne aTwo aBoth aWord aOpen aTimes aFar aQueue known kept len 0 cre x28 ((r30 : Int32).toInt64)) k_X11_adds t_1256 [0, 1, 2, 3, 4, 5, 6, 7, 8] (show ([0, 1, 2, 3, 4, 5, 6, 7, 8] : List Nat).Perm (List.range 9) by decide) rfl rfl rfl (q0 := 0) rfl rfl rfl (Nat.le_of_ble_eq_true rfl) ⟨Nat.le_of_ble_eq_true rfl, Nat.le_of_ble_eq_true rfl⟩ ⟨Nat.zero_le _, Nat.zero_le _⟩ dX11_digest_27 (fun r34 wr34 hw34 => ?_)
  obtain rfl := hw34
  obtain ⟨x35, e_x35⟩ : ∃ z : Int64, z = F_X11_adds x28 ((r30 : Int32).toInt64) := ⟨_, rfl⟩
  have hp := hp x35 e_x35
  refine r_ws (I' := [[(o, .inr (9, [.ref aS, .ref aPast, .int known, .ref aSnap, .int kept, .ref aText, .int len, .int 0, .ref aOne, .ref aTwo, .ref aBoth, .ref aWord, .int cre, .ref aOpen, .ref aTimes, .ref aFar, .ref aQueue, .long x35]))], [(aS, .inl (cI, 335, .inl fS))], [(aOne, .inl (cI, 4, .inl g31))], [(aTwo, .inl (cI, 4, .inl g32))], [(aBoth, .inl (cI, 4, .inl g33))], [(aText, .inl (cI, 60, .inl fText))], [(aWord, .inl (cI, 20, .inl fWord))], [(aFar, .inl (cI, 6561, .inl fFar))], [(aQueue, .inl (cI, 400, .inl fQueue))]]) (by rw [e_x35]; rfl) ?_
  refine r_iinc (v := 5) (L' := [(1, .int 5), (0, .ref o)]) C dX11_digest_30 0 rfl (by decide) (by decide) rfl ?_
  refine r_goto (tgt := 14) C dX11_digest_33 (by decide) ?_
  refine r_iload_n C dX11_digest_14 0 rfl ?_
  refine r_bipush (v := 6) C dX11_digest_15 (by decide) ?_
  refine r_icmp_gt (tgt := 36) C dX11_digest_17 (by decide) (fun c => absurd c (by decide)) (fun _ => ?_)
  refine r_aload_n C dX11_digest_20 1 rfl ?_
  refine r_aload_n C dX11_digest_21 1 rfl ?_
  refine r_iload_n C dX11_digest_22 0 rfl ?_
  obtain ⟨h36, hp⟩ := hp
  refine r_callV (ci := 9) (wc := [[(o, .inr (9, [.ref aS, .ref aPast, .int known, .ref aSnap, .int kept, .ref aText, .int len, .int 0, .ref aOne, .ref aTwo, .ref aBoth, .ref aWord, .int cre, .ref aOpen, .ref aTimes, .ref aFar, .ref aQueue, .long x35]))], [(aS, .inl (cI, 335, .inl fS))], [(aOne, .inl (cI, 4, .inl g31))], [(aTwo, .inl (cI, 4, .inl g32))], [(aBoth, .inl (cI, 4, .inl g33))]]) (wr := [[(aText, .inl (cI, 60, .inl fText))], [(aWord, .inl (cI, 20, .inl fWord))], [(aFar, .inl (cI, 6561, .inl fFar))], [(aQueue, .inl (cI, 400, .inl fQueue))]]) (st := [.ref o]) C (m_X11_counted l D cI cL cP cJ o aS aPast aSnap aText aOne aTwo aBoth aWord aOpen aTimes aFar aQueue known kept len 0 cre x35 fS g31 g32 g33 5 h36) k_X11_counted t_1187 [0, 1, 2, 3, 4, 5, 6, 7, 8] (show ([0, 1, 2, 3, 4, 5, 6, 7, 8] : List Nat).Perm (List.range 9) by decide) rfl rfl rfl (q0 := 0) rfl rfl rfl (Nat.le_of_ble_eq_true rfl) ⟨Nat.le_of_ble_eq_true rfl, Nat.le_of_ble_eq_true rfl⟩ ⟨Nat.zero_le _, Nat.zero_le _⟩ dX11_digest_23 (fun r37 wr37 hw37 => ?_)
  obtain ⟨e_r37, rfl⟩ := hw37
  have hp := hp r37 e_r37
  obtain ⟨g38, e_g38⟩ : ∃ z : Nat → Int32, z = (F_X11_counted known fS g31 g32 g33 5).2.1 := ⟨_, rfl⟩
  have hp := hp g38 e_g38
  obtain ⟨g39, e_g39⟩ : ∃ z : Nat → Int32, z = (F_X11_counted known fS g31 g32 g33 5).2.2.1 := ⟨_, rfl⟩
  have hp := hp g39 e_g39
  obtain ⟨g40, e_g40⟩ : ∃ z : Nat → Int32, z = (F_X11_counted known fS g31 g32 g33 5).2.2.2 := ⟨_, rfl⟩
  have hp := hp g40 e_g40
  refine r_ws (I' := [[(o, .inr (9, [.ref aS, .ref aPast, .int known, .ref aSnap, .int kept, .ref aText, .int len, .int 0, .ref aOne, .ref aTwo, .ref aBoth, .ref aWord, .int cre, .ref aOpen, .ref aTimes, .ref aFar, .ref aQueue, .long x35]))], [(aS, .inl (cI, 335, .inl fS))], [(aOne, .inl (cI, 4, .inl g38))], [(aTwo, .inl (cI, 4, .inl g39))], [(aBoth, .inl (cI, 4, .inl g40))], [(aText, .inl (cI, 60, .inl fText))], [(aWord, .inl (cI, 20, .inl fWord))], [(aFar, .inl (cI, 6561, .inl fFar))], [(aQueue, .inl (cI, 400, .inl fQueue))]]) (by rw [e_g38, e_g39, e_g40]; rfl) ?_
  refine r_i2l C dX11_digest_26 rfl ?_
  refine r_callV (ci := 9) (wc := [[(o, .inr (9, [.ref aS, .ref aPast, .int known, .ref aSnap, .int kept, .ref aText, .int len, .int 0, .ref aOne, .ref aTwo, .ref aBoth, .ref aWord, .int cre, .ref aOpen, .ref aTimes, .ref aFar, .ref aQueue, .long x35]))]]) (wr := [[(aS, .inl (cI, 335, .inl fS))], [(aOne, .inl (cI, 4, .inl g38))], [(aTwo, .inl (cI, 4, .inl g39))], [(aBoth, .inl (cI, 4, .inl g40))], [(aText, .inl (cI, 60, .inl fText))], [(aWord, .inl (cI, 20, .inl fWord))], [(aFar, .inl (cI, 6561, .inl fFar))], [(aQueue, .inl (cI, 400, .inl fQueue))]]) (st := []) C (m_X11_adds l D cI cL cP cJ o aS aPast aSnap aText aOne aTwo aBoth aWord aOpen aTimes aFar aQueue known kept len 0 cre x35 ((r37 : Int32).toInt64)) k_X11_adds t_1256 [0, 1, 2, 3, 4, 5, 6, 7, 8] (show ([0, 1, 2, 3, 4, 5, 6, 7, 8] : List Nat).Perm (List.range 9) by decide) rfl rfl rfl (q0 := 0) rfl rfl rfl (Nat.le_of_ble_eq_true rfl) ⟨Nat.le_of_ble_eq_true rfl, Nat.le_of_ble_eq_true rfl⟩ ⟨Nat.zero_le _, Nat.zero_le _⟩ dX11_digest_27 (fun r41 wr41 hw41 => ?_)
  obtain rfl := hw41
  obtain ⟨x42, e_x42⟩ : ∃ z : Int64, z = F_X11_adds x35 ((r37 : Int32).toInt64) := ⟨_, rfl⟩
  have hp := hp x42 e_x42
  refine r_ws (I' := [[(o, .inr (9, [.ref aS, .ref aPast, .int known, .ref aSnap, .int kept, .ref aText, .int len, .int 0, .ref aOne, .ref aTwo, .ref aBoth, .ref aWord, .int cre, .ref aOpen, .ref aTimes, .ref aFar, .ref aQueue, .long x42]))], [(aS, .inl (cI, 335, .inl fS))], [(aOne, .inl (cI, 4, .inl g38))], [(aTwo, .inl (cI, 4, .inl g39))], [(aBoth, .inl (cI, 4, .inl g40))], [(aText, .inl (cI, 60, .inl fText))], [(aWord, .inl (cI, 20, .inl fWord))], [(aFar, .inl (cI, 6561, .inl fFar))], [(aQueue, .inl (cI, 400, .inl fQueue))]]) (by rw [e_x42]; rfl) ?_
  refine r_iinc (v := 6) (L' := [(1, .int 6), (0, .ref o)]) C dX11_digest_30 0 rfl (by decide) (by decide) rfl ?_
  refine r_goto (tgt := 14) C dX11_digest_33 (by decide) ?_
  refine r_iload_n C dX11_digest_14 0 rfl ?_
  refine r_bipush (v := 6) C dX11_digest_15 (by decide) ?_
  refine r_icmp_gt (tgt := 36) C dX11_digest_17 (by decide) (fun c => absurd c (by decide)) (fun _ => ?_)
  refine r_aload_n C dX11_digest_20 1 rfl ?_
  refine r_aload_n C dX11_digest_21 1 rfl ?_
  refine r_iload_n C dX11_digest_22 0 rfl ?_
  obtain ⟨h43, hp⟩ := hp
  refine r_callV (ci := 9) (wc := [[(o, .inr (9, [.ref aS, .ref aPast, .int known, .ref aSnap, .int kept, .ref aText, .int len, .int 0, .ref aOne, .ref aTwo, .ref aBoth, .ref aWord, .int cre, .ref aOpen, .ref aTimes, .ref aFar, .ref aQueue, .long x42]))], [(aS, .inl (cI, 335, .inl fS))], [(aOne, .inl (cI, 4, .inl g38))], [(aTwo, .inl (cI, 4, .inl g39))], [(aBoth, .inl (cI, 4, .inl g40))]]) (wr := [[(aText, .inl (cI, 60, .inl fText))], [(aWord, .inl (cI, 20, .inl fWord))], [(aFar, .inl (cI, 6561, .inl fFar))], [(aQueue, .inl (cI, 400, .inl fQueue))]]) (st := [.ref o]) C (m_X11_counted l D cI cL cP cJ o aS aPast aSnap aText aOne aTwo aBoth aWord aOpen aTimes aFar aQueue known kept len 0 cre x42 fS g38 g39 g40 6 h43) k_X11_counted t_1187 [0, 1, 2, 3, 4, 5, 6, 7, 8] (show ([0, 1, 2, 3, 4, 5, 6, 7, 8] : List Nat).Perm (List.range 9) by decide) rfl rfl rfl (q0 := 0) rfl rfl rfl (Nat.le_of_ble_eq_true rfl) ⟨Nat.le_of_ble_eq_true rfl, Nat.le_of_ble_eq_true rfl⟩ ⟨Nat.zero_le _, Nat.zero_le _⟩ dX11_digest_23 (fun r44 wr44 hw44 => ?_)
  obtain ⟨e_r44, rfl⟩ := hw44
  have hp := hp r44 e_r44
  obtain ⟨g45, e_g45⟩ : ∃ z : Nat → Int32, z = (F_X11_counted known fS g38 g39 g40 6).2.1 := ⟨_, rfl⟩
  have hp := hp g45 e_g45
  obtain ⟨g46, e_g46⟩ : ∃ z : Nat → Int32, z = (F_X11_counted known fS g38 g39 g40 6).2.2.1 := ⟨_, rfl⟩
  have hp := hp g46 e_g46
  obtain ⟨g47, e_g47⟩ : ∃ z : Nat → Int32, z = (F_X11_counted known fS g38 g39 g40 6).2.2.2 := ⟨_, rfl⟩
  have hp := hp g47 e_g47
  refine r_ws (I' := [[(o, .inr (9, [.ref aS, .ref aPast, .int known, .ref aSnap, .int kept, .ref aText, .int len, .int 0, .ref aOne, .ref aTwo, .ref aBoth, .ref aWord, .int cre, .ref aOpen, .ref aTimes, .ref aFar, .ref aQueue, .long x42]))], [(aS, .inl (cI, 335, .inl fS))], [(aOne, .inl (cI, 4, .inl g45))], [(aTwo, .inl (cI, 4, .inl g46))], [(aBoth, .inl (cI, 4, .inl g47))], [(aText, .inl (cI, 60, .inl fText))], [(aWord, .inl (cI, 20, .inl fWord))], [(aFar, .inl (cI, 6561, .inl fFar))], [(aQueue, .inl (cI, 400, .inl fQueue))]]) (by rw [e_g45, e_g46, e_g47]; rfl) ?_
  refine r_i2l C dX11_digest_26 rfl ?_
  refine r_callV (ci := 9) (wc := [[(o, .inr (9, [.ref aS, .ref aPast, .int known, .ref aSnap, .int kept, .ref aText, .int len, .int 0, .ref aOne, .ref aTwo, .ref aBoth, .ref aWord, .int cre, .ref aOpen, .ref aTimes, .ref aFar, .ref aQueue, .long x42]))]]) (wr := [[(aS, .inl (cI, 335, .inl fS))], [(aOne, .inl (cI, 4, .inl g45))], [(aTwo, .inl (cI, 4, .inl g46))], [(aBoth, .inl (cI, 4, .inl g47))], [(aText, .inl (cI, 60, .inl fText))], [(aWord, .inl (cI, 20, .inl fWord))], [(aFar, .inl (cI, 6561, .inl fFar))], [(aQueue, .inl (cI, 400, .inl fQueue))]]) (st := []) C (m_X11_adds l D cI cL cP cJ o aS aPast aSnap aText aOne aTwo aBoth aWord aOpen aTimes aFar aQueue known kept len 0 cre x42 ((r44 : Int32).toInt64)) k_X11_adds t_1256 [0, 1, 2, 3, 4, 5, 6, 7, 8] (show ([0, 1, 2, 3, 4, 5, 6, 7, 8] : List Nat).Perm (List.range 9) by decide) rfl rfl rfl (q0 := 0) rfl rfl rfl (Nat.le_of_ble_eq_true rfl) ⟨Nat.le_of_ble_eq_true rfl, Nat.le_of_ble_eq_true rfl⟩ ⟨Nat.zero_le _, Nat.zero_le _⟩ dX11_digest_27 (fun r48 wr48 hw48 => ?_)
  obtain rfl := hw48
  obtain ⟨x49, e_x49⟩ : ∃ z : Int64, z = F_X11_adds x42 ((r44 : Int32).toInt64) := ⟨_, rfl⟩
  have hp := hp x49 e_x49
  refine r_ws (I' := [[(o, .inr (9, [.ref aS, .ref aPast, .int known, .ref aSnap, .int kept, .ref aText, .int len, .int 0, .ref aOne, .ref aTwo, .ref aBoth, .ref aWord, .int cre, .ref aOpen, .ref aTimes, .ref aFar, .ref aQueue, .long x49]))], [(aS, .inl (cI, 335, .inl fS))], [(aOne, .inl (cI, 4, .inl g45))], [(aTwo, .inl (cI, 4, .inl g46))], [(aBoth, .inl (cI, 4, .inl g47))], [(aText, .inl (cI, 60, .inl fText))], [(aWord, .inl (cI, 20, .inl fWord))], [(aFar, .inl (cI, 6561, .inl fFar))], [(aQueue, .inl (cI, 400, .inl fQueue))]]) (by rw [e_x49]; rfl) ?_
  refine r_iinc (v := 7) (L' := [(1, .int 7), (0, .ref o)]) C dX11_digest_30 0 rfl (by decide) (by decide) rfl ?_
  refine r_goto (tgt := 14) C dX11_digest_33 (by decide) ?_
  refine r_iload_n C dX11_digest_14 0 rfl ?_
  refine r_bipush (v := 6) C dX11_digest_15 (by decide) ?_
  refine r_icmp_gt (tgt := 36) C dX11_digest_17 (by decide) (fun _ => ?_) (fun c => absurd c (by decide))
  refine r_iconst (v := 0) C dX11_digest_36 (by decide) ?_
  refine r_istore_n (L' := [(1, .int 0), (0, .ref o)]) C dX11_digest_37 (by decide) rfl ?_
  refine r_iload_n C dX11_digest_38 0 rfl ?_
  refine r_iconst (v := 5) C dX11_digest_39 (by decide) ?_
  refine r_icmp_ge (tgt := 54) C dX11_digest_40 (by decide) (fun c => absurd c (by decide)) (fun _ => ?_)
  refine r_aload_n C dX11_digest_43 1 rfl ?_
  refine r_iload_n C dX11_digest_44 0 rfl ?_
  obtain ⟨h50, hp⟩ := hp
  refine r_callV (ci := 9) (wc := [[(o, .inr (9, [.ref aS, .ref aPast, .int known, .ref aSnap, .int kept, .ref aText, .int len, .int 0, .ref aOne, .ref aTwo, .ref aBoth, .ref aWord, .int cre, .ref aOpen, .ref aTimes, .ref aFar, .ref aQueue, .long x49]))], [(aS, .inl (cI, 335, .inl fS))], [(aOne, .inl (cI, 4, .inl g45))], [(aTwo, .inl (cI, 4, .inl g46))], [(aBoth, .inl (cI, 4, .inl g47))], [(aWord, .inl (cI, 20, .inl fWord))]]) (wr := [[(aText, .inl (cI, 60, .inl fText))], [(aFar, .inl (cI, 6561, .inl fFar))], [(aQueue, .inl (cI, 400, .inl fQueue))]]) (st := []) C (m_X11_addsLetter l D cI cL cP cJ o aS aPast aSnap aText aOne aTwo aBoth aWord aOpen aTimes aFar aQueue known kept len 0 cre x49 fS g45 g46 g47 fWord 0 h50) k_X11_addsLetter t_1261 [0, 1, 2, 3, 4, 6, 5, 7, 8] (show ([0, 1, 2, 3, 4, 6, 5, 7, 8] : List Nat).Perm (List.range 9) by decide) rfl rfl rfl (q0 := 0) rfl rfl rfl (Nat.le_of_ble_eq_true rfl) ⟨Nat.le_of_ble_eq_true rfl, Nat.le_of_ble_eq_true rfl⟩ ⟨Nat.zero_le _, Nat.zero_le _⟩ dX11_digest_45 (fun r51 wr51 hw51 => ?_)
  obtain rfl := hw51
  obtain ⟨x52, e_x52⟩ : ∃ z : Int32, z = (F_X11_addsLetter x49 fS g45 g46 g47 fWord 0).1 := ⟨_, rfl⟩
  have hp := hp x52 e_x52
  obtain ⟨x53, e_x53⟩ : ∃ z : Int64, z = (F_X11_addsLetter x49 fS g45 g46 g47 fWord 0).2.1 := ⟨_, rfl⟩
  have hp := hp x53 e_x53
  obtain ⟨g54, e_g54⟩ : ∃ z : Nat → Int32, z = (F_X11_addsLetter x49 fS g45 g46 g47 fWord 0).2.2.1 := ⟨_, rfl⟩
  have hp := hp g54 e_g54
  obtain ⟨g55, e_g55⟩ : ∃ z : Nat → Int32, z = (F_X11_addsLetter x49 fS g45 g46 g47 fWord 0).2.2.2.1 := ⟨_, rfl⟩
  have hp := hp g55 e_g55
  obtain ⟨g56, e_g56⟩ : ∃ z : Nat → Int32, z = (F_X11_addsLetter x49 fS g45 g46 g47 fWord 0).2.2.2.2.1 := ⟨_, rfl⟩
  have hp := hp g56 e_g56
  obtain ⟨g57, e_g57⟩ : ∃ z : Nat → Int32, z = (F_X11_addsLetter x49 fS g45 g46 g47 fWord 0).2.2.2.2.2 := ⟨_, rfl⟩
  have hp := hp g57 e_g57
  refine r_ws (I' := [[(o, .inr (9, [.ref aS, .ref aPast, .int known, .ref aSnap, .int kept, .ref aText, .int len, .int 0, .ref aOne, .ref aTwo, .ref aBoth, .ref aWord, .int x52, .ref aOpen, .ref aTimes, .ref aFar, .ref aQueue, .long x53]))], [(aS, .inl (cI, 335, .inl fS))], [(aOne, .inl (cI, 4, .inl g54))], [(aTwo, .inl (cI, 4, .inl g55))], [(aBoth, .inl (cI, 4, .inl g56))], [(aWord, .inl (cI, 20, .inl g57))], [(aText, .inl (cI, 60, .inl fText))], [(aFar, .inl (cI, 6561, .inl fFar))], [(aQueue, .inl (cI, 400, .inl fQueue))]]) (by rw [e_x52, e_x53, e_g54, e_g55, e_g56, e_g57]; rfl) ?_
  refine r_iinc (v := 1) (L' := [(1, .int 1), (0, .ref o)]) C dX11_digest_48 0 rfl (by decide) (by decide) rfl ?_
  refine r_goto (tgt := 38) C dX11_digest_51 (by decide) ?_
  refine r_iload_n C dX11_digest_38 0 rfl ?_
  refine r_iconst (v := 5) C dX11_digest_39 (by decide) ?_
  refine r_icmp_ge (tgt := 54) C dX11_digest_40 (by decide) (fun c => absurd c (by decide)) (fun _ => ?_)
  refine r_aload_n C dX11_digest_43 1 rfl ?_
  refine r_iload_n C dX11_digest_44 0 rfl ?_
  obtain ⟨h58, hp⟩ := hp
  refine r_callV (ci := 9) (wc := [[(o, .inr (9, [.ref aS, .ref aPast, .int known, .ref aSnap, .int kept, .ref aText, .int len, .int 0, .ref aOne, .ref aTwo, .ref aBoth, .ref aWord, .int x52, .ref aOpen, .ref aTimes, .ref aFar, .ref aQueue, .long x53]))], [(aS, .inl (cI, 335, .inl fS))], [(aOne, .inl (cI, 4, .inl g54))], [(aTwo, .inl (cI, 4, .inl g55))], [(aBoth, .inl (cI, 4, .inl g56))], [(aWord, .inl (cI, 20, .inl g57))]]) (wr := [[(aText, .inl (cI, 60, .inl fText))], [(aFar, .inl (cI, 6561, .inl fFar))], [(aQueue, .inl (cI, 400, .inl fQueue))]]) (st := []) C (m_X11_addsLetter l D cI cL cP cJ o aS aPast aSnap aText aOne aTwo aBoth aWord aOpen aTimes aFar aQueue known kept len 0 x52 x53 fS g54 g55 g56 g57 1 h58) k_X11_addsLetter t_1261 [0, 1, 2, 3, 4, 5, 6, 7, 8] (show ([0, 1, 2, 3, 4, 5, 6, 7, 8] : List Nat).Perm (List.range 9) by decide) rfl rfl rfl (q0 := 0) rfl rfl rfl (Nat.le_of_ble_eq_true rfl) ⟨Nat.le_of_ble_eq_true rfl, Nat.le_of_ble_eq_true rfl⟩ ⟨Nat.zero_le _, Nat.zero_le _⟩ dX11_digest_45 (fun r59 wr59 hw59 => ?_)
  obtain rfl := hw59
  obtain ⟨x60, e_x60⟩ : ∃ z : Int32, z = (F_X11_addsLetter x53 fS g54 g55 g56 g57 1).1 := ⟨_, rfl⟩
  have hp := hp x60 e_x60
  obtain ⟨x61, e_x61⟩ : ∃ z : Int64, z = (F_X11_addsLetter x53 fS g54 g55 g56 g57 1).2.1 := ⟨_, rfl⟩
  have hp := hp x61 e_x61
  obtain ⟨g62, e_g62⟩ : ∃ z : Nat → Int32, z = (F_X11_addsLetter x53 fS g54 g55 g56 g57 1).2.2.1 := ⟨_, rfl⟩
  have hp := hp g62 e_g62
  obtain ⟨g63, e_g63⟩ : ∃ z : Nat → Int32, z = (F_X11_addsLetter x53 fS g54 g55 g56 g57 1).2.2.2.1 := ⟨_, rfl⟩
  have hp := hp g63 e_g63
  obtain ⟨g64, e_g64⟩ : ∃ z : Nat → Int32, z = (F_X11_addsLetter x53 fS g54 g55 g56 g57 1).2.2.2.2.1 := ⟨_, rfl⟩
  have hp := hp g64 e_g64
  obtain ⟨g65, e_g65⟩ : ∃ z : Nat → Int32, z = (F_X11_addsLetter x53 fS g54 g55 g56 g57 1).2.2.2.2.2 := ⟨_, rfl⟩
  have hp := hp g65 e_g65
  refine r_ws (I' := [[(o, .inr (9, [.ref aS, .ref aPast, .int known, .ref aSnap, .int kept, .ref aText, .int len, .int 0, .ref aOne, .ref aTwo, .ref aBoth, .ref aWord, .int x60, .ref aOpen, .ref aTimes, .ref aFar, .ref aQueue, .long x61]))], [(aS, .inl (cI, 335, .inl fS))], [(aOne, .inl (cI, 4, .inl g62))], [(aTwo, .inl (cI, 4, .inl g63))], [(aBoth, .inl (cI, 4, .inl g64))], [(aWord, .inl (cI, 20, .inl g65))], [(aText, .inl (cI, 60, .inl fText))], [(aFar, .inl (cI, 6561, .inl fFar))], [(aQueue, .inl (cI, 400, .inl fQueue))]]) (by rw [e_x60, e_x61, e_g62, e_g63, e_g64, e_g65]; rfl) ?_
  refine r_iinc (v := 2) (L' := [(1, .int 2), (0, .ref o)]) C dX11_digest_48 0 rfl (by decide) (by decide) rfl ?_
  refine r_goto (tgt := 38) C dX11_digest_51 (by decide) ?_
  refine r_iload_n C dX11_digest_38 0 rfl ?_
  refine r_iconst (v := 5) C dX11_digest_39 (by decide) ?_
  refine r_icmp_ge (tgt := 54) C dX11_digest_40 (by decide) (fun c => absurd c (by decide)) (fun _ => ?_)
  refine r_aload_n C dX11_digest_43 1 rfl ?_
  refine r_iload_n C dX11_digest_44 0 rfl ?_
  obtain ⟨h66, hp⟩ := hp
  refine r_callV (ci := 9) (wc := [[(o, .inr (9, [.ref aS, .ref aPast, .int known, .ref aSnap, .int kept, .ref aText, .int len, .int 0, .ref aOne, .ref aTwo, .ref aBoth, .ref aWord, .int x60, .ref aOpen, .ref aTimes, .ref aFar, .ref aQueue, .long x61]))], [(aS, .inl (cI, 335, .inl fS))], [(aOne, .inl (cI, 4, .inl g62))], [(aTwo, .inl (cI, 4, .inl g63))], [(aBoth, .inl (cI, 4, .inl g64))], [(aWord, .inl (cI, 20, .inl g65))]]) (wr := [[(aText, .inl (cI, 60, .inl fText))], [(aFar, .inl (cI, 6561, .inl fFar))], [(aQueue, .inl (cI, 400, .inl fQueue))]]) (st := []) C (m_X11_addsLetter l D cI cL cP cJ o aS aPast aSnap aText aOne aTwo aBoth aWord aOpen aTimes aFar aQueue known kept len 0 x60 x61 fS g62 g63 g64 g65 2 h66) k_X11_addsLetter t_1261 [0, 1, 2, 3, 4, 5, 6, 7, 8] (show ([0, 1, 2, 3, 4, 5, 6, 7, 8] : List Nat).Perm (List.range 9) by decide) rfl rfl rfl (q0 := 0) rfl rfl rfl (Nat.le_of_ble_eq_true rfl) ⟨Nat.le_of_ble_eq_true rfl, Nat.le_of_ble_eq_true rfl⟩ ⟨Nat.zero_le _, Nat.zero_le _⟩ dX11_digest_45 (fun r67 wr67 hw67 => ?_)
  obtain rfl := hw67
  obtain ⟨x68, e_x68⟩ : ∃ z : Int32, z = (F_X11_addsLetter x61 fS g62 g63 g64 g65 2).1 := ⟨_, rfl⟩
  have hp := hp x68 e_x68
  obtain ⟨x69, e_x69⟩ : ∃ z : Int64, z = (F_X11_addsLetter x61 fS g62 g63 g64 g65 2).2.1 := ⟨_, rfl⟩
  have hp := hp x69 e_x69
  obtain ⟨g70, e_g70⟩ : ∃ z : Nat → Int32, z = (F_X11_addsLetter x61 fS g62 g63 g64 g65 2).2.2.1 := ⟨_, rfl⟩
  have hp := hp g70 e_g70
  obtain ⟨g71, e_g71⟩ : ∃ z : Nat → Int32, z = (F_X11_addsLetter x61 fS g62 g63 g64 g65 2).2.2.2.1 := ⟨_, rfl⟩
  have hp := hp g71 e_g71
  obtain ⟨g72, e_g72⟩ : ∃ z : Nat → Int32, z = (F_X11_addsLetter x61 fS g62 g63 g64 g65 2).2.2.2.2.1 := ⟨_, rfl⟩
  have hp := hp g72 e_g72
  obtain ⟨g73, e_g73⟩ : ∃ z : Nat → Int32, z = (F_X11_addsLetter x61 fS g62 g63 g64 g65 2).2.2.2.2.2 := ⟨_, rfl⟩
  have hp := hp g73 e_g73
  refine r_ws (I' := [[(o, .inr (9, [.ref aS, .ref aPast, .int known, .ref aSnap, .int kept, .ref aText, .int len, .int 0, .ref aOne, .ref aTwo, .ref aBoth, .ref aWord, .int x68, .ref aOpen, .ref aTimes, .ref aFar, .ref aQueue, .long x69]))], [(aS, .inl (cI, 335, .inl fS))], [(aOne, .inl (cI, 4, .inl g70))], [(aTwo, .inl (cI, 4, .inl g71))], [(aBoth, .inl (cI, 4, .inl g72))], [(aWord, .inl (cI, 20, .inl g73))], [(aText, .inl (cI, 60, .inl fText))], [(aFar, .inl (cI, 6561, .inl fFar))], [(aQueue, .inl (cI, 400, .inl fQueue))]]) (by rw [e_x68, e_x69, e_g70, e_g71, e_g72, e_g73]; rfl) ?_
  refine r_iinc (v := 3) (L' := [(1, .int 3), (0, .ref o)]) C dX11_digest_48 0 rfl (by decide) (by decide) rfl ?_
  refine r_goto (tgt := 38) C dX11_digest_51 (by decide) ?_
  refine r_iload_n C dX11_digest_38 0 rfl ?_
  refine r_iconst (v := 5) C dX11_digest_39 (by decide) ?_
  refine r_icmp_ge (tgt := 54) C dX11_digest_40 (by decide) (fun c => absurd c (by decide)) (fun _ => ?_)
  refine r_aload_n C dX11_digest_43 1 rfl ?_
  refine r_iload_n C dX11_digest_44 0 rfl ?_
  obtain ⟨h74, hp⟩ := hp
  refine r_callV (ci := 9) (wc := [[(o, .inr (9, [.ref aS, .ref aPast, .int known, .ref aSnap, .int kept, .ref aText, .int len, .int 0, .ref aOne, .ref aTwo, .ref aBoth, .ref aWord, .int x68, .ref aOpen, .ref aTimes, .ref aFar, .ref aQueue, .long x69]))], [(aS, .inl (cI, 335, .inl fS))], [(aOne, .inl (cI, 4, .inl g70))], [(aTwo, .inl (cI, 4, .inl g71))], [(aBoth, .inl (cI, 4, .inl g72))], [(aWord, .inl (cI, 20, .inl g73))]]) (wr := [[(aText, .inl (cI, 60, .inl fText))], [(aFar, .inl (cI, 6561, .inl fFar))], [(aQueue, .inl (cI, 400, .inl fQueue))]]) (st := []) C (m_X11_addsLetter l D cI cL cP cJ o aS aPast aSnap aText aOne aTwo aBoth aWord aOpen aTimes aFar aQueue known kept len 0 x68 x69 fS g70 g71 g72 g73 3 h74) k_X11_addsLetter t_1261 [0, 1, 2, 3, 4, 5, 6, 7, 8] (show ([0, 1, 2, 3, 4, 5, 6, 7, 8] : List Nat).Perm (List.range 9) by decide) rfl rfl rfl (q0 := 0) rfl rfl rfl (Nat.le_of_ble_eq_true rfl) ⟨Nat.le_of_ble_eq_true rfl, Nat.le_of_ble_eq_true rfl⟩ ⟨Nat.zero_le _, Nat.zero_le _⟩ dX11_digest_45 (fun r75 wr75 hw75 => ?_)
  obtain rfl := hw75
  obtain ⟨x76, e_x76⟩ : ∃ z : Int32, z = (F_X11_addsLetter x69 fS g70 g71 g72 g73 3).1 := ⟨_, rfl⟩
  have hp := hp x76 e_x76
  obtain ⟨x77, e_x77⟩ : ∃ z : Int64, z = (F_X11_addsLetter x69 fS g70 g71 g72 g73 3).2.1 := ⟨_, rfl⟩
  have hp := hp x77 e_x77
  obtain ⟨g78, e_g78⟩ : ∃ z : Nat → Int32, z = (F_X11_addsLetter x69 fS g70 g71 g72 g73 3).2.2.1 := ⟨_, rfl⟩
  have hp := hp g78 e_g78
  obtain ⟨g79, e_g79⟩ : ∃ z : Nat → Int32, z = (F_X11_addsLetter x69 fS g70 g71 g72 g73 3).2.2.2.1 := ⟨_, rfl⟩
  have hp := hp g79 e_g79
  obtain ⟨g80, e_g80⟩ : ∃ z : Nat → Int32, z = (F_X11_addsLetter x69 fS g70 g71 g72 g73 3).2.2.2.2.1 := ⟨_, rfl⟩
  have hp := hp g80 e_g80
  obtain ⟨g81, e_g81⟩ : ∃ z : Nat → Int32, z = (F_X11_addsLetter x69 fS g70 g71 g72 g73 3).2.2.2.2.2 := ⟨_, rfl⟩
  have hp := hp g81 e_g81
  refine r_ws (I' := [[(o, .inr (9, [.ref aS, .ref aPast, .int known, .ref aSnap, .int kept, .ref aText, .int len, .int 0, .ref aOne, .ref aTwo, .ref aBoth, .ref aWord, .int x76, .ref aOpen, .ref aTimes, .ref aFar, .ref aQueue, .long x77]))], [(aS, .inl (cI, 335, .inl fS))], [(aOne, .inl (cI, 4, .inl g78))], [(aTwo, .inl (cI, 4, .inl g79))], [(aBoth, .inl (cI, 4, .inl g80))], [(aWord, .inl (cI, 20, .inl g81))], [(aText, .inl (cI, 60, .inl fText))], [(aFar, .inl (cI, 6561, .inl fFar))], [(aQueue, .inl (cI, 400, .inl fQueue))]]) (by rw [e_x76, e_x77, e_g78, e_g79, e_g80, e_g81]; rfl) ?_
  refine r_iinc (v := 4) (L' := [(1, .int 4), (0, .ref o)]) C dX11_digest_48 0 rfl (by decide) (by decide) rfl ?_
  refine r_goto (tgt := 38) C dX11_digest_51 (by decide) ?_
  refine r_iload_n C dX11_digest_38 0 rfl ?_
  refine r_iconst (v := 5) C dX11_digest_39 (by decide) ?_
  refine r_icmp_ge (tgt := 54) C dX11_digest_40 (by decide) (fun c => absurd c (by decide)) (fun _ => ?_)
  refine r_aload_n C dX11_digest_43 1 rfl ?_
  refine r_iload_n C dX11_digest_44 0 rfl ?_
  obtain ⟨h82, hp⟩ := hp
  refine r_callV (ci := 9) (wc := [[(o, .inr (9, [.ref aS, .ref aPast, .int known, .ref aSnap, .int kept, .ref aText, .int len, .int 0, .ref aOne, .ref aTwo, .ref aBoth, .ref aWord, .int x76, .ref aOpen, .ref aTimes, .ref aFar, .ref aQueue, .long x77]))], [(aS, .inl (cI, 335, .inl fS))], [(aOne, .inl (cI, 4, .inl g78))], [(aTwo, .inl (cI, 4, .inl g79))], [(aBoth, .inl (cI, 4, .inl g80))], [(aWord, .inl (cI, 20, .inl g81))]]) (wr := [[(aText, .inl (cI, 60, .inl fText))], [(aFar, .inl (cI, 6561, .inl fFar))], [(aQueue, .inl (cI, 400, .inl fQueue))]]) (st := []) C (m_X11_addsLetter l D cI cL cP cJ o aS aPast aSnap aText aOne aTwo aBoth aWord aOpen aTimes aFar aQueue known kept len 0 x76 x77 fS g78 g79 g80 g81 4 h82) k_X11_addsLetter t_1261 [0, 1, 2, 3, 4, 5, 6, 7, 8] (show ([0, 1, 2, 3, 4, 5, 6, 7, 8] : List Nat).Perm (List.range 9) by decide) rfl rfl rfl (q0 := 0) rfl rfl rfl (Nat.le_of_ble_eq_true rfl) ⟨Nat.le_of_ble_eq_true rfl, Nat.le_of_ble_eq_true rfl⟩ ⟨Nat.zero_le _, Nat.zero_le _⟩ dX11_digest_45 (fun r83 wr83 hw83 => ?_)
  obtain rfl := hw83
  obtain ⟨x84, e_x84⟩ : ∃ z : Int32, z = (F_X11_addsLetter x77 fS g78 g79 g80 g81 4).1 := ⟨_, rfl⟩
  have hp := hp x84 e_x84
  obtain ⟨x85, e_x85⟩ : ∃ z : Int64, z = (F_X11_addsLetter x77 fS g78 g79 g80 g81 4).2.1 := ⟨_, rfl⟩
  have hp := hp x85 e_x85
  obtain ⟨g86, e_g86⟩ : ∃ z : Nat → Int32, z = (F_X11_addsLetter x77 fS g78 g79 g80 g81 4).2.2.1 := ⟨_, rfl⟩
  have hp := hp g86 e_g86
  obtain ⟨g87, e_g87⟩ : ∃ z : Nat → Int32, z = (F_X11_addsLetter x77 fS g78 g79 g80 g81 4).2.2.2.1 := ⟨_, rfl⟩
  have hp := hp g87 e_g87
  obtain ⟨g88, e_g88⟩ : ∃ z : Nat → Int32, z = (F_X11_addsLetter x77 fS g78 g79 g80 g81 4).2.2.2.2.1 := ⟨_, rfl⟩
  have hp := hp g88 e_g88
  obtain ⟨g89, e_g89⟩ : ∃ z : Nat → Int32, z = (F_X11_addsLetter x77 fS g78 g79 g80 g81 4).2.2.2.2.2 := ⟨_, rfl⟩
  have hp := hp g89 e_g89
  refine r_ws (I' := [[(o, .inr (9, [.ref aS, .ref aPast, .int known, .ref aSnap, .int kept, .ref aText, .int len, .int 0, .ref aOne, .ref aTwo, .ref aBoth, .ref aWord, .int x84, .ref aOpen, .ref aTimes, .ref aFar, .ref aQueue, .long x85]))], [(aS, .inl (cI, 335, .inl fS))], [(aOne, .inl (cI, 4, .inl g86))], [(aTwo, .inl (cI, 4, .inl g87))], [(aBoth, .inl (cI, 4, .inl g88))], [(aWord, .inl (cI, 20, .inl g89))], [(aText, .inl (cI, 60, .inl fText))], [(aFar, .inl (cI, 6561, .inl fFar))], [(aQueue, .inl (cI, 400, .inl fQueue))]]) (by rw [e_x84, e_x85, e_g86, e_g87, e_g88, e_g89]; rfl) ?_
  refine r_iinc (v := 5) (L' := [(1, .int 5), (0, .ref o)]) C dX11_digest_48 0 rfl (by decide) (by decide) rfl ?_
  refine r_goto (tgt := 38) C dX11_digest_51 (by decide) ?_
  refine r_iload_n C dX11_digest_38 0 rfl ?_
  refine r_iconst (v := 5) C dX11_digest_39 (by decide) ?_
  refine r_icmp_ge (tgt := 54) C dX11_digest_40 (by decide) (fun _ => ?_) (fun c => absurd c (by decide))
  refine r_aload_n C dX11_digest_54 1 rfl ?_
  refine r_iconst (v := 0) C dX11_digest_55 (by decide) ?_
  obtain ⟨h90, hp⟩ := hp
  refine r_callV (ci := 9) (wc := [[(o, .inr (9, [.ref aS, .ref aPast, .int known, .ref aSnap, .int kept, .ref aText, .int len, .int 0, .ref aOne, .ref aTwo, .ref aBoth, .ref aWord, .int x84, .ref aOpen, .ref aTimes, .ref aFar, .ref aQueue, .long x85]))], [(aS, .inl (cI, 335, .inl fS))], [(aOne, .inl (cI, 4, .inl g86))]]) (wr := [[(aTwo, .inl (cI, 4, .inl g87))], [(aBoth, .inl (cI, 4, .inl g88))], [(aWord, .inl (cI, 20, .inl g89))], [(aText, .inl (cI, 60, .inl fText))], [(aFar, .inl (cI, 6561, .inl fFar))], [(aQueue, .inl (cI, 400, .inl fQueue))]]) (st := []) C (m_X11_lengthOf l D cI cL cP cJ o aS aPast aSnap aText aOne aTwo aBoth aWord aOpen aTimes aFar aQueue known kept len 0 x84 x85 fS g86 0 h90) k_X11_lengthOf t_1002 [0, 1, 2, 3, 4, 5, 6, 7, 8] (show ([0, 1, 2, 3, 4, 5, 6, 7, 8] : List Nat).Perm (List.range 9) by decide) rfl rfl rfl (q0 := 0) rfl rfl rfl (Nat.le_of_ble_eq_true rfl) ⟨Nat.le_of_ble_eq_true rfl, Nat.le_of_ble_eq_true rfl⟩ ⟨Nat.zero_le _, Nat.zero_le _⟩ dX11_digest_56 (fun r91 wr91 hw91 => ?_)
  obtain ⟨e_r91, rfl⟩ := hw91
  have hp := hp r91 e_r91
  obtain ⟨g92, e_g92⟩ : ∃ z : Nat → Int32, z = (F_X11_lengthOf fS g86 0).2 := ⟨_, rfl⟩
  have hp := hp g92 e_g92
  refine r_ws (I' := [[(o, .inr (9, [.ref aS, .ref aPast, .int known, .ref aSnap, .int kept, .ref aText, .int len, .int 0, .ref aOne, .ref aTwo, .ref aBoth, .ref aWord, .int x84, .ref aOpen, .ref aTimes, .ref aFar, .ref aQueue, .long x85]))], [(aS, .inl (cI, 335, .inl fS))], [(aOne, .inl (cI, 4, .inl g92))], [(aTwo, .inl (cI, 4, .inl g87))], [(aBoth, .inl (cI, 4, .inl g88))], [(aWord, .inl (cI, 20, .inl g89))], [(aText, .inl (cI, 60, .inl fText))], [(aFar, .inl (cI, 6561, .inl fFar))], [(aQueue, .inl (cI, 400, .inl fQueue))]]) (by rw [e_g92]; rfl) ?_
  refine r_istore_n (L' := [(1, .int r91), (0, .ref o)]) C dX11_digest_59 (by decide) rfl ?_
  refine r_aload_n C dX11_digest_60 1 rfl ?_
  refine r_iload_n C dX11_digest_61 0 rfl ?_
  obtain ⟨h93, hp⟩ := hp
  refine r_callS (wc := []) (wr := [[(o, .inr (9, [.ref aS, .ref aPast, .int known, .ref aSnap, .int kept, .ref aText, .int len, .int 0, .ref aOne, .ref aTwo, .ref aBoth, .ref aWord, .int x84, .ref aOpen, .ref aTimes, .ref aFar, .ref aQueue, .long x85]))], [(aS, .inl (cI, 335, .inl fS))], [(aOne, .inl (cI, 4, .inl g92))], [(aTwo, .inl (cI, 4, .inl g87))], [(aBoth, .inl (cI, 4, .inl g88))], [(aWord, .inl (cI, 20, .inl g89))], [(aText, .inl (cI, 60, .inl fText))], [(aFar, .inl (cI, 6561, .inl fFar))], [(aQueue, .inl (cI, 400, .inl fQueue))]]) (st := [.ref o]) C (m_X11_sums l D cI cL cP cJ r91 h93) k_X11_sums t_1223 [0, 1, 2, 3, 4, 5, 6, 7, 8] (show ([0, 1, 2, 3, 4, 5, 6, 7, 8] : List Nat).Perm (List.range 9) by decide) rfl rfl rfl (Nat.le_of_ble_eq_true rfl) ⟨Nat.le_of_ble_eq_true rfl, Nat.le_of_ble_eq_true rfl⟩ ⟨Nat.zero_le _, Nat.zero_le _⟩ dX11_digest_62 (fun r94 wr94 hw94 => ?_)
  obtain ⟨e_r94, rfl⟩ := hw94
  have hp := hp r94 e_r94
  refine r_ws (I' := [[(o, .inr (9, [.ref aS, .ref aPast, .int known, .ref aSnap, .int kept, .ref aText, .int len, .int 0, .ref aOne, .ref aTwo, .ref aBoth, .ref aWord, .int x84, .ref aOpen, .ref aTimes, .ref aFar, .ref aQueue, .long x85]))], [(aS, .inl (cI, 335, .inl fS))], [(aOne, .inl (cI, 4, .inl g92))], [(aTwo, .inl (cI, 4, .inl g87))], [(aBoth, .inl (cI, 4, .inl g88))], [(aWord, .inl (cI, 20, .inl g89))], [(aText, .inl (cI, 60, .inl fText))], [(aFar, .inl (cI, 6561, .inl fFar))], [(aQueue, .inl (cI, 400, .inl fQueue))]]) rfl ?_
  refine r_i2l C dX11_digest_65 rfl ?_
  refine r_callV (ci := 9) (wc := [[(o, .inr (9, [.ref aS, .ref aPast, .int known, .ref aSnap, .int kept, .ref aText, .int len, .int 0, .ref aOne, .ref aTwo, .ref aBoth, .ref aWord, .int x84, .ref aOpen, .ref aTimes, .ref aFar, .ref aQueue, .long x85]))]]) (wr := [[(aS, .inl (cI, 335, .inl fS))], [(aOne, .inl (cI, 4, .inl g92))], [(aTwo, .inl (cI, 4, .inl g87))], [(aBoth, .inl (cI, 4, .inl g88))], [(aWord, .inl (cI, 20, .inl g89))], [(aText, .inl (cI, 60, .inl fText))], [(aFar, .inl (cI, 6561, .inl fFar))], [(aQueue, .inl (cI, 400, .inl fQueue))]]) (st := []) C (m_X11_adds l D cI cL cP cJ o aS aPast aSnap aText aOne aTwo aBoth aWord aOpen aTimes aFar aQueue known kept len 0 x84 x85 ((r94 : Int32).toInt64)) k_X11_adds t_1256 [0, 1, 2, 3, 4, 5, 6, 7, 8] (show ([0, 1, 2, 3, 4, 5, 6, 7, 8] : List Nat).Perm (List.range 9) by decide) rfl rfl rfl (q0 := 0) rfl rfl rfl (Nat.le_of_ble_eq_true rfl) ⟨Nat.le_of_ble_eq_true rfl, Nat.le_of_ble_eq_true rfl⟩ ⟨Nat.zero_le _, Nat.zero_le _⟩ dX11_digest_66 (fun r95 wr95 hw95 => ?_)
  obtain rfl := hw95
  obtain ⟨x96, e_x96⟩ : ∃ z : Int64, z = F_X11_adds x85 ((r94 : Int32).toInt64) := ⟨_, rfl⟩
  have hp := hp x96 e_x96
  refine r_ws (I' := [[(o, .inr (9, [.ref aS, .ref aPast, .int known, .ref aSnap, .int kept, .ref aText, .int len, .int 0, .ref aOne, .ref aTwo, .ref aBoth, .ref aWord, .int x84, .ref aOpen, .ref aTimes, .ref aFar, .ref aQueue, .long x96]))], [(aS, .inl (cI, 335, .inl fS))], [(aOne, .inl (cI, 4, .inl g92))], [(aTwo, .inl (cI, 4, .inl g87))], [(aBoth, .inl (cI, 4, .inl g88))], [(aWord, .inl (cI, 20, .inl g89))], [(aText, .inl (cI, 60, .inl fText))], [(aFar, .inl (cI, 6561, .inl fFar))], [(aQueue, .inl (cI, 400, .inl fQueue))]]) (by rw [e_x96]; rfl) ?_
  refine r_aload_n C dX11_digest_69 1 rfl ?_
  refine r_aload_n C dX11_digest_70 1 rfl ?_
  refine r_iload_n C dX11_digest_71 0 rfl ?_
  obtain ⟨h97, hp⟩ := hp
  refine r_callV (ci := 9) (wc := [[(o, .inr (9, [.ref aS, .ref aPast, .int known, .ref aSnap, .int kept, .ref aText, .int len, .int 0, .ref aOne, .ref aTwo, .ref aBoth, .ref aWord, .int x84, .ref aOpen, .ref aTimes, .ref aFar, .ref aQueue, .long x96]))], [(aOne, .inl (cI, 4, .inl g92))], [(aFar, .inl (cI, 6561, .inl fFar))], [(aQueue, .inl (cI, 400, .inl fQueue))]]) (wr := [[(aS, .inl (cI, 335, .inl fS))], [(aTwo, .inl (cI, 4, .inl g87))], [(aBoth, .inl (cI, 4, .inl g88))], [(aWord, .inl (cI, 20, .inl g89))], [(aText, .inl (cI, 60, .inl fText))]]) (st := [.ref o]) C (m_X11_spread l D cI cL cP cJ o aS aPast aSnap aText aOne aTwo aBoth aWord aOpen aTimes aFar aQueue known kept len 0 x84 x96 g92 fFar fQueue r91 h97) k_X11_spread t_1226 [0, 2, 7, 8, 1, 3, 4, 5, 6] (show ([0, 2, 7, 8, 1, 3, 4, 5, 6] : List Nat).Perm (List.range 9) by decide) rfl rfl rfl (q0 := 0) rfl rfl rfl (Nat.le_of_ble_eq_true rfl) ⟨Nat.le_of_ble_eq_true rfl, Nat.le_of_ble_eq_true rfl⟩ ⟨Nat.zero_le _, Nat.zero_le _⟩ dX11_digest_72 (fun r98 wr98 hw98 => ?_)
  obtain ⟨e_r98, rfl⟩ := hw98
  have hp := hp r98 e_r98
  obtain ⟨g99, e_g99⟩ : ∃ z : Nat → Int32, z = (F_X11_spread g92 fFar fQueue r91).2.1 := ⟨_, rfl⟩
  have hp := hp g99 e_g99
  obtain ⟨g100, e_g100⟩ : ∃ z : Nat → Int32, z = (F_X11_spread g92 fFar fQueue r91).2.2.1 := ⟨_, rfl⟩
  have hp := hp g100 e_g100
  obtain ⟨g101, e_g101⟩ : ∃ z : Nat → Int32, z = (F_X11_spread g92 fFar fQueue r91).2.2.2 := ⟨_, rfl⟩
  have hp := hp g101 e_g101
  refine r_ws (I' := [[(o, .inr (9, [.ref aS, .ref aPast, .int known, .ref aSnap, .int kept, .ref aText, .int len, .int 0, .ref aOne, .ref aTwo, .ref aBoth, .ref aWord, .int x84, .ref aOpen, .ref aTimes, .ref aFar, .ref aQueue, .long x96]))], [(aOne, .inl (cI, 4, .inl g99))], [(aFar, .inl (cI, 6561, .inl g100))], [(aQueue, .inl (cI, 400, .inl g101))], [(aS, .inl (cI, 335, .inl fS))], [(aTwo, .inl (cI, 4, .inl g87))], [(aBoth, .inl (cI, 4, .inl g88))], [(aWord, .inl (cI, 20, .inl g89))], [(aText, .inl (cI, 60, .inl fText))]]) (by rw [e_g99, e_g100, e_g101]; rfl) ?_
  refine r_i2l C dX11_digest_75 rfl ?_
  refine r_callV (ci := 9) (wc := [[(o, .inr (9, [.ref aS, .ref aPast, .int known, .ref aSnap, .int kept, .ref aText, .int len, .int 0, .ref aOne, .ref aTwo, .ref aBoth, .ref aWord, .int x84, .ref aOpen, .ref aTimes, .ref aFar, .ref aQueue, .long x96]))]]) (wr := [[(aOne, .inl (cI, 4, .inl g99))], [(aFar, .inl (cI, 6561, .inl g100))], [(aQueue, .inl (cI, 400, .inl g101))], [(aS, .inl (cI, 335, .inl fS))], [(aTwo, .inl (cI, 4, .inl g87))], [(aBoth, .inl (cI, 4, .inl g88))], [(aWord, .inl (cI, 20, .inl g89))], [(aText, .inl (cI, 60, .inl fText))]]) (st := []) C (m_X11_adds l D cI cL cP cJ o aS aPast aSnap aText aOne aTwo aBoth aWord aOpen aTimes aFar aQueue known kept len 0 x84 x96 ((r98 : Int32).toInt64)) k_X11_adds t_1256 [0, 1, 2, 3, 4, 5, 6, 7, 8] (show ([0, 1, 2, 3, 4, 5, 6, 7, 8] : List Nat).Perm (List.range 9) by decide) rfl rfl rfl (q0 := 0) rfl rfl rfl (Nat.le_of_ble_eq_true rfl) ⟨Nat.le_of_ble_eq_true rfl, Nat.le_of_ble_eq_true rfl⟩ ⟨Nat.zero_le _, Nat.zero_le _⟩ dX11_digest_76 (fun r102 wr102 hw102 => ?_)
  obtain rfl := hw102
  obtain ⟨x103, e_x103⟩ : ∃ z : Int64, z = F_X11_adds x96 ((r98 : Int32).toInt64) := ⟨_, rfl⟩
  have hp := hp x103 e_x103
  refine r_ws (I' := [[(o, .inr (9, [.ref aS, .ref aPast, .int known, .ref aSnap, .int kept, .ref aText, .int len, .int 0, .ref aOne, .ref aTwo, .ref aBoth, .ref aWord, .int x84, .ref aOpen, .ref aTimes, .ref aFar, .ref aQueue, .long x103]))], [(aOne, .inl (cI, 4, .inl g99))], [(aFar, .inl (cI, 6561, .inl g100))], [(aQueue, .inl (cI, 400, .inl g101))], [(aS, .inl (cI, 335, .inl fS))], [(aTwo, .inl (cI, 4, .inl g87))], [(aBoth, .inl (cI, 4, .inl g88))], [(aWord, .inl (cI, 20, .inl g89))], [(aText, .inl (cI, 60, .inl fText))]]) (by rw [e_x103]; rfl) ?_
  refine r_aload_n C dX11_digest_79 1 rfl ?_
  refine r_aload_n C dX11_digest_80 1 rfl ?_
  obtain ⟨h104, hp⟩ := hp
  refine r_callV (ci := 9) (wc := [[(o, .inr (9, [.ref aS, .ref aPast, .int known, .ref aSnap, .int kept, .ref aText, .int len, .int 0, .ref aOne, .ref aTwo, .ref aBoth, .ref aWord, .int x84, .ref aOpen, .ref aTimes, .ref aFar, .ref aQueue, .long x103]))], [(aS, .inl (cI, 335, .inl fS))], [(aOne, .inl (cI, 4, .inl g99))]]) (wr := [[(aFar, .inl (cI, 6561, .inl g100))], [(aQueue, .inl (cI, 400, .inl g101))], [(aTwo, .inl (cI, 4, .inl g87))], [(aBoth, .inl (cI, 4, .inl g88))], [(aWord, .inl (cI, 20, .inl g89))], [(aText, .inl (cI, 60, .inl fText))]]) (st := [.ref o]) C (m_X11_pressedNow l D cI cL cP cJ o aS aPast aSnap aText aOne aTwo aBoth aWord aOpen aTimes aFar aQueue known kept len 0 x84 x103 fS g99 h104) k_X11_pressedNow t_1242 [0, 4, 1, 2, 3, 5, 6, 7, 8] (show ([0, 4, 1, 2, 3, 5, 6, 7, 8] : List Nat).Perm (List.range 9) by decide) rfl rfl rfl (q0 := 0) rfl rfl rfl (Nat.le_of_ble_eq_true rfl) ⟨Nat.le_of_ble_eq_true rfl, Nat.le_of_ble_eq_true rfl⟩ ⟨Nat.zero_le _, Nat.zero_le _⟩ dX11_digest_81 (fun r105 wr105 hw105 => ?_)
  obtain ⟨e_r105, rfl⟩ := hw105
  have hp := hp r105 e_r105
  obtain ⟨g106, e_g106⟩ : ∃ z : Nat → Int32, z = (F_X11_pressedNow fS g99).2 := ⟨_, rfl⟩
  have hp := hp g106 e_g106
  refine r_ws (I' := [[(o, .inr (9, [.ref aS, .ref aPast, .int known, .ref aSnap, .int kept, .ref aText, .int len, .int 0, .ref aOne, .ref aTwo, .ref aBoth, .ref aWord, .int x84, .ref aOpen, .ref aTimes, .ref aFar, .ref aQueue, .long x103]))], [(aS, .inl (cI, 335, .inl fS))], [(aOne, .inl (cI, 4, .inl g106))], [(aFar, .inl (cI, 6561, .inl g100))], [(aQueue, .inl (cI, 400, .inl g101))], [(aTwo, .inl (cI, 4, .inl g87))], [(aBoth, .inl (cI, 4, .inl g88))], [(aWord, .inl (cI, 20, .inl g89))], [(aText, .inl (cI, 60, .inl fText))]]) (by rw [e_g106]; rfl) ?_
  refine r_callS (wc := []) (wr := [[(o, .inr (9, [.ref aS, .ref aPast, .int known, .ref aSnap, .int kept, .ref aText, .int len, .int 0, .ref aOne, .ref aTwo, .ref aBoth, .ref aWord, .int x84, .ref aOpen, .ref aTimes, .ref aFar, .ref aQueue, .long x103]))], [(aS, .inl (cI, 335, .inl fS))], [(aOne, .inl (cI, 4, .inl g106))], [(aFar, .inl (cI, 6561, .inl g100))], [(aQueue, .inl (cI, 400, .inl g101))], [(aTwo, .inl (cI, 4, .inl g87))], [(aBoth, .inl (cI, 4, .inl g88))], [(aWord, .inl (cI, 20, .inl g89))], [(aText, .inl (cI, 60, .inl fText))]]) (st := [.ref o]) C (m_Jxe99ae_doubleToLongBits_ccdee l D cI cL cP cJ r105) k_Jxe99ae_doubleToLongBits_ccdee t_1269 [0, 1, 2, 3, 4, 5, 6, 7, 8] (show ([0, 1, 2, 3, 4, 5, 6, 7, 8] : List Nat).Perm (List.range 9) by decide) rfl rfl rfl (Nat.le_of_ble_eq_true rfl) ⟨Nat.le_of_ble_eq_true rfl, Nat.le_of_ble_eq_true rfl⟩ ⟨Nat.zero_le _, Nat.zero_le _⟩ dX11_digest_84 (fun r107 wr107 hw107 => ?_)
  obtain ⟨e_r107, rfl⟩ := hw107
  have hp := hp r107 e_r107
  refine r_ws (I' := [[(o, .inr (9, [.ref aS, .ref aPast, .int known, .ref aSnap, .int kept, .ref aText, .int len, .int 0, .ref aOne, .ref aTwo, .ref aBoth, .ref aWord, .int x84, .ref aOpen, .ref aTimes, .ref aFar, .ref aQueue, .long x103]))], [(aS, .inl (cI, 335, .inl fS))], [(aOne, .inl (cI, 4, .inl g106))], [(aFar, .inl (cI, 6561, .inl g100))], [(aQueue, .inl (cI, 400, .inl g101))], [(aTwo, .inl (cI, 4, .inl g87))], [(aBoth, .inl (cI, 4, .inl g88))], [(aWord, .inl (cI, 20, .inl g89))], [(aText, .inl (cI, 60, .inl fText))]]) rfl ?_
  refine r_callV (ci := 9) (wc := [[(o, .inr (9, [.ref aS, .ref aPast, .int known, .ref aSnap, .int kept, .ref aText, .int len, .int 0, .ref aOne, .ref aTwo, .ref aBoth, .ref aWord, .int x84, .ref aOpen, .ref aTimes, .ref aFar, .ref aQueue, .long x103]))]]) (wr := [[(aS, .inl (cI, 335, .inl fS))], [(aOne, .inl (cI, 4, .inl g106))], [(aFar, .inl (cI, 6561, .inl g100))], [(aQueue, .inl (cI, 400, .inl g101))], [(aTwo, .inl (cI, 4, .inl g87))], [(aBoth, .inl (cI, 4, .inl g88))], [(aWord, .inl (cI, 20, .inl g89))], [(aText, .inl (cI, 60, .inl fText))]]) (st := []) C (m_X11_adds l D cI cL cP cJ o aS aPast aSnap aText aOne aTwo aBoth aWord aOpen aTimes aFar aQueue known kept len 0 x84 x103 r107) k_X11_adds t_1256 [0, 1, 2, 3, 4, 5, 6, 7, 8] (show ([0, 1, 2, 3, 4, 5, 6, 7, 8] : List Nat).Perm (List.range 9) by decide) rfl rfl rfl (q0 := 0) rfl rfl rfl (Nat.le_of_ble_eq_true rfl) ⟨Nat.le_of_ble_eq_true rfl, Nat.le_of_ble_eq_true rfl⟩ ⟨Nat.zero_le _, Nat.zero_le _⟩ dX11_digest_87 (fun r108 wr108 hw108 => ?_)
  obtain rfl := hw108
  obtain ⟨x109, e_x109⟩ : ∃ z : Int64, z = F_X11_adds x103 r107 := ⟨_, rfl⟩
  have hp := hp x109 e_x109
  refine r_ws (I' := [[(o, .inr (9, [.ref aS, .ref aPast, .int known, .ref aSnap, .int kept, .ref aText, .int len, .int 0, .ref aOne, .ref aTwo, .ref aBoth, .ref aWord, .int x84, .ref aOpen, .ref aTimes, .ref aFar, .ref aQueue, .long x109]))], [(aS, .inl (cI, 335, .inl fS))], [(aOne, .inl (cI, 4, .inl g106))], [(aFar, .inl (cI, 6561, .inl g100))], [(aQueue, .inl (cI, 400, .inl g101))], [(aTwo, .inl (cI, 4, .inl g87))], [(aBoth, .inl (cI, 4, .inl g88))], [(aWord, .inl (cI, 20, .inl g89))], [(aText, .inl (cI, 60, .inl fText))]]) (by rw [e_x109]; rfl) ?_
  refine r_aload_n C dX11_digest_90 1 rfl ?_
  refine r_aload_n C dX11_digest_91 1 rfl ?_
  obtain ⟨h110, hp⟩ := hp
  refine r_callV (ci := 9) (wc := [[(o, .inr (9, [.ref aS, .ref aPast, .int known, .ref aSnap, .int kept, .ref aText, .int len, .int 0, .ref aOne, .ref aTwo, .ref aBoth, .ref aWord, .int x84, .ref aOpen, .ref aTimes, .ref aFar, .ref aQueue, .long x109]))], [(aS, .inl (cI, 335, .inl fS))], [(aOne, .inl (cI, 4, .inl g106))]]) (wr := [[(aFar, .inl (cI, 6561, .inl g100))], [(aQueue, .inl (cI, 400, .inl g101))], [(aTwo, .inl (cI, 4, .inl g87))], [(aBoth, .inl (cI, 4, .inl g88))], [(aWord, .inl (cI, 20, .inl g89))], [(aText, .inl (cI, 60, .inl fText))]]) (st := [.ref o]) C (m_X11_lengths l D cI cL cP cJ o aS aPast aSnap aText aOne aTwo aBoth aWord aOpen aTimes aFar aQueue known kept len 0 x84 x109 fS g106 h110) k_X11_lengths t_1127 [0, 1, 2, 3, 4, 5, 6, 7, 8] (show ([0, 1, 2, 3, 4, 5, 6, 7, 8] : List Nat).Perm (List.range 9) by decide) rfl rfl rfl (q0 := 0) rfl rfl rfl (Nat.le_of_ble_eq_true rfl) ⟨Nat.le_of_ble_eq_true rfl, Nat.le_of_ble_eq_true rfl⟩ ⟨Nat.zero_le _, Nat.zero_le _⟩ dX11_digest_92 (fun r111 wr111 hw111 => ?_)
  obtain ⟨e_r111, rfl⟩ := hw111
  have hp := hp r111 e_r111
  obtain ⟨g112, e_g112⟩ : ∃ z : Nat → Int32, z = (F_X11_lengths fS g106).2 := ⟨_, rfl⟩
  have hp := hp g112 e_g112
  refine r_ws (I' := [[(o, .inr (9, [.ref aS, .ref aPast, .int known, .ref aSnap, .int kept, .ref aText, .int len, .int 0, .ref aOne, .ref aTwo, .ref aBoth, .ref aWord, .int x84, .ref aOpen, .ref aTimes, .ref aFar, .ref aQueue, .long x109]))], [(aS, .inl (cI, 335, .inl fS))], [(aOne, .inl (cI, 4, .inl g112))], [(aFar, .inl (cI, 6561, .inl g100))], [(aQueue, .inl (cI, 400, .inl g101))], [(aTwo, .inl (cI, 4, .inl g87))], [(aBoth, .inl (cI, 4, .inl g88))], [(aWord, .inl (cI, 20, .inl g89))], [(aText, .inl (cI, 60, .inl fText))]]) (by rw [e_g112]; rfl) ?_
  refine r_i2f C dX11_digest_95 ?_
  refine r_ldcf (v := 1084227584) C t_1250 dX11_digest_96 ?_
  obtain ⟨h113, hp⟩ := hp
  refine r_fdiv C dX11_digest_98 h113 ?_
  refine r_callS (wc := []) (wr := [[(o, .inr (9, [.ref aS, .ref aPast, .int known, .ref aSnap, .int kept, .ref aText, .int len, .int 0, .ref aOne, .ref aTwo, .ref aBoth, .ref aWord, .int x84, .ref aOpen, .ref aTimes, .ref aFar, .ref aQueue, .long x109]))], [(aS, .inl (cI, 335, .inl fS))], [(aOne, .inl (cI, 4, .inl g112))], [(aFar, .inl (cI, 6561, .inl g100))], [(aQueue, .inl (cI, 400, .inl g101))], [(aTwo, .inl (cI, 4, .inl g87))], [(aBoth, .inl (cI, 4, .inl g88))], [(aWord, .inl (cI, 20, .inl g89))], [(aText, .inl (cI, 60, .inl fText))]]) (st := [.ref o]) C (m_Jxf58ca_floatToIntBits_5c35a l D cI cL cP cJ (FP.fdiv (FP.i2f r111) 1084227584)) k_Jxf58ca_floatToIntBits_5c35a t_1279 [0, 1, 2, 3, 4, 5, 6, 7, 8] (show ([0, 1, 2, 3, 4, 5, 6, 7, 8] : List Nat).Perm (List.range 9) by decide) rfl rfl rfl (Nat.le_of_ble_eq_true rfl) ⟨Nat.le_of_ble_eq_true rfl, Nat.le_of_ble_eq_true rfl⟩ ⟨Nat.zero_le _, Nat.zero_le _⟩ dX11_digest_99 (fun r114 wr114 hw114 => ?_)
  obtain ⟨e_r114, rfl⟩ := hw114
  have hp := hp r114 e_r114
  refine r_ws (I' := [[(o, .inr (9, [.ref aS, .ref aPast, .int known, .ref aSnap, .int kept, .ref aText, .int len, .int 0, .ref aOne, .ref aTwo, .ref aBoth, .ref aWord, .int x84, .ref aOpen, .ref aTimes, .ref aFar, .ref aQueue, .long x109]))], [(aS, .inl (cI, 335, .inl fS))], [(aOne, .inl (cI, 4, .inl g112))], [(aFar, .inl (cI, 6561, .inl g100))], [(aQueue, .inl (cI, 400, .inl g101))], [(aTwo, .inl (cI, 4, .inl g87))], [(aBoth, .inl (cI, 4, .inl g88))], [(aWord, .inl (cI, 20, .inl g89))], [(aText, .inl (cI, 60, .inl fText))]]) rfl ?_
  refine r_i2l C dX11_digest_102 rfl ?_
  refine r_callV (ci := 9) (wc := [[(o, .inr (9, [.ref aS, .ref aPast, .int known, .ref aSnap, .int kept, .ref aText, .int len, .int 0, .ref aOne, .ref aTwo, .ref aBoth, .ref aWord, .int x84, .ref aOpen, .ref aTimes, .ref aFar, .ref aQueue, .long x109]))]]) (wr := [[(aS, .inl (cI, 335, .inl fS))], [(aOne, .inl (cI, 4, .inl g112))], [(aFar, .inl (cI, 6561, .inl g100))], [(aQueue, .inl (cI, 400, .inl g101))], [(aTwo, .inl (cI, 4, .inl g87))], [(aBoth, .inl (cI, 4, .inl g88))], [(aWord, .inl (cI, 20, .inl g89))], [(aText, .inl (cI, 60, .inl fText))]]) (st := []) C (m_X11_adds l D cI cL cP cJ o aS aPast aSnap aText aOne aTwo aBoth aWord aOpen aTimes aFar aQueue known kept len 0 x84 x109 ((r114 : Int32).toInt64)) k_X11_adds t_1256 [0, 1, 2, 3, 4, 5, 6, 7, 8] (show ([0, 1, 2, 3, 4, 5, 6, 7, 8] : List Nat).Perm (List.range 9) by decide) rfl rfl rfl (q0 := 0) rfl rfl rfl (Nat.le_of_ble_eq_true rfl) ⟨Nat.le_of_ble_eq_true rfl, Nat.le_of_ble_eq_true rfl⟩ ⟨Nat.zero_le _, Nat.zero_le _⟩ dX11_digest_103 (fun r115 wr115 hw115 => ?_)
  obtain rfl := hw115
  obtain ⟨x116, e_x116⟩ : ∃ z : Int64, z = F_X11_adds x109 ((r114 : Int32).toInt64) := ⟨_, rfl⟩
  have hp := hp x116 e_x116
  refine r_ws (I' := [[(o, .inr (9, [.ref aS, .ref aPast, .int known, .ref aSnap, .int kept, .ref aText, .int len, .int 0, .ref aOne, .ref aTwo, .ref aBoth, .ref aWord, .int x84, .ref aOpen, .ref aTimes, .ref aFar, .ref aQueue, .long x116]))], [(aS, .inl (cI, 335, .inl fS))], [(aOne, .inl (cI, 4, .inl g112))], [(aFar, .inl (cI, 6561, .inl g100))], [(aQueue, .inl (cI, 400, .inl g101))], [(aTwo, .inl (cI, 4, .inl g87))], [(aBoth, .inl (cI, 4, .inl g88))], [(aWord, .inl (cI, 20, .inl g89))], [(aText, .inl (cI, 60, .inl fText))]]) (by rw [e_x116]; rfl) ?_
  refine r_aload_n C dX11_digest_106 1 rfl ?_
  refine r_aload_n C dX11_digest_107 1 rfl ?_
  refine r_get (Cn := RX11) (T := TX11) (N := 18) C inT11 0 rfl rfl 4 (by decide) t_897 rfl dX11_digest_108 ?_
  suffices K : ∀ g118 : Int64, g118 = ((if kept = 0 then (0) else (1))) → V p l e (rmm 6 140) s m args below meth c 3 D A 0 0 Q [[(o, .inr (9, [.ref aS, .ref aPast, .int known, .ref aSnap, .int kept, .ref aText, .int len, .int 0, .ref aOne, .ref aTwo, .ref aBoth, .ref aWord, .int x84, .ref aOpen, .ref aTimes, .ref aFar, .ref aQueue, .long x116]))], [(aS, .inl (cI, 335, .inl fS))], [(aOne, .inl (cI, 4, .inl g112))], [(aFar, .inl (cI, 6561, .inl g100))], [(aQueue, .inl (cI, 400, .inl g101))], [(aTwo, .inl (cI, 4, .inl g87))], [(aBoth, .inl (cI, 4, .inl g88))], [(aWord, .inl (cI, 20, .inl g89))], [(aText, .inl (cI, 60, .inl fText))]] [(1, .int r91), (0, .ref o)] 119 [.long g118, .ref o] by
    refine r_if_eq (tgt := 118) C dX11_digest_111 (by decide) (fun c117 => ?_) (fun c117 => ?_)
    · refine r_lconst (v := 0) C dX11_digest_118 (by decide) ?_
      exact K _ (by simp only [if_pos c117])
    · refine r_lconst (v := 1) C dX11_digest_114 (by decide) ?_
      refine r_goto (tgt := 119) C dX11_digest_115 (by decide) ?_
      exact K _ (by simp only [if_neg c117])
  intro g118 e_g118
  have hp := hp g118 e_g118
  refine r_callV (ci := 9) (wc := [[(o, .inr (9, [.ref aS, .ref aPast, .int known, .ref aSnap, .int kept, .ref aText, .int len, .int 0, .ref aOne, .ref aTwo, .ref aBoth, .ref aWord, .int x84, .ref aOpen, .ref aTimes, .ref aFar, .ref aQueue, .long x116]))]]) (wr := [[(aS, .inl (cI, 335, .inl fS))], [(aOne, .inl (cI, 4, .inl g112))], [(aFar, .inl (cI, 6561, .inl g100))], [(aQueue, .inl (cI, 400, .inl g101))], [(aTwo, .inl (cI, 4, .inl g87))], [(aBoth, .inl (cI, 4, .inl g88))], [(aWord, .inl (cI, 20, .inl g89))], [(aText, .inl (cI, 60, .inl fText))]]) (st := []) C (m_X11_adds l D cI cL cP cJ o aS aPast aSnap aText aOne aTwo aBoth aWord aOpen aTimes aFar aQueue known kept len 0 x84 x116 g118) k_X11_adds t_1256 [0, 1, 2, 3, 4, 5, 6, 7, 8] (show ([0, 1, 2, 3, 4, 5, 6, 7, 8] : List Nat).Perm (List.range 9) by decide) rfl rfl rfl (q0 := 0) rfl rfl rfl (Nat.le_of_ble_eq_true rfl) ⟨Nat.le_of_ble_eq_true rfl, Nat.le_of_ble_eq_true rfl⟩ ⟨Nat.zero_le _, Nat.zero_le _⟩ dX11_digest_119 (fun r119 wr119 hw119 => ?_)
  obtain rfl := hw119
  obtain ⟨x120, e_x120⟩ : ∃ z : Int64, z = F_X11_adds x116 g118 := ⟨_, rfl⟩
  have hp := hp x120 e_x120
  refine r_ws (I' := [[(o, .inr (9, [.ref aS, .ref aPast, .int known, .ref aSnap, .int kept, .ref aText, .int len, .int 0, .ref aOne, .ref aTwo, .ref aBoth, .ref aWord, .int x84, .ref aOpen, .ref aTimes, .ref aFar, .ref aQueue, .long x120]))], [(aS, .inl (cI, 335, .inl fS))], [(aOne, .inl (cI, 4, .inl g112))], [(aFar, .inl (cI, 6561, .inl g100))], [(aQueue, .inl (cI, 400, .inl g101))], [(aTwo, .inl (cI, 4, .inl g87))], [(aBoth, .inl (cI, 4, .inl g88))], [(aWord, .inl (cI, 20, .inl g89))], [(aText, .inl (cI, 60, .inl fText))]]) (by rw [e_x120]; rfl) ?_
  refine r_aload_n C dX11_digest_122 1 rfl ?_
  refine r_aload_n C dX11_digest_123 1 rfl ?_
  refine r_get (Cn := RX11) (T := TX11) (N := 18) C inT11 0 rfl rfl 6 (by decide) t_899 rfl dX11_digest_124 ?_
  refine r_i2l C dX11_digest_127 rfl ?_
  refine r_callV (ci := 9) (wc := [[(o, .inr (9, [.ref aS, .ref aPast, .int known, .ref aSnap, .int kept, .ref aText, .int len, .int 0, .ref aOne, .ref aTwo, .ref aBoth, .ref aWord, .int x84, .ref aOpen, .ref aTimes, .ref aFar, .ref aQueue, .long x120]))]]) (wr := [[(aS, .inl (cI, 335, .inl fS))], [(aOne, .inl (cI, 4, .inl g112))], [(aFar, .inl (cI, 6561, .inl g100))], [(aQueue, .inl (cI, 400, .inl g101))], [(aTwo, .inl (cI, 4, .inl g87))], [(aBoth, .inl (cI, 4, .inl g88))], [(aWord, .inl (cI, 20, .inl g89))], [(aText, .inl (cI, 60, .inl fText))]]) (st := []) C (m_X11_adds l D cI cL cP cJ o aS aPast aSnap aText aOne aTwo aBoth aWord aOpen aTimes aFar aQueue known kept len 0 x84 x120 ((len : Int32).toInt64)) k_X11_adds t_1256 [0, 1, 2, 3, 4, 5, 6, 7, 8] (show ([0, 1, 2, 3, 4, 5, 6, 7, 8] : List Nat).Perm (List.range 9) by decide) rfl rfl rfl (q0 := 0) rfl rfl rfl (Nat.le_of_ble_eq_true rfl) ⟨Nat.le_of_ble_eq_true rfl, Nat.le_of_ble_eq_true rfl⟩ ⟨Nat.zero_le _, Nat.zero_le _⟩ dX11_digest_128 (fun r121 wr121 hw121 => ?_)
  obtain rfl := hw121
  obtain ⟨x122, e_x122⟩ : ∃ z : Int64, z = F_X11_adds x120 ((len : Int32).toInt64) := ⟨_, rfl⟩
  have hp := hp x122 e_x122
  refine r_ws (I' := [[(o, .inr (9, [.ref aS, .ref aPast, .int known, .ref aSnap, .int kept, .ref aText, .int len, .int 0, .ref aOne, .ref aTwo, .ref aBoth, .ref aWord, .int x84, .ref aOpen, .ref aTimes, .ref aFar, .ref aQueue, .long x122]))], [(aS, .inl (cI, 335, .inl fS))], [(aOne, .inl (cI, 4, .inl g112))], [(aFar, .inl (cI, 6561, .inl g100))], [(aQueue, .inl (cI, 400, .inl g101))], [(aTwo, .inl (cI, 4, .inl g87))], [(aBoth, .inl (cI, 4, .inl g88))], [(aWord, .inl (cI, 20, .inl g89))], [(aText, .inl (cI, 60, .inl fText))]]) (by rw [e_x122]; rfl) ?_
  refine r_iconst (v := 0) C dX11_digest_131 (by decide) ?_
  refine r_istore_n (L' := [(2, .int 0), (1, .int r91), (0, .ref o)]) C dX11_digest_132 (by decide) rfl ?_
  have hpl := hp
  have hL : ∀ (nn : Nat) (y123 : Int32) (k124 : Int64), P_X11_digest_L133 len fText nn y123 k124 → (∀ z130 : Int32, z130 = (F_X11_digest_L133 len fText nn y123 k124).1 → ∀ f131 : Int64, f131 = (F_X11_digest_L133 len fText nn y123 k124).2 → V p l e (rmm 6 140) s m args below meth c 3 D A 0 0 Q [[(o, .inr (9, [.ref aS, .ref aPast, .int known, .ref aSnap, .int kept, .ref aText, .int len, .int 0, .ref aOne, .ref aTwo, .ref aBoth, .ref aWord, .int x84, .ref aOpen, .ref aTimes, .ref aFar, .ref aQueue, .long f131]))], [(aS, .inl (cI, 335, .inl fS))], [(aOne, .inl (cI, 4, .inl g112))], [(aFar, .inl (cI, 6561, .inl g100))], [(aQueue, .inl (cI, 400, .inl g101))], [(aTwo, .inl (cI, 4, .inl g87))], [(aBoth, .inl (cI, 4, .inl g88))], [(aWord, .inl (cI, 20, .inl g89))], [(aText, .inl (cI, 60, .inl fText))]] [(2, .int z130), (1, .int r91), (0, .ref o)] 158 []) → V p l e (rmm 6 140) s m args below meth c 3 D A 0 0 Q [[(o, .inr (9, [.ref aS, .ref aPast, .int known, .ref aSnap, .int kept, .ref aText, .int len, .int 0, .ref aOne, .ref aTwo, .ref aBoth, .ref aWord, .int x84, .ref aOpen, .ref aTimes, .ref aFar, .ref aQueue, .long k124]))], [(aS, .inl (cI, 335, .inl fS))], [(aOne, .inl (cI, 4, .inl g112))], [(aFar, .inl (cI, 6561, .inl g100))], [(aQueue, .inl (cI, 400, .inl g101))], [(aTwo, .inl (cI, 4, .inl g87))], [(aBoth, .inl (cI, 4, .inl g88))], [(aWord, .inl (cI, 20, .inl g89))], [(aText, .inl (cI, 60, .inl fText))]] [(2, .int y123), (1, .int r91), (0, .ref o)] 133 [] := by
    clear hpl
    intro nn
    induction nn with
    | zero => intro y123 k124 hp kk; rw [P_X11_digest_L133] at hp; exact hp.elim
    | succ nn ih =>
      intro y123 k124 hp kk
      rw [P_X11_digest_L133] at hp
      refine r_iload_n C dX11_digest_133 0 rfl ?_
      refine r_aload_n C dX11_digest_134 2 rfl ?_
      refine r_get (Cn := RX11) (T := TX11) (N := 18) C inT11 0 rfl rfl 6 (by decide) t_899 rfl dX11_digest_135 ?_
      refine r_icmp_ge (tgt := 158) C dX11_digest_138 (by decide) (fun c125 => ?_) (fun c125 => ?_)
      · have eF : F_X11_digest_L133 len fText (nn + 1) y123 k124 = (y123, k124) := by simp only [F_X11_digest_L133, if_pos c125]
        exact kk _ (by rw [eF]) _ (by rw [eF])
      · have hp := hp.2 c125
        refine r_aload_n C dX11_digest_141 2 rfl ?_
        refine r_aload_n C dX11_digest_142 2 rfl ?_
        refine r_get (Cn := RX11) (T := TX11) (N := 18) C inT11 0 rfl rfl 5 (by decide) t_898 rfl dX11_digest_143 ?_
        refine r_iload_n C dX11_digest_146 0 rfl ?_
        obtain ⟨h126, hp⟩ := hp
        refine r_iald (z := fText y123.toNatClampNeg) C 8 0 rfl rfl h126 dX11_digest_147 rfl ?_
        refine r_i2l C dX11_digest_148 rfl ?_
        refine r_callV (ci := 9) (wc := [[(o, .inr (9, [.ref aS, .ref aPast, .int known, .ref aSnap, .int kept, .ref aText, .int len, .int 0, .ref aOne, .ref aTwo, .ref aBoth, .ref aWord, .int x84, .ref aOpen, .ref aTimes, .ref aFar, .ref aQueue, .long k124]))]]) (wr := [[(aS, .inl (cI, 335, .inl fS))], [(aOne, .inl (cI, 4, .inl g112))], [(aFar, .inl (cI, 6561, .inl g100))], [(aQueue, .inl (cI, 400, .inl g101))], [(aTwo, .inl (cI, 4, .inl g87))], [(aBoth, .inl (cI, 4, .inl g88))], [(aWord, .inl (cI, 20, .inl g89))], [(aText, .inl (cI, 60, .inl fText))]]) (st := []) C (m_X11_adds l D cI cL cP cJ o aS aPast aSnap aText aOne aTwo aBoth aWord aOpen aTimes aFar aQueue known kept len 0 x84 k124 ((fText y123.toNatClampNeg : Int32).toInt64)) k_X11_adds t_1256 [0, 1, 2, 3, 4, 5, 6, 7, 8] (show ([0, 1, 2, 3, 4, 5, 6, 7, 8] : List Nat).Perm (List.range 9) by decide) rfl rfl rfl (q0 := 0) rfl rfl rfl (Nat.le_of_ble_eq_true rfl) ⟨Nat.le_of_ble_eq_true rfl, Nat.le_of_ble_eq_true rfl⟩ ⟨Nat.zero_le _, Nat.zero_le _⟩ dX11_digest_149 (fun r127 wr127 hw127 => ?_)
        obtain rfl := hw127
        obtain ⟨x128, e_x128⟩ : ∃ z : Int64, z = F_X11_adds k124 ((fText y123.toNatClampNeg : Int32).toInt64) := ⟨_, rfl⟩
        have hp := hp x128 e_x128
        refine r_ws (I' := [[(o, .inr (9, [.ref aS, .ref aPast, .int known, .ref aSnap, .int kept, .ref aText, .int len, .int 0, .ref aOne, .ref aTwo, .ref aBoth, .ref aWord, .int x84, .ref aOpen, .ref aTimes, .ref aFar, .ref aQueue, .long x128]))], [(aS, .inl (cI, 335, .inl fS))], [(aOne, .inl (cI, 4, .inl g112))], [(aFar, .inl (cI, 6561, .inl g100))], [(aQueue, .inl (cI, 400, .inl g101))], [(aTwo, .inl (cI, 4, .inl g87))], [(aBoth, .inl (cI, 4, .inl g88))], [(aWord, .inl (cI, 20, .inl g89))], [(aText, .inl (cI, 60, .inl fText))]]) (by rw [e_x128]; rfl) ?_
        obtain ⟨x129, e_x129⟩ : ∃ z : Int32, z = y123 + 1 := ⟨_, rfl⟩
        have hp := hp x129 e_x129
        refine r_iinc (v := x129) (L' := [(2, .int x129), (1, .int r91), (0, .ref o)]) C dX11_digest_152 0 rfl (by rw [e_x129]; exact ii (by decide)) (by decide) rfl ?_
        refine r_goto (tgt := 133) C dX11_digest_155 (by decide) ?_
        have eF : F_X11_digest_L133 len fText (nn + 1) y123 k124 = F_X11_digest_L133 len fText nn x129 x128 := by have q := e_x128.symm; subst q; have q := e_x129.symm; subst q; simp only [F_X11_digest_L133, if_neg c125]
        exact ih x129 x128 hp (fun z130 e_z130 f131 e_f131 => kk z130 (by rw [eF]; exact e_z130) f131 (by rw [eF]; exact e_f131))
  refine hL 62 0 x122 hpl (fun z130 e_z130 f131 e_f131 => ?_)
  clear hL hpl
  refine r_aload_n C dX11_digest_158 2 rfl ?_
  refine r_get (Cn := RX11) (T := TX11) (N := 18) C inT11 0 rfl rfl 17 (by decide) t_910 rfl dX11_digest_159 ?_
  refine r_pl (I' := [[(o, .inr (9, [.ref aS, .ref aPast, .int known, .ref aSnap, .int kept, .ref aText, .int len, .int 0, .ref aOne, .ref aTwo, .ref aBoth, .ref aWord, .int x84, .ref aOpen, .ref aTimes, .ref aFar, .ref aQueue, .long f131]))], [(aS, .inl (cI, 335, .inl fS))], [(aText, .inl (cI, 60, .inl fText))], [(aOne, .inl (cI, 4, .inl g112))], [(aTwo, .inl (cI, 4, .inl g87))], [(aBoth, .inl (cI, 4, .inl g88))], [(aWord, .inl (cI, 20, .inl g89))], [(aFar, .inl (cI, 6561, .inl g100))], [(aQueue, .inl (cI, 400, .inl g101))]]) [0, 1, 8, 2, 5, 6, 7, 3, 4] (show ([0, 1, 8, 2, 5, 6, 7, 3, 4] : List Nat).Perm (List.range 9) by decide) rfl ?_
  have eF : F_X11_digest known kept len fS fText fOne fTwo fBoth fWord fFar fQueue = (f131, 0, x84, f131, g112, g87, g88, g89, g100, g101) := by have q := e_r2.symm; subst q; have q := e_g3.symm; subst q; have q := e_g4.symm; subst q; have q := e_g5.symm; subst q; have q := e_x7.symm; subst q; have q := e_r9.symm; subst q; have q := e_g10.symm; subst q; have q := e_g11.symm; subst q; have q := e_g12.symm; subst q; have q := e_x14.symm; subst q; have q := e_r16.symm; subst q; have q := e_g17.symm; subst q; have q := e_g18.symm; subst q; have q := e_g19.symm; subst q; have q := e_x21.symm; subst q; have q := e_r23.symm; subst q; have q := e_g24.symm; subst q; have q := e_g25.symm; subst q; have q := e_g26.symm; subst q; have q := e_x28.symm; subst q; have q := e_r30.symm; subst q; have q := e_g31.symm; subst q; have q := e_g32.symm; subst q; have q := e_g33.symm; subst q; have q := e_x35.symm; subst q; have q := e_r37.symm; subst q; have q := e_g38.symm; subst q; have q := e_g39.symm; subst q; have q := e_g40.symm; subst q; have q := e_x42.symm; subst q; have q := e_r44.symm; subst q; have q := e_g45.symm; subst q; have q := e_g46.symm; subst q; have q := e_g47.symm; subst q; have q := e_x49.symm; subst q; have q := e_x52.symm; subst q; have q := e_x53.symm; subst q; have q := e_g54.symm; subst q; have q := e_g55.symm; subst q; have q := e_g56.symm; subst q; have q := e_g57.symm; subst q; have q := e_x60.symm; subst q; have q := e_x61.symm; subst q; have q := e_g62.symm; subst q; have q := e_g63.symm; subst q; have q := e_g64.symm; subst q; have q := e_g65.symm; subst q; have q := e_x68.symm; subst q; have q := e_x69.symm; subst q; have q := e_g70.symm; subst q; have q := e_g71.symm; subst q; have q := e_g72.symm; subst q; have q := e_g73.symm; subst q; have q := e_x76.symm; subst q; have q := e_x77.symm; subst q; have q := e_g78.symm; subst q; have q := e_g79.symm; subst q; have q := e_g80.symm; subst q; have q := e_g81.symm; subst q; have q := e_x84.symm; subst q; have q := e_x85.symm; subst q; have q := e_g86.symm; subst q; have q := e_g87.symm; subst q; have q := e_g88.symm; subst q; have q := e_g89.symm; subst q; have q := e_r91.symm; subst q; have q := e_g92.symm; subst q; have q := e_r94.symm; subst q; have q := e_x96.symm; subst q; have q := e_r98.symm; subst q; have q := e_g99.symm; subst q; have q := e_g100.symm; subst q; have q := e_g101.symm; subst q; have q := e_x103.symm; subst q; have q := e_r105.symm; subst q; have q := e_g106.symm; subst q; have q := e_r107.symm; subst q; have q := e_x109.symm; subst q; have q := e_r111.symm; subst q; have q := e_g112.symm; subst q; have q := e_r114.symm; subst q; have q := e_x116.symm; subst q; have q := e_g118.symm; subst q; have q := e_x120.symm; subst q; have q := e_x122.symm; subst q; have q := e_z130.symm; subst q; have q := e_f131.symm; subst q; rfl
  exact r_lret (r := f131) C hA hr hlo dX11_digest_162 [[(o, .inr (9, [.ref aS, .ref aPast, .int known, .ref aSnap, .int kept, .ref aText, .int len, .int 0, .ref aOne, .ref aTwo, .ref aBoth, .ref aWord, .int x84, .ref aOpen, .ref aTimes, .ref aFar, .ref aQueue, .long f131]))], [(aS, .inl (cI, 335, .inl fS))], [(aText, .inl (cI, 60, .inl fText))], [(aOne, .inl (cI, 4, .inl g112))], [(aTwo, .inl (cI, 4, .inl g87))], [(aBoth, .inl (cI, 4, .inl g88))], [(aWord, .inl (cI, 20, .inl g89))], [(aFar, .inl (cI, 6561, .inl g100))], [(aQueue, .inl (cI, 400, .inl g101))]] ⟨by simp only [eF], by simp only [eF]⟩ rfl hQ

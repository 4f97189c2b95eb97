section
variable {p : Program} {l : Launch} {e : Env} {R : Room} {s : State} {m : MethodId} {args : Array Value} {below : List Frame} {meth : Method} {c : Code} {cc : ByteArray} {nL : Nat} {own : String} {D : va_G} {tys : List (ClassId × FieldType)} {A : Nat → Prop} {cells slots : Nat} {Q : State → Prop} {I I' : List va_W} {L L' : List (Nat × Value)} {pc : Nat} {st : List Value}
theorem r_rfs (C : Cx p s m args c cc nL own D tys A) (q : Nat) {a : Nat} {cA : ClassId} {n : Nat} {f : Nat → Option Nat} (LL : Nat → Nat) (he : I[q]? = some [(a, .inl (cA, n, .inr (.inr (.inr (.inr f)))))]) (hf : ∀ j, j < n → f j = some (LL j)) (hI : I.set q [(a, .inl (cA, n, .inr (.inr (.inr (.inr (rfs LL))))))] = I') (kk : V p l e R s m args below meth c nL D A cells slots Q I' L pc st) : V p l e R s m args below meth c nL D A cells slots Q I L pc st := fun H locs ls hP hD hS hl => by
  obtain ⟨j, hj, hs⟩ := fl_set (I := I) (a, .inl (cA, n, .inr (.inr (.inr (.inr (rfs LL)))))) he
  have hc : vp_cell cA (n, .inr (.inr (.inr (.inr f)))) = vp_cell cA (n, .inr (.inr (.inr (.inr (rfs LL))))) := by
    rw [vp_cell_q, vp_cell_q]
    unfold arrV
    congr 1
    refine congrArg Array.ofFn (funext fun k => ?_)
    dsimp only
    rw [hf k.1 k.2]; rfl
  refine kk H locs ls ?_ ?_ hS hl
  · rw [← hI, ← hs]
    intro k x hk
    rw [List.getElem?_set] at hk
    by_cases h : j = k
    · subst h
      rw [if_pos rfl] at hk
      split at hk
      · cases hk
        have h1 := hP j _ hj
        unfold va_at at h1 ⊢
        dsimp only at h1 ⊢
        rw [h1, hc]
      · cases hk
    · rw [if_neg h] at hk
      exact hP k x hk
  · rw [← hI, ← hs]
    have hm := va_D_mem.mp hD
    refine va_D_mem.mpr ⟨?_, fun x hx => ?_⟩
    · rw [List.map_set]
      have : (I.flatten.map (·.1)).set j a = I.flatten.map (·.1) := by
        apply List.ext_getElem?
        intro k
        rw [List.getElem?_set]
        by_cases h : j = k
        · subst h
          rw [if_pos rfl, List.getElem?_map, hj]
          split
          · rfl
          · rename_i h9; exact absurd (by rw [List.length_map]; exact (List.getElem?_eq_some_iff.mp hj).1) h9
        · rw [if_neg h]
      dsimp only
      rw [this]
      exact hm.1
    · rcases List.mem_or_eq_of_mem_set hx with h | h
      · exact hm.2 x h
      · rw [h]; exact (hm.2 _ (List.mem_of_getElem? hj) :)
end
theorem k_X6_init : kI yX6_init cX6_init 1 0 := ⟨t_104, t_61, t_105, rfl, by decide +kernel, by decide +kernel, by decide +kernel⟩
set_option maxRecDepth 20000 in
set_option maxHeartbeats 8000000 in
theorem mc_X6_init (l : Launch) (D : va_G) (cI cL cP cJ : ClassId) (o : Nat) : MC l yX6_init cX6_init 1 1 20 1 60 D (tyF cI cL cP cJ) [.ref o] [[(o, .inr (4, [.null, .int 0]))]] (fun (_ : Unit) (w1 : List va_W) => ∃ v : Nat, w1 = [rowB cI o v 0 (fun _ => 0)]) := by
  refine mc_start (by decide +kernel) (by decide +kernel) (Nat.le_of_ble_eq_true rfl) (fun p e s m args below meth c A Q hA hQ C hr hlo hin0 hC => ?_)
  refine r_Le (L' := [(0, .ref o)]) rfl ?_
  refine r_aload_n C dX6_init_0 0 rfl ?_
  refine r_obj C t_106 t_86 t_87 ⟨Nat.le_of_ble_eq_true rfl, Nat.le_of_ble_eq_true rfl⟩ dX6_init_1 ?_
  refine r_aload_n C dX6_init_4 0 rfl ?_
  refine r_bipush (v := 60) C dX6_init_5 (by decide) ?_
  refine r_newI C 0 rfl t_114 60 (by decide) (by decide) (by decide) ⟨Nat.le_of_ble_eq_true rfl, Nat.le_of_ble_eq_true rfl⟩ dX6_init_7 (fun q1 => ?_)
  refine r_ws (I' := [[(o, .inr (4, [.null, .int 0]))], [(q1, .inl (cI, 60, .inl (fun _ => 0)))]]) rfl ?_
  refine r_putF (Cn := RX6) (T := TX6) (N := 2) C inT6 0 rfl rfl 0 (by decide) t_107 tyX6 tyX6_ok nmX6 rfl hin0 rfl rfl rfl (Nat.le_of_ble_eq_true rfl) (I' := [[(o, .inr (4, [.ref q1, .int 0]))], [(q1, .inl (cI, 60, .inl (fun _ => 0)))]]) rfl dX6_init_9 ?_
  exact r_vret (r := ()) C hA hr hlo dX6_init_12 [rowB cI o q1 0 (fun _ => 0)] ⟨q1, rfl⟩ rfl hQ
theorem k_X2_init : kI yX2_init cX2_init 1 0 := ⟨t_98, t_60, t_99, rfl, by decide +kernel, by decide +kernel, by decide +kernel⟩
set_option maxRecDepth 20000 in
set_option maxHeartbeats 8000000 in
theorem mc_X2_init (l : Launch) (D : va_G) (cI cL cP cJ : ClassId) (o : Nat) : MC l yX2_init cX2_init 1 2 40 2 62 D (tyF cI cL cP cJ) [.ref o] [[(o, .inr (1, [.null, .int 0, .int 0, .int 0]))]] (fun (_ : Unit) (w1 : List va_W) => ∃ h : Nat, ∃ v : Nat, w1 = [letB cI o h v 1672 0 0 0 (fun _ => 0)]) := by
  refine mc_start (by decide +kernel) (by decide +kernel) (Nat.le_of_ble_eq_true rfl) (fun p e s m args below meth c A Q hA hQ C hr hlo hin0 hC => ?_)
  refine r_Le (L' := [(0, .ref o)]) rfl ?_
  refine r_aload_n C dX2_init_0 0 rfl ?_
  refine r_obj C t_100 t_86 t_87 ⟨Nat.le_of_ble_eq_true rfl, Nat.le_of_ble_eq_true rfl⟩ dX2_init_1 ?_
  refine r_aload_n C dX2_init_4 0 rfl ?_
  refine r_new (Cn := RX6) (T := TX6) (N := 2) (ci := 4) (fs := [.null, .int 0]) C inT6 tyX6 tyX6_ok t_101 t_102 t_61 rfl (by intro j hj; rcases (show j = 0 ∨ j = 1 by omega) with rfl | rfl <;> rfl) ⟨Nat.le_of_ble_eq_true rfl, Nat.le_of_ble_eq_true rfl⟩ dX2_init_5 (fun q1 => ?_)
  refine r_ws (I' := [[(o, .inr (1, [.null, .int 0, .int 0, .int 0]))], [(q1, .inr (4, [.null, .int 0]))]]) rfl ?_
  refine r_dup C dX2_init_8 rfl ?_
  refine r_callN (wc := [[(q1, .inr (4, [.null, .int 0]))]]) (wr := [[(o, .inr (1, [.null, .int 0, .int 0, .int 0]))]]) (As := []) (st := [.ref q1, .ref o]) C hC (mc_X6_init l D cI cL cP cJ q1) k_X6_init (List.mem_of_getElem? (i := 1) rfl) [1, 0] (show ([1, 0] : List Nat).Perm (List.range 2) by decide) rfl rfl rfl (Nat.le_of_ble_eq_true rfl) ⟨Nat.le_of_ble_eq_true rfl, Nat.le_of_ble_eq_true rfl⟩ ⟨Nat.le_of_ble_eq_true rfl, Nat.le_of_ble_eq_true rfl⟩ dX2_init_9 (fun w12 hw3 => ?_)
  obtain ⟨a4, rfl⟩ := hw3
  refine r_ws (I' := [rowB cI q1 a4 0 (fun _ => 0), [(o, .inr (1, [.null, .int 0, .int 0, .int 0]))]]) rfl ?_
  refine r_putF (Cn := RX2) (T := TX2) (N := 4) C inT2 1 rfl rfl 0 (by decide) t_115 tyX2 tyX2_ok nmX2 rfl hin0 rfl rfl rfl (Nat.le_of_ble_eq_true rfl) (I' := [rowB cI q1 a4 0 (fun _ => 0), [(o, .inr (1, [.ref q1, .int 0, .int 0, .int 0]))]]) rfl dX2_init_12 ?_
  refine r_aload_n C dX2_init_15 0 rfl ?_
  refine r_sipush (v := 1672) C dX2_init_16 (by decide) ?_
  refine r_put (Cn := RX2) (T := TX2) (N := 4) C inT2 1 rfl rfl 1 (by decide) t_116 tyX2 tyX2_ok nmX2 rfl rfl rfl (Nat.le_of_ble_eq_true rfl) (I' := [rowB cI q1 a4 0 (fun _ => 0), [(o, .inr (1, [.ref q1, .int 1672, .int 0, .int 0]))]]) rfl dX2_init_19 ?_
  refine r_pl (I' := [[(o, .inr (1, [.ref q1, .int 1672, .int 0, .int 0]))], rowB cI q1 a4 0 (fun _ => 0)]) [1, 0] (show ([1, 0] : List Nat).Perm (List.range 2) by decide) rfl ?_
  exact r_vret (r := ()) C hA hr hlo dX2_init_22 [letB cI o q1 a4 1672 0 0 0 (fun _ => 0)] ⟨q1, a4, rfl⟩ rfl hQ
theorem k_X5_init : kI yX5_init cX5_init 1 0 := ⟨t_159, t_64, t_160, rfl, by decide +kernel, by decide +kernel, by decide +kernel⟩
set_option maxRecDepth 20000 in
set_option maxHeartbeats 8000000 in
theorem mc_X5_init (l : Launch) (D : va_G) (cI cL cP cJ : ClassId) (o : Nat) : MC l yX5_init cX5_init 1 1 20 0 0 D (tyF cI cL cP cJ) [.ref o] [[(o, .inr (3, [.int 0, .int 0]))]] (fun (_ : Unit) (w1 : List va_W) => w1 = [rdB o 0 0]) := by
  refine mc_start (by decide +kernel) (by decide +kernel) (Nat.le_of_ble_eq_true rfl) (fun p e s m args below meth c A Q hA hQ C hr hlo hin0 hC => ?_)
  refine r_Le (L' := [(0, .ref o)]) rfl ?_
  refine r_aload_n C dX5_init_0 0 rfl ?_
  refine r_obj C t_161 t_86 t_87 ⟨Nat.le_of_ble_eq_true rfl, Nat.le_of_ble_eq_true rfl⟩ dX5_init_1 ?_
  exact r_vret (r := ()) C hA hr hlo dX5_init_4 [rdB o 0 0] rfl rfl hQ
theorem k_X7_init : kI yX7_init cX7_init 1 0 := ⟨t_151, t_63, t_152, rfl, by decide +kernel, by decide +kernel, by decide +kernel⟩
set_option maxRecDepth 20000 in
set_option maxHeartbeats 8000000 in
theorem mc_X7_init (l : Launch) (D : va_G) (cI cL cP cJ : ClassId) (o : Nat) : MC l yX7_init cX7_init 1 2 40 3 64 D (tyF cI cL cP cJ) [.ref o] [[(o, .inr (5, [.null, .null]))]] (fun (_ : Unit) (w1 : List va_W) => ∃ h : Nat, ∃ v : Nat, ∃ rd : Nat, w1 = [txtB cI o h v rd 0 (fun _ => 0) 0 0]) := by
  refine mc_start (by decide +kernel) (by decide +kernel) (Nat.le_of_ble_eq_true rfl) (fun p e s m args below meth c A Q hA hQ C hr hlo hin0 hC => ?_)
  refine r_Le (L' := [(0, .ref o)]) rfl ?_
  refine r_aload_n C dX7_init_0 0 rfl ?_
  refine r_obj C t_153 t_86 t_87 ⟨Nat.le_of_ble_eq_true rfl, Nat.le_of_ble_eq_true rfl⟩ dX7_init_1 ?_
  refine r_aload_n C dX7_init_4 0 rfl ?_
  refine r_new (Cn := RX6) (T := TX6) (N := 2) (ci := 4) (fs := [.null, .int 0]) C inT6 tyX6 tyX6_ok t_154 t_102 t_61 rfl (by intro j hj; rcases (show j = 0 ∨ j = 1 by omega) with rfl | rfl <;> rfl) ⟨Nat.le_of_ble_eq_true rfl, Nat.le_of_ble_eq_true rfl⟩ dX7_init_5 (fun q1 => ?_)
  refine r_ws (I' := [[(o, .inr (5, [.null, .null]))], [(q1, .inr (4, [.null, .int 0]))]]) rfl ?_
  refine r_dup C dX7_init_8 rfl ?_
  refine r_callN (wc := [[(q1, .inr (4, [.null, .int 0]))]]) (wr := [[(o, .inr (5, [.null, .null]))]]) (As := []) (st := [.ref q1, .ref o]) C hC (mc_X6_init l D cI cL cP cJ q1) k_X6_init (List.mem_of_getElem? (i := 3) rfl) [1, 0] (show ([1, 0] : List Nat).Perm (List.range 2) by decide) rfl rfl rfl (Nat.le_of_ble_eq_true rfl) ⟨Nat.le_of_ble_eq_true rfl, Nat.le_of_ble_eq_true rfl⟩ ⟨Nat.le_of_ble_eq_true rfl, Nat.le_of_ble_eq_true rfl⟩ dX7_init_9 (fun w12 hw3 => ?_)
  obtain ⟨a4, rfl⟩ := hw3
  refine r_ws (I' := [rowB cI q1 a4 0 (fun _ => 0), [(o, .inr (5, [.null, .null]))]]) rfl ?_
  refine r_putF (Cn := RX7) (T := TX7) (N := 2) C inT7 1 rfl rfl 0 (by decide) t_169 tyX7 tyX7_ok nmX7 rfl hin0 rfl rfl rfl (Nat.le_of_ble_eq_true rfl) (I' := [rowB cI q1 a4 0 (fun _ => 0), [(o, .inr (5, [.ref q1, .null]))]]) rfl dX7_init_12 ?_
  refine r_aload_n C dX7_init_15 0 rfl ?_
  refine r_new (Cn := RX5) (T := TX5) (N := 2) (ci := 3) (fs := [.int 0, .int 0]) C inT5 tyX5 tyX5_ok t_156 t_157 t_64 rfl (by intro j hj; rcases (show j = 0 ∨ j = 1 by omega) with rfl | rfl <;> rfl) ⟨Nat.le_of_ble_eq_true rfl, Nat.le_of_ble_eq_true rfl⟩ dX7_init_16 (fun q5 => ?_)
  refine r_ws (I' := [rowB cI q1 a4 0 (fun _ => 0), [(o, .inr (5, [.ref q1, .null]))], [(q5, .inr (3, [.int 0, .int 0]))]]) rfl ?_
  refine r_dup C dX7_init_19 rfl ?_
  refine r_callN (wc := [[(q5, .inr (3, [.int 0, .int 0]))]]) (wr := [rowB cI q1 a4 0 (fun _ => 0), [(o, .inr (5, [.ref q1, .null]))]]) (As := []) (st := [.ref q5, .ref o]) C hC (mc_X5_init l D cI cL cP cJ q5) k_X5_init (List.mem_of_getElem? (i := 4) rfl) [2, 0, 1] (show ([2, 0, 1] : List Nat).Perm (List.range 3) by decide) rfl rfl rfl (Nat.le_of_ble_eq_true rfl) ⟨Nat.le_of_ble_eq_true rfl, Nat.le_of_ble_eq_true rfl⟩ ⟨Nat.le_of_ble_eq_true rfl, Nat.le_of_ble_eq_true rfl⟩ dX7_init_20 (fun w16 hw7 => ?_)
  obtain rfl := hw7
  refine r_ws (I' := [rdB q5 0 0, rowB cI q1 a4 0 (fun _ => 0), [(o, .inr (5, [.ref q1, .null]))]]) rfl ?_
  refine r_putF (Cn := RX7) (T := TX7) (N := 2) C inT7 2 rfl rfl 1 (by decide) t_170 tyX7 tyX7_ok nmX7 rfl hin0 rfl rfl rfl (Nat.le_of_ble_eq_true rfl) (I' := [rdB q5 0 0, rowB cI q1 a4 0 (fun _ => 0), [(o, .inr (5, [.ref q1, .ref q5]))]]) rfl dX7_init_23 ?_
  refine r_pl (I' := [[(o, .inr (5, [.ref q1, .ref q5]))], rowB cI q1 a4 0 (fun _ => 0), rdB q5 0 0]) [2, 1, 0] (show ([2, 1, 0] : List Nat).Perm (List.range 3) by decide) rfl ?_
  exact r_vret (r := ()) C hA hr hlo dX7_init_26 [txtB cI o q1 a4 q5 0 (fun _ => 0) 0 0] ⟨q1, a4, q5, rfl⟩ rfl hQ
theorem k_X8_init : kI yX8_init cX8_init 1 0 := ⟨t_179, t_65, t_180, rfl, by decide +kernel, by decide +kernel, by decide +kernel⟩
set_option maxRecDepth 20000 in
set_option maxHeartbeats 8000000 in
theorem mc_X8_init (l : Launch) (D : va_G) (cI cL cP cJ : ClassId) (o : Nat) : MC l yX8_init cX8_init 1 2 40 4 72 D (tyF cI cL cP cJ) [.ref o] [[(o, .inr (6, [.null, .null, .null, .int 0, .int 0]))]] (fun (_ : Unit) (w1 : List va_W) => ∃ h : Nat, ∃ v : Nat, ∃ hb : Nat, ∃ sb : Nat, w1 = [unrB cI o h v hb sb 0 (fun _ => 0) (fun _ => 0) (fun _ => 0) 0 0]) := by
  refine mc_start (by decide +kernel) (by decide +kernel) (Nat.le_of_ble_eq_true rfl) (fun p e s m args below meth c A Q hA hQ C hr hlo hin0 hC => ?_)
  refine r_Le (L' := [(0, .ref o)]) rfl ?_
  refine r_aload_n C dX8_init_0 0 rfl ?_
  refine r_obj C t_181 t_86 t_87 ⟨Nat.le_of_ble_eq_true rfl, Nat.le_of_ble_eq_true rfl⟩ dX8_init_1 ?_
  refine r_aload_n C dX8_init_4 0 rfl ?_
  refine r_new (Cn := RX6) (T := TX6) (N := 2) (ci := 4) (fs := [.null, .int 0]) C inT6 tyX6 tyX6_ok t_182 t_102 t_61 rfl (by intro j hj; rcases (show j = 0 ∨ j = 1 by omega) with rfl | rfl <;> rfl) ⟨Nat.le_of_ble_eq_true rfl, Nat.le_of_ble_eq_true rfl⟩ dX8_init_5 (fun q1 => ?_)
  refine r_ws (I' := [[(o, .inr (6, [.null, .null, .null, .int 0, .int 0]))], [(q1, .inr (4, [.null, .int 0]))]]) rfl ?_
  refine r_dup C dX8_init_8 rfl ?_
  refine r_callN (wc := [[(q1, .inr (4, [.null, .int 0]))]]) (wr := [[(o, .inr (6, [.null, .null, .null, .int 0, .int 0]))]]) (As := []) (st := [.ref q1, .ref o]) C hC (mc_X6_init l D cI cL cP cJ q1) k_X6_init (List.mem_of_getElem? (i := 6) rfl) [1, 0] (show ([1, 0] : List Nat).Perm (List.range 2) by decide) rfl rfl rfl (Nat.le_of_ble_eq_true rfl) ⟨Nat.le_of_ble_eq_true rfl, Nat.le_of_ble_eq_true rfl⟩ ⟨Nat.le_of_ble_eq_true rfl, Nat.le_of_ble_eq_true rfl⟩ dX8_init_9 (fun w12 hw3 => ?_)
  obtain ⟨a4, rfl⟩ := hw3
  refine r_ws (I' := [rowB cI q1 a4 0 (fun _ => 0), [(o, .inr (6, [.null, .null, .null, .int 0, .int 0]))]]) rfl ?_
  refine r_putF (Cn := RX8) (T := TX8) (N := 5) C inT8 1 rfl rfl 0 (by decide) t_184 tyX8 tyX8_ok nmX8 rfl hin0 rfl rfl rfl (Nat.le_of_ble_eq_true rfl) (I' := [rowB cI q1 a4 0 (fun _ => 0), [(o, .inr (6, [.ref q1, .null, .null, .int 0, .int 0]))]]) rfl dX8_init_12 ?_
  refine r_aload_n C dX8_init_15 0 rfl ?_
  refine r_iconst (v := 5) C dX8_init_16 (by decide) ?_
  refine r_newI C 0 rfl t_114 5 (by decide) (by decide) (by decide) ⟨Nat.le_of_ble_eq_true rfl, Nat.le_of_ble_eq_true rfl⟩ dX8_init_17 (fun q5 => ?_)
  refine r_ws (I' := [rowB cI q1 a4 0 (fun _ => 0), [(o, .inr (6, [.ref q1, .null, .null, .int 0, .int 0]))], [(q5, .inl (cI, 5, .inl (fun _ => 0)))]]) rfl ?_
  refine r_putF (Cn := RX8) (T := TX8) (N := 5) C inT8 1 rfl rfl 1 (by decide) t_185 tyX8 tyX8_ok nmX8 rfl hin0 rfl rfl rfl (Nat.le_of_ble_eq_true rfl) (I' := [rowB cI q1 a4 0 (fun _ => 0), [(o, .inr (6, [.ref q1, .ref q5, .null, .int 0, .int 0]))], [(q5, .inl (cI, 5, .inl (fun _ => 0)))]]) rfl dX8_init_19 ?_
  refine r_aload_n C dX8_init_22 0 rfl ?_
  refine r_iconst (v := 5) C dX8_init_23 (by decide) ?_
  refine r_newI C 0 rfl t_114 5 (by decide) (by decide) (by decide) ⟨Nat.le_of_ble_eq_true rfl, Nat.le_of_ble_eq_true rfl⟩ dX8_init_24 (fun q6 => ?_)
  refine r_ws (I' := [rowB cI q1 a4 0 (fun _ => 0), [(o, .inr (6, [.ref q1, .ref q5, .null, .int 0, .int 0]))], [(q5, .inl (cI, 5, .inl (fun _ => 0)))], [(q6, .inl (cI, 5, .inl (fun _ => 0)))]]) rfl ?_
  refine r_putF (Cn := RX8) (T := TX8) (N := 5) C inT8 1 rfl rfl 2 (by decide) t_186 tyX8 tyX8_ok nmX8 rfl hin0 rfl rfl rfl (Nat.le_of_ble_eq_true rfl) (I' := [rowB cI q1 a4 0 (fun _ => 0), [(o, .inr (6, [.ref q1, .ref q5, .ref q6, .int 0, .int 0]))], [(q5, .inl (cI, 5, .inl (fun _ => 0)))], [(q6, .inl (cI, 5, .inl (fun _ => 0)))]]) rfl dX8_init_26 ?_
  refine r_pl (I' := [[(o, .inr (6, [.ref q1, .ref q5, .ref q6, .int 0, .int 0]))], rowB cI q1 a4 0 (fun _ => 0), [(q5, .inl (cI, 5, .inl (fun _ => 0)))], [(q6, .inl (cI, 5, .inl (fun _ => 0)))]]) [1, 0, 2, 3] (show ([1, 0, 2, 3] : List Nat).Perm (List.range 4) by decide) rfl ?_
  exact r_vret (r := ()) C hA hr hlo dX8_init_29 [unrB cI o q1 a4 q5 q6 0 (fun _ => 0) (fun _ => 0) (fun _ => 0) 0 0] ⟨q1, a4, q5, q6, rfl⟩ rfl hQ
theorem k_X9_init : kI yX9_init cX9_init 1 0 := ⟨t_203, t_66, t_204, rfl, by decide +kernel, by decide +kernel, by decide +kernel⟩
set_option maxRecDepth 20000 in
set_option maxHeartbeats 8000000 in
theorem mc_X9_init (l : Launch) (D : va_G) (cI cL cP cJ : ClassId) (o : Nat) : MC l yX9_init cX9_init 1 1 20 3 789 D (tyF cI cL cP cJ) [.ref o] [[(o, .inr (7, [.null, .null, .null, .int 0]))]] (fun (_ : Unit) (w1 : List va_W) => ∃ me : Nat, ∃ fo : Nat, ∃ fd : Nat, w1 = [walB cI o me fo fd (fun _ => 0) (fun _ => 0) (fun _ => 0) 0]) := by
  refine mc_start (by decide +kernel) (by decide +kernel) (Nat.le_of_ble_eq_true rfl) (fun p e s m args below meth c A Q hA hQ C hr hlo hin0 hC => ?_)
  refine r_Le (L' := [(0, .ref o)]) rfl ?_
  refine r_aload_n C dX9_init_0 0 rfl ?_
  refine r_obj C t_205 t_86 t_87 ⟨Nat.le_of_ble_eq_true rfl, Nat.le_of_ble_eq_true rfl⟩ dX9_init_1 ?_
  refine r_aload_n C dX9_init_4 0 rfl ?_
  refine r_sipush (v := 384) C dX9_init_5 (by decide) ?_
  refine r_newI C 0 rfl t_114 384 (by decide) (by decide) (by decide) ⟨Nat.le_of_ble_eq_true rfl, Nat.le_of_ble_eq_true rfl⟩ dX9_init_8 (fun q1 => ?_)
  refine r_ws (I' := [[(o, .inr (7, [.null, .null, .null, .int 0]))], [(q1, .inl (cI, 384, .inl (fun _ => 0)))]]) rfl ?_
  refine r_putF (Cn := RX9) (T := TX9) (N := 4) C inT9 0 rfl rfl 0 (by decide) t_206 tyX9 tyX9_ok nmX9 rfl hin0 rfl rfl rfl (Nat.le_of_ble_eq_true rfl) (I' := [[(o, .inr (7, [.ref q1, .null, .null, .int 0]))], [(q1, .inl (cI, 384, .inl (fun _ => 0)))]]) rfl dX9_init_10 ?_
  refine r_aload_n C dX9_init_13 0 rfl ?_
  refine r_sipush (v := 384) C dX9_init_14 (by decide) ?_
  refine r_newI C 0 rfl t_114 384 (by decide) (by decide) (by decide) ⟨Nat.le_of_ble_eq_true rfl, Nat.le_of_ble_eq_true rfl⟩ dX9_init_17 (fun q2 => ?_)
  refine r_ws (I' := [[(o, .inr (7, [.ref q1, .null, .null, .int 0]))], [(q1, .inl (cI, 384, .inl (fun _ => 0)))], [(q2, .inl (cI, 384, .inl (fun _ => 0)))]]) rfl ?_
  refine r_putF (Cn := RX9) (T := TX9) (N := 4) C inT9 0 rfl rfl 1 (by decide) t_207 tyX9 tyX9_ok nmX9 rfl hin0 rfl rfl rfl (Nat.le_of_ble_eq_true rfl) (I' := [[(o, .inr (7, [.ref q1, .ref q2, .null, .int 0]))], [(q1, .inl (cI, 384, .inl (fun _ => 0)))], [(q2, .inl (cI, 384, .inl (fun _ => 0)))]]) rfl dX9_init_19 ?_
  refine r_aload_n C dX9_init_22 0 rfl ?_
  refine r_bipush (v := 21) C dX9_init_23 (by decide) ?_
  refine r_newI C 0 rfl t_114 21 (by decide) (by decide) (by decide) ⟨Nat.le_of_ble_eq_true rfl, Nat.le_of_ble_eq_true rfl⟩ dX9_init_25 (fun q3 => ?_)
  refine r_ws (I' := [[(o, .inr (7, [.ref q1, .ref q2, .null, .int 0]))], [(q1, .inl (cI, 384, .inl (fun _ => 0)))], [(q2, .inl (cI, 384, .inl (fun _ => 0)))], [(q3, .inl (cI, 21, .inl (fun _ => 0)))]]) rfl ?_
  refine r_putF (Cn := RX9) (T := TX9) (N := 4) C inT9 0 rfl rfl 2 (by decide) t_208 tyX9 tyX9_ok nmX9 rfl hin0 rfl rfl rfl (Nat.le_of_ble_eq_true rfl) (I' := [[(o, .inr (7, [.ref q1, .ref q2, .ref q3, .int 0]))], [(q1, .inl (cI, 384, .inl (fun _ => 0)))], [(q2, .inl (cI, 384, .inl (fun _ => 0)))], [(q3, .inl (cI, 21, .inl (fun _ => 0)))]]) rfl dX9_init_27 ?_
  exact r_vret (r := ()) C hA hr hlo dX9_init_30 [walB cI o q1 q2 q3 (fun _ => 0) (fun _ => 0) (fun _ => 0) 0] ⟨q1, q2, q3, rfl⟩ rfl hQ
theorem k_X4_init : kI yX4_init cX4_init 2 0 := ⟨t_91, t_59, t_92, rfl, by decide +kernel, by decide +kernel, by decide +kernel⟩
set_option maxRecDepth 20000 in
set_option maxHeartbeats 8000000 in
theorem mc_X4_init (l : Launch) (D : va_G) (cI cL cP cJ : ClassId) (o : Nat) : MC l yX4_init cX4_init 2 3 60 16 335 D (tyF cI cL cP cJ) [.ref o] [[(o, .inr (2, [.null]))]] (fun (_ : Unit) (w1 : List va_W) => ∃ a : Nat, ∃ L : Nat → Nat, ∃ h : Nat → Nat, ∃ v : Nat → Nat, w1 = [pileB cI cL o a L h v (fun _ => 1672) (fun _ => 0) (fun _ => 0) (fun _ => 0) (fun _ _ => 0)]) := by
  refine mc_start (by decide +kernel) (by decide +kernel) (Nat.le_of_ble_eq_true rfl) (fun p e s m args below meth c A Q hA hQ C hr hlo hin0 hC => ?_)
  refine r_Le (L' := [(0, .ref o)]) rfl ?_
  refine r_aload_n C dX4_init_0 0 rfl ?_
  refine r_obj C t_93 t_86 t_87 ⟨Nat.le_of_ble_eq_true rfl, Nat.le_of_ble_eq_true rfl⟩ dX4_init_1 ?_
  refine r_aload_n C dX4_init_4 0 rfl ?_
  refine r_iconst (v := 5) C dX4_init_5 (by decide) ?_
  refine r_newq C 1 rfl t_94 hC.2.1 5 (by decide) (by decide) (by decide) ⟨Nat.le_of_ble_eq_true rfl, Nat.le_of_ble_eq_true rfl⟩ dX4_init_6 (fun q1 => ?_)
  refine r_ws (I' := [[(o, .inr (2, [.null]))], [(q1, .inl (cL, 5, .inr (.inr (.inr (.inr (fun _ => none))))))]]) rfl ?_
  refine r_putF (Cn := RX4) (T := TX4) (N := 1) C inT4 0 rfl rfl 0 (by decide) t_128 tyX4 tyX4_ok nmX4 rfl hin0 rfl rfl rfl (Nat.le_of_ble_eq_true rfl) (I' := [[(o, .inr (2, [.ref q1]))], [(q1, .inl (cL, 5, .inr (.inr (.inr (.inr (fun _ => none))))))]]) rfl dX4_init_9 ?_
  refine r_iconst (v := 0) C dX4_init_12 (by decide) ?_
  refine r_istore_n (L' := [(1, .int 0), (0, .ref o)]) C dX4_init_13 (by decide) rfl ?_
  refine r_iload_n C dX4_init_14 0 rfl ?_
  refine r_aload_n C dX4_init_15 1 rfl ?_
  refine r_get (Cn := RX4) (T := TX4) (N := 1) C inT4 0 rfl rfl 0 (by decide) t_128 rfl dX4_init_16 ?_
  refine r_alen (v := 5) C 1 1 rfl rfl rfl dX4_init_19 ?_
  refine r_icmp_ge (tgt := 42) C dX4_init_20 (by decide) (fun c => absurd c (by decide)) (fun _ => ?_)
  refine r_aload_n C dX4_init_23 1 rfl ?_
  refine r_get (Cn := RX4) (T := TX4) (N := 1) C inT4 0 rfl rfl 0 (by decide) t_128 rfl dX4_init_24 ?_
  refine r_iload_n C dX4_init_27 0 rfl ?_
  refine r_new (Cn := RX2) (T := TX2) (N := 4) (ci := 1) (fs := [.null, .int 0, .int 0, .int 0]) C inT2 tyX2 tyX2_ok t_94 t_96 t_60 rfl (by intro j hj; rcases (show j = 0 ∨ j = 1 ∨ j = 2 ∨ j = 3 by omega) with rfl | rfl | rfl | rfl <;> rfl) ⟨Nat.le_of_ble_eq_true rfl, Nat.le_of_ble_eq_true rfl⟩ dX4_init_28 (fun q2 => ?_)
  refine r_ws (I' := [[(o, .inr (2, [.ref q1]))], [(q1, .inl (cL, 5, .inr (.inr (.inr (.inr (fun _ => none))))))], [(q2, .inr (1, [.null, .int 0, .int 0, .int 0]))]]) rfl ?_
  refine r_dup C dX4_init_31 rfl ?_
  refine r_callN (wc := [[(q2, .inr (1, [.null, .int 0, .int 0, .int 0]))]]) (wr := [[(o, .inr (2, [.ref q1]))], [(q1, .inl (cL, 5, .inr (.inr (.inr (.inr (fun _ => none))))))]]) (As := []) (st := [.ref q2, .int 0, .ref q1]) C hC (mc_X2_init l D cI cL cP cJ q2) k_X2_init (List.mem_of_getElem? (i := 0) rfl) [2, 0, 1] (show ([2, 0, 1] : List Nat).Perm (List.range 3) by decide) rfl rfl rfl (Nat.le_of_ble_eq_true rfl) ⟨Nat.le_of_ble_eq_true rfl, Nat.le_of_ble_eq_true rfl⟩ ⟨Nat.le_of_ble_eq_true rfl, Nat.le_of_ble_eq_true rfl⟩ dX4_init_32 (fun w13 hw4 => ?_)
  obtain ⟨a5, a6, rfl⟩ := hw4
  refine r_ws (I' := [letB cI q2 a5 a6 1672 0 0 0 (fun _ => 0), [(o, .inr (2, [.ref q1]))], [(q1, .inl (cL, 5, .inr (.inr (.inr (.inr (fun _ => none))))))]]) rfl ?_
  refine r_ws (I' := [[(q2, .inr (1, [.ref a5, .int 1672, .int 0, .int 0]))], [(a5, .inr (4, [.ref a6, .int 0]))], [(a6, .inl (cI, 60, .inl (fun _ => 0)))], [(o, .inr (2, [.ref q1]))], [(q1, .inl (cL, 5, .inr (.inr (.inr (.inr (fun _ => none))))))]]) rfl ?_
  refine r_aast (I' := [[(q2, .inr (1, [.ref a5, .int 1672, .int 0, .int 0]))], [(a5, .inr (4, [.ref a6, .int 0]))], [(a6, .inl (cI, 60, .inl (fun _ => 0)))], [(o, .inr (2, [.ref q1]))], [(q1, .inl (cL, 5, .inr (.inr (.inr (.inr (va_up (fun _ => none) 0 (some q2)))))))]]) C 4 1 0 1 rfl rfl rfl rfl (vp_in_nI (n := 0) (N := 5) (by decide) (by decide)) rfl dX4_init_35 ?_
  refine r_ws (I' := [letB cI q2 a5 a6 1672 0 0 0 (fun _ => 0), [(o, .inr (2, [.ref q1]))], [(q1, .inl (cL, 5, .inr (.inr (.inr (.inr (va_up (fun _ => none) 0 (some q2)))))))]]) rfl ?_
  refine r_iinc (v := 1) (L' := [(1, .int 1), (0, .ref o)]) C dX4_init_36 0 rfl (by decide) (by decide) rfl ?_
  refine r_goto (tgt := 14) C dX4_init_39 (by decide) ?_
  refine r_iload_n C dX4_init_14 0 rfl ?_
  refine r_aload_n C dX4_init_15 1 rfl ?_
  refine r_get (Cn := RX4) (T := TX4) (N := 1) C inT4 1 rfl rfl 0 (by decide) t_128 rfl dX4_init_16 ?_
  refine r_alen (v := 5) C 2 1 rfl rfl rfl dX4_init_19 ?_
  refine r_icmp_ge (tgt := 42) C dX4_init_20 (by decide) (fun c => absurd c (by decide)) (fun _ => ?_)
  refine r_aload_n C dX4_init_23 1 rfl ?_
  refine r_get (Cn := RX4) (T := TX4) (N := 1) C inT4 1 rfl rfl 0 (by decide) t_128 rfl dX4_init_24 ?_
  refine r_iload_n C dX4_init_27 0 rfl ?_
  refine r_new (Cn := RX2) (T := TX2) (N := 4) (ci := 1) (fs := [.null, .int 0, .int 0, .int 0]) C inT2 tyX2 tyX2_ok t_94 t_96 t_60 rfl (by intro j hj; rcases (show j = 0 ∨ j = 1 ∨ j = 2 ∨ j = 3 by omega) with rfl | rfl | rfl | rfl <;> rfl) ⟨Nat.le_of_ble_eq_true rfl, Nat.le_of_ble_eq_true rfl⟩ dX4_init_28 (fun q7 => ?_)
  refine r_ws (I' := [letB cI q2 a5 a6 1672 0 0 0 (fun _ => 0), [(o, .inr (2, [.ref q1]))], [(q1, .inl (cL, 5, .inr (.inr (.inr (.inr (va_up (fun _ => none) 0 (some q2)))))))], [(q7, .inr (1, [.null, .int 0, .int 0, .int 0]))]]) rfl ?_
  refine r_dup C dX4_init_31 rfl ?_
  refine r_callN (wc := [[(q7, .inr (1, [.null, .int 0, .int 0, .int 0]))]]) (wr := [letB cI q2 a5 a6 1672 0 0 0 (fun _ => 0), [(o, .inr (2, [.ref q1]))], [(q1, .inl (cL, 5, .inr (.inr (.inr (.inr (va_up (fun _ => none) 0 (some q2)))))))]]) (As := []) (st := [.ref q7, .int 1, .ref q1]) C hC (mc_X2_init l D cI cL cP cJ q7) k_X2_init (List.mem_of_getElem? (i := 0) rfl) [3, 0, 1, 2] (show ([3, 0, 1, 2] : List Nat).Perm (List.range 4) by decide) rfl rfl rfl (Nat.le_of_ble_eq_true rfl) ⟨Nat.le_of_ble_eq_true rfl, Nat.le_of_ble_eq_true rfl⟩ ⟨Nat.le_of_ble_eq_true rfl, Nat.le_of_ble_eq_true rfl⟩ dX4_init_32 (fun w18 hw9 => ?_)
  obtain ⟨a10, a11, rfl⟩ := hw9
  refine r_ws (I' := [letB cI q7 a10 a11 1672 0 0 0 (fun _ => 0), letB cI q2 a5 a6 1672 0 0 0 (fun _ => 0), [(o, .inr (2, [.ref q1]))], [(q1, .inl (cL, 5, .inr (.inr (.inr (.inr (va_up (fun _ => none) 0 (some q2)))))))]]) rfl ?_
  refine r_ws (I' := [[(q7, .inr (1, [.ref a10, .int 1672, .int 0, .int 0]))], [(a10, .inr (4, [.ref a11, .int 0]))], [(a11, .inl (cI, 60, .inl (fun _ => 0)))], letB cI q2 a5 a6 1672 0 0 0 (fun _ => 0), [(o, .inr (2, [.ref q1]))], [(q1, .inl (cL, 5, .inr (.inr (.inr (.inr (va_up (fun _ => none) 0 (some q2)))))))]]) rfl ?_
  refine r_aast (I' := [[(q7, .inr (1, [.ref a10, .int 1672, .int 0, .int 0]))], [(a10, .inr (4, [.ref a11, .int 0]))], [(a11, .inl (cI, 60, .inl (fun _ => 0)))], letB cI q2 a5 a6 1672 0 0 0 (fun _ => 0), [(o, .inr (2, [.ref q1]))], [(q1, .inl (cL, 5, .inr (.inr (.inr (.inr (va_up (va_up (fun _ => none) 0 (some q2)) 1 (some q7)))))))]]) C 5 1 0 1 rfl rfl rfl rfl (vp_in_nI (n := 1) (N := 5) (by decide) (by decide)) rfl dX4_init_35 ?_
  refine r_ws (I' := [letB cI q7 a10 a11 1672 0 0 0 (fun _ => 0), letB cI q2 a5 a6 1672 0 0 0 (fun _ => 0), [(o, .inr (2, [.ref q1]))], [(q1, .inl (cL, 5, .inr (.inr (.inr (.inr (va_up (va_up (fun _ => none) 0 (some q2)) 1 (some q7)))))))]]) rfl ?_
  refine r_iinc (v := 2) (L' := [(1, .int 2), (0, .ref o)]) C dX4_init_36 0 rfl (by decide) (by decide) rfl ?_
  refine r_goto (tgt := 14) C dX4_init_39 (by decide) ?_
  refine r_iload_n C dX4_init_14 0 rfl ?_
  refine r_aload_n C dX4_init_15 1 rfl ?_
  refine r_get (Cn := RX4) (T := TX4) (N := 1) C inT4 2 rfl rfl 0 (by decide) t_128 rfl dX4_init_16 ?_
  refine r_alen (v := 5) C 3 1 rfl rfl rfl dX4_init_19 ?_
  refine r_icmp_ge (tgt := 42) C dX4_init_20 (by decide) (fun c => absurd c (by decide)) (fun _ => ?_)
  refine r_aload_n C dX4_init_23 1 rfl ?_
  refine r_get (Cn := RX4) (T := TX4) (N := 1) C inT4 2 rfl rfl 0 (by decide) t_128 rfl dX4_init_24 ?_
  refine r_iload_n C dX4_init_27 0 rfl ?_
  refine r_new (Cn := RX2) (T := TX2) (N := 4) (ci := 1) (fs := [.null, .int 0, .int 0, .int 0]) C inT2 tyX2 tyX2_ok t_94 t_96 t_60 rfl (by intro j hj; rcases (show j = 0 ∨ j = 1 ∨ j = 2 ∨ j = 3 by omega) with rfl | rfl | rfl | rfl <;> rfl) ⟨Nat.le_of_ble_eq_true rfl, Nat.le_of_ble_eq_true rfl⟩ dX4_init_28 (fun q12 => ?_)
  refine r_ws (I' := [letB cI q7 a10 a11 1672 0 0 0 (fun _ => 0), letB cI q2 a5 a6 1672 0 0 0 (fun _ => 0), [(o, .inr (2, [.ref q1]))], [(q1, .inl (cL, 5, .inr (.inr (.inr (.inr (va_up (va_up (fun _ => none) 0 (some q2)) 1 (some q7)))))))], [(q12, .inr (1, [.null, .int 0, .int 0, .int 0]))]]) rfl ?_
  refine r_dup C dX4_init_31 rfl ?_
  refine r_callN (wc := [[(q12, .inr (1, [.null, .int 0, .int 0, .int 0]))]]) (wr := [letB cI q7 a10 a11 1672 0 0 0 (fun _ => 0), letB cI q2 a5 a6 1672 0 0 0 (fun _ => 0), [(o, .inr (2, [.ref q1]))], [(q1, .inl (cL, 5, .inr (.inr (.inr (.inr (va_up (va_up (fun _ => none) 0 (some q2)) 1 (some q7)))))))]]) (As := []) (st := [.ref q12, .int 2, .ref q1]) C hC (mc_X2_init l D cI cL cP cJ q12) k_X2_init (List.mem_of_getElem? (i := 0) rfl) [4, 0, 1, 2, 3] (show ([4, 0, 1, 2, 3] : List Nat).Perm (List.range 5) by decide) rfl rfl rfl (Nat.le_of_ble_eq_true rfl) ⟨Nat.le_of_ble_eq_true rfl, Nat.le_of_ble_eq_true rfl⟩ ⟨Nat.le_of_ble_eq_true rfl, Nat.le_of_ble_eq_true rfl⟩ dX4_init_32 (fun w113 hw14 => ?_)
  obtain ⟨a15, a16, rfl⟩ := hw14
  refine r_ws (I' := [letB cI q12 a15 a16 1672 0 0 0 (fun _ => 0), letB cI q7 a10 a11 1672 0 0 0 (fun _ => 0), letB cI q2 a5 a6 1672 0 0 0 (fun _ => 0), [(o, .inr (2, [.ref q1]))], [(q1, .inl (cL, 5, .inr (.inr (.inr (.inr (va_up (va_up (fun _ => none) 0 (some q2)) 1 (some q7)))))))]]) rfl ?_
  refine r_ws (I' := [[(q12, .inr (1, [.ref a15, .int 1672, .int 0, .int 0]))], [(a15, .inr (4, [.ref a16, .int 0]))], [(a16, .inl (cI, 60, .inl (fun _ => 0)))], letB cI q7 a10 a11 1672 0 0 0 (fun _ => 0), letB cI q2 a5 a6 1672 0 0 0 (fun _ => 0), [(o, .inr (2, [.ref q1]))], [(q1, .inl (cL, 5, .inr (.inr (.inr (.inr (va_up (va_up (fun _ => none) 0 (some q2)) 1 (some q7)))))))]]) rfl ?_
  refine r_aast (I' := [[(q12, .inr (1, [.ref a15, .int 1672, .int 0, .int 0]))], [(a15, .inr (4, [.ref a16, .int 0]))], [(a16, .inl (cI, 60, .inl (fun _ => 0)))], letB cI q7 a10 a11 1672 0 0 0 (fun _ => 0), letB cI q2 a5 a6 1672 0 0 0 (fun _ => 0), [(o, .inr (2, [.ref q1]))], [(q1, .inl (cL, 5, .inr (.inr (.inr (.inr (va_up (va_up (va_up (fun _ => none) 0 (some q2)) 1 (some q7)) 2 (some q12)))))))]]) C 6 1 0 1 rfl rfl rfl rfl (vp_in_nI (n := 2) (N := 5) (by decide) (by decide)) rfl dX4_init_35 ?_
  refine r_ws (I' := [letB cI q12 a15 a16 1672 0 0 0 (fun _ => 0), letB cI q7 a10 a11 1672 0 0 0 (fun _ => 0), letB cI q2 a5 a6 1672 0 0 0 (fun _ => 0), [(o, .inr (2, [.ref q1]))], [(q1, .inl (cL, 5, .inr (.inr (.inr (.inr (va_up (va_up (va_up (fun _ => none) 0 (some q2)) 1 (some q7)) 2 (some q12)))))))]]) rfl ?_
  refine r_iinc (v := 3) (L' := [(1, .int 3), (0, .ref o)]) C dX4_init_36 0 rfl (by decide) (by decide) rfl ?_
  refine r_goto (tgt := 14) C dX4_init_39 (by decide) ?_
  refine r_iload_n C dX4_init_14 0 rfl ?_
  refine r_aload_n C dX4_init_15 1 rfl ?_
  refine r_get (Cn := RX4) (T := TX4) (N := 1) C inT4 3 rfl rfl 0 (by decide) t_128 rfl dX4_init_16 ?_
  refine r_alen (v := 5) C 4 1 rfl rfl rfl dX4_init_19 ?_
  refine r_icmp_ge (tgt := 42) C dX4_init_20 (by decide) (fun c => absurd c (by decide)) (fun _ => ?_)
  refine r_aload_n C dX4_init_23 1 rfl ?_
  refine r_get (Cn := RX4) (T := TX4) (N := 1) C inT4 3 rfl rfl 0 (by decide) t_128 rfl dX4_init_24 ?_
  refine r_iload_n C dX4_init_27 0 rfl ?_
  refine r_new (Cn := RX2) (T := TX2) (N := 4) (ci := 1) (fs := [.null, .int 0, .int 0, .int 0]) C inT2 tyX2 tyX2_ok t_94 t_96 t_60 rfl (by intro j hj; rcases (show j = 0 ∨ j = 1 ∨ j = 2 ∨ j = 3 by omega) with rfl | rfl | rfl | rfl <;> rfl) ⟨Nat.le_of_ble_eq_true rfl, Nat.le_of_ble_eq_true rfl⟩ dX4_init_28 (fun q17 => ?_)
  refine r_ws (I' := [letB cI q12 a15 a16 1672 0 0 0 (fun _ => 0), letB cI q7 a10 a11 1672 0 0 0 (fun _ => 0), letB cI q2 a5 a6 1672 0 0 0 (fun _ => 0), [(o, .inr (2, [.ref q1]))], [(q1, .inl (cL, 5, .inr (.inr (.inr (.inr (va_up (va_up (va_up (fun _ => none) 0 (some q2)) 1 (some q7)) 2 (some q12)))))))], [(q17, .inr (1, [.null, .int 0, .int 0, .int 0]))]]) rfl ?_
  refine r_dup C dX4_init_31 rfl ?_
  refine r_callN (wc := [[(q17, .inr (1, [.null, .int 0, .int 0, .int 0]))]]) (wr := [letB cI q12 a15 a16 1672 0 0 0 (fun _ => 0), letB cI q7 a10 a11 1672 0 0 0 (fun _ => 0), letB cI q2 a5 a6 1672 0 0 0 (fun _ => 0), [(o, .inr (2, [.ref q1]))], [(q1, .inl (cL, 5, .inr (.inr (.inr (.inr (va_up (va_up (va_up (fun _ => none) 0 (some q2)) 1 (some q7)) 2 (some q12)))))))]]) (As := []) (st := [.ref q17, .int 3, .ref q1]) C hC (mc_X2_init l D cI cL cP cJ q17) k_X2_init (List.mem_of_getElem? (i := 0) rfl) [5, 0, 1, 2, 3, 4] (show ([5, 0, 1, 2, 3, 4] : List Nat).Perm (List.range 6) by decide) rfl rfl rfl (Nat.le_of_ble_eq_true rfl) ⟨Nat.le_of_ble_eq_true rfl, Nat.le_of_ble_eq_true rfl⟩ ⟨Nat.le_of_ble_eq_true rfl, Nat.le_of_ble_eq_true rfl⟩ dX4_init_32 (fun w118 hw19 => ?_)
  obtain ⟨a20, a21, rfl⟩ := hw19
  refine r_ws (I' := [letB cI q17 a20 a21 1672 0 0 0 (fun _ => 0), letB cI q12 a15 a16 1672 0 0 0 (fun _ => 0), letB cI q7 a10 a11 1672 0 0 0 (fun _ => 0), letB cI q2 a5 a6 1672 0 0 0 (fun _ => 0), [(o, .inr (2, [.ref q1]))], [(q1, .inl (cL, 5, .inr (.inr (.inr (.inr (va_up (va_up (va_up (fun _ => none) 0 (some q2)) 1 (some q7)) 2 (some q12)))))))]]) rfl ?_
  refine r_ws (I' := [[(q17, .inr (1, [.ref a20, .int 1672, .int 0, .int 0]))], [(a20, .inr (4, [.ref a21, .int 0]))], [(a21, .inl (cI, 60, .inl (fun _ => 0)))], letB cI q12 a15 a16 1672 0 0 0 (fun _ => 0), letB cI q7 a10 a11 1672 0 0 0 (fun _ => 0), letB cI q2 a5 a6 1672 0 0 0 (fun _ => 0), [(o, .inr (2, [.ref q1]))], [(q1, .inl (cL, 5, .inr (.inr (.inr (.inr (va_up (va_up (va_up (fun _ => none) 0 (some q2)) 1 (some q7)) 2 (some q12)))))))]]) rfl ?_
  refine r_aast (I' := [[(q17, .inr (1, [.ref a20, .int 1672, .int 0, .int 0]))], [(a20, .inr (4, [.ref a21, .int 0]))], [(a21, .inl (cI, 60, .inl (fun _ => 0)))], letB cI q12 a15 a16 1672 0 0 0 (fun _ => 0), letB cI q7 a10 a11 1672 0 0 0 (fun _ => 0), letB cI q2 a5 a6 1672 0 0 0 (fun _ => 0), [(o, .inr (2, [.ref q1]))], [(q1, .inl (cL, 5, .inr (.inr (.inr (.inr (va_up (va_up (va_up (va_up (fun _ => none) 0 (some q2)) 1 (some q7)) 2 (some q12)) 3 (some q17)))))))]]) C 7 1 0 1 rfl rfl rfl rfl (vp_in_nI (n := 3) (N := 5) (by decide) (by decide)) rfl dX4_init_35 ?_
  refine r_ws (I' := [letB cI q17 a20 a21 1672 0 0 0 (fun _ => 0), letB cI q12 a15 a16 1672 0 0 0 (fun _ => 0), letB cI q7 a10 a11 1672 0 0 0 (fun _ => 0), letB cI q2 a5 a6 1672 0 0 0 (fun _ => 0), [(o, .inr (2, [.ref q1]))], [(q1, .inl (cL, 5, .inr (.inr (.inr (.inr (va_up (va_up (va_up (va_up (fun _ => none) 0 (some q2)) 1 (some q7)) 2 (some q12)) 3 (some q17)))))))]]) rfl ?_
  refine r_iinc (v := 4) (L' := [(1, .int 4), (0, .ref o)]) C dX4_init_36 0 rfl (by decide) (by decide) rfl ?_
  refine r_goto (tgt := 14) C dX4_init_39 (by decide) ?_
  refine r_iload_n C dX4_init_14 0 rfl ?_
  refine r_aload_n C dX4_init_15 1 rfl ?_
  refine r_get (Cn := RX4) (T := TX4) (N := 1) C inT4 4 rfl rfl 0 (by decide) t_128 rfl dX4_init_16 ?_
  refine r_alen (v := 5) C 5 1 rfl rfl rfl dX4_init_19 ?_
  refine r_icmp_ge (tgt := 42) C dX4_init_20 (by decide) (fun c => absurd c (by decide)) (fun _ => ?_)
  refine r_aload_n C dX4_init_23 1 rfl ?_
  refine r_get (Cn := RX4) (T := TX4) (N := 1) C inT4 4 rfl rfl 0 (by decide) t_128 rfl dX4_init_24 ?_
  refine r_iload_n C dX4_init_27 0 rfl ?_
  refine r_new (Cn := RX2) (T := TX2) (N := 4) (ci := 1) (fs := [.null, .int 0, .int 0, .int 0]) C inT2 tyX2 tyX2_ok t_94 t_96 t_60 rfl (by intro j hj; rcases (show j = 0 ∨ j = 1 ∨ j = 2 ∨ j = 3 by omega) with rfl | rfl | rfl | rfl <;> rfl) ⟨Nat.le_of_ble_eq_true rfl, Nat.le_of_ble_eq_true rfl⟩ dX4_init_28 (fun q22 => ?_)
  refine r_ws (I' := [letB cI q17 a20 a21 1672 0 0 0 (fun _ => 0), letB cI q12 a15 a16 1672 0 0 0 (fun _ => 0), letB cI q7 a10 a11 1672 0 0 0 (fun _ => 0), letB cI q2 a5 a6 1672 0 0 0 (fun _ => 0), [(o, .inr (2, [.ref q1]))], [(q1, .inl (cL, 5, .inr (.inr (.inr (.inr (va_up (va_up (va_up (va_up (fun _ => none) 0 (some q2)) 1 (some q7)) 2 (some q12)) 3 (some q17)))))))], [(q22, .inr (1, [.null, .int 0, .int 0, .int 0]))]]) rfl ?_
  refine r_dup C dX4_init_31 rfl ?_
  refine r_callN (wc := [[(q22, .inr (1, [.null, .int 0, .int 0, .int 0]))]]) (wr := [letB cI q17 a20 a21 1672 0 0 0 (fun _ => 0), letB cI q12 a15 a16 1672 0 0 0 (fun _ => 0), letB cI q7 a10 a11 1672 0 0 0 (fun _ => 0), letB cI q2 a5 a6 1672 0 0 0 (fun _ => 0), [(o, .inr (2, [.ref q1]))], [(q1, .inl (cL, 5, .inr (.inr (.inr (.inr (va_up (va_up (va_up (va_up (fun _ => none) 0 (some q2)) 1 (some q7)) 2 (some q12)) 3 (some q17)))))))]]) (As := []) (st := [.ref q22, .int 4, .ref q1]) C hC (mc_X2_init l D cI cL cP cJ q22) k_X2_init (List.mem_of_getElem? (i := 0) rfl) [6, 0, 1, 2, 3, 4, 5] (show ([6, 0, 1, 2, 3, 4, 5] : List Nat).Perm (List.range 7) by decide) rfl rfl rfl (Nat.le_of_ble_eq_true rfl) ⟨Nat.le_of_ble_eq_true rfl, Nat.le_of_ble_eq_true rfl⟩ ⟨Nat.le_of_ble_eq_true rfl, Nat.le_of_ble_eq_true rfl⟩ dX4_init_32 (fun w123 hw24 => ?_)
  obtain ⟨a25, a26, rfl⟩ := hw24
  refine r_ws (I' := [letB cI q22 a25 a26 1672 0 0 0 (fun _ => 0), letB cI q17 a20 a21 1672 0 0 0 (fun _ => 0), letB cI q12 a15 a16 1672 0 0 0 (fun _ => 0), letB cI q7 a10 a11 1672 0 0 0 (fun _ => 0), letB cI q2 a5 a6 1672 0 0 0 (fun _ => 0), [(o, .inr (2, [.ref q1]))], [(q1, .inl (cL, 5, .inr (.inr (.inr (.inr (va_up (va_up (va_up (va_up (fun _ => none) 0 (some q2)) 1 (some q7)) 2 (some q12)) 3 (some q17)))))))]]) rfl ?_
  refine r_ws (I' := [[(q22, .inr (1, [.ref a25, .int 1672, .int 0, .int 0]))], [(a25, .inr (4, [.ref a26, .int 0]))], [(a26, .inl (cI, 60, .inl (fun _ => 0)))], letB cI q17 a20 a21 1672 0 0 0 (fun _ => 0), letB cI q12 a15 a16 1672 0 0 0 (fun _ => 0), letB cI q7 a10 a11 1672 0 0 0 (fun _ => 0), letB cI q2 a5 a6 1672 0 0 0 (fun _ => 0), [(o, .inr (2, [.ref q1]))], [(q1, .inl (cL, 5, .inr (.inr (.inr (.inr (va_up (va_up (va_up (va_up (fun _ => none) 0 (some q2)) 1 (some q7)) 2 (some q12)) 3 (some q17)))))))]]) rfl ?_
  refine r_aast (I' := [[(q22, .inr (1, [.ref a25, .int 1672, .int 0, .int 0]))], [(a25, .inr (4, [.ref a26, .int 0]))], [(a26, .inl (cI, 60, .inl (fun _ => 0)))], letB cI q17 a20 a21 1672 0 0 0 (fun _ => 0), letB cI q12 a15 a16 1672 0 0 0 (fun _ => 0), letB cI q7 a10 a11 1672 0 0 0 (fun _ => 0), letB cI q2 a5 a6 1672 0 0 0 (fun _ => 0), [(o, .inr (2, [.ref q1]))], [(q1, .inl (cL, 5, .inr (.inr (.inr (.inr (va_up (va_up (va_up (va_up (va_up (fun _ => none) 0 (some q2)) 1 (some q7)) 2 (some q12)) 3 (some q17)) 4 (some q22)))))))]]) C 8 1 0 1 rfl rfl rfl rfl (vp_in_nI (n := 4) (N := 5) (by decide) (by decide)) rfl dX4_init_35 ?_
  refine r_ws (I' := [letB cI q22 a25 a26 1672 0 0 0 (fun _ => 0), letB cI q17 a20 a21 1672 0 0 0 (fun _ => 0), letB cI q12 a15 a16 1672 0 0 0 (fun _ => 0), letB cI q7 a10 a11 1672 0 0 0 (fun _ => 0), letB cI q2 a5 a6 1672 0 0 0 (fun _ => 0), [(o, .inr (2, [.ref q1]))], [(q1, .inl (cL, 5, .inr (.inr (.inr (.inr (va_up (va_up (va_up (va_up (va_up (fun _ => none) 0 (some q2)) 1 (some q7)) 2 (some q12)) 3 (some q17)) 4 (some q22)))))))]]) rfl ?_
  refine r_iinc (v := 5) (L' := [(1, .int 5), (0, .ref o)]) C dX4_init_36 0 rfl (by decide) (by decide) rfl ?_
  refine r_goto (tgt := 14) C dX4_init_39 (by decide) ?_
  refine r_iload_n C dX4_init_14 0 rfl ?_
  refine r_aload_n C dX4_init_15 1 rfl ?_
  refine r_get (Cn := RX4) (T := TX4) (N := 1) C inT4 5 rfl rfl 0 (by decide) t_128 rfl dX4_init_16 ?_
  refine r_alen (v := 5) C 6 1 rfl rfl rfl dX4_init_19 ?_
  refine r_icmp_ge (tgt := 42) C dX4_init_20 (by decide) (fun _ => ?_) (fun c => absurd c (by decide))
  refine r_pl (I' := [[(o, .inr (2, [.ref q1]))], [(q1, .inl (cL, 5, .inr (.inr (.inr (.inr (va_up (va_up (va_up (va_up (va_up (fun _ => none) 0 (some q2)) 1 (some q7)) 2 (some q12)) 3 (some q17)) 4 (some q22)))))))], letB cI q2 a5 a6 1672 0 0 0 (fun _ => 0), letB cI q7 a10 a11 1672 0 0 0 (fun _ => 0), letB cI q12 a15 a16 1672 0 0 0 (fun _ => 0), letB cI q17 a20 a21 1672 0 0 0 (fun _ => 0), letB cI q22 a25 a26 1672 0 0 0 (fun _ => 0)]) [5, 6, 4, 3, 2, 1, 0] (show ([5, 6, 4, 3, 2, 1, 0] : List Nat).Perm (List.range 7) by decide) rfl ?_
  refine r_rfs C 1 (fn5 q2 q7 q12 q17 q22) rfl (by intro j hj; rcases (show j = 0 ∨ j = 1 ∨ j = 2 ∨ j = 3 ∨ j = 4 by omega) with rfl | rfl | rfl | rfl | rfl <;> rfl) (I' := [[(o, .inr (2, [.ref q1]))], [(q1, .inl (cL, 5, .inr (.inr (.inr (.inr (rfs (fn5 q2 q7 q12 q17 q22)))))))], letB cI q2 a5 a6 1672 0 0 0 (fun _ => 0), letB cI q7 a10 a11 1672 0 0 0 (fun _ => 0), letB cI q12 a15 a16 1672 0 0 0 (fun _ => 0), letB cI q17 a20 a21 1672 0 0 0 (fun _ => 0), letB cI q22 a25 a26 1672 0 0 0 (fun _ => 0)]) rfl ?_
  exact r_vret (r := ()) C hA hr hlo dX4_init_42 [pileB cI cL o q1 (fn5 q2 q7 q12 q17 q22) (fn5 a5 a10 a15 a20 a25) (fn5 a6 a11 a16 a21 a26) (fun _ => 1672) (fun _ => 0) (fun _ => 0) (fun _ => 0) (fun _ _ => 0)] ⟨q1, (fn5 q2 q7 q12 q17 q22), (fn5 a5 a10 a15 a20 a25), (fn5 a6 a11 a16 a21 a26), rfl⟩ rfl hQ
theorem k_X1_init : kI yX1_init cX1_init 2 0 := ⟨t_135, t_62, t_136, rfl, by decide +kernel, by decide +kernel, by decide +kernel⟩
set_option maxRecDepth 20000 in
set_option maxHeartbeats 8000000 in
theorem mc_X1_init (l : Launch) (D : va_G) (cI cL cP cJ : ClassId) (o : Nat) : MC l yX1_init cX1_init 2 4 81 103 2022 D (tyF cI cL cP cJ) [.ref o] [[(o, .inr (0, [.null, .int 0]))]] (fun (_ : Unit) (w1 : List va_W) => ∃ sa : Nat, ∃ PS : Nat → Nat, ∃ AS : Nat → Nat, ∃ LS : Nat → Nat → Nat, ∃ hS_ : Nat → Nat → Nat, ∃ vS : Nat → Nat → Nat, w1 = [histB cI cL cP o sa PS AS LS hS_ vS (fun _ _ => 1672) (fun _ _ => 0) (fun _ _ => 0) (fun _ _ => 0) (fun _ _ _ => 0) 0]) := by
  refine mc_start (by decide +kernel) (by decide +kernel) (Nat.le_of_ble_eq_true rfl) (fun p e s m args below meth c A Q hA hQ C hr hlo hin0 hC => ?_)
  refine r_Le (L' := [(0, .ref o)]) rfl ?_
  refine r_aload_n C dX1_init_0 0 rfl ?_
  refine r_obj C t_137 t_86 t_87 ⟨Nat.le_of_ble_eq_true rfl, Nat.le_of_ble_eq_true rfl⟩ dX1_init_1 ?_
  refine r_aload_n C dX1_init_4 0 rfl ?_
  refine r_bipush (v := 6) C dX1_init_5 (by decide) ?_
  refine r_newq C 2 rfl t_138 hC.2.2 6 (by decide) (by decide) (by decide) ⟨Nat.le_of_ble_eq_true rfl, Nat.le_of_ble_eq_true rfl⟩ dX1_init_7 (fun q1 => ?_)
  refine r_ws (I' := [[(o, .inr (0, [.null, .int 0]))], [(q1, .inl (cP, 6, .inr (.inr (.inr (.inr (fun _ => none))))))]]) rfl ?_
  refine r_putF (Cn := RX1) (T := TX1) (N := 2) C inT1 0 rfl rfl 0 (by decide) t_141 tyX1 tyX1_ok nmX1 rfl hin0 rfl rfl rfl (Nat.le_of_ble_eq_true rfl) (I' := [[(o, .inr (0, [.ref q1, .int 0]))], [(q1, .inl (cP, 6, .inr (.inr (.inr (.inr (fun _ => none))))))]]) rfl dX1_init_10 ?_
  refine r_iconst (v := 0) C dX1_init_13 (by decide) ?_
  refine r_istore_n (L' := [(1, .int 0), (0, .ref o)]) C dX1_init_14 (by decide) rfl ?_
  refine r_iload_n C dX1_init_15 0 rfl ?_
  refine r_aload_n C dX1_init_16 1 rfl ?_
  refine r_get (Cn := RX1) (T := TX1) (N := 2) C inT1 0 rfl rfl 0 (by decide) t_141 rfl dX1_init_17 ?_
  refine r_alen (v := 6) C 1 2 rfl rfl rfl dX1_init_20 ?_
  refine r_icmp_ge (tgt := 43) C dX1_init_21 (by decide) (fun c => absurd c (by decide)) (fun _ => ?_)
  refine r_aload_n C dX1_init_24 1 rfl ?_
  refine r_get (Cn := RX1) (T := TX1) (N := 2) C inT1 0 rfl rfl 0 (by decide) t_141 rfl dX1_init_25 ?_
  refine r_iload_n C dX1_init_28 0 rfl ?_
  refine r_new (Cn := RX4) (T := TX4) (N := 1) (ci := 2) (fs := [.null]) C inT4 tyX4 tyX4_ok t_138 t_89 t_59 rfl (by intro j hj; obtain rfl : j = 0 := (by omega); rfl) ⟨Nat.le_of_ble_eq_true rfl, Nat.le_of_ble_eq_true rfl⟩ dX1_init_29 (fun q2 => ?_)
  refine r_ws (I' := [[(o, .inr (0, [.ref q1, .int 0]))], [(q1, .inl (cP, 6, .inr (.inr (.inr (.inr (fun _ => none))))))], [(q2, .inr (2, [.null]))]]) rfl ?_
  refine r_dup C dX1_init_32 rfl ?_
  refine r_callI (wc := [[(q2, .inr (2, [.null]))]]) (wr := [[(o, .inr (0, [.ref q1, .int 0]))], [(q1, .inl (cP, 6, .inr (.inr (.inr (.inr (fun _ => none))))))]]) (As := []) (st := [.ref q2, .int 0, .ref q1]) C hC (mc_X4_init l D cI cL cP cJ q2) k_X4_init t_140 [2, 0, 1] (show ([2, 0, 1] : List Nat).Perm (List.range 3) by decide) rfl rfl rfl (Nat.le_of_ble_eq_true rfl) ⟨Nat.le_of_ble_eq_true rfl, Nat.le_of_ble_eq_true rfl⟩ ⟨Nat.le_of_ble_eq_true rfl, Nat.le_of_ble_eq_true rfl⟩ dX1_init_33 (fun w13 hw4 => ?_)
  obtain ⟨a5, F6, F7, F8, rfl⟩ := hw4
  refine r_ws (I' := [pileB cI cL q2 a5 F6 F7 F8 (fun _ => 1672) (fun _ => 0) (fun _ => 0) (fun _ => 0) (fun _ _ => 0), [(o, .inr (0, [.ref q1, .int 0]))], [(q1, .inl (cP, 6, .inr (.inr (.inr (.inr (fun _ => none))))))]]) rfl ?_
  refine r_ws (I' := [[(q2, .inr (2, [.ref a5]))], [(a5, .inl (cL, 5, .inr (.inr (.inr (.inr (rfs F6))))))], letB cI (F6 0) (F7 0) (F8 0) ((fun _ => 1672) 0) ((fun _ => 0) 0) ((fun _ => 0) 0) ((fun _ => 0) 0) ((fun _ _ => 0) 0), letB cI (F6 1) (F7 1) (F8 1) ((fun _ => 1672) 1) ((fun _ => 0) 1) ((fun _ => 0) 1) ((fun _ => 0) 1) ((fun _ _ => 0) 1), letB cI (F6 2) (F7 2) (F8 2) ((fun _ => 1672) 2) ((fun _ => 0) 2) ((fun _ => 0) 2) ((fun _ => 0) 2) ((fun _ _ => 0) 2), letB cI (F6 3) (F7 3) (F8 3) ((fun _ => 1672) 3) ((fun _ => 0) 3) ((fun _ => 0) 3) ((fun _ => 0) 3) ((fun _ _ => 0) 3), letB cI (F6 4) (F7 4) (F8 4) ((fun _ => 1672) 4) ((fun _ => 0) 4) ((fun _ => 0) 4) ((fun _ => 0) 4) ((fun _ _ => 0) 4), [(o, .inr (0, [.ref q1, .int 0]))], [(q1, .inl (cP, 6, .inr (.inr (.inr (.inr (fun _ => none))))))]]) rfl ?_
  refine r_aast (I' := [[(q2, .inr (2, [.ref a5]))], [(a5, .inl (cL, 5, .inr (.inr (.inr (.inr (rfs F6))))))], letB cI (F6 0) (F7 0) (F8 0) ((fun _ => 1672) 0) ((fun _ => 0) 0) ((fun _ => 0) 0) ((fun _ => 0) 0) ((fun _ _ => 0) 0), letB cI (F6 1) (F7 1) (F8 1) ((fun _ => 1672) 1) ((fun _ => 0) 1) ((fun _ => 0) 1) ((fun _ => 0) 1) ((fun _ _ => 0) 1), letB cI (F6 2) (F7 2) (F8 2) ((fun _ => 1672) 2) ((fun _ => 0) 2) ((fun _ => 0) 2) ((fun _ => 0) 2) ((fun _ _ => 0) 2), letB cI (F6 3) (F7 3) (F8 3) ((fun _ => 1672) 3) ((fun _ => 0) 3) ((fun _ => 0) 3) ((fun _ => 0) 3) ((fun _ _ => 0) 3), letB cI (F6 4) (F7 4) (F8 4) ((fun _ => 1672) 4) ((fun _ => 0) 4) ((fun _ => 0) 4) ((fun _ => 0) 4) ((fun _ _ => 0) 4), [(o, .inr (0, [.ref q1, .int 0]))], [(q1, .inl (cP, 6, .inr (.inr (.inr (.inr (va_up (fun _ => none) 0 (some q2)))))))]]) C 8 2 0 2 rfl rfl rfl rfl (vp_in_nI (n := 0) (N := 6) (by decide) (by decide)) rfl dX1_init_36 ?_
  refine r_ws (I' := [pileB cI cL q2 a5 F6 F7 F8 (fun _ => 1672) (fun _ => 0) (fun _ => 0) (fun _ => 0) (fun _ _ => 0), [(o, .inr (0, [.ref q1, .int 0]))], [(q1, .inl (cP, 6, .inr (.inr (.inr (.inr (va_up (fun _ => none) 0 (some q2)))))))]]) rfl ?_
  refine r_iinc (v := 1) (L' := [(1, .int 1), (0, .ref o)]) C dX1_init_37 0 rfl (by decide) (by decide) rfl ?_
  refine r_goto (tgt := 15) C dX1_init_40 (by decide) ?_
  refine r_iload_n C dX1_init_15 0 rfl ?_
  refine r_aload_n C dX1_init_16 1 rfl ?_
  refine r_get (Cn := RX1) (T := TX1) (N := 2) C inT1 1 rfl rfl 0 (by decide) t_141 rfl dX1_init_17 ?_
  refine r_alen (v := 6) C 2 2 rfl rfl rfl dX1_init_20 ?_
  refine r_icmp_ge (tgt := 43) C dX1_init_21 (by decide) (fun c => absurd c (by decide)) (fun _ => ?_)
  refine r_aload_n C dX1_init_24 1 rfl ?_
  refine r_get (Cn := RX1) (T := TX1) (N := 2) C inT1 1 rfl rfl 0 (by decide) t_141 rfl dX1_init_25 ?_
  refine r_iload_n C dX1_init_28 0 rfl ?_
  refine r_new (Cn := RX4) (T := TX4) (N := 1) (ci := 2) (fs := [.null]) C inT4 tyX4 tyX4_ok t_138 t_89 t_59 rfl (by intro j hj; obtain rfl : j = 0 := (by omega); rfl) ⟨Nat.le_of_ble_eq_true rfl, Nat.le_of_ble_eq_true rfl⟩ dX1_init_29 (fun q9 => ?_)
  refine r_ws (I' := [pileB cI cL q2 a5 F6 F7 F8 (fun _ => 1672) (fun _ => 0) (fun _ => 0) (fun _ => 0) (fun _ _ => 0), [(o, .inr (0, [.ref q1, .int 0]))], [(q1, .inl (cP, 6, .inr (.inr (.inr (.inr (va_up (fun _ => none) 0 (some q2)))))))], [(q9, .inr (2, [.null]))]]) rfl ?_
  refine r_dup C dX1_init_32 rfl ?_
  refine r_callI (wc := [[(q9, .inr (2, [.null]))]]) (wr := [pileB cI cL q2 a5 F6 F7 F8 (fun _ => 1672) (fun _ => 0) (fun _ => 0) (fun _ => 0) (fun _ _ => 0), [(o, .inr (0, [.ref q1, .int 0]))], [(q1, .inl (cP, 6, .inr (.inr (.inr (.inr (va_up (fun _ => none) 0 (some q2)))))))]]) (As := []) (st := [.ref q9, .int 1, .ref q1]) C hC (mc_X4_init l D cI cL cP cJ q9) k_X4_init t_140 [3, 0, 1, 2] (show ([3, 0, 1, 2] : List Nat).Perm (List.range 4) by decide) rfl rfl rfl (Nat.le_of_ble_eq_true rfl) ⟨Nat.le_of_ble_eq_true rfl, Nat.le_of_ble_eq_true rfl⟩ ⟨Nat.le_of_ble_eq_true rfl, Nat.le_of_ble_eq_true rfl⟩ dX1_init_33 (fun w110 hw11 => ?_)
  obtain ⟨a12, F13, F14, F15, rfl⟩ := hw11
  refine r_ws (I' := [pileB cI cL q9 a12 F13 F14 F15 (fun _ => 1672) (fun _ => 0) (fun _ => 0) (fun _ => 0) (fun _ _ => 0), pileB cI cL q2 a5 F6 F7 F8 (fun _ => 1672) (fun _ => 0) (fun _ => 0) (fun _ => 0) (fun _ _ => 0), [(o, .inr (0, [.ref q1, .int 0]))], [(q1, .inl (cP, 6, .inr (.inr (.inr (.inr (va_up (fun _ => none) 0 (some q2)))))))]]) rfl ?_
  refine r_ws (I' := [[(q9, .inr (2, [.ref a12]))], [(a12, .inl (cL, 5, .inr (.inr (.inr (.inr (rfs F13))))))], letB cI (F13 0) (F14 0) (F15 0) ((fun _ => 1672) 0) ((fun _ => 0) 0) ((fun _ => 0) 0) ((fun _ => 0) 0) ((fun _ _ => 0) 0), letB cI (F13 1) (F14 1) (F15 1) ((fun _ => 1672) 1) ((fun _ => 0) 1) ((fun _ => 0) 1) ((fun _ => 0) 1) ((fun _ _ => 0) 1), letB cI (F13 2) (F14 2) (F15 2) ((fun _ => 1672) 2) ((fun _ => 0) 2) ((fun _ => 0) 2) ((fun _ => 0) 2) ((fun _ _ => 0) 2), letB cI (F13 3) (F14 3) (F15 3) ((fun _ => 1672) 3) ((fun _ => 0) 3) ((fun _ => 0) 3) ((fun _ => 0) 3) ((fun _ _ => 0) 3), letB cI (F13 4) (F14 4) (F15 4) ((fun _ => 1672) 4) ((fun _ => 0) 4) ((fun _ => 0) 4) ((fun _ => 0) 4) ((fun _ _ => 0) 4), pileB cI cL q2 a5 F6 F7 F8 (fun _ => 1672) (fun _ => 0) (fun _ => 0) (fun _ => 0) (fun _ _ => 0), [(o, .inr (0, [.ref q1, .int 0]))], [(q1, .inl (cP, 6, .inr (.inr (.inr (.inr (va_up (fun _ => none) 0 (some q2)))))))]]) rfl ?_
  refine r_aast (I' := [[(q9, .inr (2, [.ref a12]))], [(a12, .inl (cL, 5, .inr (.inr (.inr (.inr (rfs F13))))))], letB cI (F13 0) (F14 0) (F15 0) ((fun _ => 1672) 0) ((fun _ => 0) 0) ((fun _ => 0) 0) ((fun _ => 0) 0) ((fun _ _ => 0) 0), letB cI (F13 1) (F14 1) (F15 1) ((fun _ => 1672) 1) ((fun _ => 0) 1) ((fun _ => 0) 1) ((fun _ => 0) 1) ((fun _ _ => 0) 1), letB cI (F13 2) (F14 2) (F15 2) ((fun _ => 1672) 2) ((fun _ => 0) 2) ((fun _ => 0) 2) ((fun _ => 0) 2) ((fun _ _ => 0) 2), letB cI (F13 3) (F14 3) (F15 3) ((fun _ => 1672) 3) ((fun _ => 0) 3) ((fun _ => 0) 3) ((fun _ => 0) 3) ((fun _ _ => 0) 3), letB cI (F13 4) (F14 4) (F15 4) ((fun _ => 1672) 4) ((fun _ => 0) 4) ((fun _ => 0) 4) ((fun _ => 0) 4) ((fun _ _ => 0) 4), pileB cI cL q2 a5 F6 F7 F8 (fun _ => 1672) (fun _ => 0) (fun _ => 0) (fun _ => 0) (fun _ _ => 0), [(o, .inr (0, [.ref q1, .int 0]))], [(q1, .inl (cP, 6, .inr (.inr (.inr (.inr (va_up (va_up (fun _ => none) 0 (some q2)) 1 (some q9)))))))]]) C 9 2 0 2 rfl rfl rfl rfl (vp_in_nI (n := 1) (N := 6) (by decide) (by decide)) rfl dX1_init_36 ?_
  refine r_ws (I' := [pileB cI cL q9 a12 F13 F14 F15 (fun _ => 1672) (fun _ => 0) (fun _ => 0) (fun _ => 0) (fun _ _ => 0), pileB cI cL q2 a5 F6 F7 F8 (fun _ => 1672) (fun _ => 0) (fun _ => 0) (fun _ => 0) (fun _ _ => 0), [(o, .inr (0, [.ref q1, .int 0]))], [(q1, .inl (cP, 6, .inr (.inr (.inr (.inr (va_up (va_up (fun _ => none) 0 (some q2)) 1 (some q9)))))))]]) rfl ?_
  refine r_iinc (v := 2) (L' := [(1, .int 2), (0, .ref o)]) C dX1_init_37 0 rfl (by decide) (by decide) rfl ?_
  refine r_goto (tgt := 15) C dX1_init_40 (by decide) ?_
  refine r_iload_n C dX1_init_15 0 rfl ?_
  refine r_aload_n C dX1_init_16 1 rfl ?_
  refine r_get (Cn := RX1) (T := TX1) (N := 2) C inT1 2 rfl rfl 0 (by decide) t_141 rfl dX1_init_17 ?_
  refine r_alen (v := 6) C 3 2 rfl rfl rfl dX1_init_20 ?_
  refine r_icmp_ge (tgt := 43) C dX1_init_21 (by decide) (fun c => absurd c (by decide)) (fun _ => ?_)
  refine r_aload_n C dX1_init_24 1 rfl ?_
  refine r_get (Cn := RX1) (T := TX1) (N := 2) C inT1 2 rfl rfl 0 (by decide) t_141 rfl dX1_init_25 ?_
  refine r_iload_n C dX1_init_28 0 rfl ?_
  refine r_new (Cn := RX4) (T := TX4) (N := 1) (ci := 2) (fs := [.null]) C inT4 tyX4 tyX4_ok t_138 t_89 t_59 rfl (by intro j hj; obtain rfl : j = 0 := (by omega); rfl) ⟨Nat.le_of_ble_eq_true rfl, Nat.le_of_ble_eq_true rfl⟩ dX1_init_29 (fun q16 => ?_)
  refine r_ws (I' := [pileB cI cL q9 a12 F13 F14 F15 (fun _ => 1672) (fun _ => 0) (fun _ => 0) (fun _ => 0) (fun _ _ => 0), pileB cI cL q2 a5 F6 F7 F8 (fun _ => 1672) (fun _ => 0) (fun _ => 0) (fun _ => 0) (fun _ _ => 0), [(o, .inr (0, [.ref q1, .int 0]))], [(q1, .inl (cP, 6, .inr (.inr (.inr (.inr (va_up (va_up (fun _ => none) 0 (some q2)) 1 (some q9)))))))], [(q16, .inr (2, [.null]))]]) rfl ?_
  refine r_dup C dX1_init_32 rfl ?_
  refine r_callI (wc := [[(q16, .inr (2, [.null]))]]) (wr := [pileB cI cL q9 a12 F13 F14 F15 (fun _ => 1672) (fun _ => 0) (fun _ => 0) (fun _ => 0) (fun _ _ => 0), pileB cI cL q2 a5 F6 F7 F8 (fun _ => 1672) (fun _ => 0) (fun _ => 0) (fun _ => 0) (fun _ _ => 0), [(o, .inr (0, [.ref q1, .int 0]))], [(q1, .inl (cP, 6, .inr (.inr (.inr (.inr (va_up (va_up (fun _ => none) 0 (some q2)) 1 (some q9)))))))]]) (As := []) (st := [.ref q16, .int 2, .ref q1]) C hC (mc_X4_init l D cI cL cP cJ q16) k_X4_init t_140 [4, 0, 1, 2, 3] (show ([4, 0, 1, 2, 3] : List Nat).Perm (List.range 5) by decide) rfl rfl rfl (Nat.le_of_ble_eq_true rfl) ⟨Nat.le_of_ble_eq_true rfl, Nat.le_of_ble_eq_true rfl⟩ ⟨Nat.le_of_ble_eq_true rfl, Nat.le_of_ble_eq_true rfl⟩ dX1_init_33 (fun w117 hw18 => ?_)
  obtain ⟨a19, F20, F21, F22, rfl⟩ := hw18
  refine r_ws (I' := [pileB cI cL q16 a19 F20 F21 F22 (fun _ => 1672) (fun _ => 0) (fun _ => 0) (fun _ => 0) (fun _ _ => 0), pileB cI cL q9 a12 F13 F14 F15 (fun _ => 1672) (fun _ => 0) (fun _ => 0) (fun _ => 0) (fun _ _ => 0), pileB cI cL q2 a5 F6 F7 F8 (fun _ => 1672) (fun _ => 0) (fun _ => 0) (fun _ => 0) (fun _ _ => 0), [(o, .inr (0, [.ref q1, .int 0]))], [(q1, .inl (cP, 6, .inr (.inr (.inr (.inr (va_up (va_up (fun _ => none) 0 (some q2)) 1 (some q9)))))))]]) rfl ?_
  refine r_ws (I' := [[(q16, .inr (2, [.ref a19]))], [(a19, .inl (cL, 5, .inr (.inr (.inr (.inr (rfs F20))))))], letB cI (F20 0) (F21 0) (F22 0) ((fun _ => 1672) 0) ((fun _ => 0) 0) ((fun _ => 0) 0) ((fun _ => 0) 0) ((fun _ _ => 0) 0), letB cI (F20 1) (F21 1) (F22 1) ((fun _ => 1672) 1) ((fun _ => 0) 1) ((fun _ => 0) 1) ((fun _ => 0) 1) ((fun _ _ => 0) 1), letB cI (F20 2) (F21 2) (F22 2) ((fun _ => 1672) 2) ((fun _ => 0) 2) ((fun _ => 0) 2) ((fun _ => 0) 2) ((fun _ _ => 0) 2), letB cI (F20 3) (F21 3) (F22 3) ((fun _ => 1672) 3) ((fun _ => 0) 3) ((fun _ => 0) 3) ((fun _ => 0) 3) ((fun _ _ => 0) 3), letB cI (F20 4) (F21 4) (F22 4) ((fun _ => 1672) 4) ((fun _ => 0) 4) ((fun _ => 0) 4) ((fun _ => 0) 4) ((fun _ _ => 0) 4), pileB cI cL q9 a12 F13 F14 F15 (fun _ => 1672) (fun _ => 0) (fun _ => 0) (fun _ => 0) (fun _ _ => 0), pileB cI cL q2 a5 F6 F7 F8 (fun _ => 1672) (fun _ => 0) (fun _ => 0) (fun _ => 0) (fun _ _ => 0), [(o, .inr (0, [.ref q1, .int 0]))], [(q1, .inl (cP, 6, .inr (.inr (.inr (.inr (va_up (va_up (fun _ => none) 0 (some q2)) 1 (some q9)))))))]]) rfl ?_
  refine r_aast (I' := [[(q16, .inr (2, [.ref a19]))], [(a19, .inl (cL, 5, .inr (.inr (.inr (.inr (rfs F20))))))], letB cI (F20 0) (F21 0) (F22 0) ((fun _ => 1672) 0) ((fun _ => 0) 0) ((fun _ => 0) 0) ((fun _ => 0) 0) ((fun _ _ => 0) 0), letB cI (F20 1) (F21 1) (F22 1) ((fun _ => 1672) 1) ((fun _ => 0) 1) ((fun _ => 0) 1) ((fun _ => 0) 1) ((fun _ _ => 0) 1), letB cI (F20 2) (F21 2) (F22 2) ((fun _ => 1672) 2) ((fun _ => 0) 2) ((fun _ => 0) 2) ((fun _ => 0) 2) ((fun _ _ => 0) 2), letB cI (F20 3) (F21 3) (F22 3) ((fun _ => 1672) 3) ((fun _ => 0) 3) ((fun _ => 0) 3) ((fun _ => 0) 3) ((fun _ _ => 0) 3), letB cI (F20 4) (F21 4) (F22 4) ((fun _ => 1672) 4) ((fun _ => 0) 4) ((fun _ => 0) 4) ((fun _ => 0) 4) ((fun _ _ => 0) 4), pileB cI cL q9 a12 F13 F14 F15 (fun _ => 1672) (fun _ => 0) (fun _ => 0) (fun _ => 0) (fun _ _ => 0), pileB cI cL q2 a5 F6 F7 F8 (fun _ => 1672) (fun _ => 0) (fun _ => 0) (fun _ => 0) (fun _ _ => 0), [(o, .inr (0, [.ref q1, .int 0]))], [(q1, .inl (cP, 6, .inr (.inr (.inr (.inr (va_up (va_up (va_up (fun _ => none) 0 (some q2)) 1 (some q9)) 2 (some q16)))))))]]) C 10 2 0 2 rfl rfl rfl rfl (vp_in_nI (n := 2) (N := 6) (by decide) (by decide)) rfl dX1_init_36 ?_
  refine r_ws (I' := [pileB cI cL q16 a19 F20 F21 F22 (fun _ => 1672) (fun _ => 0) (fun _ => 0) (fun _ => 0) (fun _ _ => 0), pileB cI cL q9 a12 F13 F14 F15 (fun _ => 1672) (fun _ => 0) (fun _ => 0) (fun _ => 0) (fun _ _ => 0), pileB cI cL q2 a5 F6 F7 F8 (fun _ => 1672) (fun _ => 0) (fun _ => 0) (fun _ => 0) (fun _ _ => 0), [(o, .inr (0, [.ref q1, .int 0]))], [(q1, .inl (cP, 6, .inr (.inr (.inr (.inr (va_up (va_up (va_up (fun _ => none) 0 (some q2)) 1 (some q9)) 2 (some q16)))))))]]) rfl ?_
  refine r_iinc (v := 3) (L' := [(1, .int 3), (0, .ref o)]) C dX1_init_37 0 rfl (by decide) (by decide) rfl ?_
  refine r_goto (tgt := 15) C dX1_init_40 (by decide) ?_
  refine r_iload_n C dX1_init_15 0 rfl ?_
  refine r_aload_n C dX1_init_16 1 rfl ?_
  refine r_get (Cn := RX1) (T := TX1) (N := 2) C inT1 3 rfl rfl 0 (by decide) t_141 rfl dX1_init_17 ?_
  refine r_alen (v := 6) C 4 2 rfl rfl rfl dX1_init_20 ?_
  refine r_icmp_ge (tgt := 43) C dX1_init_21 (by decide) (fun c => absurd c (by decide)) (fun _ => ?_)
  refine r_aload_n C dX1_init_24 1 rfl ?_
  refine r_get (Cn := RX1) (T := TX1) (N := 2) C inT1 3 rfl rfl 0 (by decide) t_141 rfl dX1_init_25 ?_
  refine r_iload_n C dX1_init_28 0 rfl ?_
  refine r_new (Cn := RX4) (T := TX4) (N := 1) (ci := 2) (fs := [.null]) C inT4 tyX4 tyX4_ok t_138 t_89 t_59 rfl (by intro j hj; obtain rfl : j = 0 := (by omega); rfl) ⟨Nat.le_of_ble_eq_true rfl, Nat.le_of_ble_eq_true rfl⟩ dX1_init_29 (fun q23 => ?_)
  refine r_ws (I' := [pileB cI cL q16 a19 F20 F21 F22 (fun _ => 1672) (fun _ => 0) (fun _ => 0) (fun _ => 0) (fun _ _ => 0), pileB cI cL q9 a12 F13 F14 F15 (fun _ => 1672) (fun _ => 0) (fun _ => 0) (fun _ => 0) (fun _ _ => 0), pileB cI cL q2 a5 F6 F7 F8 (fun _ => 1672) (fun _ => 0) (fun _ => 0) (fun _ => 0) (fun _ _ => 0), [(o, .inr (0, [.ref q1, .int 0]))], [(q1, .inl (cP, 6, .inr (.inr (.inr (.inr (va_up (va_up (va_up (fun _ => none) 0 (some q2)) 1 (some q9)) 2 (some q16)))))))], [(q23, .inr (2, [.null]))]]) rfl ?_
  refine r_dup C dX1_init_32 rfl ?_
  refine r_callI (wc := [[(q23, .inr (2, [.null]))]]) (wr := [pileB cI cL q16 a19 F20 F21 F22 (fun _ => 1672) (fun _ => 0) (fun _ => 0) (fun _ => 0) (fun _ _ => 0), pileB cI cL q9 a12 F13 F14 F15 (fun _ => 1672) (fun _ => 0) (fun _ => 0) (fun _ => 0) (fun _ _ => 0), pileB cI cL q2 a5 F6 F7 F8 (fun _ => 1672) (fun _ => 0) (fun _ => 0) (fun _ => 0) (fun _ _ => 0), [(o, .inr (0, [.ref q1, .int 0]))], [(q1, .inl (cP, 6, .inr (.inr (.inr (.inr (va_up (va_up (va_up (fun _ => none) 0 (some q2)) 1 (some q9)) 2 (some q16)))))))]]) (As := []) (st := [.ref q23, .int 3, .ref q1]) C hC (mc_X4_init l D cI cL cP cJ q23) k_X4_init t_140 [5, 0, 1, 2, 3, 4] (show ([5, 0, 1, 2, 3, 4] : List Nat).Perm (List.range 6) by decide) rfl rfl rfl (Nat.le_of_ble_eq_true rfl) ⟨Nat.le_of_ble_eq_true rfl, Nat.le_of_ble_eq_true rfl⟩ ⟨Nat.le_of_ble_eq_true rfl, Nat.le_of_ble_eq_true rfl⟩ dX1_init_33 (fun w124 hw25 => ?_)
  obtain ⟨a26, F27, F28, F29, rfl⟩ := hw25
  refine r_ws (I' := [pileB cI cL q23 a26 F27 F28 F29 (fun _ => 1672) (fun _ => 0) (fun _ => 0) (fun _ => 0) (fun _ _ => 0), pileB cI cL q16 a19 F20 F21 F22 (fun _ => 1672) (fun _ => 0) (fun _ => 0) (fun _ => 0) (fun _ _ => 0), pileB cI cL q9 a12 F13 F14 F15 (fun _ => 1672) (fun _ => 0) (fun _ => 0) (fun _ => 0) (fun _ _ => 0), pileB cI cL q2 a5 F6 F7 F8 (fun _ => 1672) (fun _ => 0) (fun _ => 0) (fun _ => 0) (fun _ _ => 0), [(o, .inr (0, [.ref q1, .int 0]))], [(q1, .inl (cP, 6, .inr (.inr (.inr (.inr (va_up (va_up (va_up (fun _ => none) 0 (some q2)) 1 (some q9)) 2 (some q16)))))))]]) rfl ?_
  refine r_ws (I' := [[(q23, .inr (2, [.ref a26]))], [(a26, .inl (cL, 5, .inr (.inr (.inr (.inr (rfs F27))))))], letB cI (F27 0) (F28 0) (F29 0) ((fun _ => 1672) 0) ((fun _ => 0) 0) ((fun _ => 0) 0) ((fun _ => 0) 0) ((fun _ _ => 0) 0), letB cI (F27 1) (F28 1) (F29 1) ((fun _ => 1672) 1) ((fun _ => 0) 1) ((fun _ => 0) 1) ((fun _ => 0) 1) ((fun _ _ => 0) 1), letB cI (F27 2) (F28 2) (F29 2) ((fun _ => 1672) 2) ((fun _ => 0) 2) ((fun _ => 0) 2) ((fun _ => 0) 2) ((fun _ _ => 0) 2), letB cI (F27 3) (F28 3) (F29 3) ((fun _ => 1672) 3) ((fun _ => 0) 3) ((fun _ => 0) 3) ((fun _ => 0) 3) ((fun _ _ => 0) 3), letB cI (F27 4) (F28 4) (F29 4) ((fun _ => 1672) 4) ((fun _ => 0) 4) ((fun _ => 0) 4) ((fun _ => 0) 4) ((fun _ _ => 0) 4), pileB cI cL q16 a19 F20 F21 F22 (fun _ => 1672) (fun _ => 0) (fun _ => 0) (fun _ => 0) (fun _ _ => 0), pileB cI cL q9 a12 F13 F14 F15 (fun _ => 1672) (fun _ => 0) (fun _ => 0) (fun _ => 0) (fun _ _ => 0), pileB cI cL q2 a5 F6 F7 F8 (fun _ => 1672) (fun _ => 0) (fun _ => 0) (fun _ => 0) (fun _ _ => 0), [(o, .inr (0, [.ref q1, .int 0]))], [(q1, .inl (cP, 6, .inr (.inr (.inr (.inr (va_up (va_up (va_up (fun _ => none) 0 (some q2)) 1 (some q9)) 2 (some q16)))))))]]) rfl ?_
  refine r_aast (I' := [[(q23, .inr (2, [.ref a26]))], [(a26, .inl (cL, 5, .inr (.inr (.inr (.inr (rfs F27))))))], letB cI (F27 0) (F28 0) (F29 0) ((fun _ => 1672) 0) ((fun _ => 0) 0) ((fun _ => 0) 0) ((fun _ => 0) 0) ((fun _ _ => 0) 0), letB cI (F27 1) (F28 1) (F29 1) ((fun _ => 1672) 1) ((fun _ => 0) 1) ((fun _ => 0) 1) ((fun _ => 0) 1) ((fun _ _ => 0) 1), letB cI (F27 2) (F28 2) (F29 2) ((fun _ => 1672) 2) ((fun _ => 0) 2) ((fun _ => 0) 2) ((fun _ => 0) 2) ((fun _ _ => 0) 2), letB cI (F27 3) (F28 3) (F29 3) ((fun _ => 1672) 3) ((fun _ => 0) 3) ((fun _ => 0) 3) ((fun _ => 0) 3) ((fun _ _ => 0) 3), letB cI (F27 4) (F28 4) (F29 4) ((fun _ => 1672) 4) ((fun _ => 0) 4) ((fun _ => 0) 4) ((fun _ => 0) 4) ((fun _ _ => 0) 4), pileB cI cL q16 a19 F20 F21 F22 (fun _ => 1672) (fun _ => 0) (fun _ => 0) (fun _ => 0) (fun _ _ => 0), pileB cI cL q9 a12 F13 F14 F15 (fun _ => 1672) (fun _ => 0) (fun _ => 0) (fun _ => 0) (fun _ _ => 0), pileB cI cL q2 a5 F6 F7 F8 (fun _ => 1672) (fun _ => 0) (fun _ => 0) (fun _ => 0) (fun _ _ => 0), [(o, .inr (0, [.ref q1, .int 0]))], [(q1, .inl (cP, 6, .inr (.inr (.inr (.inr (va_up (va_up (va_up (va_up (fun _ => none) 0 (some q2)) 1 (some q9)) 2 (some q16)) 3 (some q23)))))))]]) C 11 2 0 2 rfl rfl rfl rfl (vp_in_nI (n := 3) (N := 6) (by decide) (by decide)) rfl dX1_init_36 ?_
  refine r_ws (I' := [pileB cI cL q23 a26 F27 F28 F29 (fun _ => 1672) (fun _ => 0) (fun _ => 0) (fun _ => 0) (fun _ _ => 0), pileB cI cL q16 a19 F20 F21 F22 (fun _ => 1672) (fun _ => 0) (fun _ => 0) (fun _ => 0) (fun _ _ => 0), pileB cI cL q9 a12 F13 F14 F15 (fun _ => 1672) (fun _ => 0) (fun _ => 0) (fun _ => 0) (fun _ _ => 0), pileB cI cL q2 a5 F6 F7 F8 (fun _ => 1672) (fun _ => 0) (fun _ => 0) (fun _ => 0) (fun _ _ => 0), [(o, .inr (0, [.ref q1, .int 0]))], [(q1, .inl (cP, 6, .inr (.inr (.inr (.inr (va_up (va_up (va_up (va_up (fun _ => none) 0 (some q2)) 1 (some q9)) 2 (some q16)) 3 (some q23)))))))]]) rfl ?_
  refine r_iinc (v := 4) (L' := [(1, .int 4), (0, .ref o)]) C dX1_init_37 0 rfl (by decide) (by decide) rfl ?_
  refine r_goto (tgt := 15) C dX1_init_40 (by decide) ?_
  refine r_iload_n C dX1_init_15 0 rfl ?_
  refine r_aload_n C dX1_init_16 1 rfl ?_
  refine r_get (Cn := RX1) (T := TX1) (N := 2) C inT1 4 rfl rfl 0 (by decide) t_141 rfl dX1_init_17 ?_
  refine r_alen (v := 6) C 5 2 rfl rfl rfl dX1_init_20 ?_
  refine r_icmp_ge (tgt := 43) C dX1_init_21 (by decide) (fun c => absurd c (by decide)) (fun _ => ?_)
  refine r_aload_n C dX1_init_24 1 rfl ?_
  refine r_get (Cn := RX1) (T := TX1) (N := 2) C inT1 4 rfl rfl 0 (by decide) t_141 rfl dX1_init_25 ?_
  refine r_iload_n C dX1_init_28 0 rfl ?_
  refine r_new (Cn := RX4) (T := TX4) (N := 1) (ci := 2) (fs := [.null]) C inT4 tyX4 tyX4_ok t_138 t_89 t_59 rfl (by intro j hj; obtain rfl : j = 0 := (by omega); rfl) ⟨Nat.le_of_ble_eq_true rfl, Nat.le_of_ble_eq_true rfl⟩ dX1_init_29 (fun q30 => ?_)
  refine r_ws (I' := [pileB cI cL q23 a26 F27 F28 F29 (fun _ => 1672) (fun _ => 0) (fun _ => 0) (fun _ => 0) (fun _ _ => 0), pileB cI cL q16 a19 F20 F21 F22 (fun _ => 1672) (fun _ => 0) (fun _ => 0) (fun _ => 0) (fun _ _ => 0), pileB cI cL q9 a12 F13 F14 F15 (fun _ => 1672) (fun _ => 0) (fun _ => 0) (fun _ => 0) (fun _ _ => 0), pileB cI cL q2 a5 F6 F7 F8 (fun _ => 1672) (fun _ => 0) (fun _ => 0) (fun _ => 0) (fun _ _ => 0), [(o, .inr (0, [.ref q1, .int 0]))], [(q1, .inl (cP, 6, .inr (.inr (.inr (.inr (va_up (va_up (va_up (va_up (fun _ => none) 0 (some q2)) 1 (some q9)) 2 (some q16)) 3 (some q23)))))))], [(q30, .inr (2, [.null]))]]) rfl ?_
  refine r_dup C dX1_init_32 rfl ?_
  refine r_callI (wc := [[(q30, .inr (2, [.null]))]]) (wr := [pileB cI cL q23 a26 F27 F28 F29 (fun _ => 1672) (fun _ => 0) (fun _ => 0) (fun _ => 0) (fun _ _ => 0), pileB cI cL q16 a19 F20 F21 F22 (fun _ => 1672) (fun _ => 0) (fun _ => 0) (fun _ => 0) (fun _ _ => 0), pileB cI cL q9 a12 F13 F14 F15 (fun _ => 1672) (fun _ => 0) (fun _ => 0) (fun _ => 0) (fun _ _ => 0), pileB cI cL q2 a5 F6 F7 F8 (fun _ => 1672) (fun _ => 0) (fun _ => 0) (fun _ => 0) (fun _ _ => 0), [(o, .inr (0, [.ref q1, .int 0]))], [(q1, .inl (cP, 6, .inr (.inr (.inr (.inr (va_up (va_up (va_up (va_up (fun _ => none) 0 (some q2)) 1 (some q9)) 2 (some q16)) 3 (some q23)))))))]]) (As := []) (st := [.ref q30, .int 4, .ref q1]) C hC (mc_X4_init l D cI cL cP cJ q30) k_X4_init t_140 [6, 0, 1, 2, 3, 4, 5] (show ([6, 0, 1, 2, 3, 4, 5] : List Nat).Perm (List.range 7) by decide) rfl rfl rfl (Nat.le_of_ble_eq_true rfl) ⟨Nat.le_of_ble_eq_true rfl, Nat.le_of_ble_eq_true rfl⟩ ⟨Nat.le_of_ble_eq_true rfl, Nat.le_of_ble_eq_true rfl⟩ dX1_init_33 (fun w131 hw32 => ?_)
  obtain ⟨a33, F34, F35, F36, rfl⟩ := hw32
  refine r_ws (I' := [pileB cI cL q30 a33 F34 F35 F36 (fun _ => 1672) (fun _ => 0) (fun _ => 0) (fun _ => 0) (fun _ _ => 0), pileB cI cL q23 a26 F27 F28 F29 (fun _ => 1672) (fun _ => 0) (fun _ => 0) (fun _ => 0) (fun _ _ => 0), pileB cI cL q16 a19 F20 F21 F22 (fun _ => 1672) (fun _ => 0) (fun _ => 0) (fun _ => 0) (fun _ _ => 0), pileB cI cL q9 a12 F13 F14 F15 (fun _ => 1672) (fun _ => 0) (fun _ => 0) (fun _ => 0) (fun _ _ => 0), pileB cI cL q2 a5 F6 F7 F8 (fun _ => 1672) (fun _ => 0) (fun _ => 0) (fun _ => 0) (fun _ _ => 0), [(o, .inr (0, [.ref q1, .int 0]))], [(q1, .inl (cP, 6, .inr (.inr (.inr (.inr (va_up (va_up (va_up (va_up (fun _ => none) 0 (some q2)) 1 (some q9)) 2 (some q16)) 3 (some q23)))))))]]) rfl ?_
  refine r_ws (I' := [[(q30, .inr (2, [.ref a33]))], [(a33, .inl (cL, 5, .inr (.inr (.inr (.inr (rfs F34))))))], letB cI (F34 0) (F35 0) (F36 0) ((fun _ => 1672) 0) ((fun _ => 0) 0) ((fun _ => 0) 0) ((fun _ => 0) 0) ((fun _ _ => 0) 0), letB cI (F34 1) (F35 1) (F36 1) ((fun _ => 1672) 1) ((fun _ => 0) 1) ((fun _ => 0) 1) ((fun _ => 0) 1) ((fun _ _ => 0) 1), letB cI (F34 2) (F35 2) (F36 2) ((fun _ => 1672) 2) ((fun _ => 0) 2) ((fun _ => 0) 2) ((fun _ => 0) 2) ((fun _ _ => 0) 2), letB cI (F34 3) (F35 3) (F36 3) ((fun _ => 1672) 3) ((fun _ => 0) 3) ((fun _ => 0) 3) ((fun _ => 0) 3) ((fun _ _ => 0) 3), letB cI (F34 4) (F35 4) (F36 4) ((fun _ => 1672) 4) ((fun _ => 0) 4) ((fun _ => 0) 4) ((fun _ => 0) 4) ((fun _ _ => 0) 4), pileB cI cL q23 a26 F27 F28 F29 (fun _ => 1672) (fun _ => 0) (fun _ => 0) (fun _ => 0) (fun _ _ => 0), pileB cI cL q16 a19 F20 F21 F22 (fun _ => 1672) (fun _ => 0) (fun _ => 0) (fun _ => 0) (fun _ _ => 0), pileB cI cL q9 a12 F13 F14 F15 (fun _ => 1672) (fun _ => 0) (fun _ => 0) (fun _ => 0) (fun _ _ => 0), pileB cI cL q2 a5 F6 F7 F8 (fun _ => 1672) (fun _ => 0) (fun _ => 0) (fun _ => 0) (fun _ _ => 0), [(o, .inr (0, [.ref q1, .int 0]))], [(q1, .inl (cP, 6, .inr (.inr (.inr (.inr (va_up (va_up (va_up (va_up (fun _ => none) 0 (some q2)) 1 (some q9)) 2 (some q16)) 3 (some q23)))))))]]) rfl ?_
  refine r_aast (I' := [[(q30, .inr (2, [.ref a33]))], [(a33, .inl (cL, 5, .inr (.inr (.inr (.inr (rfs F34))))))], letB cI (F34 0) (F35 0) (F36 0) ((fun _ => 1672) 0) ((fun _ => 0) 0) ((fun _ => 0) 0) ((fun _ => 0) 0) ((fun _ _ => 0) 0), letB cI (F34 1) (F35 1) (F36 1) ((fun _ => 1672) 1) ((fun _ => 0) 1) ((fun _ => 0) 1) ((fun _ => 0) 1) ((fun _ _ => 0) 1), letB cI (F34 2) (F35 2) (F36 2) ((fun _ => 1672) 2) ((fun _ => 0) 2) ((fun _ => 0) 2) ((fun _ => 0) 2) ((fun _ _ => 0) 2), letB cI (F34 3) (F35 3) (F36 3) ((fun _ => 1672) 3) ((fun _ => 0) 3) ((fun _ => 0) 3) ((fun _ => 0) 3) ((fun _ _ => 0) 3), letB cI (F34 4) (F35 4) (F36 4) ((fun _ => 1672) 4) ((fun _ => 0) 4) ((fun _ => 0) 4) ((fun _ => 0) 4) ((fun _ _ => 0) 4), pileB cI cL q23 a26 F27 F28 F29 (fun _ => 1672) (fun _ => 0) (fun _ => 0) (fun _ => 0) (fun _ _ => 0), pileB cI cL q16 a19 F20 F21 F22 (fun _ => 1672) (fun _ => 0) (fun _ => 0) (fun _ => 0) (fun _ _ => 0), pileB cI cL q9 a12 F13 F14 F15 (fun _ => 1672) (fun _ => 0) (fun _ => 0) (fun _ => 0) (fun _ _ => 0), pileB cI cL q2 a5 F6 F7 F8 (fun _ => 1672) (fun _ => 0) (fun _ => 0) (fun _ => 0) (fun _ _ => 0), [(o, .inr (0, [.ref q1, .int 0]))], [(q1, .inl (cP, 6, .inr (.inr (.inr (.inr (va_up (va_up (va_up (va_up (va_up (fun _ => none) 0 (some q2)) 1 (some q9)) 2 (some q16)) 3 (some q23)) 4 (some q30)))))))]]) C 12 2 0 2 rfl rfl rfl rfl (vp_in_nI (n := 4) (N := 6) (by decide) (by decide)) rfl dX1_init_36 ?_
  refine r_ws (I' := [pileB cI cL q30 a33 F34 F35 F36 (fun _ => 1672) (fun _ => 0) (fun _ => 0) (fun _ => 0) (fun _ _ => 0), pileB cI cL q23 a26 F27 F28 F29 (fun _ => 1672) (fun _ => 0) (fun _ => 0) (fun _ => 0) (fun _ _ => 0), pileB cI cL q16 a19 F20 F21 F22 (fun _ => 1672) (fun _ => 0) (fun _ => 0) (fun _ => 0) (fun _ _ => 0), pileB cI cL q9 a12 F13 F14 F15 (fun _ => 1672) (fun _ => 0) (fun _ => 0) (fun _ => 0) (fun _ _ => 0), pileB cI cL q2 a5 F6 F7 F8 (fun _ => 1672) (fun _ => 0) (fun _ => 0) (fun _ => 0) (fun _ _ => 0), [(o, .inr (0, [.ref q1, .int 0]))], [(q1, .inl (cP, 6, .inr (.inr (.inr (.inr (va_up (va_up (va_up (va_up (va_up (fun _ => none) 0 (some q2)) 1 (some q9)) 2 (some q16)) 3 (some q23)) 4 (some q30)))))))]]) rfl ?_
  refine r_iinc (v := 5) (L' := [(1, .int 5), (0, .ref o)]) C dX1_init_37 0 rfl (by decide) (by decide) rfl ?_
  refine r_goto (tgt := 15) C dX1_init_40 (by decide) ?_
  refine r_iload_n C dX1_init_15 0 rfl ?_
  refine r_aload_n C dX1_init_16 1 rfl ?_
  refine r_get (Cn := RX1) (T := TX1) (N := 2) C inT1 5 rfl rfl 0 (by decide) t_141 rfl dX1_init_17 ?_
  refine r_alen (v := 6) C 6 2 rfl rfl rfl dX1_init_20 ?_
  refine r_icmp_ge (tgt := 43) C dX1_init_21 (by decide) (fun c => absurd c (by decide)) (fun _ => ?_)
  refine r_aload_n C dX1_init_24 1 rfl ?_
  refine r_get (Cn := RX1) (T := TX1) (N := 2) C inT1 5 rfl rfl 0 (by decide) t_141 rfl dX1_init_25 ?_
  refine r_iload_n C dX1_init_28 0 rfl ?_
  refine r_new (Cn := RX4) (T := TX4) (N := 1) (ci := 2) (fs := [.null]) C inT4 tyX4 tyX4_ok t_138 t_89 t_59 rfl (by intro j hj; obtain rfl : j = 0 := (by omega); rfl) ⟨Nat.le_of_ble_eq_true rfl, Nat.le_of_ble_eq_true rfl⟩ dX1_init_29 (fun q37 => ?_)
  refine r_ws (I' := [pileB cI cL q30 a33 F34 F35 F36 (fun _ => 1672) (fun _ => 0) (fun _ => 0) (fun _ => 0) (fun _ _ => 0), pileB cI cL q23 a26 F27 F28 F29 (fun _ => 1672) (fun _ => 0) (fun _ => 0) (fun _ => 0) (fun _ _ => 0), pileB cI cL q16 a19 F20 F21 F22 (fun _ => 1672) (fun _ => 0) (fun _ => 0) (fun _ => 0) (fun _ _ => 0), pileB cI cL q9 a12 F13 F14 F15 (fun _ => 1672) (fun _ => 0) (fun _ => 0) (fun _ => 0) (fun _ _ => 0), pileB cI cL q2 a5 F6 F7 F8 (fun _ => 1672) (fun _ => 0) (fun _ => 0) (fun _ => 0) (fun _ _ => 0), [(o, .inr (0, [.ref q1, .int 0]))], [(q1, .inl (cP, 6, .inr (.inr (.inr (.inr (va_up (va_up (va_up (va_up (va_up (fun _ => none) 0 (some q2)) 1 (some q9)) 2 (some q16)) 3 (some q23)) 4 (some q30)))))))], [(q37, .inr (2, [.null]))]]) rfl ?_
  refine r_dup C dX1_init_32 rfl ?_
  refine r_callI (wc := [[(q37, .inr (2, [.null]))]]) (wr := [pileB cI cL q30 a33 F34 F35 F36 (fun _ => 1672) (fun _ => 0) (fun _ => 0) (fun _ => 0) (fun _ _ => 0), pileB cI cL q23 a26 F27 F28 F29 (fun _ => 1672) (fun _ => 0) (fun _ => 0) (fun _ => 0) (fun _ _ => 0), pileB cI cL q16 a19 F20 F21 F22 (fun _ => 1672) (fun _ => 0) (fun _ => 0) (fun _ => 0) (fun _ _ => 0), pileB cI cL q9 a12 F13 F14 F15 (fun _ => 1672) (fun _ => 0) (fun _ => 0) (fun _ => 0) (fun _ _ => 0), pileB cI cL q2 a5 F6 F7 F8 (fun _ => 1672) (fun _ => 0) (fun _ => 0) (fun _ => 0) (fun _ _ => 0), [(o, .inr (0, [.ref q1, .int 0]))], [(q1, .inl (cP, 6, .inr (.inr (.inr (.inr (va_up (va_up (va_up (va_up (va_up (fun _ => none) 0 (some q2)) 1 (some q9)) 2 (some q16)) 3 (some q23)) 4 (some q30)))))))]]) (As := []) (st := [.ref q37, .int 5, .ref q1]) C hC (mc_X4_init l D cI cL cP cJ q37) k_X4_init t_140 [7, 0, 1, 2, 3, 4, 5, 6] (show ([7, 0, 1, 2, 3, 4, 5, 6] : List Nat).Perm (List.range 8) by decide) rfl rfl rfl (Nat.le_of_ble_eq_true rfl) ⟨Nat.le_of_ble_eq_true rfl, Nat.le_of_ble_eq_true rfl⟩ ⟨Nat.le_of_ble_eq_true rfl, Nat.le_of_ble_eq_true rfl⟩ dX1_init_33 (fun w138 hw39 => ?_)
  obtain ⟨a40, F41, F42, F43, rfl⟩ := hw39
  refine r_ws (I' := [pileB cI cL q37 a40 F41 F42 F43 (fun _ => 1672) (fun _ => 0) (fun _ => 0) (fun _ => 0) (fun _ _ => 0), pileB cI cL q30 a33 F34 F35 F36 (fun _ => 1672) (fun _ => 0) (fun _ => 0) (fun _ => 0) (fun _ _ => 0), pileB cI cL q23 a26 F27 F28 F29 (fun _ => 1672) (fun _ => 0) (fun _ => 0) (fun _ => 0) (fun _ _ => 0), pileB cI cL q16 a19 F20 F21 F22 (fun _ => 1672) (fun _ => 0) (fun _ => 0) (fun _ => 0) (fun _ _ => 0), pileB cI cL q9 a12 F13 F14 F15 (fun _ => 1672) (fun _ => 0) (fun _ => 0) (fun _ => 0) (fun _ _ => 0), pileB cI cL q2 a5 F6 F7 F8 (fun _ => 1672) (fun _ => 0) (fun _ => 0) (fun _ => 0) (fun _ _ => 0), [(o, .inr (0, [.ref q1, .int 0]))], [(q1, .inl (cP, 6, .inr (.inr (.inr (.inr (va_up (va_up (va_up (va_up (va_up (fun _ => none) 0 (some q2)) 1 (some q9)) 2 (some q16)) 3 (some q23)) 4 (some q30)))))))]]) rfl ?_
  refine r_ws (I' := [[(q37, .inr (2, [.ref a40]))], [(a40, .inl (cL, 5, .inr (.inr (.inr (.inr (rfs F41))))))], letB cI (F41 0) (F42 0) (F43 0) ((fun _ => 1672) 0) ((fun _ => 0) 0) ((fun _ => 0) 0) ((fun _ => 0) 0) ((fun _ _ => 0) 0), letB cI (F41 1) (F42 1) (F43 1) ((fun _ => 1672) 1) ((fun _ => 0) 1) ((fun _ => 0) 1) ((fun _ => 0) 1) ((fun _ _ => 0) 1), letB cI (F41 2) (F42 2) (F43 2) ((fun _ => 1672) 2) ((fun _ => 0) 2) ((fun _ => 0) 2) ((fun _ => 0) 2) ((fun _ _ => 0) 2), letB cI (F41 3) (F42 3) (F43 3) ((fun _ => 1672) 3) ((fun _ => 0) 3) ((fun _ => 0) 3) ((fun _ => 0) 3) ((fun _ _ => 0) 3), letB cI (F41 4) (F42 4) (F43 4) ((fun _ => 1672) 4) ((fun _ => 0) 4) ((fun _ => 0) 4) ((fun _ => 0) 4) ((fun _ _ => 0) 4), pileB cI cL q30 a33 F34 F35 F36 (fun _ => 1672) (fun _ => 0) (fun _ => 0) (fun _ => 0) (fun _ _ => 0), pileB cI cL q23 a26 F27 F28 F29 (fun _ => 1672) (fun _ => 0) (fun _ => 0) (fun _ => 0) (fun _ _ => 0), pileB cI cL q16 a19 F20 F21 F22 (fun _ => 1672) (fun _ => 0) (fun _ => 0) (fun _ => 0) (fun _ _ => 0), pileB cI cL q9 a12 F13 F14 F15 (fun _ => 1672) (fun _ => 0) (fun _ => 0) (fun _ => 0) (fun _ _ => 0), pileB cI cL q2 a5 F6 F7 F8 (fun _ => 1672) (fun _ => 0) (fun _ => 0) (fun _ => 0) (fun _ _ => 0), [(o, .inr (0, [.ref q1, .int 0]))], [(q1, .inl (cP, 6, .inr (.inr (.inr (.inr (va_up (va_up (va_up (va_up (va_up (fun _ => none) 0 (some q2)) 1 (some q9)) 2 (some q16)) 3 (some q23)) 4 (some q30)))))))]]) rfl ?_
  refine r_aast (I' := [[(q37, .inr (2, [.ref a40]))], [(a40, .inl (cL, 5, .inr (.inr (.inr (.inr (rfs F41))))))], letB cI (F41 0) (F42 0) (F43 0) ((fun _ => 1672) 0) ((fun _ => 0) 0) ((fun _ => 0) 0) ((fun _ => 0) 0) ((fun _ _ => 0) 0), letB cI (F41 1) (F42 1) (F43 1) ((fun _ => 1672) 1) ((fun _ => 0) 1) ((fun _ => 0) 1) ((fun _ => 0) 1) ((fun _ _ => 0) 1), letB cI (F41 2) (F42 2) (F43 2) ((fun _ => 1672) 2) ((fun _ => 0) 2) ((fun _ => 0) 2) ((fun _ => 0) 2) ((fun _ _ => 0) 2), letB cI (F41 3) (F42 3) (F43 3) ((fun _ => 1672) 3) ((fun _ => 0) 3) ((fun _ => 0) 3) ((fun _ => 0) 3) ((fun _ _ => 0) 3), letB cI (F41 4) (F42 4) (F43 4) ((fun _ => 1672) 4) ((fun _ => 0) 4) ((fun _ => 0) 4) ((fun _ => 0) 4) ((fun _ _ => 0) 4), pileB cI cL q30 a33 F34 F35 F36 (fun _ => 1672) (fun _ => 0) (fun _ => 0) (fun _ => 0) (fun _ _ => 0), pileB cI cL q23 a26 F27 F28 F29 (fun _ => 1672) (fun _ => 0) (fun _ => 0) (fun _ => 0) (fun _ _ => 0), pileB cI cL q16 a19 F20 F21 F22 (fun _ => 1672) (fun _ => 0) (fun _ => 0) (fun _ => 0) (fun _ _ => 0), pileB cI cL q9 a12 F13 F14 F15 (fun _ => 1672) (fun _ => 0) (fun _ => 0) (fun _ => 0) (fun _ _ => 0), pileB cI cL q2 a5 F6 F7 F8 (fun _ => 1672) (fun _ => 0) (fun _ => 0) (fun _ => 0) (fun _ _ => 0), [(o, .inr (0, [.ref q1, .int 0]))], [(q1, .inl (cP, 6, .inr (.inr (.inr (.inr (va_up (va_up (va_up (va_up (va_up (va_up (fun _ => none) 0 (some q2)) 1 (some q9)) 2 (some q16)) 3 (some q23)) 4 (some q30)) 5 (some q37)))))))]]) C 13 2 0 2 rfl rfl rfl rfl (vp_in_nI (n := 5) (N := 6) (by decide) (by decide)) rfl dX1_init_36 ?_
  refine r_ws (I' := [pileB cI cL q37 a40 F41 F42 F43 (fun _ => 1672) (fun _ => 0) (fun _ => 0) (fun _ => 0) (fun _ _ => 0), pileB cI cL q30 a33 F34 F35 F36 (fun _ => 1672) (fun _ => 0) (fun _ => 0) (fun _ => 0) (fun _ _ => 0), pileB cI cL q23 a26 F27 F28 F29 (fun _ => 1672) (fun _ => 0) (fun _ => 0) (fun _ => 0) (fun _ _ => 0), pileB cI cL q16 a19 F20 F21 F22 (fun _ => 1672) (fun _ => 0) (fun _ => 0) (fun _ => 0) (fun _ _ => 0), pileB cI cL q9 a12 F13 F14 F15 (fun _ => 1672) (fun _ => 0) (fun _ => 0) (fun _ => 0) (fun _ _ => 0), pileB cI cL q2 a5 F6 F7 F8 (fun _ => 1672) (fun _ => 0) (fun _ => 0) (fun _ => 0) (fun _ _ => 0), [(o, .inr (0, [.ref q1, .int 0]))], [(q1, .inl (cP, 6, .inr (.inr (.inr (.inr (va_up (va_up (va_up (va_up (va_up (va_up (fun _ => none) 0 (some q2)) 1 (some q9)) 2 (some q16)) 3 (some q23)) 4 (some q30)) 5 (some q37)))))))]]) rfl ?_
  refine r_iinc (v := 6) (L' := [(1, .int 6), (0, .ref o)]) C dX1_init_37 0 rfl (by decide) (by decide) rfl ?_
  refine r_goto (tgt := 15) C dX1_init_40 (by decide) ?_
  refine r_iload_n C dX1_init_15 0 rfl ?_
  refine r_aload_n C dX1_init_16 1 rfl ?_
  refine r_get (Cn := RX1) (T := TX1) (N := 2) C inT1 6 rfl rfl 0 (by decide) t_141 rfl dX1_init_17 ?_
  refine r_alen (v := 6) C 7 2 rfl rfl rfl dX1_init_20 ?_
  refine r_icmp_ge (tgt := 43) C dX1_init_21 (by decide) (fun _ => ?_) (fun c => absurd c (by decide))
  refine r_pl (I' := [[(o, .inr (0, [.ref q1, .int 0]))], [(q1, .inl (cP, 6, .inr (.inr (.inr (.inr (va_up (va_up (va_up (va_up (va_up (va_up (fun _ => none) 0 (some q2)) 1 (some q9)) 2 (some q16)) 3 (some q23)) 4 (some q30)) 5 (some q37)))))))], pileB cI cL q2 a5 F6 F7 F8 (fun _ => 1672) (fun _ => 0) (fun _ => 0) (fun _ => 0) (fun _ _ => 0), pileB cI cL q9 a12 F13 F14 F15 (fun _ => 1672) (fun _ => 0) (fun _ => 0) (fun _ => 0) (fun _ _ => 0), pileB cI cL q16 a19 F20 F21 F22 (fun _ => 1672) (fun _ => 0) (fun _ => 0) (fun _ => 0) (fun _ _ => 0), pileB cI cL q23 a26 F27 F28 F29 (fun _ => 1672) (fun _ => 0) (fun _ => 0) (fun _ => 0) (fun _ _ => 0), pileB cI cL q30 a33 F34 F35 F36 (fun _ => 1672) (fun _ => 0) (fun _ => 0) (fun _ => 0) (fun _ _ => 0), pileB cI cL q37 a40 F41 F42 F43 (fun _ => 1672) (fun _ => 0) (fun _ => 0) (fun _ => 0) (fun _ _ => 0)]) [6, 7, 5, 4, 3, 2, 1, 0] (show ([6, 7, 5, 4, 3, 2, 1, 0] : List Nat).Perm (List.range 8) by decide) rfl ?_
  refine r_rfs C 1 (fn6 q2 q9 q16 q23 q30 q37) rfl (by intro j hj; rcases (show j = 0 ∨ j = 1 ∨ j = 2 ∨ j = 3 ∨ j = 4 ∨ j = 5 by omega) with rfl | rfl | rfl | rfl | rfl | rfl <;> rfl) (I' := [[(o, .inr (0, [.ref q1, .int 0]))], [(q1, .inl (cP, 6, .inr (.inr (.inr (.inr (rfs (fn6 q2 q9 q16 q23 q30 q37)))))))], pileB cI cL q2 a5 F6 F7 F8 (fun _ => 1672) (fun _ => 0) (fun _ => 0) (fun _ => 0) (fun _ _ => 0), pileB cI cL q9 a12 F13 F14 F15 (fun _ => 1672) (fun _ => 0) (fun _ => 0) (fun _ => 0) (fun _ _ => 0), pileB cI cL q16 a19 F20 F21 F22 (fun _ => 1672) (fun _ => 0) (fun _ => 0) (fun _ => 0) (fun _ _ => 0), pileB cI cL q23 a26 F27 F28 F29 (fun _ => 1672) (fun _ => 0) (fun _ => 0) (fun _ => 0) (fun _ _ => 0), pileB cI cL q30 a33 F34 F35 F36 (fun _ => 1672) (fun _ => 0) (fun _ => 0) (fun _ => 0) (fun _ _ => 0), pileB cI cL q37 a40 F41 F42 F43 (fun _ => 1672) (fun _ => 0) (fun _ => 0) (fun _ => 0) (fun _ _ => 0)]) rfl ?_
  exact r_vret (r := ()) C hA hr hlo dX1_init_43 [histB cI cL cP o q1 (fn6 q2 q9 q16 q23 q30 q37) (fn6 a5 a12 a19 a26 a33 a40) (fn6 F6 F13 F20 F27 F34 F41) (fn6 F7 F14 F21 F28 F35 F42) (fn6 F8 F15 F22 F29 F36 F43) (fun _ _ => 1672) (fun _ _ => 0) (fun _ _ => 0) (fun _ _ => 0) (fun _ _ _ => 0) 0] ⟨q1, (fn6 q2 q9 q16 q23 q30 q37), (fn6 a5 a12 a19 a26 a33 a40), (fn6 F6 F13 F20 F27 F34 F41), (fn6 F7 F14 F21 F28 F35 F42), (fn6 F8 F15 F22 F29 F36 F43), rfl⟩ rfl hQ
theorem k_X10_init : kI yX10_init cX10_init 1 0 := ⟨t_83, t_58, t_84, rfl, by decide +kernel, by decide +kernel, by decide +kernel⟩
set_option maxRecDepth 20000 in
set_option maxHeartbeats 8000000 in
theorem mc_X10_init (l : Launch) (D : va_G) (cI cL cP cJ : ClassId) (o : Nat) : MC l yX10_init cX10_init 1 5 102 151 3632 D (tyF cI cL cP cJ) [.ref o] [[(o, .inr (8, [.null, .null, .null, .null, .null, .null, .int 0]))]] (fun (_ : Unit) (w1 : List va_W) => ∃ pl : Nat, ∃ a : Nat, ∃ L : Nat → Nat, ∃ h : Nat → Nat, ∃ v : Nat → Nat, ∃ pl2 : Nat, ∃ a2 : Nat, ∃ L2 : Nat → Nat, ∃ h2 : Nat → Nat, ∃ v2 : Nat → Nat, ∃ hi : Nat, ∃ sa : Nat, ∃ PS : Nat → Nat, ∃ AS : Nat → Nat, ∃ LS : Nat → Nat → Nat, ∃ hS_ : Nat → Nat → Nat, ∃ vS : Nat → Nat → Nat, ∃ tx : Nat, ∃ ht : Nat, ∃ vt : Nat, ∃ rd : Nat, ∃ u : Nat, ∃ hu : Nat, ∃ vu : Nat, ∃ hb : Nat, ∃ sb : Nat, ∃ w : Nat, ∃ me : Nat, ∃ fo : Nat, ∃ fd : Nat, w1 = [[(o, .inr (8, [.ref pl, .ref pl2, .ref hi, .ref tx, .ref u, .ref w, .int 0]))], pileB cI cL pl a L h v (fun _ => 1672) (fun _ => 0) (fun _ => 0) (fun _ => 0) (fun _ _ => 0), pileB cI cL pl2 a2 L2 h2 v2 (fun _ => 1672) (fun _ => 0) (fun _ => 0) (fun _ => 0) (fun _ _ => 0), histB cI cL cP hi sa PS AS LS hS_ vS (fun _ _ => 1672) (fun _ _ => 0) (fun _ _ => 0) (fun _ _ => 0) (fun _ _ _ => 0) 0, txtB cI tx ht vt rd 0 (fun _ => 0) 0 0, unrB cI u hu vu hb sb 0 (fun _ => 0) (fun _ => 0) (fun _ => 0) 0 0, walB cI w me fo fd (fun _ => 0) (fun _ => 0) (fun _ => 0) 0]) := by
  refine mc_start (by decide +kernel) (by decide +kernel) (Nat.le_of_ble_eq_true rfl) (fun p e s m args below meth c A Q hA hQ C hr hlo hin0 hC => ?_)
  refine r_Le (L' := [(0, .ref o)]) rfl ?_
  refine r_aload_n C dX10_init_0 0 rfl ?_
  refine r_obj C t_85 t_86 t_87 ⟨Nat.le_of_ble_eq_true rfl, Nat.le_of_ble_eq_true rfl⟩ dX10_init_1 ?_
  refine r_aload_n C dX10_init_4 0 rfl ?_
  refine r_new (Cn := RX4) (T := TX4) (N := 1) (ci := 2) (fs := [.null]) C inT4 tyX4 tyX4_ok t_88 t_89 t_59 rfl (by intro j hj; obtain rfl : j = 0 := (by omega); rfl) ⟨Nat.le_of_ble_eq_true rfl, Nat.le_of_ble_eq_true rfl⟩ dX10_init_5 (fun q1 => ?_)
  refine r_ws (I' := [[(o, .inr (8, [.null, .null, .null, .null, .null, .null, .int 0]))], [(q1, .inr (2, [.null]))]]) rfl ?_
  refine r_dup C dX10_init_8 rfl ?_
  refine r_callI (wc := [[(q1, .inr (2, [.null]))]]) (wr := [[(o, .inr (8, [.null, .null, .null, .null, .null, .null, .int 0]))]]) (As := []) (st := [.ref q1, .ref o]) C hC (mc_X4_init l D cI cL cP cJ q1) k_X4_init t_90 [1, 0] (show ([1, 0] : List Nat).Perm (List.range 2) by decide) rfl rfl rfl (Nat.le_of_ble_eq_true rfl) ⟨Nat.le_of_ble_eq_true rfl, Nat.le_of_ble_eq_true rfl⟩ ⟨Nat.le_of_ble_eq_true rfl, Nat.le_of_ble_eq_true rfl⟩ dX10_init_9 (fun w12 hw3 => ?_)
  obtain ⟨a4, F5, F6, F7, rfl⟩ := hw3
  refine r_ws (I' := [pileB cI cL q1 a4 F5 F6 F7 (fun _ => 1672) (fun _ => 0) (fun _ => 0) (fun _ => 0) (fun _ _ => 0), [(o, .inr (8, [.null, .null, .null, .null, .null, .null, .int 0]))]]) rfl ?_
  refine r_putF (Cn := RX10) (T := TX10) (N := 7) C inT10 1 rfl rfl 0 (by decide) t_219 tyX10 tyX10_ok nmX10 rfl hin0 rfl rfl rfl (Nat.le_of_ble_eq_true rfl) (I' := [pileB cI cL q1 a4 F5 F6 F7 (fun _ => 1672) (fun _ => 0) (fun _ => 0) (fun _ => 0) (fun _ _ => 0), [(o, .inr (8, [.ref q1, .null, .null, .null, .null, .null, .int 0]))]]) rfl dX10_init_12 ?_
  refine r_aload_n C dX10_init_15 0 rfl ?_
  refine r_new (Cn := RX4) (T := TX4) (N := 1) (ci := 2) (fs := [.null]) C inT4 tyX4 tyX4_ok t_88 t_89 t_59 rfl (by intro j hj; obtain rfl : j = 0 := (by omega); rfl) ⟨Nat.le_of_ble_eq_true rfl, Nat.le_of_ble_eq_true rfl⟩ dX10_init_16 (fun q8 => ?_)
  refine r_ws (I' := [pileB cI cL q1 a4 F5 F6 F7 (fun _ => 1672) (fun _ => 0) (fun _ => 0) (fun _ => 0) (fun _ _ => 0), [(o, .inr (8, [.ref q1, .null, .null, .null, .null, .null, .int 0]))], [(q8, .inr (2, [.null]))]]) rfl ?_
  refine r_dup C dX10_init_19 rfl ?_
  refine r_callI (wc := [[(q8, .inr (2, [.null]))]]) (wr := [pileB cI cL q1 a4 F5 F6 F7 (fun _ => 1672) (fun _ => 0) (fun _ => 0) (fun _ => 0) (fun _ _ => 0), [(o, .inr (8, [.ref q1, .null, .null, .null, .null, .null, .int 0]))]]) (As := []) (st := [.ref q8, .ref o]) C hC (mc_X4_init l D cI cL cP cJ q8) k_X4_init t_90 [2, 0, 1] (show ([2, 0, 1] : List Nat).Perm (List.range 3) by decide) rfl rfl rfl (Nat.le_of_ble_eq_true rfl) ⟨Nat.le_of_ble_eq_true rfl, Nat.le_of_ble_eq_true rfl⟩ ⟨Nat.le_of_ble_eq_true rfl, Nat.le_of_ble_eq_true rfl⟩ dX10_init_20 (fun w19 hw10 => ?_)
  obtain ⟨a11, F12, F13, F14, rfl⟩ := hw10
  refine r_ws (I' := [pileB cI cL q8 a11 F12 F13 F14 (fun _ => 1672) (fun _ => 0) (fun _ => 0) (fun _ => 0) (fun _ _ => 0), pileB cI cL q1 a4 F5 F6 F7 (fun _ => 1672) (fun _ => 0) (fun _ => 0) (fun _ => 0) (fun _ _ => 0), [(o, .inr (8, [.ref q1, .null, .null, .null, .null, .null, .int 0]))]]) rfl ?_
  refine r_putF (Cn := RX10) (T := TX10) (N := 7) C inT10 2 rfl rfl 1 (by decide) t_220 tyX10 tyX10_ok nmX10 rfl hin0 rfl rfl rfl (Nat.le_of_ble_eq_true rfl) (I' := [pileB cI cL q8 a11 F12 F13 F14 (fun _ => 1672) (fun _ => 0) (fun _ => 0) (fun _ => 0) (fun _ _ => 0), pileB cI cL q1 a4 F5 F6 F7 (fun _ => 1672) (fun _ => 0) (fun _ => 0) (fun _ => 0) (fun _ _ => 0), [(o, .inr (8, [.ref q1, .ref q8, .null, .null, .null, .null, .int 0]))]]) rfl dX10_init_23 ?_
  refine r_aload_n C dX10_init_26 0 rfl ?_
  refine r_new (Cn := RX1) (T := TX1) (N := 2) (ci := 0) (fs := [.null, .int 0]) C inT1 tyX1 tyX1_ok t_132 t_133 t_62 rfl (by intro j hj; rcases (show j = 0 ∨ j = 1 by omega) with rfl | rfl <;> rfl) ⟨Nat.le_of_ble_eq_true rfl, Nat.le_of_ble_eq_true rfl⟩ dX10_init_27 (fun q15 => ?_)
  refine r_ws (I' := [pileB cI cL q8 a11 F12 F13 F14 (fun _ => 1672) (fun _ => 0) (fun _ => 0) (fun _ => 0) (fun _ _ => 0), pileB cI cL q1 a4 F5 F6 F7 (fun _ => 1672) (fun _ => 0) (fun _ => 0) (fun _ => 0) (fun _ _ => 0), [(o, .inr (8, [.ref q1, .ref q8, .null, .null, .null, .null, .int 0]))], [(q15, .inr (0, [.null, .int 0]))]]) rfl ?_
  refine r_dup C dX10_init_30 rfl ?_
  refine r_callI (wc := [[(q15, .inr (0, [.null, .int 0]))]]) (wr := [pileB cI cL q8 a11 F12 F13 F14 (fun _ => 1672) (fun _ => 0) (fun _ => 0) (fun _ => 0) (fun _ _ => 0), pileB cI cL q1 a4 F5 F6 F7 (fun _ => 1672) (fun _ => 0) (fun _ => 0) (fun _ => 0) (fun _ _ => 0), [(o, .inr (8, [.ref q1, .ref q8, .null, .null, .null, .null, .int 0]))]]) (As := []) (st := [.ref q15, .ref o]) C hC (mc_X1_init l D cI cL cP cJ q15) k_X1_init t_134 [3, 0, 1, 2] (show ([3, 0, 1, 2] : List Nat).Perm (List.range 4) by decide) rfl rfl rfl (Nat.le_of_ble_eq_true rfl) ⟨Nat.le_of_ble_eq_true rfl, Nat.le_of_ble_eq_true rfl⟩ ⟨Nat.le_of_ble_eq_true rfl, Nat.le_of_ble_eq_true rfl⟩ dX10_init_31 (fun w116 hw17 => ?_)
  obtain ⟨a18, F19, F20, F21, F22, F23, rfl⟩ := hw17
  refine r_ws (I' := [histB cI cL cP q15 a18 F19 F20 F21 F22 F23 (fun _ _ => 1672) (fun _ _ => 0) (fun _ _ => 0) (fun _ _ => 0) (fun _ _ _ => 0) 0, pileB cI cL q8 a11 F12 F13 F14 (fun _ => 1672) (fun _ => 0) (fun _ => 0) (fun _ => 0) (fun _ _ => 0), pileB cI cL q1 a4 F5 F6 F7 (fun _ => 1672) (fun _ => 0) (fun _ => 0) (fun _ => 0) (fun _ _ => 0), [(o, .inr (8, [.ref q1, .ref q8, .null, .null, .null, .null, .int 0]))]]) rfl ?_
  refine r_putF (Cn := RX10) (T := TX10) (N := 7) C inT10 3 rfl rfl 2 (by decide) t_221 tyX10 tyX10_ok nmX10 rfl hin0 rfl rfl rfl (Nat.le_of_ble_eq_true rfl) (I' := [histB cI cL cP q15 a18 F19 F20 F21 F22 F23 (fun _ _ => 1672) (fun _ _ => 0) (fun _ _ => 0) (fun _ _ => 0) (fun _ _ _ => 0) 0, pileB cI cL q8 a11 F12 F13 F14 (fun _ => 1672) (fun _ => 0) (fun _ => 0) (fun _ => 0) (fun _ _ => 0), pileB cI cL q1 a4 F5 F6 F7 (fun _ => 1672) (fun _ => 0) (fun _ => 0) (fun _ => 0) (fun _ _ => 0), [(o, .inr (8, [.ref q1, .ref q8, .ref q15, .null, .null, .null, .int 0]))]]) rfl dX10_init_34 ?_
  refine r_aload_n C dX10_init_37 0 rfl ?_
  refine r_new (Cn := RX7) (T := TX7) (N := 2) (ci := 5) (fs := [.null, .null]) C inT7 tyX7 tyX7_ok t_148 t_149 t_63 rfl (by intro j hj; rcases (show j = 0 ∨ j = 1 by omega) with rfl | rfl <;> rfl) ⟨Nat.le_of_ble_eq_true rfl, Nat.le_of_ble_eq_true rfl⟩ dX10_init_38 (fun q24 => ?_)
  refine r_ws (I' := [histB cI cL cP q15 a18 F19 F20 F21 F22 F23 (fun _ _ => 1672) (fun _ _ => 0) (fun _ _ => 0) (fun _ _ => 0) (fun _ _ _ => 0) 0, pileB cI cL q8 a11 F12 F13 F14 (fun _ => 1672) (fun _ => 0) (fun _ => 0) (fun _ => 0) (fun _ _ => 0), pileB cI cL q1 a4 F5 F6 F7 (fun _ => 1672) (fun _ => 0) (fun _ => 0) (fun _ => 0) (fun _ _ => 0), [(o, .inr (8, [.ref q1, .ref q8, .ref q15, .null, .null, .null, .int 0]))], [(q24, .inr (5, [.null, .null]))]]) rfl ?_
  refine r_dup C dX10_init_41 rfl ?_
  refine r_callN (wc := [[(q24, .inr (5, [.null, .null]))]]) (wr := [histB cI cL cP q15 a18 F19 F20 F21 F22 F23 (fun _ _ => 1672) (fun _ _ => 0) (fun _ _ => 0) (fun _ _ => 0) (fun _ _ _ => 0) 0, pileB cI cL q8 a11 F12 F13 F14 (fun _ => 1672) (fun _ => 0) (fun _ => 0) (fun _ => 0) (fun _ _ => 0), pileB cI cL q1 a4 F5 F6 F7 (fun _ => 1672) (fun _ => 0) (fun _ => 0) (fun _ => 0) (fun _ _ => 0), [(o, .inr (8, [.ref q1, .ref q8, .ref q15, .null, .null, .null, .int 0]))]]) (As := []) (st := [.ref q24, .ref o]) C hC (mc_X7_init l D cI cL cP cJ q24) k_X7_init (List.mem_of_getElem? (i := 2) rfl) [4, 0, 1, 2, 3] (show ([4, 0, 1, 2, 3] : List Nat).Perm (List.range 5) by decide) rfl rfl rfl (Nat.le_of_ble_eq_true rfl) ⟨Nat.le_of_ble_eq_true rfl, Nat.le_of_ble_eq_true rfl⟩ ⟨Nat.le_of_ble_eq_true rfl, Nat.le_of_ble_eq_true rfl⟩ dX10_init_42 (fun w125 hw26 => ?_)
  obtain ⟨a27, a28, a29, rfl⟩ := hw26
  refine r_ws (I' := [txtB cI q24 a27 a28 a29 0 (fun _ => 0) 0 0, histB cI cL cP q15 a18 F19 F20 F21 F22 F23 (fun _ _ => 1672) (fun _ _ => 0) (fun _ _ => 0) (fun _ _ => 0) (fun _ _ _ => 0) 0, pileB cI cL q8 a11 F12 F13 F14 (fun _ => 1672) (fun _ => 0) (fun _ => 0) (fun _ => 0) (fun _ _ => 0), pileB cI cL q1 a4 F5 F6 F7 (fun _ => 1672) (fun _ => 0) (fun _ => 0) (fun _ => 0) (fun _ _ => 0), [(o, .inr (8, [.ref q1, .ref q8, .ref q15, .null, .null, .null, .int 0]))]]) rfl ?_
  refine r_putF (Cn := RX10) (T := TX10) (N := 7) C inT10 4 rfl rfl 3 (by decide) t_222 tyX10 tyX10_ok nmX10 rfl hin0 rfl rfl rfl (Nat.le_of_ble_eq_true rfl) (I' := [txtB cI q24 a27 a28 a29 0 (fun _ => 0) 0 0, histB cI cL cP q15 a18 F19 F20 F21 F22 F23 (fun _ _ => 1672) (fun _ _ => 0) (fun _ _ => 0) (fun _ _ => 0) (fun _ _ _ => 0) 0, pileB cI cL q8 a11 F12 F13 F14 (fun _ => 1672) (fun _ => 0) (fun _ => 0) (fun _ => 0) (fun _ _ => 0), pileB cI cL q1 a4 F5 F6 F7 (fun _ => 1672) (fun _ => 0) (fun _ => 0) (fun _ => 0) (fun _ _ => 0), [(o, .inr (8, [.ref q1, .ref q8, .ref q15, .ref q24, .null, .null, .int 0]))]]) rfl dX10_init_45 ?_
  refine r_aload_n C dX10_init_48 0 rfl ?_
  refine r_new (Cn := RX8) (T := TX8) (N := 5) (ci := 6) (fs := [.null, .null, .null, .int 0, .int 0]) C inT8 tyX8 tyX8_ok t_176 t_177 t_65 rfl (by intro j hj; rcases (show j = 0 ∨ j = 1 ∨ j = 2 ∨ j = 3 ∨ j = 4 by omega) with rfl | rfl | rfl | rfl | rfl <;> rfl) ⟨Nat.le_of_ble_eq_true rfl, Nat.le_of_ble_eq_true rfl⟩ dX10_init_49 (fun q30 => ?_)
  refine r_ws (I' := [txtB cI q24 a27 a28 a29 0 (fun _ => 0) 0 0, histB cI cL cP q15 a18 F19 F20 F21 F22 F23 (fun _ _ => 1672) (fun _ _ => 0) (fun _ _ => 0) (fun _ _ => 0) (fun _ _ _ => 0) 0, pileB cI cL q8 a11 F12 F13 F14 (fun _ => 1672) (fun _ => 0) (fun _ => 0) (fun _ => 0) (fun _ _ => 0), pileB cI cL q1 a4 F5 F6 F7 (fun _ => 1672) (fun _ => 0) (fun _ => 0) (fun _ => 0) (fun _ _ => 0), [(o, .inr (8, [.ref q1, .ref q8, .ref q15, .ref q24, .null, .null, .int 0]))], [(q30, .inr (6, [.null, .null, .null, .int 0, .int 0]))]]) rfl ?_
  refine r_dup C dX10_init_52 rfl ?_
  refine r_callN (wc := [[(q30, .inr (6, [.null, .null, .null, .int 0, .int 0]))]]) (wr := [txtB cI q24 a27 a28 a29 0 (fun _ => 0) 0 0, histB cI cL cP q15 a18 F19 F20 F21 F22 F23 (fun _ _ => 1672) (fun _ _ => 0) (fun _ _ => 0) (fun _ _ => 0) (fun _ _ _ => 0) 0, pileB cI cL q8 a11 F12 F13 F14 (fun _ => 1672) (fun _ => 0) (fun _ => 0) (fun _ => 0) (fun _ _ => 0), pileB cI cL q1 a4 F5 F6 F7 (fun _ => 1672) (fun _ => 0) (fun _ => 0) (fun _ => 0) (fun _ _ => 0), [(o, .inr (8, [.ref q1, .ref q8, .ref q15, .ref q24, .null, .null, .int 0]))]]) (As := []) (st := [.ref q30, .ref o]) C hC (mc_X8_init l D cI cL cP cJ q30) k_X8_init (List.mem_of_getElem? (i := 5) rfl) [5, 0, 1, 2, 3, 4] (show ([5, 0, 1, 2, 3, 4] : List Nat).Perm (List.range 6) by decide) rfl rfl rfl (Nat.le_of_ble_eq_true rfl) ⟨Nat.le_of_ble_eq_true rfl, Nat.le_of_ble_eq_true rfl⟩ ⟨Nat.le_of_ble_eq_true rfl, Nat.le_of_ble_eq_true rfl⟩ dX10_init_53 (fun w131 hw32 => ?_)
  obtain ⟨a33, a34, a35, a36, rfl⟩ := hw32
  refine r_ws (I' := [unrB cI q30 a33 a34 a35 a36 0 (fun _ => 0) (fun _ => 0) (fun _ => 0) 0 0, txtB cI q24 a27 a28 a29 0 (fun _ => 0) 0 0, histB cI cL cP q15 a18 F19 F20 F21 F22 F23 (fun _ _ => 1672) (fun _ _ => 0) (fun _ _ => 0) (fun _ _ => 0) (fun _ _ _ => 0) 0, pileB cI cL q8 a11 F12 F13 F14 (fun _ => 1672) (fun _ => 0) (fun _ => 0) (fun _ => 0) (fun _ _ => 0), pileB cI cL q1 a4 F5 F6 F7 (fun _ => 1672) (fun _ => 0) (fun _ => 0) (fun _ => 0) (fun _ _ => 0), [(o, .inr (8, [.ref q1, .ref q8, .ref q15, .ref q24, .null, .null, .int 0]))]]) rfl ?_
  refine r_putF (Cn := RX10) (T := TX10) (N := 7) C inT10 5 rfl rfl 4 (by decide) t_223 tyX10 tyX10_ok nmX10 rfl hin0 rfl rfl rfl (Nat.le_of_ble_eq_true rfl) (I' := [unrB cI q30 a33 a34 a35 a36 0 (fun _ => 0) (fun _ => 0) (fun _ => 0) 0 0, txtB cI q24 a27 a28 a29 0 (fun _ => 0) 0 0, histB cI cL cP q15 a18 F19 F20 F21 F22 F23 (fun _ _ => 1672) (fun _ _ => 0) (fun _ _ => 0) (fun _ _ => 0) (fun _ _ _ => 0) 0, pileB cI cL q8 a11 F12 F13 F14 (fun _ => 1672) (fun _ => 0) (fun _ => 0) (fun _ => 0) (fun _ _ => 0), pileB cI cL q1 a4 F5 F6 F7 (fun _ => 1672) (fun _ => 0) (fun _ => 0) (fun _ => 0) (fun _ _ => 0), [(o, .inr (8, [.ref q1, .ref q8, .ref q15, .ref q24, .ref q30, .null, .int 0]))]]) rfl dX10_init_56 ?_
  refine r_aload_n C dX10_init_59 0 rfl ?_
  refine r_new (Cn := RX9) (T := TX9) (N := 4) (ci := 7) (fs := [.null, .null, .null, .int 0]) C inT9 tyX9 tyX9_ok t_200 t_201 t_66 rfl (by intro j hj; rcases (show j = 0 ∨ j = 1 ∨ j = 2 ∨ j = 3 by omega) with rfl | rfl | rfl | rfl <;> rfl) ⟨Nat.le_of_ble_eq_true rfl, Nat.le_of_ble_eq_true rfl⟩ dX10_init_60 (fun q37 => ?_)
  refine r_ws (I' := [unrB cI q30 a33 a34 a35 a36 0 (fun _ => 0) (fun _ => 0) (fun _ => 0) 0 0, txtB cI q24 a27 a28 a29 0 (fun _ => 0) 0 0, histB cI cL cP q15 a18 F19 F20 F21 F22 F23 (fun _ _ => 1672) (fun _ _ => 0) (fun _ _ => 0) (fun _ _ => 0) (fun _ _ _ => 0) 0, pileB cI cL q8 a11 F12 F13 F14 (fun _ => 1672) (fun _ => 0) (fun _ => 0) (fun _ => 0) (fun _ _ => 0), pileB cI cL q1 a4 F5 F6 F7 (fun _ => 1672) (fun _ => 0) (fun _ => 0) (fun _ => 0) (fun _ _ => 0), [(o, .inr (8, [.ref q1, .ref q8, .ref q15, .ref q24, .ref q30, .null, .int 0]))], [(q37, .inr (7, [.null, .null, .null, .int 0]))]]) rfl ?_
  refine r_dup C dX10_init_63 rfl ?_
  refine r_callN (wc := [[(q37, .inr (7, [.null, .null, .null, .int 0]))]]) (wr := [unrB cI q30 a33 a34 a35 a36 0 (fun _ => 0) (fun _ => 0) (fun _ => 0) 0 0, txtB cI q24 a27 a28 a29 0 (fun _ => 0) 0 0, histB cI cL cP q15 a18 F19 F20 F21 F22 F23 (fun _ _ => 1672) (fun _ _ => 0) (fun _ _ => 0) (fun _ _ => 0) (fun _ _ _ => 0) 0, pileB cI cL q8 a11 F12 F13 F14 (fun _ => 1672) (fun _ => 0) (fun _ => 0) (fun _ => 0) (fun _ _ => 0), pileB cI cL q1 a4 F5 F6 F7 (fun _ => 1672) (fun _ => 0) (fun _ => 0) (fun _ => 0) (fun _ _ => 0), [(o, .inr (8, [.ref q1, .ref q8, .ref q15, .ref q24, .ref q30, .null, .int 0]))]]) (As := []) (st := [.ref q37, .ref o]) C hC (mc_X9_init l D cI cL cP cJ q37) k_X9_init (List.mem_of_getElem? (i := 7) rfl) [6, 0, 1, 2, 3, 4, 5] (show ([6, 0, 1, 2, 3, 4, 5] : List Nat).Perm (List.range 7) by decide) rfl rfl rfl (Nat.le_of_ble_eq_true rfl) ⟨Nat.le_of_ble_eq_true rfl, Nat.le_of_ble_eq_true rfl⟩ ⟨Nat.le_of_ble_eq_true rfl, Nat.le_of_ble_eq_true rfl⟩ dX10_init_64 (fun w138 hw39 => ?_)
  obtain ⟨a40, a41, a42, rfl⟩ := hw39
  refine r_ws (I' := [walB cI q37 a40 a41 a42 (fun _ => 0) (fun _ => 0) (fun _ => 0) 0, unrB cI q30 a33 a34 a35 a36 0 (fun _ => 0) (fun _ => 0) (fun _ => 0) 0 0, txtB cI q24 a27 a28 a29 0 (fun _ => 0) 0 0, histB cI cL cP q15 a18 F19 F20 F21 F22 F23 (fun _ _ => 1672) (fun _ _ => 0) (fun _ _ => 0) (fun _ _ => 0) (fun _ _ _ => 0) 0, pileB cI cL q8 a11 F12 F13 F14 (fun _ => 1672) (fun _ => 0) (fun _ => 0) (fun _ => 0) (fun _ _ => 0), pileB cI cL q1 a4 F5 F6 F7 (fun _ => 1672) (fun _ => 0) (fun _ => 0) (fun _ => 0) (fun _ _ => 0), [(o, .inr (8, [.ref q1, .ref q8, .ref q15, .ref q24, .ref q30, .null, .int 0]))]]) rfl ?_
  refine r_putF (Cn := RX10) (T := TX10) (N := 7) C inT10 6 rfl rfl 5 (by decide) t_224 tyX10 tyX10_ok nmX10 rfl hin0 rfl rfl rfl (Nat.le_of_ble_eq_true rfl) (I' := [walB cI q37 a40 a41 a42 (fun _ => 0) (fun _ => 0) (fun _ => 0) 0, unrB cI q30 a33 a34 a35 a36 0 (fun _ => 0) (fun _ => 0) (fun _ => 0) 0 0, txtB cI q24 a27 a28 a29 0 (fun _ => 0) 0 0, histB cI cL cP q15 a18 F19 F20 F21 F22 F23 (fun _ _ => 1672) (fun _ _ => 0) (fun _ _ => 0) (fun _ _ => 0) (fun _ _ _ => 0) 0, pileB cI cL q8 a11 F12 F13 F14 (fun _ => 1672) (fun _ => 0) (fun _ => 0) (fun _ => 0) (fun _ _ => 0), pileB cI cL q1 a4 F5 F6 F7 (fun _ => 1672) (fun _ => 0) (fun _ => 0) (fun _ => 0) (fun _ _ => 0), [(o, .inr (8, [.ref q1, .ref q8, .ref q15, .ref q24, .ref q30, .ref q37, .int 0]))]]) rfl dX10_init_67 ?_
  refine r_pl (I' := [[(o, .inr (8, [.ref q1, .ref q8, .ref q15, .ref q24, .ref q30, .ref q37, .int 0]))], pileB cI cL q1 a4 F5 F6 F7 (fun _ => 1672) (fun _ => 0) (fun _ => 0) (fun _ => 0) (fun _ _ => 0), pileB cI cL q8 a11 F12 F13 F14 (fun _ => 1672) (fun _ => 0) (fun _ => 0) (fun _ => 0) (fun _ _ => 0), histB cI cL cP q15 a18 F19 F20 F21 F22 F23 (fun _ _ => 1672) (fun _ _ => 0) (fun _ _ => 0) (fun _ _ => 0) (fun _ _ _ => 0) 0, txtB cI q24 a27 a28 a29 0 (fun _ => 0) 0 0, unrB cI q30 a33 a34 a35 a36 0 (fun _ => 0) (fun _ => 0) (fun _ => 0) 0 0, walB cI q37 a40 a41 a42 (fun _ => 0) (fun _ => 0) (fun _ => 0) 0]) [6, 5, 4, 3, 2, 1, 0] (show ([6, 5, 4, 3, 2, 1, 0] : List Nat).Perm (List.range 7) by decide) rfl ?_
  exact r_vret (r := ()) C hA hr hlo dX10_init_70 [[(o, .inr (8, [.ref q1, .ref q8, .ref q15, .ref q24, .ref q30, .ref q37, .int 0]))], pileB cI cL q1 a4 F5 F6 F7 (fun _ => 1672) (fun _ => 0) (fun _ => 0) (fun _ => 0) (fun _ _ => 0), pileB cI cL q8 a11 F12 F13 F14 (fun _ => 1672) (fun _ => 0) (fun _ => 0) (fun _ => 0) (fun _ _ => 0), histB cI cL cP q15 a18 F19 F20 F21 F22 F23 (fun _ _ => 1672) (fun _ _ => 0) (fun _ _ => 0) (fun _ _ => 0) (fun _ _ _ => 0) 0, txtB cI q24 a27 a28 a29 0 (fun _ => 0) 0 0, unrB cI q30 a33 a34 a35 a36 0 (fun _ => 0) (fun _ => 0) (fun _ => 0) 0 0, walB cI q37 a40 a41 a42 (fun _ => 0) (fun _ => 0) (fun _ => 0) 0] ⟨q1, a4, F5, F6, F7, q8, a11, F12, F13, F14, q15, a18, F19, F20, F21, F22, F23, q24, a27, a28, a29, q30, a33, a34, a35, a36, q37, a40, a41, a42, rfl⟩ rfl hQ
def s0_init : Nat → Int32 := (upd (upd (upd (upd (upd (upd (upd (upd (upd (upd (upd (upd (upd (upd (upd (upd (upd (upd (upd (upd (fun _ => 0) 0 1) 1 2) 2 3) 3 4) 67 1) 68 2) 69 3) 70 4) 134 1) 135 2) 136 3) 137 4) 201 1) 202 2) 203 3) 204 4) 268 1) 269 2) 270 3) 271 4)
theorem k_X11_init : kI yX11_init cX11_init 2 0 := ⟨t_890, t_67, t_891, rfl, by decide +kernel, by decide +kernel, by decide +kernel⟩
set_option maxRecDepth 20000 in
set_option maxHeartbeats 8000000 in
theorem mc_X11_init (l : Launch) (D : va_G) (cI cL cP cJ : ClassId) (o : Nat) : MC l yX11_init cX11_init 2 1 20 12 9745 D (tyF cI cL cP cJ) [.ref o] [[(o, .inr (9, [.null, .null, .int 0, .null, .int 0, .null, .int 0, .int 0, .null, .null, .null, .null, .int 0, .null, .null, .null, .null, .long 0]))]] (fun (_ : Unit) (w1 : List va_W) => ∃ aS : Nat, ∃ aPast : Nat, ∃ aSnap : Nat, ∃ aText : Nat, ∃ aOne : Nat, ∃ aTwo : Nat, ∃ aBoth : Nat, ∃ aWord : Nat, ∃ aOpen : Nat, ∃ aTimes : Nat, ∃ aFar : Nat, ∃ aQueue : Nat, w1 = [[(o, .inr (9, [.ref aS, .ref aPast, .int 0, .ref aSnap, .int 0, .ref aText, .int 0, .int 0, .ref aOne, .ref aTwo, .ref aBoth, .ref aWord, .int 0, .ref aOpen, .ref aTimes, .ref aFar, .ref aQueue, .long 0]))], [(aS, .inl (cI, 335, .inl s0_init))], [(aPast, .inl (cI, 2010, .inl (fun _ => 0)))], [(aSnap, .inl (cI, 335, .inl (fun _ => 0)))], [(aText, .inl (cI, 60, .inl (fun _ => 0)))], [(aOne, .inl (cI, 4, .inl (fun _ => 0)))], [(aTwo, .inl (cI, 4, .inl (fun _ => 0)))], [(aBoth, .inl (cI, 4, .inl (fun _ => 0)))], [(aWord, .inl (cI, 20, .inl (fun _ => 0)))], [(aOpen, .inl (cI, 6, .inl (fun _ => 0)))], [(aTimes, .inl (cI, 6, .inl (fun _ => 0)))], [(aFar, .inl (cI, 6561, .inl (fun _ => 0)))], [(aQueue, .inl (cI, 400, .inl (fun _ => 0)))]]) := by
  refine mc_start (by decide +kernel) (by decide +kernel) (Nat.le_of_ble_eq_true rfl) (fun p e s m args below meth c A Q hA hQ C hr hlo hin0 hC => ?_)
  refine r_Le (L' := [(0, .ref o)]) rfl ?_
  refine r_aload_n C dX11_init_0 0 rfl ?_
  refine r_obj C t_892 t_86 t_87 ⟨Nat.le_of_ble_eq_true rfl, Nat.le_of_ble_eq_true rfl⟩ dX11_init_1 ?_
  refine r_aload_n C dX11_init_4 0 rfl ?_
  refine r_sipush (v := 335) C dX11_init_5 (by decide) ?_
  refine r_newI C 0 rfl t_114 335 (by decide) (by decide) (by decide) ⟨Nat.le_of_ble_eq_true rfl, Nat.le_of_ble_eq_true rfl⟩ dX11_init_8 (fun q1 => ?_)
  refine r_ws (I' := [[(o, .inr (9, [.null, .null, .int 0, .null, .int 0, .null, .int 0, .int 0, .null, .null, .null, .null, .int 0, .null, .null, .null, .null, .long 0]))], [(q1, .inl (cI, 335, .inl (fun _ => 0)))]]) rfl ?_
  refine r_putF (Cn := RX11) (T := TX11) (N := 18) C inT11 0 rfl rfl 0 (by decide) t_893 tyX11 tyX11_ok nmX11 rfl hin0 rfl rfl rfl (Nat.le_of_ble_eq_true rfl) (I' := [[(o, .inr (9, [.ref q1, .null, .int 0, .null, .int 0, .null, .int 0, .int 0, .null, .null, .null, .null, .int 0, .null, .null, .null, .null, .long 0]))], [(q1, .inl (cI, 335, .inl (fun _ => 0)))]]) rfl dX11_init_10 ?_
  refine r_aload_n C dX11_init_13 0 rfl ?_
  refine r_sipush (v := 2010) C dX11_init_14 (by decide) ?_
  refine r_newI C 0 rfl t_114 2010 (by decide) (by decide) (by decide) ⟨Nat.le_of_ble_eq_true rfl, Nat.le_of_ble_eq_true rfl⟩ dX11_init_17 (fun q2 => ?_)
  refine r_ws (I' := [[(o, .inr (9, [.ref q1, .null, .int 0, .null, .int 0, .null, .int 0, .int 0, .null, .null, .null, .null, .int 0, .null, .null, .null, .null, .long 0]))], [(q1, .inl (cI, 335, .inl (fun _ => 0)))], [(q2, .inl (cI, 2010, .inl (fun _ => 0)))]]) rfl ?_
  refine r_putF (Cn := RX11) (T := TX11) (N := 18) C inT11 0 rfl rfl 1 (by decide) t_894 tyX11 tyX11_ok nmX11 rfl hin0 rfl rfl rfl (Nat.le_of_ble_eq_true rfl) (I' := [[(o, .inr (9, [.ref q1, .ref q2, .int 0, .null, .int 0, .null, .int 0, .int 0, .null, .null, .null, .null, .int 0, .null, .null, .null, .null, .long 0]))], [(q1, .inl (cI, 335, .inl (fun _ => 0)))], [(q2, .inl (cI, 2010, .inl (fun _ => 0)))]]) rfl dX11_init_19 ?_
  refine r_aload_n C dX11_init_22 0 rfl ?_
  refine r_sipush (v := 335) C dX11_init_23 (by decide) ?_
  refine r_newI C 0 rfl t_114 335 (by decide) (by decide) (by decide) ⟨Nat.le_of_ble_eq_true rfl, Nat.le_of_ble_eq_true rfl⟩ dX11_init_26 (fun q3 => ?_)
  refine r_ws (I' := [[(o, .inr (9, [.ref q1, .ref q2, .int 0, .null, .int 0, .null, .int 0, .int 0, .null, .null, .null, .null, .int 0, .null, .null, .null, .null, .long 0]))], [(q1, .inl (cI, 335, .inl (fun _ => 0)))], [(q2, .inl (cI, 2010, .inl (fun _ => 0)))], [(q3, .inl (cI, 335, .inl (fun _ => 0)))]]) rfl ?_
  refine r_putF (Cn := RX11) (T := TX11) (N := 18) C inT11 0 rfl rfl 3 (by decide) t_896 tyX11 tyX11_ok nmX11 rfl hin0 rfl rfl rfl (Nat.le_of_ble_eq_true rfl) (I' := [[(o, .inr (9, [.ref q1, .ref q2, .int 0, .ref q3, .int 0, .null, .int 0, .int 0, .null, .null, .null, .null, .int 0, .null, .null, .null, .null, .long 0]))], [(q1, .inl (cI, 335, .inl (fun _ => 0)))], [(q2, .inl (cI, 2010, .inl (fun _ => 0)))], [(q3, .inl (cI, 335, .inl (fun _ => 0)))]]) rfl dX11_init_28 ?_
  refine r_aload_n C dX11_init_31 0 rfl ?_
  refine r_bipush (v := 60) C dX11_init_32 (by decide) ?_
  refine r_newI C 0 rfl t_114 60 (by decide) (by decide) (by decide) ⟨Nat.le_of_ble_eq_true rfl, Nat.le_of_ble_eq_true rfl⟩ dX11_init_34 (fun q4 => ?_)
  refine r_ws (I' := [[(o, .inr (9, [.ref q1, .ref q2, .int 0, .ref q3, .int 0, .null, .int 0, .int 0, .null, .null, .null, .null, .int 0, .null, .null, .null, .null, .long 0]))], [(q1, .inl (cI, 335, .inl (fun _ => 0)))], [(q2, .inl (cI, 2010, .inl (fun _ => 0)))], [(q3, .inl (cI, 335, .inl (fun _ => 0)))], [(q4, .inl (cI, 60, .inl (fun _ => 0)))]]) rfl ?_
  refine r_putF (Cn := RX11) (T := TX11) (N := 18) C inT11 0 rfl rfl 5 (by decide) t_898 tyX11 tyX11_ok nmX11 rfl hin0 rfl rfl rfl (Nat.le_of_ble_eq_true rfl) (I' := [[(o, .inr (9, [.ref q1, .ref q2, .int 0, .ref q3, .int 0, .ref q4, .int 0, .int 0, .null, .null, .null, .null, .int 0, .null, .null, .null, .null, .long 0]))], [(q1, .inl (cI, 335, .inl (fun _ => 0)))], [(q2, .inl (cI, 2010, .inl (fun _ => 0)))], [(q3, .inl (cI, 335, .inl (fun _ => 0)))], [(q4, .inl (cI, 60, .inl (fun _ => 0)))]]) rfl dX11_init_36 ?_
  refine r_aload_n C dX11_init_39 0 rfl ?_
  refine r_iconst (v := 4) C dX11_init_40 (by decide) ?_
  refine r_newI C 0 rfl t_114 4 (by decide) (by decide) (by decide) ⟨Nat.le_of_ble_eq_true rfl, Nat.le_of_ble_eq_true rfl⟩ dX11_init_41 (fun q5 => ?_)
  refine r_ws (I' := [[(o, .inr (9, [.ref q1, .ref q2, .int 0, .ref q3, .int 0, .ref q4, .int 0, .int 0, .null, .null, .null, .null, .int 0, .null, .null, .null, .null, .long 0]))], [(q1, .inl (cI, 335, .inl (fun _ => 0)))], [(q2, .inl (cI, 2010, .inl (fun _ => 0)))], [(q3, .inl (cI, 335, .inl (fun _ => 0)))], [(q4, .inl (cI, 60, .inl (fun _ => 0)))], [(q5, .inl (cI, 4, .inl (fun _ => 0)))]]) rfl ?_
  refine r_putF (Cn := RX11) (T := TX11) (N := 18) C inT11 0 rfl rfl 8 (by decide) t_901 tyX11 tyX11_ok nmX11 rfl hin0 rfl rfl rfl (Nat.le_of_ble_eq_true rfl) (I' := [[(o, .inr (9, [.ref q1, .ref q2, .int 0, .ref q3, .int 0, .ref q4, .int 0, .int 0, .ref q5, .null, .null, .null, .int 0, .null, .null, .null, .null, .long 0]))], [(q1, .inl (cI, 335, .inl (fun _ => 0)))], [(q2, .inl (cI, 2010, .inl (fun _ => 0)))], [(q3, .inl (cI, 335, .inl (fun _ => 0)))], [(q4, .inl (cI, 60, .inl (fun _ => 0)))], [(q5, .inl (cI, 4, .inl (fun _ => 0)))]]) rfl dX11_init_43 ?_
  refine r_aload_n C dX11_init_46 0 rfl ?_
  refine r_iconst (v := 4) C dX11_init_47 (by decide) ?_
  refine r_newI C 0 rfl t_114 4 (by decide) (by decide) (by decide) ⟨Nat.le_of_ble_eq_true rfl, Nat.le_of_ble_eq_true rfl⟩ dX11_init_48 (fun q6 => ?_)
  refine r_ws (I' := [[(o, .inr (9, [.ref q1, .ref q2, .int 0, .ref q3, .int 0, .ref q4, .int 0, .int 0, .ref q5, .null, .null, .null, .int 0, .null, .null, .null, .null, .long 0]))], [(q1, .inl (cI, 335, .inl (fun _ => 0)))], [(q2, .inl (cI, 2010, .inl (fun _ => 0)))], [(q3, .inl (cI, 335, .inl (fun _ => 0)))], [(q4, .inl (cI, 60, .inl (fun _ => 0)))], [(q5, .inl (cI, 4, .inl (fun _ => 0)))], [(q6, .inl (cI, 4, .inl (fun _ => 0)))]]) rfl ?_
  refine r_putF (Cn := RX11) (T := TX11) (N := 18) C inT11 0 rfl rfl 9 (by decide) t_902 tyX11 tyX11_ok nmX11 rfl hin0 rfl rfl rfl (Nat.le_of_ble_eq_true rfl) (I' := [[(o, .inr (9, [.ref q1, .ref q2, .int 0, .ref q3, .int 0, .ref q4, .int 0, .int 0, .ref q5, .ref q6, .null, .null, .int 0, .null, .null, .null, .null, .long 0]))], [(q1, .inl (cI, 335, .inl (fun _ => 0)))], [(q2, .inl (cI, 2010, .inl (fun _ => 0)))], [(q3, .inl (cI, 335, .inl (fun _ => 0)))], [(q4, .inl (cI, 60, .inl (fun _ => 0)))], [(q5, .inl (cI, 4, .inl (fun _ => 0)))], [(q6, .inl (cI, 4, .inl (fun _ => 0)))]]) rfl dX11_init_50 ?_
  refine r_aload_n C dX11_init_53 0 rfl ?_
  refine r_iconst (v := 4) C dX11_init_54 (by decide) ?_
  refine r_newI C 0 rfl t_114 4 (by decide) (by decide) (by decide) ⟨Nat.le_of_ble_eq_true rfl, Nat.le_of_ble_eq_true rfl⟩ dX11_init_55 (fun q7 => ?_)
  refine r_ws (I' := [[(o, .inr (9, [.ref q1, .ref q2, .int 0, .ref q3, .int 0, .ref q4, .int 0, .int 0, .ref q5, .ref q6, .null, .null, .int 0, .null, .null, .null, .null, .long 0]))], [(q1, .inl (cI, 335, .inl (fun _ => 0)))], [(q2, .inl (cI, 2010, .inl (fun _ => 0)))], [(q3, .inl (cI, 335, .inl (fun _ => 0)))], [(q4, .inl (cI, 60, .inl (fun _ => 0)))], [(q5, .inl (cI, 4, .inl (fun _ => 0)))], [(q6, .inl (cI, 4, .inl (fun _ => 0)))], [(q7, .inl (cI, 4, .inl (fun _ => 0)))]]) rfl ?_
  refine r_putF (Cn := RX11) (T := TX11) (N := 18) C inT11 0 rfl rfl 10 (by decide) t_903 tyX11 tyX11_ok nmX11 rfl hin0 rfl rfl rfl (Nat.le_of_ble_eq_true rfl) (I' := [[(o, .inr (9, [.ref q1, .ref q2, .int 0, .ref q3, .int 0, .ref q4, .int 0, .int 0, .ref q5, .ref q6, .ref q7, .null, .int 0, .null, .null, .null, .null, .long 0]))], [(q1, .inl (cI, 335, .inl (fun _ => 0)))], [(q2, .inl (cI, 2010, .inl (fun _ => 0)))], [(q3, .inl (cI, 335, .inl (fun _ => 0)))], [(q4, .inl (cI, 60, .inl (fun _ => 0)))], [(q5, .inl (cI, 4, .inl (fun _ => 0)))], [(q6, .inl (cI, 4, .inl (fun _ => 0)))], [(q7, .inl (cI, 4, .inl (fun _ => 0)))]]) rfl dX11_init_57 ?_
  refine r_aload_n C dX11_init_60 0 rfl ?_
  refine r_bipush (v := 20) C dX11_init_61 (by decide) ?_
  refine r_newI C 0 rfl t_114 20 (by decide) (by decide) (by decide) ⟨Nat.le_of_ble_eq_true rfl, Nat.le_of_ble_eq_true rfl⟩ dX11_init_63 (fun q8 => ?_)
  refine r_ws (I' := [[(o, .inr (9, [.ref q1, .ref q2, .int 0, .ref q3, .int 0, .ref q4, .int 0, .int 0, .ref q5, .ref q6, .ref q7, .null, .int 0, .null, .null, .null, .null, .long 0]))], [(q1, .inl (cI, 335, .inl (fun _ => 0)))], [(q2, .inl (cI, 2010, .inl (fun _ => 0)))], [(q3, .inl (cI, 335, .inl (fun _ => 0)))], [(q4, .inl (cI, 60, .inl (fun _ => 0)))], [(q5, .inl (cI, 4, .inl (fun _ => 0)))], [(q6, .inl (cI, 4, .inl (fun _ => 0)))], [(q7, .inl (cI, 4, .inl (fun _ => 0)))], [(q8, .inl (cI, 20, .inl (fun _ => 0)))]]) rfl ?_
  refine r_putF (Cn := RX11) (T := TX11) (N := 18) C inT11 0 rfl rfl 11 (by decide) t_904 tyX11 tyX11_ok nmX11 rfl hin0 rfl rfl rfl (Nat.le_of_ble_eq_true rfl) (I' := [[(o, .inr (9, [.ref q1, .ref q2, .int 0, .ref q3, .int 0, .ref q4, .int 0, .int 0, .ref q5, .ref q6, .ref q7, .ref q8, .int 0, .null, .null, .null, .null, .long 0]))], [(q1, .inl (cI, 335, .inl (fun _ => 0)))], [(q2, .inl (cI, 2010, .inl (fun _ => 0)))], [(q3, .inl (cI, 335, .inl (fun _ => 0)))], [(q4, .inl (cI, 60, .inl (fun _ => 0)))], [(q5, .inl (cI, 4, .inl (fun _ => 0)))], [(q6, .inl (cI, 4, .inl (fun _ => 0)))], [(q7, .inl (cI, 4, .inl (fun _ => 0)))], [(q8, .inl (cI, 20, .inl (fun _ => 0)))]]) rfl dX11_init_65 ?_
  refine r_aload_n C dX11_init_68 0 rfl ?_
  refine r_bipush (v := 6) C dX11_init_69 (by decide) ?_
  refine r_newI C 0 rfl t_114 6 (by decide) (by decide) (by decide) ⟨Nat.le_of_ble_eq_true rfl, Nat.le_of_ble_eq_true rfl⟩ dX11_init_71 (fun q9 => ?_)
  refine r_ws (I' := [[(o, .inr (9, [.ref q1, .ref q2, .int 0, .ref q3, .int 0, .ref q4, .int 0, .int 0, .ref q5, .ref q6, .ref q7, .ref q8, .int 0, .null, .null, .null, .null, .long 0]))], [(q1, .inl (cI, 335, .inl (fun _ => 0)))], [(q2, .inl (cI, 2010, .inl (fun _ => 0)))], [(q3, .inl (cI, 335, .inl (fun _ => 0)))], [(q4, .inl (cI, 60, .inl (fun _ => 0)))], [(q5, .inl (cI, 4, .inl (fun _ => 0)))], [(q6, .inl (cI, 4, .inl (fun _ => 0)))], [(q7, .inl (cI, 4, .inl (fun _ => 0)))], [(q8, .inl (cI, 20, .inl (fun _ => 0)))], [(q9, .inl (cI, 6, .inl (fun _ => 0)))]]) rfl ?_
  refine r_putF (Cn := RX11) (T := TX11) (N := 18) C inT11 0 rfl rfl 13 (by decide) t_906 tyX11 tyX11_ok nmX11 rfl hin0 rfl rfl rfl (Nat.le_of_ble_eq_true rfl) (I' := [[(o, .inr (9, [.ref q1, .ref q2, .int 0, .ref q3, .int 0, .ref q4, .int 0, .int 0, .ref q5, .ref q6, .ref q7, .ref q8, .int 0, .ref q9, .null, .null, .null, .long 0]))], [(q1, .inl (cI, 335, .inl (fun _ => 0)))], [(q2, .inl (cI, 2010, .inl (fun _ => 0)))], [(q3, .inl (cI, 335, .inl (fun _ => 0)))], [(q4, .inl (cI, 60, .inl (fun _ => 0)))], [(q5, .inl (cI, 4, .inl (fun _ => 0)))], [(q6, .inl (cI, 4, .inl (fun _ => 0)))], [(q7, .inl (cI, 4, .inl (fun _ => 0)))], [(q8, .inl (cI, 20, .inl (fun _ => 0)))], [(q9, .inl (cI, 6, .inl (fun _ => 0)))]]) rfl dX11_init_73 ?_
  refine r_aload_n C dX11_init_76 0 rfl ?_
  refine r_bipush (v := 6) C dX11_init_77 (by decide) ?_
  refine r_newI C 0 rfl t_114 6 (by decide) (by decide) (by decide) ⟨Nat.le_of_ble_eq_true rfl, Nat.le_of_ble_eq_true rfl⟩ dX11_init_79 (fun q10 => ?_)
  refine r_ws (I' := [[(o, .inr (9, [.ref q1, .ref q2, .int 0, .ref q3, .int 0, .ref q4, .int 0, .int 0, .ref q5, .ref q6, .ref q7, .ref q8, .int 0, .ref q9, .null, .null, .null, .long 0]))], [(q1, .inl (cI, 335, .inl (fun _ => 0)))], [(q2, .inl (cI, 2010, .inl (fun _ => 0)))], [(q3, .inl (cI, 335, .inl (fun _ => 0)))], [(q4, .inl (cI, 60, .inl (fun _ => 0)))], [(q5, .inl (cI, 4, .inl (fun _ => 0)))], [(q6, .inl (cI, 4, .inl (fun _ => 0)))], [(q7, .inl (cI, 4, .inl (fun _ => 0)))], [(q8, .inl (cI, 20, .inl (fun _ => 0)))], [(q9, .inl (cI, 6, .inl (fun _ => 0)))], [(q10, .inl (cI, 6, .inl (fun _ => 0)))]]) rfl ?_
  refine r_putF (Cn := RX11) (T := TX11) (N := 18) C inT11 0 rfl rfl 14 (by decide) t_907 tyX11 tyX11_ok nmX11 rfl hin0 rfl rfl rfl (Nat.le_of_ble_eq_true rfl) (I' := [[(o, .inr (9, [.ref q1, .ref q2, .int 0, .ref q3, .int 0, .ref q4, .int 0, .int 0, .ref q5, .ref q6, .ref q7, .ref q8, .int 0, .ref q9, .ref q10, .null, .null, .long 0]))], [(q1, .inl (cI, 335, .inl (fun _ => 0)))], [(q2, .inl (cI, 2010, .inl (fun _ => 0)))], [(q3, .inl (cI, 335, .inl (fun _ => 0)))], [(q4, .inl (cI, 60, .inl (fun _ => 0)))], [(q5, .inl (cI, 4, .inl (fun _ => 0)))], [(q6, .inl (cI, 4, .inl (fun _ => 0)))], [(q7, .inl (cI, 4, .inl (fun _ => 0)))], [(q8, .inl (cI, 20, .inl (fun _ => 0)))], [(q9, .inl (cI, 6, .inl (fun _ => 0)))], [(q10, .inl (cI, 6, .inl (fun _ => 0)))]]) rfl dX11_init_81 ?_
  refine r_aload_n C dX11_init_84 0 rfl ?_
  refine r_sipush (v := 6561) C dX11_init_85 (by decide) ?_
  refine r_newI C 0 rfl t_114 6561 (by decide) (by decide) (by decide) ⟨Nat.le_of_ble_eq_true rfl, Nat.le_of_ble_eq_true rfl⟩ dX11_init_88 (fun q11 => ?_)
  refine r_ws (I' := [[(o, .inr (9, [.ref q1, .ref q2, .int 0, .ref q3, .int 0, .ref q4, .int 0, .int 0, .ref q5, .ref q6, .ref q7, .ref q8, .int 0, .ref q9, .ref q10, .null, .null, .long 0]))], [(q1, .inl (cI, 335, .inl (fun _ => 0)))], [(q2, .inl (cI, 2010, .inl (fun _ => 0)))], [(q3, .inl (cI, 335, .inl (fun _ => 0)))], [(q4, .inl (cI, 60, .inl (fun _ => 0)))], [(q5, .inl (cI, 4, .inl (fun _ => 0)))], [(q6, .inl (cI, 4, .inl (fun _ => 0)))], [(q7, .inl (cI, 4, .inl (fun _ => 0)))], [(q8, .inl (cI, 20, .inl (fun _ => 0)))], [(q9, .inl (cI, 6, .inl (fun _ => 0)))], [(q10, .inl (cI, 6, .inl (fun _ => 0)))], [(q11, .inl (cI, 6561, .inl (fun _ => 0)))]]) rfl ?_
  refine r_putF (Cn := RX11) (T := TX11) (N := 18) C inT11 0 rfl rfl 15 (by decide) t_908 tyX11 tyX11_ok nmX11 rfl hin0 rfl rfl rfl (Nat.le_of_ble_eq_true rfl) (I' := [[(o, .inr (9, [.ref q1, .ref q2, .int 0, .ref q3, .int 0, .ref q4, .int 0, .int 0, .ref q5, .ref q6, .ref q7, .ref q8, .int 0, .ref q9, .ref q10, .ref q11, .null, .long 0]))], [(q1, .inl (cI, 335, .inl (fun _ => 0)))], [(q2, .inl (cI, 2010, .inl (fun _ => 0)))], [(q3, .inl (cI, 335, .inl (fun _ => 0)))], [(q4, .inl (cI, 60, .inl (fun _ => 0)))], [(q5, .inl (cI, 4, .inl (fun _ => 0)))], [(q6, .inl (cI, 4, .inl (fun _ => 0)))], [(q7, .inl (cI, 4, .inl (fun _ => 0)))], [(q8, .inl (cI, 20, .inl (fun _ => 0)))], [(q9, .inl (cI, 6, .inl (fun _ => 0)))], [(q10, .inl (cI, 6, .inl (fun _ => 0)))], [(q11, .inl (cI, 6561, .inl (fun _ => 0)))]]) rfl dX11_init_90 ?_
  refine r_aload_n C dX11_init_93 0 rfl ?_
  refine r_sipush (v := 400) C dX11_init_94 (by decide) ?_
  refine r_newI C 0 rfl t_114 400 (by decide) (by decide) (by decide) ⟨Nat.le_of_ble_eq_true rfl, Nat.le_of_ble_eq_true rfl⟩ dX11_init_97 (fun q12 => ?_)
  refine r_ws (I' := [[(o, .inr (9, [.ref q1, .ref q2, .int 0, .ref q3, .int 0, .ref q4, .int 0, .int 0, .ref q5, .ref q6, .ref q7, .ref q8, .int 0, .ref q9, .ref q10, .ref q11, .null, .long 0]))], [(q1, .inl (cI, 335, .inl (fun _ => 0)))], [(q2, .inl (cI, 2010, .inl (fun _ => 0)))], [(q3, .inl (cI, 335, .inl (fun _ => 0)))], [(q4, .inl (cI, 60, .inl (fun _ => 0)))], [(q5, .inl (cI, 4, .inl (fun _ => 0)))], [(q6, .inl (cI, 4, .inl (fun _ => 0)))], [(q7, .inl (cI, 4, .inl (fun _ => 0)))], [(q8, .inl (cI, 20, .inl (fun _ => 0)))], [(q9, .inl (cI, 6, .inl (fun _ => 0)))], [(q10, .inl (cI, 6, .inl (fun _ => 0)))], [(q11, .inl (cI, 6561, .inl (fun _ => 0)))], [(q12, .inl (cI, 400, .inl (fun _ => 0)))]]) rfl ?_
  refine r_putF (Cn := RX11) (T := TX11) (N := 18) C inT11 0 rfl rfl 16 (by decide) t_909 tyX11 tyX11_ok nmX11 rfl hin0 rfl rfl rfl (Nat.le_of_ble_eq_true rfl) (I' := [[(o, .inr (9, [.ref q1, .ref q2, .int 0, .ref q3, .int 0, .ref q4, .int 0, .int 0, .ref q5, .ref q6, .ref q7, .ref q8, .int 0, .ref q9, .ref q10, .ref q11, .ref q12, .long 0]))], [(q1, .inl (cI, 335, .inl (fun _ => 0)))], [(q2, .inl (cI, 2010, .inl (fun _ => 0)))], [(q3, .inl (cI, 335, .inl (fun _ => 0)))], [(q4, .inl (cI, 60, .inl (fun _ => 0)))], [(q5, .inl (cI, 4, .inl (fun _ => 0)))], [(q6, .inl (cI, 4, .inl (fun _ => 0)))], [(q7, .inl (cI, 4, .inl (fun _ => 0)))], [(q8, .inl (cI, 20, .inl (fun _ => 0)))], [(q9, .inl (cI, 6, .inl (fun _ => 0)))], [(q10, .inl (cI, 6, .inl (fun _ => 0)))], [(q11, .inl (cI, 6561, .inl (fun _ => 0)))], [(q12, .inl (cI, 400, .inl (fun _ => 0)))]]) rfl dX11_init_99 ?_
  refine r_iconst (v := 0) C dX11_init_102 (by decide) ?_
  refine r_istore_n (L' := [(1, .int 0), (0, .ref o)]) C dX11_init_103 (by decide) rfl ?_
  refine r_iload_n C dX11_init_104 0 rfl ?_
  refine r_bipush (v := 20) C dX11_init_105 (by decide) ?_
  refine r_icmp_ge (tgt := 136) C dX11_init_107 (by decide) (fun c => absurd c (by decide)) (fun _ => ?_)
  refine r_aload_n C dX11_init_110 1 rfl ?_
  refine r_get (Cn := RX11) (T := TX11) (N := 18) C inT11 0 rfl rfl 0 (by decide) t_893 rfl dX11_init_111 ?_
  refine r_bipush (v := 67) C dX11_init_114 (by decide) ?_
  refine r_iload_n C dX11_init_116 0 rfl ?_
  refine r_iconst (v := 4) C dX11_init_117 (by decide) ?_
  refine r_idiv (z := 0) C dX11_init_118 (by decide) (by decide) ?_
  refine r_imul (z := 0) C dX11_init_119 (by decide) ?_
  refine r_iload_n C dX11_init_120 0 rfl ?_
  refine r_iconst (v := 4) C dX11_init_121 (by decide) ?_
  refine r_irem (z := 0) C dX11_init_122 (by decide) (by decide) ?_
  refine r_iadd (z := 0) C dX11_init_123 (by decide) ?_
  refine r_iload_n C dX11_init_124 0 rfl ?_
  refine r_iconst (v := 4) C dX11_init_125 (by decide) ?_
  refine r_irem (z := 0) C dX11_init_126 (by decide) (by decide) ?_
  refine r_iconst (v := 1) C dX11_init_127 (by decide) ?_
  refine r_iadd (z := 1) C dX11_init_128 (by decide) ?_
  obtain ⟨g13, e_g13⟩ : ∃ z : Nat → Int32, z = upd (fun _ => 0) 0 1 := ⟨_, rfl⟩
  refine r_iast C 1 0 rfl rfl (vp_in_nI (n := 0) (N := 335) (by decide) (by decide)) (I' := [[(o, .inr (9, [.ref q1, .ref q2, .int 0, .ref q3, .int 0, .ref q4, .int 0, .int 0, .ref q5, .ref q6, .ref q7, .ref q8, .int 0, .ref q9, .ref q10, .ref q11, .ref q12, .long 0]))], [(q1, .inl (cI, 335, .inl g13))], [(q2, .inl (cI, 2010, .inl (fun _ => 0)))], [(q3, .inl (cI, 335, .inl (fun _ => 0)))], [(q4, .inl (cI, 60, .inl (fun _ => 0)))], [(q5, .inl (cI, 4, .inl (fun _ => 0)))], [(q6, .inl (cI, 4, .inl (fun _ => 0)))], [(q7, .inl (cI, 4, .inl (fun _ => 0)))], [(q8, .inl (cI, 20, .inl (fun _ => 0)))], [(q9, .inl (cI, 6, .inl (fun _ => 0)))], [(q10, .inl (cI, 6, .inl (fun _ => 0)))], [(q11, .inl (cI, 6561, .inl (fun _ => 0)))], [(q12, .inl (cI, 400, .inl (fun _ => 0)))]]) (by rw [e_g13]; rfl) dX11_init_129 ?_
  refine r_iinc (v := 1) (L' := [(1, .int 1), (0, .ref o)]) C dX11_init_130 0 rfl (by decide) (by decide) rfl ?_
  refine r_goto (tgt := 104) C dX11_init_133 (by decide) ?_
  refine r_iload_n C dX11_init_104 0 rfl ?_
  refine r_bipush (v := 20) C dX11_init_105 (by decide) ?_
  refine r_icmp_ge (tgt := 136) C dX11_init_107 (by decide) (fun c => absurd c (by decide)) (fun _ => ?_)
  refine r_aload_n C dX11_init_110 1 rfl ?_
  refine r_get (Cn := RX11) (T := TX11) (N := 18) C inT11 0 rfl rfl 0 (by decide) t_893 rfl dX11_init_111 ?_
  refine r_bipush (v := 67) C dX11_init_114 (by decide) ?_
  refine r_iload_n C dX11_init_116 0 rfl ?_
  refine r_iconst (v := 4) C dX11_init_117 (by decide) ?_
  refine r_idiv (z := 0) C dX11_init_118 (by decide) (by decide) ?_
  refine r_imul (z := 0) C dX11_init_119 (by decide) ?_
  refine r_iload_n C dX11_init_120 0 rfl ?_
  refine r_iconst (v := 4) C dX11_init_121 (by decide) ?_
  refine r_irem (z := 1) C dX11_init_122 (by decide) (by decide) ?_
  refine r_iadd (z := 1) C dX11_init_123 (by decide) ?_
  refine r_iload_n C dX11_init_124 0 rfl ?_
  refine r_iconst (v := 4) C dX11_init_125 (by decide) ?_
  refine r_irem (z := 1) C dX11_init_126 (by decide) (by decide) ?_
  refine r_iconst (v := 1) C dX11_init_127 (by decide) ?_
  refine r_iadd (z := 2) C dX11_init_128 (by decide) ?_
  obtain ⟨g14, e_g14⟩ : ∃ z : Nat → Int32, z = upd g13 1 2 := ⟨_, rfl⟩
  refine r_iast C 1 0 rfl rfl (vp_in_nI (n := 1) (N := 335) (by decide) (by decide)) (I' := [[(o, .inr (9, [.ref q1, .ref q2, .int 0, .ref q3, .int 0, .ref q4, .int 0, .int 0, .ref q5, .ref q6, .ref q7, .ref q8, .int 0, .ref q9, .ref q10, .ref q11, .ref q12, .long 0]))], [(q1, .inl (cI, 335, .inl g14))], [(q2, .inl (cI, 2010, .inl (fun _ => 0)))], [(q3, .inl (cI, 335, .inl (fun _ => 0)))], [(q4, .inl (cI, 60, .inl (fun _ => 0)))], [(q5, .inl (cI, 4, .inl (fun _ => 0)))], [(q6, .inl (cI, 4, .inl (fun _ => 0)))], [(q7, .inl (cI, 4, .inl (fun _ => 0)))], [(q8, .inl (cI, 20, .inl (fun _ => 0)))], [(q9, .inl (cI, 6, .inl (fun _ => 0)))], [(q10, .inl (cI, 6, .inl (fun _ => 0)))], [(q11, .inl (cI, 6561, .inl (fun _ => 0)))], [(q12, .inl (cI, 400, .inl (fun _ => 0)))]]) (by rw [e_g14]; rfl) dX11_init_129 ?_
  refine r_iinc (v := 2) (L' := [(1, .int 2), (0, .ref o)]) C dX11_init_130 0 rfl (by decide) (by decide) rfl ?_
  refine r_goto (tgt := 104) C dX11_init_133 (by decide) ?_
  refine r_iload_n C dX11_init_104 0 rfl ?_
  refine r_bipush (v := 20) C dX11_init_105 (by decide) ?_
  refine r_icmp_ge (tgt := 136) C dX11_init_107 (by decide) (fun c => absurd c (by decide)) (fun _ => ?_)
  refine r_aload_n C dX11_init_110 1 rfl ?_
  refine r_get (Cn := RX11) (T := TX11) (N := 18) C inT11 0 rfl rfl 0 (by decide) t_893 rfl dX11_init_111 ?_
  refine r_bipush (v := 67) C dX11_init_114 (by decide) ?_
  refine r_iload_n C dX11_init_116 0 rfl ?_
  refine r_iconst (v := 4) C dX11_init_117 (by decide) ?_
  refine r_idiv (z := 0) C dX11_init_118 (by decide) (by decide) ?_
  refine r_imul (z := 0) C dX11_init_119 (by decide) ?_
  refine r_iload_n C dX11_init_120 0 rfl ?_
  refine r_iconst (v := 4) C dX11_init_121 (by decide) ?_
  refine r_irem (z := 2) C dX11_init_122 (by decide) (by decide) ?_
  refine r_iadd (z := 2) C dX11_init_123 (by decide) ?_
  refine r_iload_n C dX11_init_124 0 rfl ?_
  refine r_iconst (v := 4) C dX11_init_125 (by decide) ?_
  refine r_irem (z := 2) C dX11_init_126 (by decide) (by decide) ?_
  refine r_iconst (v := 1) C dX11_init_127 (by decide) ?_
  refine r_iadd (z := 3) C dX11_init_128 (by decide) ?_
  obtain ⟨g15, e_g15⟩ : ∃ z : Nat → Int32, z = upd g14 2 3 := ⟨_, rfl⟩
  refine r_iast C 1 0 rfl rfl (vp_in_nI (n := 2) (N := 335) (by decide) (by decide)) (I' := [[(o, .inr (9, [.ref q1, .ref q2, .int 0, .ref q3, .int 0, .ref q4, .int 0, .int 0, .ref q5, .ref q6, .ref q7, .ref q8, .int 0, .ref q9, .ref q10, .ref q11, .ref q12, .long 0]))], [(q1, .inl (cI, 335, .inl g15))], [(q2, .inl (cI, 2010, .inl (fun _ => 0)))], [(q3, .inl (cI, 335, .inl (fun _ => 0)))], [(q4, .inl (cI, 60, .inl (fun _ => 0)))], [(q5, .inl (cI, 4, .inl (fun _ => 0)))], [(q6, .inl (cI, 4, .inl (fun _ => 0)))], [(q7, .inl (cI, 4, .inl (fun _ => 0)))], [(q8, .inl (cI, 20, .inl (fun _ => 0)))], [(q9, .inl (cI, 6, .inl (fun _ => 0)))], [(q10, .inl (cI, 6, .inl (fun _ => 0)))], [(q11, .inl (cI, 6561, .inl (fun _ => 0)))], [(q12, .inl (cI, 400, .inl (fun _ => 0)))]]) (by rw [e_g15]; rfl) dX11_init_129 ?_
  refine r_iinc (v := 3) (L' := [(1, .int 3), (0, .ref o)]) C dX11_init_130 0 rfl (by decide) (by decide) rfl ?_
  refine r_goto (tgt := 104) C dX11_init_133 (by decide) ?_
  refine r_iload_n C dX11_init_104 0 rfl ?_
  refine r_bipush (v := 20) C dX11_init_105 (by decide) ?_
  refine r_icmp_ge (tgt := 136) C dX11_init_107 (by decide) (fun c => absurd c (by decide)) (fun _ => ?_)
  refine r_aload_n C dX11_init_110 1 rfl ?_
  refine r_get (Cn := RX11) (T := TX11) (N := 18) C inT11 0 rfl rfl 0 (by decide) t_893 rfl dX11_init_111 ?_
  refine r_bipush (v := 67) C dX11_init_114 (by decide) ?_
  refine r_iload_n C dX11_init_116 0 rfl ?_
  refine r_iconst (v := 4) C dX11_init_117 (by decide) ?_
  refine r_idiv (z := 0) C dX11_init_118 (by decide) (by decide) ?_
  refine r_imul (z := 0) C dX11_init_119 (by decide) ?_
  refine r_iload_n C dX11_init_120 0 rfl ?_
  refine r_iconst (v := 4) C dX11_init_121 (by decide) ?_
  refine r_irem (z := 3) C dX11_init_122 (by decide) (by decide) ?_
  refine r_iadd (z := 3) C dX11_init_123 (by decide) ?_
  refine r_iload_n C dX11_init_124 0 rfl ?_
  refine r_iconst (v := 4) C dX11_init_125 (by decide) ?_
  refine r_irem (z := 3) C dX11_init_126 (by decide) (by decide) ?_
  refine r_iconst (v := 1) C dX11_init_127 (by decide) ?_
  refine r_iadd (z := 4) C dX11_init_128 (by decide) ?_
  obtain ⟨g16, e_g16⟩ : ∃ z : Nat → Int32, z = upd g15 3 4 := ⟨_, rfl⟩
  refine r_iast C 1 0 rfl rfl (vp_in_nI (n := 3) (N := 335) (by decide) (by decide)) (I' := [[(o, .inr (9, [.ref q1, .ref q2, .int 0, .ref q3, .int 0, .ref q4, .int 0, .int 0, .ref q5, .ref q6, .ref q7, .ref q8, .int 0, .ref q9, .ref q10, .ref q11, .ref q12, .long 0]))], [(q1, .inl (cI, 335, .inl g16))], [(q2, .inl (cI, 2010, .inl (fun _ => 0)))], [(q3, .inl (cI, 335, .inl (fun _ => 0)))], [(q4, .inl (cI, 60, .inl (fun _ => 0)))], [(q5, .inl (cI, 4, .inl (fun _ => 0)))], [(q6, .inl (cI, 4, .inl (fun _ => 0)))], [(q7, .inl (cI, 4, .inl (fun _ => 0)))], [(q8, .inl (cI, 20, .inl (fun _ => 0)))], [(q9, .inl (cI, 6, .inl (fun _ => 0)))], [(q10, .inl (cI, 6, .inl (fun _ => 0)))], [(q11, .inl (cI, 6561, .inl (fun _ => 0)))], [(q12, .inl (cI, 400, .inl (fun _ => 0)))]]) (by rw [e_g16]; rfl) dX11_init_129 ?_
  refine r_iinc (v := 4) (L' := [(1, .int 4), (0, .ref o)]) C dX11_init_130 0 rfl (by decide) (by decide) rfl ?_
  refine r_goto (tgt := 104) C dX11_init_133 (by decide) ?_
  refine r_iload_n C dX11_init_104 0 rfl ?_
  refine r_bipush (v := 20) C dX11_init_105 (by decide) ?_
  refine r_icmp_ge (tgt := 136) C dX11_init_107 (by decide) (fun c => absurd c (by decide)) (fun _ => ?_)
  refine r_aload_n C dX11_init_110 1 rfl ?_
  refine r_get (Cn := RX11) (T := TX11) (N := 18) C inT11 0 rfl rfl 0 (by decide) t_893 rfl dX11_init_111 ?_
  refine r_bipush (v := 67) C dX11_init_114 (by decide) ?_
  refine r_iload_n C dX11_init_116 0 rfl ?_
  refine r_iconst (v := 4) C dX11_init_117 (by decide) ?_
  refine r_idiv (z := 1) C dX11_init_118 (by decide) (by decide) ?_
  refine r_imul (z := 67) C dX11_init_119 (by decide) ?_
  refine r_iload_n C dX11_init_120 0 rfl ?_
  refine r_iconst (v := 4) C dX11_init_121 (by decide) ?_
  refine r_irem (z := 0) C dX11_init_122 (by decide) (by decide) ?_
  refine r_iadd (z := 67) C dX11_init_123 (by decide) ?_
  refine r_iload_n C dX11_init_124 0 rfl ?_
  refine r_iconst (v := 4) C dX11_init_125 (by decide) ?_
  refine r_irem (z := 0) C dX11_init_126 (by decide) (by decide) ?_
  refine r_iconst (v := 1) C dX11_init_127 (by decide) ?_
  refine r_iadd (z := 1) C dX11_init_128 (by decide) ?_
  obtain ⟨g17, e_g17⟩ : ∃ z : Nat → Int32, z = upd g16 67 1 := ⟨_, rfl⟩
  refine r_iast C 1 0 rfl rfl (vp_in_nI (n := 67) (N := 335) (by decide) (by decide)) (I' := [[(o, .inr (9, [.ref q1, .ref q2, .int 0, .ref q3, .int 0, .ref q4, .int 0, .int 0, .ref q5, .ref q6, .ref q7, .ref q8, .int 0, .ref q9, .ref q10, .ref q11, .ref q12, .long 0]))], [(q1, .inl (cI, 335, .inl g17))], [(q2, .inl (cI, 2010, .inl (fun _ => 0)))], [(q3, .inl (cI, 335, .inl (fun _ => 0)))], [(q4, .inl (cI, 60, .inl (fun _ => 0)))], [(q5, .inl (cI, 4, .inl (fun _ => 0)))], [(q6, .inl (cI, 4, .inl (fun _ => 0)))], [(q7, .inl (cI, 4, .inl (fun _ => 0)))], [(q8, .inl (cI, 20, .inl (fun _ => 0)))], [(q9, .inl (cI, 6, .inl (fun _ => 0)))], [(q10, .inl (cI, 6, .inl (fun _ => 0)))], [(q11, .inl (cI, 6561, .inl (fun _ => 0)))], [(q12, .inl (cI, 400, .inl (fun _ => 0)))]]) (by rw [e_g17]; rfl) dX11_init_129 ?_
  refine r_iinc (v := 5) (L' := [(1, .int 5), (0, .ref o)]) C dX11_init_130 0 rfl (by decide) (by decide) rfl ?_
  refine r_goto (tgt := 104) C dX11_init_133 (by decide) ?_
  refine r_iload_n C dX11_init_104 0 rfl ?_
  refine r_bipush (v := 20) C dX11_init_105 (by decide) ?_
  refine r_icmp_ge (tgt := 136) C dX11_init_107 (by decide) (fun c => absurd c (by decide)) (fun _ => ?_)
  refine r_aload_n C dX11_init_110 1 rfl ?_
  refine r_get (Cn := RX11) (T := TX11) (N := 18) C inT11 0 rfl rfl 0 (by decide) t_893 rfl dX11_init_111 ?_
  refine r_bipush (v := 67) C dX11_init_114 (by decide) ?_
  refine r_iload_n C dX11_init_116 0 rfl ?_
  refine r_iconst (v := 4) C dX11_init_117 (by decide) ?_
  refine r_idiv (z := 1) C dX11_init_118 (by decide) (by decide) ?_
  refine r_imul (z := 67) C dX11_init_119 (by decide) ?_
  refine r_iload_n C dX11_init_120 0 rfl ?_
  refine r_iconst (v := 4) C dX11_init_121 (by decide) ?_
  refine r_irem (z := 1) C dX11_init_122 (by decide) (by decide) ?_
  refine r_iadd (z := 68) C dX11_init_123 (by decide) ?_
  refine r_iload_n C dX11_init_124 0 rfl ?_
  refine r_iconst (v := 4) C dX11_init_125 (by decide) ?_
  refine r_irem (z := 1) C dX11_init_126 (by decide) (by decide) ?_
  refine r_iconst (v := 1) C dX11_init_127 (by decide) ?_
  refine r_iadd (z := 2) C dX11_init_128 (by decide) ?_
  obtain ⟨g18, e_g18⟩ : ∃ z : Nat → Int32, z = upd g17 68 2 := ⟨_, rfl⟩
  refine r_iast C 1 0 rfl rfl (vp_in_nI (n := 68) (N := 335) (by decide) (by decide)) (I' := [[(o, .inr (9, [.ref q1, .ref q2, .int 0, .ref q3, .int 0, .ref q4, .int 0, .int 0, .ref q5, .ref q6, .ref q7, .ref q8, .int 0, .ref q9, .ref q10, .ref q11, .ref q12, .long 0]))], [(q1, .inl (cI, 335, .inl g18))], [(q2, .inl (cI, 2010, .inl (fun _ => 0)))], [(q3, .inl (cI, 335, .inl (fun _ => 0)))], [(q4, .inl (cI, 60, .inl (fun _ => 0)))], [(q5, .inl (cI, 4, .inl (fun _ => 0)))], [(q6, .inl (cI, 4, .inl (fun _ => 0)))], [(q7, .inl (cI, 4, .inl (fun _ => 0)))], [(q8, .inl (cI, 20, .inl (fun _ => 0)))], [(q9, .inl (cI, 6, .inl (fun _ => 0)))], [(q10, .inl (cI, 6, .inl (fun _ => 0)))], [(q11, .inl (cI, 6561, .inl (fun _ => 0)))], [(q12, .inl (cI, 400, .inl (fun _ => 0)))]]) (by rw [e_g18]; rfl) dX11_init_129 ?_
  refine r_iinc (v := 6) (L' := [(1, .int 6), (0, .ref o)]) C dX11_init_130 0 rfl (by decide) (by decide) rfl ?_
  refine r_goto (tgt := 104) C dX11_init_133 (by decide) ?_
  refine r_iload_n C dX11_init_104 0 rfl ?_
  refine r_bipush (v := 20) C dX11_init_105 (by decide) ?_
  refine r_icmp_ge (tgt := 136) C dX11_init_107 (by decide) (fun c => absurd c (by decide)) (fun _ => ?_)
  refine r_aload_n C dX11_init_110 1 rfl ?_
  refine r_get (Cn := RX11) (T := TX11) (N := 18) C inT11 0 rfl rfl 0 (by decide) t_893 rfl dX11_init_111 ?_
  refine r_bipush (v := 67) C dX11_init_114 (by decide) ?_
  refine r_iload_n C dX11_init_116 0 rfl ?_
  refine r_iconst (v := 4) C dX11_init_117 (by decide) ?_
  refine r_idiv (z := 1) C dX11_init_118 (by decide) (by decide) ?_
  refine r_imul (z := 67) C dX11_init_119 (by decide) ?_
  refine r_iload_n C dX11_init_120 0 rfl ?_
  refine r_iconst (v := 4) C dX11_init_121 (by decide) ?_
  refine r_irem (z := 2) C dX11_init_122 (by decide) (by decide) ?_
  refine r_iadd (z := 69) C dX11_init_123 (by decide) ?_
  refine r_iload_n C dX11_init_124 0 rfl ?_
  refine r_iconst (v := 4) C dX11_init_125 (by decide) ?_
  refine r_irem (z := 2) C dX11_init_126 (by decide) (by decide) ?_
  refine r_iconst (v := 1) C dX11_init_127 (by decide) ?_
  refine r_iadd (z := 3) C dX11_init_128 (by decide) ?_
  obtain ⟨g19, e_g19⟩ : ∃ z : Nat → Int32, z = upd g18 69 3 := ⟨_, rfl⟩
  refine r_iast C 1 0 rfl rfl (vp_in_nI (n := 69) (N := 335) (by decide) (by decide)) (I' := [[(o, .inr (9, [.ref q1, .ref q2, .int 0, .ref q3, .int 0, .ref q4, .int 0, .int 0, .ref q5, .ref q6, .ref q7, .ref q8, .int 0, .ref q9, .ref q10, .ref q11, .ref q12, .long 0]))], [(q1, .inl (cI, 335, .inl g19))], [(q2, .inl (cI, 2010, .inl (fun _ => 0)))], [(q3, .inl (cI, 335, .inl (fun _ => 0)))], [(q4, .inl (cI, 60, .inl (fun _ => 0)))], [(q5, .inl (cI, 4, .inl (fun _ => 0)))], [(q6, .inl (cI, 4, .inl (fun _ => 0)))], [(q7, .inl (cI, 4, .inl (fun _ => 0)))], [(q8, .inl (cI, 20, .inl (fun _ => 0)))], [(q9, .inl (cI, 6, .inl (fun _ => 0)))], [(q10, .inl (cI, 6, .inl (fun _ => 0)))], [(q11, .inl (cI, 6561, .inl (fun _ => 0)))], [(q12, .inl (cI, 400, .inl (fun _ => 0)))]]) (by rw [e_g19]; rfl) dX11_init_129 ?_
  refine r_iinc (v := 7) (L' := [(1, .int 7), (0, .ref o)]) C dX11_init_130 0 rfl (by decide) (by decide) rfl ?_
  refine r_goto (tgt := 104) C dX11_init_133 (by decide) ?_
  refine r_iload_n C dX11_init_104 0 rfl ?_
  refine r_bipush (v := 20) C dX11_init_105 (by decide) ?_
  refine r_icmp_ge (tgt := 136) C dX11_init_107 (by decide) (fun c => absurd c (by decide)) (fun _ => ?_)
  refine r_aload_n C dX11_init_110 1 rfl ?_
  refine r_get (Cn := RX11) (T := TX11) (N := 18) C inT11 0 rfl rfl 0 (by decide) t_893 rfl dX11_init_111 ?_
  refine r_bipush (v := 67) C dX11_init_114 (by decide) ?_
  refine r_iload_n C dX11_init_116 0 rfl ?_
  refine r_iconst (v := 4) C dX11_init_117 (by decide) ?_
  refine r_idiv (z := 1) C dX11_init_118 (by decide) (by decide) ?_
  refine r_imul (z := 67) C dX11_init_119 (by decide) ?_
  refine r_iload_n C dX11_init_120 0 rfl ?_
  refine r_iconst (v := 4) C dX11_init_121 (by decide) ?_
  refine r_irem (z := 3) C dX11_init_122 (by decide) (by decide) ?_
  refine r_iadd (z := 70) C dX11_init_123 (by decide) ?_
  refine r_iload_n C dX11_init_124 0 rfl ?_
  refine r_iconst (v := 4) C dX11_init_125 (by decide) ?_
  refine r_irem (z := 3) C dX11_init_126 (by decide) (by decide) ?_
  refine r_iconst (v := 1) C dX11_init_127 (by decide) ?_
  refine r_iadd (z := 4) C dX11_init_128 (by decide) ?_
  obtain ⟨g20, e_g20⟩ : ∃ z : Nat → Int32, z = upd g19 70 4 := ⟨_, rfl⟩
  refine r_iast C 1 0 rfl rfl (vp_in_nI (n := 70) (N := 335) (by decide) (by decide)) (I' := [[(o, .inr (9, [.ref q1, .ref q2, .int 0, .ref q3, .int 0, .ref q4, .int 0, .int 0, .ref q5, .ref q6, .ref q7, .ref q8, .int 0, .ref q9, .ref q10, .ref q11, .ref q12, .long 0]))], [(q1, .inl (cI, 335, .inl g20))], [(q2, .inl (cI, 2010, .inl (fun _ => 0)))], [(q3, .inl (cI, 335, .inl (fun _ => 0)))], [(q4, .inl (cI, 60, .inl (fun _ => 0)))], [(q5, .inl (cI, 4, .inl (fun _ => 0)))], [(q6, .inl (cI, 4, .inl (fun _ => 0)))], [(q7, .inl (cI, 4, .inl (fun _ => 0)))], [(q8, .inl (cI, 20, .inl (fun _ => 0)))], [(q9, .inl (cI, 6, .inl (fun _ => 0)))], [(q10, .inl (cI, 6, .inl (fun _ => 0)))], [(q11, .inl (cI, 6561, .inl (fun _ => 0)))], [(q12, .inl (cI, 400, .inl (fun _ => 0)))]]) (by rw [e_g20]; rfl) dX11_init_129 ?_
  refine r_iinc (v := 8) (L' := [(1, .int 8), (0, .ref o)]) C dX11_init_130 0 rfl (by decide) (by decide) rfl ?_
  refine r_goto (tgt := 104) C dX11_init_133 (by decide) ?_
  refine r_iload_n C dX11_init_104 0 rfl ?_
  refine r_bipush (v := 20) C dX11_init_105 (by decide) ?_
  refine r_icmp_ge (tgt := 136) C dX11_init_107 (by decide) (fun c => absurd c (by decide)) (fun _ => ?_)
  refine r_aload_n C dX11_init_110 1 rfl ?_
  refine r_get (Cn := RX11) (T := TX11) (N := 18) C inT11 0 rfl rfl 0 (by decide) t_893 rfl dX11_init_111 ?_
  refine r_bipush (v := 67) C dX11_init_114 (by decide) ?_
  refine r_iload_n C dX11_init_116 0 rfl ?_
  refine r_iconst (v := 4) C dX11_init_117 (by decide) ?_
  refine r_idiv (z := 2) C dX11_init_118 (by decide) (by decide) ?_
  refine r_imul (z := 134) C dX11_init_119 (by decide) ?_
  refine r_iload_n C dX11_init_120 0 rfl ?_
  refine r_iconst (v := 4) C dX11_init_121 (by decide) ?_
  refine r_irem (z := 0) C dX11_init_122 (by decide) (by decide) ?_
  refine r_iadd (z := 134) C dX11_init_123 (by decide) ?_
  refine r_iload_n C dX11_init_124 0 rfl ?_
  refine r_iconst (v := 4) C dX11_init_125 (by decide) ?_
  refine r_irem (z := 0) C dX11_init_126 (by decide) (by decide) ?_
  refine r_iconst (v := 1) C dX11_init_127 (by decide) ?_
  refine r_iadd (z := 1) C dX11_init_128 (by decide) ?_
  obtain ⟨g21, e_g21⟩ : ∃ z : Nat → Int32, z = upd g20 134 1 := ⟨_, rfl⟩
  refine r_iast C 1 0 rfl rfl (vp_in_nI (n := 134) (N := 335) (by decide) (by decide)) (I' := [[(o, .inr (9, [.ref q1, .ref q2, .int 0, .ref q3, .int 0, .ref q4, .int 0, .int 0, .ref q5, .ref q6, .ref q7, .ref q8, .int 0, .ref q9, .ref q10, .ref q11, .ref q12, .long 0]))], [(q1, .inl (cI, 335, .inl g21))], [(q2, .inl (cI, 2010, .inl (fun _ => 0)))], [(q3, .inl (cI, 335, .inl (fun _ => 0)))], [(q4, .inl (cI, 60, .inl (fun _ => 0)))], [(q5, .inl (cI, 4, .inl (fun _ => 0)))], [(q6, .inl (cI, 4, .inl (fun _ => 0)))], [(q7, .inl (cI, 4, .inl (fun _ => 0)))], [(q8, .inl (cI, 20, .inl (fun _ => 0)))], [(q9, .inl (cI, 6, .inl (fun _ => 0)))], [(q10, .inl (cI, 6, .inl (fun _ => 0)))], [(q11, .inl (cI, 6561, .inl (fun _ => 0)))], [(q12, .inl (cI, 400, .inl (fun _ => 0)))]]) (by rw [e_g21]; rfl) dX11_init_129 ?_
  refine r_iinc (v := 9) (L' := [(1, .int 9), (0, .ref o)]) C dX11_init_130 0 rfl (by decide) (by decide) rfl ?_
  refine r_goto (tgt := 104) C dX11_init_133 (by decide) ?_
  refine r_iload_n C dX11_init_104 0 rfl ?_
  refine r_bipush (v := 20) C dX11_init_105 (by decide) ?_
  refine r_icmp_ge (tgt := 136) C dX11_init_107 (by decide) (fun c => absurd c (by decide)) (fun _ => ?_)
  refine r_aload_n C dX11_init_110 1 rfl ?_
  refine r_get (Cn := RX11) (T := TX11) (N := 18) C inT11 0 rfl rfl 0 (by decide) t_893 rfl dX11_init_111 ?_
  refine r_bipush (v := 67) C dX11_init_114 (by decide) ?_
  refine r_iload_n C dX11_init_116 0 rfl ?_
  refine r_iconst (v := 4) C dX11_init_117 (by decide) ?_
  refine r_idiv (z := 2) C dX11_init_118 (by decide) (by decide) ?_
  refine r_imul (z := 134) C dX11_init_119 (by decide) ?_
  refine r_iload_n C dX11_init_120 0 rfl ?_
  refine r_iconst (v := 4) C dX11_init_121 (by decide) ?_
  refine r_irem (z := 1) C dX11_init_122 (by decide) (by decide) ?_
  refine r_iadd (z := 135) C dX11_init_123 (by decide) ?_
  refine r_iload_n C dX11_init_124 0 rfl ?_
  refine r_iconst (v := 4) C dX11_init_125 (by decide) ?_
  refine r_irem (z := 1) C dX11_init_126 (by decide) (by decide) ?_
  refine r_iconst (v := 1) C dX11_init_127 (by decide) ?_
  refine r_iadd (z := 2) C dX11_init_128 (by decide) ?_
  obtain ⟨g22, e_g22⟩ : ∃ z : Nat → Int32, z = upd g21 135 2 := ⟨_, rfl⟩
  refine r_iast C 1 0 rfl rfl (vp_in_nI (n := 135) (N := 335) (by decide) (by decide)) (I' := [[(o, .inr (9, [.ref q1, .ref q2, .int 0, .ref q3, .int 0, .ref q4, .int 0, .int 0, .ref q5, .ref q6, .ref q7, .ref q8, .int 0, .ref q9, .ref q10, .ref q11, .ref q12, .long 0]))], [(q1, .inl (cI, 335, .inl g22))], [(q2, .inl (cI, 2010, .inl (fun _ => 0)))], [(q3, .inl (cI, 335, .inl (fun _ => 0)))], [(q4, .inl (cI, 60, .inl (fun _ => 0)))], [(q5, .inl (cI, 4, .inl (fun _ => 0)))], [(q6, .inl (cI, 4, .inl (fun _ => 0)))], [(q7, .inl (cI, 4, .inl (fun _ => 0)))], [(q8, .inl (cI, 20, .inl (fun _ => 0)))], [(q9, .inl (cI, 6, .inl (fun _ => 0)))], [(q10, .inl (cI, 6, .inl (fun _ => 0)))], [(q11, .inl (cI, 6561, .inl (fun _ => 0)))], [(q12, .inl (cI, 400, .inl (fun _ => 0)))]]) (by rw [e_g22]; rfl) dX11_init_129 ?_
  refine r_iinc (v := 10) (L' := [(1, .int 10), (0, .ref o)]) C dX11_init_130 0 rfl (by decide) (by decide) rfl ?_
  refine r_goto (tgt := 104) C dX11_init_133 (by decide) ?_
  refine r_iload_n C dX11_init_104 0 rfl ?_
  refine r_bipush (v := 20) C dX11_init_105 (by decide) ?_
  refine r_icmp_ge (tgt := 136) C dX11_init_107 (by decide) (fun c => absurd c (by decide)) (fun _ => ?_)
  refine r_aload_n C dX11_init_110 1 rfl ?_
  refine r_get (Cn := RX11) (T := TX11) (N := 18) C inT11 0 rfl rfl 0 (by decide) t_893 rfl dX11_init_111 ?_
  refine r_bipush (v := 67) C dX11_init_114 (by decide) ?_
  refine r_iload_n C dX11_init_116 0 rfl ?_
  refine r_iconst (v := 4) C dX11_init_117 (by decide) ?_
  refine r_idiv (z := 2) C dX11_init_118 (by decide) (by decide) ?_
  refine r_imul (z := 134) C dX11_init_119 (by decide) ?_
  refine r_iload_n C dX11_init_120 0 rfl ?_
  refine r_iconst (v := 4) C dX11_init_121 (by decide) ?_
  refine r_irem (z := 2) C dX11_init_122 (by decide) (by decide) ?_
  refine r_iadd (z := 136) C dX11_init_123 (by decide) ?_
  refine r_iload_n C dX11_init_124 0 rfl ?_
  refine r_iconst (v := 4) C dX11_init_125 (by decide) ?_
  refine r_irem (z := 2) C dX11_init_126 (by decide) (by decide) ?_
  refine r_iconst (v := 1) C dX11_init_127 (by decide) ?_
  refine r_iadd (z := 3) C dX11_init_128 (by decide) ?_
  obtain ⟨g23, e_g23⟩ : ∃ z : Nat → Int32, z = upd g22 136 3 := ⟨_, rfl⟩
  refine r_iast C 1 0 rfl rfl (vp_in_nI (n := 136) (N := 335) (by decide) (by decide)) (I' := [[(o, .inr (9, [.ref q1, .ref q2, .int 0, .ref q3, .int 0, .ref q4, .int 0, .int 0, .ref q5, .ref q6, .ref q7, .ref q8, .int 0, .ref q9, .ref q10, .ref q11, .ref q12, .long 0]))], [(q1, .inl (cI, 335, .inl g23))], [(q2, .inl (cI, 2010, .inl (fun _ => 0)))], [(q3, .inl (cI, 335, .inl (fun _ => 0)))], [(q4, .inl (cI, 60, .inl (fun _ => 0)))], [(q5, .inl (cI, 4, .inl (fun _ => 0)))], [(q6, .inl (cI, 4, .inl (fun _ => 0)))], [(q7, .inl (cI, 4, .inl (fun _ => 0)))], [(q8, .inl (cI, 20, .inl (fun _ => 0)))], [(q9, .inl (cI, 6, .inl (fun _ => 0)))], [(q10, .inl (cI, 6, .inl (fun _ => 0)))], [(q11, .inl (cI, 6561, .inl (fun _ => 0)))], [(q12, .inl (cI, 400, .inl (fun _ => 0)))]]) (by rw [e_g23]; rfl) dX11_init_129 ?_
  refine r_iinc (v := 11) (L' := [(1, .int 11), (0, .ref o)]) C dX11_init_130 0 rfl (by decide) (by decide) rfl ?_
  refine r_goto (tgt := 104) C dX11_init_133 (by decide) ?_
  refine r_iload_n C dX11_init_104 0 rfl ?_
  refine r_bipush (v := 20) C dX11_init_105 (by decide) ?_
  refine r_icmp_ge (tgt := 136) C dX11_init_107 (by decide) (fun c => absurd c (by decide)) (fun _ => ?_)
  refine r_aload_n C dX11_init_110 1 rfl ?_
  refine r_get (Cn := RX11) (T := TX11) (N := 18) C inT11 0 rfl rfl 0 (by decide) t_893 rfl dX11_init_111 ?_
  refine r_bipush (v := 67) C dX11_init_114 (by decide) ?_
  refine r_iload_n C dX11_init_116 0 rfl ?_
  refine r_iconst (v := 4) C dX11_init_117 (by decide) ?_
  refine r_idiv (z := 2) C dX11_init_118 (by decide) (by decide) ?_
  refine r_imul (z := 134) C dX11_init_119 (by decide) ?_
  refine r_iload_n C dX11_init_120 0 rfl ?_
  refine r_iconst (v := 4) C dX11_init_121 (by decide) ?_
  refine r_irem (z := 3) C dX11_init_122 (by decide) (by decide) ?_
  refine r_iadd (z := 137) C dX11_init_123 (by decide) ?_
  refine r_iload_n C dX11_init_124 0 rfl ?_
  refine r_iconst (v := 4) C dX11_init_125 (by decide) ?_
  refine r_irem (z := 3) C dX11_init_126 (by decide) (by decide) ?_
  refine r_iconst (v := 1) C dX11_init_127 (by decide) ?_
  refine r_iadd (z := 4) C dX11_init_128 (by decide) ?_
  obtain ⟨g24, e_g24⟩ : ∃ z : Nat → Int32, z = upd g23 137 4 := ⟨_, rfl⟩
  refine r_iast C 1 0 rfl rfl (vp_in_nI (n := 137) (N := 335) (by decide) (by decide)) (I' := [[(o, .inr (9, [.ref q1, .ref q2, .int 0, .ref q3, .int 0, .ref q4, .int 0, .int 0, .ref q5, .ref q6, .ref q7, .ref q8, .int 0, .ref q9, .ref q10, .ref q11, .ref q12, .long 0]))], [(q1, .inl (cI, 335, .inl g24))], [(q2, .inl (cI, 2010, .inl (fun _ => 0)))], [(q3, .inl (cI, 335, .inl (fun _ => 0)))], [(q4, .inl (cI, 60, .inl (fun _ => 0)))], [(q5, .inl (cI, 4, .inl (fun _ => 0)))], [(q6, .inl (cI, 4, .inl (fun _ => 0)))], [(q7, .inl (cI, 4, .inl (fun _ => 0)))], [(q8, .inl (cI, 20, .inl (fun _ => 0)))], [(q9, .inl (cI, 6, .inl (fun _ => 0)))], [(q10, .inl (cI, 6, .inl (fun _ => 0)))], [(q11, .inl (cI, 6561, .inl (fun _ => 0)))], [(q12, .inl (cI, 400, .inl (fun _ => 0)))]]) (by rw [e_g24]; rfl) dX11_init_129 ?_
  refine r_iinc (v := 12) (L' := [(1, .int 12), (0, .ref o)]) C dX11_init_130 0 rfl (by decide) (by decide) rfl ?_
  refine r_goto (tgt := 104) C dX11_init_133 (by decide) ?_
  refine r_iload_n C dX11_init_104 0 rfl ?_
  refine r_bipush (v := 20) C dX11_init_105 (by decide) ?_
  refine r_icmp_ge (tgt := 136) C dX11_init_107 (by decide) (fun c => absurd c (by decide)) (fun _ => ?_)
  refine r_aload_n C dX11_init_110 1 rfl ?_
  refine r_get (Cn := RX11) (T := TX11) (N := 18) C inT11 0 rfl rfl 0 (by decide) t_893 rfl dX11_init_111 ?_
  refine r_bipush (v := 67) C dX11_init_114 (by decide) ?_
  refine r_iload_n C dX11_init_116 0 rfl ?_
  refine r_iconst (v := 4) C dX11_init_117 (by decide) ?_
  refine r_idiv (z := 3) C dX11_init_118 (by decide) (by decide) ?_
  refine r_imul (z := 201) C dX11_init_119 (by decide) ?_
  refine r_iload_n C dX11_init_120 0 rfl ?_
  refine r_iconst (v := 4) C dX11_init_121 (by decide) ?_
  refine r_irem (z := 0) C dX11_init_122 (by decide) (by decide) ?_
  refine r_iadd (z := 201) C dX11_init_123 (by decide) ?_
  refine r_iload_n C dX11_init_124 0 rfl ?_
  refine r_iconst (v := 4) C dX11_init_125 (by decide) ?_
  refine r_irem (z := 0) C dX11_init_126 (by decide) (by decide) ?_
  refine r_iconst (v := 1) C dX11_init_127 (by decide) ?_
  refine r_iadd (z := 1) C dX11_init_128 (by decide) ?_
  obtain ⟨g25, e_g25⟩ : ∃ z : Nat → Int32, z = upd g24 201 1 := ⟨_, rfl⟩
  refine r_iast C 1 0 rfl rfl (vp_in_nI (n := 201) (N := 335) (by decide) (by decide)) (I' := [[(o, .inr (9, [.ref q1, .ref q2, .int 0, .ref q3, .int 0, .ref q4, .int 0, .int 0, .ref q5, .ref q6, .ref q7, .ref q8, .int 0, .ref q9, .ref q10, .ref q11, .ref q12, .long 0]))], [(q1, .inl (cI, 335, .inl g25))], [(q2, .inl (cI, 2010, .inl (fun _ => 0)))], [(q3, .inl (cI, 335, .inl (fun _ => 0)))], [(q4, .inl (cI, 60, .inl (fun _ => 0)))], [(q5, .inl (cI, 4, .inl (fun _ => 0)))], [(q6, .inl (cI, 4, .inl (fun _ => 0)))], [(q7, .inl (cI, 4, .inl (fun _ => 0)))], [(q8, .inl (cI, 20, .inl (fun _ => 0)))], [(q9, .inl (cI, 6, .inl (fun _ => 0)))], [(q10, .inl (cI, 6, .inl (fun _ => 0)))], [(q11, .inl (cI, 6561, .inl (fun _ => 0)))], [(q12, .inl (cI, 400, .inl (fun _ => 0)))]]) (by rw [e_g25]; rfl) dX11_init_129 ?_
  refine r_iinc (v := 13) (L' := [(1, .int 13), (0, .ref o)]) C dX11_init_130 0 rfl (by decide) (by decide) rfl ?_
  refine r_goto (tgt := 104) C dX11_init_133 (by decide) ?_
  refine r_iload_n C dX11_init_104 0 rfl ?_
  refine r_bipush (v := 20) C dX11_init_105 (by decide) ?_
  refine r_icmp_ge (tgt := 136) C dX11_init_107 (by decide) (fun c => absurd c (by decide)) (fun _ => ?_)
  refine r_aload_n C dX11_init_110 1 rfl ?_
  refine r_get (Cn := RX11) (T := TX11) (N := 18) C inT11 0 rfl rfl 0 (by decide) t_893 rfl dX11_init_111 ?_
  refine r_bipush (v := 67) C dX11_init_114 (by decide) ?_
  refine r_iload_n C dX11_init_116 0 rfl ?_
  refine r_iconst (v := 4) C dX11_init_117 (by decide) ?_
  refine r_idiv (z := 3) C dX11_init_118 (by decide) (by decide) ?_
  refine r_imul (z := 201) C dX11_init_119 (by decide) ?_
  refine r_iload_n C dX11_init_120 0 rfl ?_
  refine r_iconst (v := 4) C dX11_init_121 (by decide) ?_
  refine r_irem (z := 1) C dX11_init_122 (by decide) (by decide) ?_
  refine r_iadd (z := 202) C dX11_init_123 (by decide) ?_
  refine r_iload_n C dX11_init_124 0 rfl ?_
  refine r_iconst (v := 4) C dX11_init_125 (by decide) ?_
  refine r_irem (z := 1) C dX11_init_126 (by decide) (by decide) ?_
  refine r_iconst (v := 1) C dX11_init_127 (by decide) ?_
  refine r_iadd (z := 2) C dX11_init_128 (by decide) ?_
  obtain ⟨g26, e_g26⟩ : ∃ z : Nat → Int32, z = upd g25 202 2 := ⟨_, rfl⟩
  refine r_iast C 1 0 rfl rfl (vp_in_nI (n := 202) (N := 335) (by decide) (by decide)) (I' := [[(o, .inr (9, [.ref q1, .ref q2, .int 0, .ref q3, .int 0, .ref q4, .int 0, .int 0, .ref q5, .ref q6, .ref q7, .ref q8, .int 0, .ref q9, .ref q10, .ref q11, .ref q12, .long 0]))], [(q1, .inl (cI, 335, .inl g26))], [(q2, .inl (cI, 2010, .inl (fun _ => 0)))], [(q3, .inl (cI, 335, .inl (fun _ => 0)))], [(q4, .inl (cI, 60, .inl (fun _ => 0)))], [(q5, .inl (cI, 4, .inl (fun _ => 0)))], [(q6, .inl (cI, 4, .inl (fun _ => 0)))], [(q7, .inl (cI, 4, .inl (fun _ => 0)))], [(q8, .inl (cI, 20, .inl (fun _ => 0)))], [(q9, .inl (cI, 6, .inl (fun _ => 0)))], [(q10, .inl (cI, 6, .inl (fun _ => 0)))], [(q11, .inl (cI, 6561, .inl (fun _ => 0)))], [(q12, .inl (cI, 400, .inl (fun _ => 0)))]]) (by rw [e_g26]; rfl) dX11_init_129 ?_
  refine r_iinc (v := 14) (L' := [(1, .int 14), (0, .ref o)]) C dX11_init_130 0 rfl (by decide) (by decide) rfl ?_
  refine r_goto (tgt := 104) C dX11_init_133 (by decide) ?_
  refine r_iload_n C dX11_init_104 0 rfl ?_
  refine r_bipush (v := 20) C dX11_init_105 (by decide) ?_
  refine r_icmp_ge (tgt := 136) C dX11_init_107 (by decide) (fun c => absurd c (by decide)) (fun _ => ?_)
  refine r_aload_n C dX11_init_110 1 rfl ?_
  refine r_get (Cn := RX11) (T := TX11) (N := 18) C inT11 0 rfl rfl 0 (by decide) t_893 rfl dX11_init_111 ?_
  refine r_bipush (v := 67) C dX11_init_114 (by decide) ?_
  refine r_iload_n C dX11_init_116 0 rfl ?_
  refine r_iconst (v := 4) C dX11_init_117 (by decide) ?_
  refine r_idiv (z := 3) C dX11_init_118 (by decide) (by decide) ?_
  refine r_imul (z := 201) C dX11_init_119 (by decide) ?_
  refine r_iload_n C dX11_init_120 0 rfl ?_
  refine r_iconst (v := 4) C dX11_init_121 (by decide) ?_
  refine r_irem (z := 2) C dX11_init_122 (by decide) (by decide) ?_
  refine r_iadd (z := 203) C dX11_init_123 (by decide) ?_
  refine r_iload_n C dX11_init_124 0 rfl ?_
  refine r_iconst (v := 4) C dX11_init_125 (by decide) ?_
  refine r_irem (z := 2) C dX11_init_126 (by decide) (by decide) ?_
  refine r_iconst (v := 1) C dX11_init_127 (by decide) ?_
  refine r_iadd (z := 3) C dX11_init_128 (by decide) ?_
  obtain ⟨g27, e_g27⟩ : ∃ z : Nat → Int32, z = upd g26 203 3 := ⟨_, rfl⟩
  refine r_iast C 1 0 rfl rfl (vp_in_nI (n := 203) (N := 335) (by decide) (by decide)) (I' := [[(o, .inr (9, [.ref q1, .ref q2, .int 0, .ref q3, .int 0, .ref q4, .int 0, .int 0, .ref q5, .ref q6, .ref q7, .ref q8, .int 0, .ref q9, .ref q10, .ref q11, .ref q12, .long 0]))], [(q1, .inl (cI, 335, .inl g27))], [(q2, .inl (cI, 2010, .inl (fun _ => 0)))], [(q3, .inl (cI, 335, .inl (fun _ => 0)))], [(q4, .inl (cI, 60, .inl (fun _ => 0)))], [(q5, .inl (cI, 4, .inl (fun _ => 0)))], [(q6, .inl (cI, 4, .inl (fun _ => 0)))], [(q7, .inl (cI, 4, .inl (fun _ => 0)))], [(q8, .inl (cI, 20, .inl (fun _ => 0)))], [(q9, .inl (cI, 6, .inl (fun _ => 0)))], [(q10, .inl (cI, 6, .inl (fun _ => 0)))], [(q11, .inl (cI, 6561, .inl (fun _ => 0)))], [(q12, .inl (cI, 400, .inl (fun _ => 0)))]]) (by rw [e_g27]; rfl) dX11_init_129 ?_
  refine r_iinc (v := 15) (L' := [(1, .int 15), (0, .ref o)]) C dX11_init_130 0 rfl (by decide) (by decide) rfl ?_
  refine r_goto (tgt := 104) C dX11_init_133 (by decide) ?_
  refine r_iload_n C dX11_init_104 0 rfl ?_
  refine r_bipush (v := 20) C dX11_init_105 (by decide) ?_
  refine r_icmp_ge (tgt := 136) C dX11_init_107 (by decide) (fun c => absurd c (by decide)) (fun _ => ?_)
  refine r_aload_n C dX11_init_110 1 rfl ?_
  refine r_get (Cn := RX11) (T := TX11) (N := 18) C inT11 0 rfl rfl 0 (by decide) t_893 rfl dX11_init_111 ?_
  refine r_bipush (v := 67) C dX11_init_114 (by decide) ?_
  refine r_iload_n C dX11_init_116 0 rfl ?_
  refine r_iconst (v := 4) C dX11_init_117 (by decide) ?_
  refine r_idiv (z := 3) C dX11_init_118 (by decide) (by decide) ?_
  refine r_imul (z := 201) C dX11_init_119 (by decide) ?_
  refine r_iload_n C dX11_init_120 0 rfl ?_
  refine r_iconst (v := 4) C dX11_init_121 (by decide) ?_
  refine r_irem (z := 3) C dX11_init_122 (by decide) (by decide) ?_
  refine r_iadd (z := 204) C dX11_init_123 (by decide) ?_
  refine r_iload_n C dX11_init_124 0 rfl ?_
  refine r_iconst (v := 4) C dX11_init_125 (by decide) ?_
  refine r_irem (z := 3) C dX11_init_126 (by decide) (by decide) ?_
  refine r_iconst (v := 1) C dX11_init_127 (by decide) ?_
  refine r_iadd (z := 4) C dX11_init_128 (by decide) ?_
  obtain ⟨g28, e_g28⟩ : ∃ z : Nat → Int32, z = upd g27 204 4 := ⟨_, rfl⟩
  refine r_iast C 1 0 rfl rfl (vp_in_nI (n := 204) (N := 335) (by decide) (by decide)) (I' := [[(o, .inr (9, [.ref q1, .ref q2, .int 0, .ref q3, .int 0, .ref q4, .int 0, .int 0, .ref q5, .ref q6, .ref q7, .ref q8, .int 0, .ref q9, .ref q10, .ref q11, .ref q12, .long 0]))], [(q1, .inl (cI, 335, .inl g28))], [(q2, .inl (cI, 2010, .inl (fun _ => 0)))], [(q3, .inl (cI, 335, .inl (fun _ => 0)))], [(q4, .inl (cI, 60, .inl (fun _ => 0)))], [(q5, .inl (cI, 4, .inl (fun _ => 0)))], [(q6, .inl (cI, 4, .inl (fun _ => 0)))], [(q7, .inl (cI, 4, .inl (fun _ => 0)))], [(q8, .inl (cI, 20, .inl (fun _ => 0)))], [(q9, .inl (cI, 6, .inl (fun _ => 0)))], [(q10, .inl (cI, 6, .inl (fun _ => 0)))], [(q11, .inl (cI, 6561, .inl (fun _ => 0)))], [(q12, .inl (cI, 400, .inl (fun _ => 0)))]]) (by rw [e_g28]; rfl) dX11_init_129 ?_
  refine r_iinc (v := 16) (L' := [(1, .int 16), (0, .ref o)]) C dX11_init_130 0 rfl (by decide) (by decide) rfl ?_
  refine r_goto (tgt := 104) C dX11_init_133 (by decide) ?_
  refine r_iload_n C dX11_init_104 0 rfl ?_
  refine r_bipush (v := 20) C dX11_init_105 (by decide) ?_
  refine r_icmp_ge (tgt := 136) C dX11_init_107 (by decide) (fun c => absurd c (by decide)) (fun _ => ?_)
  refine r_aload_n C dX11_init_110 1 rfl ?_
  refine r_get (Cn := RX11) (T := TX11) (N := 18) C inT11 0 rfl rfl 0 (by decide) t_893 rfl dX11_init_111 ?_
  refine r_bipush (v := 67) C dX11_init_114 (by decide) ?_
  refine r_iload_n C dX11_init_116 0 rfl ?_
  refine r_iconst (v := 4) C dX11_init_117 (by decide) ?_
  refine r_idiv (z := 4) C dX11_init_118 (by decide) (by decide) ?_
  refine r_imul (z := 268) C dX11_init_119 (by decide) ?_
  refine r_iload_n C dX11_init_120 0 rfl ?_
  refine r_iconst (v := 4) C dX11_init_121 (by decide) ?_
  refine r_irem (z := 0) C dX11_init_122 (by decide) (by decide) ?_
  refine r_iadd (z := 268) C dX11_init_123 (by decide) ?_
  refine r_iload_n C dX11_init_124 0 rfl ?_
  refine r_iconst (v := 4) C dX11_init_125 (by decide) ?_
  refine r_irem (z := 0) C dX11_init_126 (by decide) (by decide) ?_
  refine r_iconst (v := 1) C dX11_init_127 (by decide) ?_
  refine r_iadd (z := 1) C dX11_init_128 (by decide) ?_
  obtain ⟨g29, e_g29⟩ : ∃ z : Nat → Int32, z = upd g28 268 1 := ⟨_, rfl⟩
  refine r_iast C 1 0 rfl rfl (vp_in_nI (n := 268) (N := 335) (by decide) (by decide)) (I' := [[(o, .inr (9, [.ref q1, .ref q2, .int 0, .ref q3, .int 0, .ref q4, .int 0, .int 0, .ref q5, .ref q6, .ref q7, .ref q8, .int 0, .ref q9, .ref q10, .ref q11, .ref q12, .long 0]))], [(q1, .inl (cI, 335, .inl g29))], [(q2, .inl (cI, 2010, .inl (fun _ => 0)))], [(q3, .inl (cI, 335, .inl (fun _ => 0)))], [(q4, .inl (cI, 60, .inl (fun _ => 0)))], [(q5, .inl (cI, 4, .inl (fun _ => 0)))], [(q6, .inl (cI, 4, .inl (fun _ => 0)))], [(q7, .inl (cI, 4, .inl (fun _ => 0)))], [(q8, .inl (cI, 20, .inl (fun _ => 0)))], [(q9, .inl (cI, 6, .inl (fun _ => 0)))], [(q10, .inl (cI, 6, .inl (fun _ => 0)))], [(q11, .inl (cI, 6561, .inl (fun _ => 0)))], [(q12, .inl (cI, 400, .inl (fun _ => 0)))]]) (by rw [e_g29]; rfl) dX11_init_129 ?_
  refine r_iinc (v := 17) (L' := [(1, .int 17), (0, .ref o)]) C dX11_init_130 0 rfl (by decide) (by decide) rfl ?_
  refine r_goto (tgt := 104) C dX11_init_133 (by decide) ?_
  refine r_iload_n C dX11_init_104 0 rfl ?_
  refine r_bipush (v := 20) C dX11_init_105 (by decide) ?_
  refine r_icmp_ge (tgt := 136) C dX11_init_107 (by decide) (fun c => absurd c (by decide)) (fun _ => ?_)
  refine r_aload_n C dX11_init_110 1 rfl ?_
  refine r_get (Cn := RX11) (T := TX11) (N := 18) C inT11 0 rfl rfl 0 (by decide) t_893 rfl dX11_init_111 ?_
  refine r_bipush (v := 67) C dX11_init_114 (by decide) ?_
  refine r_iload_n C dX11_init_116 0 rfl ?_
  refine r_iconst (v := 4) C dX11_init_117 (by decide) ?_
  refine r_idiv (z := 4) C dX11_init_118 (by decide) (by decide) ?_
  refine r_imul (z := 268) C dX11_init_119 (by decide) ?_
  refine r_iload_n C dX11_init_120 0 rfl ?_
  refine r_iconst (v := 4) C dX11_init_121 (by decide) ?_
  refine r_irem (z := 1) C dX11_init_122 (by decide) (by decide) ?_
  refine r_iadd (z := 269) C dX11_init_123 (by decide) ?_
  refine r_iload_n C dX11_init_124 0 rfl ?_
  refine r_iconst (v := 4) C dX11_init_125 (by decide) ?_
  refine r_irem (z := 1) C dX11_init_126 (by decide) (by decide) ?_
  refine r_iconst (v := 1) C dX11_init_127 (by decide) ?_
  refine r_iadd (z := 2) C dX11_init_128 (by decide) ?_
  obtain ⟨g30, e_g30⟩ : ∃ z : Nat → Int32, z = upd g29 269 2 := ⟨_, rfl⟩
  refine r_iast C 1 0 rfl rfl (vp_in_nI (n := 269) (N := 335) (by decide) (by decide)) (I' := [[(o, .inr (9, [.ref q1, .ref q2, .int 0, .ref q3, .int 0, .ref q4, .int 0, .int 0, .ref q5, .ref q6, .ref q7, .ref q8, .int 0, .ref q9, .ref q10, .ref q11, .ref q12, .long 0]))], [(q1, .inl (cI, 335, .inl g30))], [(q2, .inl (cI, 2010, .inl (fun _ => 0)))], [(q3, .inl (cI, 335, .inl (fun _ => 0)))], [(q4, .inl (cI, 60, .inl (fun _ => 0)))], [(q5, .inl (cI, 4, .inl (fun _ => 0)))], [(q6, .inl (cI, 4, .inl (fun _ => 0)))], [(q7, .inl (cI, 4, .inl (fun _ => 0)))], [(q8, .inl (cI, 20, .inl (fun _ => 0)))], [(q9, .inl (cI, 6, .inl (fun _ => 0)))], [(q10, .inl (cI, 6, .inl (fun _ => 0)))], [(q11, .inl (cI, 6561, .inl (fun _ => 0)))], [(q12, .inl (cI, 400, .inl (fun _ => 0)))]]) (by rw [e_g30]; rfl) dX11_init_129 ?_
  refine r_iinc (v := 18) (L' := [(1, .int 18), (0, .ref o)]) C dX11_init_130 0 rfl (by decide) (by decide) rfl ?_
  refine r_goto (tgt := 104) C dX11_init_133 (by decide) ?_
  refine r_iload_n C dX11_init_104 0 rfl ?_
  refine r_bipush (v := 20) C dX11_init_105 (by decide) ?_
  refine r_icmp_ge (tgt := 136) C dX11_init_107 (by decide) (fun c => absurd c (by decide)) (fun _ => ?_)
  refine r_aload_n C dX11_init_110 1 rfl ?_
  refine r_get (Cn := RX11) (T := TX11) (N := 18) C inT11 0 rfl rfl 0 (by decide) t_893 rfl dX11_init_111 ?_
  refine r_bipush (v := 67) C dX11_init_114 (by decide) ?_
  refine r_iload_n C dX11_init_116 0 rfl ?_
  refine r_iconst (v := 4) C dX11_init_117 (by decide) ?_
  refine r_idiv (z := 4) C dX11_init_118 (by decide) (by decide) ?_
  refine r_imul (z := 268) C dX11_init_119 (by decide) ?_
  refine r_iload_n C dX11_init_120 0 rfl ?_
  refine r_iconst (v := 4) C dX11_init_121 (by decide) ?_
  refine r_irem (z := 2) C dX11_init_122 (by decide) (by decide) ?_
  refine r_iadd (z := 270) C dX11_init_123 (by decide) ?_
  refine r_iload_n C dX11_init_124 0 rfl ?_
  refine r_iconst (v := 4) C dX11_init_125 (by decide) ?_
  refine r_irem (z := 2) C dX11_init_126 (by decide) (by decide) ?_
  refine r_iconst (v := 1) C dX11_init_127 (by decide) ?_
  refine r_iadd (z := 3) C dX11_init_128 (by decide) ?_
  obtain ⟨g31, e_g31⟩ : ∃ z : Nat → Int32, z = upd g30 270 3 := ⟨_, rfl⟩
  refine r_iast C 1 0 rfl rfl (vp_in_nI (n := 270) (N := 335) (by decide) (by decide)) (I' := [[(o, .inr (9, [.ref q1, .ref q2, .int 0, .ref q3, .int 0, .ref q4, .int 0, .int 0, .ref q5, .ref q6, .ref q7, .ref q8, .int 0, .ref q9, .ref q10, .ref q11, .ref q12, .long 0]))], [(q1, .inl (cI, 335, .inl g31))], [(q2, .inl (cI, 2010, .inl (fun _ => 0)))], [(q3, .inl (cI, 335, .inl (fun _ => 0)))], [(q4, .inl (cI, 60, .inl (fun _ => 0)))], [(q5, .inl (cI, 4, .inl (fun _ => 0)))], [(q6, .inl (cI, 4, .inl (fun _ => 0)))], [(q7, .inl (cI, 4, .inl (fun _ => 0)))], [(q8, .inl (cI, 20, .inl (fun _ => 0)))], [(q9, .inl (cI, 6, .inl (fun _ => 0)))], [(q10, .inl (cI, 6, .inl (fun _ => 0)))], [(q11, .inl (cI, 6561, .inl (fun _ => 0)))], [(q12, .inl (cI, 400, .inl (fun _ => 0)))]]) (by rw [e_g31]; rfl) dX11_init_129 ?_
  refine r_iinc (v := 19) (L' := [(1, .int 19), (0, .ref o)]) C dX11_init_130 0 rfl (by decide) (by decide) rfl ?_
  refine r_goto (tgt := 104) C dX11_init_133 (by decide) ?_
  refine r_iload_n C dX11_init_104 0 rfl ?_
  refine r_bipush (v := 20) C dX11_init_105 (by decide) ?_
  refine r_icmp_ge (tgt := 136) C dX11_init_107 (by decide) (fun c => absurd c (by decide)) (fun _ => ?_)
  refine r_aload_n C dX11_init_110 1 rfl ?_
  refine r_get (Cn := RX11) (T := TX11) (N := 18) C inT11 0 rfl rfl 0 (by decide) t_893 rfl dX11_init_111 ?_
  refine r_bipush (v := 67) C dX11_init_114 (by decide) ?_
  refine r_iload_n C dX11_init_116 0 rfl ?_
  refine r_iconst (v := 4) C dX11_init_117 (by decide) ?_
  refine r_idiv (z := 4) C dX11_init_118 (by decide) (by decide) ?_
  refine r_imul (z := 268) C dX11_init_119 (by decide) ?_
  refine r_iload_n C dX11_init_120 0 rfl ?_
  refine r_iconst (v := 4) C dX11_init_121 (by decide) ?_
  refine r_irem (z := 3) C dX11_init_122 (by decide) (by decide) ?_
  refine r_iadd (z := 271) C dX11_init_123 (by decide) ?_
  refine r_iload_n C dX11_init_124 0 rfl ?_
  refine r_iconst (v := 4) C dX11_init_125 (by decide) ?_
  refine r_irem (z := 3) C dX11_init_126 (by decide) (by decide) ?_
  refine r_iconst (v := 1) C dX11_init_127 (by decide) ?_
  refine r_iadd (z := 4) C dX11_init_128 (by decide) ?_
  obtain ⟨g32, e_g32⟩ : ∃ z : Nat → Int32, z = upd g31 271 4 := ⟨_, rfl⟩
  refine r_iast C 1 0 rfl rfl (vp_in_nI (n := 271) (N := 335) (by decide) (by decide)) (I' := [[(o, .inr (9, [.ref q1, .ref q2, .int 0, .ref q3, .int 0, .ref q4, .int 0, .int 0, .ref q5, .ref q6, .ref q7, .ref q8, .int 0, .ref q9, .ref q10, .ref q11, .ref q12, .long 0]))], [(q1, .inl (cI, 335, .inl g32))], [(q2, .inl (cI, 2010, .inl (fun _ => 0)))], [(q3, .inl (cI, 335, .inl (fun _ => 0)))], [(q4, .inl (cI, 60, .inl (fun _ => 0)))], [(q5, .inl (cI, 4, .inl (fun _ => 0)))], [(q6, .inl (cI, 4, .inl (fun _ => 0)))], [(q7, .inl (cI, 4, .inl (fun _ => 0)))], [(q8, .inl (cI, 20, .inl (fun _ => 0)))], [(q9, .inl (cI, 6, .inl (fun _ => 0)))], [(q10, .inl (cI, 6, .inl (fun _ => 0)))], [(q11, .inl (cI, 6561, .inl (fun _ => 0)))], [(q12, .inl (cI, 400, .inl (fun _ => 0)))]]) (by rw [e_g32]; rfl) dX11_init_129 ?_
  refine r_iinc (v := 20) (L' := [(1, .int 20), (0, .ref o)]) C dX11_init_130 0 rfl (by decide) (by decide) rfl ?_
  refine r_goto (tgt := 104) C dX11_init_133 (by decide) ?_
  refine r_iload_n C dX11_init_104 0 rfl ?_
  refine r_bipush (v := 20) C dX11_init_105 (by decide) ?_
  refine r_icmp_ge (tgt := 136) C dX11_init_107 (by decide) (fun _ => ?_) (fun c => absurd c (by decide))
  exact r_vret (r := ()) C hA hr hlo dX11_init_136 [[(o, .inr (9, [.ref q1, .ref q2, .int 0, .ref q3, .int 0, .ref q4, .int 0, .int 0, .ref q5, .ref q6, .ref q7, .ref q8, .int 0, .ref q9, .ref q10, .ref q11, .ref q12, .long 0]))], [(q1, .inl (cI, 335, .inl s0_init))], [(q2, .inl (cI, 2010, .inl (fun _ => 0)))], [(q3, .inl (cI, 335, .inl (fun _ => 0)))], [(q4, .inl (cI, 60, .inl (fun _ => 0)))], [(q5, .inl (cI, 4, .inl (fun _ => 0)))], [(q6, .inl (cI, 4, .inl (fun _ => 0)))], [(q7, .inl (cI, 4, .inl (fun _ => 0)))], [(q8, .inl (cI, 20, .inl (fun _ => 0)))], [(q9, .inl (cI, 6, .inl (fun _ => 0)))], [(q10, .inl (cI, 6, .inl (fun _ => 0)))], [(q11, .inl (cI, 6561, .inl (fun _ => 0)))], [(q12, .inl (cI, 400, .inl (fun _ => 0)))]] ⟨q1, q2, q3, q4, q5, q6, q7, q8, q9, q10, q11, q12, rfl⟩ (by have q := e_g13.symm; subst q; have q := e_g14.symm; subst q; have q := e_g15.symm; subst q; have q := e_g16.symm; subst q; have q := e_g17.symm; subst q; have q := e_g18.symm; subst q; have q := e_g19.symm; subst q; have q := e_g20.symm; subst q; have q := e_g21.symm; subst q; have q := e_g22.symm; subst q; have q := e_g23.symm; subst q; have q := e_g24.symm; subst q; have q := e_g25.symm; subst q; have q := e_g26.symm; subst q; have q := e_g27.symm; subst q; have q := e_g28.symm; subst q; have q := e_g29.symm; subst q; have q := e_g30.symm; subst q; have q := e_g31.symm; subst q; have q := e_g32.symm; subst q; rfl) hQ

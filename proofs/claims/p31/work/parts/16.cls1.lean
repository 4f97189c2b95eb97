abbrev unrB (cI : ClassId) (u : Nat) (h : Nat) (v : Nat) (hb : Nat) (sb : Nat) (n : Int32) (f : Nat → Int32) (fhb : Nat → Int32) (fsb : Nat → Int32) (opn : Int32) (usz : Int32) : va_W := [(u, .inr (6, [.ref h, .ref hb, .ref sb, .int opn, .int usz])), (h, .inr (4, [.ref v, .int n])), (v, .inl (cI, 60, .inl f)), (hb, .inl (cI, 5, .inl fhb)), (sb, .inl (cI, 5, .inl fsb))]
abbrev walB (cI : ClassId) (w : Nat) (me : Nat) (fo : Nat) (fd : Nat) (fme : Nat → Int32) (ffo : Nat → Int32) (ffd : Nat → Int32) (kn : Int32) : va_W := [(w, .inr (7, [.ref me, .ref fo, .ref fd, .int kn])), (me, .inl (cI, 384, .inl fme)), (fo, .inl (cI, 384, .inl ffo)), (fd, .inl (cI, 21, .inl ffd))]
theorem k_X9_meet : kV yX9_meet cX9_meet 4 none 2 := ⟨t_398, t_4, t_15, t_399, by decide +kernel, by decide +kernel, by decide +kernel⟩
set_option maxRecDepth 20000 in
def F_X9_meet (fme : Nat → Int32) (ffo : Nat → Int32) (ffd : Nat → Int32) (kn : Int32) (lie : Int32) (folds : Int32) : (Nat → Int32) × (Nat → Int32) × (Nat → Int32) × Int32 := let x3 : Int32 := (if kn < 0 then (0) else ((if 384 ≤ kn then (0) else (1)))); let x16 : Int32 := (if x3 = 0 then (kn) else ((if folds < 0 then (kn) else ((if 21 ≤ folds then (kn) else (let x15 : Int32 := kn + 1; x15)))))); let g17 : Nat → Int32 := (if x3 = 0 then (fme) else ((if folds < 0 then (fme) else ((if 21 ≤ folds then (fme) else (let g8 : Nat → Int32 := upd fme (kn.toNatClampNeg) lie; g8)))))); let g18 : Nat → Int32 := (if x3 = 0 then (ffo) else ((if folds < 0 then (ffo) else ((if 21 ≤ folds then (ffo) else (let g10 : Nat → Int32 := upd ffo (kn.toNatClampNeg) folds; g10)))))); let g19 : Nat → Int32 := (if x3 = 0 then (ffd) else ((if folds < 0 then (ffd) else ((if 21 ≤ folds then (ffd) else (let x12 : Int32 := (ffd folds.toNatClampNeg) + 1; let g14 : Nat → Int32 := upd ffd (folds.toNatClampNeg) x12; g14)))))); (g17, g18, g19, x16)
set_option maxRecDepth 20000 in
def P_X9_meet (fme : Nat → Int32) (ffo : Nat → Int32) (ffd : Nat → Int32) (kn : Int32) (lie : Int32) (folds : Int32) : Prop := (∀ x3 : Int32, x3 = ((if kn < 0 then (0) else ((if 384 ≤ kn then (0) else (1))))) → ((x3 = 0 → True) ∧ (¬ x3 = 0 → ((folds < 0 → True) ∧ (¬ folds < 0 → ((21 ≤ folds → True) ∧ (¬ 21 ≤ folds → ((vp_in kn 384) ∧ (∀ g8 : Nat → Int32, g8 = upd fme (kn.toNatClampNeg) lie → ((vp_in kn 384) ∧ (∀ g10 : Nat → Int32, g10 = upd ffo (kn.toNatClampNeg) folds → ((vp_in folds 21) ∧ (∀ x12 : Int32, x12 = (ffd folds.toNatClampNeg) + 1 → (vp_in folds 21))))))))))))))
set_option maxRecDepth 20000 in
set_option maxHeartbeats 8000000 in
theorem m_X9_meet (l : Launch) (D : va_G) (cI cL cP cJ : ClassId) (w : Nat) (me : Nat) (fo : Nat) (fd : Nat) (fme : Nat → Int32) (ffo : Nat → Int32) (ffd : Nat → Int32) (kn : Int32) (lie : Int32) (folds : Int32) (hp : P_X9_meet fme ffo ffd kn lie folds) : M vV l yX9_meet cX9_meet 4 none 0 0 D (tyF cI cL cP cJ) [.ref w, .int lie, .int folds] [walB cI w me fo fd fme ffo ffd kn] (fun (r : Unit) (w1 : List va_W) => w1 = [walB cI w me fo fd ((F_X9_meet fme ffo ffd kn lie folds).1) ((F_X9_meet fme ffo ffd kn lie folds).2.1) ((F_X9_meet fme ffo ffd kn lie folds).2.2.1) ((F_X9_meet fme ffo ffd kn lie folds).2.2.2)]) := by
  unfold P_X9_meet at hp
  refine m_start (by decide +kernel) (Nat.le_of_ble_eq_true rfl) (fun p e s m args below meth c A Q hA hQ C hr hlo => ?_)
  refine r_Le (L' := [(0, .ref w), (1, .int lie), (2, .int folds)]) rfl ?_
  refine r_aload_n C dX9_meet_0 0 rfl ?_
  refine r_ws (I' := [[(w, .inr (7, [.ref me, .ref fo, .ref fd, .int kn]))], [(me, .inl (cI, 384, .inl fme))], [(fo, .inl (cI, 384, .inl ffo))], [(fd, .inl (cI, 21, .inl ffd))]]) rfl ?_
  refine r_get (Cn := RX9) (T := TX9) (N := 4) C inT9 0 rfl rfl 3 (by decide) t_150 rfl dX9_meet_1 ?_
  suffices K : ∀ x3 : Int32, x3 = ((if kn < 0 then (0) else ((if 384 ≤ kn then (0) else (1))))) → V p l e (rmm 0 0) s m args below meth c 4 D A 0 0 Q [[(w, .inr (7, [.ref me, .ref fo, .ref fd, .int kn]))], [(me, .inl (cI, 384, .inl fme))], [(fo, .inl (cI, 384, .inl ffo))], [(fd, .inl (cI, 21, .inl ffd))]] [(0, .ref w), (1, .int lie), (2, .int folds)] 36 [.int x3] by
    refine r_if_lt (tgt := 35) C dX9_meet_4 (by decide) (fun c1 => ?_) (fun c1 => ?_)
    · refine r_iconst (v := 0) C dX9_meet_35 (by decide) ?_
      exact K _ (by simp only [if_pos c1])
    · refine r_aload_n C dX9_meet_7 0 rfl ?_
      refine r_get (Cn := RX9) (T := TX9) (N := 4) C inT9 0 rfl rfl 3 (by decide) t_150 rfl dX9_meet_8 ?_
      refine r_aload_n C dX9_meet_11 0 rfl ?_
      refine r_get (Cn := RX9) (T := TX9) (N := 4) C inT9 0 rfl rfl 0 (by decide) t_147 rfl dX9_meet_12 ?_
      refine r_alen (v := 384) C 1 0 rfl rfl rfl dX9_meet_15 ?_
      refine r_icmp_ge (tgt := 35) C dX9_meet_16 (by decide) (fun c2 => ?_) (fun c2 => ?_)
      · refine r_iconst (v := 0) C dX9_meet_35 (by decide) ?_
        exact K _ (by simp only [if_neg c1, if_pos c2])
      · refine r_aload_n C dX9_meet_19 0 rfl ?_
        refine r_get (Cn := RX9) (T := TX9) (N := 4) C inT9 0 rfl rfl 3 (by decide) t_150 rfl dX9_meet_20 ?_
        refine r_aload_n C dX9_meet_23 0 rfl ?_
        refine r_get (Cn := RX9) (T := TX9) (N := 4) C inT9 0 rfl rfl 1 (by decide) t_148 rfl dX9_meet_24 ?_
        refine r_alen (v := 384) C 2 0 rfl rfl rfl dX9_meet_27 ?_
        refine r_icmp_ge (tgt := 35) C dX9_meet_28 (by decide) (fun c => absurd c c2) (fun _ => ?_)
        refine r_iconst (v := 1) C dX9_meet_31 (by decide) ?_
        refine r_goto (tgt := 36) C dX9_meet_32 (by decide) ?_
        exact K _ (by simp only [if_neg c1, if_neg c2])
  intro x3 e_x3
  have hp := hp x3 e_x3
  refine r_istore_n (L' := [(3, .int x3), (0, .ref w), (1, .int lie), (2, .int folds)]) C dX9_meet_36 (by decide) rfl ?_
  refine r_iload_n C dX9_meet_37 0 rfl ?_
  have hps := hp
  suffices K : ∀ x16 : Int32, x16 = ((if x3 = 0 then (kn) else ((if folds < 0 then (kn) else ((if 21 ≤ folds then (kn) else (let x15 : Int32 := kn + 1; x15))))))) → ∀ g17 : Nat → Int32, g17 = ((if x3 = 0 then (fme) else ((if folds < 0 then (fme) else ((if 21 ≤ folds then (fme) else (let g8 : Nat → Int32 := upd fme (kn.toNatClampNeg) lie; g8))))))) → ∀ g18 : Nat → Int32, g18 = ((if x3 = 0 then (ffo) else ((if folds < 0 then (ffo) else ((if 21 ≤ folds then (ffo) else (let g10 : Nat → Int32 := upd ffo (kn.toNatClampNeg) folds; g10))))))) → ∀ g19 : Nat → Int32, g19 = ((if x3 = 0 then (ffd) else ((if folds < 0 then (ffd) else ((if 21 ≤ folds then (ffd) else (let x12 : Int32 := (ffd folds.toNatClampNeg) + 1; let g14 : Nat → Int32 := upd ffd (folds.toNatClampNeg) x12; g14))))))) → V p l e (rmm 0 0) s m args below meth c 4 D A 0 0 Q [[(w, .inr (7, [.ref me, .ref fo, .ref fd, .int x16]))], [(me, .inl (cI, 384, .inl g17))], [(fo, .inl (cI, 384, .inl g18))], [(fd, .inl (cI, 21, .inl g19))]] [(3, .int x3), (0, .ref w), (1, .int lie), (2, .int folds)] 94 [] by
    have hp := hps
    refine r_if_eq (tgt := 94) C dX9_meet_38 (by decide) (fun c4 => ?_) (fun c4 => ?_)
    · exact K _ (by simp only [if_pos c4]) _ (by simp only [if_pos c4]) _ (by simp only [if_pos c4]) _ (by simp only [if_pos c4])
    · have hp := hp.2 c4
      refine r_iload_n C dX9_meet_41 3 rfl ?_
      refine r_if_lt (tgt := 94) C dX9_meet_42 (by decide) (fun c5 => ?_) (fun c5 => ?_)
      · exact K _ (by simp only [if_neg c4, if_pos c5]) _ (by simp only [if_neg c4, if_pos c5]) _ (by simp only [if_neg c4, if_pos c5]) _ (by simp only [if_neg c4, if_pos c5])
      · have hp := hp.2 c5
        refine r_iload_n C dX9_meet_45 3 rfl ?_
        refine r_aload_n C dX9_meet_46 1 rfl ?_
        refine r_get (Cn := RX9) (T := TX9) (N := 4) C inT9 0 rfl rfl 2 (by decide) t_149 rfl dX9_meet_47 ?_
        refine r_alen (v := 21) C 3 0 rfl rfl rfl dX9_meet_50 ?_
        refine r_icmp_ge (tgt := 94) C dX9_meet_51 (by decide) (fun c6 => ?_) (fun c6 => ?_)
        · exact K _ (by simp only [if_neg c4, if_neg c5, if_pos c6]) _ (by simp only [if_neg c4, if_neg c5, if_pos c6]) _ (by simp only [if_neg c4, if_neg c5, if_pos c6]) _ (by simp only [if_neg c4, if_neg c5, if_pos c6])
        · have hp := hp.2 c6
          refine r_aload_n C dX9_meet_54 1 rfl ?_
          refine r_get (Cn := RX9) (T := TX9) (N := 4) C inT9 0 rfl rfl 0 (by decide) t_147 rfl dX9_meet_55 ?_
          refine r_aload_n C dX9_meet_58 1 rfl ?_
          refine r_get (Cn := RX9) (T := TX9) (N := 4) C inT9 0 rfl rfl 3 (by decide) t_150 rfl dX9_meet_59 ?_
          refine r_iload_n C dX9_meet_62 2 rfl ?_
          obtain ⟨h7, hp⟩ := hp
          obtain ⟨g8, e_g8⟩ : ∃ z : Nat → Int32, z = upd fme (kn.toNatClampNeg) lie := ⟨_, rfl⟩
          have hp := hp g8 e_g8
          refine r_iast C 1 0 rfl rfl h7 (I' := [[(w, .inr (7, [.ref me, .ref fo, .ref fd, .int kn]))], [(me, .inl (cI, 384, .inl g8))], [(fo, .inl (cI, 384, .inl ffo))], [(fd, .inl (cI, 21, .inl ffd))]]) (by rw [e_g8]; rfl) dX9_meet_63 ?_
          refine r_aload_n C dX9_meet_64 1 rfl ?_
          refine r_get (Cn := RX9) (T := TX9) (N := 4) C inT9 0 rfl rfl 1 (by decide) t_148 rfl dX9_meet_65 ?_
          refine r_aload_n C dX9_meet_68 1 rfl ?_
          refine r_get (Cn := RX9) (T := TX9) (N := 4) C inT9 0 rfl rfl 3 (by decide) t_150 rfl dX9_meet_69 ?_
          refine r_iload_n C dX9_meet_72 3 rfl ?_
          obtain ⟨h9, hp⟩ := hp
          obtain ⟨g10, e_g10⟩ : ∃ z : Nat → Int32, z = upd ffo (kn.toNatClampNeg) folds := ⟨_, rfl⟩
          have hp := hp g10 e_g10
          refine r_iast C 2 0 rfl rfl h9 (I' := [[(w, .inr (7, [.ref me, .ref fo, .ref fd, .int kn]))], [(me, .inl (cI, 384, .inl g8))], [(fo, .inl (cI, 384, .inl g10))], [(fd, .inl (cI, 21, .inl ffd))]]) (by rw [e_g10]; rfl) dX9_meet_73 ?_
          refine r_aload_n C dX9_meet_74 1 rfl ?_
          refine r_get (Cn := RX9) (T := TX9) (N := 4) C inT9 0 rfl rfl 2 (by decide) t_149 rfl dX9_meet_75 ?_
          refine r_iload_n C dX9_meet_78 3 rfl ?_
          refine r_dup2_11 C dX9_meet_79 rfl rfl ?_
          obtain ⟨h11, hp⟩ := hp
          refine r_iald (z := ffd folds.toNatClampNeg) C 3 0 rfl rfl h11 dX9_meet_80 rfl ?_
          refine r_iconst (v := 1) C dX9_meet_81 (by decide) ?_
          refine r_iadd C dX9_meet_82 rfl ?_
          refine r_top (fun x12 e_x12 => ?_)
          have hp := hp x12 e_x12
          have h13 := hp
          obtain ⟨g14, e_g14⟩ : ∃ z : Nat → Int32, z = upd ffd (folds.toNatClampNeg) x12 := ⟨_, rfl⟩
          refine r_iast C 3 0 rfl rfl h13 (I' := [[(w, .inr (7, [.ref me, .ref fo, .ref fd, .int kn]))], [(me, .inl (cI, 384, .inl g8))], [(fo, .inl (cI, 384, .inl g10))], [(fd, .inl (cI, 21, .inl g14))]]) (by rw [e_g14]; rfl) dX9_meet_83 ?_
          refine r_aload_n C dX9_meet_84 1 rfl ?_
          refine r_dup C dX9_meet_85 rfl ?_
          refine r_get (Cn := RX9) (T := TX9) (N := 4) C inT9 0 rfl rfl 3 (by decide) t_150 rfl dX9_meet_86 ?_
          refine r_iconst (v := 1) C dX9_meet_89 (by decide) ?_
          refine r_iadd C dX9_meet_90 rfl ?_
          refine r_top (fun x15 e_x15 => ?_)
          refine r_put (Cn := RX9) (T := TX9) (N := 4) C inT9 0 rfl rfl 3 (by decide) t_150 tyX9 tyX9_ok nmX9 rfl rfl rfl (Nat.le_of_ble_eq_true rfl) (I' := [[(w, .inr (7, [.ref me, .ref fo, .ref fd, .int x15]))], [(me, .inl (cI, 384, .inl g8))], [(fo, .inl (cI, 384, .inl g10))], [(fd, .inl (cI, 21, .inl g14))]]) rfl dX9_meet_91 ?_
          exact K _ (by have q := e_g8.symm; subst q; have q := e_g10.symm; subst q; have q := e_x12.symm; subst q; have q := e_g14.symm; subst q; have q := e_x15.symm; subst q; simp only [if_neg c4, if_neg c5, if_neg c6]) _ (by have q := e_g8.symm; subst q; have q := e_g10.symm; subst q; have q := e_x12.symm; subst q; have q := e_g14.symm; subst q; have q := e_x15.symm; subst q; simp only [if_neg c4, if_neg c5, if_neg c6]) _ (by have q := e_g8.symm; subst q; have q := e_g10.symm; subst q; have q := e_x12.symm; subst q; have q := e_g14.symm; subst q; have q := e_x15.symm; subst q; simp only [if_neg c4, if_neg c5, if_neg c6]) _ (by have q := e_g8.symm; subst q; have q := e_g10.symm; subst q; have q := e_x12.symm; subst q; have q := e_g14.symm; subst q; have q := e_x15.symm; subst q; simp only [if_neg c4, if_neg c5, if_neg c6])
  intro x16 e_x16 g17 e_g17 g18 e_g18 g19 e_g19
  refine r_ws (I' := [walB cI w me fo fd g17 g18 g19 x16]) rfl ?_
  have eF : F_X9_meet fme ffo ffd kn lie folds = (g17, g18, g19, x16) := by have q := e_x3.symm; subst q; have q := e_x16.symm; subst q; have q := e_g17.symm; subst q; have q := e_g18.symm; subst q; have q := e_g19.symm; subst q; rfl
  exact r_vret (r := ()) C hA hr hlo dX9_meet_94 [walB cI w me fo fd g17 g18 g19 x16] (by simp only [eF]) rfl hQ
theorem k_X9_go : kV yX9_go cX9_go 4 none 0 := ⟨t_394, t_3, t_15, t_395, by decide +kernel, by decide +kernel, by decide +kernel⟩
def F_X9_go_L10  : Nat → (Nat → Int32) → (Nat → Int32) → (Nat → Int32) → Int32 → Int32 → (Nat → Int32) × (Nat → Int32) × (Nat → Int32) × Int32 × Int32
  | 0, k7, k8, k9, y10, y11 => (k7, k8, k9, y10, y11)
  | nn + 1, k7, k8, k9, y10, y11 => (if y10 ≤ y11 then ((k7, k8, k9, y10, y11)) else ((if 384 ≤ y11 then ((k7, k8, k9, y10, y11)) else (let r15 : Int32 := F_X3_folded (k7 y11.toNatClampNeg) 0; let r16 : Int32 := F_X3_firstShortening r15; let x25 : Int32 := (if r16 = 0 then (let x24 : Int32 := (F_X9_meet k7 k8 k9 y10 r15 ((k8 y11.toNatClampNeg) + 1)).2.2.2; x24) else (y10)); let g26 : Nat → Int32 := (if r16 = 0 then (let g21 : Nat → Int32 := (F_X9_meet k7 k8 k9 y10 r15 ((k8 y11.toNatClampNeg) + 1)).1; g21) else (k7)); let g27 : Nat → Int32 := (if r16 = 0 then (let g22 : Nat → Int32 := (F_X9_meet k7 k8 k9 y10 r15 ((k8 y11.toNatClampNeg) + 1)).2.1; g22) else (k8)); let g28 : Nat → Int32 := (if r16 = 0 then (let g23 : Nat → Int32 := (F_X9_meet k7 k8 k9 y10 r15 ((k8 y11.toNatClampNeg) + 1)).2.2.1; g23) else (k9)); let r30 : Int32 := F_X3_folded (g26 y11.toNatClampNeg) 1; let r31 : Int32 := F_X3_firstShortening r30; let x40 : Int32 := (if r31 = 1 then (let x39 : Int32 := (F_X9_meet g26 g27 g28 x25 r30 ((g27 y11.toNatClampNeg) + 1)).2.2.2; x39) else (x25)); let g41 : Nat → Int32 := (if r31 = 1 then (let g36 : Nat → Int32 := (F_X9_meet g26 g27 g28 x25 r30 ((g27 y11.toNatClampNeg) + 1)).1; g36) else (g26)); let g42 : Nat → Int32 := (if r31 = 1 then (let g37 : Nat → Int32 := (F_X9_meet g26 g27 g28 x25 r30 ((g27 y11.toNatClampNeg) + 1)).2.1; g37) else (g27)); let g43 : Nat → Int32 := (if r31 = 1 then (let g38 : Nat → Int32 := (F_X9_meet g26 g27 g28 x25 r30 ((g27 y11.toNatClampNeg) + 1)).2.2.1; g38) else (g28)); let r45 : Int32 := F_X3_folded (g41 y11.toNatClampNeg) 2; let r46 : Int32 := F_X3_firstShortening r45; let x55 : Int32 := (if r46 = 2 then (let x54 : Int32 := (F_X9_meet g41 g42 g43 x40 r45 ((g42 y11.toNatClampNeg) + 1)).2.2.2; x54) else (x40)); let g56 : Nat → Int32 := (if r46 = 2 then (let g51 : Nat → Int32 := (F_X9_meet g41 g42 g43 x40 r45 ((g42 y11.toNatClampNeg) + 1)).1; g51) else (g41)); let g57 : Nat → Int32 := (if r46 = 2 then (let g52 : Nat → Int32 := (F_X9_meet g41 g42 g43 x40 r45 ((g42 y11.toNatClampNeg) + 1)).2.1; g52) else (g42)); let g58 : Nat → Int32 := (if r46 = 2 then (let g53 : Nat → Int32 := (F_X9_meet g41 g42 g43 x40 r45 ((g42 y11.toNatClampNeg) + 1)).2.2.1; g53) else (g43)); let r60 : Int32 := F_X3_folded (g56 y11.toNatClampNeg) 3; let r61 : Int32 := F_X3_firstShortening r60; let x70 : Int32 := (if r61 = 3 then (let x69 : Int32 := (F_X9_meet g56 g57 g58 x55 r60 ((g57 y11.toNatClampNeg) + 1)).2.2.2; x69) else (x55)); let g71 : Nat → Int32 := (if r61 = 3 then (let g66 : Nat → Int32 := (F_X9_meet g56 g57 g58 x55 r60 ((g57 y11.toNatClampNeg) + 1)).1; g66) else (g56)); let g72 : Nat → Int32 := (if r61 = 3 then (let g67 : Nat → Int32 := (F_X9_meet g56 g57 g58 x55 r60 ((g57 y11.toNatClampNeg) + 1)).2.1; g67) else (g57)); let g73 : Nat → Int32 := (if r61 = 3 then (let g68 : Nat → Int32 := (F_X9_meet g56 g57 g58 x55 r60 ((g57 y11.toNatClampNeg) + 1)).2.2.1; g68) else (g58)); let x74 : Int32 := y11 + 1; F_X9_go_L10 nn g71 g72 g73 x70 x74))))
def P_X9_go_L10  : Nat → (Nat → Int32) → (Nat → Int32) → (Nat → Int32) → Int32 → Int32 → Prop
  | 0, _, _, _, _, _ => False
  | nn + 1, k7, k8, k9, y10, y11 => ((y10 ≤ y11 → True) ∧ (¬ y10 ≤ y11 → ((384 ≤ y11 → True) ∧ (¬ 384 ≤ y11 → ((vp_in y11 384) ∧ (∀ r15 : Int32, r15 = F_X3_folded (k7 y11.toNatClampNeg) 0 → (∀ r16 : Int32, r16 = F_X3_firstShortening r15 → (((r16 = 0 → ((vp_in y11 384) ∧ (P_X9_meet k7 k8 k9 y10 r15 ((k8 y11.toNatClampNeg) + 1)))) ∧ (¬ r16 = 0 → True)) ∧ (∀ x25 : Int32, x25 = ((if r16 = 0 then (let x24 : Int32 := (F_X9_meet k7 k8 k9 y10 r15 ((k8 y11.toNatClampNeg) + 1)).2.2.2; x24) else (y10))) → (∀ g26 : Nat → Int32, g26 = ((if r16 = 0 then (let g21 : Nat → Int32 := (F_X9_meet k7 k8 k9 y10 r15 ((k8 y11.toNatClampNeg) + 1)).1; g21) else (k7))) → (∀ g27 : Nat → Int32, g27 = ((if r16 = 0 then (let g22 : Nat → Int32 := (F_X9_meet k7 k8 k9 y10 r15 ((k8 y11.toNatClampNeg) + 1)).2.1; g22) else (k8))) → (∀ g28 : Nat → Int32, g28 = ((if r16 = 0 then (let g23 : Nat → Int32 := (F_X9_meet k7 k8 k9 y10 r15 ((k8 y11.toNatClampNeg) + 1)).2.2.1; g23) else (k9))) → ((vp_in y11 384) ∧ (∀ r30 : Int32, r30 = F_X3_folded (g26 y11.toNatClampNeg) 1 → (∀ r31 : Int32, r31 = F_X3_firstShortening r30 → (((r31 = 1 → ((vp_in y11 384) ∧ (P_X9_meet g26 g27 g28 x25 r30 ((g27 y11.toNatClampNeg) + 1)))) ∧ (¬ r31 = 1 → True)) ∧ (∀ x40 : Int32, x40 = ((if r31 = 1 then (let x39 : Int32 := (F_X9_meet g26 g27 g28 x25 r30 ((g27 y11.toNatClampNeg) + 1)).2.2.2; x39) else (x25))) → (∀ g41 : Nat → Int32, g41 = ((if r31 = 1 then (let g36 : Nat → Int32 := (F_X9_meet g26 g27 g28 x25 r30 ((g27 y11.toNatClampNeg) + 1)).1; g36) else (g26))) → (∀ g42 : Nat → Int32, g42 = ((if r31 = 1 then (let g37 : Nat → Int32 := (F_X9_meet g26 g27 g28 x25 r30 ((g27 y11.toNatClampNeg) + 1)).2.1; g37) else (g27))) → (∀ g43 : Nat → Int32, g43 = ((if r31 = 1 then (let g38 : Nat → Int32 := (F_X9_meet g26 g27 g28 x25 r30 ((g27 y11.toNatClampNeg) + 1)).2.2.1; g38) else (g28))) → ((vp_in y11 384) ∧ (∀ r45 : Int32, r45 = F_X3_folded (g41 y11.toNatClampNeg) 2 → (∀ r46 : Int32, r46 = F_X3_firstShortening r45 → (((r46 = 2 → ((vp_in y11 384) ∧ (P_X9_meet g41 g42 g43 x40 r45 ((g42 y11.toNatClampNeg) + 1)))) ∧ (¬ r46 = 2 → True)) ∧ (∀ x55 : Int32, x55 = ((if r46 = 2 then (let x54 : Int32 := (F_X9_meet g41 g42 g43 x40 r45 ((g42 y11.toNatClampNeg) + 1)).2.2.2; x54) else (x40))) → (∀ g56 : Nat → Int32, g56 = ((if r46 = 2 then (let g51 : Nat → Int32 := (F_X9_meet g41 g42 g43 x40 r45 ((g42 y11.toNatClampNeg) + 1)).1; g51) else (g41))) → (∀ g57 : Nat → Int32, g57 = ((if r46 = 2 then (let g52 : Nat → Int32 := (F_X9_meet g41 g42 g43 x40 r45 ((g42 y11.toNatClampNeg) + 1)).2.1; g52) else (g42))) → (∀ g58 : Nat → Int32, g58 = ((if r46 = 2 then (let g53 : Nat → Int32 := (F_X9_meet g41 g42 g43 x40 r45 ((g42 y11.toNatClampNeg) + 1)).2.2.1; g53) else (g43))) → ((vp_in y11 384) ∧ (∀ r60 : Int32, r60 = F_X3_folded (g56 y11.toNatClampNeg) 3 → (∀ r61 : Int32, r61 = F_X3_firstShortening r60 → (((r61 = 3 → ((vp_in y11 384) ∧ (P_X9_meet g56 g57 g58 x55 r60 ((g57 y11.toNatClampNeg) + 1)))) ∧ (¬ r61 = 3 → True)) ∧ (∀ x70 : Int32, x70 = ((if r61 = 3 then (let x69 : Int32 := (F_X9_meet g56 g57 g58 x55 r60 ((g57 y11.toNatClampNeg) + 1)).2.2.2; x69) else (x55))) → (∀ g71 : Nat → Int32, g71 = ((if r61 = 3 then (let g66 : Nat → Int32 := (F_X9_meet g56 g57 g58 x55 r60 ((g57 y11.toNatClampNeg) + 1)).1; g66) else (g56))) → (∀ g72 : Nat → Int32, g72 = ((if r61 = 3 then (let g67 : Nat → Int32 := (F_X9_meet g56 g57 g58 x55 r60 ((g57 y11.toNatClampNeg) + 1)).2.1; g67) else (g57))) → (∀ g73 : Nat → Int32, g73 = ((if r61 = 3 then (let g68 : Nat → Int32 := (F_X9_meet g56 g57 g58 x55 r60 ((g57 y11.toNatClampNeg) + 1)).2.2.1; g68) else (g58))) → (∀ x74 : Int32, x74 = y11 + 1 → (P_X9_go_L10 nn g71 g72 g73 x70 x74))))))))))))))))))))))))))))))))))))))
set_option maxRecDepth 20000 in
def F_X9_go (fme : Nat → Int32) (ffo : Nat → Int32) (ffd : Nat → Int32) (kn : Int32) : (Nat → Int32) × (Nat → Int32) × (Nat → Int32) × Int32 := let g3 : Nat → Int32 := (F_X9_meet fme ffo ffd kn 1672 0).1; let g4 : Nat → Int32 := (F_X9_meet fme ffo ffd kn 1672 0).2.1; let g5 : Nat → Int32 := (F_X9_meet fme ffo ffd kn 1672 0).2.2.1; let x6 : Int32 := (F_X9_meet fme ffo ffd kn 1672 0).2.2.2; let f75 : Nat → Int32 := (F_X9_go_L10 386 g3 g4 g5 x6 0).1; let f76 : Nat → Int32 := (F_X9_go_L10 386 g3 g4 g5 x6 0).2.1; let f77 : Nat → Int32 := (F_X9_go_L10 386 g3 g4 g5 x6 0).2.2.1; let z78 : Int32 := (F_X9_go_L10 386 g3 g4 g5 x6 0).2.2.2.1; (f75, f76, f77, z78)
set_option maxRecDepth 20000 in
def P_X9_go (fme : Nat → Int32) (ffo : Nat → Int32) (ffd : Nat → Int32) (kn : Int32) : Prop := ((P_X9_meet fme ffo ffd kn 1672 0) ∧ (∀ g3 : Nat → Int32, g3 = (F_X9_meet fme ffo ffd kn 1672 0).1 → (∀ g4 : Nat → Int32, g4 = (F_X9_meet fme ffo ffd kn 1672 0).2.1 → (∀ g5 : Nat → Int32, g5 = (F_X9_meet fme ffo ffd kn 1672 0).2.2.1 → (∀ x6 : Int32, x6 = (F_X9_meet fme ffo ffd kn 1672 0).2.2.2 → (P_X9_go_L10 386 g3 g4 g5 x6 0))))))
set_option maxRecDepth 20000 in
set_option maxHeartbeats 8000000 in
theorem m_X9_go (l : Launch) (D : va_G) (cI cL cP cJ : ClassId) (w : Nat) (me : Nat) (fo : Nat) (fd : Nat) (fme : Nat → Int32) (ffo : Nat → Int32) (ffd : Nat → Int32) (kn : Int32) (hp : P_X9_go fme ffo ffd kn) : M vV l yX9_go cX9_go 4 none 3 65 D (tyF cI cL cP cJ) [.ref w] [walB cI w me fo fd fme ffo ffd kn] (fun (r : Unit) (w1 : List va_W) => w1 = [walB cI w me fo fd ((F_X9_go fme ffo ffd kn).1) ((F_X9_go fme ffo ffd kn).2.1) ((F_X9_go fme ffo ffd kn).2.2.1) ((F_X9_go fme ffo ffd kn).2.2.2)]) := by
  unfold P_X9_go at hp
  refine m_start (by decide +kernel) (Nat.le_of_ble_eq_true rfl) (fun p e s m args below meth c A Q hA hQ C hr hlo => ?_)
  refine r_Le (L' := [(0, .ref w)]) rfl ?_
  refine r_aload_n C dX9_go_0 0 rfl ?_
  refine r_sipush (v := 1672) C dX9_go_1 (by decide) ?_
  refine r_iconst (v := 0) C dX9_go_4 (by decide) ?_
  obtain ⟨h1, hp⟩ := hp
  refine r_callV (ci := 7) (wc := [walB cI w me fo fd fme ffo ffd kn]) (wr := []) (st := []) C (m_X9_meet l D cI cL cP cJ w me fo fd fme ffo ffd kn 1672 0 h1) k_X9_meet t_396 [0] (show ([0] : List Nat).Perm (List.range 1) by decide) rfl rfl rfl (q0 := 0) rfl rfl rfl (Nat.le_of_ble_eq_true rfl) ⟨Nat.le_of_ble_eq_true rfl, Nat.le_of_ble_eq_true rfl⟩ ⟨Nat.zero_le _, Nat.zero_le _⟩ dX9_go_5 (fun r2 wr2 hw2 => ?_)
  obtain rfl := hw2
  obtain ⟨g3, e_g3⟩ : ∃ z : Nat → Int32, z = (F_X9_meet fme ffo ffd kn 1672 0).1 := ⟨_, rfl⟩
  have hp := hp g3 e_g3
  obtain ⟨g4, e_g4⟩ : ∃ z : Nat → Int32, z = (F_X9_meet fme ffo ffd kn 1672 0).2.1 := ⟨_, rfl⟩
  have hp := hp g4 e_g4
  obtain ⟨g5, e_g5⟩ : ∃ z : Nat → Int32, z = (F_X9_meet fme ffo ffd kn 1672 0).2.2.1 := ⟨_, rfl⟩
  have hp := hp g5 e_g5
  obtain ⟨x6, e_x6⟩ : ∃ z : Int32, z = (F_X9_meet fme ffo ffd kn 1672 0).2.2.2 := ⟨_, rfl⟩
  have hp := hp x6 e_x6
  refine r_ws (I' := [walB cI w me fo fd g3 g4 g5 x6]) (by rw [e_g3, e_g4, e_g5, e_x6]; rfl) ?_
  refine r_iconst (v := 0) C dX9_go_8 (by decide) ?_
  refine r_istore_n (L' := [(1, .int 0), (0, .ref w)]) C dX9_go_9 (by decide) rfl ?_
  have hpl := hp
  have hL : ∀ (nn : Nat) (k7 : Nat → Int32) (k8 : Nat → Int32) (k9 : Nat → Int32) (y10 : Int32) (y11 : Int32), P_X9_go_L10 nn k7 k8 k9 y10 y11 → (∀ f75 : Nat → Int32, f75 = (F_X9_go_L10 nn k7 k8 k9 y10 y11).1 → ∀ f76 : Nat → Int32, f76 = (F_X9_go_L10 nn k7 k8 k9 y10 y11).2.1 → ∀ f77 : Nat → Int32, f77 = (F_X9_go_L10 nn k7 k8 k9 y10 y11).2.2.1 → ∀ z78 : Int32, z78 = (F_X9_go_L10 nn k7 k8 k9 y10 y11).2.2.2.1 → ∀ z79 : Int32, z79 = (F_X9_go_L10 nn k7 k8 k9 y10 y11).2.2.2.2 → V p l e (rmm 3 65) s m args below meth c 4 D A 0 0 Q [walB cI w me fo fd f75 f76 f77 z78] [(1, .int z79), (0, .ref w)] 87 []) → V p l e (rmm 3 65) s m args below meth c 4 D A 0 0 Q [walB cI w me fo fd k7 k8 k9 y10] [(1, .int y11), (0, .ref w)] 10 [] := by
    clear hpl
    intro nn
    induction nn with
    | zero => intro k7 k8 k9 y10 y11 hp kk; rw [P_X9_go_L10] at hp; exact hp.elim
    | succ nn ih =>
      intro k7 k8 k9 y10 y11 hp kk
      rw [P_X9_go_L10] at hp
      refine r_iload_n C dX9_go_10 0 rfl ?_
      refine r_aload_n C dX9_go_11 1 rfl ?_
      refine r_ws (I' := [[(w, .inr (7, [.ref me, .ref fo, .ref fd, .int y10]))], [(me, .inl (cI, 384, .inl k7))], [(fo, .inl (cI, 384, .inl k8))], [(fd, .inl (cI, 21, .inl k9))]]) rfl ?_
      refine r_get (Cn := RX9) (T := TX9) (N := 4) C inT9 0 rfl rfl 3 (by decide) t_150 rfl dX9_go_12 ?_
      refine r_icmp_ge (tgt := 87) C dX9_go_15 (by decide) (fun c12 => ?_) (fun c12 => ?_)
      · refine r_ws (I' := [walB cI w me fo fd k7 k8 k9 y10]) rfl ?_
        have eF : F_X9_go_L10 (nn + 1) k7 k8 k9 y10 y11 = (k7, k8, k9, y10, y11) := by simp only [F_X9_go_L10, if_pos c12]
        exact kk _ (by rw [eF]) _ (by rw [eF]) _ (by rw [eF]) _ (by rw [eF]) _ (by rw [eF])
      · have hp := hp.2 c12
        refine r_iload_n C dX9_go_18 0 rfl ?_
        refine r_aload_n C dX9_go_19 1 rfl ?_
        refine r_get (Cn := RX9) (T := TX9) (N := 4) C inT9 0 rfl rfl 0 (by decide) t_147 rfl dX9_go_20 ?_
        refine r_alen (v := 384) C 1 0 rfl rfl rfl dX9_go_23 ?_
        refine r_icmp_ge (tgt := 87) C dX9_go_24 (by decide) (fun c13 => ?_) (fun c13 => ?_)
        · refine r_ws (I' := [walB cI w me fo fd k7 k8 k9 y10]) rfl ?_
          have eF : F_X9_go_L10 (nn + 1) k7 k8 k9 y10 y11 = (k7, k8, k9, y10, y11) := by simp only [F_X9_go_L10, if_neg c12, if_pos c13]
          exact kk _ (by rw [eF]) _ (by rw [eF]) _ (by rw [eF]) _ (by rw [eF]) _ (by rw [eF])
        · have hp := hp.2 c13
          refine r_iload_n C dX9_go_27 0 rfl ?_
          refine r_aload_n C dX9_go_28 1 rfl ?_
          refine r_get (Cn := RX9) (T := TX9) (N := 4) C inT9 0 rfl rfl 1 (by decide) t_148 rfl dX9_go_29 ?_
          refine r_alen (v := 384) C 2 0 rfl rfl rfl dX9_go_32 ?_
          refine r_icmp_ge (tgt := 87) C dX9_go_33 (by decide) (fun c => absurd c c13) (fun _ => ?_)
          refine r_iconst (v := 0) C dX9_go_36 (by decide) ?_
          refine r_istore_n (L' := [(2, .int 0), (1, .int y11), (0, .ref w)]) C dX9_go_37 (by decide) rfl ?_
          refine r_iload_n C dX9_go_38 0 rfl ?_
          refine r_iconst (v := 4) C dX9_go_39 (by decide) ?_
          refine r_icmp_ge (tgt := 81) C dX9_go_40 (by decide) (fun c => absurd c (by decide)) (fun _ => ?_)
          refine r_aload_n C dX9_go_43 2 rfl ?_
          refine r_get (Cn := RX9) (T := TX9) (N := 4) C inT9 0 rfl rfl 0 (by decide) t_147 rfl dX9_go_44 ?_
          refine r_iload_n C dX9_go_47 1 rfl ?_
          obtain ⟨h14, hp⟩ := hp
          refine r_iald (z := k7 y11.toNatClampNeg) C 1 0 rfl rfl h14 dX9_go_48 rfl ?_
          refine r_iload_n C dX9_go_49 0 rfl ?_
          refine r_callS (wc := []) (wr := [[(w, .inr (7, [.ref me, .ref fo, .ref fd, .int y10]))], [(me, .inl (cI, 384, .inl k7))], [(fo, .inl (cI, 384, .inl k8))], [(fd, .inl (cI, 21, .inl k9))]]) (st := []) C (m_X3_folded l D cI cL cP cJ (k7 y11.toNatClampNeg) 0) k_X3_folded t_400 [0, 1, 2, 3] (show ([0, 1, 2, 3] : List Nat).Perm (List.range 4) by decide) rfl rfl rfl (Nat.le_of_ble_eq_true rfl) ⟨Nat.le_of_ble_eq_true rfl, Nat.le_of_ble_eq_true rfl⟩ ⟨Nat.zero_le _, Nat.zero_le _⟩ dX9_go_50 (fun r15 wr15 hw15 => ?_)
          obtain ⟨e_r15, rfl⟩ := hw15
          have hp := hp r15 e_r15
          refine r_ws (I' := [[(w, .inr (7, [.ref me, .ref fo, .ref fd, .int y10]))], [(me, .inl (cI, 384, .inl k7))], [(fo, .inl (cI, 384, .inl k8))], [(fd, .inl (cI, 21, .inl k9))]]) rfl ?_
          refine r_istore_n (L' := [(3, .int r15), (2, .int 0), (1, .int y11), (0, .ref w)]) C dX9_go_53 (by decide) rfl ?_
          refine r_iload_n C dX9_go_54 0 rfl ?_
          refine r_callS (wc := []) (wr := [[(w, .inr (7, [.ref me, .ref fo, .ref fd, .int y10]))], [(me, .inl (cI, 384, .inl k7))], [(fo, .inl (cI, 384, .inl k8))], [(fd, .inl (cI, 21, .inl k9))]]) (st := []) C (m_X3_firstShortening l D cI cL cP cJ r15) k_X3_firstShortening t_401 [0, 1, 2, 3] (show ([0, 1, 2, 3] : List Nat).Perm (List.range 4) by decide) rfl rfl rfl (Nat.le_of_ble_eq_true rfl) ⟨Nat.le_of_ble_eq_true rfl, Nat.le_of_ble_eq_true rfl⟩ ⟨Nat.zero_le _, Nat.zero_le _⟩ dX9_go_55 (fun r16 wr16 hw16 => ?_)
          obtain ⟨e_r16, rfl⟩ := hw16
          have hp := hp r16 e_r16
          refine r_ws (I' := [[(w, .inr (7, [.ref me, .ref fo, .ref fd, .int y10]))], [(me, .inl (cI, 384, .inl k7))], [(fo, .inl (cI, 384, .inl k8))], [(fd, .inl (cI, 21, .inl k9))]]) rfl ?_
          refine r_iload_n C dX9_go_58 1 rfl ?_
          obtain ⟨hps, hp⟩ := hp
          suffices K : ∀ x25 : Int32, x25 = ((if r16 = 0 then (let x24 : Int32 := (F_X9_meet k7 k8 k9 y10 r15 ((k8 y11.toNatClampNeg) + 1)).2.2.2; x24) else (y10))) → ∀ g26 : Nat → Int32, g26 = ((if r16 = 0 then (let g21 : Nat → Int32 := (F_X9_meet k7 k8 k9 y10 r15 ((k8 y11.toNatClampNeg) + 1)).1; g21) else (k7))) → ∀ g27 : Nat → Int32, g27 = ((if r16 = 0 then (let g22 : Nat → Int32 := (F_X9_meet k7 k8 k9 y10 r15 ((k8 y11.toNatClampNeg) + 1)).2.1; g22) else (k8))) → ∀ g28 : Nat → Int32, g28 = ((if r16 = 0 then (let g23 : Nat → Int32 := (F_X9_meet k7 k8 k9 y10 r15 ((k8 y11.toNatClampNeg) + 1)).2.2.1; g23) else (k9))) → V p l e (rmm 3 65) s m args below meth c 4 D A 0 0 Q [[(w, .inr (7, [.ref me, .ref fo, .ref fd, .int x25]))], [(me, .inl (cI, 384, .inl g26))], [(fo, .inl (cI, 384, .inl g27))], [(fd, .inl (cI, 21, .inl g28))]] [(3, .int r15), (2, .int 0), (1, .int y11), (0, .ref w)] 75 [] by
            have hp := hps
            refine r_icmp_ne (tgt := 75) C dX9_go_59 (by decide) (fun c17 => ?_) (fun c17 => ?_)
            · exact K _ (by simp only [if_neg c17]) _ (by simp only [if_neg c17]) _ (by simp only [if_neg c17]) _ (by simp only [if_neg c17])
            · have hp := hp.1 c17
              refine r_aload_n C dX9_go_62 3 rfl ?_
              refine r_iload_n C dX9_go_63 0 rfl ?_
              refine r_aload_n C dX9_go_64 3 rfl ?_
              refine r_get (Cn := RX9) (T := TX9) (N := 4) C inT9 0 rfl rfl 1 (by decide) t_148 rfl dX9_go_65 ?_
              refine r_iload_n C dX9_go_68 2 rfl ?_
              obtain ⟨h18, hp⟩ := hp
              refine r_iald (z := k8 y11.toNatClampNeg) C 2 0 rfl rfl h18 dX9_go_69 rfl ?_
              refine r_iconst (v := 1) C dX9_go_70 (by decide) ?_
              refine r_iadd C dX9_go_71 rfl ?_
              refine r_ws (I' := [walB cI w me fo fd k7 k8 k9 y10]) rfl ?_
              have h19 := hp
              refine r_callV (ci := 7) (wc := [walB cI w me fo fd k7 k8 k9 y10]) (wr := []) (st := []) C (m_X9_meet l D cI cL cP cJ w me fo fd k7 k8 k9 y10 r15 ((k8 y11.toNatClampNeg) + 1) h19) k_X9_meet t_396 [0] (show ([0] : List Nat).Perm (List.range 1) by decide) rfl rfl rfl (q0 := 0) rfl rfl rfl (Nat.le_of_ble_eq_true rfl) ⟨Nat.le_of_ble_eq_true rfl, Nat.le_of_ble_eq_true rfl⟩ ⟨Nat.zero_le _, Nat.zero_le _⟩ dX9_go_72 (fun r20 wr20 hw20 => ?_)
              obtain rfl := hw20
              obtain ⟨g21, e_g21⟩ : ∃ z : Nat → Int32, z = (F_X9_meet k7 k8 k9 y10 r15 ((k8 y11.toNatClampNeg) + 1)).1 := ⟨_, rfl⟩
              obtain ⟨g22, e_g22⟩ : ∃ z : Nat → Int32, z = (F_X9_meet k7 k8 k9 y10 r15 ((k8 y11.toNatClampNeg) + 1)).2.1 := ⟨_, rfl⟩
              obtain ⟨g23, e_g23⟩ : ∃ z : Nat → Int32, z = (F_X9_meet k7 k8 k9 y10 r15 ((k8 y11.toNatClampNeg) + 1)).2.2.1 := ⟨_, rfl⟩
              obtain ⟨x24, e_x24⟩ : ∃ z : Int32, z = (F_X9_meet k7 k8 k9 y10 r15 ((k8 y11.toNatClampNeg) + 1)).2.2.2 := ⟨_, rfl⟩
              refine r_ws (I' := [walB cI w me fo fd g21 g22 g23 x24]) (by rw [e_g21, e_g22, e_g23, e_x24]; rfl) ?_
              refine r_ws (I' := [[(w, .inr (7, [.ref me, .ref fo, .ref fd, .int x24]))], [(me, .inl (cI, 384, .inl g21))], [(fo, .inl (cI, 384, .inl g22))], [(fd, .inl (cI, 21, .inl g23))]]) rfl ?_
              exact K _ (by have q := e_g21.symm; subst q; have q := e_g22.symm; subst q; have q := e_g23.symm; subst q; have q := e_x24.symm; subst q; simp only [if_pos c17]) _ (by have q := e_g21.symm; subst q; have q := e_g22.symm; subst q; have q := e_g23.symm; subst q; have q := e_x24.symm; subst q; simp only [if_pos c17]) _ (by have q := e_g21.symm; subst q; have q := e_g22.symm; subst q; have q := e_g23.symm; subst q; have q := e_x24.symm; subst q; simp only [if_pos c17]) _ (by have q := e_g21.symm; subst q; have q := e_g22.symm; subst q; have q := e_g23.symm; subst q; have q := e_x24.symm; subst q; simp only [if_pos c17])
          intro x25 e_x25 g26 e_g26 g27 e_g27 g28 e_g28
          have hp := hp x25 e_x25
          have hp := hp g26 e_g26
          have hp := hp g27 e_g27
          have hp := hp g28 e_g28
          refine r_iinc (v := 1) (L' := [(2, .int 1), (3, .int r15), (1, .int y11), (0, .ref w)]) C dX9_go_75 1 rfl (by decide) (by decide) rfl ?_
          refine r_goto (tgt := 38) C dX9_go_78 (by decide) ?_
          refine r_iload_n C dX9_go_38 0 rfl ?_
          refine r_iconst (v := 4) C dX9_go_39 (by decide) ?_
          refine r_icmp_ge (tgt := 81) C dX9_go_40 (by decide) (fun c => absurd c (by decide)) (fun _ => ?_)
          refine r_aload_n C dX9_go_43 3 rfl ?_
          refine r_get (Cn := RX9) (T := TX9) (N := 4) C inT9 0 rfl rfl 0 (by decide) t_147 rfl dX9_go_44 ?_
          refine r_iload_n C dX9_go_47 2 rfl ?_
          obtain ⟨h29, hp⟩ := hp
          refine r_iald (z := g26 y11.toNatClampNeg) C 1 0 rfl rfl h29 dX9_go_48 rfl ?_
          refine r_iload_n C dX9_go_49 0 rfl ?_
          refine r_callS (wc := []) (wr := [[(w, .inr (7, [.ref me, .ref fo, .ref fd, .int x25]))], [(me, .inl (cI, 384, .inl g26))], [(fo, .inl (cI, 384, .inl g27))], [(fd, .inl (cI, 21, .inl g28))]]) (st := []) C (m_X3_folded l D cI cL cP cJ (g26 y11.toNatClampNeg) 1) k_X3_folded t_400 [0, 1, 2, 3] (show ([0, 1, 2, 3] : List Nat).Perm (List.range 4) by decide) rfl rfl rfl (Nat.le_of_ble_eq_true rfl) ⟨Nat.le_of_ble_eq_true rfl, Nat.le_of_ble_eq_true rfl⟩ ⟨Nat.zero_le _, Nat.zero_le _⟩ dX9_go_50 (fun r30 wr30 hw30 => ?_)
          obtain ⟨e_r30, rfl⟩ := hw30
          have hp := hp r30 e_r30
          refine r_ws (I' := [[(w, .inr (7, [.ref me, .ref fo, .ref fd, .int x25]))], [(me, .inl (cI, 384, .inl g26))], [(fo, .inl (cI, 384, .inl g27))], [(fd, .inl (cI, 21, .inl g28))]]) rfl ?_
          refine r_istore_n (L' := [(3, .int r30), (2, .int 1), (1, .int y11), (0, .ref w)]) C dX9_go_53 (by decide) rfl ?_
          refine r_iload_n C dX9_go_54 0 rfl ?_
          refine r_callS (wc := []) (wr := [[(w, .inr (7, [.ref me, .ref fo, .ref fd, .int x25]))], [(me, .inl (cI, 384, .inl g26))], [(fo, .inl (cI, 384, .inl g27))], [(fd, .inl (cI, 21, .inl g28))]]) (st := []) C (m_X3_firstShortening l D cI cL cP cJ r30) k_X3_firstShortening t_401 [0, 1, 2, 3] (show ([0, 1, 2, 3] : List Nat).Perm (List.range 4) by decide) rfl rfl rfl (Nat.le_of_ble_eq_true rfl) ⟨Nat.le_of_ble_eq_true rfl, Nat.le_of_ble_eq_true rfl⟩ ⟨Nat.zero_le _, Nat.zero_le _⟩ dX9_go_55 (fun r31 wr31 hw31 => ?_)
          obtain ⟨e_r31, rfl⟩ := hw31
          have hp := hp r31 e_r31
          refine r_ws (I' := [[(w, .inr (7, [.ref me, .ref fo, .ref fd, .int x25]))], [(me, .inl (cI, 384, .inl g26))], [(fo, .inl (cI, 384, .inl g27))], [(fd, .inl (cI, 21, .inl g28))]]) rfl ?_
          refine r_iload_n C dX9_go_58 1 rfl ?_
          obtain ⟨hps, hp⟩ := hp
          suffices K : ∀ x40 : Int32, x40 = ((if r31 = 1 then (let x39 : Int32 := (F_X9_meet g26 g27 g28 x25 r30 ((g27 y11.toNatClampNeg) + 1)).2.2.2; x39) else (x25))) → ∀ g41 : Nat → Int32, g41 = ((if r31 = 1 then (let g36 : Nat → Int32 := (F_X9_meet g26 g27 g28 x25 r30 ((g27 y11.toNatClampNeg) + 1)).1; g36) else (g26))) → ∀ g42 : Nat → Int32, g42 = ((if r31 = 1 then (let g37 : Nat → Int32 := (F_X9_meet g26 g27 g28 x25 r30 ((g27 y11.toNatClampNeg) + 1)).2.1; g37) else (g27))) → ∀ g43 : Nat → Int32, g43 = ((if r31 = 1 then (let g38 : Nat → Int32 := (F_X9_meet g26 g27 g28 x25 r30 ((g27 y11.toNatClampNeg) + 1)).2.2.1; g38) else (g28))) → V p l e (rmm 3 65) s m args below meth c 4 D A 0 0 Q [[(w, .inr (7, [.ref me, .ref fo, .ref fd, .int x40]))], [(me, .inl (cI, 384, .inl g41))], [(fo, .inl (cI, 384, .inl g42))], [(fd, .inl (cI, 21, .inl g43))]] [(3, .int r30), (2, .int 1), (1, .int y11), (0, .ref w)] 75 [] by
            have hp := hps
            refine r_icmp_ne (tgt := 75) C dX9_go_59 (by decide) (fun c32 => ?_) (fun c32 => ?_)
            · exact K _ (by simp only [if_neg c32]) _ (by simp only [if_neg c32]) _ (by simp only [if_neg c32]) _ (by simp only [if_neg c32])
            · have hp := hp.1 c32
              refine r_aload_n C dX9_go_62 3 rfl ?_
              refine r_iload_n C dX9_go_63 0 rfl ?_
              refine r_aload_n C dX9_go_64 3 rfl ?_
              refine r_get (Cn := RX9) (T := TX9) (N := 4) C inT9 0 rfl rfl 1 (by decide) t_148 rfl dX9_go_65 ?_
              refine r_iload_n C dX9_go_68 2 rfl ?_
              obtain ⟨h33, hp⟩ := hp
              refine r_iald (z := g27 y11.toNatClampNeg) C 2 0 rfl rfl h33 dX9_go_69 rfl ?_
              refine r_iconst (v := 1) C dX9_go_70 (by decide) ?_
              refine r_iadd C dX9_go_71 rfl ?_
              refine r_ws (I' := [walB cI w me fo fd g26 g27 g28 x25]) rfl ?_
              have h34 := hp
              refine r_callV (ci := 7) (wc := [walB cI w me fo fd g26 g27 g28 x25]) (wr := []) (st := []) C (m_X9_meet l D cI cL cP cJ w me fo fd g26 g27 g28 x25 r30 ((g27 y11.toNatClampNeg) + 1) h34) k_X9_meet t_396 [0] (show ([0] : List Nat).Perm (List.range 1) by decide) rfl rfl rfl (q0 := 0) rfl rfl rfl (Nat.le_of_ble_eq_true rfl) ⟨Nat.le_of_ble_eq_true rfl, Nat.le_of_ble_eq_true rfl⟩ ⟨Nat.zero_le _, Nat.zero_le _⟩ dX9_go_72 (fun r35 wr35 hw35 => ?_)
              obtain rfl := hw35
              obtain ⟨g36, e_g36⟩ : ∃ z : Nat → Int32, z = (F_X9_meet g26 g27 g28 x25 r30 ((g27 y11.toNatClampNeg) + 1)).1 := ⟨_, rfl⟩
              obtain ⟨g37, e_g37⟩ : ∃ z : Nat → Int32, z = (F_X9_meet g26 g27 g28 x25 r30 ((g27 y11.toNatClampNeg) + 1)).2.1 := ⟨_, rfl⟩
              obtain ⟨g38, e_g38⟩ : ∃ z : Nat → Int32, z = (F_X9_meet g26 g27 g28 x25 r30 ((g27 y11.toNatClampNeg) + 1)).2.2.1 := ⟨_, rfl⟩
              obtain ⟨x39, e_x39⟩ : ∃ z : Int32, z = (F_X9_meet g26 g27 g28 x25 r30 ((g27 y11.toNatClampNeg) + 1)).2.2.2 := ⟨_, rfl⟩
              refine r_ws (I' := [walB cI w me fo fd g36 g37 g38 x39]) (by rw [e_g36, e_g37, e_g38, e_x39]; rfl) ?_
              refine r_ws (I' := [[(w, .inr (7, [.ref me, .ref fo, .ref fd, .int x39]))], [(me, .inl (cI, 384, .inl g36))], [(fo, .inl (cI, 384, .inl g37))], [(fd, .inl (cI, 21, .inl g38))]]) rfl ?_
              exact K _ (by have q := e_g36.symm; subst q; have q := e_g37.symm; subst q; have q := e_g38.symm; subst q; have q := e_x39.symm; subst q; simp only [if_pos c32]) _ (by have q := e_g36.symm; subst q; have q := e_g37.symm; subst q; have q := e_g38.symm; subst q; have q := e_x39.symm; subst q; simp only [if_pos c32]) _ (by have q := e_g36.symm; subst q; have q := e_g37.symm; subst q; have q := e_g38.symm; subst q; have q := e_x39.symm; subst q; simp only [if_pos c32]) _ (by have q := e_g36.symm; subst q; have q := e_g37.symm; subst q; have q := e_g38.symm; subst q; have q := e_x39.symm; subst q; simp only [if_pos c32])
          intro x40 e_x40 g41 e_g41 g42 e_g42 g43 e_g43
          have hp := hp x40 e_x40
          have hp := hp g41 e_g41
          have hp := hp g42 e_g42
          have hp := hp g43 e_g43
          refine r_iinc (v := 2) (L' := [(2, .int 2), (3, .int r30), (1, .int y11), (0, .ref w)]) C dX9_go_75 1 rfl (by decide) (by decide) rfl ?_
          refine r_goto (tgt := 38) C dX9_go_78 (by decide) ?_
          refine r_iload_n C dX9_go_38 0 rfl ?_
          refine r_iconst (v := 4) C dX9_go_39 (by decide) ?_
          refine r_icmp_ge (tgt := 81) C dX9_go_40 (by decide) (fun c => absurd c (by decide)) (fun _ => ?_)
          refine r_aload_n C dX9_go_43 3 rfl ?_
          refine r_get (Cn := RX9) (T := TX9) (N := 4) C inT9 0 rfl rfl 0 (by decide) t_147 rfl dX9_go_44 ?_
          refine r_iload_n C dX9_go_47 2 rfl ?_
          obtain ⟨h44, hp⟩ := hp
          refine r_iald (z := g41 y11.toNatClampNeg) C 1 0 rfl rfl h44 dX9_go_48 rfl ?_
          refine r_iload_n C dX9_go_49 0 rfl ?_
          refine r_callS (wc := []) (wr := [[(w, .inr (7, [.ref me, .ref fo, .ref fd, .int x40]))], [(me, .inl (cI, 384, .inl g41))], [(fo, .inl (cI, 384, .inl g42))], [(fd, .inl (cI, 21, .inl g43))]]) (st := []) C (m_X3_folded l D cI cL cP cJ (g41 y11.toNatClampNeg) 2) k_X3_folded t_400 [0, 1, 2, 3] (show ([0, 1, 2, 3] : List Nat).Perm (List.range 4) by decide) rfl rfl rfl (Nat.le_of_ble_eq_true rfl) ⟨Nat.le_of_ble_eq_true rfl, Nat.le_of_ble_eq_true rfl⟩ ⟨Nat.zero_le _, Nat.zero_le _⟩ dX9_go_50 (fun r45 wr45 hw45 => ?_)
          obtain ⟨e_r45, rfl⟩ := hw45
          have hp := hp r45 e_r45
          refine r_ws (I' := [[(w, .inr (7, [.ref me, .ref fo, .ref fd, .int x40]))], [(me, .inl (cI, 384, .inl g41))], [(fo, .inl (cI, 384, .inl g42))], [(fd, .inl (cI, 21, .inl g43))]]) rfl ?_
          refine r_istore_n (L' := [(3, .int r45), (2, .int 2), (1, .int y11), (0, .ref w)]) C dX9_go_53 (by decide) rfl ?_
          refine r_iload_n C dX9_go_54 0 rfl ?_
          refine r_callS (wc := []) (wr := [[(w, .inr (7, [.ref me, .ref fo, .ref fd, .int x40]))], [(me, .inl (cI, 384, .inl g41))], [(fo, .inl (cI, 384, .inl g42))], [(fd, .inl (cI, 21, .inl g43))]]) (st := []) C (m_X3_firstShortening l D cI cL cP cJ r45) k_X3_firstShortening t_401 [0, 1, 2, 3] (show ([0, 1, 2, 3] : List Nat).Perm (List.range 4) by decide) rfl rfl rfl (Nat.le_of_ble_eq_true rfl) ⟨Nat.le_of_ble_eq_true rfl, Nat.le_of_ble_eq_true rfl⟩ ⟨Nat.zero_le _, Nat.zero_le _⟩ dX9_go_55 (fun r46 wr46 hw46 => ?_)
          obtain ⟨e_r46, rfl⟩ := hw46
          have hp := hp r46 e_r46
          refine r_ws (I' := [[(w, .inr (7, [.ref me, .ref fo, .ref fd, .int x40]))], [(me, .inl (cI, 384, .inl g41))], [(fo, .inl (cI, 384, .inl g42))], [(fd, .inl (cI, 21, .inl g43))]]) rfl ?_
          refine r_iload_n C dX9_go_58 1 rfl ?_
          obtain ⟨hps, hp⟩ := hp
          suffices K : ∀ x55 : Int32, x55 = ((if r46 = 2 then (let x54 : Int32 := (F_X9_meet g41 g42 g43 x40 r45 ((g42 y11.toNatClampNeg) + 1)).2.2.2; x54) else (x40))) → ∀ g56 : Nat → Int32, g56 = ((if r46 = 2 then (let g51 : Nat → Int32 := (F_X9_meet g41 g42 g43 x40 r45 ((g42 y11.toNatClampNeg) + 1)).1; g51) else (g41))) → ∀ g57 : Nat → Int32, g57 = ((if r46 = 2 then (let g52 : Nat → Int32 := (F_X9_meet g41 g42 g43 x40 r45 ((g42 y11.toNatClampNeg) + 1)).2.1; g52) else (g42))) → ∀ g58 : Nat → Int32, g58 = ((if r46 = 2 then (let g53 : Nat → Int32 := (F_X9_meet g41 g42 g43 x40 r45 ((g42 y11.toNatClampNeg) + 1)).2.2.1; g53) else (g43))) → V p l e (rmm 3 65) s m args below meth c 4 D A 0 0 Q [[(w, .inr (7, [.ref me, .ref fo, .ref fd, .int x55]))], [(me, .inl (cI, 384, .inl g56))], [(fo, .inl (cI, 384, .inl g57))], [(fd, .inl (cI, 21, .inl g58))]] [(3, .int r45), (2, .int 2), (1, .int y11), (0, .ref w)] 75 [] by
            have hp := hps
            refine r_icmp_ne (tgt := 75) C dX9_go_59 (by decide) (fun c47 => ?_) (fun c47 => ?_)
            · exact K _ (by simp only [if_neg c47]) _ (by simp only [if_neg c47]) _ (by simp only [if_neg c47]) _ (by simp only [if_neg c47])
            · have hp := hp.1 c47
              refine r_aload_n C dX9_go_62 3 rfl ?_
              refine r_iload_n C dX9_go_63 0 rfl ?_
              refine r_aload_n C dX9_go_64 3 rfl ?_
              refine r_get (Cn := RX9) (T := TX9) (N := 4) C inT9 0 rfl rfl 1 (by decide) t_148 rfl dX9_go_65 ?_
              refine r_iload_n C dX9_go_68 2 rfl ?_
              obtain ⟨h48, hp⟩ := hp
              refine r_iald (z := g42 y11.toNatClampNeg) C 2 0 rfl rfl h48 dX9_go_69 rfl ?_
              refine r_iconst (v := 1) C dX9_go_70 (by decide) ?_
              refine r_iadd C dX9_go_71 rfl ?_
              refine r_ws (I' := [walB cI w me fo fd g41 g42 g43 x40]) rfl ?_
              have h49 := hp
              refine r_callV (ci := 7) (wc := [walB cI w me fo fd g41 g42 g43 x40]) (wr := []) (st := []) C (m_X9_meet l D cI cL cP cJ w me fo fd g41 g42 g43 x40 r45 ((g42 y11.toNatClampNeg) + 1) h49) k_X9_meet t_396 [0] (show ([0] : List Nat).Perm (List.range 1) by decide) rfl rfl rfl (q0 := 0) rfl rfl rfl (Nat.le_of_ble_eq_true rfl) ⟨Nat.le_of_ble_eq_true rfl, Nat.le_of_ble_eq_true rfl⟩ ⟨Nat.zero_le _, Nat.zero_le _⟩ dX9_go_72 (fun r50 wr50 hw50 => ?_)
              obtain rfl := hw50
              obtain ⟨g51, e_g51⟩ : ∃ z : Nat → Int32, z = (F_X9_meet g41 g42 g43 x40 r45 ((g42 y11.toNatClampNeg) + 1)).1 := ⟨_, rfl⟩
              obtain ⟨g52, e_g52⟩ : ∃ z : Nat → Int32, z = (F_X9_meet g41 g42 g43 x40 r45 ((g42 y11.toNatClampNeg) + 1)).2.1 := ⟨_, rfl⟩
              obtain ⟨g53, e_g53⟩ : ∃ z : Nat → Int32, z = (F_X9_meet g41 g42 g43 x40 r45 ((g42 y11.toNatClampNeg) + 1)).2.2.1 := ⟨_, rfl⟩
              obtain ⟨x54, e_x54⟩ : ∃ z : Int32, z = (F_X9_meet g41 g42 g43 x40 r45 ((g42 y11.toNatClampNeg) + 1)).2.2.2 := ⟨_, rfl⟩
              refine r_ws (I' := [walB cI w me fo fd g51 g52 g53 x54]) (by rw [e_g51, e_g52, e_g53, e_x54]; rfl) ?_
              refine r_ws (I' := [[(w, .inr (7, [.ref me, .ref fo, .ref fd, .int x54]))], [(me, .inl (cI, 384, .inl g51))], [(fo, .inl (cI, 384, .inl g52))], [(fd, .inl (cI, 21, .inl g53))]]) rfl ?_
              exact K _ (by have q := e_g51.symm; subst q; have q := e_g52.symm; subst q; have q := e_g53.symm; subst q; have q := e_x54.symm; subst q; simp only [if_pos c47]) _ (by have q := e_g51.symm; subst q; have q := e_g52.symm; subst q; have q := e_g53.symm; subst q; have q := e_x54.symm; subst q; simp only [if_pos c47]) _ (by have q := e_g51.symm; subst q; have q := e_g52.symm; subst q; have q := e_g53.symm; subst q; have q := e_x54.symm; subst q; simp only [if_pos c47]) _ (by have q := e_g51.symm; subst q; have q := e_g52.symm; subst q; have q := e_g53.symm; subst q; have q := e_x54.symm; subst q; simp only [if_pos c47])
          intro x55 e_x55 g56 e_g56 g57 e_g57 g58 e_g58
          have hp := hp x55 e_x55
          have hp := hp g56 e_g56
          have hp := hp g57 e_g57
          have hp := hp g58 e_g58
          refine r_iinc (v := 3) (L' := [(2, .int 3), (3, .int r45), (1, .int y11), (0, .ref w)]) C dX9_go_75 1 rfl (by decide) (by decide) rfl ?_
          refine r_goto (tgt := 38) C dX9_go_78 (by decide) ?_
          refine r_iload_n C dX9_go_38 0 rfl ?_
          refine r_iconst (v := 4) C dX9_go_39 (by decide) ?_
          refine r_icmp_ge (tgt := 81) C dX9_go_40 (by decide) (fun c => absurd c (by decide)) (fun _ => ?_)
          refine r_aload_n C dX9_go_43 3 rfl ?_
          refine r_get (Cn := RX9) (T := TX9) (N := 4) C inT9 0 rfl rfl 0 (by decide) t_147 rfl dX9_go_44 ?_
          refine r_iload_n C dX9_go_47 2 rfl ?_
          obtain ⟨h59, hp⟩ := hp
          refine r_iald (z := g56 y11.toNatClampNeg) C 1 0 rfl rfl h59 dX9_go_48 rfl ?_
          refine r_iload_n C dX9_go_49 0 rfl ?_
          refine r_callS (wc := []) (wr := [[(w, .inr (7, [.ref me, .ref fo, .ref fd, .int x55]))], [(me, .inl (cI, 384, .inl g56))], [(fo, .inl (cI, 384, .inl g57))], [(fd, .inl (cI, 21, .inl g58))]]) (st := []) C (m_X3_folded l D cI cL cP cJ (g56 y11.toNatClampNeg) 3) k_X3_folded t_400 [0, 1, 2, 3] (show ([0, 1, 2, 3] : List Nat).Perm (List.range 4) by decide) rfl rfl rfl (Nat.le_of_ble_eq_true rfl) ⟨Nat.le_of_ble_eq_true rfl, Nat.le_of_ble_eq_true rfl⟩ ⟨Nat.zero_le _, Nat.zero_le _⟩ dX9_go_50 (fun r60 wr60 hw60 => ?_)
          obtain ⟨e_r60, rfl⟩ := hw60
          have hp := hp r60 e_r60
          refine r_ws (I' := [[(w, .inr (7, [.ref me, .ref fo, .ref fd, .int x55]))], [(me, .inl (cI, 384, .inl g56))], [(fo, .inl (cI, 384, .inl g57))], [(fd, .inl (cI, 21, .inl g58))]]) rfl ?_
          refine r_istore_n (L' := [(3, .int r60), (2, .int 3), (1, .int y11), (0, .ref w)]) C dX9_go_53 (by decide) rfl ?_
          refine r_iload_n C dX9_go_54 0 rfl ?_
          refine r_callS (wc := []) (wr := [[(w, .inr (7, [.ref me, .ref fo, .ref fd, .int x55]))], [(me, .inl (cI, 384, .inl g56))], [(fo, .inl (cI, 384, .inl g57))], [(fd, .inl (cI, 21, .inl g58))]]) (st := []) C (m_X3_firstShortening l D cI cL cP cJ r60) k_X3_firstShortening t_401 [0, 1, 2, 3] (show ([0, 1, 2, 3] : List Nat).Perm (List.range 4) by decide) rfl rfl rfl (Nat.le_of_ble_eq_true rfl) ⟨Nat.le_of_ble_eq_true rfl, Nat.le_of_ble_eq_true rfl⟩ ⟨Nat.zero_le _, Nat.zero_le _⟩ dX9_go_55 (fun r61 wr61 hw61 => ?_)
          obtain ⟨e_r61, rfl⟩ := hw61
          have hp := hp r61 e_r61
          refine r_ws (I' := [[(w, .inr (7, [.ref me, .ref fo, .ref fd, .int x55]))], [(me, .inl (cI, 384, .inl g56))], [(fo, .inl (cI, 384, .inl g57))], [(fd, .inl (cI, 21, .inl g58))]]) rfl ?_
          refine r_iload_n C dX9_go_58 1 rfl ?_
          obtain ⟨hps, hp⟩ := hp
          suffices K : ∀ x70 : Int32, x70 = ((if r61 = 3 then (let x69 : Int32 := (F_X9_meet g56 g57 g58 x55 r60 ((g57 y11.toNatClampNeg) + 1)).2.2.2; x69) else (x55))) → ∀ g71 : Nat → Int32, g71 = ((if r61 = 3 then (let g66 : Nat → Int32 := (F_X9_meet g56 g57 g58 x55 r60 ((g57 y11.toNatClampNeg) + 1)).1; g66) else (g56))) → ∀ g72 : Nat → Int32, g72 = ((if r61 = 3 then (let g67 : Nat → Int32 := (F_X9_meet g56 g57 g58 x55 r60 ((g57 y11.toNatClampNeg) + 1)).2.1; g67) else (g57))) → ∀ g73 : Nat → Int32, g73 = ((if r61 = 3 then (let g68 : Nat → Int32 := (F_X9_meet g56 g57 g58 x55 r60 ((g57 y11.toNatClampNeg) + 1)).2.2.1; g68) else (g58))) → V p l e (rmm 3 65) s m args below meth c 4 D A 0 0 Q [[(w, .inr (7, [.ref me, .ref fo, .ref fd, .int x70]))], [(me, .inl (cI, 384, .inl g71))], [(fo, .inl (cI, 384, .inl g72))], [(fd, .inl (cI, 21, .inl g73))]] [(3, .int r60), (2, .int 3), (1, .int y11), (0, .ref w)] 75 [] by
            have hp := hps
            refine r_icmp_ne (tgt := 75) C dX9_go_59 (by decide) (fun c62 => ?_) (fun c62 => ?_)
            · exact K _ (by simp only [if_neg c62]) _ (by simp only [if_neg c62]) _ (by simp only [if_neg c62]) _ (by simp only [if_neg c62])
            · have hp := hp.1 c62
              refine r_aload_n C dX9_go_62 3 rfl ?_
              refine r_iload_n C dX9_go_63 0 rfl ?_
              refine r_aload_n C dX9_go_64 3 rfl ?_
              refine r_get (Cn := RX9) (T := TX9) (N := 4) C inT9 0 rfl rfl 1 (by decide) t_148 rfl dX9_go_65 ?_
              refine r_iload_n C dX9_go_68 2 rfl ?_
              obtain ⟨h63, hp⟩ := hp
              refine r_iald (z := g57 y11.toNatClampNeg) C 2 0 rfl rfl h63 dX9_go_69 rfl ?_
              refine r_iconst (v := 1) C dX9_go_70 (by decide) ?_
              refine r_iadd C dX9_go_71 rfl ?_
              refine r_ws (I' := [walB cI w me fo fd g56 g57 g58 x55]) rfl ?_
              have h64 := hp
              refine r_callV (ci := 7) (wc := [walB cI w me fo fd g56 g57 g58 x55]) (wr := []) (st := []) C (m_X9_meet l D cI cL cP cJ w me fo fd g56 g57 g58 x55 r60 ((g57 y11.toNatClampNeg) + 1) h64) k_X9_meet t_396 [0] (show ([0] : List Nat).Perm (List.range 1) by decide) rfl rfl rfl (q0 := 0) rfl rfl rfl (Nat.le_of_ble_eq_true rfl) ⟨Nat.le_of_ble_eq_true rfl, Nat.le_of_ble_eq_true rfl⟩ ⟨Nat.zero_le _, Nat.zero_le _⟩ dX9_go_72 (fun r65 wr65 hw65 => ?_)
              obtain rfl := hw65
              obtain ⟨g66, e_g66⟩ : ∃ z : Nat → Int32, z = (F_X9_meet g56 g57 g58 x55 r60 ((g57 y11.toNatClampNeg) + 1)).1 := ⟨_, rfl⟩
              obtain ⟨g67, e_g67⟩ : ∃ z : Nat → Int32, z = (F_X9_meet g56 g57 g58 x55 r60 ((g57 y11.toNatClampNeg) + 1)).2.1 := ⟨_, rfl⟩
              obtain ⟨g68, e_g68⟩ : ∃ z : Nat → Int32, z = (F_X9_meet g56 g57 g58 x55 r60 ((g57 y11.toNatClampNeg) + 1)).2.2.1 := ⟨_, rfl⟩
              obtain ⟨x69, e_x69⟩ : ∃ z : Int32, z = (F_X9_meet g56 g57 g58 x55 r60 ((g57 y11.toNatClampNeg) + 1)).2.2.2 := ⟨_, rfl⟩
              refine r_ws (I' := [walB cI w me fo fd g66 g67 g68 x69]) (by rw [e_g66, e_g67, e_g68, e_x69]; rfl) ?_
              refine r_ws (I' := [[(w, .inr (7, [.ref me, .ref fo, .ref fd, .int x69]))], [(me, .inl (cI, 384, .inl g66))], [(fo, .inl (cI, 384, .inl g67))], [(fd, .inl (cI, 21, .inl g68))]]) rfl ?_
              exact K _ (by have q := e_g66.symm; subst q; have q := e_g67.symm; subst q; have q := e_g68.symm; subst q; have q := e_x69.symm; subst q; simp only [if_pos c62]) _ (by have q := e_g66.symm; subst q; have q := e_g67.symm; subst q; have q := e_g68.symm; subst q; have q := e_x69.symm; subst q; simp only [if_pos c62]) _ (by have q := e_g66.symm; subst q; have q := e_g67.symm; subst q; have q := e_g68.symm; subst q; have q := e_x69.symm; subst q; simp only [if_pos c62]) _ (by have q := e_g66.symm; subst q; have q := e_g67.symm; subst q; have q := e_g68.symm; subst q; have q := e_x69.symm; subst q; simp only [if_pos c62])
          intro x70 e_x70 g71 e_g71 g72 e_g72 g73 e_g73
          have hp := hp x70 e_x70
          have hp := hp g71 e_g71
          have hp := hp g72 e_g72
          have hp := hp g73 e_g73
          refine r_iinc (v := 4) (L' := [(2, .int 4), (3, .int r60), (1, .int y11), (0, .ref w)]) C dX9_go_75 1 rfl (by decide) (by decide) rfl ?_
          refine r_goto (tgt := 38) C dX9_go_78 (by decide) ?_
          refine r_iload_n C dX9_go_38 0 rfl ?_
          refine r_iconst (v := 4) C dX9_go_39 (by decide) ?_
          refine r_icmp_ge (tgt := 81) C dX9_go_40 (by decide) (fun _ => ?_) (fun c => absurd c (by decide))
          obtain ⟨x74, e_x74⟩ : ∃ z : Int32, z = y11 + 1 := ⟨_, rfl⟩
          have hp := hp x74 e_x74
          refine r_iinc (v := x74) (L' := [(1, .int x74), (2, .int 4), (3, .int r60), (0, .ref w)]) C dX9_go_81 2 rfl (by rw [e_x74]; exact ii (by decide)) (by decide) rfl ?_
          refine r_goto (tgt := 10) C dX9_go_84 (by decide) ?_
          refine r_ws (I' := [walB cI w me fo fd g71 g72 g73 x70]) rfl ?_
          refine r_L (L' := [(1, .int x74), (0, .ref w)]) [0, 3] rfl ?_
          have eF : F_X9_go_L10 (nn + 1) k7 k8 k9 y10 y11 = F_X9_go_L10 nn g71 g72 g73 x70 x74 := by have q := e_r15.symm; subst q; have q := e_r16.symm; subst q; have q := e_x25.symm; subst q; have q := e_g26.symm; subst q; have q := e_g27.symm; subst q; have q := e_g28.symm; subst q; have q := e_r30.symm; subst q; have q := e_r31.symm; subst q; have q := e_x40.symm; subst q; have q := e_g41.symm; subst q; have q := e_g42.symm; subst q; have q := e_g43.symm; subst q; have q := e_r45.symm; subst q; have q := e_r46.symm; subst q; have q := e_x55.symm; subst q; have q := e_g56.symm; subst q; have q := e_g57.symm; subst q; have q := e_g58.symm; subst q; have q := e_r60.symm; subst q; have q := e_r61.symm; subst q; have q := e_x70.symm; subst q; have q := e_g71.symm; subst q; have q := e_g72.symm; subst q; have q := e_g73.symm; subst q; have q := e_x74.symm; subst q; simp only [F_X9_go_L10, if_neg c12, if_neg c13]
          exact ih g71 g72 g73 x70 x74 hp (fun f75 e_f75 f76 e_f76 f77 e_f77 z78 e_z78 z79 e_z79 => kk f75 (by rw [eF]; exact e_f75) f76 (by rw [eF]; exact e_f76) f77 (by rw [eF]; exact e_f77) z78 (by rw [eF]; exact e_z78) z79 (by rw [eF]; exact e_z79))
  refine hL 386 g3 g4 g5 x6 0 hpl (fun f75 e_f75 f76 e_f76 f77 e_f77 z78 e_z78 z79 e_z79 => ?_)
  clear hL hpl
  have eF : F_X9_go fme ffo ffd kn = (f75, f76, f77, z78) := by have q := e_g3.symm; subst q; have q := e_g4.symm; subst q; have q := e_g5.symm; subst q; have q := e_x6.symm; subst q; have q := e_f75.symm; subst q; have q := e_f76.symm; subst q; have q := e_f77.symm; subst q; have q := e_z78.symm; subst q; have q := e_z79.symm; subst q; rfl
  exact r_vret (r := ()) C hA hr hlo dX9_go_87 [walB cI w me fo fd f75 f76 f77 z78] (by simp only [eF]) rfl hQ
theorem k_X9_liesAfter : kV yX9_liesAfter cX9_liesAfter 2 (some .int) 1 := ⟨t_389, t_390, t_15, t_391, by decide +kernel, by decide +kernel, by decide +kernel⟩
set_option maxRecDepth 20000 in
def F_X9_liesAfter (fme : Nat → Int32) (ffo : Nat → Int32) (ffd : Nat → Int32) (kn : Int32) (folds : Int32) : Int32 × (Nat → Int32) × (Nat → Int32) × (Nat → Int32) × Int32 := let x8 : Int32 := (if kn = 0 then (let x7 : Int32 := (F_X9_go fme ffo ffd kn).2.2.2; x7) else (kn)); let g9 : Nat → Int32 := (if kn = 0 then (let g4 : Nat → Int32 := (F_X9_go fme ffo ffd kn).1; g4) else (fme)); let g10 : Nat → Int32 := (if kn = 0 then (let g5 : Nat → Int32 := (F_X9_go fme ffo ffd kn).2.1; g5) else (ffo)); let g11 : Nat → Int32 := (if kn = 0 then (let g6 : Nat → Int32 := (F_X9_go fme ffo ffd kn).2.2.1; g6) else (ffd)); let x15 : Int32 := (if folds < 0 then (0) else ((if 21 ≤ folds then (0) else (g11 folds.toNatClampNeg)))); (x15, g9, g10, g11, x8)
set_option maxRecDepth 20000 in
def P_X9_liesAfter (fme : Nat → Int32) (ffo : Nat → Int32) (ffd : Nat → Int32) (kn : Int32) (folds : Int32) : Prop := (((kn = 0 → (P_X9_go fme ffo ffd kn)) ∧ (¬ kn = 0 → True)) ∧ (∀ x8 : Int32, x8 = ((if kn = 0 then (let x7 : Int32 := (F_X9_go fme ffo ffd kn).2.2.2; x7) else (kn))) → (∀ g9 : Nat → Int32, g9 = ((if kn = 0 then (let g4 : Nat → Int32 := (F_X9_go fme ffo ffd kn).1; g4) else (fme))) → (∀ g10 : Nat → Int32, g10 = ((if kn = 0 then (let g5 : Nat → Int32 := (F_X9_go fme ffo ffd kn).2.1; g5) else (ffo))) → (∀ g11 : Nat → Int32, g11 = ((if kn = 0 then (let g6 : Nat → Int32 := (F_X9_go fme ffo ffd kn).2.2.1; g6) else (ffd))) → ((folds < 0 → True) ∧ (¬ folds < 0 → ((21 ≤ folds → True) ∧ (¬ 21 ≤ folds → (vp_in folds 21))))))))))
set_option maxRecDepth 20000 in
set_option maxHeartbeats 8000000 in
theorem m_X9_liesAfter (l : Launch) (D : va_G) (cI cL cP cJ : ClassId) (w : Nat) (me : Nat) (fo : Nat) (fd : Nat) (fme : Nat → Int32) (ffo : Nat → Int32) (ffd : Nat → Int32) (kn : Int32) (folds : Int32) (hp : P_X9_liesAfter fme ffo ffd kn folds) : M vI l yX9_liesAfter cX9_liesAfter 2 (some .int) 4 88 D (tyF cI cL cP cJ) [.ref w, .int folds] [walB cI w me fo fd fme ffo ffd kn] (fun (r : Int32) (w1 : List va_W) => r = (F_X9_liesAfter fme ffo ffd kn folds).1 ∧ w1 = [walB cI w me fo fd ((F_X9_liesAfter fme ffo ffd kn folds).2.1) ((F_X9_liesAfter fme ffo ffd kn folds).2.2.1) ((F_X9_liesAfter fme ffo ffd kn folds).2.2.2.1) ((F_X9_liesAfter fme ffo ffd kn folds).2.2.2.2)]) := by
  unfold P_X9_liesAfter at hp
  refine m_start (by decide +kernel) (Nat.le_of_ble_eq_true rfl) (fun p e s m args below meth c A Q hA hQ C hr hlo => ?_)
  refine r_Le (L' := [(0, .ref w), (1, .int folds)]) rfl ?_
  refine r_aload_n C dX9_liesAfter_0 0 rfl ?_
  refine r_ws (I' := [[(w, .inr (7, [.ref me, .ref fo, .ref fd, .int kn]))], [(me, .inl (cI, 384, .inl fme))], [(fo, .inl (cI, 384, .inl ffo))], [(fd, .inl (cI, 21, .inl ffd))]]) rfl ?_
  refine r_get (Cn := RX9) (T := TX9) (N := 4) C inT9 0 rfl rfl 3 (by decide) t_150 rfl dX9_liesAfter_1 ?_
  obtain ⟨hps, hp⟩ := hp
  suffices K : ∀ x8 : Int32, x8 = ((if kn = 0 then (let x7 : Int32 := (F_X9_go fme ffo ffd kn).2.2.2; x7) else (kn))) → ∀ g9 : Nat → Int32, g9 = ((if kn = 0 then (let g4 : Nat → Int32 := (F_X9_go fme ffo ffd kn).1; g4) else (fme))) → ∀ g10 : Nat → Int32, g10 = ((if kn = 0 then (let g5 : Nat → Int32 := (F_X9_go fme ffo ffd kn).2.1; g5) else (ffo))) → ∀ g11 : Nat → Int32, g11 = ((if kn = 0 then (let g6 : Nat → Int32 := (F_X9_go fme ffo ffd kn).2.2.1; g6) else (ffd))) → V p l e (rmm 4 88) s m args below meth c 2 D A 0 0 Q [[(w, .inr (7, [.ref me, .ref fo, .ref fd, .int x8]))], [(me, .inl (cI, 384, .inl g9))], [(fo, .inl (cI, 384, .inl g10))], [(fd, .inl (cI, 21, .inl g11))]] [(0, .ref w), (1, .int folds)] 11 [] by
    have hp := hps
    refine r_if_ne (tgt := 11) C dX9_liesAfter_4 (by decide) (fun c1 => ?_) (fun c1 => ?_)
    · exact K _ (by simp only [if_neg c1]) _ (by simp only [if_neg c1]) _ (by simp only [if_neg c1]) _ (by simp only [if_neg c1])
    · have hp := hp.1 c1
      refine r_aload_n C dX9_liesAfter_7 0 rfl ?_
      refine r_ws (I' := [walB cI w me fo fd fme ffo ffd kn]) rfl ?_
      have h2 := hp
      refine r_callV (ci := 7) (wc := [walB cI w me fo fd fme ffo ffd kn]) (wr := []) (st := []) C (m_X9_go l D cI cL cP cJ w me fo fd fme ffo ffd kn h2) k_X9_go t_392 [0] (show ([0] : List Nat).Perm (List.range 1) by decide) rfl rfl rfl (q0 := 0) rfl rfl rfl (Nat.le_of_ble_eq_true rfl) ⟨Nat.le_of_ble_eq_true rfl, Nat.le_of_ble_eq_true rfl⟩ ⟨Nat.zero_le _, Nat.zero_le _⟩ dX9_liesAfter_8 (fun r3 wr3 hw3 => ?_)
      obtain rfl := hw3
      obtain ⟨g4, e_g4⟩ : ∃ z : Nat → Int32, z = (F_X9_go fme ffo ffd kn).1 := ⟨_, rfl⟩
      obtain ⟨g5, e_g5⟩ : ∃ z : Nat → Int32, z = (F_X9_go fme ffo ffd kn).2.1 := ⟨_, rfl⟩
      obtain ⟨g6, e_g6⟩ : ∃ z : Nat → Int32, z = (F_X9_go fme ffo ffd kn).2.2.1 := ⟨_, rfl⟩
      obtain ⟨x7, e_x7⟩ : ∃ z : Int32, z = (F_X9_go fme ffo ffd kn).2.2.2 := ⟨_, rfl⟩
      refine r_ws (I' := [walB cI w me fo fd g4 g5 g6 x7]) (by rw [e_g4, e_g5, e_g6, e_x7]; rfl) ?_
      refine r_ws (I' := [[(w, .inr (7, [.ref me, .ref fo, .ref fd, .int x7]))], [(me, .inl (cI, 384, .inl g4))], [(fo, .inl (cI, 384, .inl g5))], [(fd, .inl (cI, 21, .inl g6))]]) rfl ?_
      exact K _ (by have q := e_g4.symm; subst q; have q := e_g5.symm; subst q; have q := e_g6.symm; subst q; have q := e_x7.symm; subst q; simp only [if_pos c1]) _ (by have q := e_g4.symm; subst q; have q := e_g5.symm; subst q; have q := e_g6.symm; subst q; have q := e_x7.symm; subst q; simp only [if_pos c1]) _ (by have q := e_g4.symm; subst q; have q := e_g5.symm; subst q; have q := e_g6.symm; subst q; have q := e_x7.symm; subst q; simp only [if_pos c1]) _ (by have q := e_g4.symm; subst q; have q := e_g5.symm; subst q; have q := e_g6.symm; subst q; have q := e_x7.symm; subst q; simp only [if_pos c1])
  intro x8 e_x8 g9 e_g9 g10 e_g10 g11 e_g11
  have hp := hp x8 e_x8
  have hp := hp g9 e_g9
  have hp := hp g10 e_g10
  have hp := hp g11 e_g11
  refine r_iload_n C dX9_liesAfter_11 1 rfl ?_
  have hps := hp
  suffices K : ∀ x15 : Int32, x15 = ((if folds < 0 then (0) else ((if 21 ≤ folds then (0) else (g11 folds.toNatClampNeg))))) → V p l e (rmm 4 88) s m args below meth c 2 D A 0 0 Q [[(w, .inr (7, [.ref me, .ref fo, .ref fd, .int x8]))], [(me, .inl (cI, 384, .inl g9))], [(fo, .inl (cI, 384, .inl g10))], [(fd, .inl (cI, 21, .inl g11))]] [(0, .ref w), (1, .int folds)] 34 [.int x15] by
    have hp := hps
    refine r_if_lt (tgt := 33) C dX9_liesAfter_12 (by decide) (fun c12 => ?_) (fun c12 => ?_)
    · refine r_iconst (v := 0) C dX9_liesAfter_33 (by decide) ?_
      exact K _ (by simp only [if_pos c12])
    · have hp := hp.2 c12
      refine r_iload_n C dX9_liesAfter_15 1 rfl ?_
      refine r_aload_n C dX9_liesAfter_16 0 rfl ?_
      refine r_get (Cn := RX9) (T := TX9) (N := 4) C inT9 0 rfl rfl 2 (by decide) t_149 rfl dX9_liesAfter_17 ?_
      refine r_alen (v := 21) C 3 0 rfl rfl rfl dX9_liesAfter_20 ?_
      refine r_icmp_ge (tgt := 33) C dX9_liesAfter_21 (by decide) (fun c13 => ?_) (fun c13 => ?_)
      · refine r_iconst (v := 0) C dX9_liesAfter_33 (by decide) ?_
        exact K _ (by simp only [if_neg c12, if_pos c13])
      · have hp := hp.2 c13
        refine r_aload_n C dX9_liesAfter_24 0 rfl ?_
        refine r_get (Cn := RX9) (T := TX9) (N := 4) C inT9 0 rfl rfl 2 (by decide) t_149 rfl dX9_liesAfter_25 ?_
        refine r_iload_n C dX9_liesAfter_28 1 rfl ?_
        have h14 := hp
        refine r_iald (z := g11 folds.toNatClampNeg) C 3 0 rfl rfl h14 dX9_liesAfter_29 rfl ?_
        refine r_goto (tgt := 34) C dX9_liesAfter_30 (by decide) ?_
        exact K _ (by simp only [if_neg c12, if_neg c13])
  intro x15 e_x15
  refine r_ws (I' := [walB cI w me fo fd g9 g10 g11 x8]) rfl ?_
  have eF : F_X9_liesAfter fme ffo ffd kn folds = (x15, g9, g10, g11, x8) := by have q := e_x8.symm; subst q; have q := e_g9.symm; subst q; have q := e_g10.symm; subst q; have q := e_g11.symm; subst q; have q := e_x15.symm; subst q; rfl
  exact r_iret (r := x15) C hA hr hlo dX9_liesAfter_34 [walB cI w me fo fd g9 g10 g11 x8] ⟨by simp only [eF], by simp only [eF]⟩ rfl hQ

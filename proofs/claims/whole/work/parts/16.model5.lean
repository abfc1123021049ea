def tbX6_regret : List (Nat × Instr × Nat) := [(0, .iload_n 1, 1), (1, .i2l, 1), (2, .lconst 0, 1), (3, .ldc2_w 121, 3), (6, .invokestatic 74, 3), (9, .ifCond .eq 27, 3), (12, .iload_n 2, 1), (13, .i2l, 1), (14, .lconst 0, 1), (15, .ldc2_w 123, 3), (18, .invokestatic 74, 3), (21, .ifCond .eq 15, 3), (24, .iload_n 3, 1), (25, .i2l, 1), (26, .lconst 0, 1), (27, .ldc2_w 125, 3), (30, .invokestatic 74, 3), (33, .ifCond .ne 6, 3), (36, .bipush (-2), 2), (38, .ireturn, 1), (39, .aload_n 0, 1), (40, .getfield 71, 3), (43, .iconst 5, 1), (44, .if_icmp .ne 6, 3), (47, .bipush (-4), 2), (49, .ireturn, 1), (50, .aload_n 0, 1), (51, .getfield 29, 3), (54, .iconst 3, 1), (55, .aload_n 0, 1), (56, .getfield 71, 3), (59, .imul, 1), (60, .iload_n 2, 1), (61, .iastore, 1), (62, .aload_n 0, 1), (63, .getfield 29, 3), (66, .iconst 3, 1), (67, .aload_n 0, 1), (68, .getfield 71, 3), (71, .imul, 1), (72, .iconst 1, 1), (73, .iadd, 1), (74, .iload_n 3, 1), (75, .iastore, 1), (76, .aload_n 0, 1), (77, .getfield 29, 3), (80, .iconst 3, 1), (81, .aload_n 0, 1), (82, .getfield 71, 3), (85, .imul, 1), (86, .iconst 2, 1), (87, .iadd, 1), (88, .iload_n 1, 1), (89, .iastore, 1), (90, .aload_n 0, 1), (91, .getfield 32, 3), (94, .aload_n 0, 1), (95, .getfield 71, 3), (98, .lconst 0, 1), (99, .lastore, 1), (100, .aload_n 0, 1), (101, .dup, 1), (102, .getfield 71, 3), (105, .iconst 1, 1), (106, .iadd, 1), (107, .putfield 71, 3), (110, .aload_n 0, 1), (111, .getfield 71, 3), (114, .iconst 1, 1), (115, .isub, 1), (116, .ireturn, 1)]
theorem tdX6_regret : tbX6_regret.all (fun q => decide (decode cX6_regret q.1 = .ok q.2)) = true := by decide +kernel
def pX6_regret_0  (σ : OS) (a1_ : Int32) (a2_ : Int32) (a3_ : Int32) : Int32 × OS := if (fX6_in a1_.toInt64 0 (5)) = 0 then ((-2), σ) else if (fX6_in a2_.toInt64 0 (9)) = 0 then ((-2), σ) else if (fX6_in a3_.toInt64 0 (99)) = 0 then ((-2), σ) else if (σ.1 12) = 5 then ((-4), σ) else (((oI (oT (oS (oS (oS σ 10 ((3 * (σ.1 12)).toNatClampNeg) a2_) 10 (((3 * ((oS σ 10 ((3 * (σ.1 12)).toNatClampNeg) a2_).1 12)) + 1).toNatClampNeg) a3_) 10 (((3 * ((oS (oS σ 10 ((3 * (σ.1 12)).toNatClampNeg) a2_) 10 (((3 * ((oS σ 10 ((3 * (σ.1 12)).toNatClampNeg) a2_).1 12)) + 1).toNatClampNeg) a3_).1 12)) + 2).toNatClampNeg) a1_) 11 (((oS (oS (oS σ 10 ((3 * (σ.1 12)).toNatClampNeg) a2_) 10 (((3 * ((oS σ 10 ((3 * (σ.1 12)).toNatClampNeg) a2_).1 12)) + 1).toNatClampNeg) a3_) 10 (((3 * ((oS (oS σ 10 ((3 * (σ.1 12)).toNatClampNeg) a2_) 10 (((3 * ((oS σ 10 ((3 * (σ.1 12)).toNatClampNeg) a2_).1 12)) + 1).toNatClampNeg) a3_).1 12)) + 2).toNatClampNeg) a1_).1 12).toNatClampNeg) 0) 12 (((oT (oS (oS (oS σ 10 ((3 * (σ.1 12)).toNatClampNeg) a2_) 10 (((3 * ((oS σ 10 ((3 * (σ.1 12)).toNatClampNeg) a2_).1 12)) + 1).toNatClampNeg) a3_) 10 (((3 * ((oS (oS σ 10 ((3 * (σ.1 12)).toNatClampNeg) a2_) 10 (((3 * ((oS σ 10 ((3 * (σ.1 12)).toNatClampNeg) a2_).1 12)) + 1).toNatClampNeg) a3_).1 12)) + 2).toNatClampNeg) a1_) 11 (((oS (oS (oS σ 10 ((3 * (σ.1 12)).toNatClampNeg) a2_) 10 (((3 * ((oS σ 10 ((3 * (σ.1 12)).toNatClampNeg) a2_).1 12)) + 1).toNatClampNeg) a3_) 10 (((3 * ((oS (oS σ 10 ((3 * (σ.1 12)).toNatClampNeg) a2_) 10 (((3 * ((oS σ 10 ((3 * (σ.1 12)).toNatClampNeg) a2_).1 12)) + 1).toNatClampNeg) a3_).1 12)) + 2).toNatClampNeg) a1_).1 12).toNatClampNeg) 0).1 12) + 1)).1 12) - 1, oI (oT (oS (oS (oS σ 10 ((3 * (σ.1 12)).toNatClampNeg) a2_) 10 (((3 * ((oS σ 10 ((3 * (σ.1 12)).toNatClampNeg) a2_).1 12)) + 1).toNatClampNeg) a3_) 10 (((3 * ((oS (oS σ 10 ((3 * (σ.1 12)).toNatClampNeg) a2_) 10 (((3 * ((oS σ 10 ((3 * (σ.1 12)).toNatClampNeg) a2_).1 12)) + 1).toNatClampNeg) a3_).1 12)) + 2).toNatClampNeg) a1_) 11 (((oS (oS (oS σ 10 ((3 * (σ.1 12)).toNatClampNeg) a2_) 10 (((3 * ((oS σ 10 ((3 * (σ.1 12)).toNatClampNeg) a2_).1 12)) + 1).toNatClampNeg) a3_) 10 (((3 * ((oS (oS σ 10 ((3 * (σ.1 12)).toNatClampNeg) a2_) 10 (((3 * ((oS σ 10 ((3 * (σ.1 12)).toNatClampNeg) a2_).1 12)) + 1).toNatClampNeg) a3_).1 12)) + 2).toNatClampNeg) a1_).1 12).toNatClampNeg) 0) 12 (((oT (oS (oS (oS σ 10 ((3 * (σ.1 12)).toNatClampNeg) a2_) 10 (((3 * ((oS σ 10 ((3 * (σ.1 12)).toNatClampNeg) a2_).1 12)) + 1).toNatClampNeg) a3_) 10 (((3 * ((oS (oS σ 10 ((3 * (σ.1 12)).toNatClampNeg) a2_) 10 (((3 * ((oS σ 10 ((3 * (σ.1 12)).toNatClampNeg) a2_).1 12)) + 1).toNatClampNeg) a3_).1 12)) + 2).toNatClampNeg) a1_) 11 (((oS (oS (oS σ 10 ((3 * (σ.1 12)).toNatClampNeg) a2_) 10 (((3 * ((oS σ 10 ((3 * (σ.1 12)).toNatClampNeg) a2_).1 12)) + 1).toNatClampNeg) a3_) 10 (((3 * ((oS (oS σ 10 ((3 * (σ.1 12)).toNatClampNeg) a2_) 10 (((3 * ((oS σ 10 ((3 * (σ.1 12)).toNatClampNeg) a2_).1 12)) + 1).toNatClampNeg) a3_).1 12)) + 2).toNatClampNeg) a1_).1 12).toNatClampNeg) 0).1 12) + 1))
def oX6_regret_0  (σ : OS) (a1_ : Int32) (a2_ : Int32) (a3_ : Int32) : Prop := ((fX6_in a1_.toInt64 0 (5)) = 0 → True) ∧ (¬ ((fX6_in a1_.toInt64 0 (5)) = 0) → ((fX6_in a2_.toInt64 0 (9)) = 0 → True) ∧ (¬ ((fX6_in a2_.toInt64 0 (9)) = 0) → ((fX6_in a3_.toInt64 0 (99)) = 0 → True) ∧ (¬ ((fX6_in a3_.toInt64 0 (99)) = 0) → ((σ.1 12) = 5 → True) ∧ (¬ ((σ.1 12) = 5) → (vp_in (3 * (σ.1 12)) 15) ∧ ((vp_in ((3 * ((oS σ 10 ((3 * (σ.1 12)).toNatClampNeg) a2_).1 12)) + 1) 15) ∧ ((vp_in ((3 * ((oS (oS σ 10 ((3 * (σ.1 12)).toNatClampNeg) a2_) 10 (((3 * ((oS σ 10 ((3 * (σ.1 12)).toNatClampNeg) a2_).1 12)) + 1).toNatClampNeg) a3_).1 12)) + 2) 15) ∧ (vp_in ((oS (oS (oS σ 10 ((3 * (σ.1 12)).toNatClampNeg) a2_) 10 (((3 * ((oS σ 10 ((3 * (σ.1 12)).toNatClampNeg) a2_).1 12)) + 1).toNatClampNeg) a3_) 10 (((3 * ((oS (oS σ 10 ((3 * (σ.1 12)).toNatClampNeg) a2_) 10 (((3 * ((oS σ 10 ((3 * (σ.1 12)).toNatClampNeg) a2_).1 12)) + 1).toNatClampNeg) a3_).1 12)) + 2).toNatClampNeg) a1_).1 12) 5)))))))
set_option maxHeartbeats 4000000 in
set_option maxRecDepth 100000 in
theorem wX6_regret_0 {X : CX} {cy : Nat → ClassId} {q : Nat → Nat} {D : va_G} {A : Nat → Prop} {res : Int32 × OS} (σ : OS) (a1_ : Int32) (a2_ : Int32) (a3_ : Int32) (C : Cx X cX6_regret RX6 4 D (gty cy) A 1 0 0) (hR : Rt X (some .int) D (gty cy) A 0 0 (eI (wX6 cy q res.2) res.1))  (ok : oX6_regret_0  σ a1_ a2_ a3_) (h : pX6_regret_0  σ a1_ a2_ a3_ = res) : At X D A 4 0 0 0 [(0, .ref (q 41)), (1, .int a1_), (2, .int a2_), (3, .int a3_)] [] (wX6 cy q σ) := by
  unfold pX6_regret_0 at h
  unfold oX6_regret_0 at ok
  refine r_iload_n C 1 (dall tdX6_regret 0 rfl) rfl ?_
  refine r_i2l C (dall tdX6_regret 1 rfl) ?_
  refine r_lconst (v := 0) C (dall tdX6_regret 2 rfl) (by decide) ?_
  refine r_ldc2 C kk_X6_121 (dall tdX6_regret 3 rfl) ?_
  refine r_s0I (as := [.long a1_.toInt64, .long 0, .long (5)]) C (zX6_in a1_.toInt64 0 (5) ) ms_X6_in km_X6_74 (by decide) (by decide) ⟨Nat.le_refl _, Nat.le_refl _⟩ rfl rfl (Nat.le_of_ble_eq_true rfl) (dall tdX6_regret 4 rfl) ?_
  refine r_if_eq (tgt := 36) C (dall tdX6_regret 5 rfl) (by decide) (fun c1 => ?_) (fun c1 => ?_)
  · have h := (if_pos c1).symm.trans h
    have ok := ok.1 c1
    refine r_bipush (v := -2) C (dall tdX6_regret 18 rfl) (by decide) ?_
    exact r_iret C hR (dall tdX6_regret 19 rfl) (by subst h; exact ⟨rfl, rfl⟩)
  · have h := (if_neg c1).symm.trans h
    have ok := ok.2 c1
    refine r_iload_n C 2 (dall tdX6_regret 6 rfl) rfl ?_
    refine r_i2l C (dall tdX6_regret 7 rfl) ?_
    refine r_lconst (v := 0) C (dall tdX6_regret 8 rfl) (by decide) ?_
    refine r_ldc2 C kk_X6_123 (dall tdX6_regret 9 rfl) ?_
    refine r_s0I (as := [.long a2_.toInt64, .long 0, .long (9)]) C (zX6_in a2_.toInt64 0 (9) ) ms_X6_in km_X6_74 (by decide) (by decide) ⟨Nat.le_refl _, Nat.le_refl _⟩ rfl rfl (Nat.le_of_ble_eq_true rfl) (dall tdX6_regret 10 rfl) ?_
    refine r_if_eq (tgt := 36) C (dall tdX6_regret 11 rfl) (by decide) (fun c2 => ?_) (fun c2 => ?_)
    · have h := (if_pos c2).symm.trans h
      have ok := ok.1 c2
      refine r_bipush (v := -2) C (dall tdX6_regret 18 rfl) (by decide) ?_
      exact r_iret C hR (dall tdX6_regret 19 rfl) (by subst h; exact ⟨rfl, rfl⟩)
    · have h := (if_neg c2).symm.trans h
      have ok := ok.2 c2
      refine r_iload_n C 3 (dall tdX6_regret 12 rfl) rfl ?_
      refine r_i2l C (dall tdX6_regret 13 rfl) ?_
      refine r_lconst (v := 0) C (dall tdX6_regret 14 rfl) (by decide) ?_
      refine r_ldc2 C kk_X6_125 (dall tdX6_regret 15 rfl) ?_
      refine r_s0I (as := [.long a3_.toInt64, .long 0, .long (99)]) C (zX6_in a3_.toInt64 0 (99) ) ms_X6_in km_X6_74 (by decide) (by decide) ⟨Nat.le_refl _, Nat.le_refl _⟩ rfl rfl (Nat.le_of_ble_eq_true rfl) (dall tdX6_regret 16 rfl) ?_
      refine r_if_ne (tgt := 39) C (dall tdX6_regret 17 rfl) (by decide) (fun c3 => ?_) (fun c3 => ?_)
      · have h := (if_neg c3).symm.trans h
        have ok := ok.2 c3
        refine r_aload_n C 0 (dall tdX6_regret 20 rfl) rfl ?_
        refine r_get C 0 kw_X6 rfl rfl (by decide) kf_X6_71 rfl rfl (dall tdX6_regret 21 rfl) ?_
        refine r_iconst (v := 5) C (dall tdX6_regret 22 rfl) (by decide) ?_
        refine r_icmp_ne (tgt := 50) C (dall tdX6_regret 23 rfl) (by decide) (fun c4 => ?_) (fun c4 => ?_)
        · have h := (if_neg c4).symm.trans h
          have ok := ok.2 c4
          refine r_aload_n C 0 (dall tdX6_regret 26 rfl) rfl ?_
          refine r_get C 0 kw_X6 rfl rfl (by decide) kf_X6_29 rfl rfl (dall tdX6_regret 27 rfl) ?_
          refine r_iconst (v := 3) C (dall tdX6_regret 28 rfl) (by decide) ?_
          refine r_aload_n C 0 (dall tdX6_regret 29 rfl) rfl ?_
          refine r_get C 0 kw_X6 rfl rfl (by decide) kf_X6_71 rfl rfl (dall tdX6_regret 30 rfl) ?_
          refine r_imul C (dall tdX6_regret 31 rfl) ?_
          refine r_iload_n C 2 (dall tdX6_regret 32 rfl) rfl ?_
          obtain ⟨o5, ok⟩ := ok
          refine r_iast C 4 0 rfl rfl o5 (pa_X6_this_10 cy q σ ((3 * (σ.1 12)).toNatClampNeg) a2_) (dall tdX6_regret 33 rfl) ?_
          refine r_aload_n C 0 (dall tdX6_regret 34 rfl) rfl ?_
          refine r_get C 0 kw_X6 rfl rfl (by decide) kf_X6_29 rfl rfl (dall tdX6_regret 35 rfl) ?_
          refine r_iconst (v := 3) C (dall tdX6_regret 36 rfl) (by decide) ?_
          refine r_aload_n C 0 (dall tdX6_regret 37 rfl) rfl ?_
          refine r_get C 0 kw_X6 rfl rfl (by decide) kf_X6_71 rfl rfl (dall tdX6_regret 38 rfl) ?_
          refine r_imul C (dall tdX6_regret 39 rfl) ?_
          refine r_iconst (v := 1) C (dall tdX6_regret 40 rfl) (by decide) ?_
          refine r_iadd C (dall tdX6_regret 41 rfl) ?_
          refine r_iload_n C 3 (dall tdX6_regret 42 rfl) rfl ?_
          obtain ⟨o6, ok⟩ := ok
          refine r_iast C 4 0 rfl rfl o6 (pa_X6_this_10 cy q (oS σ 10 ((3 * (σ.1 12)).toNatClampNeg) a2_) (((3 * ((oS σ 10 ((3 * (σ.1 12)).toNatClampNeg) a2_).1 12)) + 1).toNatClampNeg) a3_) (dall tdX6_regret 43 rfl) ?_
          refine r_aload_n C 0 (dall tdX6_regret 44 rfl) rfl ?_
          refine r_get C 0 kw_X6 rfl rfl (by decide) kf_X6_29 rfl rfl (dall tdX6_regret 45 rfl) ?_
          refine r_iconst (v := 3) C (dall tdX6_regret 46 rfl) (by decide) ?_
          refine r_aload_n C 0 (dall tdX6_regret 47 rfl) rfl ?_
          refine r_get C 0 kw_X6 rfl rfl (by decide) kf_X6_71 rfl rfl (dall tdX6_regret 48 rfl) ?_
          refine r_imul C (dall tdX6_regret 49 rfl) ?_
          refine r_iconst (v := 2) C (dall tdX6_regret 50 rfl) (by decide) ?_
          refine r_iadd C (dall tdX6_regret 51 rfl) ?_
          refine r_iload_n C 1 (dall tdX6_regret 52 rfl) rfl ?_
          obtain ⟨o7, ok⟩ := ok
          refine r_iast C 4 0 rfl rfl o7 (pa_X6_this_10 cy q (oS (oS σ 10 ((3 * (σ.1 12)).toNatClampNeg) a2_) 10 (((3 * ((oS σ 10 ((3 * (σ.1 12)).toNatClampNeg) a2_).1 12)) + 1).toNatClampNeg) a3_) (((3 * ((oS (oS σ 10 ((3 * (σ.1 12)).toNatClampNeg) a2_) 10 (((3 * ((oS σ 10 ((3 * (σ.1 12)).toNatClampNeg) a2_).1 12)) + 1).toNatClampNeg) a3_).1 12)) + 2).toNatClampNeg) a1_) (dall tdX6_regret 53 rfl) ?_
          refine r_aload_n C 0 (dall tdX6_regret 54 rfl) rfl ?_
          refine r_get C 0 kw_X6 rfl rfl (by decide) kf_X6_32 rfl rfl (dall tdX6_regret 55 rfl) ?_
          refine r_aload_n C 0 (dall tdX6_regret 56 rfl) rfl ?_
          refine r_get C 0 kw_X6 rfl rfl (by decide) kf_X6_71 rfl rfl (dall tdX6_regret 57 rfl) ?_
          refine r_lconst (v := 0) C (dall tdX6_regret 58 rfl) (by decide) ?_
          have o8 := ok
          refine r_last C 5 1 rfl rfl o8 (pa_X6_this_11 cy q (oS (oS (oS σ 10 ((3 * (σ.1 12)).toNatClampNeg) a2_) 10 (((3 * ((oS σ 10 ((3 * (σ.1 12)).toNatClampNeg) a2_).1 12)) + 1).toNatClampNeg) a3_) 10 (((3 * ((oS (oS σ 10 ((3 * (σ.1 12)).toNatClampNeg) a2_) 10 (((3 * ((oS σ 10 ((3 * (σ.1 12)).toNatClampNeg) a2_).1 12)) + 1).toNatClampNeg) a3_).1 12)) + 2).toNatClampNeg) a1_) (((oS (oS (oS σ 10 ((3 * (σ.1 12)).toNatClampNeg) a2_) 10 (((3 * ((oS σ 10 ((3 * (σ.1 12)).toNatClampNeg) a2_).1 12)) + 1).toNatClampNeg) a3_) 10 (((3 * ((oS (oS σ 10 ((3 * (σ.1 12)).toNatClampNeg) a2_) 10 (((3 * ((oS σ 10 ((3 * (σ.1 12)).toNatClampNeg) a2_).1 12)) + 1).toNatClampNeg) a3_).1 12)) + 2).toNatClampNeg) a1_).1 12).toNatClampNeg) 0) (dall tdX6_regret 59 rfl) ?_
          refine r_aload_n C 0 (dall tdX6_regret 60 rfl) rfl ?_
          refine r_dup C (dall tdX6_regret 61 rfl) rfl ?_
          refine r_get C 0 kw_X6 rfl rfl (by decide) kf_X6_71 rfl rfl (dall tdX6_regret 62 rfl) ?_
          refine r_iconst (v := 1) C (dall tdX6_regret 63 rfl) (by decide) ?_
          refine r_iadd C (dall tdX6_regret 64 rfl) ?_
          refine r_put C 0 kw_X6 tyX6_ok nmX6 rfl rfl (by decide) kf_X6_71 rfl rfl rfl rfl rfl (Nat.le_of_ble_eq_true rfl) (pu_X6_this_12 cy q (oT (oS (oS (oS σ 10 ((3 * (σ.1 12)).toNatClampNeg) a2_) 10 (((3 * ((oS σ 10 ((3 * (σ.1 12)).toNatClampNeg) a2_).1 12)) + 1).toNatClampNeg) a3_) 10 (((3 * ((oS (oS σ 10 ((3 * (σ.1 12)).toNatClampNeg) a2_) 10 (((3 * ((oS σ 10 ((3 * (σ.1 12)).toNatClampNeg) a2_).1 12)) + 1).toNatClampNeg) a3_).1 12)) + 2).toNatClampNeg) a1_) 11 (((oS (oS (oS σ 10 ((3 * (σ.1 12)).toNatClampNeg) a2_) 10 (((3 * ((oS σ 10 ((3 * (σ.1 12)).toNatClampNeg) a2_).1 12)) + 1).toNatClampNeg) a3_) 10 (((3 * ((oS (oS σ 10 ((3 * (σ.1 12)).toNatClampNeg) a2_) 10 (((3 * ((oS σ 10 ((3 * (σ.1 12)).toNatClampNeg) a2_).1 12)) + 1).toNatClampNeg) a3_).1 12)) + 2).toNatClampNeg) a1_).1 12).toNatClampNeg) 0) (((oT (oS (oS (oS σ 10 ((3 * (σ.1 12)).toNatClampNeg) a2_) 10 (((3 * ((oS σ 10 ((3 * (σ.1 12)).toNatClampNeg) a2_).1 12)) + 1).toNatClampNeg) a3_) 10 (((3 * ((oS (oS σ 10 ((3 * (σ.1 12)).toNatClampNeg) a2_) 10 (((3 * ((oS σ 10 ((3 * (σ.1 12)).toNatClampNeg) a2_).1 12)) + 1).toNatClampNeg) a3_).1 12)) + 2).toNatClampNeg) a1_) 11 (((oS (oS (oS σ 10 ((3 * (σ.1 12)).toNatClampNeg) a2_) 10 (((3 * ((oS σ 10 ((3 * (σ.1 12)).toNatClampNeg) a2_).1 12)) + 1).toNatClampNeg) a3_) 10 (((3 * ((oS (oS σ 10 ((3 * (σ.1 12)).toNatClampNeg) a2_) 10 (((3 * ((oS σ 10 ((3 * (σ.1 12)).toNatClampNeg) a2_).1 12)) + 1).toNatClampNeg) a3_).1 12)) + 2).toNatClampNeg) a1_).1 12).toNatClampNeg) 0).1 12) + 1)) (dall tdX6_regret 65 rfl) ?_
          refine r_aload_n C 0 (dall tdX6_regret 66 rfl) rfl ?_
          refine r_get C 0 kw_X6 rfl rfl (by decide) kf_X6_71 rfl rfl (dall tdX6_regret 67 rfl) ?_
          refine r_iconst (v := 1) C (dall tdX6_regret 68 rfl) (by decide) ?_
          refine r_isub C (dall tdX6_regret 69 rfl) ?_
          exact r_iret C hR (dall tdX6_regret 70 rfl) (by subst h; exact ⟨rfl, rfl⟩)
        · have h := (if_pos c4).symm.trans h
          have ok := ok.1 c4
          refine r_bipush (v := -4) C (dall tdX6_regret 24 rfl) (by decide) ?_
          exact r_iret C hR (dall tdX6_regret 25 rfl) (by subst h; exact ⟨rfl, rfl⟩)
      · have h := (if_pos c3).symm.trans h
        have ok := ok.1 c3
        refine r_bipush (v := -2) C (dall tdX6_regret 18 rfl) (by decide) ?_
        exact r_iret C hR (dall tdX6_regret 19 rfl) (by subst h; exact ⟨rfl, rfl⟩)
def fX6_regret (σ : OS) (a1_ : Int32) (a2_ : Int32) (a3_ : Int32) : Int32 × OS := pX6_regret_0  σ a1_ a2_ a3_
def gX6_regret (σ : OS) (a1_ : Int32) (a2_ : Int32) (a3_ : Int32) : Prop := oX6_regret_0  σ a1_ a2_ a3_
set_option maxRecDepth 100000 in
theorem zX6_regret (cy : Nat → ClassId) (q : Nat → Nat)  {D : va_G} (σ : OS) (a1_ : Int32) (a2_ : Int32) (a3_ : Int32) (ok : gX6_regret σ a1_ a2_ a3_)  : Con yX6_regret cX6_regret 4 (some .int) 1 0 0 D (gty cy) [.ref (q 41), .int a1_, .int a2_, .int a3_] (wX6 cy q σ) (eI (wX6 cy q (fX6_regret σ a1_ a2_ a3_).2) (fX6_regret σ a1_ a2_ a3_).1) :=
  Con.of (own := RX6) (by decide +kernel) rfl (Nat.le_of_ble_eq_true rfl) (Nat.zero_le _) (fun X A C hR _ => (wX6_regret_0 σ a1_ a2_ a3_ C hR  ok rfl))
theorem mv_X6_regret : MV yX6_regret cX6_regret 4 (some .int) RX6 3 := ⟨ki_X6_regret, kv_X6_regret, kn_X6, kc_X6_regret, by decide +kernel⟩
def tbX6_wall : List (Nat × Instr × Nat) := [(0, .iload_n 1, 1), (1, .iconst (-1), 1), (2, .if_icmp .eq 21, 3), (5, .iload_n 1, 1), (6, .bipush (-2), 2), (8, .if_icmp .eq 15, 3), (11, .aload_n 0, 1), (12, .iload_n 1, 1), (13, .invokevirtual 90, 3), (16, .ifCond .ne 7, 3), (19, .ldc2_w 145, 3), (22, .lreturn, 1), (23, .iload_n 1, 1), (24, .iconst (-1), 1), (25, .if_icmp .ne 10, 3), (28, .aload_n 0, 1), (29, .getfield 25, 3), (32, .goto 22, 3), (35, .iload_n 1, 1), (36, .bipush (-2), 2), (38, .if_icmp .ne 10, 3), (41, .aload_n 0, 1), (42, .invokevirtual 147, 3), (45, .goto 9, 3), (48, .aload_n 0, 1), (49, .getfield 32, 3), (52, .iload_n 1, 1), (53, .laload, 1), (54, .lreturn, 1)]
theorem tdX6_wall : tbX6_wall.all (fun q => decide (decode cX6_wall q.1 = .ok q.2)) = true := by decide +kernel
def pX6_wall_23  (σ : OS) (a1_ : Int32) : Int64 := if a1_ = (-1) then σ.2.1 9 else if a1_ = (-2) then fX6_stands σ  else σ.2.2.2 11 a1_.toNatClampNeg
def oX6_wall_23  (σ : OS) (a1_ : Int32) : Prop := (a1_ = (-1) → True) ∧ (¬ (a1_ = (-1)) → (a1_ = (-2) → gX6_stands σ ) ∧ (¬ (a1_ = (-2)) → vp_in a1_ 5))
set_option maxHeartbeats 4000000 in
set_option maxRecDepth 100000 in
theorem wX6_wall_23 {X : CX} {cy : Nat → ClassId} {q : Nat → Nat} {D : va_G} {A : Nat → Prop} {res : Int64} (σ : OS) (a1_ : Int32) (C : Cx X cX6_wall RX6 2 D (gty cy) A 2 0 0) (hR : Rt X (some .long) D (gty cy) A 0 0 (eL (wX6 cy q σ) res))  (ok : oX6_wall_23  σ a1_) (h : pX6_wall_23  σ a1_ = res) : At X D A 2 0 0 23 [(0, .ref (q 41)), (1, .int a1_)] [] (wX6 cy q σ) := by
  unfold pX6_wall_23 at h
  unfold oX6_wall_23 at ok
  refine r_iload_n C 1 (dall tdX6_wall 12 rfl) rfl ?_
  refine r_iconst (v := -1) C (dall tdX6_wall 13 rfl) (by decide) ?_
  refine r_icmp_ne (tgt := 35) C (dall tdX6_wall 14 rfl) (by decide) (fun c1 => ?_) (fun c1 => ?_)
  · have h := (if_neg c1).symm.trans h
    have ok := ok.2 c1
    refine r_iload_n C 1 (dall tdX6_wall 18 rfl) rfl ?_
    refine r_bipush (v := -2) C (dall tdX6_wall 19 rfl) (by decide) ?_
    refine r_icmp_ne (tgt := 48) C (dall tdX6_wall 20 rfl) (by decide) (fun c2 => ?_) (fun c2 => ?_)
    · have h := (if_neg c2).symm.trans h
      have ok := ok.2 c2
      refine r_aload_n C 0 (dall tdX6_wall 24 rfl) rfl ?_
      refine r_get C 0 kw_X6 rfl rfl (by decide) kf_X6_32 rfl rfl (dall tdX6_wall 25 rfl) ?_
      refine r_iload_n C 1 (dall tdX6_wall 26 rfl) rfl ?_
      have o3 := ok
      refine r_lald C 5 1 rfl rfl o3 (dall tdX6_wall 27 rfl) ?_
      exact r_lret C hR (dall tdX6_wall 28 rfl) (by subst h; exact ⟨rfl, rfl⟩)
    · have h := (if_pos c2).symm.trans h
      have ok := ok.1 c2
      refine r_aload_n C 0 (dall tdX6_wall 21 rfl) rfl ?_
      have o4 := ok
      refine r_vL (as := []) C (zX6_stands cy q σ  o4) mv_X6_stands km_X6_147 (by decide) (by decide) ⟨Nat.le_refl _, Nat.le_refl _⟩ rfl rfl rfl rfl (Nat.le_of_ble_eq_true rfl) (dall tdX6_wall 22 rfl) ?_
      refine r_goto (tgt := 54) C (dall tdX6_wall 23 rfl) (by decide) ?_
      exact r_lret C hR (dall tdX6_wall 28 rfl) (by subst h; exact ⟨rfl, rfl⟩)
  · have h := (if_pos c1).symm.trans h
    have ok := ok.1 c1
    refine r_aload_n C 0 (dall tdX6_wall 15 rfl) rfl ?_
    refine r_get C 0 kw_X6 rfl rfl (by decide) kf_X6_25 rfl rfl (dall tdX6_wall 16 rfl) ?_
    refine r_goto (tgt := 54) C (dall tdX6_wall 17 rfl) (by decide) ?_
    exact r_lret C hR (dall tdX6_wall 28 rfl) (by subst h; exact ⟨rfl, rfl⟩)
def pX6_wall_0  (σ : OS) (a1_ : Int32) : Int64 := if a1_ = (-1) then pX6_wall_23  σ a1_ else if a1_ = (-2) then pX6_wall_23  σ a1_ else if (fX6_isOne σ a1_) = 0 then (-4611686018427387904) else pX6_wall_23  σ a1_
def oX6_wall_0  (σ : OS) (a1_ : Int32) : Prop := (a1_ = (-1) → oX6_wall_23  σ a1_) ∧ (¬ (a1_ = (-1)) → (a1_ = (-2) → oX6_wall_23  σ a1_) ∧ (¬ (a1_ = (-2)) → (gX6_isOne σ a1_) ∧ (((fX6_isOne σ a1_) = 0 → True) ∧ (¬ ((fX6_isOne σ a1_) = 0) → oX6_wall_23  σ a1_))))
set_option maxHeartbeats 4000000 in
set_option maxRecDepth 100000 in
theorem wX6_wall_0 {X : CX} {cy : Nat → ClassId} {q : Nat → Nat} {D : va_G} {A : Nat → Prop} {res : Int64} (σ : OS) (a1_ : Int32) (C : Cx X cX6_wall RX6 2 D (gty cy) A 2 0 0) (hR : Rt X (some .long) D (gty cy) A 0 0 (eL (wX6 cy q σ) res))  (ok : oX6_wall_0  σ a1_) (h : pX6_wall_0  σ a1_ = res) : At X D A 2 0 0 0 [(0, .ref (q 41)), (1, .int a1_)] [] (wX6 cy q σ) := by
  unfold pX6_wall_0 at h
  unfold oX6_wall_0 at ok
  refine r_iload_n C 1 (dall tdX6_wall 0 rfl) rfl ?_
  refine r_iconst (v := -1) C (dall tdX6_wall 1 rfl) (by decide) ?_
  refine r_icmp_eq (tgt := 23) C (dall tdX6_wall 2 rfl) (by decide) (fun c5 => ?_) (fun c5 => ?_)
  · have h := (if_pos c5).symm.trans h
    have ok := ok.1 c5
    exact wX6_wall_23 σ a1_ C hR  ok h
  · have h := (if_neg c5).symm.trans h
    have ok := ok.2 c5
    refine r_iload_n C 1 (dall tdX6_wall 3 rfl) rfl ?_
    refine r_bipush (v := -2) C (dall tdX6_wall 4 rfl) (by decide) ?_
    refine r_icmp_eq (tgt := 23) C (dall tdX6_wall 5 rfl) (by decide) (fun c6 => ?_) (fun c6 => ?_)
    · have h := (if_pos c6).symm.trans h
      have ok := ok.1 c6
      exact wX6_wall_23 σ a1_ C hR  ok h
    · have h := (if_neg c6).symm.trans h
      have ok := ok.2 c6
      refine r_aload_n C 0 (dall tdX6_wall 6 rfl) rfl ?_
      refine r_iload_n C 1 (dall tdX6_wall 7 rfl) rfl ?_
      obtain ⟨o7, ok⟩ := ok
      refine r_vI (as := [.int a1_]) C (zX6_isOne cy q σ a1_ o7) mv_X6_isOne km_X6_90 (by decide) (by decide) ⟨Nat.le_refl _, Nat.le_refl _⟩ rfl rfl rfl rfl (Nat.le_of_ble_eq_true rfl) (dall tdX6_wall 8 rfl) ?_
      refine r_if_ne (tgt := 23) C (dall tdX6_wall 9 rfl) (by decide) (fun c8 => ?_) (fun c8 => ?_)
      · have h := (if_neg c8).symm.trans h
        have ok := ok.2 c8
        exact wX6_wall_23 σ a1_ C hR  ok h
      · have h := (if_pos c8).symm.trans h
        have ok := ok.1 c8
        refine r_ldc2 C kk_X6_145 (dall tdX6_wall 10 rfl) ?_
        exact r_lret C hR (dall tdX6_wall 11 rfl) (by subst h; exact ⟨rfl, rfl⟩)
def fX6_wall (σ : OS) (a1_ : Int32) : Int64 := pX6_wall_0  σ a1_
def gX6_wall (σ : OS) (a1_ : Int32) : Prop := oX6_wall_0  σ a1_
set_option maxRecDepth 100000 in
theorem zX6_wall (cy : Nat → ClassId) (q : Nat → Nat)  {D : va_G} (σ : OS) (a1_ : Int32) (ok : gX6_wall σ a1_)  : Con yX6_wall cX6_wall 2 (some .long) 2 0 0 D (gty cy) [.ref (q 41), .int a1_] (wX6 cy q σ) (eL (wX6 cy q σ) (fX6_wall σ a1_)) :=
  Con.of (own := RX6) (by decide +kernel) rfl (Nat.le_of_ble_eq_true rfl) (Nat.zero_le _) (fun X A C hR _ => (wX6_wall_0 σ a1_ C hR  ok rfl))
theorem mv_X6_wall : MV yX6_wall cX6_wall 2 (some .long) RX6 1 := ⟨ki_X6_wall, kv_X6_wall, kn_X6, kc_X6_wall, by decide +kernel⟩
def tbX6_feed : List (Nat × Instr × Nat) := [(0, .iload_n 1, 1), (1, .i2l, 1), (2, .lconst 0, 1), (3, .ldc2_w 23, 3), (6, .invokestatic 74, 3), (9, .ifCond .ne 6, 3), (12, .bipush (-2), 2), (14, .ireturn, 1), (15, .aload_n 0, 1), (16, .getfield 150, 3), (19, .sipush 160, 3), (22, .if_icmp .ne 6, 3), (25, .bipush (-4), 2), (27, .ireturn, 1), (28, .aload_n 0, 1), (29, .getfield 20, 3), (32, .aload_n 0, 1), (33, .getfield 150, 3), (36, .iload_n 1, 1), (37, .iastore, 1), (38, .aload_n 0, 1), (39, .dup, 1), (40, .getfield 150, 3), (43, .iconst 1, 1), (44, .iadd, 1), (45, .putfield 150, 3), (48, .aload_n 0, 1), (49, .getfield 150, 3), (52, .ireturn, 1)]
theorem tdX6_feed : tbX6_feed.all (fun q => decide (decode cX6_feed q.1 = .ok q.2)) = true := by decide +kernel
def pX6_feed_0  (σ : OS) (a1_ : Int32) : Int32 × OS := if (fX6_in a1_.toInt64 0 (255)) = 0 then ((-2), σ) else if (σ.1 6) = 160 then ((-4), σ) else ((oI (oS σ 5 ((σ.1 6).toNatClampNeg) a1_) 6 (((oS σ 5 ((σ.1 6).toNatClampNeg) a1_).1 6) + 1)).1 6, oI (oS σ 5 ((σ.1 6).toNatClampNeg) a1_) 6 (((oS σ 5 ((σ.1 6).toNatClampNeg) a1_).1 6) + 1))
def oX6_feed_0  (σ : OS) (a1_ : Int32) : Prop := ((fX6_in a1_.toInt64 0 (255)) = 0 → True) ∧ (¬ ((fX6_in a1_.toInt64 0 (255)) = 0) → ((σ.1 6) = 160 → True) ∧ (¬ ((σ.1 6) = 160) → vp_in (σ.1 6) 160))
set_option maxHeartbeats 4000000 in
set_option maxRecDepth 100000 in
theorem wX6_feed_0 {X : CX} {cy : Nat → ClassId} {q : Nat → Nat} {D : va_G} {A : Nat → Prop} {res : Int32 × OS} (σ : OS) (a1_ : Int32) (C : Cx X cX6_feed RX6 2 D (gty cy) A 1 0 0) (hR : Rt X (some .int) D (gty cy) A 0 0 (eI (wX6 cy q res.2) res.1))  (ok : oX6_feed_0  σ a1_) (h : pX6_feed_0  σ a1_ = res) : At X D A 2 0 0 0 [(0, .ref (q 41)), (1, .int a1_)] [] (wX6 cy q σ) := by
  unfold pX6_feed_0 at h
  unfold oX6_feed_0 at ok
  refine r_iload_n C 1 (dall tdX6_feed 0 rfl) rfl ?_
  refine r_i2l C (dall tdX6_feed 1 rfl) ?_
  refine r_lconst (v := 0) C (dall tdX6_feed 2 rfl) (by decide) ?_
  refine r_ldc2 C kk_X6_23 (dall tdX6_feed 3 rfl) ?_
  refine r_s0I (as := [.long a1_.toInt64, .long 0, .long (255)]) C (zX6_in a1_.toInt64 0 (255) ) ms_X6_in km_X6_74 (by decide) (by decide) ⟨Nat.le_refl _, Nat.le_refl _⟩ rfl rfl (Nat.le_of_ble_eq_true rfl) (dall tdX6_feed 4 rfl) ?_
  refine r_if_ne (tgt := 15) C (dall tdX6_feed 5 rfl) (by decide) (fun c1 => ?_) (fun c1 => ?_)
  · have h := (if_neg c1).symm.trans h
    have ok := ok.2 c1
    refine r_aload_n C 0 (dall tdX6_feed 8 rfl) rfl ?_
    refine r_get C 0 kw_X6 rfl rfl (by decide) kf_X6_150 rfl rfl (dall tdX6_feed 9 rfl) ?_
    refine r_sipush (v := 160) C (dall tdX6_feed 10 rfl) (by decide) ?_
    refine r_icmp_ne (tgt := 28) C (dall tdX6_feed 11 rfl) (by decide) (fun c2 => ?_) (fun c2 => ?_)
    · have h := (if_neg c2).symm.trans h
      have ok := ok.2 c2
      refine r_aload_n C 0 (dall tdX6_feed 14 rfl) rfl ?_
      refine r_get C 0 kw_X6 rfl rfl (by decide) kf_X6_20 rfl rfl (dall tdX6_feed 15 rfl) ?_
      refine r_aload_n C 0 (dall tdX6_feed 16 rfl) rfl ?_
      refine r_get C 0 kw_X6 rfl rfl (by decide) kf_X6_150 rfl rfl (dall tdX6_feed 17 rfl) ?_
      refine r_iload_n C 1 (dall tdX6_feed 18 rfl) rfl ?_
      have o3 := ok
      refine r_iast C 3 0 rfl rfl o3 (pa_X6_this_5 cy q σ ((σ.1 6).toNatClampNeg) a1_) (dall tdX6_feed 19 rfl) ?_
      refine r_aload_n C 0 (dall tdX6_feed 20 rfl) rfl ?_
      refine r_dup C (dall tdX6_feed 21 rfl) rfl ?_
      refine r_get C 0 kw_X6 rfl rfl (by decide) kf_X6_150 rfl rfl (dall tdX6_feed 22 rfl) ?_
      refine r_iconst (v := 1) C (dall tdX6_feed 23 rfl) (by decide) ?_
      refine r_iadd C (dall tdX6_feed 24 rfl) ?_
      refine r_put C 0 kw_X6 tyX6_ok nmX6 rfl rfl (by decide) kf_X6_150 rfl rfl rfl rfl rfl (Nat.le_of_ble_eq_true rfl) (pu_X6_this_6 cy q (oS σ 5 ((σ.1 6).toNatClampNeg) a1_) (((oS σ 5 ((σ.1 6).toNatClampNeg) a1_).1 6) + 1)) (dall tdX6_feed 25 rfl) ?_
      refine r_aload_n C 0 (dall tdX6_feed 26 rfl) rfl ?_
      refine r_get C 0 kw_X6 rfl rfl (by decide) kf_X6_150 rfl rfl (dall tdX6_feed 27 rfl) ?_
      exact r_iret C hR (dall tdX6_feed 28 rfl) (by subst h; exact ⟨rfl, rfl⟩)
    · have h := (if_pos c2).symm.trans h
      have ok := ok.1 c2
      refine r_bipush (v := -4) C (dall tdX6_feed 12 rfl) (by decide) ?_
      exact r_iret C hR (dall tdX6_feed 13 rfl) (by subst h; exact ⟨rfl, rfl⟩)
  · have h := (if_pos c1).symm.trans h
    have ok := ok.1 c1
    refine r_bipush (v := -2) C (dall tdX6_feed 6 rfl) (by decide) ?_
    exact r_iret C hR (dall tdX6_feed 7 rfl) (by subst h; exact ⟨rfl, rfl⟩)
def fX6_feed (σ : OS) (a1_ : Int32) : Int32 × OS := pX6_feed_0  σ a1_
def gX6_feed (σ : OS) (a1_ : Int32) : Prop := oX6_feed_0  σ a1_
set_option maxRecDepth 100000 in
theorem zX6_feed (cy : Nat → ClassId) (q : Nat → Nat)  {D : va_G} (σ : OS) (a1_ : Int32) (ok : gX6_feed σ a1_)  : Con yX6_feed cX6_feed 2 (some .int) 1 0 0 D (gty cy) [.ref (q 41), .int a1_] (wX6 cy q σ) (eI (wX6 cy q (fX6_feed σ a1_).2) (fX6_feed σ a1_).1) :=
  Con.of (own := RX6) (by decide +kernel) rfl (Nat.le_of_ble_eq_true rfl) (Nat.zero_le _) (fun X A C hR _ => (wX6_feed_0 σ a1_ C hR  ok rfl))
theorem mv_X6_feed : MV yX6_feed cX6_feed 2 (some .int) RX6 1 := ⟨ki_X6_feed, kv_X6_feed, kn_X6, kc_X6_feed, by decide +kernel⟩
def tbX6_text : List (Nat × Instr × Nat) := [(0, .aload_n 0, 1), (1, .getfield 68, 3), (4, .bipush 6, 2), (6, .if_icmp .ne 6, 3), (9, .bipush (-4), 2), (11, .ireturn, 1), (12, .iconst 0, 1), (13, .istore_n 1, 1), (14, .iload_n 1, 1), (15, .aload_n 0, 1), (16, .getfield 150, 3), (19, .if_icmp .ge 30, 3), (22, .aload_n 0, 1), (23, .getfield 13, 3), (26, .sipush 160, 3), (29, .aload_n 0, 1), (30, .getfield 68, 3), (33, .imul, 1), (34, .iload_n 1, 1), (35, .iadd, 1), (36, .aload_n 0, 1), (37, .getfield 20, 3), (40, .iload_n 1, 1), (41, .iaload, 1), (42, .iastore, 1), (43, .iinc 1 1, 3), (46, .goto (-32), 3), (49, .aload_n 0, 1), (50, .getfield 17, 3), (53, .aload_n 0, 1), (54, .getfield 68, 3), (57, .aload_n 0, 1), (58, .getfield 150, 3), (61, .iastore, 1), (62, .aload_n 0, 1), (63, .iconst 0, 1), (64, .putfield 150, 3), (67, .aload_n 0, 1), (68, .aload_n 0, 1), (69, .getfield 68, 3), (72, .iconst 0, 1), (73, .invokevirtual 352, 3), (76, .istore_n 1, 1), (77, .aload_n 0, 1), (78, .getfield 184, 3), (81, .ifCond .eq 11, 3), (84, .bipush (-100), 2), (86, .aload_n 0, 1), (87, .getfield 188, 3), (90, .isub, 1), (91, .ireturn, 1), (92, .aload_n 0, 1), (93, .dup, 1), (94, .getfield 68, 3), (97, .iconst 1, 1), (98, .iadd, 1), (99, .putfield 68, 3), (102, .aload_n 0, 1), (103, .getfield 68, 3), (106, .iconst 1, 1), (107, .isub, 1), (108, .ireturn, 1)]
theorem tdX6_text : tbX6_text.all (fun q => decide (decode cX6_text q.1 = .ok q.2)) = true := by decide +kernel
def pX6_text_76  (σ : OS) (b0_ : Int32) : Int32 × OS := if (σ.1 26) = 0 then (((oI σ 3 ((σ.1 3) + 1)).1 3) - 1, oI σ 3 ((σ.1 3) + 1)) else ((-100) - (σ.1 27), σ)
set_option maxHeartbeats 4000000 in
set_option maxRecDepth 100000 in
theorem wX6_text_76 {X : CX} {cy : Nat → ClassId} {q : Nat → Nat} {D : va_G} {A : Nat → Prop} {res : Int32 × OS} (σ : OS) (b0_ : Int32) (C : Cx X cX6_text RX6 2 D (gty cy) A 42 0 0) (hR : Rt X (some .int) D (gty cy) A 0 0 (eI (wX6 cy q res.2) res.1))  (h : pX6_text_76  σ b0_ = res) : At X D A 2 0 0 76 [(0, .ref (q 41))] [.int b0_] (wX6 cy q σ) := by
  unfold pX6_text_76 at h
  refine r_istore_n (lv' := [(1, .int b0_), (0, .ref (q 41))]) C (dall tdX6_text 42 rfl) (by decide) rfl ?_
  refine r_aload_n C 1 (dall tdX6_text 43 rfl) rfl ?_
  refine r_get C 0 kw_X6 rfl rfl (by decide) kf_X6_184 rfl rfl (dall tdX6_text 44 rfl) ?_
  refine r_if_eq (tgt := 92) C (dall tdX6_text 45 rfl) (by decide) (fun c1 => ?_) (fun c1 => ?_)
  · have h := (if_pos c1).symm.trans h
    refine r_aload_n C 1 (dall tdX6_text 51 rfl) rfl ?_
    refine r_dup C (dall tdX6_text 52 rfl) rfl ?_
    refine r_get C 0 kw_X6 rfl rfl (by decide) kf_X6_68 rfl rfl (dall tdX6_text 53 rfl) ?_
    refine r_iconst (v := 1) C (dall tdX6_text 54 rfl) (by decide) ?_
    refine r_iadd C (dall tdX6_text 55 rfl) ?_
    refine r_put C 0 kw_X6 tyX6_ok nmX6 rfl rfl (by decide) kf_X6_68 rfl rfl rfl rfl rfl (Nat.le_of_ble_eq_true rfl) (pu_X6_this_3 cy q σ ((σ.1 3) + 1)) (dall tdX6_text 56 rfl) ?_
    refine r_aload_n C 1 (dall tdX6_text 57 rfl) rfl ?_
    refine r_get C 0 kw_X6 rfl rfl (by decide) kf_X6_68 rfl rfl (dall tdX6_text 58 rfl) ?_
    refine r_iconst (v := 1) C (dall tdX6_text 59 rfl) (by decide) ?_
    refine r_isub C (dall tdX6_text 60 rfl) ?_
    exact r_iret C hR (dall tdX6_text 61 rfl) (by subst h; exact ⟨rfl, rfl⟩)
  · have h := (if_neg c1).symm.trans h
    refine r_bipush (v := -100) C (dall tdX6_text 46 rfl) (by decide) ?_
    refine r_aload_n C 1 (dall tdX6_text 47 rfl) rfl ?_
    refine r_get C 0 kw_X6 rfl rfl (by decide) kf_X6_188 rfl rfl (dall tdX6_text 48 rfl) ?_
    refine r_isub C (dall tdX6_text 49 rfl) ?_
    exact r_iret C hR (dall tdX6_text 50 rfl) (by subst h; exact ⟨rfl, rfl⟩)
def bX6_text_14   (kR14 : OS × Int32 → Int32 × OS) (v : OS × Int32) : Int32 × OS := if (v.1.1 6) ≤ v.2 then pX6_text_76  ((fX6_read (oI (oS v.1 2 ((v.1.1 3).toNatClampNeg) (v.1.1 6)) 6 0) ((oI (oS v.1 2 ((v.1.1 3).toNatClampNeg) (v.1.1 6)) 6 0).1 3) 0).2) ((fX6_read (oI (oS v.1 2 ((v.1.1 3).toNatClampNeg) (v.1.1 6)) 6 0) ((oI (oS v.1 2 ((v.1.1 3).toNatClampNeg) (v.1.1 6)) 6 0).1 3) 0).1) else kR14 (oS v.1 1 (((160 * (v.1.1 3)) + v.2).toNatClampNeg) (v.1.2.2.1 5 v.2.toNatClampNeg), v.2 + 1)
def kX6_text_14   (kO14 : OS × Int32 → Prop) (v : OS × Int32) : Prop := ((v.1.1 6) ≤ v.2 → (vp_in (v.1.1 3) 6) ∧ (gX6_read (oI (oS v.1 2 ((v.1.1 3).toNatClampNeg) (v.1.1 6)) 6 0) ((oI (oS v.1 2 ((v.1.1 3).toNatClampNeg) (v.1.1 6)) 6 0).1 3) 0)) ∧ (¬ ((v.1.1 6) ≤ v.2) → (vp_in v.2 160) ∧ ((vp_in ((160 * (v.1.1 3)) + v.2) 960) ∧ (kO14 (oS v.1 1 (((160 * (v.1.1 3)) + v.2).toNatClampNeg) (v.1.2.2.1 5 v.2.toNatClampNeg), v.2 + 1))))
set_option maxHeartbeats 4000000 in
set_option maxRecDepth 100000 in
theorem wX6_text_14 {X : CX} {cy : Nat → ClassId} {q : Nat → Nat} {D : va_G} {A : Nat → Prop} {res : Int32 × OS}  (C : Cx X cX6_text RX6 2 D (gty cy) A 42 0 0) (hR : Rt X (some .int) D (gty cy) A 0 0 (eI (wX6 cy q res.2) res.1)) (kR14 : OS × Int32 → Int32 × OS) (kO14 : OS × Int32 → Prop) (hk14 : ∀ z, kO14 z → kR14 z = res → At X D A 2 0 0 14 [(0, .ref (q 41)), (1, .int z.2)] [] (wX6 cy q z.1)) (v : OS × Int32) (ok : kX6_text_14  kO14 v) (h : bX6_text_14  kR14 v = res) : At X D A 2 0 0 14 [(0, .ref (q 41)), (1, .int v.2)] [] (wX6 cy q v.1) := by
  unfold bX6_text_14 at h
  unfold kX6_text_14 at ok
  refine r_iload_n C 1 (dall tdX6_text 8 rfl) rfl ?_
  refine r_aload_n C 0 (dall tdX6_text 9 rfl) rfl ?_
  refine r_get C 0 kw_X6 rfl rfl (by decide) kf_X6_150 rfl rfl (dall tdX6_text 10 rfl) ?_
  refine r_icmp_ge (tgt := 49) C (dall tdX6_text 11 rfl) (by decide) (fun c2 => ?_) (fun c2 => ?_)
  · have h := (if_pos c2).symm.trans h
    have ok := ok.1 c2
    refine r_aload_n C 0 (dall tdX6_text 27 rfl) rfl ?_
    refine r_get C 0 kw_X6 rfl rfl (by decide) kf_X6_17 rfl rfl (dall tdX6_text 28 rfl) ?_
    refine r_aload_n C 0 (dall tdX6_text 29 rfl) rfl ?_
    refine r_get C 0 kw_X6 rfl rfl (by decide) kf_X6_68 rfl rfl (dall tdX6_text 30 rfl) ?_
    refine r_aload_n C 0 (dall tdX6_text 31 rfl) rfl ?_
    refine r_get C 0 kw_X6 rfl rfl (by decide) kf_X6_150 rfl rfl (dall tdX6_text 32 rfl) ?_
    obtain ⟨o3, ok⟩ := ok
    refine r_iast C 2 0 rfl rfl o3 (pa_X6_this_2 cy q v.1 ((v.1.1 3).toNatClampNeg) (v.1.1 6)) (dall tdX6_text 33 rfl) ?_
    refine r_aload_n C 0 (dall tdX6_text 34 rfl) rfl ?_
    refine r_iconst (v := 0) C (dall tdX6_text 35 rfl) (by decide) ?_
    refine r_put C 0 kw_X6 tyX6_ok nmX6 rfl rfl (by decide) kf_X6_150 rfl rfl rfl rfl rfl (Nat.le_of_ble_eq_true rfl) (pu_X6_this_6 cy q (oS v.1 2 ((v.1.1 3).toNatClampNeg) (v.1.1 6)) 0) (dall tdX6_text 36 rfl) ?_
    refine r_aload_n C 0 (dall tdX6_text 37 rfl) rfl ?_
    refine r_aload_n C 0 (dall tdX6_text 38 rfl) rfl ?_
    refine r_get C 0 kw_X6 rfl rfl (by decide) kf_X6_68 rfl rfl (dall tdX6_text 39 rfl) ?_
    refine r_iconst (v := 0) C (dall tdX6_text 40 rfl) (by decide) ?_
    have o4 := ok
    refine r_vI (as := [.int ((oI (oS v.1 2 ((v.1.1 3).toNatClampNeg) (v.1.1 6)) 6 0).1 3), .int 0]) C (zX6_read cy q (oI (oS v.1 2 ((v.1.1 3).toNatClampNeg) (v.1.1 6)) 6 0) ((oI (oS v.1 2 ((v.1.1 3).toNatClampNeg) (v.1.1 6)) 6 0).1 3) 0 o4) mv_X6_read km_X6_352 (by decide) (by decide) ⟨Nat.le_refl _, Nat.le_refl _⟩ rfl rfl rfl rfl (Nat.le_of_ble_eq_true rfl) (dall tdX6_text 41 rfl) ?_
    refine r_pick [0] rfl ?_
    exact wX6_text_76 ((fX6_read (oI (oS v.1 2 ((v.1.1 3).toNatClampNeg) (v.1.1 6)) 6 0) ((oI (oS v.1 2 ((v.1.1 3).toNatClampNeg) (v.1.1 6)) 6 0).1 3) 0).2) ((fX6_read (oI (oS v.1 2 ((v.1.1 3).toNatClampNeg) (v.1.1 6)) 6 0) ((oI (oS v.1 2 ((v.1.1 3).toNatClampNeg) (v.1.1 6)) 6 0).1 3) 0).1) C hR  h
  · have h := (if_neg c2).symm.trans h
    have ok := ok.2 c2
    refine r_aload_n C 0 (dall tdX6_text 12 rfl) rfl ?_
    refine r_get C 0 kw_X6 rfl rfl (by decide) kf_X6_13 rfl rfl (dall tdX6_text 13 rfl) ?_
    refine r_sipush (v := 160) C (dall tdX6_text 14 rfl) (by decide) ?_
    refine r_aload_n C 0 (dall tdX6_text 15 rfl) rfl ?_
    refine r_get C 0 kw_X6 rfl rfl (by decide) kf_X6_68 rfl rfl (dall tdX6_text 16 rfl) ?_
    refine r_imul C (dall tdX6_text 17 rfl) ?_
    refine r_iload_n C 1 (dall tdX6_text 18 rfl) rfl ?_
    refine r_iadd C (dall tdX6_text 19 rfl) ?_
    refine r_aload_n C 0 (dall tdX6_text 20 rfl) rfl ?_
    refine r_get C 0 kw_X6 rfl rfl (by decide) kf_X6_20 rfl rfl (dall tdX6_text 21 rfl) ?_
    refine r_iload_n C 1 (dall tdX6_text 22 rfl) rfl ?_
    obtain ⟨o5, ok⟩ := ok
    refine r_iald C 3 0 rfl rfl o5 (dall tdX6_text 23 rfl) ?_
    obtain ⟨o6, ok⟩ := ok
    refine r_iast C 1 0 rfl rfl o6 (pa_X6_this_1 cy q v.1 (((160 * (v.1.1 3)) + v.2).toNatClampNeg) (v.1.2.2.1 5 v.2.toNatClampNeg)) (dall tdX6_text 24 rfl) ?_
    refine r_iinc (v := v.2 + 1) (lv' := [(1, .int (v.2 + 1)), (0, .ref (q 41))]) C 1 (dall tdX6_text 25 rfl) rfl rfl (by decide) rfl ?_
    refine r_goto (tgt := 14) C (dall tdX6_text 26 rfl) (by decide) ?_
    refine r_pick [1, 0] rfl ?_
    exact hk14 (oS v.1 1 (((160 * (v.1.1 3)) + v.2).toNatClampNeg) (v.1.2.2.1 5 v.2.toNatClampNeg), v.2 + 1) ok h
set_option maxHeartbeats 4000000 in
set_option maxRecDepth 100000 in
theorem lX6_text_14 {X : CX} {cy : Nat → ClassId} {q : Nat → Nat} {D : va_G} {A : Nat → Prop} {res : Int32 × OS}  (C : Cx X cX6_text RX6 2 D (gty cy) A 42 0 0) (hR : Rt X (some .int) D (gty cy) A 0 0 (eI (wX6 cy q res.2) res.1))  (n : Nat) (v : OS × Int32) (ok : lpOk (kX6_text_14  ) n v) (h : lp (0, o0) (bX6_text_14  ) n v = res) : At X D A 2 0 0 14 [(0, .ref (q 41)), (1, .int v.2)] [] (wX6 cy q v.1) :=
  lp_rule (fun v rr_ => rr_ = res → At X D A 2 0 0 14 [(0, .ref (q 41)), (1, .int v.2)] [] (wX6 cy q v.1)) (fun kR kO hk v ok h => wX6_text_14  C hR  kR kO hk v ok h) n v ok h
def pX6_text_0  (σ : OS) : Int32 × OS := if (σ.1 3) = 6 then ((-4), σ) else lp (0, o0) (bX6_text_14  ) fu (σ, 0)
def oX6_text_0  (σ : OS) : Prop := ((σ.1 3) = 6 → True) ∧ (¬ ((σ.1 3) = 6) → lpOk (kX6_text_14  ) fu (σ, 0))
set_option maxHeartbeats 4000000 in
set_option maxRecDepth 100000 in
theorem wX6_text_0 {X : CX} {cy : Nat → ClassId} {q : Nat → Nat} {D : va_G} {A : Nat → Prop} {res : Int32 × OS} (σ : OS) (C : Cx X cX6_text RX6 2 D (gty cy) A 42 0 0) (hR : Rt X (some .int) D (gty cy) A 0 0 (eI (wX6 cy q res.2) res.1))  (ok : oX6_text_0  σ) (h : pX6_text_0  σ = res) : At X D A 2 0 0 0 [(0, .ref (q 41))] [] (wX6 cy q σ) := by
  unfold pX6_text_0 at h
  unfold oX6_text_0 at ok
  refine r_aload_n C 0 (dall tdX6_text 0 rfl) rfl ?_
  refine r_get C 0 kw_X6 rfl rfl (by decide) kf_X6_68 rfl rfl (dall tdX6_text 1 rfl) ?_
  refine r_bipush (v := 6) C (dall tdX6_text 2 rfl) (by decide) ?_
  refine r_icmp_ne (tgt := 12) C (dall tdX6_text 3 rfl) (by decide) (fun c7 => ?_) (fun c7 => ?_)
  · have h := (if_neg c7).symm.trans h
    have ok := ok.2 c7
    refine r_iconst (v := 0) C (dall tdX6_text 6 rfl) (by decide) ?_
    refine r_istore_n (lv' := [(1, .int 0), (0, .ref (q 41))]) C (dall tdX6_text 7 rfl) (by decide) rfl ?_
    refine r_pick [1, 0] rfl ?_
    exact lX6_text_14  C hR  fu _ ok h
  · have h := (if_pos c7).symm.trans h
    have ok := ok.1 c7
    refine r_bipush (v := -4) C (dall tdX6_text 4 rfl) (by decide) ?_
    exact r_iret C hR (dall tdX6_text 5 rfl) (by subst h; exact ⟨rfl, rfl⟩)
def fX6_text (σ : OS) : Int32 × OS := pX6_text_0  σ
def gX6_text (σ : OS) : Prop := oX6_text_0  σ
set_option maxRecDepth 100000 in
theorem zX6_text (cy : Nat → ClassId) (q : Nat → Nat)  {D : va_G} (σ : OS) (ok : gX6_text σ )  : Con yX6_text cX6_text 2 (some .int) 42 0 0 D (gty cy) [.ref (q 41)] (wX6 cy q σ) (eI (wX6 cy q (fX6_text σ ).2) (fX6_text σ ).1) :=
  Con.of (own := RX6) (by decide +kernel) rfl (Nat.le_of_ble_eq_true rfl) (Nat.zero_le _) (fun X A C hR _ => (wX6_text_0 σ C hR  ok rfl))
theorem mv_X6_text : MV yX6_text cX6_text 2 (some .int) RX6 0 := ⟨ki_X6_text, kv_X6_text, kn_X6, kc_X6_text, by decide +kernel⟩
def tbX6_force : List (Nat × Instr × Nat) := [(0, .iload_n 1, 1), (1, .i2l, 1), (2, .lconst 0, 1), (3, .aload_n 0, 1), (4, .getfield 68, 3), (7, .iconst 1, 1), (8, .isub, 1), (9, .i2l, 1), (10, .invokestatic 74, 3), (13, .ifCond .ne 6, 3), (16, .bipush (-2), 2), (18, .ireturn, 1), (19, .aload_n 0, 1), (20, .getfield 118, 3), (23, .istore_n 2, 1), (24, .aload_n 0, 1), (25, .iload_n 1, 1), (26, .putfield 118, 3), (29, .iload_n 2, 1), (30, .ireturn, 1)]
theorem tdX6_force : tbX6_force.all (fun q => decide (decode cX6_force q.1 = .ok q.2)) = true := by decide +kernel
def pX6_force_0  (σ : OS) (a1_ : Int32) : Int32 × OS := if (fX6_in a1_.toInt64 0 (((σ.1 3) - 1).toInt64)) = 0 then ((-2), σ) else (σ.1 4, oI σ 4 a1_)
set_option maxHeartbeats 4000000 in
set_option maxRecDepth 100000 in
theorem wX6_force_0 {X : CX} {cy : Nat → ClassId} {q : Nat → Nat} {D : va_G} {A : Nat → Prop} {res : Int32 × OS} (σ : OS) (a1_ : Int32) (C : Cx X cX6_force RX6 3 D (gty cy) A 1 0 0) (hR : Rt X (some .int) D (gty cy) A 0 0 (eI (wX6 cy q res.2) res.1))  (h : pX6_force_0  σ a1_ = res) : At X D A 3 0 0 0 [(0, .ref (q 41)), (1, .int a1_)] [] (wX6 cy q σ) := by
  unfold pX6_force_0 at h
  refine r_iload_n C 1 (dall tdX6_force 0 rfl) rfl ?_
  refine r_i2l C (dall tdX6_force 1 rfl) ?_
  refine r_lconst (v := 0) C (dall tdX6_force 2 rfl) (by decide) ?_
  refine r_aload_n C 0 (dall tdX6_force 3 rfl) rfl ?_
  refine r_get C 0 kw_X6 rfl rfl (by decide) kf_X6_68 rfl rfl (dall tdX6_force 4 rfl) ?_
  refine r_iconst (v := 1) C (dall tdX6_force 5 rfl) (by decide) ?_
  refine r_isub C (dall tdX6_force 6 rfl) ?_
  refine r_i2l C (dall tdX6_force 7 rfl) ?_
  refine r_s0I (as := [.long a1_.toInt64, .long 0, .long (((σ.1 3) - 1).toInt64)]) C (zX6_in a1_.toInt64 0 (((σ.1 3) - 1).toInt64) ) ms_X6_in km_X6_74 (by decide) (by decide) ⟨Nat.le_refl _, Nat.le_refl _⟩ rfl rfl (Nat.le_of_ble_eq_true rfl) (dall tdX6_force 8 rfl) ?_
  refine r_if_ne (tgt := 19) C (dall tdX6_force 9 rfl) (by decide) (fun c1 => ?_) (fun c1 => ?_)
  · have h := (if_neg c1).symm.trans h
    refine r_aload_n C 0 (dall tdX6_force 12 rfl) rfl ?_
    refine r_get C 0 kw_X6 rfl rfl (by decide) kf_X6_118 rfl rfl (dall tdX6_force 13 rfl) ?_
    refine r_istore_n (lv' := [(2, .int (σ.1 4)), (0, .ref (q 41)), (1, .int a1_)]) C (dall tdX6_force 14 rfl) (by decide) rfl ?_
    refine r_aload_n C 1 (dall tdX6_force 15 rfl) rfl ?_
    refine r_iload_n C 2 (dall tdX6_force 16 rfl) rfl ?_
    refine r_put C 0 kw_X6 tyX6_ok nmX6 rfl rfl (by decide) kf_X6_118 rfl rfl rfl rfl rfl (Nat.le_of_ble_eq_true rfl) (pu_X6_this_4 cy q σ a1_) (dall tdX6_force 17 rfl) ?_
    refine r_iload_n C 0 (dall tdX6_force 18 rfl) rfl ?_
    exact r_iret C hR (dall tdX6_force 19 rfl) (by subst h; exact ⟨rfl, rfl⟩)
  · have h := (if_pos c1).symm.trans h
    refine r_bipush (v := -2) C (dall tdX6_force 10 rfl) (by decide) ?_
    exact r_iret C hR (dall tdX6_force 11 rfl) (by subst h; exact ⟨rfl, rfl⟩)
def fX6_force (σ : OS) (a1_ : Int32) : Int32 × OS := pX6_force_0  σ a1_
set_option maxRecDepth 100000 in
theorem zX6_force (cy : Nat → ClassId) (q : Nat → Nat)  {D : va_G} (σ : OS) (a1_ : Int32)  : Con yX6_force cX6_force 3 (some .int) 1 0 0 D (gty cy) [.ref (q 41), .int a1_] (wX6 cy q σ) (eI (wX6 cy q (fX6_force σ a1_).2) (fX6_force σ a1_).1) :=
  Con.of (own := RX6) (by decide +kernel) rfl (Nat.le_of_ble_eq_true rfl) (Nat.zero_le _) (fun X A C hR _ => (wX6_force_0 σ a1_ C hR  rfl))
theorem mv_X6_force : MV yX6_force cX6_force 3 (some .int) RX6 1 := ⟨ki_X6_force, kv_X6_force, kn_X6, kc_X6_force, by decide +kernel⟩
def tbX6_felled : List (Nat × Instr × Nat) := [(0, .iconst 0, 1), (1, .istore_n 2, 1), (2, .iload_n 2, 1), (3, .aload_n 0, 1), (4, .getfield 71, 3), (7, .if_icmp .ge 25, 3), (10, .aload_n 0, 1), (11, .getfield 32, 3), (14, .iload_n 2, 1), (15, .dup2, 1), (16, .laload, 1), (17, .lconst 1, 1), (18, .iload_n 1, 1), (19, .lshl, 1), (20, .ldc2_w 105, 3), (23, .lxor, 1), (24, .land, 1), (25, .lastore, 1), (26, .iinc 2 1, 3), (29, .goto (-27), 3), (32, .iconst 1, 1), (33, .aload_n 0, 1), (34, .invokevirtual 107, 3), (37, .iadd, 1), (38, .ireturn, 1)]
theorem tdX6_felled : tbX6_felled.all (fun q => decide (decode cX6_felled q.1 = .ok q.2)) = true := by decide +kernel
def pX6_felled_37  (σ : OS) (b0_ : Int32) (b1_ : Int32) : Int32 × OS := (b1_ + b0_, σ)
set_option maxHeartbeats 4000000 in
set_option maxRecDepth 100000 in
theorem wX6_felled_37 {X : CX} {cy : Nat → ClassId} {q : Nat → Nat} {D : va_G} {A : Nat → Prop} {res : Int32 × OS} (σ : OS) (b0_ : Int32) (b1_ : Int32) (C : Cx X cX6_felled RX6 3 D (gty cy) A 3 0 0) (hR : Rt X (some .int) D (gty cy) A 0 0 (eI (wX6 cy q res.2) res.1))  (h : pX6_felled_37  σ b0_ b1_ = res) : At X D A 3 0 0 37 [] [.int b0_, .int b1_] (wX6 cy q σ) := by
  unfold pX6_felled_37 at h
  refine r_iadd C (dall tdX6_felled 23 rfl) ?_
  exact r_iret C hR (dall tdX6_felled 24 rfl) (by subst h; exact ⟨rfl, rfl⟩)
def bX6_felled_2 (a1_ : Int32)  (kR2 : OS × Int32 → Int32 × OS) (v : OS × Int32) : Int32 × OS := if (v.1.1 12) ≤ v.2 then pX6_felled_37  ((fX6_falls v.1 ).2) ((fX6_falls v.1 ).1) 1 else kR2 (oT v.1 11 v.2.toNatClampNeg ((v.1.2.2.2 11 v.2.toNatClampNeg) &&& ((jshl 1 a1_) ^^^ (-1))), v.2 + 1)
def kX6_felled_2 (a1_ : Int32)  (kO2 : OS × Int32 → Prop) (v : OS × Int32) : Prop := ((v.1.1 12) ≤ v.2 → gX6_falls v.1 ) ∧ (¬ ((v.1.1 12) ≤ v.2) → (vp_in v.2 5) ∧ ((vp_in v.2 5) ∧ (kO2 (oT v.1 11 v.2.toNatClampNeg ((v.1.2.2.2 11 v.2.toNatClampNeg) &&& ((jshl 1 a1_) ^^^ (-1))), v.2 + 1))))
set_option maxHeartbeats 4000000 in
set_option maxRecDepth 100000 in
theorem wX6_felled_2 {X : CX} {cy : Nat → ClassId} {q : Nat → Nat} {D : va_G} {A : Nat → Prop} {res : Int32 × OS} (a1_ : Int32) (C : Cx X cX6_felled RX6 3 D (gty cy) A 3 0 0) (hR : Rt X (some .int) D (gty cy) A 0 0 (eI (wX6 cy q res.2) res.1)) (kR2 : OS × Int32 → Int32 × OS) (kO2 : OS × Int32 → Prop) (hk2 : ∀ z, kO2 z → kR2 z = res → At X D A 3 0 0 2 [(0, .ref (q 41)), (1, .int a1_), (2, .int z.2)] [] (wX6 cy q z.1)) (v : OS × Int32) (ok : kX6_felled_2 a1_ kO2 v) (h : bX6_felled_2 a1_ kR2 v = res) : At X D A 3 0 0 2 [(0, .ref (q 41)), (1, .int a1_), (2, .int v.2)] [] (wX6 cy q v.1) := by
  unfold bX6_felled_2 at h
  unfold kX6_felled_2 at ok
  refine r_iload_n C 2 (dall tdX6_felled 2 rfl) rfl ?_
  refine r_aload_n C 0 (dall tdX6_felled 3 rfl) rfl ?_
  refine r_get C 0 kw_X6 rfl rfl (by decide) kf_X6_71 rfl rfl (dall tdX6_felled 4 rfl) ?_
  refine r_icmp_ge (tgt := 32) C (dall tdX6_felled 5 rfl) (by decide) (fun c1 => ?_) (fun c1 => ?_)
  · have h := (if_pos c1).symm.trans h
    have ok := ok.1 c1
    refine r_iconst (v := 1) C (dall tdX6_felled 20 rfl) (by decide) ?_
    refine r_aload_n C 0 (dall tdX6_felled 21 rfl) rfl ?_
    have o2 := ok
    refine r_vI (as := []) C (zX6_falls cy q v.1  o2) mv_X6_falls km_X6_107 (by decide) (by decide) ⟨Nat.le_refl _, Nat.le_refl _⟩ rfl rfl rfl rfl (Nat.le_of_ble_eq_true rfl) (dall tdX6_felled 22 rfl) ?_
    refine r_pick [] rfl ?_
    exact wX6_felled_37 ((fX6_falls v.1 ).2) ((fX6_falls v.1 ).1) 1 C hR  h
  · have h := (if_neg c1).symm.trans h
    have ok := ok.2 c1
    refine r_aload_n C 0 (dall tdX6_felled 6 rfl) rfl ?_
    refine r_get C 0 kw_X6 rfl rfl (by decide) kf_X6_32 rfl rfl (dall tdX6_felled 7 rfl) ?_
    refine r_iload_n C 2 (dall tdX6_felled 8 rfl) rfl ?_
    refine r_dup2_11 C (dall tdX6_felled 9 rfl) rfl rfl ?_
    obtain ⟨o3, ok⟩ := ok
    refine r_lald C 5 1 rfl rfl o3 (dall tdX6_felled 10 rfl) ?_
    refine r_lconst (v := 1) C (dall tdX6_felled 11 rfl) (by decide) ?_
    refine r_iload_n C 1 (dall tdX6_felled 12 rfl) rfl ?_
    refine r_lshl C (dall tdX6_felled 13 rfl) ?_
    refine r_ldc2 C kk_X6_105 (dall tdX6_felled 14 rfl) ?_
    refine r_lxor C (dall tdX6_felled 15 rfl) ?_
    refine r_land C (dall tdX6_felled 16 rfl) ?_
    obtain ⟨o4, ok⟩ := ok
    refine r_last C 5 1 rfl rfl o4 (pa_X6_this_11 cy q v.1 v.2.toNatClampNeg ((v.1.2.2.2 11 v.2.toNatClampNeg) &&& ((jshl 1 a1_) ^^^ (-1)))) (dall tdX6_felled 17 rfl) ?_
    refine r_iinc (v := v.2 + 1) (lv' := [(2, .int (v.2 + 1)), (0, .ref (q 41)), (1, .int a1_)]) C 2 (dall tdX6_felled 18 rfl) rfl rfl (by decide) rfl ?_
    refine r_goto (tgt := 2) C (dall tdX6_felled 19 rfl) (by decide) ?_
    refine r_pick [1, 2, 0] rfl ?_
    exact hk2 (oT v.1 11 v.2.toNatClampNeg ((v.1.2.2.2 11 v.2.toNatClampNeg) &&& ((jshl 1 a1_) ^^^ (-1))), v.2 + 1) ok h
set_option maxHeartbeats 4000000 in
set_option maxRecDepth 100000 in
theorem lX6_felled_2 {X : CX} {cy : Nat → ClassId} {q : Nat → Nat} {D : va_G} {A : Nat → Prop} {res : Int32 × OS} (a1_ : Int32) (C : Cx X cX6_felled RX6 3 D (gty cy) A 3 0 0) (hR : Rt X (some .int) D (gty cy) A 0 0 (eI (wX6 cy q res.2) res.1))  (n : Nat) (v : OS × Int32) (ok : lpOk (kX6_felled_2 a1_ ) n v) (h : lp (0, o0) (bX6_felled_2 a1_ ) n v = res) : At X D A 3 0 0 2 [(0, .ref (q 41)), (1, .int a1_), (2, .int v.2)] [] (wX6 cy q v.1) :=
  lp_rule (fun v rr_ => rr_ = res → At X D A 3 0 0 2 [(0, .ref (q 41)), (1, .int a1_), (2, .int v.2)] [] (wX6 cy q v.1)) (fun kR kO hk v ok h => wX6_felled_2 a1_ C hR  kR kO hk v ok h) n v ok h
def pX6_felled_0  (σ : OS) (a1_ : Int32) : Int32 × OS := lp (0, o0) (bX6_felled_2 a1_ ) fu (σ, 0)
def oX6_felled_0  (σ : OS) (a1_ : Int32) : Prop := lpOk (kX6_felled_2 a1_ ) fu (σ, 0)
set_option maxHeartbeats 4000000 in
set_option maxRecDepth 100000 in
theorem wX6_felled_0 {X : CX} {cy : Nat → ClassId} {q : Nat → Nat} {D : va_G} {A : Nat → Prop} {res : Int32 × OS} (σ : OS) (a1_ : Int32) (C : Cx X cX6_felled RX6 3 D (gty cy) A 3 0 0) (hR : Rt X (some .int) D (gty cy) A 0 0 (eI (wX6 cy q res.2) res.1))  (ok : oX6_felled_0  σ a1_) (h : pX6_felled_0  σ a1_ = res) : At X D A 3 0 0 0 [(0, .ref (q 41)), (1, .int a1_)] [] (wX6 cy q σ) := by
  unfold pX6_felled_0 at h
  unfold oX6_felled_0 at ok
  refine r_iconst (v := 0) C (dall tdX6_felled 0 rfl) (by decide) ?_
  refine r_istore_n (lv' := [(2, .int 0), (0, .ref (q 41)), (1, .int a1_)]) C (dall tdX6_felled 1 rfl) (by decide) rfl ?_
  refine r_pick [1, 2, 0] rfl ?_
  exact lX6_felled_2 a1_ C hR  fu _ ok h
def fX6_felled (σ : OS) (a1_ : Int32) : Int32 × OS := pX6_felled_0  σ a1_
def gX6_felled (σ : OS) (a1_ : Int32) : Prop := oX6_felled_0  σ a1_
set_option maxRecDepth 100000 in
theorem zX6_felled (cy : Nat → ClassId) (q : Nat → Nat)  {D : va_G} (σ : OS) (a1_ : Int32) (ok : gX6_felled σ a1_)  : Con yX6_felled cX6_felled 3 (some .int) 3 0 0 D (gty cy) [.ref (q 41), .int a1_] (wX6 cy q σ) (eI (wX6 cy q (fX6_felled σ a1_).2) (fX6_felled σ a1_).1) :=
  Con.of (own := RX6) (by decide +kernel) rfl (Nat.le_of_ble_eq_true rfl) (Nat.zero_le _) (fun X A C hR _ => (wX6_felled_0 σ a1_ C hR  ok rfl))
theorem mv_X6_felled : MV yX6_felled cX6_felled 3 (some .int) RX6 1 := ⟨ki_X6_felled, kv_X6_felled, kn_X6, kc_X6_felled, by decide +kernel⟩
def tbX6_fell : List (Nat × Instr × Nat) := [(0, .iload_n 1, 1), (1, .invokestatic 94, 3), (4, .ifCond .ne 6, 3), (7, .bipush (-2), 2), (9, .ireturn, 1), (10, .aload_n 0, 1), (11, .invokevirtual 80, 3), (14, .iload_n 1, 1), (15, .invokestatic 97, 3), (18, .ifCond .eq 11, 3), (21, .aload_n 0, 1), (22, .iload_n 1, 1), (23, .invokevirtual 380, 3), (26, .goto 5, 3), (29, .bipush (-3), 2), (31, .ireturn, 1)]
theorem tdX6_fell : tbX6_fell.all (fun q => decide (decode cX6_fell q.1 = .ok q.2)) = true := by decide +kernel
def pX6_fell_26  (σ : OS) (b0_ : Int32) : Int32 × OS := (b0_, σ)
set_option maxHeartbeats 4000000 in
set_option maxRecDepth 100000 in
theorem wX6_fell_26 {X : CX} {cy : Nat → ClassId} {q : Nat → Nat} {D : va_G} {A : Nat → Prop} {res : Int32 × OS} (σ : OS) (b0_ : Int32) (C : Cx X cX6_fell RX6 2 D (gty cy) A 4 0 0) (hR : Rt X (some .int) D (gty cy) A 0 0 (eI (wX6 cy q res.2) res.1))  (h : pX6_fell_26  σ b0_ = res) : At X D A 2 0 0 26 [] [.int b0_] (wX6 cy q σ) := by
  unfold pX6_fell_26 at h
  refine r_goto (tgt := 31) C (dall tdX6_fell 13 rfl) (by decide) ?_
  exact r_iret C hR (dall tdX6_fell 15 rfl) (by subst h; exact ⟨rfl, rfl⟩)
def pX6_fell_0  (σ : OS) (a1_ : Int32) : Int32 × OS := if (fX6_isCell a1_) = 0 then ((-2), σ) else if (fX6_has (fX6_putAll σ) a1_) = 0 then ((-3), σ) else pX6_fell_26  ((fX6_felled σ a1_).2) ((fX6_felled σ a1_).1)
def oX6_fell_0  (σ : OS) (a1_ : Int32) : Prop := (gX6_isCell a1_) ∧ (((fX6_isCell a1_) = 0 → True) ∧ (¬ ((fX6_isCell a1_) = 0) → (gX6_putAll σ ) ∧ (((fX6_has (fX6_putAll σ) a1_) = 0 → True) ∧ (¬ ((fX6_has (fX6_putAll σ) a1_) = 0) → gX6_felled σ a1_))))
set_option maxHeartbeats 4000000 in
set_option maxRecDepth 100000 in
theorem wX6_fell_0 {X : CX} {cy : Nat → ClassId} {q : Nat → Nat} {D : va_G} {A : Nat → Prop} {res : Int32 × OS} (σ : OS) (a1_ : Int32) (C : Cx X cX6_fell RX6 2 D (gty cy) A 4 0 0) (hR : Rt X (some .int) D (gty cy) A 0 0 (eI (wX6 cy q res.2) res.1))  (ok : oX6_fell_0  σ a1_) (h : pX6_fell_0  σ a1_ = res) : At X D A 2 0 0 0 [(0, .ref (q 41)), (1, .int a1_)] [] (wX6 cy q σ) := by
  unfold pX6_fell_0 at h
  unfold oX6_fell_0 at ok
  refine r_iload_n C 1 (dall tdX6_fell 0 rfl) rfl ?_
  obtain ⟨o1, ok⟩ := ok
  refine r_s0I (as := [.int a1_]) C (zX6_isCell a1_ o1) ms_X6_isCell km_X6_94 (by decide) (by decide) ⟨Nat.le_refl _, Nat.le_refl _⟩ rfl rfl (Nat.le_of_ble_eq_true rfl) (dall tdX6_fell 1 rfl) ?_
  refine r_if_ne (tgt := 10) C (dall tdX6_fell 2 rfl) (by decide) (fun c2 => ?_) (fun c2 => ?_)
  · have h := (if_neg c2).symm.trans h
    have ok := ok.2 c2
    refine r_aload_n C 0 (dall tdX6_fell 5 rfl) rfl ?_
    obtain ⟨o3, ok⟩ := ok
    refine r_vL (as := []) C (zX6_putAll cy q σ  o3) mv_X6_putAll km_X6_80 (by decide) (by decide) ⟨Nat.le_refl _, Nat.le_refl _⟩ rfl rfl rfl rfl (Nat.le_of_ble_eq_true rfl) (dall tdX6_fell 6 rfl) ?_
    refine r_iload_n C 1 (dall tdX6_fell 7 rfl) rfl ?_
    refine r_s0I (as := [.long (fX6_putAll σ), .int a1_]) C (zX6_has (fX6_putAll σ) a1_ ) ms_X6_has km_X6_97 (by decide) (by decide) ⟨Nat.le_refl _, Nat.le_refl _⟩ rfl rfl (Nat.le_of_ble_eq_true rfl) (dall tdX6_fell 8 rfl) ?_
    refine r_if_eq (tgt := 29) C (dall tdX6_fell 9 rfl) (by decide) (fun c4 => ?_) (fun c4 => ?_)
    · have h := (if_pos c4).symm.trans h
      have ok := ok.1 c4
      refine r_bipush (v := -3) C (dall tdX6_fell 14 rfl) (by decide) ?_
      exact r_iret C hR (dall tdX6_fell 15 rfl) (by subst h; exact ⟨rfl, rfl⟩)
    · have h := (if_neg c4).symm.trans h
      have ok := ok.2 c4
      refine r_aload_n C 0 (dall tdX6_fell 10 rfl) rfl ?_
      refine r_iload_n C 1 (dall tdX6_fell 11 rfl) rfl ?_
      have o5 := ok
      refine r_vI (as := [.int a1_]) C (zX6_felled cy q σ a1_ o5) mv_X6_felled km_X6_380 (by decide) (by decide) ⟨Nat.le_refl _, Nat.le_refl _⟩ rfl rfl rfl rfl (Nat.le_of_ble_eq_true rfl) (dall tdX6_fell 12 rfl) ?_
      refine r_pick [] rfl ?_
      exact wX6_fell_26 ((fX6_felled σ a1_).2) ((fX6_felled σ a1_).1) C hR  h
  · have h := (if_pos c2).symm.trans h
    have ok := ok.1 c2
    refine r_bipush (v := -2) C (dall tdX6_fell 3 rfl) (by decide) ?_
    exact r_iret C hR (dall tdX6_fell 4 rfl) (by subst h; exact ⟨rfl, rfl⟩)
def fX6_fell (σ : OS) (a1_ : Int32) : Int32 × OS := pX6_fell_0  σ a1_
def gX6_fell (σ : OS) (a1_ : Int32) : Prop := oX6_fell_0  σ a1_
set_option maxRecDepth 100000 in
theorem zX6_fell (cy : Nat → ClassId) (q : Nat → Nat)  {D : va_G} (σ : OS) (a1_ : Int32) (ok : gX6_fell σ a1_)  : Con yX6_fell cX6_fell 2 (some .int) 4 0 0 D (gty cy) [.ref (q 41), .int a1_] (wX6 cy q σ) (eI (wX6 cy q (fX6_fell σ a1_).2) (fX6_fell σ a1_).1) :=
  Con.of (own := RX6) (by decide +kernel) rfl (Nat.le_of_ble_eq_true rfl) (Nat.zero_le _) (fun X A C hR _ => (wX6_fell_0 σ a1_ C hR  ok rfl))
theorem mv_X6_fell : MV yX6_fell cX6_fell 2 (some .int) RX6 1 := ⟨ki_X6_fell, kv_X6_fell, kn_X6, kc_X6_fell, by decide +kernel⟩
def tbX6_raise : List (Nat × Instr × Nat) := [(0, .aload_n 0, 1), (1, .iload_n 1, 1), (2, .invokevirtual 90, 3), (5, .ifCond .eq 22, 3), (8, .iload_n 2, 1), (9, .i2l, 1), (10, .lconst 0, 1), (11, .ldc2_w 121, 3), (14, .invokestatic 74, 3), (17, .ifCond .eq 10, 3), (20, .iload_n 3, 1), (21, .invokestatic 94, 3), (24, .ifCond .ne 6, 3), (27, .bipush (-2), 2), (29, .ireturn, 1), (30, .iload_n 2, 1), (31, .iload_n 3, 1), (32, .invokestatic 391, 3), (35, .lstore 4, 2), (37, .lload 4, 2), (39, .aload_n 0, 1), (40, .invokevirtual 147, 3), (43, .invokestatic 395, 3), (46, .ifCond .ne 6, 3), (49, .bipush (-3), 2), (51, .ireturn, 1), (52, .aload_n 0, 1), (53, .getfield 32, 3), (56, .iload_n 1, 1), (57, .dup2, 1), (58, .laload, 1), (59, .lload 4, 2), (61, .lor, 1), (62, .lastore, 1), (63, .aload_n 0, 1), (64, .getfield 32, 3), (67, .iload_n 1, 1), (68, .laload, 1), (69, .invokestatic 138, 3), (72, .ireturn, 1)]
theorem tdX6_raise : tbX6_raise.all (fun q => decide (decode cX6_raise q.1 = .ok q.2)) = true := by decide +kernel
def pX6_raise_0  (σ : OS) (a1_ : Int32) (a2_ : Int32) (a3_ : Int32) : Int32 × OS := if (fX6_isOne σ a1_) = 0 then ((-2), σ) else if (fX6_in a2_.toInt64 0 (5)) = 0 then ((-2), σ) else if (fX6_isCell a3_) = 0 then ((-2), σ) else if (fX6_can (fX6_partAt a2_ a3_) (fX6_stands σ)) = 0 then ((-3), σ) else (fX6_bitsOf ((oT σ 11 a1_.toNatClampNeg ((σ.2.2.2 11 a1_.toNatClampNeg) ||| (fX6_partAt a2_ a3_))).2.2.2 11 a1_.toNatClampNeg), oT σ 11 a1_.toNatClampNeg ((σ.2.2.2 11 a1_.toNatClampNeg) ||| (fX6_partAt a2_ a3_)))
def oX6_raise_0  (σ : OS) (a1_ : Int32) (a2_ : Int32) (a3_ : Int32) : Prop := (gX6_isOne σ a1_) ∧ (((fX6_isOne σ a1_) = 0 → True) ∧ (¬ ((fX6_isOne σ a1_) = 0) → ((fX6_in a2_.toInt64 0 (5)) = 0 → True) ∧ (¬ ((fX6_in a2_.toInt64 0 (5)) = 0) → (gX6_isCell a3_) ∧ (((fX6_isCell a3_) = 0 → True) ∧ (¬ ((fX6_isCell a3_) = 0) → (gX6_stands σ ) ∧ (((fX6_can (fX6_partAt a2_ a3_) (fX6_stands σ)) = 0 → True) ∧ (¬ ((fX6_can (fX6_partAt a2_ a3_) (fX6_stands σ)) = 0) → (vp_in a1_ 5) ∧ ((vp_in a1_ 5) ∧ ((vp_in a1_ 5) ∧ (gX6_bitsOf ((oT σ 11 a1_.toNatClampNeg ((σ.2.2.2 11 a1_.toNatClampNeg) ||| (fX6_partAt a2_ a3_))).2.2.2 11 a1_.toNatClampNeg)))))))))))
set_option maxHeartbeats 4000000 in
set_option maxRecDepth 100000 in
theorem wX6_raise_0 {X : CX} {cy : Nat → ClassId} {q : Nat → Nat} {D : va_G} {A : Nat → Prop} {res : Int32 × OS} (σ : OS) (a1_ : Int32) (a2_ : Int32) (a3_ : Int32) (C : Cx X cX6_raise RX6 6 D (gty cy) A 2 0 0) (hR : Rt X (some .int) D (gty cy) A 0 0 (eI (wX6 cy q res.2) res.1))  (ok : oX6_raise_0  σ a1_ a2_ a3_) (h : pX6_raise_0  σ a1_ a2_ a3_ = res) : At X D A 6 0 0 0 [(0, .ref (q 41)), (1, .int a1_), (2, .int a2_), (3, .int a3_)] [] (wX6 cy q σ) := by
  unfold pX6_raise_0 at h
  unfold oX6_raise_0 at ok
  refine r_aload_n C 0 (dall tdX6_raise 0 rfl) rfl ?_
  refine r_iload_n C 1 (dall tdX6_raise 1 rfl) rfl ?_
  obtain ⟨o1, ok⟩ := ok
  refine r_vI (as := [.int a1_]) C (zX6_isOne cy q σ a1_ o1) mv_X6_isOne km_X6_90 (by decide) (by decide) ⟨Nat.le_refl _, Nat.le_refl _⟩ rfl rfl rfl rfl (Nat.le_of_ble_eq_true rfl) (dall tdX6_raise 2 rfl) ?_
  refine r_if_eq (tgt := 27) C (dall tdX6_raise 3 rfl) (by decide) (fun c2 => ?_) (fun c2 => ?_)
  · have h := (if_pos c2).symm.trans h
    have ok := ok.1 c2
    refine r_bipush (v := -2) C (dall tdX6_raise 13 rfl) (by decide) ?_
    exact r_iret C hR (dall tdX6_raise 14 rfl) (by subst h; exact ⟨rfl, rfl⟩)
  · have h := (if_neg c2).symm.trans h
    have ok := ok.2 c2
    refine r_iload_n C 2 (dall tdX6_raise 4 rfl) rfl ?_
    refine r_i2l C (dall tdX6_raise 5 rfl) ?_
    refine r_lconst (v := 0) C (dall tdX6_raise 6 rfl) (by decide) ?_
    refine r_ldc2 C kk_X6_121 (dall tdX6_raise 7 rfl) ?_
    refine r_s0I (as := [.long a2_.toInt64, .long 0, .long (5)]) C (zX6_in a2_.toInt64 0 (5) ) ms_X6_in km_X6_74 (by decide) (by decide) ⟨Nat.le_refl _, Nat.le_refl _⟩ rfl rfl (Nat.le_of_ble_eq_true rfl) (dall tdX6_raise 8 rfl) ?_
    refine r_if_eq (tgt := 27) C (dall tdX6_raise 9 rfl) (by decide) (fun c3 => ?_) (fun c3 => ?_)
    · have h := (if_pos c3).symm.trans h
      have ok := ok.1 c3
      refine r_bipush (v := -2) C (dall tdX6_raise 13 rfl) (by decide) ?_
      exact r_iret C hR (dall tdX6_raise 14 rfl) (by subst h; exact ⟨rfl, rfl⟩)
    · have h := (if_neg c3).symm.trans h
      have ok := ok.2 c3
      refine r_iload_n C 3 (dall tdX6_raise 10 rfl) rfl ?_
      obtain ⟨o4, ok⟩ := ok
      refine r_s0I (as := [.int a3_]) C (zX6_isCell a3_ o4) ms_X6_isCell km_X6_94 (by decide) (by decide) ⟨Nat.le_refl _, Nat.le_refl _⟩ rfl rfl (Nat.le_of_ble_eq_true rfl) (dall tdX6_raise 11 rfl) ?_
      refine r_if_ne (tgt := 30) C (dall tdX6_raise 12 rfl) (by decide) (fun c5 => ?_) (fun c5 => ?_)
      · have h := (if_neg c5).symm.trans h
        have ok := ok.2 c5
        refine r_iload_n C 2 (dall tdX6_raise 15 rfl) rfl ?_
        refine r_iload_n C 3 (dall tdX6_raise 16 rfl) rfl ?_
        refine r_s0L (as := [.int a2_, .int a3_]) C (zX6_partAt a2_ a3_ ) ms_X6_partAt km_X6_391 (by decide) (by decide) ⟨Nat.le_refl _, Nat.le_refl _⟩ rfl rfl (Nat.le_of_ble_eq_true rfl) (dall tdX6_raise 17 rfl) ?_
        refine r_lstore (lv' := [(4, .long (fX6_partAt a2_ a3_)), (0, .ref (q 41)), (1, .int a1_), (2, .int a2_), (3, .int a3_)]) C (dall tdX6_raise 18 rfl) (by decide) rfl ?_
        refine r_lload C 0 (dall tdX6_raise 19 rfl) rfl ?_
        refine r_aload_n C 1 (dall tdX6_raise 20 rfl) rfl ?_
        obtain ⟨o6, ok⟩ := ok
        refine r_vL (as := []) C (zX6_stands cy q σ  o6) mv_X6_stands km_X6_147 (by decide) (by decide) ⟨Nat.le_refl _, Nat.le_refl _⟩ rfl rfl rfl rfl (Nat.le_of_ble_eq_true rfl) (dall tdX6_raise 21 rfl) ?_
        refine r_s0I (as := [.long (fX6_partAt a2_ a3_), .long (fX6_stands σ)]) C (zX6_can (fX6_partAt a2_ a3_) (fX6_stands σ) ) ms_X6_can km_X6_395 (by decide) (by decide) ⟨Nat.le_refl _, Nat.le_refl _⟩ rfl rfl (Nat.le_of_ble_eq_true rfl) (dall tdX6_raise 22 rfl) ?_
        refine r_if_ne (tgt := 52) C (dall tdX6_raise 23 rfl) (by decide) (fun c7 => ?_) (fun c7 => ?_)
        · have h := (if_neg c7).symm.trans h
          have ok := ok.2 c7
          refine r_aload_n C 1 (dall tdX6_raise 26 rfl) rfl ?_
          refine r_get C 0 kw_X6 rfl rfl (by decide) kf_X6_32 rfl rfl (dall tdX6_raise 27 rfl) ?_
          refine r_iload_n C 2 (dall tdX6_raise 28 rfl) rfl ?_
          refine r_dup2_11 C (dall tdX6_raise 29 rfl) rfl rfl ?_
          obtain ⟨o8, ok⟩ := ok
          refine r_lald C 5 1 rfl rfl o8 (dall tdX6_raise 30 rfl) ?_
          refine r_lload C 0 (dall tdX6_raise 31 rfl) rfl ?_
          refine r_lor C (dall tdX6_raise 32 rfl) ?_
          obtain ⟨o9, ok⟩ := ok
          refine r_last C 5 1 rfl rfl o9 (pa_X6_this_11 cy q σ a1_.toNatClampNeg ((σ.2.2.2 11 a1_.toNatClampNeg) ||| (fX6_partAt a2_ a3_))) (dall tdX6_raise 33 rfl) ?_
          refine r_aload_n C 1 (dall tdX6_raise 34 rfl) rfl ?_
          refine r_get C 0 kw_X6 rfl rfl (by decide) kf_X6_32 rfl rfl (dall tdX6_raise 35 rfl) ?_
          refine r_iload_n C 2 (dall tdX6_raise 36 rfl) rfl ?_
          obtain ⟨o10, ok⟩ := ok
          refine r_lald C 5 1 rfl rfl o10 (dall tdX6_raise 37 rfl) ?_
          have o11 := ok
          refine r_s0I (as := [.long ((oT σ 11 a1_.toNatClampNeg ((σ.2.2.2 11 a1_.toNatClampNeg) ||| (fX6_partAt a2_ a3_))).2.2.2 11 a1_.toNatClampNeg)]) C (zX6_bitsOf ((oT σ 11 a1_.toNatClampNeg ((σ.2.2.2 11 a1_.toNatClampNeg) ||| (fX6_partAt a2_ a3_))).2.2.2 11 a1_.toNatClampNeg) o11) ms_X6_bitsOf km_X6_138 (by decide) (by decide) ⟨Nat.le_refl _, Nat.le_refl _⟩ rfl rfl (Nat.le_of_ble_eq_true rfl) (dall tdX6_raise 38 rfl) ?_
          exact r_iret C hR (dall tdX6_raise 39 rfl) (by subst h; exact ⟨rfl, rfl⟩)
        · have h := (if_pos c7).symm.trans h
          have ok := ok.1 c7
          refine r_bipush (v := -3) C (dall tdX6_raise 24 rfl) (by decide) ?_
          exact r_iret C hR (dall tdX6_raise 25 rfl) (by subst h; exact ⟨rfl, rfl⟩)
      · have h := (if_pos c5).symm.trans h
        have ok := ok.1 c5
        refine r_bipush (v := -2) C (dall tdX6_raise 13 rfl) (by decide) ?_
        exact r_iret C hR (dall tdX6_raise 14 rfl) (by subst h; exact ⟨rfl, rfl⟩)
def fX6_raise (σ : OS) (a1_ : Int32) (a2_ : Int32) (a3_ : Int32) : Int32 × OS := pX6_raise_0  σ a1_ a2_ a3_
def gX6_raise (σ : OS) (a1_ : Int32) (a2_ : Int32) (a3_ : Int32) : Prop := oX6_raise_0  σ a1_ a2_ a3_
set_option maxRecDepth 100000 in
theorem zX6_raise (cy : Nat → ClassId) (q : Nat → Nat)  {D : va_G} (σ : OS) (a1_ : Int32) (a2_ : Int32) (a3_ : Int32) (ok : gX6_raise σ a1_ a2_ a3_)  : Con yX6_raise cX6_raise 6 (some .int) 2 0 0 D (gty cy) [.ref (q 41), .int a1_, .int a2_, .int a3_] (wX6 cy q σ) (eI (wX6 cy q (fX6_raise σ a1_ a2_ a3_).2) (fX6_raise σ a1_ a2_ a3_).1) :=
  Con.of (own := RX6) (by decide +kernel) rfl (Nat.le_of_ble_eq_true rfl) (Nat.zero_le _) (fun X A C hR _ => (wX6_raise_0 σ a1_ a2_ a3_ C hR  ok rfl))
theorem mv_X6_raise : MV yX6_raise cX6_raise 6 (some .int) RX6 3 := ⟨ki_X6_raise, kv_X6_raise, kn_X6, kc_X6_raise, by decide +kernel⟩
def tbX6_room : List (Nat × Instr × Nat) := [(0, .iload_n 1, 1), (1, .i2l, 1), (2, .lconst 0, 1), (3, .ldc2_w 121, 3), (6, .invokestatic 74, 3), (9, .ifCond .ne 7, 3), (12, .ldc2_w 145, 3), (15, .lreturn, 1), (16, .aload_n 0, 1), (17, .invokevirtual 147, 3), (20, .lstore_n 2, 1), (21, .lconst 0, 1), (22, .lstore 4, 2), (24, .iconst 0, 1), (25, .istore 6, 2), (27, .iload 6, 2), (29, .bipush 64, 2), (31, .if_icmp .ge 35, 3), (34, .lload 4, 2), (36, .iload_n 1, 1), (37, .iload 6, 2), (39, .invokestatic 391, 3), (42, .lload_n 2, 1), (43, .invokestatic 395, 3), (46, .ifCond .eq 10, 3), (49, .lconst 1, 1), (50, .iload 6, 2), (52, .lshl, 1), (53, .goto 4, 3), (56, .lconst 0, 1), (57, .lor, 1), (58, .lstore 4, 2), (60, .iinc 6 1, 3), (63, .goto (-36), 3), (66, .lload 4, 2), (68, .lreturn, 1)]
theorem tdX6_room : tbX6_room.all (fun q => decide (decode cX6_room q.1 = .ok q.2)) = true := by decide +kernel
def pX6_room_57 (kR27 : Int64 × Int32 → Int64) (σ : OS) (a1_ : Int32) (a2_ : Int64) (a6_ : Int32) (b0_ : Int64) (b1_ : Int64) : Int64 := kR27 (b1_ ||| b0_, a6_ + 1)
def oX6_room_57 (kO27 : Int64 × Int32 → Prop) (σ : OS) (a1_ : Int32) (a2_ : Int64) (a6_ : Int32) (b0_ : Int64) (b1_ : Int64) : Prop := kO27 (b1_ ||| b0_, a6_ + 1)
set_option maxHeartbeats 4000000 in
set_option maxRecDepth 100000 in
theorem wX6_room_57 {X : CX} {cy : Nat → ClassId} {q : Nat → Nat} {D : va_G} {A : Nat → Prop} {res : Int64} (σ : OS) (a1_ : Int32) (a2_ : Int64) (a6_ : Int32) (b0_ : Int64) (b1_ : Int64) (C : Cx X cX6_room RX6 7 D (gty cy) A 2 0 0) (hR : Rt X (some .long) D (gty cy) A 0 0 (eL (wX6 cy q σ) res)) (kR27 : Int64 × Int32 → Int64) (kO27 : Int64 × Int32 → Prop) (hk27 : ∀ z, kO27 z → kR27 z = res → At X D A 7 0 0 27 [(1, .int a1_), (2, .long a2_), (4, .long z.1), (6, .int z.2)] [] (wX6 cy q σ)) (ok : oX6_room_57 kO27 σ a1_ a2_ a6_ b0_ b1_) (h : pX6_room_57 kR27 σ a1_ a2_ a6_ b0_ b1_ = res) : At X D A 7 0 0 57 [(1, .int a1_), (2, .long a2_), (6, .int a6_)] [.long b0_, .long b1_] (wX6 cy q σ) := by
  unfold pX6_room_57 at h
  unfold oX6_room_57 at ok
  refine r_lor C (dall tdX6_room 30 rfl) ?_
  refine r_lstore (lv' := [(4, .long (b1_ ||| b0_)), (1, .int a1_), (2, .long a2_), (6, .int a6_)]) C (dall tdX6_room 31 rfl) (by decide) rfl ?_
  refine r_iinc (v := a6_ + 1) (lv' := [(6, .int (a6_ + 1)), (4, .long (b1_ ||| b0_)), (1, .int a1_), (2, .long a2_)]) C 3 (dall tdX6_room 32 rfl) rfl rfl (by decide) rfl ?_
  refine r_goto (tgt := 27) C (dall tdX6_room 33 rfl) (by decide) ?_
  refine r_pick [2, 3, 1, 0] rfl ?_
  exact hk27 (b1_ ||| b0_, a6_ + 1) ok h
def bX6_room_27 (σ : OS) (a1_ : Int32) (a2_ : Int64)  (kR27 : Int64 × Int32 → Int64) (v : Int64 × Int32) : Int64 := if 64 ≤ v.2 then v.1 else if (fX6_can (fX6_partAt a1_ v.2) a2_) = 0 then pX6_room_57 kR27 σ a1_ a2_ v.2 0 v.1 else pX6_room_57 kR27 σ a1_ a2_ v.2 (jshl 1 v.2) v.1
def kX6_room_27 (σ : OS) (a1_ : Int32) (a2_ : Int64)  (kO27 : Int64 × Int32 → Prop) (v : Int64 × Int32) : Prop := (64 ≤ v.2 → True) ∧ (¬ (64 ≤ v.2) → ((fX6_can (fX6_partAt a1_ v.2) a2_) = 0 → oX6_room_57 kO27 σ a1_ a2_ v.2 0 v.1) ∧ (¬ ((fX6_can (fX6_partAt a1_ v.2) a2_) = 0) → oX6_room_57 kO27 σ a1_ a2_ v.2 (jshl 1 v.2) v.1))
set_option maxHeartbeats 4000000 in
set_option maxRecDepth 100000 in
theorem wX6_room_27 {X : CX} {cy : Nat → ClassId} {q : Nat → Nat} {D : va_G} {A : Nat → Prop} {res : Int64} (σ : OS) (a1_ : Int32) (a2_ : Int64) (C : Cx X cX6_room RX6 7 D (gty cy) A 2 0 0) (hR : Rt X (some .long) D (gty cy) A 0 0 (eL (wX6 cy q σ) res)) (kR27 : Int64 × Int32 → Int64) (kO27 : Int64 × Int32 → Prop) (hk27 : ∀ z, kO27 z → kR27 z = res → At X D A 7 0 0 27 [(1, .int a1_), (2, .long a2_), (4, .long z.1), (6, .int z.2)] [] (wX6 cy q σ)) (v : Int64 × Int32) (ok : kX6_room_27 σ a1_ a2_ kO27 v) (h : bX6_room_27 σ a1_ a2_ kR27 v = res) : At X D A 7 0 0 27 [(1, .int a1_), (2, .long a2_), (4, .long v.1), (6, .int v.2)] [] (wX6 cy q σ) := by
  unfold bX6_room_27 at h
  unfold kX6_room_27 at ok
  refine r_iload C 3 (dall tdX6_room 15 rfl) rfl ?_
  refine r_bipush (v := 64) C (dall tdX6_room 16 rfl) (by decide) ?_
  refine r_icmp_ge (tgt := 66) C (dall tdX6_room 17 rfl) (by decide) (fun c1 => ?_) (fun c1 => ?_)
  · have h := (if_pos c1).symm.trans h
    have ok := ok.1 c1
    refine r_lload C 2 (dall tdX6_room 34 rfl) rfl ?_
    exact r_lret C hR (dall tdX6_room 35 rfl) (by subst h; exact ⟨rfl, rfl⟩)
  · have h := (if_neg c1).symm.trans h
    have ok := ok.2 c1
    refine r_lload C 2 (dall tdX6_room 18 rfl) rfl ?_
    refine r_iload_n C 0 (dall tdX6_room 19 rfl) rfl ?_
    refine r_iload C 3 (dall tdX6_room 20 rfl) rfl ?_
    refine r_s0L (as := [.int a1_, .int v.2]) C (zX6_partAt a1_ v.2 ) ms_X6_partAt km_X6_391 (by decide) (by decide) ⟨Nat.le_refl _, Nat.le_refl _⟩ rfl rfl (Nat.le_of_ble_eq_true rfl) (dall tdX6_room 21 rfl) ?_
    refine r_lload_n C 1 (dall tdX6_room 22 rfl) rfl ?_
    refine r_s0I (as := [.long (fX6_partAt a1_ v.2), .long a2_]) C (zX6_can (fX6_partAt a1_ v.2) a2_ ) ms_X6_can km_X6_395 (by decide) (by decide) ⟨Nat.le_refl _, Nat.le_refl _⟩ rfl rfl (Nat.le_of_ble_eq_true rfl) (dall tdX6_room 23 rfl) ?_
    refine r_if_eq (tgt := 56) C (dall tdX6_room 24 rfl) (by decide) (fun c2 => ?_) (fun c2 => ?_)
    · have h := (if_pos c2).symm.trans h
      have ok := ok.1 c2
      refine r_lconst (v := 0) C (dall tdX6_room 29 rfl) (by decide) ?_
      refine r_pick [0, 1, 3] rfl ?_
      exact wX6_room_57 σ a1_ a2_ v.2 0 v.1 C hR kR27 kO27 hk27 ok h
    · have h := (if_neg c2).symm.trans h
      have ok := ok.2 c2
      refine r_lconst (v := 1) C (dall tdX6_room 25 rfl) (by decide) ?_
      refine r_iload C 3 (dall tdX6_room 26 rfl) rfl ?_
      refine r_lshl C (dall tdX6_room 27 rfl) ?_
      refine r_goto (tgt := 57) C (dall tdX6_room 28 rfl) (by decide) ?_
      refine r_pick [0, 1, 3] rfl ?_
      exact wX6_room_57 σ a1_ a2_ v.2 (jshl 1 v.2) v.1 C hR kR27 kO27 hk27 ok h
set_option maxHeartbeats 4000000 in
set_option maxRecDepth 100000 in
theorem lX6_room_27 {X : CX} {cy : Nat → ClassId} {q : Nat → Nat} {D : va_G} {A : Nat → Prop} {res : Int64} (σ : OS) (a1_ : Int32) (a2_ : Int64) (C : Cx X cX6_room RX6 7 D (gty cy) A 2 0 0) (hR : Rt X (some .long) D (gty cy) A 0 0 (eL (wX6 cy q σ) res))  (n : Nat) (v : Int64 × Int32) (ok : lpOk (kX6_room_27 σ a1_ a2_ ) n v) (h : lp 0 (bX6_room_27 σ a1_ a2_ ) n v = res) : At X D A 7 0 0 27 [(1, .int a1_), (2, .long a2_), (4, .long v.1), (6, .int v.2)] [] (wX6 cy q σ) :=
  lp_rule (fun v rr_ => rr_ = res → At X D A 7 0 0 27 [(1, .int a1_), (2, .long a2_), (4, .long v.1), (6, .int v.2)] [] (wX6 cy q σ)) (fun kR kO hk v ok h => wX6_room_27 σ a1_ a2_ C hR  kR kO hk v ok h) n v ok h
def pX6_room_0  (σ : OS) (a1_ : Int32) : Int64 := if (fX6_in a1_.toInt64 0 (5)) = 0 then (-4611686018427387904) else lp 0 (bX6_room_27 σ a1_ (fX6_stands σ) ) fu (0, 0)
def oX6_room_0  (σ : OS) (a1_ : Int32) : Prop := ((fX6_in a1_.toInt64 0 (5)) = 0 → True) ∧ (¬ ((fX6_in a1_.toInt64 0 (5)) = 0) → (gX6_stands σ ) ∧ (lpOk (kX6_room_27 σ a1_ (fX6_stands σ) ) fu (0, 0)))
set_option maxHeartbeats 4000000 in
set_option maxRecDepth 100000 in
theorem wX6_room_0 {X : CX} {cy : Nat → ClassId} {q : Nat → Nat} {D : va_G} {A : Nat → Prop} {res : Int64} (σ : OS) (a1_ : Int32) (C : Cx X cX6_room RX6 7 D (gty cy) A 2 0 0) (hR : Rt X (some .long) D (gty cy) A 0 0 (eL (wX6 cy q σ) res))  (ok : oX6_room_0  σ a1_) (h : pX6_room_0  σ a1_ = res) : At X D A 7 0 0 0 [(0, .ref (q 41)), (1, .int a1_)] [] (wX6 cy q σ) := by
  unfold pX6_room_0 at h
  unfold oX6_room_0 at ok
  refine r_iload_n C 1 (dall tdX6_room 0 rfl) rfl ?_
  refine r_i2l C (dall tdX6_room 1 rfl) ?_
  refine r_lconst (v := 0) C (dall tdX6_room 2 rfl) (by decide) ?_
  refine r_ldc2 C kk_X6_121 (dall tdX6_room 3 rfl) ?_
  refine r_s0I (as := [.long a1_.toInt64, .long 0, .long (5)]) C (zX6_in a1_.toInt64 0 (5) ) ms_X6_in km_X6_74 (by decide) (by decide) ⟨Nat.le_refl _, Nat.le_refl _⟩ rfl rfl (Nat.le_of_ble_eq_true rfl) (dall tdX6_room 4 rfl) ?_
  refine r_if_ne (tgt := 16) C (dall tdX6_room 5 rfl) (by decide) (fun c3 => ?_) (fun c3 => ?_)
  · have h := (if_neg c3).symm.trans h
    have ok := ok.2 c3
    refine r_aload_n C 0 (dall tdX6_room 8 rfl) rfl ?_
    obtain ⟨o4, ok⟩ := ok
    refine r_vL (as := []) C (zX6_stands cy q σ  o4) mv_X6_stands km_X6_147 (by decide) (by decide) ⟨Nat.le_refl _, Nat.le_refl _⟩ rfl rfl rfl rfl (Nat.le_of_ble_eq_true rfl) (dall tdX6_room 9 rfl) ?_
    refine r_lstore_n (lv' := [(2, .long (fX6_stands σ)), (0, .ref (q 41)), (1, .int a1_)]) C (dall tdX6_room 10 rfl) (by decide) rfl ?_
    refine r_lconst (v := 0) C (dall tdX6_room 11 rfl) (by decide) ?_
    refine r_lstore (lv' := [(4, .long 0), (2, .long (fX6_stands σ)), (0, .ref (q 41)), (1, .int a1_)]) C (dall tdX6_room 12 rfl) (by decide) rfl ?_
    refine r_iconst (v := 0) C (dall tdX6_room 13 rfl) (by decide) ?_
    refine r_istore (lv' := [(6, .int 0), (4, .long 0), (2, .long (fX6_stands σ)), (0, .ref (q 41)), (1, .int a1_)]) C (dall tdX6_room 14 rfl) (by decide) rfl ?_
    refine r_pick [4, 2, 1, 0] rfl ?_
    exact lX6_room_27 σ a1_ (fX6_stands σ) C hR  fu _ ok h
  · have h := (if_pos c3).symm.trans h
    have ok := ok.1 c3
    refine r_ldc2 C kk_X6_145 (dall tdX6_room 6 rfl) ?_
    exact r_lret C hR (dall tdX6_room 7 rfl) (by subst h; exact ⟨rfl, rfl⟩)
def fX6_room (σ : OS) (a1_ : Int32) : Int64 := pX6_room_0  σ a1_
def gX6_room (σ : OS) (a1_ : Int32) : Prop := oX6_room_0  σ a1_
set_option maxRecDepth 100000 in
theorem zX6_room (cy : Nat → ClassId) (q : Nat → Nat)  {D : va_G} (σ : OS) (a1_ : Int32) (ok : gX6_room σ a1_)  : Con yX6_room cX6_room 7 (some .long) 2 0 0 D (gty cy) [.ref (q 41), .int a1_] (wX6 cy q σ) (eL (wX6 cy q σ) (fX6_room σ a1_)) :=
  Con.of (own := RX6) (by decide +kernel) rfl (Nat.le_of_ble_eq_true rfl) (Nat.zero_le _) (fun X A C hR _ => (wX6_room_0 σ a1_ C hR  ok rfl))
theorem mv_X6_room : MV yX6_room cX6_room 7 (some .long) RX6 1 := ⟨ki_X6_room, kv_X6_room, kn_X6, kc_X6_room, by decide +kernel⟩
def tbX6_passes : List (Nat × Instr × Nat) := [(0, .iconst 0, 1), (1, .istore_n 1, 1), (2, .iconst 0, 1), (3, .istore_n 2, 1), (4, .iload_n 2, 1), (5, .aload_n 0, 1), (6, .getfield 71, 3), (9, .if_icmp .ge 104, 3), (12, .aload_n 0, 1), (13, .iload_n 2, 1), (14, .invokevirtual 132, 3), (17, .istore_n 3, 1), (18, .aload_n 0, 1), (19, .iload_n 2, 1), (20, .invokevirtual 135, 3), (23, .istore 4, 2), (25, .aload_n 0, 1), (26, .getfield 29, 3), (29, .iconst 3, 1), (30, .iload_n 2, 1), (31, .imul, 1), (32, .iconst 1, 1), (33, .iadd, 1), (34, .aload_n 0, 1), (35, .getfield 29, 3), (38, .iconst 3, 1), (39, .iload_n 2, 1), (40, .imul, 1), (41, .iconst 1, 1), (42, .iadd, 1), (43, .iaload, 1), (44, .iload_n 3, 1), (45, .isub, 1), (46, .iconst 0, 1), (47, .bipush 99, 2), (49, .invokestatic 361, 3), (52, .iastore, 1), (53, .aload_n 0, 1), (54, .aload_n 0, 1), (55, .getfield 358, 3), (58, .iload 4, 2), (60, .iadd, 1), (61, .iconst 0, 1), (62, .ldc_w 399, 3), (65, .invokestatic 361, 3), (68, .putfield 358, 3), (71, .aload_n 0, 1), (72, .getfield 32, 3), (75, .iload_n 2, 1), (76, .laload, 1), (77, .invokestatic 138, 3), (80, .aload_n 0, 1), (81, .iload_n 2, 1), (82, .invokevirtual 129, 3), (85, .if_icmp .le 22, 3), (88, .iload_n 1, 1), (89, .aload_n 0, 1), (90, .aload_n 0, 1), (91, .getfield 32, 3), (94, .iload_n 2, 1), (95, .laload, 1), (96, .invokestatic 355, 3), (99, .invokevirtual 380, 3), (102, .iadd, 1), (103, .istore_n 1, 1), (104, .goto (-33), 3), (107, .iinc 2 1, 3), (110, .goto (-106), 3), (113, .aload_n 0, 1), (114, .dup, 1), (115, .getfield 115, 3), (118, .iconst 1, 1), (119, .iadd, 1), (120, .putfield 115, 3), (123, .iload_n 1, 1), (124, .ireturn, 1)]
theorem tdX6_passes : tbX6_passes.all (fun q => decide (decode cX6_passes q.1 = .ok q.2)) = true := by decide +kernel
def pX6_passes_102 (kR4 : OS × Int32 × Int32 → Int32 × OS) (kR71 : OS × Int32 → Int32 × OS) (σ : OS) (a2_ : Int32) (b0_ : Int32) (b1_ : Int32) : Int32 × OS := kR71 (σ, b1_ + b0_)
def oX6_passes_102 (kO4 : OS × Int32 × Int32 → Prop) (kO71 : OS × Int32 → Prop) (σ : OS) (a2_ : Int32) (b0_ : Int32) (b1_ : Int32) : Prop := kO71 (σ, b1_ + b0_)
set_option maxHeartbeats 4000000 in
set_option maxRecDepth 100000 in
theorem wX6_passes_102 {X : CX} {cy : Nat → ClassId} {q : Nat → Nat} {D : va_G} {A : Nat → Prop} {res : Int32 × OS} (σ : OS) (a2_ : Int32) (b0_ : Int32) (b1_ : Int32) (C : Cx X cX6_passes RX6 5 D (gty cy) A 44 0 0) (hR : Rt X (some .int) D (gty cy) A 0 0 (eI (wX6 cy q res.2) res.1)) (kR4 : OS × Int32 × Int32 → Int32 × OS) (kO4 : OS × Int32 × Int32 → Prop) (hk4 : ∀ z, kO4 z → kR4 z = res → At X D A 5 0 0 4 [(0, .ref (q 41)), (1, .int z.2.1), (2, .int z.2.2)] [] (wX6 cy q z.1)) (kR71 : OS × Int32 → Int32 × OS) (kO71 : OS × Int32 → Prop) (hk71 : ∀ z, kO71 z → kR71 z = res → At X D A 5 0 0 71 [(0, .ref (q 41)), (1, .int z.2), (2, .int a2_)] [] (wX6 cy q z.1)) (ok : oX6_passes_102 kO4 kO71 σ a2_ b0_ b1_) (h : pX6_passes_102 kR4 kR71 σ a2_ b0_ b1_ = res) : At X D A 5 0 0 102 [(0, .ref (q 41)), (2, .int a2_)] [.int b0_, .int b1_] (wX6 cy q σ) := by
  unfold pX6_passes_102 at h
  unfold oX6_passes_102 at ok
  refine r_iadd C (dall tdX6_passes 63 rfl) ?_
  refine r_istore_n (lv' := [(1, .int (b1_ + b0_)), (0, .ref (q 41)), (2, .int a2_)]) C (dall tdX6_passes 64 rfl) (by decide) rfl ?_
  refine r_goto (tgt := 71) C (dall tdX6_passes 65 rfl) (by decide) ?_
  refine r_pick [1, 0, 2] rfl ?_
  exact hk71 (σ, b1_ + b0_) ok h
def pX6_passes_85 (kR4 : OS × Int32 × Int32 → Int32 × OS) (kR71 : OS × Int32 → Int32 × OS) (σ : OS) (a1_ : Int32) (a2_ : Int32) (b0_ : Int32) (b1_ : Int32) : Int32 × OS := if b1_ ≤ b0_ then kR4 (σ, a1_, a2_ + 1) else pX6_passes_102 kR4 kR71 ((fX6_felled σ (fX6_greatest (σ.2.2.2 11 a2_.toNatClampNeg))).2) a2_ ((fX6_felled σ (fX6_greatest (σ.2.2.2 11 a2_.toNatClampNeg))).1) a1_
def oX6_passes_85 (kO4 : OS × Int32 × Int32 → Prop) (kO71 : OS × Int32 → Prop) (σ : OS) (a1_ : Int32) (a2_ : Int32) (b0_ : Int32) (b1_ : Int32) : Prop := (b1_ ≤ b0_ → kO4 (σ, a1_, a2_ + 1)) ∧ (¬ (b1_ ≤ b0_) → (vp_in a2_ 5) ∧ ((gX6_greatest (σ.2.2.2 11 a2_.toNatClampNeg)) ∧ ((gX6_felled σ (fX6_greatest (σ.2.2.2 11 a2_.toNatClampNeg))) ∧ (oX6_passes_102 kO4 kO71 ((fX6_felled σ (fX6_greatest (σ.2.2.2 11 a2_.toNatClampNeg))).2) a2_ ((fX6_felled σ (fX6_greatest (σ.2.2.2 11 a2_.toNatClampNeg))).1) a1_))))
set_option maxHeartbeats 4000000 in
set_option maxRecDepth 100000 in
theorem wX6_passes_85 {X : CX} {cy : Nat → ClassId} {q : Nat → Nat} {D : va_G} {A : Nat → Prop} {res : Int32 × OS} (σ : OS) (a1_ : Int32) (a2_ : Int32) (b0_ : Int32) (b1_ : Int32) (C : Cx X cX6_passes RX6 5 D (gty cy) A 44 0 0) (hR : Rt X (some .int) D (gty cy) A 0 0 (eI (wX6 cy q res.2) res.1)) (kR4 : OS × Int32 × Int32 → Int32 × OS) (kO4 : OS × Int32 × Int32 → Prop) (hk4 : ∀ z, kO4 z → kR4 z = res → At X D A 5 0 0 4 [(0, .ref (q 41)), (1, .int z.2.1), (2, .int z.2.2)] [] (wX6 cy q z.1)) (kR71 : OS × Int32 → Int32 × OS) (kO71 : OS × Int32 → Prop) (hk71 : ∀ z, kO71 z → kR71 z = res → At X D A 5 0 0 71 [(0, .ref (q 41)), (1, .int z.2), (2, .int a2_)] [] (wX6 cy q z.1)) (ok : oX6_passes_85 kO4 kO71 σ a1_ a2_ b0_ b1_) (h : pX6_passes_85 kR4 kR71 σ a1_ a2_ b0_ b1_ = res) : At X D A 5 0 0 85 [(0, .ref (q 41)), (1, .int a1_), (2, .int a2_)] [.int b0_, .int b1_] (wX6 cy q σ) := by
  unfold pX6_passes_85 at h
  unfold oX6_passes_85 at ok
  refine r_icmp_le (tgt := 107) C (dall tdX6_passes 54 rfl) (by decide) (fun c1 => ?_) (fun c1 => ?_)
  · have h := (if_pos c1).symm.trans h
    have ok := ok.1 c1
    refine r_iinc (v := a2_ + 1) (lv' := [(2, .int (a2_ + 1)), (0, .ref (q 41)), (1, .int a1_)]) C 2 (dall tdX6_passes 66 rfl) rfl rfl (by decide) rfl ?_
    refine r_goto (tgt := 4) C (dall tdX6_passes 67 rfl) (by decide) ?_
    refine r_pick [1, 2, 0] rfl ?_
    exact hk4 (σ, a1_, a2_ + 1) ok h
  · have h := (if_neg c1).symm.trans h
    have ok := ok.2 c1
    refine r_iload_n C 1 (dall tdX6_passes 55 rfl) rfl ?_
    refine r_aload_n C 0 (dall tdX6_passes 56 rfl) rfl ?_
    refine r_aload_n C 0 (dall tdX6_passes 57 rfl) rfl ?_
    refine r_get C 0 kw_X6 rfl rfl (by decide) kf_X6_32 rfl rfl (dall tdX6_passes 58 rfl) ?_
    refine r_iload_n C 2 (dall tdX6_passes 59 rfl) rfl ?_
    obtain ⟨o2, ok⟩ := ok
    refine r_lald C 5 1 rfl rfl o2 (dall tdX6_passes 60 rfl) ?_
    obtain ⟨o3, ok⟩ := ok
    refine r_s0I (as := [.long (σ.2.2.2 11 a2_.toNatClampNeg)]) C (zX6_greatest (σ.2.2.2 11 a2_.toNatClampNeg) o3) ms_X6_greatest km_X6_355 (by decide) (by decide) ⟨Nat.le_refl _, Nat.le_refl _⟩ rfl rfl (Nat.le_of_ble_eq_true rfl) (dall tdX6_passes 61 rfl) ?_
    obtain ⟨o4, ok⟩ := ok
    refine r_vI (as := [.int (fX6_greatest (σ.2.2.2 11 a2_.toNatClampNeg))]) C (zX6_felled cy q σ (fX6_greatest (σ.2.2.2 11 a2_.toNatClampNeg)) o4) mv_X6_felled km_X6_380 (by decide) (by decide) ⟨Nat.le_refl _, Nat.le_refl _⟩ rfl rfl rfl rfl (Nat.le_of_ble_eq_true rfl) (dall tdX6_passes 62 rfl) ?_
    refine r_pick [0, 2] rfl ?_
    exact wX6_passes_102 ((fX6_felled σ (fX6_greatest (σ.2.2.2 11 a2_.toNatClampNeg))).2) a2_ ((fX6_felled σ (fX6_greatest (σ.2.2.2 11 a2_.toNatClampNeg))).1) a1_ C hR kR4 kO4 hk4 kR71 kO71 hk71 ok h
def bX6_passes_71 (a2_ : Int32) (kR4 : OS × Int32 × Int32 → Int32 × OS) (kR71 : OS × Int32 → Int32 × OS) (v : OS × Int32) : Int32 × OS := pX6_passes_85 kR4 kR71 ((fX6_holdsOf v.1 a2_).2) v.2 a2_ ((fX6_holdsOf v.1 a2_).1) (fX6_bitsOf (v.1.2.2.2 11 a2_.toNatClampNeg))
def kX6_passes_71 (a2_ : Int32) (kO4 : OS × Int32 × Int32 → Prop) (kO71 : OS × Int32 → Prop) (v : OS × Int32) : Prop := (vp_in a2_ 5) ∧ ((gX6_bitsOf (v.1.2.2.2 11 a2_.toNatClampNeg)) ∧ ((gX6_holdsOf v.1 a2_) ∧ (oX6_passes_85 kO4 kO71 ((fX6_holdsOf v.1 a2_).2) v.2 a2_ ((fX6_holdsOf v.1 a2_).1) (fX6_bitsOf (v.1.2.2.2 11 a2_.toNatClampNeg)))))
set_option maxHeartbeats 4000000 in
set_option maxRecDepth 100000 in
theorem wX6_passes_71 {X : CX} {cy : Nat → ClassId} {q : Nat → Nat} {D : va_G} {A : Nat → Prop} {res : Int32 × OS} (a2_ : Int32) (C : Cx X cX6_passes RX6 5 D (gty cy) A 44 0 0) (hR : Rt X (some .int) D (gty cy) A 0 0 (eI (wX6 cy q res.2) res.1)) (kR4 : OS × Int32 × Int32 → Int32 × OS) (kO4 : OS × Int32 × Int32 → Prop) (hk4 : ∀ z, kO4 z → kR4 z = res → At X D A 5 0 0 4 [(0, .ref (q 41)), (1, .int z.2.1), (2, .int z.2.2)] [] (wX6 cy q z.1)) (kR71 : OS × Int32 → Int32 × OS) (kO71 : OS × Int32 → Prop) (hk71 : ∀ z, kO71 z → kR71 z = res → At X D A 5 0 0 71 [(0, .ref (q 41)), (1, .int z.2), (2, .int a2_)] [] (wX6 cy q z.1)) (v : OS × Int32) (ok : kX6_passes_71 a2_ kO4 kO71 v) (h : bX6_passes_71 a2_ kR4 kR71 v = res) : At X D A 5 0 0 71 [(0, .ref (q 41)), (1, .int v.2), (2, .int a2_)] [] (wX6 cy q v.1) := by
  unfold bX6_passes_71 at h
  unfold kX6_passes_71 at ok
  refine r_aload_n C 0 (dall tdX6_passes 46 rfl) rfl ?_
  refine r_get C 0 kw_X6 rfl rfl (by decide) kf_X6_32 rfl rfl (dall tdX6_passes 47 rfl) ?_
  refine r_iload_n C 2 (dall tdX6_passes 48 rfl) rfl ?_
  obtain ⟨o5, ok⟩ := ok
  refine r_lald C 5 1 rfl rfl o5 (dall tdX6_passes 49 rfl) ?_
  obtain ⟨o6, ok⟩ := ok
  refine r_s0I (as := [.long (v.1.2.2.2 11 a2_.toNatClampNeg)]) C (zX6_bitsOf (v.1.2.2.2 11 a2_.toNatClampNeg) o6) ms_X6_bitsOf km_X6_138 (by decide) (by decide) ⟨Nat.le_refl _, Nat.le_refl _⟩ rfl rfl (Nat.le_of_ble_eq_true rfl) (dall tdX6_passes 50 rfl) ?_
  refine r_aload_n C 0 (dall tdX6_passes 51 rfl) rfl ?_
  refine r_iload_n C 2 (dall tdX6_passes 52 rfl) rfl ?_
  obtain ⟨o7, ok⟩ := ok
  refine r_vI (as := [.int a2_]) C (zX6_holdsOf cy q v.1 a2_ o7) mv_X6_holdsOf km_X6_129 (by decide) (by decide) ⟨Nat.le_refl _, Nat.le_refl _⟩ rfl rfl rfl rfl (Nat.le_of_ble_eq_true rfl) (dall tdX6_passes 53 rfl) ?_
  exact wX6_passes_85 ((fX6_holdsOf v.1 a2_).2) v.2 a2_ ((fX6_holdsOf v.1 a2_).1) (fX6_bitsOf (v.1.2.2.2 11 a2_.toNatClampNeg)) C hR kR4 kO4 hk4 kR71 kO71 hk71 ok h
set_option maxHeartbeats 4000000 in
set_option maxRecDepth 100000 in
theorem lX6_passes_71 {X : CX} {cy : Nat → ClassId} {q : Nat → Nat} {D : va_G} {A : Nat → Prop} {res : Int32 × OS} (a2_ : Int32) (C : Cx X cX6_passes RX6 5 D (gty cy) A 44 0 0) (hR : Rt X (some .int) D (gty cy) A 0 0 (eI (wX6 cy q res.2) res.1)) (kR4 : OS × Int32 × Int32 → Int32 × OS) (kO4 : OS × Int32 × Int32 → Prop) (hk4 : ∀ z, kO4 z → kR4 z = res → At X D A 5 0 0 4 [(0, .ref (q 41)), (1, .int z.2.1), (2, .int z.2.2)] [] (wX6 cy q z.1)) (n : Nat) (v : OS × Int32) (ok : lpOk (kX6_passes_71 a2_ kO4) n v) (h : lp (0, o0) (bX6_passes_71 a2_ kR4) n v = res) : At X D A 5 0 0 71 [(0, .ref (q 41)), (1, .int v.2), (2, .int a2_)] [] (wX6 cy q v.1) :=
  lp_rule (fun v rr_ => rr_ = res → At X D A 5 0 0 71 [(0, .ref (q 41)), (1, .int v.2), (2, .int a2_)] [] (wX6 cy q v.1)) (fun kR kO hk v ok h => wX6_passes_71 a2_ C hR kR4 kO4 hk4 kR kO hk v ok h) n v ok h
def pX6_passes_23 (kR4 : OS × Int32 × Int32 → Int32 × OS) (σ : OS) (a1_ : Int32) (a2_ : Int32) (a3_ : Int32) (b0_ : Int32) : Int32 × OS := lp (0, o0) (bX6_passes_71 a2_ kR4) fu (oI (oS σ 10 (((3 * a2_) + 1).toNatClampNeg) (fX6_within ((σ.2.2.1 10 ((3 * a2_) + 1).toNatClampNeg) - a3_) 0 99)) 8 (fX6_within (((oS σ 10 (((3 * a2_) + 1).toNatClampNeg) (fX6_within ((σ.2.2.1 10 ((3 * a2_) + 1).toNatClampNeg) - a3_) 0 99)).1 8) + b0_) 0 (99999)), a1_)
def oX6_passes_23 (kO4 : OS × Int32 × Int32 → Prop) (σ : OS) (a1_ : Int32) (a2_ : Int32) (a3_ : Int32) (b0_ : Int32) : Prop := (vp_in ((3 * a2_) + 1) 15) ∧ ((vp_in ((3 * a2_) + 1) 15) ∧ (lpOk (kX6_passes_71 a2_ kO4) fu (oI (oS σ 10 (((3 * a2_) + 1).toNatClampNeg) (fX6_within ((σ.2.2.1 10 ((3 * a2_) + 1).toNatClampNeg) - a3_) 0 99)) 8 (fX6_within (((oS σ 10 (((3 * a2_) + 1).toNatClampNeg) (fX6_within ((σ.2.2.1 10 ((3 * a2_) + 1).toNatClampNeg) - a3_) 0 99)).1 8) + b0_) 0 (99999)), a1_)))
set_option maxHeartbeats 4000000 in
set_option maxRecDepth 100000 in
theorem wX6_passes_23 {X : CX} {cy : Nat → ClassId} {q : Nat → Nat} {D : va_G} {A : Nat → Prop} {res : Int32 × OS} (σ : OS) (a1_ : Int32) (a2_ : Int32) (a3_ : Int32) (b0_ : Int32) (C : Cx X cX6_passes RX6 5 D (gty cy) A 44 0 0) (hR : Rt X (some .int) D (gty cy) A 0 0 (eI (wX6 cy q res.2) res.1)) (kR4 : OS × Int32 × Int32 → Int32 × OS) (kO4 : OS × Int32 × Int32 → Prop) (hk4 : ∀ z, kO4 z → kR4 z = res → At X D A 5 0 0 4 [(0, .ref (q 41)), (1, .int z.2.1), (2, .int z.2.2)] [] (wX6 cy q z.1)) (ok : oX6_passes_23 kO4 σ a1_ a2_ a3_ b0_) (h : pX6_passes_23 kR4 σ a1_ a2_ a3_ b0_ = res) : At X D A 5 0 0 23 [(0, .ref (q 41)), (1, .int a1_), (2, .int a2_), (3, .int a3_)] [.int b0_] (wX6 cy q σ) := by
  unfold pX6_passes_23 at h
  unfold oX6_passes_23 at ok
  refine r_istore (lv' := [(4, .int b0_), (0, .ref (q 41)), (1, .int a1_), (2, .int a2_), (3, .int a3_)]) C (dall tdX6_passes 15 rfl) (by decide) rfl ?_
  refine r_aload_n C 1 (dall tdX6_passes 16 rfl) rfl ?_
  refine r_get C 0 kw_X6 rfl rfl (by decide) kf_X6_29 rfl rfl (dall tdX6_passes 17 rfl) ?_
  refine r_iconst (v := 3) C (dall tdX6_passes 18 rfl) (by decide) ?_
  refine r_iload_n C 3 (dall tdX6_passes 19 rfl) rfl ?_
  refine r_imul C (dall tdX6_passes 20 rfl) ?_
  refine r_iconst (v := 1) C (dall tdX6_passes 21 rfl) (by decide) ?_
  refine r_iadd C (dall tdX6_passes 22 rfl) ?_
  refine r_aload_n C 1 (dall tdX6_passes 23 rfl) rfl ?_
  refine r_get C 0 kw_X6 rfl rfl (by decide) kf_X6_29 rfl rfl (dall tdX6_passes 24 rfl) ?_
  refine r_iconst (v := 3) C (dall tdX6_passes 25 rfl) (by decide) ?_
  refine r_iload_n C 3 (dall tdX6_passes 26 rfl) rfl ?_
  refine r_imul C (dall tdX6_passes 27 rfl) ?_
  refine r_iconst (v := 1) C (dall tdX6_passes 28 rfl) (by decide) ?_
  refine r_iadd C (dall tdX6_passes 29 rfl) ?_
  obtain ⟨o8, ok⟩ := ok
  refine r_iald C 4 0 rfl rfl o8 (dall tdX6_passes 30 rfl) ?_
  refine r_iload_n C 4 (dall tdX6_passes 31 rfl) rfl ?_
  refine r_isub C (dall tdX6_passes 32 rfl) ?_
  refine r_iconst (v := 0) C (dall tdX6_passes 33 rfl) (by decide) ?_
  refine r_bipush (v := 99) C (dall tdX6_passes 34 rfl) (by decide) ?_
  refine r_s0I (as := [.int ((σ.2.2.1 10 ((3 * a2_) + 1).toNatClampNeg) - a3_), .int 0, .int 99]) C (zX6_within ((σ.2.2.1 10 ((3 * a2_) + 1).toNatClampNeg) - a3_) 0 99 ) ms_X6_within km_X6_361 (by decide) (by decide) ⟨Nat.le_refl _, Nat.le_refl _⟩ rfl rfl (Nat.le_of_ble_eq_true rfl) (dall tdX6_passes 35 rfl) ?_
  obtain ⟨o9, ok⟩ := ok
  refine r_iast C 4 0 rfl rfl o9 (pa_X6_this_10 cy q σ (((3 * a2_) + 1).toNatClampNeg) (fX6_within ((σ.2.2.1 10 ((3 * a2_) + 1).toNatClampNeg) - a3_) 0 99)) (dall tdX6_passes 36 rfl) ?_
  refine r_aload_n C 1 (dall tdX6_passes 37 rfl) rfl ?_
  refine r_aload_n C 1 (dall tdX6_passes 38 rfl) rfl ?_
  refine r_get C 0 kw_X6 rfl rfl (by decide) kf_X6_358 rfl rfl (dall tdX6_passes 39 rfl) ?_
  refine r_iload C 0 (dall tdX6_passes 40 rfl) rfl ?_
  refine r_iadd C (dall tdX6_passes 41 rfl) ?_
  refine r_iconst (v := 0) C (dall tdX6_passes 42 rfl) (by decide) ?_
  refine r_ldcw C kk_X6_399 (dall tdX6_passes 43 rfl) ?_
  refine r_s0I (as := [.int (((oS σ 10 (((3 * a2_) + 1).toNatClampNeg) (fX6_within ((σ.2.2.1 10 ((3 * a2_) + 1).toNatClampNeg) - a3_) 0 99)).1 8) + b0_), .int 0, .int (99999)]) C (zX6_within (((oS σ 10 (((3 * a2_) + 1).toNatClampNeg) (fX6_within ((σ.2.2.1 10 ((3 * a2_) + 1).toNatClampNeg) - a3_) 0 99)).1 8) + b0_) 0 (99999) ) ms_X6_within km_X6_361 (by decide) (by decide) ⟨Nat.le_refl _, Nat.le_refl _⟩ rfl rfl (Nat.le_of_ble_eq_true rfl) (dall tdX6_passes 44 rfl) ?_
  refine r_put C 0 kw_X6 tyX6_ok nmX6 rfl rfl (by decide) kf_X6_358 rfl rfl rfl rfl rfl (Nat.le_of_ble_eq_true rfl) (pu_X6_this_8 cy q (oS σ 10 (((3 * a2_) + 1).toNatClampNeg) (fX6_within ((σ.2.2.1 10 ((3 * a2_) + 1).toNatClampNeg) - a3_) 0 99)) (fX6_within (((oS σ 10 (((3 * a2_) + 1).toNatClampNeg) (fX6_within ((σ.2.2.1 10 ((3 * a2_) + 1).toNatClampNeg) - a3_) 0 99)).1 8) + b0_) 0 (99999))) (dall tdX6_passes 45 rfl) ?_
  refine r_pick [1, 2, 3] rfl ?_
  exact lX6_passes_71 a2_ C hR kR4 kO4 hk4 fu _ ok h
def pX6_passes_17 (kR4 : OS × Int32 × Int32 → Int32 × OS) (σ : OS) (a1_ : Int32) (a2_ : Int32) (b0_ : Int32) : Int32 × OS := pX6_passes_23 kR4 ((fX6_costsOf σ a2_).2) a1_ a2_ b0_ ((fX6_costsOf σ a2_).1)
def oX6_passes_17 (kO4 : OS × Int32 × Int32 → Prop) (σ : OS) (a1_ : Int32) (a2_ : Int32) (b0_ : Int32) : Prop := (gX6_costsOf σ a2_) ∧ (oX6_passes_23 kO4 ((fX6_costsOf σ a2_).2) a1_ a2_ b0_ ((fX6_costsOf σ a2_).1))
set_option maxHeartbeats 4000000 in
set_option maxRecDepth 100000 in
theorem wX6_passes_17 {X : CX} {cy : Nat → ClassId} {q : Nat → Nat} {D : va_G} {A : Nat → Prop} {res : Int32 × OS} (σ : OS) (a1_ : Int32) (a2_ : Int32) (b0_ : Int32) (C : Cx X cX6_passes RX6 5 D (gty cy) A 44 0 0) (hR : Rt X (some .int) D (gty cy) A 0 0 (eI (wX6 cy q res.2) res.1)) (kR4 : OS × Int32 × Int32 → Int32 × OS) (kO4 : OS × Int32 × Int32 → Prop) (hk4 : ∀ z, kO4 z → kR4 z = res → At X D A 5 0 0 4 [(0, .ref (q 41)), (1, .int z.2.1), (2, .int z.2.2)] [] (wX6 cy q z.1)) (ok : oX6_passes_17 kO4 σ a1_ a2_ b0_) (h : pX6_passes_17 kR4 σ a1_ a2_ b0_ = res) : At X D A 5 0 0 17 [(0, .ref (q 41)), (1, .int a1_), (2, .int a2_)] [.int b0_] (wX6 cy q σ) := by
  unfold pX6_passes_17 at h
  unfold oX6_passes_17 at ok
  refine r_istore_n (lv' := [(3, .int b0_), (0, .ref (q 41)), (1, .int a1_), (2, .int a2_)]) C (dall tdX6_passes 11 rfl) (by decide) rfl ?_
  refine r_aload_n C 1 (dall tdX6_passes 12 rfl) rfl ?_
  refine r_iload_n C 3 (dall tdX6_passes 13 rfl) rfl ?_
  obtain ⟨o10, ok⟩ := ok
  refine r_vI (as := [.int a2_]) C (zX6_costsOf cy q σ a2_ o10) mv_X6_costsOf km_X6_135 (by decide) (by decide) ⟨Nat.le_refl _, Nat.le_refl _⟩ rfl rfl rfl rfl (Nat.le_of_ble_eq_true rfl) (dall tdX6_passes 14 rfl) ?_
  refine r_pick [1, 2, 3, 0] rfl ?_
  exact wX6_passes_23 ((fX6_costsOf σ a2_).2) a1_ a2_ b0_ ((fX6_costsOf σ a2_).1) C hR kR4 kO4 hk4 ok h
def bX6_passes_4   (kR4 : OS × Int32 × Int32 → Int32 × OS) (v : OS × Int32 × Int32) : Int32 × OS := if (v.1.1 12) ≤ v.2.2 then (v.2.1, oI v.1 7 ((v.1.1 7) + 1)) else pX6_passes_17 kR4 ((fX6_fadesOf v.1 v.2.2).2) v.2.1 v.2.2 ((fX6_fadesOf v.1 v.2.2).1)
def kX6_passes_4   (kO4 : OS × Int32 × Int32 → Prop) (v : OS × Int32 × Int32) : Prop := ((v.1.1 12) ≤ v.2.2 → True) ∧ (¬ ((v.1.1 12) ≤ v.2.2) → (gX6_fadesOf v.1 v.2.2) ∧ (oX6_passes_17 kO4 ((fX6_fadesOf v.1 v.2.2).2) v.2.1 v.2.2 ((fX6_fadesOf v.1 v.2.2).1)))
set_option maxHeartbeats 4000000 in
set_option maxRecDepth 100000 in
theorem wX6_passes_4 {X : CX} {cy : Nat → ClassId} {q : Nat → Nat} {D : va_G} {A : Nat → Prop} {res : Int32 × OS}  (C : Cx X cX6_passes RX6 5 D (gty cy) A 44 0 0) (hR : Rt X (some .int) D (gty cy) A 0 0 (eI (wX6 cy q res.2) res.1)) (kR4 : OS × Int32 × Int32 → Int32 × OS) (kO4 : OS × Int32 × Int32 → Prop) (hk4 : ∀ z, kO4 z → kR4 z = res → At X D A 5 0 0 4 [(0, .ref (q 41)), (1, .int z.2.1), (2, .int z.2.2)] [] (wX6 cy q z.1)) (v : OS × Int32 × Int32) (ok : kX6_passes_4  kO4 v) (h : bX6_passes_4  kR4 v = res) : At X D A 5 0 0 4 [(0, .ref (q 41)), (1, .int v.2.1), (2, .int v.2.2)] [] (wX6 cy q v.1) := by
  unfold bX6_passes_4 at h
  unfold kX6_passes_4 at ok
  refine r_iload_n C 2 (dall tdX6_passes 4 rfl) rfl ?_
  refine r_aload_n C 0 (dall tdX6_passes 5 rfl) rfl ?_
  refine r_get C 0 kw_X6 rfl rfl (by decide) kf_X6_71 rfl rfl (dall tdX6_passes 6 rfl) ?_
  refine r_icmp_ge (tgt := 113) C (dall tdX6_passes 7 rfl) (by decide) (fun c11 => ?_) (fun c11 => ?_)
  · have h := (if_pos c11).symm.trans h
    have ok := ok.1 c11
    refine r_aload_n C 0 (dall tdX6_passes 68 rfl) rfl ?_
    refine r_dup C (dall tdX6_passes 69 rfl) rfl ?_
    refine r_get C 0 kw_X6 rfl rfl (by decide) kf_X6_115 rfl rfl (dall tdX6_passes 70 rfl) ?_
    refine r_iconst (v := 1) C (dall tdX6_passes 71 rfl) (by decide) ?_
    refine r_iadd C (dall tdX6_passes 72 rfl) ?_
    refine r_put C 0 kw_X6 tyX6_ok nmX6 rfl rfl (by decide) kf_X6_115 rfl rfl rfl rfl rfl (Nat.le_of_ble_eq_true rfl) (pu_X6_this_7 cy q v.1 ((v.1.1 7) + 1)) (dall tdX6_passes 73 rfl) ?_
    refine r_iload_n C 1 (dall tdX6_passes 74 rfl) rfl ?_
    exact r_iret C hR (dall tdX6_passes 75 rfl) (by subst h; exact ⟨rfl, rfl⟩)
  · have h := (if_neg c11).symm.trans h
    have ok := ok.2 c11
    refine r_aload_n C 0 (dall tdX6_passes 8 rfl) rfl ?_
    refine r_iload_n C 2 (dall tdX6_passes 9 rfl) rfl ?_
    obtain ⟨o12, ok⟩ := ok
    refine r_vI (as := [.int v.2.2]) C (zX6_fadesOf cy q v.1 v.2.2 o12) mv_X6_fadesOf km_X6_132 (by decide) (by decide) ⟨Nat.le_refl _, Nat.le_refl _⟩ rfl rfl rfl rfl (Nat.le_of_ble_eq_true rfl) (dall tdX6_passes 10 rfl) ?_
    exact wX6_passes_17 ((fX6_fadesOf v.1 v.2.2).2) v.2.1 v.2.2 ((fX6_fadesOf v.1 v.2.2).1) C hR kR4 kO4 hk4 ok h
set_option maxHeartbeats 4000000 in
set_option maxRecDepth 100000 in
theorem lX6_passes_4 {X : CX} {cy : Nat → ClassId} {q : Nat → Nat} {D : va_G} {A : Nat → Prop} {res : Int32 × OS}  (C : Cx X cX6_passes RX6 5 D (gty cy) A 44 0 0) (hR : Rt X (some .int) D (gty cy) A 0 0 (eI (wX6 cy q res.2) res.1))  (n : Nat) (v : OS × Int32 × Int32) (ok : lpOk (kX6_passes_4  ) n v) (h : lp (0, o0) (bX6_passes_4  ) n v = res) : At X D A 5 0 0 4 [(0, .ref (q 41)), (1, .int v.2.1), (2, .int v.2.2)] [] (wX6 cy q v.1) :=
  lp_rule (fun v rr_ => rr_ = res → At X D A 5 0 0 4 [(0, .ref (q 41)), (1, .int v.2.1), (2, .int v.2.2)] [] (wX6 cy q v.1)) (fun kR kO hk v ok h => wX6_passes_4  C hR  kR kO hk v ok h) n v ok h
def pX6_passes_0  (σ : OS) : Int32 × OS := lp (0, o0) (bX6_passes_4  ) fu (σ, 0, 0)
def oX6_passes_0  (σ : OS) : Prop := lpOk (kX6_passes_4  ) fu (σ, 0, 0)
set_option maxHeartbeats 4000000 in
set_option maxRecDepth 100000 in
theorem wX6_passes_0 {X : CX} {cy : Nat → ClassId} {q : Nat → Nat} {D : va_G} {A : Nat → Prop} {res : Int32 × OS} (σ : OS) (C : Cx X cX6_passes RX6 5 D (gty cy) A 44 0 0) (hR : Rt X (some .int) D (gty cy) A 0 0 (eI (wX6 cy q res.2) res.1))  (ok : oX6_passes_0  σ) (h : pX6_passes_0  σ = res) : At X D A 5 0 0 0 [(0, .ref (q 41))] [] (wX6 cy q σ) := by
  unfold pX6_passes_0 at h
  unfold oX6_passes_0 at ok
  refine r_iconst (v := 0) C (dall tdX6_passes 0 rfl) (by decide) ?_
  refine r_istore_n (lv' := [(1, .int 0), (0, .ref (q 41))]) C (dall tdX6_passes 1 rfl) (by decide) rfl ?_
  refine r_iconst (v := 0) C (dall tdX6_passes 2 rfl) (by decide) ?_
  refine r_istore_n (lv' := [(2, .int 0), (1, .int 0), (0, .ref (q 41))]) C (dall tdX6_passes 3 rfl) (by decide) rfl ?_
  refine r_pick [2, 1, 0] rfl ?_
  exact lX6_passes_4  C hR  fu _ ok h
def fX6_passes (σ : OS) : Int32 × OS := pX6_passes_0  σ
def gX6_passes (σ : OS) : Prop := oX6_passes_0  σ
set_option maxRecDepth 100000 in
theorem zX6_passes (cy : Nat → ClassId) (q : Nat → Nat)  {D : va_G} (σ : OS) (ok : gX6_passes σ )  : Con yX6_passes cX6_passes 5 (some .int) 44 0 0 D (gty cy) [.ref (q 41)] (wX6 cy q σ) (eI (wX6 cy q (fX6_passes σ ).2) (fX6_passes σ ).1) :=
  Con.of (own := RX6) (by decide +kernel) rfl (Nat.le_of_ble_eq_true rfl) (Nat.zero_le _) (fun X A C hR _ => (wX6_passes_0 σ C hR  ok rfl))
theorem mv_X6_passes : MV yX6_passes cX6_passes 5 (some .int) RX6 0 := ⟨ki_X6_passes, kv_X6_passes, kn_X6, kc_X6_passes, by decide +kernel⟩
def tbX6_year : List (Nat × Instr × Nat) := [(0, .aload_n 0, 1), (1, .getfield 115, 3), (4, .sipush 999, 3), (7, .if_icmp .ne 8, 3), (10, .bipush (-3), 2), (12, .goto 7, 3), (15, .aload_n 0, 1), (16, .invokevirtual 400, 3), (19, .ireturn, 1)]
theorem tdX6_year : tbX6_year.all (fun q => decide (decode cX6_year q.1 = .ok q.2)) = true := by decide +kernel
def pX6_year_19  (σ : OS) (b0_ : Int32) : Int32 × OS := (b0_, σ)
set_option maxHeartbeats 4000000 in
set_option maxRecDepth 100000 in
theorem wX6_year_19 {X : CX} {cy : Nat → ClassId} {q : Nat → Nat} {D : va_G} {A : Nat → Prop} {res : Int32 × OS} (σ : OS) (b0_ : Int32) (C : Cx X cX6_year RX6 1 D (gty cy) A 45 0 0) (hR : Rt X (some .int) D (gty cy) A 0 0 (eI (wX6 cy q res.2) res.1))  (h : pX6_year_19  σ b0_ = res) : At X D A 1 0 0 19 [] [.int b0_] (wX6 cy q σ) := by
  unfold pX6_year_19 at h
  exact r_iret C hR (dall tdX6_year 8 rfl) (by subst h; exact ⟨rfl, rfl⟩)
def pX6_year_0  (σ : OS) : Int32 × OS := if (σ.1 7) = 999 then pX6_year_19  σ (-3) else pX6_year_19  ((fX6_passes σ ).2) ((fX6_passes σ ).1)
def oX6_year_0  (σ : OS) : Prop := ((σ.1 7) = 999 → True) ∧ (¬ ((σ.1 7) = 999) → gX6_passes σ )
set_option maxHeartbeats 4000000 in
set_option maxRecDepth 100000 in
theorem wX6_year_0 {X : CX} {cy : Nat → ClassId} {q : Nat → Nat} {D : va_G} {A : Nat → Prop} {res : Int32 × OS} (σ : OS) (C : Cx X cX6_year RX6 1 D (gty cy) A 45 0 0) (hR : Rt X (some .int) D (gty cy) A 0 0 (eI (wX6 cy q res.2) res.1))  (ok : oX6_year_0  σ) (h : pX6_year_0  σ = res) : At X D A 1 0 0 0 [(0, .ref (q 41))] [] (wX6 cy q σ) := by
  unfold pX6_year_0 at h
  unfold oX6_year_0 at ok
  refine r_aload_n C 0 (dall tdX6_year 0 rfl) rfl ?_
  refine r_get C 0 kw_X6 rfl rfl (by decide) kf_X6_115 rfl rfl (dall tdX6_year 1 rfl) ?_
  refine r_sipush (v := 999) C (dall tdX6_year 2 rfl) (by decide) ?_
  refine r_icmp_ne (tgt := 15) C (dall tdX6_year 3 rfl) (by decide) (fun c1 => ?_) (fun c1 => ?_)
  · have h := (if_neg c1).symm.trans h
    have ok := ok.2 c1
    refine r_aload_n C 0 (dall tdX6_year 6 rfl) rfl ?_
    have o2 := ok
    refine r_vI (as := []) C (zX6_passes cy q σ  o2) mv_X6_passes km_X6_400 (by decide) (by decide) ⟨Nat.le_refl _, Nat.le_refl _⟩ rfl rfl rfl rfl (Nat.le_of_ble_eq_true rfl) (dall tdX6_year 7 rfl) ?_
    refine r_pick [] rfl ?_
    exact wX6_year_19 ((fX6_passes σ ).2) ((fX6_passes σ ).1) C hR  h
  · have h := (if_pos c1).symm.trans h
    have ok := ok.1 c1
    refine r_bipush (v := -3) C (dall tdX6_year 4 rfl) (by decide) ?_
    refine r_goto (tgt := 19) C (dall tdX6_year 5 rfl) (by decide) ?_
    refine r_pick [] rfl ?_
    exact wX6_year_19 σ (-3) C hR  h
def fX6_year (σ : OS) : Int32 × OS := pX6_year_0  σ
def gX6_year (σ : OS) : Prop := oX6_year_0  σ
set_option maxRecDepth 100000 in
theorem zX6_year (cy : Nat → ClassId) (q : Nat → Nat)  {D : va_G} (σ : OS) (ok : gX6_year σ )  : Con yX6_year cX6_year 1 (some .int) 45 0 0 D (gty cy) [.ref (q 41)] (wX6 cy q σ) (eI (wX6 cy q (fX6_year σ ).2) (fX6_year σ ).1) :=
  Con.of (own := RX6) (by decide +kernel) rfl (Nat.le_of_ble_eq_true rfl) (Nat.zero_le _) (fun X A C hR _ => (wX6_year_0 σ C hR  ok rfl))
theorem mv_X6_year : MV yX6_year cX6_year 1 (some .int) RX6 0 := ⟨ki_X6_year, kv_X6_year, kn_X6, kc_X6_year, by decide +kernel⟩
def tbX6_laysAside : List (Nat × Instr × Nat) := [(0, .iconst 0, 1), (1, .istore_n 1, 1), (2, .iload_n 1, 1), (3, .bipush 15, 2), (5, .if_icmp .ge 21, 3), (8, .aload_n 0, 1), (9, .getfield 36, 3), (12, .iload_n 1, 1), (13, .aload_n 0, 1), (14, .getfield 29, 3), (17, .iload_n 1, 1), (18, .iaload, 1), (19, .iastore, 1), (20, .iinc 1 1, 3), (23, .goto (-21), 3), (26, .iconst 0, 1), (27, .istore_n 1, 1), (28, .iload_n 1, 1), (29, .iconst 5, 1), (30, .if_icmp .ge 21, 3), (33, .aload_n 0, 1), (34, .getfield 39, 3), (37, .iload_n 1, 1), (38, .aload_n 0, 1), (39, .getfield 32, 3), (42, .iload_n 1, 1), (43, .laload, 1), (44, .lastore, 1), (45, .iinc 1 1, 3), (48, .goto (-20), 3), (51, .aload_n 0, 1), (52, .getfield 36, 3), (55, .bipush 15, 2), (57, .aload_n 0, 1), (58, .getfield 115, 3), (61, .iastore, 1), (62, .aload_n 0, 1), (63, .getfield 36, 3), (66, .bipush 16, 2), (68, .aload_n 0, 1), (69, .getfield 358, 3), (72, .iastore, 1), (73, .return_, 1)]
theorem tdX6_laysAside : tbX6_laysAside.all (fun q => decide (decode cX6_laysAside q.1 = .ok q.2)) = true := by decide +kernel
def bX6_laysAside_28   (kR28 : OS × Int32 → OS) (v : OS × Int32) : OS := if 5 ≤ v.2 then oS (oS v.1 28 ((15 : Int32).toNatClampNeg) (v.1.1 7)) 28 ((16 : Int32).toNatClampNeg) ((oS v.1 28 ((15 : Int32).toNatClampNeg) (v.1.1 7)).1 8) else kR28 (oT v.1 29 v.2.toNatClampNeg (v.1.2.2.2 11 v.2.toNatClampNeg), v.2 + 1)
def kX6_laysAside_28   (kO28 : OS × Int32 → Prop) (v : OS × Int32) : Prop := (5 ≤ v.2 → (vp_in 15 17) ∧ (vp_in 16 17)) ∧ (¬ (5 ≤ v.2) → (vp_in v.2 5) ∧ ((vp_in v.2 5) ∧ (kO28 (oT v.1 29 v.2.toNatClampNeg (v.1.2.2.2 11 v.2.toNatClampNeg), v.2 + 1))))
set_option maxHeartbeats 4000000 in
set_option maxRecDepth 100000 in
theorem wX6_laysAside_28 {X : CX} {cy : Nat → ClassId} {q : Nat → Nat} {D : va_G} {A : Nat → Prop} {res : OS}  (C : Cx X cX6_laysAside RX6 2 D (gty cy) A 0 0 0) (hR : Rt X none D (gty cy) A 0 0 (eV (wX6 cy q res))) (kR28 : OS × Int32 → OS) (kO28 : OS × Int32 → Prop) (hk28 : ∀ z, kO28 z → kR28 z = res → At X D A 2 0 0 28 [(0, .ref (q 41)), (1, .int z.2)] [] (wX6 cy q z.1)) (v : OS × Int32) (ok : kX6_laysAside_28  kO28 v) (h : bX6_laysAside_28  kR28 v = res) : At X D A 2 0 0 28 [(0, .ref (q 41)), (1, .int v.2)] [] (wX6 cy q v.1) := by
  unfold bX6_laysAside_28 at h
  unfold kX6_laysAside_28 at ok
  refine r_iload_n C 1 (dall tdX6_laysAside 17 rfl) rfl ?_
  refine r_iconst (v := 5) C (dall tdX6_laysAside 18 rfl) (by decide) ?_
  refine r_icmp_ge (tgt := 51) C (dall tdX6_laysAside 19 rfl) (by decide) (fun c1 => ?_) (fun c1 => ?_)
  · have h := (if_pos c1).symm.trans h
    have ok := ok.1 c1
    refine r_aload_n C 0 (dall tdX6_laysAside 30 rfl) rfl ?_
    refine r_get C 0 kw_X6 rfl rfl (by decide) kf_X6_36 rfl rfl (dall tdX6_laysAside 31 rfl) ?_
    refine r_bipush (v := 15) C (dall tdX6_laysAside 32 rfl) (by decide) ?_
    refine r_aload_n C 0 (dall tdX6_laysAside 33 rfl) rfl ?_
    refine r_get C 0 kw_X6 rfl rfl (by decide) kf_X6_115 rfl rfl (dall tdX6_laysAside 34 rfl) ?_
    obtain ⟨o2, ok⟩ := ok
    refine r_iast C 6 0 rfl rfl o2 (pa_X6_this_28 cy q v.1 ((15 : Int32).toNatClampNeg) (v.1.1 7)) (dall tdX6_laysAside 35 rfl) ?_
    refine r_aload_n C 0 (dall tdX6_laysAside 36 rfl) rfl ?_
    refine r_get C 0 kw_X6 rfl rfl (by decide) kf_X6_36 rfl rfl (dall tdX6_laysAside 37 rfl) ?_
    refine r_bipush (v := 16) C (dall tdX6_laysAside 38 rfl) (by decide) ?_
    refine r_aload_n C 0 (dall tdX6_laysAside 39 rfl) rfl ?_
    refine r_get C 0 kw_X6 rfl rfl (by decide) kf_X6_358 rfl rfl (dall tdX6_laysAside 40 rfl) ?_
    have o3 := ok
    refine r_iast C 6 0 rfl rfl o3 (pa_X6_this_28 cy q (oS v.1 28 ((15 : Int32).toNatClampNeg) (v.1.1 7)) ((16 : Int32).toNatClampNeg) ((oS v.1 28 ((15 : Int32).toNatClampNeg) (v.1.1 7)).1 8)) (dall tdX6_laysAside 41 rfl) ?_
    exact r_vret C hR (dall tdX6_laysAside 42 rfl) (by subst h; exact ⟨rfl, rfl⟩)
  · have h := (if_neg c1).symm.trans h
    have ok := ok.2 c1
    refine r_aload_n C 0 (dall tdX6_laysAside 20 rfl) rfl ?_
    refine r_get C 0 kw_X6 rfl rfl (by decide) kf_X6_39 rfl rfl (dall tdX6_laysAside 21 rfl) ?_
    refine r_iload_n C 1 (dall tdX6_laysAside 22 rfl) rfl ?_
    refine r_aload_n C 0 (dall tdX6_laysAside 23 rfl) rfl ?_
    refine r_get C 0 kw_X6 rfl rfl (by decide) kf_X6_32 rfl rfl (dall tdX6_laysAside 24 rfl) ?_
    refine r_iload_n C 1 (dall tdX6_laysAside 25 rfl) rfl ?_
    obtain ⟨o4, ok⟩ := ok
    refine r_lald C 5 1 rfl rfl o4 (dall tdX6_laysAside 26 rfl) ?_
    obtain ⟨o5, ok⟩ := ok
    refine r_last C 7 1 rfl rfl o5 (pa_X6_this_29 cy q v.1 v.2.toNatClampNeg (v.1.2.2.2 11 v.2.toNatClampNeg)) (dall tdX6_laysAside 27 rfl) ?_
    refine r_iinc (v := v.2 + 1) (lv' := [(1, .int (v.2 + 1)), (0, .ref (q 41))]) C 1 (dall tdX6_laysAside 28 rfl) rfl rfl (by decide) rfl ?_
    refine r_goto (tgt := 28) C (dall tdX6_laysAside 29 rfl) (by decide) ?_
    refine r_pick [1, 0] rfl ?_
    exact hk28 (oT v.1 29 v.2.toNatClampNeg (v.1.2.2.2 11 v.2.toNatClampNeg), v.2 + 1) ok h
set_option maxHeartbeats 4000000 in
set_option maxRecDepth 100000 in
theorem lX6_laysAside_28 {X : CX} {cy : Nat → ClassId} {q : Nat → Nat} {D : va_G} {A : Nat → Prop} {res : OS}  (C : Cx X cX6_laysAside RX6 2 D (gty cy) A 0 0 0) (hR : Rt X none D (gty cy) A 0 0 (eV (wX6 cy q res)))  (n : Nat) (v : OS × Int32) (ok : lpOk (kX6_laysAside_28  ) n v) (h : lp o0 (bX6_laysAside_28  ) n v = res) : At X D A 2 0 0 28 [(0, .ref (q 41)), (1, .int v.2)] [] (wX6 cy q v.1) :=
  lp_rule (fun v rr_ => rr_ = res → At X D A 2 0 0 28 [(0, .ref (q 41)), (1, .int v.2)] [] (wX6 cy q v.1)) (fun kR kO hk v ok h => wX6_laysAside_28  C hR  kR kO hk v ok h) n v ok h
def bX6_laysAside_2   (kR2 : OS × Int32 → OS) (v : OS × Int32) : OS := if 15 ≤ v.2 then lp o0 (bX6_laysAside_28  ) fu (v.1, 0) else kR2 (oS v.1 28 v.2.toNatClampNeg (v.1.2.2.1 10 v.2.toNatClampNeg), v.2 + 1)
def kX6_laysAside_2   (kO2 : OS × Int32 → Prop) (v : OS × Int32) : Prop := (15 ≤ v.2 → lpOk (kX6_laysAside_28  ) fu (v.1, 0)) ∧ (¬ (15 ≤ v.2) → (vp_in v.2 15) ∧ ((vp_in v.2 17) ∧ (kO2 (oS v.1 28 v.2.toNatClampNeg (v.1.2.2.1 10 v.2.toNatClampNeg), v.2 + 1))))
set_option maxHeartbeats 4000000 in
set_option maxRecDepth 100000 in
theorem wX6_laysAside_2 {X : CX} {cy : Nat → ClassId} {q : Nat → Nat} {D : va_G} {A : Nat → Prop} {res : OS}  (C : Cx X cX6_laysAside RX6 2 D (gty cy) A 0 0 0) (hR : Rt X none D (gty cy) A 0 0 (eV (wX6 cy q res))) (kR2 : OS × Int32 → OS) (kO2 : OS × Int32 → Prop) (hk2 : ∀ z, kO2 z → kR2 z = res → At X D A 2 0 0 2 [(0, .ref (q 41)), (1, .int z.2)] [] (wX6 cy q z.1)) (v : OS × Int32) (ok : kX6_laysAside_2  kO2 v) (h : bX6_laysAside_2  kR2 v = res) : At X D A 2 0 0 2 [(0, .ref (q 41)), (1, .int v.2)] [] (wX6 cy q v.1) := by
  unfold bX6_laysAside_2 at h
  unfold kX6_laysAside_2 at ok
  refine r_iload_n C 1 (dall tdX6_laysAside 2 rfl) rfl ?_
  refine r_bipush (v := 15) C (dall tdX6_laysAside 3 rfl) (by decide) ?_
  refine r_icmp_ge (tgt := 26) C (dall tdX6_laysAside 4 rfl) (by decide) (fun c6 => ?_) (fun c6 => ?_)
  · have h := (if_pos c6).symm.trans h
    have ok := ok.1 c6
    refine r_iconst (v := 0) C (dall tdX6_laysAside 15 rfl) (by decide) ?_
    refine r_istore_n (lv' := [(1, .int 0), (0, .ref (q 41))]) C (dall tdX6_laysAside 16 rfl) (by decide) rfl ?_
    refine r_pick [1, 0] rfl ?_
    exact lX6_laysAside_28  C hR  fu _ ok h
  · have h := (if_neg c6).symm.trans h
    have ok := ok.2 c6
    refine r_aload_n C 0 (dall tdX6_laysAside 5 rfl) rfl ?_
    refine r_get C 0 kw_X6 rfl rfl (by decide) kf_X6_36 rfl rfl (dall tdX6_laysAside 6 rfl) ?_
    refine r_iload_n C 1 (dall tdX6_laysAside 7 rfl) rfl ?_
    refine r_aload_n C 0 (dall tdX6_laysAside 8 rfl) rfl ?_
    refine r_get C 0 kw_X6 rfl rfl (by decide) kf_X6_29 rfl rfl (dall tdX6_laysAside 9 rfl) ?_
    refine r_iload_n C 1 (dall tdX6_laysAside 10 rfl) rfl ?_
    obtain ⟨o7, ok⟩ := ok
    refine r_iald C 4 0 rfl rfl o7 (dall tdX6_laysAside 11 rfl) ?_
    obtain ⟨o8, ok⟩ := ok
    refine r_iast C 6 0 rfl rfl o8 (pa_X6_this_28 cy q v.1 v.2.toNatClampNeg (v.1.2.2.1 10 v.2.toNatClampNeg)) (dall tdX6_laysAside 12 rfl) ?_
    refine r_iinc (v := v.2 + 1) (lv' := [(1, .int (v.2 + 1)), (0, .ref (q 41))]) C 1 (dall tdX6_laysAside 13 rfl) rfl rfl (by decide) rfl ?_
    refine r_goto (tgt := 2) C (dall tdX6_laysAside 14 rfl) (by decide) ?_
    refine r_pick [1, 0] rfl ?_
    exact hk2 (oS v.1 28 v.2.toNatClampNeg (v.1.2.2.1 10 v.2.toNatClampNeg), v.2 + 1) ok h
set_option maxHeartbeats 4000000 in
set_option maxRecDepth 100000 in
theorem lX6_laysAside_2 {X : CX} {cy : Nat → ClassId} {q : Nat → Nat} {D : va_G} {A : Nat → Prop} {res : OS}  (C : Cx X cX6_laysAside RX6 2 D (gty cy) A 0 0 0) (hR : Rt X none D (gty cy) A 0 0 (eV (wX6 cy q res)))  (n : Nat) (v : OS × Int32) (ok : lpOk (kX6_laysAside_2  ) n v) (h : lp o0 (bX6_laysAside_2  ) n v = res) : At X D A 2 0 0 2 [(0, .ref (q 41)), (1, .int v.2)] [] (wX6 cy q v.1) :=
  lp_rule (fun v rr_ => rr_ = res → At X D A 2 0 0 2 [(0, .ref (q 41)), (1, .int v.2)] [] (wX6 cy q v.1)) (fun kR kO hk v ok h => wX6_laysAside_2  C hR  kR kO hk v ok h) n v ok h
def pX6_laysAside_0  (σ : OS) : OS := lp o0 (bX6_laysAside_2  ) fu (σ, 0)
def oX6_laysAside_0  (σ : OS) : Prop := lpOk (kX6_laysAside_2  ) fu (σ, 0)
set_option maxHeartbeats 4000000 in
set_option maxRecDepth 100000 in
theorem wX6_laysAside_0 {X : CX} {cy : Nat → ClassId} {q : Nat → Nat} {D : va_G} {A : Nat → Prop} {res : OS} (σ : OS) (C : Cx X cX6_laysAside RX6 2 D (gty cy) A 0 0 0) (hR : Rt X none D (gty cy) A 0 0 (eV (wX6 cy q res)))  (ok : oX6_laysAside_0  σ) (h : pX6_laysAside_0  σ = res) : At X D A 2 0 0 0 [(0, .ref (q 41))] [] (wX6 cy q σ) := by
  unfold pX6_laysAside_0 at h
  unfold oX6_laysAside_0 at ok
  refine r_iconst (v := 0) C (dall tdX6_laysAside 0 rfl) (by decide) ?_
  refine r_istore_n (lv' := [(1, .int 0), (0, .ref (q 41))]) C (dall tdX6_laysAside 1 rfl) (by decide) rfl ?_
  refine r_pick [1, 0] rfl ?_
  exact lX6_laysAside_2  C hR  fu _ ok h
def fX6_laysAside (σ : OS) : OS := pX6_laysAside_0  σ
def gX6_laysAside (σ : OS) : Prop := oX6_laysAside_0  σ
set_option maxRecDepth 100000 in
theorem zX6_laysAside (cy : Nat → ClassId) (q : Nat → Nat)  {D : va_G} (σ : OS) (ok : gX6_laysAside σ )  : Con yX6_laysAside cX6_laysAside 2 none 0 0 0 D (gty cy) [.ref (q 41)] (wX6 cy q σ) (eV (wX6 cy q (fX6_laysAside σ ))) :=
  Con.of (own := RX6) (by decide +kernel) rfl (Nat.le_of_ble_eq_true rfl) (Nat.zero_le _) (fun X A C hR _ => (wX6_laysAside_0 σ C hR  ok rfl))
theorem mv_X6_laysAside : MV yX6_laysAside cX6_laysAside 2 none RX6 0 := ⟨ki_X6_laysAside, kv_X6_laysAside, kn_X6, kc_X6_laysAside, by decide +kernel⟩
def tbX6_laysBack : List (Nat × Instr × Nat) := [(0, .iconst 0, 1), (1, .istore_n 1, 1), (2, .iload_n 1, 1), (3, .bipush 15, 2), (5, .if_icmp .ge 21, 3), (8, .aload_n 0, 1), (9, .getfield 29, 3), (12, .iload_n 1, 1), (13, .aload_n 0, 1), (14, .getfield 36, 3), (17, .iload_n 1, 1), (18, .iaload, 1), (19, .iastore, 1), (20, .iinc 1 1, 3), (23, .goto (-21), 3), (26, .iconst 0, 1), (27, .istore_n 1, 1), (28, .iload_n 1, 1), (29, .iconst 5, 1), (30, .if_icmp .ge 21, 3), (33, .aload_n 0, 1), (34, .getfield 32, 3), (37, .iload_n 1, 1), (38, .aload_n 0, 1), (39, .getfield 39, 3), (42, .iload_n 1, 1), (43, .laload, 1), (44, .lastore, 1), (45, .iinc 1 1, 3), (48, .goto (-20), 3), (51, .aload_n 0, 1), (52, .aload_n 0, 1), (53, .getfield 36, 3), (56, .bipush 15, 2), (58, .iaload, 1), (59, .putfield 115, 3), (62, .aload_n 0, 1), (63, .aload_n 0, 1), (64, .getfield 36, 3), (67, .bipush 16, 2), (69, .iaload, 1), (70, .putfield 358, 3), (73, .return_, 1)]
theorem tdX6_laysBack : tbX6_laysBack.all (fun q => decide (decode cX6_laysBack q.1 = .ok q.2)) = true := by decide +kernel
def bX6_laysBack_28   (kR28 : OS × Int32 → OS) (v : OS × Int32) : OS := if 5 ≤ v.2 then oI (oI v.1 7 (v.1.2.2.1 28 (15 : Int32).toNatClampNeg)) 8 ((oI v.1 7 (v.1.2.2.1 28 (15 : Int32).toNatClampNeg)).2.2.1 28 (16 : Int32).toNatClampNeg) else kR28 (oT v.1 11 v.2.toNatClampNeg (v.1.2.2.2 29 v.2.toNatClampNeg), v.2 + 1)
def kX6_laysBack_28   (kO28 : OS × Int32 → Prop) (v : OS × Int32) : Prop := (5 ≤ v.2 → (vp_in 15 17) ∧ (vp_in 16 17)) ∧ (¬ (5 ≤ v.2) → (vp_in v.2 5) ∧ ((vp_in v.2 5) ∧ (kO28 (oT v.1 11 v.2.toNatClampNeg (v.1.2.2.2 29 v.2.toNatClampNeg), v.2 + 1))))
set_option maxHeartbeats 4000000 in
set_option maxRecDepth 100000 in
theorem wX6_laysBack_28 {X : CX} {cy : Nat → ClassId} {q : Nat → Nat} {D : va_G} {A : Nat → Prop} {res : OS}  (C : Cx X cX6_laysBack RX6 2 D (gty cy) A 0 0 0) (hR : Rt X none D (gty cy) A 0 0 (eV (wX6 cy q res))) (kR28 : OS × Int32 → OS) (kO28 : OS × Int32 → Prop) (hk28 : ∀ z, kO28 z → kR28 z = res → At X D A 2 0 0 28 [(0, .ref (q 41)), (1, .int z.2)] [] (wX6 cy q z.1)) (v : OS × Int32) (ok : kX6_laysBack_28  kO28 v) (h : bX6_laysBack_28  kR28 v = res) : At X D A 2 0 0 28 [(0, .ref (q 41)), (1, .int v.2)] [] (wX6 cy q v.1) := by
  unfold bX6_laysBack_28 at h
  unfold kX6_laysBack_28 at ok
  refine r_iload_n C 1 (dall tdX6_laysBack 17 rfl) rfl ?_
  refine r_iconst (v := 5) C (dall tdX6_laysBack 18 rfl) (by decide) ?_
  refine r_icmp_ge (tgt := 51) C (dall tdX6_laysBack 19 rfl) (by decide) (fun c1 => ?_) (fun c1 => ?_)
  · have h := (if_pos c1).symm.trans h
    have ok := ok.1 c1
    refine r_aload_n C 0 (dall tdX6_laysBack 30 rfl) rfl ?_
    refine r_aload_n C 0 (dall tdX6_laysBack 31 rfl) rfl ?_
    refine r_get C 0 kw_X6 rfl rfl (by decide) kf_X6_36 rfl rfl (dall tdX6_laysBack 32 rfl) ?_
    refine r_bipush (v := 15) C (dall tdX6_laysBack 33 rfl) (by decide) ?_
    obtain ⟨o2, ok⟩ := ok
    refine r_iald C 6 0 rfl rfl o2 (dall tdX6_laysBack 34 rfl) ?_
    refine r_put C 0 kw_X6 tyX6_ok nmX6 rfl rfl (by decide) kf_X6_115 rfl rfl rfl rfl rfl (Nat.le_of_ble_eq_true rfl) (pu_X6_this_7 cy q v.1 (v.1.2.2.1 28 (15 : Int32).toNatClampNeg)) (dall tdX6_laysBack 35 rfl) ?_
    refine r_aload_n C 0 (dall tdX6_laysBack 36 rfl) rfl ?_
    refine r_aload_n C 0 (dall tdX6_laysBack 37 rfl) rfl ?_
    refine r_get C 0 kw_X6 rfl rfl (by decide) kf_X6_36 rfl rfl (dall tdX6_laysBack 38 rfl) ?_
    refine r_bipush (v := 16) C (dall tdX6_laysBack 39 rfl) (by decide) ?_
    have o3 := ok
    refine r_iald C 6 0 rfl rfl o3 (dall tdX6_laysBack 40 rfl) ?_
    refine r_put C 0 kw_X6 tyX6_ok nmX6 rfl rfl (by decide) kf_X6_358 rfl rfl rfl rfl rfl (Nat.le_of_ble_eq_true rfl) (pu_X6_this_8 cy q (oI v.1 7 (v.1.2.2.1 28 (15 : Int32).toNatClampNeg)) ((oI v.1 7 (v.1.2.2.1 28 (15 : Int32).toNatClampNeg)).2.2.1 28 (16 : Int32).toNatClampNeg)) (dall tdX6_laysBack 41 rfl) ?_
    exact r_vret C hR (dall tdX6_laysBack 42 rfl) (by subst h; exact ⟨rfl, rfl⟩)
  · have h := (if_neg c1).symm.trans h
    have ok := ok.2 c1
    refine r_aload_n C 0 (dall tdX6_laysBack 20 rfl) rfl ?_
    refine r_get C 0 kw_X6 rfl rfl (by decide) kf_X6_32 rfl rfl (dall tdX6_laysBack 21 rfl) ?_
    refine r_iload_n C 1 (dall tdX6_laysBack 22 rfl) rfl ?_
    refine r_aload_n C 0 (dall tdX6_laysBack 23 rfl) rfl ?_
    refine r_get C 0 kw_X6 rfl rfl (by decide) kf_X6_39 rfl rfl (dall tdX6_laysBack 24 rfl) ?_
    refine r_iload_n C 1 (dall tdX6_laysBack 25 rfl) rfl ?_
    obtain ⟨o4, ok⟩ := ok
    refine r_lald C 7 1 rfl rfl o4 (dall tdX6_laysBack 26 rfl) ?_
    obtain ⟨o5, ok⟩ := ok
    refine r_last C 5 1 rfl rfl o5 (pa_X6_this_11 cy q v.1 v.2.toNatClampNeg (v.1.2.2.2 29 v.2.toNatClampNeg)) (dall tdX6_laysBack 27 rfl) ?_
    refine r_iinc (v := v.2 + 1) (lv' := [(1, .int (v.2 + 1)), (0, .ref (q 41))]) C 1 (dall tdX6_laysBack 28 rfl) rfl rfl (by decide) rfl ?_
    refine r_goto (tgt := 28) C (dall tdX6_laysBack 29 rfl) (by decide) ?_
    refine r_pick [1, 0] rfl ?_
    exact hk28 (oT v.1 11 v.2.toNatClampNeg (v.1.2.2.2 29 v.2.toNatClampNeg), v.2 + 1) ok h
set_option maxHeartbeats 4000000 in
set_option maxRecDepth 100000 in
theorem lX6_laysBack_28 {X : CX} {cy : Nat → ClassId} {q : Nat → Nat} {D : va_G} {A : Nat → Prop} {res : OS}  (C : Cx X cX6_laysBack RX6 2 D (gty cy) A 0 0 0) (hR : Rt X none D (gty cy) A 0 0 (eV (wX6 cy q res)))  (n : Nat) (v : OS × Int32) (ok : lpOk (kX6_laysBack_28  ) n v) (h : lp o0 (bX6_laysBack_28  ) n v = res) : At X D A 2 0 0 28 [(0, .ref (q 41)), (1, .int v.2)] [] (wX6 cy q v.1) :=
  lp_rule (fun v rr_ => rr_ = res → At X D A 2 0 0 28 [(0, .ref (q 41)), (1, .int v.2)] [] (wX6 cy q v.1)) (fun kR kO hk v ok h => wX6_laysBack_28  C hR  kR kO hk v ok h) n v ok h
def bX6_laysBack_2   (kR2 : OS × Int32 → OS) (v : OS × Int32) : OS := if 15 ≤ v.2 then lp o0 (bX6_laysBack_28  ) fu (v.1, 0) else kR2 (oS v.1 10 v.2.toNatClampNeg (v.1.2.2.1 28 v.2.toNatClampNeg), v.2 + 1)
def kX6_laysBack_2   (kO2 : OS × Int32 → Prop) (v : OS × Int32) : Prop := (15 ≤ v.2 → lpOk (kX6_laysBack_28  ) fu (v.1, 0)) ∧ (¬ (15 ≤ v.2) → (vp_in v.2 17) ∧ ((vp_in v.2 15) ∧ (kO2 (oS v.1 10 v.2.toNatClampNeg (v.1.2.2.1 28 v.2.toNatClampNeg), v.2 + 1))))
set_option maxHeartbeats 4000000 in
set_option maxRecDepth 100000 in
theorem wX6_laysBack_2 {X : CX} {cy : Nat → ClassId} {q : Nat → Nat} {D : va_G} {A : Nat → Prop} {res : OS}  (C : Cx X cX6_laysBack RX6 2 D (gty cy) A 0 0 0) (hR : Rt X none D (gty cy) A 0 0 (eV (wX6 cy q res))) (kR2 : OS × Int32 → OS) (kO2 : OS × Int32 → Prop) (hk2 : ∀ z, kO2 z → kR2 z = res → At X D A 2 0 0 2 [(0, .ref (q 41)), (1, .int z.2)] [] (wX6 cy q z.1)) (v : OS × Int32) (ok : kX6_laysBack_2  kO2 v) (h : bX6_laysBack_2  kR2 v = res) : At X D A 2 0 0 2 [(0, .ref (q 41)), (1, .int v.2)] [] (wX6 cy q v.1) := by
  unfold bX6_laysBack_2 at h
  unfold kX6_laysBack_2 at ok
  refine r_iload_n C 1 (dall tdX6_laysBack 2 rfl) rfl ?_
  refine r_bipush (v := 15) C (dall tdX6_laysBack 3 rfl) (by decide) ?_
  refine r_icmp_ge (tgt := 26) C (dall tdX6_laysBack 4 rfl) (by decide) (fun c6 => ?_) (fun c6 => ?_)
  · have h := (if_pos c6).symm.trans h
    have ok := ok.1 c6
    refine r_iconst (v := 0) C (dall tdX6_laysBack 15 rfl) (by decide) ?_
    refine r_istore_n (lv' := [(1, .int 0), (0, .ref (q 41))]) C (dall tdX6_laysBack 16 rfl) (by decide) rfl ?_
    refine r_pick [1, 0] rfl ?_
    exact lX6_laysBack_28  C hR  fu _ ok h
  · have h := (if_neg c6).symm.trans h
    have ok := ok.2 c6
    refine r_aload_n C 0 (dall tdX6_laysBack 5 rfl) rfl ?_
    refine r_get C 0 kw_X6 rfl rfl (by decide) kf_X6_29 rfl rfl (dall tdX6_laysBack 6 rfl) ?_
    refine r_iload_n C 1 (dall tdX6_laysBack 7 rfl) rfl ?_
    refine r_aload_n C 0 (dall tdX6_laysBack 8 rfl) rfl ?_
    refine r_get C 0 kw_X6 rfl rfl (by decide) kf_X6_36 rfl rfl (dall tdX6_laysBack 9 rfl) ?_
    refine r_iload_n C 1 (dall tdX6_laysBack 10 rfl) rfl ?_
    obtain ⟨o7, ok⟩ := ok
    refine r_iald C 6 0 rfl rfl o7 (dall tdX6_laysBack 11 rfl) ?_
    obtain ⟨o8, ok⟩ := ok
    refine r_iast C 4 0 rfl rfl o8 (pa_X6_this_10 cy q v.1 v.2.toNatClampNeg (v.1.2.2.1 28 v.2.toNatClampNeg)) (dall tdX6_laysBack 12 rfl) ?_
    refine r_iinc (v := v.2 + 1) (lv' := [(1, .int (v.2 + 1)), (0, .ref (q 41))]) C 1 (dall tdX6_laysBack 13 rfl) rfl rfl (by decide) rfl ?_
    refine r_goto (tgt := 2) C (dall tdX6_laysBack 14 rfl) (by decide) ?_
    refine r_pick [1, 0] rfl ?_
    exact hk2 (oS v.1 10 v.2.toNatClampNeg (v.1.2.2.1 28 v.2.toNatClampNeg), v.2 + 1) ok h
set_option maxHeartbeats 4000000 in
set_option maxRecDepth 100000 in
theorem lX6_laysBack_2 {X : CX} {cy : Nat → ClassId} {q : Nat → Nat} {D : va_G} {A : Nat → Prop} {res : OS}  (C : Cx X cX6_laysBack RX6 2 D (gty cy) A 0 0 0) (hR : Rt X none D (gty cy) A 0 0 (eV (wX6 cy q res)))  (n : Nat) (v : OS × Int32) (ok : lpOk (kX6_laysBack_2  ) n v) (h : lp o0 (bX6_laysBack_2  ) n v = res) : At X D A 2 0 0 2 [(0, .ref (q 41)), (1, .int v.2)] [] (wX6 cy q v.1) :=
  lp_rule (fun v rr_ => rr_ = res → At X D A 2 0 0 2 [(0, .ref (q 41)), (1, .int v.2)] [] (wX6 cy q v.1)) (fun kR kO hk v ok h => wX6_laysBack_2  C hR  kR kO hk v ok h) n v ok h
def pX6_laysBack_0  (σ : OS) : OS := lp o0 (bX6_laysBack_2  ) fu (σ, 0)
def oX6_laysBack_0  (σ : OS) : Prop := lpOk (kX6_laysBack_2  ) fu (σ, 0)
set_option maxHeartbeats 4000000 in
set_option maxRecDepth 100000 in
theorem wX6_laysBack_0 {X : CX} {cy : Nat → ClassId} {q : Nat → Nat} {D : va_G} {A : Nat → Prop} {res : OS} (σ : OS) (C : Cx X cX6_laysBack RX6 2 D (gty cy) A 0 0 0) (hR : Rt X none D (gty cy) A 0 0 (eV (wX6 cy q res)))  (ok : oX6_laysBack_0  σ) (h : pX6_laysBack_0  σ = res) : At X D A 2 0 0 0 [(0, .ref (q 41))] [] (wX6 cy q σ) := by
  unfold pX6_laysBack_0 at h
  unfold oX6_laysBack_0 at ok
  refine r_iconst (v := 0) C (dall tdX6_laysBack 0 rfl) (by decide) ?_
  refine r_istore_n (lv' := [(1, .int 0), (0, .ref (q 41))]) C (dall tdX6_laysBack 1 rfl) (by decide) rfl ?_
  refine r_pick [1, 0] rfl ?_
  exact lX6_laysBack_2  C hR  fu _ ok h
def fX6_laysBack (σ : OS) : OS := pX6_laysBack_0  σ
def gX6_laysBack (σ : OS) : Prop := oX6_laysBack_0  σ
set_option maxRecDepth 100000 in
theorem zX6_laysBack (cy : Nat → ClassId) (q : Nat → Nat)  {D : va_G} (σ : OS) (ok : gX6_laysBack σ )  : Con yX6_laysBack cX6_laysBack 2 none 0 0 0 D (gty cy) [.ref (q 41)] (wX6 cy q σ) (eV (wX6 cy q (fX6_laysBack σ ))) :=
  Con.of (own := RX6) (by decide +kernel) rfl (Nat.le_of_ble_eq_true rfl) (Nat.zero_le _) (fun X A C hR _ => (wX6_laysBack_0 σ C hR  ok rfl))
theorem mv_X6_laysBack : MV yX6_laysBack cX6_laysBack 2 none RX6 0 := ⟨ki_X6_laysBack, kv_X6_laysBack, kn_X6, kc_X6_laysBack, by decide +kernel⟩
def tbX6_go : List (Nat × Instr × Nat) := [(0, .iconst 0, 1), (1, .istore_n 2, 1), (2, .iload_n 2, 1), (3, .iload_n 1, 1), (4, .if_icmp .ge 14, 3), (7, .aload_n 0, 1), (8, .invokevirtual 400, 3), (11, .pop, 1), (12, .iinc 2 1, 3), (15, .goto (-13), 3), (18, .return_, 1)]
theorem tdX6_go : tbX6_go.all (fun q => decide (decode cX6_go q.1 = .ok q.2)) = true := by decide +kernel
def pX6_go_11 (kR2 : OS × Int32 → OS) (σ : OS) (a1_ : Int32) (a2_ : Int32) (b0_ : Int32) : OS := kR2 (σ, a2_ + 1)
def oX6_go_11 (kO2 : OS × Int32 → Prop) (σ : OS) (a1_ : Int32) (a2_ : Int32) (b0_ : Int32) : Prop := kO2 (σ, a2_ + 1)
set_option maxHeartbeats 4000000 in
set_option maxRecDepth 100000 in
theorem wX6_go_11 {X : CX} {cy : Nat → ClassId} {q : Nat → Nat} {D : va_G} {A : Nat → Prop} {res : OS} (σ : OS) (a1_ : Int32) (a2_ : Int32) (b0_ : Int32) (C : Cx X cX6_go RX6 3 D (gty cy) A 45 0 0) (hR : Rt X none D (gty cy) A 0 0 (eV (wX6 cy q res))) (kR2 : OS × Int32 → OS) (kO2 : OS × Int32 → Prop) (hk2 : ∀ z, kO2 z → kR2 z = res → At X D A 3 0 0 2 [(0, .ref (q 41)), (1, .int a1_), (2, .int z.2)] [] (wX6 cy q z.1)) (ok : oX6_go_11 kO2 σ a1_ a2_ b0_) (h : pX6_go_11 kR2 σ a1_ a2_ b0_ = res) : At X D A 3 0 0 11 [(0, .ref (q 41)), (1, .int a1_), (2, .int a2_)] [.int b0_] (wX6 cy q σ) := by
  unfold pX6_go_11 at h
  unfold oX6_go_11 at ok
  refine r_pop C (dall tdX6_go 7 rfl) rfl ?_
  refine r_iinc (v := a2_ + 1) (lv' := [(2, .int (a2_ + 1)), (0, .ref (q 41)), (1, .int a1_)]) C 2 (dall tdX6_go 8 rfl) rfl rfl (by decide) rfl ?_
  refine r_goto (tgt := 2) C (dall tdX6_go 9 rfl) (by decide) ?_
  refine r_pick [1, 2, 0] rfl ?_
  exact hk2 (σ, a2_ + 1) ok h
def bX6_go_2 (a1_ : Int32)  (kR2 : OS × Int32 → OS) (v : OS × Int32) : OS := if a1_ ≤ v.2 then v.1 else pX6_go_11 kR2 ((fX6_passes v.1 ).2) a1_ v.2 ((fX6_passes v.1 ).1)
def kX6_go_2 (a1_ : Int32)  (kO2 : OS × Int32 → Prop) (v : OS × Int32) : Prop := (a1_ ≤ v.2 → True) ∧ (¬ (a1_ ≤ v.2) → (gX6_passes v.1 ) ∧ (oX6_go_11 kO2 ((fX6_passes v.1 ).2) a1_ v.2 ((fX6_passes v.1 ).1)))
set_option maxHeartbeats 4000000 in
set_option maxRecDepth 100000 in
theorem wX6_go_2 {X : CX} {cy : Nat → ClassId} {q : Nat → Nat} {D : va_G} {A : Nat → Prop} {res : OS} (a1_ : Int32) (C : Cx X cX6_go RX6 3 D (gty cy) A 45 0 0) (hR : Rt X none D (gty cy) A 0 0 (eV (wX6 cy q res))) (kR2 : OS × Int32 → OS) (kO2 : OS × Int32 → Prop) (hk2 : ∀ z, kO2 z → kR2 z = res → At X D A 3 0 0 2 [(0, .ref (q 41)), (1, .int a1_), (2, .int z.2)] [] (wX6 cy q z.1)) (v : OS × Int32) (ok : kX6_go_2 a1_ kO2 v) (h : bX6_go_2 a1_ kR2 v = res) : At X D A 3 0 0 2 [(0, .ref (q 41)), (1, .int a1_), (2, .int v.2)] [] (wX6 cy q v.1) := by
  unfold bX6_go_2 at h
  unfold kX6_go_2 at ok
  refine r_iload_n C 2 (dall tdX6_go 2 rfl) rfl ?_
  refine r_iload_n C 1 (dall tdX6_go 3 rfl) rfl ?_
  refine r_icmp_ge (tgt := 18) C (dall tdX6_go 4 rfl) (by decide) (fun c1 => ?_) (fun c1 => ?_)
  · have h := (if_pos c1).symm.trans h
    have ok := ok.1 c1
    exact r_vret C hR (dall tdX6_go 10 rfl) (by subst h; exact ⟨rfl, rfl⟩)
  · have h := (if_neg c1).symm.trans h
    have ok := ok.2 c1
    refine r_aload_n C 0 (dall tdX6_go 5 rfl) rfl ?_
    obtain ⟨o2, ok⟩ := ok
    refine r_vI (as := []) C (zX6_passes cy q v.1  o2) mv_X6_passes km_X6_400 (by decide) (by decide) ⟨Nat.le_refl _, Nat.le_refl _⟩ rfl rfl rfl rfl (Nat.le_of_ble_eq_true rfl) (dall tdX6_go 6 rfl) ?_
    exact wX6_go_11 ((fX6_passes v.1 ).2) a1_ v.2 ((fX6_passes v.1 ).1) C hR kR2 kO2 hk2 ok h
set_option maxHeartbeats 4000000 in
set_option maxRecDepth 100000 in
theorem lX6_go_2 {X : CX} {cy : Nat → ClassId} {q : Nat → Nat} {D : va_G} {A : Nat → Prop} {res : OS} (a1_ : Int32) (C : Cx X cX6_go RX6 3 D (gty cy) A 45 0 0) (hR : Rt X none D (gty cy) A 0 0 (eV (wX6 cy q res)))  (n : Nat) (v : OS × Int32) (ok : lpOk (kX6_go_2 a1_ ) n v) (h : lp o0 (bX6_go_2 a1_ ) n v = res) : At X D A 3 0 0 2 [(0, .ref (q 41)), (1, .int a1_), (2, .int v.2)] [] (wX6 cy q v.1) :=
  lp_rule (fun v rr_ => rr_ = res → At X D A 3 0 0 2 [(0, .ref (q 41)), (1, .int a1_), (2, .int v.2)] [] (wX6 cy q v.1)) (fun kR kO hk v ok h => wX6_go_2 a1_ C hR  kR kO hk v ok h) n v ok h
def pX6_go_0  (σ : OS) (a1_ : Int32) : OS := lp o0 (bX6_go_2 a1_ ) fu (σ, 0)
def oX6_go_0  (σ : OS) (a1_ : Int32) : Prop := lpOk (kX6_go_2 a1_ ) fu (σ, 0)
set_option maxHeartbeats 4000000 in
set_option maxRecDepth 100000 in
theorem wX6_go_0 {X : CX} {cy : Nat → ClassId} {q : Nat → Nat} {D : va_G} {A : Nat → Prop} {res : OS} (σ : OS) (a1_ : Int32) (C : Cx X cX6_go RX6 3 D (gty cy) A 45 0 0) (hR : Rt X none D (gty cy) A 0 0 (eV (wX6 cy q res)))  (ok : oX6_go_0  σ a1_) (h : pX6_go_0  σ a1_ = res) : At X D A 3 0 0 0 [(0, .ref (q 41)), (1, .int a1_)] [] (wX6 cy q σ) := by
  unfold pX6_go_0 at h
  unfold oX6_go_0 at ok
  refine r_iconst (v := 0) C (dall tdX6_go 0 rfl) (by decide) ?_
  refine r_istore_n (lv' := [(2, .int 0), (0, .ref (q 41)), (1, .int a1_)]) C (dall tdX6_go 1 rfl) (by decide) rfl ?_
  refine r_pick [1, 2, 0] rfl ?_
  exact lX6_go_2 a1_ C hR  fu _ ok h
def fX6_go (σ : OS) (a1_ : Int32) : OS := pX6_go_0  σ a1_
def gX6_go (σ : OS) (a1_ : Int32) : Prop := oX6_go_0  σ a1_
set_option maxRecDepth 100000 in
theorem zX6_go (cy : Nat → ClassId) (q : Nat → Nat)  {D : va_G} (σ : OS) (a1_ : Int32) (ok : gX6_go σ a1_)  : Con yX6_go cX6_go 3 none 45 0 0 D (gty cy) [.ref (q 41), .int a1_] (wX6 cy q σ) (eV (wX6 cy q (fX6_go σ a1_))) :=
  Con.of (own := RX6) (by decide +kernel) rfl (Nat.le_of_ble_eq_true rfl) (Nat.zero_le _) (fun X A C hR _ => (wX6_go_0 σ a1_ C hR  ok rfl))
theorem mv_X6_go : MV yX6_go cX6_go 3 none RX6 1 := ⟨ki_X6_go, kv_X6_go, kn_X6, kc_X6_go, by decide +kernel⟩
def tbX6_run : List (Nat × Instr × Nat) := [(0, .aload_n 0, 1), (1, .iload_n 1, 1), (2, .invokevirtual 90, 3), (5, .ifCond .eq 27, 3), (8, .iload_n 2, 1), (9, .i2l, 1), (10, .lconst 0, 1), (11, .ldc2_w 403, 3), (14, .invokestatic 74, 3), (17, .ifCond .eq 15, 3), (20, .iload_n 3, 1), (21, .i2l, 1), (22, .lconst 0, 1), (23, .ldc2_w 84, 3), (26, .invokestatic 74, 3), (29, .ifCond .ne 6, 3), (32, .bipush (-2), 2), (34, .ireturn, 1), (35, .aload_n 0, 1), (36, .invokevirtual 405, 3), (39, .aload_n 0, 1), (40, .iload_n 2, 1), (41, .invokevirtual 408, 3), (44, .iload_n 3, 1), (45, .ifCond .ne 13, 3), (48, .aload_n 0, 1), (49, .invokevirtual 80, 3), (52, .invokestatic 138, 3), (55, .goto 42, 3), (58, .iload_n 3, 1), (59, .iconst 1, 1), (60, .if_icmp .ne 15, 3), (63, .aload_n 0, 1), (64, .getfield 32, 3), (67, .iload_n 1, 1), (68, .laload, 1), (69, .invokestatic 138, 3), (72, .goto 25, 3), (75, .iload_n 3, 1), (76, .iconst 2, 1), (77, .if_icmp .ne 10, 3), (80, .aload_n 0, 1), (81, .getfield 358, 3), (84, .goto 13, 3), (87, .aload_n 0, 1), (88, .getfield 29, 3), (91, .iconst 3, 1), (92, .iload_n 1, 1), (93, .imul, 1), (94, .iconst 1, 1), (95, .iadd, 1), (96, .iaload, 1), (97, .istore 4, 2), (99, .aload_n 0, 1), (100, .invokevirtual 412, 3), (103, .iload 4, 2), (105, .ireturn, 1)]
theorem tdX6_run : tbX6_run.all (fun q => decide (decode cX6_run q.1 = .ok q.2)) = true := by decide +kernel
def pX6_run_103  (σ : OS) (a4_ : Int32) : Int32 × OS := (a4_, σ)
set_option maxHeartbeats 4000000 in
set_option maxRecDepth 100000 in
theorem wX6_run_103 {X : CX} {cy : Nat → ClassId} {q : Nat → Nat} {D : va_G} {A : Nat → Prop} {res : Int32 × OS} (σ : OS) (a4_ : Int32) (C : Cx X cX6_run RX6 5 D (gty cy) A 46 0 0) (hR : Rt X (some .int) D (gty cy) A 0 0 (eI (wX6 cy q res.2) res.1))  (h : pX6_run_103  σ a4_ = res) : At X D A 5 0 0 103 [(4, .int a4_)] [] (wX6 cy q σ) := by
  unfold pX6_run_103 at h
  refine r_iload C 0 (dall tdX6_run 55 rfl) rfl ?_
  exact r_iret C hR (dall tdX6_run 56 rfl) (by subst h; exact ⟨rfl, rfl⟩)
def pX6_run_97  (σ : OS) (b0_ : Int32) : Int32 × OS := pX6_run_103  (fX6_laysBack σ) b0_
def oX6_run_97  (σ : OS) (b0_ : Int32) : Prop := gX6_laysBack σ 
set_option maxHeartbeats 4000000 in
set_option maxRecDepth 100000 in
theorem wX6_run_97 {X : CX} {cy : Nat → ClassId} {q : Nat → Nat} {D : va_G} {A : Nat → Prop} {res : Int32 × OS} (σ : OS) (b0_ : Int32) (C : Cx X cX6_run RX6 5 D (gty cy) A 46 0 0) (hR : Rt X (some .int) D (gty cy) A 0 0 (eI (wX6 cy q res.2) res.1))  (ok : oX6_run_97  σ b0_) (h : pX6_run_97  σ b0_ = res) : At X D A 5 0 0 97 [(0, .ref (q 41))] [.int b0_] (wX6 cy q σ) := by
  unfold pX6_run_97 at h
  unfold oX6_run_97 at ok
  refine r_istore (lv' := [(4, .int b0_), (0, .ref (q 41))]) C (dall tdX6_run 52 rfl) (by decide) rfl ?_
  refine r_aload_n C 1 (dall tdX6_run 53 rfl) rfl ?_
  have o1 := ok
  refine r_vV (as := []) C (zX6_laysBack cy q σ  o1) mv_X6_laysBack km_X6_412 (by decide) (by decide) ⟨Nat.le_refl _, Nat.le_refl _⟩ rfl rfl rfl rfl (Nat.le_of_ble_eq_true rfl) (dall tdX6_run 54 rfl) ?_
  refine r_pick [0] rfl ?_
  exact wX6_run_103 (fX6_laysBack σ) b0_ C hR  h
def pX6_run_44  (σ : OS) (a1_ : Int32) (a3_ : Int32) : Int32 × OS := if a3_ = 0 then pX6_run_97  σ (fX6_bitsOf (fX6_putAll σ)) else if a3_ = 1 then pX6_run_97  σ (fX6_bitsOf (σ.2.2.2 11 a1_.toNatClampNeg)) else if a3_ = 2 then pX6_run_97  σ (σ.1 8) else pX6_run_97  σ (σ.2.2.1 10 ((3 * a1_) + 1).toNatClampNeg)
def oX6_run_44  (σ : OS) (a1_ : Int32) (a3_ : Int32) : Prop := (a3_ = 0 → (gX6_putAll σ ) ∧ ((gX6_bitsOf (fX6_putAll σ)) ∧ (oX6_run_97  σ (fX6_bitsOf (fX6_putAll σ))))) ∧ (¬ (a3_ = 0) → (a3_ = 1 → (vp_in a1_ 5) ∧ ((gX6_bitsOf (σ.2.2.2 11 a1_.toNatClampNeg)) ∧ (oX6_run_97  σ (fX6_bitsOf (σ.2.2.2 11 a1_.toNatClampNeg))))) ∧ (¬ (a3_ = 1) → (a3_ = 2 → oX6_run_97  σ (σ.1 8)) ∧ (¬ (a3_ = 2) → (vp_in ((3 * a1_) + 1) 15) ∧ (oX6_run_97  σ (σ.2.2.1 10 ((3 * a1_) + 1).toNatClampNeg)))))
set_option maxHeartbeats 4000000 in
set_option maxRecDepth 100000 in
theorem wX6_run_44 {X : CX} {cy : Nat → ClassId} {q : Nat → Nat} {D : va_G} {A : Nat → Prop} {res : Int32 × OS} (σ : OS) (a1_ : Int32) (a3_ : Int32) (C : Cx X cX6_run RX6 5 D (gty cy) A 46 0 0) (hR : Rt X (some .int) D (gty cy) A 0 0 (eI (wX6 cy q res.2) res.1))  (ok : oX6_run_44  σ a1_ a3_) (h : pX6_run_44  σ a1_ a3_ = res) : At X D A 5 0 0 44 [(0, .ref (q 41)), (1, .int a1_), (3, .int a3_)] [] (wX6 cy q σ) := by
  unfold pX6_run_44 at h
  unfold oX6_run_44 at ok
  refine r_iload_n C 2 (dall tdX6_run 23 rfl) rfl ?_
  refine r_if_ne (tgt := 58) C (dall tdX6_run 24 rfl) (by decide) (fun c2 => ?_) (fun c2 => ?_)
  · have h := (if_neg c2).symm.trans h
    have ok := ok.2 c2
    refine r_iload_n C 2 (dall tdX6_run 29 rfl) rfl ?_
    refine r_iconst (v := 1) C (dall tdX6_run 30 rfl) (by decide) ?_
    refine r_icmp_ne (tgt := 75) C (dall tdX6_run 31 rfl) (by decide) (fun c3 => ?_) (fun c3 => ?_)
    · have h := (if_neg c3).symm.trans h
      have ok := ok.2 c3
      refine r_iload_n C 2 (dall tdX6_run 38 rfl) rfl ?_
      refine r_iconst (v := 2) C (dall tdX6_run 39 rfl) (by decide) ?_
      refine r_icmp_ne (tgt := 87) C (dall tdX6_run 40 rfl) (by decide) (fun c4 => ?_) (fun c4 => ?_)
      · have h := (if_neg c4).symm.trans h
        have ok := ok.2 c4
        refine r_aload_n C 0 (dall tdX6_run 44 rfl) rfl ?_
        refine r_get C 0 kw_X6 rfl rfl (by decide) kf_X6_29 rfl rfl (dall tdX6_run 45 rfl) ?_
        refine r_iconst (v := 3) C (dall tdX6_run 46 rfl) (by decide) ?_
        refine r_iload_n C 1 (dall tdX6_run 47 rfl) rfl ?_
        refine r_imul C (dall tdX6_run 48 rfl) ?_
        refine r_iconst (v := 1) C (dall tdX6_run 49 rfl) (by decide) ?_
        refine r_iadd C (dall tdX6_run 50 rfl) ?_
        obtain ⟨o5, ok⟩ := ok
        refine r_iald C 4 0 rfl rfl o5 (dall tdX6_run 51 rfl) ?_
        refine r_pick [0] rfl ?_
        exact wX6_run_97 σ (σ.2.2.1 10 ((3 * a1_) + 1).toNatClampNeg) C hR  ok h
      · have h := (if_pos c4).symm.trans h
        have ok := ok.1 c4
        refine r_aload_n C 0 (dall tdX6_run 41 rfl) rfl ?_
        refine r_get C 0 kw_X6 rfl rfl (by decide) kf_X6_358 rfl rfl (dall tdX6_run 42 rfl) ?_
        refine r_goto (tgt := 97) C (dall tdX6_run 43 rfl) (by decide) ?_
        refine r_pick [0] rfl ?_
        exact wX6_run_97 σ (σ.1 8) C hR  ok h
    · have h := (if_pos c3).symm.trans h
      have ok := ok.1 c3
      refine r_aload_n C 0 (dall tdX6_run 32 rfl) rfl ?_
      refine r_get C 0 kw_X6 rfl rfl (by decide) kf_X6_32 rfl rfl (dall tdX6_run 33 rfl) ?_
      refine r_iload_n C 1 (dall tdX6_run 34 rfl) rfl ?_
      obtain ⟨o6, ok⟩ := ok
      refine r_lald C 5 1 rfl rfl o6 (dall tdX6_run 35 rfl) ?_
      obtain ⟨o7, ok⟩ := ok
      refine r_s0I (as := [.long (σ.2.2.2 11 a1_.toNatClampNeg)]) C (zX6_bitsOf (σ.2.2.2 11 a1_.toNatClampNeg) o7) ms_X6_bitsOf km_X6_138 (by decide) (by decide) ⟨Nat.le_refl _, Nat.le_refl _⟩ rfl rfl (Nat.le_of_ble_eq_true rfl) (dall tdX6_run 36 rfl) ?_
      refine r_goto (tgt := 97) C (dall tdX6_run 37 rfl) (by decide) ?_
      refine r_pick [0] rfl ?_
      exact wX6_run_97 σ (fX6_bitsOf (σ.2.2.2 11 a1_.toNatClampNeg)) C hR  ok h
  · have h := (if_pos c2).symm.trans h
    have ok := ok.1 c2
    refine r_aload_n C 0 (dall tdX6_run 25 rfl) rfl ?_
    obtain ⟨o8, ok⟩ := ok
    refine r_vL (as := []) C (zX6_putAll cy q σ  o8) mv_X6_putAll km_X6_80 (by decide) (by decide) ⟨Nat.le_refl _, Nat.le_refl _⟩ rfl rfl rfl rfl (Nat.le_of_ble_eq_true rfl) (dall tdX6_run 26 rfl) ?_
    obtain ⟨o9, ok⟩ := ok
    refine r_s0I (as := [.long (fX6_putAll σ)]) C (zX6_bitsOf (fX6_putAll σ) o9) ms_X6_bitsOf km_X6_138 (by decide) (by decide) ⟨Nat.le_refl _, Nat.le_refl _⟩ rfl rfl (Nat.le_of_ble_eq_true rfl) (dall tdX6_run 27 rfl) ?_
    refine r_goto (tgt := 97) C (dall tdX6_run 28 rfl) (by decide) ?_
    refine r_pick [0] rfl ?_
    exact wX6_run_97 σ (fX6_bitsOf (fX6_putAll σ)) C hR  ok h
def pX6_run_39  (σ : OS) (a1_ : Int32) (a2_ : Int32) (a3_ : Int32) : Int32 × OS := pX6_run_44  (fX6_go σ a2_) a1_ a3_
def oX6_run_39  (σ : OS) (a1_ : Int32) (a2_ : Int32) (a3_ : Int32) : Prop := (gX6_go σ a2_) ∧ (oX6_run_44  (fX6_go σ a2_) a1_ a3_)
set_option maxHeartbeats 4000000 in
set_option maxRecDepth 100000 in
theorem wX6_run_39 {X : CX} {cy : Nat → ClassId} {q : Nat → Nat} {D : va_G} {A : Nat → Prop} {res : Int32 × OS} (σ : OS) (a1_ : Int32) (a2_ : Int32) (a3_ : Int32) (C : Cx X cX6_run RX6 5 D (gty cy) A 46 0 0) (hR : Rt X (some .int) D (gty cy) A 0 0 (eI (wX6 cy q res.2) res.1))  (ok : oX6_run_39  σ a1_ a2_ a3_) (h : pX6_run_39  σ a1_ a2_ a3_ = res) : At X D A 5 0 0 39 [(0, .ref (q 41)), (1, .int a1_), (2, .int a2_), (3, .int a3_)] [] (wX6 cy q σ) := by
  unfold pX6_run_39 at h
  unfold oX6_run_39 at ok
  refine r_aload_n C 0 (dall tdX6_run 20 rfl) rfl ?_
  refine r_iload_n C 2 (dall tdX6_run 21 rfl) rfl ?_
  obtain ⟨o10, ok⟩ := ok
  refine r_vV (as := [.int a2_]) C (zX6_go cy q σ a2_ o10) mv_X6_go km_X6_408 (by decide) (by decide) ⟨Nat.le_refl _, Nat.le_refl _⟩ rfl rfl rfl rfl (Nat.le_of_ble_eq_true rfl) (dall tdX6_run 22 rfl) ?_
  refine r_pick [0, 1, 3] rfl ?_
  exact wX6_run_44 (fX6_go σ a2_) a1_ a3_ C hR  ok h
def pX6_run_0  (σ : OS) (a1_ : Int32) (a2_ : Int32) (a3_ : Int32) : Int32 × OS := if (fX6_isOne σ a1_) = 0 then ((-2), σ) else if (fX6_in a2_.toInt64 0 (40)) = 0 then ((-2), σ) else if (fX6_in a3_.toInt64 0 (3)) = 0 then ((-2), σ) else pX6_run_39  (fX6_laysAside σ) a1_ a2_ a3_
def oX6_run_0  (σ : OS) (a1_ : Int32) (a2_ : Int32) (a3_ : Int32) : Prop := (gX6_isOne σ a1_) ∧ (((fX6_isOne σ a1_) = 0 → True) ∧ (¬ ((fX6_isOne σ a1_) = 0) → ((fX6_in a2_.toInt64 0 (40)) = 0 → True) ∧ (¬ ((fX6_in a2_.toInt64 0 (40)) = 0) → ((fX6_in a3_.toInt64 0 (3)) = 0 → True) ∧ (¬ ((fX6_in a3_.toInt64 0 (3)) = 0) → (gX6_laysAside σ ) ∧ (oX6_run_39  (fX6_laysAside σ) a1_ a2_ a3_)))))
set_option maxHeartbeats 4000000 in
set_option maxRecDepth 100000 in
theorem wX6_run_0 {X : CX} {cy : Nat → ClassId} {q : Nat → Nat} {D : va_G} {A : Nat → Prop} {res : Int32 × OS} (σ : OS) (a1_ : Int32) (a2_ : Int32) (a3_ : Int32) (C : Cx X cX6_run RX6 5 D (gty cy) A 46 0 0) (hR : Rt X (some .int) D (gty cy) A 0 0 (eI (wX6 cy q res.2) res.1))  (ok : oX6_run_0  σ a1_ a2_ a3_) (h : pX6_run_0  σ a1_ a2_ a3_ = res) : At X D A 5 0 0 0 [(0, .ref (q 41)), (1, .int a1_), (2, .int a2_), (3, .int a3_)] [] (wX6 cy q σ) := by
  unfold pX6_run_0 at h
  unfold oX6_run_0 at ok
  refine r_aload_n C 0 (dall tdX6_run 0 rfl) rfl ?_
  refine r_iload_n C 1 (dall tdX6_run 1 rfl) rfl ?_
  obtain ⟨o11, ok⟩ := ok
  refine r_vI (as := [.int a1_]) C (zX6_isOne cy q σ a1_ o11) mv_X6_isOne km_X6_90 (by decide) (by decide) ⟨Nat.le_refl _, Nat.le_refl _⟩ rfl rfl rfl rfl (Nat.le_of_ble_eq_true rfl) (dall tdX6_run 2 rfl) ?_
  refine r_if_eq (tgt := 32) C (dall tdX6_run 3 rfl) (by decide) (fun c12 => ?_) (fun c12 => ?_)
  · have h := (if_pos c12).symm.trans h
    have ok := ok.1 c12
    refine r_bipush (v := -2) C (dall tdX6_run 16 rfl) (by decide) ?_
    exact r_iret C hR (dall tdX6_run 17 rfl) (by subst h; exact ⟨rfl, rfl⟩)
  · have h := (if_neg c12).symm.trans h
    have ok := ok.2 c12
    refine r_iload_n C 2 (dall tdX6_run 4 rfl) rfl ?_
    refine r_i2l C (dall tdX6_run 5 rfl) ?_
    refine r_lconst (v := 0) C (dall tdX6_run 6 rfl) (by decide) ?_
    refine r_ldc2 C kk_X6_403 (dall tdX6_run 7 rfl) ?_
    refine r_s0I (as := [.long a2_.toInt64, .long 0, .long (40)]) C (zX6_in a2_.toInt64 0 (40) ) ms_X6_in km_X6_74 (by decide) (by decide) ⟨Nat.le_refl _, Nat.le_refl _⟩ rfl rfl (Nat.le_of_ble_eq_true rfl) (dall tdX6_run 8 rfl) ?_
    refine r_if_eq (tgt := 32) C (dall tdX6_run 9 rfl) (by decide) (fun c13 => ?_) (fun c13 => ?_)
    · have h := (if_pos c13).symm.trans h
      have ok := ok.1 c13
      refine r_bipush (v := -2) C (dall tdX6_run 16 rfl) (by decide) ?_
      exact r_iret C hR (dall tdX6_run 17 rfl) (by subst h; exact ⟨rfl, rfl⟩)
    · have h := (if_neg c13).symm.trans h
      have ok := ok.2 c13
      refine r_iload_n C 3 (dall tdX6_run 10 rfl) rfl ?_
      refine r_i2l C (dall tdX6_run 11 rfl) ?_
      refine r_lconst (v := 0) C (dall tdX6_run 12 rfl) (by decide) ?_
      refine r_ldc2 C kk_X6_84 (dall tdX6_run 13 rfl) ?_
      refine r_s0I (as := [.long a3_.toInt64, .long 0, .long (3)]) C (zX6_in a3_.toInt64 0 (3) ) ms_X6_in km_X6_74 (by decide) (by decide) ⟨Nat.le_refl _, Nat.le_refl _⟩ rfl rfl (Nat.le_of_ble_eq_true rfl) (dall tdX6_run 14 rfl) ?_
      refine r_if_ne (tgt := 35) C (dall tdX6_run 15 rfl) (by decide) (fun c14 => ?_) (fun c14 => ?_)
      · have h := (if_neg c14).symm.trans h
        have ok := ok.2 c14
        refine r_aload_n C 0 (dall tdX6_run 18 rfl) rfl ?_
        obtain ⟨o15, ok⟩ := ok
        refine r_vV (as := []) C (zX6_laysAside cy q σ  o15) mv_X6_laysAside km_X6_405 (by decide) (by decide) ⟨Nat.le_refl _, Nat.le_refl _⟩ rfl rfl rfl rfl (Nat.le_of_ble_eq_true rfl) (dall tdX6_run 19 rfl) ?_
        exact wX6_run_39 (fX6_laysAside σ) a1_ a2_ a3_ C hR  ok h
      · have h := (if_pos c14).symm.trans h
        have ok := ok.1 c14
        refine r_bipush (v := -2) C (dall tdX6_run 16 rfl) (by decide) ?_
        exact r_iret C hR (dall tdX6_run 17 rfl) (by subst h; exact ⟨rfl, rfl⟩)
def fX6_run (σ : OS) (a1_ : Int32) (a2_ : Int32) (a3_ : Int32) : Int32 × OS := pX6_run_0  σ a1_ a2_ a3_
def gX6_run (σ : OS) (a1_ : Int32) (a2_ : Int32) (a3_ : Int32) : Prop := oX6_run_0  σ a1_ a2_ a3_
set_option maxRecDepth 100000 in
theorem zX6_run (cy : Nat → ClassId) (q : Nat → Nat)  {D : va_G} (σ : OS) (a1_ : Int32) (a2_ : Int32) (a3_ : Int32) (ok : gX6_run σ a1_ a2_ a3_)  : Con yX6_run cX6_run 5 (some .int) 46 0 0 D (gty cy) [.ref (q 41), .int a1_, .int a2_, .int a3_] (wX6 cy q σ) (eI (wX6 cy q (fX6_run σ a1_ a2_ a3_).2) (fX6_run σ a1_ a2_ a3_).1) :=
  Con.of (own := RX6) (by decide +kernel) rfl (Nat.le_of_ble_eq_true rfl) (Nat.zero_le _) (fun X A C hR _ => (wX6_run_0 σ a1_ a2_ a3_ C hR  ok rfl))
theorem mv_X6_run : MV yX6_run cX6_run 5 (some .int) RX6 3 := ⟨ki_X6_run, kv_X6_run, kn_X6, kc_X6_run, by decide +kernel⟩
def tbX6_later : List (Nat × Instr × Nat) := [(0, .iload_n 1, 1), (1, .i2l, 1), (2, .lconst 0, 1), (3, .ldc2_w 403, 3), (6, .invokestatic 74, 3), (9, .ifCond .ne 7, 3), (12, .ldc2_w 145, 3), (15, .lreturn, 1), (16, .aload_n 0, 1), (17, .invokevirtual 405, 3), (20, .aload_n 0, 1), (21, .iload_n 1, 1), (22, .invokevirtual 408, 3), (25, .aload_n 0, 1), (26, .invokevirtual 147, 3), (29, .lstore_n 2, 1), (30, .aload_n 0, 1), (31, .invokevirtual 412, 3), (34, .lload_n 2, 1), (35, .lreturn, 1)]
theorem tdX6_later : tbX6_later.all (fun q => decide (decode cX6_later q.1 = .ok q.2)) = true := by decide +kernel
def pX6_later_34  (σ : OS) (a2_ : Int64) : Int64 × OS := (a2_, σ)
set_option maxHeartbeats 4000000 in
set_option maxRecDepth 100000 in
theorem wX6_later_34 {X : CX} {cy : Nat → ClassId} {q : Nat → Nat} {D : va_G} {A : Nat → Prop} {res : Int64 × OS} (σ : OS) (a2_ : Int64) (C : Cx X cX6_later RX6 4 D (gty cy) A 46 0 0) (hR : Rt X (some .long) D (gty cy) A 0 0 (eL (wX6 cy q res.2) res.1))  (h : pX6_later_34  σ a2_ = res) : At X D A 4 0 0 34 [(2, .long a2_)] [] (wX6 cy q σ) := by
  unfold pX6_later_34 at h
  refine r_lload_n C 0 (dall tdX6_later 18 rfl) rfl ?_
  exact r_lret C hR (dall tdX6_later 19 rfl) (by subst h; exact ⟨rfl, rfl⟩)
def pX6_later_25  (σ : OS) : Int64 × OS := pX6_later_34  (fX6_laysBack σ) (fX6_stands σ)
def oX6_later_25  (σ : OS) : Prop := (gX6_stands σ ) ∧ (gX6_laysBack σ)
set_option maxHeartbeats 4000000 in
set_option maxRecDepth 100000 in
theorem wX6_later_25 {X : CX} {cy : Nat → ClassId} {q : Nat → Nat} {D : va_G} {A : Nat → Prop} {res : Int64 × OS} (σ : OS) (C : Cx X cX6_later RX6 4 D (gty cy) A 46 0 0) (hR : Rt X (some .long) D (gty cy) A 0 0 (eL (wX6 cy q res.2) res.1))  (ok : oX6_later_25  σ) (h : pX6_later_25  σ = res) : At X D A 4 0 0 25 [(0, .ref (q 41))] [] (wX6 cy q σ) := by
  unfold pX6_later_25 at h
  unfold oX6_later_25 at ok
  refine r_aload_n C 0 (dall tdX6_later 13 rfl) rfl ?_
  obtain ⟨o1, ok⟩ := ok
  refine r_vL (as := []) C (zX6_stands cy q σ  o1) mv_X6_stands km_X6_147 (by decide) (by decide) ⟨Nat.le_refl _, Nat.le_refl _⟩ rfl rfl rfl rfl (Nat.le_of_ble_eq_true rfl) (dall tdX6_later 14 rfl) ?_
  refine r_lstore_n (lv' := [(2, .long (fX6_stands σ)), (0, .ref (q 41))]) C (dall tdX6_later 15 rfl) (by decide) rfl ?_
  refine r_aload_n C 1 (dall tdX6_later 16 rfl) rfl ?_
  have o2 := ok
  refine r_vV (as := []) C (zX6_laysBack cy q σ  o2) mv_X6_laysBack km_X6_412 (by decide) (by decide) ⟨Nat.le_refl _, Nat.le_refl _⟩ rfl rfl rfl rfl (Nat.le_of_ble_eq_true rfl) (dall tdX6_later 17 rfl) ?_
  refine r_pick [0] rfl ?_
  exact wX6_later_34 (fX6_laysBack σ) (fX6_stands σ) C hR  h
def pX6_later_20  (σ : OS) (a1_ : Int32) : Int64 × OS := pX6_later_25  (fX6_go σ a1_)
def oX6_later_20  (σ : OS) (a1_ : Int32) : Prop := (gX6_go σ a1_) ∧ (oX6_later_25  (fX6_go σ a1_))
set_option maxHeartbeats 4000000 in
set_option maxRecDepth 100000 in
theorem wX6_later_20 {X : CX} {cy : Nat → ClassId} {q : Nat → Nat} {D : va_G} {A : Nat → Prop} {res : Int64 × OS} (σ : OS) (a1_ : Int32) (C : Cx X cX6_later RX6 4 D (gty cy) A 46 0 0) (hR : Rt X (some .long) D (gty cy) A 0 0 (eL (wX6 cy q res.2) res.1))  (ok : oX6_later_20  σ a1_) (h : pX6_later_20  σ a1_ = res) : At X D A 4 0 0 20 [(0, .ref (q 41)), (1, .int a1_)] [] (wX6 cy q σ) := by
  unfold pX6_later_20 at h
  unfold oX6_later_20 at ok
  refine r_aload_n C 0 (dall tdX6_later 10 rfl) rfl ?_
  refine r_iload_n C 1 (dall tdX6_later 11 rfl) rfl ?_
  obtain ⟨o3, ok⟩ := ok
  refine r_vV (as := [.int a1_]) C (zX6_go cy q σ a1_ o3) mv_X6_go km_X6_408 (by decide) (by decide) ⟨Nat.le_refl _, Nat.le_refl _⟩ rfl rfl rfl rfl (Nat.le_of_ble_eq_true rfl) (dall tdX6_later 12 rfl) ?_
  refine r_pick [0] rfl ?_
  exact wX6_later_25 (fX6_go σ a1_) C hR  ok h
def pX6_later_0  (σ : OS) (a1_ : Int32) : Int64 × OS := if (fX6_in a1_.toInt64 0 (40)) = 0 then ((-4611686018427387904), σ) else pX6_later_20  (fX6_laysAside σ) a1_
def oX6_later_0  (σ : OS) (a1_ : Int32) : Prop := ((fX6_in a1_.toInt64 0 (40)) = 0 → True) ∧ (¬ ((fX6_in a1_.toInt64 0 (40)) = 0) → (gX6_laysAside σ ) ∧ (oX6_later_20  (fX6_laysAside σ) a1_))
set_option maxHeartbeats 4000000 in
set_option maxRecDepth 100000 in
theorem wX6_later_0 {X : CX} {cy : Nat → ClassId} {q : Nat → Nat} {D : va_G} {A : Nat → Prop} {res : Int64 × OS} (σ : OS) (a1_ : Int32) (C : Cx X cX6_later RX6 4 D (gty cy) A 46 0 0) (hR : Rt X (some .long) D (gty cy) A 0 0 (eL (wX6 cy q res.2) res.1))  (ok : oX6_later_0  σ a1_) (h : pX6_later_0  σ a1_ = res) : At X D A 4 0 0 0 [(0, .ref (q 41)), (1, .int a1_)] [] (wX6 cy q σ) := by
  unfold pX6_later_0 at h
  unfold oX6_later_0 at ok
  refine r_iload_n C 1 (dall tdX6_later 0 rfl) rfl ?_
  refine r_i2l C (dall tdX6_later 1 rfl) ?_
  refine r_lconst (v := 0) C (dall tdX6_later 2 rfl) (by decide) ?_
  refine r_ldc2 C kk_X6_403 (dall tdX6_later 3 rfl) ?_
  refine r_s0I (as := [.long a1_.toInt64, .long 0, .long (40)]) C (zX6_in a1_.toInt64 0 (40) ) ms_X6_in km_X6_74 (by decide) (by decide) ⟨Nat.le_refl _, Nat.le_refl _⟩ rfl rfl (Nat.le_of_ble_eq_true rfl) (dall tdX6_later 4 rfl) ?_
  refine r_if_ne (tgt := 16) C (dall tdX6_later 5 rfl) (by decide) (fun c4 => ?_) (fun c4 => ?_)
  · have h := (if_neg c4).symm.trans h
    have ok := ok.2 c4
    refine r_aload_n C 0 (dall tdX6_later 8 rfl) rfl ?_
    obtain ⟨o5, ok⟩ := ok
    refine r_vV (as := []) C (zX6_laysAside cy q σ  o5) mv_X6_laysAside km_X6_405 (by decide) (by decide) ⟨Nat.le_refl _, Nat.le_refl _⟩ rfl rfl rfl rfl (Nat.le_of_ble_eq_true rfl) (dall tdX6_later 9 rfl) ?_
    exact wX6_later_20 (fX6_laysAside σ) a1_ C hR  ok h
  · have h := (if_pos c4).symm.trans h
    have ok := ok.1 c4
    refine r_ldc2 C kk_X6_145 (dall tdX6_later 6 rfl) ?_
    exact r_lret C hR (dall tdX6_later 7 rfl) (by subst h; exact ⟨rfl, rfl⟩)
def fX6_later (σ : OS) (a1_ : Int32) : Int64 × OS := pX6_later_0  σ a1_
def gX6_later (σ : OS) (a1_ : Int32) : Prop := oX6_later_0  σ a1_
set_option maxRecDepth 100000 in
theorem zX6_later (cy : Nat → ClassId) (q : Nat → Nat)  {D : va_G} (σ : OS) (a1_ : Int32) (ok : gX6_later σ a1_)  : Con yX6_later cX6_later 4 (some .long) 46 0 0 D (gty cy) [.ref (q 41), .int a1_] (wX6 cy q σ) (eL (wX6 cy q (fX6_later σ a1_).2) (fX6_later σ a1_).1) :=
  Con.of (own := RX6) (by decide +kernel) rfl (Nat.le_of_ble_eq_true rfl) (Nat.zero_le _) (fun X A C hR _ => (wX6_later_0 σ a1_ C hR  ok rfl))
theorem mv_X6_later : MV yX6_later cX6_later 4 (some .long) RX6 1 := ⟨ki_X6_later, kv_X6_later, kn_X6, kc_X6_later, by decide +kernel⟩
def tbX6_walk : List (Nat × Instr × Nat) := [(0, .iload_n 1, 1), (1, .invokestatic 94, 3), (4, .ifCond .eq 10, 3), (7, .iload_n 2, 1), (8, .invokestatic 94, 3), (11, .ifCond .ne 6, 3), (14, .bipush (-2), 2), (16, .ireturn, 1), (17, .aload_n 0, 1), (18, .invokevirtual 147, 3), (21, .lstore_n 3, 1), (22, .iconst 0, 1), (23, .istore 5, 2), (25, .iload 5, 2), (27, .bipush 64, 2), (29, .if_icmp .ge 25, 3), (32, .lconst 1, 1), (33, .iload_n 1, 1), (34, .lshl, 1), (35, .lload_n 3, 1), (36, .iload 5, 2), (38, .invokestatic 376, 3), (41, .iload_n 2, 1), (42, .invokestatic 97, 3), (45, .ifCond .ne 9, 3), (48, .iinc 5 1, 3), (51, .goto (-26), 3), (54, .iload 5, 2), (56, .bipush 64, 2), (58, .if_icmp .ne 7, 3), (61, .iconst (-1), 1), (62, .goto 5, 3), (65, .iload 5, 2), (67, .ireturn, 1)]
theorem tdX6_walk : tbX6_walk.all (fun q => decide (decode cX6_walk q.1 = .ok q.2)) = true := by decide +kernel
def pX6_walk_54  (σ : OS) (a5_ : Int32) : Int32 := if a5_ = 64 then (-1) else a5_
set_option maxHeartbeats 4000000 in
set_option maxRecDepth 100000 in
theorem wX6_walk_54 {X : CX} {cy : Nat → ClassId} {q : Nat → Nat} {D : va_G} {A : Nat → Prop} {res : Int32} (σ : OS) (a5_ : Int32) (C : Cx X cX6_walk RX6 6 D (gty cy) A 2 0 0) (hR : Rt X (some .int) D (gty cy) A 0 0 (eI (wX6 cy q σ) res))  (h : pX6_walk_54  σ a5_ = res) : At X D A 6 0 0 54 [(5, .int a5_)] [] (wX6 cy q σ) := by
  unfold pX6_walk_54 at h
  refine r_iload C 0 (dall tdX6_walk 27 rfl) rfl ?_
  refine r_bipush (v := 64) C (dall tdX6_walk 28 rfl) (by decide) ?_
  refine r_icmp_ne (tgt := 65) C (dall tdX6_walk 29 rfl) (by decide) (fun c1 => ?_) (fun c1 => ?_)
  · have h := (if_neg c1).symm.trans h
    refine r_iload C 0 (dall tdX6_walk 32 rfl) rfl ?_
    exact r_iret C hR (dall tdX6_walk 33 rfl) (by subst h; exact ⟨rfl, rfl⟩)
  · have h := (if_pos c1).symm.trans h
    refine r_iconst (v := -1) C (dall tdX6_walk 30 rfl) (by decide) ?_
    refine r_goto (tgt := 67) C (dall tdX6_walk 31 rfl) (by decide) ?_
    exact r_iret C hR (dall tdX6_walk 33 rfl) (by subst h; exact ⟨rfl, rfl⟩)
def bX6_walk_25 (σ : OS) (a1_ : Int32) (a2_ : Int32) (a3_ : Int64)  (kR25 : Int32 → Int32) (v : Int32) : Int32 := if 64 ≤ v then pX6_walk_54  σ v else if (fX6_has (fX6_comeTo (jshl 1 a1_) a3_ v) a2_) = 0 then kR25 (v + 1) else pX6_walk_54  σ v
def kX6_walk_25 (σ : OS) (a1_ : Int32) (a2_ : Int32) (a3_ : Int64)  (kO25 : Int32 → Prop) (v : Int32) : Prop := (64 ≤ v → True) ∧ (¬ (64 ≤ v) → (gX6_comeTo (jshl 1 a1_) a3_ v) ∧ (((fX6_has (fX6_comeTo (jshl 1 a1_) a3_ v) a2_) = 0 → kO25 (v + 1)) ∧ (¬ ((fX6_has (fX6_comeTo (jshl 1 a1_) a3_ v) a2_) = 0) → True)))
set_option maxHeartbeats 4000000 in
set_option maxRecDepth 100000 in
theorem wX6_walk_25 {X : CX} {cy : Nat → ClassId} {q : Nat → Nat} {D : va_G} {A : Nat → Prop} {res : Int32} (σ : OS) (a1_ : Int32) (a2_ : Int32) (a3_ : Int64) (C : Cx X cX6_walk RX6 6 D (gty cy) A 2 0 0) (hR : Rt X (some .int) D (gty cy) A 0 0 (eI (wX6 cy q σ) res)) (kR25 : Int32 → Int32) (kO25 : Int32 → Prop) (hk25 : ∀ z, kO25 z → kR25 z = res → At X D A 6 0 0 25 [(1, .int a1_), (2, .int a2_), (3, .long a3_), (5, .int z)] [] (wX6 cy q σ)) (v : Int32) (ok : kX6_walk_25 σ a1_ a2_ a3_ kO25 v) (h : bX6_walk_25 σ a1_ a2_ a3_ kR25 v = res) : At X D A 6 0 0 25 [(1, .int a1_), (2, .int a2_), (3, .long a3_), (5, .int v)] [] (wX6 cy q σ) := by
  unfold bX6_walk_25 at h
  unfold kX6_walk_25 at ok
  refine r_iload C 3 (dall tdX6_walk 13 rfl) rfl ?_
  refine r_bipush (v := 64) C (dall tdX6_walk 14 rfl) (by decide) ?_
  refine r_icmp_ge (tgt := 54) C (dall tdX6_walk 15 rfl) (by decide) (fun c2 => ?_) (fun c2 => ?_)
  · have h := (if_pos c2).symm.trans h
    have ok := ok.1 c2
    refine r_pick [3] rfl ?_
    exact wX6_walk_54 σ v C hR  h
  · have h := (if_neg c2).symm.trans h
    have ok := ok.2 c2
    refine r_lconst (v := 1) C (dall tdX6_walk 16 rfl) (by decide) ?_
    refine r_iload_n C 0 (dall tdX6_walk 17 rfl) rfl ?_
    refine r_lshl C (dall tdX6_walk 18 rfl) ?_
    refine r_lload_n C 2 (dall tdX6_walk 19 rfl) rfl ?_
    refine r_iload C 3 (dall tdX6_walk 20 rfl) rfl ?_
    obtain ⟨o3, ok⟩ := ok
    refine r_s0L (as := [.long (jshl 1 a1_), .long a3_, .int v]) C (zX6_comeTo (jshl 1 a1_) a3_ v o3) ms_X6_comeTo km_X6_376 (by decide) (by decide) ⟨Nat.le_refl _, Nat.le_refl _⟩ rfl rfl (Nat.le_of_ble_eq_true rfl) (dall tdX6_walk 21 rfl) ?_
    refine r_iload_n C 1 (dall tdX6_walk 22 rfl) rfl ?_
    refine r_s0I (as := [.long (fX6_comeTo (jshl 1 a1_) a3_ v), .int a2_]) C (zX6_has (fX6_comeTo (jshl 1 a1_) a3_ v) a2_ ) ms_X6_has km_X6_97 (by decide) (by decide) ⟨Nat.le_refl _, Nat.le_refl _⟩ rfl rfl (Nat.le_of_ble_eq_true rfl) (dall tdX6_walk 23 rfl) ?_
    refine r_if_ne (tgt := 54) C (dall tdX6_walk 24 rfl) (by decide) (fun c4 => ?_) (fun c4 => ?_)
    · have h := (if_neg c4).symm.trans h
      have ok := ok.2 c4
      refine r_pick [3] rfl ?_
      exact wX6_walk_54 σ v C hR  h
    · have h := (if_pos c4).symm.trans h
      have ok := ok.1 c4
      refine r_iinc (v := v + 1) (lv' := [(5, .int (v + 1)), (1, .int a1_), (2, .int a2_), (3, .long a3_)]) C 3 (dall tdX6_walk 25 rfl) rfl rfl (by decide) rfl ?_
      refine r_goto (tgt := 25) C (dall tdX6_walk 26 rfl) (by decide) ?_
      refine r_pick [1, 2, 3, 0] rfl ?_
      exact hk25 (v + 1) ok h
set_option maxHeartbeats 4000000 in
set_option maxRecDepth 100000 in
theorem lX6_walk_25 {X : CX} {cy : Nat → ClassId} {q : Nat → Nat} {D : va_G} {A : Nat → Prop} {res : Int32} (σ : OS) (a1_ : Int32) (a2_ : Int32) (a3_ : Int64) (C : Cx X cX6_walk RX6 6 D (gty cy) A 2 0 0) (hR : Rt X (some .int) D (gty cy) A 0 0 (eI (wX6 cy q σ) res))  (n : Nat) (v : Int32) (ok : lpOk (kX6_walk_25 σ a1_ a2_ a3_ ) n v) (h : lp 0 (bX6_walk_25 σ a1_ a2_ a3_ ) n v = res) : At X D A 6 0 0 25 [(1, .int a1_), (2, .int a2_), (3, .long a3_), (5, .int v)] [] (wX6 cy q σ) :=
  lp_rule (fun v rr_ => rr_ = res → At X D A 6 0 0 25 [(1, .int a1_), (2, .int a2_), (3, .long a3_), (5, .int v)] [] (wX6 cy q σ)) (fun kR kO hk v ok h => wX6_walk_25 σ a1_ a2_ a3_ C hR  kR kO hk v ok h) n v ok h
def pX6_walk_0  (σ : OS) (a1_ : Int32) (a2_ : Int32) : Int32 := if (fX6_isCell a1_) = 0 then (-2) else if (fX6_isCell a2_) = 0 then (-2) else lp 0 (bX6_walk_25 σ a1_ a2_ (fX6_stands σ) ) fu 0
def oX6_walk_0  (σ : OS) (a1_ : Int32) (a2_ : Int32) : Prop := (gX6_isCell a1_) ∧ (((fX6_isCell a1_) = 0 → True) ∧ (¬ ((fX6_isCell a1_) = 0) → (gX6_isCell a2_) ∧ (((fX6_isCell a2_) = 0 → True) ∧ (¬ ((fX6_isCell a2_) = 0) → (gX6_stands σ ) ∧ (lpOk (kX6_walk_25 σ a1_ a2_ (fX6_stands σ) ) fu 0)))))
set_option maxHeartbeats 4000000 in
set_option maxRecDepth 100000 in
theorem wX6_walk_0 {X : CX} {cy : Nat → ClassId} {q : Nat → Nat} {D : va_G} {A : Nat → Prop} {res : Int32} (σ : OS) (a1_ : Int32) (a2_ : Int32) (C : Cx X cX6_walk RX6 6 D (gty cy) A 2 0 0) (hR : Rt X (some .int) D (gty cy) A 0 0 (eI (wX6 cy q σ) res))  (ok : oX6_walk_0  σ a1_ a2_) (h : pX6_walk_0  σ a1_ a2_ = res) : At X D A 6 0 0 0 [(0, .ref (q 41)), (1, .int a1_), (2, .int a2_)] [] (wX6 cy q σ) := by
  unfold pX6_walk_0 at h
  unfold oX6_walk_0 at ok
  refine r_iload_n C 1 (dall tdX6_walk 0 rfl) rfl ?_
  obtain ⟨o5, ok⟩ := ok
  refine r_s0I (as := [.int a1_]) C (zX6_isCell a1_ o5) ms_X6_isCell km_X6_94 (by decide) (by decide) ⟨Nat.le_refl _, Nat.le_refl _⟩ rfl rfl (Nat.le_of_ble_eq_true rfl) (dall tdX6_walk 1 rfl) ?_
  refine r_if_eq (tgt := 14) C (dall tdX6_walk 2 rfl) (by decide) (fun c6 => ?_) (fun c6 => ?_)
  · have h := (if_pos c6).symm.trans h
    have ok := ok.1 c6
    refine r_bipush (v := -2) C (dall tdX6_walk 6 rfl) (by decide) ?_
    exact r_iret C hR (dall tdX6_walk 7 rfl) (by subst h; exact ⟨rfl, rfl⟩)
  · have h := (if_neg c6).symm.trans h
    have ok := ok.2 c6
    refine r_iload_n C 2 (dall tdX6_walk 3 rfl) rfl ?_
    obtain ⟨o7, ok⟩ := ok
    refine r_s0I (as := [.int a2_]) C (zX6_isCell a2_ o7) ms_X6_isCell km_X6_94 (by decide) (by decide) ⟨Nat.le_refl _, Nat.le_refl _⟩ rfl rfl (Nat.le_of_ble_eq_true rfl) (dall tdX6_walk 4 rfl) ?_
    refine r_if_ne (tgt := 17) C (dall tdX6_walk 5 rfl) (by decide) (fun c8 => ?_) (fun c8 => ?_)
    · have h := (if_neg c8).symm.trans h
      have ok := ok.2 c8
      refine r_aload_n C 0 (dall tdX6_walk 8 rfl) rfl ?_
      obtain ⟨o9, ok⟩ := ok
      refine r_vL (as := []) C (zX6_stands cy q σ  o9) mv_X6_stands km_X6_147 (by decide) (by decide) ⟨Nat.le_refl _, Nat.le_refl _⟩ rfl rfl rfl rfl (Nat.le_of_ble_eq_true rfl) (dall tdX6_walk 9 rfl) ?_
      refine r_lstore_n (lv' := [(3, .long (fX6_stands σ)), (0, .ref (q 41)), (1, .int a1_), (2, .int a2_)]) C (dall tdX6_walk 10 rfl) (by decide) rfl ?_
      refine r_iconst (v := 0) C (dall tdX6_walk 11 rfl) (by decide) ?_
      refine r_istore (lv' := [(5, .int 0), (3, .long (fX6_stands σ)), (0, .ref (q 41)), (1, .int a1_), (2, .int a2_)]) C (dall tdX6_walk 12 rfl) (by decide) rfl ?_
      refine r_pick [3, 4, 1, 0] rfl ?_
      exact lX6_walk_25 σ a1_ a2_ (fX6_stands σ) C hR  fu _ ok h
    · have h := (if_pos c8).symm.trans h
      have ok := ok.1 c8
      refine r_bipush (v := -2) C (dall tdX6_walk 6 rfl) (by decide) ?_
      exact r_iret C hR (dall tdX6_walk 7 rfl) (by subst h; exact ⟨rfl, rfl⟩)
def fX6_walk (σ : OS) (a1_ : Int32) (a2_ : Int32) : Int32 := pX6_walk_0  σ a1_ a2_
def gX6_walk (σ : OS) (a1_ : Int32) (a2_ : Int32) : Prop := oX6_walk_0  σ a1_ a2_
set_option maxRecDepth 100000 in
theorem zX6_walk (cy : Nat → ClassId) (q : Nat → Nat)  {D : va_G} (σ : OS) (a1_ : Int32) (a2_ : Int32) (ok : gX6_walk σ a1_ a2_)  : Con yX6_walk cX6_walk 6 (some .int) 2 0 0 D (gty cy) [.ref (q 41), .int a1_, .int a2_] (wX6 cy q σ) (eI (wX6 cy q σ) (fX6_walk σ a1_ a2_)) :=
  Con.of (own := RX6) (by decide +kernel) rfl (Nat.le_of_ble_eq_true rfl) (Nat.zero_le _) (fun X A C hR _ => (wX6_walk_0 σ a1_ a2_ C hR  ok rfl))
theorem mv_X6_walk : MV yX6_walk cX6_walk 6 (some .int) RX6 2 := ⟨ki_X6_walk, kv_X6_walk, kn_X6, kc_X6_walk, by decide +kernel⟩

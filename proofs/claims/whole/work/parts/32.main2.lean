def tbX5_add : List (Nat × Instr × Nat) := [(0, .aload_n 0, 1), (1, .iload_n 1, 1), (2, .invokevirtual 97, 3), (5, .ifCond .eq 22, 3), (8, .iload_n 2, 1), (9, .iconst 1, 1), (10, .if_icmp .lt 17, 3), (13, .iload_n 2, 1), (14, .bipush 20, 2), (16, .if_icmp .gt 11, 3), (19, .iload_n 3, 1), (20, .iconst 1, 1), (21, .invokestatic 74, 3), (24, .ifCond .ne 6, 3), (27, .bipush (-2), 2), (29, .ireturn, 1), (30, .aload_n 0, 1), (31, .getfield 24, 3), (34, .aload_n 0, 1), (35, .getfield 20, 3), (38, .invokevirtual 186, 3), (41, .aload_n 0, 1), (42, .getfield 24, 3), (45, .iload_n 2, 1), (46, .iconst (-1), 1), (47, .invokevirtual 190, 3), (50, .istore 4, 2), (52, .iconst (-1), 1), (53, .istore 5, 2), (55, .iconst 0, 1), (56, .istore 6, 2), (58, .iload 6, 2), (60, .bipush 6, 2), (62, .if_icmp .ge 112, 3), (65, .iload 6, 2), (67, .aload_n 0, 1), (68, .getfield 20, 3), (71, .invokevirtual 107, 3), (74, .invokestatic 134, 3), (77, .lstore 7, 2), (79, .iconst 0, 1), (80, .istore 9, 2), (82, .iload 9, 2), (84, .bipush 64, 2), (86, .if_icmp .ge 82, 3), (89, .lload 7, 2), (91, .iload 9, 2), (93, .invokestatic 140, 3), (96, .ifCond .eq 66, 3), (99, .aload_n 0, 1), (100, .getfield 24, 3), (103, .aload_n 0, 1), (104, .getfield 20, 3), (107, .invokevirtual 186, 3), (110, .aload_n 0, 1), (111, .getfield 24, 3), (114, .getfield 84, 3), (117, .iload_n 1, 1), (118, .dup2, 1), (119, .laload, 1), (120, .iload 6, 2), (122, .iload 9, 2), (124, .invokestatic 144, 3), (127, .lor, 1), (128, .lastore, 1), (129, .aload_n 0, 1), (130, .getfield 24, 3), (133, .iload_n 2, 1), (134, .iload 4, 2), (136, .invokevirtual 190, 3), (139, .istore 10, 2), (141, .iload 10, 2), (143, .iload 4, 2), (145, .if_icmp .le 17, 3), (148, .iload 10, 2), (150, .istore 4, 2), (152, .bipush 100, 2), (154, .iload 6, 2), (156, .imul, 1), (157, .iload 9, 2), (159, .iadd, 1), (160, .istore 5, 2), (162, .iinc 9 1, 3), (165, .goto (-83), 3), (168, .iinc 6 1, 3), (171, .goto (-113), 3), (174, .iload_n 3, 1), (175, .ifCond .ne 8, 3), (178, .iload 5, 2), (180, .goto 5, 3), (183, .iload 4, 2), (185, .ireturn, 1)]
theorem tdX5_add : tbX5_add.all (fun q => decide (decode cX5_add q.1 = .ok q.2)) = true := by decide +kernel
def pX5_add_162 (τ : TX) (kR58 : XS × Int32 × Int32 × Int32 → Int32 × XS) (kR82 : XS × Int32 × Int32 × Int32 → Int32 × XS) (σ : XS) (a1_ : Int32) (a2_ : Int32) (a3_ : Int32) (a4_ : Int32) (a5_ : Int32) (a6_ : Int32) (a7_ : Int64) (a9_ : Int32) : Int32 × XS := kR82 (σ, a4_, a5_, a9_ + 1)
def oX5_add_162 (τ : TX) (kO58 : XS × Int32 × Int32 × Int32 → Prop) (kO82 : XS × Int32 × Int32 × Int32 → Prop) (σ : XS) (a1_ : Int32) (a2_ : Int32) (a3_ : Int32) (a4_ : Int32) (a5_ : Int32) (a6_ : Int32) (a7_ : Int64) (a9_ : Int32) : Prop := kO82 (σ, a4_, a5_, a9_ + 1)
set_option maxHeartbeats 4000000 in
set_option maxRecDepth 100000 in
theorem wX5_add_162 {X : CX} {cy : Nat → ClassId} {q : Nat → Nat} {qn : Nat → Nat} {qt : Nat → Nat} {qk : Nat → Nat} {qr : Nat → Nat} {qs : Nat → Nat → Nat} {a : Nat} {τ : TX} {D : va_G} {A : Nat → Prop} {res : Int32 × XS} (σ : XS) (a1_ : Int32) (a2_ : Int32) (a3_ : Int32) (a4_ : Int32) (a5_ : Int32) (a6_ : Int32) (a7_ : Int64) (a9_ : Int32) (C : Cx X cX5_add RX5 11 D (gty cy) A 7 0 0) (hR : Rt X (some .int) D (gty cy) A 0 0 (eI (wX5 cy q qn qt qk qr qs a τ res.2) res.1)) (kR58 : XS × Int32 × Int32 × Int32 → Int32 × XS) (kO58 : XS × Int32 × Int32 × Int32 → Prop) (hk58 : ∀ z, kO58 z → kR58 z = res → At X D A 11 0 0 58 [(0, .ref (q 8)), (1, .int a1_), (2, .int a2_), (3, .int a3_), (4, .int z.2.1), (5, .int z.2.2.1), (6, .int z.2.2.2)] [] (wX5 cy q qn qt qk qr qs a τ z.1)) (kR82 : XS × Int32 × Int32 × Int32 → Int32 × XS) (kO82 : XS × Int32 × Int32 × Int32 → Prop) (hk82 : ∀ z, kO82 z → kR82 z = res → At X D A 11 0 0 82 [(0, .ref (q 8)), (1, .int a1_), (2, .int a2_), (3, .int a3_), (4, .int z.2.1), (5, .int z.2.2.1), (6, .int a6_), (7, .long a7_), (9, .int z.2.2.2)] [] (wX5 cy q qn qt qk qr qs a τ z.1)) (ok : oX5_add_162 τ kO58 kO82 σ a1_ a2_ a3_ a4_ a5_ a6_ a7_ a9_) (h : pX5_add_162 τ kR58 kR82 σ a1_ a2_ a3_ a4_ a5_ a6_ a7_ a9_ = res) : At X D A 11 0 0 162 [(0, .ref (q 8)), (1, .int a1_), (2, .int a2_), (3, .int a3_), (4, .int a4_), (5, .int a5_), (6, .int a6_), (7, .long a7_), (9, .int a9_)] [] (wX5 cy q qn qt qk qr qs a τ σ) := by
  unfold pX5_add_162 at h
  unfold oX5_add_162 at ok
  refine r_iinc (v := a9_ + 1) (lv' := [(9, .int (a9_ + 1)), (0, .ref (q 8)), (1, .int a1_), (2, .int a2_), (3, .int a3_), (4, .int a4_), (5, .int a5_), (6, .int a6_), (7, .long a7_)]) C 8 (dall tdX5_add 82 rfl) rfl rfl (by decide) rfl ?_
  refine r_goto (tgt := 82) C (dall tdX5_add 83 rfl) (by decide) ?_
  refine r_pick [1, 2, 3, 4, 5, 6, 7, 8, 0] rfl ?_
  exact hk82 (σ, a4_, a5_, a9_ + 1) ok h
def pX5_add_139 (τ : TX) (kR58 : XS × Int32 × Int32 × Int32 → Int32 × XS) (kR82 : XS × Int32 × Int32 × Int32 → Int32 × XS) (σ : XS) (a1_ : Int32) (a2_ : Int32) (a3_ : Int32) (a4_ : Int32) (a5_ : Int32) (a6_ : Int32) (a7_ : Int64) (a9_ : Int32) (b0_ : Int32) : Int32 × XS := if b0_ ≤ a4_ then pX5_add_162 τ kR58 kR82 σ a1_ a2_ a3_ a4_ a5_ a6_ a7_ a9_ else pX5_add_162 τ kR58 kR82 σ a1_ a2_ a3_ b0_ ((100 * a6_) + a9_) a6_ a7_ a9_
def oX5_add_139 (τ : TX) (kO58 : XS × Int32 × Int32 × Int32 → Prop) (kO82 : XS × Int32 × Int32 × Int32 → Prop) (σ : XS) (a1_ : Int32) (a2_ : Int32) (a3_ : Int32) (a4_ : Int32) (a5_ : Int32) (a6_ : Int32) (a7_ : Int64) (a9_ : Int32) (b0_ : Int32) : Prop := (b0_ ≤ a4_ → oX5_add_162 τ kO58 kO82 σ a1_ a2_ a3_ a4_ a5_ a6_ a7_ a9_) ∧ (¬ (b0_ ≤ a4_) → oX5_add_162 τ kO58 kO82 σ a1_ a2_ a3_ b0_ ((100 * a6_) + a9_) a6_ a7_ a9_)
set_option maxHeartbeats 4000000 in
set_option maxRecDepth 100000 in
theorem wX5_add_139 {X : CX} {cy : Nat → ClassId} {q : Nat → Nat} {qn : Nat → Nat} {qt : Nat → Nat} {qk : Nat → Nat} {qr : Nat → Nat} {qs : Nat → Nat → Nat} {a : Nat} {τ : TX} {D : va_G} {A : Nat → Prop} {res : Int32 × XS} (σ : XS) (a1_ : Int32) (a2_ : Int32) (a3_ : Int32) (a4_ : Int32) (a5_ : Int32) (a6_ : Int32) (a7_ : Int64) (a9_ : Int32) (b0_ : Int32) (C : Cx X cX5_add RX5 11 D (gty cy) A 7 0 0) (hR : Rt X (some .int) D (gty cy) A 0 0 (eI (wX5 cy q qn qt qk qr qs a τ res.2) res.1)) (kR58 : XS × Int32 × Int32 × Int32 → Int32 × XS) (kO58 : XS × Int32 × Int32 × Int32 → Prop) (hk58 : ∀ z, kO58 z → kR58 z = res → At X D A 11 0 0 58 [(0, .ref (q 8)), (1, .int a1_), (2, .int a2_), (3, .int a3_), (4, .int z.2.1), (5, .int z.2.2.1), (6, .int z.2.2.2)] [] (wX5 cy q qn qt qk qr qs a τ z.1)) (kR82 : XS × Int32 × Int32 × Int32 → Int32 × XS) (kO82 : XS × Int32 × Int32 × Int32 → Prop) (hk82 : ∀ z, kO82 z → kR82 z = res → At X D A 11 0 0 82 [(0, .ref (q 8)), (1, .int a1_), (2, .int a2_), (3, .int a3_), (4, .int z.2.1), (5, .int z.2.2.1), (6, .int a6_), (7, .long a7_), (9, .int z.2.2.2)] [] (wX5 cy q qn qt qk qr qs a τ z.1)) (ok : oX5_add_139 τ kO58 kO82 σ a1_ a2_ a3_ a4_ a5_ a6_ a7_ a9_ b0_) (h : pX5_add_139 τ kR58 kR82 σ a1_ a2_ a3_ a4_ a5_ a6_ a7_ a9_ b0_ = res) : At X D A 11 0 0 139 [(0, .ref (q 8)), (1, .int a1_), (2, .int a2_), (3, .int a3_), (4, .int a4_), (5, .int a5_), (6, .int a6_), (7, .long a7_), (9, .int a9_)] [.int b0_] (wX5 cy q qn qt qk qr qs a τ σ) := by
  unfold pX5_add_139 at h
  unfold oX5_add_139 at ok
  refine r_istore (lv' := [(10, .int b0_), (0, .ref (q 8)), (1, .int a1_), (2, .int a2_), (3, .int a3_), (4, .int a4_), (5, .int a5_), (6, .int a6_), (7, .long a7_), (9, .int a9_)]) C (dall tdX5_add 70 rfl) (by decide) rfl ?_
  refine r_iload C 0 (dall tdX5_add 71 rfl) rfl ?_
  refine r_iload C 5 (dall tdX5_add 72 rfl) rfl ?_
  refine r_icmp_le (tgt := 162) C (dall tdX5_add 73 rfl) (by decide) (fun c1 => ?_) (fun c1 => ?_)
  · have h := (if_pos c1).symm.trans h
    have ok := ok.1 c1
    refine r_pick [1, 2, 3, 4, 5, 6, 7, 8, 9] rfl ?_
    exact wX5_add_162 σ a1_ a2_ a3_ a4_ a5_ a6_ a7_ a9_ C hR kR58 kO58 hk58 kR82 kO82 hk82 ok h
  · have h := (if_neg c1).symm.trans h
    have ok := ok.2 c1
    refine r_iload C 0 (dall tdX5_add 74 rfl) rfl ?_
    refine r_istore (lv' := [(4, .int b0_), (10, .int b0_), (0, .ref (q 8)), (1, .int a1_), (2, .int a2_), (3, .int a3_), (5, .int a5_), (6, .int a6_), (7, .long a7_), (9, .int a9_)]) C (dall tdX5_add 75 rfl) (by decide) rfl ?_
    refine r_bipush (v := 100) C (dall tdX5_add 76 rfl) (by decide) ?_
    refine r_iload C 7 (dall tdX5_add 77 rfl) rfl ?_
    refine r_imul C (dall tdX5_add 78 rfl) ?_
    refine r_iload C 9 (dall tdX5_add 79 rfl) rfl ?_
    refine r_iadd C (dall tdX5_add 80 rfl) ?_
    refine r_istore (lv' := [(5, .int ((100 * a6_) + a9_)), (4, .int b0_), (10, .int b0_), (0, .ref (q 8)), (1, .int a1_), (2, .int a2_), (3, .int a3_), (6, .int a6_), (7, .long a7_), (9, .int a9_)]) C (dall tdX5_add 81 rfl) (by decide) rfl ?_
    refine r_pick [3, 4, 5, 6, 1, 0, 7, 8, 9] rfl ?_
    exact wX5_add_162 σ a1_ a2_ a3_ b0_ ((100 * a6_) + a9_) a6_ a7_ a9_ C hR kR58 kO58 hk58 kR82 kO82 hk82 ok h
def pX5_add_110 (τ : TX) (kR58 : XS × Int32 × Int32 × Int32 → Int32 × XS) (kR82 : XS × Int32 × Int32 × Int32 → Int32 × XS) (σ : XS) (a1_ : Int32) (a2_ : Int32) (a3_ : Int32) (a4_ : Int32) (a5_ : Int32) (a6_ : Int32) (a7_ : Int64) (a9_ : Int32) : Int32 × XS := pX5_add_139 τ kR58 kR82 (xT (xT σ (oT σ.2.2.1 3 a1_.toNatClampNeg ((σ.2.2.1.2.2.2 3 a1_.toNatClampNeg) ||| (fX3_cellsOf a6_ a9_)))) ((fX4_countBehind τ ((xT σ (oT σ.2.2.1 3 a1_.toNatClampNeg ((σ.2.2.1.2.2.2 3 a1_.toNatClampNeg) ||| (fX3_cellsOf a6_ a9_)))).2.2.1) a2_ a4_).2)) a1_ a2_ a3_ a4_ a5_ a6_ a7_ a9_ ((fX4_countBehind τ ((xT σ (oT σ.2.2.1 3 a1_.toNatClampNeg ((σ.2.2.1.2.2.2 3 a1_.toNatClampNeg) ||| (fX3_cellsOf a6_ a9_)))).2.2.1) a2_ a4_).1)
def oX5_add_110 (τ : TX) (kO58 : XS × Int32 × Int32 × Int32 → Prop) (kO82 : XS × Int32 × Int32 × Int32 → Prop) (σ : XS) (a1_ : Int32) (a2_ : Int32) (a3_ : Int32) (a4_ : Int32) (a5_ : Int32) (a6_ : Int32) (a7_ : Int64) (a9_ : Int32) : Prop := (vp_in a1_ 5) ∧ ((gX3_cellsOf a6_ a9_) ∧ ((vp_in a1_ 5) ∧ ((gX4_countBehind τ ((xT σ (oT σ.2.2.1 3 a1_.toNatClampNeg ((σ.2.2.1.2.2.2 3 a1_.toNatClampNeg) ||| (fX3_cellsOf a6_ a9_)))).2.2.1) a2_ a4_) ∧ (oX5_add_139 τ kO58 kO82 (xT (xT σ (oT σ.2.2.1 3 a1_.toNatClampNeg ((σ.2.2.1.2.2.2 3 a1_.toNatClampNeg) ||| (fX3_cellsOf a6_ a9_)))) ((fX4_countBehind τ ((xT σ (oT σ.2.2.1 3 a1_.toNatClampNeg ((σ.2.2.1.2.2.2 3 a1_.toNatClampNeg) ||| (fX3_cellsOf a6_ a9_)))).2.2.1) a2_ a4_).2)) a1_ a2_ a3_ a4_ a5_ a6_ a7_ a9_ ((fX4_countBehind τ ((xT σ (oT σ.2.2.1 3 a1_.toNatClampNeg ((σ.2.2.1.2.2.2 3 a1_.toNatClampNeg) ||| (fX3_cellsOf a6_ a9_)))).2.2.1) a2_ a4_).1)))))
set_option maxHeartbeats 4000000 in
set_option maxRecDepth 100000 in
theorem wX5_add_110 {X : CX} {cy : Nat → ClassId} {q : Nat → Nat} {qn : Nat → Nat} {qt : Nat → Nat} {qk : Nat → Nat} {qr : Nat → Nat} {qs : Nat → Nat → Nat} {a : Nat} {τ : TX} {D : va_G} {A : Nat → Prop} {res : Int32 × XS} (σ : XS) (a1_ : Int32) (a2_ : Int32) (a3_ : Int32) (a4_ : Int32) (a5_ : Int32) (a6_ : Int32) (a7_ : Int64) (a9_ : Int32) (C : Cx X cX5_add RX5 11 D (gty cy) A 7 0 0) (hR : Rt X (some .int) D (gty cy) A 0 0 (eI (wX5 cy q qn qt qk qr qs a τ res.2) res.1)) (kR58 : XS × Int32 × Int32 × Int32 → Int32 × XS) (kO58 : XS × Int32 × Int32 × Int32 → Prop) (hk58 : ∀ z, kO58 z → kR58 z = res → At X D A 11 0 0 58 [(0, .ref (q 8)), (1, .int a1_), (2, .int a2_), (3, .int a3_), (4, .int z.2.1), (5, .int z.2.2.1), (6, .int z.2.2.2)] [] (wX5 cy q qn qt qk qr qs a τ z.1)) (kR82 : XS × Int32 × Int32 × Int32 → Int32 × XS) (kO82 : XS × Int32 × Int32 × Int32 → Prop) (hk82 : ∀ z, kO82 z → kR82 z = res → At X D A 11 0 0 82 [(0, .ref (q 8)), (1, .int a1_), (2, .int a2_), (3, .int a3_), (4, .int z.2.1), (5, .int z.2.2.1), (6, .int a6_), (7, .long a7_), (9, .int z.2.2.2)] [] (wX5 cy q qn qt qk qr qs a τ z.1)) (ok : oX5_add_110 τ kO58 kO82 σ a1_ a2_ a3_ a4_ a5_ a6_ a7_ a9_) (h : pX5_add_110 τ kR58 kR82 σ a1_ a2_ a3_ a4_ a5_ a6_ a7_ a9_ = res) : At X D A 11 0 0 110 [(0, .ref (q 8)), (1, .int a1_), (2, .int a2_), (3, .int a3_), (4, .int a4_), (5, .int a5_), (6, .int a6_), (7, .long a7_), (9, .int a9_)] [] (wX5 cy q qn qt qk qr qs a τ σ) := by
  unfold pX5_add_110 at h
  unfold oX5_add_110 at ok
  refine r_aload_n C 0 (dall tdX5_add 54 rfl) rfl ?_
  refine r_get C 0 kw_X5 rfl rfl (by decide) kf_X5_24 rfl rfl (dall tdX5_add 55 rfl) ?_
  refine r_get C 8 kw_X4 rfl rfl (by decide) kf_X5_84 rfl rfl (dall tdX5_add 56 rfl) ?_
  refine r_iload_n C 1 (dall tdX5_add 57 rfl) rfl ?_
  refine r_dup2_11 C (dall tdX5_add 58 rfl) rfl rfl ?_
  obtain ⟨o2, ok⟩ := ok
  refine r_lald C 12 1 rfl rfl o2 (dall tdX5_add 59 rfl) ?_
  refine r_iload C 6 (dall tdX5_add 60 rfl) rfl ?_
  refine r_iload C 8 (dall tdX5_add 61 rfl) rfl ?_
  obtain ⟨o3, ok⟩ := ok
  refine r_s0L (as := [.int a6_, .int a9_]) C (zX3_cellsOf a6_ a9_ o3) ms_X3_cellsOf km_X5_144 (by decide) (by decide) ⟨Nat.le_refl _, Nat.le_refl _⟩ rfl rfl (Nat.le_of_ble_eq_true rfl) (dall tdX5_add 62 rfl) ?_
  refine r_lor C (dall tdX5_add 63 rfl) ?_
  obtain ⟨o4, ok⟩ := ok
  refine r_last C 12 1 rfl rfl o4 (pa_X5_t_3 cy q qn qt qk qr qs a τ σ a1_.toNatClampNeg ((σ.2.2.1.2.2.2 3 a1_.toNatClampNeg) ||| (fX3_cellsOf a6_ a9_))) (dall tdX5_add 64 rfl) ?_
  refine r_aload_n C 0 (dall tdX5_add 65 rfl) rfl ?_
  refine r_get C 0 kw_X5 rfl rfl (by decide) kf_X5_24 rfl rfl (dall tdX5_add 66 rfl) ?_
  refine r_iload_n C 2 (dall tdX5_add 67 rfl) rfl ?_
  refine r_iload C 4 (dall tdX5_add 68 rfl) rfl ?_
  obtain ⟨o5, ok⟩ := ok
  refine rcT_I (as := [.int a2_, .int a4_]) C (zX4_countBehind cy (va_up qt 9 a) τ ((xT σ (oT σ.2.2.1 3 a1_.toNatClampNeg ((σ.2.2.1.2.2.2 3 a1_.toNatClampNeg) ||| (fX3_cellsOf a6_ a9_)))).2.2.1) a2_ a4_ o5) mv_X4_countBehind km_X5_190 (by decide) (by decide) ⟨Nat.le_refl _, Nat.le_refl _⟩ rfl rfl (Nat.le_of_ble_eq_true rfl) (dall tdX5_add 69 rfl) ?_
  exact wX5_add_139 (xT (xT σ (oT σ.2.2.1 3 a1_.toNatClampNeg ((σ.2.2.1.2.2.2 3 a1_.toNatClampNeg) ||| (fX3_cellsOf a6_ a9_)))) ((fX4_countBehind τ ((xT σ (oT σ.2.2.1 3 a1_.toNatClampNeg ((σ.2.2.1.2.2.2 3 a1_.toNatClampNeg) ||| (fX3_cellsOf a6_ a9_)))).2.2.1) a2_ a4_).2)) a1_ a2_ a3_ a4_ a5_ a6_ a7_ a9_ ((fX4_countBehind τ ((xT σ (oT σ.2.2.1 3 a1_.toNatClampNeg ((σ.2.2.1.2.2.2 3 a1_.toNatClampNeg) ||| (fX3_cellsOf a6_ a9_)))).2.2.1) a2_ a4_).1) C hR kR58 kO58 hk58 kR82 kO82 hk82 ok h
def bX5_add_82 (τ : TX) (a1_ : Int32) (a2_ : Int32) (a3_ : Int32) (a6_ : Int32) (a7_ : Int64) (kR58 : XS × Int32 × Int32 × Int32 → Int32 × XS) (kR82 : XS × Int32 × Int32 × Int32 → Int32 × XS) (v : XS × Int32 × Int32 × Int32) : Int32 × XS := if 64 ≤ v.2.2.2 then kR58 (v.1, v.2.1, v.2.2.1, a6_ + 1) else if (fX3_has a7_ v.2.2.2) = 0 then pX5_add_162 τ kR58 kR82 v.1 a1_ a2_ a3_ v.2.1 v.2.2.1 a6_ a7_ v.2.2.2 else pX5_add_110 τ kR58 kR82 (xT v.1 (oB4 v.1.2.2.1 (fX4_become v.1.2.1 v.1.2.2.1))) a1_ a2_ a3_ v.2.1 v.2.2.1 a6_ a7_ v.2.2.2
def kX5_add_82 (τ : TX) (a1_ : Int32) (a2_ : Int32) (a3_ : Int32) (a6_ : Int32) (a7_ : Int64) (kO58 : XS × Int32 × Int32 × Int32 → Prop) (kO82 : XS × Int32 × Int32 × Int32 → Prop) (v : XS × Int32 × Int32 × Int32) : Prop := (64 ≤ v.2.2.2 → kO58 (v.1, v.2.1, v.2.2.1, a6_ + 1)) ∧ (¬ (64 ≤ v.2.2.2) → ((fX3_has a7_ v.2.2.2) = 0 → oX5_add_162 τ kO58 kO82 v.1 a1_ a2_ a3_ v.2.1 v.2.2.1 a6_ a7_ v.2.2.2) ∧ (¬ ((fX3_has a7_ v.2.2.2) = 0) → (gX4_become v.1.2.1 v.1.2.2.1) ∧ (oX5_add_110 τ kO58 kO82 (xT v.1 (oB4 v.1.2.2.1 (fX4_become v.1.2.1 v.1.2.2.1))) a1_ a2_ a3_ v.2.1 v.2.2.1 a6_ a7_ v.2.2.2)))
set_option maxHeartbeats 4000000 in
set_option maxRecDepth 100000 in
theorem wX5_add_82 {X : CX} {cy : Nat → ClassId} {q : Nat → Nat} {qn : Nat → Nat} {qt : Nat → Nat} {qk : Nat → Nat} {qr : Nat → Nat} {qs : Nat → Nat → Nat} {a : Nat} {τ : TX} {D : va_G} {A : Nat → Prop} {res : Int32 × XS} (a1_ : Int32) (a2_ : Int32) (a3_ : Int32) (a6_ : Int32) (a7_ : Int64) (C : Cx X cX5_add RX5 11 D (gty cy) A 7 0 0) (hR : Rt X (some .int) D (gty cy) A 0 0 (eI (wX5 cy q qn qt qk qr qs a τ res.2) res.1)) (kR58 : XS × Int32 × Int32 × Int32 → Int32 × XS) (kO58 : XS × Int32 × Int32 × Int32 → Prop) (hk58 : ∀ z, kO58 z → kR58 z = res → At X D A 11 0 0 58 [(0, .ref (q 8)), (1, .int a1_), (2, .int a2_), (3, .int a3_), (4, .int z.2.1), (5, .int z.2.2.1), (6, .int z.2.2.2)] [] (wX5 cy q qn qt qk qr qs a τ z.1)) (kR82 : XS × Int32 × Int32 × Int32 → Int32 × XS) (kO82 : XS × Int32 × Int32 × Int32 → Prop) (hk82 : ∀ z, kO82 z → kR82 z = res → At X D A 11 0 0 82 [(0, .ref (q 8)), (1, .int a1_), (2, .int a2_), (3, .int a3_), (4, .int z.2.1), (5, .int z.2.2.1), (6, .int a6_), (7, .long a7_), (9, .int z.2.2.2)] [] (wX5 cy q qn qt qk qr qs a τ z.1)) (v : XS × Int32 × Int32 × Int32) (ok : kX5_add_82 τ a1_ a2_ a3_ a6_ a7_ kO58 kO82 v) (h : bX5_add_82 τ a1_ a2_ a3_ a6_ a7_ kR58 kR82 v = res) : At X D A 11 0 0 82 [(0, .ref (q 8)), (1, .int a1_), (2, .int a2_), (3, .int a3_), (4, .int v.2.1), (5, .int v.2.2.1), (6, .int a6_), (7, .long a7_), (9, .int v.2.2.2)] [] (wX5 cy q qn qt qk qr qs a τ v.1) := by
  unfold bX5_add_82 at h
  unfold kX5_add_82 at ok
  refine r_iload C 8 (dall tdX5_add 42 rfl) rfl ?_
  refine r_bipush (v := 64) C (dall tdX5_add 43 rfl) (by decide) ?_
  refine r_icmp_ge (tgt := 168) C (dall tdX5_add 44 rfl) (by decide) (fun c6 => ?_) (fun c6 => ?_)
  · have h := (if_pos c6).symm.trans h
    have ok := ok.1 c6
    refine r_iinc (v := a6_ + 1) (lv' := [(6, .int (a6_ + 1)), (0, .ref (q 8)), (1, .int a1_), (2, .int a2_), (3, .int a3_), (4, .int v.2.1), (5, .int v.2.2.1), (7, .long a7_), (9, .int v.2.2.2)]) C 6 (dall tdX5_add 84 rfl) rfl rfl (by decide) rfl ?_
    refine r_goto (tgt := 58) C (dall tdX5_add 85 rfl) (by decide) ?_
    refine r_pick [1, 2, 3, 4, 5, 6, 0] rfl ?_
    exact hk58 (v.1, v.2.1, v.2.2.1, a6_ + 1) ok h
  · have h := (if_neg c6).symm.trans h
    have ok := ok.2 c6
    refine r_lload C 7 (dall tdX5_add 45 rfl) rfl ?_
    refine r_iload C 8 (dall tdX5_add 46 rfl) rfl ?_
    refine r_s0I (as := [.long a7_, .int v.2.2.2]) C (zX3_has a7_ v.2.2.2 ) ms_X3_has km_X5_140 (by decide) (by decide) ⟨Nat.le_refl _, Nat.le_refl _⟩ rfl rfl (Nat.le_of_ble_eq_true rfl) (dall tdX5_add 47 rfl) ?_
    refine r_if_eq (tgt := 162) C (dall tdX5_add 48 rfl) (by decide) (fun c7 => ?_) (fun c7 => ?_)
    · have h := (if_pos c7).symm.trans h
      have ok := ok.1 c7
      exact wX5_add_162 v.1 a1_ a2_ a3_ v.2.1 v.2.2.1 a6_ a7_ v.2.2.2 C hR kR58 kO58 hk58 kR82 kO82 hk82 ok h
    · have h := (if_neg c7).symm.trans h
      have ok := ok.2 c7
      refine r_aload_n C 0 (dall tdX5_add 49 rfl) rfl ?_
      refine r_get C 0 kw_X5 rfl rfl (by decide) kf_X5_24 rfl rfl (dall tdX5_add 50 rfl) ?_
      refine r_aload_n C 0 (dall tdX5_add 51 rfl) rfl ?_
      refine r_get C 0 kw_X5 rfl rfl (by decide) kf_X5_20 rfl rfl (dall tdX5_add 52 rfl) ?_
      obtain ⟨o8, ok⟩ := ok
      refine rcB_TN (as := [.ref (va_up qn 9 a 12)]) C (zX4_become cy (va_up qt 9 a) (va_up qn 9 a) v.1.2.1 v.1.2.2.1 o8) mv_X4_become km_X5_186 (by decide) (by decide) ⟨Nat.le_refl _, Nat.le_refl _⟩ rfl rfl (Nat.le_of_ble_eq_true rfl) (dall tdX5_add 53 rfl) ?_
      exact wX5_add_110 (xT v.1 (oB4 v.1.2.2.1 (fX4_become v.1.2.1 v.1.2.2.1))) a1_ a2_ a3_ v.2.1 v.2.2.1 a6_ a7_ v.2.2.2 C hR kR58 kO58 hk58 kR82 kO82 hk82 ok h
set_option maxHeartbeats 4000000 in
set_option maxRecDepth 100000 in
theorem lX5_add_82 {X : CX} {cy : Nat → ClassId} {q : Nat → Nat} {qn : Nat → Nat} {qt : Nat → Nat} {qk : Nat → Nat} {qr : Nat → Nat} {qs : Nat → Nat → Nat} {a : Nat} {τ : TX} {D : va_G} {A : Nat → Prop} {res : Int32 × XS} (a1_ : Int32) (a2_ : Int32) (a3_ : Int32) (a6_ : Int32) (a7_ : Int64) (C : Cx X cX5_add RX5 11 D (gty cy) A 7 0 0) (hR : Rt X (some .int) D (gty cy) A 0 0 (eI (wX5 cy q qn qt qk qr qs a τ res.2) res.1)) (kR58 : XS × Int32 × Int32 × Int32 → Int32 × XS) (kO58 : XS × Int32 × Int32 × Int32 → Prop) (hk58 : ∀ z, kO58 z → kR58 z = res → At X D A 11 0 0 58 [(0, .ref (q 8)), (1, .int a1_), (2, .int a2_), (3, .int a3_), (4, .int z.2.1), (5, .int z.2.2.1), (6, .int z.2.2.2)] [] (wX5 cy q qn qt qk qr qs a τ z.1)) (n : Nat) (v : XS × Int32 × Int32 × Int32) (ok : lpOk (kX5_add_82 τ a1_ a2_ a3_ a6_ a7_ kO58) n v) (h : lp (0, xs0) (bX5_add_82 τ a1_ a2_ a3_ a6_ a7_ kR58) n v = res) : At X D A 11 0 0 82 [(0, .ref (q 8)), (1, .int a1_), (2, .int a2_), (3, .int a3_), (4, .int v.2.1), (5, .int v.2.2.1), (6, .int a6_), (7, .long a7_), (9, .int v.2.2.2)] [] (wX5 cy q qn qt qk qr qs a τ v.1) :=
  lp_rule (fun v rr_ => rr_ = res → At X D A 11 0 0 82 [(0, .ref (q 8)), (1, .int a1_), (2, .int a2_), (3, .int a3_), (4, .int v.2.1), (5, .int v.2.2.1), (6, .int a6_), (7, .long a7_), (9, .int v.2.2.2)] [] (wX5 cy q qn qt qk qr qs a τ v.1)) (fun kR kO hk v ok h => wX5_add_82 a1_ a2_ a3_ a6_ a7_ C hR kR58 kO58 hk58 kR kO hk v ok h) n v ok h
def bX5_add_58 (τ : TX) (a1_ : Int32) (a2_ : Int32) (a3_ : Int32)  (kR58 : XS × Int32 × Int32 × Int32 → Int32 × XS) (v : XS × Int32 × Int32 × Int32) : Int32 × XS := if 6 ≤ v.2.2.2 then if a3_ = 0 then (v.2.2.1, v.1) else (v.2.1, v.1) else lp (0, xs0) (bX5_add_82 τ a1_ a2_ a3_ v.2.2.2 (fX3_places v.2.2.2 (fX4_stands v.1.2.1)) kR58) fu (v.1, v.2.1, v.2.2.1, 0)
def kX5_add_58 (τ : TX) (a1_ : Int32) (a2_ : Int32) (a3_ : Int32)  (kO58 : XS × Int32 × Int32 × Int32 → Prop) (v : XS × Int32 × Int32 × Int32) : Prop := (6 ≤ v.2.2.2 → True) ∧ (¬ (6 ≤ v.2.2.2) → (gX4_stands v.1.2.1 ) ∧ ((gX3_places v.2.2.2 (fX4_stands v.1.2.1)) ∧ (lpOk (kX5_add_82 τ a1_ a2_ a3_ v.2.2.2 (fX3_places v.2.2.2 (fX4_stands v.1.2.1)) kO58) fu (v.1, v.2.1, v.2.2.1, 0))))
set_option maxHeartbeats 4000000 in
set_option maxRecDepth 100000 in
theorem wX5_add_58 {X : CX} {cy : Nat → ClassId} {q : Nat → Nat} {qn : Nat → Nat} {qt : Nat → Nat} {qk : Nat → Nat} {qr : Nat → Nat} {qs : Nat → Nat → Nat} {a : Nat} {τ : TX} {D : va_G} {A : Nat → Prop} {res : Int32 × XS} (a1_ : Int32) (a2_ : Int32) (a3_ : Int32) (C : Cx X cX5_add RX5 11 D (gty cy) A 7 0 0) (hR : Rt X (some .int) D (gty cy) A 0 0 (eI (wX5 cy q qn qt qk qr qs a τ res.2) res.1)) (kR58 : XS × Int32 × Int32 × Int32 → Int32 × XS) (kO58 : XS × Int32 × Int32 × Int32 → Prop) (hk58 : ∀ z, kO58 z → kR58 z = res → At X D A 11 0 0 58 [(0, .ref (q 8)), (1, .int a1_), (2, .int a2_), (3, .int a3_), (4, .int z.2.1), (5, .int z.2.2.1), (6, .int z.2.2.2)] [] (wX5 cy q qn qt qk qr qs a τ z.1)) (v : XS × Int32 × Int32 × Int32) (ok : kX5_add_58 τ a1_ a2_ a3_ kO58 v) (h : bX5_add_58 τ a1_ a2_ a3_ kR58 v = res) : At X D A 11 0 0 58 [(0, .ref (q 8)), (1, .int a1_), (2, .int a2_), (3, .int a3_), (4, .int v.2.1), (5, .int v.2.2.1), (6, .int v.2.2.2)] [] (wX5 cy q qn qt qk qr qs a τ v.1) := by
  unfold bX5_add_58 at h
  unfold kX5_add_58 at ok
  refine r_iload C 6 (dall tdX5_add 31 rfl) rfl ?_
  refine r_bipush (v := 6) C (dall tdX5_add 32 rfl) (by decide) ?_
  refine r_icmp_ge (tgt := 174) C (dall tdX5_add 33 rfl) (by decide) (fun c9 => ?_) (fun c9 => ?_)
  · have h := (if_pos c9).symm.trans h
    have ok := ok.1 c9
    refine r_iload_n C 3 (dall tdX5_add 86 rfl) rfl ?_
    refine r_if_ne (tgt := 183) C (dall tdX5_add 87 rfl) (by decide) (fun c10 => ?_) (fun c10 => ?_)
    · have h := (if_neg c10).symm.trans h
      refine r_iload C 4 (dall tdX5_add 90 rfl) rfl ?_
      exact r_iret C hR (dall tdX5_add 91 rfl) (by subst h; exact ⟨rfl, rfl⟩)
    · have h := (if_pos c10).symm.trans h
      refine r_iload C 5 (dall tdX5_add 88 rfl) rfl ?_
      refine r_goto (tgt := 185) C (dall tdX5_add 89 rfl) (by decide) ?_
      exact r_iret C hR (dall tdX5_add 91 rfl) (by subst h; exact ⟨rfl, rfl⟩)
  · have h := (if_neg c9).symm.trans h
    have ok := ok.2 c9
    refine r_iload C 6 (dall tdX5_add 34 rfl) rfl ?_
    refine r_aload_n C 0 (dall tdX5_add 35 rfl) rfl ?_
    refine r_get C 0 kw_X5 rfl rfl (by decide) kf_X5_20 rfl rfl (dall tdX5_add 36 rfl) ?_
    obtain ⟨o11, ok⟩ := ok
    refine rcN_L0 (as := []) C (zX4_stands cy (va_up qn 9 a) (tw cy a τ) v.1.2.1  o11) mv_X4_stands km_X5_107 (by decide) (by decide) ⟨Nat.le_refl _, Nat.le_refl _⟩ rfl rfl (Nat.le_of_ble_eq_true rfl) (dall tdX5_add 37 rfl) ?_
    obtain ⟨o12, ok⟩ := ok
    refine r_s0L (as := [.int v.2.2.2, .long (fX4_stands v.1.2.1)]) C (zX3_places v.2.2.2 (fX4_stands v.1.2.1) o12) ms_X3_places km_X5_134 (by decide) (by decide) ⟨Nat.le_refl _, Nat.le_refl _⟩ rfl rfl (Nat.le_of_ble_eq_true rfl) (dall tdX5_add 38 rfl) ?_
    refine r_lstore (lv' := [(7, .long (fX3_places v.2.2.2 (fX4_stands v.1.2.1))), (0, .ref (q 8)), (1, .int a1_), (2, .int a2_), (3, .int a3_), (4, .int v.2.1), (5, .int v.2.2.1), (6, .int v.2.2.2)]) C (dall tdX5_add 39 rfl) (by decide) rfl ?_
    refine r_iconst (v := 0) C (dall tdX5_add 40 rfl) (by decide) ?_
    refine r_istore (lv' := [(9, .int 0), (7, .long (fX3_places v.2.2.2 (fX4_stands v.1.2.1))), (0, .ref (q 8)), (1, .int a1_), (2, .int a2_), (3, .int a3_), (4, .int v.2.1), (5, .int v.2.2.1), (6, .int v.2.2.2)]) C (dall tdX5_add 41 rfl) (by decide) rfl ?_
    refine r_pick [2, 3, 4, 5, 6, 7, 8, 1, 0] rfl ?_
    exact lX5_add_82 a1_ a2_ a3_ v.2.2.2 (fX3_places v.2.2.2 (fX4_stands v.1.2.1)) C hR kR58 kO58 hk58 fu _ ok h
set_option maxHeartbeats 4000000 in
set_option maxRecDepth 100000 in
theorem lX5_add_58 {X : CX} {cy : Nat → ClassId} {q : Nat → Nat} {qn : Nat → Nat} {qt : Nat → Nat} {qk : Nat → Nat} {qr : Nat → Nat} {qs : Nat → Nat → Nat} {a : Nat} {τ : TX} {D : va_G} {A : Nat → Prop} {res : Int32 × XS} (a1_ : Int32) (a2_ : Int32) (a3_ : Int32) (C : Cx X cX5_add RX5 11 D (gty cy) A 7 0 0) (hR : Rt X (some .int) D (gty cy) A 0 0 (eI (wX5 cy q qn qt qk qr qs a τ res.2) res.1))  (n : Nat) (v : XS × Int32 × Int32 × Int32) (ok : lpOk (kX5_add_58 τ a1_ a2_ a3_ ) n v) (h : lp (0, xs0) (bX5_add_58 τ a1_ a2_ a3_ ) n v = res) : At X D A 11 0 0 58 [(0, .ref (q 8)), (1, .int a1_), (2, .int a2_), (3, .int a3_), (4, .int v.2.1), (5, .int v.2.2.1), (6, .int v.2.2.2)] [] (wX5 cy q qn qt qk qr qs a τ v.1) :=
  lp_rule (fun v rr_ => rr_ = res → At X D A 11 0 0 58 [(0, .ref (q 8)), (1, .int a1_), (2, .int a2_), (3, .int a3_), (4, .int v.2.1), (5, .int v.2.2.1), (6, .int v.2.2.2)] [] (wX5 cy q qn qt qk qr qs a τ v.1)) (fun kR kO hk v ok h => wX5_add_58 a1_ a2_ a3_ C hR  kR kO hk v ok h) n v ok h
def pX5_add_50 (τ : TX)  (σ : XS) (a1_ : Int32) (a2_ : Int32) (a3_ : Int32) (b0_ : Int32) : Int32 × XS := lp (0, xs0) (bX5_add_58 τ a1_ a2_ a3_ ) fu (σ, b0_, (-1), 0)
def oX5_add_50 (τ : TX)  (σ : XS) (a1_ : Int32) (a2_ : Int32) (a3_ : Int32) (b0_ : Int32) : Prop := lpOk (kX5_add_58 τ a1_ a2_ a3_ ) fu (σ, b0_, (-1), 0)
set_option maxHeartbeats 4000000 in
set_option maxRecDepth 100000 in
theorem wX5_add_50 {X : CX} {cy : Nat → ClassId} {q : Nat → Nat} {qn : Nat → Nat} {qt : Nat → Nat} {qk : Nat → Nat} {qr : Nat → Nat} {qs : Nat → Nat → Nat} {a : Nat} {τ : TX} {D : va_G} {A : Nat → Prop} {res : Int32 × XS} (σ : XS) (a1_ : Int32) (a2_ : Int32) (a3_ : Int32) (b0_ : Int32) (C : Cx X cX5_add RX5 11 D (gty cy) A 7 0 0) (hR : Rt X (some .int) D (gty cy) A 0 0 (eI (wX5 cy q qn qt qk qr qs a τ res.2) res.1))  (ok : oX5_add_50 τ  σ a1_ a2_ a3_ b0_) (h : pX5_add_50 τ  σ a1_ a2_ a3_ b0_ = res) : At X D A 11 0 0 50 [(0, .ref (q 8)), (1, .int a1_), (2, .int a2_), (3, .int a3_)] [.int b0_] (wX5 cy q qn qt qk qr qs a τ σ) := by
  unfold pX5_add_50 at h
  unfold oX5_add_50 at ok
  refine r_istore (lv' := [(4, .int b0_), (0, .ref (q 8)), (1, .int a1_), (2, .int a2_), (3, .int a3_)]) C (dall tdX5_add 26 rfl) (by decide) rfl ?_
  refine r_iconst (v := -1) C (dall tdX5_add 27 rfl) (by decide) ?_
  refine r_istore (lv' := [(5, .int (-1)), (4, .int b0_), (0, .ref (q 8)), (1, .int a1_), (2, .int a2_), (3, .int a3_)]) C (dall tdX5_add 28 rfl) (by decide) rfl ?_
  refine r_iconst (v := 0) C (dall tdX5_add 29 rfl) (by decide) ?_
  refine r_istore (lv' := [(6, .int 0), (5, .int (-1)), (4, .int b0_), (0, .ref (q 8)), (1, .int a1_), (2, .int a2_), (3, .int a3_)]) C (dall tdX5_add 30 rfl) (by decide) rfl ?_
  refine r_pick [3, 4, 5, 6, 2, 1, 0] rfl ?_
  exact lX5_add_58 a1_ a2_ a3_ C hR  fu _ ok h
def pX5_add_41 (τ : TX)  (σ : XS) (a1_ : Int32) (a2_ : Int32) (a3_ : Int32) : Int32 × XS := pX5_add_50 τ  (xT σ ((fX4_countBehind τ σ.2.2.1 a2_ (-1)).2)) a1_ a2_ a3_ ((fX4_countBehind τ σ.2.2.1 a2_ (-1)).1)
def oX5_add_41 (τ : TX)  (σ : XS) (a1_ : Int32) (a2_ : Int32) (a3_ : Int32) : Prop := (gX4_countBehind τ σ.2.2.1 a2_ (-1)) ∧ (oX5_add_50 τ  (xT σ ((fX4_countBehind τ σ.2.2.1 a2_ (-1)).2)) a1_ a2_ a3_ ((fX4_countBehind τ σ.2.2.1 a2_ (-1)).1))
set_option maxHeartbeats 4000000 in
set_option maxRecDepth 100000 in
theorem wX5_add_41 {X : CX} {cy : Nat → ClassId} {q : Nat → Nat} {qn : Nat → Nat} {qt : Nat → Nat} {qk : Nat → Nat} {qr : Nat → Nat} {qs : Nat → Nat → Nat} {a : Nat} {τ : TX} {D : va_G} {A : Nat → Prop} {res : Int32 × XS} (σ : XS) (a1_ : Int32) (a2_ : Int32) (a3_ : Int32) (C : Cx X cX5_add RX5 11 D (gty cy) A 7 0 0) (hR : Rt X (some .int) D (gty cy) A 0 0 (eI (wX5 cy q qn qt qk qr qs a τ res.2) res.1))  (ok : oX5_add_41 τ  σ a1_ a2_ a3_) (h : pX5_add_41 τ  σ a1_ a2_ a3_ = res) : At X D A 11 0 0 41 [(0, .ref (q 8)), (1, .int a1_), (2, .int a2_), (3, .int a3_)] [] (wX5 cy q qn qt qk qr qs a τ σ) := by
  unfold pX5_add_41 at h
  unfold oX5_add_41 at ok
  refine r_aload_n C 0 (dall tdX5_add 21 rfl) rfl ?_
  refine r_get C 0 kw_X5 rfl rfl (by decide) kf_X5_24 rfl rfl (dall tdX5_add 22 rfl) ?_
  refine r_iload_n C 2 (dall tdX5_add 23 rfl) rfl ?_
  refine r_iconst (v := -1) C (dall tdX5_add 24 rfl) (by decide) ?_
  obtain ⟨o13, ok⟩ := ok
  refine rcT_I (as := [.int a2_, .int (-1)]) C (zX4_countBehind cy (va_up qt 9 a) τ σ.2.2.1 a2_ (-1) o13) mv_X4_countBehind km_X5_190 (by decide) (by decide) ⟨Nat.le_refl _, Nat.le_refl _⟩ rfl rfl (Nat.le_of_ble_eq_true rfl) (dall tdX5_add 25 rfl) ?_
  exact wX5_add_50 (xT σ ((fX4_countBehind τ σ.2.2.1 a2_ (-1)).2)) a1_ a2_ a3_ ((fX4_countBehind τ σ.2.2.1 a2_ (-1)).1) C hR  ok h
def pX5_add_0 (τ : TX)  (σ : XS) (a1_ : Int32) (a2_ : Int32) (a3_ : Int32) : Int32 × XS := if (fX5_isOne τ σ a1_) = 0 then ((-2), σ) else if a2_ < 1 then ((-2), σ) else if 20 < a2_ then ((-2), σ) else if (fX5_within a3_ 1) = 0 then ((-2), σ) else pX5_add_41 τ  (xT σ (oB4 σ.2.2.1 (fX4_become σ.2.1 σ.2.2.1))) a1_ a2_ a3_
def oX5_add_0 (τ : TX)  (σ : XS) (a1_ : Int32) (a2_ : Int32) (a3_ : Int32) : Prop := ((fX5_isOne τ σ a1_) = 0 → True) ∧ (¬ ((fX5_isOne τ σ a1_) = 0) → (a2_ < 1 → True) ∧ (¬ (a2_ < 1) → (20 < a2_ → True) ∧ (¬ (20 < a2_) → ((fX5_within a3_ 1) = 0 → True) ∧ (¬ ((fX5_within a3_ 1) = 0) → (gX4_become σ.2.1 σ.2.2.1) ∧ (oX5_add_41 τ  (xT σ (oB4 σ.2.2.1 (fX4_become σ.2.1 σ.2.2.1))) a1_ a2_ a3_)))))
set_option maxHeartbeats 4000000 in
set_option maxRecDepth 100000 in
theorem wX5_add_0 {X : CX} {cy : Nat → ClassId} {q : Nat → Nat} {qn : Nat → Nat} {qt : Nat → Nat} {qk : Nat → Nat} {qr : Nat → Nat} {qs : Nat → Nat → Nat} {a : Nat} {τ : TX} {D : va_G} {A : Nat → Prop} {res : Int32 × XS} (σ : XS) (a1_ : Int32) (a2_ : Int32) (a3_ : Int32) (C : Cx X cX5_add RX5 11 D (gty cy) A 7 0 0) (hR : Rt X (some .int) D (gty cy) A 0 0 (eI (wX5 cy q qn qt qk qr qs a τ res.2) res.1))  (ok : oX5_add_0 τ  σ a1_ a2_ a3_) (h : pX5_add_0 τ  σ a1_ a2_ a3_ = res) : At X D A 11 0 0 0 [(0, .ref (q 8)), (1, .int a1_), (2, .int a2_), (3, .int a3_)] [] (wX5 cy q qn qt qk qr qs a τ σ) := by
  unfold pX5_add_0 at h
  unfold oX5_add_0 at ok
  refine r_aload_n C 0 (dall tdX5_add 0 rfl) rfl ?_
  refine r_iload_n C 1 (dall tdX5_add 1 rfl) rfl ?_
  refine r_vI (as := [.int a1_]) C (zX5_isOne cy q qn qt qk qr qs a τ σ a1_ ) mv_X5_isOne km_X5_97 (by decide) (by decide) ⟨Nat.le_refl _, Nat.le_refl _⟩ rfl rfl rfl rfl (Nat.le_of_ble_eq_true rfl) (dall tdX5_add 2 rfl) ?_
  refine r_if_eq (tgt := 27) C (dall tdX5_add 3 rfl) (by decide) (fun c14 => ?_) (fun c14 => ?_)
  · have h := (if_pos c14).symm.trans h
    have ok := ok.1 c14
    refine r_bipush (v := -2) C (dall tdX5_add 14 rfl) (by decide) ?_
    exact r_iret C hR (dall tdX5_add 15 rfl) (by subst h; exact ⟨rfl, rfl⟩)
  · have h := (if_neg c14).symm.trans h
    have ok := ok.2 c14
    refine r_iload_n C 2 (dall tdX5_add 4 rfl) rfl ?_
    refine r_iconst (v := 1) C (dall tdX5_add 5 rfl) (by decide) ?_
    refine r_icmp_lt (tgt := 27) C (dall tdX5_add 6 rfl) (by decide) (fun c15 => ?_) (fun c15 => ?_)
    · have h := (if_pos c15).symm.trans h
      have ok := ok.1 c15
      refine r_bipush (v := -2) C (dall tdX5_add 14 rfl) (by decide) ?_
      exact r_iret C hR (dall tdX5_add 15 rfl) (by subst h; exact ⟨rfl, rfl⟩)
    · have h := (if_neg c15).symm.trans h
      have ok := ok.2 c15
      refine r_iload_n C 2 (dall tdX5_add 7 rfl) rfl ?_
      refine r_bipush (v := 20) C (dall tdX5_add 8 rfl) (by decide) ?_
      refine r_icmp_gt (tgt := 27) C (dall tdX5_add 9 rfl) (by decide) (fun c16 => ?_) (fun c16 => ?_)
      · have h := (if_pos c16).symm.trans h
        have ok := ok.1 c16
        refine r_bipush (v := -2) C (dall tdX5_add 14 rfl) (by decide) ?_
        exact r_iret C hR (dall tdX5_add 15 rfl) (by subst h; exact ⟨rfl, rfl⟩)
      · have h := (if_neg c16).symm.trans h
        have ok := ok.2 c16
        refine r_iload_n C 3 (dall tdX5_add 10 rfl) rfl ?_
        refine r_iconst (v := 1) C (dall tdX5_add 11 rfl) (by decide) ?_
        refine r_s0I (as := [.int a3_, .int 1]) C (zX5_within a3_ 1 ) ms_X5_within km_X5_74 (by decide) (by decide) ⟨Nat.le_refl _, Nat.le_refl _⟩ rfl rfl (Nat.le_of_ble_eq_true rfl) (dall tdX5_add 12 rfl) ?_
        refine r_if_ne (tgt := 30) C (dall tdX5_add 13 rfl) (by decide) (fun c17 => ?_) (fun c17 => ?_)
        · have h := (if_neg c17).symm.trans h
          have ok := ok.2 c17
          refine r_aload_n C 0 (dall tdX5_add 16 rfl) rfl ?_
          refine r_get C 0 kw_X5 rfl rfl (by decide) kf_X5_24 rfl rfl (dall tdX5_add 17 rfl) ?_
          refine r_aload_n C 0 (dall tdX5_add 18 rfl) rfl ?_
          refine r_get C 0 kw_X5 rfl rfl (by decide) kf_X5_20 rfl rfl (dall tdX5_add 19 rfl) ?_
          obtain ⟨o18, ok⟩ := ok
          refine rcB_TN (as := [.ref (va_up qn 9 a 12)]) C (zX4_become cy (va_up qt 9 a) (va_up qn 9 a) σ.2.1 σ.2.2.1 o18) mv_X4_become km_X5_186 (by decide) (by decide) ⟨Nat.le_refl _, Nat.le_refl _⟩ rfl rfl (Nat.le_of_ble_eq_true rfl) (dall tdX5_add 20 rfl) ?_
          exact wX5_add_41 (xT σ (oB4 σ.2.2.1 (fX4_become σ.2.1 σ.2.2.1))) a1_ a2_ a3_ C hR  ok h
        · have h := (if_pos c17).symm.trans h
          have ok := ok.1 c17
          refine r_bipush (v := -2) C (dall tdX5_add 14 rfl) (by decide) ?_
          exact r_iret C hR (dall tdX5_add 15 rfl) (by subst h; exact ⟨rfl, rfl⟩)
def fX5_add (τ : TX) (σ : XS) (a1_ : Int32) (a2_ : Int32) (a3_ : Int32) : Int32 × XS := pX5_add_0 τ  σ a1_ a2_ a3_
def gX5_add (τ : TX) (σ : XS) (a1_ : Int32) (a2_ : Int32) (a3_ : Int32) : Prop := oX5_add_0 τ  σ a1_ a2_ a3_
set_option maxRecDepth 100000 in
theorem zX5_add (cy : Nat → ClassId) (q : Nat → Nat) (qn : Nat → Nat) (qt : Nat → Nat) (qk : Nat → Nat) (qr : Nat → Nat) (qs : Nat → Nat → Nat) (a : Nat) (τ : TX)  {D : va_G} (σ : XS) (a1_ : Int32) (a2_ : Int32) (a3_ : Int32) (ok : gX5_add τ σ a1_ a2_ a3_)  : Con yX5_add cX5_add 11 (some .int) 7 0 0 D (gty cy) [.ref (q 8), .int a1_, .int a2_, .int a3_] (wX5 cy q qn qt qk qr qs a τ σ) (eI (wX5 cy q qn qt qk qr qs a τ (fX5_add τ σ a1_ a2_ a3_).2) (fX5_add τ σ a1_ a2_ a3_).1) :=
  Con.of (own := RX5) (by decide +kernel) rfl (Nat.le_of_ble_eq_true rfl) (Nat.zero_le _) (fun X A C hR _ => (wX5_add_0 σ a1_ a2_ a3_ C hR  ok rfl))
theorem mv_X5_add : MV yX5_add cX5_add 11 (some .int) RX5 3 := ⟨ki_X5_add, kv_X5_add, kn_X5, kc_X5_add, by decide +kernel⟩
def tbX5_share : List (Nat × Instr × Nat) := [(0, .aload_n 0, 1), (1, .getfield 20, 3), (4, .invokevirtual 107, 3), (7, .invokestatic 148, 3), (10, .istore_n 3, 1), (11, .aload_n 0, 1), (12, .iload_n 1, 1), (13, .invokevirtual 97, 3), (16, .ifCond .eq 15, 3), (19, .iload_n 2, 1), (20, .iconst 1, 1), (21, .invokestatic 74, 3), (24, .ifCond .eq 7, 3), (27, .iload_n 3, 1), (28, .ifCond .ne 7, 3), (31, .ldc2_w 111, 3), (34, .lreturn, 1), (35, .aload_n 0, 1), (36, .getfield 20, 3), (39, .getfield 84, 3), (42, .iload_n 1, 1), (43, .laload, 1), (44, .invokestatic 148, 3), (47, .iload_n 3, 1), (48, .iload_n 2, 1), (49, .invokestatic 193, 3), (52, .i2l, 1), (53, .lreturn, 1)]
theorem tdX5_share : tbX5_share.all (fun q => decide (decode cX5_share q.1 = .ok q.2)) = true := by decide +kernel
def pX5_share_0 (τ : TX)  (σ : XS) (a1_ : Int32) (a2_ : Int32) : Int64 := if (fX5_isOne τ σ a1_) = 0 then (-4611686018427387904) else if (fX5_within a2_ 1) = 0 then (-4611686018427387904) else if (fJ13_bitCount_95d88 (fX4_stands σ.2.1)) = 0 then (-4611686018427387904) else (fX5_lowest (fJ13_bitCount_95d88 (σ.2.1.2.2.2 3 a1_.toNatClampNeg)) (fJ13_bitCount_95d88 (fX4_stands σ.2.1)) a2_).toInt64
def oX5_share_0 (τ : TX)  (σ : XS) (a1_ : Int32) (a2_ : Int32) : Prop := (gX4_stands σ.2.1 ) ∧ (((fX5_isOne τ σ a1_) = 0 → True) ∧ (¬ ((fX5_isOne τ σ a1_) = 0) → ((fX5_within a2_ 1) = 0 → True) ∧ (¬ ((fX5_within a2_ 1) = 0) → ((fJ13_bitCount_95d88 (fX4_stands σ.2.1)) = 0 → True) ∧ (¬ ((fJ13_bitCount_95d88 (fX4_stands σ.2.1)) = 0) → (vp_in a1_ 5) ∧ (gX5_lowest (fJ13_bitCount_95d88 (σ.2.1.2.2.2 3 a1_.toNatClampNeg)) (fJ13_bitCount_95d88 (fX4_stands σ.2.1)) a2_)))))
set_option maxHeartbeats 4000000 in
set_option maxRecDepth 100000 in
theorem wX5_share_0 {X : CX} {cy : Nat → ClassId} {q : Nat → Nat} {qn : Nat → Nat} {qt : Nat → Nat} {qk : Nat → Nat} {qr : Nat → Nat} {qs : Nat → Nat → Nat} {a : Nat} {τ : TX} {D : va_G} {A : Nat → Prop} {res : Int64} (σ : XS) (a1_ : Int32) (a2_ : Int32) (C : Cx X cX5_share RX5 4 D (gty cy) A 2 0 0) (hR : Rt X (some .long) D (gty cy) A 0 0 (eL (wX5 cy q qn qt qk qr qs a τ σ) res))  (ok : oX5_share_0 τ  σ a1_ a2_) (h : pX5_share_0 τ  σ a1_ a2_ = res) : At X D A 4 0 0 0 [(0, .ref (q 8)), (1, .int a1_), (2, .int a2_)] [] (wX5 cy q qn qt qk qr qs a τ σ) := by
  unfold pX5_share_0 at h
  unfold oX5_share_0 at ok
  refine r_aload_n C 0 (dall tdX5_share 0 rfl) rfl ?_
  refine r_get C 0 kw_X5 rfl rfl (by decide) kf_X5_20 rfl rfl (dall tdX5_share 1 rfl) ?_
  obtain ⟨o1, ok⟩ := ok
  refine rcN_L0 (as := []) C (zX4_stands cy (va_up qn 9 a) (tw cy a τ) σ.2.1  o1) mv_X4_stands km_X5_107 (by decide) (by decide) ⟨Nat.le_refl _, Nat.le_refl _⟩ rfl rfl (Nat.le_of_ble_eq_true rfl) (dall tdX5_share 2 rfl) ?_
  refine r_s0I (as := [.long (fX4_stands σ.2.1)]) C (zJ13_bitCount_95d88 (fX4_stands σ.2.1) ) ms_J13_bitCount_95d88 km_X5_148 (by decide) (by decide) ⟨Nat.le_refl _, Nat.le_refl _⟩ rfl rfl (Nat.le_of_ble_eq_true rfl) (dall tdX5_share 3 rfl) ?_
  refine r_istore_n (lv' := [(3, .int (fJ13_bitCount_95d88 (fX4_stands σ.2.1))), (0, .ref (q 8)), (1, .int a1_), (2, .int a2_)]) C (dall tdX5_share 4 rfl) (by decide) rfl ?_
  refine r_aload_n C 1 (dall tdX5_share 5 rfl) rfl ?_
  refine r_iload_n C 2 (dall tdX5_share 6 rfl) rfl ?_
  refine r_vI (as := [.int a1_]) C (zX5_isOne cy q qn qt qk qr qs a τ σ a1_ ) mv_X5_isOne km_X5_97 (by decide) (by decide) ⟨Nat.le_refl _, Nat.le_refl _⟩ rfl rfl rfl rfl (Nat.le_of_ble_eq_true rfl) (dall tdX5_share 7 rfl) ?_
  refine r_if_eq (tgt := 31) C (dall tdX5_share 8 rfl) (by decide) (fun c2 => ?_) (fun c2 => ?_)
  · have h := (if_pos c2).symm.trans h
    have ok := ok.1 c2
    refine r_ldc2 C kk_X5_111 (dall tdX5_share 15 rfl) ?_
    exact r_lret C hR (dall tdX5_share 16 rfl) (by subst h; exact ⟨rfl, rfl⟩)
  · have h := (if_neg c2).symm.trans h
    have ok := ok.2 c2
    refine r_iload_n C 3 (dall tdX5_share 9 rfl) rfl ?_
    refine r_iconst (v := 1) C (dall tdX5_share 10 rfl) (by decide) ?_
    refine r_s0I (as := [.int a2_, .int 1]) C (zX5_within a2_ 1 ) ms_X5_within km_X5_74 (by decide) (by decide) ⟨Nat.le_refl _, Nat.le_refl _⟩ rfl rfl (Nat.le_of_ble_eq_true rfl) (dall tdX5_share 11 rfl) ?_
    refine r_if_eq (tgt := 31) C (dall tdX5_share 12 rfl) (by decide) (fun c3 => ?_) (fun c3 => ?_)
    · have h := (if_pos c3).symm.trans h
      have ok := ok.1 c3
      refine r_ldc2 C kk_X5_111 (dall tdX5_share 15 rfl) ?_
      exact r_lret C hR (dall tdX5_share 16 rfl) (by subst h; exact ⟨rfl, rfl⟩)
    · have h := (if_neg c3).symm.trans h
      have ok := ok.2 c3
      refine r_iload_n C 0 (dall tdX5_share 13 rfl) rfl ?_
      refine r_if_ne (tgt := 35) C (dall tdX5_share 14 rfl) (by decide) (fun c4 => ?_) (fun c4 => ?_)
      · have h := (if_neg c4).symm.trans h
        have ok := ok.2 c4
        refine r_aload_n C 1 (dall tdX5_share 17 rfl) rfl ?_
        refine r_get C 0 kw_X5 rfl rfl (by decide) kf_X5_20 rfl rfl (dall tdX5_share 18 rfl) ?_
        refine r_get C 1 kw_X4 rfl rfl (by decide) kf_X5_84 rfl rfl (dall tdX5_share 19 rfl) ?_
        refine r_iload_n C 2 (dall tdX5_share 20 rfl) rfl ?_
        obtain ⟨o5, ok⟩ := ok
        refine r_lald C 5 1 rfl rfl o5 (dall tdX5_share 21 rfl) ?_
        refine r_s0I (as := [.long (σ.2.1.2.2.2 3 a1_.toNatClampNeg)]) C (zJ13_bitCount_95d88 (σ.2.1.2.2.2 3 a1_.toNatClampNeg) ) ms_J13_bitCount_95d88 km_X5_148 (by decide) (by decide) ⟨Nat.le_refl _, Nat.le_refl _⟩ rfl rfl (Nat.le_of_ble_eq_true rfl) (dall tdX5_share 22 rfl) ?_
        refine r_iload_n C 0 (dall tdX5_share 23 rfl) rfl ?_
        refine r_iload_n C 3 (dall tdX5_share 24 rfl) rfl ?_
        have o6 := ok
        refine r_s0I (as := [.int (fJ13_bitCount_95d88 (σ.2.1.2.2.2 3 a1_.toNatClampNeg)), .int (fJ13_bitCount_95d88 (fX4_stands σ.2.1)), .int a2_]) C (zX5_lowest (fJ13_bitCount_95d88 (σ.2.1.2.2.2 3 a1_.toNatClampNeg)) (fJ13_bitCount_95d88 (fX4_stands σ.2.1)) a2_ o6) ms_X5_lowest km_X5_193 (by decide) (by decide) ⟨Nat.le_refl _, Nat.le_refl _⟩ rfl rfl (Nat.le_of_ble_eq_true rfl) (dall tdX5_share 25 rfl) ?_
        refine r_i2l C (dall tdX5_share 26 rfl) ?_
        exact r_lret C hR (dall tdX5_share 27 rfl) (by subst h; exact ⟨rfl, rfl⟩)
      · have h := (if_pos c4).symm.trans h
        have ok := ok.1 c4
        refine r_ldc2 C kk_X5_111 (dall tdX5_share 15 rfl) ?_
        exact r_lret C hR (dall tdX5_share 16 rfl) (by subst h; exact ⟨rfl, rfl⟩)
def fX5_share (τ : TX) (σ : XS) (a1_ : Int32) (a2_ : Int32) : Int64 := pX5_share_0 τ  σ a1_ a2_
def gX5_share (τ : TX) (σ : XS) (a1_ : Int32) (a2_ : Int32) : Prop := oX5_share_0 τ  σ a1_ a2_
set_option maxRecDepth 100000 in
theorem zX5_share (cy : Nat → ClassId) (q : Nat → Nat) (qn : Nat → Nat) (qt : Nat → Nat) (qk : Nat → Nat) (qr : Nat → Nat) (qs : Nat → Nat → Nat) (a : Nat) (τ : TX)  {D : va_G} (σ : XS) (a1_ : Int32) (a2_ : Int32) (ok : gX5_share τ σ a1_ a2_)  : Con yX5_share cX5_share 4 (some .long) 2 0 0 D (gty cy) [.ref (q 8), .int a1_, .int a2_] (wX5 cy q qn qt qk qr qs a τ σ) (eL (wX5 cy q qn qt qk qr qs a τ σ) (fX5_share τ σ a1_ a2_)) :=
  Con.of (own := RX5) (by decide +kernel) rfl (Nat.le_of_ble_eq_true rfl) (Nat.zero_le _) (fun X A C hR _ => (wX5_share_0 σ a1_ a2_ C hR  ok rfl))
theorem mv_X5_share : MV yX5_share cX5_share 4 (some .long) RX5 2 := ⟨ki_X5_share, kv_X5_share, kn_X5, kc_X5_share, by decide +kernel⟩
def tbX5_firstOtherwise : List (Nat × Instr × Nat) := [(0, .iconst 0, 1), (1, .istore_n 3, 1), (2, .iload_n 3, 1), (3, .aload_n 1, 1), (4, .getfield 203, 3), (7, .if_icmp .ge 39, 3), (10, .aload_n 0, 1), (11, .getfield 24, 3), (14, .invokevirtual 164, 3), (17, .aload_n 0, 1), (18, .getfield 24, 3), (21, .getfield 84, 3), (24, .iload_n 2, 1), (25, .laload, 1), (26, .invokestatic 148, 3), (29, .aload_n 1, 1), (30, .getfield 234, 3), (33, .iload_n 3, 1), (34, .iaload, 1), (35, .if_icmp .eq 5, 3), (38, .iload_n 3, 1), (39, .ireturn, 1), (40, .iinc 3 1, 3), (43, .goto (-41), 3), (46, .iconst (-1), 1), (47, .ireturn, 1)]
theorem tdX5_firstOtherwise : tbX5_firstOtherwise.all (fun q => decide (decode cX5_firstOtherwise q.1 = .ok q.2)) = true := by decide +kernel
def pX5_firstOtherwise_17 (τ : TX) (si : Nat) (kR2 : XS × Int32 → Int32 × XS) (σ : XS) (a2_ : Int32) (a3_ : Int32) : Int32 × XS := if (fJ13_bitCount_95d88 (σ.2.2.1.2.2.2 3 a2_.toNatClampNeg)) = ((σ.2.2.2.2.2 si).2.2.1 0 a3_.toNatClampNeg) then kR2 (σ, a3_ + 1) else (a3_, σ)
def oX5_firstOtherwise_17 (τ : TX) (si : Nat) (kO2 : XS × Int32 → Prop) (σ : XS) (a2_ : Int32) (a3_ : Int32) : Prop := (vp_in a2_ 5) ∧ ((si < 4) ∧ ((si < 4) ∧ ((vp_in a3_ 40) ∧ (((fJ13_bitCount_95d88 (σ.2.2.1.2.2.2 3 a2_.toNatClampNeg)) = ((σ.2.2.2.2.2 si).2.2.1 0 a3_.toNatClampNeg) → kO2 (σ, a3_ + 1)) ∧ (¬ ((fJ13_bitCount_95d88 (σ.2.2.1.2.2.2 3 a2_.toNatClampNeg)) = ((σ.2.2.2.2.2 si).2.2.1 0 a3_.toNatClampNeg)) → True)))))
set_option maxHeartbeats 4000000 in
set_option maxRecDepth 100000 in
theorem wX5_firstOtherwise_17 {X : CX} {cy : Nat → ClassId} {q : Nat → Nat} {qn : Nat → Nat} {qt : Nat → Nat} {qk : Nat → Nat} {qr : Nat → Nat} {qs : Nat → Nat → Nat} {a : Nat} {τ : TX} {si : Nat} {D : va_G} {A : Nat → Prop} {res : Int32 × XS} (σ : XS) (a2_ : Int32) (a3_ : Int32) (C : Cx X cX5_firstOtherwise RX5 4 D (gty cy) A 6 0 0) (hR : Rt X (some .int) D (gty cy) A 0 0 (eI (wX5 cy q qn qt qk qr qs a τ res.2) res.1)) (kR2 : XS × Int32 → Int32 × XS) (kO2 : XS × Int32 → Prop) (hk2 : ∀ z, kO2 z → kR2 z = res → At X D A 4 0 0 2 [(0, .ref (q 8)), (1, .ref (qs si 3)), (2, .int a2_), (3, .int z.2)] [] (wX5 cy q qn qt qk qr qs a τ z.1)) (ok : oX5_firstOtherwise_17 τ si kO2 σ a2_ a3_) (h : pX5_firstOtherwise_17 τ si kR2 σ a2_ a3_ = res) : At X D A 4 0 0 17 [(0, .ref (q 8)), (1, .ref (qs si 3)), (2, .int a2_), (3, .int a3_)] [] (wX5 cy q qn qt qk qr qs a τ σ) := by
  unfold pX5_firstOtherwise_17 at h
  unfold oX5_firstOtherwise_17 at ok
  refine r_aload_n C 0 (dall tdX5_firstOtherwise 9 rfl) rfl ?_
  refine r_get C 0 kw_X5 rfl rfl (by decide) kf_X5_24 rfl rfl (dall tdX5_firstOtherwise 10 rfl) ?_
  refine r_get C 8 kw_X4 rfl rfl (by decide) kf_X5_84 rfl rfl (dall tdX5_firstOtherwise 11 rfl) ?_
  refine r_iload_n C 2 (dall tdX5_firstOtherwise 12 rfl) rfl ?_
  obtain ⟨o1, ok⟩ := ok
  refine r_lald C 12 1 rfl rfl o1 (dall tdX5_firstOtherwise 13 rfl) ?_
  refine r_s0I (as := [.long (σ.2.2.1.2.2.2 3 a2_.toNatClampNeg)]) C (zJ13_bitCount_95d88 (σ.2.2.1.2.2.2 3 a2_.toNatClampNeg) ) ms_J13_bitCount_95d88 km_X5_148 (by decide) (by decide) ⟨Nat.le_refl _, Nat.le_refl _⟩ rfl rfl (Nat.le_of_ble_eq_true rfl) (dall tdX5_firstOtherwise 14 rfl) ?_
  refine r_aload_n C 1 (dall tdX5_firstOtherwise 15 rfl) rfl ?_
  obtain ⟨o2, ok⟩ := ok
  refine r_get C (27 + 2 * si) kw_X1 (sh_obj o2) rfl (by decide) kf_X5_234 rfl rfl (dall tdX5_firstOtherwise 16 rfl) ?_
  refine r_iload_n C 3 (dall tdX5_firstOtherwise 17 rfl) rfl ?_
  obtain ⟨o3, ok⟩ := ok
  obtain ⟨o4, ok⟩ := ok
  refine r_iald C (28 + 2 * si) 0 (sh_arr o3) rfl o4 (dall tdX5_firstOtherwise 18 rfl) ?_
  refine r_icmp_eq (tgt := 40) C (dall tdX5_firstOtherwise 19 rfl) (by decide) (fun c5 => ?_) (fun c5 => ?_)
  · have h := (if_pos c5).symm.trans h
    have ok := ok.1 c5
    refine r_iinc (v := a3_ + 1) (lv' := [(3, .int (a3_ + 1)), (0, .ref (q 8)), (1, .ref (qs si 3)), (2, .int a2_)]) C 3 (dall tdX5_firstOtherwise 22 rfl) rfl rfl (by decide) rfl ?_
    refine r_goto (tgt := 2) C (dall tdX5_firstOtherwise 23 rfl) (by decide) ?_
    refine r_pick [1, 2, 3, 0] rfl ?_
    exact hk2 (σ, a3_ + 1) ok h
  · have h := (if_neg c5).symm.trans h
    have ok := ok.2 c5
    refine r_iload_n C 3 (dall tdX5_firstOtherwise 20 rfl) rfl ?_
    exact r_iret C hR (dall tdX5_firstOtherwise 21 rfl) (by subst h; exact ⟨rfl, rfl⟩)
def bX5_firstOtherwise_2 (τ : TX) (si : Nat) (a2_ : Int32)  (kR2 : XS × Int32 → Int32 × XS) (v : XS × Int32) : Int32 × XS := if ((v.1.2.2.2.2.2 si).1 2) ≤ v.2 then ((-1), v.1) else pX5_firstOtherwise_17 τ si kR2 (xT v.1 (fX4_passYear τ v.1.2.2.1 )) a2_ v.2
def kX5_firstOtherwise_2 (τ : TX) (si : Nat) (a2_ : Int32)  (kO2 : XS × Int32 → Prop) (v : XS × Int32) : Prop := (si < 4) ∧ ((((v.1.2.2.2.2.2 si).1 2) ≤ v.2 → True) ∧ (¬ (((v.1.2.2.2.2.2 si).1 2) ≤ v.2) → (gX4_passYear τ v.1.2.2.1 ) ∧ (oX5_firstOtherwise_17 τ si kO2 (xT v.1 (fX4_passYear τ v.1.2.2.1 )) a2_ v.2)))
set_option maxHeartbeats 4000000 in
set_option maxRecDepth 100000 in
theorem wX5_firstOtherwise_2 {X : CX} {cy : Nat → ClassId} {q : Nat → Nat} {qn : Nat → Nat} {qt : Nat → Nat} {qk : Nat → Nat} {qr : Nat → Nat} {qs : Nat → Nat → Nat} {a : Nat} {τ : TX} {si : Nat} {D : va_G} {A : Nat → Prop} {res : Int32 × XS} (a2_ : Int32) (C : Cx X cX5_firstOtherwise RX5 4 D (gty cy) A 6 0 0) (hR : Rt X (some .int) D (gty cy) A 0 0 (eI (wX5 cy q qn qt qk qr qs a τ res.2) res.1)) (kR2 : XS × Int32 → Int32 × XS) (kO2 : XS × Int32 → Prop) (hk2 : ∀ z, kO2 z → kR2 z = res → At X D A 4 0 0 2 [(0, .ref (q 8)), (1, .ref (qs si 3)), (2, .int a2_), (3, .int z.2)] [] (wX5 cy q qn qt qk qr qs a τ z.1)) (v : XS × Int32) (ok : kX5_firstOtherwise_2 τ si a2_ kO2 v) (h : bX5_firstOtherwise_2 τ si a2_ kR2 v = res) : At X D A 4 0 0 2 [(0, .ref (q 8)), (1, .ref (qs si 3)), (2, .int a2_), (3, .int v.2)] [] (wX5 cy q qn qt qk qr qs a τ v.1) := by
  unfold bX5_firstOtherwise_2 at h
  unfold kX5_firstOtherwise_2 at ok
  refine r_iload_n C 3 (dall tdX5_firstOtherwise 2 rfl) rfl ?_
  refine r_aload_n C 1 (dall tdX5_firstOtherwise 3 rfl) rfl ?_
  obtain ⟨o6, ok⟩ := ok
  refine r_get C (27 + 2 * si) kw_X1 (sh_obj o6) rfl (by decide) kf_X5_203 rfl rfl (dall tdX5_firstOtherwise 4 rfl) ?_
  refine r_icmp_ge (tgt := 46) C (dall tdX5_firstOtherwise 5 rfl) (by decide) (fun c7 => ?_) (fun c7 => ?_)
  · have h := (if_pos c7).symm.trans h
    have ok := ok.1 c7
    refine r_iconst (v := -1) C (dall tdX5_firstOtherwise 24 rfl) (by decide) ?_
    exact r_iret C hR (dall tdX5_firstOtherwise 25 rfl) (by subst h; exact ⟨rfl, rfl⟩)
  · have h := (if_neg c7).symm.trans h
    have ok := ok.2 c7
    refine r_aload_n C 0 (dall tdX5_firstOtherwise 6 rfl) rfl ?_
    refine r_get C 0 kw_X5 rfl rfl (by decide) kf_X5_24 rfl rfl (dall tdX5_firstOtherwise 7 rfl) ?_
    obtain ⟨o8, ok⟩ := ok
    refine rcT_V (as := []) C (zX4_passYear cy (va_up qt 9 a) τ v.1.2.2.1  o8) mv_X4_passYear km_X5_164 (by decide) (by decide) ⟨Nat.le_refl _, Nat.le_refl _⟩ rfl rfl (Nat.le_of_ble_eq_true rfl) (dall tdX5_firstOtherwise 8 rfl) ?_
    exact wX5_firstOtherwise_17 (xT v.1 (fX4_passYear τ v.1.2.2.1 )) a2_ v.2 C hR kR2 kO2 hk2 ok h
set_option maxHeartbeats 4000000 in
set_option maxRecDepth 100000 in
theorem lX5_firstOtherwise_2 {X : CX} {cy : Nat → ClassId} {q : Nat → Nat} {qn : Nat → Nat} {qt : Nat → Nat} {qk : Nat → Nat} {qr : Nat → Nat} {qs : Nat → Nat → Nat} {a : Nat} {τ : TX} {si : Nat} {D : va_G} {A : Nat → Prop} {res : Int32 × XS} (a2_ : Int32) (C : Cx X cX5_firstOtherwise RX5 4 D (gty cy) A 6 0 0) (hR : Rt X (some .int) D (gty cy) A 0 0 (eI (wX5 cy q qn qt qk qr qs a τ res.2) res.1))  (n : Nat) (v : XS × Int32) (ok : lpOk (kX5_firstOtherwise_2 τ si a2_ ) n v) (h : lp (0, xs0) (bX5_firstOtherwise_2 τ si a2_ ) n v = res) : At X D A 4 0 0 2 [(0, .ref (q 8)), (1, .ref (qs si 3)), (2, .int a2_), (3, .int v.2)] [] (wX5 cy q qn qt qk qr qs a τ v.1) :=
  lp_rule (fun v rr_ => rr_ = res → At X D A 4 0 0 2 [(0, .ref (q 8)), (1, .ref (qs si 3)), (2, .int a2_), (3, .int v.2)] [] (wX5 cy q qn qt qk qr qs a τ v.1)) (fun kR kO hk v ok h => wX5_firstOtherwise_2 a2_ C hR  kR kO hk v ok h) n v ok h
def pX5_firstOtherwise_0 (τ : TX) (si : Nat)  (σ : XS) (a2_ : Int32) : Int32 × XS := lp (0, xs0) (bX5_firstOtherwise_2 τ si a2_ ) fu (σ, 0)
def oX5_firstOtherwise_0 (τ : TX) (si : Nat)  (σ : XS) (a2_ : Int32) : Prop := lpOk (kX5_firstOtherwise_2 τ si a2_ ) fu (σ, 0)
set_option maxHeartbeats 4000000 in
set_option maxRecDepth 100000 in
theorem wX5_firstOtherwise_0 {X : CX} {cy : Nat → ClassId} {q : Nat → Nat} {qn : Nat → Nat} {qt : Nat → Nat} {qk : Nat → Nat} {qr : Nat → Nat} {qs : Nat → Nat → Nat} {a : Nat} {τ : TX} {si : Nat} {D : va_G} {A : Nat → Prop} {res : Int32 × XS} (σ : XS) (a2_ : Int32) (C : Cx X cX5_firstOtherwise RX5 4 D (gty cy) A 6 0 0) (hR : Rt X (some .int) D (gty cy) A 0 0 (eI (wX5 cy q qn qt qk qr qs a τ res.2) res.1))  (ok : oX5_firstOtherwise_0 τ si  σ a2_) (h : pX5_firstOtherwise_0 τ si  σ a2_ = res) : At X D A 4 0 0 0 [(0, .ref (q 8)), (1, .ref (qs si 3)), (2, .int a2_)] [] (wX5 cy q qn qt qk qr qs a τ σ) := by
  unfold pX5_firstOtherwise_0 at h
  unfold oX5_firstOtherwise_0 at ok
  refine r_iconst (v := 0) C (dall tdX5_firstOtherwise 0 rfl) (by decide) ?_
  refine r_istore_n (lv' := [(3, .int 0), (0, .ref (q 8)), (1, .ref (qs si 3)), (2, .int a2_)]) C (dall tdX5_firstOtherwise 1 rfl) (by decide) rfl ?_
  refine r_pick [1, 2, 3, 0] rfl ?_
  exact lX5_firstOtherwise_2 a2_ C hR  fu _ ok h
def fX5_firstOtherwise (τ : TX) (si : Nat) (σ : XS) (a2_ : Int32) : Int32 × XS := pX5_firstOtherwise_0 τ si  σ a2_
def gX5_firstOtherwise (τ : TX) (si : Nat) (σ : XS) (a2_ : Int32) : Prop := oX5_firstOtherwise_0 τ si  σ a2_
set_option maxRecDepth 100000 in
theorem zX5_firstOtherwise (cy : Nat → ClassId) (q : Nat → Nat) (qn : Nat → Nat) (qt : Nat → Nat) (qk : Nat → Nat) (qr : Nat → Nat) (qs : Nat → Nat → Nat) (a : Nat) (τ : TX) (si : Nat)  {D : va_G} (σ : XS) (a2_ : Int32) (ok : gX5_firstOtherwise τ si σ a2_)  : Con yX5_firstOtherwise cX5_firstOtherwise 4 (some .int) 6 0 0 D (gty cy) [.ref (q 8), .ref (qs si 3), .int a2_] (wX5 cy q qn qt qk qr qs a τ σ) (eI (wX5 cy q qn qt qk qr qs a τ (fX5_firstOtherwise τ si σ a2_).2) (fX5_firstOtherwise τ si σ a2_).1) :=
  Con.of (own := RX5) (by decide +kernel) rfl (Nat.le_of_ble_eq_true rfl) (Nat.zero_le _) (fun X A C hR _ => (wX5_firstOtherwise_0 σ a2_ C hR  ok rfl))
theorem mv_X5_firstOtherwise : MV yX5_firstOtherwise cX5_firstOtherwise 4 (some .int) RX5 2 := ⟨ki_X5_firstOtherwise, kv_X5_firstOtherwise, kn_X5, kc_X5_firstOtherwise, by decide +kernel⟩
def tbX5_suppositions : List (Nat × Instr × Nat) := [(0, .iload_n 1, 1), (1, .tableswitch 58 1 6 #[39, 42, 58, 58, 45, 50], 39), (40, .bipush 6, 2), (42, .ireturn, 1), (43, .bipush 10, 2), (45, .ireturn, 1), (46, .aload_n 0, 1), (47, .getfield 46, 3), (50, .ireturn, 1), (51, .aload_n 0, 1), (52, .getfield 20, 3), (55, .getfield 78, 3), (58, .ireturn, 1), (59, .bipush 100, 2), (61, .ireturn, 1)]
theorem tdX5_suppositions : tbX5_suppositions.all (fun q => decide (decode cX5_suppositions q.1 = .ok q.2)) = true := by decide +kernel
def pX5_suppositions_0 (τ : TX)  (σ : XS) (a1_ : Int32) : Int32 := if a1_ = 1 then 6 else if a1_ = 2 then 10 else if a1_ = 3 then 100 else if a1_ = 4 then 100 else if a1_ = 5 then σ.1.1 6 else if a1_ = 6 then σ.2.1.1 4 else 100
set_option maxHeartbeats 4000000 in
set_option maxRecDepth 100000 in
theorem wX5_suppositions_0 {X : CX} {cy : Nat → ClassId} {q : Nat → Nat} {qn : Nat → Nat} {qt : Nat → Nat} {qk : Nat → Nat} {qr : Nat → Nat} {qs : Nat → Nat → Nat} {a : Nat} {τ : TX} {D : va_G} {A : Nat → Prop} {res : Int32} (σ : XS) (a1_ : Int32) (C : Cx X cX5_suppositions RX5 2 D (gty cy) A 0 0 0) (hR : Rt X (some .int) D (gty cy) A 0 0 (eI (wX5 cy q qn qt qk qr qs a τ σ) res))  (h : pX5_suppositions_0 τ  σ a1_ = res) : At X D A 2 0 0 0 [(0, .ref (q 8)), (1, .int a1_)] [] (wX5 cy q qn qt qk qr qs a τ σ) := by
  unfold pX5_suppositions_0 at h
  refine r_iload_n C 1 (dall tdX5_suppositions 0 rfl) rfl ?_
  by_cases e1_0 : a1_ = 1
  · have h := (if_pos e1_0).symm.trans h
    refine r_tsIn (off := 39) (tgt := 40) C 1 (dall tdX5_suppositions 1 rfl) e1_0 (by decide) (by decide) (by decide) (by decide) ?_
    refine r_bipush (v := 6) C (dall tdX5_suppositions 2 rfl) (by decide) ?_
    exact r_iret C hR (dall tdX5_suppositions 3 rfl) (by subst h; exact ⟨rfl, rfl⟩)
  · have h := (if_neg e1_0).symm.trans h
    by_cases e1_1 : a1_ = 2
    · have h := (if_pos e1_1).symm.trans h
      refine r_tsIn (off := 42) (tgt := 43) C 2 (dall tdX5_suppositions 1 rfl) e1_1 (by decide) (by decide) (by decide) (by decide) ?_
      refine r_bipush (v := 10) C (dall tdX5_suppositions 4 rfl) (by decide) ?_
      exact r_iret C hR (dall tdX5_suppositions 5 rfl) (by subst h; exact ⟨rfl, rfl⟩)
    · have h := (if_neg e1_1).symm.trans h
      by_cases e1_2 : a1_ = 3
      · have h := (if_pos e1_2).symm.trans h
        refine r_tsIn (off := 58) (tgt := 59) C 3 (dall tdX5_suppositions 1 rfl) e1_2 (by decide) (by decide) (by decide) (by decide) ?_
        refine r_bipush (v := 100) C (dall tdX5_suppositions 13 rfl) (by decide) ?_
        exact r_iret C hR (dall tdX5_suppositions 14 rfl) (by subst h; exact ⟨rfl, rfl⟩)
      · have h := (if_neg e1_2).symm.trans h
        by_cases e1_3 : a1_ = 4
        · have h := (if_pos e1_3).symm.trans h
          refine r_tsIn (off := 58) (tgt := 59) C 4 (dall tdX5_suppositions 1 rfl) e1_3 (by decide) (by decide) (by decide) (by decide) ?_
          refine r_bipush (v := 100) C (dall tdX5_suppositions 13 rfl) (by decide) ?_
          exact r_iret C hR (dall tdX5_suppositions 14 rfl) (by subst h; exact ⟨rfl, rfl⟩)
        · have h := (if_neg e1_3).symm.trans h
          by_cases e1_4 : a1_ = 5
          · have h := (if_pos e1_4).symm.trans h
            refine r_tsIn (off := 45) (tgt := 46) C 5 (dall tdX5_suppositions 1 rfl) e1_4 (by decide) (by decide) (by decide) (by decide) ?_
            refine r_aload_n C 0 (dall tdX5_suppositions 6 rfl) rfl ?_
            refine r_get C 0 kw_X5 rfl rfl (by decide) kf_X5_46 rfl rfl (dall tdX5_suppositions 7 rfl) ?_
            exact r_iret C hR (dall tdX5_suppositions 8 rfl) (by subst h; exact ⟨rfl, rfl⟩)
          · have h := (if_neg e1_4).symm.trans h
            by_cases e1_5 : a1_ = 6
            · have h := (if_pos e1_5).symm.trans h
              refine r_tsIn (off := 50) (tgt := 51) C 6 (dall tdX5_suppositions 1 rfl) e1_5 (by decide) (by decide) (by decide) (by decide) ?_
              refine r_aload_n C 0 (dall tdX5_suppositions 9 rfl) rfl ?_
              refine r_get C 0 kw_X5 rfl rfl (by decide) kf_X5_20 rfl rfl (dall tdX5_suppositions 10 rfl) ?_
              refine r_get C 1 kw_X4 rfl rfl (by decide) kf_X5_78 rfl rfl (dall tdX5_suppositions 11 rfl) ?_
              exact r_iret C hR (dall tdX5_suppositions 12 rfl) (by subst h; exact ⟨rfl, rfl⟩)
            · have h := (if_neg e1_5).symm.trans h
              refine r_tsOut (tgt := 59) C (dall tdX5_suppositions 1 rfl) (by have n0 := ne_toInt e1_0; rw [show (1 : Int32).toInt = 1 from by decide] at n0; have n1 := ne_toInt e1_1; rw [show (2 : Int32).toInt = 2 from by decide] at n1; have n2 := ne_toInt e1_2; rw [show (3 : Int32).toInt = 3 from by decide] at n2; have n3 := ne_toInt e1_3; rw [show (4 : Int32).toInt = 4 from by decide] at n3; have n4 := ne_toInt e1_4; rw [show (5 : Int32).toInt = 5 from by decide] at n4; have n5 := ne_toInt e1_5; rw [show (6 : Int32).toInt = 6 from by decide] at n5; omega) (by decide) ?_
              refine r_bipush (v := 100) C (dall tdX5_suppositions 13 rfl) (by decide) ?_
              exact r_iret C hR (dall tdX5_suppositions 14 rfl) (by subst h; exact ⟨rfl, rfl⟩)
def fX5_suppositions (τ : TX) (σ : XS) (a1_ : Int32) : Int32 := pX5_suppositions_0 τ  σ a1_
set_option maxRecDepth 100000 in
theorem zX5_suppositions (cy : Nat → ClassId) (q : Nat → Nat) (qn : Nat → Nat) (qt : Nat → Nat) (qk : Nat → Nat) (qr : Nat → Nat) (qs : Nat → Nat → Nat) (a : Nat) (τ : TX)  {D : va_G} (σ : XS) (a1_ : Int32)  : Con yX5_suppositions cX5_suppositions 2 (some .int) 0 0 0 D (gty cy) [.ref (q 8), .int a1_] (wX5 cy q qn qt qk qr qs a τ σ) (eI (wX5 cy q qn qt qk qr qs a τ σ) (fX5_suppositions τ σ a1_)) :=
  Con.of (own := RX5) (by decide +kernel) rfl (Nat.le_of_ble_eq_true rfl) (Nat.zero_le _) (fun X A C hR _ => (wX5_suppositions_0 σ a1_ C hR  rfl))
theorem mv_X5_suppositions : MV yX5_suppositions cX5_suppositions 2 (some .int) RX5 1 := ⟨ki_X5_suppositions, kv_X5_suppositions, kn_X5, kc_X5_suppositions, by decide +kernel⟩
def tbX5_suppose : List (Nat × Instr × Nat) := [(0, .aload_n 0, 1), (1, .getfield 24, 3), (4, .aload_n 0, 1), (5, .getfield 20, 3), (8, .invokevirtual 186, 3), (11, .iload_n 1, 1), (12, .tableswitch 86 1 5 #[36, 49, 62, 62, 75], 36), (48, .aload_n 0, 1), (49, .getfield 24, 3), (52, .getfield 81, 3), (55, .iload_n 2, 1), (56, .iload_n 3, 1), (57, .iastore, 1), (58, .goto 40, 3), (61, .aload_n 0, 1), (62, .getfield 24, 3), (65, .getfield 55, 3), (68, .iload_n 2, 1), (69, .iload_n 3, 1), (70, .iastore, 1), (71, .goto 27, 3), (74, .aload_n 0, 1), (75, .getfield 24, 3), (78, .getfield 63, 3), (81, .iload_n 2, 1), (82, .iload_n 3, 1), (83, .iastore, 1), (84, .goto 14, 3), (87, .aload_n 0, 1), (88, .getfield 24, 3), (91, .iload_n 3, 1), (92, .putfield 128, 3), (95, .goto 3, 3), (98, .return_, 1)]
theorem tdX5_suppose : tbX5_suppose.all (fun q => decide (decode cX5_suppose q.1 = .ok q.2)) = true := by decide +kernel
def pX5_suppose_74 (τ : TX)  (σ : XS) (a2_ : Int32) (a3_ : Int32) : XS := xT σ (oS σ.2.2.1 2 a2_.toNatClampNeg a3_)
def oX5_suppose_74 (τ : TX)  (σ : XS) (a2_ : Int32) (a3_ : Int32) : Prop := vp_in a2_ 5
set_option maxHeartbeats 4000000 in
set_option maxRecDepth 100000 in
theorem wX5_suppose_74 {X : CX} {cy : Nat → ClassId} {q : Nat → Nat} {qn : Nat → Nat} {qt : Nat → Nat} {qk : Nat → Nat} {qr : Nat → Nat} {qs : Nat → Nat → Nat} {a : Nat} {τ : TX} {D : va_G} {A : Nat → Prop} {res : XS} (σ : XS) (a2_ : Int32) (a3_ : Int32) (C : Cx X cX5_suppose RX5 4 D (gty cy) A 1 0 0) (hR : Rt X none D (gty cy) A 0 0 (eV (wX5 cy q qn qt qk qr qs a τ res)))  (ok : oX5_suppose_74 τ  σ a2_ a3_) (h : pX5_suppose_74 τ  σ a2_ a3_ = res) : At X D A 4 0 0 74 [(0, .ref (q 8)), (2, .int a2_), (3, .int a3_)] [] (wX5 cy q qn qt qk qr qs a τ σ) := by
  unfold pX5_suppose_74 at h
  unfold oX5_suppose_74 at ok
  refine r_aload_n C 0 (dall tdX5_suppose 21 rfl) rfl ?_
  refine r_get C 0 kw_X5 rfl rfl (by decide) kf_X5_24 rfl rfl (dall tdX5_suppose 22 rfl) ?_
  refine r_get C 8 kw_X4 rfl rfl (by decide) kf_X5_63 rfl rfl (dall tdX5_suppose 23 rfl) ?_
  refine r_iload_n C 1 (dall tdX5_suppose 24 rfl) rfl ?_
  refine r_iload_n C 2 (dall tdX5_suppose 25 rfl) rfl ?_
  have o1 := ok
  refine r_iast C 11 0 rfl rfl o1 (pa_X5_t_2 cy q qn qt qk qr qs a τ σ a2_.toNatClampNeg a3_) (dall tdX5_suppose 26 rfl) ?_
  refine r_goto (tgt := 98) C (dall tdX5_suppose 27 rfl) (by decide) ?_
  exact r_vret C hR (dall tdX5_suppose 33 rfl) (by subst h; exact ⟨rfl, rfl⟩)
def pX5_suppose_11 (τ : TX)  (σ : XS) (a1_ : Int32) (a2_ : Int32) (a3_ : Int32) : XS := if a1_ = 1 then xT σ (oS σ.2.2.1 0 a2_.toNatClampNeg a3_) else if a1_ = 2 then xT σ (oS σ.2.2.1 1 a2_.toNatClampNeg a3_) else if a1_ = 3 then pX5_suppose_74 τ  σ a2_ a3_ else if a1_ = 4 then pX5_suppose_74 τ  σ a2_ a3_ else if a1_ = 5 then xT σ (oI σ.2.2.1 7 a3_) else σ
def oX5_suppose_11 (τ : TX)  (σ : XS) (a1_ : Int32) (a2_ : Int32) (a3_ : Int32) : Prop := (a1_ = 1 → vp_in a2_ 5) ∧ (¬ a1_ = 1 → (a1_ = 2 → vp_in a2_ 5) ∧ (¬ a1_ = 2 → (a1_ = 3 → oX5_suppose_74 τ  σ a2_ a3_) ∧ (¬ a1_ = 3 → (a1_ = 4 → oX5_suppose_74 τ  σ a2_ a3_) ∧ (¬ a1_ = 4 → True))))
set_option maxHeartbeats 4000000 in
set_option maxRecDepth 100000 in
theorem wX5_suppose_11 {X : CX} {cy : Nat → ClassId} {q : Nat → Nat} {qn : Nat → Nat} {qt : Nat → Nat} {qk : Nat → Nat} {qr : Nat → Nat} {qs : Nat → Nat → Nat} {a : Nat} {τ : TX} {D : va_G} {A : Nat → Prop} {res : XS} (σ : XS) (a1_ : Int32) (a2_ : Int32) (a3_ : Int32) (C : Cx X cX5_suppose RX5 4 D (gty cy) A 1 0 0) (hR : Rt X none D (gty cy) A 0 0 (eV (wX5 cy q qn qt qk qr qs a τ res)))  (ok : oX5_suppose_11 τ  σ a1_ a2_ a3_) (h : pX5_suppose_11 τ  σ a1_ a2_ a3_ = res) : At X D A 4 0 0 11 [(0, .ref (q 8)), (1, .int a1_), (2, .int a2_), (3, .int a3_)] [] (wX5 cy q qn qt qk qr qs a τ σ) := by
  unfold pX5_suppose_11 at h
  unfold oX5_suppose_11 at ok
  refine r_iload_n C 1 (dall tdX5_suppose 5 rfl) rfl ?_
  by_cases e12_0 : a1_ = 1
  · have h := (if_pos e12_0).symm.trans h
    have ok := ok.1 e12_0
    refine r_tsIn (off := 36) (tgt := 48) C 1 (dall tdX5_suppose 6 rfl) e12_0 (by decide) (by decide) (by decide) (by decide) ?_
    refine r_aload_n C 0 (dall tdX5_suppose 7 rfl) rfl ?_
    refine r_get C 0 kw_X5 rfl rfl (by decide) kf_X5_24 rfl rfl (dall tdX5_suppose 8 rfl) ?_
    refine r_get C 8 kw_X4 rfl rfl (by decide) kf_X5_81 rfl rfl (dall tdX5_suppose 9 rfl) ?_
    refine r_iload_n C 2 (dall tdX5_suppose 10 rfl) rfl ?_
    refine r_iload_n C 3 (dall tdX5_suppose 11 rfl) rfl ?_
    have o2 := ok
    refine r_iast C 9 0 rfl rfl o2 (pa_X5_t_0 cy q qn qt qk qr qs a τ σ a2_.toNatClampNeg a3_) (dall tdX5_suppose 12 rfl) ?_
    refine r_goto (tgt := 98) C (dall tdX5_suppose 13 rfl) (by decide) ?_
    exact r_vret C hR (dall tdX5_suppose 33 rfl) (by subst h; exact ⟨rfl, rfl⟩)
  · have h := (if_neg e12_0).symm.trans h
    have ok := ok.2 e12_0
    by_cases e12_1 : a1_ = 2
    · have h := (if_pos e12_1).symm.trans h
      have ok := ok.1 e12_1
      refine r_tsIn (off := 49) (tgt := 61) C 2 (dall tdX5_suppose 6 rfl) e12_1 (by decide) (by decide) (by decide) (by decide) ?_
      refine r_aload_n C 0 (dall tdX5_suppose 14 rfl) rfl ?_
      refine r_get C 0 kw_X5 rfl rfl (by decide) kf_X5_24 rfl rfl (dall tdX5_suppose 15 rfl) ?_
      refine r_get C 8 kw_X4 rfl rfl (by decide) kf_X5_55 rfl rfl (dall tdX5_suppose 16 rfl) ?_
      refine r_iload_n C 2 (dall tdX5_suppose 17 rfl) rfl ?_
      refine r_iload_n C 3 (dall tdX5_suppose 18 rfl) rfl ?_
      have o3 := ok
      refine r_iast C 10 0 rfl rfl o3 (pa_X5_t_1 cy q qn qt qk qr qs a τ σ a2_.toNatClampNeg a3_) (dall tdX5_suppose 19 rfl) ?_
      refine r_goto (tgt := 98) C (dall tdX5_suppose 20 rfl) (by decide) ?_
      exact r_vret C hR (dall tdX5_suppose 33 rfl) (by subst h; exact ⟨rfl, rfl⟩)
    · have h := (if_neg e12_1).symm.trans h
      have ok := ok.2 e12_1
      by_cases e12_2 : a1_ = 3
      · have h := (if_pos e12_2).symm.trans h
        have ok := ok.1 e12_2
        refine r_tsIn (off := 62) (tgt := 74) C 3 (dall tdX5_suppose 6 rfl) e12_2 (by decide) (by decide) (by decide) (by decide) ?_
        refine r_pick [0, 2, 3] rfl ?_
        exact wX5_suppose_74 σ a2_ a3_ C hR  ok h
      · have h := (if_neg e12_2).symm.trans h
        have ok := ok.2 e12_2
        by_cases e12_3 : a1_ = 4
        · have h := (if_pos e12_3).symm.trans h
          have ok := ok.1 e12_3
          refine r_tsIn (off := 62) (tgt := 74) C 4 (dall tdX5_suppose 6 rfl) e12_3 (by decide) (by decide) (by decide) (by decide) ?_
          refine r_pick [0, 2, 3] rfl ?_
          exact wX5_suppose_74 σ a2_ a3_ C hR  ok h
        · have h := (if_neg e12_3).symm.trans h
          have ok := ok.2 e12_3
          by_cases e12_4 : a1_ = 5
          · have h := (if_pos e12_4).symm.trans h
            refine r_tsIn (off := 75) (tgt := 87) C 5 (dall tdX5_suppose 6 rfl) e12_4 (by decide) (by decide) (by decide) (by decide) ?_
            refine r_aload_n C 0 (dall tdX5_suppose 28 rfl) rfl ?_
            refine r_get C 0 kw_X5 rfl rfl (by decide) kf_X5_24 rfl rfl (dall tdX5_suppose 29 rfl) ?_
            refine r_iload_n C 3 (dall tdX5_suppose 30 rfl) rfl ?_
            refine r_put C 8 kw_X4 tyX4_ok nmX4 rfl rfl (by decide) kf_X5_128 rfl rfl rfl rfl rfl (Nat.le_of_ble_eq_true rfl) (pu_X5_t_7 cy q qn qt qk qr qs a τ σ a3_) (dall tdX5_suppose 31 rfl) ?_
            refine r_goto (tgt := 98) C (dall tdX5_suppose 32 rfl) (by decide) ?_
            exact r_vret C hR (dall tdX5_suppose 33 rfl) (by subst h; exact ⟨rfl, rfl⟩)
          · have h := (if_neg e12_4).symm.trans h
            refine r_tsOut (tgt := 98) C (dall tdX5_suppose 6 rfl) (by have n0 := ne_toInt e12_0; rw [show (1 : Int32).toInt = 1 from by decide] at n0; have n1 := ne_toInt e12_1; rw [show (2 : Int32).toInt = 2 from by decide] at n1; have n2 := ne_toInt e12_2; rw [show (3 : Int32).toInt = 3 from by decide] at n2; have n3 := ne_toInt e12_3; rw [show (4 : Int32).toInt = 4 from by decide] at n3; have n4 := ne_toInt e12_4; rw [show (5 : Int32).toInt = 5 from by decide] at n4; omega) (by decide) ?_
            exact r_vret C hR (dall tdX5_suppose 33 rfl) (by subst h; exact ⟨rfl, rfl⟩)
def pX5_suppose_0 (τ : TX)  (σ : XS) (a1_ : Int32) (a2_ : Int32) (a3_ : Int32) : XS := pX5_suppose_11 τ  (xT σ (oB4 σ.2.2.1 (fX4_become σ.2.1 σ.2.2.1))) a1_ a2_ a3_
def oX5_suppose_0 (τ : TX)  (σ : XS) (a1_ : Int32) (a2_ : Int32) (a3_ : Int32) : Prop := (gX4_become σ.2.1 σ.2.2.1) ∧ (oX5_suppose_11 τ  (xT σ (oB4 σ.2.2.1 (fX4_become σ.2.1 σ.2.2.1))) a1_ a2_ a3_)
set_option maxHeartbeats 4000000 in
set_option maxRecDepth 100000 in
theorem wX5_suppose_0 {X : CX} {cy : Nat → ClassId} {q : Nat → Nat} {qn : Nat → Nat} {qt : Nat → Nat} {qk : Nat → Nat} {qr : Nat → Nat} {qs : Nat → Nat → Nat} {a : Nat} {τ : TX} {D : va_G} {A : Nat → Prop} {res : XS} (σ : XS) (a1_ : Int32) (a2_ : Int32) (a3_ : Int32) (C : Cx X cX5_suppose RX5 4 D (gty cy) A 1 0 0) (hR : Rt X none D (gty cy) A 0 0 (eV (wX5 cy q qn qt qk qr qs a τ res)))  (ok : oX5_suppose_0 τ  σ a1_ a2_ a3_) (h : pX5_suppose_0 τ  σ a1_ a2_ a3_ = res) : At X D A 4 0 0 0 [(0, .ref (q 8)), (1, .int a1_), (2, .int a2_), (3, .int a3_)] [] (wX5 cy q qn qt qk qr qs a τ σ) := by
  unfold pX5_suppose_0 at h
  unfold oX5_suppose_0 at ok
  refine r_aload_n C 0 (dall tdX5_suppose 0 rfl) rfl ?_
  refine r_get C 0 kw_X5 rfl rfl (by decide) kf_X5_24 rfl rfl (dall tdX5_suppose 1 rfl) ?_
  refine r_aload_n C 0 (dall tdX5_suppose 2 rfl) rfl ?_
  refine r_get C 0 kw_X5 rfl rfl (by decide) kf_X5_20 rfl rfl (dall tdX5_suppose 3 rfl) ?_
  obtain ⟨o4, ok⟩ := ok
  refine rcB_TN (as := [.ref (va_up qn 9 a 12)]) C (zX4_become cy (va_up qt 9 a) (va_up qn 9 a) σ.2.1 σ.2.2.1 o4) mv_X4_become km_X5_186 (by decide) (by decide) ⟨Nat.le_refl _, Nat.le_refl _⟩ rfl rfl (Nat.le_of_ble_eq_true rfl) (dall tdX5_suppose 4 rfl) ?_
  exact wX5_suppose_11 (xT σ (oB4 σ.2.2.1 (fX4_become σ.2.1 σ.2.2.1))) a1_ a2_ a3_ C hR  ok h
def fX5_suppose (τ : TX) (σ : XS) (a1_ : Int32) (a2_ : Int32) (a3_ : Int32) : XS := pX5_suppose_0 τ  σ a1_ a2_ a3_
def gX5_suppose (τ : TX) (σ : XS) (a1_ : Int32) (a2_ : Int32) (a3_ : Int32) : Prop := oX5_suppose_0 τ  σ a1_ a2_ a3_
set_option maxRecDepth 100000 in
theorem zX5_suppose (cy : Nat → ClassId) (q : Nat → Nat) (qn : Nat → Nat) (qt : Nat → Nat) (qk : Nat → Nat) (qr : Nat → Nat) (qs : Nat → Nat → Nat) (a : Nat) (τ : TX)  {D : va_G} (σ : XS) (a1_ : Int32) (a2_ : Int32) (a3_ : Int32) (ok : gX5_suppose τ σ a1_ a2_ a3_)  : Con yX5_suppose cX5_suppose 4 none 1 0 0 D (gty cy) [.ref (q 8), .int a1_, .int a2_, .int a3_] (wX5 cy q qn qt qk qr qs a τ σ) (eV (wX5 cy q qn qt qk qr qs a τ (fX5_suppose τ σ a1_ a2_ a3_))) :=
  Con.of (own := RX5) (by decide +kernel) rfl (Nat.le_of_ble_eq_true rfl) (Nat.zero_le _) (fun X A C hR _ => (wX5_suppose_0 σ a1_ a2_ a3_ C hR  ok rfl))
theorem mv_X5_suppose : MV yX5_suppose cX5_suppose 4 none RX5 3 := ⟨ki_X5_suppose, kv_X5_suppose, kn_X5, kc_X5_suppose, by decide +kernel⟩
def tbX5_supposedTold : List (Nat × Instr × Nat) := [(0, .iconst 0, 1), (1, .istore 4, 2), (3, .iconst 0, 1), (4, .istore 5, 2), (6, .aload_n 0, 1), (7, .iload_n 3, 1), (8, .invokevirtual 267, 3), (11, .istore 6, 2), (13, .iconst 0, 1), (14, .istore 7, 2), (16, .iload 7, 2), (18, .iload 6, 2), (20, .if_icmp .ge 58, 3), (23, .aload_n 0, 1), (24, .iload_n 3, 1), (25, .iload_n 2, 1), (26, .iload 7, 2), (28, .invokevirtual 270, 3), (31, .aload_n 0, 1), (32, .aload_n 1, 1), (33, .iload_n 3, 1), (34, .bipush 6, 2), (36, .if_icmp .ne 8, 3), (39, .iload 7, 2), (41, .goto 4, 3), (44, .iload_n 2, 1), (45, .invokevirtual 206, 3), (48, .iconst (-1), 1), (49, .if_icmp .ne 23, 3), (52, .iload_n 3, 1), (53, .iconst 4, 1), (54, .if_icmp .ne 6, 3), (57, .iload 7, 2), (59, .ireturn, 1), (60, .iinc 5 1, 3), (63, .iload 4, 2), (65, .iconst 1, 1), (66, .iload 7, 2), (68, .ishl, 1), (69, .ior, 1), (70, .istore 4, 2), (72, .iinc 7 1, 3), (75, .goto (-59), 3), (78, .iload_n 3, 1), (79, .iconst 4, 1), (80, .if_icmp .ne 5, 3), (83, .iconst (-1), 1), (84, .ireturn, 1), (85, .iload_n 3, 1), (86, .iconst 3, 1), (87, .if_icmp .ne 8, 3), (90, .iload 5, 2), (92, .goto 5, 3), (95, .iload 4, 2), (97, .ireturn, 1)]
theorem tdX5_supposedTold : tbX5_supposedTold.all (fun q => decide (decode cX5_supposedTold q.1 = .ok q.2)) = true := by decide +kernel
def pX5_supposedTold_72 (τ : TX) (si : Nat) (kR16 : XS × Int32 × Int32 × Int32 → Int32 × XS) (σ : XS) (a2_ : Int32) (a3_ : Int32) (a4_ : Int32) (a5_ : Int32) (a6_ : Int32) (a7_ : Int32) : Int32 × XS := kR16 (σ, a4_, a5_, a7_ + 1)
def oX5_supposedTold_72 (τ : TX) (si : Nat) (kO16 : XS × Int32 × Int32 × Int32 → Prop) (σ : XS) (a2_ : Int32) (a3_ : Int32) (a4_ : Int32) (a5_ : Int32) (a6_ : Int32) (a7_ : Int32) : Prop := kO16 (σ, a4_, a5_, a7_ + 1)
set_option maxHeartbeats 4000000 in
set_option maxRecDepth 100000 in
theorem wX5_supposedTold_72 {X : CX} {cy : Nat → ClassId} {q : Nat → Nat} {qn : Nat → Nat} {qt : Nat → Nat} {qk : Nat → Nat} {qr : Nat → Nat} {qs : Nat → Nat → Nat} {a : Nat} {τ : TX} {si : Nat} {D : va_G} {A : Nat → Prop} {res : Int32 × XS} (σ : XS) (a2_ : Int32) (a3_ : Int32) (a4_ : Int32) (a5_ : Int32) (a6_ : Int32) (a7_ : Int32) (C : Cx X cX5_supposedTold RX5 8 D (gty cy) A 7 0 0) (hR : Rt X (some .int) D (gty cy) A 0 0 (eI (wX5 cy q qn qt qk qr qs a τ res.2) res.1)) (kR16 : XS × Int32 × Int32 × Int32 → Int32 × XS) (kO16 : XS × Int32 × Int32 × Int32 → Prop) (hk16 : ∀ z, kO16 z → kR16 z = res → At X D A 8 0 0 16 [(0, .ref (q 8)), (1, .ref (qs si 3)), (2, .int a2_), (3, .int a3_), (4, .int z.2.1), (5, .int z.2.2.1), (6, .int a6_), (7, .int z.2.2.2)] [] (wX5 cy q qn qt qk qr qs a τ z.1)) (ok : oX5_supposedTold_72 τ si kO16 σ a2_ a3_ a4_ a5_ a6_ a7_) (h : pX5_supposedTold_72 τ si kR16 σ a2_ a3_ a4_ a5_ a6_ a7_ = res) : At X D A 8 0 0 72 [(0, .ref (q 8)), (1, .ref (qs si 3)), (2, .int a2_), (3, .int a3_), (4, .int a4_), (5, .int a5_), (6, .int a6_), (7, .int a7_)] [] (wX5 cy q qn qt qk qr qs a τ σ) := by
  unfold pX5_supposedTold_72 at h
  unfold oX5_supposedTold_72 at ok
  refine r_iinc (v := a7_ + 1) (lv' := [(7, .int (a7_ + 1)), (0, .ref (q 8)), (1, .ref (qs si 3)), (2, .int a2_), (3, .int a3_), (4, .int a4_), (5, .int a5_), (6, .int a6_)]) C 7 (dall tdX5_supposedTold 41 rfl) rfl rfl (by decide) rfl ?_
  refine r_goto (tgt := 16) C (dall tdX5_supposedTold 42 rfl) (by decide) ?_
  refine r_pick [1, 2, 3, 4, 5, 6, 7, 0] rfl ?_
  exact hk16 (σ, a4_, a5_, a7_ + 1) ok h
def pX5_supposedTold_48 (τ : TX) (si : Nat) (kR16 : XS × Int32 × Int32 × Int32 → Int32 × XS) (σ : XS) (a2_ : Int32) (a3_ : Int32) (a4_ : Int32) (a5_ : Int32) (a6_ : Int32) (a7_ : Int32) (b0_ : Int32) : Int32 × XS := if b0_ = (-1) then if a3_ = 4 then (a7_, σ) else pX5_supposedTold_72 τ si kR16 σ a2_ a3_ (a4_ ||| (1 <<< (a7_ &&& 31))) (a5_ + 1) a6_ a7_ else pX5_supposedTold_72 τ si kR16 σ a2_ a3_ a4_ a5_ a6_ a7_
def oX5_supposedTold_48 (τ : TX) (si : Nat) (kO16 : XS × Int32 × Int32 × Int32 → Prop) (σ : XS) (a2_ : Int32) (a3_ : Int32) (a4_ : Int32) (a5_ : Int32) (a6_ : Int32) (a7_ : Int32) (b0_ : Int32) : Prop := (b0_ = (-1) → (a3_ = 4 → True) ∧ (¬ (a3_ = 4) → oX5_supposedTold_72 τ si kO16 σ a2_ a3_ (a4_ ||| (1 <<< (a7_ &&& 31))) (a5_ + 1) a6_ a7_)) ∧ (¬ (b0_ = (-1)) → oX5_supposedTold_72 τ si kO16 σ a2_ a3_ a4_ a5_ a6_ a7_)
set_option maxHeartbeats 4000000 in
set_option maxRecDepth 100000 in
theorem wX5_supposedTold_48 {X : CX} {cy : Nat → ClassId} {q : Nat → Nat} {qn : Nat → Nat} {qt : Nat → Nat} {qk : Nat → Nat} {qr : Nat → Nat} {qs : Nat → Nat → Nat} {a : Nat} {τ : TX} {si : Nat} {D : va_G} {A : Nat → Prop} {res : Int32 × XS} (σ : XS) (a2_ : Int32) (a3_ : Int32) (a4_ : Int32) (a5_ : Int32) (a6_ : Int32) (a7_ : Int32) (b0_ : Int32) (C : Cx X cX5_supposedTold RX5 8 D (gty cy) A 7 0 0) (hR : Rt X (some .int) D (gty cy) A 0 0 (eI (wX5 cy q qn qt qk qr qs a τ res.2) res.1)) (kR16 : XS × Int32 × Int32 × Int32 → Int32 × XS) (kO16 : XS × Int32 × Int32 × Int32 → Prop) (hk16 : ∀ z, kO16 z → kR16 z = res → At X D A 8 0 0 16 [(0, .ref (q 8)), (1, .ref (qs si 3)), (2, .int a2_), (3, .int a3_), (4, .int z.2.1), (5, .int z.2.2.1), (6, .int a6_), (7, .int z.2.2.2)] [] (wX5 cy q qn qt qk qr qs a τ z.1)) (ok : oX5_supposedTold_48 τ si kO16 σ a2_ a3_ a4_ a5_ a6_ a7_ b0_) (h : pX5_supposedTold_48 τ si kR16 σ a2_ a3_ a4_ a5_ a6_ a7_ b0_ = res) : At X D A 8 0 0 48 [(0, .ref (q 8)), (1, .ref (qs si 3)), (2, .int a2_), (3, .int a3_), (4, .int a4_), (5, .int a5_), (6, .int a6_), (7, .int a7_)] [.int b0_] (wX5 cy q qn qt qk qr qs a τ σ) := by
  unfold pX5_supposedTold_48 at h
  unfold oX5_supposedTold_48 at ok
  refine r_iconst (v := -1) C (dall tdX5_supposedTold 27 rfl) (by decide) ?_
  refine r_icmp_ne (tgt := 72) C (dall tdX5_supposedTold 28 rfl) (by decide) (fun c1 => ?_) (fun c1 => ?_)
  · have h := (if_neg c1).symm.trans h
    have ok := ok.2 c1
    exact wX5_supposedTold_72 σ a2_ a3_ a4_ a5_ a6_ a7_ C hR kR16 kO16 hk16 ok h
  · have h := (if_pos c1).symm.trans h
    have ok := ok.1 c1
    refine r_iload_n C 3 (dall tdX5_supposedTold 29 rfl) rfl ?_
    refine r_iconst (v := 4) C (dall tdX5_supposedTold 30 rfl) (by decide) ?_
    refine r_icmp_ne (tgt := 60) C (dall tdX5_supposedTold 31 rfl) (by decide) (fun c2 => ?_) (fun c2 => ?_)
    · have h := (if_neg c2).symm.trans h
      have ok := ok.2 c2
      refine r_iinc (v := a5_ + 1) (lv' := [(5, .int (a5_ + 1)), (0, .ref (q 8)), (1, .ref (qs si 3)), (2, .int a2_), (3, .int a3_), (4, .int a4_), (6, .int a6_), (7, .int a7_)]) C 5 (dall tdX5_supposedTold 34 rfl) rfl rfl (by decide) rfl ?_
      refine r_iload C 5 (dall tdX5_supposedTold 35 rfl) rfl ?_
      refine r_iconst (v := 1) C (dall tdX5_supposedTold 36 rfl) (by decide) ?_
      refine r_iload C 7 (dall tdX5_supposedTold 37 rfl) rfl ?_
      refine r_ishl C (dall tdX5_supposedTold 38 rfl) ?_
      refine r_ior C (dall tdX5_supposedTold 39 rfl) ?_
      refine r_istore (lv' := [(4, .int (a4_ ||| (1 <<< (a7_ &&& 31)))), (5, .int (a5_ + 1)), (0, .ref (q 8)), (1, .ref (qs si 3)), (2, .int a2_), (3, .int a3_), (6, .int a6_), (7, .int a7_)]) C (dall tdX5_supposedTold 40 rfl) (by decide) rfl ?_
      refine r_pick [2, 3, 4, 5, 0, 1, 6, 7] rfl ?_
      exact wX5_supposedTold_72 σ a2_ a3_ (a4_ ||| (1 <<< (a7_ &&& 31))) (a5_ + 1) a6_ a7_ C hR kR16 kO16 hk16 ok h
    · have h := (if_pos c2).symm.trans h
      have ok := ok.1 c2
      refine r_iload C 7 (dall tdX5_supposedTold 32 rfl) rfl ?_
      exact r_iret C hR (dall tdX5_supposedTold 33 rfl) (by subst h; exact ⟨rfl, rfl⟩)
def pX5_supposedTold_45 (τ : TX) (si : Nat) (kR16 : XS × Int32 × Int32 × Int32 → Int32 × XS) (σ : XS) (a2_ : Int32) (a3_ : Int32) (a4_ : Int32) (a5_ : Int32) (a6_ : Int32) (a7_ : Int32) (b0_ : Int32) : Int32 × XS := pX5_supposedTold_48 τ si kR16 ((fX5_firstOtherwise τ si σ b0_).2) a2_ a3_ a4_ a5_ a6_ a7_ ((fX5_firstOtherwise τ si σ b0_).1)
def oX5_supposedTold_45 (τ : TX) (si : Nat) (kO16 : XS × Int32 × Int32 × Int32 → Prop) (σ : XS) (a2_ : Int32) (a3_ : Int32) (a4_ : Int32) (a5_ : Int32) (a6_ : Int32) (a7_ : Int32) (b0_ : Int32) : Prop := (gX5_firstOtherwise τ si σ b0_) ∧ (oX5_supposedTold_48 τ si kO16 ((fX5_firstOtherwise τ si σ b0_).2) a2_ a3_ a4_ a5_ a6_ a7_ ((fX5_firstOtherwise τ si σ b0_).1))
set_option maxHeartbeats 4000000 in
set_option maxRecDepth 100000 in
theorem wX5_supposedTold_45 {X : CX} {cy : Nat → ClassId} {q : Nat → Nat} {qn : Nat → Nat} {qt : Nat → Nat} {qk : Nat → Nat} {qr : Nat → Nat} {qs : Nat → Nat → Nat} {a : Nat} {τ : TX} {si : Nat} {D : va_G} {A : Nat → Prop} {res : Int32 × XS} (σ : XS) (a2_ : Int32) (a3_ : Int32) (a4_ : Int32) (a5_ : Int32) (a6_ : Int32) (a7_ : Int32) (b0_ : Int32) (C : Cx X cX5_supposedTold RX5 8 D (gty cy) A 7 0 0) (hR : Rt X (some .int) D (gty cy) A 0 0 (eI (wX5 cy q qn qt qk qr qs a τ res.2) res.1)) (kR16 : XS × Int32 × Int32 × Int32 → Int32 × XS) (kO16 : XS × Int32 × Int32 × Int32 → Prop) (hk16 : ∀ z, kO16 z → kR16 z = res → At X D A 8 0 0 16 [(0, .ref (q 8)), (1, .ref (qs si 3)), (2, .int a2_), (3, .int a3_), (4, .int z.2.1), (5, .int z.2.2.1), (6, .int a6_), (7, .int z.2.2.2)] [] (wX5 cy q qn qt qk qr qs a τ z.1)) (ok : oX5_supposedTold_45 τ si kO16 σ a2_ a3_ a4_ a5_ a6_ a7_ b0_) (h : pX5_supposedTold_45 τ si kR16 σ a2_ a3_ a4_ a5_ a6_ a7_ b0_ = res) : At X D A 8 0 0 45 [(0, .ref (q 8)), (1, .ref (qs si 3)), (2, .int a2_), (3, .int a3_), (4, .int a4_), (5, .int a5_), (6, .int a6_), (7, .int a7_)] [.int b0_, .ref (qs si 3), .ref (q 8)] (wX5 cy q qn qt qk qr qs a τ σ) := by
  unfold pX5_supposedTold_45 at h
  unfold oX5_supposedTold_45 at ok
  obtain ⟨o3, ok⟩ := ok
  refine r_vI (as := [.ref (qs si 3), .int b0_]) C (zX5_firstOtherwise cy q qn qt qk qr qs a τ si σ b0_ o3) mv_X5_firstOtherwise km_X5_206 (by decide) (by decide) ⟨Nat.le_refl _, Nat.le_refl _⟩ rfl rfl rfl rfl (Nat.le_of_ble_eq_true rfl) (dall tdX5_supposedTold 26 rfl) ?_
  exact wX5_supposedTold_48 ((fX5_firstOtherwise τ si σ b0_).2) a2_ a3_ a4_ a5_ a6_ a7_ ((fX5_firstOtherwise τ si σ b0_).1) C hR kR16 kO16 hk16 ok h
def pX5_supposedTold_31 (τ : TX) (si : Nat) (kR16 : XS × Int32 × Int32 × Int32 → Int32 × XS) (σ : XS) (a2_ : Int32) (a3_ : Int32) (a4_ : Int32) (a5_ : Int32) (a6_ : Int32) (a7_ : Int32) : Int32 × XS := if a3_ = 6 then pX5_supposedTold_45 τ si kR16 σ a2_ a3_ a4_ a5_ a6_ a7_ a7_ else pX5_supposedTold_45 τ si kR16 σ a2_ a3_ a4_ a5_ a6_ a7_ a2_
def oX5_supposedTold_31 (τ : TX) (si : Nat) (kO16 : XS × Int32 × Int32 × Int32 → Prop) (σ : XS) (a2_ : Int32) (a3_ : Int32) (a4_ : Int32) (a5_ : Int32) (a6_ : Int32) (a7_ : Int32) : Prop := (a3_ = 6 → oX5_supposedTold_45 τ si kO16 σ a2_ a3_ a4_ a5_ a6_ a7_ a7_) ∧ (¬ (a3_ = 6) → oX5_supposedTold_45 τ si kO16 σ a2_ a3_ a4_ a5_ a6_ a7_ a2_)
set_option maxHeartbeats 4000000 in
set_option maxRecDepth 100000 in
theorem wX5_supposedTold_31 {X : CX} {cy : Nat → ClassId} {q : Nat → Nat} {qn : Nat → Nat} {qt : Nat → Nat} {qk : Nat → Nat} {qr : Nat → Nat} {qs : Nat → Nat → Nat} {a : Nat} {τ : TX} {si : Nat} {D : va_G} {A : Nat → Prop} {res : Int32 × XS} (σ : XS) (a2_ : Int32) (a3_ : Int32) (a4_ : Int32) (a5_ : Int32) (a6_ : Int32) (a7_ : Int32) (C : Cx X cX5_supposedTold RX5 8 D (gty cy) A 7 0 0) (hR : Rt X (some .int) D (gty cy) A 0 0 (eI (wX5 cy q qn qt qk qr qs a τ res.2) res.1)) (kR16 : XS × Int32 × Int32 × Int32 → Int32 × XS) (kO16 : XS × Int32 × Int32 × Int32 → Prop) (hk16 : ∀ z, kO16 z → kR16 z = res → At X D A 8 0 0 16 [(0, .ref (q 8)), (1, .ref (qs si 3)), (2, .int a2_), (3, .int a3_), (4, .int z.2.1), (5, .int z.2.2.1), (6, .int a6_), (7, .int z.2.2.2)] [] (wX5 cy q qn qt qk qr qs a τ z.1)) (ok : oX5_supposedTold_31 τ si kO16 σ a2_ a3_ a4_ a5_ a6_ a7_) (h : pX5_supposedTold_31 τ si kR16 σ a2_ a3_ a4_ a5_ a6_ a7_ = res) : At X D A 8 0 0 31 [(0, .ref (q 8)), (1, .ref (qs si 3)), (2, .int a2_), (3, .int a3_), (4, .int a4_), (5, .int a5_), (6, .int a6_), (7, .int a7_)] [] (wX5 cy q qn qt qk qr qs a τ σ) := by
  unfold pX5_supposedTold_31 at h
  unfold oX5_supposedTold_31 at ok
  refine r_aload_n C 0 (dall tdX5_supposedTold 18 rfl) rfl ?_
  refine r_aload_n C 1 (dall tdX5_supposedTold 19 rfl) rfl ?_
  refine r_iload_n C 3 (dall tdX5_supposedTold 20 rfl) rfl ?_
  refine r_bipush (v := 6) C (dall tdX5_supposedTold 21 rfl) (by decide) ?_
  refine r_icmp_ne (tgt := 44) C (dall tdX5_supposedTold 22 rfl) (by decide) (fun c4 => ?_) (fun c4 => ?_)
  · have h := (if_neg c4).symm.trans h
    have ok := ok.2 c4
    refine r_iload_n C 2 (dall tdX5_supposedTold 25 rfl) rfl ?_
    exact wX5_supposedTold_45 σ a2_ a3_ a4_ a5_ a6_ a7_ a2_ C hR kR16 kO16 hk16 ok h
  · have h := (if_pos c4).symm.trans h
    have ok := ok.1 c4
    refine r_iload C 7 (dall tdX5_supposedTold 23 rfl) rfl ?_
    refine r_goto (tgt := 45) C (dall tdX5_supposedTold 24 rfl) (by decide) ?_
    exact wX5_supposedTold_45 σ a2_ a3_ a4_ a5_ a6_ a7_ a7_ C hR kR16 kO16 hk16 ok h
def bX5_supposedTold_16 (τ : TX) (si : Nat) (a2_ : Int32) (a3_ : Int32) (a6_ : Int32)  (kR16 : XS × Int32 × Int32 × Int32 → Int32 × XS) (v : XS × Int32 × Int32 × Int32) : Int32 × XS := if a6_ ≤ v.2.2.2 then if a3_ = 4 then ((-1), v.1) else if a3_ = 3 then (v.2.2.1, v.1) else (v.2.1, v.1) else pX5_supposedTold_31 τ si kR16 (fX5_suppose τ v.1 a3_ a2_ v.2.2.2) a2_ a3_ v.2.1 v.2.2.1 a6_ v.2.2.2
def kX5_supposedTold_16 (τ : TX) (si : Nat) (a2_ : Int32) (a3_ : Int32) (a6_ : Int32)  (kO16 : XS × Int32 × Int32 × Int32 → Prop) (v : XS × Int32 × Int32 × Int32) : Prop := (a6_ ≤ v.2.2.2 → True) ∧ (¬ (a6_ ≤ v.2.2.2) → (gX5_suppose τ v.1 a3_ a2_ v.2.2.2) ∧ (oX5_supposedTold_31 τ si kO16 (fX5_suppose τ v.1 a3_ a2_ v.2.2.2) a2_ a3_ v.2.1 v.2.2.1 a6_ v.2.2.2))
set_option maxHeartbeats 4000000 in
set_option maxRecDepth 100000 in
theorem wX5_supposedTold_16 {X : CX} {cy : Nat → ClassId} {q : Nat → Nat} {qn : Nat → Nat} {qt : Nat → Nat} {qk : Nat → Nat} {qr : Nat → Nat} {qs : Nat → Nat → Nat} {a : Nat} {τ : TX} {si : Nat} {D : va_G} {A : Nat → Prop} {res : Int32 × XS} (a2_ : Int32) (a3_ : Int32) (a6_ : Int32) (C : Cx X cX5_supposedTold RX5 8 D (gty cy) A 7 0 0) (hR : Rt X (some .int) D (gty cy) A 0 0 (eI (wX5 cy q qn qt qk qr qs a τ res.2) res.1)) (kR16 : XS × Int32 × Int32 × Int32 → Int32 × XS) (kO16 : XS × Int32 × Int32 × Int32 → Prop) (hk16 : ∀ z, kO16 z → kR16 z = res → At X D A 8 0 0 16 [(0, .ref (q 8)), (1, .ref (qs si 3)), (2, .int a2_), (3, .int a3_), (4, .int z.2.1), (5, .int z.2.2.1), (6, .int a6_), (7, .int z.2.2.2)] [] (wX5 cy q qn qt qk qr qs a τ z.1)) (v : XS × Int32 × Int32 × Int32) (ok : kX5_supposedTold_16 τ si a2_ a3_ a6_ kO16 v) (h : bX5_supposedTold_16 τ si a2_ a3_ a6_ kR16 v = res) : At X D A 8 0 0 16 [(0, .ref (q 8)), (1, .ref (qs si 3)), (2, .int a2_), (3, .int a3_), (4, .int v.2.1), (5, .int v.2.2.1), (6, .int a6_), (7, .int v.2.2.2)] [] (wX5 cy q qn qt qk qr qs a τ v.1) := by
  unfold bX5_supposedTold_16 at h
  unfold kX5_supposedTold_16 at ok
  refine r_iload C 7 (dall tdX5_supposedTold 10 rfl) rfl ?_
  refine r_iload C 6 (dall tdX5_supposedTold 11 rfl) rfl ?_
  refine r_icmp_ge (tgt := 78) C (dall tdX5_supposedTold 12 rfl) (by decide) (fun c5 => ?_) (fun c5 => ?_)
  · have h := (if_pos c5).symm.trans h
    have ok := ok.1 c5
    refine r_iload_n C 3 (dall tdX5_supposedTold 43 rfl) rfl ?_
    refine r_iconst (v := 4) C (dall tdX5_supposedTold 44 rfl) (by decide) ?_
    refine r_icmp_ne (tgt := 85) C (dall tdX5_supposedTold 45 rfl) (by decide) (fun c6 => ?_) (fun c6 => ?_)
    · have h := (if_neg c6).symm.trans h
      refine r_iload_n C 3 (dall tdX5_supposedTold 48 rfl) rfl ?_
      refine r_iconst (v := 3) C (dall tdX5_supposedTold 49 rfl) (by decide) ?_
      refine r_icmp_ne (tgt := 95) C (dall tdX5_supposedTold 50 rfl) (by decide) (fun c7 => ?_) (fun c7 => ?_)
      · have h := (if_neg c7).symm.trans h
        refine r_iload C 4 (dall tdX5_supposedTold 53 rfl) rfl ?_
        exact r_iret C hR (dall tdX5_supposedTold 54 rfl) (by subst h; exact ⟨rfl, rfl⟩)
      · have h := (if_pos c7).symm.trans h
        refine r_iload C 5 (dall tdX5_supposedTold 51 rfl) rfl ?_
        refine r_goto (tgt := 97) C (dall tdX5_supposedTold 52 rfl) (by decide) ?_
        exact r_iret C hR (dall tdX5_supposedTold 54 rfl) (by subst h; exact ⟨rfl, rfl⟩)
    · have h := (if_pos c6).symm.trans h
      refine r_iconst (v := -1) C (dall tdX5_supposedTold 46 rfl) (by decide) ?_
      exact r_iret C hR (dall tdX5_supposedTold 47 rfl) (by subst h; exact ⟨rfl, rfl⟩)
  · have h := (if_neg c5).symm.trans h
    have ok := ok.2 c5
    refine r_aload_n C 0 (dall tdX5_supposedTold 13 rfl) rfl ?_
    refine r_iload_n C 3 (dall tdX5_supposedTold 14 rfl) rfl ?_
    refine r_iload_n C 2 (dall tdX5_supposedTold 15 rfl) rfl ?_
    refine r_iload C 7 (dall tdX5_supposedTold 16 rfl) rfl ?_
    obtain ⟨o8, ok⟩ := ok
    refine r_vV (as := [.int a3_, .int a2_, .int v.2.2.2]) C (zX5_suppose cy q qn qt qk qr qs a τ v.1 a3_ a2_ v.2.2.2 o8) mv_X5_suppose km_X5_270 (by decide) (by decide) ⟨Nat.le_refl _, Nat.le_refl _⟩ rfl rfl rfl rfl (Nat.le_of_ble_eq_true rfl) (dall tdX5_supposedTold 17 rfl) ?_
    exact wX5_supposedTold_31 (fX5_suppose τ v.1 a3_ a2_ v.2.2.2) a2_ a3_ v.2.1 v.2.2.1 a6_ v.2.2.2 C hR kR16 kO16 hk16 ok h
set_option maxHeartbeats 4000000 in
set_option maxRecDepth 100000 in
theorem lX5_supposedTold_16 {X : CX} {cy : Nat → ClassId} {q : Nat → Nat} {qn : Nat → Nat} {qt : Nat → Nat} {qk : Nat → Nat} {qr : Nat → Nat} {qs : Nat → Nat → Nat} {a : Nat} {τ : TX} {si : Nat} {D : va_G} {A : Nat → Prop} {res : Int32 × XS} (a2_ : Int32) (a3_ : Int32) (a6_ : Int32) (C : Cx X cX5_supposedTold RX5 8 D (gty cy) A 7 0 0) (hR : Rt X (some .int) D (gty cy) A 0 0 (eI (wX5 cy q qn qt qk qr qs a τ res.2) res.1))  (n : Nat) (v : XS × Int32 × Int32 × Int32) (ok : lpOk (kX5_supposedTold_16 τ si a2_ a3_ a6_ ) n v) (h : lp (0, xs0) (bX5_supposedTold_16 τ si a2_ a3_ a6_ ) n v = res) : At X D A 8 0 0 16 [(0, .ref (q 8)), (1, .ref (qs si 3)), (2, .int a2_), (3, .int a3_), (4, .int v.2.1), (5, .int v.2.2.1), (6, .int a6_), (7, .int v.2.2.2)] [] (wX5 cy q qn qt qk qr qs a τ v.1) :=
  lp_rule (fun v rr_ => rr_ = res → At X D A 8 0 0 16 [(0, .ref (q 8)), (1, .ref (qs si 3)), (2, .int a2_), (3, .int a3_), (4, .int v.2.1), (5, .int v.2.2.1), (6, .int a6_), (7, .int v.2.2.2)] [] (wX5 cy q qn qt qk qr qs a τ v.1)) (fun kR kO hk v ok h => wX5_supposedTold_16 a2_ a3_ a6_ C hR  kR kO hk v ok h) n v ok h
def pX5_supposedTold_0 (τ : TX) (si : Nat)  (σ : XS) (a2_ : Int32) (a3_ : Int32) : Int32 × XS := lp (0, xs0) (bX5_supposedTold_16 τ si a2_ a3_ (fX5_suppositions τ σ a3_) ) fu (σ, 0, 0, 0)
def oX5_supposedTold_0 (τ : TX) (si : Nat)  (σ : XS) (a2_ : Int32) (a3_ : Int32) : Prop := lpOk (kX5_supposedTold_16 τ si a2_ a3_ (fX5_suppositions τ σ a3_) ) fu (σ, 0, 0, 0)
set_option maxHeartbeats 4000000 in
set_option maxRecDepth 100000 in
theorem wX5_supposedTold_0 {X : CX} {cy : Nat → ClassId} {q : Nat → Nat} {qn : Nat → Nat} {qt : Nat → Nat} {qk : Nat → Nat} {qr : Nat → Nat} {qs : Nat → Nat → Nat} {a : Nat} {τ : TX} {si : Nat} {D : va_G} {A : Nat → Prop} {res : Int32 × XS} (σ : XS) (a2_ : Int32) (a3_ : Int32) (C : Cx X cX5_supposedTold RX5 8 D (gty cy) A 7 0 0) (hR : Rt X (some .int) D (gty cy) A 0 0 (eI (wX5 cy q qn qt qk qr qs a τ res.2) res.1))  (ok : oX5_supposedTold_0 τ si  σ a2_ a3_) (h : pX5_supposedTold_0 τ si  σ a2_ a3_ = res) : At X D A 8 0 0 0 [(0, .ref (q 8)), (1, .ref (qs si 3)), (2, .int a2_), (3, .int a3_)] [] (wX5 cy q qn qt qk qr qs a τ σ) := by
  unfold pX5_supposedTold_0 at h
  unfold oX5_supposedTold_0 at ok
  refine r_iconst (v := 0) C (dall tdX5_supposedTold 0 rfl) (by decide) ?_
  refine r_istore (lv' := [(4, .int 0), (0, .ref (q 8)), (1, .ref (qs si 3)), (2, .int a2_), (3, .int a3_)]) C (dall tdX5_supposedTold 1 rfl) (by decide) rfl ?_
  refine r_iconst (v := 0) C (dall tdX5_supposedTold 2 rfl) (by decide) ?_
  refine r_istore (lv' := [(5, .int 0), (4, .int 0), (0, .ref (q 8)), (1, .ref (qs si 3)), (2, .int a2_), (3, .int a3_)]) C (dall tdX5_supposedTold 3 rfl) (by decide) rfl ?_
  refine r_aload_n C 2 (dall tdX5_supposedTold 4 rfl) rfl ?_
  refine r_iload_n C 5 (dall tdX5_supposedTold 5 rfl) rfl ?_
  refine r_vI (as := [.int a3_]) C (zX5_suppositions cy q qn qt qk qr qs a τ σ a3_ ) mv_X5_suppositions km_X5_267 (by decide) (by decide) ⟨Nat.le_refl _, Nat.le_refl _⟩ rfl rfl rfl rfl (Nat.le_of_ble_eq_true rfl) (dall tdX5_supposedTold 6 rfl) ?_
  refine r_istore (lv' := [(6, .int (fX5_suppositions τ σ a3_)), (5, .int 0), (4, .int 0), (0, .ref (q 8)), (1, .ref (qs si 3)), (2, .int a2_), (3, .int a3_)]) C (dall tdX5_supposedTold 7 rfl) (by decide) rfl ?_
  refine r_iconst (v := 0) C (dall tdX5_supposedTold 8 rfl) (by decide) ?_
  refine r_istore (lv' := [(7, .int 0), (6, .int (fX5_suppositions τ σ a3_)), (5, .int 0), (4, .int 0), (0, .ref (q 8)), (1, .ref (qs si 3)), (2, .int a2_), (3, .int a3_)]) C (dall tdX5_supposedTold 9 rfl) (by decide) rfl ?_
  refine r_pick [4, 5, 6, 7, 3, 2, 1, 0] rfl ?_
  exact lX5_supposedTold_16 a2_ a3_ (fX5_suppositions τ σ a3_) C hR  fu _ ok h
def fX5_supposedTold (τ : TX) (si : Nat) (σ : XS) (a2_ : Int32) (a3_ : Int32) : Int32 × XS := pX5_supposedTold_0 τ si  σ a2_ a3_
def gX5_supposedTold (τ : TX) (si : Nat) (σ : XS) (a2_ : Int32) (a3_ : Int32) : Prop := oX5_supposedTold_0 τ si  σ a2_ a3_
set_option maxRecDepth 100000 in
theorem zX5_supposedTold (cy : Nat → ClassId) (q : Nat → Nat) (qn : Nat → Nat) (qt : Nat → Nat) (qk : Nat → Nat) (qr : Nat → Nat) (qs : Nat → Nat → Nat) (a : Nat) (τ : TX) (si : Nat)  {D : va_G} (σ : XS) (a2_ : Int32) (a3_ : Int32) (ok : gX5_supposedTold τ si σ a2_ a3_)  : Con yX5_supposedTold cX5_supposedTold 8 (some .int) 7 0 0 D (gty cy) [.ref (q 8), .ref (qs si 3), .int a2_, .int a3_] (wX5 cy q qn qt qk qr qs a τ σ) (eI (wX5 cy q qn qt qk qr qs a τ (fX5_supposedTold τ si σ a2_ a3_).2) (fX5_supposedTold τ si σ a2_ a3_).1) :=
  Con.of (own := RX5) (by decide +kernel) rfl (Nat.le_of_ble_eq_true rfl) (Nat.zero_le _) (fun X A C hR _ => (wX5_supposedTold_0 σ a2_ a3_ C hR  ok rfl))
theorem mv_X5_supposedTold : MV yX5_supposedTold cX5_supposedTold 8 (some .int) RX5 3 := ⟨ki_X5_supposedTold, kv_X5_supposedTold, kn_X5, kc_X5_supposedTold, by decide +kernel⟩
def tbX5_tells : List (Nat × Instr × Nat) := [(0, .iload_n 1, 1), (1, .invokestatic 197, 3), (4, .ifCond .eq 20, 3), (7, .aload_n 0, 1), (8, .iload_n 2, 1), (9, .invokevirtual 97, 3), (12, .ifCond .eq 12, 3), (15, .iload_n 3, 1), (16, .bipush 6, 2), (18, .invokestatic 74, 3), (21, .ifCond .ne 6, 3), (24, .bipush (-2), 2), (26, .ireturn, 1), (27, .aload_n 0, 1), (28, .getfield 39, 3), (31, .iload_n 1, 1), (32, .aaload, 1), (33, .astore 4, 2), (35, .aload 4, 2), (37, .invokevirtual 200, 3), (40, .ifCond .eq 6, 3), (43, .bipush (-11), 2), (45, .ireturn, 1), (46, .aload 4, 2), (48, .getfield 203, 3), (51, .bipush 20, 2), (53, .if_icmp .le 6, 3), (56, .bipush (-2), 2), (58, .ireturn, 1), (59, .iload_n 3, 1), (60, .ifCond .ne 22, 3), (63, .aload_n 0, 1), (64, .getfield 24, 3), (67, .aload_n 0, 1), (68, .getfield 20, 3), (71, .invokevirtual 186, 3), (74, .aload_n 0, 1), (75, .aload 4, 2), (77, .iload_n 2, 1), (78, .invokevirtual 206, 3), (81, .ireturn, 1), (82, .aload_n 0, 1), (83, .aload 4, 2), (85, .iload_n 2, 1), (86, .iload_n 3, 1), (87, .invokevirtual 210, 3), (90, .ireturn, 1)]
theorem tdX5_tells : tbX5_tells.all (fun q => decide (decode cX5_tells q.1 = .ok q.2)) = true := by decide +kernel
def pX5_tells_90 (τ : TX) (si : Nat)  (σ : XS) (b0_ : Int32) : Int32 × XS := (b0_, σ)
set_option maxHeartbeats 4000000 in
set_option maxRecDepth 100000 in
theorem wX5_tells_90 {X : CX} {cy : Nat → ClassId} {q : Nat → Nat} {qn : Nat → Nat} {qt : Nat → Nat} {qk : Nat → Nat} {qr : Nat → Nat} {qs : Nat → Nat → Nat} {a : Nat} {τ : TX} {si : Nat} {D : va_G} {A : Nat → Prop} {res : Int32 × XS} (σ : XS) (b0_ : Int32) (C : Cx X cX5_tells RX5 5 D (gty cy) A 8 0 0) (hR : Rt X (some .int) D (gty cy) A 0 0 (eI (wX5 cy q qn qt qk qr qs a τ res.2) res.1))  (h : pX5_tells_90 τ si  σ b0_ = res) : At X D A 5 0 0 90 [] [.int b0_] (wX5 cy q qn qt qk qr qs a τ σ) := by
  unfold pX5_tells_90 at h
  exact r_iret C hR (dall tdX5_tells 46 rfl) (by subst h; exact ⟨rfl, rfl⟩)
def pX5_tells_81 (τ : TX) (si : Nat)  (σ : XS) (b0_ : Int32) : Int32 × XS := (b0_, σ)
set_option maxHeartbeats 4000000 in
set_option maxRecDepth 100000 in
theorem wX5_tells_81 {X : CX} {cy : Nat → ClassId} {q : Nat → Nat} {qn : Nat → Nat} {qt : Nat → Nat} {qk : Nat → Nat} {qr : Nat → Nat} {qs : Nat → Nat → Nat} {a : Nat} {τ : TX} {si : Nat} {D : va_G} {A : Nat → Prop} {res : Int32 × XS} (σ : XS) (b0_ : Int32) (C : Cx X cX5_tells RX5 5 D (gty cy) A 8 0 0) (hR : Rt X (some .int) D (gty cy) A 0 0 (eI (wX5 cy q qn qt qk qr qs a τ res.2) res.1))  (h : pX5_tells_81 τ si  σ b0_ = res) : At X D A 5 0 0 81 [] [.int b0_] (wX5 cy q qn qt qk qr qs a τ σ) := by
  unfold pX5_tells_81 at h
  exact r_iret C hR (dall tdX5_tells 40 rfl) (by subst h; exact ⟨rfl, rfl⟩)
def pX5_tells_74 (τ : TX) (si : Nat)  (σ : XS) (a2_ : Int32) : Int32 × XS := pX5_tells_81 τ si  ((fX5_firstOtherwise τ si σ a2_).2) ((fX5_firstOtherwise τ si σ a2_).1)
def oX5_tells_74 (τ : TX) (si : Nat)  (σ : XS) (a2_ : Int32) : Prop := gX5_firstOtherwise τ si σ a2_
set_option maxHeartbeats 4000000 in
set_option maxRecDepth 100000 in
theorem wX5_tells_74 {X : CX} {cy : Nat → ClassId} {q : Nat → Nat} {qn : Nat → Nat} {qt : Nat → Nat} {qk : Nat → Nat} {qr : Nat → Nat} {qs : Nat → Nat → Nat} {a : Nat} {τ : TX} {si : Nat} {D : va_G} {A : Nat → Prop} {res : Int32 × XS} (σ : XS) (a2_ : Int32) (C : Cx X cX5_tells RX5 5 D (gty cy) A 8 0 0) (hR : Rt X (some .int) D (gty cy) A 0 0 (eI (wX5 cy q qn qt qk qr qs a τ res.2) res.1))  (ok : oX5_tells_74 τ si  σ a2_) (h : pX5_tells_74 τ si  σ a2_ = res) : At X D A 5 0 0 74 [(0, .ref (q 8)), (2, .int a2_), (4, .ref (qs si 3))] [] (wX5 cy q qn qt qk qr qs a τ σ) := by
  unfold pX5_tells_74 at h
  unfold oX5_tells_74 at ok
  refine r_aload_n C 0 (dall tdX5_tells 36 rfl) rfl ?_
  refine r_aload C 2 (dall tdX5_tells 37 rfl) rfl ?_
  refine r_iload_n C 1 (dall tdX5_tells 38 rfl) rfl ?_
  have o1 := ok
  refine r_vI (as := [.ref (qs si 3), .int a2_]) C (zX5_firstOtherwise cy q qn qt qk qr qs a τ si σ a2_ o1) mv_X5_firstOtherwise km_X5_206 (by decide) (by decide) ⟨Nat.le_refl _, Nat.le_refl _⟩ rfl rfl rfl rfl (Nat.le_of_ble_eq_true rfl) (dall tdX5_tells 39 rfl) ?_
  refine r_pick [] rfl ?_
  exact wX5_tells_81 ((fX5_firstOtherwise τ si σ a2_).2) ((fX5_firstOtherwise τ si σ a2_).1) C hR  h
def pX5_tells_0 (τ : TX) (si : Nat)  (σ : XS) (a1_ : Int32) (a2_ : Int32) (a3_ : Int32) : Int32 × XS := if (fX5_isSheet a1_) = 0 then ((-2), σ) else if (fX5_isOne τ σ a2_) = 0 then ((-2), σ) else if (fX5_within a3_ 6) = 0 then ((-2), σ) else if (fX1_isMissing (σ.2.2.2.2.2 si)) = 0 then if ((σ.2.2.2.2.2 si).1 2) ≤ 20 then if a3_ = 0 then pX5_tells_74 τ si  (xT σ (oB4 σ.2.2.1 (fX4_become σ.2.1 σ.2.2.1))) a2_ else pX5_tells_90 τ si  ((fX5_supposedTold τ si σ a2_ a3_).2) ((fX5_supposedTold τ si σ a2_ a3_).1) else ((-2), σ) else ((-11), σ)
def oX5_tells_0 (τ : TX) (si : Nat)  (σ : XS) (a1_ : Int32) (a2_ : Int32) (a3_ : Int32) : Prop := (gX5_isSheet a1_) ∧ (((fX5_isSheet a1_) = 0 → True) ∧ (¬ ((fX5_isSheet a1_) = 0) → ((fX5_isOne τ σ a2_) = 0 → True) ∧ (¬ ((fX5_isOne τ σ a2_) = 0) → ((fX5_within a3_ 6) = 0 → True) ∧ (¬ ((fX5_within a3_ 6) = 0) → (vp_in a1_ 4) ∧ ((a1_.toNatClampNeg = si) ∧ ((si < 4) ∧ (((fX1_isMissing (σ.2.2.2.2.2 si)) = 0 → (si < 4) ∧ ((((σ.2.2.2.2.2 si).1 2) ≤ 20 → (a3_ = 0 → (gX4_become σ.2.1 σ.2.2.1) ∧ (oX5_tells_74 τ si  (xT σ (oB4 σ.2.2.1 (fX4_become σ.2.1 σ.2.2.1))) a2_)) ∧ (¬ (a3_ = 0) → gX5_supposedTold τ si σ a2_ a3_)) ∧ (¬ (((σ.2.2.2.2.2 si).1 2) ≤ 20) → True))) ∧ (¬ ((fX1_isMissing (σ.2.2.2.2.2 si)) = 0) → True))))))))
set_option maxHeartbeats 4000000 in
set_option maxRecDepth 100000 in
theorem wX5_tells_0 {X : CX} {cy : Nat → ClassId} {q : Nat → Nat} {qn : Nat → Nat} {qt : Nat → Nat} {qk : Nat → Nat} {qr : Nat → Nat} {qs : Nat → Nat → Nat} {a : Nat} {τ : TX} {si : Nat} {D : va_G} {A : Nat → Prop} {res : Int32 × XS} (σ : XS) (a1_ : Int32) (a2_ : Int32) (a3_ : Int32) (C : Cx X cX5_tells RX5 5 D (gty cy) A 8 0 0) (hR : Rt X (some .int) D (gty cy) A 0 0 (eI (wX5 cy q qn qt qk qr qs a τ res.2) res.1))  (ok : oX5_tells_0 τ si  σ a1_ a2_ a3_) (h : pX5_tells_0 τ si  σ a1_ a2_ a3_ = res) : At X D A 5 0 0 0 [(0, .ref (q 8)), (1, .int a1_), (2, .int a2_), (3, .int a3_)] [] (wX5 cy q qn qt qk qr qs a τ σ) := by
  unfold pX5_tells_0 at h
  unfold oX5_tells_0 at ok
  refine r_iload_n C 1 (dall tdX5_tells 0 rfl) rfl ?_
  obtain ⟨o2, ok⟩ := ok
  refine r_s0I (as := [.int a1_]) C (zX5_isSheet a1_ o2) ms_X5_isSheet km_X5_197 (by decide) (by decide) ⟨Nat.le_refl _, Nat.le_refl _⟩ rfl rfl (Nat.le_of_ble_eq_true rfl) (dall tdX5_tells 1 rfl) ?_
  refine r_if_eq (tgt := 24) C (dall tdX5_tells 2 rfl) (by decide) (fun c3 => ?_) (fun c3 => ?_)
  · have h := (if_pos c3).symm.trans h
    have ok := ok.1 c3
    refine r_bipush (v := -2) C (dall tdX5_tells 11 rfl) (by decide) ?_
    exact r_iret C hR (dall tdX5_tells 12 rfl) (by subst h; exact ⟨rfl, rfl⟩)
  · have h := (if_neg c3).symm.trans h
    have ok := ok.2 c3
    refine r_aload_n C 0 (dall tdX5_tells 3 rfl) rfl ?_
    refine r_iload_n C 2 (dall tdX5_tells 4 rfl) rfl ?_
    refine r_vI (as := [.int a2_]) C (zX5_isOne cy q qn qt qk qr qs a τ σ a2_ ) mv_X5_isOne km_X5_97 (by decide) (by decide) ⟨Nat.le_refl _, Nat.le_refl _⟩ rfl rfl rfl rfl (Nat.le_of_ble_eq_true rfl) (dall tdX5_tells 5 rfl) ?_
    refine r_if_eq (tgt := 24) C (dall tdX5_tells 6 rfl) (by decide) (fun c4 => ?_) (fun c4 => ?_)
    · have h := (if_pos c4).symm.trans h
      have ok := ok.1 c4
      refine r_bipush (v := -2) C (dall tdX5_tells 11 rfl) (by decide) ?_
      exact r_iret C hR (dall tdX5_tells 12 rfl) (by subst h; exact ⟨rfl, rfl⟩)
    · have h := (if_neg c4).symm.trans h
      have ok := ok.2 c4
      refine r_iload_n C 3 (dall tdX5_tells 7 rfl) rfl ?_
      refine r_bipush (v := 6) C (dall tdX5_tells 8 rfl) (by decide) ?_
      refine r_s0I (as := [.int a3_, .int 6]) C (zX5_within a3_ 6 ) ms_X5_within km_X5_74 (by decide) (by decide) ⟨Nat.le_refl _, Nat.le_refl _⟩ rfl rfl (Nat.le_of_ble_eq_true rfl) (dall tdX5_tells 9 rfl) ?_
      refine r_if_ne (tgt := 27) C (dall tdX5_tells 10 rfl) (by decide) (fun c5 => ?_) (fun c5 => ?_)
      · have h := (if_neg c5).symm.trans h
        have ok := ok.2 c5
        refine r_aload_n C 0 (dall tdX5_tells 13 rfl) rfl ?_
        refine r_get C 0 kw_X5 rfl rfl (by decide) kf_X5_39 rfl rfl (dall tdX5_tells 14 rfl) ?_
        refine r_iload_n C 1 (dall tdX5_tells 15 rfl) rfl ?_
        obtain ⟨o6, ok⟩ := ok
        obtain ⟨o7, ok⟩ := ok
        refine r_shs C o6 o7 (dall tdX5_tells 16 rfl) ?_
        refine r_astore (lv' := [(4, .ref (qs si 3)), (0, .ref (q 8)), (1, .int a1_), (2, .int a2_), (3, .int a3_)]) C (dall tdX5_tells 17 rfl) (by decide) rfl ?_
        refine r_aload C 0 (dall tdX5_tells 18 rfl) rfl ?_
        obtain ⟨o8, ok⟩ := ok
        refine rcS_I0 (as := []) C o8 (zX1_isMissing cy (qs si) (σ.2.2.2.2.2 si)  ) mv_X1_isMissing km_X5_200 (by decide) (by decide) ⟨Nat.le_refl _, Nat.le_refl _⟩ rfl rfl (Nat.le_of_ble_eq_true rfl) (dall tdX5_tells 19 rfl) ?_
        refine r_if_eq (tgt := 46) C (dall tdX5_tells 20 rfl) (by decide) (fun c9 => ?_) (fun c9 => ?_)
        · have h := (if_pos c9).symm.trans h
          have ok := ok.1 c9
          refine r_aload C 0 (dall tdX5_tells 23 rfl) rfl ?_
          obtain ⟨o10, ok⟩ := ok
          refine r_get C (27 + 2 * si) kw_X1 (sh_obj o10) rfl (by decide) kf_X5_203 rfl rfl (dall tdX5_tells 24 rfl) ?_
          refine r_bipush (v := 20) C (dall tdX5_tells 25 rfl) (by decide) ?_
          refine r_icmp_le (tgt := 59) C (dall tdX5_tells 26 rfl) (by decide) (fun c11 => ?_) (fun c11 => ?_)
          · have h := (if_pos c11).symm.trans h
            have ok := ok.1 c11
            refine r_iload_n C 4 (dall tdX5_tells 29 rfl) rfl ?_
            refine r_if_ne (tgt := 82) C (dall tdX5_tells 30 rfl) (by decide) (fun c12 => ?_) (fun c12 => ?_)
            · have h := (if_neg c12).symm.trans h
              have ok := ok.2 c12
              refine r_aload_n C 1 (dall tdX5_tells 41 rfl) rfl ?_
              refine r_aload C 0 (dall tdX5_tells 42 rfl) rfl ?_
              refine r_iload_n C 3 (dall tdX5_tells 43 rfl) rfl ?_
              refine r_iload_n C 4 (dall tdX5_tells 44 rfl) rfl ?_
              have o13 := ok
              refine r_vI (as := [.ref (qs si 3), .int a2_, .int a3_]) C (zX5_supposedTold cy q qn qt qk qr qs a τ si σ a2_ a3_ o13) mv_X5_supposedTold km_X5_210 (by decide) (by decide) ⟨Nat.le_refl _, Nat.le_refl _⟩ rfl rfl rfl rfl (Nat.le_of_ble_eq_true rfl) (dall tdX5_tells 45 rfl) ?_
              refine r_pick [] rfl ?_
              exact wX5_tells_90 ((fX5_supposedTold τ si σ a2_ a3_).2) ((fX5_supposedTold τ si σ a2_ a3_).1) C hR  h
            · have h := (if_pos c12).symm.trans h
              have ok := ok.1 c12
              refine r_aload_n C 1 (dall tdX5_tells 31 rfl) rfl ?_
              refine r_get C 0 kw_X5 rfl rfl (by decide) kf_X5_24 rfl rfl (dall tdX5_tells 32 rfl) ?_
              refine r_aload_n C 1 (dall tdX5_tells 33 rfl) rfl ?_
              refine r_get C 0 kw_X5 rfl rfl (by decide) kf_X5_20 rfl rfl (dall tdX5_tells 34 rfl) ?_
              obtain ⟨o14, ok⟩ := ok
              refine rcB_TN (as := [.ref (va_up qn 9 a 12)]) C (zX4_become cy (va_up qt 9 a) (va_up qn 9 a) σ.2.1 σ.2.2.1 o14) mv_X4_become km_X5_186 (by decide) (by decide) ⟨Nat.le_refl _, Nat.le_refl _⟩ rfl rfl (Nat.le_of_ble_eq_true rfl) (dall tdX5_tells 35 rfl) ?_
              refine r_pick [1, 3, 0] rfl ?_
              exact wX5_tells_74 (xT σ (oB4 σ.2.2.1 (fX4_become σ.2.1 σ.2.2.1))) a2_ C hR  ok h
          · have h := (if_neg c11).symm.trans h
            have ok := ok.2 c11
            refine r_bipush (v := -2) C (dall tdX5_tells 27 rfl) (by decide) ?_
            exact r_iret C hR (dall tdX5_tells 28 rfl) (by subst h; exact ⟨rfl, rfl⟩)
        · have h := (if_neg c9).symm.trans h
          have ok := ok.2 c9
          refine r_bipush (v := -11) C (dall tdX5_tells 21 rfl) (by decide) ?_
          exact r_iret C hR (dall tdX5_tells 22 rfl) (by subst h; exact ⟨rfl, rfl⟩)
      · have h := (if_pos c5).symm.trans h
        have ok := ok.1 c5
        refine r_bipush (v := -2) C (dall tdX5_tells 11 rfl) (by decide) ?_
        exact r_iret C hR (dall tdX5_tells 12 rfl) (by subst h; exact ⟨rfl, rfl⟩)
def fX5_tells (τ : TX) (si : Nat) (σ : XS) (a1_ : Int32) (a2_ : Int32) (a3_ : Int32) : Int32 × XS := pX5_tells_0 τ si  σ a1_ a2_ a3_
def gX5_tells (τ : TX) (si : Nat) (σ : XS) (a1_ : Int32) (a2_ : Int32) (a3_ : Int32) : Prop := oX5_tells_0 τ si  σ a1_ a2_ a3_
set_option maxRecDepth 100000 in
theorem zX5_tells (cy : Nat → ClassId) (q : Nat → Nat) (qn : Nat → Nat) (qt : Nat → Nat) (qk : Nat → Nat) (qr : Nat → Nat) (qs : Nat → Nat → Nat) (a : Nat) (τ : TX) (si : Nat)  {D : va_G} (σ : XS) (a1_ : Int32) (a2_ : Int32) (a3_ : Int32) (ok : gX5_tells τ si σ a1_ a2_ a3_)  : Con yX5_tells cX5_tells 5 (some .int) 8 0 0 D (gty cy) [.ref (q 8), .int a1_, .int a2_, .int a3_] (wX5 cy q qn qt qk qr qs a τ σ) (eI (wX5 cy q qn qt qk qr qs a τ (fX5_tells τ si σ a1_ a2_ a3_).2) (fX5_tells τ si σ a1_ a2_ a3_).1) :=
  Con.of (own := RX5) (by decide +kernel) rfl (Nat.le_of_ble_eq_true rfl) (Nat.zero_le _) (fun X A C hR _ => (wX5_tells_0 σ a1_ a2_ a3_ C hR  ok rfl))
theorem mv_X5_tells : MV yX5_tells cX5_tells 5 (some .int) RX5 3 := ⟨ki_X5_tells, kv_X5_tells, kn_X5, kc_X5_tells, by decide +kernel⟩
def tbX5_film : List (Nat × Instr × Nat) := [(0, .iload_n 1, 1), (1, .invokestatic 197, 3), (4, .ifCond .eq 20, 3), (7, .aload_n 0, 1), (8, .iload_n 2, 1), (9, .invokevirtual 97, 3), (12, .ifCond .eq 12, 3), (15, .iload_n 3, 1), (16, .bipush 20, 2), (18, .invokestatic 74, 3), (21, .ifCond .ne 6, 3), (24, .bipush (-2), 2), (26, .ireturn, 1), (27, .aload_n 0, 1), (28, .getfield 39, 3), (31, .iload_n 1, 1), (32, .aaload, 1), (33, .astore 4, 2), (35, .aload 4, 2), (37, .iconst 0, 1), (38, .iload_n 3, 1), (39, .invokevirtual 214, 3), (42, .aload_n 0, 1), (43, .getfield 24, 3), (46, .aload_n 0, 1), (47, .getfield 20, 3), (50, .invokevirtual 186, 3), (53, .iconst 0, 1), (54, .istore 5, 2), (56, .iload 5, 2), (58, .iload_n 3, 1), (59, .if_icmp .ge 35, 3), (62, .aload_n 0, 1), (63, .getfield 24, 3), (66, .invokevirtual 164, 3), (69, .aload 4, 2), (71, .iload 5, 2), (73, .aload_n 0, 1), (74, .getfield 24, 3), (77, .getfield 84, 3), (80, .iload_n 2, 1), (81, .laload, 1), (82, .invokestatic 148, 3), (85, .invokevirtual 217, 3), (88, .iinc 5 1, 3), (91, .goto (-35), 3), (94, .iload_n 3, 1), (95, .ireturn, 1)]
theorem tdX5_film : tbX5_film.all (fun q => decide (decode cX5_film q.1 = .ok q.2)) = true := by decide +kernel
def pX5_film_88 (τ : TX) (si : Nat) (kR56 : XS × Int32 → Int32 × XS) (σ : XS) (a2_ : Int32) (a3_ : Int32) (a5_ : Int32) : Int32 × XS := kR56 (σ, a5_ + 1)
def oX5_film_88 (τ : TX) (si : Nat) (kO56 : XS × Int32 → Prop) (σ : XS) (a2_ : Int32) (a3_ : Int32) (a5_ : Int32) : Prop := kO56 (σ, a5_ + 1)
set_option maxHeartbeats 4000000 in
set_option maxRecDepth 100000 in
theorem wX5_film_88 {X : CX} {cy : Nat → ClassId} {q : Nat → Nat} {qn : Nat → Nat} {qt : Nat → Nat} {qk : Nat → Nat} {qr : Nat → Nat} {qs : Nat → Nat → Nat} {a : Nat} {τ : TX} {si : Nat} {D : va_G} {A : Nat → Prop} {res : Int32 × XS} (σ : XS) (a2_ : Int32) (a3_ : Int32) (a5_ : Int32) (C : Cx X cX5_film RX5 6 D (gty cy) A 6 0 0) (hR : Rt X (some .int) D (gty cy) A 0 0 (eI (wX5 cy q qn qt qk qr qs a τ res.2) res.1)) (kR56 : XS × Int32 → Int32 × XS) (kO56 : XS × Int32 → Prop) (hk56 : ∀ z, kO56 z → kR56 z = res → At X D A 6 0 0 56 [(0, .ref (q 8)), (2, .int a2_), (3, .int a3_), (4, .ref (qs si 3)), (5, .int z.2)] [] (wX5 cy q qn qt qk qr qs a τ z.1)) (ok : oX5_film_88 τ si kO56 σ a2_ a3_ a5_) (h : pX5_film_88 τ si kR56 σ a2_ a3_ a5_ = res) : At X D A 6 0 0 88 [(0, .ref (q 8)), (2, .int a2_), (3, .int a3_), (4, .ref (qs si 3)), (5, .int a5_)] [] (wX5 cy q qn qt qk qr qs a τ σ) := by
  unfold pX5_film_88 at h
  unfold oX5_film_88 at ok
  refine r_iinc (v := a5_ + 1) (lv' := [(5, .int (a5_ + 1)), (0, .ref (q 8)), (2, .int a2_), (3, .int a3_), (4, .ref (qs si 3))]) C 4 (dall tdX5_film 44 rfl) rfl rfl (by decide) rfl ?_
  refine r_goto (tgt := 56) C (dall tdX5_film 45 rfl) (by decide) ?_
  refine r_pick [1, 2, 3, 4, 0] rfl ?_
  exact hk56 (σ, a5_ + 1) ok h
def pX5_film_69 (τ : TX) (si : Nat) (kR56 : XS × Int32 → Int32 × XS) (σ : XS) (a2_ : Int32) (a3_ : Int32) (a5_ : Int32) : Int32 × XS := pX5_film_88 τ si kR56 (xS σ si (fX1_put (σ.2.2.2.2.2 si) a5_ (fJ13_bitCount_95d88 (σ.2.2.1.2.2.2 3 a2_.toNatClampNeg)))) a2_ a3_ a5_
def oX5_film_69 (τ : TX) (si : Nat) (kO56 : XS × Int32 → Prop) (σ : XS) (a2_ : Int32) (a3_ : Int32) (a5_ : Int32) : Prop := (vp_in a2_ 5) ∧ ((si < 4) ∧ ((gX1_put (σ.2.2.2.2.2 si) a5_ (fJ13_bitCount_95d88 (σ.2.2.1.2.2.2 3 a2_.toNatClampNeg))) ∧ (oX5_film_88 τ si kO56 (xS σ si (fX1_put (σ.2.2.2.2.2 si) a5_ (fJ13_bitCount_95d88 (σ.2.2.1.2.2.2 3 a2_.toNatClampNeg)))) a2_ a3_ a5_)))
set_option maxHeartbeats 4000000 in
set_option maxRecDepth 100000 in
theorem wX5_film_69 {X : CX} {cy : Nat → ClassId} {q : Nat → Nat} {qn : Nat → Nat} {qt : Nat → Nat} {qk : Nat → Nat} {qr : Nat → Nat} {qs : Nat → Nat → Nat} {a : Nat} {τ : TX} {si : Nat} {D : va_G} {A : Nat → Prop} {res : Int32 × XS} (σ : XS) (a2_ : Int32) (a3_ : Int32) (a5_ : Int32) (C : Cx X cX5_film RX5 6 D (gty cy) A 6 0 0) (hR : Rt X (some .int) D (gty cy) A 0 0 (eI (wX5 cy q qn qt qk qr qs a τ res.2) res.1)) (kR56 : XS × Int32 → Int32 × XS) (kO56 : XS × Int32 → Prop) (hk56 : ∀ z, kO56 z → kR56 z = res → At X D A 6 0 0 56 [(0, .ref (q 8)), (2, .int a2_), (3, .int a3_), (4, .ref (qs si 3)), (5, .int z.2)] [] (wX5 cy q qn qt qk qr qs a τ z.1)) (ok : oX5_film_69 τ si kO56 σ a2_ a3_ a5_) (h : pX5_film_69 τ si kR56 σ a2_ a3_ a5_ = res) : At X D A 6 0 0 69 [(0, .ref (q 8)), (2, .int a2_), (3, .int a3_), (4, .ref (qs si 3)), (5, .int a5_)] [] (wX5 cy q qn qt qk qr qs a τ σ) := by
  unfold pX5_film_69 at h
  unfold oX5_film_69 at ok
  refine r_aload C 3 (dall tdX5_film 35 rfl) rfl ?_
  refine r_iload C 4 (dall tdX5_film 36 rfl) rfl ?_
  refine r_aload_n C 0 (dall tdX5_film 37 rfl) rfl ?_
  refine r_get C 0 kw_X5 rfl rfl (by decide) kf_X5_24 rfl rfl (dall tdX5_film 38 rfl) ?_
  refine r_get C 8 kw_X4 rfl rfl (by decide) kf_X5_84 rfl rfl (dall tdX5_film 39 rfl) ?_
  refine r_iload_n C 1 (dall tdX5_film 40 rfl) rfl ?_
  obtain ⟨o1, ok⟩ := ok
  refine r_lald C 12 1 rfl rfl o1 (dall tdX5_film 41 rfl) ?_
  refine r_s0I (as := [.long (σ.2.2.1.2.2.2 3 a2_.toNatClampNeg)]) C (zJ13_bitCount_95d88 (σ.2.2.1.2.2.2 3 a2_.toNatClampNeg) ) ms_J13_bitCount_95d88 km_X5_148 (by decide) (by decide) ⟨Nat.le_refl _, Nat.le_refl _⟩ rfl rfl (Nat.le_of_ble_eq_true rfl) (dall tdX5_film 42 rfl) ?_
  obtain ⟨o2, ok⟩ := ok
  obtain ⟨o3, ok⟩ := ok
  refine rcS_V (as := [.int a5_, .int (fJ13_bitCount_95d88 (σ.2.2.1.2.2.2 3 a2_.toNatClampNeg))]) C o2 (zX1_put cy (qs si) (σ.2.2.2.2.2 si) a5_ (fJ13_bitCount_95d88 (σ.2.2.1.2.2.2 3 a2_.toNatClampNeg)) o3) mv_X1_put km_X5_217 (by decide) (by decide) ⟨Nat.le_refl _, Nat.le_refl _⟩ rfl rfl (Nat.le_of_ble_eq_true rfl) (dall tdX5_film 43 rfl) ?_
  exact wX5_film_88 (xS σ si (fX1_put (σ.2.2.2.2.2 si) a5_ (fJ13_bitCount_95d88 (σ.2.2.1.2.2.2 3 a2_.toNatClampNeg)))) a2_ a3_ a5_ C hR kR56 kO56 hk56 ok h
def bX5_film_56 (τ : TX) (si : Nat) (a2_ : Int32) (a3_ : Int32)  (kR56 : XS × Int32 → Int32 × XS) (v : XS × Int32) : Int32 × XS := if a3_ ≤ v.2 then (a3_, v.1) else pX5_film_69 τ si kR56 (xT v.1 (fX4_passYear τ v.1.2.2.1 )) a2_ a3_ v.2
def kX5_film_56 (τ : TX) (si : Nat) (a2_ : Int32) (a3_ : Int32)  (kO56 : XS × Int32 → Prop) (v : XS × Int32) : Prop := (a3_ ≤ v.2 → True) ∧ (¬ (a3_ ≤ v.2) → (gX4_passYear τ v.1.2.2.1 ) ∧ (oX5_film_69 τ si kO56 (xT v.1 (fX4_passYear τ v.1.2.2.1 )) a2_ a3_ v.2))
set_option maxHeartbeats 4000000 in
set_option maxRecDepth 100000 in
theorem wX5_film_56 {X : CX} {cy : Nat → ClassId} {q : Nat → Nat} {qn : Nat → Nat} {qt : Nat → Nat} {qk : Nat → Nat} {qr : Nat → Nat} {qs : Nat → Nat → Nat} {a : Nat} {τ : TX} {si : Nat} {D : va_G} {A : Nat → Prop} {res : Int32 × XS} (a2_ : Int32) (a3_ : Int32) (C : Cx X cX5_film RX5 6 D (gty cy) A 6 0 0) (hR : Rt X (some .int) D (gty cy) A 0 0 (eI (wX5 cy q qn qt qk qr qs a τ res.2) res.1)) (kR56 : XS × Int32 → Int32 × XS) (kO56 : XS × Int32 → Prop) (hk56 : ∀ z, kO56 z → kR56 z = res → At X D A 6 0 0 56 [(0, .ref (q 8)), (2, .int a2_), (3, .int a3_), (4, .ref (qs si 3)), (5, .int z.2)] [] (wX5 cy q qn qt qk qr qs a τ z.1)) (v : XS × Int32) (ok : kX5_film_56 τ si a2_ a3_ kO56 v) (h : bX5_film_56 τ si a2_ a3_ kR56 v = res) : At X D A 6 0 0 56 [(0, .ref (q 8)), (2, .int a2_), (3, .int a3_), (4, .ref (qs si 3)), (5, .int v.2)] [] (wX5 cy q qn qt qk qr qs a τ v.1) := by
  unfold bX5_film_56 at h
  unfold kX5_film_56 at ok
  refine r_iload C 4 (dall tdX5_film 29 rfl) rfl ?_
  refine r_iload_n C 2 (dall tdX5_film 30 rfl) rfl ?_
  refine r_icmp_ge (tgt := 94) C (dall tdX5_film 31 rfl) (by decide) (fun c4 => ?_) (fun c4 => ?_)
  · have h := (if_pos c4).symm.trans h
    have ok := ok.1 c4
    refine r_iload_n C 2 (dall tdX5_film 46 rfl) rfl ?_
    exact r_iret C hR (dall tdX5_film 47 rfl) (by subst h; exact ⟨rfl, rfl⟩)
  · have h := (if_neg c4).symm.trans h
    have ok := ok.2 c4
    refine r_aload_n C 0 (dall tdX5_film 32 rfl) rfl ?_
    refine r_get C 0 kw_X5 rfl rfl (by decide) kf_X5_24 rfl rfl (dall tdX5_film 33 rfl) ?_
    obtain ⟨o5, ok⟩ := ok
    refine rcT_V (as := []) C (zX4_passYear cy (va_up qt 9 a) τ v.1.2.2.1  o5) mv_X4_passYear km_X5_164 (by decide) (by decide) ⟨Nat.le_refl _, Nat.le_refl _⟩ rfl rfl (Nat.le_of_ble_eq_true rfl) (dall tdX5_film 34 rfl) ?_
    exact wX5_film_69 (xT v.1 (fX4_passYear τ v.1.2.2.1 )) a2_ a3_ v.2 C hR kR56 kO56 hk56 ok h
set_option maxHeartbeats 4000000 in
set_option maxRecDepth 100000 in
theorem lX5_film_56 {X : CX} {cy : Nat → ClassId} {q : Nat → Nat} {qn : Nat → Nat} {qt : Nat → Nat} {qk : Nat → Nat} {qr : Nat → Nat} {qs : Nat → Nat → Nat} {a : Nat} {τ : TX} {si : Nat} {D : va_G} {A : Nat → Prop} {res : Int32 × XS} (a2_ : Int32) (a3_ : Int32) (C : Cx X cX5_film RX5 6 D (gty cy) A 6 0 0) (hR : Rt X (some .int) D (gty cy) A 0 0 (eI (wX5 cy q qn qt qk qr qs a τ res.2) res.1))  (n : Nat) (v : XS × Int32) (ok : lpOk (kX5_film_56 τ si a2_ a3_ ) n v) (h : lp (0, xs0) (bX5_film_56 τ si a2_ a3_ ) n v = res) : At X D A 6 0 0 56 [(0, .ref (q 8)), (2, .int a2_), (3, .int a3_), (4, .ref (qs si 3)), (5, .int v.2)] [] (wX5 cy q qn qt qk qr qs a τ v.1) :=
  lp_rule (fun v rr_ => rr_ = res → At X D A 6 0 0 56 [(0, .ref (q 8)), (2, .int a2_), (3, .int a3_), (4, .ref (qs si 3)), (5, .int v.2)] [] (wX5 cy q qn qt qk qr qs a τ v.1)) (fun kR kO hk v ok h => wX5_film_56 a2_ a3_ C hR  kR kO hk v ok h) n v ok h
def pX5_film_53 (τ : TX) (si : Nat)  (σ : XS) (a2_ : Int32) (a3_ : Int32) : Int32 × XS := lp (0, xs0) (bX5_film_56 τ si a2_ a3_ ) fu (σ, 0)
def oX5_film_53 (τ : TX) (si : Nat)  (σ : XS) (a2_ : Int32) (a3_ : Int32) : Prop := lpOk (kX5_film_56 τ si a2_ a3_ ) fu (σ, 0)
set_option maxHeartbeats 4000000 in
set_option maxRecDepth 100000 in
theorem wX5_film_53 {X : CX} {cy : Nat → ClassId} {q : Nat → Nat} {qn : Nat → Nat} {qt : Nat → Nat} {qk : Nat → Nat} {qr : Nat → Nat} {qs : Nat → Nat → Nat} {a : Nat} {τ : TX} {si : Nat} {D : va_G} {A : Nat → Prop} {res : Int32 × XS} (σ : XS) (a2_ : Int32) (a3_ : Int32) (C : Cx X cX5_film RX5 6 D (gty cy) A 6 0 0) (hR : Rt X (some .int) D (gty cy) A 0 0 (eI (wX5 cy q qn qt qk qr qs a τ res.2) res.1))  (ok : oX5_film_53 τ si  σ a2_ a3_) (h : pX5_film_53 τ si  σ a2_ a3_ = res) : At X D A 6 0 0 53 [(0, .ref (q 8)), (2, .int a2_), (3, .int a3_), (4, .ref (qs si 3))] [] (wX5 cy q qn qt qk qr qs a τ σ) := by
  unfold pX5_film_53 at h
  unfold oX5_film_53 at ok
  refine r_iconst (v := 0) C (dall tdX5_film 27 rfl) (by decide) ?_
  refine r_istore (lv' := [(5, .int 0), (0, .ref (q 8)), (2, .int a2_), (3, .int a3_), (4, .ref (qs si 3))]) C (dall tdX5_film 28 rfl) (by decide) rfl ?_
  refine r_pick [1, 2, 3, 4, 0] rfl ?_
  exact lX5_film_56 a2_ a3_ C hR  fu _ ok h
def pX5_film_42 (τ : TX) (si : Nat)  (σ : XS) (a2_ : Int32) (a3_ : Int32) : Int32 × XS := pX5_film_53 τ si  (xT σ (oB4 σ.2.2.1 (fX4_become σ.2.1 σ.2.2.1))) a2_ a3_
def oX5_film_42 (τ : TX) (si : Nat)  (σ : XS) (a2_ : Int32) (a3_ : Int32) : Prop := (gX4_become σ.2.1 σ.2.2.1) ∧ (oX5_film_53 τ si  (xT σ (oB4 σ.2.2.1 (fX4_become σ.2.1 σ.2.2.1))) a2_ a3_)
set_option maxHeartbeats 4000000 in
set_option maxRecDepth 100000 in
theorem wX5_film_42 {X : CX} {cy : Nat → ClassId} {q : Nat → Nat} {qn : Nat → Nat} {qt : Nat → Nat} {qk : Nat → Nat} {qr : Nat → Nat} {qs : Nat → Nat → Nat} {a : Nat} {τ : TX} {si : Nat} {D : va_G} {A : Nat → Prop} {res : Int32 × XS} (σ : XS) (a2_ : Int32) (a3_ : Int32) (C : Cx X cX5_film RX5 6 D (gty cy) A 6 0 0) (hR : Rt X (some .int) D (gty cy) A 0 0 (eI (wX5 cy q qn qt qk qr qs a τ res.2) res.1))  (ok : oX5_film_42 τ si  σ a2_ a3_) (h : pX5_film_42 τ si  σ a2_ a3_ = res) : At X D A 6 0 0 42 [(0, .ref (q 8)), (2, .int a2_), (3, .int a3_), (4, .ref (qs si 3))] [] (wX5 cy q qn qt qk qr qs a τ σ) := by
  unfold pX5_film_42 at h
  unfold oX5_film_42 at ok
  refine r_aload_n C 0 (dall tdX5_film 22 rfl) rfl ?_
  refine r_get C 0 kw_X5 rfl rfl (by decide) kf_X5_24 rfl rfl (dall tdX5_film 23 rfl) ?_
  refine r_aload_n C 0 (dall tdX5_film 24 rfl) rfl ?_
  refine r_get C 0 kw_X5 rfl rfl (by decide) kf_X5_20 rfl rfl (dall tdX5_film 25 rfl) ?_
  obtain ⟨o6, ok⟩ := ok
  refine rcB_TN (as := [.ref (va_up qn 9 a 12)]) C (zX4_become cy (va_up qt 9 a) (va_up qn 9 a) σ.2.1 σ.2.2.1 o6) mv_X4_become km_X5_186 (by decide) (by decide) ⟨Nat.le_refl _, Nat.le_refl _⟩ rfl rfl (Nat.le_of_ble_eq_true rfl) (dall tdX5_film 26 rfl) ?_
  exact wX5_film_53 (xT σ (oB4 σ.2.2.1 (fX4_become σ.2.1 σ.2.2.1))) a2_ a3_ C hR  ok h
def pX5_film_0 (τ : TX) (si : Nat)  (σ : XS) (a1_ : Int32) (a2_ : Int32) (a3_ : Int32) : Int32 × XS := if (fX5_isSheet a1_) = 0 then ((-2), σ) else if (fX5_isOne τ σ a2_) = 0 then ((-2), σ) else if (fX5_within a3_ 20) = 0 then ((-2), σ) else pX5_film_42 τ si  (xS σ si (fX1_become (σ.2.2.2.2.2 si) 0 a3_)) a2_ a3_
def oX5_film_0 (τ : TX) (si : Nat)  (σ : XS) (a1_ : Int32) (a2_ : Int32) (a3_ : Int32) : Prop := (gX5_isSheet a1_) ∧ (((fX5_isSheet a1_) = 0 → True) ∧ (¬ ((fX5_isSheet a1_) = 0) → ((fX5_isOne τ σ a2_) = 0 → True) ∧ (¬ ((fX5_isOne τ σ a2_) = 0) → ((fX5_within a3_ 20) = 0 → True) ∧ (¬ ((fX5_within a3_ 20) = 0) → (vp_in a1_ 4) ∧ ((a1_.toNatClampNeg = si) ∧ ((si < 4) ∧ ((gX1_become (σ.2.2.2.2.2 si) 0 a3_) ∧ (oX5_film_42 τ si  (xS σ si (fX1_become (σ.2.2.2.2.2 si) 0 a3_)) a2_ a3_))))))))
set_option maxHeartbeats 4000000 in
set_option maxRecDepth 100000 in
theorem wX5_film_0 {X : CX} {cy : Nat → ClassId} {q : Nat → Nat} {qn : Nat → Nat} {qt : Nat → Nat} {qk : Nat → Nat} {qr : Nat → Nat} {qs : Nat → Nat → Nat} {a : Nat} {τ : TX} {si : Nat} {D : va_G} {A : Nat → Prop} {res : Int32 × XS} (σ : XS) (a1_ : Int32) (a2_ : Int32) (a3_ : Int32) (C : Cx X cX5_film RX5 6 D (gty cy) A 6 0 0) (hR : Rt X (some .int) D (gty cy) A 0 0 (eI (wX5 cy q qn qt qk qr qs a τ res.2) res.1))  (ok : oX5_film_0 τ si  σ a1_ a2_ a3_) (h : pX5_film_0 τ si  σ a1_ a2_ a3_ = res) : At X D A 6 0 0 0 [(0, .ref (q 8)), (1, .int a1_), (2, .int a2_), (3, .int a3_)] [] (wX5 cy q qn qt qk qr qs a τ σ) := by
  unfold pX5_film_0 at h
  unfold oX5_film_0 at ok
  refine r_iload_n C 1 (dall tdX5_film 0 rfl) rfl ?_
  obtain ⟨o7, ok⟩ := ok
  refine r_s0I (as := [.int a1_]) C (zX5_isSheet a1_ o7) ms_X5_isSheet km_X5_197 (by decide) (by decide) ⟨Nat.le_refl _, Nat.le_refl _⟩ rfl rfl (Nat.le_of_ble_eq_true rfl) (dall tdX5_film 1 rfl) ?_
  refine r_if_eq (tgt := 24) C (dall tdX5_film 2 rfl) (by decide) (fun c8 => ?_) (fun c8 => ?_)
  · have h := (if_pos c8).symm.trans h
    have ok := ok.1 c8
    refine r_bipush (v := -2) C (dall tdX5_film 11 rfl) (by decide) ?_
    exact r_iret C hR (dall tdX5_film 12 rfl) (by subst h; exact ⟨rfl, rfl⟩)
  · have h := (if_neg c8).symm.trans h
    have ok := ok.2 c8
    refine r_aload_n C 0 (dall tdX5_film 3 rfl) rfl ?_
    refine r_iload_n C 2 (dall tdX5_film 4 rfl) rfl ?_
    refine r_vI (as := [.int a2_]) C (zX5_isOne cy q qn qt qk qr qs a τ σ a2_ ) mv_X5_isOne km_X5_97 (by decide) (by decide) ⟨Nat.le_refl _, Nat.le_refl _⟩ rfl rfl rfl rfl (Nat.le_of_ble_eq_true rfl) (dall tdX5_film 5 rfl) ?_
    refine r_if_eq (tgt := 24) C (dall tdX5_film 6 rfl) (by decide) (fun c9 => ?_) (fun c9 => ?_)
    · have h := (if_pos c9).symm.trans h
      have ok := ok.1 c9
      refine r_bipush (v := -2) C (dall tdX5_film 11 rfl) (by decide) ?_
      exact r_iret C hR (dall tdX5_film 12 rfl) (by subst h; exact ⟨rfl, rfl⟩)
    · have h := (if_neg c9).symm.trans h
      have ok := ok.2 c9
      refine r_iload_n C 3 (dall tdX5_film 7 rfl) rfl ?_
      refine r_bipush (v := 20) C (dall tdX5_film 8 rfl) (by decide) ?_
      refine r_s0I (as := [.int a3_, .int 20]) C (zX5_within a3_ 20 ) ms_X5_within km_X5_74 (by decide) (by decide) ⟨Nat.le_refl _, Nat.le_refl _⟩ rfl rfl (Nat.le_of_ble_eq_true rfl) (dall tdX5_film 9 rfl) ?_
      refine r_if_ne (tgt := 27) C (dall tdX5_film 10 rfl) (by decide) (fun c10 => ?_) (fun c10 => ?_)
      · have h := (if_neg c10).symm.trans h
        have ok := ok.2 c10
        refine r_aload_n C 0 (dall tdX5_film 13 rfl) rfl ?_
        refine r_get C 0 kw_X5 rfl rfl (by decide) kf_X5_39 rfl rfl (dall tdX5_film 14 rfl) ?_
        refine r_iload_n C 1 (dall tdX5_film 15 rfl) rfl ?_
        obtain ⟨o11, ok⟩ := ok
        obtain ⟨o12, ok⟩ := ok
        refine r_shs C o11 o12 (dall tdX5_film 16 rfl) ?_
        refine r_astore (lv' := [(4, .ref (qs si 3)), (0, .ref (q 8)), (1, .int a1_), (2, .int a2_), (3, .int a3_)]) C (dall tdX5_film 17 rfl) (by decide) rfl ?_
        refine r_aload C 0 (dall tdX5_film 18 rfl) rfl ?_
        refine r_iconst (v := 0) C (dall tdX5_film 19 rfl) (by decide) ?_
        refine r_iload_n C 4 (dall tdX5_film 20 rfl) rfl ?_
        obtain ⟨o13, ok⟩ := ok
        obtain ⟨o14, ok⟩ := ok
        refine rcS_V (as := [.int 0, .int a3_]) C o13 (zX1_become cy (qs si) (σ.2.2.2.2.2 si) 0 a3_ o14) mv_X1_become km_X5_214 (by decide) (by decide) ⟨Nat.le_refl _, Nat.le_refl _⟩ rfl rfl (Nat.le_of_ble_eq_true rfl) (dall tdX5_film 21 rfl) ?_
        refine r_pick [1, 3, 4, 0] rfl ?_
        exact wX5_film_42 (xS σ si (fX1_become (σ.2.2.2.2.2 si) 0 a3_)) a2_ a3_ C hR  ok h
      · have h := (if_pos c10).symm.trans h
        have ok := ok.1 c10
        refine r_bipush (v := -2) C (dall tdX5_film 11 rfl) (by decide) ?_
        exact r_iret C hR (dall tdX5_film 12 rfl) (by subst h; exact ⟨rfl, rfl⟩)
def fX5_film (τ : TX) (si : Nat) (σ : XS) (a1_ : Int32) (a2_ : Int32) (a3_ : Int32) : Int32 × XS := pX5_film_0 τ si  σ a1_ a2_ a3_
def gX5_film (τ : TX) (si : Nat) (σ : XS) (a1_ : Int32) (a2_ : Int32) (a3_ : Int32) : Prop := oX5_film_0 τ si  σ a1_ a2_ a3_
set_option maxRecDepth 100000 in
theorem zX5_film (cy : Nat → ClassId) (q : Nat → Nat) (qn : Nat → Nat) (qt : Nat → Nat) (qk : Nat → Nat) (qr : Nat → Nat) (qs : Nat → Nat → Nat) (a : Nat) (τ : TX) (si : Nat)  {D : va_G} (σ : XS) (a1_ : Int32) (a2_ : Int32) (a3_ : Int32) (ok : gX5_film τ si σ a1_ a2_ a3_)  : Con yX5_film cX5_film 6 (some .int) 6 0 0 D (gty cy) [.ref (q 8), .int a1_, .int a2_, .int a3_] (wX5 cy q qn qt qk qr qs a τ σ) (eI (wX5 cy q qn qt qk qr qs a τ (fX5_film τ si σ a1_ a2_ a3_).2) (fX5_film τ si σ a1_ a2_ a3_).1) :=
  Con.of (own := RX5) (by decide +kernel) rfl (Nat.le_of_ble_eq_true rfl) (Nat.zero_le _) (fun X A C hR _ => (wX5_film_0 σ a1_ a2_ a3_ C hR  ok rfl))
theorem mv_X5_film : MV yX5_film cX5_film 6 (some .int) RX5 3 := ⟨ki_X5_film, kv_X5_film, kn_X5, kc_X5_film, by decide +kernel⟩
def tbX5_countDrawn : List (Nat × Instr × Nat) := [(0, .aload_n 0, 1), (1, .getfield 24, 3), (4, .aload_n 0, 1), (5, .getfield 20, 3), (8, .invokevirtual 186, 3), (11, .iload_n 1, 1), (12, .istore_n 3, 1), (13, .iconst 0, 1), (14, .istore 4, 2), (16, .iload 4, 2), (18, .iload_n 2, 1), (19, .if_icmp .ge 40, 3), (22, .iload_n 3, 1), (23, .ldc_w 266, 3), (26, .imul, 1), (27, .sipush 12345, 3), (30, .iadd, 1), (31, .istore_n 3, 1), (32, .aload_n 0, 1), (33, .getfield 24, 3), (36, .iload_n 3, 1), (37, .bipush 9, 2), (39, .iushr, 1), (40, .bipush 64, 2), (42, .irem, 1), (43, .invokevirtual 160, 3), (46, .aload_n 0, 1), (47, .getfield 24, 3), (50, .invokevirtual 164, 3), (53, .iinc 4 1, 3), (56, .goto (-40), 3), (59, .aload_n 0, 1), (60, .getfield 24, 3), (63, .invokevirtual 157, 3), (66, .ireturn, 1)]
theorem tdX5_countDrawn : tbX5_countDrawn.all (fun q => decide (decode cX5_countDrawn q.1 = .ok q.2)) = true := by decide +kernel
def pX5_countDrawn_53 (τ : TX) (kR16 : XS × Int32 × Int32 → Int32 × XS) (σ : XS) (a2_ : Int32) (a3_ : Int32) (a4_ : Int32) : Int32 × XS := kR16 (σ, a3_, a4_ + 1)
def oX5_countDrawn_53 (τ : TX) (kO16 : XS × Int32 × Int32 → Prop) (σ : XS) (a2_ : Int32) (a3_ : Int32) (a4_ : Int32) : Prop := kO16 (σ, a3_, a4_ + 1)
set_option maxHeartbeats 4000000 in
set_option maxRecDepth 100000 in
theorem wX5_countDrawn_53 {X : CX} {cy : Nat → ClassId} {q : Nat → Nat} {qn : Nat → Nat} {qt : Nat → Nat} {qk : Nat → Nat} {qr : Nat → Nat} {qs : Nat → Nat → Nat} {a : Nat} {τ : TX} {D : va_G} {A : Nat → Prop} {res : Int32 × XS} (σ : XS) (a2_ : Int32) (a3_ : Int32) (a4_ : Int32) (C : Cx X cX5_countDrawn RX5 5 D (gty cy) A 6 0 0) (hR : Rt X (some .int) D (gty cy) A 0 0 (eI (wX5 cy q qn qt qk qr qs a τ res.2) res.1)) (kR16 : XS × Int32 × Int32 → Int32 × XS) (kO16 : XS × Int32 × Int32 → Prop) (hk16 : ∀ z, kO16 z → kR16 z = res → At X D A 5 0 0 16 [(0, .ref (q 8)), (2, .int a2_), (3, .int z.2.1), (4, .int z.2.2)] [] (wX5 cy q qn qt qk qr qs a τ z.1)) (ok : oX5_countDrawn_53 τ kO16 σ a2_ a3_ a4_) (h : pX5_countDrawn_53 τ kR16 σ a2_ a3_ a4_ = res) : At X D A 5 0 0 53 [(0, .ref (q 8)), (2, .int a2_), (3, .int a3_), (4, .int a4_)] [] (wX5 cy q qn qt qk qr qs a τ σ) := by
  unfold pX5_countDrawn_53 at h
  unfold oX5_countDrawn_53 at ok
  refine r_iinc (v := a4_ + 1) (lv' := [(4, .int (a4_ + 1)), (0, .ref (q 8)), (2, .int a2_), (3, .int a3_)]) C 3 (dall tdX5_countDrawn 29 rfl) rfl rfl (by decide) rfl ?_
  refine r_goto (tgt := 16) C (dall tdX5_countDrawn 30 rfl) (by decide) ?_
  refine r_pick [1, 2, 3, 0] rfl ?_
  exact hk16 (σ, a3_, a4_ + 1) ok h
def pX5_countDrawn_46 (τ : TX) (kR16 : XS × Int32 × Int32 → Int32 × XS) (σ : XS) (a2_ : Int32) (a3_ : Int32) (a4_ : Int32) : Int32 × XS := pX5_countDrawn_53 τ kR16 (xT σ (fX4_passYear τ σ.2.2.1 )) a2_ a3_ a4_
def oX5_countDrawn_46 (τ : TX) (kO16 : XS × Int32 × Int32 → Prop) (σ : XS) (a2_ : Int32) (a3_ : Int32) (a4_ : Int32) : Prop := (gX4_passYear τ σ.2.2.1 ) ∧ (oX5_countDrawn_53 τ kO16 (xT σ (fX4_passYear τ σ.2.2.1 )) a2_ a3_ a4_)
set_option maxHeartbeats 4000000 in
set_option maxRecDepth 100000 in
theorem wX5_countDrawn_46 {X : CX} {cy : Nat → ClassId} {q : Nat → Nat} {qn : Nat → Nat} {qt : Nat → Nat} {qk : Nat → Nat} {qr : Nat → Nat} {qs : Nat → Nat → Nat} {a : Nat} {τ : TX} {D : va_G} {A : Nat → Prop} {res : Int32 × XS} (σ : XS) (a2_ : Int32) (a3_ : Int32) (a4_ : Int32) (C : Cx X cX5_countDrawn RX5 5 D (gty cy) A 6 0 0) (hR : Rt X (some .int) D (gty cy) A 0 0 (eI (wX5 cy q qn qt qk qr qs a τ res.2) res.1)) (kR16 : XS × Int32 × Int32 → Int32 × XS) (kO16 : XS × Int32 × Int32 → Prop) (hk16 : ∀ z, kO16 z → kR16 z = res → At X D A 5 0 0 16 [(0, .ref (q 8)), (2, .int a2_), (3, .int z.2.1), (4, .int z.2.2)] [] (wX5 cy q qn qt qk qr qs a τ z.1)) (ok : oX5_countDrawn_46 τ kO16 σ a2_ a3_ a4_) (h : pX5_countDrawn_46 τ kR16 σ a2_ a3_ a4_ = res) : At X D A 5 0 0 46 [(0, .ref (q 8)), (2, .int a2_), (3, .int a3_), (4, .int a4_)] [] (wX5 cy q qn qt qk qr qs a τ σ) := by
  unfold pX5_countDrawn_46 at h
  unfold oX5_countDrawn_46 at ok
  refine r_aload_n C 0 (dall tdX5_countDrawn 26 rfl) rfl ?_
  refine r_get C 0 kw_X5 rfl rfl (by decide) kf_X5_24 rfl rfl (dall tdX5_countDrawn 27 rfl) ?_
  obtain ⟨o1, ok⟩ := ok
  refine rcT_V (as := []) C (zX4_passYear cy (va_up qt 9 a) τ σ.2.2.1  o1) mv_X4_passYear km_X5_164 (by decide) (by decide) ⟨Nat.le_refl _, Nat.le_refl _⟩ rfl rfl (Nat.le_of_ble_eq_true rfl) (dall tdX5_countDrawn 28 rfl) ?_
  exact wX5_countDrawn_53 (xT σ (fX4_passYear τ σ.2.2.1 )) a2_ a3_ a4_ C hR kR16 kO16 hk16 ok h
def bX5_countDrawn_16 (τ : TX) (a2_ : Int32)  (kR16 : XS × Int32 × Int32 → Int32 × XS) (v : XS × Int32 × Int32) : Int32 × XS := if a2_ ≤ v.2.2 then (fX4_countUp v.1.2.2.1 , v.1) else pX5_countDrawn_46 τ kR16 (xT v.1 (fX4_dropCell v.1.2.2.1 ((jiushr ((v.2.1 * (1103515245)) + 12345) 9) - (jiushr ((v.2.1 * (1103515245)) + 12345) 9) / 64 * 64))) a2_ ((v.2.1 * (1103515245)) + 12345) v.2.2
def kX5_countDrawn_16 (τ : TX) (a2_ : Int32)  (kO16 : XS × Int32 × Int32 → Prop) (v : XS × Int32 × Int32) : Prop := (a2_ ≤ v.2.2 → gX4_countUp v.1.2.2.1 ) ∧ (¬ (a2_ ≤ v.2.2) → (gX4_dropCell v.1.2.2.1 ((jiushr ((v.2.1 * (1103515245)) + 12345) 9) - (jiushr ((v.2.1 * (1103515245)) + 12345) 9) / 64 * 64)) ∧ (oX5_countDrawn_46 τ kO16 (xT v.1 (fX4_dropCell v.1.2.2.1 ((jiushr ((v.2.1 * (1103515245)) + 12345) 9) - (jiushr ((v.2.1 * (1103515245)) + 12345) 9) / 64 * 64))) a2_ ((v.2.1 * (1103515245)) + 12345) v.2.2))
set_option maxHeartbeats 4000000 in
set_option maxRecDepth 100000 in
theorem wX5_countDrawn_16 {X : CX} {cy : Nat → ClassId} {q : Nat → Nat} {qn : Nat → Nat} {qt : Nat → Nat} {qk : Nat → Nat} {qr : Nat → Nat} {qs : Nat → Nat → Nat} {a : Nat} {τ : TX} {D : va_G} {A : Nat → Prop} {res : Int32 × XS} (a2_ : Int32) (C : Cx X cX5_countDrawn RX5 5 D (gty cy) A 6 0 0) (hR : Rt X (some .int) D (gty cy) A 0 0 (eI (wX5 cy q qn qt qk qr qs a τ res.2) res.1)) (kR16 : XS × Int32 × Int32 → Int32 × XS) (kO16 : XS × Int32 × Int32 → Prop) (hk16 : ∀ z, kO16 z → kR16 z = res → At X D A 5 0 0 16 [(0, .ref (q 8)), (2, .int a2_), (3, .int z.2.1), (4, .int z.2.2)] [] (wX5 cy q qn qt qk qr qs a τ z.1)) (v : XS × Int32 × Int32) (ok : kX5_countDrawn_16 τ a2_ kO16 v) (h : bX5_countDrawn_16 τ a2_ kR16 v = res) : At X D A 5 0 0 16 [(0, .ref (q 8)), (2, .int a2_), (3, .int v.2.1), (4, .int v.2.2)] [] (wX5 cy q qn qt qk qr qs a τ v.1) := by
  unfold bX5_countDrawn_16 at h
  unfold kX5_countDrawn_16 at ok
  refine r_iload C 3 (dall tdX5_countDrawn 9 rfl) rfl ?_
  refine r_iload_n C 1 (dall tdX5_countDrawn 10 rfl) rfl ?_
  refine r_icmp_ge (tgt := 59) C (dall tdX5_countDrawn 11 rfl) (by decide) (fun c2 => ?_) (fun c2 => ?_)
  · have h := (if_pos c2).symm.trans h
    have ok := ok.1 c2
    refine r_aload_n C 0 (dall tdX5_countDrawn 31 rfl) rfl ?_
    refine r_get C 0 kw_X5 rfl rfl (by decide) kf_X5_24 rfl rfl (dall tdX5_countDrawn 32 rfl) ?_
    have o3 := ok
    refine rcT_I0 (as := []) C (zX4_countUp cy (va_up qt 9 a) (tw cy a τ) v.1.2.2.1  o3) mv_X4_countUp km_X5_157 (by decide) (by decide) ⟨Nat.le_refl _, Nat.le_refl _⟩ rfl rfl (Nat.le_of_ble_eq_true rfl) (dall tdX5_countDrawn 33 rfl) ?_
    exact r_iret C hR (dall tdX5_countDrawn 34 rfl) (by subst h; exact ⟨rfl, rfl⟩)
  · have h := (if_neg c2).symm.trans h
    have ok := ok.2 c2
    refine r_iload_n C 2 (dall tdX5_countDrawn 12 rfl) rfl ?_
    refine r_ldcw C kk_X5_266 (dall tdX5_countDrawn 13 rfl) ?_
    refine r_imul C (dall tdX5_countDrawn 14 rfl) ?_
    refine r_sipush (v := 12345) C (dall tdX5_countDrawn 15 rfl) (by decide) ?_
    refine r_iadd C (dall tdX5_countDrawn 16 rfl) ?_
    refine r_istore_n (lv' := [(3, .int ((v.2.1 * (1103515245)) + 12345)), (0, .ref (q 8)), (2, .int a2_), (4, .int v.2.2)]) C (dall tdX5_countDrawn 17 rfl) (by decide) rfl ?_
    refine r_aload_n C 1 (dall tdX5_countDrawn 18 rfl) rfl ?_
    refine r_get C 0 kw_X5 rfl rfl (by decide) kf_X5_24 rfl rfl (dall tdX5_countDrawn 19 rfl) ?_
    refine r_iload_n C 0 (dall tdX5_countDrawn 20 rfl) rfl ?_
    refine r_bipush (v := 9) C (dall tdX5_countDrawn 21 rfl) (by decide) ?_
    refine r_iushr C (dall tdX5_countDrawn 22 rfl) ?_
    refine r_bipush (v := 64) C (dall tdX5_countDrawn 23 rfl) (by decide) ?_
    refine r_irem C (dall tdX5_countDrawn 24 rfl) (by decide) ?_
    obtain ⟨o4, ok⟩ := ok
    refine rcT_V (as := [.int ((jiushr ((v.2.1 * (1103515245)) + 12345) 9) - (jiushr ((v.2.1 * (1103515245)) + 12345) 9) / 64 * 64)]) C (zX4_dropCell cy (va_up qt 9 a) (tw cy a τ) v.1.2.2.1 ((jiushr ((v.2.1 * (1103515245)) + 12345) 9) - (jiushr ((v.2.1 * (1103515245)) + 12345) 9) / 64 * 64) o4) mv_X4_dropCell km_X5_160 (by decide) (by decide) ⟨Nat.le_refl _, Nat.le_refl _⟩ rfl rfl (Nat.le_of_ble_eq_true rfl) (dall tdX5_countDrawn 25 rfl) ?_
    refine r_pick [1, 2, 0, 3] rfl ?_
    exact wX5_countDrawn_46 (xT v.1 (fX4_dropCell v.1.2.2.1 ((jiushr ((v.2.1 * (1103515245)) + 12345) 9) - (jiushr ((v.2.1 * (1103515245)) + 12345) 9) / 64 * 64))) a2_ ((v.2.1 * (1103515245)) + 12345) v.2.2 C hR kR16 kO16 hk16 ok h
set_option maxHeartbeats 4000000 in
set_option maxRecDepth 100000 in
theorem lX5_countDrawn_16 {X : CX} {cy : Nat → ClassId} {q : Nat → Nat} {qn : Nat → Nat} {qt : Nat → Nat} {qk : Nat → Nat} {qr : Nat → Nat} {qs : Nat → Nat → Nat} {a : Nat} {τ : TX} {D : va_G} {A : Nat → Prop} {res : Int32 × XS} (a2_ : Int32) (C : Cx X cX5_countDrawn RX5 5 D (gty cy) A 6 0 0) (hR : Rt X (some .int) D (gty cy) A 0 0 (eI (wX5 cy q qn qt qk qr qs a τ res.2) res.1))  (n : Nat) (v : XS × Int32 × Int32) (ok : lpOk (kX5_countDrawn_16 τ a2_ ) n v) (h : lp (0, xs0) (bX5_countDrawn_16 τ a2_ ) n v = res) : At X D A 5 0 0 16 [(0, .ref (q 8)), (2, .int a2_), (3, .int v.2.1), (4, .int v.2.2)] [] (wX5 cy q qn qt qk qr qs a τ v.1) :=
  lp_rule (fun v rr_ => rr_ = res → At X D A 5 0 0 16 [(0, .ref (q 8)), (2, .int a2_), (3, .int v.2.1), (4, .int v.2.2)] [] (wX5 cy q qn qt qk qr qs a τ v.1)) (fun kR kO hk v ok h => wX5_countDrawn_16 a2_ C hR  kR kO hk v ok h) n v ok h
def pX5_countDrawn_11 (τ : TX)  (σ : XS) (a1_ : Int32) (a2_ : Int32) : Int32 × XS := lp (0, xs0) (bX5_countDrawn_16 τ a2_ ) fu (σ, a1_, 0)
def oX5_countDrawn_11 (τ : TX)  (σ : XS) (a1_ : Int32) (a2_ : Int32) : Prop := lpOk (kX5_countDrawn_16 τ a2_ ) fu (σ, a1_, 0)
set_option maxHeartbeats 4000000 in
set_option maxRecDepth 100000 in
theorem wX5_countDrawn_11 {X : CX} {cy : Nat → ClassId} {q : Nat → Nat} {qn : Nat → Nat} {qt : Nat → Nat} {qk : Nat → Nat} {qr : Nat → Nat} {qs : Nat → Nat → Nat} {a : Nat} {τ : TX} {D : va_G} {A : Nat → Prop} {res : Int32 × XS} (σ : XS) (a1_ : Int32) (a2_ : Int32) (C : Cx X cX5_countDrawn RX5 5 D (gty cy) A 6 0 0) (hR : Rt X (some .int) D (gty cy) A 0 0 (eI (wX5 cy q qn qt qk qr qs a τ res.2) res.1))  (ok : oX5_countDrawn_11 τ  σ a1_ a2_) (h : pX5_countDrawn_11 τ  σ a1_ a2_ = res) : At X D A 5 0 0 11 [(0, .ref (q 8)), (1, .int a1_), (2, .int a2_)] [] (wX5 cy q qn qt qk qr qs a τ σ) := by
  unfold pX5_countDrawn_11 at h
  unfold oX5_countDrawn_11 at ok
  refine r_iload_n C 1 (dall tdX5_countDrawn 5 rfl) rfl ?_
  refine r_istore_n (lv' := [(3, .int a1_), (0, .ref (q 8)), (1, .int a1_), (2, .int a2_)]) C (dall tdX5_countDrawn 6 rfl) (by decide) rfl ?_
  refine r_iconst (v := 0) C (dall tdX5_countDrawn 7 rfl) (by decide) ?_
  refine r_istore (lv' := [(4, .int 0), (3, .int a1_), (0, .ref (q 8)), (1, .int a1_), (2, .int a2_)]) C (dall tdX5_countDrawn 8 rfl) (by decide) rfl ?_
  refine r_pick [2, 4, 1, 0] rfl ?_
  exact lX5_countDrawn_16 a2_ C hR  fu _ ok h
def pX5_countDrawn_0 (τ : TX)  (σ : XS) (a1_ : Int32) (a2_ : Int32) : Int32 × XS := pX5_countDrawn_11 τ  (xT σ (oB4 σ.2.2.1 (fX4_become σ.2.1 σ.2.2.1))) a1_ a2_
def oX5_countDrawn_0 (τ : TX)  (σ : XS) (a1_ : Int32) (a2_ : Int32) : Prop := (gX4_become σ.2.1 σ.2.2.1) ∧ (oX5_countDrawn_11 τ  (xT σ (oB4 σ.2.2.1 (fX4_become σ.2.1 σ.2.2.1))) a1_ a2_)
set_option maxHeartbeats 4000000 in
set_option maxRecDepth 100000 in
theorem wX5_countDrawn_0 {X : CX} {cy : Nat → ClassId} {q : Nat → Nat} {qn : Nat → Nat} {qt : Nat → Nat} {qk : Nat → Nat} {qr : Nat → Nat} {qs : Nat → Nat → Nat} {a : Nat} {τ : TX} {D : va_G} {A : Nat → Prop} {res : Int32 × XS} (σ : XS) (a1_ : Int32) (a2_ : Int32) (C : Cx X cX5_countDrawn RX5 5 D (gty cy) A 6 0 0) (hR : Rt X (some .int) D (gty cy) A 0 0 (eI (wX5 cy q qn qt qk qr qs a τ res.2) res.1))  (ok : oX5_countDrawn_0 τ  σ a1_ a2_) (h : pX5_countDrawn_0 τ  σ a1_ a2_ = res) : At X D A 5 0 0 0 [(0, .ref (q 8)), (1, .int a1_), (2, .int a2_)] [] (wX5 cy q qn qt qk qr qs a τ σ) := by
  unfold pX5_countDrawn_0 at h
  unfold oX5_countDrawn_0 at ok
  refine r_aload_n C 0 (dall tdX5_countDrawn 0 rfl) rfl ?_
  refine r_get C 0 kw_X5 rfl rfl (by decide) kf_X5_24 rfl rfl (dall tdX5_countDrawn 1 rfl) ?_
  refine r_aload_n C 0 (dall tdX5_countDrawn 2 rfl) rfl ?_
  refine r_get C 0 kw_X5 rfl rfl (by decide) kf_X5_20 rfl rfl (dall tdX5_countDrawn 3 rfl) ?_
  obtain ⟨o5, ok⟩ := ok
  refine rcB_TN (as := [.ref (va_up qn 9 a 12)]) C (zX4_become cy (va_up qt 9 a) (va_up qn 9 a) σ.2.1 σ.2.2.1 o5) mv_X4_become km_X5_186 (by decide) (by decide) ⟨Nat.le_refl _, Nat.le_refl _⟩ rfl rfl (Nat.le_of_ble_eq_true rfl) (dall tdX5_countDrawn 4 rfl) ?_
  exact wX5_countDrawn_11 (xT σ (oB4 σ.2.2.1 (fX4_become σ.2.1 σ.2.2.1))) a1_ a2_ C hR  ok h
def fX5_countDrawn (τ : TX) (σ : XS) (a1_ : Int32) (a2_ : Int32) : Int32 × XS := pX5_countDrawn_0 τ  σ a1_ a2_
def gX5_countDrawn (τ : TX) (σ : XS) (a1_ : Int32) (a2_ : Int32) : Prop := oX5_countDrawn_0 τ  σ a1_ a2_
set_option maxRecDepth 100000 in
theorem zX5_countDrawn (cy : Nat → ClassId) (q : Nat → Nat) (qn : Nat → Nat) (qt : Nat → Nat) (qk : Nat → Nat) (qr : Nat → Nat) (qs : Nat → Nat → Nat) (a : Nat) (τ : TX)  {D : va_G} (σ : XS) (a1_ : Int32) (a2_ : Int32) (ok : gX5_countDrawn τ σ a1_ a2_)  : Con yX5_countDrawn cX5_countDrawn 5 (some .int) 6 0 0 D (gty cy) [.ref (q 8), .int a1_, .int a2_] (wX5 cy q qn qt qk qr qs a τ σ) (eI (wX5 cy q qn qt qk qr qs a τ (fX5_countDrawn τ σ a1_ a2_).2) (fX5_countDrawn τ σ a1_ a2_).1) :=
  Con.of (own := RX5) (by decide +kernel) rfl (Nat.le_of_ble_eq_true rfl) (Nat.zero_le _) (fun X A C hR _ => (wX5_countDrawn_0 σ a1_ a2_ C hR  ok rfl))
theorem mv_X5_countDrawn : MV yX5_countDrawn cX5_countDrawn 5 (some .int) RX5 2 := ⟨ki_X5_countDrawn, kv_X5_countDrawn, kn_X5, kc_X5_countDrawn, by decide +kernel⟩
def tbX5_drawn : List (Nat × Instr × Nat) := [(0, .iload_n 2, 1), (1, .bipush 40, 2), (3, .invokestatic 74, 3), (6, .ifCond .eq 12, 3), (9, .aload_n 0, 1), (10, .iload_n 1, 1), (11, .iload_n 2, 1), (12, .invokevirtual 220, 3), (15, .goto 5, 3), (18, .bipush (-2), 2), (20, .ireturn, 1)]
theorem tdX5_drawn : tbX5_drawn.all (fun q => decide (decode cX5_drawn q.1 = .ok q.2)) = true := by decide +kernel
def pX5_drawn_15 (τ : TX)  (σ : XS) (b0_ : Int32) : Int32 × XS := (b0_, σ)
set_option maxHeartbeats 4000000 in
set_option maxRecDepth 100000 in
theorem wX5_drawn_15 {X : CX} {cy : Nat → ClassId} {q : Nat → Nat} {qn : Nat → Nat} {qt : Nat → Nat} {qk : Nat → Nat} {qr : Nat → Nat} {qs : Nat → Nat → Nat} {a : Nat} {τ : TX} {D : va_G} {A : Nat → Prop} {res : Int32 × XS} (σ : XS) (b0_ : Int32) (C : Cx X cX5_drawn RX5 3 D (gty cy) A 7 0 0) (hR : Rt X (some .int) D (gty cy) A 0 0 (eI (wX5 cy q qn qt qk qr qs a τ res.2) res.1))  (h : pX5_drawn_15 τ  σ b0_ = res) : At X D A 3 0 0 15 [] [.int b0_] (wX5 cy q qn qt qk qr qs a τ σ) := by
  unfold pX5_drawn_15 at h
  refine r_goto (tgt := 20) C (dall tdX5_drawn 8 rfl) (by decide) ?_
  exact r_iret C hR (dall tdX5_drawn 10 rfl) (by subst h; exact ⟨rfl, rfl⟩)
def pX5_drawn_0 (τ : TX)  (σ : XS) (a1_ : Int32) (a2_ : Int32) : Int32 × XS := if (fX5_within a2_ 40) = 0 then ((-2), σ) else pX5_drawn_15 τ  ((fX5_countDrawn τ σ a1_ a2_).2) ((fX5_countDrawn τ σ a1_ a2_).1)
def oX5_drawn_0 (τ : TX)  (σ : XS) (a1_ : Int32) (a2_ : Int32) : Prop := ((fX5_within a2_ 40) = 0 → True) ∧ (¬ ((fX5_within a2_ 40) = 0) → gX5_countDrawn τ σ a1_ a2_)
set_option maxHeartbeats 4000000 in
set_option maxRecDepth 100000 in
theorem wX5_drawn_0 {X : CX} {cy : Nat → ClassId} {q : Nat → Nat} {qn : Nat → Nat} {qt : Nat → Nat} {qk : Nat → Nat} {qr : Nat → Nat} {qs : Nat → Nat → Nat} {a : Nat} {τ : TX} {D : va_G} {A : Nat → Prop} {res : Int32 × XS} (σ : XS) (a1_ : Int32) (a2_ : Int32) (C : Cx X cX5_drawn RX5 3 D (gty cy) A 7 0 0) (hR : Rt X (some .int) D (gty cy) A 0 0 (eI (wX5 cy q qn qt qk qr qs a τ res.2) res.1))  (ok : oX5_drawn_0 τ  σ a1_ a2_) (h : pX5_drawn_0 τ  σ a1_ a2_ = res) : At X D A 3 0 0 0 [(0, .ref (q 8)), (1, .int a1_), (2, .int a2_)] [] (wX5 cy q qn qt qk qr qs a τ σ) := by
  unfold pX5_drawn_0 at h
  unfold oX5_drawn_0 at ok
  refine r_iload_n C 2 (dall tdX5_drawn 0 rfl) rfl ?_
  refine r_bipush (v := 40) C (dall tdX5_drawn 1 rfl) (by decide) ?_
  refine r_s0I (as := [.int a2_, .int 40]) C (zX5_within a2_ 40 ) ms_X5_within km_X5_74 (by decide) (by decide) ⟨Nat.le_refl _, Nat.le_refl _⟩ rfl rfl (Nat.le_of_ble_eq_true rfl) (dall tdX5_drawn 2 rfl) ?_
  refine r_if_eq (tgt := 18) C (dall tdX5_drawn 3 rfl) (by decide) (fun c1 => ?_) (fun c1 => ?_)
  · have h := (if_pos c1).symm.trans h
    have ok := ok.1 c1
    refine r_bipush (v := -2) C (dall tdX5_drawn 9 rfl) (by decide) ?_
    exact r_iret C hR (dall tdX5_drawn 10 rfl) (by subst h; exact ⟨rfl, rfl⟩)
  · have h := (if_neg c1).symm.trans h
    have ok := ok.2 c1
    refine r_aload_n C 0 (dall tdX5_drawn 4 rfl) rfl ?_
    refine r_iload_n C 1 (dall tdX5_drawn 5 rfl) rfl ?_
    refine r_iload_n C 2 (dall tdX5_drawn 6 rfl) rfl ?_
    have o2 := ok
    refine r_vI (as := [.int a1_, .int a2_]) C (zX5_countDrawn cy q qn qt qk qr qs a τ σ a1_ a2_ o2) mv_X5_countDrawn km_X5_220 (by decide) (by decide) ⟨Nat.le_refl _, Nat.le_refl _⟩ rfl rfl rfl rfl (Nat.le_of_ble_eq_true rfl) (dall tdX5_drawn 7 rfl) ?_
    refine r_pick [] rfl ?_
    exact wX5_drawn_15 ((fX5_countDrawn τ σ a1_ a2_).2) ((fX5_countDrawn τ σ a1_ a2_).1) C hR  h
def fX5_drawn (τ : TX) (σ : XS) (a1_ : Int32) (a2_ : Int32) : Int32 × XS := pX5_drawn_0 τ  σ a1_ a2_
def gX5_drawn (τ : TX) (σ : XS) (a1_ : Int32) (a2_ : Int32) : Prop := oX5_drawn_0 τ  σ a1_ a2_
set_option maxRecDepth 100000 in
theorem zX5_drawn (cy : Nat → ClassId) (q : Nat → Nat) (qn : Nat → Nat) (qt : Nat → Nat) (qk : Nat → Nat) (qr : Nat → Nat) (qs : Nat → Nat → Nat) (a : Nat) (τ : TX)  {D : va_G} (σ : XS) (a1_ : Int32) (a2_ : Int32) (ok : gX5_drawn τ σ a1_ a2_)  : Con yX5_drawn cX5_drawn 3 (some .int) 7 0 0 D (gty cy) [.ref (q 8), .int a1_, .int a2_] (wX5 cy q qn qt qk qr qs a τ σ) (eI (wX5 cy q qn qt qk qr qs a τ (fX5_drawn τ σ a1_ a2_).2) (fX5_drawn τ σ a1_ a2_).1) :=
  Con.of (own := RX5) (by decide +kernel) rfl (Nat.le_of_ble_eq_true rfl) (Nat.zero_le _) (fun X A C hR _ => (wX5_drawn_0 σ a1_ a2_ C hR  ok rfl))
theorem mv_X5_drawn : MV yX5_drawn cX5_drawn 3 (some .int) RX5 2 := ⟨ki_X5_drawn, kv_X5_drawn, kn_X5, kc_X5_drawn, by decide +kernel⟩
def tbX5_chance : List (Nat × Instr × Nat) := [(0, .iload_n 2, 1), (1, .iconst 1, 1), (2, .if_icmp .lt 27, 3), (5, .iload_n 2, 1), (6, .bipush 20, 2), (8, .if_icmp .gt 21, 3), (11, .iload_n 3, 1), (12, .bipush 64, 2), (14, .invokestatic 74, 3), (17, .ifCond .eq 12, 3), (20, .iload 4, 2), (22, .iconst 1, 1), (23, .invokestatic 74, 3), (26, .ifCond .ne 7, 3), (29, .ldc2_w 111, 3), (32, .lreturn, 1), (33, .iconst 0, 1), (34, .istore 5, 2), (36, .iconst 0, 1), (37, .istore 6, 2), (39, .iload 6, 2), (41, .iload_n 2, 1), (42, .if_icmp .ge 26, 3), (45, .aload_n 0, 1), (46, .iload_n 1, 1), (47, .iload 6, 2), (49, .iadd, 1), (50, .bipush 10, 2), (52, .invokevirtual 220, 3), (55, .iload_n 3, 1), (56, .if_icmp .lt 6, 3), (59, .iinc 5 1, 3), (62, .iinc 6 1, 3), (65, .goto (-26), 3), (68, .iload 5, 2), (70, .iload_n 2, 1), (71, .iload 4, 2), (73, .invokestatic 193, 3), (76, .i2l, 1), (77, .lreturn, 1)]
theorem tdX5_chance : tbX5_chance.all (fun q => decide (decode cX5_chance q.1 = .ok q.2)) = true := by decide +kernel
def pX5_chance_62 (τ : TX) (kR39 : XS × Int32 × Int32 → Int64 × XS) (σ : XS) (a1_ : Int32) (a2_ : Int32) (a3_ : Int32) (a4_ : Int32) (a5_ : Int32) (a6_ : Int32) : Int64 × XS := kR39 (σ, a5_, a6_ + 1)
def oX5_chance_62 (τ : TX) (kO39 : XS × Int32 × Int32 → Prop) (σ : XS) (a1_ : Int32) (a2_ : Int32) (a3_ : Int32) (a4_ : Int32) (a5_ : Int32) (a6_ : Int32) : Prop := kO39 (σ, a5_, a6_ + 1)
set_option maxHeartbeats 4000000 in
set_option maxRecDepth 100000 in
theorem wX5_chance_62 {X : CX} {cy : Nat → ClassId} {q : Nat → Nat} {qn : Nat → Nat} {qt : Nat → Nat} {qk : Nat → Nat} {qr : Nat → Nat} {qs : Nat → Nat → Nat} {a : Nat} {τ : TX} {D : va_G} {A : Nat → Prop} {res : Int64 × XS} (σ : XS) (a1_ : Int32) (a2_ : Int32) (a3_ : Int32) (a4_ : Int32) (a5_ : Int32) (a6_ : Int32) (C : Cx X cX5_chance RX5 7 D (gty cy) A 7 0 0) (hR : Rt X (some .long) D (gty cy) A 0 0 (eL (wX5 cy q qn qt qk qr qs a τ res.2) res.1)) (kR39 : XS × Int32 × Int32 → Int64 × XS) (kO39 : XS × Int32 × Int32 → Prop) (hk39 : ∀ z, kO39 z → kR39 z = res → At X D A 7 0 0 39 [(0, .ref (q 8)), (1, .int a1_), (2, .int a2_), (3, .int a3_), (4, .int a4_), (5, .int z.2.1), (6, .int z.2.2)] [] (wX5 cy q qn qt qk qr qs a τ z.1)) (ok : oX5_chance_62 τ kO39 σ a1_ a2_ a3_ a4_ a5_ a6_) (h : pX5_chance_62 τ kR39 σ a1_ a2_ a3_ a4_ a5_ a6_ = res) : At X D A 7 0 0 62 [(0, .ref (q 8)), (1, .int a1_), (2, .int a2_), (3, .int a3_), (4, .int a4_), (5, .int a5_), (6, .int a6_)] [] (wX5 cy q qn qt qk qr qs a τ σ) := by
  unfold pX5_chance_62 at h
  unfold oX5_chance_62 at ok
  refine r_iinc (v := a6_ + 1) (lv' := [(6, .int (a6_ + 1)), (0, .ref (q 8)), (1, .int a1_), (2, .int a2_), (3, .int a3_), (4, .int a4_), (5, .int a5_)]) C 6 (dall tdX5_chance 32 rfl) rfl rfl (by decide) rfl ?_
  refine r_goto (tgt := 39) C (dall tdX5_chance 33 rfl) (by decide) ?_
  refine r_pick [1, 2, 3, 4, 5, 6, 0] rfl ?_
  exact hk39 (σ, a5_, a6_ + 1) ok h
def pX5_chance_55 (τ : TX) (kR39 : XS × Int32 × Int32 → Int64 × XS) (σ : XS) (a1_ : Int32) (a2_ : Int32) (a3_ : Int32) (a4_ : Int32) (a5_ : Int32) (a6_ : Int32) (b0_ : Int32) : Int64 × XS := if b0_ < a3_ then pX5_chance_62 τ kR39 σ a1_ a2_ a3_ a4_ a5_ a6_ else pX5_chance_62 τ kR39 σ a1_ a2_ a3_ a4_ (a5_ + 1) a6_
def oX5_chance_55 (τ : TX) (kO39 : XS × Int32 × Int32 → Prop) (σ : XS) (a1_ : Int32) (a2_ : Int32) (a3_ : Int32) (a4_ : Int32) (a5_ : Int32) (a6_ : Int32) (b0_ : Int32) : Prop := (b0_ < a3_ → oX5_chance_62 τ kO39 σ a1_ a2_ a3_ a4_ a5_ a6_) ∧ (¬ (b0_ < a3_) → oX5_chance_62 τ kO39 σ a1_ a2_ a3_ a4_ (a5_ + 1) a6_)
set_option maxHeartbeats 4000000 in
set_option maxRecDepth 100000 in
theorem wX5_chance_55 {X : CX} {cy : Nat → ClassId} {q : Nat → Nat} {qn : Nat → Nat} {qt : Nat → Nat} {qk : Nat → Nat} {qr : Nat → Nat} {qs : Nat → Nat → Nat} {a : Nat} {τ : TX} {D : va_G} {A : Nat → Prop} {res : Int64 × XS} (σ : XS) (a1_ : Int32) (a2_ : Int32) (a3_ : Int32) (a4_ : Int32) (a5_ : Int32) (a6_ : Int32) (b0_ : Int32) (C : Cx X cX5_chance RX5 7 D (gty cy) A 7 0 0) (hR : Rt X (some .long) D (gty cy) A 0 0 (eL (wX5 cy q qn qt qk qr qs a τ res.2) res.1)) (kR39 : XS × Int32 × Int32 → Int64 × XS) (kO39 : XS × Int32 × Int32 → Prop) (hk39 : ∀ z, kO39 z → kR39 z = res → At X D A 7 0 0 39 [(0, .ref (q 8)), (1, .int a1_), (2, .int a2_), (3, .int a3_), (4, .int a4_), (5, .int z.2.1), (6, .int z.2.2)] [] (wX5 cy q qn qt qk qr qs a τ z.1)) (ok : oX5_chance_55 τ kO39 σ a1_ a2_ a3_ a4_ a5_ a6_ b0_) (h : pX5_chance_55 τ kR39 σ a1_ a2_ a3_ a4_ a5_ a6_ b0_ = res) : At X D A 7 0 0 55 [(0, .ref (q 8)), (1, .int a1_), (2, .int a2_), (3, .int a3_), (4, .int a4_), (5, .int a5_), (6, .int a6_)] [.int b0_] (wX5 cy q qn qt qk qr qs a τ σ) := by
  unfold pX5_chance_55 at h
  unfold oX5_chance_55 at ok
  refine r_iload_n C 3 (dall tdX5_chance 29 rfl) rfl ?_
  refine r_icmp_lt (tgt := 62) C (dall tdX5_chance 30 rfl) (by decide) (fun c1 => ?_) (fun c1 => ?_)
  · have h := (if_pos c1).symm.trans h
    have ok := ok.1 c1
    exact wX5_chance_62 σ a1_ a2_ a3_ a4_ a5_ a6_ C hR kR39 kO39 hk39 ok h
  · have h := (if_neg c1).symm.trans h
    have ok := ok.2 c1
    refine r_iinc (v := a5_ + 1) (lv' := [(5, .int (a5_ + 1)), (0, .ref (q 8)), (1, .int a1_), (2, .int a2_), (3, .int a3_), (4, .int a4_), (6, .int a6_)]) C 5 (dall tdX5_chance 31 rfl) rfl rfl (by decide) rfl ?_
    refine r_pick [1, 2, 3, 4, 5, 0, 6] rfl ?_
    exact wX5_chance_62 σ a1_ a2_ a3_ a4_ (a5_ + 1) a6_ C hR kR39 kO39 hk39 ok h
def bX5_chance_39 (τ : TX) (a1_ : Int32) (a2_ : Int32) (a3_ : Int32) (a4_ : Int32)  (kR39 : XS × Int32 × Int32 → Int64 × XS) (v : XS × Int32 × Int32) : Int64 × XS := if a2_ ≤ v.2.2 then ((fX5_lowest v.2.1 a2_ a4_).toInt64, v.1) else pX5_chance_55 τ kR39 ((fX5_countDrawn τ v.1 (a1_ + v.2.2) 10).2) a1_ a2_ a3_ a4_ v.2.1 v.2.2 ((fX5_countDrawn τ v.1 (a1_ + v.2.2) 10).1)
def kX5_chance_39 (τ : TX) (a1_ : Int32) (a2_ : Int32) (a3_ : Int32) (a4_ : Int32)  (kO39 : XS × Int32 × Int32 → Prop) (v : XS × Int32 × Int32) : Prop := (a2_ ≤ v.2.2 → gX5_lowest v.2.1 a2_ a4_) ∧ (¬ (a2_ ≤ v.2.2) → (gX5_countDrawn τ v.1 (a1_ + v.2.2) 10) ∧ (oX5_chance_55 τ kO39 ((fX5_countDrawn τ v.1 (a1_ + v.2.2) 10).2) a1_ a2_ a3_ a4_ v.2.1 v.2.2 ((fX5_countDrawn τ v.1 (a1_ + v.2.2) 10).1)))
set_option maxHeartbeats 4000000 in
set_option maxRecDepth 100000 in
theorem wX5_chance_39 {X : CX} {cy : Nat → ClassId} {q : Nat → Nat} {qn : Nat → Nat} {qt : Nat → Nat} {qk : Nat → Nat} {qr : Nat → Nat} {qs : Nat → Nat → Nat} {a : Nat} {τ : TX} {D : va_G} {A : Nat → Prop} {res : Int64 × XS} (a1_ : Int32) (a2_ : Int32) (a3_ : Int32) (a4_ : Int32) (C : Cx X cX5_chance RX5 7 D (gty cy) A 7 0 0) (hR : Rt X (some .long) D (gty cy) A 0 0 (eL (wX5 cy q qn qt qk qr qs a τ res.2) res.1)) (kR39 : XS × Int32 × Int32 → Int64 × XS) (kO39 : XS × Int32 × Int32 → Prop) (hk39 : ∀ z, kO39 z → kR39 z = res → At X D A 7 0 0 39 [(0, .ref (q 8)), (1, .int a1_), (2, .int a2_), (3, .int a3_), (4, .int a4_), (5, .int z.2.1), (6, .int z.2.2)] [] (wX5 cy q qn qt qk qr qs a τ z.1)) (v : XS × Int32 × Int32) (ok : kX5_chance_39 τ a1_ a2_ a3_ a4_ kO39 v) (h : bX5_chance_39 τ a1_ a2_ a3_ a4_ kR39 v = res) : At X D A 7 0 0 39 [(0, .ref (q 8)), (1, .int a1_), (2, .int a2_), (3, .int a3_), (4, .int a4_), (5, .int v.2.1), (6, .int v.2.2)] [] (wX5 cy q qn qt qk qr qs a τ v.1) := by
  unfold bX5_chance_39 at h
  unfold kX5_chance_39 at ok
  refine r_iload C 6 (dall tdX5_chance 20 rfl) rfl ?_
  refine r_iload_n C 2 (dall tdX5_chance 21 rfl) rfl ?_
  refine r_icmp_ge (tgt := 68) C (dall tdX5_chance 22 rfl) (by decide) (fun c2 => ?_) (fun c2 => ?_)
  · have h := (if_pos c2).symm.trans h
    have ok := ok.1 c2
    refine r_iload C 5 (dall tdX5_chance 34 rfl) rfl ?_
    refine r_iload_n C 2 (dall tdX5_chance 35 rfl) rfl ?_
    refine r_iload C 4 (dall tdX5_chance 36 rfl) rfl ?_
    have o3 := ok
    refine r_s0I (as := [.int v.2.1, .int a2_, .int a4_]) C (zX5_lowest v.2.1 a2_ a4_ o3) ms_X5_lowest km_X5_193 (by decide) (by decide) ⟨Nat.le_refl _, Nat.le_refl _⟩ rfl rfl (Nat.le_of_ble_eq_true rfl) (dall tdX5_chance 37 rfl) ?_
    refine r_i2l C (dall tdX5_chance 38 rfl) ?_
    exact r_lret C hR (dall tdX5_chance 39 rfl) (by subst h; exact ⟨rfl, rfl⟩)
  · have h := (if_neg c2).symm.trans h
    have ok := ok.2 c2
    refine r_aload_n C 0 (dall tdX5_chance 23 rfl) rfl ?_
    refine r_iload_n C 1 (dall tdX5_chance 24 rfl) rfl ?_
    refine r_iload C 6 (dall tdX5_chance 25 rfl) rfl ?_
    refine r_iadd C (dall tdX5_chance 26 rfl) ?_
    refine r_bipush (v := 10) C (dall tdX5_chance 27 rfl) (by decide) ?_
    obtain ⟨o4, ok⟩ := ok
    refine r_vI (as := [.int (a1_ + v.2.2), .int 10]) C (zX5_countDrawn cy q qn qt qk qr qs a τ v.1 (a1_ + v.2.2) 10 o4) mv_X5_countDrawn km_X5_220 (by decide) (by decide) ⟨Nat.le_refl _, Nat.le_refl _⟩ rfl rfl rfl rfl (Nat.le_of_ble_eq_true rfl) (dall tdX5_chance 28 rfl) ?_
    exact wX5_chance_55 ((fX5_countDrawn τ v.1 (a1_ + v.2.2) 10).2) a1_ a2_ a3_ a4_ v.2.1 v.2.2 ((fX5_countDrawn τ v.1 (a1_ + v.2.2) 10).1) C hR kR39 kO39 hk39 ok h
set_option maxHeartbeats 4000000 in
set_option maxRecDepth 100000 in
theorem lX5_chance_39 {X : CX} {cy : Nat → ClassId} {q : Nat → Nat} {qn : Nat → Nat} {qt : Nat → Nat} {qk : Nat → Nat} {qr : Nat → Nat} {qs : Nat → Nat → Nat} {a : Nat} {τ : TX} {D : va_G} {A : Nat → Prop} {res : Int64 × XS} (a1_ : Int32) (a2_ : Int32) (a3_ : Int32) (a4_ : Int32) (C : Cx X cX5_chance RX5 7 D (gty cy) A 7 0 0) (hR : Rt X (some .long) D (gty cy) A 0 0 (eL (wX5 cy q qn qt qk qr qs a τ res.2) res.1))  (n : Nat) (v : XS × Int32 × Int32) (ok : lpOk (kX5_chance_39 τ a1_ a2_ a3_ a4_ ) n v) (h : lp (0, xs0) (bX5_chance_39 τ a1_ a2_ a3_ a4_ ) n v = res) : At X D A 7 0 0 39 [(0, .ref (q 8)), (1, .int a1_), (2, .int a2_), (3, .int a3_), (4, .int a4_), (5, .int v.2.1), (6, .int v.2.2)] [] (wX5 cy q qn qt qk qr qs a τ v.1) :=
  lp_rule (fun v rr_ => rr_ = res → At X D A 7 0 0 39 [(0, .ref (q 8)), (1, .int a1_), (2, .int a2_), (3, .int a3_), (4, .int a4_), (5, .int v.2.1), (6, .int v.2.2)] [] (wX5 cy q qn qt qk qr qs a τ v.1)) (fun kR kO hk v ok h => wX5_chance_39 a1_ a2_ a3_ a4_ C hR  kR kO hk v ok h) n v ok h
def pX5_chance_0 (τ : TX)  (σ : XS) (a1_ : Int32) (a2_ : Int32) (a3_ : Int32) (a4_ : Int32) : Int64 × XS := if a2_ < 1 then ((-4611686018427387904), σ) else if 20 < a2_ then ((-4611686018427387904), σ) else if (fX5_within a3_ 64) = 0 then ((-4611686018427387904), σ) else if (fX5_within a4_ 1) = 0 then ((-4611686018427387904), σ) else lp (0, xs0) (bX5_chance_39 τ a1_ a2_ a3_ a4_ ) fu (σ, 0, 0)
def oX5_chance_0 (τ : TX)  (σ : XS) (a1_ : Int32) (a2_ : Int32) (a3_ : Int32) (a4_ : Int32) : Prop := (a2_ < 1 → True) ∧ (¬ (a2_ < 1) → (20 < a2_ → True) ∧ (¬ (20 < a2_) → ((fX5_within a3_ 64) = 0 → True) ∧ (¬ ((fX5_within a3_ 64) = 0) → ((fX5_within a4_ 1) = 0 → True) ∧ (¬ ((fX5_within a4_ 1) = 0) → lpOk (kX5_chance_39 τ a1_ a2_ a3_ a4_ ) fu (σ, 0, 0)))))
set_option maxHeartbeats 4000000 in
set_option maxRecDepth 100000 in
theorem wX5_chance_0 {X : CX} {cy : Nat → ClassId} {q : Nat → Nat} {qn : Nat → Nat} {qt : Nat → Nat} {qk : Nat → Nat} {qr : Nat → Nat} {qs : Nat → Nat → Nat} {a : Nat} {τ : TX} {D : va_G} {A : Nat → Prop} {res : Int64 × XS} (σ : XS) (a1_ : Int32) (a2_ : Int32) (a3_ : Int32) (a4_ : Int32) (C : Cx X cX5_chance RX5 7 D (gty cy) A 7 0 0) (hR : Rt X (some .long) D (gty cy) A 0 0 (eL (wX5 cy q qn qt qk qr qs a τ res.2) res.1))  (ok : oX5_chance_0 τ  σ a1_ a2_ a3_ a4_) (h : pX5_chance_0 τ  σ a1_ a2_ a3_ a4_ = res) : At X D A 7 0 0 0 [(0, .ref (q 8)), (1, .int a1_), (2, .int a2_), (3, .int a3_), (4, .int a4_)] [] (wX5 cy q qn qt qk qr qs a τ σ) := by
  unfold pX5_chance_0 at h
  unfold oX5_chance_0 at ok
  refine r_iload_n C 2 (dall tdX5_chance 0 rfl) rfl ?_
  refine r_iconst (v := 1) C (dall tdX5_chance 1 rfl) (by decide) ?_
  refine r_icmp_lt (tgt := 29) C (dall tdX5_chance 2 rfl) (by decide) (fun c5 => ?_) (fun c5 => ?_)
  · have h := (if_pos c5).symm.trans h
    have ok := ok.1 c5
    refine r_ldc2 C kk_X5_111 (dall tdX5_chance 14 rfl) ?_
    exact r_lret C hR (dall tdX5_chance 15 rfl) (by subst h; exact ⟨rfl, rfl⟩)
  · have h := (if_neg c5).symm.trans h
    have ok := ok.2 c5
    refine r_iload_n C 2 (dall tdX5_chance 3 rfl) rfl ?_
    refine r_bipush (v := 20) C (dall tdX5_chance 4 rfl) (by decide) ?_
    refine r_icmp_gt (tgt := 29) C (dall tdX5_chance 5 rfl) (by decide) (fun c6 => ?_) (fun c6 => ?_)
    · have h := (if_pos c6).symm.trans h
      have ok := ok.1 c6
      refine r_ldc2 C kk_X5_111 (dall tdX5_chance 14 rfl) ?_
      exact r_lret C hR (dall tdX5_chance 15 rfl) (by subst h; exact ⟨rfl, rfl⟩)
    · have h := (if_neg c6).symm.trans h
      have ok := ok.2 c6
      refine r_iload_n C 3 (dall tdX5_chance 6 rfl) rfl ?_
      refine r_bipush (v := 64) C (dall tdX5_chance 7 rfl) (by decide) ?_
      refine r_s0I (as := [.int a3_, .int 64]) C (zX5_within a3_ 64 ) ms_X5_within km_X5_74 (by decide) (by decide) ⟨Nat.le_refl _, Nat.le_refl _⟩ rfl rfl (Nat.le_of_ble_eq_true rfl) (dall tdX5_chance 8 rfl) ?_
      refine r_if_eq (tgt := 29) C (dall tdX5_chance 9 rfl) (by decide) (fun c7 => ?_) (fun c7 => ?_)
      · have h := (if_pos c7).symm.trans h
        have ok := ok.1 c7
        refine r_ldc2 C kk_X5_111 (dall tdX5_chance 14 rfl) ?_
        exact r_lret C hR (dall tdX5_chance 15 rfl) (by subst h; exact ⟨rfl, rfl⟩)
      · have h := (if_neg c7).symm.trans h
        have ok := ok.2 c7
        refine r_iload C 4 (dall tdX5_chance 10 rfl) rfl ?_
        refine r_iconst (v := 1) C (dall tdX5_chance 11 rfl) (by decide) ?_
        refine r_s0I (as := [.int a4_, .int 1]) C (zX5_within a4_ 1 ) ms_X5_within km_X5_74 (by decide) (by decide) ⟨Nat.le_refl _, Nat.le_refl _⟩ rfl rfl (Nat.le_of_ble_eq_true rfl) (dall tdX5_chance 12 rfl) ?_
        refine r_if_ne (tgt := 33) C (dall tdX5_chance 13 rfl) (by decide) (fun c8 => ?_) (fun c8 => ?_)
        · have h := (if_neg c8).symm.trans h
          have ok := ok.2 c8
          refine r_iconst (v := 0) C (dall tdX5_chance 16 rfl) (by decide) ?_
          refine r_istore (lv' := [(5, .int 0), (0, .ref (q 8)), (1, .int a1_), (2, .int a2_), (3, .int a3_), (4, .int a4_)]) C (dall tdX5_chance 17 rfl) (by decide) rfl ?_
          refine r_iconst (v := 0) C (dall tdX5_chance 18 rfl) (by decide) ?_
          refine r_istore (lv' := [(6, .int 0), (5, .int 0), (0, .ref (q 8)), (1, .int a1_), (2, .int a2_), (3, .int a3_), (4, .int a4_)]) C (dall tdX5_chance 19 rfl) (by decide) rfl ?_
          refine r_pick [2, 3, 4, 5, 6, 1, 0] rfl ?_
          exact lX5_chance_39 a1_ a2_ a3_ a4_ C hR  fu _ ok h
        · have h := (if_pos c8).symm.trans h
          have ok := ok.1 c8
          refine r_ldc2 C kk_X5_111 (dall tdX5_chance 14 rfl) ?_
          exact r_lret C hR (dall tdX5_chance 15 rfl) (by subst h; exact ⟨rfl, rfl⟩)
def fX5_chance (τ : TX) (σ : XS) (a1_ : Int32) (a2_ : Int32) (a3_ : Int32) (a4_ : Int32) : Int64 × XS := pX5_chance_0 τ  σ a1_ a2_ a3_ a4_
def gX5_chance (τ : TX) (σ : XS) (a1_ : Int32) (a2_ : Int32) (a3_ : Int32) (a4_ : Int32) : Prop := oX5_chance_0 τ  σ a1_ a2_ a3_ a4_
set_option maxRecDepth 100000 in
theorem zX5_chance (cy : Nat → ClassId) (q : Nat → Nat) (qn : Nat → Nat) (qt : Nat → Nat) (qk : Nat → Nat) (qr : Nat → Nat) (qs : Nat → Nat → Nat) (a : Nat) (τ : TX)  {D : va_G} (σ : XS) (a1_ : Int32) (a2_ : Int32) (a3_ : Int32) (a4_ : Int32) (ok : gX5_chance τ σ a1_ a2_ a3_ a4_)  : Con yX5_chance cX5_chance 7 (some .long) 7 0 0 D (gty cy) [.ref (q 8), .int a1_, .int a2_, .int a3_, .int a4_] (wX5 cy q qn qt qk qr qs a τ σ) (eL (wX5 cy q qn qt qk qr qs a τ (fX5_chance τ σ a1_ a2_ a3_ a4_).2) (fX5_chance τ σ a1_ a2_ a3_ a4_).1) :=
  Con.of (own := RX5) (by decide +kernel) rfl (Nat.le_of_ble_eq_true rfl) (Nat.zero_le _) (fun X A C hR _ => (wX5_chance_0 σ a1_ a2_ a3_ a4_ C hR  ok rfl))
theorem mv_X5_chance : MV yX5_chance cX5_chance 7 (some .long) RX5 4 := ⟨ki_X5_chance, kv_X5_chance, kn_X5, kc_X5_chance, by decide +kernel⟩
def tbX5_image : List (Nat × Instr × Nat) := [(0, .aload_n 0, 1), (1, .getfield 27, 3), (4, .aload_n 0, 1), (5, .getfield 20, 3), (8, .invokevirtual 186, 3), (11, .aload_n 0, 1), (12, .iconst 1, 1), (13, .putfield 223, 3), (16, .aload_n 0, 1), (17, .getfield 20, 3), (20, .getfield 78, 3), (23, .ireturn, 1)]
theorem tdX5_image : tbX5_image.all (fun q => decide (decode cX5_image q.1 = .ok q.2)) = true := by decide +kernel
def pX5_image_11 (τ : TX)  (σ : XS) : Int32 × XS := (((xX σ (oI σ.1 7 1)).2.1).1 4, xX σ (oI σ.1 7 1))
set_option maxHeartbeats 4000000 in
set_option maxRecDepth 100000 in
theorem wX5_image_11 {X : CX} {cy : Nat → ClassId} {q : Nat → Nat} {qn : Nat → Nat} {qt : Nat → Nat} {qk : Nat → Nat} {qr : Nat → Nat} {qs : Nat → Nat → Nat} {a : Nat} {τ : TX} {D : va_G} {A : Nat → Prop} {res : Int32 × XS} (σ : XS) (C : Cx X cX5_image RX5 1 D (gty cy) A 1 0 0) (hR : Rt X (some .int) D (gty cy) A 0 0 (eI (wX5 cy q qn qt qk qr qs a τ res.2) res.1))  (h : pX5_image_11 τ  σ = res) : At X D A 1 0 0 11 [(0, .ref (q 8))] [] (wX5 cy q qn qt qk qr qs a τ σ) := by
  unfold pX5_image_11 at h
  refine r_aload_n C 0 (dall tdX5_image 5 rfl) rfl ?_
  refine r_iconst (v := 1) C (dall tdX5_image 6 rfl) (by decide) ?_
  refine r_put C 0 kw_X5 tyX5_ok nmX5 rfl rfl (by decide) kf_X5_223 rfl rfl rfl (by decide) (by decide) (Nat.le_of_ble_eq_true rfl) (pu_X5_this_7 cy q qn qt qk qr qs a τ σ 1) (dall tdX5_image 7 rfl) ?_
  refine r_aload_n C 0 (dall tdX5_image 8 rfl) rfl ?_
  refine r_get C 0 kw_X5 rfl rfl (by decide) kf_X5_20 rfl rfl (dall tdX5_image 9 rfl) ?_
  refine r_get C 1 kw_X4 rfl rfl (by decide) kf_X5_78 rfl rfl (dall tdX5_image 10 rfl) ?_
  exact r_iret C hR (dall tdX5_image 11 rfl) (by subst h; exact ⟨rfl, rfl⟩)
def pX5_image_0 (τ : TX)  (σ : XS) : Int32 × XS := pX5_image_11 τ  (xK σ (oB4 σ.2.2.2.1 (fX4_become σ.2.1 σ.2.2.2.1)))
def oX5_image_0 (τ : TX)  (σ : XS) : Prop := gX4_become σ.2.1 σ.2.2.2.1
set_option maxHeartbeats 4000000 in
set_option maxRecDepth 100000 in
theorem wX5_image_0 {X : CX} {cy : Nat → ClassId} {q : Nat → Nat} {qn : Nat → Nat} {qt : Nat → Nat} {qk : Nat → Nat} {qr : Nat → Nat} {qs : Nat → Nat → Nat} {a : Nat} {τ : TX} {D : va_G} {A : Nat → Prop} {res : Int32 × XS} (σ : XS) (C : Cx X cX5_image RX5 1 D (gty cy) A 1 0 0) (hR : Rt X (some .int) D (gty cy) A 0 0 (eI (wX5 cy q qn qt qk qr qs a τ res.2) res.1))  (ok : oX5_image_0 τ  σ) (h : pX5_image_0 τ  σ = res) : At X D A 1 0 0 0 [(0, .ref (q 8))] [] (wX5 cy q qn qt qk qr qs a τ σ) := by
  unfold pX5_image_0 at h
  unfold oX5_image_0 at ok
  refine r_aload_n C 0 (dall tdX5_image 0 rfl) rfl ?_
  refine r_get C 0 kw_X5 rfl rfl (by decide) kf_X5_27 rfl rfl (dall tdX5_image 1 rfl) ?_
  refine r_aload_n C 0 (dall tdX5_image 2 rfl) rfl ?_
  refine r_get C 0 kw_X5 rfl rfl (by decide) kf_X5_20 rfl rfl (dall tdX5_image 3 rfl) ?_
  have o1 := ok
  refine rcB_KN (as := [.ref (va_up qn 9 a 12)]) C (zX4_become cy (va_up qk 9 a) (va_up qn 9 a) σ.2.1 σ.2.2.2.1 o1) mv_X4_become km_X5_186 (by decide) (by decide) ⟨Nat.le_refl _, Nat.le_refl _⟩ rfl rfl (Nat.le_of_ble_eq_true rfl) (dall tdX5_image 4 rfl) ?_
  exact wX5_image_11 (xK σ (oB4 σ.2.2.2.1 (fX4_become σ.2.1 σ.2.2.2.1))) C hR  h
def fX5_image (τ : TX) (σ : XS) : Int32 × XS := pX5_image_0 τ  σ
def gX5_image (τ : TX) (σ : XS) : Prop := oX5_image_0 τ  σ
set_option maxRecDepth 100000 in
theorem zX5_image (cy : Nat → ClassId) (q : Nat → Nat) (qn : Nat → Nat) (qt : Nat → Nat) (qk : Nat → Nat) (qr : Nat → Nat) (qs : Nat → Nat → Nat) (a : Nat) (τ : TX)  {D : va_G} (σ : XS) (ok : gX5_image τ σ )  : Con yX5_image cX5_image 1 (some .int) 1 0 0 D (gty cy) [.ref (q 8)] (wX5 cy q qn qt qk qr qs a τ σ) (eI (wX5 cy q qn qt qk qr qs a τ (fX5_image τ σ ).2) (fX5_image τ σ ).1) :=
  Con.of (own := RX5) (by decide +kernel) rfl (Nat.le_of_ble_eq_true rfl) (Nat.zero_le _) (fun X A C hR _ => (wX5_image_0 σ C hR  ok rfl))
theorem mv_X5_image : MV yX5_image cX5_image 1 (some .int) RX5 0 := ⟨ki_X5_image, kv_X5_image, kn_X5, kc_X5_image, by decide +kernel⟩
def tbX5_back : List (Nat × Instr × Nat) := [(0, .aload_n 0, 1), (1, .getfield 223, 3), (4, .ifCond .ne 6, 3), (7, .bipush (-3), 2), (9, .ireturn, 1), (10, .aload_n 0, 1), (11, .getfield 20, 3), (14, .aload_n 0, 1), (15, .getfield 27, 3), (18, .invokevirtual 186, 3), (21, .aload_n 0, 1), (22, .getfield 20, 3), (25, .getfield 78, 3), (28, .ireturn, 1)]
theorem tdX5_back : tbX5_back.all (fun q => decide (decode cX5_back q.1 = .ok q.2)) = true := by decide +kernel
def pX5_back_21 (τ : TX)  (σ : XS) : Int32 × XS := (σ.2.1.1 4, σ)
set_option maxHeartbeats 4000000 in
set_option maxRecDepth 100000 in
theorem wX5_back_21 {X : CX} {cy : Nat → ClassId} {q : Nat → Nat} {qn : Nat → Nat} {qt : Nat → Nat} {qk : Nat → Nat} {qr : Nat → Nat} {qs : Nat → Nat → Nat} {a : Nat} {τ : TX} {D : va_G} {A : Nat → Prop} {res : Int32 × XS} (σ : XS) (C : Cx X cX5_back RX5 1 D (gty cy) A 1 0 0) (hR : Rt X (some .int) D (gty cy) A 0 0 (eI (wX5 cy q qn qt qk qr qs a τ res.2) res.1))  (h : pX5_back_21 τ  σ = res) : At X D A 1 0 0 21 [(0, .ref (q 8))] [] (wX5 cy q qn qt qk qr qs a τ σ) := by
  unfold pX5_back_21 at h
  refine r_aload_n C 0 (dall tdX5_back 10 rfl) rfl ?_
  refine r_get C 0 kw_X5 rfl rfl (by decide) kf_X5_20 rfl rfl (dall tdX5_back 11 rfl) ?_
  refine r_get C 1 kw_X4 rfl rfl (by decide) kf_X5_78 rfl rfl (dall tdX5_back 12 rfl) ?_
  exact r_iret C hR (dall tdX5_back 13 rfl) (by subst h; exact ⟨rfl, rfl⟩)
def pX5_back_0 (τ : TX)  (σ : XS) : Int32 × XS := if (σ.1.1 7) = 0 then ((-3), σ) else pX5_back_21 τ  (xN σ (oB4 σ.2.1 (fX4_become σ.2.2.2.1 σ.2.1)))
def oX5_back_0 (τ : TX)  (σ : XS) : Prop := ((σ.1.1 7) = 0 → True) ∧ (¬ ((σ.1.1 7) = 0) → gX4_become σ.2.2.2.1 σ.2.1)
set_option maxHeartbeats 4000000 in
set_option maxRecDepth 100000 in
theorem wX5_back_0 {X : CX} {cy : Nat → ClassId} {q : Nat → Nat} {qn : Nat → Nat} {qt : Nat → Nat} {qk : Nat → Nat} {qr : Nat → Nat} {qs : Nat → Nat → Nat} {a : Nat} {τ : TX} {D : va_G} {A : Nat → Prop} {res : Int32 × XS} (σ : XS) (C : Cx X cX5_back RX5 1 D (gty cy) A 1 0 0) (hR : Rt X (some .int) D (gty cy) A 0 0 (eI (wX5 cy q qn qt qk qr qs a τ res.2) res.1))  (ok : oX5_back_0 τ  σ) (h : pX5_back_0 τ  σ = res) : At X D A 1 0 0 0 [(0, .ref (q 8))] [] (wX5 cy q qn qt qk qr qs a τ σ) := by
  unfold pX5_back_0 at h
  unfold oX5_back_0 at ok
  refine r_aload_n C 0 (dall tdX5_back 0 rfl) rfl ?_
  refine r_get C 0 kw_X5 rfl rfl (by decide) kf_X5_223 rfl rfl (dall tdX5_back 1 rfl) ?_
  refine r_if_ne (tgt := 10) C (dall tdX5_back 2 rfl) (by decide) (fun c1 => ?_) (fun c1 => ?_)
  · have h := (if_neg c1).symm.trans h
    have ok := ok.2 c1
    refine r_aload_n C 0 (dall tdX5_back 5 rfl) rfl ?_
    refine r_get C 0 kw_X5 rfl rfl (by decide) kf_X5_20 rfl rfl (dall tdX5_back 6 rfl) ?_
    refine r_aload_n C 0 (dall tdX5_back 7 rfl) rfl ?_
    refine r_get C 0 kw_X5 rfl rfl (by decide) kf_X5_27 rfl rfl (dall tdX5_back 8 rfl) ?_
    have o2 := ok
    refine rcB_NK (as := [.ref (va_up qk 9 a 12)]) C (zX4_become cy (va_up qn 9 a) (va_up qk 9 a) σ.2.2.2.1 σ.2.1 o2) mv_X4_become km_X5_186 (by decide) (by decide) ⟨Nat.le_refl _, Nat.le_refl _⟩ rfl rfl (Nat.le_of_ble_eq_true rfl) (dall tdX5_back 9 rfl) ?_
    exact wX5_back_21 (xN σ (oB4 σ.2.1 (fX4_become σ.2.2.2.1 σ.2.1))) C hR  h
  · have h := (if_pos c1).symm.trans h
    have ok := ok.1 c1
    refine r_bipush (v := -3) C (dall tdX5_back 3 rfl) (by decide) ?_
    exact r_iret C hR (dall tdX5_back 4 rfl) (by subst h; exact ⟨rfl, rfl⟩)
def fX5_back (τ : TX) (σ : XS) : Int32 × XS := pX5_back_0 τ  σ
def gX5_back (τ : TX) (σ : XS) : Prop := oX5_back_0 τ  σ
set_option maxRecDepth 100000 in
theorem zX5_back (cy : Nat → ClassId) (q : Nat → Nat) (qn : Nat → Nat) (qt : Nat → Nat) (qk : Nat → Nat) (qr : Nat → Nat) (qs : Nat → Nat → Nat) (a : Nat) (τ : TX)  {D : va_G} (σ : XS) (ok : gX5_back τ σ )  : Con yX5_back cX5_back 1 (some .int) 1 0 0 D (gty cy) [.ref (q 8)] (wX5 cy q qn qt qk qr qs a τ σ) (eI (wX5 cy q qn qt qk qr qs a τ (fX5_back τ σ ).2) (fX5_back τ σ ).1) :=
  Con.of (own := RX5) (by decide +kernel) rfl (Nat.le_of_ble_eq_true rfl) (Nat.zero_le _) (fun X A C hR _ => (wX5_back_0 σ C hR  ok rfl))
theorem mv_X5_back : MV yX5_back cX5_back 1 (some .int) RX5 0 := ⟨ki_X5_back, kv_X5_back, kn_X5, kc_X5_back, by decide +kernel⟩
def tbX5_count : List (Nat × Instr × Nat) := [(0, .iload_n 1, 1), (1, .tableswitch 84 0 5 #[39, 47, 55, 63, 68, 76], 39), (40, .aload_n 0, 1), (41, .getfield 20, 3), (44, .getfield 78, 3), (47, .ireturn, 1), (48, .aload_n 0, 1), (49, .getfield 20, 3), (52, .invokevirtual 157, 3), (55, .ireturn, 1), (56, .aload_n 0, 1), (57, .getfield 20, 3), (60, .getfield 170, 3), (63, .ireturn, 1), (64, .aload_n 0, 1), (65, .getfield 46, 3), (68, .ireturn, 1), (69, .aload_n 0, 1), (70, .getfield 33, 3), (73, .getfield 227, 3), (76, .ireturn, 1), (77, .aload_n 0, 1), (78, .getfield 20, 3), (81, .getfield 128, 3), (84, .ireturn, 1), (85, .bipush (-2), 2), (87, .ireturn, 1)]
theorem tdX5_count : tbX5_count.all (fun q => decide (decode cX5_count q.1 = .ok q.2)) = true := by decide +kernel
def pX5_count_0 (τ : TX)  (σ : XS) (a1_ : Int32) : Int32 := if a1_ = 0 then σ.2.1.1 4 else if a1_ = 1 then fX4_countUp σ.2.1  else if a1_ = 2 then σ.2.1.1 6 else if a1_ = 3 then σ.1.1 6 else if a1_ = 4 then σ.2.2.2.2.1.1 0 else if a1_ = 5 then σ.2.1.1 7 else (-2)
def oX5_count_0 (τ : TX)  (σ : XS) (a1_ : Int32) : Prop := (a1_ = 0 → True) ∧ (¬ a1_ = 0 → (a1_ = 1 → gX4_countUp σ.2.1 ) ∧ (¬ a1_ = 1 → True))
set_option maxHeartbeats 4000000 in
set_option maxRecDepth 100000 in
theorem wX5_count_0 {X : CX} {cy : Nat → ClassId} {q : Nat → Nat} {qn : Nat → Nat} {qt : Nat → Nat} {qk : Nat → Nat} {qr : Nat → Nat} {qs : Nat → Nat → Nat} {a : Nat} {τ : TX} {D : va_G} {A : Nat → Prop} {res : Int32} (σ : XS) (a1_ : Int32) (C : Cx X cX5_count RX5 2 D (gty cy) A 2 0 0) (hR : Rt X (some .int) D (gty cy) A 0 0 (eI (wX5 cy q qn qt qk qr qs a τ σ) res))  (ok : oX5_count_0 τ  σ a1_) (h : pX5_count_0 τ  σ a1_ = res) : At X D A 2 0 0 0 [(0, .ref (q 8)), (1, .int a1_)] [] (wX5 cy q qn qt qk qr qs a τ σ) := by
  unfold pX5_count_0 at h
  unfold oX5_count_0 at ok
  refine r_iload_n C 1 (dall tdX5_count 0 rfl) rfl ?_
  by_cases e1_0 : a1_ = 0
  · have h := (if_pos e1_0).symm.trans h
    have ok := ok.1 e1_0
    refine r_tsIn (off := 39) (tgt := 40) C 0 (dall tdX5_count 1 rfl) e1_0 (by decide) (by decide) (by decide) (by decide) ?_
    refine r_aload_n C 0 (dall tdX5_count 2 rfl) rfl ?_
    refine r_get C 0 kw_X5 rfl rfl (by decide) kf_X5_20 rfl rfl (dall tdX5_count 3 rfl) ?_
    refine r_get C 1 kw_X4 rfl rfl (by decide) kf_X5_78 rfl rfl (dall tdX5_count 4 rfl) ?_
    exact r_iret C hR (dall tdX5_count 5 rfl) (by subst h; exact ⟨rfl, rfl⟩)
  · have h := (if_neg e1_0).symm.trans h
    have ok := ok.2 e1_0
    by_cases e1_1 : a1_ = 1
    · have h := (if_pos e1_1).symm.trans h
      have ok := ok.1 e1_1
      refine r_tsIn (off := 47) (tgt := 48) C 1 (dall tdX5_count 1 rfl) e1_1 (by decide) (by decide) (by decide) (by decide) ?_
      refine r_aload_n C 0 (dall tdX5_count 6 rfl) rfl ?_
      refine r_get C 0 kw_X5 rfl rfl (by decide) kf_X5_20 rfl rfl (dall tdX5_count 7 rfl) ?_
      have o1 := ok
      refine rcN_I0 (as := []) C (zX4_countUp cy (va_up qn 9 a) (tw cy a τ) σ.2.1  o1) mv_X4_countUp km_X5_157 (by decide) (by decide) ⟨Nat.le_refl _, Nat.le_refl _⟩ rfl rfl (Nat.le_of_ble_eq_true rfl) (dall tdX5_count 8 rfl) ?_
      exact r_iret C hR (dall tdX5_count 9 rfl) (by subst h; exact ⟨rfl, rfl⟩)
    · have h := (if_neg e1_1).symm.trans h
      have ok := ok.2 e1_1
      by_cases e1_2 : a1_ = 2
      · have h := (if_pos e1_2).symm.trans h
        refine r_tsIn (off := 55) (tgt := 56) C 2 (dall tdX5_count 1 rfl) e1_2 (by decide) (by decide) (by decide) (by decide) ?_
        refine r_aload_n C 0 (dall tdX5_count 10 rfl) rfl ?_
        refine r_get C 0 kw_X5 rfl rfl (by decide) kf_X5_20 rfl rfl (dall tdX5_count 11 rfl) ?_
        refine r_get C 1 kw_X4 rfl rfl (by decide) kf_X5_170 rfl rfl (dall tdX5_count 12 rfl) ?_
        exact r_iret C hR (dall tdX5_count 13 rfl) (by subst h; exact ⟨rfl, rfl⟩)
      · have h := (if_neg e1_2).symm.trans h
        by_cases e1_3 : a1_ = 3
        · have h := (if_pos e1_3).symm.trans h
          refine r_tsIn (off := 63) (tgt := 64) C 3 (dall tdX5_count 1 rfl) e1_3 (by decide) (by decide) (by decide) (by decide) ?_
          refine r_aload_n C 0 (dall tdX5_count 14 rfl) rfl ?_
          refine r_get C 0 kw_X5 rfl rfl (by decide) kf_X5_46 rfl rfl (dall tdX5_count 15 rfl) ?_
          exact r_iret C hR (dall tdX5_count 16 rfl) (by subst h; exact ⟨rfl, rfl⟩)
        · have h := (if_neg e1_3).symm.trans h
          by_cases e1_4 : a1_ = 4
          · have h := (if_pos e1_4).symm.trans h
            refine r_tsIn (off := 68) (tgt := 69) C 4 (dall tdX5_count 1 rfl) e1_4 (by decide) (by decide) (by decide) (by decide) ?_
            refine r_aload_n C 0 (dall tdX5_count 17 rfl) rfl ?_
            refine r_get C 0 kw_X5 rfl rfl (by decide) kf_X5_33 rfl rfl (dall tdX5_count 18 rfl) ?_
            refine r_get C 22 kw_X0 rfl rfl (by decide) kf_X5_227 rfl rfl (dall tdX5_count 19 rfl) ?_
            exact r_iret C hR (dall tdX5_count 20 rfl) (by subst h; exact ⟨rfl, rfl⟩)
          · have h := (if_neg e1_4).symm.trans h
            by_cases e1_5 : a1_ = 5
            · have h := (if_pos e1_5).symm.trans h
              refine r_tsIn (off := 76) (tgt := 77) C 5 (dall tdX5_count 1 rfl) e1_5 (by decide) (by decide) (by decide) (by decide) ?_
              refine r_aload_n C 0 (dall tdX5_count 21 rfl) rfl ?_
              refine r_get C 0 kw_X5 rfl rfl (by decide) kf_X5_20 rfl rfl (dall tdX5_count 22 rfl) ?_
              refine r_get C 1 kw_X4 rfl rfl (by decide) kf_X5_128 rfl rfl (dall tdX5_count 23 rfl) ?_
              exact r_iret C hR (dall tdX5_count 24 rfl) (by subst h; exact ⟨rfl, rfl⟩)
            · have h := (if_neg e1_5).symm.trans h
              refine r_tsOut (tgt := 85) C (dall tdX5_count 1 rfl) (by have n0 := ne_toInt e1_0; rw [show (0 : Int32).toInt = 0 from by decide] at n0; have n1 := ne_toInt e1_1; rw [show (1 : Int32).toInt = 1 from by decide] at n1; have n2 := ne_toInt e1_2; rw [show (2 : Int32).toInt = 2 from by decide] at n2; have n3 := ne_toInt e1_3; rw [show (3 : Int32).toInt = 3 from by decide] at n3; have n4 := ne_toInt e1_4; rw [show (4 : Int32).toInt = 4 from by decide] at n4; have n5 := ne_toInt e1_5; rw [show (5 : Int32).toInt = 5 from by decide] at n5; omega) (by decide) ?_
              refine r_bipush (v := -2) C (dall tdX5_count 25 rfl) (by decide) ?_
              exact r_iret C hR (dall tdX5_count 26 rfl) (by subst h; exact ⟨rfl, rfl⟩)
def fX5_count (τ : TX) (σ : XS) (a1_ : Int32) : Int32 := pX5_count_0 τ  σ a1_
def gX5_count (τ : TX) (σ : XS) (a1_ : Int32) : Prop := oX5_count_0 τ  σ a1_
set_option maxRecDepth 100000 in
theorem zX5_count (cy : Nat → ClassId) (q : Nat → Nat) (qn : Nat → Nat) (qt : Nat → Nat) (qk : Nat → Nat) (qr : Nat → Nat) (qs : Nat → Nat → Nat) (a : Nat) (τ : TX)  {D : va_G} (σ : XS) (a1_ : Int32) (ok : gX5_count τ σ a1_)  : Con yX5_count cX5_count 2 (some .int) 2 0 0 D (gty cy) [.ref (q 8), .int a1_] (wX5 cy q qn qt qk qr qs a τ σ) (eI (wX5 cy q qn qt qk qr qs a τ σ) (fX5_count τ σ a1_)) :=
  Con.of (own := RX5) (by decide +kernel) rfl (Nat.le_of_ble_eq_true rfl) (Nat.zero_le _) (fun X A C hR _ => (wX5_count_0 σ a1_ C hR  ok rfl))
theorem mv_X5_count : MV yX5_count cX5_count 2 (some .int) RX5 1 := ⟨ki_X5_count, kv_X5_count, kn_X5, kc_X5_count, by decide +kernel⟩
def tbX5_sheet : List (Nat × Instr × Nat) := [(0, .iload_n 1, 1), (1, .invokestatic 197, 3), (4, .ifCond .eq 13, 3), (7, .iload_n 2, 1), (8, .iconst (-1), 1), (9, .if_icmp .lt 8, 3), (12, .iload_n 2, 1), (13, .iconst 3, 1), (14, .if_icmp .lt 6, 3), (17, .bipush (-2), 2), (19, .ireturn, 1), (20, .iload_n 2, 1), (21, .iconst (-1), 1), (22, .if_icmp .ne 16, 3), (25, .aload_n 0, 1), (26, .getfield 39, 3), (29, .iload_n 1, 1), (30, .aaload, 1), (31, .iconst (-1), 1), (32, .iconst 0, 1), (33, .invokevirtual 214, 3), (36, .iconst 1, 1), (37, .ireturn, 1), (38, .iload_n 3, 1), (39, .bipush 40, 2), (41, .if_icmp .le 6, 3), (44, .bipush (-2), 2), (46, .ireturn, 1), (47, .iload_n 3, 1), (48, .ifCond .ge 6, 3), (51, .bipush (-14), 2), (53, .ireturn, 1), (54, .aload_n 0, 1), (55, .getfield 39, 3), (58, .iload_n 1, 1), (59, .aaload, 1), (60, .iload_n 2, 1), (61, .iload_n 3, 1), (62, .invokevirtual 214, 3), (65, .iconst 1, 1), (66, .ireturn, 1)]
theorem tdX5_sheet : tbX5_sheet.all (fun q => decide (decode cX5_sheet q.1 = .ok q.2)) = true := by decide +kernel
def pX5_sheet_65 (τ : TX) (si : Nat)  (σ : XS) : Int32 × XS := (1, σ)
set_option maxHeartbeats 4000000 in
set_option maxRecDepth 100000 in
theorem wX5_sheet_65 {X : CX} {cy : Nat → ClassId} {q : Nat → Nat} {qn : Nat → Nat} {qt : Nat → Nat} {qk : Nat → Nat} {qr : Nat → Nat} {qs : Nat → Nat → Nat} {a : Nat} {τ : TX} {si : Nat} {D : va_G} {A : Nat → Prop} {res : Int32 × XS} (σ : XS) (C : Cx X cX5_sheet RX5 4 D (gty cy) A 2 0 0) (hR : Rt X (some .int) D (gty cy) A 0 0 (eI (wX5 cy q qn qt qk qr qs a τ res.2) res.1))  (h : pX5_sheet_65 τ si  σ = res) : At X D A 4 0 0 65 [] [] (wX5 cy q qn qt qk qr qs a τ σ) := by
  unfold pX5_sheet_65 at h
  refine r_iconst (v := 1) C (dall tdX5_sheet 39 rfl) (by decide) ?_
  exact r_iret C hR (dall tdX5_sheet 40 rfl) (by subst h; exact ⟨rfl, rfl⟩)
def pX5_sheet_36 (τ : TX) (si : Nat)  (σ : XS) : Int32 × XS := (1, σ)
set_option maxHeartbeats 4000000 in
set_option maxRecDepth 100000 in
theorem wX5_sheet_36 {X : CX} {cy : Nat → ClassId} {q : Nat → Nat} {qn : Nat → Nat} {qt : Nat → Nat} {qk : Nat → Nat} {qr : Nat → Nat} {qs : Nat → Nat → Nat} {a : Nat} {τ : TX} {si : Nat} {D : va_G} {A : Nat → Prop} {res : Int32 × XS} (σ : XS) (C : Cx X cX5_sheet RX5 4 D (gty cy) A 2 0 0) (hR : Rt X (some .int) D (gty cy) A 0 0 (eI (wX5 cy q qn qt qk qr qs a τ res.2) res.1))  (h : pX5_sheet_36 τ si  σ = res) : At X D A 4 0 0 36 [] [] (wX5 cy q qn qt qk qr qs a τ σ) := by
  unfold pX5_sheet_36 at h
  refine r_iconst (v := 1) C (dall tdX5_sheet 21 rfl) (by decide) ?_
  exact r_iret C hR (dall tdX5_sheet 22 rfl) (by subst h; exact ⟨rfl, rfl⟩)
def pX5_sheet_0 (τ : TX) (si : Nat)  (σ : XS) (a1_ : Int32) (a2_ : Int32) (a3_ : Int32) : Int32 × XS := if (fX5_isSheet a1_) = 0 then ((-2), σ) else if a2_ < (-1) then ((-2), σ) else if a2_ < 3 then if a2_ = (-1) then pX5_sheet_36 τ si  (xS σ si (fX1_become (σ.2.2.2.2.2 si) (-1) 0)) else if a3_ ≤ 40 then if 0 ≤ a3_ then pX5_sheet_65 τ si  (xS σ si (fX1_become (σ.2.2.2.2.2 si) a2_ a3_)) else ((-14), σ) else ((-2), σ) else ((-2), σ)
def oX5_sheet_0 (τ : TX) (si : Nat)  (σ : XS) (a1_ : Int32) (a2_ : Int32) (a3_ : Int32) : Prop := (gX5_isSheet a1_) ∧ (((fX5_isSheet a1_) = 0 → True) ∧ (¬ ((fX5_isSheet a1_) = 0) → (a2_ < (-1) → True) ∧ (¬ (a2_ < (-1)) → (a2_ < 3 → (a2_ = (-1) → (vp_in a1_ 4) ∧ ((a1_.toNatClampNeg = si) ∧ ((si < 4) ∧ (gX1_become (σ.2.2.2.2.2 si) (-1) 0)))) ∧ (¬ (a2_ = (-1)) → (a3_ ≤ 40 → (0 ≤ a3_ → (vp_in a1_ 4) ∧ ((a1_.toNatClampNeg = si) ∧ ((si < 4) ∧ (gX1_become (σ.2.2.2.2.2 si) a2_ a3_)))) ∧ (¬ (0 ≤ a3_) → True)) ∧ (¬ (a3_ ≤ 40) → True))) ∧ (¬ (a2_ < 3) → True))))
set_option maxHeartbeats 4000000 in
set_option maxRecDepth 100000 in
theorem wX5_sheet_0 {X : CX} {cy : Nat → ClassId} {q : Nat → Nat} {qn : Nat → Nat} {qt : Nat → Nat} {qk : Nat → Nat} {qr : Nat → Nat} {qs : Nat → Nat → Nat} {a : Nat} {τ : TX} {si : Nat} {D : va_G} {A : Nat → Prop} {res : Int32 × XS} (σ : XS) (a1_ : Int32) (a2_ : Int32) (a3_ : Int32) (C : Cx X cX5_sheet RX5 4 D (gty cy) A 2 0 0) (hR : Rt X (some .int) D (gty cy) A 0 0 (eI (wX5 cy q qn qt qk qr qs a τ res.2) res.1))  (ok : oX5_sheet_0 τ si  σ a1_ a2_ a3_) (h : pX5_sheet_0 τ si  σ a1_ a2_ a3_ = res) : At X D A 4 0 0 0 [(0, .ref (q 8)), (1, .int a1_), (2, .int a2_), (3, .int a3_)] [] (wX5 cy q qn qt qk qr qs a τ σ) := by
  unfold pX5_sheet_0 at h
  unfold oX5_sheet_0 at ok
  refine r_iload_n C 1 (dall tdX5_sheet 0 rfl) rfl ?_
  obtain ⟨o1, ok⟩ := ok
  refine r_s0I (as := [.int a1_]) C (zX5_isSheet a1_ o1) ms_X5_isSheet km_X5_197 (by decide) (by decide) ⟨Nat.le_refl _, Nat.le_refl _⟩ rfl rfl (Nat.le_of_ble_eq_true rfl) (dall tdX5_sheet 1 rfl) ?_
  refine r_if_eq (tgt := 17) C (dall tdX5_sheet 2 rfl) (by decide) (fun c2 => ?_) (fun c2 => ?_)
  · have h := (if_pos c2).symm.trans h
    have ok := ok.1 c2
    refine r_bipush (v := -2) C (dall tdX5_sheet 9 rfl) (by decide) ?_
    exact r_iret C hR (dall tdX5_sheet 10 rfl) (by subst h; exact ⟨rfl, rfl⟩)
  · have h := (if_neg c2).symm.trans h
    have ok := ok.2 c2
    refine r_iload_n C 2 (dall tdX5_sheet 3 rfl) rfl ?_
    refine r_iconst (v := -1) C (dall tdX5_sheet 4 rfl) (by decide) ?_
    refine r_icmp_lt (tgt := 17) C (dall tdX5_sheet 5 rfl) (by decide) (fun c3 => ?_) (fun c3 => ?_)
    · have h := (if_pos c3).symm.trans h
      have ok := ok.1 c3
      refine r_bipush (v := -2) C (dall tdX5_sheet 9 rfl) (by decide) ?_
      exact r_iret C hR (dall tdX5_sheet 10 rfl) (by subst h; exact ⟨rfl, rfl⟩)
    · have h := (if_neg c3).symm.trans h
      have ok := ok.2 c3
      refine r_iload_n C 2 (dall tdX5_sheet 6 rfl) rfl ?_
      refine r_iconst (v := 3) C (dall tdX5_sheet 7 rfl) (by decide) ?_
      refine r_icmp_lt (tgt := 20) C (dall tdX5_sheet 8 rfl) (by decide) (fun c4 => ?_) (fun c4 => ?_)
      · have h := (if_pos c4).symm.trans h
        have ok := ok.1 c4
        refine r_iload_n C 2 (dall tdX5_sheet 11 rfl) rfl ?_
        refine r_iconst (v := -1) C (dall tdX5_sheet 12 rfl) (by decide) ?_
        refine r_icmp_ne (tgt := 38) C (dall tdX5_sheet 13 rfl) (by decide) (fun c5 => ?_) (fun c5 => ?_)
        · have h := (if_neg c5).symm.trans h
          have ok := ok.2 c5
          refine r_iload_n C 3 (dall tdX5_sheet 23 rfl) rfl ?_
          refine r_bipush (v := 40) C (dall tdX5_sheet 24 rfl) (by decide) ?_
          refine r_icmp_le (tgt := 47) C (dall tdX5_sheet 25 rfl) (by decide) (fun c6 => ?_) (fun c6 => ?_)
          · have h := (if_pos c6).symm.trans h
            have ok := ok.1 c6
            refine r_iload_n C 3 (dall tdX5_sheet 28 rfl) rfl ?_
            refine r_if_ge (tgt := 54) C (dall tdX5_sheet 29 rfl) (by decide) (fun c7 => ?_) (fun c7 => ?_)
            · have h := (if_pos c7).symm.trans h
              have ok := ok.1 c7
              refine r_aload_n C 0 (dall tdX5_sheet 32 rfl) rfl ?_
              refine r_get C 0 kw_X5 rfl rfl (by decide) kf_X5_39 rfl rfl (dall tdX5_sheet 33 rfl) ?_
              refine r_iload_n C 1 (dall tdX5_sheet 34 rfl) rfl ?_
              obtain ⟨o8, ok⟩ := ok
              obtain ⟨o9, ok⟩ := ok
              refine r_shs C o8 o9 (dall tdX5_sheet 35 rfl) ?_
              refine r_iload_n C 2 (dall tdX5_sheet 36 rfl) rfl ?_
              refine r_iload_n C 3 (dall tdX5_sheet 37 rfl) rfl ?_
              obtain ⟨o10, ok⟩ := ok
              have o11 := ok
              refine rcS_V (as := [.int a2_, .int a3_]) C o10 (zX1_become cy (qs si) (σ.2.2.2.2.2 si) a2_ a3_ o11) mv_X1_become km_X5_214 (by decide) (by decide) ⟨Nat.le_refl _, Nat.le_refl _⟩ rfl rfl (Nat.le_of_ble_eq_true rfl) (dall tdX5_sheet 38 rfl) ?_
              refine r_pick [] rfl ?_
              exact wX5_sheet_65 (xS σ si (fX1_become (σ.2.2.2.2.2 si) a2_ a3_)) C hR  h
            · have h := (if_neg c7).symm.trans h
              have ok := ok.2 c7
              refine r_bipush (v := -14) C (dall tdX5_sheet 30 rfl) (by decide) ?_
              exact r_iret C hR (dall tdX5_sheet 31 rfl) (by subst h; exact ⟨rfl, rfl⟩)
          · have h := (if_neg c6).symm.trans h
            have ok := ok.2 c6
            refine r_bipush (v := -2) C (dall tdX5_sheet 26 rfl) (by decide) ?_
            exact r_iret C hR (dall tdX5_sheet 27 rfl) (by subst h; exact ⟨rfl, rfl⟩)
        · have h := (if_pos c5).symm.trans h
          have ok := ok.1 c5
          refine r_aload_n C 0 (dall tdX5_sheet 14 rfl) rfl ?_
          refine r_get C 0 kw_X5 rfl rfl (by decide) kf_X5_39 rfl rfl (dall tdX5_sheet 15 rfl) ?_
          refine r_iload_n C 1 (dall tdX5_sheet 16 rfl) rfl ?_
          obtain ⟨o12, ok⟩ := ok
          obtain ⟨o13, ok⟩ := ok
          refine r_shs C o12 o13 (dall tdX5_sheet 17 rfl) ?_
          refine r_iconst (v := -1) C (dall tdX5_sheet 18 rfl) (by decide) ?_
          refine r_iconst (v := 0) C (dall tdX5_sheet 19 rfl) (by decide) ?_
          obtain ⟨o14, ok⟩ := ok
          have o15 := ok
          refine rcS_V (as := [.int (-1), .int 0]) C o14 (zX1_become cy (qs si) (σ.2.2.2.2.2 si) (-1) 0 o15) mv_X1_become km_X5_214 (by decide) (by decide) ⟨Nat.le_refl _, Nat.le_refl _⟩ rfl rfl (Nat.le_of_ble_eq_true rfl) (dall tdX5_sheet 20 rfl) ?_
          refine r_pick [] rfl ?_
          exact wX5_sheet_36 (xS σ si (fX1_become (σ.2.2.2.2.2 si) (-1) 0)) C hR  h
      · have h := (if_neg c4).symm.trans h
        have ok := ok.2 c4
        refine r_bipush (v := -2) C (dall tdX5_sheet 9 rfl) (by decide) ?_
        exact r_iret C hR (dall tdX5_sheet 10 rfl) (by subst h; exact ⟨rfl, rfl⟩)
def fX5_sheet (τ : TX) (si : Nat) (σ : XS) (a1_ : Int32) (a2_ : Int32) (a3_ : Int32) : Int32 × XS := pX5_sheet_0 τ si  σ a1_ a2_ a3_
def gX5_sheet (τ : TX) (si : Nat) (σ : XS) (a1_ : Int32) (a2_ : Int32) (a3_ : Int32) : Prop := oX5_sheet_0 τ si  σ a1_ a2_ a3_
set_option maxRecDepth 100000 in
theorem zX5_sheet (cy : Nat → ClassId) (q : Nat → Nat) (qn : Nat → Nat) (qt : Nat → Nat) (qk : Nat → Nat) (qr : Nat → Nat) (qs : Nat → Nat → Nat) (a : Nat) (τ : TX) (si : Nat)  {D : va_G} (σ : XS) (a1_ : Int32) (a2_ : Int32) (a3_ : Int32) (ok : gX5_sheet τ si σ a1_ a2_ a3_)  : Con yX5_sheet cX5_sheet 4 (some .int) 2 0 0 D (gty cy) [.ref (q 8), .int a1_, .int a2_, .int a3_] (wX5 cy q qn qt qk qr qs a τ σ) (eI (wX5 cy q qn qt qk qr qs a τ (fX5_sheet τ si σ a1_ a2_ a3_).2) (fX5_sheet τ si σ a1_ a2_ a3_).1) :=
  Con.of (own := RX5) (by decide +kernel) rfl (Nat.le_of_ble_eq_true rfl) (Nat.zero_le _) (fun X A C hR _ => (wX5_sheet_0 σ a1_ a2_ a3_ C hR  ok rfl))
theorem mv_X5_sheet : MV yX5_sheet cX5_sheet 4 (some .int) RX5 3 := ⟨ki_X5_sheet, kv_X5_sheet, kn_X5, kc_X5_sheet, by decide +kernel⟩
def tbX5_cell : List (Nat × Instr × Nat) := [(0, .iload_n 1, 1), (1, .invokestatic 197, 3), (4, .ifCond .ne 6, 3), (7, .bipush (-2), 2), (9, .ireturn, 1), (10, .aload_n 0, 1), (11, .getfield 39, 3), (14, .iload_n 1, 1), (15, .aaload, 1), (16, .astore 4, 2), (18, .aload 4, 2), (20, .invokevirtual 200, 3), (23, .ifCond .eq 6, 3), (26, .bipush (-11), 2), (28, .ireturn, 1), (29, .iload_n 2, 1), (30, .ifCond .lt 12, 3), (33, .iload_n 2, 1), (34, .aload 4, 2), (36, .getfield 203, 3), (39, .if_icmp .lt 6, 3), (42, .bipush (-12), 2), (44, .ireturn, 1), (45, .aload 4, 2), (47, .iload_n 2, 1), (48, .iload_n 3, 1), (49, .invokevirtual 217, 3), (52, .iconst 1, 1), (53, .ireturn, 1)]
theorem tdX5_cell : tbX5_cell.all (fun q => decide (decode cX5_cell q.1 = .ok q.2)) = true := by decide +kernel
def pX5_cell_52 (τ : TX) (si : Nat)  (σ : XS) : Int32 × XS := (1, σ)
set_option maxHeartbeats 4000000 in
set_option maxRecDepth 100000 in
theorem wX5_cell_52 {X : CX} {cy : Nat → ClassId} {q : Nat → Nat} {qn : Nat → Nat} {qt : Nat → Nat} {qk : Nat → Nat} {qr : Nat → Nat} {qs : Nat → Nat → Nat} {a : Nat} {τ : TX} {si : Nat} {D : va_G} {A : Nat → Prop} {res : Int32 × XS} (σ : XS) (C : Cx X cX5_cell RX5 5 D (gty cy) A 2 0 0) (hR : Rt X (some .int) D (gty cy) A 0 0 (eI (wX5 cy q qn qt qk qr qs a τ res.2) res.1))  (h : pX5_cell_52 τ si  σ = res) : At X D A 5 0 0 52 [] [] (wX5 cy q qn qt qk qr qs a τ σ) := by
  unfold pX5_cell_52 at h
  refine r_iconst (v := 1) C (dall tdX5_cell 27 rfl) (by decide) ?_
  exact r_iret C hR (dall tdX5_cell 28 rfl) (by subst h; exact ⟨rfl, rfl⟩)
def pX5_cell_0 (τ : TX) (si : Nat)  (σ : XS) (a1_ : Int32) (a2_ : Int32) (a3_ : Int32) : Int32 × XS := if (fX5_isSheet a1_) = 0 then ((-2), σ) else if (fX1_isMissing (σ.2.2.2.2.2 si)) = 0 then if a2_ < 0 then ((-12), σ) else if a2_ < ((σ.2.2.2.2.2 si).1 2) then pX5_cell_52 τ si  (xS σ si (fX1_put (σ.2.2.2.2.2 si) a2_ a3_)) else ((-12), σ) else ((-11), σ)
def oX5_cell_0 (τ : TX) (si : Nat)  (σ : XS) (a1_ : Int32) (a2_ : Int32) (a3_ : Int32) : Prop := (gX5_isSheet a1_) ∧ (((fX5_isSheet a1_) = 0 → True) ∧ (¬ ((fX5_isSheet a1_) = 0) → (vp_in a1_ 4) ∧ ((a1_.toNatClampNeg = si) ∧ ((si < 4) ∧ (((fX1_isMissing (σ.2.2.2.2.2 si)) = 0 → (a2_ < 0 → True) ∧ (¬ (a2_ < 0) → (si < 4) ∧ ((a2_ < ((σ.2.2.2.2.2 si).1 2) → (si < 4) ∧ (gX1_put (σ.2.2.2.2.2 si) a2_ a3_)) ∧ (¬ (a2_ < ((σ.2.2.2.2.2 si).1 2)) → True)))) ∧ (¬ ((fX1_isMissing (σ.2.2.2.2.2 si)) = 0) → True))))))
set_option maxHeartbeats 4000000 in
set_option maxRecDepth 100000 in
theorem wX5_cell_0 {X : CX} {cy : Nat → ClassId} {q : Nat → Nat} {qn : Nat → Nat} {qt : Nat → Nat} {qk : Nat → Nat} {qr : Nat → Nat} {qs : Nat → Nat → Nat} {a : Nat} {τ : TX} {si : Nat} {D : va_G} {A : Nat → Prop} {res : Int32 × XS} (σ : XS) (a1_ : Int32) (a2_ : Int32) (a3_ : Int32) (C : Cx X cX5_cell RX5 5 D (gty cy) A 2 0 0) (hR : Rt X (some .int) D (gty cy) A 0 0 (eI (wX5 cy q qn qt qk qr qs a τ res.2) res.1))  (ok : oX5_cell_0 τ si  σ a1_ a2_ a3_) (h : pX5_cell_0 τ si  σ a1_ a2_ a3_ = res) : At X D A 5 0 0 0 [(0, .ref (q 8)), (1, .int a1_), (2, .int a2_), (3, .int a3_)] [] (wX5 cy q qn qt qk qr qs a τ σ) := by
  unfold pX5_cell_0 at h
  unfold oX5_cell_0 at ok
  refine r_iload_n C 1 (dall tdX5_cell 0 rfl) rfl ?_
  obtain ⟨o1, ok⟩ := ok
  refine r_s0I (as := [.int a1_]) C (zX5_isSheet a1_ o1) ms_X5_isSheet km_X5_197 (by decide) (by decide) ⟨Nat.le_refl _, Nat.le_refl _⟩ rfl rfl (Nat.le_of_ble_eq_true rfl) (dall tdX5_cell 1 rfl) ?_
  refine r_if_ne (tgt := 10) C (dall tdX5_cell 2 rfl) (by decide) (fun c2 => ?_) (fun c2 => ?_)
  · have h := (if_neg c2).symm.trans h
    have ok := ok.2 c2
    refine r_aload_n C 0 (dall tdX5_cell 5 rfl) rfl ?_
    refine r_get C 0 kw_X5 rfl rfl (by decide) kf_X5_39 rfl rfl (dall tdX5_cell 6 rfl) ?_
    refine r_iload_n C 1 (dall tdX5_cell 7 rfl) rfl ?_
    obtain ⟨o3, ok⟩ := ok
    obtain ⟨o4, ok⟩ := ok
    refine r_shs C o3 o4 (dall tdX5_cell 8 rfl) ?_
    refine r_astore (lv' := [(4, .ref (qs si 3)), (0, .ref (q 8)), (1, .int a1_), (2, .int a2_), (3, .int a3_)]) C (dall tdX5_cell 9 rfl) (by decide) rfl ?_
    refine r_aload C 0 (dall tdX5_cell 10 rfl) rfl ?_
    obtain ⟨o5, ok⟩ := ok
    refine rcS_I0 (as := []) C o5 (zX1_isMissing cy (qs si) (σ.2.2.2.2.2 si)  ) mv_X1_isMissing km_X5_200 (by decide) (by decide) ⟨Nat.le_refl _, Nat.le_refl _⟩ rfl rfl (Nat.le_of_ble_eq_true rfl) (dall tdX5_cell 11 rfl) ?_
    refine r_if_eq (tgt := 29) C (dall tdX5_cell 12 rfl) (by decide) (fun c6 => ?_) (fun c6 => ?_)
    · have h := (if_pos c6).symm.trans h
      have ok := ok.1 c6
      refine r_iload_n C 3 (dall tdX5_cell 15 rfl) rfl ?_
      refine r_if_lt (tgt := 42) C (dall tdX5_cell 16 rfl) (by decide) (fun c7 => ?_) (fun c7 => ?_)
      · have h := (if_pos c7).symm.trans h
        have ok := ok.1 c7
        refine r_bipush (v := -12) C (dall tdX5_cell 21 rfl) (by decide) ?_
        exact r_iret C hR (dall tdX5_cell 22 rfl) (by subst h; exact ⟨rfl, rfl⟩)
      · have h := (if_neg c7).symm.trans h
        have ok := ok.2 c7
        refine r_iload_n C 3 (dall tdX5_cell 17 rfl) rfl ?_
        refine r_aload C 0 (dall tdX5_cell 18 rfl) rfl ?_
        obtain ⟨o8, ok⟩ := ok
        refine r_get C (27 + 2 * si) kw_X1 (sh_obj o8) rfl (by decide) kf_X5_203 rfl rfl (dall tdX5_cell 19 rfl) ?_
        refine r_icmp_lt (tgt := 45) C (dall tdX5_cell 20 rfl) (by decide) (fun c9 => ?_) (fun c9 => ?_)
        · have h := (if_pos c9).symm.trans h
          have ok := ok.1 c9
          refine r_aload C 0 (dall tdX5_cell 23 rfl) rfl ?_
          refine r_iload_n C 3 (dall tdX5_cell 24 rfl) rfl ?_
          refine r_iload_n C 4 (dall tdX5_cell 25 rfl) rfl ?_
          obtain ⟨o10, ok⟩ := ok
          have o11 := ok
          refine rcS_V (as := [.int a2_, .int a3_]) C o10 (zX1_put cy (qs si) (σ.2.2.2.2.2 si) a2_ a3_ o11) mv_X1_put km_X5_217 (by decide) (by decide) ⟨Nat.le_refl _, Nat.le_refl _⟩ rfl rfl (Nat.le_of_ble_eq_true rfl) (dall tdX5_cell 26 rfl) ?_
          refine r_pick [] rfl ?_
          exact wX5_cell_52 (xS σ si (fX1_put (σ.2.2.2.2.2 si) a2_ a3_)) C hR  h
        · have h := (if_neg c9).symm.trans h
          have ok := ok.2 c9
          refine r_bipush (v := -12) C (dall tdX5_cell 21 rfl) (by decide) ?_
          exact r_iret C hR (dall tdX5_cell 22 rfl) (by subst h; exact ⟨rfl, rfl⟩)
    · have h := (if_neg c6).symm.trans h
      have ok := ok.2 c6
      refine r_bipush (v := -11) C (dall tdX5_cell 13 rfl) (by decide) ?_
      exact r_iret C hR (dall tdX5_cell 14 rfl) (by subst h; exact ⟨rfl, rfl⟩)
  · have h := (if_pos c2).symm.trans h
    have ok := ok.1 c2
    refine r_bipush (v := -2) C (dall tdX5_cell 3 rfl) (by decide) ?_
    exact r_iret C hR (dall tdX5_cell 4 rfl) (by subst h; exact ⟨rfl, rfl⟩)
def fX5_cell (τ : TX) (si : Nat) (σ : XS) (a1_ : Int32) (a2_ : Int32) (a3_ : Int32) : Int32 × XS := pX5_cell_0 τ si  σ a1_ a2_ a3_
def gX5_cell (τ : TX) (si : Nat) (σ : XS) (a1_ : Int32) (a2_ : Int32) (a3_ : Int32) : Prop := oX5_cell_0 τ si  σ a1_ a2_ a3_
set_option maxRecDepth 100000 in
theorem zX5_cell (cy : Nat → ClassId) (q : Nat → Nat) (qn : Nat → Nat) (qt : Nat → Nat) (qk : Nat → Nat) (qr : Nat → Nat) (qs : Nat → Nat → Nat) (a : Nat) (τ : TX) (si : Nat)  {D : va_G} (σ : XS) (a1_ : Int32) (a2_ : Int32) (a3_ : Int32) (ok : gX5_cell τ si σ a1_ a2_ a3_)  : Con yX5_cell cX5_cell 5 (some .int) 2 0 0 D (gty cy) [.ref (q 8), .int a1_, .int a2_, .int a3_] (wX5 cy q qn qt qk qr qs a τ σ) (eI (wX5 cy q qn qt qk qr qs a τ (fX5_cell τ si σ a1_ a2_ a3_).2) (fX5_cell τ si σ a1_ a2_ a3_).1) :=
  Con.of (own := RX5) (by decide +kernel) rfl (Nat.le_of_ble_eq_true rfl) (Nat.zero_le _) (fun X A C hR _ => (wX5_cell_0 σ a1_ a2_ a3_ C hR  ok rfl))
theorem mv_X5_cell : MV yX5_cell cX5_cell 5 (some .int) RX5 3 := ⟨ki_X5_cell, kv_X5_cell, kn_X5, kc_X5_cell, by decide +kernel⟩

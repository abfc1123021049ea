def wV (cy : Nat → ClassId) (q : Nat → Nat) (nc : Nat) (ρ σ : OS) : va_W := [(q 2, .inr (2, [.ref (q 0), .ref (q 1)])), (q 0, .inl (cy 0, nc, .inl (ρ.2.2.1 0))), (q 1, .inl (cy 0, 3, .inl (ρ.2.2.1 1))), (q 3, .inl (cy 0, 6, .inl (ρ.2.2.1 3))), (q 4, .inl (cy 0, 160, .inl (σ.2.2.1 4)))]
theorem pa_V_sk_4 (cy : Nat → ClassId) (q : Nat → Nat) (nc : Nat) (ρ σ : OS) (i : Nat) (x : Int32) : (wV cy q nc ρ σ).set 4 (q 4, .inl (cy 0, 160, .inl (upd (σ.2.2.1 4) i x))) = wV cy q nc ρ (oS σ 4 i x) := rfl
def tbX2_value : List (Nat × Instr × Nat) := [(0, .iconst 0, 1), (1, .istore 4, 2), (3, .iload_n 1, 1), (4, .ifCond .ne 7, 3), (7, .iconst 0, 1), (8, .goto 11, 3), (11, .aload_n 0, 1), (12, .getfield 13, 3), (15, .iload_n 1, 1), (16, .iconst 1, 1), (17, .isub, 1), (18, .iaload, 1), (19, .istore 5, 2), (21, .iload 5, 2), (23, .istore 6, 2), (25, .iload 6, 2), (27, .aload_n 0, 1), (28, .getfield 13, 3), (31, .iload_n 1, 1), (32, .iaload, 1), (33, .if_icmp .ge 167, 3), (36, .iload 4, 2), (38, .aload_n 3, 1), (39, .arraylength, 1), (40, .if_icmp .ge 160, 3), (43, .aload_n 0, 1), (44, .getfield 7, 3), (47, .iload 6, 2), (49, .iaload, 1), (50, .istore 7, 2), (52, .iload 7, 2), (54, .iconst (-1), 1), (55, .ixor, 1), (56, .istore 8, 2), (58, .iload 7, 2), (60, .ifCond .lt 15, 3), (63, .aload_n 3, 1), (64, .iload 4, 2), (66, .iload 7, 2), (68, .iastore, 1), (69, .iinc 4 1, 3), (72, .goto 122, 3), (75, .iload 8, 2), (77, .invokestatic 16, 3), (80, .ifCond .eq 20, 3), (83, .aload_n 3, 1), (84, .iload 4, 2), (86, .aload_n 2, 1), (87, .iload 8, 2), (89, .bipush 6, 2), (91, .isub, 1), (92, .iaload, 1), (93, .iastore, 1), (94, .iinc 4 1, 3), (97, .goto 97, 3), (100, .iload 8, 2), (102, .iconst 5, 1), (103, .if_icmp .ne 32, 3), (106, .iload 4, 2), (108, .iconst 1, 1), (109, .if_icmp .lt 26, 3), (112, .aload_n 3, 1), (113, .iload 4, 2), (115, .iconst 1, 1), (116, .isub, 1), (117, .aload_n 3, 1), (118, .iload 4, 2), (120, .iconst 1, 1), (121, .isub, 1), (122, .iaload, 1), (123, .ifCond .ne 7, 3), (126, .iconst 1, 1), (127, .goto 4, 3), (130, .iconst 0, 1), (131, .iastore, 1), (132, .goto 62, 3), (135, .iload 8, 2), (137, .bipush 23, 2), (139, .if_icmp .ne 25, 3), (142, .iload 4, 2), (144, .iconst 1, 1), (145, .if_icmp .lt 19, 3), (148, .aload_n 3, 1), (149, .iload 4, 2), (151, .iconst 1, 1), (152, .isub, 1), (153, .aload_n 3, 1), (154, .iload 4, 2), (156, .iconst 1, 1), (157, .isub, 1), (158, .iaload, 1), (159, .ineg, 1), (160, .iastore, 1), (161, .goto 33, 3), (164, .iload 4, 2), (166, .iconst 2, 1), (167, .if_icmp .lt 27, 3), (170, .iinc 4 (-1), 3), (173, .aload_n 3, 1), (174, .iload 4, 2), (176, .iconst 1, 1), (177, .isub, 1), (178, .iload 8, 2), (180, .aload_n 3, 1), (181, .iload 4, 2), (183, .iconst 1, 1), (184, .isub, 1), (185, .iaload, 1), (186, .aload_n 3, 1), (187, .iload 4, 2), (189, .iaload, 1), (190, .invokestatic 22, 3), (193, .iastore, 1), (194, .iinc 6 1, 3), (197, .goto (-172), 3), (200, .aload_n 3, 1), (201, .iconst 0, 1), (202, .iaload, 1), (203, .ireturn, 1)]
theorem tdX2_value : tbX2_value.all (fun q => decide (decode cX2_value q.1 = .ok q.2)) = true := by decide +kernel
def pX2_value_194 (nc : Nat) (ρ : OS) (kR25 : OS × Int32 × Int32 → Int32 × OS) (σ : OS) (a1_ : Int32) (a4_ : Int32) (a6_ : Int32) : Int32 × OS := kR25 (σ, a4_, a6_ + 1)
def oX2_value_194 (nc : Nat) (ρ : OS) (kO25 : OS × Int32 × Int32 → Prop) (σ : OS) (a1_ : Int32) (a4_ : Int32) (a6_ : Int32) : Prop := kO25 (σ, a4_, a6_ + 1)
set_option maxHeartbeats 4000000 in
set_option maxRecDepth 100000 in
theorem wX2_value_194 {X : CX} {cy : Nat → ClassId} {q : Nat → Nat} {nc : Nat} {ρ : OS} {D : va_G} {A : Nat → Prop} {res : Int32 × OS} (σ : OS) (a1_ : Int32) (a4_ : Int32) (a6_ : Int32) (C : Cx X cX2_value RX2 9 D (gty cy) A 1 0 0) (hR : Rt X (some .int) D (gty cy) A 0 0 (eI (wV cy q nc ρ res.2) res.1)) (kR25 : OS × Int32 × Int32 → Int32 × OS) (kO25 : OS × Int32 × Int32 → Prop) (hk25 : ∀ z, kO25 z → kR25 z = res → At X D A 9 0 0 25 [(0, .ref (q 2)), (1, .int a1_), (2, .ref (q 3)), (3, .ref (q 4)), (4, .int z.2.1), (6, .int z.2.2)] [] (wV cy q nc ρ z.1)) (ok : oX2_value_194 nc ρ kO25 σ a1_ a4_ a6_) (h : pX2_value_194 nc ρ kR25 σ a1_ a4_ a6_ = res) : At X D A 9 0 0 194 [(0, .ref (q 2)), (1, .int a1_), (2, .ref (q 3)), (3, .ref (q 4)), (4, .int a4_), (6, .int a6_)] [] (wV cy q nc ρ σ) := by
  unfold pX2_value_194 at h
  unfold oX2_value_194 at ok
  refine r_iinc (v := a6_ + 1) (lv' := [(6, .int (a6_ + 1)), (0, .ref (q 2)), (1, .int a1_), (2, .ref (q 3)), (3, .ref (q 4)), (4, .int a4_)]) C 5 (dall tdX2_value 113 rfl) rfl rfl (by decide) rfl ?_
  refine r_goto (tgt := 25) C (dall tdX2_value 114 rfl) (by decide) ?_
  refine r_pick [1, 2, 3, 4, 5, 0] rfl ?_
  exact hk25 (σ, a4_, a6_ + 1) ok h
def pX2_value_164 (nc : Nat) (ρ : OS) (kR25 : OS × Int32 × Int32 → Int32 × OS) (σ : OS) (a1_ : Int32) (a4_ : Int32) (a6_ : Int32) (a8_ : Int32) : Int32 × OS := if a4_ < 2 then pX2_value_194 nc ρ kR25 σ a1_ a4_ a6_ else pX2_value_194 nc ρ kR25 (oS σ 4 (((a4_ + (-1)) - 1).toNatClampNeg) (fX2_joined a8_ (σ.2.2.1 4 ((a4_ + (-1)) - 1).toNatClampNeg) (σ.2.2.1 4 (a4_ + (-1)).toNatClampNeg))) a1_ (a4_ + (-1)) a6_
def oX2_value_164 (nc : Nat) (ρ : OS) (kO25 : OS × Int32 × Int32 → Prop) (σ : OS) (a1_ : Int32) (a4_ : Int32) (a6_ : Int32) (a8_ : Int32) : Prop := (a4_ < 2 → oX2_value_194 nc ρ kO25 σ a1_ a4_ a6_) ∧ (¬ (a4_ < 2) → (vp_in ((a4_ + (-1)) - 1) 160) ∧ ((vp_in (a4_ + (-1)) 160) ∧ ((vp_in ((a4_ + (-1)) - 1) 160) ∧ (oX2_value_194 nc ρ kO25 (oS σ 4 (((a4_ + (-1)) - 1).toNatClampNeg) (fX2_joined a8_ (σ.2.2.1 4 ((a4_ + (-1)) - 1).toNatClampNeg) (σ.2.2.1 4 (a4_ + (-1)).toNatClampNeg))) a1_ (a4_ + (-1)) a6_))))
set_option maxHeartbeats 4000000 in
set_option maxRecDepth 100000 in
theorem wX2_value_164 {X : CX} {cy : Nat → ClassId} {q : Nat → Nat} {nc : Nat} {ρ : OS} {D : va_G} {A : Nat → Prop} {res : Int32 × OS} (σ : OS) (a1_ : Int32) (a4_ : Int32) (a6_ : Int32) (a8_ : Int32) (C : Cx X cX2_value RX2 9 D (gty cy) A 1 0 0) (hR : Rt X (some .int) D (gty cy) A 0 0 (eI (wV cy q nc ρ res.2) res.1)) (kR25 : OS × Int32 × Int32 → Int32 × OS) (kO25 : OS × Int32 × Int32 → Prop) (hk25 : ∀ z, kO25 z → kR25 z = res → At X D A 9 0 0 25 [(0, .ref (q 2)), (1, .int a1_), (2, .ref (q 3)), (3, .ref (q 4)), (4, .int z.2.1), (6, .int z.2.2)] [] (wV cy q nc ρ z.1)) (ok : oX2_value_164 nc ρ kO25 σ a1_ a4_ a6_ a8_) (h : pX2_value_164 nc ρ kR25 σ a1_ a4_ a6_ a8_ = res) : At X D A 9 0 0 164 [(0, .ref (q 2)), (1, .int a1_), (2, .ref (q 3)), (3, .ref (q 4)), (4, .int a4_), (6, .int a6_), (8, .int a8_)] [] (wV cy q nc ρ σ) := by
  unfold pX2_value_164 at h
  unfold oX2_value_164 at ok
  refine r_iload C 4 (dall tdX2_value 94 rfl) rfl ?_
  refine r_iconst (v := 2) C (dall tdX2_value 95 rfl) (by decide) ?_
  refine r_icmp_lt (tgt := 194) C (dall tdX2_value 96 rfl) (by decide) (fun c1 => ?_) (fun c1 => ?_)
  · have h := (if_pos c1).symm.trans h
    have ok := ok.1 c1
    refine r_pick [0, 1, 2, 3, 4, 5] rfl ?_
    exact wX2_value_194 σ a1_ a4_ a6_ C hR kR25 kO25 hk25 ok h
  · have h := (if_neg c1).symm.trans h
    have ok := ok.2 c1
    refine r_iinc (v := a4_ + (-1)) (lv' := [(4, .int (a4_ + (-1))), (0, .ref (q 2)), (1, .int a1_), (2, .ref (q 3)), (3, .ref (q 4)), (6, .int a6_), (8, .int a8_)]) C 4 (dall tdX2_value 97 rfl) rfl rfl (by decide) rfl ?_
    refine r_aload_n C 4 (dall tdX2_value 98 rfl) rfl ?_
    refine r_iload C 0 (dall tdX2_value 99 rfl) rfl ?_
    refine r_iconst (v := 1) C (dall tdX2_value 100 rfl) (by decide) ?_
    refine r_isub C (dall tdX2_value 101 rfl) ?_
    refine r_iload C 6 (dall tdX2_value 102 rfl) rfl ?_
    refine r_aload_n C 4 (dall tdX2_value 103 rfl) rfl ?_
    refine r_iload C 0 (dall tdX2_value 104 rfl) rfl ?_
    refine r_iconst (v := 1) C (dall tdX2_value 105 rfl) (by decide) ?_
    refine r_isub C (dall tdX2_value 106 rfl) ?_
    obtain ⟨o2, ok⟩ := ok
    refine r_iald C 4 0 rfl rfl o2 (dall tdX2_value 107 rfl) ?_
    refine r_aload_n C 4 (dall tdX2_value 108 rfl) rfl ?_
    refine r_iload C 0 (dall tdX2_value 109 rfl) rfl ?_
    obtain ⟨o3, ok⟩ := ok
    refine r_iald C 4 0 rfl rfl o3 (dall tdX2_value 110 rfl) ?_
    refine r_s0I (as := [.int a8_, .int (σ.2.2.1 4 ((a4_ + (-1)) - 1).toNatClampNeg), .int (σ.2.2.1 4 (a4_ + (-1)).toNatClampNeg)]) C (zX2_joined a8_ (σ.2.2.1 4 ((a4_ + (-1)) - 1).toNatClampNeg) (σ.2.2.1 4 (a4_ + (-1)).toNatClampNeg) ) ms_X2_joined km_X2_22 (by decide) (by decide) ⟨Nat.le_refl _, Nat.le_refl _⟩ rfl rfl (Nat.le_of_ble_eq_true rfl) (dall tdX2_value 111 rfl) ?_
    obtain ⟨o4, ok⟩ := ok
    refine r_iast C 4 0 rfl rfl o4 (pa_V_sk_4 cy q nc ρ σ (((a4_ + (-1)) - 1).toNatClampNeg) (fX2_joined a8_ (σ.2.2.1 4 ((a4_ + (-1)) - 1).toNatClampNeg) (σ.2.2.1 4 (a4_ + (-1)).toNatClampNeg))) (dall tdX2_value 112 rfl) ?_
    refine r_pick [1, 2, 3, 4, 0, 5] rfl ?_
    exact wX2_value_194 (oS σ 4 (((a4_ + (-1)) - 1).toNatClampNeg) (fX2_joined a8_ (σ.2.2.1 4 ((a4_ + (-1)) - 1).toNatClampNeg) (σ.2.2.1 4 (a4_ + (-1)).toNatClampNeg))) a1_ (a4_ + (-1)) a6_ C hR kR25 kO25 hk25 ok h
def pX2_value_135 (nc : Nat) (ρ : OS) (kR25 : OS × Int32 × Int32 → Int32 × OS) (σ : OS) (a1_ : Int32) (a4_ : Int32) (a6_ : Int32) (a8_ : Int32) : Int32 × OS := if a8_ = 23 then if a4_ < 1 then pX2_value_164 nc ρ kR25 σ a1_ a4_ a6_ a8_ else pX2_value_194 nc ρ kR25 (oS σ 4 ((a4_ - 1).toNatClampNeg) (-(σ.2.2.1 4 (a4_ - 1).toNatClampNeg))) a1_ a4_ a6_ else pX2_value_164 nc ρ kR25 σ a1_ a4_ a6_ a8_
def oX2_value_135 (nc : Nat) (ρ : OS) (kO25 : OS × Int32 × Int32 → Prop) (σ : OS) (a1_ : Int32) (a4_ : Int32) (a6_ : Int32) (a8_ : Int32) : Prop := (a8_ = 23 → (a4_ < 1 → oX2_value_164 nc ρ kO25 σ a1_ a4_ a6_ a8_) ∧ (¬ (a4_ < 1) → (vp_in (a4_ - 1) 160) ∧ ((vp_in (a4_ - 1) 160) ∧ (oX2_value_194 nc ρ kO25 (oS σ 4 ((a4_ - 1).toNatClampNeg) (-(σ.2.2.1 4 (a4_ - 1).toNatClampNeg))) a1_ a4_ a6_)))) ∧ (¬ (a8_ = 23) → oX2_value_164 nc ρ kO25 σ a1_ a4_ a6_ a8_)
set_option maxHeartbeats 4000000 in
set_option maxRecDepth 100000 in
theorem wX2_value_135 {X : CX} {cy : Nat → ClassId} {q : Nat → Nat} {nc : Nat} {ρ : OS} {D : va_G} {A : Nat → Prop} {res : Int32 × OS} (σ : OS) (a1_ : Int32) (a4_ : Int32) (a6_ : Int32) (a8_ : Int32) (C : Cx X cX2_value RX2 9 D (gty cy) A 1 0 0) (hR : Rt X (some .int) D (gty cy) A 0 0 (eI (wV cy q nc ρ res.2) res.1)) (kR25 : OS × Int32 × Int32 → Int32 × OS) (kO25 : OS × Int32 × Int32 → Prop) (hk25 : ∀ z, kO25 z → kR25 z = res → At X D A 9 0 0 25 [(0, .ref (q 2)), (1, .int a1_), (2, .ref (q 3)), (3, .ref (q 4)), (4, .int z.2.1), (6, .int z.2.2)] [] (wV cy q nc ρ z.1)) (ok : oX2_value_135 nc ρ kO25 σ a1_ a4_ a6_ a8_) (h : pX2_value_135 nc ρ kR25 σ a1_ a4_ a6_ a8_ = res) : At X D A 9 0 0 135 [(0, .ref (q 2)), (1, .int a1_), (2, .ref (q 3)), (3, .ref (q 4)), (4, .int a4_), (6, .int a6_), (8, .int a8_)] [] (wV cy q nc ρ σ) := by
  unfold pX2_value_135 at h
  unfold oX2_value_135 at ok
  refine r_iload C 6 (dall tdX2_value 76 rfl) rfl ?_
  refine r_bipush (v := 23) C (dall tdX2_value 77 rfl) (by decide) ?_
  refine r_icmp_ne (tgt := 164) C (dall tdX2_value 78 rfl) (by decide) (fun c5 => ?_) (fun c5 => ?_)
  · have h := (if_neg c5).symm.trans h
    have ok := ok.2 c5
    exact wX2_value_164 σ a1_ a4_ a6_ a8_ C hR kR25 kO25 hk25 ok h
  · have h := (if_pos c5).symm.trans h
    have ok := ok.1 c5
    refine r_iload C 4 (dall tdX2_value 79 rfl) rfl ?_
    refine r_iconst (v := 1) C (dall tdX2_value 80 rfl) (by decide) ?_
    refine r_icmp_lt (tgt := 164) C (dall tdX2_value 81 rfl) (by decide) (fun c6 => ?_) (fun c6 => ?_)
    · have h := (if_pos c6).symm.trans h
      have ok := ok.1 c6
      exact wX2_value_164 σ a1_ a4_ a6_ a8_ C hR kR25 kO25 hk25 ok h
    · have h := (if_neg c6).symm.trans h
      have ok := ok.2 c6
      refine r_aload_n C 3 (dall tdX2_value 82 rfl) rfl ?_
      refine r_iload C 4 (dall tdX2_value 83 rfl) rfl ?_
      refine r_iconst (v := 1) C (dall tdX2_value 84 rfl) (by decide) ?_
      refine r_isub C (dall tdX2_value 85 rfl) ?_
      refine r_aload_n C 3 (dall tdX2_value 86 rfl) rfl ?_
      refine r_iload C 4 (dall tdX2_value 87 rfl) rfl ?_
      refine r_iconst (v := 1) C (dall tdX2_value 88 rfl) (by decide) ?_
      refine r_isub C (dall tdX2_value 89 rfl) ?_
      obtain ⟨o7, ok⟩ := ok
      refine r_iald C 4 0 rfl rfl o7 (dall tdX2_value 90 rfl) ?_
      refine r_ineg C (dall tdX2_value 91 rfl) ?_
      obtain ⟨o8, ok⟩ := ok
      refine r_iast C 4 0 rfl rfl o8 (pa_V_sk_4 cy q nc ρ σ ((a4_ - 1).toNatClampNeg) (-(σ.2.2.1 4 (a4_ - 1).toNatClampNeg))) (dall tdX2_value 92 rfl) ?_
      refine r_goto (tgt := 194) C (dall tdX2_value 93 rfl) (by decide) ?_
      refine r_pick [0, 1, 2, 3, 4, 5] rfl ?_
      exact wX2_value_194 (oS σ 4 ((a4_ - 1).toNatClampNeg) (-(σ.2.2.1 4 (a4_ - 1).toNatClampNeg))) a1_ a4_ a6_ C hR kR25 kO25 hk25 ok h
def pX2_value_131 (nc : Nat) (ρ : OS) (kR25 : OS × Int32 × Int32 → Int32 × OS) (σ : OS) (a1_ : Int32) (a4_ : Int32) (a6_ : Int32) (b0_ : Int32) (b1_ : Int32) : Int32 × OS := pX2_value_194 nc ρ kR25 (oS σ 4 b1_.toNatClampNeg b0_) a1_ a4_ a6_
def oX2_value_131 (nc : Nat) (ρ : OS) (kO25 : OS × Int32 × Int32 → Prop) (σ : OS) (a1_ : Int32) (a4_ : Int32) (a6_ : Int32) (b0_ : Int32) (b1_ : Int32) : Prop := (vp_in b1_ 160) ∧ (oX2_value_194 nc ρ kO25 (oS σ 4 b1_.toNatClampNeg b0_) a1_ a4_ a6_)
set_option maxHeartbeats 4000000 in
set_option maxRecDepth 100000 in
theorem wX2_value_131 {X : CX} {cy : Nat → ClassId} {q : Nat → Nat} {nc : Nat} {ρ : OS} {D : va_G} {A : Nat → Prop} {res : Int32 × OS} (σ : OS) (a1_ : Int32) (a4_ : Int32) (a6_ : Int32) (b0_ : Int32) (b1_ : Int32) (C : Cx X cX2_value RX2 9 D (gty cy) A 1 0 0) (hR : Rt X (some .int) D (gty cy) A 0 0 (eI (wV cy q nc ρ res.2) res.1)) (kR25 : OS × Int32 × Int32 → Int32 × OS) (kO25 : OS × Int32 × Int32 → Prop) (hk25 : ∀ z, kO25 z → kR25 z = res → At X D A 9 0 0 25 [(0, .ref (q 2)), (1, .int a1_), (2, .ref (q 3)), (3, .ref (q 4)), (4, .int z.2.1), (6, .int z.2.2)] [] (wV cy q nc ρ z.1)) (ok : oX2_value_131 nc ρ kO25 σ a1_ a4_ a6_ b0_ b1_) (h : pX2_value_131 nc ρ kR25 σ a1_ a4_ a6_ b0_ b1_ = res) : At X D A 9 0 0 131 [(0, .ref (q 2)), (1, .int a1_), (2, .ref (q 3)), (3, .ref (q 4)), (4, .int a4_), (6, .int a6_)] [.int b0_, .int b1_, .ref (q 4)] (wV cy q nc ρ σ) := by
  unfold pX2_value_131 at h
  unfold oX2_value_131 at ok
  obtain ⟨o9, ok⟩ := ok
  refine r_iast C 4 0 rfl rfl o9 (pa_V_sk_4 cy q nc ρ σ b1_.toNatClampNeg b0_) (dall tdX2_value 74 rfl) ?_
  refine r_goto (tgt := 194) C (dall tdX2_value 75 rfl) (by decide) ?_
  exact wX2_value_194 (oS σ 4 b1_.toNatClampNeg b0_) a1_ a4_ a6_ C hR kR25 kO25 hk25 ok h
def bX2_value_25 (nc : Nat) (ρ : OS) (a1_ : Int32)  (kR25 : OS × Int32 × Int32 → Int32 × OS) (v : OS × Int32 × Int32) : Int32 × OS := if (ρ.2.2.1 1 a1_.toNatClampNeg) ≤ v.2.2 then (v.1.2.2.1 4 (0 : Int32).toNatClampNeg, v.1) else if 160 ≤ v.2.1 then (v.1.2.2.1 4 (0 : Int32).toNatClampNeg, v.1) else if (ρ.2.2.1 0 v.2.2.toNatClampNeg) < 0 then if (fX0_isName ((ρ.2.2.1 0 v.2.2.toNatClampNeg) ^^^ (-1))) = 0 then if ((ρ.2.2.1 0 v.2.2.toNatClampNeg) ^^^ (-1)) = 5 then if v.2.1 < 1 then pX2_value_135 nc ρ kR25 v.1 a1_ v.2.1 v.2.2 ((ρ.2.2.1 0 v.2.2.toNatClampNeg) ^^^ (-1)) else if (v.1.2.2.1 4 (v.2.1 - 1).toNatClampNeg) = 0 then pX2_value_131 nc ρ kR25 v.1 a1_ v.2.1 v.2.2 1 (v.2.1 - 1) else pX2_value_131 nc ρ kR25 v.1 a1_ v.2.1 v.2.2 0 (v.2.1 - 1) else pX2_value_135 nc ρ kR25 v.1 a1_ v.2.1 v.2.2 ((ρ.2.2.1 0 v.2.2.toNatClampNeg) ^^^ (-1)) else pX2_value_194 nc ρ kR25 (oS v.1 4 v.2.1.toNatClampNeg (ρ.2.2.1 3 (((ρ.2.2.1 0 v.2.2.toNatClampNeg) ^^^ (-1)) - 6).toNatClampNeg)) a1_ (v.2.1 + 1) v.2.2 else pX2_value_194 nc ρ kR25 (oS v.1 4 v.2.1.toNatClampNeg (ρ.2.2.1 0 v.2.2.toNatClampNeg)) a1_ (v.2.1 + 1) v.2.2
def kX2_value_25 (nc : Nat) (ρ : OS) (a1_ : Int32)  (kO25 : OS × Int32 × Int32 → Prop) (v : OS × Int32 × Int32) : Prop := (vp_in a1_ 3) ∧ (((ρ.2.2.1 1 a1_.toNatClampNeg) ≤ v.2.2 → vp_in 0 160) ∧ (¬ ((ρ.2.2.1 1 a1_.toNatClampNeg) ≤ v.2.2) → (160 ≤ v.2.1 → vp_in 0 160) ∧ (¬ (160 ≤ v.2.1) → (vp_in v.2.2 nc) ∧ (((ρ.2.2.1 0 v.2.2.toNatClampNeg) < 0 → ((fX0_isName ((ρ.2.2.1 0 v.2.2.toNatClampNeg) ^^^ (-1))) = 0 → (((ρ.2.2.1 0 v.2.2.toNatClampNeg) ^^^ (-1)) = 5 → (v.2.1 < 1 → oX2_value_135 nc ρ kO25 v.1 a1_ v.2.1 v.2.2 ((ρ.2.2.1 0 v.2.2.toNatClampNeg) ^^^ (-1))) ∧ (¬ (v.2.1 < 1) → (vp_in (v.2.1 - 1) 160) ∧ (((v.1.2.2.1 4 (v.2.1 - 1).toNatClampNeg) = 0 → oX2_value_131 nc ρ kO25 v.1 a1_ v.2.1 v.2.2 1 (v.2.1 - 1)) ∧ (¬ ((v.1.2.2.1 4 (v.2.1 - 1).toNatClampNeg) = 0) → oX2_value_131 nc ρ kO25 v.1 a1_ v.2.1 v.2.2 0 (v.2.1 - 1))))) ∧ (¬ (((ρ.2.2.1 0 v.2.2.toNatClampNeg) ^^^ (-1)) = 5) → oX2_value_135 nc ρ kO25 v.1 a1_ v.2.1 v.2.2 ((ρ.2.2.1 0 v.2.2.toNatClampNeg) ^^^ (-1)))) ∧ (¬ ((fX0_isName ((ρ.2.2.1 0 v.2.2.toNatClampNeg) ^^^ (-1))) = 0) → (vp_in (((ρ.2.2.1 0 v.2.2.toNatClampNeg) ^^^ (-1)) - 6) 6) ∧ ((vp_in v.2.1 160) ∧ (oX2_value_194 nc ρ kO25 (oS v.1 4 v.2.1.toNatClampNeg (ρ.2.2.1 3 (((ρ.2.2.1 0 v.2.2.toNatClampNeg) ^^^ (-1)) - 6).toNatClampNeg)) a1_ (v.2.1 + 1) v.2.2)))) ∧ (¬ ((ρ.2.2.1 0 v.2.2.toNatClampNeg) < 0) → (vp_in v.2.1 160) ∧ (oX2_value_194 nc ρ kO25 (oS v.1 4 v.2.1.toNatClampNeg (ρ.2.2.1 0 v.2.2.toNatClampNeg)) a1_ (v.2.1 + 1) v.2.2))))))
set_option maxHeartbeats 4000000 in
set_option maxRecDepth 100000 in
theorem wX2_value_25 {X : CX} {cy : Nat → ClassId} {q : Nat → Nat} {nc : Nat} {ρ : OS} {D : va_G} {A : Nat → Prop} {res : Int32 × OS} (a1_ : Int32) (C : Cx X cX2_value RX2 9 D (gty cy) A 1 0 0) (hR : Rt X (some .int) D (gty cy) A 0 0 (eI (wV cy q nc ρ res.2) res.1)) (kR25 : OS × Int32 × Int32 → Int32 × OS) (kO25 : OS × Int32 × Int32 → Prop) (hk25 : ∀ z, kO25 z → kR25 z = res → At X D A 9 0 0 25 [(0, .ref (q 2)), (1, .int a1_), (2, .ref (q 3)), (3, .ref (q 4)), (4, .int z.2.1), (6, .int z.2.2)] [] (wV cy q nc ρ z.1)) (v : OS × Int32 × Int32) (ok : kX2_value_25 nc ρ a1_ kO25 v) (h : bX2_value_25 nc ρ a1_ kR25 v = res) : At X D A 9 0 0 25 [(0, .ref (q 2)), (1, .int a1_), (2, .ref (q 3)), (3, .ref (q 4)), (4, .int v.2.1), (6, .int v.2.2)] [] (wV cy q nc ρ v.1) := by
  unfold bX2_value_25 at h
  unfold kX2_value_25 at ok
  refine r_iload C 5 (dall tdX2_value 15 rfl) rfl ?_
  refine r_aload_n C 0 (dall tdX2_value 16 rfl) rfl ?_
  refine r_get C 0 kw_X2 rfl rfl (by decide) kf_X2_13 rfl rfl (dall tdX2_value 17 rfl) ?_
  refine r_iload_n C 1 (dall tdX2_value 18 rfl) rfl ?_
  obtain ⟨o10, ok⟩ := ok
  refine r_iald C 2 0 rfl rfl o10 (dall tdX2_value 19 rfl) ?_
  refine r_icmp_ge (tgt := 200) C (dall tdX2_value 20 rfl) (by decide) (fun c11 => ?_) (fun c11 => ?_)
  · have h := (if_pos c11).symm.trans h
    have ok := ok.1 c11
    refine r_aload_n C 3 (dall tdX2_value 115 rfl) rfl ?_
    refine r_iconst (v := 0) C (dall tdX2_value 116 rfl) (by decide) ?_
    have o12 := ok
    refine r_iald C 4 0 rfl rfl o12 (dall tdX2_value 117 rfl) ?_
    exact r_iret C hR (dall tdX2_value 118 rfl) (by subst h; exact ⟨rfl, rfl⟩)
  · have h := (if_neg c11).symm.trans h
    have ok := ok.2 c11
    refine r_iload C 4 (dall tdX2_value 21 rfl) rfl ?_
    refine r_aload_n C 3 (dall tdX2_value 22 rfl) rfl ?_
    refine r_alen (v := 160) C 4 0 rfl rfl rfl (dall tdX2_value 23 rfl) ?_
    refine r_icmp_ge (tgt := 200) C (dall tdX2_value 24 rfl) (by decide) (fun c13 => ?_) (fun c13 => ?_)
    · have h := (if_pos c13).symm.trans h
      have ok := ok.1 c13
      refine r_aload_n C 3 (dall tdX2_value 115 rfl) rfl ?_
      refine r_iconst (v := 0) C (dall tdX2_value 116 rfl) (by decide) ?_
      have o14 := ok
      refine r_iald C 4 0 rfl rfl o14 (dall tdX2_value 117 rfl) ?_
      exact r_iret C hR (dall tdX2_value 118 rfl) (by subst h; exact ⟨rfl, rfl⟩)
    · have h := (if_neg c13).symm.trans h
      have ok := ok.2 c13
      refine r_aload_n C 0 (dall tdX2_value 25 rfl) rfl ?_
      refine r_get C 0 kw_X2 rfl rfl (by decide) kf_X2_7 rfl rfl (dall tdX2_value 26 rfl) ?_
      refine r_iload C 5 (dall tdX2_value 27 rfl) rfl ?_
      obtain ⟨o15, ok⟩ := ok
      refine r_iald C 1 0 rfl rfl o15 (dall tdX2_value 28 rfl) ?_
      refine r_istore (lv' := [(7, .int (ρ.2.2.1 0 v.2.2.toNatClampNeg)), (0, .ref (q 2)), (1, .int a1_), (2, .ref (q 3)), (3, .ref (q 4)), (4, .int v.2.1), (6, .int v.2.2)]) C (dall tdX2_value 29 rfl) (by decide) rfl ?_
      refine r_iload C 0 (dall tdX2_value 30 rfl) rfl ?_
      refine r_iconst (v := -1) C (dall tdX2_value 31 rfl) (by decide) ?_
      refine r_ixor C (dall tdX2_value 32 rfl) ?_
      refine r_istore (lv' := [(8, .int ((ρ.2.2.1 0 v.2.2.toNatClampNeg) ^^^ (-1))), (7, .int (ρ.2.2.1 0 v.2.2.toNatClampNeg)), (0, .ref (q 2)), (1, .int a1_), (2, .ref (q 3)), (3, .ref (q 4)), (4, .int v.2.1), (6, .int v.2.2)]) C (dall tdX2_value 33 rfl) (by decide) rfl ?_
      refine r_iload C 1 (dall tdX2_value 34 rfl) rfl ?_
      refine r_if_lt (tgt := 75) C (dall tdX2_value 35 rfl) (by decide) (fun c16 => ?_) (fun c16 => ?_)
      · have h := (if_pos c16).symm.trans h
        have ok := ok.1 c16
        refine r_iload C 0 (dall tdX2_value 42 rfl) rfl ?_
        refine r_s0I (as := [.int ((ρ.2.2.1 0 v.2.2.toNatClampNeg) ^^^ (-1))]) C (zX0_isName ((ρ.2.2.1 0 v.2.2.toNatClampNeg) ^^^ (-1)) ) ms_X0_isName km_X2_16 (by decide) (by decide) ⟨Nat.le_refl _, Nat.le_refl _⟩ rfl rfl (Nat.le_of_ble_eq_true rfl) (dall tdX2_value 43 rfl) ?_
        refine r_if_eq (tgt := 100) C (dall tdX2_value 44 rfl) (by decide) (fun c17 => ?_) (fun c17 => ?_)
        · have h := (if_pos c17).symm.trans h
          have ok := ok.1 c17
          refine r_iload C 0 (dall tdX2_value 55 rfl) rfl ?_
          refine r_iconst (v := 5) C (dall tdX2_value 56 rfl) (by decide) ?_
          refine r_icmp_ne (tgt := 135) C (dall tdX2_value 57 rfl) (by decide) (fun c18 => ?_) (fun c18 => ?_)
          · have h := (if_neg c18).symm.trans h
            have ok := ok.2 c18
            refine r_pick [2, 3, 4, 5, 6, 7, 0] rfl ?_
            exact wX2_value_135 v.1 a1_ v.2.1 v.2.2 ((ρ.2.2.1 0 v.2.2.toNatClampNeg) ^^^ (-1)) C hR kR25 kO25 hk25 ok h
          · have h := (if_pos c18).symm.trans h
            have ok := ok.1 c18
            refine r_iload C 6 (dall tdX2_value 58 rfl) rfl ?_
            refine r_iconst (v := 1) C (dall tdX2_value 59 rfl) (by decide) ?_
            refine r_icmp_lt (tgt := 135) C (dall tdX2_value 60 rfl) (by decide) (fun c19 => ?_) (fun c19 => ?_)
            · have h := (if_pos c19).symm.trans h
              have ok := ok.1 c19
              refine r_pick [2, 3, 4, 5, 6, 7, 0] rfl ?_
              exact wX2_value_135 v.1 a1_ v.2.1 v.2.2 ((ρ.2.2.1 0 v.2.2.toNatClampNeg) ^^^ (-1)) C hR kR25 kO25 hk25 ok h
            · have h := (if_neg c19).symm.trans h
              have ok := ok.2 c19
              refine r_aload_n C 5 (dall tdX2_value 61 rfl) rfl ?_
              refine r_iload C 6 (dall tdX2_value 62 rfl) rfl ?_
              refine r_iconst (v := 1) C (dall tdX2_value 63 rfl) (by decide) ?_
              refine r_isub C (dall tdX2_value 64 rfl) ?_
              refine r_aload_n C 5 (dall tdX2_value 65 rfl) rfl ?_
              refine r_iload C 6 (dall tdX2_value 66 rfl) rfl ?_
              refine r_iconst (v := 1) C (dall tdX2_value 67 rfl) (by decide) ?_
              refine r_isub C (dall tdX2_value 68 rfl) ?_
              obtain ⟨o20, ok⟩ := ok
              refine r_iald C 4 0 rfl rfl o20 (dall tdX2_value 69 rfl) ?_
              refine r_if_ne (tgt := 130) C (dall tdX2_value 70 rfl) (by decide) (fun c21 => ?_) (fun c21 => ?_)
              · have h := (if_neg c21).symm.trans h
                have ok := ok.2 c21
                refine r_iconst (v := 0) C (dall tdX2_value 73 rfl) (by decide) ?_
                refine r_pick [2, 3, 4, 5, 6, 7] rfl ?_
                exact wX2_value_131 v.1 a1_ v.2.1 v.2.2 0 (v.2.1 - 1) C hR kR25 kO25 hk25 ok h
              · have h := (if_pos c21).symm.trans h
                have ok := ok.1 c21
                refine r_iconst (v := 1) C (dall tdX2_value 71 rfl) (by decide) ?_
                refine r_goto (tgt := 131) C (dall tdX2_value 72 rfl) (by decide) ?_
                refine r_pick [2, 3, 4, 5, 6, 7] rfl ?_
                exact wX2_value_131 v.1 a1_ v.2.1 v.2.2 1 (v.2.1 - 1) C hR kR25 kO25 hk25 ok h
        · have h := (if_neg c17).symm.trans h
          have ok := ok.2 c17
          refine r_aload_n C 5 (dall tdX2_value 45 rfl) rfl ?_
          refine r_iload C 6 (dall tdX2_value 46 rfl) rfl ?_
          refine r_aload_n C 4 (dall tdX2_value 47 rfl) rfl ?_
          refine r_iload C 0 (dall tdX2_value 48 rfl) rfl ?_
          refine r_bipush (v := 6) C (dall tdX2_value 49 rfl) (by decide) ?_
          refine r_isub C (dall tdX2_value 50 rfl) ?_
          obtain ⟨o22, ok⟩ := ok
          refine r_iald C 3 0 rfl rfl o22 (dall tdX2_value 51 rfl) ?_
          obtain ⟨o23, ok⟩ := ok
          refine r_iast C 4 0 rfl rfl o23 (pa_V_sk_4 cy q nc ρ v.1 v.2.1.toNatClampNeg (ρ.2.2.1 3 (((ρ.2.2.1 0 v.2.2.toNatClampNeg) ^^^ (-1)) - 6).toNatClampNeg)) (dall tdX2_value 52 rfl) ?_
          refine r_iinc (v := v.2.1 + 1) (lv' := [(4, .int (v.2.1 + 1)), (8, .int ((ρ.2.2.1 0 v.2.2.toNatClampNeg) ^^^ (-1))), (7, .int (ρ.2.2.1 0 v.2.2.toNatClampNeg)), (0, .ref (q 2)), (1, .int a1_), (2, .ref (q 3)), (3, .ref (q 4)), (6, .int v.2.2)]) C 6 (dall tdX2_value 53 rfl) rfl rfl (by decide) rfl ?_
          refine r_goto (tgt := 194) C (dall tdX2_value 54 rfl) (by decide) ?_
          refine r_pick [3, 4, 5, 6, 0, 7] rfl ?_
          exact wX2_value_194 (oS v.1 4 v.2.1.toNatClampNeg (ρ.2.2.1 3 (((ρ.2.2.1 0 v.2.2.toNatClampNeg) ^^^ (-1)) - 6).toNatClampNeg)) a1_ (v.2.1 + 1) v.2.2 C hR kR25 kO25 hk25 ok h
      · have h := (if_neg c16).symm.trans h
        have ok := ok.2 c16
        refine r_aload_n C 5 (dall tdX2_value 36 rfl) rfl ?_
        refine r_iload C 6 (dall tdX2_value 37 rfl) rfl ?_
        refine r_iload C 1 (dall tdX2_value 38 rfl) rfl ?_
        obtain ⟨o24, ok⟩ := ok
        refine r_iast C 4 0 rfl rfl o24 (pa_V_sk_4 cy q nc ρ v.1 v.2.1.toNatClampNeg (ρ.2.2.1 0 v.2.2.toNatClampNeg)) (dall tdX2_value 39 rfl) ?_
        refine r_iinc (v := v.2.1 + 1) (lv' := [(4, .int (v.2.1 + 1)), (8, .int ((ρ.2.2.1 0 v.2.2.toNatClampNeg) ^^^ (-1))), (7, .int (ρ.2.2.1 0 v.2.2.toNatClampNeg)), (0, .ref (q 2)), (1, .int a1_), (2, .ref (q 3)), (3, .ref (q 4)), (6, .int v.2.2)]) C 6 (dall tdX2_value 40 rfl) rfl rfl (by decide) rfl ?_
        refine r_goto (tgt := 194) C (dall tdX2_value 41 rfl) (by decide) ?_
        refine r_pick [3, 4, 5, 6, 0, 7] rfl ?_
        exact wX2_value_194 (oS v.1 4 v.2.1.toNatClampNeg (ρ.2.2.1 0 v.2.2.toNatClampNeg)) a1_ (v.2.1 + 1) v.2.2 C hR kR25 kO25 hk25 ok h
set_option maxHeartbeats 4000000 in
set_option maxRecDepth 100000 in
theorem lX2_value_25 {X : CX} {cy : Nat → ClassId} {q : Nat → Nat} {nc : Nat} {ρ : OS} {D : va_G} {A : Nat → Prop} {res : Int32 × OS} (a1_ : Int32) (C : Cx X cX2_value RX2 9 D (gty cy) A 1 0 0) (hR : Rt X (some .int) D (gty cy) A 0 0 (eI (wV cy q nc ρ res.2) res.1))  (n : Nat) (v : OS × Int32 × Int32) (ok : lpOk (kX2_value_25 nc ρ a1_ ) n v) (h : lp (0, o0) (bX2_value_25 nc ρ a1_ ) n v = res) : At X D A 9 0 0 25 [(0, .ref (q 2)), (1, .int a1_), (2, .ref (q 3)), (3, .ref (q 4)), (4, .int v.2.1), (6, .int v.2.2)] [] (wV cy q nc ρ v.1) :=
  lp_rule (fun v rr_ => rr_ = res → At X D A 9 0 0 25 [(0, .ref (q 2)), (1, .int a1_), (2, .ref (q 3)), (3, .ref (q 4)), (4, .int v.2.1), (6, .int v.2.2)] [] (wV cy q nc ρ v.1)) (fun kR kO hk v ok h => wX2_value_25 a1_ C hR  kR kO hk v ok h) n v ok h
def pX2_value_19 (nc : Nat) (ρ : OS)  (σ : OS) (a1_ : Int32) (a4_ : Int32) (b0_ : Int32) : Int32 × OS := lp (0, o0) (bX2_value_25 nc ρ a1_ ) fu (σ, a4_, b0_)
def oX2_value_19 (nc : Nat) (ρ : OS)  (σ : OS) (a1_ : Int32) (a4_ : Int32) (b0_ : Int32) : Prop := lpOk (kX2_value_25 nc ρ a1_ ) fu (σ, a4_, b0_)
set_option maxHeartbeats 4000000 in
set_option maxRecDepth 100000 in
theorem wX2_value_19 {X : CX} {cy : Nat → ClassId} {q : Nat → Nat} {nc : Nat} {ρ : OS} {D : va_G} {A : Nat → Prop} {res : Int32 × OS} (σ : OS) (a1_ : Int32) (a4_ : Int32) (b0_ : Int32) (C : Cx X cX2_value RX2 9 D (gty cy) A 1 0 0) (hR : Rt X (some .int) D (gty cy) A 0 0 (eI (wV cy q nc ρ res.2) res.1))  (ok : oX2_value_19 nc ρ  σ a1_ a4_ b0_) (h : pX2_value_19 nc ρ  σ a1_ a4_ b0_ = res) : At X D A 9 0 0 19 [(0, .ref (q 2)), (1, .int a1_), (2, .ref (q 3)), (3, .ref (q 4)), (4, .int a4_)] [.int b0_] (wV cy q nc ρ σ) := by
  unfold pX2_value_19 at h
  unfold oX2_value_19 at ok
  refine r_istore (lv' := [(5, .int b0_), (0, .ref (q 2)), (1, .int a1_), (2, .ref (q 3)), (3, .ref (q 4)), (4, .int a4_)]) C (dall tdX2_value 12 rfl) (by decide) rfl ?_
  refine r_iload C 0 (dall tdX2_value 13 rfl) rfl ?_
  refine r_istore (lv' := [(6, .int b0_), (5, .int b0_), (0, .ref (q 2)), (1, .int a1_), (2, .ref (q 3)), (3, .ref (q 4)), (4, .int a4_)]) C (dall tdX2_value 14 rfl) (by decide) rfl ?_
  refine r_pick [2, 3, 4, 5, 6, 0] rfl ?_
  exact lX2_value_25 a1_ C hR  fu _ ok h
def pX2_value_0 (nc : Nat) (ρ : OS)  (σ : OS) (a1_ : Int32) : Int32 × OS := if a1_ = 0 then pX2_value_19 nc ρ  σ a1_ 0 0 else pX2_value_19 nc ρ  σ a1_ 0 (ρ.2.2.1 1 (a1_ - 1).toNatClampNeg)
def oX2_value_0 (nc : Nat) (ρ : OS)  (σ : OS) (a1_ : Int32) : Prop := (a1_ = 0 → oX2_value_19 nc ρ  σ a1_ 0 0) ∧ (¬ (a1_ = 0) → (vp_in (a1_ - 1) 3) ∧ (oX2_value_19 nc ρ  σ a1_ 0 (ρ.2.2.1 1 (a1_ - 1).toNatClampNeg)))
set_option maxHeartbeats 4000000 in
set_option maxRecDepth 100000 in
theorem wX2_value_0 {X : CX} {cy : Nat → ClassId} {q : Nat → Nat} {nc : Nat} {ρ : OS} {D : va_G} {A : Nat → Prop} {res : Int32 × OS} (σ : OS) (a1_ : Int32) (C : Cx X cX2_value RX2 9 D (gty cy) A 1 0 0) (hR : Rt X (some .int) D (gty cy) A 0 0 (eI (wV cy q nc ρ res.2) res.1))  (ok : oX2_value_0 nc ρ  σ a1_) (h : pX2_value_0 nc ρ  σ a1_ = res) : At X D A 9 0 0 0 [(0, .ref (q 2)), (1, .int a1_), (2, .ref (q 3)), (3, .ref (q 4))] [] (wV cy q nc ρ σ) := by
  unfold pX2_value_0 at h
  unfold oX2_value_0 at ok
  refine r_iconst (v := 0) C (dall tdX2_value 0 rfl) (by decide) ?_
  refine r_istore (lv' := [(4, .int 0), (0, .ref (q 2)), (1, .int a1_), (2, .ref (q 3)), (3, .ref (q 4))]) C (dall tdX2_value 1 rfl) (by decide) rfl ?_
  refine r_iload_n C 2 (dall tdX2_value 2 rfl) rfl ?_
  refine r_if_ne (tgt := 11) C (dall tdX2_value 3 rfl) (by decide) (fun c25 => ?_) (fun c25 => ?_)
  · have h := (if_neg c25).symm.trans h
    have ok := ok.2 c25
    refine r_aload_n C 1 (dall tdX2_value 6 rfl) rfl ?_
    refine r_get C 0 kw_X2 rfl rfl (by decide) kf_X2_13 rfl rfl (dall tdX2_value 7 rfl) ?_
    refine r_iload_n C 2 (dall tdX2_value 8 rfl) rfl ?_
    refine r_iconst (v := 1) C (dall tdX2_value 9 rfl) (by decide) ?_
    refine r_isub C (dall tdX2_value 10 rfl) ?_
    obtain ⟨o26, ok⟩ := ok
    refine r_iald C 2 0 rfl rfl o26 (dall tdX2_value 11 rfl) ?_
    refine r_pick [1, 2, 3, 4, 0] rfl ?_
    exact wX2_value_19 σ a1_ 0 (ρ.2.2.1 1 (a1_ - 1).toNatClampNeg) C hR  ok h
  · have h := (if_pos c25).symm.trans h
    have ok := ok.1 c25
    refine r_iconst (v := 0) C (dall tdX2_value 4 rfl) (by decide) ?_
    refine r_goto (tgt := 19) C (dall tdX2_value 5 rfl) (by decide) ?_
    refine r_pick [1, 2, 3, 4, 0] rfl ?_
    exact wX2_value_19 σ a1_ 0 0 C hR  ok h
def fX2_value (nc : Nat) (ρ : OS) (σ : OS) (a1_ : Int32) : Int32 × OS := pX2_value_0 nc ρ  σ a1_
def gX2_value (nc : Nat) (ρ : OS) (σ : OS) (a1_ : Int32) : Prop := oX2_value_0 nc ρ  σ a1_
set_option maxRecDepth 100000 in
theorem zX2_value (cy : Nat → ClassId) (q : Nat → Nat) (nc : Nat) (ρ : OS)  {D : va_G} (σ : OS) (a1_ : Int32) (ok : gX2_value nc ρ σ a1_)  : Con yX2_value cX2_value 9 (some .int) 1 0 0 D (gty cy) [.ref (q 2), .int a1_, .ref (q 3), .ref (q 4)] (wV cy q nc ρ σ) (eI (wV cy q nc ρ (fX2_value nc ρ σ a1_).2) (fX2_value nc ρ σ a1_).1) :=
  Con.of (own := RX2) (by decide +kernel) rfl (Nat.le_of_ble_eq_true rfl) (Nat.zero_le _) (fun X A C hR _ => (wX2_value_0 σ a1_ C hR  ok rfl))
theorem mv_X2_value : MV yX2_value cX2_value 9 (some .int) RX2 3 := ⟨ki_X2_value, kv_X2_value, kn_X2, kc_X2_value, by decide +kernel⟩

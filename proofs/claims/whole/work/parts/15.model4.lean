def tbX6_part : List (Nat × Instr × Nat) := [(0, .iload_n 1, 1), (1, .ifCond .ne 7, 3), (4, .aload_n 0, 1), (5, .invokevirtual 198, 3), (8, .aload_n 0, 1), (9, .getfield 184, 3), (12, .ifCond .ne 7, 3), (15, .aload_n 0, 1), (16, .invokevirtual 201, 3), (19, .aload_n 0, 1), (20, .getfield 184, 3), (23, .ifCond .eq 7, 3), (26, .iconst 0, 1), (27, .goto 7, 3), (30, .aload_n 0, 1), (31, .invokevirtual 345, 3), (34, .istore_n 2, 1), (35, .aload_n 0, 1), (36, .bipush 59, 2), (38, .invokevirtual 226, 3), (41, .ifCond .ne 7, 3), (44, .aload_n 0, 1), (45, .invokevirtual 198, 3), (48, .aload_n 0, 1), (49, .getfield 184, 3), (52, .ifCond .ne 7, 3), (55, .aload_n 0, 1), (56, .invokevirtual 201, 3), (59, .iload_n 2, 1), (60, .ireturn, 1)]
theorem tdX6_part : tbX6_part.all (fun q => decide (decode cX6_part q.1 = .ok q.2)) = true := by decide +kernel
def pX6_part_59  (σ : OS) (a2_ : Int32) : Int32 × OS := (a2_, σ)
set_option maxHeartbeats 4000000 in
set_option maxRecDepth 100000 in
theorem wX6_part_59 {X : CX} {cy : Nat → ClassId} {q : Nat → Nat} {D : va_G} {A : Nat → Prop} {res : Int32 × OS} (σ : OS) (a2_ : Int32) (C : Cx X cX6_part RX6 3 D (gty cy) A 40 0 0) (hR : Rt X (some .int) D (gty cy) A 0 0 (eI (wX6 cy q res.2) res.1))  (h : pX6_part_59  σ a2_ = res) : At X D A 3 0 0 59 [(2, .int a2_)] [] (wX6 cy q σ) := by
  unfold pX6_part_59 at h
  refine r_iload_n C 0 (dall tdX6_part 28 rfl) rfl ?_
  exact r_iret C hR (dall tdX6_part 29 rfl) (by subst h; exact ⟨rfl, rfl⟩)
def pX6_part_48  (σ : OS) (a2_ : Int32) : Int32 × OS := if (σ.1 26) = 0 then pX6_part_59  (fX6_next σ) a2_ else pX6_part_59  σ a2_
def oX6_part_48  (σ : OS) (a2_ : Int32) : Prop := ((σ.1 26) = 0 → gX6_next σ ) ∧ (¬ ((σ.1 26) = 0) → True)
set_option maxHeartbeats 4000000 in
set_option maxRecDepth 100000 in
theorem wX6_part_48 {X : CX} {cy : Nat → ClassId} {q : Nat → Nat} {D : va_G} {A : Nat → Prop} {res : Int32 × OS} (σ : OS) (a2_ : Int32) (C : Cx X cX6_part RX6 3 D (gty cy) A 40 0 0) (hR : Rt X (some .int) D (gty cy) A 0 0 (eI (wX6 cy q res.2) res.1))  (ok : oX6_part_48  σ a2_) (h : pX6_part_48  σ a2_ = res) : At X D A 3 0 0 48 [(0, .ref (q 41)), (2, .int a2_)] [] (wX6 cy q σ) := by
  unfold pX6_part_48 at h
  unfold oX6_part_48 at ok
  refine r_aload_n C 0 (dall tdX6_part 23 rfl) rfl ?_
  refine r_get C 0 kw_X6 rfl rfl (by decide) kf_X6_184 rfl rfl (dall tdX6_part 24 rfl) ?_
  refine r_if_ne (tgt := 59) C (dall tdX6_part 25 rfl) (by decide) (fun c1 => ?_) (fun c1 => ?_)
  · have h := (if_neg c1).symm.trans h
    have ok := ok.2 c1
    refine r_pick [1] rfl ?_
    exact wX6_part_59 σ a2_ C hR  h
  · have h := (if_pos c1).symm.trans h
    have ok := ok.1 c1
    refine r_aload_n C 0 (dall tdX6_part 26 rfl) rfl ?_
    have o2 := ok
    refine r_vV (as := []) C (zX6_next cy q σ  o2) mv_X6_next km_X6_201 (by decide) (by decide) ⟨Nat.le_refl _, Nat.le_refl _⟩ rfl rfl rfl rfl (Nat.le_of_ble_eq_true rfl) (dall tdX6_part 27 rfl) ?_
    refine r_pick [1] rfl ?_
    exact wX6_part_59 (fX6_next σ) a2_ C hR  h
def pX6_part_34  (σ : OS) (b0_ : Int32) : Int32 × OS := if (fX6_isSign σ 59) = 0 then pX6_part_48  (fX6_fail σ) b0_ else pX6_part_48  σ b0_
def oX6_part_34  (σ : OS) (b0_ : Int32) : Prop := ((fX6_isSign σ 59) = 0 → oX6_part_48  (fX6_fail σ) b0_) ∧ (¬ ((fX6_isSign σ 59) = 0) → oX6_part_48  σ b0_)
set_option maxHeartbeats 4000000 in
set_option maxRecDepth 100000 in
theorem wX6_part_34 {X : CX} {cy : Nat → ClassId} {q : Nat → Nat} {D : va_G} {A : Nat → Prop} {res : Int32 × OS} (σ : OS) (b0_ : Int32) (C : Cx X cX6_part RX6 3 D (gty cy) A 40 0 0) (hR : Rt X (some .int) D (gty cy) A 0 0 (eI (wX6 cy q res.2) res.1))  (ok : oX6_part_34  σ b0_) (h : pX6_part_34  σ b0_ = res) : At X D A 3 0 0 34 [(0, .ref (q 41))] [.int b0_] (wX6 cy q σ) := by
  unfold pX6_part_34 at h
  unfold oX6_part_34 at ok
  refine r_istore_n (lv' := [(2, .int b0_), (0, .ref (q 41))]) C (dall tdX6_part 16 rfl) (by decide) rfl ?_
  refine r_aload_n C 1 (dall tdX6_part 17 rfl) rfl ?_
  refine r_bipush (v := 59) C (dall tdX6_part 18 rfl) (by decide) ?_
  refine r_vI (as := [.int 59]) C (zX6_isSign cy q σ 59 ) mv_X6_isSign km_X6_226 (by decide) (by decide) ⟨Nat.le_refl _, Nat.le_refl _⟩ rfl rfl rfl rfl (Nat.le_of_ble_eq_true rfl) (dall tdX6_part 19 rfl) ?_
  refine r_if_ne (tgt := 48) C (dall tdX6_part 20 rfl) (by decide) (fun c3 => ?_) (fun c3 => ?_)
  · have h := (if_neg c3).symm.trans h
    have ok := ok.2 c3
    refine r_pick [1, 0] rfl ?_
    exact wX6_part_48 σ b0_ C hR  ok h
  · have h := (if_pos c3).symm.trans h
    have ok := ok.1 c3
    refine r_aload_n C 1 (dall tdX6_part 21 rfl) rfl ?_
    refine r_vV (as := []) C (zX6_fail cy q σ  ) mv_X6_fail km_X6_198 (by decide) (by decide) ⟨Nat.le_refl _, Nat.le_refl _⟩ rfl rfl rfl rfl (Nat.le_of_ble_eq_true rfl) (dall tdX6_part 22 rfl) ?_
    refine r_pick [1, 0] rfl ?_
    exact wX6_part_48 (fX6_fail σ) b0_ C hR  ok h
def pX6_part_19  (σ : OS) : Int32 × OS := if (σ.1 26) = 0 then pX6_part_34  ((fX6_either0 σ ).2) ((fX6_either0 σ ).1) else pX6_part_34  σ 0
def oX6_part_19  (σ : OS) : Prop := ((σ.1 26) = 0 → (gX6_either0 σ ) ∧ (oX6_part_34  ((fX6_either0 σ ).2) ((fX6_either0 σ ).1))) ∧ (¬ ((σ.1 26) = 0) → oX6_part_34  σ 0)
set_option maxHeartbeats 4000000 in
set_option maxRecDepth 100000 in
theorem wX6_part_19 {X : CX} {cy : Nat → ClassId} {q : Nat → Nat} {D : va_G} {A : Nat → Prop} {res : Int32 × OS} (σ : OS) (C : Cx X cX6_part RX6 3 D (gty cy) A 40 0 0) (hR : Rt X (some .int) D (gty cy) A 0 0 (eI (wX6 cy q res.2) res.1))  (ok : oX6_part_19  σ) (h : pX6_part_19  σ = res) : At X D A 3 0 0 19 [(0, .ref (q 41))] [] (wX6 cy q σ) := by
  unfold pX6_part_19 at h
  unfold oX6_part_19 at ok
  refine r_aload_n C 0 (dall tdX6_part 9 rfl) rfl ?_
  refine r_get C 0 kw_X6 rfl rfl (by decide) kf_X6_184 rfl rfl (dall tdX6_part 10 rfl) ?_
  refine r_if_eq (tgt := 30) C (dall tdX6_part 11 rfl) (by decide) (fun c4 => ?_) (fun c4 => ?_)
  · have h := (if_pos c4).symm.trans h
    have ok := ok.1 c4
    refine r_aload_n C 0 (dall tdX6_part 14 rfl) rfl ?_
    obtain ⟨o5, ok⟩ := ok
    refine r_vI (as := []) C (zX6_either0 cy q σ  o5) mv_X6_either0 km_X6_345 (by decide) (by decide) ⟨Nat.le_refl _, Nat.le_refl _⟩ rfl rfl rfl rfl (Nat.le_of_ble_eq_true rfl) (dall tdX6_part 15 rfl) ?_
    exact wX6_part_34 ((fX6_either0 σ ).2) ((fX6_either0 σ ).1) C hR  ok h
  · have h := (if_neg c4).symm.trans h
    have ok := ok.2 c4
    refine r_iconst (v := 0) C (dall tdX6_part 12 rfl) (by decide) ?_
    refine r_goto (tgt := 34) C (dall tdX6_part 13 rfl) (by decide) ?_
    exact wX6_part_34 σ 0 C hR  ok h
def pX6_part_8  (σ : OS) : Int32 × OS := if (σ.1 26) = 0 then pX6_part_19  (fX6_next σ) else pX6_part_19  σ
def oX6_part_8  (σ : OS) : Prop := ((σ.1 26) = 0 → (gX6_next σ ) ∧ (oX6_part_19  (fX6_next σ))) ∧ (¬ ((σ.1 26) = 0) → oX6_part_19  σ)
set_option maxHeartbeats 4000000 in
set_option maxRecDepth 100000 in
theorem wX6_part_8 {X : CX} {cy : Nat → ClassId} {q : Nat → Nat} {D : va_G} {A : Nat → Prop} {res : Int32 × OS} (σ : OS) (C : Cx X cX6_part RX6 3 D (gty cy) A 40 0 0) (hR : Rt X (some .int) D (gty cy) A 0 0 (eI (wX6 cy q res.2) res.1))  (ok : oX6_part_8  σ) (h : pX6_part_8  σ = res) : At X D A 3 0 0 8 [(0, .ref (q 41))] [] (wX6 cy q σ) := by
  unfold pX6_part_8 at h
  unfold oX6_part_8 at ok
  refine r_aload_n C 0 (dall tdX6_part 4 rfl) rfl ?_
  refine r_get C 0 kw_X6 rfl rfl (by decide) kf_X6_184 rfl rfl (dall tdX6_part 5 rfl) ?_
  refine r_if_ne (tgt := 19) C (dall tdX6_part 6 rfl) (by decide) (fun c6 => ?_) (fun c6 => ?_)
  · have h := (if_neg c6).symm.trans h
    have ok := ok.2 c6
    exact wX6_part_19 σ C hR  ok h
  · have h := (if_pos c6).symm.trans h
    have ok := ok.1 c6
    refine r_aload_n C 0 (dall tdX6_part 7 rfl) rfl ?_
    obtain ⟨o7, ok⟩ := ok
    refine r_vV (as := []) C (zX6_next cy q σ  o7) mv_X6_next km_X6_201 (by decide) (by decide) ⟨Nat.le_refl _, Nat.le_refl _⟩ rfl rfl rfl rfl (Nat.le_of_ble_eq_true rfl) (dall tdX6_part 8 rfl) ?_
    exact wX6_part_19 (fX6_next σ) C hR  ok h
def pX6_part_0  (σ : OS) (a1_ : Int32) : Int32 × OS := if a1_ = 0 then pX6_part_8  (fX6_fail σ) else pX6_part_8  σ
def oX6_part_0  (σ : OS) (a1_ : Int32) : Prop := (a1_ = 0 → oX6_part_8  (fX6_fail σ)) ∧ (¬ (a1_ = 0) → oX6_part_8  σ)
set_option maxHeartbeats 4000000 in
set_option maxRecDepth 100000 in
theorem wX6_part_0 {X : CX} {cy : Nat → ClassId} {q : Nat → Nat} {D : va_G} {A : Nat → Prop} {res : Int32 × OS} (σ : OS) (a1_ : Int32) (C : Cx X cX6_part RX6 3 D (gty cy) A 40 0 0) (hR : Rt X (some .int) D (gty cy) A 0 0 (eI (wX6 cy q res.2) res.1))  (ok : oX6_part_0  σ a1_) (h : pX6_part_0  σ a1_ = res) : At X D A 3 0 0 0 [(0, .ref (q 41)), (1, .int a1_)] [] (wX6 cy q σ) := by
  unfold pX6_part_0 at h
  unfold oX6_part_0 at ok
  refine r_iload_n C 1 (dall tdX6_part 0 rfl) rfl ?_
  refine r_if_ne (tgt := 8) C (dall tdX6_part 1 rfl) (by decide) (fun c8 => ?_) (fun c8 => ?_)
  · have h := (if_neg c8).symm.trans h
    have ok := ok.2 c8
    refine r_pick [0] rfl ?_
    exact wX6_part_8 σ C hR  ok h
  · have h := (if_pos c8).symm.trans h
    have ok := ok.1 c8
    refine r_aload_n C 0 (dall tdX6_part 2 rfl) rfl ?_
    refine r_vV (as := []) C (zX6_fail cy q σ  ) mv_X6_fail km_X6_198 (by decide) (by decide) ⟨Nat.le_refl _, Nat.le_refl _⟩ rfl rfl rfl rfl (Nat.le_of_ble_eq_true rfl) (dall tdX6_part 3 rfl) ?_
    refine r_pick [0] rfl ?_
    exact wX6_part_8 (fX6_fail σ) C hR  ok h
def fX6_part (σ : OS) (a1_ : Int32) : Int32 × OS := pX6_part_0  σ a1_
def gX6_part (σ : OS) (a1_ : Int32) : Prop := oX6_part_0  σ a1_
set_option maxRecDepth 100000 in
theorem zX6_part (cy : Nat → ClassId) (q : Nat → Nat)  {D : va_G} (σ : OS) (a1_ : Int32) (ok : gX6_part σ a1_)  : Con yX6_part cX6_part 3 (some .int) 40 0 0 D (gty cy) [.ref (q 41), .int a1_] (wX6 cy q σ) (eI (wX6 cy q (fX6_part σ a1_).2) (fX6_part σ a1_).1) :=
  Con.of (own := RX6) (by decide +kernel) rfl (Nat.le_of_ble_eq_true rfl) (Nat.zero_le _) (fun X A C hR _ => (wX6_part_0 σ a1_ C hR  ok rfl))
theorem mv_X6_part : MV yX6_part cX6_part 3 (some .int) RX6 1 := ⟨ki_X6_part, kv_X6_part, kn_X6, kc_X6_part, by decide +kernel⟩
def tbX6_read : List (Nat × Instr × Nat) := [(0, .aload_n 0, 1), (1, .sipush 160, 3), (4, .iload_n 1, 1), (5, .imul, 1), (6, .putfield 156, 3), (9, .aload_n 0, 1), (10, .aload_n 0, 1), (11, .getfield 17, 3), (14, .iload_n 1, 1), (15, .iaload, 1), (16, .putfield 153, 3), (19, .aload_n 0, 1), (20, .iconst 0, 1), (21, .putfield 159, 3), (24, .aload_n 0, 1), (25, .iconst 0, 1), (26, .putfield 195, 3), (29, .aload_n 0, 1), (30, .iconst 0, 1), (31, .putfield 184, 3), (34, .aload_n 0, 1), (35, .invokevirtual 201, 3), (38, .aload_n 0, 1), (39, .aload_n 0, 1), (40, .bipush 104, 2), (42, .bipush 111, 2), (44, .bipush 108, 2), (46, .bipush 100, 2), (48, .bipush 115, 2), (50, .iconst 0, 1), (51, .iconst 0, 1), (52, .iconst 0, 1), (53, .invokevirtual 204, 3), (56, .invokevirtual 348, 3), (59, .istore_n 3, 1), (60, .aload_n 0, 1), (61, .getfield 184, 3), (64, .ifCond .eq 7, 3), (67, .iconst 0, 1), (68, .goto 24, 3), (71, .aload_n 0, 1), (72, .aload_n 0, 1), (73, .bipush 102, 2), (75, .bipush 97, 2), (77, .bipush 100, 2), (79, .bipush 101, 2), (81, .bipush 115, 2), (83, .iconst 0, 1), (84, .iconst 0, 1), (85, .iconst 0, 1), (86, .invokevirtual 204, 3), (89, .invokevirtual 348, 3), (92, .istore 4, 2), (94, .aload_n 0, 1), (95, .getfield 184, 3), (98, .ifCond .eq 7, 3), (101, .iconst 0, 1), (102, .goto 24, 3), (105, .aload_n 0, 1), (106, .aload_n 0, 1), (107, .bipush 99, 2), (109, .bipush 111, 2), (111, .bipush 115, 2), (113, .bipush 116, 2), (115, .bipush 115, 2), (117, .iconst 0, 1), (118, .iconst 0, 1), (119, .iconst 0, 1), (120, .invokevirtual 204, 3), (123, .invokevirtual 348, 3), (126, .istore 5, 2), (128, .aload_n 0, 1), (129, .getfield 184, 3), (132, .ifCond .ne 14, 3), (135, .aload_n 0, 1), (136, .getfield 168, 3), (139, .ifCond .eq 7, 3), (142, .aload_n 0, 1), (143, .invokevirtual 198, 3), (146, .iload_n 2, 1), (147, .ifCond .ne 7, 3), (150, .iload_n 3, 1), (151, .goto 15, 3), (154, .iload_n 2, 1), (155, .iconst 1, 1), (156, .if_icmp .ne 8, 3), (159, .iload 4, 2), (161, .goto 5, 3), (164, .iload 5, 2), (166, .ireturn, 1)]
theorem tdX6_read : tbX6_read.all (fun q => decide (decode cX6_read q.1 = .ok q.2)) = true := by decide +kernel
def pX6_read_146  (σ : OS) (a2_ : Int32) (a3_ : Int32) (a4_ : Int32) (a5_ : Int32) : Int32 × OS := if a2_ = 0 then (a3_, σ) else if a2_ = 1 then (a4_, σ) else (a5_, σ)
set_option maxHeartbeats 4000000 in
set_option maxRecDepth 100000 in
theorem wX6_read_146 {X : CX} {cy : Nat → ClassId} {q : Nat → Nat} {D : va_G} {A : Nat → Prop} {res : Int32 × OS} (σ : OS) (a2_ : Int32) (a3_ : Int32) (a4_ : Int32) (a5_ : Int32) (C : Cx X cX6_read RX6 6 D (gty cy) A 41 0 0) (hR : Rt X (some .int) D (gty cy) A 0 0 (eI (wX6 cy q res.2) res.1))  (h : pX6_read_146  σ a2_ a3_ a4_ a5_ = res) : At X D A 6 0 0 146 [(2, .int a2_), (3, .int a3_), (4, .int a4_), (5, .int a5_)] [] (wX6 cy q σ) := by
  unfold pX6_read_146 at h
  refine r_iload_n C 0 (dall tdX6_read 79 rfl) rfl ?_
  refine r_if_ne (tgt := 154) C (dall tdX6_read 80 rfl) (by decide) (fun c1 => ?_) (fun c1 => ?_)
  · have h := (if_neg c1).symm.trans h
    refine r_iload_n C 0 (dall tdX6_read 83 rfl) rfl ?_
    refine r_iconst (v := 1) C (dall tdX6_read 84 rfl) (by decide) ?_
    refine r_icmp_ne (tgt := 164) C (dall tdX6_read 85 rfl) (by decide) (fun c2 => ?_) (fun c2 => ?_)
    · have h := (if_neg c2).symm.trans h
      refine r_iload C 3 (dall tdX6_read 88 rfl) rfl ?_
      exact r_iret C hR (dall tdX6_read 89 rfl) (by subst h; exact ⟨rfl, rfl⟩)
    · have h := (if_pos c2).symm.trans h
      refine r_iload C 2 (dall tdX6_read 86 rfl) rfl ?_
      refine r_goto (tgt := 166) C (dall tdX6_read 87 rfl) (by decide) ?_
      exact r_iret C hR (dall tdX6_read 89 rfl) (by subst h; exact ⟨rfl, rfl⟩)
  · have h := (if_pos c1).symm.trans h
    refine r_iload_n C 1 (dall tdX6_read 81 rfl) rfl ?_
    refine r_goto (tgt := 166) C (dall tdX6_read 82 rfl) (by decide) ?_
    exact r_iret C hR (dall tdX6_read 89 rfl) (by subst h; exact ⟨rfl, rfl⟩)
def pX6_read_126  (σ : OS) (a2_ : Int32) (a3_ : Int32) (a4_ : Int32) (b0_ : Int32) : Int32 × OS := if (σ.1 26) = 0 then if (σ.1 22) = 0 then pX6_read_146  σ a2_ a3_ a4_ b0_ else pX6_read_146  (fX6_fail σ) a2_ a3_ a4_ b0_ else pX6_read_146  σ a2_ a3_ a4_ b0_
set_option maxHeartbeats 4000000 in
set_option maxRecDepth 100000 in
theorem wX6_read_126 {X : CX} {cy : Nat → ClassId} {q : Nat → Nat} {D : va_G} {A : Nat → Prop} {res : Int32 × OS} (σ : OS) (a2_ : Int32) (a3_ : Int32) (a4_ : Int32) (b0_ : Int32) (C : Cx X cX6_read RX6 6 D (gty cy) A 41 0 0) (hR : Rt X (some .int) D (gty cy) A 0 0 (eI (wX6 cy q res.2) res.1))  (h : pX6_read_126  σ a2_ a3_ a4_ b0_ = res) : At X D A 6 0 0 126 [(0, .ref (q 41)), (2, .int a2_), (3, .int a3_), (4, .int a4_)] [.int b0_] (wX6 cy q σ) := by
  unfold pX6_read_126 at h
  refine r_istore (lv' := [(5, .int b0_), (0, .ref (q 41)), (2, .int a2_), (3, .int a3_), (4, .int a4_)]) C (dall tdX6_read 70 rfl) (by decide) rfl ?_
  refine r_aload_n C 1 (dall tdX6_read 71 rfl) rfl ?_
  refine r_get C 0 kw_X6 rfl rfl (by decide) kf_X6_184 rfl rfl (dall tdX6_read 72 rfl) ?_
  refine r_if_ne (tgt := 146) C (dall tdX6_read 73 rfl) (by decide) (fun c3 => ?_) (fun c3 => ?_)
  · have h := (if_neg c3).symm.trans h
    refine r_pick [2, 3, 4, 0] rfl ?_
    exact wX6_read_146 σ a2_ a3_ a4_ b0_ C hR  h
  · have h := (if_pos c3).symm.trans h
    refine r_aload_n C 1 (dall tdX6_read 74 rfl) rfl ?_
    refine r_get C 0 kw_X6 rfl rfl (by decide) kf_X6_168 rfl rfl (dall tdX6_read 75 rfl) ?_
    refine r_if_eq (tgt := 146) C (dall tdX6_read 76 rfl) (by decide) (fun c4 => ?_) (fun c4 => ?_)
    · have h := (if_pos c4).symm.trans h
      refine r_pick [2, 3, 4, 0] rfl ?_
      exact wX6_read_146 σ a2_ a3_ a4_ b0_ C hR  h
    · have h := (if_neg c4).symm.trans h
      refine r_aload_n C 1 (dall tdX6_read 77 rfl) rfl ?_
      refine r_vV (as := []) C (zX6_fail cy q σ  ) mv_X6_fail km_X6_198 (by decide) (by decide) ⟨Nat.le_refl _, Nat.le_refl _⟩ rfl rfl rfl rfl (Nat.le_of_ble_eq_true rfl) (dall tdX6_read 78 rfl) ?_
      refine r_pick [2, 3, 4, 0] rfl ?_
      exact wX6_read_146 (fX6_fail σ) a2_ a3_ a4_ b0_ C hR  h
def pX6_read_92  (σ : OS) (a2_ : Int32) (a3_ : Int32) (b0_ : Int32) : Int32 × OS := if (σ.1 26) = 0 then pX6_read_126  ((fX6_part σ (fX6_isWord σ 99 111 115 116 115 0 0 0)).2) a2_ a3_ b0_ ((fX6_part σ (fX6_isWord σ 99 111 115 116 115 0 0 0)).1) else pX6_read_126  σ a2_ a3_ b0_ 0
def oX6_read_92  (σ : OS) (a2_ : Int32) (a3_ : Int32) (b0_ : Int32) : Prop := ((σ.1 26) = 0 → (gX6_isWord σ 99 111 115 116 115 0 0 0) ∧ (gX6_part σ (fX6_isWord σ 99 111 115 116 115 0 0 0))) ∧ (¬ ((σ.1 26) = 0) → True)
set_option maxHeartbeats 4000000 in
set_option maxRecDepth 100000 in
theorem wX6_read_92 {X : CX} {cy : Nat → ClassId} {q : Nat → Nat} {D : va_G} {A : Nat → Prop} {res : Int32 × OS} (σ : OS) (a2_ : Int32) (a3_ : Int32) (b0_ : Int32) (C : Cx X cX6_read RX6 6 D (gty cy) A 41 0 0) (hR : Rt X (some .int) D (gty cy) A 0 0 (eI (wX6 cy q res.2) res.1))  (ok : oX6_read_92  σ a2_ a3_ b0_) (h : pX6_read_92  σ a2_ a3_ b0_ = res) : At X D A 6 0 0 92 [(0, .ref (q 41)), (2, .int a2_), (3, .int a3_)] [.int b0_] (wX6 cy q σ) := by
  unfold pX6_read_92 at h
  unfold oX6_read_92 at ok
  refine r_istore (lv' := [(4, .int b0_), (0, .ref (q 41)), (2, .int a2_), (3, .int a3_)]) C (dall tdX6_read 52 rfl) (by decide) rfl ?_
  refine r_aload_n C 1 (dall tdX6_read 53 rfl) rfl ?_
  refine r_get C 0 kw_X6 rfl rfl (by decide) kf_X6_184 rfl rfl (dall tdX6_read 54 rfl) ?_
  refine r_if_eq (tgt := 105) C (dall tdX6_read 55 rfl) (by decide) (fun c5 => ?_) (fun c5 => ?_)
  · have h := (if_pos c5).symm.trans h
    have ok := ok.1 c5
    refine r_aload_n C 1 (dall tdX6_read 58 rfl) rfl ?_
    refine r_aload_n C 1 (dall tdX6_read 59 rfl) rfl ?_
    refine r_bipush (v := 99) C (dall tdX6_read 60 rfl) (by decide) ?_
    refine r_bipush (v := 111) C (dall tdX6_read 61 rfl) (by decide) ?_
    refine r_bipush (v := 115) C (dall tdX6_read 62 rfl) (by decide) ?_
    refine r_bipush (v := 116) C (dall tdX6_read 63 rfl) (by decide) ?_
    refine r_bipush (v := 115) C (dall tdX6_read 64 rfl) (by decide) ?_
    refine r_iconst (v := 0) C (dall tdX6_read 65 rfl) (by decide) ?_
    refine r_iconst (v := 0) C (dall tdX6_read 66 rfl) (by decide) ?_
    refine r_iconst (v := 0) C (dall tdX6_read 67 rfl) (by decide) ?_
    obtain ⟨o6, ok⟩ := ok
    refine r_vI (as := [.int 99, .int 111, .int 115, .int 116, .int 115, .int 0, .int 0, .int 0]) C (zX6_isWord cy q σ 99 111 115 116 115 0 0 0 o6) mv_X6_isWord km_X6_204 (by decide) (by decide) ⟨Nat.le_refl _, Nat.le_refl _⟩ rfl rfl rfl rfl (Nat.le_of_ble_eq_true rfl) (dall tdX6_read 68 rfl) ?_
    have o7 := ok
    refine r_vI (as := [.int (fX6_isWord σ 99 111 115 116 115 0 0 0)]) C (zX6_part cy q σ (fX6_isWord σ 99 111 115 116 115 0 0 0) o7) mv_X6_part km_X6_348 (by decide) (by decide) ⟨Nat.le_refl _, Nat.le_refl _⟩ rfl rfl rfl rfl (Nat.le_of_ble_eq_true rfl) (dall tdX6_read 69 rfl) ?_
    refine r_pick [1, 2, 3, 0] rfl ?_
    exact wX6_read_126 ((fX6_part σ (fX6_isWord σ 99 111 115 116 115 0 0 0)).2) a2_ a3_ b0_ ((fX6_part σ (fX6_isWord σ 99 111 115 116 115 0 0 0)).1) C hR  h
  · have h := (if_neg c5).symm.trans h
    have ok := ok.2 c5
    refine r_iconst (v := 0) C (dall tdX6_read 56 rfl) (by decide) ?_
    refine r_goto (tgt := 126) C (dall tdX6_read 57 rfl) (by decide) ?_
    refine r_pick [1, 2, 3, 0] rfl ?_
    exact wX6_read_126 σ a2_ a3_ b0_ 0 C hR  h
def pX6_read_59  (σ : OS) (a2_ : Int32) (b0_ : Int32) : Int32 × OS := if (σ.1 26) = 0 then pX6_read_92  ((fX6_part σ (fX6_isWord σ 102 97 100 101 115 0 0 0)).2) a2_ b0_ ((fX6_part σ (fX6_isWord σ 102 97 100 101 115 0 0 0)).1) else pX6_read_92  σ a2_ b0_ 0
def oX6_read_59  (σ : OS) (a2_ : Int32) (b0_ : Int32) : Prop := ((σ.1 26) = 0 → (gX6_isWord σ 102 97 100 101 115 0 0 0) ∧ ((gX6_part σ (fX6_isWord σ 102 97 100 101 115 0 0 0)) ∧ (oX6_read_92  ((fX6_part σ (fX6_isWord σ 102 97 100 101 115 0 0 0)).2) a2_ b0_ ((fX6_part σ (fX6_isWord σ 102 97 100 101 115 0 0 0)).1)))) ∧ (¬ ((σ.1 26) = 0) → oX6_read_92  σ a2_ b0_ 0)
set_option maxHeartbeats 4000000 in
set_option maxRecDepth 100000 in
theorem wX6_read_59 {X : CX} {cy : Nat → ClassId} {q : Nat → Nat} {D : va_G} {A : Nat → Prop} {res : Int32 × OS} (σ : OS) (a2_ : Int32) (b0_ : Int32) (C : Cx X cX6_read RX6 6 D (gty cy) A 41 0 0) (hR : Rt X (some .int) D (gty cy) A 0 0 (eI (wX6 cy q res.2) res.1))  (ok : oX6_read_59  σ a2_ b0_) (h : pX6_read_59  σ a2_ b0_ = res) : At X D A 6 0 0 59 [(0, .ref (q 41)), (2, .int a2_)] [.int b0_] (wX6 cy q σ) := by
  unfold pX6_read_59 at h
  unfold oX6_read_59 at ok
  refine r_istore_n (lv' := [(3, .int b0_), (0, .ref (q 41)), (2, .int a2_)]) C (dall tdX6_read 34 rfl) (by decide) rfl ?_
  refine r_aload_n C 1 (dall tdX6_read 35 rfl) rfl ?_
  refine r_get C 0 kw_X6 rfl rfl (by decide) kf_X6_184 rfl rfl (dall tdX6_read 36 rfl) ?_
  refine r_if_eq (tgt := 71) C (dall tdX6_read 37 rfl) (by decide) (fun c8 => ?_) (fun c8 => ?_)
  · have h := (if_pos c8).symm.trans h
    have ok := ok.1 c8
    refine r_aload_n C 1 (dall tdX6_read 40 rfl) rfl ?_
    refine r_aload_n C 1 (dall tdX6_read 41 rfl) rfl ?_
    refine r_bipush (v := 102) C (dall tdX6_read 42 rfl) (by decide) ?_
    refine r_bipush (v := 97) C (dall tdX6_read 43 rfl) (by decide) ?_
    refine r_bipush (v := 100) C (dall tdX6_read 44 rfl) (by decide) ?_
    refine r_bipush (v := 101) C (dall tdX6_read 45 rfl) (by decide) ?_
    refine r_bipush (v := 115) C (dall tdX6_read 46 rfl) (by decide) ?_
    refine r_iconst (v := 0) C (dall tdX6_read 47 rfl) (by decide) ?_
    refine r_iconst (v := 0) C (dall tdX6_read 48 rfl) (by decide) ?_
    refine r_iconst (v := 0) C (dall tdX6_read 49 rfl) (by decide) ?_
    obtain ⟨o9, ok⟩ := ok
    refine r_vI (as := [.int 102, .int 97, .int 100, .int 101, .int 115, .int 0, .int 0, .int 0]) C (zX6_isWord cy q σ 102 97 100 101 115 0 0 0 o9) mv_X6_isWord km_X6_204 (by decide) (by decide) ⟨Nat.le_refl _, Nat.le_refl _⟩ rfl rfl rfl rfl (Nat.le_of_ble_eq_true rfl) (dall tdX6_read 50 rfl) ?_
    obtain ⟨o10, ok⟩ := ok
    refine r_vI (as := [.int (fX6_isWord σ 102 97 100 101 115 0 0 0)]) C (zX6_part cy q σ (fX6_isWord σ 102 97 100 101 115 0 0 0) o10) mv_X6_part km_X6_348 (by decide) (by decide) ⟨Nat.le_refl _, Nat.le_refl _⟩ rfl rfl rfl rfl (Nat.le_of_ble_eq_true rfl) (dall tdX6_read 51 rfl) ?_
    refine r_pick [1, 2, 0] rfl ?_
    exact wX6_read_92 ((fX6_part σ (fX6_isWord σ 102 97 100 101 115 0 0 0)).2) a2_ b0_ ((fX6_part σ (fX6_isWord σ 102 97 100 101 115 0 0 0)).1) C hR  ok h
  · have h := (if_neg c8).symm.trans h
    have ok := ok.2 c8
    refine r_iconst (v := 0) C (dall tdX6_read 38 rfl) (by decide) ?_
    refine r_goto (tgt := 92) C (dall tdX6_read 39 rfl) (by decide) ?_
    refine r_pick [1, 2, 0] rfl ?_
    exact wX6_read_92 σ a2_ b0_ 0 C hR  ok h
def pX6_read_38  (σ : OS) (a2_ : Int32) : Int32 × OS := pX6_read_59  ((fX6_part σ (fX6_isWord σ 104 111 108 100 115 0 0 0)).2) a2_ ((fX6_part σ (fX6_isWord σ 104 111 108 100 115 0 0 0)).1)
def oX6_read_38  (σ : OS) (a2_ : Int32) : Prop := (gX6_isWord σ 104 111 108 100 115 0 0 0) ∧ ((gX6_part σ (fX6_isWord σ 104 111 108 100 115 0 0 0)) ∧ (oX6_read_59  ((fX6_part σ (fX6_isWord σ 104 111 108 100 115 0 0 0)).2) a2_ ((fX6_part σ (fX6_isWord σ 104 111 108 100 115 0 0 0)).1)))
set_option maxHeartbeats 4000000 in
set_option maxRecDepth 100000 in
theorem wX6_read_38 {X : CX} {cy : Nat → ClassId} {q : Nat → Nat} {D : va_G} {A : Nat → Prop} {res : Int32 × OS} (σ : OS) (a2_ : Int32) (C : Cx X cX6_read RX6 6 D (gty cy) A 41 0 0) (hR : Rt X (some .int) D (gty cy) A 0 0 (eI (wX6 cy q res.2) res.1))  (ok : oX6_read_38  σ a2_) (h : pX6_read_38  σ a2_ = res) : At X D A 6 0 0 38 [(0, .ref (q 41)), (2, .int a2_)] [] (wX6 cy q σ) := by
  unfold pX6_read_38 at h
  unfold oX6_read_38 at ok
  refine r_aload_n C 0 (dall tdX6_read 22 rfl) rfl ?_
  refine r_aload_n C 0 (dall tdX6_read 23 rfl) rfl ?_
  refine r_bipush (v := 104) C (dall tdX6_read 24 rfl) (by decide) ?_
  refine r_bipush (v := 111) C (dall tdX6_read 25 rfl) (by decide) ?_
  refine r_bipush (v := 108) C (dall tdX6_read 26 rfl) (by decide) ?_
  refine r_bipush (v := 100) C (dall tdX6_read 27 rfl) (by decide) ?_
  refine r_bipush (v := 115) C (dall tdX6_read 28 rfl) (by decide) ?_
  refine r_iconst (v := 0) C (dall tdX6_read 29 rfl) (by decide) ?_
  refine r_iconst (v := 0) C (dall tdX6_read 30 rfl) (by decide) ?_
  refine r_iconst (v := 0) C (dall tdX6_read 31 rfl) (by decide) ?_
  obtain ⟨o11, ok⟩ := ok
  refine r_vI (as := [.int 104, .int 111, .int 108, .int 100, .int 115, .int 0, .int 0, .int 0]) C (zX6_isWord cy q σ 104 111 108 100 115 0 0 0 o11) mv_X6_isWord km_X6_204 (by decide) (by decide) ⟨Nat.le_refl _, Nat.le_refl _⟩ rfl rfl rfl rfl (Nat.le_of_ble_eq_true rfl) (dall tdX6_read 32 rfl) ?_
  obtain ⟨o12, ok⟩ := ok
  refine r_vI (as := [.int (fX6_isWord σ 104 111 108 100 115 0 0 0)]) C (zX6_part cy q σ (fX6_isWord σ 104 111 108 100 115 0 0 0) o12) mv_X6_part km_X6_348 (by decide) (by decide) ⟨Nat.le_refl _, Nat.le_refl _⟩ rfl rfl rfl rfl (Nat.le_of_ble_eq_true rfl) (dall tdX6_read 33 rfl) ?_
  exact wX6_read_59 ((fX6_part σ (fX6_isWord σ 104 111 108 100 115 0 0 0)).2) a2_ ((fX6_part σ (fX6_isWord σ 104 111 108 100 115 0 0 0)).1) C hR  ok h
def pX6_read_0  (σ : OS) (a1_ : Int32) (a2_ : Int32) : Int32 × OS := pX6_read_38  (fX6_next (oI (oI (oI (oI (oI σ 19 (160 * a1_)) 20 ((oI σ 19 (160 * a1_)).2.2.1 2 a1_.toNatClampNeg)) 21 0) 25 0) 26 0)) a2_
def oX6_read_0  (σ : OS) (a1_ : Int32) (a2_ : Int32) : Prop := (vp_in a1_ 6) ∧ ((gX6_next (oI (oI (oI (oI (oI σ 19 (160 * a1_)) 20 ((oI σ 19 (160 * a1_)).2.2.1 2 a1_.toNatClampNeg)) 21 0) 25 0) 26 0) ) ∧ (oX6_read_38  (fX6_next (oI (oI (oI (oI (oI σ 19 (160 * a1_)) 20 ((oI σ 19 (160 * a1_)).2.2.1 2 a1_.toNatClampNeg)) 21 0) 25 0) 26 0)) a2_))
set_option maxHeartbeats 4000000 in
set_option maxRecDepth 100000 in
theorem wX6_read_0 {X : CX} {cy : Nat → ClassId} {q : Nat → Nat} {D : va_G} {A : Nat → Prop} {res : Int32 × OS} (σ : OS) (a1_ : Int32) (a2_ : Int32) (C : Cx X cX6_read RX6 6 D (gty cy) A 41 0 0) (hR : Rt X (some .int) D (gty cy) A 0 0 (eI (wX6 cy q res.2) res.1))  (ok : oX6_read_0  σ a1_ a2_) (h : pX6_read_0  σ a1_ a2_ = res) : At X D A 6 0 0 0 [(0, .ref (q 41)), (1, .int a1_), (2, .int a2_)] [] (wX6 cy q σ) := by
  unfold pX6_read_0 at h
  unfold oX6_read_0 at ok
  refine r_aload_n C 0 (dall tdX6_read 0 rfl) rfl ?_
  refine r_sipush (v := 160) C (dall tdX6_read 1 rfl) (by decide) ?_
  refine r_iload_n C 1 (dall tdX6_read 2 rfl) rfl ?_
  refine r_imul C (dall tdX6_read 3 rfl) ?_
  refine r_put C 0 kw_X6 tyX6_ok nmX6 rfl rfl (by decide) kf_X6_156 rfl rfl rfl rfl rfl (Nat.le_of_ble_eq_true rfl) (pu_X6_this_19 cy q σ (160 * a1_)) (dall tdX6_read 4 rfl) ?_
  refine r_aload_n C 0 (dall tdX6_read 5 rfl) rfl ?_
  refine r_aload_n C 0 (dall tdX6_read 6 rfl) rfl ?_
  refine r_get C 0 kw_X6 rfl rfl (by decide) kf_X6_17 rfl rfl (dall tdX6_read 7 rfl) ?_
  refine r_iload_n C 1 (dall tdX6_read 8 rfl) rfl ?_
  obtain ⟨o13, ok⟩ := ok
  refine r_iald C 2 0 rfl rfl o13 (dall tdX6_read 9 rfl) ?_
  refine r_put C 0 kw_X6 tyX6_ok nmX6 rfl rfl (by decide) kf_X6_153 rfl rfl rfl rfl rfl (Nat.le_of_ble_eq_true rfl) (pu_X6_this_20 cy q (oI σ 19 (160 * a1_)) ((oI σ 19 (160 * a1_)).2.2.1 2 a1_.toNatClampNeg)) (dall tdX6_read 10 rfl) ?_
  refine r_aload_n C 0 (dall tdX6_read 11 rfl) rfl ?_
  refine r_iconst (v := 0) C (dall tdX6_read 12 rfl) (by decide) ?_
  refine r_put C 0 kw_X6 tyX6_ok nmX6 rfl rfl (by decide) kf_X6_159 rfl rfl rfl rfl rfl (Nat.le_of_ble_eq_true rfl) (pu_X6_this_21 cy q (oI (oI σ 19 (160 * a1_)) 20 ((oI σ 19 (160 * a1_)).2.2.1 2 a1_.toNatClampNeg)) 0) (dall tdX6_read 13 rfl) ?_
  refine r_aload_n C 0 (dall tdX6_read 14 rfl) rfl ?_
  refine r_iconst (v := 0) C (dall tdX6_read 15 rfl) (by decide) ?_
  refine r_put C 0 kw_X6 tyX6_ok nmX6 rfl rfl (by decide) kf_X6_195 rfl rfl rfl rfl rfl (Nat.le_of_ble_eq_true rfl) (pu_X6_this_25 cy q (oI (oI (oI σ 19 (160 * a1_)) 20 ((oI σ 19 (160 * a1_)).2.2.1 2 a1_.toNatClampNeg)) 21 0) 0) (dall tdX6_read 16 rfl) ?_
  refine r_aload_n C 0 (dall tdX6_read 17 rfl) rfl ?_
  refine r_iconst (v := 0) C (dall tdX6_read 18 rfl) (by decide) ?_
  refine r_put C 0 kw_X6 tyX6_ok nmX6 rfl rfl (by decide) kf_X6_184 rfl rfl rfl (by decide) (by decide) (Nat.le_of_ble_eq_true rfl) (pu_X6_this_26 cy q (oI (oI (oI (oI σ 19 (160 * a1_)) 20 ((oI σ 19 (160 * a1_)).2.2.1 2 a1_.toNatClampNeg)) 21 0) 25 0) 0) (dall tdX6_read 19 rfl) ?_
  refine r_aload_n C 0 (dall tdX6_read 20 rfl) rfl ?_
  obtain ⟨o14, ok⟩ := ok
  refine r_vV (as := []) C (zX6_next cy q (oI (oI (oI (oI (oI σ 19 (160 * a1_)) 20 ((oI σ 19 (160 * a1_)).2.2.1 2 a1_.toNatClampNeg)) 21 0) 25 0) 26 0)  o14) mv_X6_next km_X6_201 (by decide) (by decide) ⟨Nat.le_refl _, Nat.le_refl _⟩ rfl rfl rfl rfl (Nat.le_of_ble_eq_true rfl) (dall tdX6_read 21 rfl) ?_
  refine r_pick [0, 2] rfl ?_
  exact wX6_read_38 (fX6_next (oI (oI (oI (oI (oI σ 19 (160 * a1_)) 20 ((oI σ 19 (160 * a1_)).2.2.1 2 a1_.toNatClampNeg)) 21 0) 25 0) 26 0)) a2_ C hR  ok h
def fX6_read (σ : OS) (a1_ : Int32) (a2_ : Int32) : Int32 × OS := pX6_read_0  σ a1_ a2_
def gX6_read (σ : OS) (a1_ : Int32) (a2_ : Int32) : Prop := oX6_read_0  σ a1_ a2_
set_option maxRecDepth 100000 in
theorem zX6_read (cy : Nat → ClassId) (q : Nat → Nat)  {D : va_G} (σ : OS) (a1_ : Int32) (a2_ : Int32) (ok : gX6_read σ a1_ a2_)  : Con yX6_read cX6_read 6 (some .int) 41 0 0 D (gty cy) [.ref (q 41), .int a1_, .int a2_] (wX6 cy q σ) (eI (wX6 cy q (fX6_read σ a1_ a2_).2) (fX6_read σ a1_ a2_).1) :=
  Con.of (own := RX6) (by decide +kernel) rfl (Nat.le_of_ble_eq_true rfl) (Nat.zero_le _) (fun X A C hR _ => (wX6_read_0 σ a1_ a2_ C hR  ok rfl))
theorem mv_X6_read : MV yX6_read cX6_read 6 (some .int) RX6 2 := ⟨ki_X6_read, kv_X6_read, kn_X6, kc_X6_read, by decide +kernel⟩
def tbX6_says : List (Nat × Instr × Nat) := [(0, .aload_n 0, 1), (1, .aload_n 0, 1), (2, .getfield 29, 3), (5, .iconst 3, 1), (6, .iload_n 2, 1), (7, .imul, 1), (8, .iconst 1, 1), (9, .iadd, 1), (10, .iaload, 1), (11, .putfield 208, 3), (14, .aload_n 0, 1), (15, .aload_n 0, 1), (16, .getfield 29, 3), (19, .iconst 3, 1), (20, .iload_n 2, 1), (21, .imul, 1), (22, .iaload, 1), (23, .putfield 211, 3), (26, .aload_n 0, 1), (27, .aload_n 0, 1), (28, .getfield 115, 3), (31, .putfield 214, 3), (34, .aload_n 0, 1), (35, .aload_n 0, 1), (36, .getfield 32, 3), (39, .iload_n 2, 1), (40, .laload, 1), (41, .invokestatic 138, 3), (44, .putfield 217, 3), (47, .aload_n 0, 1), (48, .aload_n 0, 1), (49, .getfield 32, 3), (52, .iload_n 2, 1), (53, .laload, 1), (54, .lconst 0, 1), (55, .lcmp, 1), (56, .ifCond .ne 7, 3), (59, .iconst 0, 1), (60, .goto 15, 3), (63, .aload_n 0, 1), (64, .getfield 32, 3), (67, .iload_n 2, 1), (68, .laload, 1), (69, .invokestatic 355, 3), (72, .bipush 8, 2), (74, .idiv, 1), (75, .putfield 220, 3), (78, .aload_n 0, 1), (79, .aload_n 0, 1), (80, .getfield 358, 3), (83, .bipush 100, 2), (85, .irem, 1), (86, .putfield 223, 3), (89, .aload_n 0, 1), (90, .aload_n 0, 1), (91, .getfield 118, 3), (94, .iload_n 1, 1), (95, .invokevirtual 352, 3), (98, .iconst 0, 1), (99, .iload_n 1, 1), (100, .iconst 2, 1), (101, .if_icmp .ne 9, 3), (104, .sipush 999, 3), (107, .goto 5, 3), (110, .bipush 99, 2), (112, .invokestatic 361, 3), (115, .ireturn, 1)]
theorem tdX6_says : tbX6_says.all (fun q => decide (decode cX6_says q.1 = .ok q.2)) = true := by decide +kernel
def pX6_says_112  (σ : OS) (b0_ : Int32) (b1_ : Int32) (b2_ : Int32) : Int32 × OS := (fX6_within b2_ b1_ b0_, σ)
set_option maxHeartbeats 4000000 in
set_option maxRecDepth 100000 in
theorem wX6_says_112 {X : CX} {cy : Nat → ClassId} {q : Nat → Nat} {D : va_G} {A : Nat → Prop} {res : Int32 × OS} (σ : OS) (b0_ : Int32) (b1_ : Int32) (b2_ : Int32) (C : Cx X cX6_says RX6 3 D (gty cy) A 42 0 0) (hR : Rt X (some .int) D (gty cy) A 0 0 (eI (wX6 cy q res.2) res.1))  (h : pX6_says_112  σ b0_ b1_ b2_ = res) : At X D A 3 0 0 112 [] [.int b0_, .int b1_, .int b2_] (wX6 cy q σ) := by
  unfold pX6_says_112 at h
  refine r_s0I (as := [.int b2_, .int b1_, .int b0_]) C (zX6_within b2_ b1_ b0_ ) ms_X6_within km_X6_361 (by decide) (by decide) ⟨Nat.le_refl _, Nat.le_refl _⟩ rfl rfl (Nat.le_of_ble_eq_true rfl) (dall tdX6_says 65 rfl) ?_
  exact r_iret C hR (dall tdX6_says 66 rfl) (by subst h; exact ⟨rfl, rfl⟩)
def pX6_says_98  (σ : OS) (a1_ : Int32) (b0_ : Int32) : Int32 × OS := if a1_ = 2 then pX6_says_112  σ 999 0 b0_ else pX6_says_112  σ 99 0 b0_
set_option maxHeartbeats 4000000 in
set_option maxRecDepth 100000 in
theorem wX6_says_98 {X : CX} {cy : Nat → ClassId} {q : Nat → Nat} {D : va_G} {A : Nat → Prop} {res : Int32 × OS} (σ : OS) (a1_ : Int32) (b0_ : Int32) (C : Cx X cX6_says RX6 3 D (gty cy) A 42 0 0) (hR : Rt X (some .int) D (gty cy) A 0 0 (eI (wX6 cy q res.2) res.1))  (h : pX6_says_98  σ a1_ b0_ = res) : At X D A 3 0 0 98 [(1, .int a1_)] [.int b0_] (wX6 cy q σ) := by
  unfold pX6_says_98 at h
  refine r_iconst (v := 0) C (dall tdX6_says 58 rfl) (by decide) ?_
  refine r_iload_n C 0 (dall tdX6_says 59 rfl) rfl ?_
  refine r_iconst (v := 2) C (dall tdX6_says 60 rfl) (by decide) ?_
  refine r_icmp_ne (tgt := 110) C (dall tdX6_says 61 rfl) (by decide) (fun c1 => ?_) (fun c1 => ?_)
  · have h := (if_neg c1).symm.trans h
    refine r_bipush (v := 99) C (dall tdX6_says 64 rfl) (by decide) ?_
    refine r_pick [] rfl ?_
    exact wX6_says_112 σ 99 0 b0_ C hR  h
  · have h := (if_pos c1).symm.trans h
    refine r_sipush (v := 999) C (dall tdX6_says 62 rfl) (by decide) ?_
    refine r_goto (tgt := 112) C (dall tdX6_says 63 rfl) (by decide) ?_
    refine r_pick [] rfl ?_
    exact wX6_says_112 σ 999 0 b0_ C hR  h
def pX6_says_75  (σ : OS) (a1_ : Int32) (b0_ : Int32) : Int32 × OS := pX6_says_98  ((fX6_read (oI (oI σ 17 b0_) 18 (((oI σ 17 b0_).1 8) - ((oI σ 17 b0_).1 8) / 100 * 100)) ((oI (oI σ 17 b0_) 18 (((oI σ 17 b0_).1 8) - ((oI σ 17 b0_).1 8) / 100 * 100)).1 4) a1_).2) a1_ ((fX6_read (oI (oI σ 17 b0_) 18 (((oI σ 17 b0_).1 8) - ((oI σ 17 b0_).1 8) / 100 * 100)) ((oI (oI σ 17 b0_) 18 (((oI σ 17 b0_).1 8) - ((oI σ 17 b0_).1 8) / 100 * 100)).1 4) a1_).1)
def oX6_says_75  (σ : OS) (a1_ : Int32) (b0_ : Int32) : Prop := gX6_read (oI (oI σ 17 b0_) 18 (((oI σ 17 b0_).1 8) - ((oI σ 17 b0_).1 8) / 100 * 100)) ((oI (oI σ 17 b0_) 18 (((oI σ 17 b0_).1 8) - ((oI σ 17 b0_).1 8) / 100 * 100)).1 4) a1_
set_option maxHeartbeats 4000000 in
set_option maxRecDepth 100000 in
theorem wX6_says_75 {X : CX} {cy : Nat → ClassId} {q : Nat → Nat} {D : va_G} {A : Nat → Prop} {res : Int32 × OS} (σ : OS) (a1_ : Int32) (b0_ : Int32) (C : Cx X cX6_says RX6 3 D (gty cy) A 42 0 0) (hR : Rt X (some .int) D (gty cy) A 0 0 (eI (wX6 cy q res.2) res.1))  (ok : oX6_says_75  σ a1_ b0_) (h : pX6_says_75  σ a1_ b0_ = res) : At X D A 3 0 0 75 [(0, .ref (q 41)), (1, .int a1_)] [.int b0_, .ref (q 41)] (wX6 cy q σ) := by
  unfold pX6_says_75 at h
  unfold oX6_says_75 at ok
  refine r_put C 0 kw_X6 tyX6_ok nmX6 rfl rfl (by decide) kf_X6_220 rfl rfl rfl rfl rfl (Nat.le_of_ble_eq_true rfl) (pu_X6_this_17 cy q σ b0_) (dall tdX6_says 46 rfl) ?_
  refine r_aload_n C 0 (dall tdX6_says 47 rfl) rfl ?_
  refine r_aload_n C 0 (dall tdX6_says 48 rfl) rfl ?_
  refine r_get C 0 kw_X6 rfl rfl (by decide) kf_X6_358 rfl rfl (dall tdX6_says 49 rfl) ?_
  refine r_bipush (v := 100) C (dall tdX6_says 50 rfl) (by decide) ?_
  refine r_irem C (dall tdX6_says 51 rfl) (by decide) ?_
  refine r_put C 0 kw_X6 tyX6_ok nmX6 rfl rfl (by decide) kf_X6_223 rfl rfl rfl rfl rfl (Nat.le_of_ble_eq_true rfl) (pu_X6_this_18 cy q (oI σ 17 b0_) (((oI σ 17 b0_).1 8) - ((oI σ 17 b0_).1 8) / 100 * 100)) (dall tdX6_says 52 rfl) ?_
  refine r_aload_n C 0 (dall tdX6_says 53 rfl) rfl ?_
  refine r_aload_n C 0 (dall tdX6_says 54 rfl) rfl ?_
  refine r_get C 0 kw_X6 rfl rfl (by decide) kf_X6_118 rfl rfl (dall tdX6_says 55 rfl) ?_
  refine r_iload_n C 1 (dall tdX6_says 56 rfl) rfl ?_
  have o2 := ok
  refine r_vI (as := [.int ((oI (oI σ 17 b0_) 18 (((oI σ 17 b0_).1 8) - ((oI σ 17 b0_).1 8) / 100 * 100)).1 4), .int a1_]) C (zX6_read cy q (oI (oI σ 17 b0_) 18 (((oI σ 17 b0_).1 8) - ((oI σ 17 b0_).1 8) / 100 * 100)) ((oI (oI σ 17 b0_) 18 (((oI σ 17 b0_).1 8) - ((oI σ 17 b0_).1 8) / 100 * 100)).1 4) a1_ o2) mv_X6_read km_X6_352 (by decide) (by decide) ⟨Nat.le_refl _, Nat.le_refl _⟩ rfl rfl rfl rfl (Nat.le_of_ble_eq_true rfl) (dall tdX6_says 57 rfl) ?_
  refine r_pick [1] rfl ?_
  exact wX6_says_98 ((fX6_read (oI (oI σ 17 b0_) 18 (((oI σ 17 b0_).1 8) - ((oI σ 17 b0_).1 8) / 100 * 100)) ((oI (oI σ 17 b0_) 18 (((oI σ 17 b0_).1 8) - ((oI σ 17 b0_).1 8) / 100 * 100)).1 4) a1_).2) a1_ ((fX6_read (oI (oI σ 17 b0_) 18 (((oI σ 17 b0_).1 8) - ((oI σ 17 b0_).1 8) / 100 * 100)) ((oI (oI σ 17 b0_) 18 (((oI σ 17 b0_).1 8) - ((oI σ 17 b0_).1 8) / 100 * 100)).1 4) a1_).1) C hR  h
def pX6_says_0  (σ : OS) (a1_ : Int32) (a2_ : Int32) : Int32 × OS := if ((oI (oI (oI (oI σ 13 (σ.2.2.1 10 ((3 * a2_) + 1).toNatClampNeg)) 14 ((oI σ 13 (σ.2.2.1 10 ((3 * a2_) + 1).toNatClampNeg)).2.2.1 10 (3 * a2_).toNatClampNeg)) 15 ((oI (oI σ 13 (σ.2.2.1 10 ((3 * a2_) + 1).toNatClampNeg)) 14 ((oI σ 13 (σ.2.2.1 10 ((3 * a2_) + 1).toNatClampNeg)).2.2.1 10 (3 * a2_).toNatClampNeg)).1 7)) 16 (fX6_bitsOf ((oI (oI (oI σ 13 (σ.2.2.1 10 ((3 * a2_) + 1).toNatClampNeg)) 14 ((oI σ 13 (σ.2.2.1 10 ((3 * a2_) + 1).toNatClampNeg)).2.2.1 10 (3 * a2_).toNatClampNeg)) 15 ((oI (oI σ 13 (σ.2.2.1 10 ((3 * a2_) + 1).toNatClampNeg)) 14 ((oI σ 13 (σ.2.2.1 10 ((3 * a2_) + 1).toNatClampNeg)).2.2.1 10 (3 * a2_).toNatClampNeg)).1 7)).2.2.2 11 a2_.toNatClampNeg))).2.2.2 11 a2_.toNatClampNeg) = 0 then pX6_says_75  (oI (oI (oI (oI σ 13 (σ.2.2.1 10 ((3 * a2_) + 1).toNatClampNeg)) 14 ((oI σ 13 (σ.2.2.1 10 ((3 * a2_) + 1).toNatClampNeg)).2.2.1 10 (3 * a2_).toNatClampNeg)) 15 ((oI (oI σ 13 (σ.2.2.1 10 ((3 * a2_) + 1).toNatClampNeg)) 14 ((oI σ 13 (σ.2.2.1 10 ((3 * a2_) + 1).toNatClampNeg)).2.2.1 10 (3 * a2_).toNatClampNeg)).1 7)) 16 (fX6_bitsOf ((oI (oI (oI σ 13 (σ.2.2.1 10 ((3 * a2_) + 1).toNatClampNeg)) 14 ((oI σ 13 (σ.2.2.1 10 ((3 * a2_) + 1).toNatClampNeg)).2.2.1 10 (3 * a2_).toNatClampNeg)) 15 ((oI (oI σ 13 (σ.2.2.1 10 ((3 * a2_) + 1).toNatClampNeg)) 14 ((oI σ 13 (σ.2.2.1 10 ((3 * a2_) + 1).toNatClampNeg)).2.2.1 10 (3 * a2_).toNatClampNeg)).1 7)).2.2.2 11 a2_.toNatClampNeg))) a1_ 0 else pX6_says_75  (oI (oI (oI (oI σ 13 (σ.2.2.1 10 ((3 * a2_) + 1).toNatClampNeg)) 14 ((oI σ 13 (σ.2.2.1 10 ((3 * a2_) + 1).toNatClampNeg)).2.2.1 10 (3 * a2_).toNatClampNeg)) 15 ((oI (oI σ 13 (σ.2.2.1 10 ((3 * a2_) + 1).toNatClampNeg)) 14 ((oI σ 13 (σ.2.2.1 10 ((3 * a2_) + 1).toNatClampNeg)).2.2.1 10 (3 * a2_).toNatClampNeg)).1 7)) 16 (fX6_bitsOf ((oI (oI (oI σ 13 (σ.2.2.1 10 ((3 * a2_) + 1).toNatClampNeg)) 14 ((oI σ 13 (σ.2.2.1 10 ((3 * a2_) + 1).toNatClampNeg)).2.2.1 10 (3 * a2_).toNatClampNeg)) 15 ((oI (oI σ 13 (σ.2.2.1 10 ((3 * a2_) + 1).toNatClampNeg)) 14 ((oI σ 13 (σ.2.2.1 10 ((3 * a2_) + 1).toNatClampNeg)).2.2.1 10 (3 * a2_).toNatClampNeg)).1 7)).2.2.2 11 a2_.toNatClampNeg))) a1_ ((fX6_greatest ((oI (oI (oI (oI σ 13 (σ.2.2.1 10 ((3 * a2_) + 1).toNatClampNeg)) 14 ((oI σ 13 (σ.2.2.1 10 ((3 * a2_) + 1).toNatClampNeg)).2.2.1 10 (3 * a2_).toNatClampNeg)) 15 ((oI (oI σ 13 (σ.2.2.1 10 ((3 * a2_) + 1).toNatClampNeg)) 14 ((oI σ 13 (σ.2.2.1 10 ((3 * a2_) + 1).toNatClampNeg)).2.2.1 10 (3 * a2_).toNatClampNeg)).1 7)) 16 (fX6_bitsOf ((oI (oI (oI σ 13 (σ.2.2.1 10 ((3 * a2_) + 1).toNatClampNeg)) 14 ((oI σ 13 (σ.2.2.1 10 ((3 * a2_) + 1).toNatClampNeg)).2.2.1 10 (3 * a2_).toNatClampNeg)) 15 ((oI (oI σ 13 (σ.2.2.1 10 ((3 * a2_) + 1).toNatClampNeg)) 14 ((oI σ 13 (σ.2.2.1 10 ((3 * a2_) + 1).toNatClampNeg)).2.2.1 10 (3 * a2_).toNatClampNeg)).1 7)).2.2.2 11 a2_.toNatClampNeg))).2.2.2 11 a2_.toNatClampNeg)) / 8)
def oX6_says_0  (σ : OS) (a1_ : Int32) (a2_ : Int32) : Prop := (vp_in ((3 * a2_) + 1) 15) ∧ ((vp_in (3 * a2_) 15) ∧ ((vp_in a2_ 5) ∧ ((gX6_bitsOf ((oI (oI (oI σ 13 (σ.2.2.1 10 ((3 * a2_) + 1).toNatClampNeg)) 14 ((oI σ 13 (σ.2.2.1 10 ((3 * a2_) + 1).toNatClampNeg)).2.2.1 10 (3 * a2_).toNatClampNeg)) 15 ((oI (oI σ 13 (σ.2.2.1 10 ((3 * a2_) + 1).toNatClampNeg)) 14 ((oI σ 13 (σ.2.2.1 10 ((3 * a2_) + 1).toNatClampNeg)).2.2.1 10 (3 * a2_).toNatClampNeg)).1 7)).2.2.2 11 a2_.toNatClampNeg)) ∧ ((vp_in a2_ 5) ∧ ((((oI (oI (oI (oI σ 13 (σ.2.2.1 10 ((3 * a2_) + 1).toNatClampNeg)) 14 ((oI σ 13 (σ.2.2.1 10 ((3 * a2_) + 1).toNatClampNeg)).2.2.1 10 (3 * a2_).toNatClampNeg)) 15 ((oI (oI σ 13 (σ.2.2.1 10 ((3 * a2_) + 1).toNatClampNeg)) 14 ((oI σ 13 (σ.2.2.1 10 ((3 * a2_) + 1).toNatClampNeg)).2.2.1 10 (3 * a2_).toNatClampNeg)).1 7)) 16 (fX6_bitsOf ((oI (oI (oI σ 13 (σ.2.2.1 10 ((3 * a2_) + 1).toNatClampNeg)) 14 ((oI σ 13 (σ.2.2.1 10 ((3 * a2_) + 1).toNatClampNeg)).2.2.1 10 (3 * a2_).toNatClampNeg)) 15 ((oI (oI σ 13 (σ.2.2.1 10 ((3 * a2_) + 1).toNatClampNeg)) 14 ((oI σ 13 (σ.2.2.1 10 ((3 * a2_) + 1).toNatClampNeg)).2.2.1 10 (3 * a2_).toNatClampNeg)).1 7)).2.2.2 11 a2_.toNatClampNeg))).2.2.2 11 a2_.toNatClampNeg) = 0 → oX6_says_75  (oI (oI (oI (oI σ 13 (σ.2.2.1 10 ((3 * a2_) + 1).toNatClampNeg)) 14 ((oI σ 13 (σ.2.2.1 10 ((3 * a2_) + 1).toNatClampNeg)).2.2.1 10 (3 * a2_).toNatClampNeg)) 15 ((oI (oI σ 13 (σ.2.2.1 10 ((3 * a2_) + 1).toNatClampNeg)) 14 ((oI σ 13 (σ.2.2.1 10 ((3 * a2_) + 1).toNatClampNeg)).2.2.1 10 (3 * a2_).toNatClampNeg)).1 7)) 16 (fX6_bitsOf ((oI (oI (oI σ 13 (σ.2.2.1 10 ((3 * a2_) + 1).toNatClampNeg)) 14 ((oI σ 13 (σ.2.2.1 10 ((3 * a2_) + 1).toNatClampNeg)).2.2.1 10 (3 * a2_).toNatClampNeg)) 15 ((oI (oI σ 13 (σ.2.2.1 10 ((3 * a2_) + 1).toNatClampNeg)) 14 ((oI σ 13 (σ.2.2.1 10 ((3 * a2_) + 1).toNatClampNeg)).2.2.1 10 (3 * a2_).toNatClampNeg)).1 7)).2.2.2 11 a2_.toNatClampNeg))) a1_ 0) ∧ (¬ (((oI (oI (oI (oI σ 13 (σ.2.2.1 10 ((3 * a2_) + 1).toNatClampNeg)) 14 ((oI σ 13 (σ.2.2.1 10 ((3 * a2_) + 1).toNatClampNeg)).2.2.1 10 (3 * a2_).toNatClampNeg)) 15 ((oI (oI σ 13 (σ.2.2.1 10 ((3 * a2_) + 1).toNatClampNeg)) 14 ((oI σ 13 (σ.2.2.1 10 ((3 * a2_) + 1).toNatClampNeg)).2.2.1 10 (3 * a2_).toNatClampNeg)).1 7)) 16 (fX6_bitsOf ((oI (oI (oI σ 13 (σ.2.2.1 10 ((3 * a2_) + 1).toNatClampNeg)) 14 ((oI σ 13 (σ.2.2.1 10 ((3 * a2_) + 1).toNatClampNeg)).2.2.1 10 (3 * a2_).toNatClampNeg)) 15 ((oI (oI σ 13 (σ.2.2.1 10 ((3 * a2_) + 1).toNatClampNeg)) 14 ((oI σ 13 (σ.2.2.1 10 ((3 * a2_) + 1).toNatClampNeg)).2.2.1 10 (3 * a2_).toNatClampNeg)).1 7)).2.2.2 11 a2_.toNatClampNeg))).2.2.2 11 a2_.toNatClampNeg) = 0) → (vp_in a2_ 5) ∧ ((gX6_greatest ((oI (oI (oI (oI σ 13 (σ.2.2.1 10 ((3 * a2_) + 1).toNatClampNeg)) 14 ((oI σ 13 (σ.2.2.1 10 ((3 * a2_) + 1).toNatClampNeg)).2.2.1 10 (3 * a2_).toNatClampNeg)) 15 ((oI (oI σ 13 (σ.2.2.1 10 ((3 * a2_) + 1).toNatClampNeg)) 14 ((oI σ 13 (σ.2.2.1 10 ((3 * a2_) + 1).toNatClampNeg)).2.2.1 10 (3 * a2_).toNatClampNeg)).1 7)) 16 (fX6_bitsOf ((oI (oI (oI σ 13 (σ.2.2.1 10 ((3 * a2_) + 1).toNatClampNeg)) 14 ((oI σ 13 (σ.2.2.1 10 ((3 * a2_) + 1).toNatClampNeg)).2.2.1 10 (3 * a2_).toNatClampNeg)) 15 ((oI (oI σ 13 (σ.2.2.1 10 ((3 * a2_) + 1).toNatClampNeg)) 14 ((oI σ 13 (σ.2.2.1 10 ((3 * a2_) + 1).toNatClampNeg)).2.2.1 10 (3 * a2_).toNatClampNeg)).1 7)).2.2.2 11 a2_.toNatClampNeg))).2.2.2 11 a2_.toNatClampNeg)) ∧ (oX6_says_75  (oI (oI (oI (oI σ 13 (σ.2.2.1 10 ((3 * a2_) + 1).toNatClampNeg)) 14 ((oI σ 13 (σ.2.2.1 10 ((3 * a2_) + 1).toNatClampNeg)).2.2.1 10 (3 * a2_).toNatClampNeg)) 15 ((oI (oI σ 13 (σ.2.2.1 10 ((3 * a2_) + 1).toNatClampNeg)) 14 ((oI σ 13 (σ.2.2.1 10 ((3 * a2_) + 1).toNatClampNeg)).2.2.1 10 (3 * a2_).toNatClampNeg)).1 7)) 16 (fX6_bitsOf ((oI (oI (oI σ 13 (σ.2.2.1 10 ((3 * a2_) + 1).toNatClampNeg)) 14 ((oI σ 13 (σ.2.2.1 10 ((3 * a2_) + 1).toNatClampNeg)).2.2.1 10 (3 * a2_).toNatClampNeg)) 15 ((oI (oI σ 13 (σ.2.2.1 10 ((3 * a2_) + 1).toNatClampNeg)) 14 ((oI σ 13 (σ.2.2.1 10 ((3 * a2_) + 1).toNatClampNeg)).2.2.1 10 (3 * a2_).toNatClampNeg)).1 7)).2.2.2 11 a2_.toNatClampNeg))) a1_ ((fX6_greatest ((oI (oI (oI (oI σ 13 (σ.2.2.1 10 ((3 * a2_) + 1).toNatClampNeg)) 14 ((oI σ 13 (σ.2.2.1 10 ((3 * a2_) + 1).toNatClampNeg)).2.2.1 10 (3 * a2_).toNatClampNeg)) 15 ((oI (oI σ 13 (σ.2.2.1 10 ((3 * a2_) + 1).toNatClampNeg)) 14 ((oI σ 13 (σ.2.2.1 10 ((3 * a2_) + 1).toNatClampNeg)).2.2.1 10 (3 * a2_).toNatClampNeg)).1 7)) 16 (fX6_bitsOf ((oI (oI (oI σ 13 (σ.2.2.1 10 ((3 * a2_) + 1).toNatClampNeg)) 14 ((oI σ 13 (σ.2.2.1 10 ((3 * a2_) + 1).toNatClampNeg)).2.2.1 10 (3 * a2_).toNatClampNeg)) 15 ((oI (oI σ 13 (σ.2.2.1 10 ((3 * a2_) + 1).toNatClampNeg)) 14 ((oI σ 13 (σ.2.2.1 10 ((3 * a2_) + 1).toNatClampNeg)).2.2.1 10 (3 * a2_).toNatClampNeg)).1 7)).2.2.2 11 a2_.toNatClampNeg))).2.2.2 11 a2_.toNatClampNeg)) / 8)))))))))
set_option maxHeartbeats 4000000 in
set_option maxRecDepth 100000 in
theorem wX6_says_0 {X : CX} {cy : Nat → ClassId} {q : Nat → Nat} {D : va_G} {A : Nat → Prop} {res : Int32 × OS} (σ : OS) (a1_ : Int32) (a2_ : Int32) (C : Cx X cX6_says RX6 3 D (gty cy) A 42 0 0) (hR : Rt X (some .int) D (gty cy) A 0 0 (eI (wX6 cy q res.2) res.1))  (ok : oX6_says_0  σ a1_ a2_) (h : pX6_says_0  σ a1_ a2_ = res) : At X D A 3 0 0 0 [(0, .ref (q 41)), (1, .int a1_), (2, .int a2_)] [] (wX6 cy q σ) := by
  unfold pX6_says_0 at h
  unfold oX6_says_0 at ok
  refine r_aload_n C 0 (dall tdX6_says 0 rfl) rfl ?_
  refine r_aload_n C 0 (dall tdX6_says 1 rfl) rfl ?_
  refine r_get C 0 kw_X6 rfl rfl (by decide) kf_X6_29 rfl rfl (dall tdX6_says 2 rfl) ?_
  refine r_iconst (v := 3) C (dall tdX6_says 3 rfl) (by decide) ?_
  refine r_iload_n C 2 (dall tdX6_says 4 rfl) rfl ?_
  refine r_imul C (dall tdX6_says 5 rfl) ?_
  refine r_iconst (v := 1) C (dall tdX6_says 6 rfl) (by decide) ?_
  refine r_iadd C (dall tdX6_says 7 rfl) ?_
  obtain ⟨o3, ok⟩ := ok
  refine r_iald C 4 0 rfl rfl o3 (dall tdX6_says 8 rfl) ?_
  refine r_put C 0 kw_X6 tyX6_ok nmX6 rfl rfl (by decide) kf_X6_208 rfl rfl rfl rfl rfl (Nat.le_of_ble_eq_true rfl) (pu_X6_this_13 cy q σ (σ.2.2.1 10 ((3 * a2_) + 1).toNatClampNeg)) (dall tdX6_says 9 rfl) ?_
  refine r_aload_n C 0 (dall tdX6_says 10 rfl) rfl ?_
  refine r_aload_n C 0 (dall tdX6_says 11 rfl) rfl ?_
  refine r_get C 0 kw_X6 rfl rfl (by decide) kf_X6_29 rfl rfl (dall tdX6_says 12 rfl) ?_
  refine r_iconst (v := 3) C (dall tdX6_says 13 rfl) (by decide) ?_
  refine r_iload_n C 2 (dall tdX6_says 14 rfl) rfl ?_
  refine r_imul C (dall tdX6_says 15 rfl) ?_
  obtain ⟨o4, ok⟩ := ok
  refine r_iald C 4 0 rfl rfl o4 (dall tdX6_says 16 rfl) ?_
  refine r_put C 0 kw_X6 tyX6_ok nmX6 rfl rfl (by decide) kf_X6_211 rfl rfl rfl rfl rfl (Nat.le_of_ble_eq_true rfl) (pu_X6_this_14 cy q (oI σ 13 (σ.2.2.1 10 ((3 * a2_) + 1).toNatClampNeg)) ((oI σ 13 (σ.2.2.1 10 ((3 * a2_) + 1).toNatClampNeg)).2.2.1 10 (3 * a2_).toNatClampNeg)) (dall tdX6_says 17 rfl) ?_
  refine r_aload_n C 0 (dall tdX6_says 18 rfl) rfl ?_
  refine r_aload_n C 0 (dall tdX6_says 19 rfl) rfl ?_
  refine r_get C 0 kw_X6 rfl rfl (by decide) kf_X6_115 rfl rfl (dall tdX6_says 20 rfl) ?_
  refine r_put C 0 kw_X6 tyX6_ok nmX6 rfl rfl (by decide) kf_X6_214 rfl rfl rfl rfl rfl (Nat.le_of_ble_eq_true rfl) (pu_X6_this_15 cy q (oI (oI σ 13 (σ.2.2.1 10 ((3 * a2_) + 1).toNatClampNeg)) 14 ((oI σ 13 (σ.2.2.1 10 ((3 * a2_) + 1).toNatClampNeg)).2.2.1 10 (3 * a2_).toNatClampNeg)) ((oI (oI σ 13 (σ.2.2.1 10 ((3 * a2_) + 1).toNatClampNeg)) 14 ((oI σ 13 (σ.2.2.1 10 ((3 * a2_) + 1).toNatClampNeg)).2.2.1 10 (3 * a2_).toNatClampNeg)).1 7)) (dall tdX6_says 21 rfl) ?_
  refine r_aload_n C 0 (dall tdX6_says 22 rfl) rfl ?_
  refine r_aload_n C 0 (dall tdX6_says 23 rfl) rfl ?_
  refine r_get C 0 kw_X6 rfl rfl (by decide) kf_X6_32 rfl rfl (dall tdX6_says 24 rfl) ?_
  refine r_iload_n C 2 (dall tdX6_says 25 rfl) rfl ?_
  obtain ⟨o5, ok⟩ := ok
  refine r_lald C 5 1 rfl rfl o5 (dall tdX6_says 26 rfl) ?_
  obtain ⟨o6, ok⟩ := ok
  refine r_s0I (as := [.long ((oI (oI (oI σ 13 (σ.2.2.1 10 ((3 * a2_) + 1).toNatClampNeg)) 14 ((oI σ 13 (σ.2.2.1 10 ((3 * a2_) + 1).toNatClampNeg)).2.2.1 10 (3 * a2_).toNatClampNeg)) 15 ((oI (oI σ 13 (σ.2.2.1 10 ((3 * a2_) + 1).toNatClampNeg)) 14 ((oI σ 13 (σ.2.2.1 10 ((3 * a2_) + 1).toNatClampNeg)).2.2.1 10 (3 * a2_).toNatClampNeg)).1 7)).2.2.2 11 a2_.toNatClampNeg)]) C (zX6_bitsOf ((oI (oI (oI σ 13 (σ.2.2.1 10 ((3 * a2_) + 1).toNatClampNeg)) 14 ((oI σ 13 (σ.2.2.1 10 ((3 * a2_) + 1).toNatClampNeg)).2.2.1 10 (3 * a2_).toNatClampNeg)) 15 ((oI (oI σ 13 (σ.2.2.1 10 ((3 * a2_) + 1).toNatClampNeg)) 14 ((oI σ 13 (σ.2.2.1 10 ((3 * a2_) + 1).toNatClampNeg)).2.2.1 10 (3 * a2_).toNatClampNeg)).1 7)).2.2.2 11 a2_.toNatClampNeg) o6) ms_X6_bitsOf km_X6_138 (by decide) (by decide) ⟨Nat.le_refl _, Nat.le_refl _⟩ rfl rfl (Nat.le_of_ble_eq_true rfl) (dall tdX6_says 27 rfl) ?_
  refine r_put C 0 kw_X6 tyX6_ok nmX6 rfl rfl (by decide) kf_X6_217 rfl rfl rfl rfl rfl (Nat.le_of_ble_eq_true rfl) (pu_X6_this_16 cy q (oI (oI (oI σ 13 (σ.2.2.1 10 ((3 * a2_) + 1).toNatClampNeg)) 14 ((oI σ 13 (σ.2.2.1 10 ((3 * a2_) + 1).toNatClampNeg)).2.2.1 10 (3 * a2_).toNatClampNeg)) 15 ((oI (oI σ 13 (σ.2.2.1 10 ((3 * a2_) + 1).toNatClampNeg)) 14 ((oI σ 13 (σ.2.2.1 10 ((3 * a2_) + 1).toNatClampNeg)).2.2.1 10 (3 * a2_).toNatClampNeg)).1 7)) (fX6_bitsOf ((oI (oI (oI σ 13 (σ.2.2.1 10 ((3 * a2_) + 1).toNatClampNeg)) 14 ((oI σ 13 (σ.2.2.1 10 ((3 * a2_) + 1).toNatClampNeg)).2.2.1 10 (3 * a2_).toNatClampNeg)) 15 ((oI (oI σ 13 (σ.2.2.1 10 ((3 * a2_) + 1).toNatClampNeg)) 14 ((oI σ 13 (σ.2.2.1 10 ((3 * a2_) + 1).toNatClampNeg)).2.2.1 10 (3 * a2_).toNatClampNeg)).1 7)).2.2.2 11 a2_.toNatClampNeg))) (dall tdX6_says 28 rfl) ?_
  refine r_aload_n C 0 (dall tdX6_says 29 rfl) rfl ?_
  refine r_aload_n C 0 (dall tdX6_says 30 rfl) rfl ?_
  refine r_get C 0 kw_X6 rfl rfl (by decide) kf_X6_32 rfl rfl (dall tdX6_says 31 rfl) ?_
  refine r_iload_n C 2 (dall tdX6_says 32 rfl) rfl ?_
  obtain ⟨o7, ok⟩ := ok
  refine r_lald C 5 1 rfl rfl o7 (dall tdX6_says 33 rfl) ?_
  refine r_lconst (v := 0) C (dall tdX6_says 34 rfl) (by decide) ?_
  refine r_lif_ne (tgt := 63) C (dall tdX6_says 35 rfl) (dall tdX6_says 36 rfl) (by decide) (fun c8 => ?_) (fun c8 => ?_)
  · have h := (if_neg c8).symm.trans h
    have ok := ok.2 c8
    refine r_aload_n C 0 (dall tdX6_says 39 rfl) rfl ?_
    refine r_get C 0 kw_X6 rfl rfl (by decide) kf_X6_32 rfl rfl (dall tdX6_says 40 rfl) ?_
    refine r_iload_n C 2 (dall tdX6_says 41 rfl) rfl ?_
    obtain ⟨o9, ok⟩ := ok
    refine r_lald C 5 1 rfl rfl o9 (dall tdX6_says 42 rfl) ?_
    obtain ⟨o10, ok⟩ := ok
    refine r_s0I (as := [.long ((oI (oI (oI (oI σ 13 (σ.2.2.1 10 ((3 * a2_) + 1).toNatClampNeg)) 14 ((oI σ 13 (σ.2.2.1 10 ((3 * a2_) + 1).toNatClampNeg)).2.2.1 10 (3 * a2_).toNatClampNeg)) 15 ((oI (oI σ 13 (σ.2.2.1 10 ((3 * a2_) + 1).toNatClampNeg)) 14 ((oI σ 13 (σ.2.2.1 10 ((3 * a2_) + 1).toNatClampNeg)).2.2.1 10 (3 * a2_).toNatClampNeg)).1 7)) 16 (fX6_bitsOf ((oI (oI (oI σ 13 (σ.2.2.1 10 ((3 * a2_) + 1).toNatClampNeg)) 14 ((oI σ 13 (σ.2.2.1 10 ((3 * a2_) + 1).toNatClampNeg)).2.2.1 10 (3 * a2_).toNatClampNeg)) 15 ((oI (oI σ 13 (σ.2.2.1 10 ((3 * a2_) + 1).toNatClampNeg)) 14 ((oI σ 13 (σ.2.2.1 10 ((3 * a2_) + 1).toNatClampNeg)).2.2.1 10 (3 * a2_).toNatClampNeg)).1 7)).2.2.2 11 a2_.toNatClampNeg))).2.2.2 11 a2_.toNatClampNeg)]) C (zX6_greatest ((oI (oI (oI (oI σ 13 (σ.2.2.1 10 ((3 * a2_) + 1).toNatClampNeg)) 14 ((oI σ 13 (σ.2.2.1 10 ((3 * a2_) + 1).toNatClampNeg)).2.2.1 10 (3 * a2_).toNatClampNeg)) 15 ((oI (oI σ 13 (σ.2.2.1 10 ((3 * a2_) + 1).toNatClampNeg)) 14 ((oI σ 13 (σ.2.2.1 10 ((3 * a2_) + 1).toNatClampNeg)).2.2.1 10 (3 * a2_).toNatClampNeg)).1 7)) 16 (fX6_bitsOf ((oI (oI (oI σ 13 (σ.2.2.1 10 ((3 * a2_) + 1).toNatClampNeg)) 14 ((oI σ 13 (σ.2.2.1 10 ((3 * a2_) + 1).toNatClampNeg)).2.2.1 10 (3 * a2_).toNatClampNeg)) 15 ((oI (oI σ 13 (σ.2.2.1 10 ((3 * a2_) + 1).toNatClampNeg)) 14 ((oI σ 13 (σ.2.2.1 10 ((3 * a2_) + 1).toNatClampNeg)).2.2.1 10 (3 * a2_).toNatClampNeg)).1 7)).2.2.2 11 a2_.toNatClampNeg))).2.2.2 11 a2_.toNatClampNeg) o10) ms_X6_greatest km_X6_355 (by decide) (by decide) ⟨Nat.le_refl _, Nat.le_refl _⟩ rfl rfl (Nat.le_of_ble_eq_true rfl) (dall tdX6_says 43 rfl) ?_
    refine r_bipush (v := 8) C (dall tdX6_says 44 rfl) (by decide) ?_
    refine r_idiv C (dall tdX6_says 45 rfl) (by decide) ?_
    refine r_pick [0, 1] rfl ?_
    exact wX6_says_75 (oI (oI (oI (oI σ 13 (σ.2.2.1 10 ((3 * a2_) + 1).toNatClampNeg)) 14 ((oI σ 13 (σ.2.2.1 10 ((3 * a2_) + 1).toNatClampNeg)).2.2.1 10 (3 * a2_).toNatClampNeg)) 15 ((oI (oI σ 13 (σ.2.2.1 10 ((3 * a2_) + 1).toNatClampNeg)) 14 ((oI σ 13 (σ.2.2.1 10 ((3 * a2_) + 1).toNatClampNeg)).2.2.1 10 (3 * a2_).toNatClampNeg)).1 7)) 16 (fX6_bitsOf ((oI (oI (oI σ 13 (σ.2.2.1 10 ((3 * a2_) + 1).toNatClampNeg)) 14 ((oI σ 13 (σ.2.2.1 10 ((3 * a2_) + 1).toNatClampNeg)).2.2.1 10 (3 * a2_).toNatClampNeg)) 15 ((oI (oI σ 13 (σ.2.2.1 10 ((3 * a2_) + 1).toNatClampNeg)) 14 ((oI σ 13 (σ.2.2.1 10 ((3 * a2_) + 1).toNatClampNeg)).2.2.1 10 (3 * a2_).toNatClampNeg)).1 7)).2.2.2 11 a2_.toNatClampNeg))) a1_ ((fX6_greatest ((oI (oI (oI (oI σ 13 (σ.2.2.1 10 ((3 * a2_) + 1).toNatClampNeg)) 14 ((oI σ 13 (σ.2.2.1 10 ((3 * a2_) + 1).toNatClampNeg)).2.2.1 10 (3 * a2_).toNatClampNeg)) 15 ((oI (oI σ 13 (σ.2.2.1 10 ((3 * a2_) + 1).toNatClampNeg)) 14 ((oI σ 13 (σ.2.2.1 10 ((3 * a2_) + 1).toNatClampNeg)).2.2.1 10 (3 * a2_).toNatClampNeg)).1 7)) 16 (fX6_bitsOf ((oI (oI (oI σ 13 (σ.2.2.1 10 ((3 * a2_) + 1).toNatClampNeg)) 14 ((oI σ 13 (σ.2.2.1 10 ((3 * a2_) + 1).toNatClampNeg)).2.2.1 10 (3 * a2_).toNatClampNeg)) 15 ((oI (oI σ 13 (σ.2.2.1 10 ((3 * a2_) + 1).toNatClampNeg)) 14 ((oI σ 13 (σ.2.2.1 10 ((3 * a2_) + 1).toNatClampNeg)).2.2.1 10 (3 * a2_).toNatClampNeg)).1 7)).2.2.2 11 a2_.toNatClampNeg))).2.2.2 11 a2_.toNatClampNeg)) / 8) C hR  ok h
  · have h := (if_pos c8).symm.trans h
    have ok := ok.1 c8
    refine r_iconst (v := 0) C (dall tdX6_says 37 rfl) (by decide) ?_
    refine r_goto (tgt := 75) C (dall tdX6_says 38 rfl) (by decide) ?_
    refine r_pick [0, 1] rfl ?_
    exact wX6_says_75 (oI (oI (oI (oI σ 13 (σ.2.2.1 10 ((3 * a2_) + 1).toNatClampNeg)) 14 ((oI σ 13 (σ.2.2.1 10 ((3 * a2_) + 1).toNatClampNeg)).2.2.1 10 (3 * a2_).toNatClampNeg)) 15 ((oI (oI σ 13 (σ.2.2.1 10 ((3 * a2_) + 1).toNatClampNeg)) 14 ((oI σ 13 (σ.2.2.1 10 ((3 * a2_) + 1).toNatClampNeg)).2.2.1 10 (3 * a2_).toNatClampNeg)).1 7)) 16 (fX6_bitsOf ((oI (oI (oI σ 13 (σ.2.2.1 10 ((3 * a2_) + 1).toNatClampNeg)) 14 ((oI σ 13 (σ.2.2.1 10 ((3 * a2_) + 1).toNatClampNeg)).2.2.1 10 (3 * a2_).toNatClampNeg)) 15 ((oI (oI σ 13 (σ.2.2.1 10 ((3 * a2_) + 1).toNatClampNeg)) 14 ((oI σ 13 (σ.2.2.1 10 ((3 * a2_) + 1).toNatClampNeg)).2.2.1 10 (3 * a2_).toNatClampNeg)).1 7)).2.2.2 11 a2_.toNatClampNeg))) a1_ 0 C hR  ok h
def fX6_says (σ : OS) (a1_ : Int32) (a2_ : Int32) : Int32 × OS := pX6_says_0  σ a1_ a2_
def gX6_says (σ : OS) (a1_ : Int32) (a2_ : Int32) : Prop := oX6_says_0  σ a1_ a2_
set_option maxRecDepth 100000 in
theorem zX6_says (cy : Nat → ClassId) (q : Nat → Nat)  {D : va_G} (σ : OS) (a1_ : Int32) (a2_ : Int32) (ok : gX6_says σ a1_ a2_)  : Con yX6_says cX6_says 3 (some .int) 42 0 0 D (gty cy) [.ref (q 41), .int a1_, .int a2_] (wX6 cy q σ) (eI (wX6 cy q (fX6_says σ a1_ a2_).2) (fX6_says σ a1_ a2_).1) :=
  Con.of (own := RX6) (by decide +kernel) rfl (Nat.le_of_ble_eq_true rfl) (Nat.zero_le _) (fun X A C hR _ => (wX6_says_0 σ a1_ a2_ C hR  ok rfl))
theorem mv_X6_says : MV yX6_says cX6_says 3 (some .int) RX6 2 := ⟨ki_X6_says, kv_X6_says, kn_X6, kc_X6_says, by decide +kernel⟩
def tbX6_holdsOf : List (Nat × Instr × Nat) := [(0, .aload_n 0, 1), (1, .getfield 29, 3), (4, .iconst 3, 1), (5, .iload_n 1, 1), (6, .imul, 1), (7, .iconst 2, 1), (8, .iadd, 1), (9, .iaload, 1), (10, .istore_n 2, 1), (11, .iload_n 2, 1), (12, .iconst 5, 1), (13, .if_icmp .eq 21, 3), (16, .iload_n 2, 1), (17, .iconst 4, 1), (18, .if_icmp .ne 28, 3), (21, .aload_n 0, 1), (22, .getfield 29, 3), (25, .iconst 3, 1), (26, .iload_n 1, 1), (27, .imul, 1), (28, .iconst 1, 1), (29, .iadd, 1), (30, .iaload, 1), (31, .ifCond .ne 15, 3), (34, .iload_n 2, 1), (35, .iconst 5, 1), (36, .if_icmp .ne 8, 3), (39, .bipush 64, 2), (41, .goto 4, 3), (44, .iconst 0, 1), (45, .ireturn, 1), (46, .aload_n 0, 1), (47, .iconst 0, 1), (48, .iload_n 1, 1), (49, .invokevirtual 365, 3), (52, .istore_n 3, 1), (53, .aload_n 0, 1), (54, .getfield 115, 3), (57, .bipush 10, 2), (59, .if_icmp .ge 9, 3), (62, .iload_n 3, 1), (63, .iconst 4, 1), (64, .iadd, 1), (65, .goto 4, 3), (68, .iload_n 3, 1), (69, .iconst 0, 1), (70, .bipush 64, 2), (72, .invokestatic 361, 3), (75, .istore 4, 2), (77, .iload 4, 2), (79, .aload_n 0, 1), (80, .getfield 29, 3), (83, .iconst 3, 1), (84, .iload_n 1, 1), (85, .imul, 1), (86, .iaload, 1), (87, .if_icmp .ge 14, 3), (90, .aload_n 0, 1), (91, .getfield 29, 3), (94, .iconst 3, 1), (95, .iload_n 1, 1), (96, .imul, 1), (97, .iaload, 1), (98, .goto 5, 3), (101, .iload 4, 2), (103, .istore 5, 2), (105, .iload_n 2, 1), (106, .iconst 1, 1), (107, .if_icmp .ne 8, 3), (110, .iload 4, 2), (112, .goto 30, 3), (115, .iload_n 2, 1), (116, .iconst 3, 1), (117, .if_icmp .ne 8, 3), (120, .iload 5, 2), (122, .goto 20, 3), (125, .iload_n 2, 1), (126, .iconst 2, 1), (127, .if_icmp .eq 8, 3), (130, .iload_n 2, 1), (131, .iconst 4, 1), (132, .if_icmp .ne 9, 3), (135, .iconst 2, 1), (136, .iload_n 3, 1), (137, .imul, 1), (138, .goto 4, 3), (141, .iload_n 3, 1), (142, .iconst 0, 1), (143, .bipush 64, 2), (145, .invokestatic 361, 3), (148, .ireturn, 1)]
theorem tdX6_holdsOf : tbX6_holdsOf.all (fun q => decide (decode cX6_holdsOf q.1 = .ok q.2)) = true := by decide +kernel
def pX6_holdsOf_34  (σ : OS) (a2_ : Int32) : Int32 × OS := if a2_ = 5 then (64, σ) else (0, σ)
set_option maxHeartbeats 4000000 in
set_option maxRecDepth 100000 in
theorem wX6_holdsOf_34 {X : CX} {cy : Nat → ClassId} {q : Nat → Nat} {D : va_G} {A : Nat → Prop} {res : Int32 × OS} (σ : OS) (a2_ : Int32) (C : Cx X cX6_holdsOf RX6 6 D (gty cy) A 43 0 0) (hR : Rt X (some .int) D (gty cy) A 0 0 (eI (wX6 cy q res.2) res.1))  (h : pX6_holdsOf_34  σ a2_ = res) : At X D A 6 0 0 34 [(2, .int a2_)] [] (wX6 cy q σ) := by
  unfold pX6_holdsOf_34 at h
  refine r_iload_n C 0 (dall tdX6_holdsOf 24 rfl) rfl ?_
  refine r_iconst (v := 5) C (dall tdX6_holdsOf 25 rfl) (by decide) ?_
  refine r_icmp_ne (tgt := 44) C (dall tdX6_holdsOf 26 rfl) (by decide) (fun c1 => ?_) (fun c1 => ?_)
  · have h := (if_neg c1).symm.trans h
    refine r_iconst (v := 0) C (dall tdX6_holdsOf 29 rfl) (by decide) ?_
    exact r_iret C hR (dall tdX6_holdsOf 30 rfl) (by subst h; exact ⟨rfl, rfl⟩)
  · have h := (if_pos c1).symm.trans h
    refine r_bipush (v := 64) C (dall tdX6_holdsOf 27 rfl) (by decide) ?_
    refine r_goto (tgt := 45) C (dall tdX6_holdsOf 28 rfl) (by decide) ?_
    exact r_iret C hR (dall tdX6_holdsOf 30 rfl) (by subst h; exact ⟨rfl, rfl⟩)
def pX6_holdsOf_142  (σ : OS) (b0_ : Int32) : Int32 × OS := (fX6_within b0_ 0 64, σ)
set_option maxHeartbeats 4000000 in
set_option maxRecDepth 100000 in
theorem wX6_holdsOf_142 {X : CX} {cy : Nat → ClassId} {q : Nat → Nat} {D : va_G} {A : Nat → Prop} {res : Int32 × OS} (σ : OS) (b0_ : Int32) (C : Cx X cX6_holdsOf RX6 6 D (gty cy) A 43 0 0) (hR : Rt X (some .int) D (gty cy) A 0 0 (eI (wX6 cy q res.2) res.1))  (h : pX6_holdsOf_142  σ b0_ = res) : At X D A 6 0 0 142 [] [.int b0_] (wX6 cy q σ) := by
  unfold pX6_holdsOf_142 at h
  refine r_iconst (v := 0) C (dall tdX6_holdsOf 87 rfl) (by decide) ?_
  refine r_bipush (v := 64) C (dall tdX6_holdsOf 88 rfl) (by decide) ?_
  refine r_s0I (as := [.int b0_, .int 0, .int 64]) C (zX6_within b0_ 0 64 ) ms_X6_within km_X6_361 (by decide) (by decide) ⟨Nat.le_refl _, Nat.le_refl _⟩ rfl rfl (Nat.le_of_ble_eq_true rfl) (dall tdX6_holdsOf 89 rfl) ?_
  exact r_iret C hR (dall tdX6_holdsOf 90 rfl) (by subst h; exact ⟨rfl, rfl⟩)
def pX6_holdsOf_135  (σ : OS) (a3_ : Int32) : Int32 × OS := pX6_holdsOf_142  σ (2 * a3_)
set_option maxHeartbeats 4000000 in
set_option maxRecDepth 100000 in
theorem wX6_holdsOf_135 {X : CX} {cy : Nat → ClassId} {q : Nat → Nat} {D : va_G} {A : Nat → Prop} {res : Int32 × OS} (σ : OS) (a3_ : Int32) (C : Cx X cX6_holdsOf RX6 6 D (gty cy) A 43 0 0) (hR : Rt X (some .int) D (gty cy) A 0 0 (eI (wX6 cy q res.2) res.1))  (h : pX6_holdsOf_135  σ a3_ = res) : At X D A 6 0 0 135 [(3, .int a3_)] [] (wX6 cy q σ) := by
  unfold pX6_holdsOf_135 at h
  refine r_iconst (v := 2) C (dall tdX6_holdsOf 82 rfl) (by decide) ?_
  refine r_iload_n C 0 (dall tdX6_holdsOf 83 rfl) rfl ?_
  refine r_imul C (dall tdX6_holdsOf 84 rfl) ?_
  refine r_goto (tgt := 142) C (dall tdX6_holdsOf 85 rfl) (by decide) ?_
  refine r_pick [] rfl ?_
  exact wX6_holdsOf_142 σ (2 * a3_) C hR  h
def pX6_holdsOf_103  (σ : OS) (a2_ : Int32) (a3_ : Int32) (a4_ : Int32) (b0_ : Int32) : Int32 × OS := if a2_ = 1 then pX6_holdsOf_142  σ a4_ else if a2_ = 3 then pX6_holdsOf_142  σ b0_ else if a2_ = 2 then pX6_holdsOf_135  σ a3_ else if a2_ = 4 then pX6_holdsOf_135  σ a3_ else pX6_holdsOf_142  σ a3_
set_option maxHeartbeats 4000000 in
set_option maxRecDepth 100000 in
theorem wX6_holdsOf_103 {X : CX} {cy : Nat → ClassId} {q : Nat → Nat} {D : va_G} {A : Nat → Prop} {res : Int32 × OS} (σ : OS) (a2_ : Int32) (a3_ : Int32) (a4_ : Int32) (b0_ : Int32) (C : Cx X cX6_holdsOf RX6 6 D (gty cy) A 43 0 0) (hR : Rt X (some .int) D (gty cy) A 0 0 (eI (wX6 cy q res.2) res.1))  (h : pX6_holdsOf_103  σ a2_ a3_ a4_ b0_ = res) : At X D A 6 0 0 103 [(2, .int a2_), (3, .int a3_), (4, .int a4_)] [.int b0_] (wX6 cy q σ) := by
  unfold pX6_holdsOf_103 at h
  refine r_istore (lv' := [(5, .int b0_), (2, .int a2_), (3, .int a3_), (4, .int a4_)]) C (dall tdX6_holdsOf 65 rfl) (by decide) rfl ?_
  refine r_iload_n C 1 (dall tdX6_holdsOf 66 rfl) rfl ?_
  refine r_iconst (v := 1) C (dall tdX6_holdsOf 67 rfl) (by decide) ?_
  refine r_icmp_ne (tgt := 115) C (dall tdX6_holdsOf 68 rfl) (by decide) (fun c2 => ?_) (fun c2 => ?_)
  · have h := (if_neg c2).symm.trans h
    refine r_iload_n C 1 (dall tdX6_holdsOf 71 rfl) rfl ?_
    refine r_iconst (v := 3) C (dall tdX6_holdsOf 72 rfl) (by decide) ?_
    refine r_icmp_ne (tgt := 125) C (dall tdX6_holdsOf 73 rfl) (by decide) (fun c3 => ?_) (fun c3 => ?_)
    · have h := (if_neg c3).symm.trans h
      refine r_iload_n C 1 (dall tdX6_holdsOf 76 rfl) rfl ?_
      refine r_iconst (v := 2) C (dall tdX6_holdsOf 77 rfl) (by decide) ?_
      refine r_icmp_eq (tgt := 135) C (dall tdX6_holdsOf 78 rfl) (by decide) (fun c4 => ?_) (fun c4 => ?_)
      · have h := (if_pos c4).symm.trans h
        refine r_pick [2] rfl ?_
        exact wX6_holdsOf_135 σ a3_ C hR  h
      · have h := (if_neg c4).symm.trans h
        refine r_iload_n C 1 (dall tdX6_holdsOf 79 rfl) rfl ?_
        refine r_iconst (v := 4) C (dall tdX6_holdsOf 80 rfl) (by decide) ?_
        refine r_icmp_ne (tgt := 141) C (dall tdX6_holdsOf 81 rfl) (by decide) (fun c5 => ?_) (fun c5 => ?_)
        · have h := (if_neg c5).symm.trans h
          refine r_iload_n C 2 (dall tdX6_holdsOf 86 rfl) rfl ?_
          refine r_pick [] rfl ?_
          exact wX6_holdsOf_142 σ a3_ C hR  h
        · have h := (if_pos c5).symm.trans h
          refine r_pick [2] rfl ?_
          exact wX6_holdsOf_135 σ a3_ C hR  h
    · have h := (if_pos c3).symm.trans h
      refine r_iload C 0 (dall tdX6_holdsOf 74 rfl) rfl ?_
      refine r_goto (tgt := 142) C (dall tdX6_holdsOf 75 rfl) (by decide) ?_
      refine r_pick [] rfl ?_
      exact wX6_holdsOf_142 σ b0_ C hR  h
  · have h := (if_pos c2).symm.trans h
    refine r_iload C 3 (dall tdX6_holdsOf 69 rfl) rfl ?_
    refine r_goto (tgt := 142) C (dall tdX6_holdsOf 70 rfl) (by decide) ?_
    refine r_pick [] rfl ?_
    exact wX6_holdsOf_142 σ a4_ C hR  h
def pX6_holdsOf_69  (σ : OS) (a1_ : Int32) (a2_ : Int32) (a3_ : Int32) (b0_ : Int32) : Int32 × OS := if (σ.2.2.1 10 (3 * a1_).toNatClampNeg) ≤ (fX6_within b0_ 0 64) then pX6_holdsOf_103  σ a2_ a3_ (fX6_within b0_ 0 64) (fX6_within b0_ 0 64) else pX6_holdsOf_103  σ a2_ a3_ (fX6_within b0_ 0 64) (σ.2.2.1 10 (3 * a1_).toNatClampNeg)
def oX6_holdsOf_69  (σ : OS) (a1_ : Int32) (a2_ : Int32) (a3_ : Int32) (b0_ : Int32) : Prop := (vp_in (3 * a1_) 15) ∧ (((σ.2.2.1 10 (3 * a1_).toNatClampNeg) ≤ (fX6_within b0_ 0 64) → True) ∧ (¬ ((σ.2.2.1 10 (3 * a1_).toNatClampNeg) ≤ (fX6_within b0_ 0 64)) → vp_in (3 * a1_) 15))
set_option maxHeartbeats 4000000 in
set_option maxRecDepth 100000 in
theorem wX6_holdsOf_69 {X : CX} {cy : Nat → ClassId} {q : Nat → Nat} {D : va_G} {A : Nat → Prop} {res : Int32 × OS} (σ : OS) (a1_ : Int32) (a2_ : Int32) (a3_ : Int32) (b0_ : Int32) (C : Cx X cX6_holdsOf RX6 6 D (gty cy) A 43 0 0) (hR : Rt X (some .int) D (gty cy) A 0 0 (eI (wX6 cy q res.2) res.1))  (ok : oX6_holdsOf_69  σ a1_ a2_ a3_ b0_) (h : pX6_holdsOf_69  σ a1_ a2_ a3_ b0_ = res) : At X D A 6 0 0 69 [(0, .ref (q 41)), (1, .int a1_), (2, .int a2_), (3, .int a3_)] [.int b0_] (wX6 cy q σ) := by
  unfold pX6_holdsOf_69 at h
  unfold oX6_holdsOf_69 at ok
  refine r_iconst (v := 0) C (dall tdX6_holdsOf 45 rfl) (by decide) ?_
  refine r_bipush (v := 64) C (dall tdX6_holdsOf 46 rfl) (by decide) ?_
  refine r_s0I (as := [.int b0_, .int 0, .int 64]) C (zX6_within b0_ 0 64 ) ms_X6_within km_X6_361 (by decide) (by decide) ⟨Nat.le_refl _, Nat.le_refl _⟩ rfl rfl (Nat.le_of_ble_eq_true rfl) (dall tdX6_holdsOf 47 rfl) ?_
  refine r_istore (lv' := [(4, .int (fX6_within b0_ 0 64)), (0, .ref (q 41)), (1, .int a1_), (2, .int a2_), (3, .int a3_)]) C (dall tdX6_holdsOf 48 rfl) (by decide) rfl ?_
  refine r_iload C 0 (dall tdX6_holdsOf 49 rfl) rfl ?_
  refine r_aload_n C 1 (dall tdX6_holdsOf 50 rfl) rfl ?_
  refine r_get C 0 kw_X6 rfl rfl (by decide) kf_X6_29 rfl rfl (dall tdX6_holdsOf 51 rfl) ?_
  refine r_iconst (v := 3) C (dall tdX6_holdsOf 52 rfl) (by decide) ?_
  refine r_iload_n C 2 (dall tdX6_holdsOf 53 rfl) rfl ?_
  refine r_imul C (dall tdX6_holdsOf 54 rfl) ?_
  obtain ⟨o6, ok⟩ := ok
  refine r_iald C 4 0 rfl rfl o6 (dall tdX6_holdsOf 55 rfl) ?_
  refine r_icmp_ge (tgt := 101) C (dall tdX6_holdsOf 56 rfl) (by decide) (fun c7 => ?_) (fun c7 => ?_)
  · have h := (if_pos c7).symm.trans h
    have ok := ok.1 c7
    refine r_iload C 0 (dall tdX6_holdsOf 64 rfl) rfl ?_
    refine r_pick [3, 4, 0] rfl ?_
    exact wX6_holdsOf_103 σ a2_ a3_ (fX6_within b0_ 0 64) (fX6_within b0_ 0 64) C hR  h
  · have h := (if_neg c7).symm.trans h
    have ok := ok.2 c7
    refine r_aload_n C 1 (dall tdX6_holdsOf 57 rfl) rfl ?_
    refine r_get C 0 kw_X6 rfl rfl (by decide) kf_X6_29 rfl rfl (dall tdX6_holdsOf 58 rfl) ?_
    refine r_iconst (v := 3) C (dall tdX6_holdsOf 59 rfl) (by decide) ?_
    refine r_iload_n C 2 (dall tdX6_holdsOf 60 rfl) rfl ?_
    refine r_imul C (dall tdX6_holdsOf 61 rfl) ?_
    have o8 := ok
    refine r_iald C 4 0 rfl rfl o8 (dall tdX6_holdsOf 62 rfl) ?_
    refine r_goto (tgt := 103) C (dall tdX6_holdsOf 63 rfl) (by decide) ?_
    refine r_pick [3, 4, 0] rfl ?_
    exact wX6_holdsOf_103 σ a2_ a3_ (fX6_within b0_ 0 64) (σ.2.2.1 10 (3 * a1_).toNatClampNeg) C hR  h
def pX6_holdsOf_52  (σ : OS) (a1_ : Int32) (a2_ : Int32) (b0_ : Int32) : Int32 × OS := if 10 ≤ (σ.1 7) then pX6_holdsOf_69  σ a1_ a2_ b0_ b0_ else pX6_holdsOf_69  σ a1_ a2_ b0_ (b0_ + 4)
def oX6_holdsOf_52  (σ : OS) (a1_ : Int32) (a2_ : Int32) (b0_ : Int32) : Prop := (10 ≤ (σ.1 7) → oX6_holdsOf_69  σ a1_ a2_ b0_ b0_) ∧ (¬ (10 ≤ (σ.1 7)) → oX6_holdsOf_69  σ a1_ a2_ b0_ (b0_ + 4))
set_option maxHeartbeats 4000000 in
set_option maxRecDepth 100000 in
theorem wX6_holdsOf_52 {X : CX} {cy : Nat → ClassId} {q : Nat → Nat} {D : va_G} {A : Nat → Prop} {res : Int32 × OS} (σ : OS) (a1_ : Int32) (a2_ : Int32) (b0_ : Int32) (C : Cx X cX6_holdsOf RX6 6 D (gty cy) A 43 0 0) (hR : Rt X (some .int) D (gty cy) A 0 0 (eI (wX6 cy q res.2) res.1))  (ok : oX6_holdsOf_52  σ a1_ a2_ b0_) (h : pX6_holdsOf_52  σ a1_ a2_ b0_ = res) : At X D A 6 0 0 52 [(0, .ref (q 41)), (1, .int a1_), (2, .int a2_)] [.int b0_] (wX6 cy q σ) := by
  unfold pX6_holdsOf_52 at h
  unfold oX6_holdsOf_52 at ok
  refine r_istore_n (lv' := [(3, .int b0_), (0, .ref (q 41)), (1, .int a1_), (2, .int a2_)]) C (dall tdX6_holdsOf 35 rfl) (by decide) rfl ?_
  refine r_aload_n C 1 (dall tdX6_holdsOf 36 rfl) rfl ?_
  refine r_get C 0 kw_X6 rfl rfl (by decide) kf_X6_115 rfl rfl (dall tdX6_holdsOf 37 rfl) ?_
  refine r_bipush (v := 10) C (dall tdX6_holdsOf 38 rfl) (by decide) ?_
  refine r_icmp_ge (tgt := 68) C (dall tdX6_holdsOf 39 rfl) (by decide) (fun c9 => ?_) (fun c9 => ?_)
  · have h := (if_pos c9).symm.trans h
    have ok := ok.1 c9
    refine r_iload_n C 0 (dall tdX6_holdsOf 44 rfl) rfl ?_
    refine r_pick [1, 2, 3, 0] rfl ?_
    exact wX6_holdsOf_69 σ a1_ a2_ b0_ b0_ C hR  ok h
  · have h := (if_neg c9).symm.trans h
    have ok := ok.2 c9
    refine r_iload_n C 0 (dall tdX6_holdsOf 40 rfl) rfl ?_
    refine r_iconst (v := 4) C (dall tdX6_holdsOf 41 rfl) (by decide) ?_
    refine r_iadd C (dall tdX6_holdsOf 42 rfl) ?_
    refine r_goto (tgt := 69) C (dall tdX6_holdsOf 43 rfl) (by decide) ?_
    refine r_pick [1, 2, 3, 0] rfl ?_
    exact wX6_holdsOf_69 σ a1_ a2_ b0_ (b0_ + 4) C hR  ok h
def pX6_holdsOf_46  (σ : OS) (a1_ : Int32) (a2_ : Int32) : Int32 × OS := pX6_holdsOf_52  ((fX6_says σ 0 a1_).2) a1_ a2_ ((fX6_says σ 0 a1_).1)
def oX6_holdsOf_46  (σ : OS) (a1_ : Int32) (a2_ : Int32) : Prop := (gX6_says σ 0 a1_) ∧ (oX6_holdsOf_52  ((fX6_says σ 0 a1_).2) a1_ a2_ ((fX6_says σ 0 a1_).1))
set_option maxHeartbeats 4000000 in
set_option maxRecDepth 100000 in
theorem wX6_holdsOf_46 {X : CX} {cy : Nat → ClassId} {q : Nat → Nat} {D : va_G} {A : Nat → Prop} {res : Int32 × OS} (σ : OS) (a1_ : Int32) (a2_ : Int32) (C : Cx X cX6_holdsOf RX6 6 D (gty cy) A 43 0 0) (hR : Rt X (some .int) D (gty cy) A 0 0 (eI (wX6 cy q res.2) res.1))  (ok : oX6_holdsOf_46  σ a1_ a2_) (h : pX6_holdsOf_46  σ a1_ a2_ = res) : At X D A 6 0 0 46 [(0, .ref (q 41)), (1, .int a1_), (2, .int a2_)] [] (wX6 cy q σ) := by
  unfold pX6_holdsOf_46 at h
  unfold oX6_holdsOf_46 at ok
  refine r_aload_n C 0 (dall tdX6_holdsOf 31 rfl) rfl ?_
  refine r_iconst (v := 0) C (dall tdX6_holdsOf 32 rfl) (by decide) ?_
  refine r_iload_n C 1 (dall tdX6_holdsOf 33 rfl) rfl ?_
  obtain ⟨o10, ok⟩ := ok
  refine r_vI (as := [.int 0, .int a1_]) C (zX6_says cy q σ 0 a1_ o10) mv_X6_says km_X6_365 (by decide) (by decide) ⟨Nat.le_refl _, Nat.le_refl _⟩ rfl rfl rfl rfl (Nat.le_of_ble_eq_true rfl) (dall tdX6_holdsOf 34 rfl) ?_
  exact wX6_holdsOf_52 ((fX6_says σ 0 a1_).2) a1_ a2_ ((fX6_says σ 0 a1_).1) C hR  ok h
def pX6_holdsOf_0  (σ : OS) (a1_ : Int32) : Int32 × OS := if (σ.2.2.1 10 ((3 * a1_) + 2).toNatClampNeg) = 5 then pX6_holdsOf_34  σ (σ.2.2.1 10 ((3 * a1_) + 2).toNatClampNeg) else if (σ.2.2.1 10 ((3 * a1_) + 2).toNatClampNeg) = 4 then if (σ.2.2.1 10 ((3 * a1_) + 1).toNatClampNeg) = 0 then pX6_holdsOf_34  σ (σ.2.2.1 10 ((3 * a1_) + 2).toNatClampNeg) else pX6_holdsOf_46  σ a1_ (σ.2.2.1 10 ((3 * a1_) + 2).toNatClampNeg) else pX6_holdsOf_46  σ a1_ (σ.2.2.1 10 ((3 * a1_) + 2).toNatClampNeg)
def oX6_holdsOf_0  (σ : OS) (a1_ : Int32) : Prop := (vp_in ((3 * a1_) + 2) 15) ∧ (((σ.2.2.1 10 ((3 * a1_) + 2).toNatClampNeg) = 5 → True) ∧ (¬ ((σ.2.2.1 10 ((3 * a1_) + 2).toNatClampNeg) = 5) → ((σ.2.2.1 10 ((3 * a1_) + 2).toNatClampNeg) = 4 → (vp_in ((3 * a1_) + 1) 15) ∧ (((σ.2.2.1 10 ((3 * a1_) + 1).toNatClampNeg) = 0 → True) ∧ (¬ ((σ.2.2.1 10 ((3 * a1_) + 1).toNatClampNeg) = 0) → oX6_holdsOf_46  σ a1_ (σ.2.2.1 10 ((3 * a1_) + 2).toNatClampNeg)))) ∧ (¬ ((σ.2.2.1 10 ((3 * a1_) + 2).toNatClampNeg) = 4) → oX6_holdsOf_46  σ a1_ (σ.2.2.1 10 ((3 * a1_) + 2).toNatClampNeg))))
set_option maxHeartbeats 4000000 in
set_option maxRecDepth 100000 in
theorem wX6_holdsOf_0 {X : CX} {cy : Nat → ClassId} {q : Nat → Nat} {D : va_G} {A : Nat → Prop} {res : Int32 × OS} (σ : OS) (a1_ : Int32) (C : Cx X cX6_holdsOf RX6 6 D (gty cy) A 43 0 0) (hR : Rt X (some .int) D (gty cy) A 0 0 (eI (wX6 cy q res.2) res.1))  (ok : oX6_holdsOf_0  σ a1_) (h : pX6_holdsOf_0  σ a1_ = res) : At X D A 6 0 0 0 [(0, .ref (q 41)), (1, .int a1_)] [] (wX6 cy q σ) := by
  unfold pX6_holdsOf_0 at h
  unfold oX6_holdsOf_0 at ok
  refine r_aload_n C 0 (dall tdX6_holdsOf 0 rfl) rfl ?_
  refine r_get C 0 kw_X6 rfl rfl (by decide) kf_X6_29 rfl rfl (dall tdX6_holdsOf 1 rfl) ?_
  refine r_iconst (v := 3) C (dall tdX6_holdsOf 2 rfl) (by decide) ?_
  refine r_iload_n C 1 (dall tdX6_holdsOf 3 rfl) rfl ?_
  refine r_imul C (dall tdX6_holdsOf 4 rfl) ?_
  refine r_iconst (v := 2) C (dall tdX6_holdsOf 5 rfl) (by decide) ?_
  refine r_iadd C (dall tdX6_holdsOf 6 rfl) ?_
  obtain ⟨o11, ok⟩ := ok
  refine r_iald C 4 0 rfl rfl o11 (dall tdX6_holdsOf 7 rfl) ?_
  refine r_istore_n (lv' := [(2, .int (σ.2.2.1 10 ((3 * a1_) + 2).toNatClampNeg)), (0, .ref (q 41)), (1, .int a1_)]) C (dall tdX6_holdsOf 8 rfl) (by decide) rfl ?_
  refine r_iload_n C 0 (dall tdX6_holdsOf 9 rfl) rfl ?_
  refine r_iconst (v := 5) C (dall tdX6_holdsOf 10 rfl) (by decide) ?_
  refine r_icmp_eq (tgt := 34) C (dall tdX6_holdsOf 11 rfl) (by decide) (fun c12 => ?_) (fun c12 => ?_)
  · have h := (if_pos c12).symm.trans h
    have ok := ok.1 c12
    refine r_pick [0] rfl ?_
    exact wX6_holdsOf_34 σ (σ.2.2.1 10 ((3 * a1_) + 2).toNatClampNeg) C hR  h
  · have h := (if_neg c12).symm.trans h
    have ok := ok.2 c12
    refine r_iload_n C 0 (dall tdX6_holdsOf 12 rfl) rfl ?_
    refine r_iconst (v := 4) C (dall tdX6_holdsOf 13 rfl) (by decide) ?_
    refine r_icmp_ne (tgt := 46) C (dall tdX6_holdsOf 14 rfl) (by decide) (fun c13 => ?_) (fun c13 => ?_)
    · have h := (if_neg c13).symm.trans h
      have ok := ok.2 c13
      refine r_pick [1, 2, 0] rfl ?_
      exact wX6_holdsOf_46 σ a1_ (σ.2.2.1 10 ((3 * a1_) + 2).toNatClampNeg) C hR  ok h
    · have h := (if_pos c13).symm.trans h
      have ok := ok.1 c13
      refine r_aload_n C 1 (dall tdX6_holdsOf 15 rfl) rfl ?_
      refine r_get C 0 kw_X6 rfl rfl (by decide) kf_X6_29 rfl rfl (dall tdX6_holdsOf 16 rfl) ?_
      refine r_iconst (v := 3) C (dall tdX6_holdsOf 17 rfl) (by decide) ?_
      refine r_iload_n C 2 (dall tdX6_holdsOf 18 rfl) rfl ?_
      refine r_imul C (dall tdX6_holdsOf 19 rfl) ?_
      refine r_iconst (v := 1) C (dall tdX6_holdsOf 20 rfl) (by decide) ?_
      refine r_iadd C (dall tdX6_holdsOf 21 rfl) ?_
      obtain ⟨o14, ok⟩ := ok
      refine r_iald C 4 0 rfl rfl o14 (dall tdX6_holdsOf 22 rfl) ?_
      refine r_if_ne (tgt := 46) C (dall tdX6_holdsOf 23 rfl) (by decide) (fun c15 => ?_) (fun c15 => ?_)
      · have h := (if_neg c15).symm.trans h
        have ok := ok.2 c15
        refine r_pick [1, 2, 0] rfl ?_
        exact wX6_holdsOf_46 σ a1_ (σ.2.2.1 10 ((3 * a1_) + 2).toNatClampNeg) C hR  ok h
      · have h := (if_pos c15).symm.trans h
        have ok := ok.1 c15
        refine r_pick [0] rfl ?_
        exact wX6_holdsOf_34 σ (σ.2.2.1 10 ((3 * a1_) + 2).toNatClampNeg) C hR  h
def fX6_holdsOf (σ : OS) (a1_ : Int32) : Int32 × OS := pX6_holdsOf_0  σ a1_
def gX6_holdsOf (σ : OS) (a1_ : Int32) : Prop := oX6_holdsOf_0  σ a1_
set_option maxRecDepth 100000 in
theorem zX6_holdsOf (cy : Nat → ClassId) (q : Nat → Nat)  {D : va_G} (σ : OS) (a1_ : Int32) (ok : gX6_holdsOf σ a1_)  : Con yX6_holdsOf cX6_holdsOf 6 (some .int) 43 0 0 D (gty cy) [.ref (q 41), .int a1_] (wX6 cy q σ) (eI (wX6 cy q (fX6_holdsOf σ a1_).2) (fX6_holdsOf σ a1_).1) :=
  Con.of (own := RX6) (by decide +kernel) rfl (Nat.le_of_ble_eq_true rfl) (Nat.zero_le _) (fun X A C hR _ => (wX6_holdsOf_0 σ a1_ C hR  ok rfl))
theorem mv_X6_holdsOf : MV yX6_holdsOf cX6_holdsOf 6 (some .int) RX6 1 := ⟨ki_X6_holdsOf, kv_X6_holdsOf, kn_X6, kc_X6_holdsOf, by decide +kernel⟩
def tbX6_fadesOf : List (Nat × Instr × Nat) := [(0, .aload_n 0, 1), (1, .getfield 29, 3), (4, .iconst 3, 1), (5, .iload_n 1, 1), (6, .imul, 1), (7, .iconst 2, 1), (8, .iadd, 1), (9, .iaload, 1), (10, .istore_n 2, 1), (11, .iload_n 2, 1), (12, .iconst 5, 1), (13, .if_icmp .eq 17, 3), (16, .iload_n 2, 1), (17, .iconst 4, 1), (18, .if_icmp .ne 14, 3), (21, .aload_n 0, 1), (22, .getfield 115, 3), (25, .iconst 2, 1), (26, .irem, 1), (27, .ifCond .ne 5, 3), (30, .iconst 0, 1), (31, .ireturn, 1), (32, .aload_n 0, 1), (33, .iconst 1, 1), (34, .iload_n 1, 1), (35, .invokevirtual 365, 3), (38, .istore_n 3, 1), (39, .aload_n 0, 1), (40, .getfield 29, 3), (43, .iconst 3, 1), (44, .iload_n 1, 1), (45, .imul, 1), (46, .iaload, 1), (47, .ifCond .ne 7, 3), (50, .iconst 0, 1), (51, .goto 4, 3), (54, .iload_n 3, 1), (55, .istore 4, 2), (57, .iload_n 2, 1), (58, .iconst 1, 1), (59, .if_icmp .ne 8, 3), (62, .iload 4, 2), (64, .goto 32, 3), (67, .iload_n 2, 1), (68, .iconst 3, 1), (69, .if_icmp .ne 10, 3), (72, .iload 4, 2), (74, .iconst 1, 1), (75, .iadd, 1), (76, .goto 20, 3), (79, .iload_n 2, 1), (80, .iconst 2, 1), (81, .if_icmp .eq 8, 3), (84, .iload_n 2, 1), (85, .iconst 4, 1), (86, .if_icmp .ne 9, 3), (89, .iload_n 3, 1), (90, .iconst 2, 1), (91, .idiv, 1), (92, .goto 4, 3), (95, .iload_n 3, 1), (96, .iconst 0, 1), (97, .bipush 99, 2), (99, .invokestatic 361, 3), (102, .ireturn, 1)]
theorem tdX6_fadesOf : tbX6_fadesOf.all (fun q => decide (decode cX6_fadesOf q.1 = .ok q.2)) = true := by decide +kernel
def pX6_fadesOf_96  (σ : OS) (b0_ : Int32) : Int32 × OS := (fX6_within b0_ 0 99, σ)
set_option maxHeartbeats 4000000 in
set_option maxRecDepth 100000 in
theorem wX6_fadesOf_96 {X : CX} {cy : Nat → ClassId} {q : Nat → Nat} {D : va_G} {A : Nat → Prop} {res : Int32 × OS} (σ : OS) (b0_ : Int32) (C : Cx X cX6_fadesOf RX6 5 D (gty cy) A 43 0 0) (hR : Rt X (some .int) D (gty cy) A 0 0 (eI (wX6 cy q res.2) res.1))  (h : pX6_fadesOf_96  σ b0_ = res) : At X D A 5 0 0 96 [] [.int b0_] (wX6 cy q σ) := by
  unfold pX6_fadesOf_96 at h
  refine r_iconst (v := 0) C (dall tdX6_fadesOf 61 rfl) (by decide) ?_
  refine r_bipush (v := 99) C (dall tdX6_fadesOf 62 rfl) (by decide) ?_
  refine r_s0I (as := [.int b0_, .int 0, .int 99]) C (zX6_within b0_ 0 99 ) ms_X6_within km_X6_361 (by decide) (by decide) ⟨Nat.le_refl _, Nat.le_refl _⟩ rfl rfl (Nat.le_of_ble_eq_true rfl) (dall tdX6_fadesOf 63 rfl) ?_
  exact r_iret C hR (dall tdX6_fadesOf 64 rfl) (by subst h; exact ⟨rfl, rfl⟩)
def pX6_fadesOf_89  (σ : OS) (a3_ : Int32) : Int32 × OS := pX6_fadesOf_96  σ (a3_ / 2)
set_option maxHeartbeats 4000000 in
set_option maxRecDepth 100000 in
theorem wX6_fadesOf_89 {X : CX} {cy : Nat → ClassId} {q : Nat → Nat} {D : va_G} {A : Nat → Prop} {res : Int32 × OS} (σ : OS) (a3_ : Int32) (C : Cx X cX6_fadesOf RX6 5 D (gty cy) A 43 0 0) (hR : Rt X (some .int) D (gty cy) A 0 0 (eI (wX6 cy q res.2) res.1))  (h : pX6_fadesOf_89  σ a3_ = res) : At X D A 5 0 0 89 [(3, .int a3_)] [] (wX6 cy q σ) := by
  unfold pX6_fadesOf_89 at h
  refine r_iload_n C 0 (dall tdX6_fadesOf 56 rfl) rfl ?_
  refine r_iconst (v := 2) C (dall tdX6_fadesOf 57 rfl) (by decide) ?_
  refine r_idiv C (dall tdX6_fadesOf 58 rfl) (by decide) ?_
  refine r_goto (tgt := 96) C (dall tdX6_fadesOf 59 rfl) (by decide) ?_
  refine r_pick [] rfl ?_
  exact wX6_fadesOf_96 σ (a3_ / 2) C hR  h
def pX6_fadesOf_55  (σ : OS) (a2_ : Int32) (a3_ : Int32) (b0_ : Int32) : Int32 × OS := if a2_ = 1 then pX6_fadesOf_96  σ b0_ else if a2_ = 3 then pX6_fadesOf_96  σ (b0_ + 1) else if a2_ = 2 then pX6_fadesOf_89  σ a3_ else if a2_ = 4 then pX6_fadesOf_89  σ a3_ else pX6_fadesOf_96  σ a3_
set_option maxHeartbeats 4000000 in
set_option maxRecDepth 100000 in
theorem wX6_fadesOf_55 {X : CX} {cy : Nat → ClassId} {q : Nat → Nat} {D : va_G} {A : Nat → Prop} {res : Int32 × OS} (σ : OS) (a2_ : Int32) (a3_ : Int32) (b0_ : Int32) (C : Cx X cX6_fadesOf RX6 5 D (gty cy) A 43 0 0) (hR : Rt X (some .int) D (gty cy) A 0 0 (eI (wX6 cy q res.2) res.1))  (h : pX6_fadesOf_55  σ a2_ a3_ b0_ = res) : At X D A 5 0 0 55 [(2, .int a2_), (3, .int a3_)] [.int b0_] (wX6 cy q σ) := by
  unfold pX6_fadesOf_55 at h
  refine r_istore (lv' := [(4, .int b0_), (2, .int a2_), (3, .int a3_)]) C (dall tdX6_fadesOf 37 rfl) (by decide) rfl ?_
  refine r_iload_n C 1 (dall tdX6_fadesOf 38 rfl) rfl ?_
  refine r_iconst (v := 1) C (dall tdX6_fadesOf 39 rfl) (by decide) ?_
  refine r_icmp_ne (tgt := 67) C (dall tdX6_fadesOf 40 rfl) (by decide) (fun c1 => ?_) (fun c1 => ?_)
  · have h := (if_neg c1).symm.trans h
    refine r_iload_n C 1 (dall tdX6_fadesOf 43 rfl) rfl ?_
    refine r_iconst (v := 3) C (dall tdX6_fadesOf 44 rfl) (by decide) ?_
    refine r_icmp_ne (tgt := 79) C (dall tdX6_fadesOf 45 rfl) (by decide) (fun c2 => ?_) (fun c2 => ?_)
    · have h := (if_neg c2).symm.trans h
      refine r_iload_n C 1 (dall tdX6_fadesOf 50 rfl) rfl ?_
      refine r_iconst (v := 2) C (dall tdX6_fadesOf 51 rfl) (by decide) ?_
      refine r_icmp_eq (tgt := 89) C (dall tdX6_fadesOf 52 rfl) (by decide) (fun c3 => ?_) (fun c3 => ?_)
      · have h := (if_pos c3).symm.trans h
        refine r_pick [2] rfl ?_
        exact wX6_fadesOf_89 σ a3_ C hR  h
      · have h := (if_neg c3).symm.trans h
        refine r_iload_n C 1 (dall tdX6_fadesOf 53 rfl) rfl ?_
        refine r_iconst (v := 4) C (dall tdX6_fadesOf 54 rfl) (by decide) ?_
        refine r_icmp_ne (tgt := 95) C (dall tdX6_fadesOf 55 rfl) (by decide) (fun c4 => ?_) (fun c4 => ?_)
        · have h := (if_neg c4).symm.trans h
          refine r_iload_n C 2 (dall tdX6_fadesOf 60 rfl) rfl ?_
          refine r_pick [] rfl ?_
          exact wX6_fadesOf_96 σ a3_ C hR  h
        · have h := (if_pos c4).symm.trans h
          refine r_pick [2] rfl ?_
          exact wX6_fadesOf_89 σ a3_ C hR  h
    · have h := (if_pos c2).symm.trans h
      refine r_iload C 0 (dall tdX6_fadesOf 46 rfl) rfl ?_
      refine r_iconst (v := 1) C (dall tdX6_fadesOf 47 rfl) (by decide) ?_
      refine r_iadd C (dall tdX6_fadesOf 48 rfl) ?_
      refine r_goto (tgt := 96) C (dall tdX6_fadesOf 49 rfl) (by decide) ?_
      refine r_pick [] rfl ?_
      exact wX6_fadesOf_96 σ (b0_ + 1) C hR  h
  · have h := (if_pos c1).symm.trans h
    refine r_iload C 0 (dall tdX6_fadesOf 41 rfl) rfl ?_
    refine r_goto (tgt := 96) C (dall tdX6_fadesOf 42 rfl) (by decide) ?_
    refine r_pick [] rfl ?_
    exact wX6_fadesOf_96 σ b0_ C hR  h
def pX6_fadesOf_38  (σ : OS) (a1_ : Int32) (a2_ : Int32) (b0_ : Int32) : Int32 × OS := if (σ.2.2.1 10 (3 * a1_).toNatClampNeg) = 0 then pX6_fadesOf_55  σ a2_ b0_ 0 else pX6_fadesOf_55  σ a2_ b0_ b0_
def oX6_fadesOf_38  (σ : OS) (a1_ : Int32) (a2_ : Int32) (b0_ : Int32) : Prop := vp_in (3 * a1_) 15
set_option maxHeartbeats 4000000 in
set_option maxRecDepth 100000 in
theorem wX6_fadesOf_38 {X : CX} {cy : Nat → ClassId} {q : Nat → Nat} {D : va_G} {A : Nat → Prop} {res : Int32 × OS} (σ : OS) (a1_ : Int32) (a2_ : Int32) (b0_ : Int32) (C : Cx X cX6_fadesOf RX6 5 D (gty cy) A 43 0 0) (hR : Rt X (some .int) D (gty cy) A 0 0 (eI (wX6 cy q res.2) res.1))  (ok : oX6_fadesOf_38  σ a1_ a2_ b0_) (h : pX6_fadesOf_38  σ a1_ a2_ b0_ = res) : At X D A 5 0 0 38 [(0, .ref (q 41)), (1, .int a1_), (2, .int a2_)] [.int b0_] (wX6 cy q σ) := by
  unfold pX6_fadesOf_38 at h
  unfold oX6_fadesOf_38 at ok
  refine r_istore_n (lv' := [(3, .int b0_), (0, .ref (q 41)), (1, .int a1_), (2, .int a2_)]) C (dall tdX6_fadesOf 26 rfl) (by decide) rfl ?_
  refine r_aload_n C 1 (dall tdX6_fadesOf 27 rfl) rfl ?_
  refine r_get C 0 kw_X6 rfl rfl (by decide) kf_X6_29 rfl rfl (dall tdX6_fadesOf 28 rfl) ?_
  refine r_iconst (v := 3) C (dall tdX6_fadesOf 29 rfl) (by decide) ?_
  refine r_iload_n C 2 (dall tdX6_fadesOf 30 rfl) rfl ?_
  refine r_imul C (dall tdX6_fadesOf 31 rfl) ?_
  have o5 := ok
  refine r_iald C 4 0 rfl rfl o5 (dall tdX6_fadesOf 32 rfl) ?_
  refine r_if_ne (tgt := 54) C (dall tdX6_fadesOf 33 rfl) (by decide) (fun c6 => ?_) (fun c6 => ?_)
  · have h := (if_neg c6).symm.trans h
    refine r_iload_n C 0 (dall tdX6_fadesOf 36 rfl) rfl ?_
    refine r_pick [3, 0] rfl ?_
    exact wX6_fadesOf_55 σ a2_ b0_ b0_ C hR  h
  · have h := (if_pos c6).symm.trans h
    refine r_iconst (v := 0) C (dall tdX6_fadesOf 34 rfl) (by decide) ?_
    refine r_goto (tgt := 55) C (dall tdX6_fadesOf 35 rfl) (by decide) ?_
    refine r_pick [3, 0] rfl ?_
    exact wX6_fadesOf_55 σ a2_ b0_ 0 C hR  h
def pX6_fadesOf_32  (σ : OS) (a1_ : Int32) (a2_ : Int32) : Int32 × OS := pX6_fadesOf_38  ((fX6_says σ 1 a1_).2) a1_ a2_ ((fX6_says σ 1 a1_).1)
def oX6_fadesOf_32  (σ : OS) (a1_ : Int32) (a2_ : Int32) : Prop := (gX6_says σ 1 a1_) ∧ (oX6_fadesOf_38  ((fX6_says σ 1 a1_).2) a1_ a2_ ((fX6_says σ 1 a1_).1))
set_option maxHeartbeats 4000000 in
set_option maxRecDepth 100000 in
theorem wX6_fadesOf_32 {X : CX} {cy : Nat → ClassId} {q : Nat → Nat} {D : va_G} {A : Nat → Prop} {res : Int32 × OS} (σ : OS) (a1_ : Int32) (a2_ : Int32) (C : Cx X cX6_fadesOf RX6 5 D (gty cy) A 43 0 0) (hR : Rt X (some .int) D (gty cy) A 0 0 (eI (wX6 cy q res.2) res.1))  (ok : oX6_fadesOf_32  σ a1_ a2_) (h : pX6_fadesOf_32  σ a1_ a2_ = res) : At X D A 5 0 0 32 [(0, .ref (q 41)), (1, .int a1_), (2, .int a2_)] [] (wX6 cy q σ) := by
  unfold pX6_fadesOf_32 at h
  unfold oX6_fadesOf_32 at ok
  refine r_aload_n C 0 (dall tdX6_fadesOf 22 rfl) rfl ?_
  refine r_iconst (v := 1) C (dall tdX6_fadesOf 23 rfl) (by decide) ?_
  refine r_iload_n C 1 (dall tdX6_fadesOf 24 rfl) rfl ?_
  obtain ⟨o7, ok⟩ := ok
  refine r_vI (as := [.int 1, .int a1_]) C (zX6_says cy q σ 1 a1_ o7) mv_X6_says km_X6_365 (by decide) (by decide) ⟨Nat.le_refl _, Nat.le_refl _⟩ rfl rfl rfl rfl (Nat.le_of_ble_eq_true rfl) (dall tdX6_fadesOf 25 rfl) ?_
  exact wX6_fadesOf_38 ((fX6_says σ 1 a1_).2) a1_ a2_ ((fX6_says σ 1 a1_).1) C hR  ok h
def pX6_fadesOf_0  (σ : OS) (a1_ : Int32) : Int32 × OS := if (σ.2.2.1 10 ((3 * a1_) + 2).toNatClampNeg) = 5 then (0, σ) else if (σ.2.2.1 10 ((3 * a1_) + 2).toNatClampNeg) = 4 then if ((σ.1 7) - (σ.1 7) / 2 * 2) = 0 then (0, σ) else pX6_fadesOf_32  σ a1_ (σ.2.2.1 10 ((3 * a1_) + 2).toNatClampNeg) else pX6_fadesOf_32  σ a1_ (σ.2.2.1 10 ((3 * a1_) + 2).toNatClampNeg)
def oX6_fadesOf_0  (σ : OS) (a1_ : Int32) : Prop := (vp_in ((3 * a1_) + 2) 15) ∧ (((σ.2.2.1 10 ((3 * a1_) + 2).toNatClampNeg) = 5 → True) ∧ (¬ ((σ.2.2.1 10 ((3 * a1_) + 2).toNatClampNeg) = 5) → ((σ.2.2.1 10 ((3 * a1_) + 2).toNatClampNeg) = 4 → (((σ.1 7) - (σ.1 7) / 2 * 2) = 0 → True) ∧ (¬ (((σ.1 7) - (σ.1 7) / 2 * 2) = 0) → oX6_fadesOf_32  σ a1_ (σ.2.2.1 10 ((3 * a1_) + 2).toNatClampNeg))) ∧ (¬ ((σ.2.2.1 10 ((3 * a1_) + 2).toNatClampNeg) = 4) → oX6_fadesOf_32  σ a1_ (σ.2.2.1 10 ((3 * a1_) + 2).toNatClampNeg))))
set_option maxHeartbeats 4000000 in
set_option maxRecDepth 100000 in
theorem wX6_fadesOf_0 {X : CX} {cy : Nat → ClassId} {q : Nat → Nat} {D : va_G} {A : Nat → Prop} {res : Int32 × OS} (σ : OS) (a1_ : Int32) (C : Cx X cX6_fadesOf RX6 5 D (gty cy) A 43 0 0) (hR : Rt X (some .int) D (gty cy) A 0 0 (eI (wX6 cy q res.2) res.1))  (ok : oX6_fadesOf_0  σ a1_) (h : pX6_fadesOf_0  σ a1_ = res) : At X D A 5 0 0 0 [(0, .ref (q 41)), (1, .int a1_)] [] (wX6 cy q σ) := by
  unfold pX6_fadesOf_0 at h
  unfold oX6_fadesOf_0 at ok
  refine r_aload_n C 0 (dall tdX6_fadesOf 0 rfl) rfl ?_
  refine r_get C 0 kw_X6 rfl rfl (by decide) kf_X6_29 rfl rfl (dall tdX6_fadesOf 1 rfl) ?_
  refine r_iconst (v := 3) C (dall tdX6_fadesOf 2 rfl) (by decide) ?_
  refine r_iload_n C 1 (dall tdX6_fadesOf 3 rfl) rfl ?_
  refine r_imul C (dall tdX6_fadesOf 4 rfl) ?_
  refine r_iconst (v := 2) C (dall tdX6_fadesOf 5 rfl) (by decide) ?_
  refine r_iadd C (dall tdX6_fadesOf 6 rfl) ?_
  obtain ⟨o8, ok⟩ := ok
  refine r_iald C 4 0 rfl rfl o8 (dall tdX6_fadesOf 7 rfl) ?_
  refine r_istore_n (lv' := [(2, .int (σ.2.2.1 10 ((3 * a1_) + 2).toNatClampNeg)), (0, .ref (q 41)), (1, .int a1_)]) C (dall tdX6_fadesOf 8 rfl) (by decide) rfl ?_
  refine r_iload_n C 0 (dall tdX6_fadesOf 9 rfl) rfl ?_
  refine r_iconst (v := 5) C (dall tdX6_fadesOf 10 rfl) (by decide) ?_
  refine r_icmp_eq (tgt := 30) C (dall tdX6_fadesOf 11 rfl) (by decide) (fun c9 => ?_) (fun c9 => ?_)
  · have h := (if_pos c9).symm.trans h
    have ok := ok.1 c9
    refine r_iconst (v := 0) C (dall tdX6_fadesOf 20 rfl) (by decide) ?_
    exact r_iret C hR (dall tdX6_fadesOf 21 rfl) (by subst h; exact ⟨rfl, rfl⟩)
  · have h := (if_neg c9).symm.trans h
    have ok := ok.2 c9
    refine r_iload_n C 0 (dall tdX6_fadesOf 12 rfl) rfl ?_
    refine r_iconst (v := 4) C (dall tdX6_fadesOf 13 rfl) (by decide) ?_
    refine r_icmp_ne (tgt := 32) C (dall tdX6_fadesOf 14 rfl) (by decide) (fun c10 => ?_) (fun c10 => ?_)
    · have h := (if_neg c10).symm.trans h
      have ok := ok.2 c10
      refine r_pick [1, 2, 0] rfl ?_
      exact wX6_fadesOf_32 σ a1_ (σ.2.2.1 10 ((3 * a1_) + 2).toNatClampNeg) C hR  ok h
    · have h := (if_pos c10).symm.trans h
      have ok := ok.1 c10
      refine r_aload_n C 1 (dall tdX6_fadesOf 15 rfl) rfl ?_
      refine r_get C 0 kw_X6 rfl rfl (by decide) kf_X6_115 rfl rfl (dall tdX6_fadesOf 16 rfl) ?_
      refine r_iconst (v := 2) C (dall tdX6_fadesOf 17 rfl) (by decide) ?_
      refine r_irem C (dall tdX6_fadesOf 18 rfl) (by decide) ?_
      refine r_if_ne (tgt := 32) C (dall tdX6_fadesOf 19 rfl) (by decide) (fun c11 => ?_) (fun c11 => ?_)
      · have h := (if_neg c11).symm.trans h
        have ok := ok.2 c11
        refine r_pick [1, 2, 0] rfl ?_
        exact wX6_fadesOf_32 σ a1_ (σ.2.2.1 10 ((3 * a1_) + 2).toNatClampNeg) C hR  ok h
      · have h := (if_pos c11).symm.trans h
        have ok := ok.1 c11
        refine r_iconst (v := 0) C (dall tdX6_fadesOf 20 rfl) (by decide) ?_
        exact r_iret C hR (dall tdX6_fadesOf 21 rfl) (by subst h; exact ⟨rfl, rfl⟩)
def fX6_fadesOf (σ : OS) (a1_ : Int32) : Int32 × OS := pX6_fadesOf_0  σ a1_
def gX6_fadesOf (σ : OS) (a1_ : Int32) : Prop := oX6_fadesOf_0  σ a1_
set_option maxRecDepth 100000 in
theorem zX6_fadesOf (cy : Nat → ClassId) (q : Nat → Nat)  {D : va_G} (σ : OS) (a1_ : Int32) (ok : gX6_fadesOf σ a1_)  : Con yX6_fadesOf cX6_fadesOf 5 (some .int) 43 0 0 D (gty cy) [.ref (q 41), .int a1_] (wX6 cy q σ) (eI (wX6 cy q (fX6_fadesOf σ a1_).2) (fX6_fadesOf σ a1_).1) :=
  Con.of (own := RX6) (by decide +kernel) rfl (Nat.le_of_ble_eq_true rfl) (Nat.zero_le _) (fun X A C hR _ => (wX6_fadesOf_0 σ a1_ C hR  ok rfl))
theorem mv_X6_fadesOf : MV yX6_fadesOf cX6_fadesOf 5 (some .int) RX6 1 := ⟨ki_X6_fadesOf, kv_X6_fadesOf, kn_X6, kc_X6_fadesOf, by decide +kernel⟩
def tbX6_costsOf : List (Nat × Instr × Nat) := [(0, .aload_n 0, 1), (1, .getfield 29, 3), (4, .iconst 3, 1), (5, .iload_n 1, 1), (6, .imul, 1), (7, .iconst 2, 1), (8, .iadd, 1), (9, .iaload, 1), (10, .istore_n 2, 1), (11, .iload_n 2, 1), (12, .iconst 5, 1), (13, .if_icmp .ne 5, 3), (16, .iconst 0, 1), (17, .ireturn, 1), (18, .aload_n 0, 1), (19, .iconst 2, 1), (20, .iload_n 1, 1), (21, .invokevirtual 365, 3), (24, .istore_n 3, 1), (25, .iload_n 3, 1), (26, .aload_n 0, 1), (27, .getfield 29, 3), (30, .iconst 3, 1), (31, .iload_n 1, 1), (32, .imul, 1), (33, .iaload, 1), (34, .iadd, 1), (35, .iconst 0, 1), (36, .sipush 999, 3), (39, .invokestatic 361, 3), (42, .istore 4, 2), (44, .iload_n 2, 1), (45, .iconst 1, 1), (46, .if_icmp .eq 8, 3), (49, .iload_n 2, 1), (50, .iconst 3, 1), (51, .if_icmp .ne 9, 3), (54, .iload_n 3, 1), (55, .iconst 2, 1), (56, .idiv, 1), (57, .goto 26, 3), (60, .iload_n 2, 1), (61, .iconst 2, 1), (62, .if_icmp .ne 8, 3), (65, .iload 4, 2), (67, .goto 16, 3), (70, .iload_n 2, 1), (71, .iconst 4, 1), (72, .if_icmp .ne 10, 3), (75, .iconst 2, 1), (76, .iload 4, 2), (78, .imul, 1), (79, .goto 4, 3), (82, .iload_n 3, 1), (83, .iconst 0, 1), (84, .sipush 999, 3), (87, .invokestatic 361, 3), (90, .ireturn, 1)]
theorem tdX6_costsOf : tbX6_costsOf.all (fun q => decide (decode cX6_costsOf q.1 = .ok q.2)) = true := by decide +kernel
def pX6_costsOf_83  (σ : OS) (b0_ : Int32) : Int32 × OS := (fX6_within b0_ 0 999, σ)
set_option maxHeartbeats 4000000 in
set_option maxRecDepth 100000 in
theorem wX6_costsOf_83 {X : CX} {cy : Nat → ClassId} {q : Nat → Nat} {D : va_G} {A : Nat → Prop} {res : Int32 × OS} (σ : OS) (b0_ : Int32) (C : Cx X cX6_costsOf RX6 5 D (gty cy) A 43 0 0) (hR : Rt X (some .int) D (gty cy) A 0 0 (eI (wX6 cy q res.2) res.1))  (h : pX6_costsOf_83  σ b0_ = res) : At X D A 5 0 0 83 [] [.int b0_] (wX6 cy q σ) := by
  unfold pX6_costsOf_83 at h
  refine r_iconst (v := 0) C (dall tdX6_costsOf 54 rfl) (by decide) ?_
  refine r_sipush (v := 999) C (dall tdX6_costsOf 55 rfl) (by decide) ?_
  refine r_s0I (as := [.int b0_, .int 0, .int 999]) C (zX6_within b0_ 0 999 ) ms_X6_within km_X6_361 (by decide) (by decide) ⟨Nat.le_refl _, Nat.le_refl _⟩ rfl rfl (Nat.le_of_ble_eq_true rfl) (dall tdX6_costsOf 56 rfl) ?_
  exact r_iret C hR (dall tdX6_costsOf 57 rfl) (by subst h; exact ⟨rfl, rfl⟩)
def pX6_costsOf_54  (σ : OS) (a3_ : Int32) : Int32 × OS := pX6_costsOf_83  σ (a3_ / 2)
set_option maxHeartbeats 4000000 in
set_option maxRecDepth 100000 in
theorem wX6_costsOf_54 {X : CX} {cy : Nat → ClassId} {q : Nat → Nat} {D : va_G} {A : Nat → Prop} {res : Int32 × OS} (σ : OS) (a3_ : Int32) (C : Cx X cX6_costsOf RX6 5 D (gty cy) A 43 0 0) (hR : Rt X (some .int) D (gty cy) A 0 0 (eI (wX6 cy q res.2) res.1))  (h : pX6_costsOf_54  σ a3_ = res) : At X D A 5 0 0 54 [(3, .int a3_)] [] (wX6 cy q σ) := by
  unfold pX6_costsOf_54 at h
  refine r_iload_n C 0 (dall tdX6_costsOf 37 rfl) rfl ?_
  refine r_iconst (v := 2) C (dall tdX6_costsOf 38 rfl) (by decide) ?_
  refine r_idiv C (dall tdX6_costsOf 39 rfl) (by decide) ?_
  refine r_goto (tgt := 83) C (dall tdX6_costsOf 40 rfl) (by decide) ?_
  refine r_pick [] rfl ?_
  exact wX6_costsOf_83 σ (a3_ / 2) C hR  h
def pX6_costsOf_24  (σ : OS) (a1_ : Int32) (a2_ : Int32) (b0_ : Int32) : Int32 × OS := if a2_ = 1 then pX6_costsOf_54  σ b0_ else if a2_ = 3 then pX6_costsOf_54  σ b0_ else if a2_ = 2 then pX6_costsOf_83  σ (fX6_within (b0_ + (σ.2.2.1 10 (3 * a1_).toNatClampNeg)) 0 999) else if a2_ = 4 then pX6_costsOf_83  σ (2 * (fX6_within (b0_ + (σ.2.2.1 10 (3 * a1_).toNatClampNeg)) 0 999)) else pX6_costsOf_83  σ b0_
def oX6_costsOf_24  (σ : OS) (a1_ : Int32) (a2_ : Int32) (b0_ : Int32) : Prop := vp_in (3 * a1_) 15
set_option maxHeartbeats 4000000 in
set_option maxRecDepth 100000 in
theorem wX6_costsOf_24 {X : CX} {cy : Nat → ClassId} {q : Nat → Nat} {D : va_G} {A : Nat → Prop} {res : Int32 × OS} (σ : OS) (a1_ : Int32) (a2_ : Int32) (b0_ : Int32) (C : Cx X cX6_costsOf RX6 5 D (gty cy) A 43 0 0) (hR : Rt X (some .int) D (gty cy) A 0 0 (eI (wX6 cy q res.2) res.1))  (ok : oX6_costsOf_24  σ a1_ a2_ b0_) (h : pX6_costsOf_24  σ a1_ a2_ b0_ = res) : At X D A 5 0 0 24 [(0, .ref (q 41)), (1, .int a1_), (2, .int a2_)] [.int b0_] (wX6 cy q σ) := by
  unfold pX6_costsOf_24 at h
  unfold oX6_costsOf_24 at ok
  refine r_istore_n (lv' := [(3, .int b0_), (0, .ref (q 41)), (1, .int a1_), (2, .int a2_)]) C (dall tdX6_costsOf 18 rfl) (by decide) rfl ?_
  refine r_iload_n C 0 (dall tdX6_costsOf 19 rfl) rfl ?_
  refine r_aload_n C 1 (dall tdX6_costsOf 20 rfl) rfl ?_
  refine r_get C 0 kw_X6 rfl rfl (by decide) kf_X6_29 rfl rfl (dall tdX6_costsOf 21 rfl) ?_
  refine r_iconst (v := 3) C (dall tdX6_costsOf 22 rfl) (by decide) ?_
  refine r_iload_n C 2 (dall tdX6_costsOf 23 rfl) rfl ?_
  refine r_imul C (dall tdX6_costsOf 24 rfl) ?_
  have o1 := ok
  refine r_iald C 4 0 rfl rfl o1 (dall tdX6_costsOf 25 rfl) ?_
  refine r_iadd C (dall tdX6_costsOf 26 rfl) ?_
  refine r_iconst (v := 0) C (dall tdX6_costsOf 27 rfl) (by decide) ?_
  refine r_sipush (v := 999) C (dall tdX6_costsOf 28 rfl) (by decide) ?_
  refine r_s0I (as := [.int (b0_ + (σ.2.2.1 10 (3 * a1_).toNatClampNeg)), .int 0, .int 999]) C (zX6_within (b0_ + (σ.2.2.1 10 (3 * a1_).toNatClampNeg)) 0 999 ) ms_X6_within km_X6_361 (by decide) (by decide) ⟨Nat.le_refl _, Nat.le_refl _⟩ rfl rfl (Nat.le_of_ble_eq_true rfl) (dall tdX6_costsOf 29 rfl) ?_
  refine r_istore (lv' := [(4, .int (fX6_within (b0_ + (σ.2.2.1 10 (3 * a1_).toNatClampNeg)) 0 999)), (3, .int b0_), (0, .ref (q 41)), (1, .int a1_), (2, .int a2_)]) C (dall tdX6_costsOf 30 rfl) (by decide) rfl ?_
  refine r_iload_n C 4 (dall tdX6_costsOf 31 rfl) rfl ?_
  refine r_iconst (v := 1) C (dall tdX6_costsOf 32 rfl) (by decide) ?_
  refine r_icmp_eq (tgt := 54) C (dall tdX6_costsOf 33 rfl) (by decide) (fun c2 => ?_) (fun c2 => ?_)
  · have h := (if_pos c2).symm.trans h
    refine r_pick [1] rfl ?_
    exact wX6_costsOf_54 σ b0_ C hR  h
  · have h := (if_neg c2).symm.trans h
    refine r_iload_n C 4 (dall tdX6_costsOf 34 rfl) rfl ?_
    refine r_iconst (v := 3) C (dall tdX6_costsOf 35 rfl) (by decide) ?_
    refine r_icmp_ne (tgt := 60) C (dall tdX6_costsOf 36 rfl) (by decide) (fun c3 => ?_) (fun c3 => ?_)
    · have h := (if_neg c3).symm.trans h
      refine r_iload_n C 4 (dall tdX6_costsOf 41 rfl) rfl ?_
      refine r_iconst (v := 2) C (dall tdX6_costsOf 42 rfl) (by decide) ?_
      refine r_icmp_ne (tgt := 70) C (dall tdX6_costsOf 43 rfl) (by decide) (fun c4 => ?_) (fun c4 => ?_)
      · have h := (if_neg c4).symm.trans h
        refine r_iload_n C 4 (dall tdX6_costsOf 46 rfl) rfl ?_
        refine r_iconst (v := 4) C (dall tdX6_costsOf 47 rfl) (by decide) ?_
        refine r_icmp_ne (tgt := 82) C (dall tdX6_costsOf 48 rfl) (by decide) (fun c5 => ?_) (fun c5 => ?_)
        · have h := (if_neg c5).symm.trans h
          refine r_iload_n C 1 (dall tdX6_costsOf 53 rfl) rfl ?_
          refine r_pick [] rfl ?_
          exact wX6_costsOf_83 σ b0_ C hR  h
        · have h := (if_pos c5).symm.trans h
          refine r_iconst (v := 2) C (dall tdX6_costsOf 49 rfl) (by decide) ?_
          refine r_iload C 0 (dall tdX6_costsOf 50 rfl) rfl ?_
          refine r_imul C (dall tdX6_costsOf 51 rfl) ?_
          refine r_goto (tgt := 83) C (dall tdX6_costsOf 52 rfl) (by decide) ?_
          refine r_pick [] rfl ?_
          exact wX6_costsOf_83 σ (2 * (fX6_within (b0_ + (σ.2.2.1 10 (3 * a1_).toNatClampNeg)) 0 999)) C hR  h
      · have h := (if_pos c4).symm.trans h
        refine r_iload C 0 (dall tdX6_costsOf 44 rfl) rfl ?_
        refine r_goto (tgt := 83) C (dall tdX6_costsOf 45 rfl) (by decide) ?_
        refine r_pick [] rfl ?_
        exact wX6_costsOf_83 σ (fX6_within (b0_ + (σ.2.2.1 10 (3 * a1_).toNatClampNeg)) 0 999) C hR  h
    · have h := (if_pos c3).symm.trans h
      refine r_pick [1] rfl ?_
      exact wX6_costsOf_54 σ b0_ C hR  h
def pX6_costsOf_0  (σ : OS) (a1_ : Int32) : Int32 × OS := if (σ.2.2.1 10 ((3 * a1_) + 2).toNatClampNeg) = 5 then (0, σ) else pX6_costsOf_24  ((fX6_says σ 2 a1_).2) a1_ (σ.2.2.1 10 ((3 * a1_) + 2).toNatClampNeg) ((fX6_says σ 2 a1_).1)
def oX6_costsOf_0  (σ : OS) (a1_ : Int32) : Prop := (vp_in ((3 * a1_) + 2) 15) ∧ (((σ.2.2.1 10 ((3 * a1_) + 2).toNatClampNeg) = 5 → True) ∧ (¬ ((σ.2.2.1 10 ((3 * a1_) + 2).toNatClampNeg) = 5) → (gX6_says σ 2 a1_) ∧ (oX6_costsOf_24  ((fX6_says σ 2 a1_).2) a1_ (σ.2.2.1 10 ((3 * a1_) + 2).toNatClampNeg) ((fX6_says σ 2 a1_).1))))
set_option maxHeartbeats 4000000 in
set_option maxRecDepth 100000 in
theorem wX6_costsOf_0 {X : CX} {cy : Nat → ClassId} {q : Nat → Nat} {D : va_G} {A : Nat → Prop} {res : Int32 × OS} (σ : OS) (a1_ : Int32) (C : Cx X cX6_costsOf RX6 5 D (gty cy) A 43 0 0) (hR : Rt X (some .int) D (gty cy) A 0 0 (eI (wX6 cy q res.2) res.1))  (ok : oX6_costsOf_0  σ a1_) (h : pX6_costsOf_0  σ a1_ = res) : At X D A 5 0 0 0 [(0, .ref (q 41)), (1, .int a1_)] [] (wX6 cy q σ) := by
  unfold pX6_costsOf_0 at h
  unfold oX6_costsOf_0 at ok
  refine r_aload_n C 0 (dall tdX6_costsOf 0 rfl) rfl ?_
  refine r_get C 0 kw_X6 rfl rfl (by decide) kf_X6_29 rfl rfl (dall tdX6_costsOf 1 rfl) ?_
  refine r_iconst (v := 3) C (dall tdX6_costsOf 2 rfl) (by decide) ?_
  refine r_iload_n C 1 (dall tdX6_costsOf 3 rfl) rfl ?_
  refine r_imul C (dall tdX6_costsOf 4 rfl) ?_
  refine r_iconst (v := 2) C (dall tdX6_costsOf 5 rfl) (by decide) ?_
  refine r_iadd C (dall tdX6_costsOf 6 rfl) ?_
  obtain ⟨o6, ok⟩ := ok
  refine r_iald C 4 0 rfl rfl o6 (dall tdX6_costsOf 7 rfl) ?_
  refine r_istore_n (lv' := [(2, .int (σ.2.2.1 10 ((3 * a1_) + 2).toNatClampNeg)), (0, .ref (q 41)), (1, .int a1_)]) C (dall tdX6_costsOf 8 rfl) (by decide) rfl ?_
  refine r_iload_n C 0 (dall tdX6_costsOf 9 rfl) rfl ?_
  refine r_iconst (v := 5) C (dall tdX6_costsOf 10 rfl) (by decide) ?_
  refine r_icmp_ne (tgt := 18) C (dall tdX6_costsOf 11 rfl) (by decide) (fun c7 => ?_) (fun c7 => ?_)
  · have h := (if_neg c7).symm.trans h
    have ok := ok.2 c7
    refine r_aload_n C 1 (dall tdX6_costsOf 14 rfl) rfl ?_
    refine r_iconst (v := 2) C (dall tdX6_costsOf 15 rfl) (by decide) ?_
    refine r_iload_n C 2 (dall tdX6_costsOf 16 rfl) rfl ?_
    obtain ⟨o8, ok⟩ := ok
    refine r_vI (as := [.int 2, .int a1_]) C (zX6_says cy q σ 2 a1_ o8) mv_X6_says km_X6_365 (by decide) (by decide) ⟨Nat.le_refl _, Nat.le_refl _⟩ rfl rfl rfl rfl (Nat.le_of_ble_eq_true rfl) (dall tdX6_costsOf 17 rfl) ?_
    refine r_pick [1, 2, 0] rfl ?_
    exact wX6_costsOf_24 ((fX6_says σ 2 a1_).2) a1_ (σ.2.2.1 10 ((3 * a1_) + 2).toNatClampNeg) ((fX6_says σ 2 a1_).1) C hR  ok h
  · have h := (if_pos c7).symm.trans h
    have ok := ok.1 c7
    refine r_iconst (v := 0) C (dall tdX6_costsOf 12 rfl) (by decide) ?_
    exact r_iret C hR (dall tdX6_costsOf 13 rfl) (by subst h; exact ⟨rfl, rfl⟩)
def fX6_costsOf (σ : OS) (a1_ : Int32) : Int32 × OS := pX6_costsOf_0  σ a1_
def gX6_costsOf (σ : OS) (a1_ : Int32) : Prop := oX6_costsOf_0  σ a1_
set_option maxRecDepth 100000 in
theorem zX6_costsOf (cy : Nat → ClassId) (q : Nat → Nat)  {D : va_G} (σ : OS) (a1_ : Int32) (ok : gX6_costsOf σ a1_)  : Con yX6_costsOf cX6_costsOf 5 (some .int) 43 0 0 D (gty cy) [.ref (q 41), .int a1_] (wX6 cy q σ) (eI (wX6 cy q (fX6_costsOf σ a1_).2) (fX6_costsOf σ a1_).1) :=
  Con.of (own := RX6) (by decide +kernel) rfl (Nat.le_of_ble_eq_true rfl) (Nat.zero_le _) (fun X A C hR _ => (wX6_costsOf_0 σ a1_ C hR  ok rfl))
theorem mv_X6_costsOf : MV yX6_costsOf cX6_costsOf 5 (some .int) RX6 1 := ⟨ki_X6_costsOf, kv_X6_costsOf, kn_X6, kc_X6_costsOf, by decide +kernel⟩
def tbX6_whoseIs : List (Nat × Instr × Nat) := [(0, .aload_n 0, 1), (1, .getfield 25, 3), (4, .iload_n 1, 1), (5, .invokestatic 97, 3), (8, .ifCond .eq 8, 3), (11, .bipush 9, 2), (13, .goto 4, 3), (16, .iconst (-1), 1), (17, .istore_n 2, 1), (18, .iconst 0, 1), (19, .istore_n 3, 1), (20, .iload_n 3, 1), (21, .aload_n 0, 1), (22, .getfield 71, 3), (25, .if_icmp .ge 28, 3), (28, .aload_n 0, 1), (29, .getfield 32, 3), (32, .iload_n 3, 1), (33, .laload, 1), (34, .iload_n 1, 1), (35, .invokestatic 97, 3), (38, .ifCond .eq 7, 3), (41, .iload_n 3, 1), (42, .goto 4, 3), (45, .iload_n 2, 1), (46, .istore_n 2, 1), (47, .iinc 3 1, 3), (50, .goto (-30), 3), (53, .iload_n 2, 1), (54, .ireturn, 1)]
theorem tdX6_whoseIs : tbX6_whoseIs.all (fun q => decide (decode cX6_whoseIs q.1 = .ok q.2)) = true := by decide +kernel
def pX6_whoseIs_46 (kR20 : Int32 × Int32 → Int32) (σ : OS) (a1_ : Int32) (a3_ : Int32) (b0_ : Int32) : Int32 := kR20 (b0_, a3_ + 1)
def oX6_whoseIs_46 (kO20 : Int32 × Int32 → Prop) (σ : OS) (a1_ : Int32) (a3_ : Int32) (b0_ : Int32) : Prop := kO20 (b0_, a3_ + 1)
set_option maxHeartbeats 4000000 in
set_option maxRecDepth 100000 in
theorem wX6_whoseIs_46 {X : CX} {cy : Nat → ClassId} {q : Nat → Nat} {D : va_G} {A : Nat → Prop} {res : Int32} (σ : OS) (a1_ : Int32) (a3_ : Int32) (b0_ : Int32) (C : Cx X cX6_whoseIs RX6 4 D (gty cy) A 1 0 0) (hR : Rt X (some .int) D (gty cy) A 0 0 (eI (wX6 cy q σ) res)) (kR20 : Int32 × Int32 → Int32) (kO20 : Int32 × Int32 → Prop) (hk20 : ∀ z, kO20 z → kR20 z = res → At X D A 4 0 0 20 [(0, .ref (q 41)), (1, .int a1_), (2, .int z.1), (3, .int z.2)] [] (wX6 cy q σ)) (ok : oX6_whoseIs_46 kO20 σ a1_ a3_ b0_) (h : pX6_whoseIs_46 kR20 σ a1_ a3_ b0_ = res) : At X D A 4 0 0 46 [(0, .ref (q 41)), (1, .int a1_), (3, .int a3_)] [.int b0_] (wX6 cy q σ) := by
  unfold pX6_whoseIs_46 at h
  unfold oX6_whoseIs_46 at ok
  refine r_istore_n (lv' := [(2, .int b0_), (0, .ref (q 41)), (1, .int a1_), (3, .int a3_)]) C (dall tdX6_whoseIs 25 rfl) (by decide) rfl ?_
  refine r_iinc (v := a3_ + 1) (lv' := [(3, .int (a3_ + 1)), (2, .int b0_), (0, .ref (q 41)), (1, .int a1_)]) C 3 (dall tdX6_whoseIs 26 rfl) rfl rfl (by decide) rfl ?_
  refine r_goto (tgt := 20) C (dall tdX6_whoseIs 27 rfl) (by decide) ?_
  refine r_pick [2, 3, 1, 0] rfl ?_
  exact hk20 (b0_, a3_ + 1) ok h
def bX6_whoseIs_20 (σ : OS) (a1_ : Int32)  (kR20 : Int32 × Int32 → Int32) (v : Int32 × Int32) : Int32 := if (σ.1 12) ≤ v.2 then v.1 else if (fX6_has (σ.2.2.2 11 v.2.toNatClampNeg) a1_) = 0 then pX6_whoseIs_46 kR20 σ a1_ v.2 v.1 else pX6_whoseIs_46 kR20 σ a1_ v.2 v.2
def kX6_whoseIs_20 (σ : OS) (a1_ : Int32)  (kO20 : Int32 × Int32 → Prop) (v : Int32 × Int32) : Prop := ((σ.1 12) ≤ v.2 → True) ∧ (¬ ((σ.1 12) ≤ v.2) → (vp_in v.2 5) ∧ (((fX6_has (σ.2.2.2 11 v.2.toNatClampNeg) a1_) = 0 → oX6_whoseIs_46 kO20 σ a1_ v.2 v.1) ∧ (¬ ((fX6_has (σ.2.2.2 11 v.2.toNatClampNeg) a1_) = 0) → oX6_whoseIs_46 kO20 σ a1_ v.2 v.2)))
set_option maxHeartbeats 4000000 in
set_option maxRecDepth 100000 in
theorem wX6_whoseIs_20 {X : CX} {cy : Nat → ClassId} {q : Nat → Nat} {D : va_G} {A : Nat → Prop} {res : Int32} (σ : OS) (a1_ : Int32) (C : Cx X cX6_whoseIs RX6 4 D (gty cy) A 1 0 0) (hR : Rt X (some .int) D (gty cy) A 0 0 (eI (wX6 cy q σ) res)) (kR20 : Int32 × Int32 → Int32) (kO20 : Int32 × Int32 → Prop) (hk20 : ∀ z, kO20 z → kR20 z = res → At X D A 4 0 0 20 [(0, .ref (q 41)), (1, .int a1_), (2, .int z.1), (3, .int z.2)] [] (wX6 cy q σ)) (v : Int32 × Int32) (ok : kX6_whoseIs_20 σ a1_ kO20 v) (h : bX6_whoseIs_20 σ a1_ kR20 v = res) : At X D A 4 0 0 20 [(0, .ref (q 41)), (1, .int a1_), (2, .int v.1), (3, .int v.2)] [] (wX6 cy q σ) := by
  unfold bX6_whoseIs_20 at h
  unfold kX6_whoseIs_20 at ok
  refine r_iload_n C 3 (dall tdX6_whoseIs 11 rfl) rfl ?_
  refine r_aload_n C 0 (dall tdX6_whoseIs 12 rfl) rfl ?_
  refine r_get C 0 kw_X6 rfl rfl (by decide) kf_X6_71 rfl rfl (dall tdX6_whoseIs 13 rfl) ?_
  refine r_icmp_ge (tgt := 53) C (dall tdX6_whoseIs 14 rfl) (by decide) (fun c1 => ?_) (fun c1 => ?_)
  · have h := (if_pos c1).symm.trans h
    have ok := ok.1 c1
    refine r_iload_n C 2 (dall tdX6_whoseIs 28 rfl) rfl ?_
    exact r_iret C hR (dall tdX6_whoseIs 29 rfl) (by subst h; exact ⟨rfl, rfl⟩)
  · have h := (if_neg c1).symm.trans h
    have ok := ok.2 c1
    refine r_aload_n C 0 (dall tdX6_whoseIs 15 rfl) rfl ?_
    refine r_get C 0 kw_X6 rfl rfl (by decide) kf_X6_32 rfl rfl (dall tdX6_whoseIs 16 rfl) ?_
    refine r_iload_n C 3 (dall tdX6_whoseIs 17 rfl) rfl ?_
    obtain ⟨o2, ok⟩ := ok
    refine r_lald C 5 1 rfl rfl o2 (dall tdX6_whoseIs 18 rfl) ?_
    refine r_iload_n C 1 (dall tdX6_whoseIs 19 rfl) rfl ?_
    refine r_s0I (as := [.long (σ.2.2.2 11 v.2.toNatClampNeg), .int a1_]) C (zX6_has (σ.2.2.2 11 v.2.toNatClampNeg) a1_ ) ms_X6_has km_X6_97 (by decide) (by decide) ⟨Nat.le_refl _, Nat.le_refl _⟩ rfl rfl (Nat.le_of_ble_eq_true rfl) (dall tdX6_whoseIs 20 rfl) ?_
    refine r_if_eq (tgt := 45) C (dall tdX6_whoseIs 21 rfl) (by decide) (fun c3 => ?_) (fun c3 => ?_)
    · have h := (if_pos c3).symm.trans h
      have ok := ok.1 c3
      refine r_iload_n C 2 (dall tdX6_whoseIs 24 rfl) rfl ?_
      refine r_pick [0, 1, 3] rfl ?_
      exact wX6_whoseIs_46 σ a1_ v.2 v.1 C hR kR20 kO20 hk20 ok h
    · have h := (if_neg c3).symm.trans h
      have ok := ok.2 c3
      refine r_iload_n C 3 (dall tdX6_whoseIs 22 rfl) rfl ?_
      refine r_goto (tgt := 46) C (dall tdX6_whoseIs 23 rfl) (by decide) ?_
      refine r_pick [0, 1, 3] rfl ?_
      exact wX6_whoseIs_46 σ a1_ v.2 v.2 C hR kR20 kO20 hk20 ok h
set_option maxHeartbeats 4000000 in
set_option maxRecDepth 100000 in
theorem lX6_whoseIs_20 {X : CX} {cy : Nat → ClassId} {q : Nat → Nat} {D : va_G} {A : Nat → Prop} {res : Int32} (σ : OS) (a1_ : Int32) (C : Cx X cX6_whoseIs RX6 4 D (gty cy) A 1 0 0) (hR : Rt X (some .int) D (gty cy) A 0 0 (eI (wX6 cy q σ) res))  (n : Nat) (v : Int32 × Int32) (ok : lpOk (kX6_whoseIs_20 σ a1_ ) n v) (h : lp 0 (bX6_whoseIs_20 σ a1_ ) n v = res) : At X D A 4 0 0 20 [(0, .ref (q 41)), (1, .int a1_), (2, .int v.1), (3, .int v.2)] [] (wX6 cy q σ) :=
  lp_rule (fun v rr_ => rr_ = res → At X D A 4 0 0 20 [(0, .ref (q 41)), (1, .int a1_), (2, .int v.1), (3, .int v.2)] [] (wX6 cy q σ)) (fun kR kO hk v ok h => wX6_whoseIs_20 σ a1_ C hR  kR kO hk v ok h) n v ok h
def pX6_whoseIs_17  (σ : OS) (a1_ : Int32) (b0_ : Int32) : Int32 := lp 0 (bX6_whoseIs_20 σ a1_ ) fu (b0_, 0)
def oX6_whoseIs_17  (σ : OS) (a1_ : Int32) (b0_ : Int32) : Prop := lpOk (kX6_whoseIs_20 σ a1_ ) fu (b0_, 0)
set_option maxHeartbeats 4000000 in
set_option maxRecDepth 100000 in
theorem wX6_whoseIs_17 {X : CX} {cy : Nat → ClassId} {q : Nat → Nat} {D : va_G} {A : Nat → Prop} {res : Int32} (σ : OS) (a1_ : Int32) (b0_ : Int32) (C : Cx X cX6_whoseIs RX6 4 D (gty cy) A 1 0 0) (hR : Rt X (some .int) D (gty cy) A 0 0 (eI (wX6 cy q σ) res))  (ok : oX6_whoseIs_17  σ a1_ b0_) (h : pX6_whoseIs_17  σ a1_ b0_ = res) : At X D A 4 0 0 17 [(0, .ref (q 41)), (1, .int a1_)] [.int b0_] (wX6 cy q σ) := by
  unfold pX6_whoseIs_17 at h
  unfold oX6_whoseIs_17 at ok
  refine r_istore_n (lv' := [(2, .int b0_), (0, .ref (q 41)), (1, .int a1_)]) C (dall tdX6_whoseIs 8 rfl) (by decide) rfl ?_
  refine r_iconst (v := 0) C (dall tdX6_whoseIs 9 rfl) (by decide) ?_
  refine r_istore_n (lv' := [(3, .int 0), (2, .int b0_), (0, .ref (q 41)), (1, .int a1_)]) C (dall tdX6_whoseIs 10 rfl) (by decide) rfl ?_
  refine r_pick [2, 3, 1, 0] rfl ?_
  exact lX6_whoseIs_20 σ a1_ C hR  fu _ ok h
def pX6_whoseIs_0  (σ : OS) (a1_ : Int32) : Int32 := if (fX6_has (σ.2.1 9) a1_) = 0 then pX6_whoseIs_17  σ a1_ (-1) else pX6_whoseIs_17  σ a1_ 9
def oX6_whoseIs_0  (σ : OS) (a1_ : Int32) : Prop := ((fX6_has (σ.2.1 9) a1_) = 0 → oX6_whoseIs_17  σ a1_ (-1)) ∧ (¬ ((fX6_has (σ.2.1 9) a1_) = 0) → oX6_whoseIs_17  σ a1_ 9)
set_option maxHeartbeats 4000000 in
set_option maxRecDepth 100000 in
theorem wX6_whoseIs_0 {X : CX} {cy : Nat → ClassId} {q : Nat → Nat} {D : va_G} {A : Nat → Prop} {res : Int32} (σ : OS) (a1_ : Int32) (C : Cx X cX6_whoseIs RX6 4 D (gty cy) A 1 0 0) (hR : Rt X (some .int) D (gty cy) A 0 0 (eI (wX6 cy q σ) res))  (ok : oX6_whoseIs_0  σ a1_) (h : pX6_whoseIs_0  σ a1_ = res) : At X D A 4 0 0 0 [(0, .ref (q 41)), (1, .int a1_)] [] (wX6 cy q σ) := by
  unfold pX6_whoseIs_0 at h
  unfold oX6_whoseIs_0 at ok
  refine r_aload_n C 0 (dall tdX6_whoseIs 0 rfl) rfl ?_
  refine r_get C 0 kw_X6 rfl rfl (by decide) kf_X6_25 rfl rfl (dall tdX6_whoseIs 1 rfl) ?_
  refine r_iload_n C 1 (dall tdX6_whoseIs 2 rfl) rfl ?_
  refine r_s0I (as := [.long (σ.2.1 9), .int a1_]) C (zX6_has (σ.2.1 9) a1_ ) ms_X6_has km_X6_97 (by decide) (by decide) ⟨Nat.le_refl _, Nat.le_refl _⟩ rfl rfl (Nat.le_of_ble_eq_true rfl) (dall tdX6_whoseIs 3 rfl) ?_
  refine r_if_eq (tgt := 16) C (dall tdX6_whoseIs 4 rfl) (by decide) (fun c4 => ?_) (fun c4 => ?_)
  · have h := (if_pos c4).symm.trans h
    have ok := ok.1 c4
    refine r_iconst (v := -1) C (dall tdX6_whoseIs 7 rfl) (by decide) ?_
    exact wX6_whoseIs_17 σ a1_ (-1) C hR  ok h
  · have h := (if_neg c4).symm.trans h
    have ok := ok.2 c4
    refine r_bipush (v := 9) C (dall tdX6_whoseIs 5 rfl) (by decide) ?_
    refine r_goto (tgt := 17) C (dall tdX6_whoseIs 6 rfl) (by decide) ?_
    exact wX6_whoseIs_17 σ a1_ 9 C hR  ok h
def fX6_whoseIs (σ : OS) (a1_ : Int32) : Int32 := pX6_whoseIs_0  σ a1_
def gX6_whoseIs (σ : OS) (a1_ : Int32) : Prop := oX6_whoseIs_0  σ a1_
set_option maxRecDepth 100000 in
theorem zX6_whoseIs (cy : Nat → ClassId) (q : Nat → Nat)  {D : va_G} (σ : OS) (a1_ : Int32) (ok : gX6_whoseIs σ a1_)  : Con yX6_whoseIs cX6_whoseIs 4 (some .int) 1 0 0 D (gty cy) [.ref (q 41), .int a1_] (wX6 cy q σ) (eI (wX6 cy q σ) (fX6_whoseIs σ a1_)) :=
  Con.of (own := RX6) (by decide +kernel) rfl (Nat.le_of_ble_eq_true rfl) (Nat.zero_le _) (fun X A C hR _ => (wX6_whoseIs_0 σ a1_ C hR  ok rfl))
theorem mv_X6_whoseIs : MV yX6_whoseIs cX6_whoseIs 4 (some .int) RX6 1 := ⟨ki_X6_whoseIs, kv_X6_whoseIs, kn_X6, kc_X6_whoseIs, by decide +kernel⟩
def tbX6_told : List (Nat × Instr × Nat) := [(0, .iload_n 2, 1), (1, .i2l, 1), (2, .lconst 0, 1), (3, .ldc2_w 127, 3), (6, .invokestatic 74, 3), (9, .ifCond .eq 31, 3), (12, .iload_n 2, 1), (13, .ifCond .le 30, 3), (16, .iload_n 2, 1), (17, .bipush 8, 2), (19, .if_icmp .ne 13, 3), (22, .iload_n 1, 1), (23, .invokestatic 94, 3), (26, .ifCond .ne 17, 3), (29, .goto 11, 3), (32, .aload_n 0, 1), (33, .iload_n 1, 1), (34, .invokevirtual 90, 3), (37, .ifCond .ne 6, 3), (40, .bipush (-2), 2), (42, .ireturn, 1), (43, .iload_n 2, 1), (44, .iconst 4, 1), (45, .if_icmp .ge 27, 3), (48, .iload_n 2, 1), (49, .ifCond .ne 10, 3), (52, .aload_n 0, 1), (53, .getfield 115, 3), (56, .goto 15, 3), (59, .aload_n 0, 1), (60, .getfield 29, 3), (63, .iconst 3, 1), (64, .iload_n 1, 1), (65, .imul, 1), (66, .iload_n 2, 1), (67, .iadd, 1), (68, .iconst 1, 1), (69, .isub, 1), (70, .iaload, 1), (71, .ireturn, 1), (72, .iload_n 2, 1), (73, .bipush 7, 2), (75, .if_icmp .ge 35, 3), (78, .iload_n 2, 1), (79, .iconst 4, 1), (80, .if_icmp .ne 11, 3), (83, .aload_n 0, 1), (84, .iload_n 1, 1), (85, .invokevirtual 129, 3), (88, .goto 21, 3), (91, .iload_n 2, 1), (92, .iconst 5, 1), (93, .if_icmp .ne 11, 3), (96, .aload_n 0, 1), (97, .iload_n 1, 1), (98, .invokevirtual 132, 3), (101, .goto 8, 3), (104, .aload_n 0, 1), (105, .iload_n 1, 1), (106, .invokevirtual 135, 3), (109, .ireturn, 1), (110, .iload_n 2, 1), (111, .bipush 7, 2), (113, .if_icmp .ne 15, 3), (116, .aload_n 0, 1), (117, .getfield 32, 3), (120, .iload_n 1, 1), (121, .laload, 1), (122, .invokestatic 138, 3), (125, .goto 8, 3), (128, .aload_n 0, 1), (129, .iload_n 1, 1), (130, .invokevirtual 142, 3), (133, .ireturn, 1)]
theorem tdX6_told : tbX6_told.all (fun q => decide (decode cX6_told q.1 = .ok q.2)) = true := by decide +kernel
def pX6_told_109  (σ : OS) (b0_ : Int32) : Int32 × OS := (b0_, σ)
set_option maxHeartbeats 4000000 in
set_option maxRecDepth 100000 in
theorem wX6_told_109 {X : CX} {cy : Nat → ClassId} {q : Nat → Nat} {D : va_G} {A : Nat → Prop} {res : Int32 × OS} (σ : OS) (b0_ : Int32) (C : Cx X cX6_told RX6 3 D (gty cy) A 44 0 0) (hR : Rt X (some .int) D (gty cy) A 0 0 (eI (wX6 cy q res.2) res.1))  (h : pX6_told_109  σ b0_ = res) : At X D A 3 0 0 109 [] [.int b0_] (wX6 cy q σ) := by
  unfold pX6_told_109 at h
  exact r_iret C hR (dall tdX6_told 60 rfl) (by subst h; exact ⟨rfl, rfl⟩)
def pX6_told_101  (σ : OS) (b0_ : Int32) : Int32 × OS := pX6_told_109  σ b0_
set_option maxHeartbeats 4000000 in
set_option maxRecDepth 100000 in
theorem wX6_told_101 {X : CX} {cy : Nat → ClassId} {q : Nat → Nat} {D : va_G} {A : Nat → Prop} {res : Int32 × OS} (σ : OS) (b0_ : Int32) (C : Cx X cX6_told RX6 3 D (gty cy) A 44 0 0) (hR : Rt X (some .int) D (gty cy) A 0 0 (eI (wX6 cy q res.2) res.1))  (h : pX6_told_101  σ b0_ = res) : At X D A 3 0 0 101 [] [.int b0_] (wX6 cy q σ) := by
  unfold pX6_told_101 at h
  refine r_goto (tgt := 109) C (dall tdX6_told 56 rfl) (by decide) ?_
  exact wX6_told_109 σ b0_ C hR  h
def pX6_told_88  (σ : OS) (b0_ : Int32) : Int32 × OS := pX6_told_109  σ b0_
set_option maxHeartbeats 4000000 in
set_option maxRecDepth 100000 in
theorem wX6_told_88 {X : CX} {cy : Nat → ClassId} {q : Nat → Nat} {D : va_G} {A : Nat → Prop} {res : Int32 × OS} (σ : OS) (b0_ : Int32) (C : Cx X cX6_told RX6 3 D (gty cy) A 44 0 0) (hR : Rt X (some .int) D (gty cy) A 0 0 (eI (wX6 cy q res.2) res.1))  (h : pX6_told_88  σ b0_ = res) : At X D A 3 0 0 88 [] [.int b0_] (wX6 cy q σ) := by
  unfold pX6_told_88 at h
  refine r_goto (tgt := 109) C (dall tdX6_told 49 rfl) (by decide) ?_
  exact wX6_told_109 σ b0_ C hR  h
def pX6_told_43  (σ : OS) (a1_ : Int32) (a2_ : Int32) : Int32 × OS := if 4 ≤ a2_ then if 7 ≤ a2_ then if a2_ = 7 then (fX6_bitsOf (σ.2.2.2 11 a1_.toNatClampNeg), σ) else (fX6_whoseIs σ a1_, σ) else if a2_ = 4 then pX6_told_88  ((fX6_holdsOf σ a1_).2) ((fX6_holdsOf σ a1_).1) else if a2_ = 5 then pX6_told_101  ((fX6_fadesOf σ a1_).2) ((fX6_fadesOf σ a1_).1) else pX6_told_109  ((fX6_costsOf σ a1_).2) ((fX6_costsOf σ a1_).1) else if a2_ = 0 then (σ.1 7, σ) else (σ.2.2.1 10 (((3 * a1_) + a2_) - 1).toNatClampNeg, σ)
def oX6_told_43  (σ : OS) (a1_ : Int32) (a2_ : Int32) : Prop := (4 ≤ a2_ → (7 ≤ a2_ → (a2_ = 7 → (vp_in a1_ 5) ∧ (gX6_bitsOf (σ.2.2.2 11 a1_.toNatClampNeg))) ∧ (¬ (a2_ = 7) → gX6_whoseIs σ a1_)) ∧ (¬ (7 ≤ a2_) → (a2_ = 4 → gX6_holdsOf σ a1_) ∧ (¬ (a2_ = 4) → (a2_ = 5 → gX6_fadesOf σ a1_) ∧ (¬ (a2_ = 5) → gX6_costsOf σ a1_)))) ∧ (¬ (4 ≤ a2_) → (a2_ = 0 → True) ∧ (¬ (a2_ = 0) → vp_in (((3 * a1_) + a2_) - 1) 15))
set_option maxHeartbeats 4000000 in
set_option maxRecDepth 100000 in
theorem wX6_told_43 {X : CX} {cy : Nat → ClassId} {q : Nat → Nat} {D : va_G} {A : Nat → Prop} {res : Int32 × OS} (σ : OS) (a1_ : Int32) (a2_ : Int32) (C : Cx X cX6_told RX6 3 D (gty cy) A 44 0 0) (hR : Rt X (some .int) D (gty cy) A 0 0 (eI (wX6 cy q res.2) res.1))  (ok : oX6_told_43  σ a1_ a2_) (h : pX6_told_43  σ a1_ a2_ = res) : At X D A 3 0 0 43 [(0, .ref (q 41)), (1, .int a1_), (2, .int a2_)] [] (wX6 cy q σ) := by
  unfold pX6_told_43 at h
  unfold oX6_told_43 at ok
  refine r_iload_n C 2 (dall tdX6_told 21 rfl) rfl ?_
  refine r_iconst (v := 4) C (dall tdX6_told 22 rfl) (by decide) ?_
  refine r_icmp_ge (tgt := 72) C (dall tdX6_told 23 rfl) (by decide) (fun c1 => ?_) (fun c1 => ?_)
  · have h := (if_pos c1).symm.trans h
    have ok := ok.1 c1
    refine r_iload_n C 2 (dall tdX6_told 40 rfl) rfl ?_
    refine r_bipush (v := 7) C (dall tdX6_told 41 rfl) (by decide) ?_
    refine r_icmp_ge (tgt := 110) C (dall tdX6_told 42 rfl) (by decide) (fun c2 => ?_) (fun c2 => ?_)
    · have h := (if_pos c2).symm.trans h
      have ok := ok.1 c2
      refine r_iload_n C 2 (dall tdX6_told 61 rfl) rfl ?_
      refine r_bipush (v := 7) C (dall tdX6_told 62 rfl) (by decide) ?_
      refine r_icmp_ne (tgt := 128) C (dall tdX6_told 63 rfl) (by decide) (fun c3 => ?_) (fun c3 => ?_)
      · have h := (if_neg c3).symm.trans h
        have ok := ok.2 c3
        refine r_aload_n C 0 (dall tdX6_told 70 rfl) rfl ?_
        refine r_iload_n C 1 (dall tdX6_told 71 rfl) rfl ?_
        have o4 := ok
        refine r_vI (as := [.int a1_]) C (zX6_whoseIs cy q σ a1_ o4) mv_X6_whoseIs km_X6_142 (by decide) (by decide) ⟨Nat.le_refl _, Nat.le_refl _⟩ rfl rfl rfl rfl (Nat.le_of_ble_eq_true rfl) (dall tdX6_told 72 rfl) ?_
        exact r_iret C hR (dall tdX6_told 73 rfl) (by subst h; exact ⟨rfl, rfl⟩)
      · have h := (if_pos c3).symm.trans h
        have ok := ok.1 c3
        refine r_aload_n C 0 (dall tdX6_told 64 rfl) rfl ?_
        refine r_get C 0 kw_X6 rfl rfl (by decide) kf_X6_32 rfl rfl (dall tdX6_told 65 rfl) ?_
        refine r_iload_n C 1 (dall tdX6_told 66 rfl) rfl ?_
        obtain ⟨o5, ok⟩ := ok
        refine r_lald C 5 1 rfl rfl o5 (dall tdX6_told 67 rfl) ?_
        have o6 := ok
        refine r_s0I (as := [.long (σ.2.2.2 11 a1_.toNatClampNeg)]) C (zX6_bitsOf (σ.2.2.2 11 a1_.toNatClampNeg) o6) ms_X6_bitsOf km_X6_138 (by decide) (by decide) ⟨Nat.le_refl _, Nat.le_refl _⟩ rfl rfl (Nat.le_of_ble_eq_true rfl) (dall tdX6_told 68 rfl) ?_
        refine r_goto (tgt := 133) C (dall tdX6_told 69 rfl) (by decide) ?_
        exact r_iret C hR (dall tdX6_told 73 rfl) (by subst h; exact ⟨rfl, rfl⟩)
    · have h := (if_neg c2).symm.trans h
      have ok := ok.2 c2
      refine r_iload_n C 2 (dall tdX6_told 43 rfl) rfl ?_
      refine r_iconst (v := 4) C (dall tdX6_told 44 rfl) (by decide) ?_
      refine r_icmp_ne (tgt := 91) C (dall tdX6_told 45 rfl) (by decide) (fun c7 => ?_) (fun c7 => ?_)
      · have h := (if_neg c7).symm.trans h
        have ok := ok.2 c7
        refine r_iload_n C 2 (dall tdX6_told 50 rfl) rfl ?_
        refine r_iconst (v := 5) C (dall tdX6_told 51 rfl) (by decide) ?_
        refine r_icmp_ne (tgt := 104) C (dall tdX6_told 52 rfl) (by decide) (fun c8 => ?_) (fun c8 => ?_)
        · have h := (if_neg c8).symm.trans h
          have ok := ok.2 c8
          refine r_aload_n C 0 (dall tdX6_told 57 rfl) rfl ?_
          refine r_iload_n C 1 (dall tdX6_told 58 rfl) rfl ?_
          have o9 := ok
          refine r_vI (as := [.int a1_]) C (zX6_costsOf cy q σ a1_ o9) mv_X6_costsOf km_X6_135 (by decide) (by decide) ⟨Nat.le_refl _, Nat.le_refl _⟩ rfl rfl rfl rfl (Nat.le_of_ble_eq_true rfl) (dall tdX6_told 59 rfl) ?_
          refine r_pick [] rfl ?_
          exact wX6_told_109 ((fX6_costsOf σ a1_).2) ((fX6_costsOf σ a1_).1) C hR  h
        · have h := (if_pos c8).symm.trans h
          have ok := ok.1 c8
          refine r_aload_n C 0 (dall tdX6_told 53 rfl) rfl ?_
          refine r_iload_n C 1 (dall tdX6_told 54 rfl) rfl ?_
          have o10 := ok
          refine r_vI (as := [.int a1_]) C (zX6_fadesOf cy q σ a1_ o10) mv_X6_fadesOf km_X6_132 (by decide) (by decide) ⟨Nat.le_refl _, Nat.le_refl _⟩ rfl rfl rfl rfl (Nat.le_of_ble_eq_true rfl) (dall tdX6_told 55 rfl) ?_
          refine r_pick [] rfl ?_
          exact wX6_told_101 ((fX6_fadesOf σ a1_).2) ((fX6_fadesOf σ a1_).1) C hR  h
      · have h := (if_pos c7).symm.trans h
        have ok := ok.1 c7
        refine r_aload_n C 0 (dall tdX6_told 46 rfl) rfl ?_
        refine r_iload_n C 1 (dall tdX6_told 47 rfl) rfl ?_
        have o11 := ok
        refine r_vI (as := [.int a1_]) C (zX6_holdsOf cy q σ a1_ o11) mv_X6_holdsOf km_X6_129 (by decide) (by decide) ⟨Nat.le_refl _, Nat.le_refl _⟩ rfl rfl rfl rfl (Nat.le_of_ble_eq_true rfl) (dall tdX6_told 48 rfl) ?_
        refine r_pick [] rfl ?_
        exact wX6_told_88 ((fX6_holdsOf σ a1_).2) ((fX6_holdsOf σ a1_).1) C hR  h
  · have h := (if_neg c1).symm.trans h
    have ok := ok.2 c1
    refine r_iload_n C 2 (dall tdX6_told 24 rfl) rfl ?_
    refine r_if_ne (tgt := 59) C (dall tdX6_told 25 rfl) (by decide) (fun c12 => ?_) (fun c12 => ?_)
    · have h := (if_neg c12).symm.trans h
      have ok := ok.2 c12
      refine r_aload_n C 0 (dall tdX6_told 29 rfl) rfl ?_
      refine r_get C 0 kw_X6 rfl rfl (by decide) kf_X6_29 rfl rfl (dall tdX6_told 30 rfl) ?_
      refine r_iconst (v := 3) C (dall tdX6_told 31 rfl) (by decide) ?_
      refine r_iload_n C 1 (dall tdX6_told 32 rfl) rfl ?_
      refine r_imul C (dall tdX6_told 33 rfl) ?_
      refine r_iload_n C 2 (dall tdX6_told 34 rfl) rfl ?_
      refine r_iadd C (dall tdX6_told 35 rfl) ?_
      refine r_iconst (v := 1) C (dall tdX6_told 36 rfl) (by decide) ?_
      refine r_isub C (dall tdX6_told 37 rfl) ?_
      have o13 := ok
      refine r_iald C 4 0 rfl rfl o13 (dall tdX6_told 38 rfl) ?_
      exact r_iret C hR (dall tdX6_told 39 rfl) (by subst h; exact ⟨rfl, rfl⟩)
    · have h := (if_pos c12).symm.trans h
      have ok := ok.1 c12
      refine r_aload_n C 0 (dall tdX6_told 26 rfl) rfl ?_
      refine r_get C 0 kw_X6 rfl rfl (by decide) kf_X6_115 rfl rfl (dall tdX6_told 27 rfl) ?_
      refine r_goto (tgt := 71) C (dall tdX6_told 28 rfl) (by decide) ?_
      exact r_iret C hR (dall tdX6_told 39 rfl) (by subst h; exact ⟨rfl, rfl⟩)
def pX6_told_0  (σ : OS) (a1_ : Int32) (a2_ : Int32) : Int32 × OS := if (fX6_in a2_.toInt64 0 (8)) = 0 then ((-2), σ) else if a2_ ≤ 0 then pX6_told_43  σ a1_ a2_ else if a2_ = 8 then if (fX6_isCell a1_) = 0 then ((-2), σ) else pX6_told_43  σ a1_ a2_ else if (fX6_isOne σ a1_) = 0 then ((-2), σ) else pX6_told_43  σ a1_ a2_
def oX6_told_0  (σ : OS) (a1_ : Int32) (a2_ : Int32) : Prop := ((fX6_in a2_.toInt64 0 (8)) = 0 → True) ∧ (¬ ((fX6_in a2_.toInt64 0 (8)) = 0) → (a2_ ≤ 0 → oX6_told_43  σ a1_ a2_) ∧ (¬ (a2_ ≤ 0) → (a2_ = 8 → (gX6_isCell a1_) ∧ (((fX6_isCell a1_) = 0 → True) ∧ (¬ ((fX6_isCell a1_) = 0) → oX6_told_43  σ a1_ a2_))) ∧ (¬ (a2_ = 8) → (gX6_isOne σ a1_) ∧ (((fX6_isOne σ a1_) = 0 → True) ∧ (¬ ((fX6_isOne σ a1_) = 0) → oX6_told_43  σ a1_ a2_)))))
set_option maxHeartbeats 4000000 in
set_option maxRecDepth 100000 in
theorem wX6_told_0 {X : CX} {cy : Nat → ClassId} {q : Nat → Nat} {D : va_G} {A : Nat → Prop} {res : Int32 × OS} (σ : OS) (a1_ : Int32) (a2_ : Int32) (C : Cx X cX6_told RX6 3 D (gty cy) A 44 0 0) (hR : Rt X (some .int) D (gty cy) A 0 0 (eI (wX6 cy q res.2) res.1))  (ok : oX6_told_0  σ a1_ a2_) (h : pX6_told_0  σ a1_ a2_ = res) : At X D A 3 0 0 0 [(0, .ref (q 41)), (1, .int a1_), (2, .int a2_)] [] (wX6 cy q σ) := by
  unfold pX6_told_0 at h
  unfold oX6_told_0 at ok
  refine r_iload_n C 2 (dall tdX6_told 0 rfl) rfl ?_
  refine r_i2l C (dall tdX6_told 1 rfl) ?_
  refine r_lconst (v := 0) C (dall tdX6_told 2 rfl) (by decide) ?_
  refine r_ldc2 C kk_X6_127 (dall tdX6_told 3 rfl) ?_
  refine r_s0I (as := [.long a2_.toInt64, .long 0, .long (8)]) C (zX6_in a2_.toInt64 0 (8) ) ms_X6_in km_X6_74 (by decide) (by decide) ⟨Nat.le_refl _, Nat.le_refl _⟩ rfl rfl (Nat.le_of_ble_eq_true rfl) (dall tdX6_told 4 rfl) ?_
  refine r_if_eq (tgt := 40) C (dall tdX6_told 5 rfl) (by decide) (fun c14 => ?_) (fun c14 => ?_)
  · have h := (if_pos c14).symm.trans h
    have ok := ok.1 c14
    refine r_bipush (v := -2) C (dall tdX6_told 19 rfl) (by decide) ?_
    exact r_iret C hR (dall tdX6_told 20 rfl) (by subst h; exact ⟨rfl, rfl⟩)
  · have h := (if_neg c14).symm.trans h
    have ok := ok.2 c14
    refine r_iload_n C 2 (dall tdX6_told 6 rfl) rfl ?_
    refine r_if_le (tgt := 43) C (dall tdX6_told 7 rfl) (by decide) (fun c15 => ?_) (fun c15 => ?_)
    · have h := (if_pos c15).symm.trans h
      have ok := ok.1 c15
      exact wX6_told_43 σ a1_ a2_ C hR  ok h
    · have h := (if_neg c15).symm.trans h
      have ok := ok.2 c15
      refine r_iload_n C 2 (dall tdX6_told 8 rfl) rfl ?_
      refine r_bipush (v := 8) C (dall tdX6_told 9 rfl) (by decide) ?_
      refine r_icmp_ne (tgt := 32) C (dall tdX6_told 10 rfl) (by decide) (fun c16 => ?_) (fun c16 => ?_)
      · have h := (if_neg c16).symm.trans h
        have ok := ok.2 c16
        refine r_aload_n C 0 (dall tdX6_told 15 rfl) rfl ?_
        refine r_iload_n C 1 (dall tdX6_told 16 rfl) rfl ?_
        obtain ⟨o17, ok⟩ := ok
        refine r_vI (as := [.int a1_]) C (zX6_isOne cy q σ a1_ o17) mv_X6_isOne km_X6_90 (by decide) (by decide) ⟨Nat.le_refl _, Nat.le_refl _⟩ rfl rfl rfl rfl (Nat.le_of_ble_eq_true rfl) (dall tdX6_told 17 rfl) ?_
        refine r_if_ne (tgt := 43) C (dall tdX6_told 18 rfl) (by decide) (fun c18 => ?_) (fun c18 => ?_)
        · have h := (if_neg c18).symm.trans h
          have ok := ok.2 c18
          exact wX6_told_43 σ a1_ a2_ C hR  ok h
        · have h := (if_pos c18).symm.trans h
          have ok := ok.1 c18
          refine r_bipush (v := -2) C (dall tdX6_told 19 rfl) (by decide) ?_
          exact r_iret C hR (dall tdX6_told 20 rfl) (by subst h; exact ⟨rfl, rfl⟩)
      · have h := (if_pos c16).symm.trans h
        have ok := ok.1 c16
        refine r_iload_n C 1 (dall tdX6_told 11 rfl) rfl ?_
        obtain ⟨o19, ok⟩ := ok
        refine r_s0I (as := [.int a1_]) C (zX6_isCell a1_ o19) ms_X6_isCell km_X6_94 (by decide) (by decide) ⟨Nat.le_refl _, Nat.le_refl _⟩ rfl rfl (Nat.le_of_ble_eq_true rfl) (dall tdX6_told 12 rfl) ?_
        refine r_if_ne (tgt := 43) C (dall tdX6_told 13 rfl) (by decide) (fun c20 => ?_) (fun c20 => ?_)
        · have h := (if_neg c20).symm.trans h
          have ok := ok.2 c20
          exact wX6_told_43 σ a1_ a2_ C hR  ok h
        · have h := (if_pos c20).symm.trans h
          have ok := ok.1 c20
          refine r_goto (tgt := 40) C (dall tdX6_told 14 rfl) (by decide) ?_
          refine r_bipush (v := -2) C (dall tdX6_told 19 rfl) (by decide) ?_
          exact r_iret C hR (dall tdX6_told 20 rfl) (by subst h; exact ⟨rfl, rfl⟩)
def fX6_told (σ : OS) (a1_ : Int32) (a2_ : Int32) : Int32 × OS := pX6_told_0  σ a1_ a2_
def gX6_told (σ : OS) (a1_ : Int32) (a2_ : Int32) : Prop := oX6_told_0  σ a1_ a2_
set_option maxRecDepth 100000 in
theorem zX6_told (cy : Nat → ClassId) (q : Nat → Nat)  {D : va_G} (σ : OS) (a1_ : Int32) (a2_ : Int32) (ok : gX6_told σ a1_ a2_)  : Con yX6_told cX6_told 3 (some .int) 44 0 0 D (gty cy) [.ref (q 41), .int a1_, .int a2_] (wX6 cy q σ) (eI (wX6 cy q (fX6_told σ a1_ a2_).2) (fX6_told σ a1_ a2_).1) :=
  Con.of (own := RX6) (by decide +kernel) rfl (Nat.le_of_ble_eq_true rfl) (Nat.zero_le _) (fun X A C hR _ => (wX6_told_0 σ a1_ a2_ C hR  ok rfl))
theorem mv_X6_told : MV yX6_told cX6_told 3 (some .int) RX6 2 := ⟨ki_X6_told, kv_X6_told, kn_X6, kc_X6_told, by decide +kernel⟩
def tbX6_falls : List (Nat × Instr × Nat) := [(0, .aload_n 0, 1), (1, .getfield 25, 3), (4, .aload_n 0, 1), (5, .invokevirtual 147, 3), (8, .bipush 64, 2), (10, .invokestatic 376, 3), (13, .lstore_n 1, 1), (14, .iconst 0, 1), (15, .istore_n 3, 1), (16, .iconst 0, 1), (17, .istore 4, 2), (19, .iload 4, 2), (21, .aload_n 0, 1), (22, .getfield 71, 3), (25, .if_icmp .ge 39, 3), (28, .iload_n 3, 1), (29, .aload_n 0, 1), (30, .getfield 32, 3), (33, .iload 4, 2), (35, .laload, 1), (36, .lload_n 1, 1), (37, .ldc2_w 105, 3), (40, .lxor, 1), (41, .land, 1), (42, .invokestatic 138, 3), (45, .iadd, 1), (46, .istore_n 3, 1), (47, .aload_n 0, 1), (48, .getfield 32, 3), (51, .iload 4, 2), (53, .dup2, 1), (54, .laload, 1), (55, .lload_n 1, 1), (56, .land, 1), (57, .lastore, 1), (58, .iinc 4 1, 3), (61, .goto (-42), 3), (64, .iload_n 3, 1), (65, .ireturn, 1)]
theorem tdX6_falls : tbX6_falls.all (fun q => decide (decode cX6_falls q.1 = .ok q.2)) = true := by decide +kernel
def bX6_falls_19 (a1_ : Int64)  (kR19 : OS × Int32 × Int32 → Int32 × OS) (v : OS × Int32 × Int32) : Int32 × OS := if (v.1.1 12) ≤ v.2.2 then (v.2.1, v.1) else kR19 (oT v.1 11 v.2.2.toNatClampNeg ((v.1.2.2.2 11 v.2.2.toNatClampNeg) &&& a1_), v.2.1 + (fX6_bitsOf ((v.1.2.2.2 11 v.2.2.toNatClampNeg) &&& (a1_ ^^^ (-1)))), v.2.2 + 1)
def kX6_falls_19 (a1_ : Int64)  (kO19 : OS × Int32 × Int32 → Prop) (v : OS × Int32 × Int32) : Prop := ((v.1.1 12) ≤ v.2.2 → True) ∧ (¬ ((v.1.1 12) ≤ v.2.2) → (vp_in v.2.2 5) ∧ ((gX6_bitsOf ((v.1.2.2.2 11 v.2.2.toNatClampNeg) &&& (a1_ ^^^ (-1)))) ∧ ((vp_in v.2.2 5) ∧ ((vp_in v.2.2 5) ∧ (kO19 (oT v.1 11 v.2.2.toNatClampNeg ((v.1.2.2.2 11 v.2.2.toNatClampNeg) &&& a1_), v.2.1 + (fX6_bitsOf ((v.1.2.2.2 11 v.2.2.toNatClampNeg) &&& (a1_ ^^^ (-1)))), v.2.2 + 1))))))
set_option maxHeartbeats 4000000 in
set_option maxRecDepth 100000 in
theorem wX6_falls_19 {X : CX} {cy : Nat → ClassId} {q : Nat → Nat} {D : va_G} {A : Nat → Prop} {res : Int32 × OS} (a1_ : Int64) (C : Cx X cX6_falls RX6 5 D (gty cy) A 2 0 0) (hR : Rt X (some .int) D (gty cy) A 0 0 (eI (wX6 cy q res.2) res.1)) (kR19 : OS × Int32 × Int32 → Int32 × OS) (kO19 : OS × Int32 × Int32 → Prop) (hk19 : ∀ z, kO19 z → kR19 z = res → At X D A 5 0 0 19 [(0, .ref (q 41)), (1, .long a1_), (3, .int z.2.1), (4, .int z.2.2)] [] (wX6 cy q z.1)) (v : OS × Int32 × Int32) (ok : kX6_falls_19 a1_ kO19 v) (h : bX6_falls_19 a1_ kR19 v = res) : At X D A 5 0 0 19 [(0, .ref (q 41)), (1, .long a1_), (3, .int v.2.1), (4, .int v.2.2)] [] (wX6 cy q v.1) := by
  unfold bX6_falls_19 at h
  unfold kX6_falls_19 at ok
  refine r_iload C 3 (dall tdX6_falls 11 rfl) rfl ?_
  refine r_aload_n C 0 (dall tdX6_falls 12 rfl) rfl ?_
  refine r_get C 0 kw_X6 rfl rfl (by decide) kf_X6_71 rfl rfl (dall tdX6_falls 13 rfl) ?_
  refine r_icmp_ge (tgt := 64) C (dall tdX6_falls 14 rfl) (by decide) (fun c1 => ?_) (fun c1 => ?_)
  · have h := (if_pos c1).symm.trans h
    have ok := ok.1 c1
    refine r_iload_n C 2 (dall tdX6_falls 37 rfl) rfl ?_
    exact r_iret C hR (dall tdX6_falls 38 rfl) (by subst h; exact ⟨rfl, rfl⟩)
  · have h := (if_neg c1).symm.trans h
    have ok := ok.2 c1
    refine r_iload_n C 2 (dall tdX6_falls 15 rfl) rfl ?_
    refine r_aload_n C 0 (dall tdX6_falls 16 rfl) rfl ?_
    refine r_get C 0 kw_X6 rfl rfl (by decide) kf_X6_32 rfl rfl (dall tdX6_falls 17 rfl) ?_
    refine r_iload C 3 (dall tdX6_falls 18 rfl) rfl ?_
    obtain ⟨o2, ok⟩ := ok
    refine r_lald C 5 1 rfl rfl o2 (dall tdX6_falls 19 rfl) ?_
    refine r_lload_n C 1 (dall tdX6_falls 20 rfl) rfl ?_
    refine r_ldc2 C kk_X6_105 (dall tdX6_falls 21 rfl) ?_
    refine r_lxor C (dall tdX6_falls 22 rfl) ?_
    refine r_land C (dall tdX6_falls 23 rfl) ?_
    obtain ⟨o3, ok⟩ := ok
    refine r_s0I (as := [.long ((v.1.2.2.2 11 v.2.2.toNatClampNeg) &&& (a1_ ^^^ (-1)))]) C (zX6_bitsOf ((v.1.2.2.2 11 v.2.2.toNatClampNeg) &&& (a1_ ^^^ (-1))) o3) ms_X6_bitsOf km_X6_138 (by decide) (by decide) ⟨Nat.le_refl _, Nat.le_refl _⟩ rfl rfl (Nat.le_of_ble_eq_true rfl) (dall tdX6_falls 24 rfl) ?_
    refine r_iadd C (dall tdX6_falls 25 rfl) ?_
    refine r_istore_n (lv' := [(3, .int (v.2.1 + (fX6_bitsOf ((v.1.2.2.2 11 v.2.2.toNatClampNeg) &&& (a1_ ^^^ (-1)))))), (0, .ref (q 41)), (1, .long a1_), (4, .int v.2.2)]) C (dall tdX6_falls 26 rfl) (by decide) rfl ?_
    refine r_aload_n C 1 (dall tdX6_falls 27 rfl) rfl ?_
    refine r_get C 0 kw_X6 rfl rfl (by decide) kf_X6_32 rfl rfl (dall tdX6_falls 28 rfl) ?_
    refine r_iload C 3 (dall tdX6_falls 29 rfl) rfl ?_
    refine r_dup2_11 C (dall tdX6_falls 30 rfl) rfl rfl ?_
    obtain ⟨o4, ok⟩ := ok
    refine r_lald C 5 1 rfl rfl o4 (dall tdX6_falls 31 rfl) ?_
    refine r_lload_n C 2 (dall tdX6_falls 32 rfl) rfl ?_
    refine r_land C (dall tdX6_falls 33 rfl) ?_
    obtain ⟨o5, ok⟩ := ok
    refine r_last C 5 1 rfl rfl o5 (pa_X6_this_11 cy q v.1 v.2.2.toNatClampNeg ((v.1.2.2.2 11 v.2.2.toNatClampNeg) &&& a1_)) (dall tdX6_falls 34 rfl) ?_
    refine r_iinc (v := v.2.2 + 1) (lv' := [(4, .int (v.2.2 + 1)), (3, .int (v.2.1 + (fX6_bitsOf ((v.1.2.2.2 11 v.2.2.toNatClampNeg) &&& (a1_ ^^^ (-1)))))), (0, .ref (q 41)), (1, .long a1_)]) C 3 (dall tdX6_falls 35 rfl) rfl rfl (by decide) rfl ?_
    refine r_goto (tgt := 19) C (dall tdX6_falls 36 rfl) (by decide) ?_
    refine r_pick [2, 3, 1, 0] rfl ?_
    exact hk19 (oT v.1 11 v.2.2.toNatClampNeg ((v.1.2.2.2 11 v.2.2.toNatClampNeg) &&& a1_), v.2.1 + (fX6_bitsOf ((v.1.2.2.2 11 v.2.2.toNatClampNeg) &&& (a1_ ^^^ (-1)))), v.2.2 + 1) ok h
set_option maxHeartbeats 4000000 in
set_option maxRecDepth 100000 in
theorem lX6_falls_19 {X : CX} {cy : Nat → ClassId} {q : Nat → Nat} {D : va_G} {A : Nat → Prop} {res : Int32 × OS} (a1_ : Int64) (C : Cx X cX6_falls RX6 5 D (gty cy) A 2 0 0) (hR : Rt X (some .int) D (gty cy) A 0 0 (eI (wX6 cy q res.2) res.1))  (n : Nat) (v : OS × Int32 × Int32) (ok : lpOk (kX6_falls_19 a1_ ) n v) (h : lp (0, o0) (bX6_falls_19 a1_ ) n v = res) : At X D A 5 0 0 19 [(0, .ref (q 41)), (1, .long a1_), (3, .int v.2.1), (4, .int v.2.2)] [] (wX6 cy q v.1) :=
  lp_rule (fun v rr_ => rr_ = res → At X D A 5 0 0 19 [(0, .ref (q 41)), (1, .long a1_), (3, .int v.2.1), (4, .int v.2.2)] [] (wX6 cy q v.1)) (fun kR kO hk v ok h => wX6_falls_19 a1_ C hR  kR kO hk v ok h) n v ok h
def pX6_falls_0  (σ : OS) : Int32 × OS := lp (0, o0) (bX6_falls_19 (fX6_comeTo (σ.2.1 9) (fX6_stands σ) 64) ) fu (σ, 0, 0)
def oX6_falls_0  (σ : OS) : Prop := (gX6_stands σ ) ∧ ((gX6_comeTo (σ.2.1 9) (fX6_stands σ) 64) ∧ (lpOk (kX6_falls_19 (fX6_comeTo (σ.2.1 9) (fX6_stands σ) 64) ) fu (σ, 0, 0)))
set_option maxHeartbeats 4000000 in
set_option maxRecDepth 100000 in
theorem wX6_falls_0 {X : CX} {cy : Nat → ClassId} {q : Nat → Nat} {D : va_G} {A : Nat → Prop} {res : Int32 × OS} (σ : OS) (C : Cx X cX6_falls RX6 5 D (gty cy) A 2 0 0) (hR : Rt X (some .int) D (gty cy) A 0 0 (eI (wX6 cy q res.2) res.1))  (ok : oX6_falls_0  σ) (h : pX6_falls_0  σ = res) : At X D A 5 0 0 0 [(0, .ref (q 41))] [] (wX6 cy q σ) := by
  unfold pX6_falls_0 at h
  unfold oX6_falls_0 at ok
  refine r_aload_n C 0 (dall tdX6_falls 0 rfl) rfl ?_
  refine r_get C 0 kw_X6 rfl rfl (by decide) kf_X6_25 rfl rfl (dall tdX6_falls 1 rfl) ?_
  refine r_aload_n C 0 (dall tdX6_falls 2 rfl) rfl ?_
  obtain ⟨o6, ok⟩ := ok
  refine r_vL (as := []) C (zX6_stands cy q σ  o6) mv_X6_stands km_X6_147 (by decide) (by decide) ⟨Nat.le_refl _, Nat.le_refl _⟩ rfl rfl rfl rfl (Nat.le_of_ble_eq_true rfl) (dall tdX6_falls 3 rfl) ?_
  refine r_bipush (v := 64) C (dall tdX6_falls 4 rfl) (by decide) ?_
  obtain ⟨o7, ok⟩ := ok
  refine r_s0L (as := [.long (σ.2.1 9), .long (fX6_stands σ), .int 64]) C (zX6_comeTo (σ.2.1 9) (fX6_stands σ) 64 o7) ms_X6_comeTo km_X6_376 (by decide) (by decide) ⟨Nat.le_refl _, Nat.le_refl _⟩ rfl rfl (Nat.le_of_ble_eq_true rfl) (dall tdX6_falls 5 rfl) ?_
  refine r_lstore_n (lv' := [(1, .long (fX6_comeTo (σ.2.1 9) (fX6_stands σ) 64)), (0, .ref (q 41))]) C (dall tdX6_falls 6 rfl) (by decide) rfl ?_
  refine r_iconst (v := 0) C (dall tdX6_falls 7 rfl) (by decide) ?_
  refine r_istore_n (lv' := [(3, .int 0), (1, .long (fX6_comeTo (σ.2.1 9) (fX6_stands σ) 64)), (0, .ref (q 41))]) C (dall tdX6_falls 8 rfl) (by decide) rfl ?_
  refine r_iconst (v := 0) C (dall tdX6_falls 9 rfl) (by decide) ?_
  refine r_istore (lv' := [(4, .int 0), (3, .int 0), (1, .long (fX6_comeTo (σ.2.1 9) (fX6_stands σ) 64)), (0, .ref (q 41))]) C (dall tdX6_falls 10 rfl) (by decide) rfl ?_
  refine r_pick [3, 2, 1, 0] rfl ?_
  exact lX6_falls_19 (fX6_comeTo (σ.2.1 9) (fX6_stands σ) 64) C hR  fu _ ok h
def fX6_falls (σ : OS) : Int32 × OS := pX6_falls_0  σ
def gX6_falls (σ : OS) : Prop := oX6_falls_0  σ
set_option maxRecDepth 100000 in
theorem zX6_falls (cy : Nat → ClassId) (q : Nat → Nat)  {D : va_G} (σ : OS) (ok : gX6_falls σ )  : Con yX6_falls cX6_falls 5 (some .int) 2 0 0 D (gty cy) [.ref (q 41)] (wX6 cy q σ) (eI (wX6 cy q (fX6_falls σ ).2) (fX6_falls σ ).1) :=
  Con.of (own := RX6) (by decide +kernel) rfl (Nat.le_of_ble_eq_true rfl) (Nat.zero_le _) (fun X A C hR _ => (wX6_falls_0 σ C hR  ok rfl))
theorem mv_X6_falls : MV yX6_falls cX6_falls 5 (some .int) RX6 0 := ⟨ki_X6_falls, kv_X6_falls, kn_X6, kc_X6_falls, by decide +kernel⟩
def tbX6_lays : List (Nat × Instr × Nat) := [(0, .iload_n 1, 1), (1, .ifCond .ne 11, 3), (4, .aload_n 0, 1), (5, .iload_n 3, 1), (6, .putfield 115, 3), (9, .goto 29, 3), (12, .iload_n 1, 1), (13, .iconst 4, 1), (14, .if_icmp .ge 19, 3), (17, .aload_n 0, 1), (18, .getfield 29, 3), (21, .iconst 3, 1), (22, .iload_n 2, 1), (23, .imul, 1), (24, .iload_n 1, 1), (25, .iadd, 1), (26, .iconst 1, 1), (27, .isub, 1), (28, .iload_n 3, 1), (29, .iastore, 1), (30, .goto 8, 3), (33, .aload_n 0, 1), (34, .iload_n 3, 1), (35, .putfield 118, 3), (38, .return_, 1)]
theorem tdX6_lays : tbX6_lays.all (fun q => decide (decode cX6_lays q.1 = .ok q.2)) = true := by decide +kernel
def pX6_lays_0  (σ : OS) (a1_ : Int32) (a2_ : Int32) (a3_ : Int32) : OS := if a1_ = 0 then oI σ 7 a3_ else if 4 ≤ a1_ then oI σ 4 a3_ else oS σ 10 ((((3 * a2_) + a1_) - 1).toNatClampNeg) a3_
def oX6_lays_0  (σ : OS) (a1_ : Int32) (a2_ : Int32) (a3_ : Int32) : Prop := (a1_ = 0 → True) ∧ (¬ (a1_ = 0) → (4 ≤ a1_ → True) ∧ (¬ (4 ≤ a1_) → vp_in (((3 * a2_) + a1_) - 1) 15))
set_option maxHeartbeats 4000000 in
set_option maxRecDepth 100000 in
theorem wX6_lays_0 {X : CX} {cy : Nat → ClassId} {q : Nat → Nat} {D : va_G} {A : Nat → Prop} {res : OS} (σ : OS) (a1_ : Int32) (a2_ : Int32) (a3_ : Int32) (C : Cx X cX6_lays RX6 4 D (gty cy) A 0 0 0) (hR : Rt X none D (gty cy) A 0 0 (eV (wX6 cy q res)))  (ok : oX6_lays_0  σ a1_ a2_ a3_) (h : pX6_lays_0  σ a1_ a2_ a3_ = res) : At X D A 4 0 0 0 [(0, .ref (q 41)), (1, .int a1_), (2, .int a2_), (3, .int a3_)] [] (wX6 cy q σ) := by
  unfold pX6_lays_0 at h
  unfold oX6_lays_0 at ok
  refine r_iload_n C 1 (dall tdX6_lays 0 rfl) rfl ?_
  refine r_if_ne (tgt := 12) C (dall tdX6_lays 1 rfl) (by decide) (fun c1 => ?_) (fun c1 => ?_)
  · have h := (if_neg c1).symm.trans h
    have ok := ok.2 c1
    refine r_iload_n C 1 (dall tdX6_lays 6 rfl) rfl ?_
    refine r_iconst (v := 4) C (dall tdX6_lays 7 rfl) (by decide) ?_
    refine r_icmp_ge (tgt := 33) C (dall tdX6_lays 8 rfl) (by decide) (fun c2 => ?_) (fun c2 => ?_)
    · have h := (if_pos c2).symm.trans h
      have ok := ok.1 c2
      refine r_aload_n C 0 (dall tdX6_lays 21 rfl) rfl ?_
      refine r_iload_n C 3 (dall tdX6_lays 22 rfl) rfl ?_
      refine r_put C 0 kw_X6 tyX6_ok nmX6 rfl rfl (by decide) kf_X6_118 rfl rfl rfl rfl rfl (Nat.le_of_ble_eq_true rfl) (pu_X6_this_4 cy q σ a3_) (dall tdX6_lays 23 rfl) ?_
      exact r_vret C hR (dall tdX6_lays 24 rfl) (by subst h; exact ⟨rfl, rfl⟩)
    · have h := (if_neg c2).symm.trans h
      have ok := ok.2 c2
      refine r_aload_n C 0 (dall tdX6_lays 9 rfl) rfl ?_
      refine r_get C 0 kw_X6 rfl rfl (by decide) kf_X6_29 rfl rfl (dall tdX6_lays 10 rfl) ?_
      refine r_iconst (v := 3) C (dall tdX6_lays 11 rfl) (by decide) ?_
      refine r_iload_n C 2 (dall tdX6_lays 12 rfl) rfl ?_
      refine r_imul C (dall tdX6_lays 13 rfl) ?_
      refine r_iload_n C 1 (dall tdX6_lays 14 rfl) rfl ?_
      refine r_iadd C (dall tdX6_lays 15 rfl) ?_
      refine r_iconst (v := 1) C (dall tdX6_lays 16 rfl) (by decide) ?_
      refine r_isub C (dall tdX6_lays 17 rfl) ?_
      refine r_iload_n C 3 (dall tdX6_lays 18 rfl) rfl ?_
      have o3 := ok
      refine r_iast C 4 0 rfl rfl o3 (pa_X6_this_10 cy q σ ((((3 * a2_) + a1_) - 1).toNatClampNeg) a3_) (dall tdX6_lays 19 rfl) ?_
      refine r_goto (tgt := 38) C (dall tdX6_lays 20 rfl) (by decide) ?_
      exact r_vret C hR (dall tdX6_lays 24 rfl) (by subst h; exact ⟨rfl, rfl⟩)
  · have h := (if_pos c1).symm.trans h
    have ok := ok.1 c1
    refine r_aload_n C 0 (dall tdX6_lays 2 rfl) rfl ?_
    refine r_iload_n C 3 (dall tdX6_lays 3 rfl) rfl ?_
    refine r_put C 0 kw_X6 tyX6_ok nmX6 rfl rfl (by decide) kf_X6_115 rfl rfl rfl rfl rfl (Nat.le_of_ble_eq_true rfl) (pu_X6_this_7 cy q σ a3_) (dall tdX6_lays 4 rfl) ?_
    refine r_goto (tgt := 38) C (dall tdX6_lays 5 rfl) (by decide) ?_
    exact r_vret C hR (dall tdX6_lays 24 rfl) (by subst h; exact ⟨rfl, rfl⟩)
def fX6_lays (σ : OS) (a1_ : Int32) (a2_ : Int32) (a3_ : Int32) : OS := pX6_lays_0  σ a1_ a2_ a3_
def gX6_lays (σ : OS) (a1_ : Int32) (a2_ : Int32) (a3_ : Int32) : Prop := oX6_lays_0  σ a1_ a2_ a3_
set_option maxRecDepth 100000 in
theorem zX6_lays (cy : Nat → ClassId) (q : Nat → Nat)  {D : va_G} (σ : OS) (a1_ : Int32) (a2_ : Int32) (a3_ : Int32) (ok : gX6_lays σ a1_ a2_ a3_)  : Con yX6_lays cX6_lays 4 none 0 0 0 D (gty cy) [.ref (q 41), .int a1_, .int a2_, .int a3_] (wX6 cy q σ) (eV (wX6 cy q (fX6_lays σ a1_ a2_ a3_))) :=
  Con.of (own := RX6) (by decide +kernel) rfl (Nat.le_of_ble_eq_true rfl) (Nat.zero_le _) (fun X A C hR _ => (wX6_lays_0 σ a1_ a2_ a3_ C hR  ok rfl))
theorem mv_X6_lays : MV yX6_lays cX6_lays 4 none RX6 3 := ⟨ki_X6_lays, kv_X6_lays, kn_X6, kc_X6_lays, by decide +kernel⟩
def tbX6_set : List (Nat × Instr × Nat) := [(0, .iload_n 1, 1), (1, .i2l, 1), (2, .lconst 0, 1), (3, .ldc2_w 84, 3), (6, .invokestatic 74, 3), (9, .ifCond .eq 17, 3), (12, .iload_n 3, 1), (13, .i2l, 1), (14, .lconst 0, 1), (15, .iload_n 1, 1), (16, .invokestatic 86, 3), (19, .i2l, 1), (20, .invokestatic 74, 3), (23, .ifCond .ne 6, 3), (26, .bipush (-2), 2), (28, .ireturn, 1), (29, .iload_n 1, 1), (30, .iconst 1, 1), (31, .if_icmp .eq 8, 3), (34, .iload_n 1, 1), (35, .iconst 2, 1), (36, .if_icmp .ne 14, 3), (39, .aload_n 0, 1), (40, .iload_n 2, 1), (41, .invokevirtual 90, 3), (44, .ifCond .ne 32, 3), (47, .goto 26, 3), (50, .iload_n 1, 1), (51, .iconst 3, 1), (52, .if_icmp .ne 24, 3), (55, .iload_n 2, 1), (56, .invokestatic 94, 3), (59, .ifCond .eq 14, 3), (62, .aload_n 0, 1), (63, .invokevirtual 80, 3), (66, .iload_n 2, 1), (67, .invokestatic 97, 3), (70, .ifCond .eq 6, 3), (73, .bipush (-2), 2), (75, .ireturn, 1), (76, .iload_n 1, 1), (77, .iconst 3, 1), (78, .if_icmp .ne 22, 3), (81, .aload_n 0, 1), (82, .getfield 25, 3), (85, .iload_n 2, 1), (86, .invokestatic 97, 3), (89, .ifCond .eq 7, 3), (92, .iconst 1, 1), (93, .goto 13, 3), (96, .iconst 0, 1), (97, .goto 9, 3), (100, .aload_n 0, 1), (101, .iload_n 2, 1), (102, .iload_n 1, 1), (103, .invokevirtual 101, 3), (106, .istore 4, 2), (108, .iload_n 1, 1), (109, .iconst 3, 1), (110, .if_icmp .ne 32, 3), (113, .aload_n 0, 1), (114, .aload_n 0, 1), (115, .getfield 25, 3), (118, .lconst 1, 1), (119, .iload_n 2, 1), (120, .lshl, 1), (121, .ldc2_w 105, 3), (124, .lxor, 1), (125, .land, 1), (126, .iload_n 3, 1), (127, .i2l, 1), (128, .iload_n 2, 1), (129, .lshl, 1), (130, .lor, 1), (131, .putfield 25, 3), (134, .aload_n 0, 1), (135, .invokevirtual 107, 3), (138, .pop, 1), (139, .goto 10, 3), (142, .aload_n 0, 1), (143, .iload_n 1, 1), (144, .iload_n 2, 1), (145, .iload_n 3, 1), (146, .invokevirtual 111, 3), (149, .iload 4, 2), (151, .ireturn, 1)]
theorem tdX6_set : tbX6_set.all (fun q => decide (decode cX6_set q.1 = .ok q.2)) = true := by decide +kernel
def pX6_set_149  (σ : OS) (a4_ : Int32) : Int32 × OS := (a4_, σ)
set_option maxHeartbeats 4000000 in
set_option maxRecDepth 100000 in
theorem wX6_set_149 {X : CX} {cy : Nat → ClassId} {q : Nat → Nat} {D : va_G} {A : Nat → Prop} {res : Int32 × OS} (σ : OS) (a4_ : Int32) (C : Cx X cX6_set RX6 5 D (gty cy) A 45 0 0) (hR : Rt X (some .int) D (gty cy) A 0 0 (eI (wX6 cy q res.2) res.1))  (h : pX6_set_149  σ a4_ = res) : At X D A 5 0 0 149 [(4, .int a4_)] [] (wX6 cy q σ) := by
  unfold pX6_set_149 at h
  refine r_iload C 0 (dall tdX6_set 84 rfl) rfl ?_
  exact r_iret C hR (dall tdX6_set 85 rfl) (by subst h; exact ⟨rfl, rfl⟩)
def pX6_set_138  (σ : OS) (a4_ : Int32) (b0_ : Int32) : Int32 × OS := pX6_set_149  σ a4_
set_option maxHeartbeats 4000000 in
set_option maxRecDepth 100000 in
theorem wX6_set_138 {X : CX} {cy : Nat → ClassId} {q : Nat → Nat} {D : va_G} {A : Nat → Prop} {res : Int32 × OS} (σ : OS) (a4_ : Int32) (b0_ : Int32) (C : Cx X cX6_set RX6 5 D (gty cy) A 45 0 0) (hR : Rt X (some .int) D (gty cy) A 0 0 (eI (wX6 cy q res.2) res.1))  (h : pX6_set_138  σ a4_ b0_ = res) : At X D A 5 0 0 138 [(4, .int a4_)] [.int b0_] (wX6 cy q σ) := by
  unfold pX6_set_138 at h
  refine r_pop C (dall tdX6_set 77 rfl) rfl ?_
  refine r_goto (tgt := 149) C (dall tdX6_set 78 rfl) (by decide) ?_
  exact wX6_set_149 σ a4_ C hR  h
def pX6_set_106  (σ : OS) (a1_ : Int32) (a2_ : Int32) (a3_ : Int32) (b0_ : Int32) : Int32 × OS := if a1_ = 3 then pX6_set_138  ((fX6_falls (oL σ 9 (((σ.2.1 9) &&& ((jshl 1 a2_) ^^^ (-1))) ||| (jshl a3_.toInt64 a2_))) ).2) b0_ ((fX6_falls (oL σ 9 (((σ.2.1 9) &&& ((jshl 1 a2_) ^^^ (-1))) ||| (jshl a3_.toInt64 a2_))) ).1) else pX6_set_149  (fX6_lays σ a1_ a2_ a3_) b0_
def oX6_set_106  (σ : OS) (a1_ : Int32) (a2_ : Int32) (a3_ : Int32) (b0_ : Int32) : Prop := (a1_ = 3 → gX6_falls (oL σ 9 (((σ.2.1 9) &&& ((jshl 1 a2_) ^^^ (-1))) ||| (jshl a3_.toInt64 a2_))) ) ∧ (¬ (a1_ = 3) → gX6_lays σ a1_ a2_ a3_)
set_option maxHeartbeats 4000000 in
set_option maxRecDepth 100000 in
theorem wX6_set_106 {X : CX} {cy : Nat → ClassId} {q : Nat → Nat} {D : va_G} {A : Nat → Prop} {res : Int32 × OS} (σ : OS) (a1_ : Int32) (a2_ : Int32) (a3_ : Int32) (b0_ : Int32) (C : Cx X cX6_set RX6 5 D (gty cy) A 45 0 0) (hR : Rt X (some .int) D (gty cy) A 0 0 (eI (wX6 cy q res.2) res.1))  (ok : oX6_set_106  σ a1_ a2_ a3_ b0_) (h : pX6_set_106  σ a1_ a2_ a3_ b0_ = res) : At X D A 5 0 0 106 [(0, .ref (q 41)), (1, .int a1_), (2, .int a2_), (3, .int a3_)] [.int b0_] (wX6 cy q σ) := by
  unfold pX6_set_106 at h
  unfold oX6_set_106 at ok
  refine r_istore (lv' := [(4, .int b0_), (0, .ref (q 41)), (1, .int a1_), (2, .int a2_), (3, .int a3_)]) C (dall tdX6_set 56 rfl) (by decide) rfl ?_
  refine r_iload_n C 2 (dall tdX6_set 57 rfl) rfl ?_
  refine r_iconst (v := 3) C (dall tdX6_set 58 rfl) (by decide) ?_
  refine r_icmp_ne (tgt := 142) C (dall tdX6_set 59 rfl) (by decide) (fun c1 => ?_) (fun c1 => ?_)
  · have h := (if_neg c1).symm.trans h
    have ok := ok.2 c1
    refine r_aload_n C 1 (dall tdX6_set 79 rfl) rfl ?_
    refine r_iload_n C 2 (dall tdX6_set 80 rfl) rfl ?_
    refine r_iload_n C 3 (dall tdX6_set 81 rfl) rfl ?_
    refine r_iload_n C 4 (dall tdX6_set 82 rfl) rfl ?_
    have o2 := ok
    refine r_vV (as := [.int a1_, .int a2_, .int a3_]) C (zX6_lays cy q σ a1_ a2_ a3_ o2) mv_X6_lays km_X6_111 (by decide) (by decide) ⟨Nat.le_refl _, Nat.le_refl _⟩ rfl rfl rfl rfl (Nat.le_of_ble_eq_true rfl) (dall tdX6_set 83 rfl) ?_
    refine r_pick [0] rfl ?_
    exact wX6_set_149 (fX6_lays σ a1_ a2_ a3_) b0_ C hR  h
  · have h := (if_pos c1).symm.trans h
    have ok := ok.1 c1
    refine r_aload_n C 1 (dall tdX6_set 60 rfl) rfl ?_
    refine r_aload_n C 1 (dall tdX6_set 61 rfl) rfl ?_
    refine r_get C 0 kw_X6 rfl rfl (by decide) kf_X6_25 rfl rfl (dall tdX6_set 62 rfl) ?_
    refine r_lconst (v := 1) C (dall tdX6_set 63 rfl) (by decide) ?_
    refine r_iload_n C 3 (dall tdX6_set 64 rfl) rfl ?_
    refine r_lshl C (dall tdX6_set 65 rfl) ?_
    refine r_ldc2 C kk_X6_105 (dall tdX6_set 66 rfl) ?_
    refine r_lxor C (dall tdX6_set 67 rfl) ?_
    refine r_land C (dall tdX6_set 68 rfl) ?_
    refine r_iload_n C 4 (dall tdX6_set 69 rfl) rfl ?_
    refine r_i2l C (dall tdX6_set 70 rfl) ?_
    refine r_iload_n C 3 (dall tdX6_set 71 rfl) rfl ?_
    refine r_lshl C (dall tdX6_set 72 rfl) ?_
    refine r_lor C (dall tdX6_set 73 rfl) ?_
    refine r_put C 0 kw_X6 tyX6_ok nmX6 rfl rfl (by decide) kf_X6_25 rfl rfl rfl rfl rfl (Nat.le_of_ble_eq_true rfl) (pu_X6_this_9 cy q σ (((σ.2.1 9) &&& ((jshl 1 a2_) ^^^ (-1))) ||| (jshl a3_.toInt64 a2_))) (dall tdX6_set 74 rfl) ?_
    refine r_aload_n C 1 (dall tdX6_set 75 rfl) rfl ?_
    have o3 := ok
    refine r_vI (as := []) C (zX6_falls cy q (oL σ 9 (((σ.2.1 9) &&& ((jshl 1 a2_) ^^^ (-1))) ||| (jshl a3_.toInt64 a2_)))  o3) mv_X6_falls km_X6_107 (by decide) (by decide) ⟨Nat.le_refl _, Nat.le_refl _⟩ rfl rfl rfl rfl (Nat.le_of_ble_eq_true rfl) (dall tdX6_set 76 rfl) ?_
    refine r_pick [0] rfl ?_
    exact wX6_set_138 ((fX6_falls (oL σ 9 (((σ.2.1 9) &&& ((jshl 1 a2_) ^^^ (-1))) ||| (jshl a3_.toInt64 a2_))) ).2) b0_ ((fX6_falls (oL σ 9 (((σ.2.1 9) &&& ((jshl 1 a2_) ^^^ (-1))) ||| (jshl a3_.toInt64 a2_))) ).1) C hR  h
def pX6_set_76  (σ : OS) (a1_ : Int32) (a2_ : Int32) (a3_ : Int32) : Int32 × OS := if a1_ = 3 then if (fX6_has (σ.2.1 9) a2_) = 0 then pX6_set_106  σ a1_ a2_ a3_ 0 else pX6_set_106  σ a1_ a2_ a3_ 1 else pX6_set_106  ((fX6_told σ a2_ a1_).2) a1_ a2_ a3_ ((fX6_told σ a2_ a1_).1)
def oX6_set_76  (σ : OS) (a1_ : Int32) (a2_ : Int32) (a3_ : Int32) : Prop := (a1_ = 3 → ((fX6_has (σ.2.1 9) a2_) = 0 → oX6_set_106  σ a1_ a2_ a3_ 0) ∧ (¬ ((fX6_has (σ.2.1 9) a2_) = 0) → oX6_set_106  σ a1_ a2_ a3_ 1)) ∧ (¬ (a1_ = 3) → (gX6_told σ a2_ a1_) ∧ (oX6_set_106  ((fX6_told σ a2_ a1_).2) a1_ a2_ a3_ ((fX6_told σ a2_ a1_).1)))
set_option maxHeartbeats 4000000 in
set_option maxRecDepth 100000 in
theorem wX6_set_76 {X : CX} {cy : Nat → ClassId} {q : Nat → Nat} {D : va_G} {A : Nat → Prop} {res : Int32 × OS} (σ : OS) (a1_ : Int32) (a2_ : Int32) (a3_ : Int32) (C : Cx X cX6_set RX6 5 D (gty cy) A 45 0 0) (hR : Rt X (some .int) D (gty cy) A 0 0 (eI (wX6 cy q res.2) res.1))  (ok : oX6_set_76  σ a1_ a2_ a3_) (h : pX6_set_76  σ a1_ a2_ a3_ = res) : At X D A 5 0 0 76 [(0, .ref (q 41)), (1, .int a1_), (2, .int a2_), (3, .int a3_)] [] (wX6 cy q σ) := by
  unfold pX6_set_76 at h
  unfold oX6_set_76 at ok
  refine r_iload_n C 1 (dall tdX6_set 40 rfl) rfl ?_
  refine r_iconst (v := 3) C (dall tdX6_set 41 rfl) (by decide) ?_
  refine r_icmp_ne (tgt := 100) C (dall tdX6_set 42 rfl) (by decide) (fun c4 => ?_) (fun c4 => ?_)
  · have h := (if_neg c4).symm.trans h
    have ok := ok.2 c4
    refine r_aload_n C 0 (dall tdX6_set 52 rfl) rfl ?_
    refine r_iload_n C 2 (dall tdX6_set 53 rfl) rfl ?_
    refine r_iload_n C 1 (dall tdX6_set 54 rfl) rfl ?_
    obtain ⟨o5, ok⟩ := ok
    refine r_vI (as := [.int a2_, .int a1_]) C (zX6_told cy q σ a2_ a1_ o5) mv_X6_told km_X6_101 (by decide) (by decide) ⟨Nat.le_refl _, Nat.le_refl _⟩ rfl rfl rfl rfl (Nat.le_of_ble_eq_true rfl) (dall tdX6_set 55 rfl) ?_
    exact wX6_set_106 ((fX6_told σ a2_ a1_).2) a1_ a2_ a3_ ((fX6_told σ a2_ a1_).1) C hR  ok h
  · have h := (if_pos c4).symm.trans h
    have ok := ok.1 c4
    refine r_aload_n C 0 (dall tdX6_set 43 rfl) rfl ?_
    refine r_get C 0 kw_X6 rfl rfl (by decide) kf_X6_25 rfl rfl (dall tdX6_set 44 rfl) ?_
    refine r_iload_n C 2 (dall tdX6_set 45 rfl) rfl ?_
    refine r_s0I (as := [.long (σ.2.1 9), .int a2_]) C (zX6_has (σ.2.1 9) a2_ ) ms_X6_has km_X6_97 (by decide) (by decide) ⟨Nat.le_refl _, Nat.le_refl _⟩ rfl rfl (Nat.le_of_ble_eq_true rfl) (dall tdX6_set 46 rfl) ?_
    refine r_if_eq (tgt := 96) C (dall tdX6_set 47 rfl) (by decide) (fun c6 => ?_) (fun c6 => ?_)
    · have h := (if_pos c6).symm.trans h
      have ok := ok.1 c6
      refine r_iconst (v := 0) C (dall tdX6_set 50 rfl) (by decide) ?_
      refine r_goto (tgt := 106) C (dall tdX6_set 51 rfl) (by decide) ?_
      exact wX6_set_106 σ a1_ a2_ a3_ 0 C hR  ok h
    · have h := (if_neg c6).symm.trans h
      have ok := ok.2 c6
      refine r_iconst (v := 1) C (dall tdX6_set 48 rfl) (by decide) ?_
      refine r_goto (tgt := 106) C (dall tdX6_set 49 rfl) (by decide) ?_
      exact wX6_set_106 σ a1_ a2_ a3_ 1 C hR  ok h
def pX6_set_39  (σ : OS) (a1_ : Int32) (a2_ : Int32) (a3_ : Int32) : Int32 × OS := if (fX6_isOne σ a2_) = 0 then ((-2), σ) else pX6_set_76  σ a1_ a2_ a3_
def oX6_set_39  (σ : OS) (a1_ : Int32) (a2_ : Int32) (a3_ : Int32) : Prop := (gX6_isOne σ a2_) ∧ (((fX6_isOne σ a2_) = 0 → True) ∧ (¬ ((fX6_isOne σ a2_) = 0) → oX6_set_76  σ a1_ a2_ a3_))
set_option maxHeartbeats 4000000 in
set_option maxRecDepth 100000 in
theorem wX6_set_39 {X : CX} {cy : Nat → ClassId} {q : Nat → Nat} {D : va_G} {A : Nat → Prop} {res : Int32 × OS} (σ : OS) (a1_ : Int32) (a2_ : Int32) (a3_ : Int32) (C : Cx X cX6_set RX6 5 D (gty cy) A 45 0 0) (hR : Rt X (some .int) D (gty cy) A 0 0 (eI (wX6 cy q res.2) res.1))  (ok : oX6_set_39  σ a1_ a2_ a3_) (h : pX6_set_39  σ a1_ a2_ a3_ = res) : At X D A 5 0 0 39 [(0, .ref (q 41)), (1, .int a1_), (2, .int a2_), (3, .int a3_)] [] (wX6 cy q σ) := by
  unfold pX6_set_39 at h
  unfold oX6_set_39 at ok
  refine r_aload_n C 0 (dall tdX6_set 22 rfl) rfl ?_
  refine r_iload_n C 2 (dall tdX6_set 23 rfl) rfl ?_
  obtain ⟨o7, ok⟩ := ok
  refine r_vI (as := [.int a2_]) C (zX6_isOne cy q σ a2_ o7) mv_X6_isOne km_X6_90 (by decide) (by decide) ⟨Nat.le_refl _, Nat.le_refl _⟩ rfl rfl rfl rfl (Nat.le_of_ble_eq_true rfl) (dall tdX6_set 24 rfl) ?_
  refine r_if_ne (tgt := 76) C (dall tdX6_set 25 rfl) (by decide) (fun c8 => ?_) (fun c8 => ?_)
  · have h := (if_neg c8).symm.trans h
    have ok := ok.2 c8
    exact wX6_set_76 σ a1_ a2_ a3_ C hR  ok h
  · have h := (if_pos c8).symm.trans h
    have ok := ok.1 c8
    refine r_goto (tgt := 73) C (dall tdX6_set 26 rfl) (by decide) ?_
    refine r_bipush (v := -2) C (dall tdX6_set 38 rfl) (by decide) ?_
    exact r_iret C hR (dall tdX6_set 39 rfl) (by subst h; exact ⟨rfl, rfl⟩)
def pX6_set_0  (σ : OS) (a1_ : Int32) (a2_ : Int32) (a3_ : Int32) : Int32 × OS := if (fX6_in a1_.toInt64 0 (3)) = 0 then ((-2), σ) else if (fX6_in a3_.toInt64 0 ((fX6_mostOf a1_).toInt64)) = 0 then ((-2), σ) else if a1_ = 1 then pX6_set_39  σ a1_ a2_ a3_ else if a1_ = 2 then pX6_set_39  σ a1_ a2_ a3_ else if a1_ = 3 then if (fX6_isCell a2_) = 0 then ((-2), σ) else if (fX6_has (fX6_putAll σ) a2_) = 0 then pX6_set_76  σ a1_ a2_ a3_ else ((-2), σ) else pX6_set_76  σ a1_ a2_ a3_
def oX6_set_0  (σ : OS) (a1_ : Int32) (a2_ : Int32) (a3_ : Int32) : Prop := ((fX6_in a1_.toInt64 0 (3)) = 0 → True) ∧ (¬ ((fX6_in a1_.toInt64 0 (3)) = 0) → ((fX6_in a3_.toInt64 0 ((fX6_mostOf a1_).toInt64)) = 0 → True) ∧ (¬ ((fX6_in a3_.toInt64 0 ((fX6_mostOf a1_).toInt64)) = 0) → (a1_ = 1 → oX6_set_39  σ a1_ a2_ a3_) ∧ (¬ (a1_ = 1) → (a1_ = 2 → oX6_set_39  σ a1_ a2_ a3_) ∧ (¬ (a1_ = 2) → (a1_ = 3 → (gX6_isCell a2_) ∧ (((fX6_isCell a2_) = 0 → True) ∧ (¬ ((fX6_isCell a2_) = 0) → (gX6_putAll σ ) ∧ (((fX6_has (fX6_putAll σ) a2_) = 0 → oX6_set_76  σ a1_ a2_ a3_) ∧ (¬ ((fX6_has (fX6_putAll σ) a2_) = 0) → True))))) ∧ (¬ (a1_ = 3) → oX6_set_76  σ a1_ a2_ a3_)))))
set_option maxHeartbeats 4000000 in
set_option maxRecDepth 100000 in
theorem wX6_set_0 {X : CX} {cy : Nat → ClassId} {q : Nat → Nat} {D : va_G} {A : Nat → Prop} {res : Int32 × OS} (σ : OS) (a1_ : Int32) (a2_ : Int32) (a3_ : Int32) (C : Cx X cX6_set RX6 5 D (gty cy) A 45 0 0) (hR : Rt X (some .int) D (gty cy) A 0 0 (eI (wX6 cy q res.2) res.1))  (ok : oX6_set_0  σ a1_ a2_ a3_) (h : pX6_set_0  σ a1_ a2_ a3_ = res) : At X D A 5 0 0 0 [(0, .ref (q 41)), (1, .int a1_), (2, .int a2_), (3, .int a3_)] [] (wX6 cy q σ) := by
  unfold pX6_set_0 at h
  unfold oX6_set_0 at ok
  refine r_iload_n C 1 (dall tdX6_set 0 rfl) rfl ?_
  refine r_i2l C (dall tdX6_set 1 rfl) ?_
  refine r_lconst (v := 0) C (dall tdX6_set 2 rfl) (by decide) ?_
  refine r_ldc2 C kk_X6_84 (dall tdX6_set 3 rfl) ?_
  refine r_s0I (as := [.long a1_.toInt64, .long 0, .long (3)]) C (zX6_in a1_.toInt64 0 (3) ) ms_X6_in km_X6_74 (by decide) (by decide) ⟨Nat.le_refl _, Nat.le_refl _⟩ rfl rfl (Nat.le_of_ble_eq_true rfl) (dall tdX6_set 4 rfl) ?_
  refine r_if_eq (tgt := 26) C (dall tdX6_set 5 rfl) (by decide) (fun c9 => ?_) (fun c9 => ?_)
  · have h := (if_pos c9).symm.trans h
    have ok := ok.1 c9
    refine r_bipush (v := -2) C (dall tdX6_set 14 rfl) (by decide) ?_
    exact r_iret C hR (dall tdX6_set 15 rfl) (by subst h; exact ⟨rfl, rfl⟩)
  · have h := (if_neg c9).symm.trans h
    have ok := ok.2 c9
    refine r_iload_n C 3 (dall tdX6_set 6 rfl) rfl ?_
    refine r_i2l C (dall tdX6_set 7 rfl) ?_
    refine r_lconst (v := 0) C (dall tdX6_set 8 rfl) (by decide) ?_
    refine r_iload_n C 1 (dall tdX6_set 9 rfl) rfl ?_
    refine r_s0I (as := [.int a1_]) C (zX6_mostOf a1_ ) ms_X6_mostOf km_X6_86 (by decide) (by decide) ⟨Nat.le_refl _, Nat.le_refl _⟩ rfl rfl (Nat.le_of_ble_eq_true rfl) (dall tdX6_set 10 rfl) ?_
    refine r_i2l C (dall tdX6_set 11 rfl) ?_
    refine r_s0I (as := [.long a3_.toInt64, .long 0, .long ((fX6_mostOf a1_).toInt64)]) C (zX6_in a3_.toInt64 0 ((fX6_mostOf a1_).toInt64) ) ms_X6_in km_X6_74 (by decide) (by decide) ⟨Nat.le_refl _, Nat.le_refl _⟩ rfl rfl (Nat.le_of_ble_eq_true rfl) (dall tdX6_set 12 rfl) ?_
    refine r_if_ne (tgt := 29) C (dall tdX6_set 13 rfl) (by decide) (fun c10 => ?_) (fun c10 => ?_)
    · have h := (if_neg c10).symm.trans h
      have ok := ok.2 c10
      refine r_iload_n C 1 (dall tdX6_set 16 rfl) rfl ?_
      refine r_iconst (v := 1) C (dall tdX6_set 17 rfl) (by decide) ?_
      refine r_icmp_eq (tgt := 39) C (dall tdX6_set 18 rfl) (by decide) (fun c11 => ?_) (fun c11 => ?_)
      · have h := (if_pos c11).symm.trans h
        have ok := ok.1 c11
        exact wX6_set_39 σ a1_ a2_ a3_ C hR  ok h
      · have h := (if_neg c11).symm.trans h
        have ok := ok.2 c11
        refine r_iload_n C 1 (dall tdX6_set 19 rfl) rfl ?_
        refine r_iconst (v := 2) C (dall tdX6_set 20 rfl) (by decide) ?_
        refine r_icmp_ne (tgt := 50) C (dall tdX6_set 21 rfl) (by decide) (fun c12 => ?_) (fun c12 => ?_)
        · have h := (if_neg c12).symm.trans h
          have ok := ok.2 c12
          refine r_iload_n C 1 (dall tdX6_set 27 rfl) rfl ?_
          refine r_iconst (v := 3) C (dall tdX6_set 28 rfl) (by decide) ?_
          refine r_icmp_ne (tgt := 76) C (dall tdX6_set 29 rfl) (by decide) (fun c13 => ?_) (fun c13 => ?_)
          · have h := (if_neg c13).symm.trans h
            have ok := ok.2 c13
            exact wX6_set_76 σ a1_ a2_ a3_ C hR  ok h
          · have h := (if_pos c13).symm.trans h
            have ok := ok.1 c13
            refine r_iload_n C 2 (dall tdX6_set 30 rfl) rfl ?_
            obtain ⟨o14, ok⟩ := ok
            refine r_s0I (as := [.int a2_]) C (zX6_isCell a2_ o14) ms_X6_isCell km_X6_94 (by decide) (by decide) ⟨Nat.le_refl _, Nat.le_refl _⟩ rfl rfl (Nat.le_of_ble_eq_true rfl) (dall tdX6_set 31 rfl) ?_
            refine r_if_eq (tgt := 73) C (dall tdX6_set 32 rfl) (by decide) (fun c15 => ?_) (fun c15 => ?_)
            · have h := (if_pos c15).symm.trans h
              have ok := ok.1 c15
              refine r_bipush (v := -2) C (dall tdX6_set 38 rfl) (by decide) ?_
              exact r_iret C hR (dall tdX6_set 39 rfl) (by subst h; exact ⟨rfl, rfl⟩)
            · have h := (if_neg c15).symm.trans h
              have ok := ok.2 c15
              refine r_aload_n C 0 (dall tdX6_set 33 rfl) rfl ?_
              obtain ⟨o16, ok⟩ := ok
              refine r_vL (as := []) C (zX6_putAll cy q σ  o16) mv_X6_putAll km_X6_80 (by decide) (by decide) ⟨Nat.le_refl _, Nat.le_refl _⟩ rfl rfl rfl rfl (Nat.le_of_ble_eq_true rfl) (dall tdX6_set 34 rfl) ?_
              refine r_iload_n C 2 (dall tdX6_set 35 rfl) rfl ?_
              refine r_s0I (as := [.long (fX6_putAll σ), .int a2_]) C (zX6_has (fX6_putAll σ) a2_ ) ms_X6_has km_X6_97 (by decide) (by decide) ⟨Nat.le_refl _, Nat.le_refl _⟩ rfl rfl (Nat.le_of_ble_eq_true rfl) (dall tdX6_set 36 rfl) ?_
              refine r_if_eq (tgt := 76) C (dall tdX6_set 37 rfl) (by decide) (fun c17 => ?_) (fun c17 => ?_)
              · have h := (if_pos c17).symm.trans h
                have ok := ok.1 c17
                exact wX6_set_76 σ a1_ a2_ a3_ C hR  ok h
              · have h := (if_neg c17).symm.trans h
                have ok := ok.2 c17
                refine r_bipush (v := -2) C (dall tdX6_set 38 rfl) (by decide) ?_
                exact r_iret C hR (dall tdX6_set 39 rfl) (by subst h; exact ⟨rfl, rfl⟩)
        · have h := (if_pos c12).symm.trans h
          have ok := ok.1 c12
          exact wX6_set_39 σ a1_ a2_ a3_ C hR  ok h
    · have h := (if_pos c10).symm.trans h
      have ok := ok.1 c10
      refine r_bipush (v := -2) C (dall tdX6_set 14 rfl) (by decide) ?_
      exact r_iret C hR (dall tdX6_set 15 rfl) (by subst h; exact ⟨rfl, rfl⟩)
def fX6_set (σ : OS) (a1_ : Int32) (a2_ : Int32) (a3_ : Int32) : Int32 × OS := pX6_set_0  σ a1_ a2_ a3_
def gX6_set (σ : OS) (a1_ : Int32) (a2_ : Int32) (a3_ : Int32) : Prop := oX6_set_0  σ a1_ a2_ a3_
set_option maxRecDepth 100000 in
theorem zX6_set (cy : Nat → ClassId) (q : Nat → Nat)  {D : va_G} (σ : OS) (a1_ : Int32) (a2_ : Int32) (a3_ : Int32) (ok : gX6_set σ a1_ a2_ a3_)  : Con yX6_set cX6_set 5 (some .int) 45 0 0 D (gty cy) [.ref (q 41), .int a1_, .int a2_, .int a3_] (wX6 cy q σ) (eI (wX6 cy q (fX6_set σ a1_ a2_ a3_).2) (fX6_set σ a1_ a2_ a3_).1) :=
  Con.of (own := RX6) (by decide +kernel) rfl (Nat.le_of_ble_eq_true rfl) (Nat.zero_le _) (fun X A C hR _ => (wX6_set_0 σ a1_ a2_ a3_ C hR  ok rfl))
theorem mv_X6_set : MV yX6_set cX6_set 5 (some .int) RX6 3 := ⟨ki_X6_set, kv_X6_set, kn_X6, kc_X6_set, by decide +kernel⟩

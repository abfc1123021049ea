def tbX6_not3 : List (Nat × Instr × Nat) := [(0, .aload_n 0, 1), (1, .bipush 110, 2), (3, .bipush 111, 2), (5, .bipush 116, 2), (7, .iconst 0, 1), (8, .iconst 0, 1), (9, .iconst 0, 1), (10, .iconst 0, 1), (11, .iconst 0, 1), (12, .invokevirtual 204, 3), (15, .ifCond .eq 37, 3), (18, .aload_n 0, 1), (19, .invokevirtual 229, 3), (22, .ifCond .ne 5, 3), (25, .iconst 0, 1), (26, .ireturn, 1), (27, .aload_n 0, 1), (28, .invokevirtual 267, 3), (31, .istore_n 1, 1), (32, .aload_n 0, 1), (33, .dup, 1), (34, .getfield 195, 3), (37, .iconst 1, 1), (38, .isub, 1), (39, .putfield 195, 3), (42, .iload_n 1, 1), (43, .ifCond .ne 7, 3), (46, .iconst 1, 1), (47, .goto 4, 3), (50, .iconst 0, 1), (51, .ireturn, 1), (52, .aload_n 0, 1), (53, .invokevirtual 282, 3), (56, .istore_n 1, 1), (57, .aload_n 0, 1), (58, .bipush 60, 2), (60, .invokevirtual 226, 3), (63, .ifCond .ne 14, 3), (66, .aload_n 0, 1), (67, .bipush 61, 2), (69, .invokevirtual 226, 3), (72, .ifCond .ne 5, 3), (75, .iload_n 1, 1), (76, .ireturn, 1), (77, .aload_n 0, 1), (78, .getfield 179, 3), (81, .ldc2_w 247, 3), (84, .lcmp, 1), (85, .ifCond .ne 7, 3), (88, .iconst 1, 1), (89, .goto 4, 3), (92, .iconst 0, 1), (93, .istore_n 2, 1), (94, .aload_n 0, 1), (95, .invokevirtual 201, 3), (98, .aload_n 0, 1), (99, .invokevirtual 282, 3), (102, .istore_n 3, 1), (103, .iload_n 2, 1), (104, .ifCond .eq 11, 3), (107, .iload_n 1, 1), (108, .iload_n 3, 1), (109, .if_icmp .ge 15, 3), (112, .goto 8, 3), (115, .iload_n 1, 1), (116, .iload_n 3, 1), (117, .if_icmp .ne 7, 3), (120, .iconst 1, 1), (121, .goto 4, 3), (124, .iconst 0, 1), (125, .ireturn, 1)]
theorem tdX6_not3 : tbX6_not3.all (fun q => decide (decode cX6_not3 q.1 = .ok q.2)) = true := by decide +kernel
def pX6_not3_120  (σ : OS) : Int32 × OS := (1, σ)
set_option maxHeartbeats 4000000 in
set_option maxRecDepth 100000 in
theorem wX6_not3_120 {X : CX} {cy : Nat → ClassId} {q : Nat → Nat} {D : va_G} {A : Nat → Prop} {res : Int32 × OS} (σ : OS) (C : Cx X cX6_not3 RX6 4 D (gty cy) A 19 0 0) (hR : Rt X (some .int) D (gty cy) A 0 0 (eI (wX6 cy q res.2) res.1))  (h : pX6_not3_120  σ = res) : At X D A 4 0 0 120 [] [] (wX6 cy q σ) := by
  unfold pX6_not3_120 at h
  refine r_iconst (v := 1) C (dall tdX6_not3 67 rfl) (by decide) ?_
  refine r_goto (tgt := 125) C (dall tdX6_not3 68 rfl) (by decide) ?_
  exact r_iret C hR (dall tdX6_not3 70 rfl) (by subst h; exact ⟨rfl, rfl⟩)
def pX6_not3_102  (σ : OS) (a1_ : Int32) (a2_ : Int32) (b0_ : Int32) : Int32 × OS := if a2_ = 0 then if a1_ = b0_ then pX6_not3_120  σ else (0, σ) else if b0_ ≤ a1_ then (0, σ) else pX6_not3_120  σ
set_option maxHeartbeats 4000000 in
set_option maxRecDepth 100000 in
theorem wX6_not3_102 {X : CX} {cy : Nat → ClassId} {q : Nat → Nat} {D : va_G} {A : Nat → Prop} {res : Int32 × OS} (σ : OS) (a1_ : Int32) (a2_ : Int32) (b0_ : Int32) (C : Cx X cX6_not3 RX6 4 D (gty cy) A 19 0 0) (hR : Rt X (some .int) D (gty cy) A 0 0 (eI (wX6 cy q res.2) res.1))  (h : pX6_not3_102  σ a1_ a2_ b0_ = res) : At X D A 4 0 0 102 [(1, .int a1_), (2, .int a2_)] [.int b0_] (wX6 cy q σ) := by
  unfold pX6_not3_102 at h
  refine r_istore_n (lv' := [(3, .int b0_), (1, .int a1_), (2, .int a2_)]) C (dall tdX6_not3 57 rfl) (by decide) rfl ?_
  refine r_iload_n C 2 (dall tdX6_not3 58 rfl) rfl ?_
  refine r_if_eq (tgt := 115) C (dall tdX6_not3 59 rfl) (by decide) (fun c1 => ?_) (fun c1 => ?_)
  · have h := (if_pos c1).symm.trans h
    refine r_iload_n C 1 (dall tdX6_not3 64 rfl) rfl ?_
    refine r_iload_n C 0 (dall tdX6_not3 65 rfl) rfl ?_
    refine r_icmp_ne (tgt := 124) C (dall tdX6_not3 66 rfl) (by decide) (fun c2 => ?_) (fun c2 => ?_)
    · have h := (if_neg c2).symm.trans h
      refine r_iconst (v := 0) C (dall tdX6_not3 69 rfl) (by decide) ?_
      exact r_iret C hR (dall tdX6_not3 70 rfl) (by subst h; exact ⟨rfl, rfl⟩)
    · have h := (if_pos c2).symm.trans h
      refine r_pick [] rfl ?_
      exact wX6_not3_120 σ C hR  h
  · have h := (if_neg c1).symm.trans h
    refine r_iload_n C 1 (dall tdX6_not3 60 rfl) rfl ?_
    refine r_iload_n C 0 (dall tdX6_not3 61 rfl) rfl ?_
    refine r_icmp_ge (tgt := 124) C (dall tdX6_not3 62 rfl) (by decide) (fun c3 => ?_) (fun c3 => ?_)
    · have h := (if_pos c3).symm.trans h
      refine r_iconst (v := 0) C (dall tdX6_not3 69 rfl) (by decide) ?_
      exact r_iret C hR (dall tdX6_not3 70 rfl) (by subst h; exact ⟨rfl, rfl⟩)
    · have h := (if_neg c3).symm.trans h
      refine r_goto (tgt := 120) C (dall tdX6_not3 63 rfl) (by decide) ?_
      refine r_pick [] rfl ?_
      exact wX6_not3_120 σ C hR  h
def pX6_not3_98  (σ : OS) (a1_ : Int32) (a2_ : Int32) : Int32 × OS := pX6_not3_102  ((fX6_added3 σ ).2) a1_ a2_ ((fX6_added3 σ ).1)
def oX6_not3_98  (σ : OS) (a1_ : Int32) (a2_ : Int32) : Prop := gX6_added3 σ 
set_option maxHeartbeats 4000000 in
set_option maxRecDepth 100000 in
theorem wX6_not3_98 {X : CX} {cy : Nat → ClassId} {q : Nat → Nat} {D : va_G} {A : Nat → Prop} {res : Int32 × OS} (σ : OS) (a1_ : Int32) (a2_ : Int32) (C : Cx X cX6_not3 RX6 4 D (gty cy) A 19 0 0) (hR : Rt X (some .int) D (gty cy) A 0 0 (eI (wX6 cy q res.2) res.1))  (ok : oX6_not3_98  σ a1_ a2_) (h : pX6_not3_98  σ a1_ a2_ = res) : At X D A 4 0 0 98 [(0, .ref (q 41)), (1, .int a1_), (2, .int a2_)] [] (wX6 cy q σ) := by
  unfold pX6_not3_98 at h
  unfold oX6_not3_98 at ok
  refine r_aload_n C 0 (dall tdX6_not3 55 rfl) rfl ?_
  have o4 := ok
  refine r_vI (as := []) C (zX6_added3 cy q σ  o4) mv_X6_added3 km_X6_282 (by decide) (by decide) ⟨Nat.le_refl _, Nat.le_refl _⟩ rfl rfl rfl rfl (Nat.le_of_ble_eq_true rfl) (dall tdX6_not3 56 rfl) ?_
  refine r_pick [1, 2] rfl ?_
  exact wX6_not3_102 ((fX6_added3 σ ).2) a1_ a2_ ((fX6_added3 σ ).1) C hR  h
def pX6_not3_93  (σ : OS) (a1_ : Int32) (b0_ : Int32) : Int32 × OS := pX6_not3_98  (fX6_next σ) a1_ b0_
def oX6_not3_93  (σ : OS) (a1_ : Int32) (b0_ : Int32) : Prop := (gX6_next σ ) ∧ (oX6_not3_98  (fX6_next σ) a1_ b0_)
set_option maxHeartbeats 4000000 in
set_option maxRecDepth 100000 in
theorem wX6_not3_93 {X : CX} {cy : Nat → ClassId} {q : Nat → Nat} {D : va_G} {A : Nat → Prop} {res : Int32 × OS} (σ : OS) (a1_ : Int32) (b0_ : Int32) (C : Cx X cX6_not3 RX6 4 D (gty cy) A 19 0 0) (hR : Rt X (some .int) D (gty cy) A 0 0 (eI (wX6 cy q res.2) res.1))  (ok : oX6_not3_93  σ a1_ b0_) (h : pX6_not3_93  σ a1_ b0_ = res) : At X D A 4 0 0 93 [(0, .ref (q 41)), (1, .int a1_)] [.int b0_] (wX6 cy q σ) := by
  unfold pX6_not3_93 at h
  unfold oX6_not3_93 at ok
  refine r_istore_n (lv' := [(2, .int b0_), (0, .ref (q 41)), (1, .int a1_)]) C (dall tdX6_not3 52 rfl) (by decide) rfl ?_
  refine r_aload_n C 1 (dall tdX6_not3 53 rfl) rfl ?_
  obtain ⟨o5, ok⟩ := ok
  refine r_vV (as := []) C (zX6_next cy q σ  o5) mv_X6_next km_X6_201 (by decide) (by decide) ⟨Nat.le_refl _, Nat.le_refl _⟩ rfl rfl rfl rfl (Nat.le_of_ble_eq_true rfl) (dall tdX6_not3 54 rfl) ?_
  refine r_pick [1, 2, 0] rfl ?_
  exact wX6_not3_98 (fX6_next σ) a1_ b0_ C hR  ok h
def pX6_not3_77  (σ : OS) (a1_ : Int32) : Int32 × OS := if (σ.2.1 24) = (60) then pX6_not3_93  σ a1_ 1 else pX6_not3_93  σ a1_ 0
def oX6_not3_77  (σ : OS) (a1_ : Int32) : Prop := ((σ.2.1 24) = (60) → oX6_not3_93  σ a1_ 1) ∧ (¬ ((σ.2.1 24) = (60)) → oX6_not3_93  σ a1_ 0)
set_option maxHeartbeats 4000000 in
set_option maxRecDepth 100000 in
theorem wX6_not3_77 {X : CX} {cy : Nat → ClassId} {q : Nat → Nat} {D : va_G} {A : Nat → Prop} {res : Int32 × OS} (σ : OS) (a1_ : Int32) (C : Cx X cX6_not3 RX6 4 D (gty cy) A 19 0 0) (hR : Rt X (some .int) D (gty cy) A 0 0 (eI (wX6 cy q res.2) res.1))  (ok : oX6_not3_77  σ a1_) (h : pX6_not3_77  σ a1_ = res) : At X D A 4 0 0 77 [(0, .ref (q 41)), (1, .int a1_)] [] (wX6 cy q σ) := by
  unfold pX6_not3_77 at h
  unfold oX6_not3_77 at ok
  refine r_aload_n C 0 (dall tdX6_not3 44 rfl) rfl ?_
  refine r_get C 0 kw_X6 rfl rfl (by decide) kf_X6_179 rfl rfl (dall tdX6_not3 45 rfl) ?_
  refine r_ldc2 C kk_X6_247 (dall tdX6_not3 46 rfl) ?_
  refine r_lif_ne (tgt := 92) C (dall tdX6_not3 47 rfl) (dall tdX6_not3 48 rfl) (by decide) (fun c6 => ?_) (fun c6 => ?_)
  · have h := (if_neg c6).symm.trans h
    have ok := ok.2 c6
    refine r_iconst (v := 0) C (dall tdX6_not3 51 rfl) (by decide) ?_
    exact wX6_not3_93 σ a1_ 0 C hR  ok h
  · have h := (if_pos c6).symm.trans h
    have ok := ok.1 c6
    refine r_iconst (v := 1) C (dall tdX6_not3 49 rfl) (by decide) ?_
    refine r_goto (tgt := 93) C (dall tdX6_not3 50 rfl) (by decide) ?_
    exact wX6_not3_93 σ a1_ 1 C hR  ok h
def pX6_not3_56  (σ : OS) (b0_ : Int32) : Int32 × OS := if (fX6_isSign σ 60) = 0 then if (fX6_isSign σ 61) = 0 then (b0_, σ) else pX6_not3_77  σ b0_ else pX6_not3_77  σ b0_
def oX6_not3_56  (σ : OS) (b0_ : Int32) : Prop := ((fX6_isSign σ 60) = 0 → ((fX6_isSign σ 61) = 0 → True) ∧ (¬ ((fX6_isSign σ 61) = 0) → oX6_not3_77  σ b0_)) ∧ (¬ ((fX6_isSign σ 60) = 0) → oX6_not3_77  σ b0_)
set_option maxHeartbeats 4000000 in
set_option maxRecDepth 100000 in
theorem wX6_not3_56 {X : CX} {cy : Nat → ClassId} {q : Nat → Nat} {D : va_G} {A : Nat → Prop} {res : Int32 × OS} (σ : OS) (b0_ : Int32) (C : Cx X cX6_not3 RX6 4 D (gty cy) A 19 0 0) (hR : Rt X (some .int) D (gty cy) A 0 0 (eI (wX6 cy q res.2) res.1))  (ok : oX6_not3_56  σ b0_) (h : pX6_not3_56  σ b0_ = res) : At X D A 4 0 0 56 [(0, .ref (q 41))] [.int b0_] (wX6 cy q σ) := by
  unfold pX6_not3_56 at h
  unfold oX6_not3_56 at ok
  refine r_istore_n (lv' := [(1, .int b0_), (0, .ref (q 41))]) C (dall tdX6_not3 33 rfl) (by decide) rfl ?_
  refine r_aload_n C 1 (dall tdX6_not3 34 rfl) rfl ?_
  refine r_bipush (v := 60) C (dall tdX6_not3 35 rfl) (by decide) ?_
  refine r_vI (as := [.int 60]) C (zX6_isSign cy q σ 60 ) mv_X6_isSign km_X6_226 (by decide) (by decide) ⟨Nat.le_refl _, Nat.le_refl _⟩ rfl rfl rfl rfl (Nat.le_of_ble_eq_true rfl) (dall tdX6_not3 36 rfl) ?_
  refine r_if_ne (tgt := 77) C (dall tdX6_not3 37 rfl) (by decide) (fun c7 => ?_) (fun c7 => ?_)
  · have h := (if_neg c7).symm.trans h
    have ok := ok.2 c7
    refine r_pick [1, 0] rfl ?_
    exact wX6_not3_77 σ b0_ C hR  ok h
  · have h := (if_pos c7).symm.trans h
    have ok := ok.1 c7
    refine r_aload_n C 1 (dall tdX6_not3 38 rfl) rfl ?_
    refine r_bipush (v := 61) C (dall tdX6_not3 39 rfl) (by decide) ?_
    refine r_vI (as := [.int 61]) C (zX6_isSign cy q σ 61 ) mv_X6_isSign km_X6_226 (by decide) (by decide) ⟨Nat.le_refl _, Nat.le_refl _⟩ rfl rfl rfl rfl (Nat.le_of_ble_eq_true rfl) (dall tdX6_not3 40 rfl) ?_
    refine r_if_ne (tgt := 77) C (dall tdX6_not3 41 rfl) (by decide) (fun c8 => ?_) (fun c8 => ?_)
    · have h := (if_neg c8).symm.trans h
      have ok := ok.2 c8
      refine r_pick [1, 0] rfl ?_
      exact wX6_not3_77 σ b0_ C hR  ok h
    · have h := (if_pos c8).symm.trans h
      have ok := ok.1 c8
      refine r_iload_n C 0 (dall tdX6_not3 42 rfl) rfl ?_
      exact r_iret C hR (dall tdX6_not3 43 rfl) (by subst h; exact ⟨rfl, rfl⟩)
def pX6_not3_31  (σ : OS) (b0_ : Int32) : Int32 × OS := if b0_ = 0 then (1, oI σ 25 ((σ.1 25) - 1)) else (0, oI σ 25 ((σ.1 25) - 1))
set_option maxHeartbeats 4000000 in
set_option maxRecDepth 100000 in
theorem wX6_not3_31 {X : CX} {cy : Nat → ClassId} {q : Nat → Nat} {D : va_G} {A : Nat → Prop} {res : Int32 × OS} (σ : OS) (b0_ : Int32) (C : Cx X cX6_not3 RX6 4 D (gty cy) A 19 0 0) (hR : Rt X (some .int) D (gty cy) A 0 0 (eI (wX6 cy q res.2) res.1))  (h : pX6_not3_31  σ b0_ = res) : At X D A 4 0 0 31 [(0, .ref (q 41))] [.int b0_] (wX6 cy q σ) := by
  unfold pX6_not3_31 at h
  refine r_istore_n (lv' := [(1, .int b0_), (0, .ref (q 41))]) C (dall tdX6_not3 18 rfl) (by decide) rfl ?_
  refine r_aload_n C 1 (dall tdX6_not3 19 rfl) rfl ?_
  refine r_dup C (dall tdX6_not3 20 rfl) rfl ?_
  refine r_get C 0 kw_X6 rfl rfl (by decide) kf_X6_195 rfl rfl (dall tdX6_not3 21 rfl) ?_
  refine r_iconst (v := 1) C (dall tdX6_not3 22 rfl) (by decide) ?_
  refine r_isub C (dall tdX6_not3 23 rfl) ?_
  refine r_put C 0 kw_X6 tyX6_ok nmX6 rfl rfl (by decide) kf_X6_195 rfl rfl rfl rfl rfl (Nat.le_of_ble_eq_true rfl) (pu_X6_this_25 cy q σ ((σ.1 25) - 1)) (dall tdX6_not3 24 rfl) ?_
  refine r_iload_n C 0 (dall tdX6_not3 25 rfl) rfl ?_
  refine r_if_ne (tgt := 50) C (dall tdX6_not3 26 rfl) (by decide) (fun c9 => ?_) (fun c9 => ?_)
  · have h := (if_neg c9).symm.trans h
    refine r_iconst (v := 0) C (dall tdX6_not3 29 rfl) (by decide) ?_
    exact r_iret C hR (dall tdX6_not3 30 rfl) (by subst h; exact ⟨rfl, rfl⟩)
  · have h := (if_pos c9).symm.trans h
    refine r_iconst (v := 1) C (dall tdX6_not3 27 rfl) (by decide) ?_
    refine r_goto (tgt := 51) C (dall tdX6_not3 28 rfl) (by decide) ?_
    exact r_iret C hR (dall tdX6_not3 30 rfl) (by subst h; exact ⟨rfl, rfl⟩)
def pX6_not3_22  (σ : OS) (b0_ : Int32) : Int32 × OS := if b0_ = 0 then (0, σ) else pX6_not3_31  ((fX6_not4 σ ).2) ((fX6_not4 σ ).1)
def oX6_not3_22  (σ : OS) (b0_ : Int32) : Prop := (b0_ = 0 → True) ∧ (¬ (b0_ = 0) → gX6_not4 σ )
set_option maxHeartbeats 4000000 in
set_option maxRecDepth 100000 in
theorem wX6_not3_22 {X : CX} {cy : Nat → ClassId} {q : Nat → Nat} {D : va_G} {A : Nat → Prop} {res : Int32 × OS} (σ : OS) (b0_ : Int32) (C : Cx X cX6_not3 RX6 4 D (gty cy) A 19 0 0) (hR : Rt X (some .int) D (gty cy) A 0 0 (eI (wX6 cy q res.2) res.1))  (ok : oX6_not3_22  σ b0_) (h : pX6_not3_22  σ b0_ = res) : At X D A 4 0 0 22 [(0, .ref (q 41))] [.int b0_] (wX6 cy q σ) := by
  unfold pX6_not3_22 at h
  unfold oX6_not3_22 at ok
  refine r_if_ne (tgt := 27) C (dall tdX6_not3 13 rfl) (by decide) (fun c10 => ?_) (fun c10 => ?_)
  · have h := (if_neg c10).symm.trans h
    have ok := ok.2 c10
    refine r_aload_n C 0 (dall tdX6_not3 16 rfl) rfl ?_
    have o11 := ok
    refine r_vI (as := []) C (zX6_not4 cy q σ  o11) mv_X6_not4 km_X6_267 (by decide) (by decide) ⟨Nat.le_refl _, Nat.le_refl _⟩ rfl rfl rfl rfl (Nat.le_of_ble_eq_true rfl) (dall tdX6_not3 17 rfl) ?_
    exact wX6_not3_31 ((fX6_not4 σ ).2) ((fX6_not4 σ ).1) C hR  h
  · have h := (if_pos c10).symm.trans h
    have ok := ok.1 c10
    refine r_iconst (v := 0) C (dall tdX6_not3 14 rfl) (by decide) ?_
    exact r_iret C hR (dall tdX6_not3 15 rfl) (by subst h; exact ⟨rfl, rfl⟩)
def pX6_not3_0  (σ : OS) : Int32 × OS := if (fX6_isWord σ 110 111 116 0 0 0 0 0) = 0 then pX6_not3_56  ((fX6_added3 σ ).2) ((fX6_added3 σ ).1) else pX6_not3_22  ((fX6_opens σ ).2) ((fX6_opens σ ).1)
def oX6_not3_0  (σ : OS) : Prop := (gX6_isWord σ 110 111 116 0 0 0 0 0) ∧ (((fX6_isWord σ 110 111 116 0 0 0 0 0) = 0 → (gX6_added3 σ ) ∧ (oX6_not3_56  ((fX6_added3 σ ).2) ((fX6_added3 σ ).1))) ∧ (¬ ((fX6_isWord σ 110 111 116 0 0 0 0 0) = 0) → (gX6_opens σ ) ∧ (oX6_not3_22  ((fX6_opens σ ).2) ((fX6_opens σ ).1))))
set_option maxHeartbeats 4000000 in
set_option maxRecDepth 100000 in
theorem wX6_not3_0 {X : CX} {cy : Nat → ClassId} {q : Nat → Nat} {D : va_G} {A : Nat → Prop} {res : Int32 × OS} (σ : OS) (C : Cx X cX6_not3 RX6 4 D (gty cy) A 19 0 0) (hR : Rt X (some .int) D (gty cy) A 0 0 (eI (wX6 cy q res.2) res.1))  (ok : oX6_not3_0  σ) (h : pX6_not3_0  σ = res) : At X D A 4 0 0 0 [(0, .ref (q 41))] [] (wX6 cy q σ) := by
  unfold pX6_not3_0 at h
  unfold oX6_not3_0 at ok
  refine r_aload_n C 0 (dall tdX6_not3 0 rfl) rfl ?_
  refine r_bipush (v := 110) C (dall tdX6_not3 1 rfl) (by decide) ?_
  refine r_bipush (v := 111) C (dall tdX6_not3 2 rfl) (by decide) ?_
  refine r_bipush (v := 116) C (dall tdX6_not3 3 rfl) (by decide) ?_
  refine r_iconst (v := 0) C (dall tdX6_not3 4 rfl) (by decide) ?_
  refine r_iconst (v := 0) C (dall tdX6_not3 5 rfl) (by decide) ?_
  refine r_iconst (v := 0) C (dall tdX6_not3 6 rfl) (by decide) ?_
  refine r_iconst (v := 0) C (dall tdX6_not3 7 rfl) (by decide) ?_
  refine r_iconst (v := 0) C (dall tdX6_not3 8 rfl) (by decide) ?_
  obtain ⟨o12, ok⟩ := ok
  refine r_vI (as := [.int 110, .int 111, .int 116, .int 0, .int 0, .int 0, .int 0, .int 0]) C (zX6_isWord cy q σ 110 111 116 0 0 0 0 0 o12) mv_X6_isWord km_X6_204 (by decide) (by decide) ⟨Nat.le_refl _, Nat.le_refl _⟩ rfl rfl rfl rfl (Nat.le_of_ble_eq_true rfl) (dall tdX6_not3 9 rfl) ?_
  refine r_if_eq (tgt := 52) C (dall tdX6_not3 10 rfl) (by decide) (fun c13 => ?_) (fun c13 => ?_)
  · have h := (if_pos c13).symm.trans h
    have ok := ok.1 c13
    refine r_aload_n C 0 (dall tdX6_not3 31 rfl) rfl ?_
    obtain ⟨o14, ok⟩ := ok
    refine r_vI (as := []) C (zX6_added3 cy q σ  o14) mv_X6_added3 km_X6_282 (by decide) (by decide) ⟨Nat.le_refl _, Nat.le_refl _⟩ rfl rfl rfl rfl (Nat.le_of_ble_eq_true rfl) (dall tdX6_not3 32 rfl) ?_
    exact wX6_not3_56 ((fX6_added3 σ ).2) ((fX6_added3 σ ).1) C hR  ok h
  · have h := (if_neg c13).symm.trans h
    have ok := ok.2 c13
    refine r_aload_n C 0 (dall tdX6_not3 11 rfl) rfl ?_
    obtain ⟨o15, ok⟩ := ok
    refine r_vI (as := []) C (zX6_opens cy q σ  o15) mv_X6_opens km_X6_229 (by decide) (by decide) ⟨Nat.le_refl _, Nat.le_refl _⟩ rfl rfl rfl rfl (Nat.le_of_ble_eq_true rfl) (dall tdX6_not3 12 rfl) ?_
    exact wX6_not3_22 ((fX6_opens σ ).2) ((fX6_opens σ ).1) C hR  ok h
def fX6_not3 (σ : OS) : Int32 × OS := pX6_not3_0  σ
def gX6_not3 (σ : OS) : Prop := oX6_not3_0  σ
set_option maxRecDepth 100000 in
theorem zX6_not3 (cy : Nat → ClassId) (q : Nat → Nat)  {D : va_G} (σ : OS) (ok : gX6_not3 σ )  : Con yX6_not3 cX6_not3 4 (some .int) 19 0 0 D (gty cy) [.ref (q 41)] (wX6 cy q σ) (eI (wX6 cy q (fX6_not3 σ ).2) (fX6_not3 σ ).1) :=
  Con.of (own := RX6) (by decide +kernel) rfl (Nat.le_of_ble_eq_true rfl) (Nat.zero_le _) (fun X A C hR _ => (wX6_not3_0 σ C hR  ok rfl))
theorem mv_X6_not3 : MV yX6_not3 cX6_not3 4 (some .int) RX6 0 := ⟨ki_X6_not3, kv_X6_not3, kn_X6, kc_X6_not3, by decide +kernel⟩
def tbX6_both3 : List (Nat × Instr × Nat) := [(0, .aload_n 0, 1), (1, .invokevirtual 285, 3), (4, .istore_n 1, 1), (5, .aload_n 0, 1), (6, .bipush 97, 2), (8, .bipush 110, 2), (10, .bipush 100, 2), (12, .iconst 0, 1), (13, .iconst 0, 1), (14, .iconst 0, 1), (15, .iconst 0, 1), (16, .iconst 0, 1), (17, .invokevirtual 204, 3), (20, .ifCond .eq 29, 3), (23, .aload_n 0, 1), (24, .invokevirtual 201, 3), (27, .aload_n 0, 1), (28, .invokevirtual 285, 3), (31, .istore_n 2, 1), (32, .iload_n 1, 1), (33, .ifCond .eq 11, 3), (36, .iload_n 2, 1), (37, .ifCond .eq 7, 3), (40, .iconst 1, 1), (41, .goto 4, 3), (44, .iconst 0, 1), (45, .istore_n 1, 1), (46, .goto (-41), 3), (49, .iload_n 1, 1), (50, .ireturn, 1)]
theorem tdX6_both3 : tbX6_both3.all (fun q => decide (decode cX6_both3 q.1 = .ok q.2)) = true := by decide +kernel
def pX6_both3_45 (kR5 : OS × Int32 → Int32 × OS) (σ : OS) (b0_ : Int32) : Int32 × OS := kR5 (σ, b0_)
def oX6_both3_45 (kO5 : OS × Int32 → Prop) (σ : OS) (b0_ : Int32) : Prop := kO5 (σ, b0_)
set_option maxHeartbeats 4000000 in
set_option maxRecDepth 100000 in
theorem wX6_both3_45 {X : CX} {cy : Nat → ClassId} {q : Nat → Nat} {D : va_G} {A : Nat → Prop} {res : Int32 × OS} (σ : OS) (b0_ : Int32) (C : Cx X cX6_both3 RX6 3 D (gty cy) A 20 0 0) (hR : Rt X (some .int) D (gty cy) A 0 0 (eI (wX6 cy q res.2) res.1)) (kR5 : OS × Int32 → Int32 × OS) (kO5 : OS × Int32 → Prop) (hk5 : ∀ z, kO5 z → kR5 z = res → At X D A 3 0 0 5 [(0, .ref (q 41)), (1, .int z.2)] [] (wX6 cy q z.1)) (ok : oX6_both3_45 kO5 σ b0_) (h : pX6_both3_45 kR5 σ b0_ = res) : At X D A 3 0 0 45 [(0, .ref (q 41))] [.int b0_] (wX6 cy q σ) := by
  unfold pX6_both3_45 at h
  unfold oX6_both3_45 at ok
  refine r_istore_n (lv' := [(1, .int b0_), (0, .ref (q 41))]) C (dall tdX6_both3 26 rfl) (by decide) rfl ?_
  refine r_goto (tgt := 5) C (dall tdX6_both3 27 rfl) (by decide) ?_
  refine r_pick [1, 0] rfl ?_
  exact hk5 (σ, b0_) ok h
def pX6_both3_44 (kR5 : OS × Int32 → Int32 × OS) (σ : OS) : Int32 × OS := pX6_both3_45 kR5 σ 0
def oX6_both3_44 (kO5 : OS × Int32 → Prop) (σ : OS) : Prop := oX6_both3_45 kO5 σ 0
set_option maxHeartbeats 4000000 in
set_option maxRecDepth 100000 in
theorem wX6_both3_44 {X : CX} {cy : Nat → ClassId} {q : Nat → Nat} {D : va_G} {A : Nat → Prop} {res : Int32 × OS} (σ : OS) (C : Cx X cX6_both3 RX6 3 D (gty cy) A 20 0 0) (hR : Rt X (some .int) D (gty cy) A 0 0 (eI (wX6 cy q res.2) res.1)) (kR5 : OS × Int32 → Int32 × OS) (kO5 : OS × Int32 → Prop) (hk5 : ∀ z, kO5 z → kR5 z = res → At X D A 3 0 0 5 [(0, .ref (q 41)), (1, .int z.2)] [] (wX6 cy q z.1)) (ok : oX6_both3_44 kO5 σ) (h : pX6_both3_44 kR5 σ = res) : At X D A 3 0 0 44 [(0, .ref (q 41))] [] (wX6 cy q σ) := by
  unfold pX6_both3_44 at h
  unfold oX6_both3_44 at ok
  refine r_iconst (v := 0) C (dall tdX6_both3 25 rfl) (by decide) ?_
  exact wX6_both3_45 σ 0 C hR kR5 kO5 hk5 ok h
def pX6_both3_31 (kR5 : OS × Int32 → Int32 × OS) (σ : OS) (a1_ : Int32) (b0_ : Int32) : Int32 × OS := if a1_ = 0 then pX6_both3_44 kR5 σ else if b0_ = 0 then pX6_both3_44 kR5 σ else pX6_both3_45 kR5 σ 1
def oX6_both3_31 (kO5 : OS × Int32 → Prop) (σ : OS) (a1_ : Int32) (b0_ : Int32) : Prop := (a1_ = 0 → oX6_both3_44 kO5 σ) ∧ (¬ (a1_ = 0) → (b0_ = 0 → oX6_both3_44 kO5 σ) ∧ (¬ (b0_ = 0) → oX6_both3_45 kO5 σ 1))
set_option maxHeartbeats 4000000 in
set_option maxRecDepth 100000 in
theorem wX6_both3_31 {X : CX} {cy : Nat → ClassId} {q : Nat → Nat} {D : va_G} {A : Nat → Prop} {res : Int32 × OS} (σ : OS) (a1_ : Int32) (b0_ : Int32) (C : Cx X cX6_both3 RX6 3 D (gty cy) A 20 0 0) (hR : Rt X (some .int) D (gty cy) A 0 0 (eI (wX6 cy q res.2) res.1)) (kR5 : OS × Int32 → Int32 × OS) (kO5 : OS × Int32 → Prop) (hk5 : ∀ z, kO5 z → kR5 z = res → At X D A 3 0 0 5 [(0, .ref (q 41)), (1, .int z.2)] [] (wX6 cy q z.1)) (ok : oX6_both3_31 kO5 σ a1_ b0_) (h : pX6_both3_31 kR5 σ a1_ b0_ = res) : At X D A 3 0 0 31 [(0, .ref (q 41)), (1, .int a1_)] [.int b0_] (wX6 cy q σ) := by
  unfold pX6_both3_31 at h
  unfold oX6_both3_31 at ok
  refine r_istore_n (lv' := [(2, .int b0_), (0, .ref (q 41)), (1, .int a1_)]) C (dall tdX6_both3 18 rfl) (by decide) rfl ?_
  refine r_iload_n C 2 (dall tdX6_both3 19 rfl) rfl ?_
  refine r_if_eq (tgt := 44) C (dall tdX6_both3 20 rfl) (by decide) (fun c1 => ?_) (fun c1 => ?_)
  · have h := (if_pos c1).symm.trans h
    have ok := ok.1 c1
    refine r_pick [1] rfl ?_
    exact wX6_both3_44 σ C hR kR5 kO5 hk5 ok h
  · have h := (if_neg c1).symm.trans h
    have ok := ok.2 c1
    refine r_iload_n C 0 (dall tdX6_both3 21 rfl) rfl ?_
    refine r_if_eq (tgt := 44) C (dall tdX6_both3 22 rfl) (by decide) (fun c2 => ?_) (fun c2 => ?_)
    · have h := (if_pos c2).symm.trans h
      have ok := ok.1 c2
      refine r_pick [1] rfl ?_
      exact wX6_both3_44 σ C hR kR5 kO5 hk5 ok h
    · have h := (if_neg c2).symm.trans h
      have ok := ok.2 c2
      refine r_iconst (v := 1) C (dall tdX6_both3 23 rfl) (by decide) ?_
      refine r_goto (tgt := 45) C (dall tdX6_both3 24 rfl) (by decide) ?_
      refine r_pick [1] rfl ?_
      exact wX6_both3_45 σ 1 C hR kR5 kO5 hk5 ok h
def pX6_both3_27 (kR5 : OS × Int32 → Int32 × OS) (σ : OS) (a1_ : Int32) : Int32 × OS := pX6_both3_31 kR5 ((fX6_not3 σ ).2) a1_ ((fX6_not3 σ ).1)
def oX6_both3_27 (kO5 : OS × Int32 → Prop) (σ : OS) (a1_ : Int32) : Prop := (gX6_not3 σ ) ∧ (oX6_both3_31 kO5 ((fX6_not3 σ ).2) a1_ ((fX6_not3 σ ).1))
set_option maxHeartbeats 4000000 in
set_option maxRecDepth 100000 in
theorem wX6_both3_27 {X : CX} {cy : Nat → ClassId} {q : Nat → Nat} {D : va_G} {A : Nat → Prop} {res : Int32 × OS} (σ : OS) (a1_ : Int32) (C : Cx X cX6_both3 RX6 3 D (gty cy) A 20 0 0) (hR : Rt X (some .int) D (gty cy) A 0 0 (eI (wX6 cy q res.2) res.1)) (kR5 : OS × Int32 → Int32 × OS) (kO5 : OS × Int32 → Prop) (hk5 : ∀ z, kO5 z → kR5 z = res → At X D A 3 0 0 5 [(0, .ref (q 41)), (1, .int z.2)] [] (wX6 cy q z.1)) (ok : oX6_both3_27 kO5 σ a1_) (h : pX6_both3_27 kR5 σ a1_ = res) : At X D A 3 0 0 27 [(0, .ref (q 41)), (1, .int a1_)] [] (wX6 cy q σ) := by
  unfold pX6_both3_27 at h
  unfold oX6_both3_27 at ok
  refine r_aload_n C 0 (dall tdX6_both3 16 rfl) rfl ?_
  obtain ⟨o3, ok⟩ := ok
  refine r_vI (as := []) C (zX6_not3 cy q σ  o3) mv_X6_not3 km_X6_285 (by decide) (by decide) ⟨Nat.le_refl _, Nat.le_refl _⟩ rfl rfl rfl rfl (Nat.le_of_ble_eq_true rfl) (dall tdX6_both3 17 rfl) ?_
  exact wX6_both3_31 ((fX6_not3 σ ).2) a1_ ((fX6_not3 σ ).1) C hR kR5 kO5 hk5 ok h
def bX6_both3_5   (kR5 : OS × Int32 → Int32 × OS) (v : OS × Int32) : Int32 × OS := if (fX6_isWord v.1 97 110 100 0 0 0 0 0) = 0 then (v.2, v.1) else pX6_both3_27 kR5 (fX6_next v.1) v.2
def kX6_both3_5   (kO5 : OS × Int32 → Prop) (v : OS × Int32) : Prop := (gX6_isWord v.1 97 110 100 0 0 0 0 0) ∧ (((fX6_isWord v.1 97 110 100 0 0 0 0 0) = 0 → True) ∧ (¬ ((fX6_isWord v.1 97 110 100 0 0 0 0 0) = 0) → (gX6_next v.1 ) ∧ (oX6_both3_27 kO5 (fX6_next v.1) v.2)))
set_option maxHeartbeats 4000000 in
set_option maxRecDepth 100000 in
theorem wX6_both3_5 {X : CX} {cy : Nat → ClassId} {q : Nat → Nat} {D : va_G} {A : Nat → Prop} {res : Int32 × OS}  (C : Cx X cX6_both3 RX6 3 D (gty cy) A 20 0 0) (hR : Rt X (some .int) D (gty cy) A 0 0 (eI (wX6 cy q res.2) res.1)) (kR5 : OS × Int32 → Int32 × OS) (kO5 : OS × Int32 → Prop) (hk5 : ∀ z, kO5 z → kR5 z = res → At X D A 3 0 0 5 [(0, .ref (q 41)), (1, .int z.2)] [] (wX6 cy q z.1)) (v : OS × Int32) (ok : kX6_both3_5  kO5 v) (h : bX6_both3_5  kR5 v = res) : At X D A 3 0 0 5 [(0, .ref (q 41)), (1, .int v.2)] [] (wX6 cy q v.1) := by
  unfold bX6_both3_5 at h
  unfold kX6_both3_5 at ok
  refine r_aload_n C 0 (dall tdX6_both3 3 rfl) rfl ?_
  refine r_bipush (v := 97) C (dall tdX6_both3 4 rfl) (by decide) ?_
  refine r_bipush (v := 110) C (dall tdX6_both3 5 rfl) (by decide) ?_
  refine r_bipush (v := 100) C (dall tdX6_both3 6 rfl) (by decide) ?_
  refine r_iconst (v := 0) C (dall tdX6_both3 7 rfl) (by decide) ?_
  refine r_iconst (v := 0) C (dall tdX6_both3 8 rfl) (by decide) ?_
  refine r_iconst (v := 0) C (dall tdX6_both3 9 rfl) (by decide) ?_
  refine r_iconst (v := 0) C (dall tdX6_both3 10 rfl) (by decide) ?_
  refine r_iconst (v := 0) C (dall tdX6_both3 11 rfl) (by decide) ?_
  obtain ⟨o4, ok⟩ := ok
  refine r_vI (as := [.int 97, .int 110, .int 100, .int 0, .int 0, .int 0, .int 0, .int 0]) C (zX6_isWord cy q v.1 97 110 100 0 0 0 0 0 o4) mv_X6_isWord km_X6_204 (by decide) (by decide) ⟨Nat.le_refl _, Nat.le_refl _⟩ rfl rfl rfl rfl (Nat.le_of_ble_eq_true rfl) (dall tdX6_both3 12 rfl) ?_
  refine r_if_eq (tgt := 49) C (dall tdX6_both3 13 rfl) (by decide) (fun c5 => ?_) (fun c5 => ?_)
  · have h := (if_pos c5).symm.trans h
    have ok := ok.1 c5
    refine r_iload_n C 1 (dall tdX6_both3 28 rfl) rfl ?_
    exact r_iret C hR (dall tdX6_both3 29 rfl) (by subst h; exact ⟨rfl, rfl⟩)
  · have h := (if_neg c5).symm.trans h
    have ok := ok.2 c5
    refine r_aload_n C 0 (dall tdX6_both3 14 rfl) rfl ?_
    obtain ⟨o6, ok⟩ := ok
    refine r_vV (as := []) C (zX6_next cy q v.1  o6) mv_X6_next km_X6_201 (by decide) (by decide) ⟨Nat.le_refl _, Nat.le_refl _⟩ rfl rfl rfl rfl (Nat.le_of_ble_eq_true rfl) (dall tdX6_both3 15 rfl) ?_
    exact wX6_both3_27 (fX6_next v.1) v.2 C hR kR5 kO5 hk5 ok h
set_option maxHeartbeats 4000000 in
set_option maxRecDepth 100000 in
theorem lX6_both3_5 {X : CX} {cy : Nat → ClassId} {q : Nat → Nat} {D : va_G} {A : Nat → Prop} {res : Int32 × OS}  (C : Cx X cX6_both3 RX6 3 D (gty cy) A 20 0 0) (hR : Rt X (some .int) D (gty cy) A 0 0 (eI (wX6 cy q res.2) res.1))  (n : Nat) (v : OS × Int32) (ok : lpOk (kX6_both3_5  ) n v) (h : lp (0, o0) (bX6_both3_5  ) n v = res) : At X D A 3 0 0 5 [(0, .ref (q 41)), (1, .int v.2)] [] (wX6 cy q v.1) :=
  lp_rule (fun v rr_ => rr_ = res → At X D A 3 0 0 5 [(0, .ref (q 41)), (1, .int v.2)] [] (wX6 cy q v.1)) (fun kR kO hk v ok h => wX6_both3_5  C hR  kR kO hk v ok h) n v ok h
def pX6_both3_4  (σ : OS) (b0_ : Int32) : Int32 × OS := lp (0, o0) (bX6_both3_5  ) fu (σ, b0_)
def oX6_both3_4  (σ : OS) (b0_ : Int32) : Prop := lpOk (kX6_both3_5  ) fu (σ, b0_)
set_option maxHeartbeats 4000000 in
set_option maxRecDepth 100000 in
theorem wX6_both3_4 {X : CX} {cy : Nat → ClassId} {q : Nat → Nat} {D : va_G} {A : Nat → Prop} {res : Int32 × OS} (σ : OS) (b0_ : Int32) (C : Cx X cX6_both3 RX6 3 D (gty cy) A 20 0 0) (hR : Rt X (some .int) D (gty cy) A 0 0 (eI (wX6 cy q res.2) res.1))  (ok : oX6_both3_4  σ b0_) (h : pX6_both3_4  σ b0_ = res) : At X D A 3 0 0 4 [(0, .ref (q 41))] [.int b0_] (wX6 cy q σ) := by
  unfold pX6_both3_4 at h
  unfold oX6_both3_4 at ok
  refine r_istore_n (lv' := [(1, .int b0_), (0, .ref (q 41))]) C (dall tdX6_both3 2 rfl) (by decide) rfl ?_
  refine r_pick [1, 0] rfl ?_
  exact lX6_both3_5  C hR  fu _ ok h
def pX6_both3_0  (σ : OS) : Int32 × OS := pX6_both3_4  ((fX6_not3 σ ).2) ((fX6_not3 σ ).1)
def oX6_both3_0  (σ : OS) : Prop := (gX6_not3 σ ) ∧ (oX6_both3_4  ((fX6_not3 σ ).2) ((fX6_not3 σ ).1))
set_option maxHeartbeats 4000000 in
set_option maxRecDepth 100000 in
theorem wX6_both3_0 {X : CX} {cy : Nat → ClassId} {q : Nat → Nat} {D : va_G} {A : Nat → Prop} {res : Int32 × OS} (σ : OS) (C : Cx X cX6_both3 RX6 3 D (gty cy) A 20 0 0) (hR : Rt X (some .int) D (gty cy) A 0 0 (eI (wX6 cy q res.2) res.1))  (ok : oX6_both3_0  σ) (h : pX6_both3_0  σ = res) : At X D A 3 0 0 0 [(0, .ref (q 41))] [] (wX6 cy q σ) := by
  unfold pX6_both3_0 at h
  unfold oX6_both3_0 at ok
  refine r_aload_n C 0 (dall tdX6_both3 0 rfl) rfl ?_
  obtain ⟨o7, ok⟩ := ok
  refine r_vI (as := []) C (zX6_not3 cy q σ  o7) mv_X6_not3 km_X6_285 (by decide) (by decide) ⟨Nat.le_refl _, Nat.le_refl _⟩ rfl rfl rfl rfl (Nat.le_of_ble_eq_true rfl) (dall tdX6_both3 1 rfl) ?_
  exact wX6_both3_4 ((fX6_not3 σ ).2) ((fX6_not3 σ ).1) C hR  ok h
def fX6_both3 (σ : OS) : Int32 × OS := pX6_both3_0  σ
def gX6_both3 (σ : OS) : Prop := oX6_both3_0  σ
set_option maxRecDepth 100000 in
theorem zX6_both3 (cy : Nat → ClassId) (q : Nat → Nat)  {D : va_G} (σ : OS) (ok : gX6_both3 σ )  : Con yX6_both3 cX6_both3 3 (some .int) 20 0 0 D (gty cy) [.ref (q 41)] (wX6 cy q σ) (eI (wX6 cy q (fX6_both3 σ ).2) (fX6_both3 σ ).1) :=
  Con.of (own := RX6) (by decide +kernel) rfl (Nat.le_of_ble_eq_true rfl) (Nat.zero_le _) (fun X A C hR _ => (wX6_both3_0 σ C hR  ok rfl))
theorem mv_X6_both3 : MV yX6_both3 cX6_both3 3 (some .int) RX6 0 := ⟨ki_X6_both3, kv_X6_both3, kn_X6, kc_X6_both3, by decide +kernel⟩
def tbX6_either3 : List (Nat × Instr × Nat) := [(0, .aload_n 0, 1), (1, .invokevirtual 288, 3), (4, .istore_n 1, 1), (5, .aload_n 0, 1), (6, .bipush 111, 2), (8, .bipush 114, 2), (10, .iconst 0, 1), (11, .iconst 0, 1), (12, .iconst 0, 1), (13, .iconst 0, 1), (14, .iconst 0, 1), (15, .iconst 0, 1), (16, .invokevirtual 204, 3), (19, .ifCond .eq 29, 3), (22, .aload_n 0, 1), (23, .invokevirtual 201, 3), (26, .aload_n 0, 1), (27, .invokevirtual 288, 3), (30, .istore_n 2, 1), (31, .iload_n 1, 1), (32, .ifCond .ne 7, 3), (35, .iload_n 2, 1), (36, .ifCond .eq 7, 3), (39, .iconst 1, 1), (40, .goto 4, 3), (43, .iconst 0, 1), (44, .istore_n 1, 1), (45, .goto (-40), 3), (48, .iload_n 1, 1), (49, .ireturn, 1)]
theorem tdX6_either3 : tbX6_either3.all (fun q => decide (decode cX6_either3 q.1 = .ok q.2)) = true := by decide +kernel
def pX6_either3_44 (kR5 : OS × Int32 → Int32 × OS) (σ : OS) (b0_ : Int32) : Int32 × OS := kR5 (σ, b0_)
def oX6_either3_44 (kO5 : OS × Int32 → Prop) (σ : OS) (b0_ : Int32) : Prop := kO5 (σ, b0_)
set_option maxHeartbeats 4000000 in
set_option maxRecDepth 100000 in
theorem wX6_either3_44 {X : CX} {cy : Nat → ClassId} {q : Nat → Nat} {D : va_G} {A : Nat → Prop} {res : Int32 × OS} (σ : OS) (b0_ : Int32) (C : Cx X cX6_either3 RX6 3 D (gty cy) A 21 0 0) (hR : Rt X (some .int) D (gty cy) A 0 0 (eI (wX6 cy q res.2) res.1)) (kR5 : OS × Int32 → Int32 × OS) (kO5 : OS × Int32 → Prop) (hk5 : ∀ z, kO5 z → kR5 z = res → At X D A 3 0 0 5 [(0, .ref (q 41)), (1, .int z.2)] [] (wX6 cy q z.1)) (ok : oX6_either3_44 kO5 σ b0_) (h : pX6_either3_44 kR5 σ b0_ = res) : At X D A 3 0 0 44 [(0, .ref (q 41))] [.int b0_] (wX6 cy q σ) := by
  unfold pX6_either3_44 at h
  unfold oX6_either3_44 at ok
  refine r_istore_n (lv' := [(1, .int b0_), (0, .ref (q 41))]) C (dall tdX6_either3 26 rfl) (by decide) rfl ?_
  refine r_goto (tgt := 5) C (dall tdX6_either3 27 rfl) (by decide) ?_
  refine r_pick [1, 0] rfl ?_
  exact hk5 (σ, b0_) ok h
def pX6_either3_39 (kR5 : OS × Int32 → Int32 × OS) (σ : OS) : Int32 × OS := pX6_either3_44 kR5 σ 1
def oX6_either3_39 (kO5 : OS × Int32 → Prop) (σ : OS) : Prop := oX6_either3_44 kO5 σ 1
set_option maxHeartbeats 4000000 in
set_option maxRecDepth 100000 in
theorem wX6_either3_39 {X : CX} {cy : Nat → ClassId} {q : Nat → Nat} {D : va_G} {A : Nat → Prop} {res : Int32 × OS} (σ : OS) (C : Cx X cX6_either3 RX6 3 D (gty cy) A 21 0 0) (hR : Rt X (some .int) D (gty cy) A 0 0 (eI (wX6 cy q res.2) res.1)) (kR5 : OS × Int32 → Int32 × OS) (kO5 : OS × Int32 → Prop) (hk5 : ∀ z, kO5 z → kR5 z = res → At X D A 3 0 0 5 [(0, .ref (q 41)), (1, .int z.2)] [] (wX6 cy q z.1)) (ok : oX6_either3_39 kO5 σ) (h : pX6_either3_39 kR5 σ = res) : At X D A 3 0 0 39 [(0, .ref (q 41))] [] (wX6 cy q σ) := by
  unfold pX6_either3_39 at h
  unfold oX6_either3_39 at ok
  refine r_iconst (v := 1) C (dall tdX6_either3 23 rfl) (by decide) ?_
  refine r_goto (tgt := 44) C (dall tdX6_either3 24 rfl) (by decide) ?_
  exact wX6_either3_44 σ 1 C hR kR5 kO5 hk5 ok h
def pX6_either3_30 (kR5 : OS × Int32 → Int32 × OS) (σ : OS) (a1_ : Int32) (b0_ : Int32) : Int32 × OS := if a1_ = 0 then if b0_ = 0 then pX6_either3_44 kR5 σ 0 else pX6_either3_39 kR5 σ else pX6_either3_39 kR5 σ
def oX6_either3_30 (kO5 : OS × Int32 → Prop) (σ : OS) (a1_ : Int32) (b0_ : Int32) : Prop := (a1_ = 0 → (b0_ = 0 → oX6_either3_44 kO5 σ 0) ∧ (¬ (b0_ = 0) → oX6_either3_39 kO5 σ)) ∧ (¬ (a1_ = 0) → oX6_either3_39 kO5 σ)
set_option maxHeartbeats 4000000 in
set_option maxRecDepth 100000 in
theorem wX6_either3_30 {X : CX} {cy : Nat → ClassId} {q : Nat → Nat} {D : va_G} {A : Nat → Prop} {res : Int32 × OS} (σ : OS) (a1_ : Int32) (b0_ : Int32) (C : Cx X cX6_either3 RX6 3 D (gty cy) A 21 0 0) (hR : Rt X (some .int) D (gty cy) A 0 0 (eI (wX6 cy q res.2) res.1)) (kR5 : OS × Int32 → Int32 × OS) (kO5 : OS × Int32 → Prop) (hk5 : ∀ z, kO5 z → kR5 z = res → At X D A 3 0 0 5 [(0, .ref (q 41)), (1, .int z.2)] [] (wX6 cy q z.1)) (ok : oX6_either3_30 kO5 σ a1_ b0_) (h : pX6_either3_30 kR5 σ a1_ b0_ = res) : At X D A 3 0 0 30 [(0, .ref (q 41)), (1, .int a1_)] [.int b0_] (wX6 cy q σ) := by
  unfold pX6_either3_30 at h
  unfold oX6_either3_30 at ok
  refine r_istore_n (lv' := [(2, .int b0_), (0, .ref (q 41)), (1, .int a1_)]) C (dall tdX6_either3 18 rfl) (by decide) rfl ?_
  refine r_iload_n C 2 (dall tdX6_either3 19 rfl) rfl ?_
  refine r_if_ne (tgt := 39) C (dall tdX6_either3 20 rfl) (by decide) (fun c1 => ?_) (fun c1 => ?_)
  · have h := (if_neg c1).symm.trans h
    have ok := ok.2 c1
    refine r_pick [1] rfl ?_
    exact wX6_either3_39 σ C hR kR5 kO5 hk5 ok h
  · have h := (if_pos c1).symm.trans h
    have ok := ok.1 c1
    refine r_iload_n C 0 (dall tdX6_either3 21 rfl) rfl ?_
    refine r_if_eq (tgt := 43) C (dall tdX6_either3 22 rfl) (by decide) (fun c2 => ?_) (fun c2 => ?_)
    · have h := (if_pos c2).symm.trans h
      have ok := ok.1 c2
      refine r_iconst (v := 0) C (dall tdX6_either3 25 rfl) (by decide) ?_
      refine r_pick [1] rfl ?_
      exact wX6_either3_44 σ 0 C hR kR5 kO5 hk5 ok h
    · have h := (if_neg c2).symm.trans h
      have ok := ok.2 c2
      refine r_pick [1] rfl ?_
      exact wX6_either3_39 σ C hR kR5 kO5 hk5 ok h
def pX6_either3_26 (kR5 : OS × Int32 → Int32 × OS) (σ : OS) (a1_ : Int32) : Int32 × OS := pX6_either3_30 kR5 ((fX6_both3 σ ).2) a1_ ((fX6_both3 σ ).1)
def oX6_either3_26 (kO5 : OS × Int32 → Prop) (σ : OS) (a1_ : Int32) : Prop := (gX6_both3 σ ) ∧ (oX6_either3_30 kO5 ((fX6_both3 σ ).2) a1_ ((fX6_both3 σ ).1))
set_option maxHeartbeats 4000000 in
set_option maxRecDepth 100000 in
theorem wX6_either3_26 {X : CX} {cy : Nat → ClassId} {q : Nat → Nat} {D : va_G} {A : Nat → Prop} {res : Int32 × OS} (σ : OS) (a1_ : Int32) (C : Cx X cX6_either3 RX6 3 D (gty cy) A 21 0 0) (hR : Rt X (some .int) D (gty cy) A 0 0 (eI (wX6 cy q res.2) res.1)) (kR5 : OS × Int32 → Int32 × OS) (kO5 : OS × Int32 → Prop) (hk5 : ∀ z, kO5 z → kR5 z = res → At X D A 3 0 0 5 [(0, .ref (q 41)), (1, .int z.2)] [] (wX6 cy q z.1)) (ok : oX6_either3_26 kO5 σ a1_) (h : pX6_either3_26 kR5 σ a1_ = res) : At X D A 3 0 0 26 [(0, .ref (q 41)), (1, .int a1_)] [] (wX6 cy q σ) := by
  unfold pX6_either3_26 at h
  unfold oX6_either3_26 at ok
  refine r_aload_n C 0 (dall tdX6_either3 16 rfl) rfl ?_
  obtain ⟨o3, ok⟩ := ok
  refine r_vI (as := []) C (zX6_both3 cy q σ  o3) mv_X6_both3 km_X6_288 (by decide) (by decide) ⟨Nat.le_refl _, Nat.le_refl _⟩ rfl rfl rfl rfl (Nat.le_of_ble_eq_true rfl) (dall tdX6_either3 17 rfl) ?_
  exact wX6_either3_30 ((fX6_both3 σ ).2) a1_ ((fX6_both3 σ ).1) C hR kR5 kO5 hk5 ok h
def bX6_either3_5   (kR5 : OS × Int32 → Int32 × OS) (v : OS × Int32) : Int32 × OS := if (fX6_isWord v.1 111 114 0 0 0 0 0 0) = 0 then (v.2, v.1) else pX6_either3_26 kR5 (fX6_next v.1) v.2
def kX6_either3_5   (kO5 : OS × Int32 → Prop) (v : OS × Int32) : Prop := (gX6_isWord v.1 111 114 0 0 0 0 0 0) ∧ (((fX6_isWord v.1 111 114 0 0 0 0 0 0) = 0 → True) ∧ (¬ ((fX6_isWord v.1 111 114 0 0 0 0 0 0) = 0) → (gX6_next v.1 ) ∧ (oX6_either3_26 kO5 (fX6_next v.1) v.2)))
set_option maxHeartbeats 4000000 in
set_option maxRecDepth 100000 in
theorem wX6_either3_5 {X : CX} {cy : Nat → ClassId} {q : Nat → Nat} {D : va_G} {A : Nat → Prop} {res : Int32 × OS}  (C : Cx X cX6_either3 RX6 3 D (gty cy) A 21 0 0) (hR : Rt X (some .int) D (gty cy) A 0 0 (eI (wX6 cy q res.2) res.1)) (kR5 : OS × Int32 → Int32 × OS) (kO5 : OS × Int32 → Prop) (hk5 : ∀ z, kO5 z → kR5 z = res → At X D A 3 0 0 5 [(0, .ref (q 41)), (1, .int z.2)] [] (wX6 cy q z.1)) (v : OS × Int32) (ok : kX6_either3_5  kO5 v) (h : bX6_either3_5  kR5 v = res) : At X D A 3 0 0 5 [(0, .ref (q 41)), (1, .int v.2)] [] (wX6 cy q v.1) := by
  unfold bX6_either3_5 at h
  unfold kX6_either3_5 at ok
  refine r_aload_n C 0 (dall tdX6_either3 3 rfl) rfl ?_
  refine r_bipush (v := 111) C (dall tdX6_either3 4 rfl) (by decide) ?_
  refine r_bipush (v := 114) C (dall tdX6_either3 5 rfl) (by decide) ?_
  refine r_iconst (v := 0) C (dall tdX6_either3 6 rfl) (by decide) ?_
  refine r_iconst (v := 0) C (dall tdX6_either3 7 rfl) (by decide) ?_
  refine r_iconst (v := 0) C (dall tdX6_either3 8 rfl) (by decide) ?_
  refine r_iconst (v := 0) C (dall tdX6_either3 9 rfl) (by decide) ?_
  refine r_iconst (v := 0) C (dall tdX6_either3 10 rfl) (by decide) ?_
  refine r_iconst (v := 0) C (dall tdX6_either3 11 rfl) (by decide) ?_
  obtain ⟨o4, ok⟩ := ok
  refine r_vI (as := [.int 111, .int 114, .int 0, .int 0, .int 0, .int 0, .int 0, .int 0]) C (zX6_isWord cy q v.1 111 114 0 0 0 0 0 0 o4) mv_X6_isWord km_X6_204 (by decide) (by decide) ⟨Nat.le_refl _, Nat.le_refl _⟩ rfl rfl rfl rfl (Nat.le_of_ble_eq_true rfl) (dall tdX6_either3 12 rfl) ?_
  refine r_if_eq (tgt := 48) C (dall tdX6_either3 13 rfl) (by decide) (fun c5 => ?_) (fun c5 => ?_)
  · have h := (if_pos c5).symm.trans h
    have ok := ok.1 c5
    refine r_iload_n C 1 (dall tdX6_either3 28 rfl) rfl ?_
    exact r_iret C hR (dall tdX6_either3 29 rfl) (by subst h; exact ⟨rfl, rfl⟩)
  · have h := (if_neg c5).symm.trans h
    have ok := ok.2 c5
    refine r_aload_n C 0 (dall tdX6_either3 14 rfl) rfl ?_
    obtain ⟨o6, ok⟩ := ok
    refine r_vV (as := []) C (zX6_next cy q v.1  o6) mv_X6_next km_X6_201 (by decide) (by decide) ⟨Nat.le_refl _, Nat.le_refl _⟩ rfl rfl rfl rfl (Nat.le_of_ble_eq_true rfl) (dall tdX6_either3 15 rfl) ?_
    exact wX6_either3_26 (fX6_next v.1) v.2 C hR kR5 kO5 hk5 ok h
set_option maxHeartbeats 4000000 in
set_option maxRecDepth 100000 in
theorem lX6_either3_5 {X : CX} {cy : Nat → ClassId} {q : Nat → Nat} {D : va_G} {A : Nat → Prop} {res : Int32 × OS}  (C : Cx X cX6_either3 RX6 3 D (gty cy) A 21 0 0) (hR : Rt X (some .int) D (gty cy) A 0 0 (eI (wX6 cy q res.2) res.1))  (n : Nat) (v : OS × Int32) (ok : lpOk (kX6_either3_5  ) n v) (h : lp (0, o0) (bX6_either3_5  ) n v = res) : At X D A 3 0 0 5 [(0, .ref (q 41)), (1, .int v.2)] [] (wX6 cy q v.1) :=
  lp_rule (fun v rr_ => rr_ = res → At X D A 3 0 0 5 [(0, .ref (q 41)), (1, .int v.2)] [] (wX6 cy q v.1)) (fun kR kO hk v ok h => wX6_either3_5  C hR  kR kO hk v ok h) n v ok h
def pX6_either3_4  (σ : OS) (b0_ : Int32) : Int32 × OS := lp (0, o0) (bX6_either3_5  ) fu (σ, b0_)
def oX6_either3_4  (σ : OS) (b0_ : Int32) : Prop := lpOk (kX6_either3_5  ) fu (σ, b0_)
set_option maxHeartbeats 4000000 in
set_option maxRecDepth 100000 in
theorem wX6_either3_4 {X : CX} {cy : Nat → ClassId} {q : Nat → Nat} {D : va_G} {A : Nat → Prop} {res : Int32 × OS} (σ : OS) (b0_ : Int32) (C : Cx X cX6_either3 RX6 3 D (gty cy) A 21 0 0) (hR : Rt X (some .int) D (gty cy) A 0 0 (eI (wX6 cy q res.2) res.1))  (ok : oX6_either3_4  σ b0_) (h : pX6_either3_4  σ b0_ = res) : At X D A 3 0 0 4 [(0, .ref (q 41))] [.int b0_] (wX6 cy q σ) := by
  unfold pX6_either3_4 at h
  unfold oX6_either3_4 at ok
  refine r_istore_n (lv' := [(1, .int b0_), (0, .ref (q 41))]) C (dall tdX6_either3 2 rfl) (by decide) rfl ?_
  refine r_pick [1, 0] rfl ?_
  exact lX6_either3_5  C hR  fu _ ok h
def pX6_either3_0  (σ : OS) : Int32 × OS := pX6_either3_4  ((fX6_both3 σ ).2) ((fX6_both3 σ ).1)
def oX6_either3_0  (σ : OS) : Prop := (gX6_both3 σ ) ∧ (oX6_either3_4  ((fX6_both3 σ ).2) ((fX6_both3 σ ).1))
set_option maxHeartbeats 4000000 in
set_option maxRecDepth 100000 in
theorem wX6_either3_0 {X : CX} {cy : Nat → ClassId} {q : Nat → Nat} {D : va_G} {A : Nat → Prop} {res : Int32 × OS} (σ : OS) (C : Cx X cX6_either3 RX6 3 D (gty cy) A 21 0 0) (hR : Rt X (some .int) D (gty cy) A 0 0 (eI (wX6 cy q res.2) res.1))  (ok : oX6_either3_0  σ) (h : pX6_either3_0  σ = res) : At X D A 3 0 0 0 [(0, .ref (q 41))] [] (wX6 cy q σ) := by
  unfold pX6_either3_0 at h
  unfold oX6_either3_0 at ok
  refine r_aload_n C 0 (dall tdX6_either3 0 rfl) rfl ?_
  obtain ⟨o7, ok⟩ := ok
  refine r_vI (as := []) C (zX6_both3 cy q σ  o7) mv_X6_both3 km_X6_288 (by decide) (by decide) ⟨Nat.le_refl _, Nat.le_refl _⟩ rfl rfl rfl rfl (Nat.le_of_ble_eq_true rfl) (dall tdX6_either3 1 rfl) ?_
  exact wX6_either3_4 ((fX6_both3 σ ).2) ((fX6_both3 σ ).1) C hR  ok h
def fX6_either3 (σ : OS) : Int32 × OS := pX6_either3_0  σ
def gX6_either3 (σ : OS) : Prop := oX6_either3_0  σ
set_option maxRecDepth 100000 in
theorem zX6_either3 (cy : Nat → ClassId) (q : Nat → Nat)  {D : va_G} (σ : OS) (ok : gX6_either3 σ )  : Con yX6_either3 cX6_either3 3 (some .int) 21 0 0 D (gty cy) [.ref (q 41)] (wX6 cy q σ) (eI (wX6 cy q (fX6_either3 σ ).2) (fX6_either3 σ ).1) :=
  Con.of (own := RX6) (by decide +kernel) rfl (Nat.le_of_ble_eq_true rfl) (Nat.zero_le _) (fun X A C hR _ => (wX6_either3_0 σ C hR  ok rfl))
theorem mv_X6_either3 : MV yX6_either3 cX6_either3 3 (some .int) RX6 0 := ⟨ki_X6_either3, kv_X6_either3, kn_X6, kc_X6_either3, by decide +kernel⟩
def tbX6_atom2 : List (Nat × Instr × Nat) := [(0, .iconst 0, 1), (1, .istore_n 1, 1), (2, .aload_n 0, 1), (3, .bipush 45, 2), (5, .invokevirtual 226, 3), (8, .ifCond .eq 29, 3), (11, .aload_n 0, 1), (12, .invokevirtual 229, 3), (15, .ifCond .eq 146, 3), (18, .aload_n 0, 1), (19, .invokevirtual 276, 3), (22, .ineg, 1), (23, .istore_n 1, 1), (24, .aload_n 0, 1), (25, .dup, 1), (26, .getfield 195, 3), (29, .iconst 1, 1), (30, .isub, 1), (31, .putfield 195, 3), (34, .goto 127, 3), (37, .aload_n 0, 1), (38, .bipush 40, 2), (40, .invokevirtual 226, 3), (43, .ifCond .eq 52, 3), (46, .aload_n 0, 1), (47, .invokevirtual 229, 3), (50, .ifCond .eq 111, 3), (53, .aload_n 0, 1), (54, .invokevirtual 291, 3), (57, .istore_n 1, 1), (58, .aload_n 0, 1), (59, .bipush 41, 2), (61, .invokevirtual 226, 3), (64, .ifCond .ne 7, 3), (67, .aload_n 0, 1), (68, .invokevirtual 198, 3), (71, .aload_n 0, 1), (72, .dup, 1), (73, .getfield 195, 3), (76, .iconst 1, 1), (77, .isub, 1), (78, .putfield 195, 3), (81, .aload_n 0, 1), (82, .getfield 184, 3), (85, .ifCond .ne 76, 3), (88, .aload_n 0, 1), (89, .invokevirtual 201, 3), (92, .goto 69, 3), (95, .aload_n 0, 1), (96, .getfield 184, 3), (99, .ifCond .ne 24, 3), (102, .aload_n 0, 1), (103, .getfield 168, 3), (106, .iconst 2, 1), (107, .if_icmp .ne 16, 3), (110, .aload_n 0, 1), (111, .getfield 179, 3), (114, .l2i, 1), (115, .istore_n 1, 1), (116, .aload_n 0, 1), (117, .invokevirtual 201, 3), (120, .goto 41, 3), (123, .aload_n 0, 1), (124, .getfield 184, 3), (127, .ifCond .ne 30, 3), (130, .aload_n 0, 1), (131, .getfield 168, 3), (134, .iconst 1, 1), (135, .if_icmp .ne 22, 3), (138, .aload_n 0, 1), (139, .invokevirtual 233, 3), (142, .istore_n 1, 1), (143, .aload_n 0, 1), (144, .getfield 184, 3), (147, .ifCond .ne 14, 3), (150, .aload_n 0, 1), (151, .invokevirtual 201, 3), (154, .goto 7, 3), (157, .aload_n 0, 1), (158, .invokevirtual 198, 3), (161, .iload_n 1, 1), (162, .ireturn, 1)]
theorem tdX6_atom2 : tbX6_atom2.all (fun q => decide (decode cX6_atom2 q.1 = .ok q.2)) = true := by decide +kernel
def pX6_atom2_161  (σ : OS) (a1_ : Int32) : Int32 × OS := (a1_, σ)
set_option maxHeartbeats 4000000 in
set_option maxRecDepth 100000 in
theorem wX6_atom2_161 {X : CX} {cy : Nat → ClassId} {q : Nat → Nat} {D : va_G} {A : Nat → Prop} {res : Int32 × OS} (σ : OS) (a1_ : Int32) (C : Cx X cX6_atom2 RX6 2 D (gty cy) A 22 0 0) (hR : Rt X (some .int) D (gty cy) A 0 0 (eI (wX6 cy q res.2) res.1))  (h : pX6_atom2_161  σ a1_ = res) : At X D A 2 0 0 161 [(1, .int a1_)] [] (wX6 cy q σ) := by
  unfold pX6_atom2_161 at h
  refine r_iload_n C 0 (dall tdX6_atom2 80 rfl) rfl ?_
  exact r_iret C hR (dall tdX6_atom2 81 rfl) (by subst h; exact ⟨rfl, rfl⟩)
def pX6_atom2_157  (σ : OS) (a1_ : Int32) : Int32 × OS := pX6_atom2_161  (fX6_fail σ) a1_
set_option maxHeartbeats 4000000 in
set_option maxRecDepth 100000 in
theorem wX6_atom2_157 {X : CX} {cy : Nat → ClassId} {q : Nat → Nat} {D : va_G} {A : Nat → Prop} {res : Int32 × OS} (σ : OS) (a1_ : Int32) (C : Cx X cX6_atom2 RX6 2 D (gty cy) A 22 0 0) (hR : Rt X (some .int) D (gty cy) A 0 0 (eI (wX6 cy q res.2) res.1))  (h : pX6_atom2_157  σ a1_ = res) : At X D A 2 0 0 157 [(0, .ref (q 41)), (1, .int a1_)] [] (wX6 cy q σ) := by
  unfold pX6_atom2_157 at h
  refine r_aload_n C 0 (dall tdX6_atom2 78 rfl) rfl ?_
  refine r_vV (as := []) C (zX6_fail cy q σ  ) mv_X6_fail km_X6_198 (by decide) (by decide) ⟨Nat.le_refl _, Nat.le_refl _⟩ rfl rfl rfl rfl (Nat.le_of_ble_eq_true rfl) (dall tdX6_atom2 79 rfl) ?_
  refine r_pick [1] rfl ?_
  exact wX6_atom2_161 (fX6_fail σ) a1_ C hR  h
def pX6_atom2_154  (σ : OS) (a1_ : Int32) : Int32 × OS := pX6_atom2_161  σ a1_
set_option maxHeartbeats 4000000 in
set_option maxRecDepth 100000 in
theorem wX6_atom2_154 {X : CX} {cy : Nat → ClassId} {q : Nat → Nat} {D : va_G} {A : Nat → Prop} {res : Int32 × OS} (σ : OS) (a1_ : Int32) (C : Cx X cX6_atom2 RX6 2 D (gty cy) A 22 0 0) (hR : Rt X (some .int) D (gty cy) A 0 0 (eI (wX6 cy q res.2) res.1))  (h : pX6_atom2_154  σ a1_ = res) : At X D A 2 0 0 154 [(1, .int a1_)] [] (wX6 cy q σ) := by
  unfold pX6_atom2_154 at h
  refine r_goto (tgt := 161) C (dall tdX6_atom2 77 rfl) (by decide) ?_
  exact wX6_atom2_161 σ a1_ C hR  h
def pX6_atom2_142  (σ : OS) (b0_ : Int32) : Int32 × OS := if (σ.1 26) = 0 then pX6_atom2_154  (fX6_next σ) b0_ else pX6_atom2_161  σ b0_
def oX6_atom2_142  (σ : OS) (b0_ : Int32) : Prop := ((σ.1 26) = 0 → gX6_next σ ) ∧ (¬ ((σ.1 26) = 0) → True)
set_option maxHeartbeats 4000000 in
set_option maxRecDepth 100000 in
theorem wX6_atom2_142 {X : CX} {cy : Nat → ClassId} {q : Nat → Nat} {D : va_G} {A : Nat → Prop} {res : Int32 × OS} (σ : OS) (b0_ : Int32) (C : Cx X cX6_atom2 RX6 2 D (gty cy) A 22 0 0) (hR : Rt X (some .int) D (gty cy) A 0 0 (eI (wX6 cy q res.2) res.1))  (ok : oX6_atom2_142  σ b0_) (h : pX6_atom2_142  σ b0_ = res) : At X D A 2 0 0 142 [(0, .ref (q 41))] [.int b0_] (wX6 cy q σ) := by
  unfold pX6_atom2_142 at h
  unfold oX6_atom2_142 at ok
  refine r_istore_n (lv' := [(1, .int b0_), (0, .ref (q 41))]) C (dall tdX6_atom2 71 rfl) (by decide) rfl ?_
  refine r_aload_n C 1 (dall tdX6_atom2 72 rfl) rfl ?_
  refine r_get C 0 kw_X6 rfl rfl (by decide) kf_X6_184 rfl rfl (dall tdX6_atom2 73 rfl) ?_
  refine r_if_ne (tgt := 161) C (dall tdX6_atom2 74 rfl) (by decide) (fun c1 => ?_) (fun c1 => ?_)
  · have h := (if_neg c1).symm.trans h
    have ok := ok.2 c1
    refine r_pick [0] rfl ?_
    exact wX6_atom2_161 σ b0_ C hR  h
  · have h := (if_pos c1).symm.trans h
    have ok := ok.1 c1
    refine r_aload_n C 1 (dall tdX6_atom2 75 rfl) rfl ?_
    have o2 := ok
    refine r_vV (as := []) C (zX6_next cy q σ  o2) mv_X6_next km_X6_201 (by decide) (by decide) ⟨Nat.le_refl _, Nat.le_refl _⟩ rfl rfl rfl rfl (Nat.le_of_ble_eq_true rfl) (dall tdX6_atom2 76 rfl) ?_
    refine r_pick [0] rfl ?_
    exact wX6_atom2_154 (fX6_next σ) b0_ C hR  h
def pX6_atom2_123  (σ : OS) (a1_ : Int32) : Int32 × OS := if (σ.1 26) = 0 then if (σ.1 22) = 1 then pX6_atom2_142  ((fX6_name σ ).2) ((fX6_name σ ).1) else pX6_atom2_157  σ a1_ else pX6_atom2_157  σ a1_
def oX6_atom2_123  (σ : OS) (a1_ : Int32) : Prop := ((σ.1 26) = 0 → ((σ.1 22) = 1 → (gX6_name σ ) ∧ (oX6_atom2_142  ((fX6_name σ ).2) ((fX6_name σ ).1))) ∧ (¬ ((σ.1 22) = 1) → True)) ∧ (¬ ((σ.1 26) = 0) → True)
set_option maxHeartbeats 4000000 in
set_option maxRecDepth 100000 in
theorem wX6_atom2_123 {X : CX} {cy : Nat → ClassId} {q : Nat → Nat} {D : va_G} {A : Nat → Prop} {res : Int32 × OS} (σ : OS) (a1_ : Int32) (C : Cx X cX6_atom2 RX6 2 D (gty cy) A 22 0 0) (hR : Rt X (some .int) D (gty cy) A 0 0 (eI (wX6 cy q res.2) res.1))  (ok : oX6_atom2_123  σ a1_) (h : pX6_atom2_123  σ a1_ = res) : At X D A 2 0 0 123 [(0, .ref (q 41)), (1, .int a1_)] [] (wX6 cy q σ) := by
  unfold pX6_atom2_123 at h
  unfold oX6_atom2_123 at ok
  refine r_aload_n C 0 (dall tdX6_atom2 62 rfl) rfl ?_
  refine r_get C 0 kw_X6 rfl rfl (by decide) kf_X6_184 rfl rfl (dall tdX6_atom2 63 rfl) ?_
  refine r_if_ne (tgt := 157) C (dall tdX6_atom2 64 rfl) (by decide) (fun c3 => ?_) (fun c3 => ?_)
  · have h := (if_neg c3).symm.trans h
    have ok := ok.2 c3
    exact wX6_atom2_157 σ a1_ C hR  h
  · have h := (if_pos c3).symm.trans h
    have ok := ok.1 c3
    refine r_aload_n C 0 (dall tdX6_atom2 65 rfl) rfl ?_
    refine r_get C 0 kw_X6 rfl rfl (by decide) kf_X6_168 rfl rfl (dall tdX6_atom2 66 rfl) ?_
    refine r_iconst (v := 1) C (dall tdX6_atom2 67 rfl) (by decide) ?_
    refine r_icmp_ne (tgt := 157) C (dall tdX6_atom2 68 rfl) (by decide) (fun c4 => ?_) (fun c4 => ?_)
    · have h := (if_neg c4).symm.trans h
      have ok := ok.2 c4
      exact wX6_atom2_157 σ a1_ C hR  h
    · have h := (if_pos c4).symm.trans h
      have ok := ok.1 c4
      refine r_aload_n C 0 (dall tdX6_atom2 69 rfl) rfl ?_
      obtain ⟨o5, ok⟩ := ok
      refine r_vI (as := []) C (zX6_name cy q σ  o5) mv_X6_name km_X6_233 (by decide) (by decide) ⟨Nat.le_refl _, Nat.le_refl _⟩ rfl rfl rfl rfl (Nat.le_of_ble_eq_true rfl) (dall tdX6_atom2 70 rfl) ?_
      refine r_pick [0] rfl ?_
      exact wX6_atom2_142 ((fX6_name σ ).2) ((fX6_name σ ).1) C hR  ok h
def pX6_atom2_120  (σ : OS) (a1_ : Int32) : Int32 × OS := pX6_atom2_161  σ a1_
set_option maxHeartbeats 4000000 in
set_option maxRecDepth 100000 in
theorem wX6_atom2_120 {X : CX} {cy : Nat → ClassId} {q : Nat → Nat} {D : va_G} {A : Nat → Prop} {res : Int32 × OS} (σ : OS) (a1_ : Int32) (C : Cx X cX6_atom2 RX6 2 D (gty cy) A 22 0 0) (hR : Rt X (some .int) D (gty cy) A 0 0 (eI (wX6 cy q res.2) res.1))  (h : pX6_atom2_120  σ a1_ = res) : At X D A 2 0 0 120 [(1, .int a1_)] [] (wX6 cy q σ) := by
  unfold pX6_atom2_120 at h
  refine r_goto (tgt := 161) C (dall tdX6_atom2 61 rfl) (by decide) ?_
  exact wX6_atom2_161 σ a1_ C hR  h
def pX6_atom2_92  (σ : OS) (a1_ : Int32) : Int32 × OS := pX6_atom2_161  σ a1_
set_option maxHeartbeats 4000000 in
set_option maxRecDepth 100000 in
theorem wX6_atom2_92 {X : CX} {cy : Nat → ClassId} {q : Nat → Nat} {D : va_G} {A : Nat → Prop} {res : Int32 × OS} (σ : OS) (a1_ : Int32) (C : Cx X cX6_atom2 RX6 2 D (gty cy) A 22 0 0) (hR : Rt X (some .int) D (gty cy) A 0 0 (eI (wX6 cy q res.2) res.1))  (h : pX6_atom2_92  σ a1_ = res) : At X D A 2 0 0 92 [(1, .int a1_)] [] (wX6 cy q σ) := by
  unfold pX6_atom2_92 at h
  refine r_goto (tgt := 161) C (dall tdX6_atom2 47 rfl) (by decide) ?_
  exact wX6_atom2_161 σ a1_ C hR  h
def pX6_atom2_71  (σ : OS) (a1_ : Int32) : Int32 × OS := if ((oI σ 25 ((σ.1 25) - 1)).1 26) = 0 then pX6_atom2_92  (fX6_next (oI σ 25 ((σ.1 25) - 1))) a1_ else pX6_atom2_161  (oI σ 25 ((σ.1 25) - 1)) a1_
def oX6_atom2_71  (σ : OS) (a1_ : Int32) : Prop := (((oI σ 25 ((σ.1 25) - 1)).1 26) = 0 → gX6_next (oI σ 25 ((σ.1 25) - 1)) ) ∧ (¬ (((oI σ 25 ((σ.1 25) - 1)).1 26) = 0) → True)
set_option maxHeartbeats 4000000 in
set_option maxRecDepth 100000 in
theorem wX6_atom2_71 {X : CX} {cy : Nat → ClassId} {q : Nat → Nat} {D : va_G} {A : Nat → Prop} {res : Int32 × OS} (σ : OS) (a1_ : Int32) (C : Cx X cX6_atom2 RX6 2 D (gty cy) A 22 0 0) (hR : Rt X (some .int) D (gty cy) A 0 0 (eI (wX6 cy q res.2) res.1))  (ok : oX6_atom2_71  σ a1_) (h : pX6_atom2_71  σ a1_ = res) : At X D A 2 0 0 71 [(0, .ref (q 41)), (1, .int a1_)] [] (wX6 cy q σ) := by
  unfold pX6_atom2_71 at h
  unfold oX6_atom2_71 at ok
  refine r_aload_n C 0 (dall tdX6_atom2 36 rfl) rfl ?_
  refine r_dup C (dall tdX6_atom2 37 rfl) rfl ?_
  refine r_get C 0 kw_X6 rfl rfl (by decide) kf_X6_195 rfl rfl (dall tdX6_atom2 38 rfl) ?_
  refine r_iconst (v := 1) C (dall tdX6_atom2 39 rfl) (by decide) ?_
  refine r_isub C (dall tdX6_atom2 40 rfl) ?_
  refine r_put C 0 kw_X6 tyX6_ok nmX6 rfl rfl (by decide) kf_X6_195 rfl rfl rfl rfl rfl (Nat.le_of_ble_eq_true rfl) (pu_X6_this_25 cy q σ ((σ.1 25) - 1)) (dall tdX6_atom2 41 rfl) ?_
  refine r_aload_n C 0 (dall tdX6_atom2 42 rfl) rfl ?_
  refine r_get C 0 kw_X6 rfl rfl (by decide) kf_X6_184 rfl rfl (dall tdX6_atom2 43 rfl) ?_
  refine r_if_ne (tgt := 161) C (dall tdX6_atom2 44 rfl) (by decide) (fun c6 => ?_) (fun c6 => ?_)
  · have h := (if_neg c6).symm.trans h
    have ok := ok.2 c6
    refine r_pick [1] rfl ?_
    exact wX6_atom2_161 (oI σ 25 ((σ.1 25) - 1)) a1_ C hR  h
  · have h := (if_pos c6).symm.trans h
    have ok := ok.1 c6
    refine r_aload_n C 0 (dall tdX6_atom2 45 rfl) rfl ?_
    have o7 := ok
    refine r_vV (as := []) C (zX6_next cy q (oI σ 25 ((σ.1 25) - 1))  o7) mv_X6_next km_X6_201 (by decide) (by decide) ⟨Nat.le_refl _, Nat.le_refl _⟩ rfl rfl rfl rfl (Nat.le_of_ble_eq_true rfl) (dall tdX6_atom2 46 rfl) ?_
    refine r_pick [1] rfl ?_
    exact wX6_atom2_92 (fX6_next (oI σ 25 ((σ.1 25) - 1))) a1_ C hR  h
def pX6_atom2_57  (σ : OS) (b0_ : Int32) : Int32 × OS := if (fX6_isSign σ 41) = 0 then pX6_atom2_71  (fX6_fail σ) b0_ else pX6_atom2_71  σ b0_
def oX6_atom2_57  (σ : OS) (b0_ : Int32) : Prop := ((fX6_isSign σ 41) = 0 → oX6_atom2_71  (fX6_fail σ) b0_) ∧ (¬ ((fX6_isSign σ 41) = 0) → oX6_atom2_71  σ b0_)
set_option maxHeartbeats 4000000 in
set_option maxRecDepth 100000 in
theorem wX6_atom2_57 {X : CX} {cy : Nat → ClassId} {q : Nat → Nat} {D : va_G} {A : Nat → Prop} {res : Int32 × OS} (σ : OS) (b0_ : Int32) (C : Cx X cX6_atom2 RX6 2 D (gty cy) A 22 0 0) (hR : Rt X (some .int) D (gty cy) A 0 0 (eI (wX6 cy q res.2) res.1))  (ok : oX6_atom2_57  σ b0_) (h : pX6_atom2_57  σ b0_ = res) : At X D A 2 0 0 57 [(0, .ref (q 41))] [.int b0_] (wX6 cy q σ) := by
  unfold pX6_atom2_57 at h
  unfold oX6_atom2_57 at ok
  refine r_istore_n (lv' := [(1, .int b0_), (0, .ref (q 41))]) C (dall tdX6_atom2 29 rfl) (by decide) rfl ?_
  refine r_aload_n C 1 (dall tdX6_atom2 30 rfl) rfl ?_
  refine r_bipush (v := 41) C (dall tdX6_atom2 31 rfl) (by decide) ?_
  refine r_vI (as := [.int 41]) C (zX6_isSign cy q σ 41 ) mv_X6_isSign km_X6_226 (by decide) (by decide) ⟨Nat.le_refl _, Nat.le_refl _⟩ rfl rfl rfl rfl (Nat.le_of_ble_eq_true rfl) (dall tdX6_atom2 32 rfl) ?_
  refine r_if_ne (tgt := 71) C (dall tdX6_atom2 33 rfl) (by decide) (fun c8 => ?_) (fun c8 => ?_)
  · have h := (if_neg c8).symm.trans h
    have ok := ok.2 c8
    refine r_pick [1, 0] rfl ?_
    exact wX6_atom2_71 σ b0_ C hR  ok h
  · have h := (if_pos c8).symm.trans h
    have ok := ok.1 c8
    refine r_aload_n C 1 (dall tdX6_atom2 34 rfl) rfl ?_
    refine r_vV (as := []) C (zX6_fail cy q σ  ) mv_X6_fail km_X6_198 (by decide) (by decide) ⟨Nat.le_refl _, Nat.le_refl _⟩ rfl rfl rfl rfl (Nat.le_of_ble_eq_true rfl) (dall tdX6_atom2 35 rfl) ?_
    refine r_pick [1, 0] rfl ?_
    exact wX6_atom2_71 (fX6_fail σ) b0_ C hR  ok h
def pX6_atom2_50  (σ : OS) (a1_ : Int32) (b0_ : Int32) : Int32 × OS := if b0_ = 0 then pX6_atom2_161  σ a1_ else pX6_atom2_57  ((fX6_either3 σ ).2) ((fX6_either3 σ ).1)
def oX6_atom2_50  (σ : OS) (a1_ : Int32) (b0_ : Int32) : Prop := (b0_ = 0 → True) ∧ (¬ (b0_ = 0) → (gX6_either3 σ ) ∧ (oX6_atom2_57  ((fX6_either3 σ ).2) ((fX6_either3 σ ).1)))
set_option maxHeartbeats 4000000 in
set_option maxRecDepth 100000 in
theorem wX6_atom2_50 {X : CX} {cy : Nat → ClassId} {q : Nat → Nat} {D : va_G} {A : Nat → Prop} {res : Int32 × OS} (σ : OS) (a1_ : Int32) (b0_ : Int32) (C : Cx X cX6_atom2 RX6 2 D (gty cy) A 22 0 0) (hR : Rt X (some .int) D (gty cy) A 0 0 (eI (wX6 cy q res.2) res.1))  (ok : oX6_atom2_50  σ a1_ b0_) (h : pX6_atom2_50  σ a1_ b0_ = res) : At X D A 2 0 0 50 [(0, .ref (q 41)), (1, .int a1_)] [.int b0_] (wX6 cy q σ) := by
  unfold pX6_atom2_50 at h
  unfold oX6_atom2_50 at ok
  refine r_if_eq (tgt := 161) C (dall tdX6_atom2 26 rfl) (by decide) (fun c9 => ?_) (fun c9 => ?_)
  · have h := (if_pos c9).symm.trans h
    have ok := ok.1 c9
    refine r_pick [1] rfl ?_
    exact wX6_atom2_161 σ a1_ C hR  h
  · have h := (if_neg c9).symm.trans h
    have ok := ok.2 c9
    refine r_aload_n C 0 (dall tdX6_atom2 27 rfl) rfl ?_
    obtain ⟨o10, ok⟩ := ok
    refine r_vI (as := []) C (zX6_either3 cy q σ  o10) mv_X6_either3 km_X6_291 (by decide) (by decide) ⟨Nat.le_refl _, Nat.le_refl _⟩ rfl rfl rfl rfl (Nat.le_of_ble_eq_true rfl) (dall tdX6_atom2 28 rfl) ?_
    refine r_pick [0] rfl ?_
    exact wX6_atom2_57 ((fX6_either3 σ ).2) ((fX6_either3 σ ).1) C hR  ok h
def pX6_atom2_22  (σ : OS) (b0_ : Int32) : Int32 × OS := pX6_atom2_161  (oI σ 25 ((σ.1 25) - 1)) (-b0_)
set_option maxHeartbeats 4000000 in
set_option maxRecDepth 100000 in
theorem wX6_atom2_22 {X : CX} {cy : Nat → ClassId} {q : Nat → Nat} {D : va_G} {A : Nat → Prop} {res : Int32 × OS} (σ : OS) (b0_ : Int32) (C : Cx X cX6_atom2 RX6 2 D (gty cy) A 22 0 0) (hR : Rt X (some .int) D (gty cy) A 0 0 (eI (wX6 cy q res.2) res.1))  (h : pX6_atom2_22  σ b0_ = res) : At X D A 2 0 0 22 [(0, .ref (q 41))] [.int b0_] (wX6 cy q σ) := by
  unfold pX6_atom2_22 at h
  refine r_ineg C (dall tdX6_atom2 11 rfl) ?_
  refine r_istore_n (lv' := [(1, .int (-b0_)), (0, .ref (q 41))]) C (dall tdX6_atom2 12 rfl) (by decide) rfl ?_
  refine r_aload_n C 1 (dall tdX6_atom2 13 rfl) rfl ?_
  refine r_dup C (dall tdX6_atom2 14 rfl) rfl ?_
  refine r_get C 0 kw_X6 rfl rfl (by decide) kf_X6_195 rfl rfl (dall tdX6_atom2 15 rfl) ?_
  refine r_iconst (v := 1) C (dall tdX6_atom2 16 rfl) (by decide) ?_
  refine r_isub C (dall tdX6_atom2 17 rfl) ?_
  refine r_put C 0 kw_X6 tyX6_ok nmX6 rfl rfl (by decide) kf_X6_195 rfl rfl rfl rfl rfl (Nat.le_of_ble_eq_true rfl) (pu_X6_this_25 cy q σ ((σ.1 25) - 1)) (dall tdX6_atom2 18 rfl) ?_
  refine r_goto (tgt := 161) C (dall tdX6_atom2 19 rfl) (by decide) ?_
  refine r_pick [0] rfl ?_
  exact wX6_atom2_161 (oI σ 25 ((σ.1 25) - 1)) (-b0_) C hR  h
def pX6_atom2_15  (σ : OS) (a1_ : Int32) (b0_ : Int32) : Int32 × OS := if b0_ = 0 then pX6_atom2_161  σ a1_ else pX6_atom2_22  ((fX6_atom3 σ ).2) ((fX6_atom3 σ ).1)
def oX6_atom2_15  (σ : OS) (a1_ : Int32) (b0_ : Int32) : Prop := (b0_ = 0 → True) ∧ (¬ (b0_ = 0) → gX6_atom3 σ )
set_option maxHeartbeats 4000000 in
set_option maxRecDepth 100000 in
theorem wX6_atom2_15 {X : CX} {cy : Nat → ClassId} {q : Nat → Nat} {D : va_G} {A : Nat → Prop} {res : Int32 × OS} (σ : OS) (a1_ : Int32) (b0_ : Int32) (C : Cx X cX6_atom2 RX6 2 D (gty cy) A 22 0 0) (hR : Rt X (some .int) D (gty cy) A 0 0 (eI (wX6 cy q res.2) res.1))  (ok : oX6_atom2_15  σ a1_ b0_) (h : pX6_atom2_15  σ a1_ b0_ = res) : At X D A 2 0 0 15 [(0, .ref (q 41)), (1, .int a1_)] [.int b0_] (wX6 cy q σ) := by
  unfold pX6_atom2_15 at h
  unfold oX6_atom2_15 at ok
  refine r_if_eq (tgt := 161) C (dall tdX6_atom2 8 rfl) (by decide) (fun c11 => ?_) (fun c11 => ?_)
  · have h := (if_pos c11).symm.trans h
    have ok := ok.1 c11
    refine r_pick [1] rfl ?_
    exact wX6_atom2_161 σ a1_ C hR  h
  · have h := (if_neg c11).symm.trans h
    have ok := ok.2 c11
    refine r_aload_n C 0 (dall tdX6_atom2 9 rfl) rfl ?_
    have o12 := ok
    refine r_vI (as := []) C (zX6_atom3 cy q σ  o12) mv_X6_atom3 km_X6_276 (by decide) (by decide) ⟨Nat.le_refl _, Nat.le_refl _⟩ rfl rfl rfl rfl (Nat.le_of_ble_eq_true rfl) (dall tdX6_atom2 10 rfl) ?_
    refine r_pick [0] rfl ?_
    exact wX6_atom2_22 ((fX6_atom3 σ ).2) ((fX6_atom3 σ ).1) C hR  h
def pX6_atom2_0  (σ : OS) : Int32 × OS := if (fX6_isSign σ 45) = 0 then if (fX6_isSign σ 40) = 0 then if (σ.1 26) = 0 then if (σ.1 22) = 2 then pX6_atom2_120  (fX6_next σ) ((σ.2.1 24).toInt32) else pX6_atom2_123  σ 0 else pX6_atom2_123  σ 0 else pX6_atom2_50  ((fX6_opens σ ).2) 0 ((fX6_opens σ ).1) else pX6_atom2_15  ((fX6_opens σ ).2) 0 ((fX6_opens σ ).1)
def oX6_atom2_0  (σ : OS) : Prop := ((fX6_isSign σ 45) = 0 → ((fX6_isSign σ 40) = 0 → ((σ.1 26) = 0 → ((σ.1 22) = 2 → gX6_next σ ) ∧ (¬ ((σ.1 22) = 2) → oX6_atom2_123  σ 0)) ∧ (¬ ((σ.1 26) = 0) → oX6_atom2_123  σ 0)) ∧ (¬ ((fX6_isSign σ 40) = 0) → (gX6_opens σ ) ∧ (oX6_atom2_50  ((fX6_opens σ ).2) 0 ((fX6_opens σ ).1)))) ∧ (¬ ((fX6_isSign σ 45) = 0) → (gX6_opens σ ) ∧ (oX6_atom2_15  ((fX6_opens σ ).2) 0 ((fX6_opens σ ).1)))
set_option maxHeartbeats 4000000 in
set_option maxRecDepth 100000 in
theorem wX6_atom2_0 {X : CX} {cy : Nat → ClassId} {q : Nat → Nat} {D : va_G} {A : Nat → Prop} {res : Int32 × OS} (σ : OS) (C : Cx X cX6_atom2 RX6 2 D (gty cy) A 22 0 0) (hR : Rt X (some .int) D (gty cy) A 0 0 (eI (wX6 cy q res.2) res.1))  (ok : oX6_atom2_0  σ) (h : pX6_atom2_0  σ = res) : At X D A 2 0 0 0 [(0, .ref (q 41))] [] (wX6 cy q σ) := by
  unfold pX6_atom2_0 at h
  unfold oX6_atom2_0 at ok
  refine r_iconst (v := 0) C (dall tdX6_atom2 0 rfl) (by decide) ?_
  refine r_istore_n (lv' := [(1, .int 0), (0, .ref (q 41))]) C (dall tdX6_atom2 1 rfl) (by decide) rfl ?_
  refine r_aload_n C 1 (dall tdX6_atom2 2 rfl) rfl ?_
  refine r_bipush (v := 45) C (dall tdX6_atom2 3 rfl) (by decide) ?_
  refine r_vI (as := [.int 45]) C (zX6_isSign cy q σ 45 ) mv_X6_isSign km_X6_226 (by decide) (by decide) ⟨Nat.le_refl _, Nat.le_refl _⟩ rfl rfl rfl rfl (Nat.le_of_ble_eq_true rfl) (dall tdX6_atom2 4 rfl) ?_
  refine r_if_eq (tgt := 37) C (dall tdX6_atom2 5 rfl) (by decide) (fun c13 => ?_) (fun c13 => ?_)
  · have h := (if_pos c13).symm.trans h
    have ok := ok.1 c13
    refine r_aload_n C 1 (dall tdX6_atom2 20 rfl) rfl ?_
    refine r_bipush (v := 40) C (dall tdX6_atom2 21 rfl) (by decide) ?_
    refine r_vI (as := [.int 40]) C (zX6_isSign cy q σ 40 ) mv_X6_isSign km_X6_226 (by decide) (by decide) ⟨Nat.le_refl _, Nat.le_refl _⟩ rfl rfl rfl rfl (Nat.le_of_ble_eq_true rfl) (dall tdX6_atom2 22 rfl) ?_
    refine r_if_eq (tgt := 95) C (dall tdX6_atom2 23 rfl) (by decide) (fun c14 => ?_) (fun c14 => ?_)
    · have h := (if_pos c14).symm.trans h
      have ok := ok.1 c14
      refine r_aload_n C 1 (dall tdX6_atom2 48 rfl) rfl ?_
      refine r_get C 0 kw_X6 rfl rfl (by decide) kf_X6_184 rfl rfl (dall tdX6_atom2 49 rfl) ?_
      refine r_if_ne (tgt := 123) C (dall tdX6_atom2 50 rfl) (by decide) (fun c15 => ?_) (fun c15 => ?_)
      · have h := (if_neg c15).symm.trans h
        have ok := ok.2 c15
        refine r_pick [1, 0] rfl ?_
        exact wX6_atom2_123 σ 0 C hR  ok h
      · have h := (if_pos c15).symm.trans h
        have ok := ok.1 c15
        refine r_aload_n C 1 (dall tdX6_atom2 51 rfl) rfl ?_
        refine r_get C 0 kw_X6 rfl rfl (by decide) kf_X6_168 rfl rfl (dall tdX6_atom2 52 rfl) ?_
        refine r_iconst (v := 2) C (dall tdX6_atom2 53 rfl) (by decide) ?_
        refine r_icmp_ne (tgt := 123) C (dall tdX6_atom2 54 rfl) (by decide) (fun c16 => ?_) (fun c16 => ?_)
        · have h := (if_neg c16).symm.trans h
          have ok := ok.2 c16
          refine r_pick [1, 0] rfl ?_
          exact wX6_atom2_123 σ 0 C hR  ok h
        · have h := (if_pos c16).symm.trans h
          have ok := ok.1 c16
          refine r_aload_n C 1 (dall tdX6_atom2 55 rfl) rfl ?_
          refine r_get C 0 kw_X6 rfl rfl (by decide) kf_X6_179 rfl rfl (dall tdX6_atom2 56 rfl) ?_
          refine r_l2i C (dall tdX6_atom2 57 rfl) ?_
          refine r_istore_n (lv' := [(1, .int ((σ.2.1 24).toInt32)), (0, .ref (q 41))]) C (dall tdX6_atom2 58 rfl) (by decide) rfl ?_
          refine r_aload_n C 1 (dall tdX6_atom2 59 rfl) rfl ?_
          have o17 := ok
          refine r_vV (as := []) C (zX6_next cy q σ  o17) mv_X6_next km_X6_201 (by decide) (by decide) ⟨Nat.le_refl _, Nat.le_refl _⟩ rfl rfl rfl rfl (Nat.le_of_ble_eq_true rfl) (dall tdX6_atom2 60 rfl) ?_
          refine r_pick [0] rfl ?_
          exact wX6_atom2_120 (fX6_next σ) ((σ.2.1 24).toInt32) C hR  h
    · have h := (if_neg c14).symm.trans h
      have ok := ok.2 c14
      refine r_aload_n C 1 (dall tdX6_atom2 24 rfl) rfl ?_
      obtain ⟨o18, ok⟩ := ok
      refine r_vI (as := []) C (zX6_opens cy q σ  o18) mv_X6_opens km_X6_229 (by decide) (by decide) ⟨Nat.le_refl _, Nat.le_refl _⟩ rfl rfl rfl rfl (Nat.le_of_ble_eq_true rfl) (dall tdX6_atom2 25 rfl) ?_
      refine r_pick [1, 0] rfl ?_
      exact wX6_atom2_50 ((fX6_opens σ ).2) 0 ((fX6_opens σ ).1) C hR  ok h
  · have h := (if_neg c13).symm.trans h
    have ok := ok.2 c13
    refine r_aload_n C 1 (dall tdX6_atom2 6 rfl) rfl ?_
    obtain ⟨o19, ok⟩ := ok
    refine r_vI (as := []) C (zX6_opens cy q σ  o19) mv_X6_opens km_X6_229 (by decide) (by decide) ⟨Nat.le_refl _, Nat.le_refl _⟩ rfl rfl rfl rfl (Nat.le_of_ble_eq_true rfl) (dall tdX6_atom2 7 rfl) ?_
    refine r_pick [1, 0] rfl ?_
    exact wX6_atom2_15 ((fX6_opens σ ).2) 0 ((fX6_opens σ ).1) C hR  ok h
def fX6_atom2 (σ : OS) : Int32 × OS := pX6_atom2_0  σ
def gX6_atom2 (σ : OS) : Prop := oX6_atom2_0  σ
set_option maxRecDepth 100000 in
theorem zX6_atom2 (cy : Nat → ClassId) (q : Nat → Nat)  {D : va_G} (σ : OS) (ok : gX6_atom2 σ )  : Con yX6_atom2 cX6_atom2 2 (some .int) 22 0 0 D (gty cy) [.ref (q 41)] (wX6 cy q σ) (eI (wX6 cy q (fX6_atom2 σ ).2) (fX6_atom2 σ ).1) :=
  Con.of (own := RX6) (by decide +kernel) rfl (Nat.le_of_ble_eq_true rfl) (Nat.zero_le _) (fun X A C hR _ => (wX6_atom2_0 σ C hR  ok rfl))
theorem mv_X6_atom2 : MV yX6_atom2 cX6_atom2 2 (some .int) RX6 0 := ⟨ki_X6_atom2, kv_X6_atom2, kn_X6, kc_X6_atom2, by decide +kernel⟩
def tbX6_term2 : List (Nat × Instr × Nat) := [(0, .aload_n 0, 1), (1, .invokevirtual 294, 3), (4, .istore_n 1, 1), (5, .aload_n 0, 1), (6, .bipush 42, 2), (8, .invokevirtual 226, 3), (11, .ifCond .eq 17, 3), (14, .aload_n 0, 1), (15, .invokevirtual 201, 3), (18, .iload_n 1, 1), (19, .aload_n 0, 1), (20, .invokevirtual 294, 3), (23, .imul, 1), (24, .istore_n 1, 1), (25, .goto (-20), 3), (28, .iload_n 1, 1), (29, .ireturn, 1)]
theorem tdX6_term2 : tbX6_term2.all (fun q => decide (decode cX6_term2 q.1 = .ok q.2)) = true := by decide +kernel
def pX6_term2_23 (kR5 : OS × Int32 → Int32 × OS) (σ : OS) (b0_ : Int32) (b1_ : Int32) : Int32 × OS := kR5 (σ, b1_ * b0_)
def oX6_term2_23 (kO5 : OS × Int32 → Prop) (σ : OS) (b0_ : Int32) (b1_ : Int32) : Prop := kO5 (σ, b1_ * b0_)
set_option maxHeartbeats 4000000 in
set_option maxRecDepth 100000 in
theorem wX6_term2_23 {X : CX} {cy : Nat → ClassId} {q : Nat → Nat} {D : va_G} {A : Nat → Prop} {res : Int32 × OS} (σ : OS) (b0_ : Int32) (b1_ : Int32) (C : Cx X cX6_term2 RX6 2 D (gty cy) A 23 0 0) (hR : Rt X (some .int) D (gty cy) A 0 0 (eI (wX6 cy q res.2) res.1)) (kR5 : OS × Int32 → Int32 × OS) (kO5 : OS × Int32 → Prop) (hk5 : ∀ z, kO5 z → kR5 z = res → At X D A 2 0 0 5 [(0, .ref (q 41)), (1, .int z.2)] [] (wX6 cy q z.1)) (ok : oX6_term2_23 kO5 σ b0_ b1_) (h : pX6_term2_23 kR5 σ b0_ b1_ = res) : At X D A 2 0 0 23 [(0, .ref (q 41))] [.int b0_, .int b1_] (wX6 cy q σ) := by
  unfold pX6_term2_23 at h
  unfold oX6_term2_23 at ok
  refine r_imul C (dall tdX6_term2 12 rfl) ?_
  refine r_istore_n (lv' := [(1, .int (b1_ * b0_)), (0, .ref (q 41))]) C (dall tdX6_term2 13 rfl) (by decide) rfl ?_
  refine r_goto (tgt := 5) C (dall tdX6_term2 14 rfl) (by decide) ?_
  refine r_pick [1, 0] rfl ?_
  exact hk5 (σ, b1_ * b0_) ok h
def pX6_term2_18 (kR5 : OS × Int32 → Int32 × OS) (σ : OS) (a1_ : Int32) : Int32 × OS := pX6_term2_23 kR5 ((fX6_atom2 σ ).2) ((fX6_atom2 σ ).1) a1_
def oX6_term2_18 (kO5 : OS × Int32 → Prop) (σ : OS) (a1_ : Int32) : Prop := (gX6_atom2 σ ) ∧ (oX6_term2_23 kO5 ((fX6_atom2 σ ).2) ((fX6_atom2 σ ).1) a1_)
set_option maxHeartbeats 4000000 in
set_option maxRecDepth 100000 in
theorem wX6_term2_18 {X : CX} {cy : Nat → ClassId} {q : Nat → Nat} {D : va_G} {A : Nat → Prop} {res : Int32 × OS} (σ : OS) (a1_ : Int32) (C : Cx X cX6_term2 RX6 2 D (gty cy) A 23 0 0) (hR : Rt X (some .int) D (gty cy) A 0 0 (eI (wX6 cy q res.2) res.1)) (kR5 : OS × Int32 → Int32 × OS) (kO5 : OS × Int32 → Prop) (hk5 : ∀ z, kO5 z → kR5 z = res → At X D A 2 0 0 5 [(0, .ref (q 41)), (1, .int z.2)] [] (wX6 cy q z.1)) (ok : oX6_term2_18 kO5 σ a1_) (h : pX6_term2_18 kR5 σ a1_ = res) : At X D A 2 0 0 18 [(0, .ref (q 41)), (1, .int a1_)] [] (wX6 cy q σ) := by
  unfold pX6_term2_18 at h
  unfold oX6_term2_18 at ok
  refine r_iload_n C 1 (dall tdX6_term2 9 rfl) rfl ?_
  refine r_aload_n C 0 (dall tdX6_term2 10 rfl) rfl ?_
  obtain ⟨o1, ok⟩ := ok
  refine r_vI (as := []) C (zX6_atom2 cy q σ  o1) mv_X6_atom2 km_X6_294 (by decide) (by decide) ⟨Nat.le_refl _, Nat.le_refl _⟩ rfl rfl rfl rfl (Nat.le_of_ble_eq_true rfl) (dall tdX6_term2 11 rfl) ?_
  refine r_pick [0] rfl ?_
  exact wX6_term2_23 ((fX6_atom2 σ ).2) ((fX6_atom2 σ ).1) a1_ C hR kR5 kO5 hk5 ok h
def bX6_term2_5   (kR5 : OS × Int32 → Int32 × OS) (v : OS × Int32) : Int32 × OS := if (fX6_isSign v.1 42) = 0 then (v.2, v.1) else pX6_term2_18 kR5 (fX6_next v.1) v.2
def kX6_term2_5   (kO5 : OS × Int32 → Prop) (v : OS × Int32) : Prop := ((fX6_isSign v.1 42) = 0 → True) ∧ (¬ ((fX6_isSign v.1 42) = 0) → (gX6_next v.1 ) ∧ (oX6_term2_18 kO5 (fX6_next v.1) v.2))
set_option maxHeartbeats 4000000 in
set_option maxRecDepth 100000 in
theorem wX6_term2_5 {X : CX} {cy : Nat → ClassId} {q : Nat → Nat} {D : va_G} {A : Nat → Prop} {res : Int32 × OS}  (C : Cx X cX6_term2 RX6 2 D (gty cy) A 23 0 0) (hR : Rt X (some .int) D (gty cy) A 0 0 (eI (wX6 cy q res.2) res.1)) (kR5 : OS × Int32 → Int32 × OS) (kO5 : OS × Int32 → Prop) (hk5 : ∀ z, kO5 z → kR5 z = res → At X D A 2 0 0 5 [(0, .ref (q 41)), (1, .int z.2)] [] (wX6 cy q z.1)) (v : OS × Int32) (ok : kX6_term2_5  kO5 v) (h : bX6_term2_5  kR5 v = res) : At X D A 2 0 0 5 [(0, .ref (q 41)), (1, .int v.2)] [] (wX6 cy q v.1) := by
  unfold bX6_term2_5 at h
  unfold kX6_term2_5 at ok
  refine r_aload_n C 0 (dall tdX6_term2 3 rfl) rfl ?_
  refine r_bipush (v := 42) C (dall tdX6_term2 4 rfl) (by decide) ?_
  refine r_vI (as := [.int 42]) C (zX6_isSign cy q v.1 42 ) mv_X6_isSign km_X6_226 (by decide) (by decide) ⟨Nat.le_refl _, Nat.le_refl _⟩ rfl rfl rfl rfl (Nat.le_of_ble_eq_true rfl) (dall tdX6_term2 5 rfl) ?_
  refine r_if_eq (tgt := 28) C (dall tdX6_term2 6 rfl) (by decide) (fun c2 => ?_) (fun c2 => ?_)
  · have h := (if_pos c2).symm.trans h
    have ok := ok.1 c2
    refine r_iload_n C 1 (dall tdX6_term2 15 rfl) rfl ?_
    exact r_iret C hR (dall tdX6_term2 16 rfl) (by subst h; exact ⟨rfl, rfl⟩)
  · have h := (if_neg c2).symm.trans h
    have ok := ok.2 c2
    refine r_aload_n C 0 (dall tdX6_term2 7 rfl) rfl ?_
    obtain ⟨o3, ok⟩ := ok
    refine r_vV (as := []) C (zX6_next cy q v.1  o3) mv_X6_next km_X6_201 (by decide) (by decide) ⟨Nat.le_refl _, Nat.le_refl _⟩ rfl rfl rfl rfl (Nat.le_of_ble_eq_true rfl) (dall tdX6_term2 8 rfl) ?_
    exact wX6_term2_18 (fX6_next v.1) v.2 C hR kR5 kO5 hk5 ok h
set_option maxHeartbeats 4000000 in
set_option maxRecDepth 100000 in
theorem lX6_term2_5 {X : CX} {cy : Nat → ClassId} {q : Nat → Nat} {D : va_G} {A : Nat → Prop} {res : Int32 × OS}  (C : Cx X cX6_term2 RX6 2 D (gty cy) A 23 0 0) (hR : Rt X (some .int) D (gty cy) A 0 0 (eI (wX6 cy q res.2) res.1))  (n : Nat) (v : OS × Int32) (ok : lpOk (kX6_term2_5  ) n v) (h : lp (0, o0) (bX6_term2_5  ) n v = res) : At X D A 2 0 0 5 [(0, .ref (q 41)), (1, .int v.2)] [] (wX6 cy q v.1) :=
  lp_rule (fun v rr_ => rr_ = res → At X D A 2 0 0 5 [(0, .ref (q 41)), (1, .int v.2)] [] (wX6 cy q v.1)) (fun kR kO hk v ok h => wX6_term2_5  C hR  kR kO hk v ok h) n v ok h
def pX6_term2_4  (σ : OS) (b0_ : Int32) : Int32 × OS := lp (0, o0) (bX6_term2_5  ) fu (σ, b0_)
def oX6_term2_4  (σ : OS) (b0_ : Int32) : Prop := lpOk (kX6_term2_5  ) fu (σ, b0_)
set_option maxHeartbeats 4000000 in
set_option maxRecDepth 100000 in
theorem wX6_term2_4 {X : CX} {cy : Nat → ClassId} {q : Nat → Nat} {D : va_G} {A : Nat → Prop} {res : Int32 × OS} (σ : OS) (b0_ : Int32) (C : Cx X cX6_term2 RX6 2 D (gty cy) A 23 0 0) (hR : Rt X (some .int) D (gty cy) A 0 0 (eI (wX6 cy q res.2) res.1))  (ok : oX6_term2_4  σ b0_) (h : pX6_term2_4  σ b0_ = res) : At X D A 2 0 0 4 [(0, .ref (q 41))] [.int b0_] (wX6 cy q σ) := by
  unfold pX6_term2_4 at h
  unfold oX6_term2_4 at ok
  refine r_istore_n (lv' := [(1, .int b0_), (0, .ref (q 41))]) C (dall tdX6_term2 2 rfl) (by decide) rfl ?_
  refine r_pick [1, 0] rfl ?_
  exact lX6_term2_5  C hR  fu _ ok h
def pX6_term2_0  (σ : OS) : Int32 × OS := pX6_term2_4  ((fX6_atom2 σ ).2) ((fX6_atom2 σ ).1)
def oX6_term2_0  (σ : OS) : Prop := (gX6_atom2 σ ) ∧ (oX6_term2_4  ((fX6_atom2 σ ).2) ((fX6_atom2 σ ).1))
set_option maxHeartbeats 4000000 in
set_option maxRecDepth 100000 in
theorem wX6_term2_0 {X : CX} {cy : Nat → ClassId} {q : Nat → Nat} {D : va_G} {A : Nat → Prop} {res : Int32 × OS} (σ : OS) (C : Cx X cX6_term2 RX6 2 D (gty cy) A 23 0 0) (hR : Rt X (some .int) D (gty cy) A 0 0 (eI (wX6 cy q res.2) res.1))  (ok : oX6_term2_0  σ) (h : pX6_term2_0  σ = res) : At X D A 2 0 0 0 [(0, .ref (q 41))] [] (wX6 cy q σ) := by
  unfold pX6_term2_0 at h
  unfold oX6_term2_0 at ok
  refine r_aload_n C 0 (dall tdX6_term2 0 rfl) rfl ?_
  obtain ⟨o4, ok⟩ := ok
  refine r_vI (as := []) C (zX6_atom2 cy q σ  o4) mv_X6_atom2 km_X6_294 (by decide) (by decide) ⟨Nat.le_refl _, Nat.le_refl _⟩ rfl rfl rfl rfl (Nat.le_of_ble_eq_true rfl) (dall tdX6_term2 1 rfl) ?_
  exact wX6_term2_4 ((fX6_atom2 σ ).2) ((fX6_atom2 σ ).1) C hR  ok h
def fX6_term2 (σ : OS) : Int32 × OS := pX6_term2_0  σ
def gX6_term2 (σ : OS) : Prop := oX6_term2_0  σ
set_option maxRecDepth 100000 in
theorem zX6_term2 (cy : Nat → ClassId) (q : Nat → Nat)  {D : va_G} (σ : OS) (ok : gX6_term2 σ )  : Con yX6_term2 cX6_term2 2 (some .int) 23 0 0 D (gty cy) [.ref (q 41)] (wX6 cy q σ) (eI (wX6 cy q (fX6_term2 σ ).2) (fX6_term2 σ ).1) :=
  Con.of (own := RX6) (by decide +kernel) rfl (Nat.le_of_ble_eq_true rfl) (Nat.zero_le _) (fun X A C hR _ => (wX6_term2_0 σ C hR  ok rfl))
theorem mv_X6_term2 : MV yX6_term2 cX6_term2 2 (some .int) RX6 0 := ⟨ki_X6_term2, kv_X6_term2, kn_X6, kc_X6_term2, by decide +kernel⟩
def tbX6_added2 : List (Nat × Instr × Nat) := [(0, .aload_n 0, 1), (1, .invokevirtual 297, 3), (4, .istore_n 1, 1), (5, .aload_n 0, 1), (6, .bipush 43, 2), (8, .invokevirtual 226, 3), (11, .ifCond .ne 12, 3), (14, .aload_n 0, 1), (15, .bipush 45, 2), (17, .invokevirtual 226, 3), (20, .ifCond .eq 46, 3), (23, .aload_n 0, 1), (24, .getfield 179, 3), (27, .ldc2_w 242, 3), (30, .lcmp, 1), (31, .ifCond .ne 7, 3), (34, .iconst 1, 1), (35, .goto 4, 3), (38, .iconst 0, 1), (39, .istore_n 2, 1), (40, .aload_n 0, 1), (41, .invokevirtual 201, 3), (44, .aload_n 0, 1), (45, .invokevirtual 297, 3), (48, .istore_n 3, 1), (49, .iload_n 2, 1), (50, .ifCond .eq 9, 3), (53, .iload_n 1, 1), (54, .iload_n 3, 1), (55, .iadd, 1), (56, .goto 6, 3), (59, .iload_n 1, 1), (60, .iload_n 3, 1), (61, .isub, 1), (62, .istore_n 1, 1), (63, .goto (-58), 3), (66, .iload_n 1, 1), (67, .ireturn, 1)]
theorem tdX6_added2 : tbX6_added2.all (fun q => decide (decode cX6_added2 q.1 = .ok q.2)) = true := by decide +kernel
def pX6_added2_62 (kR5 : OS × Int32 → Int32 × OS) (σ : OS) (b0_ : Int32) : Int32 × OS := kR5 (σ, b0_)
def oX6_added2_62 (kO5 : OS × Int32 → Prop) (σ : OS) (b0_ : Int32) : Prop := kO5 (σ, b0_)
set_option maxHeartbeats 4000000 in
set_option maxRecDepth 100000 in
theorem wX6_added2_62 {X : CX} {cy : Nat → ClassId} {q : Nat → Nat} {D : va_G} {A : Nat → Prop} {res : Int32 × OS} (σ : OS) (b0_ : Int32) (C : Cx X cX6_added2 RX6 4 D (gty cy) A 24 0 0) (hR : Rt X (some .int) D (gty cy) A 0 0 (eI (wX6 cy q res.2) res.1)) (kR5 : OS × Int32 → Int32 × OS) (kO5 : OS × Int32 → Prop) (hk5 : ∀ z, kO5 z → kR5 z = res → At X D A 4 0 0 5 [(0, .ref (q 41)), (1, .int z.2)] [] (wX6 cy q z.1)) (ok : oX6_added2_62 kO5 σ b0_) (h : pX6_added2_62 kR5 σ b0_ = res) : At X D A 4 0 0 62 [(0, .ref (q 41))] [.int b0_] (wX6 cy q σ) := by
  unfold pX6_added2_62 at h
  unfold oX6_added2_62 at ok
  refine r_istore_n (lv' := [(1, .int b0_), (0, .ref (q 41))]) C (dall tdX6_added2 34 rfl) (by decide) rfl ?_
  refine r_goto (tgt := 5) C (dall tdX6_added2 35 rfl) (by decide) ?_
  refine r_pick [1, 0] rfl ?_
  exact hk5 (σ, b0_) ok h
def pX6_added2_48 (kR5 : OS × Int32 → Int32 × OS) (σ : OS) (a1_ : Int32) (a2_ : Int32) (b0_ : Int32) : Int32 × OS := if a2_ = 0 then pX6_added2_62 kR5 σ (a1_ - b0_) else pX6_added2_62 kR5 σ (a1_ + b0_)
def oX6_added2_48 (kO5 : OS × Int32 → Prop) (σ : OS) (a1_ : Int32) (a2_ : Int32) (b0_ : Int32) : Prop := (a2_ = 0 → oX6_added2_62 kO5 σ (a1_ - b0_)) ∧ (¬ (a2_ = 0) → oX6_added2_62 kO5 σ (a1_ + b0_))
set_option maxHeartbeats 4000000 in
set_option maxRecDepth 100000 in
theorem wX6_added2_48 {X : CX} {cy : Nat → ClassId} {q : Nat → Nat} {D : va_G} {A : Nat → Prop} {res : Int32 × OS} (σ : OS) (a1_ : Int32) (a2_ : Int32) (b0_ : Int32) (C : Cx X cX6_added2 RX6 4 D (gty cy) A 24 0 0) (hR : Rt X (some .int) D (gty cy) A 0 0 (eI (wX6 cy q res.2) res.1)) (kR5 : OS × Int32 → Int32 × OS) (kO5 : OS × Int32 → Prop) (hk5 : ∀ z, kO5 z → kR5 z = res → At X D A 4 0 0 5 [(0, .ref (q 41)), (1, .int z.2)] [] (wX6 cy q z.1)) (ok : oX6_added2_48 kO5 σ a1_ a2_ b0_) (h : pX6_added2_48 kR5 σ a1_ a2_ b0_ = res) : At X D A 4 0 0 48 [(0, .ref (q 41)), (1, .int a1_), (2, .int a2_)] [.int b0_] (wX6 cy q σ) := by
  unfold pX6_added2_48 at h
  unfold oX6_added2_48 at ok
  refine r_istore_n (lv' := [(3, .int b0_), (0, .ref (q 41)), (1, .int a1_), (2, .int a2_)]) C (dall tdX6_added2 24 rfl) (by decide) rfl ?_
  refine r_iload_n C 3 (dall tdX6_added2 25 rfl) rfl ?_
  refine r_if_eq (tgt := 59) C (dall tdX6_added2 26 rfl) (by decide) (fun c1 => ?_) (fun c1 => ?_)
  · have h := (if_pos c1).symm.trans h
    have ok := ok.1 c1
    refine r_iload_n C 2 (dall tdX6_added2 31 rfl) rfl ?_
    refine r_iload_n C 0 (dall tdX6_added2 32 rfl) rfl ?_
    refine r_isub C (dall tdX6_added2 33 rfl) ?_
    refine r_pick [1] rfl ?_
    exact wX6_added2_62 σ (a1_ - b0_) C hR kR5 kO5 hk5 ok h
  · have h := (if_neg c1).symm.trans h
    have ok := ok.2 c1
    refine r_iload_n C 2 (dall tdX6_added2 27 rfl) rfl ?_
    refine r_iload_n C 0 (dall tdX6_added2 28 rfl) rfl ?_
    refine r_iadd C (dall tdX6_added2 29 rfl) ?_
    refine r_goto (tgt := 62) C (dall tdX6_added2 30 rfl) (by decide) ?_
    refine r_pick [1] rfl ?_
    exact wX6_added2_62 σ (a1_ + b0_) C hR kR5 kO5 hk5 ok h
def pX6_added2_44 (kR5 : OS × Int32 → Int32 × OS) (σ : OS) (a1_ : Int32) (a2_ : Int32) : Int32 × OS := pX6_added2_48 kR5 ((fX6_term2 σ ).2) a1_ a2_ ((fX6_term2 σ ).1)
def oX6_added2_44 (kO5 : OS × Int32 → Prop) (σ : OS) (a1_ : Int32) (a2_ : Int32) : Prop := (gX6_term2 σ ) ∧ (oX6_added2_48 kO5 ((fX6_term2 σ ).2) a1_ a2_ ((fX6_term2 σ ).1))
set_option maxHeartbeats 4000000 in
set_option maxRecDepth 100000 in
theorem wX6_added2_44 {X : CX} {cy : Nat → ClassId} {q : Nat → Nat} {D : va_G} {A : Nat → Prop} {res : Int32 × OS} (σ : OS) (a1_ : Int32) (a2_ : Int32) (C : Cx X cX6_added2 RX6 4 D (gty cy) A 24 0 0) (hR : Rt X (some .int) D (gty cy) A 0 0 (eI (wX6 cy q res.2) res.1)) (kR5 : OS × Int32 → Int32 × OS) (kO5 : OS × Int32 → Prop) (hk5 : ∀ z, kO5 z → kR5 z = res → At X D A 4 0 0 5 [(0, .ref (q 41)), (1, .int z.2)] [] (wX6 cy q z.1)) (ok : oX6_added2_44 kO5 σ a1_ a2_) (h : pX6_added2_44 kR5 σ a1_ a2_ = res) : At X D A 4 0 0 44 [(0, .ref (q 41)), (1, .int a1_), (2, .int a2_)] [] (wX6 cy q σ) := by
  unfold pX6_added2_44 at h
  unfold oX6_added2_44 at ok
  refine r_aload_n C 0 (dall tdX6_added2 22 rfl) rfl ?_
  obtain ⟨o2, ok⟩ := ok
  refine r_vI (as := []) C (zX6_term2 cy q σ  o2) mv_X6_term2 km_X6_297 (by decide) (by decide) ⟨Nat.le_refl _, Nat.le_refl _⟩ rfl rfl rfl rfl (Nat.le_of_ble_eq_true rfl) (dall tdX6_added2 23 rfl) ?_
  exact wX6_added2_48 ((fX6_term2 σ ).2) a1_ a2_ ((fX6_term2 σ ).1) C hR kR5 kO5 hk5 ok h
def pX6_added2_39 (kR5 : OS × Int32 → Int32 × OS) (σ : OS) (a1_ : Int32) (b0_ : Int32) : Int32 × OS := pX6_added2_44 kR5 (fX6_next σ) a1_ b0_
def oX6_added2_39 (kO5 : OS × Int32 → Prop) (σ : OS) (a1_ : Int32) (b0_ : Int32) : Prop := (gX6_next σ ) ∧ (oX6_added2_44 kO5 (fX6_next σ) a1_ b0_)
set_option maxHeartbeats 4000000 in
set_option maxRecDepth 100000 in
theorem wX6_added2_39 {X : CX} {cy : Nat → ClassId} {q : Nat → Nat} {D : va_G} {A : Nat → Prop} {res : Int32 × OS} (σ : OS) (a1_ : Int32) (b0_ : Int32) (C : Cx X cX6_added2 RX6 4 D (gty cy) A 24 0 0) (hR : Rt X (some .int) D (gty cy) A 0 0 (eI (wX6 cy q res.2) res.1)) (kR5 : OS × Int32 → Int32 × OS) (kO5 : OS × Int32 → Prop) (hk5 : ∀ z, kO5 z → kR5 z = res → At X D A 4 0 0 5 [(0, .ref (q 41)), (1, .int z.2)] [] (wX6 cy q z.1)) (ok : oX6_added2_39 kO5 σ a1_ b0_) (h : pX6_added2_39 kR5 σ a1_ b0_ = res) : At X D A 4 0 0 39 [(0, .ref (q 41)), (1, .int a1_)] [.int b0_] (wX6 cy q σ) := by
  unfold pX6_added2_39 at h
  unfold oX6_added2_39 at ok
  refine r_istore_n (lv' := [(2, .int b0_), (0, .ref (q 41)), (1, .int a1_)]) C (dall tdX6_added2 19 rfl) (by decide) rfl ?_
  refine r_aload_n C 1 (dall tdX6_added2 20 rfl) rfl ?_
  obtain ⟨o3, ok⟩ := ok
  refine r_vV (as := []) C (zX6_next cy q σ  o3) mv_X6_next km_X6_201 (by decide) (by decide) ⟨Nat.le_refl _, Nat.le_refl _⟩ rfl rfl rfl rfl (Nat.le_of_ble_eq_true rfl) (dall tdX6_added2 21 rfl) ?_
  refine r_pick [1, 2, 0] rfl ?_
  exact wX6_added2_44 (fX6_next σ) a1_ b0_ C hR kR5 kO5 hk5 ok h
def pX6_added2_23 (kR5 : OS × Int32 → Int32 × OS) (σ : OS) (a1_ : Int32) : Int32 × OS := if (σ.2.1 24) = (43) then pX6_added2_39 kR5 σ a1_ 1 else pX6_added2_39 kR5 σ a1_ 0
def oX6_added2_23 (kO5 : OS × Int32 → Prop) (σ : OS) (a1_ : Int32) : Prop := ((σ.2.1 24) = (43) → oX6_added2_39 kO5 σ a1_ 1) ∧ (¬ ((σ.2.1 24) = (43)) → oX6_added2_39 kO5 σ a1_ 0)
set_option maxHeartbeats 4000000 in
set_option maxRecDepth 100000 in
theorem wX6_added2_23 {X : CX} {cy : Nat → ClassId} {q : Nat → Nat} {D : va_G} {A : Nat → Prop} {res : Int32 × OS} (σ : OS) (a1_ : Int32) (C : Cx X cX6_added2 RX6 4 D (gty cy) A 24 0 0) (hR : Rt X (some .int) D (gty cy) A 0 0 (eI (wX6 cy q res.2) res.1)) (kR5 : OS × Int32 → Int32 × OS) (kO5 : OS × Int32 → Prop) (hk5 : ∀ z, kO5 z → kR5 z = res → At X D A 4 0 0 5 [(0, .ref (q 41)), (1, .int z.2)] [] (wX6 cy q z.1)) (ok : oX6_added2_23 kO5 σ a1_) (h : pX6_added2_23 kR5 σ a1_ = res) : At X D A 4 0 0 23 [(0, .ref (q 41)), (1, .int a1_)] [] (wX6 cy q σ) := by
  unfold pX6_added2_23 at h
  unfold oX6_added2_23 at ok
  refine r_aload_n C 0 (dall tdX6_added2 11 rfl) rfl ?_
  refine r_get C 0 kw_X6 rfl rfl (by decide) kf_X6_179 rfl rfl (dall tdX6_added2 12 rfl) ?_
  refine r_ldc2 C kk_X6_242 (dall tdX6_added2 13 rfl) ?_
  refine r_lif_ne (tgt := 38) C (dall tdX6_added2 14 rfl) (dall tdX6_added2 15 rfl) (by decide) (fun c4 => ?_) (fun c4 => ?_)
  · have h := (if_neg c4).symm.trans h
    have ok := ok.2 c4
    refine r_iconst (v := 0) C (dall tdX6_added2 18 rfl) (by decide) ?_
    exact wX6_added2_39 σ a1_ 0 C hR kR5 kO5 hk5 ok h
  · have h := (if_pos c4).symm.trans h
    have ok := ok.1 c4
    refine r_iconst (v := 1) C (dall tdX6_added2 16 rfl) (by decide) ?_
    refine r_goto (tgt := 39) C (dall tdX6_added2 17 rfl) (by decide) ?_
    exact wX6_added2_39 σ a1_ 1 C hR kR5 kO5 hk5 ok h
def bX6_added2_5   (kR5 : OS × Int32 → Int32 × OS) (v : OS × Int32) : Int32 × OS := if (fX6_isSign v.1 43) = 0 then if (fX6_isSign v.1 45) = 0 then (v.2, v.1) else pX6_added2_23 kR5 v.1 v.2 else pX6_added2_23 kR5 v.1 v.2
def kX6_added2_5   (kO5 : OS × Int32 → Prop) (v : OS × Int32) : Prop := ((fX6_isSign v.1 43) = 0 → ((fX6_isSign v.1 45) = 0 → True) ∧ (¬ ((fX6_isSign v.1 45) = 0) → oX6_added2_23 kO5 v.1 v.2)) ∧ (¬ ((fX6_isSign v.1 43) = 0) → oX6_added2_23 kO5 v.1 v.2)
set_option maxHeartbeats 4000000 in
set_option maxRecDepth 100000 in
theorem wX6_added2_5 {X : CX} {cy : Nat → ClassId} {q : Nat → Nat} {D : va_G} {A : Nat → Prop} {res : Int32 × OS}  (C : Cx X cX6_added2 RX6 4 D (gty cy) A 24 0 0) (hR : Rt X (some .int) D (gty cy) A 0 0 (eI (wX6 cy q res.2) res.1)) (kR5 : OS × Int32 → Int32 × OS) (kO5 : OS × Int32 → Prop) (hk5 : ∀ z, kO5 z → kR5 z = res → At X D A 4 0 0 5 [(0, .ref (q 41)), (1, .int z.2)] [] (wX6 cy q z.1)) (v : OS × Int32) (ok : kX6_added2_5  kO5 v) (h : bX6_added2_5  kR5 v = res) : At X D A 4 0 0 5 [(0, .ref (q 41)), (1, .int v.2)] [] (wX6 cy q v.1) := by
  unfold bX6_added2_5 at h
  unfold kX6_added2_5 at ok
  refine r_aload_n C 0 (dall tdX6_added2 3 rfl) rfl ?_
  refine r_bipush (v := 43) C (dall tdX6_added2 4 rfl) (by decide) ?_
  refine r_vI (as := [.int 43]) C (zX6_isSign cy q v.1 43 ) mv_X6_isSign km_X6_226 (by decide) (by decide) ⟨Nat.le_refl _, Nat.le_refl _⟩ rfl rfl rfl rfl (Nat.le_of_ble_eq_true rfl) (dall tdX6_added2 5 rfl) ?_
  refine r_if_ne (tgt := 23) C (dall tdX6_added2 6 rfl) (by decide) (fun c5 => ?_) (fun c5 => ?_)
  · have h := (if_neg c5).symm.trans h
    have ok := ok.2 c5
    exact wX6_added2_23 v.1 v.2 C hR kR5 kO5 hk5 ok h
  · have h := (if_pos c5).symm.trans h
    have ok := ok.1 c5
    refine r_aload_n C 0 (dall tdX6_added2 7 rfl) rfl ?_
    refine r_bipush (v := 45) C (dall tdX6_added2 8 rfl) (by decide) ?_
    refine r_vI (as := [.int 45]) C (zX6_isSign cy q v.1 45 ) mv_X6_isSign km_X6_226 (by decide) (by decide) ⟨Nat.le_refl _, Nat.le_refl _⟩ rfl rfl rfl rfl (Nat.le_of_ble_eq_true rfl) (dall tdX6_added2 9 rfl) ?_
    refine r_if_eq (tgt := 66) C (dall tdX6_added2 10 rfl) (by decide) (fun c6 => ?_) (fun c6 => ?_)
    · have h := (if_pos c6).symm.trans h
      have ok := ok.1 c6
      refine r_iload_n C 1 (dall tdX6_added2 36 rfl) rfl ?_
      exact r_iret C hR (dall tdX6_added2 37 rfl) (by subst h; exact ⟨rfl, rfl⟩)
    · have h := (if_neg c6).symm.trans h
      have ok := ok.2 c6
      exact wX6_added2_23 v.1 v.2 C hR kR5 kO5 hk5 ok h
set_option maxHeartbeats 4000000 in
set_option maxRecDepth 100000 in
theorem lX6_added2_5 {X : CX} {cy : Nat → ClassId} {q : Nat → Nat} {D : va_G} {A : Nat → Prop} {res : Int32 × OS}  (C : Cx X cX6_added2 RX6 4 D (gty cy) A 24 0 0) (hR : Rt X (some .int) D (gty cy) A 0 0 (eI (wX6 cy q res.2) res.1))  (n : Nat) (v : OS × Int32) (ok : lpOk (kX6_added2_5  ) n v) (h : lp (0, o0) (bX6_added2_5  ) n v = res) : At X D A 4 0 0 5 [(0, .ref (q 41)), (1, .int v.2)] [] (wX6 cy q v.1) :=
  lp_rule (fun v rr_ => rr_ = res → At X D A 4 0 0 5 [(0, .ref (q 41)), (1, .int v.2)] [] (wX6 cy q v.1)) (fun kR kO hk v ok h => wX6_added2_5  C hR  kR kO hk v ok h) n v ok h
def pX6_added2_4  (σ : OS) (b0_ : Int32) : Int32 × OS := lp (0, o0) (bX6_added2_5  ) fu (σ, b0_)
def oX6_added2_4  (σ : OS) (b0_ : Int32) : Prop := lpOk (kX6_added2_5  ) fu (σ, b0_)
set_option maxHeartbeats 4000000 in
set_option maxRecDepth 100000 in
theorem wX6_added2_4 {X : CX} {cy : Nat → ClassId} {q : Nat → Nat} {D : va_G} {A : Nat → Prop} {res : Int32 × OS} (σ : OS) (b0_ : Int32) (C : Cx X cX6_added2 RX6 4 D (gty cy) A 24 0 0) (hR : Rt X (some .int) D (gty cy) A 0 0 (eI (wX6 cy q res.2) res.1))  (ok : oX6_added2_4  σ b0_) (h : pX6_added2_4  σ b0_ = res) : At X D A 4 0 0 4 [(0, .ref (q 41))] [.int b0_] (wX6 cy q σ) := by
  unfold pX6_added2_4 at h
  unfold oX6_added2_4 at ok
  refine r_istore_n (lv' := [(1, .int b0_), (0, .ref (q 41))]) C (dall tdX6_added2 2 rfl) (by decide) rfl ?_
  refine r_pick [1, 0] rfl ?_
  exact lX6_added2_5  C hR  fu _ ok h
def pX6_added2_0  (σ : OS) : Int32 × OS := pX6_added2_4  ((fX6_term2 σ ).2) ((fX6_term2 σ ).1)
def oX6_added2_0  (σ : OS) : Prop := (gX6_term2 σ ) ∧ (oX6_added2_4  ((fX6_term2 σ ).2) ((fX6_term2 σ ).1))
set_option maxHeartbeats 4000000 in
set_option maxRecDepth 100000 in
theorem wX6_added2_0 {X : CX} {cy : Nat → ClassId} {q : Nat → Nat} {D : va_G} {A : Nat → Prop} {res : Int32 × OS} (σ : OS) (C : Cx X cX6_added2 RX6 4 D (gty cy) A 24 0 0) (hR : Rt X (some .int) D (gty cy) A 0 0 (eI (wX6 cy q res.2) res.1))  (ok : oX6_added2_0  σ) (h : pX6_added2_0  σ = res) : At X D A 4 0 0 0 [(0, .ref (q 41))] [] (wX6 cy q σ) := by
  unfold pX6_added2_0 at h
  unfold oX6_added2_0 at ok
  refine r_aload_n C 0 (dall tdX6_added2 0 rfl) rfl ?_
  obtain ⟨o7, ok⟩ := ok
  refine r_vI (as := []) C (zX6_term2 cy q σ  o7) mv_X6_term2 km_X6_297 (by decide) (by decide) ⟨Nat.le_refl _, Nat.le_refl _⟩ rfl rfl rfl rfl (Nat.le_of_ble_eq_true rfl) (dall tdX6_added2 1 rfl) ?_
  exact wX6_added2_4 ((fX6_term2 σ ).2) ((fX6_term2 σ ).1) C hR  ok h
def fX6_added2 (σ : OS) : Int32 × OS := pX6_added2_0  σ
def gX6_added2 (σ : OS) : Prop := oX6_added2_0  σ
set_option maxRecDepth 100000 in
theorem zX6_added2 (cy : Nat → ClassId) (q : Nat → Nat)  {D : va_G} (σ : OS) (ok : gX6_added2 σ )  : Con yX6_added2 cX6_added2 4 (some .int) 24 0 0 D (gty cy) [.ref (q 41)] (wX6 cy q σ) (eI (wX6 cy q (fX6_added2 σ ).2) (fX6_added2 σ ).1) :=
  Con.of (own := RX6) (by decide +kernel) rfl (Nat.le_of_ble_eq_true rfl) (Nat.zero_le _) (fun X A C hR _ => (wX6_added2_0 σ C hR  ok rfl))
theorem mv_X6_added2 : MV yX6_added2 cX6_added2 4 (some .int) RX6 0 := ⟨ki_X6_added2, kv_X6_added2, kn_X6, kc_X6_added2, by decide +kernel⟩
def tbX6_not2 : List (Nat × Instr × Nat) := [(0, .aload_n 0, 1), (1, .bipush 110, 2), (3, .bipush 111, 2), (5, .bipush 116, 2), (7, .iconst 0, 1), (8, .iconst 0, 1), (9, .iconst 0, 1), (10, .iconst 0, 1), (11, .iconst 0, 1), (12, .invokevirtual 204, 3), (15, .ifCond .eq 37, 3), (18, .aload_n 0, 1), (19, .invokevirtual 229, 3), (22, .ifCond .ne 5, 3), (25, .iconst 0, 1), (26, .ireturn, 1), (27, .aload_n 0, 1), (28, .invokevirtual 285, 3), (31, .istore_n 1, 1), (32, .aload_n 0, 1), (33, .dup, 1), (34, .getfield 195, 3), (37, .iconst 1, 1), (38, .isub, 1), (39, .putfield 195, 3), (42, .iload_n 1, 1), (43, .ifCond .ne 7, 3), (46, .iconst 1, 1), (47, .goto 4, 3), (50, .iconst 0, 1), (51, .ireturn, 1), (52, .aload_n 0, 1), (53, .invokevirtual 300, 3), (56, .istore_n 1, 1), (57, .aload_n 0, 1), (58, .bipush 60, 2), (60, .invokevirtual 226, 3), (63, .ifCond .ne 14, 3), (66, .aload_n 0, 1), (67, .bipush 61, 2), (69, .invokevirtual 226, 3), (72, .ifCond .ne 5, 3), (75, .iload_n 1, 1), (76, .ireturn, 1), (77, .aload_n 0, 1), (78, .getfield 179, 3), (81, .ldc2_w 247, 3), (84, .lcmp, 1), (85, .ifCond .ne 7, 3), (88, .iconst 1, 1), (89, .goto 4, 3), (92, .iconst 0, 1), (93, .istore_n 2, 1), (94, .aload_n 0, 1), (95, .invokevirtual 201, 3), (98, .aload_n 0, 1), (99, .invokevirtual 300, 3), (102, .istore_n 3, 1), (103, .iload_n 2, 1), (104, .ifCond .eq 11, 3), (107, .iload_n 1, 1), (108, .iload_n 3, 1), (109, .if_icmp .ge 15, 3), (112, .goto 8, 3), (115, .iload_n 1, 1), (116, .iload_n 3, 1), (117, .if_icmp .ne 7, 3), (120, .iconst 1, 1), (121, .goto 4, 3), (124, .iconst 0, 1), (125, .ireturn, 1)]
theorem tdX6_not2 : tbX6_not2.all (fun q => decide (decode cX6_not2 q.1 = .ok q.2)) = true := by decide +kernel
def pX6_not2_120  (σ : OS) : Int32 × OS := (1, σ)
set_option maxHeartbeats 4000000 in
set_option maxRecDepth 100000 in
theorem wX6_not2_120 {X : CX} {cy : Nat → ClassId} {q : Nat → Nat} {D : va_G} {A : Nat → Prop} {res : Int32 × OS} (σ : OS) (C : Cx X cX6_not2 RX6 4 D (gty cy) A 25 0 0) (hR : Rt X (some .int) D (gty cy) A 0 0 (eI (wX6 cy q res.2) res.1))  (h : pX6_not2_120  σ = res) : At X D A 4 0 0 120 [] [] (wX6 cy q σ) := by
  unfold pX6_not2_120 at h
  refine r_iconst (v := 1) C (dall tdX6_not2 67 rfl) (by decide) ?_
  refine r_goto (tgt := 125) C (dall tdX6_not2 68 rfl) (by decide) ?_
  exact r_iret C hR (dall tdX6_not2 70 rfl) (by subst h; exact ⟨rfl, rfl⟩)
def pX6_not2_102  (σ : OS) (a1_ : Int32) (a2_ : Int32) (b0_ : Int32) : Int32 × OS := if a2_ = 0 then if a1_ = b0_ then pX6_not2_120  σ else (0, σ) else if b0_ ≤ a1_ then (0, σ) else pX6_not2_120  σ
set_option maxHeartbeats 4000000 in
set_option maxRecDepth 100000 in
theorem wX6_not2_102 {X : CX} {cy : Nat → ClassId} {q : Nat → Nat} {D : va_G} {A : Nat → Prop} {res : Int32 × OS} (σ : OS) (a1_ : Int32) (a2_ : Int32) (b0_ : Int32) (C : Cx X cX6_not2 RX6 4 D (gty cy) A 25 0 0) (hR : Rt X (some .int) D (gty cy) A 0 0 (eI (wX6 cy q res.2) res.1))  (h : pX6_not2_102  σ a1_ a2_ b0_ = res) : At X D A 4 0 0 102 [(1, .int a1_), (2, .int a2_)] [.int b0_] (wX6 cy q σ) := by
  unfold pX6_not2_102 at h
  refine r_istore_n (lv' := [(3, .int b0_), (1, .int a1_), (2, .int a2_)]) C (dall tdX6_not2 57 rfl) (by decide) rfl ?_
  refine r_iload_n C 2 (dall tdX6_not2 58 rfl) rfl ?_
  refine r_if_eq (tgt := 115) C (dall tdX6_not2 59 rfl) (by decide) (fun c1 => ?_) (fun c1 => ?_)
  · have h := (if_pos c1).symm.trans h
    refine r_iload_n C 1 (dall tdX6_not2 64 rfl) rfl ?_
    refine r_iload_n C 0 (dall tdX6_not2 65 rfl) rfl ?_
    refine r_icmp_ne (tgt := 124) C (dall tdX6_not2 66 rfl) (by decide) (fun c2 => ?_) (fun c2 => ?_)
    · have h := (if_neg c2).symm.trans h
      refine r_iconst (v := 0) C (dall tdX6_not2 69 rfl) (by decide) ?_
      exact r_iret C hR (dall tdX6_not2 70 rfl) (by subst h; exact ⟨rfl, rfl⟩)
    · have h := (if_pos c2).symm.trans h
      refine r_pick [] rfl ?_
      exact wX6_not2_120 σ C hR  h
  · have h := (if_neg c1).symm.trans h
    refine r_iload_n C 1 (dall tdX6_not2 60 rfl) rfl ?_
    refine r_iload_n C 0 (dall tdX6_not2 61 rfl) rfl ?_
    refine r_icmp_ge (tgt := 124) C (dall tdX6_not2 62 rfl) (by decide) (fun c3 => ?_) (fun c3 => ?_)
    · have h := (if_pos c3).symm.trans h
      refine r_iconst (v := 0) C (dall tdX6_not2 69 rfl) (by decide) ?_
      exact r_iret C hR (dall tdX6_not2 70 rfl) (by subst h; exact ⟨rfl, rfl⟩)
    · have h := (if_neg c3).symm.trans h
      refine r_goto (tgt := 120) C (dall tdX6_not2 63 rfl) (by decide) ?_
      refine r_pick [] rfl ?_
      exact wX6_not2_120 σ C hR  h
def pX6_not2_98  (σ : OS) (a1_ : Int32) (a2_ : Int32) : Int32 × OS := pX6_not2_102  ((fX6_added2 σ ).2) a1_ a2_ ((fX6_added2 σ ).1)
def oX6_not2_98  (σ : OS) (a1_ : Int32) (a2_ : Int32) : Prop := gX6_added2 σ 
set_option maxHeartbeats 4000000 in
set_option maxRecDepth 100000 in
theorem wX6_not2_98 {X : CX} {cy : Nat → ClassId} {q : Nat → Nat} {D : va_G} {A : Nat → Prop} {res : Int32 × OS} (σ : OS) (a1_ : Int32) (a2_ : Int32) (C : Cx X cX6_not2 RX6 4 D (gty cy) A 25 0 0) (hR : Rt X (some .int) D (gty cy) A 0 0 (eI (wX6 cy q res.2) res.1))  (ok : oX6_not2_98  σ a1_ a2_) (h : pX6_not2_98  σ a1_ a2_ = res) : At X D A 4 0 0 98 [(0, .ref (q 41)), (1, .int a1_), (2, .int a2_)] [] (wX6 cy q σ) := by
  unfold pX6_not2_98 at h
  unfold oX6_not2_98 at ok
  refine r_aload_n C 0 (dall tdX6_not2 55 rfl) rfl ?_
  have o4 := ok
  refine r_vI (as := []) C (zX6_added2 cy q σ  o4) mv_X6_added2 km_X6_300 (by decide) (by decide) ⟨Nat.le_refl _, Nat.le_refl _⟩ rfl rfl rfl rfl (Nat.le_of_ble_eq_true rfl) (dall tdX6_not2 56 rfl) ?_
  refine r_pick [1, 2] rfl ?_
  exact wX6_not2_102 ((fX6_added2 σ ).2) a1_ a2_ ((fX6_added2 σ ).1) C hR  h
def pX6_not2_93  (σ : OS) (a1_ : Int32) (b0_ : Int32) : Int32 × OS := pX6_not2_98  (fX6_next σ) a1_ b0_
def oX6_not2_93  (σ : OS) (a1_ : Int32) (b0_ : Int32) : Prop := (gX6_next σ ) ∧ (oX6_not2_98  (fX6_next σ) a1_ b0_)
set_option maxHeartbeats 4000000 in
set_option maxRecDepth 100000 in
theorem wX6_not2_93 {X : CX} {cy : Nat → ClassId} {q : Nat → Nat} {D : va_G} {A : Nat → Prop} {res : Int32 × OS} (σ : OS) (a1_ : Int32) (b0_ : Int32) (C : Cx X cX6_not2 RX6 4 D (gty cy) A 25 0 0) (hR : Rt X (some .int) D (gty cy) A 0 0 (eI (wX6 cy q res.2) res.1))  (ok : oX6_not2_93  σ a1_ b0_) (h : pX6_not2_93  σ a1_ b0_ = res) : At X D A 4 0 0 93 [(0, .ref (q 41)), (1, .int a1_)] [.int b0_] (wX6 cy q σ) := by
  unfold pX6_not2_93 at h
  unfold oX6_not2_93 at ok
  refine r_istore_n (lv' := [(2, .int b0_), (0, .ref (q 41)), (1, .int a1_)]) C (dall tdX6_not2 52 rfl) (by decide) rfl ?_
  refine r_aload_n C 1 (dall tdX6_not2 53 rfl) rfl ?_
  obtain ⟨o5, ok⟩ := ok
  refine r_vV (as := []) C (zX6_next cy q σ  o5) mv_X6_next km_X6_201 (by decide) (by decide) ⟨Nat.le_refl _, Nat.le_refl _⟩ rfl rfl rfl rfl (Nat.le_of_ble_eq_true rfl) (dall tdX6_not2 54 rfl) ?_
  refine r_pick [1, 2, 0] rfl ?_
  exact wX6_not2_98 (fX6_next σ) a1_ b0_ C hR  ok h
def pX6_not2_77  (σ : OS) (a1_ : Int32) : Int32 × OS := if (σ.2.1 24) = (60) then pX6_not2_93  σ a1_ 1 else pX6_not2_93  σ a1_ 0
def oX6_not2_77  (σ : OS) (a1_ : Int32) : Prop := ((σ.2.1 24) = (60) → oX6_not2_93  σ a1_ 1) ∧ (¬ ((σ.2.1 24) = (60)) → oX6_not2_93  σ a1_ 0)
set_option maxHeartbeats 4000000 in
set_option maxRecDepth 100000 in
theorem wX6_not2_77 {X : CX} {cy : Nat → ClassId} {q : Nat → Nat} {D : va_G} {A : Nat → Prop} {res : Int32 × OS} (σ : OS) (a1_ : Int32) (C : Cx X cX6_not2 RX6 4 D (gty cy) A 25 0 0) (hR : Rt X (some .int) D (gty cy) A 0 0 (eI (wX6 cy q res.2) res.1))  (ok : oX6_not2_77  σ a1_) (h : pX6_not2_77  σ a1_ = res) : At X D A 4 0 0 77 [(0, .ref (q 41)), (1, .int a1_)] [] (wX6 cy q σ) := by
  unfold pX6_not2_77 at h
  unfold oX6_not2_77 at ok
  refine r_aload_n C 0 (dall tdX6_not2 44 rfl) rfl ?_
  refine r_get C 0 kw_X6 rfl rfl (by decide) kf_X6_179 rfl rfl (dall tdX6_not2 45 rfl) ?_
  refine r_ldc2 C kk_X6_247 (dall tdX6_not2 46 rfl) ?_
  refine r_lif_ne (tgt := 92) C (dall tdX6_not2 47 rfl) (dall tdX6_not2 48 rfl) (by decide) (fun c6 => ?_) (fun c6 => ?_)
  · have h := (if_neg c6).symm.trans h
    have ok := ok.2 c6
    refine r_iconst (v := 0) C (dall tdX6_not2 51 rfl) (by decide) ?_
    exact wX6_not2_93 σ a1_ 0 C hR  ok h
  · have h := (if_pos c6).symm.trans h
    have ok := ok.1 c6
    refine r_iconst (v := 1) C (dall tdX6_not2 49 rfl) (by decide) ?_
    refine r_goto (tgt := 93) C (dall tdX6_not2 50 rfl) (by decide) ?_
    exact wX6_not2_93 σ a1_ 1 C hR  ok h
def pX6_not2_56  (σ : OS) (b0_ : Int32) : Int32 × OS := if (fX6_isSign σ 60) = 0 then if (fX6_isSign σ 61) = 0 then (b0_, σ) else pX6_not2_77  σ b0_ else pX6_not2_77  σ b0_
def oX6_not2_56  (σ : OS) (b0_ : Int32) : Prop := ((fX6_isSign σ 60) = 0 → ((fX6_isSign σ 61) = 0 → True) ∧ (¬ ((fX6_isSign σ 61) = 0) → oX6_not2_77  σ b0_)) ∧ (¬ ((fX6_isSign σ 60) = 0) → oX6_not2_77  σ b0_)
set_option maxHeartbeats 4000000 in
set_option maxRecDepth 100000 in
theorem wX6_not2_56 {X : CX} {cy : Nat → ClassId} {q : Nat → Nat} {D : va_G} {A : Nat → Prop} {res : Int32 × OS} (σ : OS) (b0_ : Int32) (C : Cx X cX6_not2 RX6 4 D (gty cy) A 25 0 0) (hR : Rt X (some .int) D (gty cy) A 0 0 (eI (wX6 cy q res.2) res.1))  (ok : oX6_not2_56  σ b0_) (h : pX6_not2_56  σ b0_ = res) : At X D A 4 0 0 56 [(0, .ref (q 41))] [.int b0_] (wX6 cy q σ) := by
  unfold pX6_not2_56 at h
  unfold oX6_not2_56 at ok
  refine r_istore_n (lv' := [(1, .int b0_), (0, .ref (q 41))]) C (dall tdX6_not2 33 rfl) (by decide) rfl ?_
  refine r_aload_n C 1 (dall tdX6_not2 34 rfl) rfl ?_
  refine r_bipush (v := 60) C (dall tdX6_not2 35 rfl) (by decide) ?_
  refine r_vI (as := [.int 60]) C (zX6_isSign cy q σ 60 ) mv_X6_isSign km_X6_226 (by decide) (by decide) ⟨Nat.le_refl _, Nat.le_refl _⟩ rfl rfl rfl rfl (Nat.le_of_ble_eq_true rfl) (dall tdX6_not2 36 rfl) ?_
  refine r_if_ne (tgt := 77) C (dall tdX6_not2 37 rfl) (by decide) (fun c7 => ?_) (fun c7 => ?_)
  · have h := (if_neg c7).symm.trans h
    have ok := ok.2 c7
    refine r_pick [1, 0] rfl ?_
    exact wX6_not2_77 σ b0_ C hR  ok h
  · have h := (if_pos c7).symm.trans h
    have ok := ok.1 c7
    refine r_aload_n C 1 (dall tdX6_not2 38 rfl) rfl ?_
    refine r_bipush (v := 61) C (dall tdX6_not2 39 rfl) (by decide) ?_
    refine r_vI (as := [.int 61]) C (zX6_isSign cy q σ 61 ) mv_X6_isSign km_X6_226 (by decide) (by decide) ⟨Nat.le_refl _, Nat.le_refl _⟩ rfl rfl rfl rfl (Nat.le_of_ble_eq_true rfl) (dall tdX6_not2 40 rfl) ?_
    refine r_if_ne (tgt := 77) C (dall tdX6_not2 41 rfl) (by decide) (fun c8 => ?_) (fun c8 => ?_)
    · have h := (if_neg c8).symm.trans h
      have ok := ok.2 c8
      refine r_pick [1, 0] rfl ?_
      exact wX6_not2_77 σ b0_ C hR  ok h
    · have h := (if_pos c8).symm.trans h
      have ok := ok.1 c8
      refine r_iload_n C 0 (dall tdX6_not2 42 rfl) rfl ?_
      exact r_iret C hR (dall tdX6_not2 43 rfl) (by subst h; exact ⟨rfl, rfl⟩)
def pX6_not2_31  (σ : OS) (b0_ : Int32) : Int32 × OS := if b0_ = 0 then (1, oI σ 25 ((σ.1 25) - 1)) else (0, oI σ 25 ((σ.1 25) - 1))
set_option maxHeartbeats 4000000 in
set_option maxRecDepth 100000 in
theorem wX6_not2_31 {X : CX} {cy : Nat → ClassId} {q : Nat → Nat} {D : va_G} {A : Nat → Prop} {res : Int32 × OS} (σ : OS) (b0_ : Int32) (C : Cx X cX6_not2 RX6 4 D (gty cy) A 25 0 0) (hR : Rt X (some .int) D (gty cy) A 0 0 (eI (wX6 cy q res.2) res.1))  (h : pX6_not2_31  σ b0_ = res) : At X D A 4 0 0 31 [(0, .ref (q 41))] [.int b0_] (wX6 cy q σ) := by
  unfold pX6_not2_31 at h
  refine r_istore_n (lv' := [(1, .int b0_), (0, .ref (q 41))]) C (dall tdX6_not2 18 rfl) (by decide) rfl ?_
  refine r_aload_n C 1 (dall tdX6_not2 19 rfl) rfl ?_
  refine r_dup C (dall tdX6_not2 20 rfl) rfl ?_
  refine r_get C 0 kw_X6 rfl rfl (by decide) kf_X6_195 rfl rfl (dall tdX6_not2 21 rfl) ?_
  refine r_iconst (v := 1) C (dall tdX6_not2 22 rfl) (by decide) ?_
  refine r_isub C (dall tdX6_not2 23 rfl) ?_
  refine r_put C 0 kw_X6 tyX6_ok nmX6 rfl rfl (by decide) kf_X6_195 rfl rfl rfl rfl rfl (Nat.le_of_ble_eq_true rfl) (pu_X6_this_25 cy q σ ((σ.1 25) - 1)) (dall tdX6_not2 24 rfl) ?_
  refine r_iload_n C 0 (dall tdX6_not2 25 rfl) rfl ?_
  refine r_if_ne (tgt := 50) C (dall tdX6_not2 26 rfl) (by decide) (fun c9 => ?_) (fun c9 => ?_)
  · have h := (if_neg c9).symm.trans h
    refine r_iconst (v := 0) C (dall tdX6_not2 29 rfl) (by decide) ?_
    exact r_iret C hR (dall tdX6_not2 30 rfl) (by subst h; exact ⟨rfl, rfl⟩)
  · have h := (if_pos c9).symm.trans h
    refine r_iconst (v := 1) C (dall tdX6_not2 27 rfl) (by decide) ?_
    refine r_goto (tgt := 51) C (dall tdX6_not2 28 rfl) (by decide) ?_
    exact r_iret C hR (dall tdX6_not2 30 rfl) (by subst h; exact ⟨rfl, rfl⟩)
def pX6_not2_22  (σ : OS) (b0_ : Int32) : Int32 × OS := if b0_ = 0 then (0, σ) else pX6_not2_31  ((fX6_not3 σ ).2) ((fX6_not3 σ ).1)
def oX6_not2_22  (σ : OS) (b0_ : Int32) : Prop := (b0_ = 0 → True) ∧ (¬ (b0_ = 0) → gX6_not3 σ )
set_option maxHeartbeats 4000000 in
set_option maxRecDepth 100000 in
theorem wX6_not2_22 {X : CX} {cy : Nat → ClassId} {q : Nat → Nat} {D : va_G} {A : Nat → Prop} {res : Int32 × OS} (σ : OS) (b0_ : Int32) (C : Cx X cX6_not2 RX6 4 D (gty cy) A 25 0 0) (hR : Rt X (some .int) D (gty cy) A 0 0 (eI (wX6 cy q res.2) res.1))  (ok : oX6_not2_22  σ b0_) (h : pX6_not2_22  σ b0_ = res) : At X D A 4 0 0 22 [(0, .ref (q 41))] [.int b0_] (wX6 cy q σ) := by
  unfold pX6_not2_22 at h
  unfold oX6_not2_22 at ok
  refine r_if_ne (tgt := 27) C (dall tdX6_not2 13 rfl) (by decide) (fun c10 => ?_) (fun c10 => ?_)
  · have h := (if_neg c10).symm.trans h
    have ok := ok.2 c10
    refine r_aload_n C 0 (dall tdX6_not2 16 rfl) rfl ?_
    have o11 := ok
    refine r_vI (as := []) C (zX6_not3 cy q σ  o11) mv_X6_not3 km_X6_285 (by decide) (by decide) ⟨Nat.le_refl _, Nat.le_refl _⟩ rfl rfl rfl rfl (Nat.le_of_ble_eq_true rfl) (dall tdX6_not2 17 rfl) ?_
    exact wX6_not2_31 ((fX6_not3 σ ).2) ((fX6_not3 σ ).1) C hR  h
  · have h := (if_pos c10).symm.trans h
    have ok := ok.1 c10
    refine r_iconst (v := 0) C (dall tdX6_not2 14 rfl) (by decide) ?_
    exact r_iret C hR (dall tdX6_not2 15 rfl) (by subst h; exact ⟨rfl, rfl⟩)
def pX6_not2_0  (σ : OS) : Int32 × OS := if (fX6_isWord σ 110 111 116 0 0 0 0 0) = 0 then pX6_not2_56  ((fX6_added2 σ ).2) ((fX6_added2 σ ).1) else pX6_not2_22  ((fX6_opens σ ).2) ((fX6_opens σ ).1)
def oX6_not2_0  (σ : OS) : Prop := (gX6_isWord σ 110 111 116 0 0 0 0 0) ∧ (((fX6_isWord σ 110 111 116 0 0 0 0 0) = 0 → (gX6_added2 σ ) ∧ (oX6_not2_56  ((fX6_added2 σ ).2) ((fX6_added2 σ ).1))) ∧ (¬ ((fX6_isWord σ 110 111 116 0 0 0 0 0) = 0) → (gX6_opens σ ) ∧ (oX6_not2_22  ((fX6_opens σ ).2) ((fX6_opens σ ).1))))
set_option maxHeartbeats 4000000 in
set_option maxRecDepth 100000 in
theorem wX6_not2_0 {X : CX} {cy : Nat → ClassId} {q : Nat → Nat} {D : va_G} {A : Nat → Prop} {res : Int32 × OS} (σ : OS) (C : Cx X cX6_not2 RX6 4 D (gty cy) A 25 0 0) (hR : Rt X (some .int) D (gty cy) A 0 0 (eI (wX6 cy q res.2) res.1))  (ok : oX6_not2_0  σ) (h : pX6_not2_0  σ = res) : At X D A 4 0 0 0 [(0, .ref (q 41))] [] (wX6 cy q σ) := by
  unfold pX6_not2_0 at h
  unfold oX6_not2_0 at ok
  refine r_aload_n C 0 (dall tdX6_not2 0 rfl) rfl ?_
  refine r_bipush (v := 110) C (dall tdX6_not2 1 rfl) (by decide) ?_
  refine r_bipush (v := 111) C (dall tdX6_not2 2 rfl) (by decide) ?_
  refine r_bipush (v := 116) C (dall tdX6_not2 3 rfl) (by decide) ?_
  refine r_iconst (v := 0) C (dall tdX6_not2 4 rfl) (by decide) ?_
  refine r_iconst (v := 0) C (dall tdX6_not2 5 rfl) (by decide) ?_
  refine r_iconst (v := 0) C (dall tdX6_not2 6 rfl) (by decide) ?_
  refine r_iconst (v := 0) C (dall tdX6_not2 7 rfl) (by decide) ?_
  refine r_iconst (v := 0) C (dall tdX6_not2 8 rfl) (by decide) ?_
  obtain ⟨o12, ok⟩ := ok
  refine r_vI (as := [.int 110, .int 111, .int 116, .int 0, .int 0, .int 0, .int 0, .int 0]) C (zX6_isWord cy q σ 110 111 116 0 0 0 0 0 o12) mv_X6_isWord km_X6_204 (by decide) (by decide) ⟨Nat.le_refl _, Nat.le_refl _⟩ rfl rfl rfl rfl (Nat.le_of_ble_eq_true rfl) (dall tdX6_not2 9 rfl) ?_
  refine r_if_eq (tgt := 52) C (dall tdX6_not2 10 rfl) (by decide) (fun c13 => ?_) (fun c13 => ?_)
  · have h := (if_pos c13).symm.trans h
    have ok := ok.1 c13
    refine r_aload_n C 0 (dall tdX6_not2 31 rfl) rfl ?_
    obtain ⟨o14, ok⟩ := ok
    refine r_vI (as := []) C (zX6_added2 cy q σ  o14) mv_X6_added2 km_X6_300 (by decide) (by decide) ⟨Nat.le_refl _, Nat.le_refl _⟩ rfl rfl rfl rfl (Nat.le_of_ble_eq_true rfl) (dall tdX6_not2 32 rfl) ?_
    exact wX6_not2_56 ((fX6_added2 σ ).2) ((fX6_added2 σ ).1) C hR  ok h
  · have h := (if_neg c13).symm.trans h
    have ok := ok.2 c13
    refine r_aload_n C 0 (dall tdX6_not2 11 rfl) rfl ?_
    obtain ⟨o15, ok⟩ := ok
    refine r_vI (as := []) C (zX6_opens cy q σ  o15) mv_X6_opens km_X6_229 (by decide) (by decide) ⟨Nat.le_refl _, Nat.le_refl _⟩ rfl rfl rfl rfl (Nat.le_of_ble_eq_true rfl) (dall tdX6_not2 12 rfl) ?_
    exact wX6_not2_22 ((fX6_opens σ ).2) ((fX6_opens σ ).1) C hR  ok h
def fX6_not2 (σ : OS) : Int32 × OS := pX6_not2_0  σ
def gX6_not2 (σ : OS) : Prop := oX6_not2_0  σ
set_option maxRecDepth 100000 in
theorem zX6_not2 (cy : Nat → ClassId) (q : Nat → Nat)  {D : va_G} (σ : OS) (ok : gX6_not2 σ )  : Con yX6_not2 cX6_not2 4 (some .int) 25 0 0 D (gty cy) [.ref (q 41)] (wX6 cy q σ) (eI (wX6 cy q (fX6_not2 σ ).2) (fX6_not2 σ ).1) :=
  Con.of (own := RX6) (by decide +kernel) rfl (Nat.le_of_ble_eq_true rfl) (Nat.zero_le _) (fun X A C hR _ => (wX6_not2_0 σ C hR  ok rfl))
theorem mv_X6_not2 : MV yX6_not2 cX6_not2 4 (some .int) RX6 0 := ⟨ki_X6_not2, kv_X6_not2, kn_X6, kc_X6_not2, by decide +kernel⟩
def tbX6_both2 : List (Nat × Instr × Nat) := [(0, .aload_n 0, 1), (1, .invokevirtual 303, 3), (4, .istore_n 1, 1), (5, .aload_n 0, 1), (6, .bipush 97, 2), (8, .bipush 110, 2), (10, .bipush 100, 2), (12, .iconst 0, 1), (13, .iconst 0, 1), (14, .iconst 0, 1), (15, .iconst 0, 1), (16, .iconst 0, 1), (17, .invokevirtual 204, 3), (20, .ifCond .eq 29, 3), (23, .aload_n 0, 1), (24, .invokevirtual 201, 3), (27, .aload_n 0, 1), (28, .invokevirtual 303, 3), (31, .istore_n 2, 1), (32, .iload_n 1, 1), (33, .ifCond .eq 11, 3), (36, .iload_n 2, 1), (37, .ifCond .eq 7, 3), (40, .iconst 1, 1), (41, .goto 4, 3), (44, .iconst 0, 1), (45, .istore_n 1, 1), (46, .goto (-41), 3), (49, .iload_n 1, 1), (50, .ireturn, 1)]
theorem tdX6_both2 : tbX6_both2.all (fun q => decide (decode cX6_both2 q.1 = .ok q.2)) = true := by decide +kernel
def pX6_both2_45 (kR5 : OS × Int32 → Int32 × OS) (σ : OS) (b0_ : Int32) : Int32 × OS := kR5 (σ, b0_)
def oX6_both2_45 (kO5 : OS × Int32 → Prop) (σ : OS) (b0_ : Int32) : Prop := kO5 (σ, b0_)
set_option maxHeartbeats 4000000 in
set_option maxRecDepth 100000 in
theorem wX6_both2_45 {X : CX} {cy : Nat → ClassId} {q : Nat → Nat} {D : va_G} {A : Nat → Prop} {res : Int32 × OS} (σ : OS) (b0_ : Int32) (C : Cx X cX6_both2 RX6 3 D (gty cy) A 26 0 0) (hR : Rt X (some .int) D (gty cy) A 0 0 (eI (wX6 cy q res.2) res.1)) (kR5 : OS × Int32 → Int32 × OS) (kO5 : OS × Int32 → Prop) (hk5 : ∀ z, kO5 z → kR5 z = res → At X D A 3 0 0 5 [(0, .ref (q 41)), (1, .int z.2)] [] (wX6 cy q z.1)) (ok : oX6_both2_45 kO5 σ b0_) (h : pX6_both2_45 kR5 σ b0_ = res) : At X D A 3 0 0 45 [(0, .ref (q 41))] [.int b0_] (wX6 cy q σ) := by
  unfold pX6_both2_45 at h
  unfold oX6_both2_45 at ok
  refine r_istore_n (lv' := [(1, .int b0_), (0, .ref (q 41))]) C (dall tdX6_both2 26 rfl) (by decide) rfl ?_
  refine r_goto (tgt := 5) C (dall tdX6_both2 27 rfl) (by decide) ?_
  refine r_pick [1, 0] rfl ?_
  exact hk5 (σ, b0_) ok h
def pX6_both2_44 (kR5 : OS × Int32 → Int32 × OS) (σ : OS) : Int32 × OS := pX6_both2_45 kR5 σ 0
def oX6_both2_44 (kO5 : OS × Int32 → Prop) (σ : OS) : Prop := oX6_both2_45 kO5 σ 0
set_option maxHeartbeats 4000000 in
set_option maxRecDepth 100000 in
theorem wX6_both2_44 {X : CX} {cy : Nat → ClassId} {q : Nat → Nat} {D : va_G} {A : Nat → Prop} {res : Int32 × OS} (σ : OS) (C : Cx X cX6_both2 RX6 3 D (gty cy) A 26 0 0) (hR : Rt X (some .int) D (gty cy) A 0 0 (eI (wX6 cy q res.2) res.1)) (kR5 : OS × Int32 → Int32 × OS) (kO5 : OS × Int32 → Prop) (hk5 : ∀ z, kO5 z → kR5 z = res → At X D A 3 0 0 5 [(0, .ref (q 41)), (1, .int z.2)] [] (wX6 cy q z.1)) (ok : oX6_both2_44 kO5 σ) (h : pX6_both2_44 kR5 σ = res) : At X D A 3 0 0 44 [(0, .ref (q 41))] [] (wX6 cy q σ) := by
  unfold pX6_both2_44 at h
  unfold oX6_both2_44 at ok
  refine r_iconst (v := 0) C (dall tdX6_both2 25 rfl) (by decide) ?_
  exact wX6_both2_45 σ 0 C hR kR5 kO5 hk5 ok h
def pX6_both2_31 (kR5 : OS × Int32 → Int32 × OS) (σ : OS) (a1_ : Int32) (b0_ : Int32) : Int32 × OS := if a1_ = 0 then pX6_both2_44 kR5 σ else if b0_ = 0 then pX6_both2_44 kR5 σ else pX6_both2_45 kR5 σ 1
def oX6_both2_31 (kO5 : OS × Int32 → Prop) (σ : OS) (a1_ : Int32) (b0_ : Int32) : Prop := (a1_ = 0 → oX6_both2_44 kO5 σ) ∧ (¬ (a1_ = 0) → (b0_ = 0 → oX6_both2_44 kO5 σ) ∧ (¬ (b0_ = 0) → oX6_both2_45 kO5 σ 1))
set_option maxHeartbeats 4000000 in
set_option maxRecDepth 100000 in
theorem wX6_both2_31 {X : CX} {cy : Nat → ClassId} {q : Nat → Nat} {D : va_G} {A : Nat → Prop} {res : Int32 × OS} (σ : OS) (a1_ : Int32) (b0_ : Int32) (C : Cx X cX6_both2 RX6 3 D (gty cy) A 26 0 0) (hR : Rt X (some .int) D (gty cy) A 0 0 (eI (wX6 cy q res.2) res.1)) (kR5 : OS × Int32 → Int32 × OS) (kO5 : OS × Int32 → Prop) (hk5 : ∀ z, kO5 z → kR5 z = res → At X D A 3 0 0 5 [(0, .ref (q 41)), (1, .int z.2)] [] (wX6 cy q z.1)) (ok : oX6_both2_31 kO5 σ a1_ b0_) (h : pX6_both2_31 kR5 σ a1_ b0_ = res) : At X D A 3 0 0 31 [(0, .ref (q 41)), (1, .int a1_)] [.int b0_] (wX6 cy q σ) := by
  unfold pX6_both2_31 at h
  unfold oX6_both2_31 at ok
  refine r_istore_n (lv' := [(2, .int b0_), (0, .ref (q 41)), (1, .int a1_)]) C (dall tdX6_both2 18 rfl) (by decide) rfl ?_
  refine r_iload_n C 2 (dall tdX6_both2 19 rfl) rfl ?_
  refine r_if_eq (tgt := 44) C (dall tdX6_both2 20 rfl) (by decide) (fun c1 => ?_) (fun c1 => ?_)
  · have h := (if_pos c1).symm.trans h
    have ok := ok.1 c1
    refine r_pick [1] rfl ?_
    exact wX6_both2_44 σ C hR kR5 kO5 hk5 ok h
  · have h := (if_neg c1).symm.trans h
    have ok := ok.2 c1
    refine r_iload_n C 0 (dall tdX6_both2 21 rfl) rfl ?_
    refine r_if_eq (tgt := 44) C (dall tdX6_both2 22 rfl) (by decide) (fun c2 => ?_) (fun c2 => ?_)
    · have h := (if_pos c2).symm.trans h
      have ok := ok.1 c2
      refine r_pick [1] rfl ?_
      exact wX6_both2_44 σ C hR kR5 kO5 hk5 ok h
    · have h := (if_neg c2).symm.trans h
      have ok := ok.2 c2
      refine r_iconst (v := 1) C (dall tdX6_both2 23 rfl) (by decide) ?_
      refine r_goto (tgt := 45) C (dall tdX6_both2 24 rfl) (by decide) ?_
      refine r_pick [1] rfl ?_
      exact wX6_both2_45 σ 1 C hR kR5 kO5 hk5 ok h
def pX6_both2_27 (kR5 : OS × Int32 → Int32 × OS) (σ : OS) (a1_ : Int32) : Int32 × OS := pX6_both2_31 kR5 ((fX6_not2 σ ).2) a1_ ((fX6_not2 σ ).1)
def oX6_both2_27 (kO5 : OS × Int32 → Prop) (σ : OS) (a1_ : Int32) : Prop := (gX6_not2 σ ) ∧ (oX6_both2_31 kO5 ((fX6_not2 σ ).2) a1_ ((fX6_not2 σ ).1))
set_option maxHeartbeats 4000000 in
set_option maxRecDepth 100000 in
theorem wX6_both2_27 {X : CX} {cy : Nat → ClassId} {q : Nat → Nat} {D : va_G} {A : Nat → Prop} {res : Int32 × OS} (σ : OS) (a1_ : Int32) (C : Cx X cX6_both2 RX6 3 D (gty cy) A 26 0 0) (hR : Rt X (some .int) D (gty cy) A 0 0 (eI (wX6 cy q res.2) res.1)) (kR5 : OS × Int32 → Int32 × OS) (kO5 : OS × Int32 → Prop) (hk5 : ∀ z, kO5 z → kR5 z = res → At X D A 3 0 0 5 [(0, .ref (q 41)), (1, .int z.2)] [] (wX6 cy q z.1)) (ok : oX6_both2_27 kO5 σ a1_) (h : pX6_both2_27 kR5 σ a1_ = res) : At X D A 3 0 0 27 [(0, .ref (q 41)), (1, .int a1_)] [] (wX6 cy q σ) := by
  unfold pX6_both2_27 at h
  unfold oX6_both2_27 at ok
  refine r_aload_n C 0 (dall tdX6_both2 16 rfl) rfl ?_
  obtain ⟨o3, ok⟩ := ok
  refine r_vI (as := []) C (zX6_not2 cy q σ  o3) mv_X6_not2 km_X6_303 (by decide) (by decide) ⟨Nat.le_refl _, Nat.le_refl _⟩ rfl rfl rfl rfl (Nat.le_of_ble_eq_true rfl) (dall tdX6_both2 17 rfl) ?_
  exact wX6_both2_31 ((fX6_not2 σ ).2) a1_ ((fX6_not2 σ ).1) C hR kR5 kO5 hk5 ok h
def bX6_both2_5   (kR5 : OS × Int32 → Int32 × OS) (v : OS × Int32) : Int32 × OS := if (fX6_isWord v.1 97 110 100 0 0 0 0 0) = 0 then (v.2, v.1) else pX6_both2_27 kR5 (fX6_next v.1) v.2
def kX6_both2_5   (kO5 : OS × Int32 → Prop) (v : OS × Int32) : Prop := (gX6_isWord v.1 97 110 100 0 0 0 0 0) ∧ (((fX6_isWord v.1 97 110 100 0 0 0 0 0) = 0 → True) ∧ (¬ ((fX6_isWord v.1 97 110 100 0 0 0 0 0) = 0) → (gX6_next v.1 ) ∧ (oX6_both2_27 kO5 (fX6_next v.1) v.2)))
set_option maxHeartbeats 4000000 in
set_option maxRecDepth 100000 in
theorem wX6_both2_5 {X : CX} {cy : Nat → ClassId} {q : Nat → Nat} {D : va_G} {A : Nat → Prop} {res : Int32 × OS}  (C : Cx X cX6_both2 RX6 3 D (gty cy) A 26 0 0) (hR : Rt X (some .int) D (gty cy) A 0 0 (eI (wX6 cy q res.2) res.1)) (kR5 : OS × Int32 → Int32 × OS) (kO5 : OS × Int32 → Prop) (hk5 : ∀ z, kO5 z → kR5 z = res → At X D A 3 0 0 5 [(0, .ref (q 41)), (1, .int z.2)] [] (wX6 cy q z.1)) (v : OS × Int32) (ok : kX6_both2_5  kO5 v) (h : bX6_both2_5  kR5 v = res) : At X D A 3 0 0 5 [(0, .ref (q 41)), (1, .int v.2)] [] (wX6 cy q v.1) := by
  unfold bX6_both2_5 at h
  unfold kX6_both2_5 at ok
  refine r_aload_n C 0 (dall tdX6_both2 3 rfl) rfl ?_
  refine r_bipush (v := 97) C (dall tdX6_both2 4 rfl) (by decide) ?_
  refine r_bipush (v := 110) C (dall tdX6_both2 5 rfl) (by decide) ?_
  refine r_bipush (v := 100) C (dall tdX6_both2 6 rfl) (by decide) ?_
  refine r_iconst (v := 0) C (dall tdX6_both2 7 rfl) (by decide) ?_
  refine r_iconst (v := 0) C (dall tdX6_both2 8 rfl) (by decide) ?_
  refine r_iconst (v := 0) C (dall tdX6_both2 9 rfl) (by decide) ?_
  refine r_iconst (v := 0) C (dall tdX6_both2 10 rfl) (by decide) ?_
  refine r_iconst (v := 0) C (dall tdX6_both2 11 rfl) (by decide) ?_
  obtain ⟨o4, ok⟩ := ok
  refine r_vI (as := [.int 97, .int 110, .int 100, .int 0, .int 0, .int 0, .int 0, .int 0]) C (zX6_isWord cy q v.1 97 110 100 0 0 0 0 0 o4) mv_X6_isWord km_X6_204 (by decide) (by decide) ⟨Nat.le_refl _, Nat.le_refl _⟩ rfl rfl rfl rfl (Nat.le_of_ble_eq_true rfl) (dall tdX6_both2 12 rfl) ?_
  refine r_if_eq (tgt := 49) C (dall tdX6_both2 13 rfl) (by decide) (fun c5 => ?_) (fun c5 => ?_)
  · have h := (if_pos c5).symm.trans h
    have ok := ok.1 c5
    refine r_iload_n C 1 (dall tdX6_both2 28 rfl) rfl ?_
    exact r_iret C hR (dall tdX6_both2 29 rfl) (by subst h; exact ⟨rfl, rfl⟩)
  · have h := (if_neg c5).symm.trans h
    have ok := ok.2 c5
    refine r_aload_n C 0 (dall tdX6_both2 14 rfl) rfl ?_
    obtain ⟨o6, ok⟩ := ok
    refine r_vV (as := []) C (zX6_next cy q v.1  o6) mv_X6_next km_X6_201 (by decide) (by decide) ⟨Nat.le_refl _, Nat.le_refl _⟩ rfl rfl rfl rfl (Nat.le_of_ble_eq_true rfl) (dall tdX6_both2 15 rfl) ?_
    exact wX6_both2_27 (fX6_next v.1) v.2 C hR kR5 kO5 hk5 ok h
set_option maxHeartbeats 4000000 in
set_option maxRecDepth 100000 in
theorem lX6_both2_5 {X : CX} {cy : Nat → ClassId} {q : Nat → Nat} {D : va_G} {A : Nat → Prop} {res : Int32 × OS}  (C : Cx X cX6_both2 RX6 3 D (gty cy) A 26 0 0) (hR : Rt X (some .int) D (gty cy) A 0 0 (eI (wX6 cy q res.2) res.1))  (n : Nat) (v : OS × Int32) (ok : lpOk (kX6_both2_5  ) n v) (h : lp (0, o0) (bX6_both2_5  ) n v = res) : At X D A 3 0 0 5 [(0, .ref (q 41)), (1, .int v.2)] [] (wX6 cy q v.1) :=
  lp_rule (fun v rr_ => rr_ = res → At X D A 3 0 0 5 [(0, .ref (q 41)), (1, .int v.2)] [] (wX6 cy q v.1)) (fun kR kO hk v ok h => wX6_both2_5  C hR  kR kO hk v ok h) n v ok h
def pX6_both2_4  (σ : OS) (b0_ : Int32) : Int32 × OS := lp (0, o0) (bX6_both2_5  ) fu (σ, b0_)
def oX6_both2_4  (σ : OS) (b0_ : Int32) : Prop := lpOk (kX6_both2_5  ) fu (σ, b0_)
set_option maxHeartbeats 4000000 in
set_option maxRecDepth 100000 in
theorem wX6_both2_4 {X : CX} {cy : Nat → ClassId} {q : Nat → Nat} {D : va_G} {A : Nat → Prop} {res : Int32 × OS} (σ : OS) (b0_ : Int32) (C : Cx X cX6_both2 RX6 3 D (gty cy) A 26 0 0) (hR : Rt X (some .int) D (gty cy) A 0 0 (eI (wX6 cy q res.2) res.1))  (ok : oX6_both2_4  σ b0_) (h : pX6_both2_4  σ b0_ = res) : At X D A 3 0 0 4 [(0, .ref (q 41))] [.int b0_] (wX6 cy q σ) := by
  unfold pX6_both2_4 at h
  unfold oX6_both2_4 at ok
  refine r_istore_n (lv' := [(1, .int b0_), (0, .ref (q 41))]) C (dall tdX6_both2 2 rfl) (by decide) rfl ?_
  refine r_pick [1, 0] rfl ?_
  exact lX6_both2_5  C hR  fu _ ok h
def pX6_both2_0  (σ : OS) : Int32 × OS := pX6_both2_4  ((fX6_not2 σ ).2) ((fX6_not2 σ ).1)
def oX6_both2_0  (σ : OS) : Prop := (gX6_not2 σ ) ∧ (oX6_both2_4  ((fX6_not2 σ ).2) ((fX6_not2 σ ).1))
set_option maxHeartbeats 4000000 in
set_option maxRecDepth 100000 in
theorem wX6_both2_0 {X : CX} {cy : Nat → ClassId} {q : Nat → Nat} {D : va_G} {A : Nat → Prop} {res : Int32 × OS} (σ : OS) (C : Cx X cX6_both2 RX6 3 D (gty cy) A 26 0 0) (hR : Rt X (some .int) D (gty cy) A 0 0 (eI (wX6 cy q res.2) res.1))  (ok : oX6_both2_0  σ) (h : pX6_both2_0  σ = res) : At X D A 3 0 0 0 [(0, .ref (q 41))] [] (wX6 cy q σ) := by
  unfold pX6_both2_0 at h
  unfold oX6_both2_0 at ok
  refine r_aload_n C 0 (dall tdX6_both2 0 rfl) rfl ?_
  obtain ⟨o7, ok⟩ := ok
  refine r_vI (as := []) C (zX6_not2 cy q σ  o7) mv_X6_not2 km_X6_303 (by decide) (by decide) ⟨Nat.le_refl _, Nat.le_refl _⟩ rfl rfl rfl rfl (Nat.le_of_ble_eq_true rfl) (dall tdX6_both2 1 rfl) ?_
  exact wX6_both2_4 ((fX6_not2 σ ).2) ((fX6_not2 σ ).1) C hR  ok h
def fX6_both2 (σ : OS) : Int32 × OS := pX6_both2_0  σ
def gX6_both2 (σ : OS) : Prop := oX6_both2_0  σ
set_option maxRecDepth 100000 in
theorem zX6_both2 (cy : Nat → ClassId) (q : Nat → Nat)  {D : va_G} (σ : OS) (ok : gX6_both2 σ )  : Con yX6_both2 cX6_both2 3 (some .int) 26 0 0 D (gty cy) [.ref (q 41)] (wX6 cy q σ) (eI (wX6 cy q (fX6_both2 σ ).2) (fX6_both2 σ ).1) :=
  Con.of (own := RX6) (by decide +kernel) rfl (Nat.le_of_ble_eq_true rfl) (Nat.zero_le _) (fun X A C hR _ => (wX6_both2_0 σ C hR  ok rfl))
theorem mv_X6_both2 : MV yX6_both2 cX6_both2 3 (some .int) RX6 0 := ⟨ki_X6_both2, kv_X6_both2, kn_X6, kc_X6_both2, by decide +kernel⟩
def tbX6_either2 : List (Nat × Instr × Nat) := [(0, .aload_n 0, 1), (1, .invokevirtual 306, 3), (4, .istore_n 1, 1), (5, .aload_n 0, 1), (6, .bipush 111, 2), (8, .bipush 114, 2), (10, .iconst 0, 1), (11, .iconst 0, 1), (12, .iconst 0, 1), (13, .iconst 0, 1), (14, .iconst 0, 1), (15, .iconst 0, 1), (16, .invokevirtual 204, 3), (19, .ifCond .eq 29, 3), (22, .aload_n 0, 1), (23, .invokevirtual 201, 3), (26, .aload_n 0, 1), (27, .invokevirtual 306, 3), (30, .istore_n 2, 1), (31, .iload_n 1, 1), (32, .ifCond .ne 7, 3), (35, .iload_n 2, 1), (36, .ifCond .eq 7, 3), (39, .iconst 1, 1), (40, .goto 4, 3), (43, .iconst 0, 1), (44, .istore_n 1, 1), (45, .goto (-40), 3), (48, .iload_n 1, 1), (49, .ireturn, 1)]
theorem tdX6_either2 : tbX6_either2.all (fun q => decide (decode cX6_either2 q.1 = .ok q.2)) = true := by decide +kernel
def pX6_either2_44 (kR5 : OS × Int32 → Int32 × OS) (σ : OS) (b0_ : Int32) : Int32 × OS := kR5 (σ, b0_)
def oX6_either2_44 (kO5 : OS × Int32 → Prop) (σ : OS) (b0_ : Int32) : Prop := kO5 (σ, b0_)
set_option maxHeartbeats 4000000 in
set_option maxRecDepth 100000 in
theorem wX6_either2_44 {X : CX} {cy : Nat → ClassId} {q : Nat → Nat} {D : va_G} {A : Nat → Prop} {res : Int32 × OS} (σ : OS) (b0_ : Int32) (C : Cx X cX6_either2 RX6 3 D (gty cy) A 27 0 0) (hR : Rt X (some .int) D (gty cy) A 0 0 (eI (wX6 cy q res.2) res.1)) (kR5 : OS × Int32 → Int32 × OS) (kO5 : OS × Int32 → Prop) (hk5 : ∀ z, kO5 z → kR5 z = res → At X D A 3 0 0 5 [(0, .ref (q 41)), (1, .int z.2)] [] (wX6 cy q z.1)) (ok : oX6_either2_44 kO5 σ b0_) (h : pX6_either2_44 kR5 σ b0_ = res) : At X D A 3 0 0 44 [(0, .ref (q 41))] [.int b0_] (wX6 cy q σ) := by
  unfold pX6_either2_44 at h
  unfold oX6_either2_44 at ok
  refine r_istore_n (lv' := [(1, .int b0_), (0, .ref (q 41))]) C (dall tdX6_either2 26 rfl) (by decide) rfl ?_
  refine r_goto (tgt := 5) C (dall tdX6_either2 27 rfl) (by decide) ?_
  refine r_pick [1, 0] rfl ?_
  exact hk5 (σ, b0_) ok h
def pX6_either2_39 (kR5 : OS × Int32 → Int32 × OS) (σ : OS) : Int32 × OS := pX6_either2_44 kR5 σ 1
def oX6_either2_39 (kO5 : OS × Int32 → Prop) (σ : OS) : Prop := oX6_either2_44 kO5 σ 1
set_option maxHeartbeats 4000000 in
set_option maxRecDepth 100000 in
theorem wX6_either2_39 {X : CX} {cy : Nat → ClassId} {q : Nat → Nat} {D : va_G} {A : Nat → Prop} {res : Int32 × OS} (σ : OS) (C : Cx X cX6_either2 RX6 3 D (gty cy) A 27 0 0) (hR : Rt X (some .int) D (gty cy) A 0 0 (eI (wX6 cy q res.2) res.1)) (kR5 : OS × Int32 → Int32 × OS) (kO5 : OS × Int32 → Prop) (hk5 : ∀ z, kO5 z → kR5 z = res → At X D A 3 0 0 5 [(0, .ref (q 41)), (1, .int z.2)] [] (wX6 cy q z.1)) (ok : oX6_either2_39 kO5 σ) (h : pX6_either2_39 kR5 σ = res) : At X D A 3 0 0 39 [(0, .ref (q 41))] [] (wX6 cy q σ) := by
  unfold pX6_either2_39 at h
  unfold oX6_either2_39 at ok
  refine r_iconst (v := 1) C (dall tdX6_either2 23 rfl) (by decide) ?_
  refine r_goto (tgt := 44) C (dall tdX6_either2 24 rfl) (by decide) ?_
  exact wX6_either2_44 σ 1 C hR kR5 kO5 hk5 ok h
def pX6_either2_30 (kR5 : OS × Int32 → Int32 × OS) (σ : OS) (a1_ : Int32) (b0_ : Int32) : Int32 × OS := if a1_ = 0 then if b0_ = 0 then pX6_either2_44 kR5 σ 0 else pX6_either2_39 kR5 σ else pX6_either2_39 kR5 σ
def oX6_either2_30 (kO5 : OS × Int32 → Prop) (σ : OS) (a1_ : Int32) (b0_ : Int32) : Prop := (a1_ = 0 → (b0_ = 0 → oX6_either2_44 kO5 σ 0) ∧ (¬ (b0_ = 0) → oX6_either2_39 kO5 σ)) ∧ (¬ (a1_ = 0) → oX6_either2_39 kO5 σ)
set_option maxHeartbeats 4000000 in
set_option maxRecDepth 100000 in
theorem wX6_either2_30 {X : CX} {cy : Nat → ClassId} {q : Nat → Nat} {D : va_G} {A : Nat → Prop} {res : Int32 × OS} (σ : OS) (a1_ : Int32) (b0_ : Int32) (C : Cx X cX6_either2 RX6 3 D (gty cy) A 27 0 0) (hR : Rt X (some .int) D (gty cy) A 0 0 (eI (wX6 cy q res.2) res.1)) (kR5 : OS × Int32 → Int32 × OS) (kO5 : OS × Int32 → Prop) (hk5 : ∀ z, kO5 z → kR5 z = res → At X D A 3 0 0 5 [(0, .ref (q 41)), (1, .int z.2)] [] (wX6 cy q z.1)) (ok : oX6_either2_30 kO5 σ a1_ b0_) (h : pX6_either2_30 kR5 σ a1_ b0_ = res) : At X D A 3 0 0 30 [(0, .ref (q 41)), (1, .int a1_)] [.int b0_] (wX6 cy q σ) := by
  unfold pX6_either2_30 at h
  unfold oX6_either2_30 at ok
  refine r_istore_n (lv' := [(2, .int b0_), (0, .ref (q 41)), (1, .int a1_)]) C (dall tdX6_either2 18 rfl) (by decide) rfl ?_
  refine r_iload_n C 2 (dall tdX6_either2 19 rfl) rfl ?_
  refine r_if_ne (tgt := 39) C (dall tdX6_either2 20 rfl) (by decide) (fun c1 => ?_) (fun c1 => ?_)
  · have h := (if_neg c1).symm.trans h
    have ok := ok.2 c1
    refine r_pick [1] rfl ?_
    exact wX6_either2_39 σ C hR kR5 kO5 hk5 ok h
  · have h := (if_pos c1).symm.trans h
    have ok := ok.1 c1
    refine r_iload_n C 0 (dall tdX6_either2 21 rfl) rfl ?_
    refine r_if_eq (tgt := 43) C (dall tdX6_either2 22 rfl) (by decide) (fun c2 => ?_) (fun c2 => ?_)
    · have h := (if_pos c2).symm.trans h
      have ok := ok.1 c2
      refine r_iconst (v := 0) C (dall tdX6_either2 25 rfl) (by decide) ?_
      refine r_pick [1] rfl ?_
      exact wX6_either2_44 σ 0 C hR kR5 kO5 hk5 ok h
    · have h := (if_neg c2).symm.trans h
      have ok := ok.2 c2
      refine r_pick [1] rfl ?_
      exact wX6_either2_39 σ C hR kR5 kO5 hk5 ok h
def pX6_either2_26 (kR5 : OS × Int32 → Int32 × OS) (σ : OS) (a1_ : Int32) : Int32 × OS := pX6_either2_30 kR5 ((fX6_both2 σ ).2) a1_ ((fX6_both2 σ ).1)
def oX6_either2_26 (kO5 : OS × Int32 → Prop) (σ : OS) (a1_ : Int32) : Prop := (gX6_both2 σ ) ∧ (oX6_either2_30 kO5 ((fX6_both2 σ ).2) a1_ ((fX6_both2 σ ).1))
set_option maxHeartbeats 4000000 in
set_option maxRecDepth 100000 in
theorem wX6_either2_26 {X : CX} {cy : Nat → ClassId} {q : Nat → Nat} {D : va_G} {A : Nat → Prop} {res : Int32 × OS} (σ : OS) (a1_ : Int32) (C : Cx X cX6_either2 RX6 3 D (gty cy) A 27 0 0) (hR : Rt X (some .int) D (gty cy) A 0 0 (eI (wX6 cy q res.2) res.1)) (kR5 : OS × Int32 → Int32 × OS) (kO5 : OS × Int32 → Prop) (hk5 : ∀ z, kO5 z → kR5 z = res → At X D A 3 0 0 5 [(0, .ref (q 41)), (1, .int z.2)] [] (wX6 cy q z.1)) (ok : oX6_either2_26 kO5 σ a1_) (h : pX6_either2_26 kR5 σ a1_ = res) : At X D A 3 0 0 26 [(0, .ref (q 41)), (1, .int a1_)] [] (wX6 cy q σ) := by
  unfold pX6_either2_26 at h
  unfold oX6_either2_26 at ok
  refine r_aload_n C 0 (dall tdX6_either2 16 rfl) rfl ?_
  obtain ⟨o3, ok⟩ := ok
  refine r_vI (as := []) C (zX6_both2 cy q σ  o3) mv_X6_both2 km_X6_306 (by decide) (by decide) ⟨Nat.le_refl _, Nat.le_refl _⟩ rfl rfl rfl rfl (Nat.le_of_ble_eq_true rfl) (dall tdX6_either2 17 rfl) ?_
  exact wX6_either2_30 ((fX6_both2 σ ).2) a1_ ((fX6_both2 σ ).1) C hR kR5 kO5 hk5 ok h
def bX6_either2_5   (kR5 : OS × Int32 → Int32 × OS) (v : OS × Int32) : Int32 × OS := if (fX6_isWord v.1 111 114 0 0 0 0 0 0) = 0 then (v.2, v.1) else pX6_either2_26 kR5 (fX6_next v.1) v.2
def kX6_either2_5   (kO5 : OS × Int32 → Prop) (v : OS × Int32) : Prop := (gX6_isWord v.1 111 114 0 0 0 0 0 0) ∧ (((fX6_isWord v.1 111 114 0 0 0 0 0 0) = 0 → True) ∧ (¬ ((fX6_isWord v.1 111 114 0 0 0 0 0 0) = 0) → (gX6_next v.1 ) ∧ (oX6_either2_26 kO5 (fX6_next v.1) v.2)))
set_option maxHeartbeats 4000000 in
set_option maxRecDepth 100000 in
theorem wX6_either2_5 {X : CX} {cy : Nat → ClassId} {q : Nat → Nat} {D : va_G} {A : Nat → Prop} {res : Int32 × OS}  (C : Cx X cX6_either2 RX6 3 D (gty cy) A 27 0 0) (hR : Rt X (some .int) D (gty cy) A 0 0 (eI (wX6 cy q res.2) res.1)) (kR5 : OS × Int32 → Int32 × OS) (kO5 : OS × Int32 → Prop) (hk5 : ∀ z, kO5 z → kR5 z = res → At X D A 3 0 0 5 [(0, .ref (q 41)), (1, .int z.2)] [] (wX6 cy q z.1)) (v : OS × Int32) (ok : kX6_either2_5  kO5 v) (h : bX6_either2_5  kR5 v = res) : At X D A 3 0 0 5 [(0, .ref (q 41)), (1, .int v.2)] [] (wX6 cy q v.1) := by
  unfold bX6_either2_5 at h
  unfold kX6_either2_5 at ok
  refine r_aload_n C 0 (dall tdX6_either2 3 rfl) rfl ?_
  refine r_bipush (v := 111) C (dall tdX6_either2 4 rfl) (by decide) ?_
  refine r_bipush (v := 114) C (dall tdX6_either2 5 rfl) (by decide) ?_
  refine r_iconst (v := 0) C (dall tdX6_either2 6 rfl) (by decide) ?_
  refine r_iconst (v := 0) C (dall tdX6_either2 7 rfl) (by decide) ?_
  refine r_iconst (v := 0) C (dall tdX6_either2 8 rfl) (by decide) ?_
  refine r_iconst (v := 0) C (dall tdX6_either2 9 rfl) (by decide) ?_
  refine r_iconst (v := 0) C (dall tdX6_either2 10 rfl) (by decide) ?_
  refine r_iconst (v := 0) C (dall tdX6_either2 11 rfl) (by decide) ?_
  obtain ⟨o4, ok⟩ := ok
  refine r_vI (as := [.int 111, .int 114, .int 0, .int 0, .int 0, .int 0, .int 0, .int 0]) C (zX6_isWord cy q v.1 111 114 0 0 0 0 0 0 o4) mv_X6_isWord km_X6_204 (by decide) (by decide) ⟨Nat.le_refl _, Nat.le_refl _⟩ rfl rfl rfl rfl (Nat.le_of_ble_eq_true rfl) (dall tdX6_either2 12 rfl) ?_
  refine r_if_eq (tgt := 48) C (dall tdX6_either2 13 rfl) (by decide) (fun c5 => ?_) (fun c5 => ?_)
  · have h := (if_pos c5).symm.trans h
    have ok := ok.1 c5
    refine r_iload_n C 1 (dall tdX6_either2 28 rfl) rfl ?_
    exact r_iret C hR (dall tdX6_either2 29 rfl) (by subst h; exact ⟨rfl, rfl⟩)
  · have h := (if_neg c5).symm.trans h
    have ok := ok.2 c5
    refine r_aload_n C 0 (dall tdX6_either2 14 rfl) rfl ?_
    obtain ⟨o6, ok⟩ := ok
    refine r_vV (as := []) C (zX6_next cy q v.1  o6) mv_X6_next km_X6_201 (by decide) (by decide) ⟨Nat.le_refl _, Nat.le_refl _⟩ rfl rfl rfl rfl (Nat.le_of_ble_eq_true rfl) (dall tdX6_either2 15 rfl) ?_
    exact wX6_either2_26 (fX6_next v.1) v.2 C hR kR5 kO5 hk5 ok h
set_option maxHeartbeats 4000000 in
set_option maxRecDepth 100000 in
theorem lX6_either2_5 {X : CX} {cy : Nat → ClassId} {q : Nat → Nat} {D : va_G} {A : Nat → Prop} {res : Int32 × OS}  (C : Cx X cX6_either2 RX6 3 D (gty cy) A 27 0 0) (hR : Rt X (some .int) D (gty cy) A 0 0 (eI (wX6 cy q res.2) res.1))  (n : Nat) (v : OS × Int32) (ok : lpOk (kX6_either2_5  ) n v) (h : lp (0, o0) (bX6_either2_5  ) n v = res) : At X D A 3 0 0 5 [(0, .ref (q 41)), (1, .int v.2)] [] (wX6 cy q v.1) :=
  lp_rule (fun v rr_ => rr_ = res → At X D A 3 0 0 5 [(0, .ref (q 41)), (1, .int v.2)] [] (wX6 cy q v.1)) (fun kR kO hk v ok h => wX6_either2_5  C hR  kR kO hk v ok h) n v ok h
def pX6_either2_4  (σ : OS) (b0_ : Int32) : Int32 × OS := lp (0, o0) (bX6_either2_5  ) fu (σ, b0_)
def oX6_either2_4  (σ : OS) (b0_ : Int32) : Prop := lpOk (kX6_either2_5  ) fu (σ, b0_)
set_option maxHeartbeats 4000000 in
set_option maxRecDepth 100000 in
theorem wX6_either2_4 {X : CX} {cy : Nat → ClassId} {q : Nat → Nat} {D : va_G} {A : Nat → Prop} {res : Int32 × OS} (σ : OS) (b0_ : Int32) (C : Cx X cX6_either2 RX6 3 D (gty cy) A 27 0 0) (hR : Rt X (some .int) D (gty cy) A 0 0 (eI (wX6 cy q res.2) res.1))  (ok : oX6_either2_4  σ b0_) (h : pX6_either2_4  σ b0_ = res) : At X D A 3 0 0 4 [(0, .ref (q 41))] [.int b0_] (wX6 cy q σ) := by
  unfold pX6_either2_4 at h
  unfold oX6_either2_4 at ok
  refine r_istore_n (lv' := [(1, .int b0_), (0, .ref (q 41))]) C (dall tdX6_either2 2 rfl) (by decide) rfl ?_
  refine r_pick [1, 0] rfl ?_
  exact lX6_either2_5  C hR  fu _ ok h
def pX6_either2_0  (σ : OS) : Int32 × OS := pX6_either2_4  ((fX6_both2 σ ).2) ((fX6_both2 σ ).1)
def oX6_either2_0  (σ : OS) : Prop := (gX6_both2 σ ) ∧ (oX6_either2_4  ((fX6_both2 σ ).2) ((fX6_both2 σ ).1))
set_option maxHeartbeats 4000000 in
set_option maxRecDepth 100000 in
theorem wX6_either2_0 {X : CX} {cy : Nat → ClassId} {q : Nat → Nat} {D : va_G} {A : Nat → Prop} {res : Int32 × OS} (σ : OS) (C : Cx X cX6_either2 RX6 3 D (gty cy) A 27 0 0) (hR : Rt X (some .int) D (gty cy) A 0 0 (eI (wX6 cy q res.2) res.1))  (ok : oX6_either2_0  σ) (h : pX6_either2_0  σ = res) : At X D A 3 0 0 0 [(0, .ref (q 41))] [] (wX6 cy q σ) := by
  unfold pX6_either2_0 at h
  unfold oX6_either2_0 at ok
  refine r_aload_n C 0 (dall tdX6_either2 0 rfl) rfl ?_
  obtain ⟨o7, ok⟩ := ok
  refine r_vI (as := []) C (zX6_both2 cy q σ  o7) mv_X6_both2 km_X6_306 (by decide) (by decide) ⟨Nat.le_refl _, Nat.le_refl _⟩ rfl rfl rfl rfl (Nat.le_of_ble_eq_true rfl) (dall tdX6_either2 1 rfl) ?_
  exact wX6_either2_4 ((fX6_both2 σ ).2) ((fX6_both2 σ ).1) C hR  ok h
def fX6_either2 (σ : OS) : Int32 × OS := pX6_either2_0  σ
def gX6_either2 (σ : OS) : Prop := oX6_either2_0  σ
set_option maxRecDepth 100000 in
theorem zX6_either2 (cy : Nat → ClassId) (q : Nat → Nat)  {D : va_G} (σ : OS) (ok : gX6_either2 σ )  : Con yX6_either2 cX6_either2 3 (some .int) 27 0 0 D (gty cy) [.ref (q 41)] (wX6 cy q σ) (eI (wX6 cy q (fX6_either2 σ ).2) (fX6_either2 σ ).1) :=
  Con.of (own := RX6) (by decide +kernel) rfl (Nat.le_of_ble_eq_true rfl) (Nat.zero_le _) (fun X A C hR _ => (wX6_either2_0 σ C hR  ok rfl))
theorem mv_X6_either2 : MV yX6_either2 cX6_either2 3 (some .int) RX6 0 := ⟨ki_X6_either2, kv_X6_either2, kn_X6, kc_X6_either2, by decide +kernel⟩
def tbX6_atom1 : List (Nat × Instr × Nat) := [(0, .iconst 0, 1), (1, .istore_n 1, 1), (2, .aload_n 0, 1), (3, .bipush 45, 2), (5, .invokevirtual 226, 3), (8, .ifCond .eq 29, 3), (11, .aload_n 0, 1), (12, .invokevirtual 229, 3), (15, .ifCond .eq 146, 3), (18, .aload_n 0, 1), (19, .invokevirtual 294, 3), (22, .ineg, 1), (23, .istore_n 1, 1), (24, .aload_n 0, 1), (25, .dup, 1), (26, .getfield 195, 3), (29, .iconst 1, 1), (30, .isub, 1), (31, .putfield 195, 3), (34, .goto 127, 3), (37, .aload_n 0, 1), (38, .bipush 40, 2), (40, .invokevirtual 226, 3), (43, .ifCond .eq 52, 3), (46, .aload_n 0, 1), (47, .invokevirtual 229, 3), (50, .ifCond .eq 111, 3), (53, .aload_n 0, 1), (54, .invokevirtual 309, 3), (57, .istore_n 1, 1), (58, .aload_n 0, 1), (59, .bipush 41, 2), (61, .invokevirtual 226, 3), (64, .ifCond .ne 7, 3), (67, .aload_n 0, 1), (68, .invokevirtual 198, 3), (71, .aload_n 0, 1), (72, .dup, 1), (73, .getfield 195, 3), (76, .iconst 1, 1), (77, .isub, 1), (78, .putfield 195, 3), (81, .aload_n 0, 1), (82, .getfield 184, 3), (85, .ifCond .ne 76, 3), (88, .aload_n 0, 1), (89, .invokevirtual 201, 3), (92, .goto 69, 3), (95, .aload_n 0, 1), (96, .getfield 184, 3), (99, .ifCond .ne 24, 3), (102, .aload_n 0, 1), (103, .getfield 168, 3), (106, .iconst 2, 1), (107, .if_icmp .ne 16, 3), (110, .aload_n 0, 1), (111, .getfield 179, 3), (114, .l2i, 1), (115, .istore_n 1, 1), (116, .aload_n 0, 1), (117, .invokevirtual 201, 3), (120, .goto 41, 3), (123, .aload_n 0, 1), (124, .getfield 184, 3), (127, .ifCond .ne 30, 3), (130, .aload_n 0, 1), (131, .getfield 168, 3), (134, .iconst 1, 1), (135, .if_icmp .ne 22, 3), (138, .aload_n 0, 1), (139, .invokevirtual 233, 3), (142, .istore_n 1, 1), (143, .aload_n 0, 1), (144, .getfield 184, 3), (147, .ifCond .ne 14, 3), (150, .aload_n 0, 1), (151, .invokevirtual 201, 3), (154, .goto 7, 3), (157, .aload_n 0, 1), (158, .invokevirtual 198, 3), (161, .iload_n 1, 1), (162, .ireturn, 1)]
theorem tdX6_atom1 : tbX6_atom1.all (fun q => decide (decode cX6_atom1 q.1 = .ok q.2)) = true := by decide +kernel
def pX6_atom1_161  (σ : OS) (a1_ : Int32) : Int32 × OS := (a1_, σ)
set_option maxHeartbeats 4000000 in
set_option maxRecDepth 100000 in
theorem wX6_atom1_161 {X : CX} {cy : Nat → ClassId} {q : Nat → Nat} {D : va_G} {A : Nat → Prop} {res : Int32 × OS} (σ : OS) (a1_ : Int32) (C : Cx X cX6_atom1 RX6 2 D (gty cy) A 28 0 0) (hR : Rt X (some .int) D (gty cy) A 0 0 (eI (wX6 cy q res.2) res.1))  (h : pX6_atom1_161  σ a1_ = res) : At X D A 2 0 0 161 [(1, .int a1_)] [] (wX6 cy q σ) := by
  unfold pX6_atom1_161 at h
  refine r_iload_n C 0 (dall tdX6_atom1 80 rfl) rfl ?_
  exact r_iret C hR (dall tdX6_atom1 81 rfl) (by subst h; exact ⟨rfl, rfl⟩)
def pX6_atom1_157  (σ : OS) (a1_ : Int32) : Int32 × OS := pX6_atom1_161  (fX6_fail σ) a1_
set_option maxHeartbeats 4000000 in
set_option maxRecDepth 100000 in
theorem wX6_atom1_157 {X : CX} {cy : Nat → ClassId} {q : Nat → Nat} {D : va_G} {A : Nat → Prop} {res : Int32 × OS} (σ : OS) (a1_ : Int32) (C : Cx X cX6_atom1 RX6 2 D (gty cy) A 28 0 0) (hR : Rt X (some .int) D (gty cy) A 0 0 (eI (wX6 cy q res.2) res.1))  (h : pX6_atom1_157  σ a1_ = res) : At X D A 2 0 0 157 [(0, .ref (q 41)), (1, .int a1_)] [] (wX6 cy q σ) := by
  unfold pX6_atom1_157 at h
  refine r_aload_n C 0 (dall tdX6_atom1 78 rfl) rfl ?_
  refine r_vV (as := []) C (zX6_fail cy q σ  ) mv_X6_fail km_X6_198 (by decide) (by decide) ⟨Nat.le_refl _, Nat.le_refl _⟩ rfl rfl rfl rfl (Nat.le_of_ble_eq_true rfl) (dall tdX6_atom1 79 rfl) ?_
  refine r_pick [1] rfl ?_
  exact wX6_atom1_161 (fX6_fail σ) a1_ C hR  h
def pX6_atom1_154  (σ : OS) (a1_ : Int32) : Int32 × OS := pX6_atom1_161  σ a1_
set_option maxHeartbeats 4000000 in
set_option maxRecDepth 100000 in
theorem wX6_atom1_154 {X : CX} {cy : Nat → ClassId} {q : Nat → Nat} {D : va_G} {A : Nat → Prop} {res : Int32 × OS} (σ : OS) (a1_ : Int32) (C : Cx X cX6_atom1 RX6 2 D (gty cy) A 28 0 0) (hR : Rt X (some .int) D (gty cy) A 0 0 (eI (wX6 cy q res.2) res.1))  (h : pX6_atom1_154  σ a1_ = res) : At X D A 2 0 0 154 [(1, .int a1_)] [] (wX6 cy q σ) := by
  unfold pX6_atom1_154 at h
  refine r_goto (tgt := 161) C (dall tdX6_atom1 77 rfl) (by decide) ?_
  exact wX6_atom1_161 σ a1_ C hR  h
def pX6_atom1_142  (σ : OS) (b0_ : Int32) : Int32 × OS := if (σ.1 26) = 0 then pX6_atom1_154  (fX6_next σ) b0_ else pX6_atom1_161  σ b0_
def oX6_atom1_142  (σ : OS) (b0_ : Int32) : Prop := ((σ.1 26) = 0 → gX6_next σ ) ∧ (¬ ((σ.1 26) = 0) → True)
set_option maxHeartbeats 4000000 in
set_option maxRecDepth 100000 in
theorem wX6_atom1_142 {X : CX} {cy : Nat → ClassId} {q : Nat → Nat} {D : va_G} {A : Nat → Prop} {res : Int32 × OS} (σ : OS) (b0_ : Int32) (C : Cx X cX6_atom1 RX6 2 D (gty cy) A 28 0 0) (hR : Rt X (some .int) D (gty cy) A 0 0 (eI (wX6 cy q res.2) res.1))  (ok : oX6_atom1_142  σ b0_) (h : pX6_atom1_142  σ b0_ = res) : At X D A 2 0 0 142 [(0, .ref (q 41))] [.int b0_] (wX6 cy q σ) := by
  unfold pX6_atom1_142 at h
  unfold oX6_atom1_142 at ok
  refine r_istore_n (lv' := [(1, .int b0_), (0, .ref (q 41))]) C (dall tdX6_atom1 71 rfl) (by decide) rfl ?_
  refine r_aload_n C 1 (dall tdX6_atom1 72 rfl) rfl ?_
  refine r_get C 0 kw_X6 rfl rfl (by decide) kf_X6_184 rfl rfl (dall tdX6_atom1 73 rfl) ?_
  refine r_if_ne (tgt := 161) C (dall tdX6_atom1 74 rfl) (by decide) (fun c1 => ?_) (fun c1 => ?_)
  · have h := (if_neg c1).symm.trans h
    have ok := ok.2 c1
    refine r_pick [0] rfl ?_
    exact wX6_atom1_161 σ b0_ C hR  h
  · have h := (if_pos c1).symm.trans h
    have ok := ok.1 c1
    refine r_aload_n C 1 (dall tdX6_atom1 75 rfl) rfl ?_
    have o2 := ok
    refine r_vV (as := []) C (zX6_next cy q σ  o2) mv_X6_next km_X6_201 (by decide) (by decide) ⟨Nat.le_refl _, Nat.le_refl _⟩ rfl rfl rfl rfl (Nat.le_of_ble_eq_true rfl) (dall tdX6_atom1 76 rfl) ?_
    refine r_pick [0] rfl ?_
    exact wX6_atom1_154 (fX6_next σ) b0_ C hR  h
def pX6_atom1_123  (σ : OS) (a1_ : Int32) : Int32 × OS := if (σ.1 26) = 0 then if (σ.1 22) = 1 then pX6_atom1_142  ((fX6_name σ ).2) ((fX6_name σ ).1) else pX6_atom1_157  σ a1_ else pX6_atom1_157  σ a1_
def oX6_atom1_123  (σ : OS) (a1_ : Int32) : Prop := ((σ.1 26) = 0 → ((σ.1 22) = 1 → (gX6_name σ ) ∧ (oX6_atom1_142  ((fX6_name σ ).2) ((fX6_name σ ).1))) ∧ (¬ ((σ.1 22) = 1) → True)) ∧ (¬ ((σ.1 26) = 0) → True)
set_option maxHeartbeats 4000000 in
set_option maxRecDepth 100000 in
theorem wX6_atom1_123 {X : CX} {cy : Nat → ClassId} {q : Nat → Nat} {D : va_G} {A : Nat → Prop} {res : Int32 × OS} (σ : OS) (a1_ : Int32) (C : Cx X cX6_atom1 RX6 2 D (gty cy) A 28 0 0) (hR : Rt X (some .int) D (gty cy) A 0 0 (eI (wX6 cy q res.2) res.1))  (ok : oX6_atom1_123  σ a1_) (h : pX6_atom1_123  σ a1_ = res) : At X D A 2 0 0 123 [(0, .ref (q 41)), (1, .int a1_)] [] (wX6 cy q σ) := by
  unfold pX6_atom1_123 at h
  unfold oX6_atom1_123 at ok
  refine r_aload_n C 0 (dall tdX6_atom1 62 rfl) rfl ?_
  refine r_get C 0 kw_X6 rfl rfl (by decide) kf_X6_184 rfl rfl (dall tdX6_atom1 63 rfl) ?_
  refine r_if_ne (tgt := 157) C (dall tdX6_atom1 64 rfl) (by decide) (fun c3 => ?_) (fun c3 => ?_)
  · have h := (if_neg c3).symm.trans h
    have ok := ok.2 c3
    exact wX6_atom1_157 σ a1_ C hR  h
  · have h := (if_pos c3).symm.trans h
    have ok := ok.1 c3
    refine r_aload_n C 0 (dall tdX6_atom1 65 rfl) rfl ?_
    refine r_get C 0 kw_X6 rfl rfl (by decide) kf_X6_168 rfl rfl (dall tdX6_atom1 66 rfl) ?_
    refine r_iconst (v := 1) C (dall tdX6_atom1 67 rfl) (by decide) ?_
    refine r_icmp_ne (tgt := 157) C (dall tdX6_atom1 68 rfl) (by decide) (fun c4 => ?_) (fun c4 => ?_)
    · have h := (if_neg c4).symm.trans h
      have ok := ok.2 c4
      exact wX6_atom1_157 σ a1_ C hR  h
    · have h := (if_pos c4).symm.trans h
      have ok := ok.1 c4
      refine r_aload_n C 0 (dall tdX6_atom1 69 rfl) rfl ?_
      obtain ⟨o5, ok⟩ := ok
      refine r_vI (as := []) C (zX6_name cy q σ  o5) mv_X6_name km_X6_233 (by decide) (by decide) ⟨Nat.le_refl _, Nat.le_refl _⟩ rfl rfl rfl rfl (Nat.le_of_ble_eq_true rfl) (dall tdX6_atom1 70 rfl) ?_
      refine r_pick [0] rfl ?_
      exact wX6_atom1_142 ((fX6_name σ ).2) ((fX6_name σ ).1) C hR  ok h
def pX6_atom1_120  (σ : OS) (a1_ : Int32) : Int32 × OS := pX6_atom1_161  σ a1_
set_option maxHeartbeats 4000000 in
set_option maxRecDepth 100000 in
theorem wX6_atom1_120 {X : CX} {cy : Nat → ClassId} {q : Nat → Nat} {D : va_G} {A : Nat → Prop} {res : Int32 × OS} (σ : OS) (a1_ : Int32) (C : Cx X cX6_atom1 RX6 2 D (gty cy) A 28 0 0) (hR : Rt X (some .int) D (gty cy) A 0 0 (eI (wX6 cy q res.2) res.1))  (h : pX6_atom1_120  σ a1_ = res) : At X D A 2 0 0 120 [(1, .int a1_)] [] (wX6 cy q σ) := by
  unfold pX6_atom1_120 at h
  refine r_goto (tgt := 161) C (dall tdX6_atom1 61 rfl) (by decide) ?_
  exact wX6_atom1_161 σ a1_ C hR  h
def pX6_atom1_92  (σ : OS) (a1_ : Int32) : Int32 × OS := pX6_atom1_161  σ a1_
set_option maxHeartbeats 4000000 in
set_option maxRecDepth 100000 in
theorem wX6_atom1_92 {X : CX} {cy : Nat → ClassId} {q : Nat → Nat} {D : va_G} {A : Nat → Prop} {res : Int32 × OS} (σ : OS) (a1_ : Int32) (C : Cx X cX6_atom1 RX6 2 D (gty cy) A 28 0 0) (hR : Rt X (some .int) D (gty cy) A 0 0 (eI (wX6 cy q res.2) res.1))  (h : pX6_atom1_92  σ a1_ = res) : At X D A 2 0 0 92 [(1, .int a1_)] [] (wX6 cy q σ) := by
  unfold pX6_atom1_92 at h
  refine r_goto (tgt := 161) C (dall tdX6_atom1 47 rfl) (by decide) ?_
  exact wX6_atom1_161 σ a1_ C hR  h
def pX6_atom1_71  (σ : OS) (a1_ : Int32) : Int32 × OS := if ((oI σ 25 ((σ.1 25) - 1)).1 26) = 0 then pX6_atom1_92  (fX6_next (oI σ 25 ((σ.1 25) - 1))) a1_ else pX6_atom1_161  (oI σ 25 ((σ.1 25) - 1)) a1_
def oX6_atom1_71  (σ : OS) (a1_ : Int32) : Prop := (((oI σ 25 ((σ.1 25) - 1)).1 26) = 0 → gX6_next (oI σ 25 ((σ.1 25) - 1)) ) ∧ (¬ (((oI σ 25 ((σ.1 25) - 1)).1 26) = 0) → True)
set_option maxHeartbeats 4000000 in
set_option maxRecDepth 100000 in
theorem wX6_atom1_71 {X : CX} {cy : Nat → ClassId} {q : Nat → Nat} {D : va_G} {A : Nat → Prop} {res : Int32 × OS} (σ : OS) (a1_ : Int32) (C : Cx X cX6_atom1 RX6 2 D (gty cy) A 28 0 0) (hR : Rt X (some .int) D (gty cy) A 0 0 (eI (wX6 cy q res.2) res.1))  (ok : oX6_atom1_71  σ a1_) (h : pX6_atom1_71  σ a1_ = res) : At X D A 2 0 0 71 [(0, .ref (q 41)), (1, .int a1_)] [] (wX6 cy q σ) := by
  unfold pX6_atom1_71 at h
  unfold oX6_atom1_71 at ok
  refine r_aload_n C 0 (dall tdX6_atom1 36 rfl) rfl ?_
  refine r_dup C (dall tdX6_atom1 37 rfl) rfl ?_
  refine r_get C 0 kw_X6 rfl rfl (by decide) kf_X6_195 rfl rfl (dall tdX6_atom1 38 rfl) ?_
  refine r_iconst (v := 1) C (dall tdX6_atom1 39 rfl) (by decide) ?_
  refine r_isub C (dall tdX6_atom1 40 rfl) ?_
  refine r_put C 0 kw_X6 tyX6_ok nmX6 rfl rfl (by decide) kf_X6_195 rfl rfl rfl rfl rfl (Nat.le_of_ble_eq_true rfl) (pu_X6_this_25 cy q σ ((σ.1 25) - 1)) (dall tdX6_atom1 41 rfl) ?_
  refine r_aload_n C 0 (dall tdX6_atom1 42 rfl) rfl ?_
  refine r_get C 0 kw_X6 rfl rfl (by decide) kf_X6_184 rfl rfl (dall tdX6_atom1 43 rfl) ?_
  refine r_if_ne (tgt := 161) C (dall tdX6_atom1 44 rfl) (by decide) (fun c6 => ?_) (fun c6 => ?_)
  · have h := (if_neg c6).symm.trans h
    have ok := ok.2 c6
    refine r_pick [1] rfl ?_
    exact wX6_atom1_161 (oI σ 25 ((σ.1 25) - 1)) a1_ C hR  h
  · have h := (if_pos c6).symm.trans h
    have ok := ok.1 c6
    refine r_aload_n C 0 (dall tdX6_atom1 45 rfl) rfl ?_
    have o7 := ok
    refine r_vV (as := []) C (zX6_next cy q (oI σ 25 ((σ.1 25) - 1))  o7) mv_X6_next km_X6_201 (by decide) (by decide) ⟨Nat.le_refl _, Nat.le_refl _⟩ rfl rfl rfl rfl (Nat.le_of_ble_eq_true rfl) (dall tdX6_atom1 46 rfl) ?_
    refine r_pick [1] rfl ?_
    exact wX6_atom1_92 (fX6_next (oI σ 25 ((σ.1 25) - 1))) a1_ C hR  h
def pX6_atom1_57  (σ : OS) (b0_ : Int32) : Int32 × OS := if (fX6_isSign σ 41) = 0 then pX6_atom1_71  (fX6_fail σ) b0_ else pX6_atom1_71  σ b0_
def oX6_atom1_57  (σ : OS) (b0_ : Int32) : Prop := ((fX6_isSign σ 41) = 0 → oX6_atom1_71  (fX6_fail σ) b0_) ∧ (¬ ((fX6_isSign σ 41) = 0) → oX6_atom1_71  σ b0_)
set_option maxHeartbeats 4000000 in
set_option maxRecDepth 100000 in
theorem wX6_atom1_57 {X : CX} {cy : Nat → ClassId} {q : Nat → Nat} {D : va_G} {A : Nat → Prop} {res : Int32 × OS} (σ : OS) (b0_ : Int32) (C : Cx X cX6_atom1 RX6 2 D (gty cy) A 28 0 0) (hR : Rt X (some .int) D (gty cy) A 0 0 (eI (wX6 cy q res.2) res.1))  (ok : oX6_atom1_57  σ b0_) (h : pX6_atom1_57  σ b0_ = res) : At X D A 2 0 0 57 [(0, .ref (q 41))] [.int b0_] (wX6 cy q σ) := by
  unfold pX6_atom1_57 at h
  unfold oX6_atom1_57 at ok
  refine r_istore_n (lv' := [(1, .int b0_), (0, .ref (q 41))]) C (dall tdX6_atom1 29 rfl) (by decide) rfl ?_
  refine r_aload_n C 1 (dall tdX6_atom1 30 rfl) rfl ?_
  refine r_bipush (v := 41) C (dall tdX6_atom1 31 rfl) (by decide) ?_
  refine r_vI (as := [.int 41]) C (zX6_isSign cy q σ 41 ) mv_X6_isSign km_X6_226 (by decide) (by decide) ⟨Nat.le_refl _, Nat.le_refl _⟩ rfl rfl rfl rfl (Nat.le_of_ble_eq_true rfl) (dall tdX6_atom1 32 rfl) ?_
  refine r_if_ne (tgt := 71) C (dall tdX6_atom1 33 rfl) (by decide) (fun c8 => ?_) (fun c8 => ?_)
  · have h := (if_neg c8).symm.trans h
    have ok := ok.2 c8
    refine r_pick [1, 0] rfl ?_
    exact wX6_atom1_71 σ b0_ C hR  ok h
  · have h := (if_pos c8).symm.trans h
    have ok := ok.1 c8
    refine r_aload_n C 1 (dall tdX6_atom1 34 rfl) rfl ?_
    refine r_vV (as := []) C (zX6_fail cy q σ  ) mv_X6_fail km_X6_198 (by decide) (by decide) ⟨Nat.le_refl _, Nat.le_refl _⟩ rfl rfl rfl rfl (Nat.le_of_ble_eq_true rfl) (dall tdX6_atom1 35 rfl) ?_
    refine r_pick [1, 0] rfl ?_
    exact wX6_atom1_71 (fX6_fail σ) b0_ C hR  ok h
def pX6_atom1_50  (σ : OS) (a1_ : Int32) (b0_ : Int32) : Int32 × OS := if b0_ = 0 then pX6_atom1_161  σ a1_ else pX6_atom1_57  ((fX6_either2 σ ).2) ((fX6_either2 σ ).1)
def oX6_atom1_50  (σ : OS) (a1_ : Int32) (b0_ : Int32) : Prop := (b0_ = 0 → True) ∧ (¬ (b0_ = 0) → (gX6_either2 σ ) ∧ (oX6_atom1_57  ((fX6_either2 σ ).2) ((fX6_either2 σ ).1)))
set_option maxHeartbeats 4000000 in
set_option maxRecDepth 100000 in
theorem wX6_atom1_50 {X : CX} {cy : Nat → ClassId} {q : Nat → Nat} {D : va_G} {A : Nat → Prop} {res : Int32 × OS} (σ : OS) (a1_ : Int32) (b0_ : Int32) (C : Cx X cX6_atom1 RX6 2 D (gty cy) A 28 0 0) (hR : Rt X (some .int) D (gty cy) A 0 0 (eI (wX6 cy q res.2) res.1))  (ok : oX6_atom1_50  σ a1_ b0_) (h : pX6_atom1_50  σ a1_ b0_ = res) : At X D A 2 0 0 50 [(0, .ref (q 41)), (1, .int a1_)] [.int b0_] (wX6 cy q σ) := by
  unfold pX6_atom1_50 at h
  unfold oX6_atom1_50 at ok
  refine r_if_eq (tgt := 161) C (dall tdX6_atom1 26 rfl) (by decide) (fun c9 => ?_) (fun c9 => ?_)
  · have h := (if_pos c9).symm.trans h
    have ok := ok.1 c9
    refine r_pick [1] rfl ?_
    exact wX6_atom1_161 σ a1_ C hR  h
  · have h := (if_neg c9).symm.trans h
    have ok := ok.2 c9
    refine r_aload_n C 0 (dall tdX6_atom1 27 rfl) rfl ?_
    obtain ⟨o10, ok⟩ := ok
    refine r_vI (as := []) C (zX6_either2 cy q σ  o10) mv_X6_either2 km_X6_309 (by decide) (by decide) ⟨Nat.le_refl _, Nat.le_refl _⟩ rfl rfl rfl rfl (Nat.le_of_ble_eq_true rfl) (dall tdX6_atom1 28 rfl) ?_
    refine r_pick [0] rfl ?_
    exact wX6_atom1_57 ((fX6_either2 σ ).2) ((fX6_either2 σ ).1) C hR  ok h
def pX6_atom1_22  (σ : OS) (b0_ : Int32) : Int32 × OS := pX6_atom1_161  (oI σ 25 ((σ.1 25) - 1)) (-b0_)
set_option maxHeartbeats 4000000 in
set_option maxRecDepth 100000 in
theorem wX6_atom1_22 {X : CX} {cy : Nat → ClassId} {q : Nat → Nat} {D : va_G} {A : Nat → Prop} {res : Int32 × OS} (σ : OS) (b0_ : Int32) (C : Cx X cX6_atom1 RX6 2 D (gty cy) A 28 0 0) (hR : Rt X (some .int) D (gty cy) A 0 0 (eI (wX6 cy q res.2) res.1))  (h : pX6_atom1_22  σ b0_ = res) : At X D A 2 0 0 22 [(0, .ref (q 41))] [.int b0_] (wX6 cy q σ) := by
  unfold pX6_atom1_22 at h
  refine r_ineg C (dall tdX6_atom1 11 rfl) ?_
  refine r_istore_n (lv' := [(1, .int (-b0_)), (0, .ref (q 41))]) C (dall tdX6_atom1 12 rfl) (by decide) rfl ?_
  refine r_aload_n C 1 (dall tdX6_atom1 13 rfl) rfl ?_
  refine r_dup C (dall tdX6_atom1 14 rfl) rfl ?_
  refine r_get C 0 kw_X6 rfl rfl (by decide) kf_X6_195 rfl rfl (dall tdX6_atom1 15 rfl) ?_
  refine r_iconst (v := 1) C (dall tdX6_atom1 16 rfl) (by decide) ?_
  refine r_isub C (dall tdX6_atom1 17 rfl) ?_
  refine r_put C 0 kw_X6 tyX6_ok nmX6 rfl rfl (by decide) kf_X6_195 rfl rfl rfl rfl rfl (Nat.le_of_ble_eq_true rfl) (pu_X6_this_25 cy q σ ((σ.1 25) - 1)) (dall tdX6_atom1 18 rfl) ?_
  refine r_goto (tgt := 161) C (dall tdX6_atom1 19 rfl) (by decide) ?_
  refine r_pick [0] rfl ?_
  exact wX6_atom1_161 (oI σ 25 ((σ.1 25) - 1)) (-b0_) C hR  h
def pX6_atom1_15  (σ : OS) (a1_ : Int32) (b0_ : Int32) : Int32 × OS := if b0_ = 0 then pX6_atom1_161  σ a1_ else pX6_atom1_22  ((fX6_atom2 σ ).2) ((fX6_atom2 σ ).1)
def oX6_atom1_15  (σ : OS) (a1_ : Int32) (b0_ : Int32) : Prop := (b0_ = 0 → True) ∧ (¬ (b0_ = 0) → gX6_atom2 σ )
set_option maxHeartbeats 4000000 in
set_option maxRecDepth 100000 in
theorem wX6_atom1_15 {X : CX} {cy : Nat → ClassId} {q : Nat → Nat} {D : va_G} {A : Nat → Prop} {res : Int32 × OS} (σ : OS) (a1_ : Int32) (b0_ : Int32) (C : Cx X cX6_atom1 RX6 2 D (gty cy) A 28 0 0) (hR : Rt X (some .int) D (gty cy) A 0 0 (eI (wX6 cy q res.2) res.1))  (ok : oX6_atom1_15  σ a1_ b0_) (h : pX6_atom1_15  σ a1_ b0_ = res) : At X D A 2 0 0 15 [(0, .ref (q 41)), (1, .int a1_)] [.int b0_] (wX6 cy q σ) := by
  unfold pX6_atom1_15 at h
  unfold oX6_atom1_15 at ok
  refine r_if_eq (tgt := 161) C (dall tdX6_atom1 8 rfl) (by decide) (fun c11 => ?_) (fun c11 => ?_)
  · have h := (if_pos c11).symm.trans h
    have ok := ok.1 c11
    refine r_pick [1] rfl ?_
    exact wX6_atom1_161 σ a1_ C hR  h
  · have h := (if_neg c11).symm.trans h
    have ok := ok.2 c11
    refine r_aload_n C 0 (dall tdX6_atom1 9 rfl) rfl ?_
    have o12 := ok
    refine r_vI (as := []) C (zX6_atom2 cy q σ  o12) mv_X6_atom2 km_X6_294 (by decide) (by decide) ⟨Nat.le_refl _, Nat.le_refl _⟩ rfl rfl rfl rfl (Nat.le_of_ble_eq_true rfl) (dall tdX6_atom1 10 rfl) ?_
    refine r_pick [0] rfl ?_
    exact wX6_atom1_22 ((fX6_atom2 σ ).2) ((fX6_atom2 σ ).1) C hR  h
def pX6_atom1_0  (σ : OS) : Int32 × OS := if (fX6_isSign σ 45) = 0 then if (fX6_isSign σ 40) = 0 then if (σ.1 26) = 0 then if (σ.1 22) = 2 then pX6_atom1_120  (fX6_next σ) ((σ.2.1 24).toInt32) else pX6_atom1_123  σ 0 else pX6_atom1_123  σ 0 else pX6_atom1_50  ((fX6_opens σ ).2) 0 ((fX6_opens σ ).1) else pX6_atom1_15  ((fX6_opens σ ).2) 0 ((fX6_opens σ ).1)
def oX6_atom1_0  (σ : OS) : Prop := ((fX6_isSign σ 45) = 0 → ((fX6_isSign σ 40) = 0 → ((σ.1 26) = 0 → ((σ.1 22) = 2 → gX6_next σ ) ∧ (¬ ((σ.1 22) = 2) → oX6_atom1_123  σ 0)) ∧ (¬ ((σ.1 26) = 0) → oX6_atom1_123  σ 0)) ∧ (¬ ((fX6_isSign σ 40) = 0) → (gX6_opens σ ) ∧ (oX6_atom1_50  ((fX6_opens σ ).2) 0 ((fX6_opens σ ).1)))) ∧ (¬ ((fX6_isSign σ 45) = 0) → (gX6_opens σ ) ∧ (oX6_atom1_15  ((fX6_opens σ ).2) 0 ((fX6_opens σ ).1)))
set_option maxHeartbeats 4000000 in
set_option maxRecDepth 100000 in
theorem wX6_atom1_0 {X : CX} {cy : Nat → ClassId} {q : Nat → Nat} {D : va_G} {A : Nat → Prop} {res : Int32 × OS} (σ : OS) (C : Cx X cX6_atom1 RX6 2 D (gty cy) A 28 0 0) (hR : Rt X (some .int) D (gty cy) A 0 0 (eI (wX6 cy q res.2) res.1))  (ok : oX6_atom1_0  σ) (h : pX6_atom1_0  σ = res) : At X D A 2 0 0 0 [(0, .ref (q 41))] [] (wX6 cy q σ) := by
  unfold pX6_atom1_0 at h
  unfold oX6_atom1_0 at ok
  refine r_iconst (v := 0) C (dall tdX6_atom1 0 rfl) (by decide) ?_
  refine r_istore_n (lv' := [(1, .int 0), (0, .ref (q 41))]) C (dall tdX6_atom1 1 rfl) (by decide) rfl ?_
  refine r_aload_n C 1 (dall tdX6_atom1 2 rfl) rfl ?_
  refine r_bipush (v := 45) C (dall tdX6_atom1 3 rfl) (by decide) ?_
  refine r_vI (as := [.int 45]) C (zX6_isSign cy q σ 45 ) mv_X6_isSign km_X6_226 (by decide) (by decide) ⟨Nat.le_refl _, Nat.le_refl _⟩ rfl rfl rfl rfl (Nat.le_of_ble_eq_true rfl) (dall tdX6_atom1 4 rfl) ?_
  refine r_if_eq (tgt := 37) C (dall tdX6_atom1 5 rfl) (by decide) (fun c13 => ?_) (fun c13 => ?_)
  · have h := (if_pos c13).symm.trans h
    have ok := ok.1 c13
    refine r_aload_n C 1 (dall tdX6_atom1 20 rfl) rfl ?_
    refine r_bipush (v := 40) C (dall tdX6_atom1 21 rfl) (by decide) ?_
    refine r_vI (as := [.int 40]) C (zX6_isSign cy q σ 40 ) mv_X6_isSign km_X6_226 (by decide) (by decide) ⟨Nat.le_refl _, Nat.le_refl _⟩ rfl rfl rfl rfl (Nat.le_of_ble_eq_true rfl) (dall tdX6_atom1 22 rfl) ?_
    refine r_if_eq (tgt := 95) C (dall tdX6_atom1 23 rfl) (by decide) (fun c14 => ?_) (fun c14 => ?_)
    · have h := (if_pos c14).symm.trans h
      have ok := ok.1 c14
      refine r_aload_n C 1 (dall tdX6_atom1 48 rfl) rfl ?_
      refine r_get C 0 kw_X6 rfl rfl (by decide) kf_X6_184 rfl rfl (dall tdX6_atom1 49 rfl) ?_
      refine r_if_ne (tgt := 123) C (dall tdX6_atom1 50 rfl) (by decide) (fun c15 => ?_) (fun c15 => ?_)
      · have h := (if_neg c15).symm.trans h
        have ok := ok.2 c15
        refine r_pick [1, 0] rfl ?_
        exact wX6_atom1_123 σ 0 C hR  ok h
      · have h := (if_pos c15).symm.trans h
        have ok := ok.1 c15
        refine r_aload_n C 1 (dall tdX6_atom1 51 rfl) rfl ?_
        refine r_get C 0 kw_X6 rfl rfl (by decide) kf_X6_168 rfl rfl (dall tdX6_atom1 52 rfl) ?_
        refine r_iconst (v := 2) C (dall tdX6_atom1 53 rfl) (by decide) ?_
        refine r_icmp_ne (tgt := 123) C (dall tdX6_atom1 54 rfl) (by decide) (fun c16 => ?_) (fun c16 => ?_)
        · have h := (if_neg c16).symm.trans h
          have ok := ok.2 c16
          refine r_pick [1, 0] rfl ?_
          exact wX6_atom1_123 σ 0 C hR  ok h
        · have h := (if_pos c16).symm.trans h
          have ok := ok.1 c16
          refine r_aload_n C 1 (dall tdX6_atom1 55 rfl) rfl ?_
          refine r_get C 0 kw_X6 rfl rfl (by decide) kf_X6_179 rfl rfl (dall tdX6_atom1 56 rfl) ?_
          refine r_l2i C (dall tdX6_atom1 57 rfl) ?_
          refine r_istore_n (lv' := [(1, .int ((σ.2.1 24).toInt32)), (0, .ref (q 41))]) C (dall tdX6_atom1 58 rfl) (by decide) rfl ?_
          refine r_aload_n C 1 (dall tdX6_atom1 59 rfl) rfl ?_
          have o17 := ok
          refine r_vV (as := []) C (zX6_next cy q σ  o17) mv_X6_next km_X6_201 (by decide) (by decide) ⟨Nat.le_refl _, Nat.le_refl _⟩ rfl rfl rfl rfl (Nat.le_of_ble_eq_true rfl) (dall tdX6_atom1 60 rfl) ?_
          refine r_pick [0] rfl ?_
          exact wX6_atom1_120 (fX6_next σ) ((σ.2.1 24).toInt32) C hR  h
    · have h := (if_neg c14).symm.trans h
      have ok := ok.2 c14
      refine r_aload_n C 1 (dall tdX6_atom1 24 rfl) rfl ?_
      obtain ⟨o18, ok⟩ := ok
      refine r_vI (as := []) C (zX6_opens cy q σ  o18) mv_X6_opens km_X6_229 (by decide) (by decide) ⟨Nat.le_refl _, Nat.le_refl _⟩ rfl rfl rfl rfl (Nat.le_of_ble_eq_true rfl) (dall tdX6_atom1 25 rfl) ?_
      refine r_pick [1, 0] rfl ?_
      exact wX6_atom1_50 ((fX6_opens σ ).2) 0 ((fX6_opens σ ).1) C hR  ok h
  · have h := (if_neg c13).symm.trans h
    have ok := ok.2 c13
    refine r_aload_n C 1 (dall tdX6_atom1 6 rfl) rfl ?_
    obtain ⟨o19, ok⟩ := ok
    refine r_vI (as := []) C (zX6_opens cy q σ  o19) mv_X6_opens km_X6_229 (by decide) (by decide) ⟨Nat.le_refl _, Nat.le_refl _⟩ rfl rfl rfl rfl (Nat.le_of_ble_eq_true rfl) (dall tdX6_atom1 7 rfl) ?_
    refine r_pick [1, 0] rfl ?_
    exact wX6_atom1_15 ((fX6_opens σ ).2) 0 ((fX6_opens σ ).1) C hR  ok h
def fX6_atom1 (σ : OS) : Int32 × OS := pX6_atom1_0  σ
def gX6_atom1 (σ : OS) : Prop := oX6_atom1_0  σ
set_option maxRecDepth 100000 in
theorem zX6_atom1 (cy : Nat → ClassId) (q : Nat → Nat)  {D : va_G} (σ : OS) (ok : gX6_atom1 σ )  : Con yX6_atom1 cX6_atom1 2 (some .int) 28 0 0 D (gty cy) [.ref (q 41)] (wX6 cy q σ) (eI (wX6 cy q (fX6_atom1 σ ).2) (fX6_atom1 σ ).1) :=
  Con.of (own := RX6) (by decide +kernel) rfl (Nat.le_of_ble_eq_true rfl) (Nat.zero_le _) (fun X A C hR _ => (wX6_atom1_0 σ C hR  ok rfl))
theorem mv_X6_atom1 : MV yX6_atom1 cX6_atom1 2 (some .int) RX6 0 := ⟨ki_X6_atom1, kv_X6_atom1, kn_X6, kc_X6_atom1, by decide +kernel⟩

def tbX6_term1 : List (Nat × Instr × Nat) := [(0, .aload_n 0, 1), (1, .invokevirtual 312, 3), (4, .istore_n 1, 1), (5, .aload_n 0, 1), (6, .bipush 42, 2), (8, .invokevirtual 226, 3), (11, .ifCond .eq 17, 3), (14, .aload_n 0, 1), (15, .invokevirtual 201, 3), (18, .iload_n 1, 1), (19, .aload_n 0, 1), (20, .invokevirtual 312, 3), (23, .imul, 1), (24, .istore_n 1, 1), (25, .goto (-20), 3), (28, .iload_n 1, 1), (29, .ireturn, 1)]
theorem tdX6_term1 : tbX6_term1.all (fun q => decide (decode cX6_term1 q.1 = .ok q.2)) = true := by decide +kernel
def pX6_term1_23 (kR5 : OS × Int32 → Int32 × OS) (σ : OS) (b0_ : Int32) (b1_ : Int32) : Int32 × OS := kR5 (σ, b1_ * b0_)
def oX6_term1_23 (kO5 : OS × Int32 → Prop) (σ : OS) (b0_ : Int32) (b1_ : Int32) : Prop := kO5 (σ, b1_ * b0_)
set_option maxHeartbeats 4000000 in
set_option maxRecDepth 100000 in
theorem wX6_term1_23 {X : CX} {cy : Nat → ClassId} {q : Nat → Nat} {D : va_G} {A : Nat → Prop} {res : Int32 × OS} (σ : OS) (b0_ : Int32) (b1_ : Int32) (C : Cx X cX6_term1 RX6 2 D (gty cy) A 29 0 0) (hR : Rt X (some .int) D (gty cy) A 0 0 (eI (wX6 cy q res.2) res.1)) (kR5 : OS × Int32 → Int32 × OS) (kO5 : OS × Int32 → Prop) (hk5 : ∀ z, kO5 z → kR5 z = res → At X D A 2 0 0 5 [(0, .ref (q 41)), (1, .int z.2)] [] (wX6 cy q z.1)) (ok : oX6_term1_23 kO5 σ b0_ b1_) (h : pX6_term1_23 kR5 σ b0_ b1_ = res) : At X D A 2 0 0 23 [(0, .ref (q 41))] [.int b0_, .int b1_] (wX6 cy q σ) := by
  unfold pX6_term1_23 at h
  unfold oX6_term1_23 at ok
  refine r_imul C (dall tdX6_term1 12 rfl) ?_
  refine r_istore_n (lv' := [(1, .int (b1_ * b0_)), (0, .ref (q 41))]) C (dall tdX6_term1 13 rfl) (by decide) rfl ?_
  refine r_goto (tgt := 5) C (dall tdX6_term1 14 rfl) (by decide) ?_
  refine r_pick [1, 0] rfl ?_
  exact hk5 (σ, b1_ * b0_) ok h
def pX6_term1_18 (kR5 : OS × Int32 → Int32 × OS) (σ : OS) (a1_ : Int32) : Int32 × OS := pX6_term1_23 kR5 ((fX6_atom1 σ ).2) ((fX6_atom1 σ ).1) a1_
def oX6_term1_18 (kO5 : OS × Int32 → Prop) (σ : OS) (a1_ : Int32) : Prop := (gX6_atom1 σ ) ∧ (oX6_term1_23 kO5 ((fX6_atom1 σ ).2) ((fX6_atom1 σ ).1) a1_)
set_option maxHeartbeats 4000000 in
set_option maxRecDepth 100000 in
theorem wX6_term1_18 {X : CX} {cy : Nat → ClassId} {q : Nat → Nat} {D : va_G} {A : Nat → Prop} {res : Int32 × OS} (σ : OS) (a1_ : Int32) (C : Cx X cX6_term1 RX6 2 D (gty cy) A 29 0 0) (hR : Rt X (some .int) D (gty cy) A 0 0 (eI (wX6 cy q res.2) res.1)) (kR5 : OS × Int32 → Int32 × OS) (kO5 : OS × Int32 → Prop) (hk5 : ∀ z, kO5 z → kR5 z = res → At X D A 2 0 0 5 [(0, .ref (q 41)), (1, .int z.2)] [] (wX6 cy q z.1)) (ok : oX6_term1_18 kO5 σ a1_) (h : pX6_term1_18 kR5 σ a1_ = res) : At X D A 2 0 0 18 [(0, .ref (q 41)), (1, .int a1_)] [] (wX6 cy q σ) := by
  unfold pX6_term1_18 at h
  unfold oX6_term1_18 at ok
  refine r_iload_n C 1 (dall tdX6_term1 9 rfl) rfl ?_
  refine r_aload_n C 0 (dall tdX6_term1 10 rfl) rfl ?_
  obtain ⟨o1, ok⟩ := ok
  refine r_vI (as := []) C (zX6_atom1 cy q σ  o1) mv_X6_atom1 km_X6_312 (by decide) (by decide) ⟨Nat.le_refl _, Nat.le_refl _⟩ rfl rfl rfl rfl (Nat.le_of_ble_eq_true rfl) (dall tdX6_term1 11 rfl) ?_
  refine r_pick [0] rfl ?_
  exact wX6_term1_23 ((fX6_atom1 σ ).2) ((fX6_atom1 σ ).1) a1_ C hR kR5 kO5 hk5 ok h
def bX6_term1_5   (kR5 : OS × Int32 → Int32 × OS) (v : OS × Int32) : Int32 × OS := if (fX6_isSign v.1 42) = 0 then (v.2, v.1) else pX6_term1_18 kR5 (fX6_next v.1) v.2
def kX6_term1_5   (kO5 : OS × Int32 → Prop) (v : OS × Int32) : Prop := ((fX6_isSign v.1 42) = 0 → True) ∧ (¬ ((fX6_isSign v.1 42) = 0) → (gX6_next v.1 ) ∧ (oX6_term1_18 kO5 (fX6_next v.1) v.2))
set_option maxHeartbeats 4000000 in
set_option maxRecDepth 100000 in
theorem wX6_term1_5 {X : CX} {cy : Nat → ClassId} {q : Nat → Nat} {D : va_G} {A : Nat → Prop} {res : Int32 × OS}  (C : Cx X cX6_term1 RX6 2 D (gty cy) A 29 0 0) (hR : Rt X (some .int) D (gty cy) A 0 0 (eI (wX6 cy q res.2) res.1)) (kR5 : OS × Int32 → Int32 × OS) (kO5 : OS × Int32 → Prop) (hk5 : ∀ z, kO5 z → kR5 z = res → At X D A 2 0 0 5 [(0, .ref (q 41)), (1, .int z.2)] [] (wX6 cy q z.1)) (v : OS × Int32) (ok : kX6_term1_5  kO5 v) (h : bX6_term1_5  kR5 v = res) : At X D A 2 0 0 5 [(0, .ref (q 41)), (1, .int v.2)] [] (wX6 cy q v.1) := by
  unfold bX6_term1_5 at h
  unfold kX6_term1_5 at ok
  refine r_aload_n C 0 (dall tdX6_term1 3 rfl) rfl ?_
  refine r_bipush (v := 42) C (dall tdX6_term1 4 rfl) (by decide) ?_
  refine r_vI (as := [.int 42]) C (zX6_isSign cy q v.1 42 ) mv_X6_isSign km_X6_226 (by decide) (by decide) ⟨Nat.le_refl _, Nat.le_refl _⟩ rfl rfl rfl rfl (Nat.le_of_ble_eq_true rfl) (dall tdX6_term1 5 rfl) ?_
  refine r_if_eq (tgt := 28) C (dall tdX6_term1 6 rfl) (by decide) (fun c2 => ?_) (fun c2 => ?_)
  · have h := (if_pos c2).symm.trans h
    have ok := ok.1 c2
    refine r_iload_n C 1 (dall tdX6_term1 15 rfl) rfl ?_
    exact r_iret C hR (dall tdX6_term1 16 rfl) (by subst h; exact ⟨rfl, rfl⟩)
  · have h := (if_neg c2).symm.trans h
    have ok := ok.2 c2
    refine r_aload_n C 0 (dall tdX6_term1 7 rfl) rfl ?_
    obtain ⟨o3, ok⟩ := ok
    refine r_vV (as := []) C (zX6_next cy q v.1  o3) mv_X6_next km_X6_201 (by decide) (by decide) ⟨Nat.le_refl _, Nat.le_refl _⟩ rfl rfl rfl rfl (Nat.le_of_ble_eq_true rfl) (dall tdX6_term1 8 rfl) ?_
    exact wX6_term1_18 (fX6_next v.1) v.2 C hR kR5 kO5 hk5 ok h
set_option maxHeartbeats 4000000 in
set_option maxRecDepth 100000 in
theorem lX6_term1_5 {X : CX} {cy : Nat → ClassId} {q : Nat → Nat} {D : va_G} {A : Nat → Prop} {res : Int32 × OS}  (C : Cx X cX6_term1 RX6 2 D (gty cy) A 29 0 0) (hR : Rt X (some .int) D (gty cy) A 0 0 (eI (wX6 cy q res.2) res.1))  (n : Nat) (v : OS × Int32) (ok : lpOk (kX6_term1_5  ) n v) (h : lp (0, o0) (bX6_term1_5  ) n v = res) : At X D A 2 0 0 5 [(0, .ref (q 41)), (1, .int v.2)] [] (wX6 cy q v.1) :=
  lp_rule (fun v rr_ => rr_ = res → At X D A 2 0 0 5 [(0, .ref (q 41)), (1, .int v.2)] [] (wX6 cy q v.1)) (fun kR kO hk v ok h => wX6_term1_5  C hR  kR kO hk v ok h) n v ok h
def pX6_term1_4  (σ : OS) (b0_ : Int32) : Int32 × OS := lp (0, o0) (bX6_term1_5  ) fu (σ, b0_)
def oX6_term1_4  (σ : OS) (b0_ : Int32) : Prop := lpOk (kX6_term1_5  ) fu (σ, b0_)
set_option maxHeartbeats 4000000 in
set_option maxRecDepth 100000 in
theorem wX6_term1_4 {X : CX} {cy : Nat → ClassId} {q : Nat → Nat} {D : va_G} {A : Nat → Prop} {res : Int32 × OS} (σ : OS) (b0_ : Int32) (C : Cx X cX6_term1 RX6 2 D (gty cy) A 29 0 0) (hR : Rt X (some .int) D (gty cy) A 0 0 (eI (wX6 cy q res.2) res.1))  (ok : oX6_term1_4  σ b0_) (h : pX6_term1_4  σ b0_ = res) : At X D A 2 0 0 4 [(0, .ref (q 41))] [.int b0_] (wX6 cy q σ) := by
  unfold pX6_term1_4 at h
  unfold oX6_term1_4 at ok
  refine r_istore_n (lv' := [(1, .int b0_), (0, .ref (q 41))]) C (dall tdX6_term1 2 rfl) (by decide) rfl ?_
  refine r_pick [1, 0] rfl ?_
  exact lX6_term1_5  C hR  fu _ ok h
def pX6_term1_0  (σ : OS) : Int32 × OS := pX6_term1_4  ((fX6_atom1 σ ).2) ((fX6_atom1 σ ).1)
def oX6_term1_0  (σ : OS) : Prop := (gX6_atom1 σ ) ∧ (oX6_term1_4  ((fX6_atom1 σ ).2) ((fX6_atom1 σ ).1))
set_option maxHeartbeats 4000000 in
set_option maxRecDepth 100000 in
theorem wX6_term1_0 {X : CX} {cy : Nat → ClassId} {q : Nat → Nat} {D : va_G} {A : Nat → Prop} {res : Int32 × OS} (σ : OS) (C : Cx X cX6_term1 RX6 2 D (gty cy) A 29 0 0) (hR : Rt X (some .int) D (gty cy) A 0 0 (eI (wX6 cy q res.2) res.1))  (ok : oX6_term1_0  σ) (h : pX6_term1_0  σ = res) : At X D A 2 0 0 0 [(0, .ref (q 41))] [] (wX6 cy q σ) := by
  unfold pX6_term1_0 at h
  unfold oX6_term1_0 at ok
  refine r_aload_n C 0 (dall tdX6_term1 0 rfl) rfl ?_
  obtain ⟨o4, ok⟩ := ok
  refine r_vI (as := []) C (zX6_atom1 cy q σ  o4) mv_X6_atom1 km_X6_312 (by decide) (by decide) ⟨Nat.le_refl _, Nat.le_refl _⟩ rfl rfl rfl rfl (Nat.le_of_ble_eq_true rfl) (dall tdX6_term1 1 rfl) ?_
  exact wX6_term1_4 ((fX6_atom1 σ ).2) ((fX6_atom1 σ ).1) C hR  ok h
def fX6_term1 (σ : OS) : Int32 × OS := pX6_term1_0  σ
def gX6_term1 (σ : OS) : Prop := oX6_term1_0  σ
set_option maxRecDepth 100000 in
theorem zX6_term1 (cy : Nat → ClassId) (q : Nat → Nat)  {D : va_G} (σ : OS) (ok : gX6_term1 σ )  : Con yX6_term1 cX6_term1 2 (some .int) 29 0 0 D (gty cy) [.ref (q 41)] (wX6 cy q σ) (eI (wX6 cy q (fX6_term1 σ ).2) (fX6_term1 σ ).1) :=
  Con.of (own := RX6) (by decide +kernel) rfl (Nat.le_of_ble_eq_true rfl) (Nat.zero_le _) (fun X A C hR _ => (wX6_term1_0 σ C hR  ok rfl))
theorem mv_X6_term1 : MV yX6_term1 cX6_term1 2 (some .int) RX6 0 := ⟨ki_X6_term1, kv_X6_term1, kn_X6, kc_X6_term1, by decide +kernel⟩
def tbX6_added1 : List (Nat × Instr × Nat) := [(0, .aload_n 0, 1), (1, .invokevirtual 315, 3), (4, .istore_n 1, 1), (5, .aload_n 0, 1), (6, .bipush 43, 2), (8, .invokevirtual 226, 3), (11, .ifCond .ne 12, 3), (14, .aload_n 0, 1), (15, .bipush 45, 2), (17, .invokevirtual 226, 3), (20, .ifCond .eq 46, 3), (23, .aload_n 0, 1), (24, .getfield 179, 3), (27, .ldc2_w 242, 3), (30, .lcmp, 1), (31, .ifCond .ne 7, 3), (34, .iconst 1, 1), (35, .goto 4, 3), (38, .iconst 0, 1), (39, .istore_n 2, 1), (40, .aload_n 0, 1), (41, .invokevirtual 201, 3), (44, .aload_n 0, 1), (45, .invokevirtual 315, 3), (48, .istore_n 3, 1), (49, .iload_n 2, 1), (50, .ifCond .eq 9, 3), (53, .iload_n 1, 1), (54, .iload_n 3, 1), (55, .iadd, 1), (56, .goto 6, 3), (59, .iload_n 1, 1), (60, .iload_n 3, 1), (61, .isub, 1), (62, .istore_n 1, 1), (63, .goto (-58), 3), (66, .iload_n 1, 1), (67, .ireturn, 1)]
theorem tdX6_added1 : tbX6_added1.all (fun q => decide (decode cX6_added1 q.1 = .ok q.2)) = true := by decide +kernel
def pX6_added1_62 (kR5 : OS × Int32 → Int32 × OS) (σ : OS) (b0_ : Int32) : Int32 × OS := kR5 (σ, b0_)
def oX6_added1_62 (kO5 : OS × Int32 → Prop) (σ : OS) (b0_ : Int32) : Prop := kO5 (σ, b0_)
set_option maxHeartbeats 4000000 in
set_option maxRecDepth 100000 in
theorem wX6_added1_62 {X : CX} {cy : Nat → ClassId} {q : Nat → Nat} {D : va_G} {A : Nat → Prop} {res : Int32 × OS} (σ : OS) (b0_ : Int32) (C : Cx X cX6_added1 RX6 4 D (gty cy) A 30 0 0) (hR : Rt X (some .int) D (gty cy) A 0 0 (eI (wX6 cy q res.2) res.1)) (kR5 : OS × Int32 → Int32 × OS) (kO5 : OS × Int32 → Prop) (hk5 : ∀ z, kO5 z → kR5 z = res → At X D A 4 0 0 5 [(0, .ref (q 41)), (1, .int z.2)] [] (wX6 cy q z.1)) (ok : oX6_added1_62 kO5 σ b0_) (h : pX6_added1_62 kR5 σ b0_ = res) : At X D A 4 0 0 62 [(0, .ref (q 41))] [.int b0_] (wX6 cy q σ) := by
  unfold pX6_added1_62 at h
  unfold oX6_added1_62 at ok
  refine r_istore_n (lv' := [(1, .int b0_), (0, .ref (q 41))]) C (dall tdX6_added1 34 rfl) (by decide) rfl ?_
  refine r_goto (tgt := 5) C (dall tdX6_added1 35 rfl) (by decide) ?_
  refine r_pick [1, 0] rfl ?_
  exact hk5 (σ, b0_) ok h
def pX6_added1_48 (kR5 : OS × Int32 → Int32 × OS) (σ : OS) (a1_ : Int32) (a2_ : Int32) (b0_ : Int32) : Int32 × OS := if a2_ = 0 then pX6_added1_62 kR5 σ (a1_ - b0_) else pX6_added1_62 kR5 σ (a1_ + b0_)
def oX6_added1_48 (kO5 : OS × Int32 → Prop) (σ : OS) (a1_ : Int32) (a2_ : Int32) (b0_ : Int32) : Prop := (a2_ = 0 → oX6_added1_62 kO5 σ (a1_ - b0_)) ∧ (¬ (a2_ = 0) → oX6_added1_62 kO5 σ (a1_ + b0_))
set_option maxHeartbeats 4000000 in
set_option maxRecDepth 100000 in
theorem wX6_added1_48 {X : CX} {cy : Nat → ClassId} {q : Nat → Nat} {D : va_G} {A : Nat → Prop} {res : Int32 × OS} (σ : OS) (a1_ : Int32) (a2_ : Int32) (b0_ : Int32) (C : Cx X cX6_added1 RX6 4 D (gty cy) A 30 0 0) (hR : Rt X (some .int) D (gty cy) A 0 0 (eI (wX6 cy q res.2) res.1)) (kR5 : OS × Int32 → Int32 × OS) (kO5 : OS × Int32 → Prop) (hk5 : ∀ z, kO5 z → kR5 z = res → At X D A 4 0 0 5 [(0, .ref (q 41)), (1, .int z.2)] [] (wX6 cy q z.1)) (ok : oX6_added1_48 kO5 σ a1_ a2_ b0_) (h : pX6_added1_48 kR5 σ a1_ a2_ b0_ = res) : At X D A 4 0 0 48 [(0, .ref (q 41)), (1, .int a1_), (2, .int a2_)] [.int b0_] (wX6 cy q σ) := by
  unfold pX6_added1_48 at h
  unfold oX6_added1_48 at ok
  refine r_istore_n (lv' := [(3, .int b0_), (0, .ref (q 41)), (1, .int a1_), (2, .int a2_)]) C (dall tdX6_added1 24 rfl) (by decide) rfl ?_
  refine r_iload_n C 3 (dall tdX6_added1 25 rfl) rfl ?_
  refine r_if_eq (tgt := 59) C (dall tdX6_added1 26 rfl) (by decide) (fun c1 => ?_) (fun c1 => ?_)
  · have h := (if_pos c1).symm.trans h
    have ok := ok.1 c1
    refine r_iload_n C 2 (dall tdX6_added1 31 rfl) rfl ?_
    refine r_iload_n C 0 (dall tdX6_added1 32 rfl) rfl ?_
    refine r_isub C (dall tdX6_added1 33 rfl) ?_
    refine r_pick [1] rfl ?_
    exact wX6_added1_62 σ (a1_ - b0_) C hR kR5 kO5 hk5 ok h
  · have h := (if_neg c1).symm.trans h
    have ok := ok.2 c1
    refine r_iload_n C 2 (dall tdX6_added1 27 rfl) rfl ?_
    refine r_iload_n C 0 (dall tdX6_added1 28 rfl) rfl ?_
    refine r_iadd C (dall tdX6_added1 29 rfl) ?_
    refine r_goto (tgt := 62) C (dall tdX6_added1 30 rfl) (by decide) ?_
    refine r_pick [1] rfl ?_
    exact wX6_added1_62 σ (a1_ + b0_) C hR kR5 kO5 hk5 ok h
def pX6_added1_44 (kR5 : OS × Int32 → Int32 × OS) (σ : OS) (a1_ : Int32) (a2_ : Int32) : Int32 × OS := pX6_added1_48 kR5 ((fX6_term1 σ ).2) a1_ a2_ ((fX6_term1 σ ).1)
def oX6_added1_44 (kO5 : OS × Int32 → Prop) (σ : OS) (a1_ : Int32) (a2_ : Int32) : Prop := (gX6_term1 σ ) ∧ (oX6_added1_48 kO5 ((fX6_term1 σ ).2) a1_ a2_ ((fX6_term1 σ ).1))
set_option maxHeartbeats 4000000 in
set_option maxRecDepth 100000 in
theorem wX6_added1_44 {X : CX} {cy : Nat → ClassId} {q : Nat → Nat} {D : va_G} {A : Nat → Prop} {res : Int32 × OS} (σ : OS) (a1_ : Int32) (a2_ : Int32) (C : Cx X cX6_added1 RX6 4 D (gty cy) A 30 0 0) (hR : Rt X (some .int) D (gty cy) A 0 0 (eI (wX6 cy q res.2) res.1)) (kR5 : OS × Int32 → Int32 × OS) (kO5 : OS × Int32 → Prop) (hk5 : ∀ z, kO5 z → kR5 z = res → At X D A 4 0 0 5 [(0, .ref (q 41)), (1, .int z.2)] [] (wX6 cy q z.1)) (ok : oX6_added1_44 kO5 σ a1_ a2_) (h : pX6_added1_44 kR5 σ a1_ a2_ = res) : At X D A 4 0 0 44 [(0, .ref (q 41)), (1, .int a1_), (2, .int a2_)] [] (wX6 cy q σ) := by
  unfold pX6_added1_44 at h
  unfold oX6_added1_44 at ok
  refine r_aload_n C 0 (dall tdX6_added1 22 rfl) rfl ?_
  obtain ⟨o2, ok⟩ := ok
  refine r_vI (as := []) C (zX6_term1 cy q σ  o2) mv_X6_term1 km_X6_315 (by decide) (by decide) ⟨Nat.le_refl _, Nat.le_refl _⟩ rfl rfl rfl rfl (Nat.le_of_ble_eq_true rfl) (dall tdX6_added1 23 rfl) ?_
  exact wX6_added1_48 ((fX6_term1 σ ).2) a1_ a2_ ((fX6_term1 σ ).1) C hR kR5 kO5 hk5 ok h
def pX6_added1_39 (kR5 : OS × Int32 → Int32 × OS) (σ : OS) (a1_ : Int32) (b0_ : Int32) : Int32 × OS := pX6_added1_44 kR5 (fX6_next σ) a1_ b0_
def oX6_added1_39 (kO5 : OS × Int32 → Prop) (σ : OS) (a1_ : Int32) (b0_ : Int32) : Prop := (gX6_next σ ) ∧ (oX6_added1_44 kO5 (fX6_next σ) a1_ b0_)
set_option maxHeartbeats 4000000 in
set_option maxRecDepth 100000 in
theorem wX6_added1_39 {X : CX} {cy : Nat → ClassId} {q : Nat → Nat} {D : va_G} {A : Nat → Prop} {res : Int32 × OS} (σ : OS) (a1_ : Int32) (b0_ : Int32) (C : Cx X cX6_added1 RX6 4 D (gty cy) A 30 0 0) (hR : Rt X (some .int) D (gty cy) A 0 0 (eI (wX6 cy q res.2) res.1)) (kR5 : OS × Int32 → Int32 × OS) (kO5 : OS × Int32 → Prop) (hk5 : ∀ z, kO5 z → kR5 z = res → At X D A 4 0 0 5 [(0, .ref (q 41)), (1, .int z.2)] [] (wX6 cy q z.1)) (ok : oX6_added1_39 kO5 σ a1_ b0_) (h : pX6_added1_39 kR5 σ a1_ b0_ = res) : At X D A 4 0 0 39 [(0, .ref (q 41)), (1, .int a1_)] [.int b0_] (wX6 cy q σ) := by
  unfold pX6_added1_39 at h
  unfold oX6_added1_39 at ok
  refine r_istore_n (lv' := [(2, .int b0_), (0, .ref (q 41)), (1, .int a1_)]) C (dall tdX6_added1 19 rfl) (by decide) rfl ?_
  refine r_aload_n C 1 (dall tdX6_added1 20 rfl) rfl ?_
  obtain ⟨o3, ok⟩ := ok
  refine r_vV (as := []) C (zX6_next cy q σ  o3) mv_X6_next km_X6_201 (by decide) (by decide) ⟨Nat.le_refl _, Nat.le_refl _⟩ rfl rfl rfl rfl (Nat.le_of_ble_eq_true rfl) (dall tdX6_added1 21 rfl) ?_
  refine r_pick [1, 2, 0] rfl ?_
  exact wX6_added1_44 (fX6_next σ) a1_ b0_ C hR kR5 kO5 hk5 ok h
def pX6_added1_23 (kR5 : OS × Int32 → Int32 × OS) (σ : OS) (a1_ : Int32) : Int32 × OS := if (σ.2.1 24) = (43) then pX6_added1_39 kR5 σ a1_ 1 else pX6_added1_39 kR5 σ a1_ 0
def oX6_added1_23 (kO5 : OS × Int32 → Prop) (σ : OS) (a1_ : Int32) : Prop := ((σ.2.1 24) = (43) → oX6_added1_39 kO5 σ a1_ 1) ∧ (¬ ((σ.2.1 24) = (43)) → oX6_added1_39 kO5 σ a1_ 0)
set_option maxHeartbeats 4000000 in
set_option maxRecDepth 100000 in
theorem wX6_added1_23 {X : CX} {cy : Nat → ClassId} {q : Nat → Nat} {D : va_G} {A : Nat → Prop} {res : Int32 × OS} (σ : OS) (a1_ : Int32) (C : Cx X cX6_added1 RX6 4 D (gty cy) A 30 0 0) (hR : Rt X (some .int) D (gty cy) A 0 0 (eI (wX6 cy q res.2) res.1)) (kR5 : OS × Int32 → Int32 × OS) (kO5 : OS × Int32 → Prop) (hk5 : ∀ z, kO5 z → kR5 z = res → At X D A 4 0 0 5 [(0, .ref (q 41)), (1, .int z.2)] [] (wX6 cy q z.1)) (ok : oX6_added1_23 kO5 σ a1_) (h : pX6_added1_23 kR5 σ a1_ = res) : At X D A 4 0 0 23 [(0, .ref (q 41)), (1, .int a1_)] [] (wX6 cy q σ) := by
  unfold pX6_added1_23 at h
  unfold oX6_added1_23 at ok
  refine r_aload_n C 0 (dall tdX6_added1 11 rfl) rfl ?_
  refine r_get C 0 kw_X6 rfl rfl (by decide) kf_X6_179 rfl rfl (dall tdX6_added1 12 rfl) ?_
  refine r_ldc2 C kk_X6_242 (dall tdX6_added1 13 rfl) ?_
  refine r_lif_ne (tgt := 38) C (dall tdX6_added1 14 rfl) (dall tdX6_added1 15 rfl) (by decide) (fun c4 => ?_) (fun c4 => ?_)
  · have h := (if_neg c4).symm.trans h
    have ok := ok.2 c4
    refine r_iconst (v := 0) C (dall tdX6_added1 18 rfl) (by decide) ?_
    exact wX6_added1_39 σ a1_ 0 C hR kR5 kO5 hk5 ok h
  · have h := (if_pos c4).symm.trans h
    have ok := ok.1 c4
    refine r_iconst (v := 1) C (dall tdX6_added1 16 rfl) (by decide) ?_
    refine r_goto (tgt := 39) C (dall tdX6_added1 17 rfl) (by decide) ?_
    exact wX6_added1_39 σ a1_ 1 C hR kR5 kO5 hk5 ok h
def bX6_added1_5   (kR5 : OS × Int32 → Int32 × OS) (v : OS × Int32) : Int32 × OS := if (fX6_isSign v.1 43) = 0 then if (fX6_isSign v.1 45) = 0 then (v.2, v.1) else pX6_added1_23 kR5 v.1 v.2 else pX6_added1_23 kR5 v.1 v.2
def kX6_added1_5   (kO5 : OS × Int32 → Prop) (v : OS × Int32) : Prop := ((fX6_isSign v.1 43) = 0 → ((fX6_isSign v.1 45) = 0 → True) ∧ (¬ ((fX6_isSign v.1 45) = 0) → oX6_added1_23 kO5 v.1 v.2)) ∧ (¬ ((fX6_isSign v.1 43) = 0) → oX6_added1_23 kO5 v.1 v.2)
set_option maxHeartbeats 4000000 in
set_option maxRecDepth 100000 in
theorem wX6_added1_5 {X : CX} {cy : Nat → ClassId} {q : Nat → Nat} {D : va_G} {A : Nat → Prop} {res : Int32 × OS}  (C : Cx X cX6_added1 RX6 4 D (gty cy) A 30 0 0) (hR : Rt X (some .int) D (gty cy) A 0 0 (eI (wX6 cy q res.2) res.1)) (kR5 : OS × Int32 → Int32 × OS) (kO5 : OS × Int32 → Prop) (hk5 : ∀ z, kO5 z → kR5 z = res → At X D A 4 0 0 5 [(0, .ref (q 41)), (1, .int z.2)] [] (wX6 cy q z.1)) (v : OS × Int32) (ok : kX6_added1_5  kO5 v) (h : bX6_added1_5  kR5 v = res) : At X D A 4 0 0 5 [(0, .ref (q 41)), (1, .int v.2)] [] (wX6 cy q v.1) := by
  unfold bX6_added1_5 at h
  unfold kX6_added1_5 at ok
  refine r_aload_n C 0 (dall tdX6_added1 3 rfl) rfl ?_
  refine r_bipush (v := 43) C (dall tdX6_added1 4 rfl) (by decide) ?_
  refine r_vI (as := [.int 43]) C (zX6_isSign cy q v.1 43 ) mv_X6_isSign km_X6_226 (by decide) (by decide) ⟨Nat.le_refl _, Nat.le_refl _⟩ rfl rfl rfl rfl (Nat.le_of_ble_eq_true rfl) (dall tdX6_added1 5 rfl) ?_
  refine r_if_ne (tgt := 23) C (dall tdX6_added1 6 rfl) (by decide) (fun c5 => ?_) (fun c5 => ?_)
  · have h := (if_neg c5).symm.trans h
    have ok := ok.2 c5
    exact wX6_added1_23 v.1 v.2 C hR kR5 kO5 hk5 ok h
  · have h := (if_pos c5).symm.trans h
    have ok := ok.1 c5
    refine r_aload_n C 0 (dall tdX6_added1 7 rfl) rfl ?_
    refine r_bipush (v := 45) C (dall tdX6_added1 8 rfl) (by decide) ?_
    refine r_vI (as := [.int 45]) C (zX6_isSign cy q v.1 45 ) mv_X6_isSign km_X6_226 (by decide) (by decide) ⟨Nat.le_refl _, Nat.le_refl _⟩ rfl rfl rfl rfl (Nat.le_of_ble_eq_true rfl) (dall tdX6_added1 9 rfl) ?_
    refine r_if_eq (tgt := 66) C (dall tdX6_added1 10 rfl) (by decide) (fun c6 => ?_) (fun c6 => ?_)
    · have h := (if_pos c6).symm.trans h
      have ok := ok.1 c6
      refine r_iload_n C 1 (dall tdX6_added1 36 rfl) rfl ?_
      exact r_iret C hR (dall tdX6_added1 37 rfl) (by subst h; exact ⟨rfl, rfl⟩)
    · have h := (if_neg c6).symm.trans h
      have ok := ok.2 c6
      exact wX6_added1_23 v.1 v.2 C hR kR5 kO5 hk5 ok h
set_option maxHeartbeats 4000000 in
set_option maxRecDepth 100000 in
theorem lX6_added1_5 {X : CX} {cy : Nat → ClassId} {q : Nat → Nat} {D : va_G} {A : Nat → Prop} {res : Int32 × OS}  (C : Cx X cX6_added1 RX6 4 D (gty cy) A 30 0 0) (hR : Rt X (some .int) D (gty cy) A 0 0 (eI (wX6 cy q res.2) res.1))  (n : Nat) (v : OS × Int32) (ok : lpOk (kX6_added1_5  ) n v) (h : lp (0, o0) (bX6_added1_5  ) n v = res) : At X D A 4 0 0 5 [(0, .ref (q 41)), (1, .int v.2)] [] (wX6 cy q v.1) :=
  lp_rule (fun v rr_ => rr_ = res → At X D A 4 0 0 5 [(0, .ref (q 41)), (1, .int v.2)] [] (wX6 cy q v.1)) (fun kR kO hk v ok h => wX6_added1_5  C hR  kR kO hk v ok h) n v ok h
def pX6_added1_4  (σ : OS) (b0_ : Int32) : Int32 × OS := lp (0, o0) (bX6_added1_5  ) fu (σ, b0_)
def oX6_added1_4  (σ : OS) (b0_ : Int32) : Prop := lpOk (kX6_added1_5  ) fu (σ, b0_)
set_option maxHeartbeats 4000000 in
set_option maxRecDepth 100000 in
theorem wX6_added1_4 {X : CX} {cy : Nat → ClassId} {q : Nat → Nat} {D : va_G} {A : Nat → Prop} {res : Int32 × OS} (σ : OS) (b0_ : Int32) (C : Cx X cX6_added1 RX6 4 D (gty cy) A 30 0 0) (hR : Rt X (some .int) D (gty cy) A 0 0 (eI (wX6 cy q res.2) res.1))  (ok : oX6_added1_4  σ b0_) (h : pX6_added1_4  σ b0_ = res) : At X D A 4 0 0 4 [(0, .ref (q 41))] [.int b0_] (wX6 cy q σ) := by
  unfold pX6_added1_4 at h
  unfold oX6_added1_4 at ok
  refine r_istore_n (lv' := [(1, .int b0_), (0, .ref (q 41))]) C (dall tdX6_added1 2 rfl) (by decide) rfl ?_
  refine r_pick [1, 0] rfl ?_
  exact lX6_added1_5  C hR  fu _ ok h
def pX6_added1_0  (σ : OS) : Int32 × OS := pX6_added1_4  ((fX6_term1 σ ).2) ((fX6_term1 σ ).1)
def oX6_added1_0  (σ : OS) : Prop := (gX6_term1 σ ) ∧ (oX6_added1_4  ((fX6_term1 σ ).2) ((fX6_term1 σ ).1))
set_option maxHeartbeats 4000000 in
set_option maxRecDepth 100000 in
theorem wX6_added1_0 {X : CX} {cy : Nat → ClassId} {q : Nat → Nat} {D : va_G} {A : Nat → Prop} {res : Int32 × OS} (σ : OS) (C : Cx X cX6_added1 RX6 4 D (gty cy) A 30 0 0) (hR : Rt X (some .int) D (gty cy) A 0 0 (eI (wX6 cy q res.2) res.1))  (ok : oX6_added1_0  σ) (h : pX6_added1_0  σ = res) : At X D A 4 0 0 0 [(0, .ref (q 41))] [] (wX6 cy q σ) := by
  unfold pX6_added1_0 at h
  unfold oX6_added1_0 at ok
  refine r_aload_n C 0 (dall tdX6_added1 0 rfl) rfl ?_
  obtain ⟨o7, ok⟩ := ok
  refine r_vI (as := []) C (zX6_term1 cy q σ  o7) mv_X6_term1 km_X6_315 (by decide) (by decide) ⟨Nat.le_refl _, Nat.le_refl _⟩ rfl rfl rfl rfl (Nat.le_of_ble_eq_true rfl) (dall tdX6_added1 1 rfl) ?_
  exact wX6_added1_4 ((fX6_term1 σ ).2) ((fX6_term1 σ ).1) C hR  ok h
def fX6_added1 (σ : OS) : Int32 × OS := pX6_added1_0  σ
def gX6_added1 (σ : OS) : Prop := oX6_added1_0  σ
set_option maxRecDepth 100000 in
theorem zX6_added1 (cy : Nat → ClassId) (q : Nat → Nat)  {D : va_G} (σ : OS) (ok : gX6_added1 σ )  : Con yX6_added1 cX6_added1 4 (some .int) 30 0 0 D (gty cy) [.ref (q 41)] (wX6 cy q σ) (eI (wX6 cy q (fX6_added1 σ ).2) (fX6_added1 σ ).1) :=
  Con.of (own := RX6) (by decide +kernel) rfl (Nat.le_of_ble_eq_true rfl) (Nat.zero_le _) (fun X A C hR _ => (wX6_added1_0 σ C hR  ok rfl))
theorem mv_X6_added1 : MV yX6_added1 cX6_added1 4 (some .int) RX6 0 := ⟨ki_X6_added1, kv_X6_added1, kn_X6, kc_X6_added1, by decide +kernel⟩
def tbX6_not1 : List (Nat × Instr × Nat) := [(0, .aload_n 0, 1), (1, .bipush 110, 2), (3, .bipush 111, 2), (5, .bipush 116, 2), (7, .iconst 0, 1), (8, .iconst 0, 1), (9, .iconst 0, 1), (10, .iconst 0, 1), (11, .iconst 0, 1), (12, .invokevirtual 204, 3), (15, .ifCond .eq 37, 3), (18, .aload_n 0, 1), (19, .invokevirtual 229, 3), (22, .ifCond .ne 5, 3), (25, .iconst 0, 1), (26, .ireturn, 1), (27, .aload_n 0, 1), (28, .invokevirtual 303, 3), (31, .istore_n 1, 1), (32, .aload_n 0, 1), (33, .dup, 1), (34, .getfield 195, 3), (37, .iconst 1, 1), (38, .isub, 1), (39, .putfield 195, 3), (42, .iload_n 1, 1), (43, .ifCond .ne 7, 3), (46, .iconst 1, 1), (47, .goto 4, 3), (50, .iconst 0, 1), (51, .ireturn, 1), (52, .aload_n 0, 1), (53, .invokevirtual 318, 3), (56, .istore_n 1, 1), (57, .aload_n 0, 1), (58, .bipush 60, 2), (60, .invokevirtual 226, 3), (63, .ifCond .ne 14, 3), (66, .aload_n 0, 1), (67, .bipush 61, 2), (69, .invokevirtual 226, 3), (72, .ifCond .ne 5, 3), (75, .iload_n 1, 1), (76, .ireturn, 1), (77, .aload_n 0, 1), (78, .getfield 179, 3), (81, .ldc2_w 247, 3), (84, .lcmp, 1), (85, .ifCond .ne 7, 3), (88, .iconst 1, 1), (89, .goto 4, 3), (92, .iconst 0, 1), (93, .istore_n 2, 1), (94, .aload_n 0, 1), (95, .invokevirtual 201, 3), (98, .aload_n 0, 1), (99, .invokevirtual 318, 3), (102, .istore_n 3, 1), (103, .iload_n 2, 1), (104, .ifCond .eq 11, 3), (107, .iload_n 1, 1), (108, .iload_n 3, 1), (109, .if_icmp .ge 15, 3), (112, .goto 8, 3), (115, .iload_n 1, 1), (116, .iload_n 3, 1), (117, .if_icmp .ne 7, 3), (120, .iconst 1, 1), (121, .goto 4, 3), (124, .iconst 0, 1), (125, .ireturn, 1)]
theorem tdX6_not1 : tbX6_not1.all (fun q => decide (decode cX6_not1 q.1 = .ok q.2)) = true := by decide +kernel
def pX6_not1_120  (σ : OS) : Int32 × OS := (1, σ)
set_option maxHeartbeats 4000000 in
set_option maxRecDepth 100000 in
theorem wX6_not1_120 {X : CX} {cy : Nat → ClassId} {q : Nat → Nat} {D : va_G} {A : Nat → Prop} {res : Int32 × OS} (σ : OS) (C : Cx X cX6_not1 RX6 4 D (gty cy) A 31 0 0) (hR : Rt X (some .int) D (gty cy) A 0 0 (eI (wX6 cy q res.2) res.1))  (h : pX6_not1_120  σ = res) : At X D A 4 0 0 120 [] [] (wX6 cy q σ) := by
  unfold pX6_not1_120 at h
  refine r_iconst (v := 1) C (dall tdX6_not1 67 rfl) (by decide) ?_
  refine r_goto (tgt := 125) C (dall tdX6_not1 68 rfl) (by decide) ?_
  exact r_iret C hR (dall tdX6_not1 70 rfl) (by subst h; exact ⟨rfl, rfl⟩)
def pX6_not1_102  (σ : OS) (a1_ : Int32) (a2_ : Int32) (b0_ : Int32) : Int32 × OS := if a2_ = 0 then if a1_ = b0_ then pX6_not1_120  σ else (0, σ) else if b0_ ≤ a1_ then (0, σ) else pX6_not1_120  σ
set_option maxHeartbeats 4000000 in
set_option maxRecDepth 100000 in
theorem wX6_not1_102 {X : CX} {cy : Nat → ClassId} {q : Nat → Nat} {D : va_G} {A : Nat → Prop} {res : Int32 × OS} (σ : OS) (a1_ : Int32) (a2_ : Int32) (b0_ : Int32) (C : Cx X cX6_not1 RX6 4 D (gty cy) A 31 0 0) (hR : Rt X (some .int) D (gty cy) A 0 0 (eI (wX6 cy q res.2) res.1))  (h : pX6_not1_102  σ a1_ a2_ b0_ = res) : At X D A 4 0 0 102 [(1, .int a1_), (2, .int a2_)] [.int b0_] (wX6 cy q σ) := by
  unfold pX6_not1_102 at h
  refine r_istore_n (lv' := [(3, .int b0_), (1, .int a1_), (2, .int a2_)]) C (dall tdX6_not1 57 rfl) (by decide) rfl ?_
  refine r_iload_n C 2 (dall tdX6_not1 58 rfl) rfl ?_
  refine r_if_eq (tgt := 115) C (dall tdX6_not1 59 rfl) (by decide) (fun c1 => ?_) (fun c1 => ?_)
  · have h := (if_pos c1).symm.trans h
    refine r_iload_n C 1 (dall tdX6_not1 64 rfl) rfl ?_
    refine r_iload_n C 0 (dall tdX6_not1 65 rfl) rfl ?_
    refine r_icmp_ne (tgt := 124) C (dall tdX6_not1 66 rfl) (by decide) (fun c2 => ?_) (fun c2 => ?_)
    · have h := (if_neg c2).symm.trans h
      refine r_iconst (v := 0) C (dall tdX6_not1 69 rfl) (by decide) ?_
      exact r_iret C hR (dall tdX6_not1 70 rfl) (by subst h; exact ⟨rfl, rfl⟩)
    · have h := (if_pos c2).symm.trans h
      refine r_pick [] rfl ?_
      exact wX6_not1_120 σ C hR  h
  · have h := (if_neg c1).symm.trans h
    refine r_iload_n C 1 (dall tdX6_not1 60 rfl) rfl ?_
    refine r_iload_n C 0 (dall tdX6_not1 61 rfl) rfl ?_
    refine r_icmp_ge (tgt := 124) C (dall tdX6_not1 62 rfl) (by decide) (fun c3 => ?_) (fun c3 => ?_)
    · have h := (if_pos c3).symm.trans h
      refine r_iconst (v := 0) C (dall tdX6_not1 69 rfl) (by decide) ?_
      exact r_iret C hR (dall tdX6_not1 70 rfl) (by subst h; exact ⟨rfl, rfl⟩)
    · have h := (if_neg c3).symm.trans h
      refine r_goto (tgt := 120) C (dall tdX6_not1 63 rfl) (by decide) ?_
      refine r_pick [] rfl ?_
      exact wX6_not1_120 σ C hR  h
def pX6_not1_98  (σ : OS) (a1_ : Int32) (a2_ : Int32) : Int32 × OS := pX6_not1_102  ((fX6_added1 σ ).2) a1_ a2_ ((fX6_added1 σ ).1)
def oX6_not1_98  (σ : OS) (a1_ : Int32) (a2_ : Int32) : Prop := gX6_added1 σ 
set_option maxHeartbeats 4000000 in
set_option maxRecDepth 100000 in
theorem wX6_not1_98 {X : CX} {cy : Nat → ClassId} {q : Nat → Nat} {D : va_G} {A : Nat → Prop} {res : Int32 × OS} (σ : OS) (a1_ : Int32) (a2_ : Int32) (C : Cx X cX6_not1 RX6 4 D (gty cy) A 31 0 0) (hR : Rt X (some .int) D (gty cy) A 0 0 (eI (wX6 cy q res.2) res.1))  (ok : oX6_not1_98  σ a1_ a2_) (h : pX6_not1_98  σ a1_ a2_ = res) : At X D A 4 0 0 98 [(0, .ref (q 41)), (1, .int a1_), (2, .int a2_)] [] (wX6 cy q σ) := by
  unfold pX6_not1_98 at h
  unfold oX6_not1_98 at ok
  refine r_aload_n C 0 (dall tdX6_not1 55 rfl) rfl ?_
  have o4 := ok
  refine r_vI (as := []) C (zX6_added1 cy q σ  o4) mv_X6_added1 km_X6_318 (by decide) (by decide) ⟨Nat.le_refl _, Nat.le_refl _⟩ rfl rfl rfl rfl (Nat.le_of_ble_eq_true rfl) (dall tdX6_not1 56 rfl) ?_
  refine r_pick [1, 2] rfl ?_
  exact wX6_not1_102 ((fX6_added1 σ ).2) a1_ a2_ ((fX6_added1 σ ).1) C hR  h
def pX6_not1_93  (σ : OS) (a1_ : Int32) (b0_ : Int32) : Int32 × OS := pX6_not1_98  (fX6_next σ) a1_ b0_
def oX6_not1_93  (σ : OS) (a1_ : Int32) (b0_ : Int32) : Prop := (gX6_next σ ) ∧ (oX6_not1_98  (fX6_next σ) a1_ b0_)
set_option maxHeartbeats 4000000 in
set_option maxRecDepth 100000 in
theorem wX6_not1_93 {X : CX} {cy : Nat → ClassId} {q : Nat → Nat} {D : va_G} {A : Nat → Prop} {res : Int32 × OS} (σ : OS) (a1_ : Int32) (b0_ : Int32) (C : Cx X cX6_not1 RX6 4 D (gty cy) A 31 0 0) (hR : Rt X (some .int) D (gty cy) A 0 0 (eI (wX6 cy q res.2) res.1))  (ok : oX6_not1_93  σ a1_ b0_) (h : pX6_not1_93  σ a1_ b0_ = res) : At X D A 4 0 0 93 [(0, .ref (q 41)), (1, .int a1_)] [.int b0_] (wX6 cy q σ) := by
  unfold pX6_not1_93 at h
  unfold oX6_not1_93 at ok
  refine r_istore_n (lv' := [(2, .int b0_), (0, .ref (q 41)), (1, .int a1_)]) C (dall tdX6_not1 52 rfl) (by decide) rfl ?_
  refine r_aload_n C 1 (dall tdX6_not1 53 rfl) rfl ?_
  obtain ⟨o5, ok⟩ := ok
  refine r_vV (as := []) C (zX6_next cy q σ  o5) mv_X6_next km_X6_201 (by decide) (by decide) ⟨Nat.le_refl _, Nat.le_refl _⟩ rfl rfl rfl rfl (Nat.le_of_ble_eq_true rfl) (dall tdX6_not1 54 rfl) ?_
  refine r_pick [1, 2, 0] rfl ?_
  exact wX6_not1_98 (fX6_next σ) a1_ b0_ C hR  ok h
def pX6_not1_77  (σ : OS) (a1_ : Int32) : Int32 × OS := if (σ.2.1 24) = (60) then pX6_not1_93  σ a1_ 1 else pX6_not1_93  σ a1_ 0
def oX6_not1_77  (σ : OS) (a1_ : Int32) : Prop := ((σ.2.1 24) = (60) → oX6_not1_93  σ a1_ 1) ∧ (¬ ((σ.2.1 24) = (60)) → oX6_not1_93  σ a1_ 0)
set_option maxHeartbeats 4000000 in
set_option maxRecDepth 100000 in
theorem wX6_not1_77 {X : CX} {cy : Nat → ClassId} {q : Nat → Nat} {D : va_G} {A : Nat → Prop} {res : Int32 × OS} (σ : OS) (a1_ : Int32) (C : Cx X cX6_not1 RX6 4 D (gty cy) A 31 0 0) (hR : Rt X (some .int) D (gty cy) A 0 0 (eI (wX6 cy q res.2) res.1))  (ok : oX6_not1_77  σ a1_) (h : pX6_not1_77  σ a1_ = res) : At X D A 4 0 0 77 [(0, .ref (q 41)), (1, .int a1_)] [] (wX6 cy q σ) := by
  unfold pX6_not1_77 at h
  unfold oX6_not1_77 at ok
  refine r_aload_n C 0 (dall tdX6_not1 44 rfl) rfl ?_
  refine r_get C 0 kw_X6 rfl rfl (by decide) kf_X6_179 rfl rfl (dall tdX6_not1 45 rfl) ?_
  refine r_ldc2 C kk_X6_247 (dall tdX6_not1 46 rfl) ?_
  refine r_lif_ne (tgt := 92) C (dall tdX6_not1 47 rfl) (dall tdX6_not1 48 rfl) (by decide) (fun c6 => ?_) (fun c6 => ?_)
  · have h := (if_neg c6).symm.trans h
    have ok := ok.2 c6
    refine r_iconst (v := 0) C (dall tdX6_not1 51 rfl) (by decide) ?_
    exact wX6_not1_93 σ a1_ 0 C hR  ok h
  · have h := (if_pos c6).symm.trans h
    have ok := ok.1 c6
    refine r_iconst (v := 1) C (dall tdX6_not1 49 rfl) (by decide) ?_
    refine r_goto (tgt := 93) C (dall tdX6_not1 50 rfl) (by decide) ?_
    exact wX6_not1_93 σ a1_ 1 C hR  ok h
def pX6_not1_56  (σ : OS) (b0_ : Int32) : Int32 × OS := if (fX6_isSign σ 60) = 0 then if (fX6_isSign σ 61) = 0 then (b0_, σ) else pX6_not1_77  σ b0_ else pX6_not1_77  σ b0_
def oX6_not1_56  (σ : OS) (b0_ : Int32) : Prop := ((fX6_isSign σ 60) = 0 → ((fX6_isSign σ 61) = 0 → True) ∧ (¬ ((fX6_isSign σ 61) = 0) → oX6_not1_77  σ b0_)) ∧ (¬ ((fX6_isSign σ 60) = 0) → oX6_not1_77  σ b0_)
set_option maxHeartbeats 4000000 in
set_option maxRecDepth 100000 in
theorem wX6_not1_56 {X : CX} {cy : Nat → ClassId} {q : Nat → Nat} {D : va_G} {A : Nat → Prop} {res : Int32 × OS} (σ : OS) (b0_ : Int32) (C : Cx X cX6_not1 RX6 4 D (gty cy) A 31 0 0) (hR : Rt X (some .int) D (gty cy) A 0 0 (eI (wX6 cy q res.2) res.1))  (ok : oX6_not1_56  σ b0_) (h : pX6_not1_56  σ b0_ = res) : At X D A 4 0 0 56 [(0, .ref (q 41))] [.int b0_] (wX6 cy q σ) := by
  unfold pX6_not1_56 at h
  unfold oX6_not1_56 at ok
  refine r_istore_n (lv' := [(1, .int b0_), (0, .ref (q 41))]) C (dall tdX6_not1 33 rfl) (by decide) rfl ?_
  refine r_aload_n C 1 (dall tdX6_not1 34 rfl) rfl ?_
  refine r_bipush (v := 60) C (dall tdX6_not1 35 rfl) (by decide) ?_
  refine r_vI (as := [.int 60]) C (zX6_isSign cy q σ 60 ) mv_X6_isSign km_X6_226 (by decide) (by decide) ⟨Nat.le_refl _, Nat.le_refl _⟩ rfl rfl rfl rfl (Nat.le_of_ble_eq_true rfl) (dall tdX6_not1 36 rfl) ?_
  refine r_if_ne (tgt := 77) C (dall tdX6_not1 37 rfl) (by decide) (fun c7 => ?_) (fun c7 => ?_)
  · have h := (if_neg c7).symm.trans h
    have ok := ok.2 c7
    refine r_pick [1, 0] rfl ?_
    exact wX6_not1_77 σ b0_ C hR  ok h
  · have h := (if_pos c7).symm.trans h
    have ok := ok.1 c7
    refine r_aload_n C 1 (dall tdX6_not1 38 rfl) rfl ?_
    refine r_bipush (v := 61) C (dall tdX6_not1 39 rfl) (by decide) ?_
    refine r_vI (as := [.int 61]) C (zX6_isSign cy q σ 61 ) mv_X6_isSign km_X6_226 (by decide) (by decide) ⟨Nat.le_refl _, Nat.le_refl _⟩ rfl rfl rfl rfl (Nat.le_of_ble_eq_true rfl) (dall tdX6_not1 40 rfl) ?_
    refine r_if_ne (tgt := 77) C (dall tdX6_not1 41 rfl) (by decide) (fun c8 => ?_) (fun c8 => ?_)
    · have h := (if_neg c8).symm.trans h
      have ok := ok.2 c8
      refine r_pick [1, 0] rfl ?_
      exact wX6_not1_77 σ b0_ C hR  ok h
    · have h := (if_pos c8).symm.trans h
      have ok := ok.1 c8
      refine r_iload_n C 0 (dall tdX6_not1 42 rfl) rfl ?_
      exact r_iret C hR (dall tdX6_not1 43 rfl) (by subst h; exact ⟨rfl, rfl⟩)
def pX6_not1_31  (σ : OS) (b0_ : Int32) : Int32 × OS := if b0_ = 0 then (1, oI σ 25 ((σ.1 25) - 1)) else (0, oI σ 25 ((σ.1 25) - 1))
set_option maxHeartbeats 4000000 in
set_option maxRecDepth 100000 in
theorem wX6_not1_31 {X : CX} {cy : Nat → ClassId} {q : Nat → Nat} {D : va_G} {A : Nat → Prop} {res : Int32 × OS} (σ : OS) (b0_ : Int32) (C : Cx X cX6_not1 RX6 4 D (gty cy) A 31 0 0) (hR : Rt X (some .int) D (gty cy) A 0 0 (eI (wX6 cy q res.2) res.1))  (h : pX6_not1_31  σ b0_ = res) : At X D A 4 0 0 31 [(0, .ref (q 41))] [.int b0_] (wX6 cy q σ) := by
  unfold pX6_not1_31 at h
  refine r_istore_n (lv' := [(1, .int b0_), (0, .ref (q 41))]) C (dall tdX6_not1 18 rfl) (by decide) rfl ?_
  refine r_aload_n C 1 (dall tdX6_not1 19 rfl) rfl ?_
  refine r_dup C (dall tdX6_not1 20 rfl) rfl ?_
  refine r_get C 0 kw_X6 rfl rfl (by decide) kf_X6_195 rfl rfl (dall tdX6_not1 21 rfl) ?_
  refine r_iconst (v := 1) C (dall tdX6_not1 22 rfl) (by decide) ?_
  refine r_isub C (dall tdX6_not1 23 rfl) ?_
  refine r_put C 0 kw_X6 tyX6_ok nmX6 rfl rfl (by decide) kf_X6_195 rfl rfl rfl rfl rfl (Nat.le_of_ble_eq_true rfl) (pu_X6_this_25 cy q σ ((σ.1 25) - 1)) (dall tdX6_not1 24 rfl) ?_
  refine r_iload_n C 0 (dall tdX6_not1 25 rfl) rfl ?_
  refine r_if_ne (tgt := 50) C (dall tdX6_not1 26 rfl) (by decide) (fun c9 => ?_) (fun c9 => ?_)
  · have h := (if_neg c9).symm.trans h
    refine r_iconst (v := 0) C (dall tdX6_not1 29 rfl) (by decide) ?_
    exact r_iret C hR (dall tdX6_not1 30 rfl) (by subst h; exact ⟨rfl, rfl⟩)
  · have h := (if_pos c9).symm.trans h
    refine r_iconst (v := 1) C (dall tdX6_not1 27 rfl) (by decide) ?_
    refine r_goto (tgt := 51) C (dall tdX6_not1 28 rfl) (by decide) ?_
    exact r_iret C hR (dall tdX6_not1 30 rfl) (by subst h; exact ⟨rfl, rfl⟩)
def pX6_not1_22  (σ : OS) (b0_ : Int32) : Int32 × OS := if b0_ = 0 then (0, σ) else pX6_not1_31  ((fX6_not2 σ ).2) ((fX6_not2 σ ).1)
def oX6_not1_22  (σ : OS) (b0_ : Int32) : Prop := (b0_ = 0 → True) ∧ (¬ (b0_ = 0) → gX6_not2 σ )
set_option maxHeartbeats 4000000 in
set_option maxRecDepth 100000 in
theorem wX6_not1_22 {X : CX} {cy : Nat → ClassId} {q : Nat → Nat} {D : va_G} {A : Nat → Prop} {res : Int32 × OS} (σ : OS) (b0_ : Int32) (C : Cx X cX6_not1 RX6 4 D (gty cy) A 31 0 0) (hR : Rt X (some .int) D (gty cy) A 0 0 (eI (wX6 cy q res.2) res.1))  (ok : oX6_not1_22  σ b0_) (h : pX6_not1_22  σ b0_ = res) : At X D A 4 0 0 22 [(0, .ref (q 41))] [.int b0_] (wX6 cy q σ) := by
  unfold pX6_not1_22 at h
  unfold oX6_not1_22 at ok
  refine r_if_ne (tgt := 27) C (dall tdX6_not1 13 rfl) (by decide) (fun c10 => ?_) (fun c10 => ?_)
  · have h := (if_neg c10).symm.trans h
    have ok := ok.2 c10
    refine r_aload_n C 0 (dall tdX6_not1 16 rfl) rfl ?_
    have o11 := ok
    refine r_vI (as := []) C (zX6_not2 cy q σ  o11) mv_X6_not2 km_X6_303 (by decide) (by decide) ⟨Nat.le_refl _, Nat.le_refl _⟩ rfl rfl rfl rfl (Nat.le_of_ble_eq_true rfl) (dall tdX6_not1 17 rfl) ?_
    exact wX6_not1_31 ((fX6_not2 σ ).2) ((fX6_not2 σ ).1) C hR  h
  · have h := (if_pos c10).symm.trans h
    have ok := ok.1 c10
    refine r_iconst (v := 0) C (dall tdX6_not1 14 rfl) (by decide) ?_
    exact r_iret C hR (dall tdX6_not1 15 rfl) (by subst h; exact ⟨rfl, rfl⟩)
def pX6_not1_0  (σ : OS) : Int32 × OS := if (fX6_isWord σ 110 111 116 0 0 0 0 0) = 0 then pX6_not1_56  ((fX6_added1 σ ).2) ((fX6_added1 σ ).1) else pX6_not1_22  ((fX6_opens σ ).2) ((fX6_opens σ ).1)
def oX6_not1_0  (σ : OS) : Prop := (gX6_isWord σ 110 111 116 0 0 0 0 0) ∧ (((fX6_isWord σ 110 111 116 0 0 0 0 0) = 0 → (gX6_added1 σ ) ∧ (oX6_not1_56  ((fX6_added1 σ ).2) ((fX6_added1 σ ).1))) ∧ (¬ ((fX6_isWord σ 110 111 116 0 0 0 0 0) = 0) → (gX6_opens σ ) ∧ (oX6_not1_22  ((fX6_opens σ ).2) ((fX6_opens σ ).1))))
set_option maxHeartbeats 4000000 in
set_option maxRecDepth 100000 in
theorem wX6_not1_0 {X : CX} {cy : Nat → ClassId} {q : Nat → Nat} {D : va_G} {A : Nat → Prop} {res : Int32 × OS} (σ : OS) (C : Cx X cX6_not1 RX6 4 D (gty cy) A 31 0 0) (hR : Rt X (some .int) D (gty cy) A 0 0 (eI (wX6 cy q res.2) res.1))  (ok : oX6_not1_0  σ) (h : pX6_not1_0  σ = res) : At X D A 4 0 0 0 [(0, .ref (q 41))] [] (wX6 cy q σ) := by
  unfold pX6_not1_0 at h
  unfold oX6_not1_0 at ok
  refine r_aload_n C 0 (dall tdX6_not1 0 rfl) rfl ?_
  refine r_bipush (v := 110) C (dall tdX6_not1 1 rfl) (by decide) ?_
  refine r_bipush (v := 111) C (dall tdX6_not1 2 rfl) (by decide) ?_
  refine r_bipush (v := 116) C (dall tdX6_not1 3 rfl) (by decide) ?_
  refine r_iconst (v := 0) C (dall tdX6_not1 4 rfl) (by decide) ?_
  refine r_iconst (v := 0) C (dall tdX6_not1 5 rfl) (by decide) ?_
  refine r_iconst (v := 0) C (dall tdX6_not1 6 rfl) (by decide) ?_
  refine r_iconst (v := 0) C (dall tdX6_not1 7 rfl) (by decide) ?_
  refine r_iconst (v := 0) C (dall tdX6_not1 8 rfl) (by decide) ?_
  obtain ⟨o12, ok⟩ := ok
  refine r_vI (as := [.int 110, .int 111, .int 116, .int 0, .int 0, .int 0, .int 0, .int 0]) C (zX6_isWord cy q σ 110 111 116 0 0 0 0 0 o12) mv_X6_isWord km_X6_204 (by decide) (by decide) ⟨Nat.le_refl _, Nat.le_refl _⟩ rfl rfl rfl rfl (Nat.le_of_ble_eq_true rfl) (dall tdX6_not1 9 rfl) ?_
  refine r_if_eq (tgt := 52) C (dall tdX6_not1 10 rfl) (by decide) (fun c13 => ?_) (fun c13 => ?_)
  · have h := (if_pos c13).symm.trans h
    have ok := ok.1 c13
    refine r_aload_n C 0 (dall tdX6_not1 31 rfl) rfl ?_
    obtain ⟨o14, ok⟩ := ok
    refine r_vI (as := []) C (zX6_added1 cy q σ  o14) mv_X6_added1 km_X6_318 (by decide) (by decide) ⟨Nat.le_refl _, Nat.le_refl _⟩ rfl rfl rfl rfl (Nat.le_of_ble_eq_true rfl) (dall tdX6_not1 32 rfl) ?_
    exact wX6_not1_56 ((fX6_added1 σ ).2) ((fX6_added1 σ ).1) C hR  ok h
  · have h := (if_neg c13).symm.trans h
    have ok := ok.2 c13
    refine r_aload_n C 0 (dall tdX6_not1 11 rfl) rfl ?_
    obtain ⟨o15, ok⟩ := ok
    refine r_vI (as := []) C (zX6_opens cy q σ  o15) mv_X6_opens km_X6_229 (by decide) (by decide) ⟨Nat.le_refl _, Nat.le_refl _⟩ rfl rfl rfl rfl (Nat.le_of_ble_eq_true rfl) (dall tdX6_not1 12 rfl) ?_
    exact wX6_not1_22 ((fX6_opens σ ).2) ((fX6_opens σ ).1) C hR  ok h
def fX6_not1 (σ : OS) : Int32 × OS := pX6_not1_0  σ
def gX6_not1 (σ : OS) : Prop := oX6_not1_0  σ
set_option maxRecDepth 100000 in
theorem zX6_not1 (cy : Nat → ClassId) (q : Nat → Nat)  {D : va_G} (σ : OS) (ok : gX6_not1 σ )  : Con yX6_not1 cX6_not1 4 (some .int) 31 0 0 D (gty cy) [.ref (q 41)] (wX6 cy q σ) (eI (wX6 cy q (fX6_not1 σ ).2) (fX6_not1 σ ).1) :=
  Con.of (own := RX6) (by decide +kernel) rfl (Nat.le_of_ble_eq_true rfl) (Nat.zero_le _) (fun X A C hR _ => (wX6_not1_0 σ C hR  ok rfl))
theorem mv_X6_not1 : MV yX6_not1 cX6_not1 4 (some .int) RX6 0 := ⟨ki_X6_not1, kv_X6_not1, kn_X6, kc_X6_not1, by decide +kernel⟩
def tbX6_both1 : List (Nat × Instr × Nat) := [(0, .aload_n 0, 1), (1, .invokevirtual 321, 3), (4, .istore_n 1, 1), (5, .aload_n 0, 1), (6, .bipush 97, 2), (8, .bipush 110, 2), (10, .bipush 100, 2), (12, .iconst 0, 1), (13, .iconst 0, 1), (14, .iconst 0, 1), (15, .iconst 0, 1), (16, .iconst 0, 1), (17, .invokevirtual 204, 3), (20, .ifCond .eq 29, 3), (23, .aload_n 0, 1), (24, .invokevirtual 201, 3), (27, .aload_n 0, 1), (28, .invokevirtual 321, 3), (31, .istore_n 2, 1), (32, .iload_n 1, 1), (33, .ifCond .eq 11, 3), (36, .iload_n 2, 1), (37, .ifCond .eq 7, 3), (40, .iconst 1, 1), (41, .goto 4, 3), (44, .iconst 0, 1), (45, .istore_n 1, 1), (46, .goto (-41), 3), (49, .iload_n 1, 1), (50, .ireturn, 1)]
theorem tdX6_both1 : tbX6_both1.all (fun q => decide (decode cX6_both1 q.1 = .ok q.2)) = true := by decide +kernel
def pX6_both1_45 (kR5 : OS × Int32 → Int32 × OS) (σ : OS) (b0_ : Int32) : Int32 × OS := kR5 (σ, b0_)
def oX6_both1_45 (kO5 : OS × Int32 → Prop) (σ : OS) (b0_ : Int32) : Prop := kO5 (σ, b0_)
set_option maxHeartbeats 4000000 in
set_option maxRecDepth 100000 in
theorem wX6_both1_45 {X : CX} {cy : Nat → ClassId} {q : Nat → Nat} {D : va_G} {A : Nat → Prop} {res : Int32 × OS} (σ : OS) (b0_ : Int32) (C : Cx X cX6_both1 RX6 3 D (gty cy) A 32 0 0) (hR : Rt X (some .int) D (gty cy) A 0 0 (eI (wX6 cy q res.2) res.1)) (kR5 : OS × Int32 → Int32 × OS) (kO5 : OS × Int32 → Prop) (hk5 : ∀ z, kO5 z → kR5 z = res → At X D A 3 0 0 5 [(0, .ref (q 41)), (1, .int z.2)] [] (wX6 cy q z.1)) (ok : oX6_both1_45 kO5 σ b0_) (h : pX6_both1_45 kR5 σ b0_ = res) : At X D A 3 0 0 45 [(0, .ref (q 41))] [.int b0_] (wX6 cy q σ) := by
  unfold pX6_both1_45 at h
  unfold oX6_both1_45 at ok
  refine r_istore_n (lv' := [(1, .int b0_), (0, .ref (q 41))]) C (dall tdX6_both1 26 rfl) (by decide) rfl ?_
  refine r_goto (tgt := 5) C (dall tdX6_both1 27 rfl) (by decide) ?_
  refine r_pick [1, 0] rfl ?_
  exact hk5 (σ, b0_) ok h
def pX6_both1_44 (kR5 : OS × Int32 → Int32 × OS) (σ : OS) : Int32 × OS := pX6_both1_45 kR5 σ 0
def oX6_both1_44 (kO5 : OS × Int32 → Prop) (σ : OS) : Prop := oX6_both1_45 kO5 σ 0
set_option maxHeartbeats 4000000 in
set_option maxRecDepth 100000 in
theorem wX6_both1_44 {X : CX} {cy : Nat → ClassId} {q : Nat → Nat} {D : va_G} {A : Nat → Prop} {res : Int32 × OS} (σ : OS) (C : Cx X cX6_both1 RX6 3 D (gty cy) A 32 0 0) (hR : Rt X (some .int) D (gty cy) A 0 0 (eI (wX6 cy q res.2) res.1)) (kR5 : OS × Int32 → Int32 × OS) (kO5 : OS × Int32 → Prop) (hk5 : ∀ z, kO5 z → kR5 z = res → At X D A 3 0 0 5 [(0, .ref (q 41)), (1, .int z.2)] [] (wX6 cy q z.1)) (ok : oX6_both1_44 kO5 σ) (h : pX6_both1_44 kR5 σ = res) : At X D A 3 0 0 44 [(0, .ref (q 41))] [] (wX6 cy q σ) := by
  unfold pX6_both1_44 at h
  unfold oX6_both1_44 at ok
  refine r_iconst (v := 0) C (dall tdX6_both1 25 rfl) (by decide) ?_
  exact wX6_both1_45 σ 0 C hR kR5 kO5 hk5 ok h
def pX6_both1_31 (kR5 : OS × Int32 → Int32 × OS) (σ : OS) (a1_ : Int32) (b0_ : Int32) : Int32 × OS := if a1_ = 0 then pX6_both1_44 kR5 σ else if b0_ = 0 then pX6_both1_44 kR5 σ else pX6_both1_45 kR5 σ 1
def oX6_both1_31 (kO5 : OS × Int32 → Prop) (σ : OS) (a1_ : Int32) (b0_ : Int32) : Prop := (a1_ = 0 → oX6_both1_44 kO5 σ) ∧ (¬ (a1_ = 0) → (b0_ = 0 → oX6_both1_44 kO5 σ) ∧ (¬ (b0_ = 0) → oX6_both1_45 kO5 σ 1))
set_option maxHeartbeats 4000000 in
set_option maxRecDepth 100000 in
theorem wX6_both1_31 {X : CX} {cy : Nat → ClassId} {q : Nat → Nat} {D : va_G} {A : Nat → Prop} {res : Int32 × OS} (σ : OS) (a1_ : Int32) (b0_ : Int32) (C : Cx X cX6_both1 RX6 3 D (gty cy) A 32 0 0) (hR : Rt X (some .int) D (gty cy) A 0 0 (eI (wX6 cy q res.2) res.1)) (kR5 : OS × Int32 → Int32 × OS) (kO5 : OS × Int32 → Prop) (hk5 : ∀ z, kO5 z → kR5 z = res → At X D A 3 0 0 5 [(0, .ref (q 41)), (1, .int z.2)] [] (wX6 cy q z.1)) (ok : oX6_both1_31 kO5 σ a1_ b0_) (h : pX6_both1_31 kR5 σ a1_ b0_ = res) : At X D A 3 0 0 31 [(0, .ref (q 41)), (1, .int a1_)] [.int b0_] (wX6 cy q σ) := by
  unfold pX6_both1_31 at h
  unfold oX6_both1_31 at ok
  refine r_istore_n (lv' := [(2, .int b0_), (0, .ref (q 41)), (1, .int a1_)]) C (dall tdX6_both1 18 rfl) (by decide) rfl ?_
  refine r_iload_n C 2 (dall tdX6_both1 19 rfl) rfl ?_
  refine r_if_eq (tgt := 44) C (dall tdX6_both1 20 rfl) (by decide) (fun c1 => ?_) (fun c1 => ?_)
  · have h := (if_pos c1).symm.trans h
    have ok := ok.1 c1
    refine r_pick [1] rfl ?_
    exact wX6_both1_44 σ C hR kR5 kO5 hk5 ok h
  · have h := (if_neg c1).symm.trans h
    have ok := ok.2 c1
    refine r_iload_n C 0 (dall tdX6_both1 21 rfl) rfl ?_
    refine r_if_eq (tgt := 44) C (dall tdX6_both1 22 rfl) (by decide) (fun c2 => ?_) (fun c2 => ?_)
    · have h := (if_pos c2).symm.trans h
      have ok := ok.1 c2
      refine r_pick [1] rfl ?_
      exact wX6_both1_44 σ C hR kR5 kO5 hk5 ok h
    · have h := (if_neg c2).symm.trans h
      have ok := ok.2 c2
      refine r_iconst (v := 1) C (dall tdX6_both1 23 rfl) (by decide) ?_
      refine r_goto (tgt := 45) C (dall tdX6_both1 24 rfl) (by decide) ?_
      refine r_pick [1] rfl ?_
      exact wX6_both1_45 σ 1 C hR kR5 kO5 hk5 ok h
def pX6_both1_27 (kR5 : OS × Int32 → Int32 × OS) (σ : OS) (a1_ : Int32) : Int32 × OS := pX6_both1_31 kR5 ((fX6_not1 σ ).2) a1_ ((fX6_not1 σ ).1)
def oX6_both1_27 (kO5 : OS × Int32 → Prop) (σ : OS) (a1_ : Int32) : Prop := (gX6_not1 σ ) ∧ (oX6_both1_31 kO5 ((fX6_not1 σ ).2) a1_ ((fX6_not1 σ ).1))
set_option maxHeartbeats 4000000 in
set_option maxRecDepth 100000 in
theorem wX6_both1_27 {X : CX} {cy : Nat → ClassId} {q : Nat → Nat} {D : va_G} {A : Nat → Prop} {res : Int32 × OS} (σ : OS) (a1_ : Int32) (C : Cx X cX6_both1 RX6 3 D (gty cy) A 32 0 0) (hR : Rt X (some .int) D (gty cy) A 0 0 (eI (wX6 cy q res.2) res.1)) (kR5 : OS × Int32 → Int32 × OS) (kO5 : OS × Int32 → Prop) (hk5 : ∀ z, kO5 z → kR5 z = res → At X D A 3 0 0 5 [(0, .ref (q 41)), (1, .int z.2)] [] (wX6 cy q z.1)) (ok : oX6_both1_27 kO5 σ a1_) (h : pX6_both1_27 kR5 σ a1_ = res) : At X D A 3 0 0 27 [(0, .ref (q 41)), (1, .int a1_)] [] (wX6 cy q σ) := by
  unfold pX6_both1_27 at h
  unfold oX6_both1_27 at ok
  refine r_aload_n C 0 (dall tdX6_both1 16 rfl) rfl ?_
  obtain ⟨o3, ok⟩ := ok
  refine r_vI (as := []) C (zX6_not1 cy q σ  o3) mv_X6_not1 km_X6_321 (by decide) (by decide) ⟨Nat.le_refl _, Nat.le_refl _⟩ rfl rfl rfl rfl (Nat.le_of_ble_eq_true rfl) (dall tdX6_both1 17 rfl) ?_
  exact wX6_both1_31 ((fX6_not1 σ ).2) a1_ ((fX6_not1 σ ).1) C hR kR5 kO5 hk5 ok h
def bX6_both1_5   (kR5 : OS × Int32 → Int32 × OS) (v : OS × Int32) : Int32 × OS := if (fX6_isWord v.1 97 110 100 0 0 0 0 0) = 0 then (v.2, v.1) else pX6_both1_27 kR5 (fX6_next v.1) v.2
def kX6_both1_5   (kO5 : OS × Int32 → Prop) (v : OS × Int32) : Prop := (gX6_isWord v.1 97 110 100 0 0 0 0 0) ∧ (((fX6_isWord v.1 97 110 100 0 0 0 0 0) = 0 → True) ∧ (¬ ((fX6_isWord v.1 97 110 100 0 0 0 0 0) = 0) → (gX6_next v.1 ) ∧ (oX6_both1_27 kO5 (fX6_next v.1) v.2)))
set_option maxHeartbeats 4000000 in
set_option maxRecDepth 100000 in
theorem wX6_both1_5 {X : CX} {cy : Nat → ClassId} {q : Nat → Nat} {D : va_G} {A : Nat → Prop} {res : Int32 × OS}  (C : Cx X cX6_both1 RX6 3 D (gty cy) A 32 0 0) (hR : Rt X (some .int) D (gty cy) A 0 0 (eI (wX6 cy q res.2) res.1)) (kR5 : OS × Int32 → Int32 × OS) (kO5 : OS × Int32 → Prop) (hk5 : ∀ z, kO5 z → kR5 z = res → At X D A 3 0 0 5 [(0, .ref (q 41)), (1, .int z.2)] [] (wX6 cy q z.1)) (v : OS × Int32) (ok : kX6_both1_5  kO5 v) (h : bX6_both1_5  kR5 v = res) : At X D A 3 0 0 5 [(0, .ref (q 41)), (1, .int v.2)] [] (wX6 cy q v.1) := by
  unfold bX6_both1_5 at h
  unfold kX6_both1_5 at ok
  refine r_aload_n C 0 (dall tdX6_both1 3 rfl) rfl ?_
  refine r_bipush (v := 97) C (dall tdX6_both1 4 rfl) (by decide) ?_
  refine r_bipush (v := 110) C (dall tdX6_both1 5 rfl) (by decide) ?_
  refine r_bipush (v := 100) C (dall tdX6_both1 6 rfl) (by decide) ?_
  refine r_iconst (v := 0) C (dall tdX6_both1 7 rfl) (by decide) ?_
  refine r_iconst (v := 0) C (dall tdX6_both1 8 rfl) (by decide) ?_
  refine r_iconst (v := 0) C (dall tdX6_both1 9 rfl) (by decide) ?_
  refine r_iconst (v := 0) C (dall tdX6_both1 10 rfl) (by decide) ?_
  refine r_iconst (v := 0) C (dall tdX6_both1 11 rfl) (by decide) ?_
  obtain ⟨o4, ok⟩ := ok
  refine r_vI (as := [.int 97, .int 110, .int 100, .int 0, .int 0, .int 0, .int 0, .int 0]) C (zX6_isWord cy q v.1 97 110 100 0 0 0 0 0 o4) mv_X6_isWord km_X6_204 (by decide) (by decide) ⟨Nat.le_refl _, Nat.le_refl _⟩ rfl rfl rfl rfl (Nat.le_of_ble_eq_true rfl) (dall tdX6_both1 12 rfl) ?_
  refine r_if_eq (tgt := 49) C (dall tdX6_both1 13 rfl) (by decide) (fun c5 => ?_) (fun c5 => ?_)
  · have h := (if_pos c5).symm.trans h
    have ok := ok.1 c5
    refine r_iload_n C 1 (dall tdX6_both1 28 rfl) rfl ?_
    exact r_iret C hR (dall tdX6_both1 29 rfl) (by subst h; exact ⟨rfl, rfl⟩)
  · have h := (if_neg c5).symm.trans h
    have ok := ok.2 c5
    refine r_aload_n C 0 (dall tdX6_both1 14 rfl) rfl ?_
    obtain ⟨o6, ok⟩ := ok
    refine r_vV (as := []) C (zX6_next cy q v.1  o6) mv_X6_next km_X6_201 (by decide) (by decide) ⟨Nat.le_refl _, Nat.le_refl _⟩ rfl rfl rfl rfl (Nat.le_of_ble_eq_true rfl) (dall tdX6_both1 15 rfl) ?_
    exact wX6_both1_27 (fX6_next v.1) v.2 C hR kR5 kO5 hk5 ok h
set_option maxHeartbeats 4000000 in
set_option maxRecDepth 100000 in
theorem lX6_both1_5 {X : CX} {cy : Nat → ClassId} {q : Nat → Nat} {D : va_G} {A : Nat → Prop} {res : Int32 × OS}  (C : Cx X cX6_both1 RX6 3 D (gty cy) A 32 0 0) (hR : Rt X (some .int) D (gty cy) A 0 0 (eI (wX6 cy q res.2) res.1))  (n : Nat) (v : OS × Int32) (ok : lpOk (kX6_both1_5  ) n v) (h : lp (0, o0) (bX6_both1_5  ) n v = res) : At X D A 3 0 0 5 [(0, .ref (q 41)), (1, .int v.2)] [] (wX6 cy q v.1) :=
  lp_rule (fun v rr_ => rr_ = res → At X D A 3 0 0 5 [(0, .ref (q 41)), (1, .int v.2)] [] (wX6 cy q v.1)) (fun kR kO hk v ok h => wX6_both1_5  C hR  kR kO hk v ok h) n v ok h
def pX6_both1_4  (σ : OS) (b0_ : Int32) : Int32 × OS := lp (0, o0) (bX6_both1_5  ) fu (σ, b0_)
def oX6_both1_4  (σ : OS) (b0_ : Int32) : Prop := lpOk (kX6_both1_5  ) fu (σ, b0_)
set_option maxHeartbeats 4000000 in
set_option maxRecDepth 100000 in
theorem wX6_both1_4 {X : CX} {cy : Nat → ClassId} {q : Nat → Nat} {D : va_G} {A : Nat → Prop} {res : Int32 × OS} (σ : OS) (b0_ : Int32) (C : Cx X cX6_both1 RX6 3 D (gty cy) A 32 0 0) (hR : Rt X (some .int) D (gty cy) A 0 0 (eI (wX6 cy q res.2) res.1))  (ok : oX6_both1_4  σ b0_) (h : pX6_both1_4  σ b0_ = res) : At X D A 3 0 0 4 [(0, .ref (q 41))] [.int b0_] (wX6 cy q σ) := by
  unfold pX6_both1_4 at h
  unfold oX6_both1_4 at ok
  refine r_istore_n (lv' := [(1, .int b0_), (0, .ref (q 41))]) C (dall tdX6_both1 2 rfl) (by decide) rfl ?_
  refine r_pick [1, 0] rfl ?_
  exact lX6_both1_5  C hR  fu _ ok h
def pX6_both1_0  (σ : OS) : Int32 × OS := pX6_both1_4  ((fX6_not1 σ ).2) ((fX6_not1 σ ).1)
def oX6_both1_0  (σ : OS) : Prop := (gX6_not1 σ ) ∧ (oX6_both1_4  ((fX6_not1 σ ).2) ((fX6_not1 σ ).1))
set_option maxHeartbeats 4000000 in
set_option maxRecDepth 100000 in
theorem wX6_both1_0 {X : CX} {cy : Nat → ClassId} {q : Nat → Nat} {D : va_G} {A : Nat → Prop} {res : Int32 × OS} (σ : OS) (C : Cx X cX6_both1 RX6 3 D (gty cy) A 32 0 0) (hR : Rt X (some .int) D (gty cy) A 0 0 (eI (wX6 cy q res.2) res.1))  (ok : oX6_both1_0  σ) (h : pX6_both1_0  σ = res) : At X D A 3 0 0 0 [(0, .ref (q 41))] [] (wX6 cy q σ) := by
  unfold pX6_both1_0 at h
  unfold oX6_both1_0 at ok
  refine r_aload_n C 0 (dall tdX6_both1 0 rfl) rfl ?_
  obtain ⟨o7, ok⟩ := ok
  refine r_vI (as := []) C (zX6_not1 cy q σ  o7) mv_X6_not1 km_X6_321 (by decide) (by decide) ⟨Nat.le_refl _, Nat.le_refl _⟩ rfl rfl rfl rfl (Nat.le_of_ble_eq_true rfl) (dall tdX6_both1 1 rfl) ?_
  exact wX6_both1_4 ((fX6_not1 σ ).2) ((fX6_not1 σ ).1) C hR  ok h
def fX6_both1 (σ : OS) : Int32 × OS := pX6_both1_0  σ
def gX6_both1 (σ : OS) : Prop := oX6_both1_0  σ
set_option maxRecDepth 100000 in
theorem zX6_both1 (cy : Nat → ClassId) (q : Nat → Nat)  {D : va_G} (σ : OS) (ok : gX6_both1 σ )  : Con yX6_both1 cX6_both1 3 (some .int) 32 0 0 D (gty cy) [.ref (q 41)] (wX6 cy q σ) (eI (wX6 cy q (fX6_both1 σ ).2) (fX6_both1 σ ).1) :=
  Con.of (own := RX6) (by decide +kernel) rfl (Nat.le_of_ble_eq_true rfl) (Nat.zero_le _) (fun X A C hR _ => (wX6_both1_0 σ C hR  ok rfl))
theorem mv_X6_both1 : MV yX6_both1 cX6_both1 3 (some .int) RX6 0 := ⟨ki_X6_both1, kv_X6_both1, kn_X6, kc_X6_both1, by decide +kernel⟩
def tbX6_either1 : List (Nat × Instr × Nat) := [(0, .aload_n 0, 1), (1, .invokevirtual 324, 3), (4, .istore_n 1, 1), (5, .aload_n 0, 1), (6, .bipush 111, 2), (8, .bipush 114, 2), (10, .iconst 0, 1), (11, .iconst 0, 1), (12, .iconst 0, 1), (13, .iconst 0, 1), (14, .iconst 0, 1), (15, .iconst 0, 1), (16, .invokevirtual 204, 3), (19, .ifCond .eq 29, 3), (22, .aload_n 0, 1), (23, .invokevirtual 201, 3), (26, .aload_n 0, 1), (27, .invokevirtual 324, 3), (30, .istore_n 2, 1), (31, .iload_n 1, 1), (32, .ifCond .ne 7, 3), (35, .iload_n 2, 1), (36, .ifCond .eq 7, 3), (39, .iconst 1, 1), (40, .goto 4, 3), (43, .iconst 0, 1), (44, .istore_n 1, 1), (45, .goto (-40), 3), (48, .iload_n 1, 1), (49, .ireturn, 1)]
theorem tdX6_either1 : tbX6_either1.all (fun q => decide (decode cX6_either1 q.1 = .ok q.2)) = true := by decide +kernel
def pX6_either1_44 (kR5 : OS × Int32 → Int32 × OS) (σ : OS) (b0_ : Int32) : Int32 × OS := kR5 (σ, b0_)
def oX6_either1_44 (kO5 : OS × Int32 → Prop) (σ : OS) (b0_ : Int32) : Prop := kO5 (σ, b0_)
set_option maxHeartbeats 4000000 in
set_option maxRecDepth 100000 in
theorem wX6_either1_44 {X : CX} {cy : Nat → ClassId} {q : Nat → Nat} {D : va_G} {A : Nat → Prop} {res : Int32 × OS} (σ : OS) (b0_ : Int32) (C : Cx X cX6_either1 RX6 3 D (gty cy) A 33 0 0) (hR : Rt X (some .int) D (gty cy) A 0 0 (eI (wX6 cy q res.2) res.1)) (kR5 : OS × Int32 → Int32 × OS) (kO5 : OS × Int32 → Prop) (hk5 : ∀ z, kO5 z → kR5 z = res → At X D A 3 0 0 5 [(0, .ref (q 41)), (1, .int z.2)] [] (wX6 cy q z.1)) (ok : oX6_either1_44 kO5 σ b0_) (h : pX6_either1_44 kR5 σ b0_ = res) : At X D A 3 0 0 44 [(0, .ref (q 41))] [.int b0_] (wX6 cy q σ) := by
  unfold pX6_either1_44 at h
  unfold oX6_either1_44 at ok
  refine r_istore_n (lv' := [(1, .int b0_), (0, .ref (q 41))]) C (dall tdX6_either1 26 rfl) (by decide) rfl ?_
  refine r_goto (tgt := 5) C (dall tdX6_either1 27 rfl) (by decide) ?_
  refine r_pick [1, 0] rfl ?_
  exact hk5 (σ, b0_) ok h
def pX6_either1_39 (kR5 : OS × Int32 → Int32 × OS) (σ : OS) : Int32 × OS := pX6_either1_44 kR5 σ 1
def oX6_either1_39 (kO5 : OS × Int32 → Prop) (σ : OS) : Prop := oX6_either1_44 kO5 σ 1
set_option maxHeartbeats 4000000 in
set_option maxRecDepth 100000 in
theorem wX6_either1_39 {X : CX} {cy : Nat → ClassId} {q : Nat → Nat} {D : va_G} {A : Nat → Prop} {res : Int32 × OS} (σ : OS) (C : Cx X cX6_either1 RX6 3 D (gty cy) A 33 0 0) (hR : Rt X (some .int) D (gty cy) A 0 0 (eI (wX6 cy q res.2) res.1)) (kR5 : OS × Int32 → Int32 × OS) (kO5 : OS × Int32 → Prop) (hk5 : ∀ z, kO5 z → kR5 z = res → At X D A 3 0 0 5 [(0, .ref (q 41)), (1, .int z.2)] [] (wX6 cy q z.1)) (ok : oX6_either1_39 kO5 σ) (h : pX6_either1_39 kR5 σ = res) : At X D A 3 0 0 39 [(0, .ref (q 41))] [] (wX6 cy q σ) := by
  unfold pX6_either1_39 at h
  unfold oX6_either1_39 at ok
  refine r_iconst (v := 1) C (dall tdX6_either1 23 rfl) (by decide) ?_
  refine r_goto (tgt := 44) C (dall tdX6_either1 24 rfl) (by decide) ?_
  exact wX6_either1_44 σ 1 C hR kR5 kO5 hk5 ok h
def pX6_either1_30 (kR5 : OS × Int32 → Int32 × OS) (σ : OS) (a1_ : Int32) (b0_ : Int32) : Int32 × OS := if a1_ = 0 then if b0_ = 0 then pX6_either1_44 kR5 σ 0 else pX6_either1_39 kR5 σ else pX6_either1_39 kR5 σ
def oX6_either1_30 (kO5 : OS × Int32 → Prop) (σ : OS) (a1_ : Int32) (b0_ : Int32) : Prop := (a1_ = 0 → (b0_ = 0 → oX6_either1_44 kO5 σ 0) ∧ (¬ (b0_ = 0) → oX6_either1_39 kO5 σ)) ∧ (¬ (a1_ = 0) → oX6_either1_39 kO5 σ)
set_option maxHeartbeats 4000000 in
set_option maxRecDepth 100000 in
theorem wX6_either1_30 {X : CX} {cy : Nat → ClassId} {q : Nat → Nat} {D : va_G} {A : Nat → Prop} {res : Int32 × OS} (σ : OS) (a1_ : Int32) (b0_ : Int32) (C : Cx X cX6_either1 RX6 3 D (gty cy) A 33 0 0) (hR : Rt X (some .int) D (gty cy) A 0 0 (eI (wX6 cy q res.2) res.1)) (kR5 : OS × Int32 → Int32 × OS) (kO5 : OS × Int32 → Prop) (hk5 : ∀ z, kO5 z → kR5 z = res → At X D A 3 0 0 5 [(0, .ref (q 41)), (1, .int z.2)] [] (wX6 cy q z.1)) (ok : oX6_either1_30 kO5 σ a1_ b0_) (h : pX6_either1_30 kR5 σ a1_ b0_ = res) : At X D A 3 0 0 30 [(0, .ref (q 41)), (1, .int a1_)] [.int b0_] (wX6 cy q σ) := by
  unfold pX6_either1_30 at h
  unfold oX6_either1_30 at ok
  refine r_istore_n (lv' := [(2, .int b0_), (0, .ref (q 41)), (1, .int a1_)]) C (dall tdX6_either1 18 rfl) (by decide) rfl ?_
  refine r_iload_n C 2 (dall tdX6_either1 19 rfl) rfl ?_
  refine r_if_ne (tgt := 39) C (dall tdX6_either1 20 rfl) (by decide) (fun c1 => ?_) (fun c1 => ?_)
  · have h := (if_neg c1).symm.trans h
    have ok := ok.2 c1
    refine r_pick [1] rfl ?_
    exact wX6_either1_39 σ C hR kR5 kO5 hk5 ok h
  · have h := (if_pos c1).symm.trans h
    have ok := ok.1 c1
    refine r_iload_n C 0 (dall tdX6_either1 21 rfl) rfl ?_
    refine r_if_eq (tgt := 43) C (dall tdX6_either1 22 rfl) (by decide) (fun c2 => ?_) (fun c2 => ?_)
    · have h := (if_pos c2).symm.trans h
      have ok := ok.1 c2
      refine r_iconst (v := 0) C (dall tdX6_either1 25 rfl) (by decide) ?_
      refine r_pick [1] rfl ?_
      exact wX6_either1_44 σ 0 C hR kR5 kO5 hk5 ok h
    · have h := (if_neg c2).symm.trans h
      have ok := ok.2 c2
      refine r_pick [1] rfl ?_
      exact wX6_either1_39 σ C hR kR5 kO5 hk5 ok h
def pX6_either1_26 (kR5 : OS × Int32 → Int32 × OS) (σ : OS) (a1_ : Int32) : Int32 × OS := pX6_either1_30 kR5 ((fX6_both1 σ ).2) a1_ ((fX6_both1 σ ).1)
def oX6_either1_26 (kO5 : OS × Int32 → Prop) (σ : OS) (a1_ : Int32) : Prop := (gX6_both1 σ ) ∧ (oX6_either1_30 kO5 ((fX6_both1 σ ).2) a1_ ((fX6_both1 σ ).1))
set_option maxHeartbeats 4000000 in
set_option maxRecDepth 100000 in
theorem wX6_either1_26 {X : CX} {cy : Nat → ClassId} {q : Nat → Nat} {D : va_G} {A : Nat → Prop} {res : Int32 × OS} (σ : OS) (a1_ : Int32) (C : Cx X cX6_either1 RX6 3 D (gty cy) A 33 0 0) (hR : Rt X (some .int) D (gty cy) A 0 0 (eI (wX6 cy q res.2) res.1)) (kR5 : OS × Int32 → Int32 × OS) (kO5 : OS × Int32 → Prop) (hk5 : ∀ z, kO5 z → kR5 z = res → At X D A 3 0 0 5 [(0, .ref (q 41)), (1, .int z.2)] [] (wX6 cy q z.1)) (ok : oX6_either1_26 kO5 σ a1_) (h : pX6_either1_26 kR5 σ a1_ = res) : At X D A 3 0 0 26 [(0, .ref (q 41)), (1, .int a1_)] [] (wX6 cy q σ) := by
  unfold pX6_either1_26 at h
  unfold oX6_either1_26 at ok
  refine r_aload_n C 0 (dall tdX6_either1 16 rfl) rfl ?_
  obtain ⟨o3, ok⟩ := ok
  refine r_vI (as := []) C (zX6_both1 cy q σ  o3) mv_X6_both1 km_X6_324 (by decide) (by decide) ⟨Nat.le_refl _, Nat.le_refl _⟩ rfl rfl rfl rfl (Nat.le_of_ble_eq_true rfl) (dall tdX6_either1 17 rfl) ?_
  exact wX6_either1_30 ((fX6_both1 σ ).2) a1_ ((fX6_both1 σ ).1) C hR kR5 kO5 hk5 ok h
def bX6_either1_5   (kR5 : OS × Int32 → Int32 × OS) (v : OS × Int32) : Int32 × OS := if (fX6_isWord v.1 111 114 0 0 0 0 0 0) = 0 then (v.2, v.1) else pX6_either1_26 kR5 (fX6_next v.1) v.2
def kX6_either1_5   (kO5 : OS × Int32 → Prop) (v : OS × Int32) : Prop := (gX6_isWord v.1 111 114 0 0 0 0 0 0) ∧ (((fX6_isWord v.1 111 114 0 0 0 0 0 0) = 0 → True) ∧ (¬ ((fX6_isWord v.1 111 114 0 0 0 0 0 0) = 0) → (gX6_next v.1 ) ∧ (oX6_either1_26 kO5 (fX6_next v.1) v.2)))
set_option maxHeartbeats 4000000 in
set_option maxRecDepth 100000 in
theorem wX6_either1_5 {X : CX} {cy : Nat → ClassId} {q : Nat → Nat} {D : va_G} {A : Nat → Prop} {res : Int32 × OS}  (C : Cx X cX6_either1 RX6 3 D (gty cy) A 33 0 0) (hR : Rt X (some .int) D (gty cy) A 0 0 (eI (wX6 cy q res.2) res.1)) (kR5 : OS × Int32 → Int32 × OS) (kO5 : OS × Int32 → Prop) (hk5 : ∀ z, kO5 z → kR5 z = res → At X D A 3 0 0 5 [(0, .ref (q 41)), (1, .int z.2)] [] (wX6 cy q z.1)) (v : OS × Int32) (ok : kX6_either1_5  kO5 v) (h : bX6_either1_5  kR5 v = res) : At X D A 3 0 0 5 [(0, .ref (q 41)), (1, .int v.2)] [] (wX6 cy q v.1) := by
  unfold bX6_either1_5 at h
  unfold kX6_either1_5 at ok
  refine r_aload_n C 0 (dall tdX6_either1 3 rfl) rfl ?_
  refine r_bipush (v := 111) C (dall tdX6_either1 4 rfl) (by decide) ?_
  refine r_bipush (v := 114) C (dall tdX6_either1 5 rfl) (by decide) ?_
  refine r_iconst (v := 0) C (dall tdX6_either1 6 rfl) (by decide) ?_
  refine r_iconst (v := 0) C (dall tdX6_either1 7 rfl) (by decide) ?_
  refine r_iconst (v := 0) C (dall tdX6_either1 8 rfl) (by decide) ?_
  refine r_iconst (v := 0) C (dall tdX6_either1 9 rfl) (by decide) ?_
  refine r_iconst (v := 0) C (dall tdX6_either1 10 rfl) (by decide) ?_
  refine r_iconst (v := 0) C (dall tdX6_either1 11 rfl) (by decide) ?_
  obtain ⟨o4, ok⟩ := ok
  refine r_vI (as := [.int 111, .int 114, .int 0, .int 0, .int 0, .int 0, .int 0, .int 0]) C (zX6_isWord cy q v.1 111 114 0 0 0 0 0 0 o4) mv_X6_isWord km_X6_204 (by decide) (by decide) ⟨Nat.le_refl _, Nat.le_refl _⟩ rfl rfl rfl rfl (Nat.le_of_ble_eq_true rfl) (dall tdX6_either1 12 rfl) ?_
  refine r_if_eq (tgt := 48) C (dall tdX6_either1 13 rfl) (by decide) (fun c5 => ?_) (fun c5 => ?_)
  · have h := (if_pos c5).symm.trans h
    have ok := ok.1 c5
    refine r_iload_n C 1 (dall tdX6_either1 28 rfl) rfl ?_
    exact r_iret C hR (dall tdX6_either1 29 rfl) (by subst h; exact ⟨rfl, rfl⟩)
  · have h := (if_neg c5).symm.trans h
    have ok := ok.2 c5
    refine r_aload_n C 0 (dall tdX6_either1 14 rfl) rfl ?_
    obtain ⟨o6, ok⟩ := ok
    refine r_vV (as := []) C (zX6_next cy q v.1  o6) mv_X6_next km_X6_201 (by decide) (by decide) ⟨Nat.le_refl _, Nat.le_refl _⟩ rfl rfl rfl rfl (Nat.le_of_ble_eq_true rfl) (dall tdX6_either1 15 rfl) ?_
    exact wX6_either1_26 (fX6_next v.1) v.2 C hR kR5 kO5 hk5 ok h
set_option maxHeartbeats 4000000 in
set_option maxRecDepth 100000 in
theorem lX6_either1_5 {X : CX} {cy : Nat → ClassId} {q : Nat → Nat} {D : va_G} {A : Nat → Prop} {res : Int32 × OS}  (C : Cx X cX6_either1 RX6 3 D (gty cy) A 33 0 0) (hR : Rt X (some .int) D (gty cy) A 0 0 (eI (wX6 cy q res.2) res.1))  (n : Nat) (v : OS × Int32) (ok : lpOk (kX6_either1_5  ) n v) (h : lp (0, o0) (bX6_either1_5  ) n v = res) : At X D A 3 0 0 5 [(0, .ref (q 41)), (1, .int v.2)] [] (wX6 cy q v.1) :=
  lp_rule (fun v rr_ => rr_ = res → At X D A 3 0 0 5 [(0, .ref (q 41)), (1, .int v.2)] [] (wX6 cy q v.1)) (fun kR kO hk v ok h => wX6_either1_5  C hR  kR kO hk v ok h) n v ok h
def pX6_either1_4  (σ : OS) (b0_ : Int32) : Int32 × OS := lp (0, o0) (bX6_either1_5  ) fu (σ, b0_)
def oX6_either1_4  (σ : OS) (b0_ : Int32) : Prop := lpOk (kX6_either1_5  ) fu (σ, b0_)
set_option maxHeartbeats 4000000 in
set_option maxRecDepth 100000 in
theorem wX6_either1_4 {X : CX} {cy : Nat → ClassId} {q : Nat → Nat} {D : va_G} {A : Nat → Prop} {res : Int32 × OS} (σ : OS) (b0_ : Int32) (C : Cx X cX6_either1 RX6 3 D (gty cy) A 33 0 0) (hR : Rt X (some .int) D (gty cy) A 0 0 (eI (wX6 cy q res.2) res.1))  (ok : oX6_either1_4  σ b0_) (h : pX6_either1_4  σ b0_ = res) : At X D A 3 0 0 4 [(0, .ref (q 41))] [.int b0_] (wX6 cy q σ) := by
  unfold pX6_either1_4 at h
  unfold oX6_either1_4 at ok
  refine r_istore_n (lv' := [(1, .int b0_), (0, .ref (q 41))]) C (dall tdX6_either1 2 rfl) (by decide) rfl ?_
  refine r_pick [1, 0] rfl ?_
  exact lX6_either1_5  C hR  fu _ ok h
def pX6_either1_0  (σ : OS) : Int32 × OS := pX6_either1_4  ((fX6_both1 σ ).2) ((fX6_both1 σ ).1)
def oX6_either1_0  (σ : OS) : Prop := (gX6_both1 σ ) ∧ (oX6_either1_4  ((fX6_both1 σ ).2) ((fX6_both1 σ ).1))
set_option maxHeartbeats 4000000 in
set_option maxRecDepth 100000 in
theorem wX6_either1_0 {X : CX} {cy : Nat → ClassId} {q : Nat → Nat} {D : va_G} {A : Nat → Prop} {res : Int32 × OS} (σ : OS) (C : Cx X cX6_either1 RX6 3 D (gty cy) A 33 0 0) (hR : Rt X (some .int) D (gty cy) A 0 0 (eI (wX6 cy q res.2) res.1))  (ok : oX6_either1_0  σ) (h : pX6_either1_0  σ = res) : At X D A 3 0 0 0 [(0, .ref (q 41))] [] (wX6 cy q σ) := by
  unfold pX6_either1_0 at h
  unfold oX6_either1_0 at ok
  refine r_aload_n C 0 (dall tdX6_either1 0 rfl) rfl ?_
  obtain ⟨o7, ok⟩ := ok
  refine r_vI (as := []) C (zX6_both1 cy q σ  o7) mv_X6_both1 km_X6_324 (by decide) (by decide) ⟨Nat.le_refl _, Nat.le_refl _⟩ rfl rfl rfl rfl (Nat.le_of_ble_eq_true rfl) (dall tdX6_either1 1 rfl) ?_
  exact wX6_either1_4 ((fX6_both1 σ ).2) ((fX6_both1 σ ).1) C hR  ok h
def fX6_either1 (σ : OS) : Int32 × OS := pX6_either1_0  σ
def gX6_either1 (σ : OS) : Prop := oX6_either1_0  σ
set_option maxRecDepth 100000 in
theorem zX6_either1 (cy : Nat → ClassId) (q : Nat → Nat)  {D : va_G} (σ : OS) (ok : gX6_either1 σ )  : Con yX6_either1 cX6_either1 3 (some .int) 33 0 0 D (gty cy) [.ref (q 41)] (wX6 cy q σ) (eI (wX6 cy q (fX6_either1 σ ).2) (fX6_either1 σ ).1) :=
  Con.of (own := RX6) (by decide +kernel) rfl (Nat.le_of_ble_eq_true rfl) (Nat.zero_le _) (fun X A C hR _ => (wX6_either1_0 σ C hR  ok rfl))
theorem mv_X6_either1 : MV yX6_either1 cX6_either1 3 (some .int) RX6 0 := ⟨ki_X6_either1, kv_X6_either1, kn_X6, kc_X6_either1, by decide +kernel⟩
def tbX6_atom0 : List (Nat × Instr × Nat) := [(0, .iconst 0, 1), (1, .istore_n 1, 1), (2, .aload_n 0, 1), (3, .bipush 45, 2), (5, .invokevirtual 226, 3), (8, .ifCond .eq 29, 3), (11, .aload_n 0, 1), (12, .invokevirtual 229, 3), (15, .ifCond .eq 146, 3), (18, .aload_n 0, 1), (19, .invokevirtual 312, 3), (22, .ineg, 1), (23, .istore_n 1, 1), (24, .aload_n 0, 1), (25, .dup, 1), (26, .getfield 195, 3), (29, .iconst 1, 1), (30, .isub, 1), (31, .putfield 195, 3), (34, .goto 127, 3), (37, .aload_n 0, 1), (38, .bipush 40, 2), (40, .invokevirtual 226, 3), (43, .ifCond .eq 52, 3), (46, .aload_n 0, 1), (47, .invokevirtual 229, 3), (50, .ifCond .eq 111, 3), (53, .aload_n 0, 1), (54, .invokevirtual 327, 3), (57, .istore_n 1, 1), (58, .aload_n 0, 1), (59, .bipush 41, 2), (61, .invokevirtual 226, 3), (64, .ifCond .ne 7, 3), (67, .aload_n 0, 1), (68, .invokevirtual 198, 3), (71, .aload_n 0, 1), (72, .dup, 1), (73, .getfield 195, 3), (76, .iconst 1, 1), (77, .isub, 1), (78, .putfield 195, 3), (81, .aload_n 0, 1), (82, .getfield 184, 3), (85, .ifCond .ne 76, 3), (88, .aload_n 0, 1), (89, .invokevirtual 201, 3), (92, .goto 69, 3), (95, .aload_n 0, 1), (96, .getfield 184, 3), (99, .ifCond .ne 24, 3), (102, .aload_n 0, 1), (103, .getfield 168, 3), (106, .iconst 2, 1), (107, .if_icmp .ne 16, 3), (110, .aload_n 0, 1), (111, .getfield 179, 3), (114, .l2i, 1), (115, .istore_n 1, 1), (116, .aload_n 0, 1), (117, .invokevirtual 201, 3), (120, .goto 41, 3), (123, .aload_n 0, 1), (124, .getfield 184, 3), (127, .ifCond .ne 30, 3), (130, .aload_n 0, 1), (131, .getfield 168, 3), (134, .iconst 1, 1), (135, .if_icmp .ne 22, 3), (138, .aload_n 0, 1), (139, .invokevirtual 233, 3), (142, .istore_n 1, 1), (143, .aload_n 0, 1), (144, .getfield 184, 3), (147, .ifCond .ne 14, 3), (150, .aload_n 0, 1), (151, .invokevirtual 201, 3), (154, .goto 7, 3), (157, .aload_n 0, 1), (158, .invokevirtual 198, 3), (161, .iload_n 1, 1), (162, .ireturn, 1)]
theorem tdX6_atom0 : tbX6_atom0.all (fun q => decide (decode cX6_atom0 q.1 = .ok q.2)) = true := by decide +kernel
def pX6_atom0_161  (σ : OS) (a1_ : Int32) : Int32 × OS := (a1_, σ)
set_option maxHeartbeats 4000000 in
set_option maxRecDepth 100000 in
theorem wX6_atom0_161 {X : CX} {cy : Nat → ClassId} {q : Nat → Nat} {D : va_G} {A : Nat → Prop} {res : Int32 × OS} (σ : OS) (a1_ : Int32) (C : Cx X cX6_atom0 RX6 2 D (gty cy) A 34 0 0) (hR : Rt X (some .int) D (gty cy) A 0 0 (eI (wX6 cy q res.2) res.1))  (h : pX6_atom0_161  σ a1_ = res) : At X D A 2 0 0 161 [(1, .int a1_)] [] (wX6 cy q σ) := by
  unfold pX6_atom0_161 at h
  refine r_iload_n C 0 (dall tdX6_atom0 80 rfl) rfl ?_
  exact r_iret C hR (dall tdX6_atom0 81 rfl) (by subst h; exact ⟨rfl, rfl⟩)
def pX6_atom0_157  (σ : OS) (a1_ : Int32) : Int32 × OS := pX6_atom0_161  (fX6_fail σ) a1_
set_option maxHeartbeats 4000000 in
set_option maxRecDepth 100000 in
theorem wX6_atom0_157 {X : CX} {cy : Nat → ClassId} {q : Nat → Nat} {D : va_G} {A : Nat → Prop} {res : Int32 × OS} (σ : OS) (a1_ : Int32) (C : Cx X cX6_atom0 RX6 2 D (gty cy) A 34 0 0) (hR : Rt X (some .int) D (gty cy) A 0 0 (eI (wX6 cy q res.2) res.1))  (h : pX6_atom0_157  σ a1_ = res) : At X D A 2 0 0 157 [(0, .ref (q 41)), (1, .int a1_)] [] (wX6 cy q σ) := by
  unfold pX6_atom0_157 at h
  refine r_aload_n C 0 (dall tdX6_atom0 78 rfl) rfl ?_
  refine r_vV (as := []) C (zX6_fail cy q σ  ) mv_X6_fail km_X6_198 (by decide) (by decide) ⟨Nat.le_refl _, Nat.le_refl _⟩ rfl rfl rfl rfl (Nat.le_of_ble_eq_true rfl) (dall tdX6_atom0 79 rfl) ?_
  refine r_pick [1] rfl ?_
  exact wX6_atom0_161 (fX6_fail σ) a1_ C hR  h
def pX6_atom0_154  (σ : OS) (a1_ : Int32) : Int32 × OS := pX6_atom0_161  σ a1_
set_option maxHeartbeats 4000000 in
set_option maxRecDepth 100000 in
theorem wX6_atom0_154 {X : CX} {cy : Nat → ClassId} {q : Nat → Nat} {D : va_G} {A : Nat → Prop} {res : Int32 × OS} (σ : OS) (a1_ : Int32) (C : Cx X cX6_atom0 RX6 2 D (gty cy) A 34 0 0) (hR : Rt X (some .int) D (gty cy) A 0 0 (eI (wX6 cy q res.2) res.1))  (h : pX6_atom0_154  σ a1_ = res) : At X D A 2 0 0 154 [(1, .int a1_)] [] (wX6 cy q σ) := by
  unfold pX6_atom0_154 at h
  refine r_goto (tgt := 161) C (dall tdX6_atom0 77 rfl) (by decide) ?_
  exact wX6_atom0_161 σ a1_ C hR  h
def pX6_atom0_142  (σ : OS) (b0_ : Int32) : Int32 × OS := if (σ.1 26) = 0 then pX6_atom0_154  (fX6_next σ) b0_ else pX6_atom0_161  σ b0_
def oX6_atom0_142  (σ : OS) (b0_ : Int32) : Prop := ((σ.1 26) = 0 → gX6_next σ ) ∧ (¬ ((σ.1 26) = 0) → True)
set_option maxHeartbeats 4000000 in
set_option maxRecDepth 100000 in
theorem wX6_atom0_142 {X : CX} {cy : Nat → ClassId} {q : Nat → Nat} {D : va_G} {A : Nat → Prop} {res : Int32 × OS} (σ : OS) (b0_ : Int32) (C : Cx X cX6_atom0 RX6 2 D (gty cy) A 34 0 0) (hR : Rt X (some .int) D (gty cy) A 0 0 (eI (wX6 cy q res.2) res.1))  (ok : oX6_atom0_142  σ b0_) (h : pX6_atom0_142  σ b0_ = res) : At X D A 2 0 0 142 [(0, .ref (q 41))] [.int b0_] (wX6 cy q σ) := by
  unfold pX6_atom0_142 at h
  unfold oX6_atom0_142 at ok
  refine r_istore_n (lv' := [(1, .int b0_), (0, .ref (q 41))]) C (dall tdX6_atom0 71 rfl) (by decide) rfl ?_
  refine r_aload_n C 1 (dall tdX6_atom0 72 rfl) rfl ?_
  refine r_get C 0 kw_X6 rfl rfl (by decide) kf_X6_184 rfl rfl (dall tdX6_atom0 73 rfl) ?_
  refine r_if_ne (tgt := 161) C (dall tdX6_atom0 74 rfl) (by decide) (fun c1 => ?_) (fun c1 => ?_)
  · have h := (if_neg c1).symm.trans h
    have ok := ok.2 c1
    refine r_pick [0] rfl ?_
    exact wX6_atom0_161 σ b0_ C hR  h
  · have h := (if_pos c1).symm.trans h
    have ok := ok.1 c1
    refine r_aload_n C 1 (dall tdX6_atom0 75 rfl) rfl ?_
    have o2 := ok
    refine r_vV (as := []) C (zX6_next cy q σ  o2) mv_X6_next km_X6_201 (by decide) (by decide) ⟨Nat.le_refl _, Nat.le_refl _⟩ rfl rfl rfl rfl (Nat.le_of_ble_eq_true rfl) (dall tdX6_atom0 76 rfl) ?_
    refine r_pick [0] rfl ?_
    exact wX6_atom0_154 (fX6_next σ) b0_ C hR  h
def pX6_atom0_123  (σ : OS) (a1_ : Int32) : Int32 × OS := if (σ.1 26) = 0 then if (σ.1 22) = 1 then pX6_atom0_142  ((fX6_name σ ).2) ((fX6_name σ ).1) else pX6_atom0_157  σ a1_ else pX6_atom0_157  σ a1_
def oX6_atom0_123  (σ : OS) (a1_ : Int32) : Prop := ((σ.1 26) = 0 → ((σ.1 22) = 1 → (gX6_name σ ) ∧ (oX6_atom0_142  ((fX6_name σ ).2) ((fX6_name σ ).1))) ∧ (¬ ((σ.1 22) = 1) → True)) ∧ (¬ ((σ.1 26) = 0) → True)
set_option maxHeartbeats 4000000 in
set_option maxRecDepth 100000 in
theorem wX6_atom0_123 {X : CX} {cy : Nat → ClassId} {q : Nat → Nat} {D : va_G} {A : Nat → Prop} {res : Int32 × OS} (σ : OS) (a1_ : Int32) (C : Cx X cX6_atom0 RX6 2 D (gty cy) A 34 0 0) (hR : Rt X (some .int) D (gty cy) A 0 0 (eI (wX6 cy q res.2) res.1))  (ok : oX6_atom0_123  σ a1_) (h : pX6_atom0_123  σ a1_ = res) : At X D A 2 0 0 123 [(0, .ref (q 41)), (1, .int a1_)] [] (wX6 cy q σ) := by
  unfold pX6_atom0_123 at h
  unfold oX6_atom0_123 at ok
  refine r_aload_n C 0 (dall tdX6_atom0 62 rfl) rfl ?_
  refine r_get C 0 kw_X6 rfl rfl (by decide) kf_X6_184 rfl rfl (dall tdX6_atom0 63 rfl) ?_
  refine r_if_ne (tgt := 157) C (dall tdX6_atom0 64 rfl) (by decide) (fun c3 => ?_) (fun c3 => ?_)
  · have h := (if_neg c3).symm.trans h
    have ok := ok.2 c3
    exact wX6_atom0_157 σ a1_ C hR  h
  · have h := (if_pos c3).symm.trans h
    have ok := ok.1 c3
    refine r_aload_n C 0 (dall tdX6_atom0 65 rfl) rfl ?_
    refine r_get C 0 kw_X6 rfl rfl (by decide) kf_X6_168 rfl rfl (dall tdX6_atom0 66 rfl) ?_
    refine r_iconst (v := 1) C (dall tdX6_atom0 67 rfl) (by decide) ?_
    refine r_icmp_ne (tgt := 157) C (dall tdX6_atom0 68 rfl) (by decide) (fun c4 => ?_) (fun c4 => ?_)
    · have h := (if_neg c4).symm.trans h
      have ok := ok.2 c4
      exact wX6_atom0_157 σ a1_ C hR  h
    · have h := (if_pos c4).symm.trans h
      have ok := ok.1 c4
      refine r_aload_n C 0 (dall tdX6_atom0 69 rfl) rfl ?_
      obtain ⟨o5, ok⟩ := ok
      refine r_vI (as := []) C (zX6_name cy q σ  o5) mv_X6_name km_X6_233 (by decide) (by decide) ⟨Nat.le_refl _, Nat.le_refl _⟩ rfl rfl rfl rfl (Nat.le_of_ble_eq_true rfl) (dall tdX6_atom0 70 rfl) ?_
      refine r_pick [0] rfl ?_
      exact wX6_atom0_142 ((fX6_name σ ).2) ((fX6_name σ ).1) C hR  ok h
def pX6_atom0_120  (σ : OS) (a1_ : Int32) : Int32 × OS := pX6_atom0_161  σ a1_
set_option maxHeartbeats 4000000 in
set_option maxRecDepth 100000 in
theorem wX6_atom0_120 {X : CX} {cy : Nat → ClassId} {q : Nat → Nat} {D : va_G} {A : Nat → Prop} {res : Int32 × OS} (σ : OS) (a1_ : Int32) (C : Cx X cX6_atom0 RX6 2 D (gty cy) A 34 0 0) (hR : Rt X (some .int) D (gty cy) A 0 0 (eI (wX6 cy q res.2) res.1))  (h : pX6_atom0_120  σ a1_ = res) : At X D A 2 0 0 120 [(1, .int a1_)] [] (wX6 cy q σ) := by
  unfold pX6_atom0_120 at h
  refine r_goto (tgt := 161) C (dall tdX6_atom0 61 rfl) (by decide) ?_
  exact wX6_atom0_161 σ a1_ C hR  h
def pX6_atom0_92  (σ : OS) (a1_ : Int32) : Int32 × OS := pX6_atom0_161  σ a1_
set_option maxHeartbeats 4000000 in
set_option maxRecDepth 100000 in
theorem wX6_atom0_92 {X : CX} {cy : Nat → ClassId} {q : Nat → Nat} {D : va_G} {A : Nat → Prop} {res : Int32 × OS} (σ : OS) (a1_ : Int32) (C : Cx X cX6_atom0 RX6 2 D (gty cy) A 34 0 0) (hR : Rt X (some .int) D (gty cy) A 0 0 (eI (wX6 cy q res.2) res.1))  (h : pX6_atom0_92  σ a1_ = res) : At X D A 2 0 0 92 [(1, .int a1_)] [] (wX6 cy q σ) := by
  unfold pX6_atom0_92 at h
  refine r_goto (tgt := 161) C (dall tdX6_atom0 47 rfl) (by decide) ?_
  exact wX6_atom0_161 σ a1_ C hR  h
def pX6_atom0_71  (σ : OS) (a1_ : Int32) : Int32 × OS := if ((oI σ 25 ((σ.1 25) - 1)).1 26) = 0 then pX6_atom0_92  (fX6_next (oI σ 25 ((σ.1 25) - 1))) a1_ else pX6_atom0_161  (oI σ 25 ((σ.1 25) - 1)) a1_
def oX6_atom0_71  (σ : OS) (a1_ : Int32) : Prop := (((oI σ 25 ((σ.1 25) - 1)).1 26) = 0 → gX6_next (oI σ 25 ((σ.1 25) - 1)) ) ∧ (¬ (((oI σ 25 ((σ.1 25) - 1)).1 26) = 0) → True)
set_option maxHeartbeats 4000000 in
set_option maxRecDepth 100000 in
theorem wX6_atom0_71 {X : CX} {cy : Nat → ClassId} {q : Nat → Nat} {D : va_G} {A : Nat → Prop} {res : Int32 × OS} (σ : OS) (a1_ : Int32) (C : Cx X cX6_atom0 RX6 2 D (gty cy) A 34 0 0) (hR : Rt X (some .int) D (gty cy) A 0 0 (eI (wX6 cy q res.2) res.1))  (ok : oX6_atom0_71  σ a1_) (h : pX6_atom0_71  σ a1_ = res) : At X D A 2 0 0 71 [(0, .ref (q 41)), (1, .int a1_)] [] (wX6 cy q σ) := by
  unfold pX6_atom0_71 at h
  unfold oX6_atom0_71 at ok
  refine r_aload_n C 0 (dall tdX6_atom0 36 rfl) rfl ?_
  refine r_dup C (dall tdX6_atom0 37 rfl) rfl ?_
  refine r_get C 0 kw_X6 rfl rfl (by decide) kf_X6_195 rfl rfl (dall tdX6_atom0 38 rfl) ?_
  refine r_iconst (v := 1) C (dall tdX6_atom0 39 rfl) (by decide) ?_
  refine r_isub C (dall tdX6_atom0 40 rfl) ?_
  refine r_put C 0 kw_X6 tyX6_ok nmX6 rfl rfl (by decide) kf_X6_195 rfl rfl rfl rfl rfl (Nat.le_of_ble_eq_true rfl) (pu_X6_this_25 cy q σ ((σ.1 25) - 1)) (dall tdX6_atom0 41 rfl) ?_
  refine r_aload_n C 0 (dall tdX6_atom0 42 rfl) rfl ?_
  refine r_get C 0 kw_X6 rfl rfl (by decide) kf_X6_184 rfl rfl (dall tdX6_atom0 43 rfl) ?_
  refine r_if_ne (tgt := 161) C (dall tdX6_atom0 44 rfl) (by decide) (fun c6 => ?_) (fun c6 => ?_)
  · have h := (if_neg c6).symm.trans h
    have ok := ok.2 c6
    refine r_pick [1] rfl ?_
    exact wX6_atom0_161 (oI σ 25 ((σ.1 25) - 1)) a1_ C hR  h
  · have h := (if_pos c6).symm.trans h
    have ok := ok.1 c6
    refine r_aload_n C 0 (dall tdX6_atom0 45 rfl) rfl ?_
    have o7 := ok
    refine r_vV (as := []) C (zX6_next cy q (oI σ 25 ((σ.1 25) - 1))  o7) mv_X6_next km_X6_201 (by decide) (by decide) ⟨Nat.le_refl _, Nat.le_refl _⟩ rfl rfl rfl rfl (Nat.le_of_ble_eq_true rfl) (dall tdX6_atom0 46 rfl) ?_
    refine r_pick [1] rfl ?_
    exact wX6_atom0_92 (fX6_next (oI σ 25 ((σ.1 25) - 1))) a1_ C hR  h
def pX6_atom0_57  (σ : OS) (b0_ : Int32) : Int32 × OS := if (fX6_isSign σ 41) = 0 then pX6_atom0_71  (fX6_fail σ) b0_ else pX6_atom0_71  σ b0_
def oX6_atom0_57  (σ : OS) (b0_ : Int32) : Prop := ((fX6_isSign σ 41) = 0 → oX6_atom0_71  (fX6_fail σ) b0_) ∧ (¬ ((fX6_isSign σ 41) = 0) → oX6_atom0_71  σ b0_)
set_option maxHeartbeats 4000000 in
set_option maxRecDepth 100000 in
theorem wX6_atom0_57 {X : CX} {cy : Nat → ClassId} {q : Nat → Nat} {D : va_G} {A : Nat → Prop} {res : Int32 × OS} (σ : OS) (b0_ : Int32) (C : Cx X cX6_atom0 RX6 2 D (gty cy) A 34 0 0) (hR : Rt X (some .int) D (gty cy) A 0 0 (eI (wX6 cy q res.2) res.1))  (ok : oX6_atom0_57  σ b0_) (h : pX6_atom0_57  σ b0_ = res) : At X D A 2 0 0 57 [(0, .ref (q 41))] [.int b0_] (wX6 cy q σ) := by
  unfold pX6_atom0_57 at h
  unfold oX6_atom0_57 at ok
  refine r_istore_n (lv' := [(1, .int b0_), (0, .ref (q 41))]) C (dall tdX6_atom0 29 rfl) (by decide) rfl ?_
  refine r_aload_n C 1 (dall tdX6_atom0 30 rfl) rfl ?_
  refine r_bipush (v := 41) C (dall tdX6_atom0 31 rfl) (by decide) ?_
  refine r_vI (as := [.int 41]) C (zX6_isSign cy q σ 41 ) mv_X6_isSign km_X6_226 (by decide) (by decide) ⟨Nat.le_refl _, Nat.le_refl _⟩ rfl rfl rfl rfl (Nat.le_of_ble_eq_true rfl) (dall tdX6_atom0 32 rfl) ?_
  refine r_if_ne (tgt := 71) C (dall tdX6_atom0 33 rfl) (by decide) (fun c8 => ?_) (fun c8 => ?_)
  · have h := (if_neg c8).symm.trans h
    have ok := ok.2 c8
    refine r_pick [1, 0] rfl ?_
    exact wX6_atom0_71 σ b0_ C hR  ok h
  · have h := (if_pos c8).symm.trans h
    have ok := ok.1 c8
    refine r_aload_n C 1 (dall tdX6_atom0 34 rfl) rfl ?_
    refine r_vV (as := []) C (zX6_fail cy q σ  ) mv_X6_fail km_X6_198 (by decide) (by decide) ⟨Nat.le_refl _, Nat.le_refl _⟩ rfl rfl rfl rfl (Nat.le_of_ble_eq_true rfl) (dall tdX6_atom0 35 rfl) ?_
    refine r_pick [1, 0] rfl ?_
    exact wX6_atom0_71 (fX6_fail σ) b0_ C hR  ok h
def pX6_atom0_50  (σ : OS) (a1_ : Int32) (b0_ : Int32) : Int32 × OS := if b0_ = 0 then pX6_atom0_161  σ a1_ else pX6_atom0_57  ((fX6_either1 σ ).2) ((fX6_either1 σ ).1)
def oX6_atom0_50  (σ : OS) (a1_ : Int32) (b0_ : Int32) : Prop := (b0_ = 0 → True) ∧ (¬ (b0_ = 0) → (gX6_either1 σ ) ∧ (oX6_atom0_57  ((fX6_either1 σ ).2) ((fX6_either1 σ ).1)))
set_option maxHeartbeats 4000000 in
set_option maxRecDepth 100000 in
theorem wX6_atom0_50 {X : CX} {cy : Nat → ClassId} {q : Nat → Nat} {D : va_G} {A : Nat → Prop} {res : Int32 × OS} (σ : OS) (a1_ : Int32) (b0_ : Int32) (C : Cx X cX6_atom0 RX6 2 D (gty cy) A 34 0 0) (hR : Rt X (some .int) D (gty cy) A 0 0 (eI (wX6 cy q res.2) res.1))  (ok : oX6_atom0_50  σ a1_ b0_) (h : pX6_atom0_50  σ a1_ b0_ = res) : At X D A 2 0 0 50 [(0, .ref (q 41)), (1, .int a1_)] [.int b0_] (wX6 cy q σ) := by
  unfold pX6_atom0_50 at h
  unfold oX6_atom0_50 at ok
  refine r_if_eq (tgt := 161) C (dall tdX6_atom0 26 rfl) (by decide) (fun c9 => ?_) (fun c9 => ?_)
  · have h := (if_pos c9).symm.trans h
    have ok := ok.1 c9
    refine r_pick [1] rfl ?_
    exact wX6_atom0_161 σ a1_ C hR  h
  · have h := (if_neg c9).symm.trans h
    have ok := ok.2 c9
    refine r_aload_n C 0 (dall tdX6_atom0 27 rfl) rfl ?_
    obtain ⟨o10, ok⟩ := ok
    refine r_vI (as := []) C (zX6_either1 cy q σ  o10) mv_X6_either1 km_X6_327 (by decide) (by decide) ⟨Nat.le_refl _, Nat.le_refl _⟩ rfl rfl rfl rfl (Nat.le_of_ble_eq_true rfl) (dall tdX6_atom0 28 rfl) ?_
    refine r_pick [0] rfl ?_
    exact wX6_atom0_57 ((fX6_either1 σ ).2) ((fX6_either1 σ ).1) C hR  ok h
def pX6_atom0_22  (σ : OS) (b0_ : Int32) : Int32 × OS := pX6_atom0_161  (oI σ 25 ((σ.1 25) - 1)) (-b0_)
set_option maxHeartbeats 4000000 in
set_option maxRecDepth 100000 in
theorem wX6_atom0_22 {X : CX} {cy : Nat → ClassId} {q : Nat → Nat} {D : va_G} {A : Nat → Prop} {res : Int32 × OS} (σ : OS) (b0_ : Int32) (C : Cx X cX6_atom0 RX6 2 D (gty cy) A 34 0 0) (hR : Rt X (some .int) D (gty cy) A 0 0 (eI (wX6 cy q res.2) res.1))  (h : pX6_atom0_22  σ b0_ = res) : At X D A 2 0 0 22 [(0, .ref (q 41))] [.int b0_] (wX6 cy q σ) := by
  unfold pX6_atom0_22 at h
  refine r_ineg C (dall tdX6_atom0 11 rfl) ?_
  refine r_istore_n (lv' := [(1, .int (-b0_)), (0, .ref (q 41))]) C (dall tdX6_atom0 12 rfl) (by decide) rfl ?_
  refine r_aload_n C 1 (dall tdX6_atom0 13 rfl) rfl ?_
  refine r_dup C (dall tdX6_atom0 14 rfl) rfl ?_
  refine r_get C 0 kw_X6 rfl rfl (by decide) kf_X6_195 rfl rfl (dall tdX6_atom0 15 rfl) ?_
  refine r_iconst (v := 1) C (dall tdX6_atom0 16 rfl) (by decide) ?_
  refine r_isub C (dall tdX6_atom0 17 rfl) ?_
  refine r_put C 0 kw_X6 tyX6_ok nmX6 rfl rfl (by decide) kf_X6_195 rfl rfl rfl rfl rfl (Nat.le_of_ble_eq_true rfl) (pu_X6_this_25 cy q σ ((σ.1 25) - 1)) (dall tdX6_atom0 18 rfl) ?_
  refine r_goto (tgt := 161) C (dall tdX6_atom0 19 rfl) (by decide) ?_
  refine r_pick [0] rfl ?_
  exact wX6_atom0_161 (oI σ 25 ((σ.1 25) - 1)) (-b0_) C hR  h
def pX6_atom0_15  (σ : OS) (a1_ : Int32) (b0_ : Int32) : Int32 × OS := if b0_ = 0 then pX6_atom0_161  σ a1_ else pX6_atom0_22  ((fX6_atom1 σ ).2) ((fX6_atom1 σ ).1)
def oX6_atom0_15  (σ : OS) (a1_ : Int32) (b0_ : Int32) : Prop := (b0_ = 0 → True) ∧ (¬ (b0_ = 0) → gX6_atom1 σ )
set_option maxHeartbeats 4000000 in
set_option maxRecDepth 100000 in
theorem wX6_atom0_15 {X : CX} {cy : Nat → ClassId} {q : Nat → Nat} {D : va_G} {A : Nat → Prop} {res : Int32 × OS} (σ : OS) (a1_ : Int32) (b0_ : Int32) (C : Cx X cX6_atom0 RX6 2 D (gty cy) A 34 0 0) (hR : Rt X (some .int) D (gty cy) A 0 0 (eI (wX6 cy q res.2) res.1))  (ok : oX6_atom0_15  σ a1_ b0_) (h : pX6_atom0_15  σ a1_ b0_ = res) : At X D A 2 0 0 15 [(0, .ref (q 41)), (1, .int a1_)] [.int b0_] (wX6 cy q σ) := by
  unfold pX6_atom0_15 at h
  unfold oX6_atom0_15 at ok
  refine r_if_eq (tgt := 161) C (dall tdX6_atom0 8 rfl) (by decide) (fun c11 => ?_) (fun c11 => ?_)
  · have h := (if_pos c11).symm.trans h
    have ok := ok.1 c11
    refine r_pick [1] rfl ?_
    exact wX6_atom0_161 σ a1_ C hR  h
  · have h := (if_neg c11).symm.trans h
    have ok := ok.2 c11
    refine r_aload_n C 0 (dall tdX6_atom0 9 rfl) rfl ?_
    have o12 := ok
    refine r_vI (as := []) C (zX6_atom1 cy q σ  o12) mv_X6_atom1 km_X6_312 (by decide) (by decide) ⟨Nat.le_refl _, Nat.le_refl _⟩ rfl rfl rfl rfl (Nat.le_of_ble_eq_true rfl) (dall tdX6_atom0 10 rfl) ?_
    refine r_pick [0] rfl ?_
    exact wX6_atom0_22 ((fX6_atom1 σ ).2) ((fX6_atom1 σ ).1) C hR  h
def pX6_atom0_0  (σ : OS) : Int32 × OS := if (fX6_isSign σ 45) = 0 then if (fX6_isSign σ 40) = 0 then if (σ.1 26) = 0 then if (σ.1 22) = 2 then pX6_atom0_120  (fX6_next σ) ((σ.2.1 24).toInt32) else pX6_atom0_123  σ 0 else pX6_atom0_123  σ 0 else pX6_atom0_50  ((fX6_opens σ ).2) 0 ((fX6_opens σ ).1) else pX6_atom0_15  ((fX6_opens σ ).2) 0 ((fX6_opens σ ).1)
def oX6_atom0_0  (σ : OS) : Prop := ((fX6_isSign σ 45) = 0 → ((fX6_isSign σ 40) = 0 → ((σ.1 26) = 0 → ((σ.1 22) = 2 → gX6_next σ ) ∧ (¬ ((σ.1 22) = 2) → oX6_atom0_123  σ 0)) ∧ (¬ ((σ.1 26) = 0) → oX6_atom0_123  σ 0)) ∧ (¬ ((fX6_isSign σ 40) = 0) → (gX6_opens σ ) ∧ (oX6_atom0_50  ((fX6_opens σ ).2) 0 ((fX6_opens σ ).1)))) ∧ (¬ ((fX6_isSign σ 45) = 0) → (gX6_opens σ ) ∧ (oX6_atom0_15  ((fX6_opens σ ).2) 0 ((fX6_opens σ ).1)))
set_option maxHeartbeats 4000000 in
set_option maxRecDepth 100000 in
theorem wX6_atom0_0 {X : CX} {cy : Nat → ClassId} {q : Nat → Nat} {D : va_G} {A : Nat → Prop} {res : Int32 × OS} (σ : OS) (C : Cx X cX6_atom0 RX6 2 D (gty cy) A 34 0 0) (hR : Rt X (some .int) D (gty cy) A 0 0 (eI (wX6 cy q res.2) res.1))  (ok : oX6_atom0_0  σ) (h : pX6_atom0_0  σ = res) : At X D A 2 0 0 0 [(0, .ref (q 41))] [] (wX6 cy q σ) := by
  unfold pX6_atom0_0 at h
  unfold oX6_atom0_0 at ok
  refine r_iconst (v := 0) C (dall tdX6_atom0 0 rfl) (by decide) ?_
  refine r_istore_n (lv' := [(1, .int 0), (0, .ref (q 41))]) C (dall tdX6_atom0 1 rfl) (by decide) rfl ?_
  refine r_aload_n C 1 (dall tdX6_atom0 2 rfl) rfl ?_
  refine r_bipush (v := 45) C (dall tdX6_atom0 3 rfl) (by decide) ?_
  refine r_vI (as := [.int 45]) C (zX6_isSign cy q σ 45 ) mv_X6_isSign km_X6_226 (by decide) (by decide) ⟨Nat.le_refl _, Nat.le_refl _⟩ rfl rfl rfl rfl (Nat.le_of_ble_eq_true rfl) (dall tdX6_atom0 4 rfl) ?_
  refine r_if_eq (tgt := 37) C (dall tdX6_atom0 5 rfl) (by decide) (fun c13 => ?_) (fun c13 => ?_)
  · have h := (if_pos c13).symm.trans h
    have ok := ok.1 c13
    refine r_aload_n C 1 (dall tdX6_atom0 20 rfl) rfl ?_
    refine r_bipush (v := 40) C (dall tdX6_atom0 21 rfl) (by decide) ?_
    refine r_vI (as := [.int 40]) C (zX6_isSign cy q σ 40 ) mv_X6_isSign km_X6_226 (by decide) (by decide) ⟨Nat.le_refl _, Nat.le_refl _⟩ rfl rfl rfl rfl (Nat.le_of_ble_eq_true rfl) (dall tdX6_atom0 22 rfl) ?_
    refine r_if_eq (tgt := 95) C (dall tdX6_atom0 23 rfl) (by decide) (fun c14 => ?_) (fun c14 => ?_)
    · have h := (if_pos c14).symm.trans h
      have ok := ok.1 c14
      refine r_aload_n C 1 (dall tdX6_atom0 48 rfl) rfl ?_
      refine r_get C 0 kw_X6 rfl rfl (by decide) kf_X6_184 rfl rfl (dall tdX6_atom0 49 rfl) ?_
      refine r_if_ne (tgt := 123) C (dall tdX6_atom0 50 rfl) (by decide) (fun c15 => ?_) (fun c15 => ?_)
      · have h := (if_neg c15).symm.trans h
        have ok := ok.2 c15
        refine r_pick [1, 0] rfl ?_
        exact wX6_atom0_123 σ 0 C hR  ok h
      · have h := (if_pos c15).symm.trans h
        have ok := ok.1 c15
        refine r_aload_n C 1 (dall tdX6_atom0 51 rfl) rfl ?_
        refine r_get C 0 kw_X6 rfl rfl (by decide) kf_X6_168 rfl rfl (dall tdX6_atom0 52 rfl) ?_
        refine r_iconst (v := 2) C (dall tdX6_atom0 53 rfl) (by decide) ?_
        refine r_icmp_ne (tgt := 123) C (dall tdX6_atom0 54 rfl) (by decide) (fun c16 => ?_) (fun c16 => ?_)
        · have h := (if_neg c16).symm.trans h
          have ok := ok.2 c16
          refine r_pick [1, 0] rfl ?_
          exact wX6_atom0_123 σ 0 C hR  ok h
        · have h := (if_pos c16).symm.trans h
          have ok := ok.1 c16
          refine r_aload_n C 1 (dall tdX6_atom0 55 rfl) rfl ?_
          refine r_get C 0 kw_X6 rfl rfl (by decide) kf_X6_179 rfl rfl (dall tdX6_atom0 56 rfl) ?_
          refine r_l2i C (dall tdX6_atom0 57 rfl) ?_
          refine r_istore_n (lv' := [(1, .int ((σ.2.1 24).toInt32)), (0, .ref (q 41))]) C (dall tdX6_atom0 58 rfl) (by decide) rfl ?_
          refine r_aload_n C 1 (dall tdX6_atom0 59 rfl) rfl ?_
          have o17 := ok
          refine r_vV (as := []) C (zX6_next cy q σ  o17) mv_X6_next km_X6_201 (by decide) (by decide) ⟨Nat.le_refl _, Nat.le_refl _⟩ rfl rfl rfl rfl (Nat.le_of_ble_eq_true rfl) (dall tdX6_atom0 60 rfl) ?_
          refine r_pick [0] rfl ?_
          exact wX6_atom0_120 (fX6_next σ) ((σ.2.1 24).toInt32) C hR  h
    · have h := (if_neg c14).symm.trans h
      have ok := ok.2 c14
      refine r_aload_n C 1 (dall tdX6_atom0 24 rfl) rfl ?_
      obtain ⟨o18, ok⟩ := ok
      refine r_vI (as := []) C (zX6_opens cy q σ  o18) mv_X6_opens km_X6_229 (by decide) (by decide) ⟨Nat.le_refl _, Nat.le_refl _⟩ rfl rfl rfl rfl (Nat.le_of_ble_eq_true rfl) (dall tdX6_atom0 25 rfl) ?_
      refine r_pick [1, 0] rfl ?_
      exact wX6_atom0_50 ((fX6_opens σ ).2) 0 ((fX6_opens σ ).1) C hR  ok h
  · have h := (if_neg c13).symm.trans h
    have ok := ok.2 c13
    refine r_aload_n C 1 (dall tdX6_atom0 6 rfl) rfl ?_
    obtain ⟨o19, ok⟩ := ok
    refine r_vI (as := []) C (zX6_opens cy q σ  o19) mv_X6_opens km_X6_229 (by decide) (by decide) ⟨Nat.le_refl _, Nat.le_refl _⟩ rfl rfl rfl rfl (Nat.le_of_ble_eq_true rfl) (dall tdX6_atom0 7 rfl) ?_
    refine r_pick [1, 0] rfl ?_
    exact wX6_atom0_15 ((fX6_opens σ ).2) 0 ((fX6_opens σ ).1) C hR  ok h
def fX6_atom0 (σ : OS) : Int32 × OS := pX6_atom0_0  σ
def gX6_atom0 (σ : OS) : Prop := oX6_atom0_0  σ
set_option maxRecDepth 100000 in
theorem zX6_atom0 (cy : Nat → ClassId) (q : Nat → Nat)  {D : va_G} (σ : OS) (ok : gX6_atom0 σ )  : Con yX6_atom0 cX6_atom0 2 (some .int) 34 0 0 D (gty cy) [.ref (q 41)] (wX6 cy q σ) (eI (wX6 cy q (fX6_atom0 σ ).2) (fX6_atom0 σ ).1) :=
  Con.of (own := RX6) (by decide +kernel) rfl (Nat.le_of_ble_eq_true rfl) (Nat.zero_le _) (fun X A C hR _ => (wX6_atom0_0 σ C hR  ok rfl))
theorem mv_X6_atom0 : MV yX6_atom0 cX6_atom0 2 (some .int) RX6 0 := ⟨ki_X6_atom0, kv_X6_atom0, kn_X6, kc_X6_atom0, by decide +kernel⟩
def tbX6_term0 : List (Nat × Instr × Nat) := [(0, .aload_n 0, 1), (1, .invokevirtual 330, 3), (4, .istore_n 1, 1), (5, .aload_n 0, 1), (6, .bipush 42, 2), (8, .invokevirtual 226, 3), (11, .ifCond .eq 17, 3), (14, .aload_n 0, 1), (15, .invokevirtual 201, 3), (18, .iload_n 1, 1), (19, .aload_n 0, 1), (20, .invokevirtual 330, 3), (23, .imul, 1), (24, .istore_n 1, 1), (25, .goto (-20), 3), (28, .iload_n 1, 1), (29, .ireturn, 1)]
theorem tdX6_term0 : tbX6_term0.all (fun q => decide (decode cX6_term0 q.1 = .ok q.2)) = true := by decide +kernel
def pX6_term0_23 (kR5 : OS × Int32 → Int32 × OS) (σ : OS) (b0_ : Int32) (b1_ : Int32) : Int32 × OS := kR5 (σ, b1_ * b0_)
def oX6_term0_23 (kO5 : OS × Int32 → Prop) (σ : OS) (b0_ : Int32) (b1_ : Int32) : Prop := kO5 (σ, b1_ * b0_)
set_option maxHeartbeats 4000000 in
set_option maxRecDepth 100000 in
theorem wX6_term0_23 {X : CX} {cy : Nat → ClassId} {q : Nat → Nat} {D : va_G} {A : Nat → Prop} {res : Int32 × OS} (σ : OS) (b0_ : Int32) (b1_ : Int32) (C : Cx X cX6_term0 RX6 2 D (gty cy) A 35 0 0) (hR : Rt X (some .int) D (gty cy) A 0 0 (eI (wX6 cy q res.2) res.1)) (kR5 : OS × Int32 → Int32 × OS) (kO5 : OS × Int32 → Prop) (hk5 : ∀ z, kO5 z → kR5 z = res → At X D A 2 0 0 5 [(0, .ref (q 41)), (1, .int z.2)] [] (wX6 cy q z.1)) (ok : oX6_term0_23 kO5 σ b0_ b1_) (h : pX6_term0_23 kR5 σ b0_ b1_ = res) : At X D A 2 0 0 23 [(0, .ref (q 41))] [.int b0_, .int b1_] (wX6 cy q σ) := by
  unfold pX6_term0_23 at h
  unfold oX6_term0_23 at ok
  refine r_imul C (dall tdX6_term0 12 rfl) ?_
  refine r_istore_n (lv' := [(1, .int (b1_ * b0_)), (0, .ref (q 41))]) C (dall tdX6_term0 13 rfl) (by decide) rfl ?_
  refine r_goto (tgt := 5) C (dall tdX6_term0 14 rfl) (by decide) ?_
  refine r_pick [1, 0] rfl ?_
  exact hk5 (σ, b1_ * b0_) ok h
def pX6_term0_18 (kR5 : OS × Int32 → Int32 × OS) (σ : OS) (a1_ : Int32) : Int32 × OS := pX6_term0_23 kR5 ((fX6_atom0 σ ).2) ((fX6_atom0 σ ).1) a1_
def oX6_term0_18 (kO5 : OS × Int32 → Prop) (σ : OS) (a1_ : Int32) : Prop := (gX6_atom0 σ ) ∧ (oX6_term0_23 kO5 ((fX6_atom0 σ ).2) ((fX6_atom0 σ ).1) a1_)
set_option maxHeartbeats 4000000 in
set_option maxRecDepth 100000 in
theorem wX6_term0_18 {X : CX} {cy : Nat → ClassId} {q : Nat → Nat} {D : va_G} {A : Nat → Prop} {res : Int32 × OS} (σ : OS) (a1_ : Int32) (C : Cx X cX6_term0 RX6 2 D (gty cy) A 35 0 0) (hR : Rt X (some .int) D (gty cy) A 0 0 (eI (wX6 cy q res.2) res.1)) (kR5 : OS × Int32 → Int32 × OS) (kO5 : OS × Int32 → Prop) (hk5 : ∀ z, kO5 z → kR5 z = res → At X D A 2 0 0 5 [(0, .ref (q 41)), (1, .int z.2)] [] (wX6 cy q z.1)) (ok : oX6_term0_18 kO5 σ a1_) (h : pX6_term0_18 kR5 σ a1_ = res) : At X D A 2 0 0 18 [(0, .ref (q 41)), (1, .int a1_)] [] (wX6 cy q σ) := by
  unfold pX6_term0_18 at h
  unfold oX6_term0_18 at ok
  refine r_iload_n C 1 (dall tdX6_term0 9 rfl) rfl ?_
  refine r_aload_n C 0 (dall tdX6_term0 10 rfl) rfl ?_
  obtain ⟨o1, ok⟩ := ok
  refine r_vI (as := []) C (zX6_atom0 cy q σ  o1) mv_X6_atom0 km_X6_330 (by decide) (by decide) ⟨Nat.le_refl _, Nat.le_refl _⟩ rfl rfl rfl rfl (Nat.le_of_ble_eq_true rfl) (dall tdX6_term0 11 rfl) ?_
  refine r_pick [0] rfl ?_
  exact wX6_term0_23 ((fX6_atom0 σ ).2) ((fX6_atom0 σ ).1) a1_ C hR kR5 kO5 hk5 ok h
def bX6_term0_5   (kR5 : OS × Int32 → Int32 × OS) (v : OS × Int32) : Int32 × OS := if (fX6_isSign v.1 42) = 0 then (v.2, v.1) else pX6_term0_18 kR5 (fX6_next v.1) v.2
def kX6_term0_5   (kO5 : OS × Int32 → Prop) (v : OS × Int32) : Prop := ((fX6_isSign v.1 42) = 0 → True) ∧ (¬ ((fX6_isSign v.1 42) = 0) → (gX6_next v.1 ) ∧ (oX6_term0_18 kO5 (fX6_next v.1) v.2))
set_option maxHeartbeats 4000000 in
set_option maxRecDepth 100000 in
theorem wX6_term0_5 {X : CX} {cy : Nat → ClassId} {q : Nat → Nat} {D : va_G} {A : Nat → Prop} {res : Int32 × OS}  (C : Cx X cX6_term0 RX6 2 D (gty cy) A 35 0 0) (hR : Rt X (some .int) D (gty cy) A 0 0 (eI (wX6 cy q res.2) res.1)) (kR5 : OS × Int32 → Int32 × OS) (kO5 : OS × Int32 → Prop) (hk5 : ∀ z, kO5 z → kR5 z = res → At X D A 2 0 0 5 [(0, .ref (q 41)), (1, .int z.2)] [] (wX6 cy q z.1)) (v : OS × Int32) (ok : kX6_term0_5  kO5 v) (h : bX6_term0_5  kR5 v = res) : At X D A 2 0 0 5 [(0, .ref (q 41)), (1, .int v.2)] [] (wX6 cy q v.1) := by
  unfold bX6_term0_5 at h
  unfold kX6_term0_5 at ok
  refine r_aload_n C 0 (dall tdX6_term0 3 rfl) rfl ?_
  refine r_bipush (v := 42) C (dall tdX6_term0 4 rfl) (by decide) ?_
  refine r_vI (as := [.int 42]) C (zX6_isSign cy q v.1 42 ) mv_X6_isSign km_X6_226 (by decide) (by decide) ⟨Nat.le_refl _, Nat.le_refl _⟩ rfl rfl rfl rfl (Nat.le_of_ble_eq_true rfl) (dall tdX6_term0 5 rfl) ?_
  refine r_if_eq (tgt := 28) C (dall tdX6_term0 6 rfl) (by decide) (fun c2 => ?_) (fun c2 => ?_)
  · have h := (if_pos c2).symm.trans h
    have ok := ok.1 c2
    refine r_iload_n C 1 (dall tdX6_term0 15 rfl) rfl ?_
    exact r_iret C hR (dall tdX6_term0 16 rfl) (by subst h; exact ⟨rfl, rfl⟩)
  · have h := (if_neg c2).symm.trans h
    have ok := ok.2 c2
    refine r_aload_n C 0 (dall tdX6_term0 7 rfl) rfl ?_
    obtain ⟨o3, ok⟩ := ok
    refine r_vV (as := []) C (zX6_next cy q v.1  o3) mv_X6_next km_X6_201 (by decide) (by decide) ⟨Nat.le_refl _, Nat.le_refl _⟩ rfl rfl rfl rfl (Nat.le_of_ble_eq_true rfl) (dall tdX6_term0 8 rfl) ?_
    exact wX6_term0_18 (fX6_next v.1) v.2 C hR kR5 kO5 hk5 ok h
set_option maxHeartbeats 4000000 in
set_option maxRecDepth 100000 in
theorem lX6_term0_5 {X : CX} {cy : Nat → ClassId} {q : Nat → Nat} {D : va_G} {A : Nat → Prop} {res : Int32 × OS}  (C : Cx X cX6_term0 RX6 2 D (gty cy) A 35 0 0) (hR : Rt X (some .int) D (gty cy) A 0 0 (eI (wX6 cy q res.2) res.1))  (n : Nat) (v : OS × Int32) (ok : lpOk (kX6_term0_5  ) n v) (h : lp (0, o0) (bX6_term0_5  ) n v = res) : At X D A 2 0 0 5 [(0, .ref (q 41)), (1, .int v.2)] [] (wX6 cy q v.1) :=
  lp_rule (fun v rr_ => rr_ = res → At X D A 2 0 0 5 [(0, .ref (q 41)), (1, .int v.2)] [] (wX6 cy q v.1)) (fun kR kO hk v ok h => wX6_term0_5  C hR  kR kO hk v ok h) n v ok h
def pX6_term0_4  (σ : OS) (b0_ : Int32) : Int32 × OS := lp (0, o0) (bX6_term0_5  ) fu (σ, b0_)
def oX6_term0_4  (σ : OS) (b0_ : Int32) : Prop := lpOk (kX6_term0_5  ) fu (σ, b0_)
set_option maxHeartbeats 4000000 in
set_option maxRecDepth 100000 in
theorem wX6_term0_4 {X : CX} {cy : Nat → ClassId} {q : Nat → Nat} {D : va_G} {A : Nat → Prop} {res : Int32 × OS} (σ : OS) (b0_ : Int32) (C : Cx X cX6_term0 RX6 2 D (gty cy) A 35 0 0) (hR : Rt X (some .int) D (gty cy) A 0 0 (eI (wX6 cy q res.2) res.1))  (ok : oX6_term0_4  σ b0_) (h : pX6_term0_4  σ b0_ = res) : At X D A 2 0 0 4 [(0, .ref (q 41))] [.int b0_] (wX6 cy q σ) := by
  unfold pX6_term0_4 at h
  unfold oX6_term0_4 at ok
  refine r_istore_n (lv' := [(1, .int b0_), (0, .ref (q 41))]) C (dall tdX6_term0 2 rfl) (by decide) rfl ?_
  refine r_pick [1, 0] rfl ?_
  exact lX6_term0_5  C hR  fu _ ok h
def pX6_term0_0  (σ : OS) : Int32 × OS := pX6_term0_4  ((fX6_atom0 σ ).2) ((fX6_atom0 σ ).1)
def oX6_term0_0  (σ : OS) : Prop := (gX6_atom0 σ ) ∧ (oX6_term0_4  ((fX6_atom0 σ ).2) ((fX6_atom0 σ ).1))
set_option maxHeartbeats 4000000 in
set_option maxRecDepth 100000 in
theorem wX6_term0_0 {X : CX} {cy : Nat → ClassId} {q : Nat → Nat} {D : va_G} {A : Nat → Prop} {res : Int32 × OS} (σ : OS) (C : Cx X cX6_term0 RX6 2 D (gty cy) A 35 0 0) (hR : Rt X (some .int) D (gty cy) A 0 0 (eI (wX6 cy q res.2) res.1))  (ok : oX6_term0_0  σ) (h : pX6_term0_0  σ = res) : At X D A 2 0 0 0 [(0, .ref (q 41))] [] (wX6 cy q σ) := by
  unfold pX6_term0_0 at h
  unfold oX6_term0_0 at ok
  refine r_aload_n C 0 (dall tdX6_term0 0 rfl) rfl ?_
  obtain ⟨o4, ok⟩ := ok
  refine r_vI (as := []) C (zX6_atom0 cy q σ  o4) mv_X6_atom0 km_X6_330 (by decide) (by decide) ⟨Nat.le_refl _, Nat.le_refl _⟩ rfl rfl rfl rfl (Nat.le_of_ble_eq_true rfl) (dall tdX6_term0 1 rfl) ?_
  exact wX6_term0_4 ((fX6_atom0 σ ).2) ((fX6_atom0 σ ).1) C hR  ok h
def fX6_term0 (σ : OS) : Int32 × OS := pX6_term0_0  σ
def gX6_term0 (σ : OS) : Prop := oX6_term0_0  σ
set_option maxRecDepth 100000 in
theorem zX6_term0 (cy : Nat → ClassId) (q : Nat → Nat)  {D : va_G} (σ : OS) (ok : gX6_term0 σ )  : Con yX6_term0 cX6_term0 2 (some .int) 35 0 0 D (gty cy) [.ref (q 41)] (wX6 cy q σ) (eI (wX6 cy q (fX6_term0 σ ).2) (fX6_term0 σ ).1) :=
  Con.of (own := RX6) (by decide +kernel) rfl (Nat.le_of_ble_eq_true rfl) (Nat.zero_le _) (fun X A C hR _ => (wX6_term0_0 σ C hR  ok rfl))
theorem mv_X6_term0 : MV yX6_term0 cX6_term0 2 (some .int) RX6 0 := ⟨ki_X6_term0, kv_X6_term0, kn_X6, kc_X6_term0, by decide +kernel⟩
def tbX6_added0 : List (Nat × Instr × Nat) := [(0, .aload_n 0, 1), (1, .invokevirtual 333, 3), (4, .istore_n 1, 1), (5, .aload_n 0, 1), (6, .bipush 43, 2), (8, .invokevirtual 226, 3), (11, .ifCond .ne 12, 3), (14, .aload_n 0, 1), (15, .bipush 45, 2), (17, .invokevirtual 226, 3), (20, .ifCond .eq 46, 3), (23, .aload_n 0, 1), (24, .getfield 179, 3), (27, .ldc2_w 242, 3), (30, .lcmp, 1), (31, .ifCond .ne 7, 3), (34, .iconst 1, 1), (35, .goto 4, 3), (38, .iconst 0, 1), (39, .istore_n 2, 1), (40, .aload_n 0, 1), (41, .invokevirtual 201, 3), (44, .aload_n 0, 1), (45, .invokevirtual 333, 3), (48, .istore_n 3, 1), (49, .iload_n 2, 1), (50, .ifCond .eq 9, 3), (53, .iload_n 1, 1), (54, .iload_n 3, 1), (55, .iadd, 1), (56, .goto 6, 3), (59, .iload_n 1, 1), (60, .iload_n 3, 1), (61, .isub, 1), (62, .istore_n 1, 1), (63, .goto (-58), 3), (66, .iload_n 1, 1), (67, .ireturn, 1)]
theorem tdX6_added0 : tbX6_added0.all (fun q => decide (decode cX6_added0 q.1 = .ok q.2)) = true := by decide +kernel
def pX6_added0_62 (kR5 : OS × Int32 → Int32 × OS) (σ : OS) (b0_ : Int32) : Int32 × OS := kR5 (σ, b0_)
def oX6_added0_62 (kO5 : OS × Int32 → Prop) (σ : OS) (b0_ : Int32) : Prop := kO5 (σ, b0_)
set_option maxHeartbeats 4000000 in
set_option maxRecDepth 100000 in
theorem wX6_added0_62 {X : CX} {cy : Nat → ClassId} {q : Nat → Nat} {D : va_G} {A : Nat → Prop} {res : Int32 × OS} (σ : OS) (b0_ : Int32) (C : Cx X cX6_added0 RX6 4 D (gty cy) A 36 0 0) (hR : Rt X (some .int) D (gty cy) A 0 0 (eI (wX6 cy q res.2) res.1)) (kR5 : OS × Int32 → Int32 × OS) (kO5 : OS × Int32 → Prop) (hk5 : ∀ z, kO5 z → kR5 z = res → At X D A 4 0 0 5 [(0, .ref (q 41)), (1, .int z.2)] [] (wX6 cy q z.1)) (ok : oX6_added0_62 kO5 σ b0_) (h : pX6_added0_62 kR5 σ b0_ = res) : At X D A 4 0 0 62 [(0, .ref (q 41))] [.int b0_] (wX6 cy q σ) := by
  unfold pX6_added0_62 at h
  unfold oX6_added0_62 at ok
  refine r_istore_n (lv' := [(1, .int b0_), (0, .ref (q 41))]) C (dall tdX6_added0 34 rfl) (by decide) rfl ?_
  refine r_goto (tgt := 5) C (dall tdX6_added0 35 rfl) (by decide) ?_
  refine r_pick [1, 0] rfl ?_
  exact hk5 (σ, b0_) ok h
def pX6_added0_48 (kR5 : OS × Int32 → Int32 × OS) (σ : OS) (a1_ : Int32) (a2_ : Int32) (b0_ : Int32) : Int32 × OS := if a2_ = 0 then pX6_added0_62 kR5 σ (a1_ - b0_) else pX6_added0_62 kR5 σ (a1_ + b0_)
def oX6_added0_48 (kO5 : OS × Int32 → Prop) (σ : OS) (a1_ : Int32) (a2_ : Int32) (b0_ : Int32) : Prop := (a2_ = 0 → oX6_added0_62 kO5 σ (a1_ - b0_)) ∧ (¬ (a2_ = 0) → oX6_added0_62 kO5 σ (a1_ + b0_))
set_option maxHeartbeats 4000000 in
set_option maxRecDepth 100000 in
theorem wX6_added0_48 {X : CX} {cy : Nat → ClassId} {q : Nat → Nat} {D : va_G} {A : Nat → Prop} {res : Int32 × OS} (σ : OS) (a1_ : Int32) (a2_ : Int32) (b0_ : Int32) (C : Cx X cX6_added0 RX6 4 D (gty cy) A 36 0 0) (hR : Rt X (some .int) D (gty cy) A 0 0 (eI (wX6 cy q res.2) res.1)) (kR5 : OS × Int32 → Int32 × OS) (kO5 : OS × Int32 → Prop) (hk5 : ∀ z, kO5 z → kR5 z = res → At X D A 4 0 0 5 [(0, .ref (q 41)), (1, .int z.2)] [] (wX6 cy q z.1)) (ok : oX6_added0_48 kO5 σ a1_ a2_ b0_) (h : pX6_added0_48 kR5 σ a1_ a2_ b0_ = res) : At X D A 4 0 0 48 [(0, .ref (q 41)), (1, .int a1_), (2, .int a2_)] [.int b0_] (wX6 cy q σ) := by
  unfold pX6_added0_48 at h
  unfold oX6_added0_48 at ok
  refine r_istore_n (lv' := [(3, .int b0_), (0, .ref (q 41)), (1, .int a1_), (2, .int a2_)]) C (dall tdX6_added0 24 rfl) (by decide) rfl ?_
  refine r_iload_n C 3 (dall tdX6_added0 25 rfl) rfl ?_
  refine r_if_eq (tgt := 59) C (dall tdX6_added0 26 rfl) (by decide) (fun c1 => ?_) (fun c1 => ?_)
  · have h := (if_pos c1).symm.trans h
    have ok := ok.1 c1
    refine r_iload_n C 2 (dall tdX6_added0 31 rfl) rfl ?_
    refine r_iload_n C 0 (dall tdX6_added0 32 rfl) rfl ?_
    refine r_isub C (dall tdX6_added0 33 rfl) ?_
    refine r_pick [1] rfl ?_
    exact wX6_added0_62 σ (a1_ - b0_) C hR kR5 kO5 hk5 ok h
  · have h := (if_neg c1).symm.trans h
    have ok := ok.2 c1
    refine r_iload_n C 2 (dall tdX6_added0 27 rfl) rfl ?_
    refine r_iload_n C 0 (dall tdX6_added0 28 rfl) rfl ?_
    refine r_iadd C (dall tdX6_added0 29 rfl) ?_
    refine r_goto (tgt := 62) C (dall tdX6_added0 30 rfl) (by decide) ?_
    refine r_pick [1] rfl ?_
    exact wX6_added0_62 σ (a1_ + b0_) C hR kR5 kO5 hk5 ok h
def pX6_added0_44 (kR5 : OS × Int32 → Int32 × OS) (σ : OS) (a1_ : Int32) (a2_ : Int32) : Int32 × OS := pX6_added0_48 kR5 ((fX6_term0 σ ).2) a1_ a2_ ((fX6_term0 σ ).1)
def oX6_added0_44 (kO5 : OS × Int32 → Prop) (σ : OS) (a1_ : Int32) (a2_ : Int32) : Prop := (gX6_term0 σ ) ∧ (oX6_added0_48 kO5 ((fX6_term0 σ ).2) a1_ a2_ ((fX6_term0 σ ).1))
set_option maxHeartbeats 4000000 in
set_option maxRecDepth 100000 in
theorem wX6_added0_44 {X : CX} {cy : Nat → ClassId} {q : Nat → Nat} {D : va_G} {A : Nat → Prop} {res : Int32 × OS} (σ : OS) (a1_ : Int32) (a2_ : Int32) (C : Cx X cX6_added0 RX6 4 D (gty cy) A 36 0 0) (hR : Rt X (some .int) D (gty cy) A 0 0 (eI (wX6 cy q res.2) res.1)) (kR5 : OS × Int32 → Int32 × OS) (kO5 : OS × Int32 → Prop) (hk5 : ∀ z, kO5 z → kR5 z = res → At X D A 4 0 0 5 [(0, .ref (q 41)), (1, .int z.2)] [] (wX6 cy q z.1)) (ok : oX6_added0_44 kO5 σ a1_ a2_) (h : pX6_added0_44 kR5 σ a1_ a2_ = res) : At X D A 4 0 0 44 [(0, .ref (q 41)), (1, .int a1_), (2, .int a2_)] [] (wX6 cy q σ) := by
  unfold pX6_added0_44 at h
  unfold oX6_added0_44 at ok
  refine r_aload_n C 0 (dall tdX6_added0 22 rfl) rfl ?_
  obtain ⟨o2, ok⟩ := ok
  refine r_vI (as := []) C (zX6_term0 cy q σ  o2) mv_X6_term0 km_X6_333 (by decide) (by decide) ⟨Nat.le_refl _, Nat.le_refl _⟩ rfl rfl rfl rfl (Nat.le_of_ble_eq_true rfl) (dall tdX6_added0 23 rfl) ?_
  exact wX6_added0_48 ((fX6_term0 σ ).2) a1_ a2_ ((fX6_term0 σ ).1) C hR kR5 kO5 hk5 ok h
def pX6_added0_39 (kR5 : OS × Int32 → Int32 × OS) (σ : OS) (a1_ : Int32) (b0_ : Int32) : Int32 × OS := pX6_added0_44 kR5 (fX6_next σ) a1_ b0_
def oX6_added0_39 (kO5 : OS × Int32 → Prop) (σ : OS) (a1_ : Int32) (b0_ : Int32) : Prop := (gX6_next σ ) ∧ (oX6_added0_44 kO5 (fX6_next σ) a1_ b0_)
set_option maxHeartbeats 4000000 in
set_option maxRecDepth 100000 in
theorem wX6_added0_39 {X : CX} {cy : Nat → ClassId} {q : Nat → Nat} {D : va_G} {A : Nat → Prop} {res : Int32 × OS} (σ : OS) (a1_ : Int32) (b0_ : Int32) (C : Cx X cX6_added0 RX6 4 D (gty cy) A 36 0 0) (hR : Rt X (some .int) D (gty cy) A 0 0 (eI (wX6 cy q res.2) res.1)) (kR5 : OS × Int32 → Int32 × OS) (kO5 : OS × Int32 → Prop) (hk5 : ∀ z, kO5 z → kR5 z = res → At X D A 4 0 0 5 [(0, .ref (q 41)), (1, .int z.2)] [] (wX6 cy q z.1)) (ok : oX6_added0_39 kO5 σ a1_ b0_) (h : pX6_added0_39 kR5 σ a1_ b0_ = res) : At X D A 4 0 0 39 [(0, .ref (q 41)), (1, .int a1_)] [.int b0_] (wX6 cy q σ) := by
  unfold pX6_added0_39 at h
  unfold oX6_added0_39 at ok
  refine r_istore_n (lv' := [(2, .int b0_), (0, .ref (q 41)), (1, .int a1_)]) C (dall tdX6_added0 19 rfl) (by decide) rfl ?_
  refine r_aload_n C 1 (dall tdX6_added0 20 rfl) rfl ?_
  obtain ⟨o3, ok⟩ := ok
  refine r_vV (as := []) C (zX6_next cy q σ  o3) mv_X6_next km_X6_201 (by decide) (by decide) ⟨Nat.le_refl _, Nat.le_refl _⟩ rfl rfl rfl rfl (Nat.le_of_ble_eq_true rfl) (dall tdX6_added0 21 rfl) ?_
  refine r_pick [1, 2, 0] rfl ?_
  exact wX6_added0_44 (fX6_next σ) a1_ b0_ C hR kR5 kO5 hk5 ok h
def pX6_added0_23 (kR5 : OS × Int32 → Int32 × OS) (σ : OS) (a1_ : Int32) : Int32 × OS := if (σ.2.1 24) = (43) then pX6_added0_39 kR5 σ a1_ 1 else pX6_added0_39 kR5 σ a1_ 0
def oX6_added0_23 (kO5 : OS × Int32 → Prop) (σ : OS) (a1_ : Int32) : Prop := ((σ.2.1 24) = (43) → oX6_added0_39 kO5 σ a1_ 1) ∧ (¬ ((σ.2.1 24) = (43)) → oX6_added0_39 kO5 σ a1_ 0)
set_option maxHeartbeats 4000000 in
set_option maxRecDepth 100000 in
theorem wX6_added0_23 {X : CX} {cy : Nat → ClassId} {q : Nat → Nat} {D : va_G} {A : Nat → Prop} {res : Int32 × OS} (σ : OS) (a1_ : Int32) (C : Cx X cX6_added0 RX6 4 D (gty cy) A 36 0 0) (hR : Rt X (some .int) D (gty cy) A 0 0 (eI (wX6 cy q res.2) res.1)) (kR5 : OS × Int32 → Int32 × OS) (kO5 : OS × Int32 → Prop) (hk5 : ∀ z, kO5 z → kR5 z = res → At X D A 4 0 0 5 [(0, .ref (q 41)), (1, .int z.2)] [] (wX6 cy q z.1)) (ok : oX6_added0_23 kO5 σ a1_) (h : pX6_added0_23 kR5 σ a1_ = res) : At X D A 4 0 0 23 [(0, .ref (q 41)), (1, .int a1_)] [] (wX6 cy q σ) := by
  unfold pX6_added0_23 at h
  unfold oX6_added0_23 at ok
  refine r_aload_n C 0 (dall tdX6_added0 11 rfl) rfl ?_
  refine r_get C 0 kw_X6 rfl rfl (by decide) kf_X6_179 rfl rfl (dall tdX6_added0 12 rfl) ?_
  refine r_ldc2 C kk_X6_242 (dall tdX6_added0 13 rfl) ?_
  refine r_lif_ne (tgt := 38) C (dall tdX6_added0 14 rfl) (dall tdX6_added0 15 rfl) (by decide) (fun c4 => ?_) (fun c4 => ?_)
  · have h := (if_neg c4).symm.trans h
    have ok := ok.2 c4
    refine r_iconst (v := 0) C (dall tdX6_added0 18 rfl) (by decide) ?_
    exact wX6_added0_39 σ a1_ 0 C hR kR5 kO5 hk5 ok h
  · have h := (if_pos c4).symm.trans h
    have ok := ok.1 c4
    refine r_iconst (v := 1) C (dall tdX6_added0 16 rfl) (by decide) ?_
    refine r_goto (tgt := 39) C (dall tdX6_added0 17 rfl) (by decide) ?_
    exact wX6_added0_39 σ a1_ 1 C hR kR5 kO5 hk5 ok h
def bX6_added0_5   (kR5 : OS × Int32 → Int32 × OS) (v : OS × Int32) : Int32 × OS := if (fX6_isSign v.1 43) = 0 then if (fX6_isSign v.1 45) = 0 then (v.2, v.1) else pX6_added0_23 kR5 v.1 v.2 else pX6_added0_23 kR5 v.1 v.2
def kX6_added0_5   (kO5 : OS × Int32 → Prop) (v : OS × Int32) : Prop := ((fX6_isSign v.1 43) = 0 → ((fX6_isSign v.1 45) = 0 → True) ∧ (¬ ((fX6_isSign v.1 45) = 0) → oX6_added0_23 kO5 v.1 v.2)) ∧ (¬ ((fX6_isSign v.1 43) = 0) → oX6_added0_23 kO5 v.1 v.2)
set_option maxHeartbeats 4000000 in
set_option maxRecDepth 100000 in
theorem wX6_added0_5 {X : CX} {cy : Nat → ClassId} {q : Nat → Nat} {D : va_G} {A : Nat → Prop} {res : Int32 × OS}  (C : Cx X cX6_added0 RX6 4 D (gty cy) A 36 0 0) (hR : Rt X (some .int) D (gty cy) A 0 0 (eI (wX6 cy q res.2) res.1)) (kR5 : OS × Int32 → Int32 × OS) (kO5 : OS × Int32 → Prop) (hk5 : ∀ z, kO5 z → kR5 z = res → At X D A 4 0 0 5 [(0, .ref (q 41)), (1, .int z.2)] [] (wX6 cy q z.1)) (v : OS × Int32) (ok : kX6_added0_5  kO5 v) (h : bX6_added0_5  kR5 v = res) : At X D A 4 0 0 5 [(0, .ref (q 41)), (1, .int v.2)] [] (wX6 cy q v.1) := by
  unfold bX6_added0_5 at h
  unfold kX6_added0_5 at ok
  refine r_aload_n C 0 (dall tdX6_added0 3 rfl) rfl ?_
  refine r_bipush (v := 43) C (dall tdX6_added0 4 rfl) (by decide) ?_
  refine r_vI (as := [.int 43]) C (zX6_isSign cy q v.1 43 ) mv_X6_isSign km_X6_226 (by decide) (by decide) ⟨Nat.le_refl _, Nat.le_refl _⟩ rfl rfl rfl rfl (Nat.le_of_ble_eq_true rfl) (dall tdX6_added0 5 rfl) ?_
  refine r_if_ne (tgt := 23) C (dall tdX6_added0 6 rfl) (by decide) (fun c5 => ?_) (fun c5 => ?_)
  · have h := (if_neg c5).symm.trans h
    have ok := ok.2 c5
    exact wX6_added0_23 v.1 v.2 C hR kR5 kO5 hk5 ok h
  · have h := (if_pos c5).symm.trans h
    have ok := ok.1 c5
    refine r_aload_n C 0 (dall tdX6_added0 7 rfl) rfl ?_
    refine r_bipush (v := 45) C (dall tdX6_added0 8 rfl) (by decide) ?_
    refine r_vI (as := [.int 45]) C (zX6_isSign cy q v.1 45 ) mv_X6_isSign km_X6_226 (by decide) (by decide) ⟨Nat.le_refl _, Nat.le_refl _⟩ rfl rfl rfl rfl (Nat.le_of_ble_eq_true rfl) (dall tdX6_added0 9 rfl) ?_
    refine r_if_eq (tgt := 66) C (dall tdX6_added0 10 rfl) (by decide) (fun c6 => ?_) (fun c6 => ?_)
    · have h := (if_pos c6).symm.trans h
      have ok := ok.1 c6
      refine r_iload_n C 1 (dall tdX6_added0 36 rfl) rfl ?_
      exact r_iret C hR (dall tdX6_added0 37 rfl) (by subst h; exact ⟨rfl, rfl⟩)
    · have h := (if_neg c6).symm.trans h
      have ok := ok.2 c6
      exact wX6_added0_23 v.1 v.2 C hR kR5 kO5 hk5 ok h
set_option maxHeartbeats 4000000 in
set_option maxRecDepth 100000 in
theorem lX6_added0_5 {X : CX} {cy : Nat → ClassId} {q : Nat → Nat} {D : va_G} {A : Nat → Prop} {res : Int32 × OS}  (C : Cx X cX6_added0 RX6 4 D (gty cy) A 36 0 0) (hR : Rt X (some .int) D (gty cy) A 0 0 (eI (wX6 cy q res.2) res.1))  (n : Nat) (v : OS × Int32) (ok : lpOk (kX6_added0_5  ) n v) (h : lp (0, o0) (bX6_added0_5  ) n v = res) : At X D A 4 0 0 5 [(0, .ref (q 41)), (1, .int v.2)] [] (wX6 cy q v.1) :=
  lp_rule (fun v rr_ => rr_ = res → At X D A 4 0 0 5 [(0, .ref (q 41)), (1, .int v.2)] [] (wX6 cy q v.1)) (fun kR kO hk v ok h => wX6_added0_5  C hR  kR kO hk v ok h) n v ok h
def pX6_added0_4  (σ : OS) (b0_ : Int32) : Int32 × OS := lp (0, o0) (bX6_added0_5  ) fu (σ, b0_)
def oX6_added0_4  (σ : OS) (b0_ : Int32) : Prop := lpOk (kX6_added0_5  ) fu (σ, b0_)
set_option maxHeartbeats 4000000 in
set_option maxRecDepth 100000 in
theorem wX6_added0_4 {X : CX} {cy : Nat → ClassId} {q : Nat → Nat} {D : va_G} {A : Nat → Prop} {res : Int32 × OS} (σ : OS) (b0_ : Int32) (C : Cx X cX6_added0 RX6 4 D (gty cy) A 36 0 0) (hR : Rt X (some .int) D (gty cy) A 0 0 (eI (wX6 cy q res.2) res.1))  (ok : oX6_added0_4  σ b0_) (h : pX6_added0_4  σ b0_ = res) : At X D A 4 0 0 4 [(0, .ref (q 41))] [.int b0_] (wX6 cy q σ) := by
  unfold pX6_added0_4 at h
  unfold oX6_added0_4 at ok
  refine r_istore_n (lv' := [(1, .int b0_), (0, .ref (q 41))]) C (dall tdX6_added0 2 rfl) (by decide) rfl ?_
  refine r_pick [1, 0] rfl ?_
  exact lX6_added0_5  C hR  fu _ ok h
def pX6_added0_0  (σ : OS) : Int32 × OS := pX6_added0_4  ((fX6_term0 σ ).2) ((fX6_term0 σ ).1)
def oX6_added0_0  (σ : OS) : Prop := (gX6_term0 σ ) ∧ (oX6_added0_4  ((fX6_term0 σ ).2) ((fX6_term0 σ ).1))
set_option maxHeartbeats 4000000 in
set_option maxRecDepth 100000 in
theorem wX6_added0_0 {X : CX} {cy : Nat → ClassId} {q : Nat → Nat} {D : va_G} {A : Nat → Prop} {res : Int32 × OS} (σ : OS) (C : Cx X cX6_added0 RX6 4 D (gty cy) A 36 0 0) (hR : Rt X (some .int) D (gty cy) A 0 0 (eI (wX6 cy q res.2) res.1))  (ok : oX6_added0_0  σ) (h : pX6_added0_0  σ = res) : At X D A 4 0 0 0 [(0, .ref (q 41))] [] (wX6 cy q σ) := by
  unfold pX6_added0_0 at h
  unfold oX6_added0_0 at ok
  refine r_aload_n C 0 (dall tdX6_added0 0 rfl) rfl ?_
  obtain ⟨o7, ok⟩ := ok
  refine r_vI (as := []) C (zX6_term0 cy q σ  o7) mv_X6_term0 km_X6_333 (by decide) (by decide) ⟨Nat.le_refl _, Nat.le_refl _⟩ rfl rfl rfl rfl (Nat.le_of_ble_eq_true rfl) (dall tdX6_added0 1 rfl) ?_
  exact wX6_added0_4 ((fX6_term0 σ ).2) ((fX6_term0 σ ).1) C hR  ok h
def fX6_added0 (σ : OS) : Int32 × OS := pX6_added0_0  σ
def gX6_added0 (σ : OS) : Prop := oX6_added0_0  σ
set_option maxRecDepth 100000 in
theorem zX6_added0 (cy : Nat → ClassId) (q : Nat → Nat)  {D : va_G} (σ : OS) (ok : gX6_added0 σ )  : Con yX6_added0 cX6_added0 4 (some .int) 36 0 0 D (gty cy) [.ref (q 41)] (wX6 cy q σ) (eI (wX6 cy q (fX6_added0 σ ).2) (fX6_added0 σ ).1) :=
  Con.of (own := RX6) (by decide +kernel) rfl (Nat.le_of_ble_eq_true rfl) (Nat.zero_le _) (fun X A C hR _ => (wX6_added0_0 σ C hR  ok rfl))
theorem mv_X6_added0 : MV yX6_added0 cX6_added0 4 (some .int) RX6 0 := ⟨ki_X6_added0, kv_X6_added0, kn_X6, kc_X6_added0, by decide +kernel⟩
def tbX6_not0 : List (Nat × Instr × Nat) := [(0, .aload_n 0, 1), (1, .bipush 110, 2), (3, .bipush 111, 2), (5, .bipush 116, 2), (7, .iconst 0, 1), (8, .iconst 0, 1), (9, .iconst 0, 1), (10, .iconst 0, 1), (11, .iconst 0, 1), (12, .invokevirtual 204, 3), (15, .ifCond .eq 37, 3), (18, .aload_n 0, 1), (19, .invokevirtual 229, 3), (22, .ifCond .ne 5, 3), (25, .iconst 0, 1), (26, .ireturn, 1), (27, .aload_n 0, 1), (28, .invokevirtual 321, 3), (31, .istore_n 1, 1), (32, .aload_n 0, 1), (33, .dup, 1), (34, .getfield 195, 3), (37, .iconst 1, 1), (38, .isub, 1), (39, .putfield 195, 3), (42, .iload_n 1, 1), (43, .ifCond .ne 7, 3), (46, .iconst 1, 1), (47, .goto 4, 3), (50, .iconst 0, 1), (51, .ireturn, 1), (52, .aload_n 0, 1), (53, .invokevirtual 336, 3), (56, .istore_n 1, 1), (57, .aload_n 0, 1), (58, .bipush 60, 2), (60, .invokevirtual 226, 3), (63, .ifCond .ne 14, 3), (66, .aload_n 0, 1), (67, .bipush 61, 2), (69, .invokevirtual 226, 3), (72, .ifCond .ne 5, 3), (75, .iload_n 1, 1), (76, .ireturn, 1), (77, .aload_n 0, 1), (78, .getfield 179, 3), (81, .ldc2_w 247, 3), (84, .lcmp, 1), (85, .ifCond .ne 7, 3), (88, .iconst 1, 1), (89, .goto 4, 3), (92, .iconst 0, 1), (93, .istore_n 2, 1), (94, .aload_n 0, 1), (95, .invokevirtual 201, 3), (98, .aload_n 0, 1), (99, .invokevirtual 336, 3), (102, .istore_n 3, 1), (103, .iload_n 2, 1), (104, .ifCond .eq 11, 3), (107, .iload_n 1, 1), (108, .iload_n 3, 1), (109, .if_icmp .ge 15, 3), (112, .goto 8, 3), (115, .iload_n 1, 1), (116, .iload_n 3, 1), (117, .if_icmp .ne 7, 3), (120, .iconst 1, 1), (121, .goto 4, 3), (124, .iconst 0, 1), (125, .ireturn, 1)]
theorem tdX6_not0 : tbX6_not0.all (fun q => decide (decode cX6_not0 q.1 = .ok q.2)) = true := by decide +kernel
def pX6_not0_120  (σ : OS) : Int32 × OS := (1, σ)
set_option maxHeartbeats 4000000 in
set_option maxRecDepth 100000 in
theorem wX6_not0_120 {X : CX} {cy : Nat → ClassId} {q : Nat → Nat} {D : va_G} {A : Nat → Prop} {res : Int32 × OS} (σ : OS) (C : Cx X cX6_not0 RX6 4 D (gty cy) A 37 0 0) (hR : Rt X (some .int) D (gty cy) A 0 0 (eI (wX6 cy q res.2) res.1))  (h : pX6_not0_120  σ = res) : At X D A 4 0 0 120 [] [] (wX6 cy q σ) := by
  unfold pX6_not0_120 at h
  refine r_iconst (v := 1) C (dall tdX6_not0 67 rfl) (by decide) ?_
  refine r_goto (tgt := 125) C (dall tdX6_not0 68 rfl) (by decide) ?_
  exact r_iret C hR (dall tdX6_not0 70 rfl) (by subst h; exact ⟨rfl, rfl⟩)
def pX6_not0_102  (σ : OS) (a1_ : Int32) (a2_ : Int32) (b0_ : Int32) : Int32 × OS := if a2_ = 0 then if a1_ = b0_ then pX6_not0_120  σ else (0, σ) else if b0_ ≤ a1_ then (0, σ) else pX6_not0_120  σ
set_option maxHeartbeats 4000000 in
set_option maxRecDepth 100000 in
theorem wX6_not0_102 {X : CX} {cy : Nat → ClassId} {q : Nat → Nat} {D : va_G} {A : Nat → Prop} {res : Int32 × OS} (σ : OS) (a1_ : Int32) (a2_ : Int32) (b0_ : Int32) (C : Cx X cX6_not0 RX6 4 D (gty cy) A 37 0 0) (hR : Rt X (some .int) D (gty cy) A 0 0 (eI (wX6 cy q res.2) res.1))  (h : pX6_not0_102  σ a1_ a2_ b0_ = res) : At X D A 4 0 0 102 [(1, .int a1_), (2, .int a2_)] [.int b0_] (wX6 cy q σ) := by
  unfold pX6_not0_102 at h
  refine r_istore_n (lv' := [(3, .int b0_), (1, .int a1_), (2, .int a2_)]) C (dall tdX6_not0 57 rfl) (by decide) rfl ?_
  refine r_iload_n C 2 (dall tdX6_not0 58 rfl) rfl ?_
  refine r_if_eq (tgt := 115) C (dall tdX6_not0 59 rfl) (by decide) (fun c1 => ?_) (fun c1 => ?_)
  · have h := (if_pos c1).symm.trans h
    refine r_iload_n C 1 (dall tdX6_not0 64 rfl) rfl ?_
    refine r_iload_n C 0 (dall tdX6_not0 65 rfl) rfl ?_
    refine r_icmp_ne (tgt := 124) C (dall tdX6_not0 66 rfl) (by decide) (fun c2 => ?_) (fun c2 => ?_)
    · have h := (if_neg c2).symm.trans h
      refine r_iconst (v := 0) C (dall tdX6_not0 69 rfl) (by decide) ?_
      exact r_iret C hR (dall tdX6_not0 70 rfl) (by subst h; exact ⟨rfl, rfl⟩)
    · have h := (if_pos c2).symm.trans h
      refine r_pick [] rfl ?_
      exact wX6_not0_120 σ C hR  h
  · have h := (if_neg c1).symm.trans h
    refine r_iload_n C 1 (dall tdX6_not0 60 rfl) rfl ?_
    refine r_iload_n C 0 (dall tdX6_not0 61 rfl) rfl ?_
    refine r_icmp_ge (tgt := 124) C (dall tdX6_not0 62 rfl) (by decide) (fun c3 => ?_) (fun c3 => ?_)
    · have h := (if_pos c3).symm.trans h
      refine r_iconst (v := 0) C (dall tdX6_not0 69 rfl) (by decide) ?_
      exact r_iret C hR (dall tdX6_not0 70 rfl) (by subst h; exact ⟨rfl, rfl⟩)
    · have h := (if_neg c3).symm.trans h
      refine r_goto (tgt := 120) C (dall tdX6_not0 63 rfl) (by decide) ?_
      refine r_pick [] rfl ?_
      exact wX6_not0_120 σ C hR  h
def pX6_not0_98  (σ : OS) (a1_ : Int32) (a2_ : Int32) : Int32 × OS := pX6_not0_102  ((fX6_added0 σ ).2) a1_ a2_ ((fX6_added0 σ ).1)
def oX6_not0_98  (σ : OS) (a1_ : Int32) (a2_ : Int32) : Prop := gX6_added0 σ 
set_option maxHeartbeats 4000000 in
set_option maxRecDepth 100000 in
theorem wX6_not0_98 {X : CX} {cy : Nat → ClassId} {q : Nat → Nat} {D : va_G} {A : Nat → Prop} {res : Int32 × OS} (σ : OS) (a1_ : Int32) (a2_ : Int32) (C : Cx X cX6_not0 RX6 4 D (gty cy) A 37 0 0) (hR : Rt X (some .int) D (gty cy) A 0 0 (eI (wX6 cy q res.2) res.1))  (ok : oX6_not0_98  σ a1_ a2_) (h : pX6_not0_98  σ a1_ a2_ = res) : At X D A 4 0 0 98 [(0, .ref (q 41)), (1, .int a1_), (2, .int a2_)] [] (wX6 cy q σ) := by
  unfold pX6_not0_98 at h
  unfold oX6_not0_98 at ok
  refine r_aload_n C 0 (dall tdX6_not0 55 rfl) rfl ?_
  have o4 := ok
  refine r_vI (as := []) C (zX6_added0 cy q σ  o4) mv_X6_added0 km_X6_336 (by decide) (by decide) ⟨Nat.le_refl _, Nat.le_refl _⟩ rfl rfl rfl rfl (Nat.le_of_ble_eq_true rfl) (dall tdX6_not0 56 rfl) ?_
  refine r_pick [1, 2] rfl ?_
  exact wX6_not0_102 ((fX6_added0 σ ).2) a1_ a2_ ((fX6_added0 σ ).1) C hR  h
def pX6_not0_93  (σ : OS) (a1_ : Int32) (b0_ : Int32) : Int32 × OS := pX6_not0_98  (fX6_next σ) a1_ b0_
def oX6_not0_93  (σ : OS) (a1_ : Int32) (b0_ : Int32) : Prop := (gX6_next σ ) ∧ (oX6_not0_98  (fX6_next σ) a1_ b0_)
set_option maxHeartbeats 4000000 in
set_option maxRecDepth 100000 in
theorem wX6_not0_93 {X : CX} {cy : Nat → ClassId} {q : Nat → Nat} {D : va_G} {A : Nat → Prop} {res : Int32 × OS} (σ : OS) (a1_ : Int32) (b0_ : Int32) (C : Cx X cX6_not0 RX6 4 D (gty cy) A 37 0 0) (hR : Rt X (some .int) D (gty cy) A 0 0 (eI (wX6 cy q res.2) res.1))  (ok : oX6_not0_93  σ a1_ b0_) (h : pX6_not0_93  σ a1_ b0_ = res) : At X D A 4 0 0 93 [(0, .ref (q 41)), (1, .int a1_)] [.int b0_] (wX6 cy q σ) := by
  unfold pX6_not0_93 at h
  unfold oX6_not0_93 at ok
  refine r_istore_n (lv' := [(2, .int b0_), (0, .ref (q 41)), (1, .int a1_)]) C (dall tdX6_not0 52 rfl) (by decide) rfl ?_
  refine r_aload_n C 1 (dall tdX6_not0 53 rfl) rfl ?_
  obtain ⟨o5, ok⟩ := ok
  refine r_vV (as := []) C (zX6_next cy q σ  o5) mv_X6_next km_X6_201 (by decide) (by decide) ⟨Nat.le_refl _, Nat.le_refl _⟩ rfl rfl rfl rfl (Nat.le_of_ble_eq_true rfl) (dall tdX6_not0 54 rfl) ?_
  refine r_pick [1, 2, 0] rfl ?_
  exact wX6_not0_98 (fX6_next σ) a1_ b0_ C hR  ok h
def pX6_not0_77  (σ : OS) (a1_ : Int32) : Int32 × OS := if (σ.2.1 24) = (60) then pX6_not0_93  σ a1_ 1 else pX6_not0_93  σ a1_ 0
def oX6_not0_77  (σ : OS) (a1_ : Int32) : Prop := ((σ.2.1 24) = (60) → oX6_not0_93  σ a1_ 1) ∧ (¬ ((σ.2.1 24) = (60)) → oX6_not0_93  σ a1_ 0)
set_option maxHeartbeats 4000000 in
set_option maxRecDepth 100000 in
theorem wX6_not0_77 {X : CX} {cy : Nat → ClassId} {q : Nat → Nat} {D : va_G} {A : Nat → Prop} {res : Int32 × OS} (σ : OS) (a1_ : Int32) (C : Cx X cX6_not0 RX6 4 D (gty cy) A 37 0 0) (hR : Rt X (some .int) D (gty cy) A 0 0 (eI (wX6 cy q res.2) res.1))  (ok : oX6_not0_77  σ a1_) (h : pX6_not0_77  σ a1_ = res) : At X D A 4 0 0 77 [(0, .ref (q 41)), (1, .int a1_)] [] (wX6 cy q σ) := by
  unfold pX6_not0_77 at h
  unfold oX6_not0_77 at ok
  refine r_aload_n C 0 (dall tdX6_not0 44 rfl) rfl ?_
  refine r_get C 0 kw_X6 rfl rfl (by decide) kf_X6_179 rfl rfl (dall tdX6_not0 45 rfl) ?_
  refine r_ldc2 C kk_X6_247 (dall tdX6_not0 46 rfl) ?_
  refine r_lif_ne (tgt := 92) C (dall tdX6_not0 47 rfl) (dall tdX6_not0 48 rfl) (by decide) (fun c6 => ?_) (fun c6 => ?_)
  · have h := (if_neg c6).symm.trans h
    have ok := ok.2 c6
    refine r_iconst (v := 0) C (dall tdX6_not0 51 rfl) (by decide) ?_
    exact wX6_not0_93 σ a1_ 0 C hR  ok h
  · have h := (if_pos c6).symm.trans h
    have ok := ok.1 c6
    refine r_iconst (v := 1) C (dall tdX6_not0 49 rfl) (by decide) ?_
    refine r_goto (tgt := 93) C (dall tdX6_not0 50 rfl) (by decide) ?_
    exact wX6_not0_93 σ a1_ 1 C hR  ok h
def pX6_not0_56  (σ : OS) (b0_ : Int32) : Int32 × OS := if (fX6_isSign σ 60) = 0 then if (fX6_isSign σ 61) = 0 then (b0_, σ) else pX6_not0_77  σ b0_ else pX6_not0_77  σ b0_
def oX6_not0_56  (σ : OS) (b0_ : Int32) : Prop := ((fX6_isSign σ 60) = 0 → ((fX6_isSign σ 61) = 0 → True) ∧ (¬ ((fX6_isSign σ 61) = 0) → oX6_not0_77  σ b0_)) ∧ (¬ ((fX6_isSign σ 60) = 0) → oX6_not0_77  σ b0_)
set_option maxHeartbeats 4000000 in
set_option maxRecDepth 100000 in
theorem wX6_not0_56 {X : CX} {cy : Nat → ClassId} {q : Nat → Nat} {D : va_G} {A : Nat → Prop} {res : Int32 × OS} (σ : OS) (b0_ : Int32) (C : Cx X cX6_not0 RX6 4 D (gty cy) A 37 0 0) (hR : Rt X (some .int) D (gty cy) A 0 0 (eI (wX6 cy q res.2) res.1))  (ok : oX6_not0_56  σ b0_) (h : pX6_not0_56  σ b0_ = res) : At X D A 4 0 0 56 [(0, .ref (q 41))] [.int b0_] (wX6 cy q σ) := by
  unfold pX6_not0_56 at h
  unfold oX6_not0_56 at ok
  refine r_istore_n (lv' := [(1, .int b0_), (0, .ref (q 41))]) C (dall tdX6_not0 33 rfl) (by decide) rfl ?_
  refine r_aload_n C 1 (dall tdX6_not0 34 rfl) rfl ?_
  refine r_bipush (v := 60) C (dall tdX6_not0 35 rfl) (by decide) ?_
  refine r_vI (as := [.int 60]) C (zX6_isSign cy q σ 60 ) mv_X6_isSign km_X6_226 (by decide) (by decide) ⟨Nat.le_refl _, Nat.le_refl _⟩ rfl rfl rfl rfl (Nat.le_of_ble_eq_true rfl) (dall tdX6_not0 36 rfl) ?_
  refine r_if_ne (tgt := 77) C (dall tdX6_not0 37 rfl) (by decide) (fun c7 => ?_) (fun c7 => ?_)
  · have h := (if_neg c7).symm.trans h
    have ok := ok.2 c7
    refine r_pick [1, 0] rfl ?_
    exact wX6_not0_77 σ b0_ C hR  ok h
  · have h := (if_pos c7).symm.trans h
    have ok := ok.1 c7
    refine r_aload_n C 1 (dall tdX6_not0 38 rfl) rfl ?_
    refine r_bipush (v := 61) C (dall tdX6_not0 39 rfl) (by decide) ?_
    refine r_vI (as := [.int 61]) C (zX6_isSign cy q σ 61 ) mv_X6_isSign km_X6_226 (by decide) (by decide) ⟨Nat.le_refl _, Nat.le_refl _⟩ rfl rfl rfl rfl (Nat.le_of_ble_eq_true rfl) (dall tdX6_not0 40 rfl) ?_
    refine r_if_ne (tgt := 77) C (dall tdX6_not0 41 rfl) (by decide) (fun c8 => ?_) (fun c8 => ?_)
    · have h := (if_neg c8).symm.trans h
      have ok := ok.2 c8
      refine r_pick [1, 0] rfl ?_
      exact wX6_not0_77 σ b0_ C hR  ok h
    · have h := (if_pos c8).symm.trans h
      have ok := ok.1 c8
      refine r_iload_n C 0 (dall tdX6_not0 42 rfl) rfl ?_
      exact r_iret C hR (dall tdX6_not0 43 rfl) (by subst h; exact ⟨rfl, rfl⟩)
def pX6_not0_31  (σ : OS) (b0_ : Int32) : Int32 × OS := if b0_ = 0 then (1, oI σ 25 ((σ.1 25) - 1)) else (0, oI σ 25 ((σ.1 25) - 1))
set_option maxHeartbeats 4000000 in
set_option maxRecDepth 100000 in
theorem wX6_not0_31 {X : CX} {cy : Nat → ClassId} {q : Nat → Nat} {D : va_G} {A : Nat → Prop} {res : Int32 × OS} (σ : OS) (b0_ : Int32) (C : Cx X cX6_not0 RX6 4 D (gty cy) A 37 0 0) (hR : Rt X (some .int) D (gty cy) A 0 0 (eI (wX6 cy q res.2) res.1))  (h : pX6_not0_31  σ b0_ = res) : At X D A 4 0 0 31 [(0, .ref (q 41))] [.int b0_] (wX6 cy q σ) := by
  unfold pX6_not0_31 at h
  refine r_istore_n (lv' := [(1, .int b0_), (0, .ref (q 41))]) C (dall tdX6_not0 18 rfl) (by decide) rfl ?_
  refine r_aload_n C 1 (dall tdX6_not0 19 rfl) rfl ?_
  refine r_dup C (dall tdX6_not0 20 rfl) rfl ?_
  refine r_get C 0 kw_X6 rfl rfl (by decide) kf_X6_195 rfl rfl (dall tdX6_not0 21 rfl) ?_
  refine r_iconst (v := 1) C (dall tdX6_not0 22 rfl) (by decide) ?_
  refine r_isub C (dall tdX6_not0 23 rfl) ?_
  refine r_put C 0 kw_X6 tyX6_ok nmX6 rfl rfl (by decide) kf_X6_195 rfl rfl rfl rfl rfl (Nat.le_of_ble_eq_true rfl) (pu_X6_this_25 cy q σ ((σ.1 25) - 1)) (dall tdX6_not0 24 rfl) ?_
  refine r_iload_n C 0 (dall tdX6_not0 25 rfl) rfl ?_
  refine r_if_ne (tgt := 50) C (dall tdX6_not0 26 rfl) (by decide) (fun c9 => ?_) (fun c9 => ?_)
  · have h := (if_neg c9).symm.trans h
    refine r_iconst (v := 0) C (dall tdX6_not0 29 rfl) (by decide) ?_
    exact r_iret C hR (dall tdX6_not0 30 rfl) (by subst h; exact ⟨rfl, rfl⟩)
  · have h := (if_pos c9).symm.trans h
    refine r_iconst (v := 1) C (dall tdX6_not0 27 rfl) (by decide) ?_
    refine r_goto (tgt := 51) C (dall tdX6_not0 28 rfl) (by decide) ?_
    exact r_iret C hR (dall tdX6_not0 30 rfl) (by subst h; exact ⟨rfl, rfl⟩)
def pX6_not0_22  (σ : OS) (b0_ : Int32) : Int32 × OS := if b0_ = 0 then (0, σ) else pX6_not0_31  ((fX6_not1 σ ).2) ((fX6_not1 σ ).1)
def oX6_not0_22  (σ : OS) (b0_ : Int32) : Prop := (b0_ = 0 → True) ∧ (¬ (b0_ = 0) → gX6_not1 σ )
set_option maxHeartbeats 4000000 in
set_option maxRecDepth 100000 in
theorem wX6_not0_22 {X : CX} {cy : Nat → ClassId} {q : Nat → Nat} {D : va_G} {A : Nat → Prop} {res : Int32 × OS} (σ : OS) (b0_ : Int32) (C : Cx X cX6_not0 RX6 4 D (gty cy) A 37 0 0) (hR : Rt X (some .int) D (gty cy) A 0 0 (eI (wX6 cy q res.2) res.1))  (ok : oX6_not0_22  σ b0_) (h : pX6_not0_22  σ b0_ = res) : At X D A 4 0 0 22 [(0, .ref (q 41))] [.int b0_] (wX6 cy q σ) := by
  unfold pX6_not0_22 at h
  unfold oX6_not0_22 at ok
  refine r_if_ne (tgt := 27) C (dall tdX6_not0 13 rfl) (by decide) (fun c10 => ?_) (fun c10 => ?_)
  · have h := (if_neg c10).symm.trans h
    have ok := ok.2 c10
    refine r_aload_n C 0 (dall tdX6_not0 16 rfl) rfl ?_
    have o11 := ok
    refine r_vI (as := []) C (zX6_not1 cy q σ  o11) mv_X6_not1 km_X6_321 (by decide) (by decide) ⟨Nat.le_refl _, Nat.le_refl _⟩ rfl rfl rfl rfl (Nat.le_of_ble_eq_true rfl) (dall tdX6_not0 17 rfl) ?_
    exact wX6_not0_31 ((fX6_not1 σ ).2) ((fX6_not1 σ ).1) C hR  h
  · have h := (if_pos c10).symm.trans h
    have ok := ok.1 c10
    refine r_iconst (v := 0) C (dall tdX6_not0 14 rfl) (by decide) ?_
    exact r_iret C hR (dall tdX6_not0 15 rfl) (by subst h; exact ⟨rfl, rfl⟩)
def pX6_not0_0  (σ : OS) : Int32 × OS := if (fX6_isWord σ 110 111 116 0 0 0 0 0) = 0 then pX6_not0_56  ((fX6_added0 σ ).2) ((fX6_added0 σ ).1) else pX6_not0_22  ((fX6_opens σ ).2) ((fX6_opens σ ).1)
def oX6_not0_0  (σ : OS) : Prop := (gX6_isWord σ 110 111 116 0 0 0 0 0) ∧ (((fX6_isWord σ 110 111 116 0 0 0 0 0) = 0 → (gX6_added0 σ ) ∧ (oX6_not0_56  ((fX6_added0 σ ).2) ((fX6_added0 σ ).1))) ∧ (¬ ((fX6_isWord σ 110 111 116 0 0 0 0 0) = 0) → (gX6_opens σ ) ∧ (oX6_not0_22  ((fX6_opens σ ).2) ((fX6_opens σ ).1))))
set_option maxHeartbeats 4000000 in
set_option maxRecDepth 100000 in
theorem wX6_not0_0 {X : CX} {cy : Nat → ClassId} {q : Nat → Nat} {D : va_G} {A : Nat → Prop} {res : Int32 × OS} (σ : OS) (C : Cx X cX6_not0 RX6 4 D (gty cy) A 37 0 0) (hR : Rt X (some .int) D (gty cy) A 0 0 (eI (wX6 cy q res.2) res.1))  (ok : oX6_not0_0  σ) (h : pX6_not0_0  σ = res) : At X D A 4 0 0 0 [(0, .ref (q 41))] [] (wX6 cy q σ) := by
  unfold pX6_not0_0 at h
  unfold oX6_not0_0 at ok
  refine r_aload_n C 0 (dall tdX6_not0 0 rfl) rfl ?_
  refine r_bipush (v := 110) C (dall tdX6_not0 1 rfl) (by decide) ?_
  refine r_bipush (v := 111) C (dall tdX6_not0 2 rfl) (by decide) ?_
  refine r_bipush (v := 116) C (dall tdX6_not0 3 rfl) (by decide) ?_
  refine r_iconst (v := 0) C (dall tdX6_not0 4 rfl) (by decide) ?_
  refine r_iconst (v := 0) C (dall tdX6_not0 5 rfl) (by decide) ?_
  refine r_iconst (v := 0) C (dall tdX6_not0 6 rfl) (by decide) ?_
  refine r_iconst (v := 0) C (dall tdX6_not0 7 rfl) (by decide) ?_
  refine r_iconst (v := 0) C (dall tdX6_not0 8 rfl) (by decide) ?_
  obtain ⟨o12, ok⟩ := ok
  refine r_vI (as := [.int 110, .int 111, .int 116, .int 0, .int 0, .int 0, .int 0, .int 0]) C (zX6_isWord cy q σ 110 111 116 0 0 0 0 0 o12) mv_X6_isWord km_X6_204 (by decide) (by decide) ⟨Nat.le_refl _, Nat.le_refl _⟩ rfl rfl rfl rfl (Nat.le_of_ble_eq_true rfl) (dall tdX6_not0 9 rfl) ?_
  refine r_if_eq (tgt := 52) C (dall tdX6_not0 10 rfl) (by decide) (fun c13 => ?_) (fun c13 => ?_)
  · have h := (if_pos c13).symm.trans h
    have ok := ok.1 c13
    refine r_aload_n C 0 (dall tdX6_not0 31 rfl) rfl ?_
    obtain ⟨o14, ok⟩ := ok
    refine r_vI (as := []) C (zX6_added0 cy q σ  o14) mv_X6_added0 km_X6_336 (by decide) (by decide) ⟨Nat.le_refl _, Nat.le_refl _⟩ rfl rfl rfl rfl (Nat.le_of_ble_eq_true rfl) (dall tdX6_not0 32 rfl) ?_
    exact wX6_not0_56 ((fX6_added0 σ ).2) ((fX6_added0 σ ).1) C hR  ok h
  · have h := (if_neg c13).symm.trans h
    have ok := ok.2 c13
    refine r_aload_n C 0 (dall tdX6_not0 11 rfl) rfl ?_
    obtain ⟨o15, ok⟩ := ok
    refine r_vI (as := []) C (zX6_opens cy q σ  o15) mv_X6_opens km_X6_229 (by decide) (by decide) ⟨Nat.le_refl _, Nat.le_refl _⟩ rfl rfl rfl rfl (Nat.le_of_ble_eq_true rfl) (dall tdX6_not0 12 rfl) ?_
    exact wX6_not0_22 ((fX6_opens σ ).2) ((fX6_opens σ ).1) C hR  ok h
def fX6_not0 (σ : OS) : Int32 × OS := pX6_not0_0  σ
def gX6_not0 (σ : OS) : Prop := oX6_not0_0  σ
set_option maxRecDepth 100000 in
theorem zX6_not0 (cy : Nat → ClassId) (q : Nat → Nat)  {D : va_G} (σ : OS) (ok : gX6_not0 σ )  : Con yX6_not0 cX6_not0 4 (some .int) 37 0 0 D (gty cy) [.ref (q 41)] (wX6 cy q σ) (eI (wX6 cy q (fX6_not0 σ ).2) (fX6_not0 σ ).1) :=
  Con.of (own := RX6) (by decide +kernel) rfl (Nat.le_of_ble_eq_true rfl) (Nat.zero_le _) (fun X A C hR _ => (wX6_not0_0 σ C hR  ok rfl))
theorem mv_X6_not0 : MV yX6_not0 cX6_not0 4 (some .int) RX6 0 := ⟨ki_X6_not0, kv_X6_not0, kn_X6, kc_X6_not0, by decide +kernel⟩
def tbX6_both0 : List (Nat × Instr × Nat) := [(0, .aload_n 0, 1), (1, .invokevirtual 339, 3), (4, .istore_n 1, 1), (5, .aload_n 0, 1), (6, .bipush 97, 2), (8, .bipush 110, 2), (10, .bipush 100, 2), (12, .iconst 0, 1), (13, .iconst 0, 1), (14, .iconst 0, 1), (15, .iconst 0, 1), (16, .iconst 0, 1), (17, .invokevirtual 204, 3), (20, .ifCond .eq 29, 3), (23, .aload_n 0, 1), (24, .invokevirtual 201, 3), (27, .aload_n 0, 1), (28, .invokevirtual 339, 3), (31, .istore_n 2, 1), (32, .iload_n 1, 1), (33, .ifCond .eq 11, 3), (36, .iload_n 2, 1), (37, .ifCond .eq 7, 3), (40, .iconst 1, 1), (41, .goto 4, 3), (44, .iconst 0, 1), (45, .istore_n 1, 1), (46, .goto (-41), 3), (49, .iload_n 1, 1), (50, .ireturn, 1)]
theorem tdX6_both0 : tbX6_both0.all (fun q => decide (decode cX6_both0 q.1 = .ok q.2)) = true := by decide +kernel
def pX6_both0_45 (kR5 : OS × Int32 → Int32 × OS) (σ : OS) (b0_ : Int32) : Int32 × OS := kR5 (σ, b0_)
def oX6_both0_45 (kO5 : OS × Int32 → Prop) (σ : OS) (b0_ : Int32) : Prop := kO5 (σ, b0_)
set_option maxHeartbeats 4000000 in
set_option maxRecDepth 100000 in
theorem wX6_both0_45 {X : CX} {cy : Nat → ClassId} {q : Nat → Nat} {D : va_G} {A : Nat → Prop} {res : Int32 × OS} (σ : OS) (b0_ : Int32) (C : Cx X cX6_both0 RX6 3 D (gty cy) A 38 0 0) (hR : Rt X (some .int) D (gty cy) A 0 0 (eI (wX6 cy q res.2) res.1)) (kR5 : OS × Int32 → Int32 × OS) (kO5 : OS × Int32 → Prop) (hk5 : ∀ z, kO5 z → kR5 z = res → At X D A 3 0 0 5 [(0, .ref (q 41)), (1, .int z.2)] [] (wX6 cy q z.1)) (ok : oX6_both0_45 kO5 σ b0_) (h : pX6_both0_45 kR5 σ b0_ = res) : At X D A 3 0 0 45 [(0, .ref (q 41))] [.int b0_] (wX6 cy q σ) := by
  unfold pX6_both0_45 at h
  unfold oX6_both0_45 at ok
  refine r_istore_n (lv' := [(1, .int b0_), (0, .ref (q 41))]) C (dall tdX6_both0 26 rfl) (by decide) rfl ?_
  refine r_goto (tgt := 5) C (dall tdX6_both0 27 rfl) (by decide) ?_
  refine r_pick [1, 0] rfl ?_
  exact hk5 (σ, b0_) ok h
def pX6_both0_44 (kR5 : OS × Int32 → Int32 × OS) (σ : OS) : Int32 × OS := pX6_both0_45 kR5 σ 0
def oX6_both0_44 (kO5 : OS × Int32 → Prop) (σ : OS) : Prop := oX6_both0_45 kO5 σ 0
set_option maxHeartbeats 4000000 in
set_option maxRecDepth 100000 in
theorem wX6_both0_44 {X : CX} {cy : Nat → ClassId} {q : Nat → Nat} {D : va_G} {A : Nat → Prop} {res : Int32 × OS} (σ : OS) (C : Cx X cX6_both0 RX6 3 D (gty cy) A 38 0 0) (hR : Rt X (some .int) D (gty cy) A 0 0 (eI (wX6 cy q res.2) res.1)) (kR5 : OS × Int32 → Int32 × OS) (kO5 : OS × Int32 → Prop) (hk5 : ∀ z, kO5 z → kR5 z = res → At X D A 3 0 0 5 [(0, .ref (q 41)), (1, .int z.2)] [] (wX6 cy q z.1)) (ok : oX6_both0_44 kO5 σ) (h : pX6_both0_44 kR5 σ = res) : At X D A 3 0 0 44 [(0, .ref (q 41))] [] (wX6 cy q σ) := by
  unfold pX6_both0_44 at h
  unfold oX6_both0_44 at ok
  refine r_iconst (v := 0) C (dall tdX6_both0 25 rfl) (by decide) ?_
  exact wX6_both0_45 σ 0 C hR kR5 kO5 hk5 ok h
def pX6_both0_31 (kR5 : OS × Int32 → Int32 × OS) (σ : OS) (a1_ : Int32) (b0_ : Int32) : Int32 × OS := if a1_ = 0 then pX6_both0_44 kR5 σ else if b0_ = 0 then pX6_both0_44 kR5 σ else pX6_both0_45 kR5 σ 1
def oX6_both0_31 (kO5 : OS × Int32 → Prop) (σ : OS) (a1_ : Int32) (b0_ : Int32) : Prop := (a1_ = 0 → oX6_both0_44 kO5 σ) ∧ (¬ (a1_ = 0) → (b0_ = 0 → oX6_both0_44 kO5 σ) ∧ (¬ (b0_ = 0) → oX6_both0_45 kO5 σ 1))
set_option maxHeartbeats 4000000 in
set_option maxRecDepth 100000 in
theorem wX6_both0_31 {X : CX} {cy : Nat → ClassId} {q : Nat → Nat} {D : va_G} {A : Nat → Prop} {res : Int32 × OS} (σ : OS) (a1_ : Int32) (b0_ : Int32) (C : Cx X cX6_both0 RX6 3 D (gty cy) A 38 0 0) (hR : Rt X (some .int) D (gty cy) A 0 0 (eI (wX6 cy q res.2) res.1)) (kR5 : OS × Int32 → Int32 × OS) (kO5 : OS × Int32 → Prop) (hk5 : ∀ z, kO5 z → kR5 z = res → At X D A 3 0 0 5 [(0, .ref (q 41)), (1, .int z.2)] [] (wX6 cy q z.1)) (ok : oX6_both0_31 kO5 σ a1_ b0_) (h : pX6_both0_31 kR5 σ a1_ b0_ = res) : At X D A 3 0 0 31 [(0, .ref (q 41)), (1, .int a1_)] [.int b0_] (wX6 cy q σ) := by
  unfold pX6_both0_31 at h
  unfold oX6_both0_31 at ok
  refine r_istore_n (lv' := [(2, .int b0_), (0, .ref (q 41)), (1, .int a1_)]) C (dall tdX6_both0 18 rfl) (by decide) rfl ?_
  refine r_iload_n C 2 (dall tdX6_both0 19 rfl) rfl ?_
  refine r_if_eq (tgt := 44) C (dall tdX6_both0 20 rfl) (by decide) (fun c1 => ?_) (fun c1 => ?_)
  · have h := (if_pos c1).symm.trans h
    have ok := ok.1 c1
    refine r_pick [1] rfl ?_
    exact wX6_both0_44 σ C hR kR5 kO5 hk5 ok h
  · have h := (if_neg c1).symm.trans h
    have ok := ok.2 c1
    refine r_iload_n C 0 (dall tdX6_both0 21 rfl) rfl ?_
    refine r_if_eq (tgt := 44) C (dall tdX6_both0 22 rfl) (by decide) (fun c2 => ?_) (fun c2 => ?_)
    · have h := (if_pos c2).symm.trans h
      have ok := ok.1 c2
      refine r_pick [1] rfl ?_
      exact wX6_both0_44 σ C hR kR5 kO5 hk5 ok h
    · have h := (if_neg c2).symm.trans h
      have ok := ok.2 c2
      refine r_iconst (v := 1) C (dall tdX6_both0 23 rfl) (by decide) ?_
      refine r_goto (tgt := 45) C (dall tdX6_both0 24 rfl) (by decide) ?_
      refine r_pick [1] rfl ?_
      exact wX6_both0_45 σ 1 C hR kR5 kO5 hk5 ok h
def pX6_both0_27 (kR5 : OS × Int32 → Int32 × OS) (σ : OS) (a1_ : Int32) : Int32 × OS := pX6_both0_31 kR5 ((fX6_not0 σ ).2) a1_ ((fX6_not0 σ ).1)
def oX6_both0_27 (kO5 : OS × Int32 → Prop) (σ : OS) (a1_ : Int32) : Prop := (gX6_not0 σ ) ∧ (oX6_both0_31 kO5 ((fX6_not0 σ ).2) a1_ ((fX6_not0 σ ).1))
set_option maxHeartbeats 4000000 in
set_option maxRecDepth 100000 in
theorem wX6_both0_27 {X : CX} {cy : Nat → ClassId} {q : Nat → Nat} {D : va_G} {A : Nat → Prop} {res : Int32 × OS} (σ : OS) (a1_ : Int32) (C : Cx X cX6_both0 RX6 3 D (gty cy) A 38 0 0) (hR : Rt X (some .int) D (gty cy) A 0 0 (eI (wX6 cy q res.2) res.1)) (kR5 : OS × Int32 → Int32 × OS) (kO5 : OS × Int32 → Prop) (hk5 : ∀ z, kO5 z → kR5 z = res → At X D A 3 0 0 5 [(0, .ref (q 41)), (1, .int z.2)] [] (wX6 cy q z.1)) (ok : oX6_both0_27 kO5 σ a1_) (h : pX6_both0_27 kR5 σ a1_ = res) : At X D A 3 0 0 27 [(0, .ref (q 41)), (1, .int a1_)] [] (wX6 cy q σ) := by
  unfold pX6_both0_27 at h
  unfold oX6_both0_27 at ok
  refine r_aload_n C 0 (dall tdX6_both0 16 rfl) rfl ?_
  obtain ⟨o3, ok⟩ := ok
  refine r_vI (as := []) C (zX6_not0 cy q σ  o3) mv_X6_not0 km_X6_339 (by decide) (by decide) ⟨Nat.le_refl _, Nat.le_refl _⟩ rfl rfl rfl rfl (Nat.le_of_ble_eq_true rfl) (dall tdX6_both0 17 rfl) ?_
  exact wX6_both0_31 ((fX6_not0 σ ).2) a1_ ((fX6_not0 σ ).1) C hR kR5 kO5 hk5 ok h
def bX6_both0_5   (kR5 : OS × Int32 → Int32 × OS) (v : OS × Int32) : Int32 × OS := if (fX6_isWord v.1 97 110 100 0 0 0 0 0) = 0 then (v.2, v.1) else pX6_both0_27 kR5 (fX6_next v.1) v.2
def kX6_both0_5   (kO5 : OS × Int32 → Prop) (v : OS × Int32) : Prop := (gX6_isWord v.1 97 110 100 0 0 0 0 0) ∧ (((fX6_isWord v.1 97 110 100 0 0 0 0 0) = 0 → True) ∧ (¬ ((fX6_isWord v.1 97 110 100 0 0 0 0 0) = 0) → (gX6_next v.1 ) ∧ (oX6_both0_27 kO5 (fX6_next v.1) v.2)))
set_option maxHeartbeats 4000000 in
set_option maxRecDepth 100000 in
theorem wX6_both0_5 {X : CX} {cy : Nat → ClassId} {q : Nat → Nat} {D : va_G} {A : Nat → Prop} {res : Int32 × OS}  (C : Cx X cX6_both0 RX6 3 D (gty cy) A 38 0 0) (hR : Rt X (some .int) D (gty cy) A 0 0 (eI (wX6 cy q res.2) res.1)) (kR5 : OS × Int32 → Int32 × OS) (kO5 : OS × Int32 → Prop) (hk5 : ∀ z, kO5 z → kR5 z = res → At X D A 3 0 0 5 [(0, .ref (q 41)), (1, .int z.2)] [] (wX6 cy q z.1)) (v : OS × Int32) (ok : kX6_both0_5  kO5 v) (h : bX6_both0_5  kR5 v = res) : At X D A 3 0 0 5 [(0, .ref (q 41)), (1, .int v.2)] [] (wX6 cy q v.1) := by
  unfold bX6_both0_5 at h
  unfold kX6_both0_5 at ok
  refine r_aload_n C 0 (dall tdX6_both0 3 rfl) rfl ?_
  refine r_bipush (v := 97) C (dall tdX6_both0 4 rfl) (by decide) ?_
  refine r_bipush (v := 110) C (dall tdX6_both0 5 rfl) (by decide) ?_
  refine r_bipush (v := 100) C (dall tdX6_both0 6 rfl) (by decide) ?_
  refine r_iconst (v := 0) C (dall tdX6_both0 7 rfl) (by decide) ?_
  refine r_iconst (v := 0) C (dall tdX6_both0 8 rfl) (by decide) ?_
  refine r_iconst (v := 0) C (dall tdX6_both0 9 rfl) (by decide) ?_
  refine r_iconst (v := 0) C (dall tdX6_both0 10 rfl) (by decide) ?_
  refine r_iconst (v := 0) C (dall tdX6_both0 11 rfl) (by decide) ?_
  obtain ⟨o4, ok⟩ := ok
  refine r_vI (as := [.int 97, .int 110, .int 100, .int 0, .int 0, .int 0, .int 0, .int 0]) C (zX6_isWord cy q v.1 97 110 100 0 0 0 0 0 o4) mv_X6_isWord km_X6_204 (by decide) (by decide) ⟨Nat.le_refl _, Nat.le_refl _⟩ rfl rfl rfl rfl (Nat.le_of_ble_eq_true rfl) (dall tdX6_both0 12 rfl) ?_
  refine r_if_eq (tgt := 49) C (dall tdX6_both0 13 rfl) (by decide) (fun c5 => ?_) (fun c5 => ?_)
  · have h := (if_pos c5).symm.trans h
    have ok := ok.1 c5
    refine r_iload_n C 1 (dall tdX6_both0 28 rfl) rfl ?_
    exact r_iret C hR (dall tdX6_both0 29 rfl) (by subst h; exact ⟨rfl, rfl⟩)
  · have h := (if_neg c5).symm.trans h
    have ok := ok.2 c5
    refine r_aload_n C 0 (dall tdX6_both0 14 rfl) rfl ?_
    obtain ⟨o6, ok⟩ := ok
    refine r_vV (as := []) C (zX6_next cy q v.1  o6) mv_X6_next km_X6_201 (by decide) (by decide) ⟨Nat.le_refl _, Nat.le_refl _⟩ rfl rfl rfl rfl (Nat.le_of_ble_eq_true rfl) (dall tdX6_both0 15 rfl) ?_
    exact wX6_both0_27 (fX6_next v.1) v.2 C hR kR5 kO5 hk5 ok h
set_option maxHeartbeats 4000000 in
set_option maxRecDepth 100000 in
theorem lX6_both0_5 {X : CX} {cy : Nat → ClassId} {q : Nat → Nat} {D : va_G} {A : Nat → Prop} {res : Int32 × OS}  (C : Cx X cX6_both0 RX6 3 D (gty cy) A 38 0 0) (hR : Rt X (some .int) D (gty cy) A 0 0 (eI (wX6 cy q res.2) res.1))  (n : Nat) (v : OS × Int32) (ok : lpOk (kX6_both0_5  ) n v) (h : lp (0, o0) (bX6_both0_5  ) n v = res) : At X D A 3 0 0 5 [(0, .ref (q 41)), (1, .int v.2)] [] (wX6 cy q v.1) :=
  lp_rule (fun v rr_ => rr_ = res → At X D A 3 0 0 5 [(0, .ref (q 41)), (1, .int v.2)] [] (wX6 cy q v.1)) (fun kR kO hk v ok h => wX6_both0_5  C hR  kR kO hk v ok h) n v ok h
def pX6_both0_4  (σ : OS) (b0_ : Int32) : Int32 × OS := lp (0, o0) (bX6_both0_5  ) fu (σ, b0_)
def oX6_both0_4  (σ : OS) (b0_ : Int32) : Prop := lpOk (kX6_both0_5  ) fu (σ, b0_)
set_option maxHeartbeats 4000000 in
set_option maxRecDepth 100000 in
theorem wX6_both0_4 {X : CX} {cy : Nat → ClassId} {q : Nat → Nat} {D : va_G} {A : Nat → Prop} {res : Int32 × OS} (σ : OS) (b0_ : Int32) (C : Cx X cX6_both0 RX6 3 D (gty cy) A 38 0 0) (hR : Rt X (some .int) D (gty cy) A 0 0 (eI (wX6 cy q res.2) res.1))  (ok : oX6_both0_4  σ b0_) (h : pX6_both0_4  σ b0_ = res) : At X D A 3 0 0 4 [(0, .ref (q 41))] [.int b0_] (wX6 cy q σ) := by
  unfold pX6_both0_4 at h
  unfold oX6_both0_4 at ok
  refine r_istore_n (lv' := [(1, .int b0_), (0, .ref (q 41))]) C (dall tdX6_both0 2 rfl) (by decide) rfl ?_
  refine r_pick [1, 0] rfl ?_
  exact lX6_both0_5  C hR  fu _ ok h
def pX6_both0_0  (σ : OS) : Int32 × OS := pX6_both0_4  ((fX6_not0 σ ).2) ((fX6_not0 σ ).1)
def oX6_both0_0  (σ : OS) : Prop := (gX6_not0 σ ) ∧ (oX6_both0_4  ((fX6_not0 σ ).2) ((fX6_not0 σ ).1))
set_option maxHeartbeats 4000000 in
set_option maxRecDepth 100000 in
theorem wX6_both0_0 {X : CX} {cy : Nat → ClassId} {q : Nat → Nat} {D : va_G} {A : Nat → Prop} {res : Int32 × OS} (σ : OS) (C : Cx X cX6_both0 RX6 3 D (gty cy) A 38 0 0) (hR : Rt X (some .int) D (gty cy) A 0 0 (eI (wX6 cy q res.2) res.1))  (ok : oX6_both0_0  σ) (h : pX6_both0_0  σ = res) : At X D A 3 0 0 0 [(0, .ref (q 41))] [] (wX6 cy q σ) := by
  unfold pX6_both0_0 at h
  unfold oX6_both0_0 at ok
  refine r_aload_n C 0 (dall tdX6_both0 0 rfl) rfl ?_
  obtain ⟨o7, ok⟩ := ok
  refine r_vI (as := []) C (zX6_not0 cy q σ  o7) mv_X6_not0 km_X6_339 (by decide) (by decide) ⟨Nat.le_refl _, Nat.le_refl _⟩ rfl rfl rfl rfl (Nat.le_of_ble_eq_true rfl) (dall tdX6_both0 1 rfl) ?_
  exact wX6_both0_4 ((fX6_not0 σ ).2) ((fX6_not0 σ ).1) C hR  ok h
def fX6_both0 (σ : OS) : Int32 × OS := pX6_both0_0  σ
def gX6_both0 (σ : OS) : Prop := oX6_both0_0  σ
set_option maxRecDepth 100000 in
theorem zX6_both0 (cy : Nat → ClassId) (q : Nat → Nat)  {D : va_G} (σ : OS) (ok : gX6_both0 σ )  : Con yX6_both0 cX6_both0 3 (some .int) 38 0 0 D (gty cy) [.ref (q 41)] (wX6 cy q σ) (eI (wX6 cy q (fX6_both0 σ ).2) (fX6_both0 σ ).1) :=
  Con.of (own := RX6) (by decide +kernel) rfl (Nat.le_of_ble_eq_true rfl) (Nat.zero_le _) (fun X A C hR _ => (wX6_both0_0 σ C hR  ok rfl))
theorem mv_X6_both0 : MV yX6_both0 cX6_both0 3 (some .int) RX6 0 := ⟨ki_X6_both0, kv_X6_both0, kn_X6, kc_X6_both0, by decide +kernel⟩
def tbX6_either0 : List (Nat × Instr × Nat) := [(0, .aload_n 0, 1), (1, .invokevirtual 342, 3), (4, .istore_n 1, 1), (5, .aload_n 0, 1), (6, .bipush 111, 2), (8, .bipush 114, 2), (10, .iconst 0, 1), (11, .iconst 0, 1), (12, .iconst 0, 1), (13, .iconst 0, 1), (14, .iconst 0, 1), (15, .iconst 0, 1), (16, .invokevirtual 204, 3), (19, .ifCond .eq 29, 3), (22, .aload_n 0, 1), (23, .invokevirtual 201, 3), (26, .aload_n 0, 1), (27, .invokevirtual 342, 3), (30, .istore_n 2, 1), (31, .iload_n 1, 1), (32, .ifCond .ne 7, 3), (35, .iload_n 2, 1), (36, .ifCond .eq 7, 3), (39, .iconst 1, 1), (40, .goto 4, 3), (43, .iconst 0, 1), (44, .istore_n 1, 1), (45, .goto (-40), 3), (48, .iload_n 1, 1), (49, .ireturn, 1)]
theorem tdX6_either0 : tbX6_either0.all (fun q => decide (decode cX6_either0 q.1 = .ok q.2)) = true := by decide +kernel
def pX6_either0_44 (kR5 : OS × Int32 → Int32 × OS) (σ : OS) (b0_ : Int32) : Int32 × OS := kR5 (σ, b0_)
def oX6_either0_44 (kO5 : OS × Int32 → Prop) (σ : OS) (b0_ : Int32) : Prop := kO5 (σ, b0_)
set_option maxHeartbeats 4000000 in
set_option maxRecDepth 100000 in
theorem wX6_either0_44 {X : CX} {cy : Nat → ClassId} {q : Nat → Nat} {D : va_G} {A : Nat → Prop} {res : Int32 × OS} (σ : OS) (b0_ : Int32) (C : Cx X cX6_either0 RX6 3 D (gty cy) A 39 0 0) (hR : Rt X (some .int) D (gty cy) A 0 0 (eI (wX6 cy q res.2) res.1)) (kR5 : OS × Int32 → Int32 × OS) (kO5 : OS × Int32 → Prop) (hk5 : ∀ z, kO5 z → kR5 z = res → At X D A 3 0 0 5 [(0, .ref (q 41)), (1, .int z.2)] [] (wX6 cy q z.1)) (ok : oX6_either0_44 kO5 σ b0_) (h : pX6_either0_44 kR5 σ b0_ = res) : At X D A 3 0 0 44 [(0, .ref (q 41))] [.int b0_] (wX6 cy q σ) := by
  unfold pX6_either0_44 at h
  unfold oX6_either0_44 at ok
  refine r_istore_n (lv' := [(1, .int b0_), (0, .ref (q 41))]) C (dall tdX6_either0 26 rfl) (by decide) rfl ?_
  refine r_goto (tgt := 5) C (dall tdX6_either0 27 rfl) (by decide) ?_
  refine r_pick [1, 0] rfl ?_
  exact hk5 (σ, b0_) ok h
def pX6_either0_39 (kR5 : OS × Int32 → Int32 × OS) (σ : OS) : Int32 × OS := pX6_either0_44 kR5 σ 1
def oX6_either0_39 (kO5 : OS × Int32 → Prop) (σ : OS) : Prop := oX6_either0_44 kO5 σ 1
set_option maxHeartbeats 4000000 in
set_option maxRecDepth 100000 in
theorem wX6_either0_39 {X : CX} {cy : Nat → ClassId} {q : Nat → Nat} {D : va_G} {A : Nat → Prop} {res : Int32 × OS} (σ : OS) (C : Cx X cX6_either0 RX6 3 D (gty cy) A 39 0 0) (hR : Rt X (some .int) D (gty cy) A 0 0 (eI (wX6 cy q res.2) res.1)) (kR5 : OS × Int32 → Int32 × OS) (kO5 : OS × Int32 → Prop) (hk5 : ∀ z, kO5 z → kR5 z = res → At X D A 3 0 0 5 [(0, .ref (q 41)), (1, .int z.2)] [] (wX6 cy q z.1)) (ok : oX6_either0_39 kO5 σ) (h : pX6_either0_39 kR5 σ = res) : At X D A 3 0 0 39 [(0, .ref (q 41))] [] (wX6 cy q σ) := by
  unfold pX6_either0_39 at h
  unfold oX6_either0_39 at ok
  refine r_iconst (v := 1) C (dall tdX6_either0 23 rfl) (by decide) ?_
  refine r_goto (tgt := 44) C (dall tdX6_either0 24 rfl) (by decide) ?_
  exact wX6_either0_44 σ 1 C hR kR5 kO5 hk5 ok h
def pX6_either0_30 (kR5 : OS × Int32 → Int32 × OS) (σ : OS) (a1_ : Int32) (b0_ : Int32) : Int32 × OS := if a1_ = 0 then if b0_ = 0 then pX6_either0_44 kR5 σ 0 else pX6_either0_39 kR5 σ else pX6_either0_39 kR5 σ
def oX6_either0_30 (kO5 : OS × Int32 → Prop) (σ : OS) (a1_ : Int32) (b0_ : Int32) : Prop := (a1_ = 0 → (b0_ = 0 → oX6_either0_44 kO5 σ 0) ∧ (¬ (b0_ = 0) → oX6_either0_39 kO5 σ)) ∧ (¬ (a1_ = 0) → oX6_either0_39 kO5 σ)
set_option maxHeartbeats 4000000 in
set_option maxRecDepth 100000 in
theorem wX6_either0_30 {X : CX} {cy : Nat → ClassId} {q : Nat → Nat} {D : va_G} {A : Nat → Prop} {res : Int32 × OS} (σ : OS) (a1_ : Int32) (b0_ : Int32) (C : Cx X cX6_either0 RX6 3 D (gty cy) A 39 0 0) (hR : Rt X (some .int) D (gty cy) A 0 0 (eI (wX6 cy q res.2) res.1)) (kR5 : OS × Int32 → Int32 × OS) (kO5 : OS × Int32 → Prop) (hk5 : ∀ z, kO5 z → kR5 z = res → At X D A 3 0 0 5 [(0, .ref (q 41)), (1, .int z.2)] [] (wX6 cy q z.1)) (ok : oX6_either0_30 kO5 σ a1_ b0_) (h : pX6_either0_30 kR5 σ a1_ b0_ = res) : At X D A 3 0 0 30 [(0, .ref (q 41)), (1, .int a1_)] [.int b0_] (wX6 cy q σ) := by
  unfold pX6_either0_30 at h
  unfold oX6_either0_30 at ok
  refine r_istore_n (lv' := [(2, .int b0_), (0, .ref (q 41)), (1, .int a1_)]) C (dall tdX6_either0 18 rfl) (by decide) rfl ?_
  refine r_iload_n C 2 (dall tdX6_either0 19 rfl) rfl ?_
  refine r_if_ne (tgt := 39) C (dall tdX6_either0 20 rfl) (by decide) (fun c1 => ?_) (fun c1 => ?_)
  · have h := (if_neg c1).symm.trans h
    have ok := ok.2 c1
    refine r_pick [1] rfl ?_
    exact wX6_either0_39 σ C hR kR5 kO5 hk5 ok h
  · have h := (if_pos c1).symm.trans h
    have ok := ok.1 c1
    refine r_iload_n C 0 (dall tdX6_either0 21 rfl) rfl ?_
    refine r_if_eq (tgt := 43) C (dall tdX6_either0 22 rfl) (by decide) (fun c2 => ?_) (fun c2 => ?_)
    · have h := (if_pos c2).symm.trans h
      have ok := ok.1 c2
      refine r_iconst (v := 0) C (dall tdX6_either0 25 rfl) (by decide) ?_
      refine r_pick [1] rfl ?_
      exact wX6_either0_44 σ 0 C hR kR5 kO5 hk5 ok h
    · have h := (if_neg c2).symm.trans h
      have ok := ok.2 c2
      refine r_pick [1] rfl ?_
      exact wX6_either0_39 σ C hR kR5 kO5 hk5 ok h
def pX6_either0_26 (kR5 : OS × Int32 → Int32 × OS) (σ : OS) (a1_ : Int32) : Int32 × OS := pX6_either0_30 kR5 ((fX6_both0 σ ).2) a1_ ((fX6_both0 σ ).1)
def oX6_either0_26 (kO5 : OS × Int32 → Prop) (σ : OS) (a1_ : Int32) : Prop := (gX6_both0 σ ) ∧ (oX6_either0_30 kO5 ((fX6_both0 σ ).2) a1_ ((fX6_both0 σ ).1))
set_option maxHeartbeats 4000000 in
set_option maxRecDepth 100000 in
theorem wX6_either0_26 {X : CX} {cy : Nat → ClassId} {q : Nat → Nat} {D : va_G} {A : Nat → Prop} {res : Int32 × OS} (σ : OS) (a1_ : Int32) (C : Cx X cX6_either0 RX6 3 D (gty cy) A 39 0 0) (hR : Rt X (some .int) D (gty cy) A 0 0 (eI (wX6 cy q res.2) res.1)) (kR5 : OS × Int32 → Int32 × OS) (kO5 : OS × Int32 → Prop) (hk5 : ∀ z, kO5 z → kR5 z = res → At X D A 3 0 0 5 [(0, .ref (q 41)), (1, .int z.2)] [] (wX6 cy q z.1)) (ok : oX6_either0_26 kO5 σ a1_) (h : pX6_either0_26 kR5 σ a1_ = res) : At X D A 3 0 0 26 [(0, .ref (q 41)), (1, .int a1_)] [] (wX6 cy q σ) := by
  unfold pX6_either0_26 at h
  unfold oX6_either0_26 at ok
  refine r_aload_n C 0 (dall tdX6_either0 16 rfl) rfl ?_
  obtain ⟨o3, ok⟩ := ok
  refine r_vI (as := []) C (zX6_both0 cy q σ  o3) mv_X6_both0 km_X6_342 (by decide) (by decide) ⟨Nat.le_refl _, Nat.le_refl _⟩ rfl rfl rfl rfl (Nat.le_of_ble_eq_true rfl) (dall tdX6_either0 17 rfl) ?_
  exact wX6_either0_30 ((fX6_both0 σ ).2) a1_ ((fX6_both0 σ ).1) C hR kR5 kO5 hk5 ok h
def bX6_either0_5   (kR5 : OS × Int32 → Int32 × OS) (v : OS × Int32) : Int32 × OS := if (fX6_isWord v.1 111 114 0 0 0 0 0 0) = 0 then (v.2, v.1) else pX6_either0_26 kR5 (fX6_next v.1) v.2
def kX6_either0_5   (kO5 : OS × Int32 → Prop) (v : OS × Int32) : Prop := (gX6_isWord v.1 111 114 0 0 0 0 0 0) ∧ (((fX6_isWord v.1 111 114 0 0 0 0 0 0) = 0 → True) ∧ (¬ ((fX6_isWord v.1 111 114 0 0 0 0 0 0) = 0) → (gX6_next v.1 ) ∧ (oX6_either0_26 kO5 (fX6_next v.1) v.2)))
set_option maxHeartbeats 4000000 in
set_option maxRecDepth 100000 in
theorem wX6_either0_5 {X : CX} {cy : Nat → ClassId} {q : Nat → Nat} {D : va_G} {A : Nat → Prop} {res : Int32 × OS}  (C : Cx X cX6_either0 RX6 3 D (gty cy) A 39 0 0) (hR : Rt X (some .int) D (gty cy) A 0 0 (eI (wX6 cy q res.2) res.1)) (kR5 : OS × Int32 → Int32 × OS) (kO5 : OS × Int32 → Prop) (hk5 : ∀ z, kO5 z → kR5 z = res → At X D A 3 0 0 5 [(0, .ref (q 41)), (1, .int z.2)] [] (wX6 cy q z.1)) (v : OS × Int32) (ok : kX6_either0_5  kO5 v) (h : bX6_either0_5  kR5 v = res) : At X D A 3 0 0 5 [(0, .ref (q 41)), (1, .int v.2)] [] (wX6 cy q v.1) := by
  unfold bX6_either0_5 at h
  unfold kX6_either0_5 at ok
  refine r_aload_n C 0 (dall tdX6_either0 3 rfl) rfl ?_
  refine r_bipush (v := 111) C (dall tdX6_either0 4 rfl) (by decide) ?_
  refine r_bipush (v := 114) C (dall tdX6_either0 5 rfl) (by decide) ?_
  refine r_iconst (v := 0) C (dall tdX6_either0 6 rfl) (by decide) ?_
  refine r_iconst (v := 0) C (dall tdX6_either0 7 rfl) (by decide) ?_
  refine r_iconst (v := 0) C (dall tdX6_either0 8 rfl) (by decide) ?_
  refine r_iconst (v := 0) C (dall tdX6_either0 9 rfl) (by decide) ?_
  refine r_iconst (v := 0) C (dall tdX6_either0 10 rfl) (by decide) ?_
  refine r_iconst (v := 0) C (dall tdX6_either0 11 rfl) (by decide) ?_
  obtain ⟨o4, ok⟩ := ok
  refine r_vI (as := [.int 111, .int 114, .int 0, .int 0, .int 0, .int 0, .int 0, .int 0]) C (zX6_isWord cy q v.1 111 114 0 0 0 0 0 0 o4) mv_X6_isWord km_X6_204 (by decide) (by decide) ⟨Nat.le_refl _, Nat.le_refl _⟩ rfl rfl rfl rfl (Nat.le_of_ble_eq_true rfl) (dall tdX6_either0 12 rfl) ?_
  refine r_if_eq (tgt := 48) C (dall tdX6_either0 13 rfl) (by decide) (fun c5 => ?_) (fun c5 => ?_)
  · have h := (if_pos c5).symm.trans h
    have ok := ok.1 c5
    refine r_iload_n C 1 (dall tdX6_either0 28 rfl) rfl ?_
    exact r_iret C hR (dall tdX6_either0 29 rfl) (by subst h; exact ⟨rfl, rfl⟩)
  · have h := (if_neg c5).symm.trans h
    have ok := ok.2 c5
    refine r_aload_n C 0 (dall tdX6_either0 14 rfl) rfl ?_
    obtain ⟨o6, ok⟩ := ok
    refine r_vV (as := []) C (zX6_next cy q v.1  o6) mv_X6_next km_X6_201 (by decide) (by decide) ⟨Nat.le_refl _, Nat.le_refl _⟩ rfl rfl rfl rfl (Nat.le_of_ble_eq_true rfl) (dall tdX6_either0 15 rfl) ?_
    exact wX6_either0_26 (fX6_next v.1) v.2 C hR kR5 kO5 hk5 ok h
set_option maxHeartbeats 4000000 in
set_option maxRecDepth 100000 in
theorem lX6_either0_5 {X : CX} {cy : Nat → ClassId} {q : Nat → Nat} {D : va_G} {A : Nat → Prop} {res : Int32 × OS}  (C : Cx X cX6_either0 RX6 3 D (gty cy) A 39 0 0) (hR : Rt X (some .int) D (gty cy) A 0 0 (eI (wX6 cy q res.2) res.1))  (n : Nat) (v : OS × Int32) (ok : lpOk (kX6_either0_5  ) n v) (h : lp (0, o0) (bX6_either0_5  ) n v = res) : At X D A 3 0 0 5 [(0, .ref (q 41)), (1, .int v.2)] [] (wX6 cy q v.1) :=
  lp_rule (fun v rr_ => rr_ = res → At X D A 3 0 0 5 [(0, .ref (q 41)), (1, .int v.2)] [] (wX6 cy q v.1)) (fun kR kO hk v ok h => wX6_either0_5  C hR  kR kO hk v ok h) n v ok h
def pX6_either0_4  (σ : OS) (b0_ : Int32) : Int32 × OS := lp (0, o0) (bX6_either0_5  ) fu (σ, b0_)
def oX6_either0_4  (σ : OS) (b0_ : Int32) : Prop := lpOk (kX6_either0_5  ) fu (σ, b0_)
set_option maxHeartbeats 4000000 in
set_option maxRecDepth 100000 in
theorem wX6_either0_4 {X : CX} {cy : Nat → ClassId} {q : Nat → Nat} {D : va_G} {A : Nat → Prop} {res : Int32 × OS} (σ : OS) (b0_ : Int32) (C : Cx X cX6_either0 RX6 3 D (gty cy) A 39 0 0) (hR : Rt X (some .int) D (gty cy) A 0 0 (eI (wX6 cy q res.2) res.1))  (ok : oX6_either0_4  σ b0_) (h : pX6_either0_4  σ b0_ = res) : At X D A 3 0 0 4 [(0, .ref (q 41))] [.int b0_] (wX6 cy q σ) := by
  unfold pX6_either0_4 at h
  unfold oX6_either0_4 at ok
  refine r_istore_n (lv' := [(1, .int b0_), (0, .ref (q 41))]) C (dall tdX6_either0 2 rfl) (by decide) rfl ?_
  refine r_pick [1, 0] rfl ?_
  exact lX6_either0_5  C hR  fu _ ok h
def pX6_either0_0  (σ : OS) : Int32 × OS := pX6_either0_4  ((fX6_both0 σ ).2) ((fX6_both0 σ ).1)
def oX6_either0_0  (σ : OS) : Prop := (gX6_both0 σ ) ∧ (oX6_either0_4  ((fX6_both0 σ ).2) ((fX6_both0 σ ).1))
set_option maxHeartbeats 4000000 in
set_option maxRecDepth 100000 in
theorem wX6_either0_0 {X : CX} {cy : Nat → ClassId} {q : Nat → Nat} {D : va_G} {A : Nat → Prop} {res : Int32 × OS} (σ : OS) (C : Cx X cX6_either0 RX6 3 D (gty cy) A 39 0 0) (hR : Rt X (some .int) D (gty cy) A 0 0 (eI (wX6 cy q res.2) res.1))  (ok : oX6_either0_0  σ) (h : pX6_either0_0  σ = res) : At X D A 3 0 0 0 [(0, .ref (q 41))] [] (wX6 cy q σ) := by
  unfold pX6_either0_0 at h
  unfold oX6_either0_0 at ok
  refine r_aload_n C 0 (dall tdX6_either0 0 rfl) rfl ?_
  obtain ⟨o7, ok⟩ := ok
  refine r_vI (as := []) C (zX6_both0 cy q σ  o7) mv_X6_both0 km_X6_342 (by decide) (by decide) ⟨Nat.le_refl _, Nat.le_refl _⟩ rfl rfl rfl rfl (Nat.le_of_ble_eq_true rfl) (dall tdX6_either0 1 rfl) ?_
  exact wX6_either0_4 ((fX6_both0 σ ).2) ((fX6_both0 σ ).1) C hR  ok h
def fX6_either0 (σ : OS) : Int32 × OS := pX6_either0_0  σ
def gX6_either0 (σ : OS) : Prop := oX6_either0_0  σ
set_option maxRecDepth 100000 in
theorem zX6_either0 (cy : Nat → ClassId) (q : Nat → Nat)  {D : va_G} (σ : OS) (ok : gX6_either0 σ )  : Con yX6_either0 cX6_either0 3 (some .int) 39 0 0 D (gty cy) [.ref (q 41)] (wX6 cy q σ) (eI (wX6 cy q (fX6_either0 σ ).2) (fX6_either0 σ ).1) :=
  Con.of (own := RX6) (by decide +kernel) rfl (Nat.le_of_ble_eq_true rfl) (Nat.zero_le _) (fun X A C hR _ => (wX6_either0_0 σ C hR  ok rfl))
theorem mv_X6_either0 : MV yX6_either0 cX6_either0 3 (some .int) RX6 0 := ⟨ki_X6_either0, kv_X6_either0, kn_X6, kc_X6_either0, by decide +kernel⟩

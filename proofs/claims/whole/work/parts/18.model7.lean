def tbX6_film : List (Nat × Instr × Nat) := [(0, .iload_n 1, 1), (1, .invokestatic 434, 3), (4, .ifCond .eq 23, 3), (7, .aload_n 0, 1), (8, .iload_n 2, 1), (9, .invokevirtual 90, 3), (12, .ifCond .eq 15, 3), (15, .iload_n 3, 1), (16, .i2l, 1), (17, .lconst 0, 1), (18, .ldc2_w 422, 3), (21, .invokestatic 74, 3), (24, .ifCond .ne 6, 3), (27, .bipush (-2), 2), (29, .ireturn, 1), (30, .aload_n 0, 1), (31, .iload_n 1, 1), (32, .iconst 0, 1), (33, .iload_n 3, 1), (34, .invokevirtual 442, 3), (37, .pop, 1), (38, .aload_n 0, 1), (39, .invokevirtual 405, 3), (42, .iconst 0, 1), (43, .istore 4, 2), (45, .iload 4, 2), (47, .iload_n 3, 1), (48, .if_icmp .ge 35, 3), (51, .aload_n 0, 1), (52, .invokevirtual 400, 3), (55, .pop, 1), (56, .aload_n 0, 1), (57, .getfield 61, 3), (60, .bipush 40, 2), (62, .iload_n 1, 1), (63, .imul, 1), (64, .iload 4, 2), (66, .iadd, 1), (67, .aload_n 0, 1), (68, .getfield 32, 3), (71, .iload_n 2, 1), (72, .laload, 1), (73, .invokestatic 138, 3), (76, .iastore, 1), (77, .iinc 4 1, 3), (80, .goto (-35), 3), (83, .aload_n 0, 1), (84, .invokevirtual 412, 3), (87, .iload_n 3, 1), (88, .ireturn, 1)]
theorem tdX6_film : tbX6_film.all (fun q => decide (decode cX6_film q.1 = .ok q.2)) = true := by decide +kernel
def pX6_film_87  (σ : OS) (a3_ : Int32) : Int32 × OS := (a3_, σ)
set_option maxHeartbeats 4000000 in
set_option maxRecDepth 100000 in
theorem wX6_film_87 {X : CX} {cy : Nat → ClassId} {q : Nat → Nat} {D : va_G} {A : Nat → Prop} {res : Int32 × OS} (σ : OS) (a3_ : Int32) (C : Cx X cX6_film RX6 5 D (gty cy) A 45 0 0) (hR : Rt X (some .int) D (gty cy) A 0 0 (eI (wX6 cy q res.2) res.1))  (h : pX6_film_87  σ a3_ = res) : At X D A 5 0 0 87 [(3, .int a3_)] [] (wX6 cy q σ) := by
  unfold pX6_film_87 at h
  refine r_iload_n C 0 (dall tdX6_film 48 rfl) rfl ?_
  exact r_iret C hR (dall tdX6_film 49 rfl) (by subst h; exact ⟨rfl, rfl⟩)
def pX6_film_55 (kR45 : OS × Int32 → Int32 × OS) (σ : OS) (a1_ : Int32) (a2_ : Int32) (a3_ : Int32) (a4_ : Int32) (b0_ : Int32) : Int32 × OS := kR45 (oS σ 40 (((40 * a1_) + a4_).toNatClampNeg) (fX6_bitsOf (σ.2.2.2 11 a2_.toNatClampNeg)), a4_ + 1)
def oX6_film_55 (kO45 : OS × Int32 → Prop) (σ : OS) (a1_ : Int32) (a2_ : Int32) (a3_ : Int32) (a4_ : Int32) (b0_ : Int32) : Prop := (vp_in a2_ 5) ∧ ((gX6_bitsOf (σ.2.2.2 11 a2_.toNatClampNeg)) ∧ ((vp_in ((40 * a1_) + a4_) 160) ∧ (kO45 (oS σ 40 (((40 * a1_) + a4_).toNatClampNeg) (fX6_bitsOf (σ.2.2.2 11 a2_.toNatClampNeg)), a4_ + 1))))
set_option maxHeartbeats 4000000 in
set_option maxRecDepth 100000 in
theorem wX6_film_55 {X : CX} {cy : Nat → ClassId} {q : Nat → Nat} {D : va_G} {A : Nat → Prop} {res : Int32 × OS} (σ : OS) (a1_ : Int32) (a2_ : Int32) (a3_ : Int32) (a4_ : Int32) (b0_ : Int32) (C : Cx X cX6_film RX6 5 D (gty cy) A 45 0 0) (hR : Rt X (some .int) D (gty cy) A 0 0 (eI (wX6 cy q res.2) res.1)) (kR45 : OS × Int32 → Int32 × OS) (kO45 : OS × Int32 → Prop) (hk45 : ∀ z, kO45 z → kR45 z = res → At X D A 5 0 0 45 [(0, .ref (q 41)), (1, .int a1_), (2, .int a2_), (3, .int a3_), (4, .int z.2)] [] (wX6 cy q z.1)) (ok : oX6_film_55 kO45 σ a1_ a2_ a3_ a4_ b0_) (h : pX6_film_55 kR45 σ a1_ a2_ a3_ a4_ b0_ = res) : At X D A 5 0 0 55 [(0, .ref (q 41)), (1, .int a1_), (2, .int a2_), (3, .int a3_), (4, .int a4_)] [.int b0_] (wX6 cy q σ) := by
  unfold pX6_film_55 at h
  unfold oX6_film_55 at ok
  refine r_pop C (dall tdX6_film 30 rfl) rfl ?_
  refine r_aload_n C 0 (dall tdX6_film 31 rfl) rfl ?_
  refine r_get C 0 kw_X6 rfl rfl (by decide) kf_X6_61 rfl rfl (dall tdX6_film 32 rfl) ?_
  refine r_bipush (v := 40) C (dall tdX6_film 33 rfl) (by decide) ?_
  refine r_iload_n C 1 (dall tdX6_film 34 rfl) rfl ?_
  refine r_imul C (dall tdX6_film 35 rfl) ?_
  refine r_iload C 4 (dall tdX6_film 36 rfl) rfl ?_
  refine r_iadd C (dall tdX6_film 37 rfl) ?_
  refine r_aload_n C 0 (dall tdX6_film 38 rfl) rfl ?_
  refine r_get C 0 kw_X6 rfl rfl (by decide) kf_X6_32 rfl rfl (dall tdX6_film 39 rfl) ?_
  refine r_iload_n C 2 (dall tdX6_film 40 rfl) rfl ?_
  obtain ⟨o1, ok⟩ := ok
  refine r_lald C 5 1 rfl rfl o1 (dall tdX6_film 41 rfl) ?_
  obtain ⟨o2, ok⟩ := ok
  refine r_s0I (as := [.long (σ.2.2.2 11 a2_.toNatClampNeg)]) C (zX6_bitsOf (σ.2.2.2 11 a2_.toNatClampNeg) o2) ms_X6_bitsOf km_X6_138 (by decide) (by decide) ⟨Nat.le_refl _, Nat.le_refl _⟩ rfl rfl (Nat.le_of_ble_eq_true rfl) (dall tdX6_film 42 rfl) ?_
  obtain ⟨o3, ok⟩ := ok
  refine r_iast C 13 0 rfl rfl o3 (pa_X6_this_40 cy q σ (((40 * a1_) + a4_).toNatClampNeg) (fX6_bitsOf (σ.2.2.2 11 a2_.toNatClampNeg))) (dall tdX6_film 43 rfl) ?_
  refine r_iinc (v := a4_ + 1) (lv' := [(4, .int (a4_ + 1)), (0, .ref (q 41)), (1, .int a1_), (2, .int a2_), (3, .int a3_)]) C 4 (dall tdX6_film 44 rfl) rfl rfl (by decide) rfl ?_
  refine r_goto (tgt := 45) C (dall tdX6_film 45 rfl) (by decide) ?_
  refine r_pick [1, 2, 3, 4, 0] rfl ?_
  exact hk45 (oS σ 40 (((40 * a1_) + a4_).toNatClampNeg) (fX6_bitsOf (σ.2.2.2 11 a2_.toNatClampNeg)), a4_ + 1) ok h
def bX6_film_45 (a1_ : Int32) (a2_ : Int32) (a3_ : Int32)  (kR45 : OS × Int32 → Int32 × OS) (v : OS × Int32) : Int32 × OS := if a3_ ≤ v.2 then pX6_film_87  (fX6_laysBack v.1) a3_ else pX6_film_55 kR45 ((fX6_passes v.1 ).2) a1_ a2_ a3_ v.2 ((fX6_passes v.1 ).1)
def kX6_film_45 (a1_ : Int32) (a2_ : Int32) (a3_ : Int32)  (kO45 : OS × Int32 → Prop) (v : OS × Int32) : Prop := (a3_ ≤ v.2 → gX6_laysBack v.1 ) ∧ (¬ (a3_ ≤ v.2) → (gX6_passes v.1 ) ∧ (oX6_film_55 kO45 ((fX6_passes v.1 ).2) a1_ a2_ a3_ v.2 ((fX6_passes v.1 ).1)))
set_option maxHeartbeats 4000000 in
set_option maxRecDepth 100000 in
theorem wX6_film_45 {X : CX} {cy : Nat → ClassId} {q : Nat → Nat} {D : va_G} {A : Nat → Prop} {res : Int32 × OS} (a1_ : Int32) (a2_ : Int32) (a3_ : Int32) (C : Cx X cX6_film RX6 5 D (gty cy) A 45 0 0) (hR : Rt X (some .int) D (gty cy) A 0 0 (eI (wX6 cy q res.2) res.1)) (kR45 : OS × Int32 → Int32 × OS) (kO45 : OS × Int32 → Prop) (hk45 : ∀ z, kO45 z → kR45 z = res → At X D A 5 0 0 45 [(0, .ref (q 41)), (1, .int a1_), (2, .int a2_), (3, .int a3_), (4, .int z.2)] [] (wX6 cy q z.1)) (v : OS × Int32) (ok : kX6_film_45 a1_ a2_ a3_ kO45 v) (h : bX6_film_45 a1_ a2_ a3_ kR45 v = res) : At X D A 5 0 0 45 [(0, .ref (q 41)), (1, .int a1_), (2, .int a2_), (3, .int a3_), (4, .int v.2)] [] (wX6 cy q v.1) := by
  unfold bX6_film_45 at h
  unfold kX6_film_45 at ok
  refine r_iload C 4 (dall tdX6_film 25 rfl) rfl ?_
  refine r_iload_n C 3 (dall tdX6_film 26 rfl) rfl ?_
  refine r_icmp_ge (tgt := 83) C (dall tdX6_film 27 rfl) (by decide) (fun c4 => ?_) (fun c4 => ?_)
  · have h := (if_pos c4).symm.trans h
    have ok := ok.1 c4
    refine r_aload_n C 0 (dall tdX6_film 46 rfl) rfl ?_
    have o5 := ok
    refine r_vV (as := []) C (zX6_laysBack cy q v.1  o5) mv_X6_laysBack km_X6_412 (by decide) (by decide) ⟨Nat.le_refl _, Nat.le_refl _⟩ rfl rfl rfl rfl (Nat.le_of_ble_eq_true rfl) (dall tdX6_film 47 rfl) ?_
    refine r_pick [3] rfl ?_
    exact wX6_film_87 (fX6_laysBack v.1) a3_ C hR  h
  · have h := (if_neg c4).symm.trans h
    have ok := ok.2 c4
    refine r_aload_n C 0 (dall tdX6_film 28 rfl) rfl ?_
    obtain ⟨o6, ok⟩ := ok
    refine r_vI (as := []) C (zX6_passes cy q v.1  o6) mv_X6_passes km_X6_400 (by decide) (by decide) ⟨Nat.le_refl _, Nat.le_refl _⟩ rfl rfl rfl rfl (Nat.le_of_ble_eq_true rfl) (dall tdX6_film 29 rfl) ?_
    exact wX6_film_55 ((fX6_passes v.1 ).2) a1_ a2_ a3_ v.2 ((fX6_passes v.1 ).1) C hR kR45 kO45 hk45 ok h
set_option maxHeartbeats 4000000 in
set_option maxRecDepth 100000 in
theorem lX6_film_45 {X : CX} {cy : Nat → ClassId} {q : Nat → Nat} {D : va_G} {A : Nat → Prop} {res : Int32 × OS} (a1_ : Int32) (a2_ : Int32) (a3_ : Int32) (C : Cx X cX6_film RX6 5 D (gty cy) A 45 0 0) (hR : Rt X (some .int) D (gty cy) A 0 0 (eI (wX6 cy q res.2) res.1))  (n : Nat) (v : OS × Int32) (ok : lpOk (kX6_film_45 a1_ a2_ a3_ ) n v) (h : lp (0, o0) (bX6_film_45 a1_ a2_ a3_ ) n v = res) : At X D A 5 0 0 45 [(0, .ref (q 41)), (1, .int a1_), (2, .int a2_), (3, .int a3_), (4, .int v.2)] [] (wX6 cy q v.1) :=
  lp_rule (fun v rr_ => rr_ = res → At X D A 5 0 0 45 [(0, .ref (q 41)), (1, .int a1_), (2, .int a2_), (3, .int a3_), (4, .int v.2)] [] (wX6 cy q v.1)) (fun kR kO hk v ok h => wX6_film_45 a1_ a2_ a3_ C hR  kR kO hk v ok h) n v ok h
def pX6_film_42  (σ : OS) (a1_ : Int32) (a2_ : Int32) (a3_ : Int32) : Int32 × OS := lp (0, o0) (bX6_film_45 a1_ a2_ a3_ ) fu (σ, 0)
def oX6_film_42  (σ : OS) (a1_ : Int32) (a2_ : Int32) (a3_ : Int32) : Prop := lpOk (kX6_film_45 a1_ a2_ a3_ ) fu (σ, 0)
set_option maxHeartbeats 4000000 in
set_option maxRecDepth 100000 in
theorem wX6_film_42 {X : CX} {cy : Nat → ClassId} {q : Nat → Nat} {D : va_G} {A : Nat → Prop} {res : Int32 × OS} (σ : OS) (a1_ : Int32) (a2_ : Int32) (a3_ : Int32) (C : Cx X cX6_film RX6 5 D (gty cy) A 45 0 0) (hR : Rt X (some .int) D (gty cy) A 0 0 (eI (wX6 cy q res.2) res.1))  (ok : oX6_film_42  σ a1_ a2_ a3_) (h : pX6_film_42  σ a1_ a2_ a3_ = res) : At X D A 5 0 0 42 [(0, .ref (q 41)), (1, .int a1_), (2, .int a2_), (3, .int a3_)] [] (wX6 cy q σ) := by
  unfold pX6_film_42 at h
  unfold oX6_film_42 at ok
  refine r_iconst (v := 0) C (dall tdX6_film 23 rfl) (by decide) ?_
  refine r_istore (lv' := [(4, .int 0), (0, .ref (q 41)), (1, .int a1_), (2, .int a2_), (3, .int a3_)]) C (dall tdX6_film 24 rfl) (by decide) rfl ?_
  refine r_pick [1, 2, 3, 4, 0] rfl ?_
  exact lX6_film_45 a1_ a2_ a3_ C hR  fu _ ok h
def pX6_film_37  (σ : OS) (a1_ : Int32) (a2_ : Int32) (a3_ : Int32) (b0_ : Int32) : Int32 × OS := pX6_film_42  (fX6_laysAside σ) a1_ a2_ a3_
def oX6_film_37  (σ : OS) (a1_ : Int32) (a2_ : Int32) (a3_ : Int32) (b0_ : Int32) : Prop := (gX6_laysAside σ ) ∧ (oX6_film_42  (fX6_laysAside σ) a1_ a2_ a3_)
set_option maxHeartbeats 4000000 in
set_option maxRecDepth 100000 in
theorem wX6_film_37 {X : CX} {cy : Nat → ClassId} {q : Nat → Nat} {D : va_G} {A : Nat → Prop} {res : Int32 × OS} (σ : OS) (a1_ : Int32) (a2_ : Int32) (a3_ : Int32) (b0_ : Int32) (C : Cx X cX6_film RX6 5 D (gty cy) A 45 0 0) (hR : Rt X (some .int) D (gty cy) A 0 0 (eI (wX6 cy q res.2) res.1))  (ok : oX6_film_37  σ a1_ a2_ a3_ b0_) (h : pX6_film_37  σ a1_ a2_ a3_ b0_ = res) : At X D A 5 0 0 37 [(0, .ref (q 41)), (1, .int a1_), (2, .int a2_), (3, .int a3_)] [.int b0_] (wX6 cy q σ) := by
  unfold pX6_film_37 at h
  unfold oX6_film_37 at ok
  refine r_pop C (dall tdX6_film 20 rfl) rfl ?_
  refine r_aload_n C 0 (dall tdX6_film 21 rfl) rfl ?_
  obtain ⟨o7, ok⟩ := ok
  refine r_vV (as := []) C (zX6_laysAside cy q σ  o7) mv_X6_laysAside km_X6_405 (by decide) (by decide) ⟨Nat.le_refl _, Nat.le_refl _⟩ rfl rfl rfl rfl (Nat.le_of_ble_eq_true rfl) (dall tdX6_film 22 rfl) ?_
  exact wX6_film_42 (fX6_laysAside σ) a1_ a2_ a3_ C hR  ok h
def pX6_film_0  (σ : OS) (a1_ : Int32) (a2_ : Int32) (a3_ : Int32) : Int32 × OS := if (fX6_isSheet a1_) = 0 then ((-2), σ) else if (fX6_isOne σ a2_) = 0 then ((-2), σ) else if (fX6_in a3_.toInt64 0 (20)) = 0 then ((-2), σ) else pX6_film_37  ((fX6_sheet σ a1_ 0 a3_).2) a1_ a2_ a3_ ((fX6_sheet σ a1_ 0 a3_).1)
def oX6_film_0  (σ : OS) (a1_ : Int32) (a2_ : Int32) (a3_ : Int32) : Prop := (gX6_isSheet a1_) ∧ (((fX6_isSheet a1_) = 0 → True) ∧ (¬ ((fX6_isSheet a1_) = 0) → (gX6_isOne σ a2_) ∧ (((fX6_isOne σ a2_) = 0 → True) ∧ (¬ ((fX6_isOne σ a2_) = 0) → ((fX6_in a3_.toInt64 0 (20)) = 0 → True) ∧ (¬ ((fX6_in a3_.toInt64 0 (20)) = 0) → (gX6_sheet σ a1_ 0 a3_) ∧ (oX6_film_37  ((fX6_sheet σ a1_ 0 a3_).2) a1_ a2_ a3_ ((fX6_sheet σ a1_ 0 a3_).1)))))))
set_option maxHeartbeats 4000000 in
set_option maxRecDepth 100000 in
theorem wX6_film_0 {X : CX} {cy : Nat → ClassId} {q : Nat → Nat} {D : va_G} {A : Nat → Prop} {res : Int32 × OS} (σ : OS) (a1_ : Int32) (a2_ : Int32) (a3_ : Int32) (C : Cx X cX6_film RX6 5 D (gty cy) A 45 0 0) (hR : Rt X (some .int) D (gty cy) A 0 0 (eI (wX6 cy q res.2) res.1))  (ok : oX6_film_0  σ a1_ a2_ a3_) (h : pX6_film_0  σ a1_ a2_ a3_ = res) : At X D A 5 0 0 0 [(0, .ref (q 41)), (1, .int a1_), (2, .int a2_), (3, .int a3_)] [] (wX6 cy q σ) := by
  unfold pX6_film_0 at h
  unfold oX6_film_0 at ok
  refine r_iload_n C 1 (dall tdX6_film 0 rfl) rfl ?_
  obtain ⟨o8, ok⟩ := ok
  refine r_s0I (as := [.int a1_]) C (zX6_isSheet a1_ o8) ms_X6_isSheet km_X6_434 (by decide) (by decide) ⟨Nat.le_refl _, Nat.le_refl _⟩ rfl rfl (Nat.le_of_ble_eq_true rfl) (dall tdX6_film 1 rfl) ?_
  refine r_if_eq (tgt := 27) C (dall tdX6_film 2 rfl) (by decide) (fun c9 => ?_) (fun c9 => ?_)
  · have h := (if_pos c9).symm.trans h
    have ok := ok.1 c9
    refine r_bipush (v := -2) C (dall tdX6_film 13 rfl) (by decide) ?_
    exact r_iret C hR (dall tdX6_film 14 rfl) (by subst h; exact ⟨rfl, rfl⟩)
  · have h := (if_neg c9).symm.trans h
    have ok := ok.2 c9
    refine r_aload_n C 0 (dall tdX6_film 3 rfl) rfl ?_
    refine r_iload_n C 2 (dall tdX6_film 4 rfl) rfl ?_
    obtain ⟨o10, ok⟩ := ok
    refine r_vI (as := [.int a2_]) C (zX6_isOne cy q σ a2_ o10) mv_X6_isOne km_X6_90 (by decide) (by decide) ⟨Nat.le_refl _, Nat.le_refl _⟩ rfl rfl rfl rfl (Nat.le_of_ble_eq_true rfl) (dall tdX6_film 5 rfl) ?_
    refine r_if_eq (tgt := 27) C (dall tdX6_film 6 rfl) (by decide) (fun c11 => ?_) (fun c11 => ?_)
    · have h := (if_pos c11).symm.trans h
      have ok := ok.1 c11
      refine r_bipush (v := -2) C (dall tdX6_film 13 rfl) (by decide) ?_
      exact r_iret C hR (dall tdX6_film 14 rfl) (by subst h; exact ⟨rfl, rfl⟩)
    · have h := (if_neg c11).symm.trans h
      have ok := ok.2 c11
      refine r_iload_n C 3 (dall tdX6_film 7 rfl) rfl ?_
      refine r_i2l C (dall tdX6_film 8 rfl) ?_
      refine r_lconst (v := 0) C (dall tdX6_film 9 rfl) (by decide) ?_
      refine r_ldc2 C kk_X6_422 (dall tdX6_film 10 rfl) ?_
      refine r_s0I (as := [.long a3_.toInt64, .long 0, .long (20)]) C (zX6_in a3_.toInt64 0 (20) ) ms_X6_in km_X6_74 (by decide) (by decide) ⟨Nat.le_refl _, Nat.le_refl _⟩ rfl rfl (Nat.le_of_ble_eq_true rfl) (dall tdX6_film 11 rfl) ?_
      refine r_if_ne (tgt := 30) C (dall tdX6_film 12 rfl) (by decide) (fun c12 => ?_) (fun c12 => ?_)
      · have h := (if_neg c12).symm.trans h
        have ok := ok.2 c12
        refine r_aload_n C 0 (dall tdX6_film 15 rfl) rfl ?_
        refine r_iload_n C 1 (dall tdX6_film 16 rfl) rfl ?_
        refine r_iconst (v := 0) C (dall tdX6_film 17 rfl) (by decide) ?_
        refine r_iload_n C 3 (dall tdX6_film 18 rfl) rfl ?_
        obtain ⟨o13, ok⟩ := ok
        refine r_vI (as := [.int a1_, .int 0, .int a3_]) C (zX6_sheet cy q σ a1_ 0 a3_ o13) mv_X6_sheet km_X6_442 (by decide) (by decide) ⟨Nat.le_refl _, Nat.le_refl _⟩ rfl rfl rfl rfl (Nat.le_of_ble_eq_true rfl) (dall tdX6_film 19 rfl) ?_
        exact wX6_film_37 ((fX6_sheet σ a1_ 0 a3_).2) a1_ a2_ a3_ ((fX6_sheet σ a1_ 0 a3_).1) C hR  ok h
      · have h := (if_pos c12).symm.trans h
        have ok := ok.1 c12
        refine r_bipush (v := -2) C (dall tdX6_film 13 rfl) (by decide) ?_
        exact r_iret C hR (dall tdX6_film 14 rfl) (by subst h; exact ⟨rfl, rfl⟩)
def fX6_film (σ : OS) (a1_ : Int32) (a2_ : Int32) (a3_ : Int32) : Int32 × OS := pX6_film_0  σ a1_ a2_ a3_
def gX6_film (σ : OS) (a1_ : Int32) (a2_ : Int32) (a3_ : Int32) : Prop := oX6_film_0  σ a1_ a2_ a3_
set_option maxRecDepth 100000 in
theorem zX6_film (cy : Nat → ClassId) (q : Nat → Nat)  {D : va_G} (σ : OS) (a1_ : Int32) (a2_ : Int32) (a3_ : Int32) (ok : gX6_film σ a1_ a2_ a3_)  : Con yX6_film cX6_film 5 (some .int) 45 0 0 D (gty cy) [.ref (q 41), .int a1_, .int a2_, .int a3_] (wX6 cy q σ) (eI (wX6 cy q (fX6_film σ a1_ a2_ a3_).2) (fX6_film σ a1_ a2_ a3_).1) :=
  Con.of (own := RX6) (by decide +kernel) rfl (Nat.le_of_ble_eq_true rfl) (Nat.zero_le _) (fun X A C hR _ => (wX6_film_0 σ a1_ a2_ a3_ C hR  ok rfl))
theorem mv_X6_film : MV yX6_film cX6_film 5 (some .int) RX6 3 := ⟨ki_X6_film, kv_X6_film, kn_X6, kc_X6_film, by decide +kernel⟩
def tbX6_putDrawn : List (Nat × Instr × Nat) := [(0, .aload_n 0, 1), (1, .invokevirtual 405, 3), (4, .iload_n 1, 1), (5, .istore_n 3, 1), (6, .iconst 0, 1), (7, .istore 4, 2), (9, .iload 4, 2), (11, .iload_n 2, 1), (12, .if_icmp .ge 52, 3), (15, .iload_n 3, 1), (16, .ldc_w 445, 3), (19, .imul, 1), (20, .sipush 12345, 3), (23, .iadd, 1), (24, .istore_n 3, 1), (25, .iload_n 3, 1), (26, .bipush 9, 2), (28, .iushr, 1), (29, .bipush 64, 2), (31, .irem, 1), (32, .istore 5, 2), (34, .aload_n 0, 1), (35, .invokevirtual 80, 3), (38, .iload 5, 2), (40, .invokestatic 97, 3), (43, .ifCond .eq 10, 3), (46, .aload_n 0, 1), (47, .iload 5, 2), (49, .invokevirtual 380, 3), (52, .pop, 1), (53, .aload_n 0, 1), (54, .invokevirtual 400, 3), (57, .pop, 1), (58, .iinc 4 1, 3), (61, .goto (-52), 3), (64, .aload_n 0, 1), (65, .invokevirtual 80, 3), (68, .invokestatic 138, 3), (71, .istore 4, 2), (73, .aload_n 0, 1), (74, .invokevirtual 412, 3), (77, .iload 4, 2), (79, .ireturn, 1)]
theorem tdX6_putDrawn : tbX6_putDrawn.all (fun q => decide (decode cX6_putDrawn q.1 = .ok q.2)) = true := by decide +kernel
def pX6_putDrawn_77  (σ : OS) (a4_ : Int32) : Int32 × OS := (a4_, σ)
set_option maxHeartbeats 4000000 in
set_option maxRecDepth 100000 in
theorem wX6_putDrawn_77 {X : CX} {cy : Nat → ClassId} {q : Nat → Nat} {D : va_G} {A : Nat → Prop} {res : Int32 × OS} (σ : OS) (a4_ : Int32) (C : Cx X cX6_putDrawn RX6 6 D (gty cy) A 45 0 0) (hR : Rt X (some .int) D (gty cy) A 0 0 (eI (wX6 cy q res.2) res.1))  (h : pX6_putDrawn_77  σ a4_ = res) : At X D A 6 0 0 77 [(4, .int a4_)] [] (wX6 cy q σ) := by
  unfold pX6_putDrawn_77 at h
  refine r_iload C 0 (dall tdX6_putDrawn 41 rfl) rfl ?_
  exact r_iret C hR (dall tdX6_putDrawn 42 rfl) (by subst h; exact ⟨rfl, rfl⟩)
def pX6_putDrawn_57 (kR9 : OS × Int32 × Int32 → Int32 × OS) (σ : OS) (a2_ : Int32) (a3_ : Int32) (a4_ : Int32) (b0_ : Int32) : Int32 × OS := kR9 (σ, a3_, a4_ + 1)
def oX6_putDrawn_57 (kO9 : OS × Int32 × Int32 → Prop) (σ : OS) (a2_ : Int32) (a3_ : Int32) (a4_ : Int32) (b0_ : Int32) : Prop := kO9 (σ, a3_, a4_ + 1)
set_option maxHeartbeats 4000000 in
set_option maxRecDepth 100000 in
theorem wX6_putDrawn_57 {X : CX} {cy : Nat → ClassId} {q : Nat → Nat} {D : va_G} {A : Nat → Prop} {res : Int32 × OS} (σ : OS) (a2_ : Int32) (a3_ : Int32) (a4_ : Int32) (b0_ : Int32) (C : Cx X cX6_putDrawn RX6 6 D (gty cy) A 45 0 0) (hR : Rt X (some .int) D (gty cy) A 0 0 (eI (wX6 cy q res.2) res.1)) (kR9 : OS × Int32 × Int32 → Int32 × OS) (kO9 : OS × Int32 × Int32 → Prop) (hk9 : ∀ z, kO9 z → kR9 z = res → At X D A 6 0 0 9 [(0, .ref (q 41)), (2, .int a2_), (3, .int z.2.1), (4, .int z.2.2)] [] (wX6 cy q z.1)) (ok : oX6_putDrawn_57 kO9 σ a2_ a3_ a4_ b0_) (h : pX6_putDrawn_57 kR9 σ a2_ a3_ a4_ b0_ = res) : At X D A 6 0 0 57 [(0, .ref (q 41)), (2, .int a2_), (3, .int a3_), (4, .int a4_)] [.int b0_] (wX6 cy q σ) := by
  unfold pX6_putDrawn_57 at h
  unfold oX6_putDrawn_57 at ok
  refine r_pop C (dall tdX6_putDrawn 32 rfl) rfl ?_
  refine r_iinc (v := a4_ + 1) (lv' := [(4, .int (a4_ + 1)), (0, .ref (q 41)), (2, .int a2_), (3, .int a3_)]) C 3 (dall tdX6_putDrawn 33 rfl) rfl rfl (by decide) rfl ?_
  refine r_goto (tgt := 9) C (dall tdX6_putDrawn 34 rfl) (by decide) ?_
  refine r_pick [1, 2, 3, 0] rfl ?_
  exact hk9 (σ, a3_, a4_ + 1) ok h
def pX6_putDrawn_53 (kR9 : OS × Int32 × Int32 → Int32 × OS) (σ : OS) (a2_ : Int32) (a3_ : Int32) (a4_ : Int32) : Int32 × OS := pX6_putDrawn_57 kR9 ((fX6_passes σ ).2) a2_ a3_ a4_ ((fX6_passes σ ).1)
def oX6_putDrawn_53 (kO9 : OS × Int32 × Int32 → Prop) (σ : OS) (a2_ : Int32) (a3_ : Int32) (a4_ : Int32) : Prop := (gX6_passes σ ) ∧ (oX6_putDrawn_57 kO9 ((fX6_passes σ ).2) a2_ a3_ a4_ ((fX6_passes σ ).1))
set_option maxHeartbeats 4000000 in
set_option maxRecDepth 100000 in
theorem wX6_putDrawn_53 {X : CX} {cy : Nat → ClassId} {q : Nat → Nat} {D : va_G} {A : Nat → Prop} {res : Int32 × OS} (σ : OS) (a2_ : Int32) (a3_ : Int32) (a4_ : Int32) (C : Cx X cX6_putDrawn RX6 6 D (gty cy) A 45 0 0) (hR : Rt X (some .int) D (gty cy) A 0 0 (eI (wX6 cy q res.2) res.1)) (kR9 : OS × Int32 × Int32 → Int32 × OS) (kO9 : OS × Int32 × Int32 → Prop) (hk9 : ∀ z, kO9 z → kR9 z = res → At X D A 6 0 0 9 [(0, .ref (q 41)), (2, .int a2_), (3, .int z.2.1), (4, .int z.2.2)] [] (wX6 cy q z.1)) (ok : oX6_putDrawn_53 kO9 σ a2_ a3_ a4_) (h : pX6_putDrawn_53 kR9 σ a2_ a3_ a4_ = res) : At X D A 6 0 0 53 [(0, .ref (q 41)), (2, .int a2_), (3, .int a3_), (4, .int a4_)] [] (wX6 cy q σ) := by
  unfold pX6_putDrawn_53 at h
  unfold oX6_putDrawn_53 at ok
  refine r_aload_n C 0 (dall tdX6_putDrawn 30 rfl) rfl ?_
  obtain ⟨o1, ok⟩ := ok
  refine r_vI (as := []) C (zX6_passes cy q σ  o1) mv_X6_passes km_X6_400 (by decide) (by decide) ⟨Nat.le_refl _, Nat.le_refl _⟩ rfl rfl rfl rfl (Nat.le_of_ble_eq_true rfl) (dall tdX6_putDrawn 31 rfl) ?_
  exact wX6_putDrawn_57 ((fX6_passes σ ).2) a2_ a3_ a4_ ((fX6_passes σ ).1) C hR kR9 kO9 hk9 ok h
def pX6_putDrawn_52 (kR9 : OS × Int32 × Int32 → Int32 × OS) (σ : OS) (a2_ : Int32) (a3_ : Int32) (a4_ : Int32) (b0_ : Int32) : Int32 × OS := pX6_putDrawn_53 kR9 σ a2_ a3_ a4_
def oX6_putDrawn_52 (kO9 : OS × Int32 × Int32 → Prop) (σ : OS) (a2_ : Int32) (a3_ : Int32) (a4_ : Int32) (b0_ : Int32) : Prop := oX6_putDrawn_53 kO9 σ a2_ a3_ a4_
set_option maxHeartbeats 4000000 in
set_option maxRecDepth 100000 in
theorem wX6_putDrawn_52 {X : CX} {cy : Nat → ClassId} {q : Nat → Nat} {D : va_G} {A : Nat → Prop} {res : Int32 × OS} (σ : OS) (a2_ : Int32) (a3_ : Int32) (a4_ : Int32) (b0_ : Int32) (C : Cx X cX6_putDrawn RX6 6 D (gty cy) A 45 0 0) (hR : Rt X (some .int) D (gty cy) A 0 0 (eI (wX6 cy q res.2) res.1)) (kR9 : OS × Int32 × Int32 → Int32 × OS) (kO9 : OS × Int32 × Int32 → Prop) (hk9 : ∀ z, kO9 z → kR9 z = res → At X D A 6 0 0 9 [(0, .ref (q 41)), (2, .int a2_), (3, .int z.2.1), (4, .int z.2.2)] [] (wX6 cy q z.1)) (ok : oX6_putDrawn_52 kO9 σ a2_ a3_ a4_ b0_) (h : pX6_putDrawn_52 kR9 σ a2_ a3_ a4_ b0_ = res) : At X D A 6 0 0 52 [(0, .ref (q 41)), (2, .int a2_), (3, .int a3_), (4, .int a4_)] [.int b0_] (wX6 cy q σ) := by
  unfold pX6_putDrawn_52 at h
  unfold oX6_putDrawn_52 at ok
  refine r_pop C (dall tdX6_putDrawn 29 rfl) rfl ?_
  exact wX6_putDrawn_53 σ a2_ a3_ a4_ C hR kR9 kO9 hk9 ok h
def bX6_putDrawn_9 (a2_ : Int32)  (kR9 : OS × Int32 × Int32 → Int32 × OS) (v : OS × Int32 × Int32) : Int32 × OS := if a2_ ≤ v.2.2 then pX6_putDrawn_77  (fX6_laysBack v.1) (fX6_bitsOf (fX6_putAll v.1)) else if (fX6_has (fX6_putAll v.1) ((jiushr ((v.2.1 * (1103515245)) + 12345) 9) - (jiushr ((v.2.1 * (1103515245)) + 12345) 9) / 64 * 64)) = 0 then pX6_putDrawn_53 kR9 v.1 a2_ ((v.2.1 * (1103515245)) + 12345) v.2.2 else pX6_putDrawn_52 kR9 ((fX6_felled v.1 ((jiushr ((v.2.1 * (1103515245)) + 12345) 9) - (jiushr ((v.2.1 * (1103515245)) + 12345) 9) / 64 * 64)).2) a2_ ((v.2.1 * (1103515245)) + 12345) v.2.2 ((fX6_felled v.1 ((jiushr ((v.2.1 * (1103515245)) + 12345) 9) - (jiushr ((v.2.1 * (1103515245)) + 12345) 9) / 64 * 64)).1)
def kX6_putDrawn_9 (a2_ : Int32)  (kO9 : OS × Int32 × Int32 → Prop) (v : OS × Int32 × Int32) : Prop := (a2_ ≤ v.2.2 → (gX6_putAll v.1 ) ∧ ((gX6_bitsOf (fX6_putAll v.1)) ∧ (gX6_laysBack v.1))) ∧ (¬ (a2_ ≤ v.2.2) → (gX6_putAll v.1 ) ∧ (((fX6_has (fX6_putAll v.1) ((jiushr ((v.2.1 * (1103515245)) + 12345) 9) - (jiushr ((v.2.1 * (1103515245)) + 12345) 9) / 64 * 64)) = 0 → oX6_putDrawn_53 kO9 v.1 a2_ ((v.2.1 * (1103515245)) + 12345) v.2.2) ∧ (¬ ((fX6_has (fX6_putAll v.1) ((jiushr ((v.2.1 * (1103515245)) + 12345) 9) - (jiushr ((v.2.1 * (1103515245)) + 12345) 9) / 64 * 64)) = 0) → (gX6_felled v.1 ((jiushr ((v.2.1 * (1103515245)) + 12345) 9) - (jiushr ((v.2.1 * (1103515245)) + 12345) 9) / 64 * 64)) ∧ (oX6_putDrawn_52 kO9 ((fX6_felled v.1 ((jiushr ((v.2.1 * (1103515245)) + 12345) 9) - (jiushr ((v.2.1 * (1103515245)) + 12345) 9) / 64 * 64)).2) a2_ ((v.2.1 * (1103515245)) + 12345) v.2.2 ((fX6_felled v.1 ((jiushr ((v.2.1 * (1103515245)) + 12345) 9) - (jiushr ((v.2.1 * (1103515245)) + 12345) 9) / 64 * 64)).1)))))
set_option maxHeartbeats 4000000 in
set_option maxRecDepth 100000 in
theorem wX6_putDrawn_9 {X : CX} {cy : Nat → ClassId} {q : Nat → Nat} {D : va_G} {A : Nat → Prop} {res : Int32 × OS} (a2_ : Int32) (C : Cx X cX6_putDrawn RX6 6 D (gty cy) A 45 0 0) (hR : Rt X (some .int) D (gty cy) A 0 0 (eI (wX6 cy q res.2) res.1)) (kR9 : OS × Int32 × Int32 → Int32 × OS) (kO9 : OS × Int32 × Int32 → Prop) (hk9 : ∀ z, kO9 z → kR9 z = res → At X D A 6 0 0 9 [(0, .ref (q 41)), (2, .int a2_), (3, .int z.2.1), (4, .int z.2.2)] [] (wX6 cy q z.1)) (v : OS × Int32 × Int32) (ok : kX6_putDrawn_9 a2_ kO9 v) (h : bX6_putDrawn_9 a2_ kR9 v = res) : At X D A 6 0 0 9 [(0, .ref (q 41)), (2, .int a2_), (3, .int v.2.1), (4, .int v.2.2)] [] (wX6 cy q v.1) := by
  unfold bX6_putDrawn_9 at h
  unfold kX6_putDrawn_9 at ok
  refine r_iload C 3 (dall tdX6_putDrawn 6 rfl) rfl ?_
  refine r_iload_n C 1 (dall tdX6_putDrawn 7 rfl) rfl ?_
  refine r_icmp_ge (tgt := 64) C (dall tdX6_putDrawn 8 rfl) (by decide) (fun c2 => ?_) (fun c2 => ?_)
  · have h := (if_pos c2).symm.trans h
    have ok := ok.1 c2
    refine r_aload_n C 0 (dall tdX6_putDrawn 35 rfl) rfl ?_
    obtain ⟨o3, ok⟩ := ok
    refine r_vL (as := []) C (zX6_putAll cy q v.1  o3) mv_X6_putAll km_X6_80 (by decide) (by decide) ⟨Nat.le_refl _, Nat.le_refl _⟩ rfl rfl rfl rfl (Nat.le_of_ble_eq_true rfl) (dall tdX6_putDrawn 36 rfl) ?_
    obtain ⟨o4, ok⟩ := ok
    refine r_s0I (as := [.long (fX6_putAll v.1)]) C (zX6_bitsOf (fX6_putAll v.1) o4) ms_X6_bitsOf km_X6_138 (by decide) (by decide) ⟨Nat.le_refl _, Nat.le_refl _⟩ rfl rfl (Nat.le_of_ble_eq_true rfl) (dall tdX6_putDrawn 37 rfl) ?_
    refine r_istore (lv' := [(4, .int (fX6_bitsOf (fX6_putAll v.1))), (0, .ref (q 41)), (2, .int a2_), (3, .int v.2.1)]) C (dall tdX6_putDrawn 38 rfl) (by decide) rfl ?_
    refine r_aload_n C 1 (dall tdX6_putDrawn 39 rfl) rfl ?_
    have o5 := ok
    refine r_vV (as := []) C (zX6_laysBack cy q v.1  o5) mv_X6_laysBack km_X6_412 (by decide) (by decide) ⟨Nat.le_refl _, Nat.le_refl _⟩ rfl rfl rfl rfl (Nat.le_of_ble_eq_true rfl) (dall tdX6_putDrawn 40 rfl) ?_
    refine r_pick [0] rfl ?_
    exact wX6_putDrawn_77 (fX6_laysBack v.1) (fX6_bitsOf (fX6_putAll v.1)) C hR  h
  · have h := (if_neg c2).symm.trans h
    have ok := ok.2 c2
    refine r_iload_n C 2 (dall tdX6_putDrawn 9 rfl) rfl ?_
    refine r_ldcw C kk_X6_445 (dall tdX6_putDrawn 10 rfl) ?_
    refine r_imul C (dall tdX6_putDrawn 11 rfl) ?_
    refine r_sipush (v := 12345) C (dall tdX6_putDrawn 12 rfl) (by decide) ?_
    refine r_iadd C (dall tdX6_putDrawn 13 rfl) ?_
    refine r_istore_n (lv' := [(3, .int ((v.2.1 * (1103515245)) + 12345)), (0, .ref (q 41)), (2, .int a2_), (4, .int v.2.2)]) C (dall tdX6_putDrawn 14 rfl) (by decide) rfl ?_
    refine r_iload_n C 0 (dall tdX6_putDrawn 15 rfl) rfl ?_
    refine r_bipush (v := 9) C (dall tdX6_putDrawn 16 rfl) (by decide) ?_
    refine r_iushr C (dall tdX6_putDrawn 17 rfl) ?_
    refine r_bipush (v := 64) C (dall tdX6_putDrawn 18 rfl) (by decide) ?_
    refine r_irem C (dall tdX6_putDrawn 19 rfl) (by decide) ?_
    refine r_istore (lv' := [(5, .int ((jiushr ((v.2.1 * (1103515245)) + 12345) 9) - (jiushr ((v.2.1 * (1103515245)) + 12345) 9) / 64 * 64)), (3, .int ((v.2.1 * (1103515245)) + 12345)), (0, .ref (q 41)), (2, .int a2_), (4, .int v.2.2)]) C (dall tdX6_putDrawn 20 rfl) (by decide) rfl ?_
    refine r_aload_n C 2 (dall tdX6_putDrawn 21 rfl) rfl ?_
    obtain ⟨o6, ok⟩ := ok
    refine r_vL (as := []) C (zX6_putAll cy q v.1  o6) mv_X6_putAll km_X6_80 (by decide) (by decide) ⟨Nat.le_refl _, Nat.le_refl _⟩ rfl rfl rfl rfl (Nat.le_of_ble_eq_true rfl) (dall tdX6_putDrawn 22 rfl) ?_
    refine r_iload C 0 (dall tdX6_putDrawn 23 rfl) rfl ?_
    refine r_s0I (as := [.long (fX6_putAll v.1), .int ((jiushr ((v.2.1 * (1103515245)) + 12345) 9) - (jiushr ((v.2.1 * (1103515245)) + 12345) 9) / 64 * 64)]) C (zX6_has (fX6_putAll v.1) ((jiushr ((v.2.1 * (1103515245)) + 12345) 9) - (jiushr ((v.2.1 * (1103515245)) + 12345) 9) / 64 * 64) ) ms_X6_has km_X6_97 (by decide) (by decide) ⟨Nat.le_refl _, Nat.le_refl _⟩ rfl rfl (Nat.le_of_ble_eq_true rfl) (dall tdX6_putDrawn 24 rfl) ?_
    refine r_if_eq (tgt := 53) C (dall tdX6_putDrawn 25 rfl) (by decide) (fun c7 => ?_) (fun c7 => ?_)
    · have h := (if_pos c7).symm.trans h
      have ok := ok.1 c7
      refine r_pick [2, 3, 1, 4] rfl ?_
      exact wX6_putDrawn_53 v.1 a2_ ((v.2.1 * (1103515245)) + 12345) v.2.2 C hR kR9 kO9 hk9 ok h
    · have h := (if_neg c7).symm.trans h
      have ok := ok.2 c7
      refine r_aload_n C 2 (dall tdX6_putDrawn 26 rfl) rfl ?_
      refine r_iload C 0 (dall tdX6_putDrawn 27 rfl) rfl ?_
      obtain ⟨o8, ok⟩ := ok
      refine r_vI (as := [.int ((jiushr ((v.2.1 * (1103515245)) + 12345) 9) - (jiushr ((v.2.1 * (1103515245)) + 12345) 9) / 64 * 64)]) C (zX6_felled cy q v.1 ((jiushr ((v.2.1 * (1103515245)) + 12345) 9) - (jiushr ((v.2.1 * (1103515245)) + 12345) 9) / 64 * 64) o8) mv_X6_felled km_X6_380 (by decide) (by decide) ⟨Nat.le_refl _, Nat.le_refl _⟩ rfl rfl rfl rfl (Nat.le_of_ble_eq_true rfl) (dall tdX6_putDrawn 28 rfl) ?_
      refine r_pick [2, 3, 1, 4] rfl ?_
      exact wX6_putDrawn_52 ((fX6_felled v.1 ((jiushr ((v.2.1 * (1103515245)) + 12345) 9) - (jiushr ((v.2.1 * (1103515245)) + 12345) 9) / 64 * 64)).2) a2_ ((v.2.1 * (1103515245)) + 12345) v.2.2 ((fX6_felled v.1 ((jiushr ((v.2.1 * (1103515245)) + 12345) 9) - (jiushr ((v.2.1 * (1103515245)) + 12345) 9) / 64 * 64)).1) C hR kR9 kO9 hk9 ok h
set_option maxHeartbeats 4000000 in
set_option maxRecDepth 100000 in
theorem lX6_putDrawn_9 {X : CX} {cy : Nat → ClassId} {q : Nat → Nat} {D : va_G} {A : Nat → Prop} {res : Int32 × OS} (a2_ : Int32) (C : Cx X cX6_putDrawn RX6 6 D (gty cy) A 45 0 0) (hR : Rt X (some .int) D (gty cy) A 0 0 (eI (wX6 cy q res.2) res.1))  (n : Nat) (v : OS × Int32 × Int32) (ok : lpOk (kX6_putDrawn_9 a2_ ) n v) (h : lp (0, o0) (bX6_putDrawn_9 a2_ ) n v = res) : At X D A 6 0 0 9 [(0, .ref (q 41)), (2, .int a2_), (3, .int v.2.1), (4, .int v.2.2)] [] (wX6 cy q v.1) :=
  lp_rule (fun v rr_ => rr_ = res → At X D A 6 0 0 9 [(0, .ref (q 41)), (2, .int a2_), (3, .int v.2.1), (4, .int v.2.2)] [] (wX6 cy q v.1)) (fun kR kO hk v ok h => wX6_putDrawn_9 a2_ C hR  kR kO hk v ok h) n v ok h
def pX6_putDrawn_4  (σ : OS) (a1_ : Int32) (a2_ : Int32) : Int32 × OS := lp (0, o0) (bX6_putDrawn_9 a2_ ) fu (σ, a1_, 0)
def oX6_putDrawn_4  (σ : OS) (a1_ : Int32) (a2_ : Int32) : Prop := lpOk (kX6_putDrawn_9 a2_ ) fu (σ, a1_, 0)
set_option maxHeartbeats 4000000 in
set_option maxRecDepth 100000 in
theorem wX6_putDrawn_4 {X : CX} {cy : Nat → ClassId} {q : Nat → Nat} {D : va_G} {A : Nat → Prop} {res : Int32 × OS} (σ : OS) (a1_ : Int32) (a2_ : Int32) (C : Cx X cX6_putDrawn RX6 6 D (gty cy) A 45 0 0) (hR : Rt X (some .int) D (gty cy) A 0 0 (eI (wX6 cy q res.2) res.1))  (ok : oX6_putDrawn_4  σ a1_ a2_) (h : pX6_putDrawn_4  σ a1_ a2_ = res) : At X D A 6 0 0 4 [(0, .ref (q 41)), (1, .int a1_), (2, .int a2_)] [] (wX6 cy q σ) := by
  unfold pX6_putDrawn_4 at h
  unfold oX6_putDrawn_4 at ok
  refine r_iload_n C 1 (dall tdX6_putDrawn 2 rfl) rfl ?_
  refine r_istore_n (lv' := [(3, .int a1_), (0, .ref (q 41)), (1, .int a1_), (2, .int a2_)]) C (dall tdX6_putDrawn 3 rfl) (by decide) rfl ?_
  refine r_iconst (v := 0) C (dall tdX6_putDrawn 4 rfl) (by decide) ?_
  refine r_istore (lv' := [(4, .int 0), (3, .int a1_), (0, .ref (q 41)), (1, .int a1_), (2, .int a2_)]) C (dall tdX6_putDrawn 5 rfl) (by decide) rfl ?_
  refine r_pick [2, 4, 1, 0] rfl ?_
  exact lX6_putDrawn_9 a2_ C hR  fu _ ok h
def pX6_putDrawn_0  (σ : OS) (a1_ : Int32) (a2_ : Int32) : Int32 × OS := pX6_putDrawn_4  (fX6_laysAside σ) a1_ a2_
def oX6_putDrawn_0  (σ : OS) (a1_ : Int32) (a2_ : Int32) : Prop := (gX6_laysAside σ ) ∧ (oX6_putDrawn_4  (fX6_laysAside σ) a1_ a2_)
set_option maxHeartbeats 4000000 in
set_option maxRecDepth 100000 in
theorem wX6_putDrawn_0 {X : CX} {cy : Nat → ClassId} {q : Nat → Nat} {D : va_G} {A : Nat → Prop} {res : Int32 × OS} (σ : OS) (a1_ : Int32) (a2_ : Int32) (C : Cx X cX6_putDrawn RX6 6 D (gty cy) A 45 0 0) (hR : Rt X (some .int) D (gty cy) A 0 0 (eI (wX6 cy q res.2) res.1))  (ok : oX6_putDrawn_0  σ a1_ a2_) (h : pX6_putDrawn_0  σ a1_ a2_ = res) : At X D A 6 0 0 0 [(0, .ref (q 41)), (1, .int a1_), (2, .int a2_)] [] (wX6 cy q σ) := by
  unfold pX6_putDrawn_0 at h
  unfold oX6_putDrawn_0 at ok
  refine r_aload_n C 0 (dall tdX6_putDrawn 0 rfl) rfl ?_
  obtain ⟨o9, ok⟩ := ok
  refine r_vV (as := []) C (zX6_laysAside cy q σ  o9) mv_X6_laysAside km_X6_405 (by decide) (by decide) ⟨Nat.le_refl _, Nat.le_refl _⟩ rfl rfl rfl rfl (Nat.le_of_ble_eq_true rfl) (dall tdX6_putDrawn 1 rfl) ?_
  exact wX6_putDrawn_4 (fX6_laysAside σ) a1_ a2_ C hR  ok h
def fX6_putDrawn (σ : OS) (a1_ : Int32) (a2_ : Int32) : Int32 × OS := pX6_putDrawn_0  σ a1_ a2_
def gX6_putDrawn (σ : OS) (a1_ : Int32) (a2_ : Int32) : Prop := oX6_putDrawn_0  σ a1_ a2_
set_option maxRecDepth 100000 in
theorem zX6_putDrawn (cy : Nat → ClassId) (q : Nat → Nat)  {D : va_G} (σ : OS) (a1_ : Int32) (a2_ : Int32) (ok : gX6_putDrawn σ a1_ a2_)  : Con yX6_putDrawn cX6_putDrawn 6 (some .int) 45 0 0 D (gty cy) [.ref (q 41), .int a1_, .int a2_] (wX6 cy q σ) (eI (wX6 cy q (fX6_putDrawn σ a1_ a2_).2) (fX6_putDrawn σ a1_ a2_).1) :=
  Con.of (own := RX6) (by decide +kernel) rfl (Nat.le_of_ble_eq_true rfl) (Nat.zero_le _) (fun X A C hR _ => (wX6_putDrawn_0 σ a1_ a2_ C hR  ok rfl))
theorem mv_X6_putDrawn : MV yX6_putDrawn cX6_putDrawn 6 (some .int) RX6 2 := ⟨ki_X6_putDrawn, kv_X6_putDrawn, kn_X6, kc_X6_putDrawn, by decide +kernel⟩
def tbX6_drawn : List (Nat × Instr × Nat) := [(0, .iload_n 2, 1), (1, .i2l, 1), (2, .lconst 0, 1), (3, .ldc2_w 403, 3), (6, .invokestatic 74, 3), (9, .ifCond .eq 12, 3), (12, .aload_n 0, 1), (13, .iload_n 1, 1), (14, .iload_n 2, 1), (15, .invokevirtual 446, 3), (18, .goto 5, 3), (21, .bipush (-2), 2), (23, .ireturn, 1)]
theorem tdX6_drawn : tbX6_drawn.all (fun q => decide (decode cX6_drawn q.1 = .ok q.2)) = true := by decide +kernel
def pX6_drawn_18  (σ : OS) (b0_ : Int32) : Int32 × OS := (b0_, σ)
set_option maxHeartbeats 4000000 in
set_option maxRecDepth 100000 in
theorem wX6_drawn_18 {X : CX} {cy : Nat → ClassId} {q : Nat → Nat} {D : va_G} {A : Nat → Prop} {res : Int32 × OS} (σ : OS) (b0_ : Int32) (C : Cx X cX6_drawn RX6 3 D (gty cy) A 46 0 0) (hR : Rt X (some .int) D (gty cy) A 0 0 (eI (wX6 cy q res.2) res.1))  (h : pX6_drawn_18  σ b0_ = res) : At X D A 3 0 0 18 [] [.int b0_] (wX6 cy q σ) := by
  unfold pX6_drawn_18 at h
  refine r_goto (tgt := 23) C (dall tdX6_drawn 10 rfl) (by decide) ?_
  exact r_iret C hR (dall tdX6_drawn 12 rfl) (by subst h; exact ⟨rfl, rfl⟩)
def pX6_drawn_0  (σ : OS) (a1_ : Int32) (a2_ : Int32) : Int32 × OS := if (fX6_in a2_.toInt64 0 (40)) = 0 then ((-2), σ) else pX6_drawn_18  ((fX6_putDrawn σ a1_ a2_).2) ((fX6_putDrawn σ a1_ a2_).1)
def oX6_drawn_0  (σ : OS) (a1_ : Int32) (a2_ : Int32) : Prop := ((fX6_in a2_.toInt64 0 (40)) = 0 → True) ∧ (¬ ((fX6_in a2_.toInt64 0 (40)) = 0) → gX6_putDrawn σ a1_ a2_)
set_option maxHeartbeats 4000000 in
set_option maxRecDepth 100000 in
theorem wX6_drawn_0 {X : CX} {cy : Nat → ClassId} {q : Nat → Nat} {D : va_G} {A : Nat → Prop} {res : Int32 × OS} (σ : OS) (a1_ : Int32) (a2_ : Int32) (C : Cx X cX6_drawn RX6 3 D (gty cy) A 46 0 0) (hR : Rt X (some .int) D (gty cy) A 0 0 (eI (wX6 cy q res.2) res.1))  (ok : oX6_drawn_0  σ a1_ a2_) (h : pX6_drawn_0  σ a1_ a2_ = res) : At X D A 3 0 0 0 [(0, .ref (q 41)), (1, .int a1_), (2, .int a2_)] [] (wX6 cy q σ) := by
  unfold pX6_drawn_0 at h
  unfold oX6_drawn_0 at ok
  refine r_iload_n C 2 (dall tdX6_drawn 0 rfl) rfl ?_
  refine r_i2l C (dall tdX6_drawn 1 rfl) ?_
  refine r_lconst (v := 0) C (dall tdX6_drawn 2 rfl) (by decide) ?_
  refine r_ldc2 C kk_X6_403 (dall tdX6_drawn 3 rfl) ?_
  refine r_s0I (as := [.long a2_.toInt64, .long 0, .long (40)]) C (zX6_in a2_.toInt64 0 (40) ) ms_X6_in km_X6_74 (by decide) (by decide) ⟨Nat.le_refl _, Nat.le_refl _⟩ rfl rfl (Nat.le_of_ble_eq_true rfl) (dall tdX6_drawn 4 rfl) ?_
  refine r_if_eq (tgt := 21) C (dall tdX6_drawn 5 rfl) (by decide) (fun c1 => ?_) (fun c1 => ?_)
  · have h := (if_pos c1).symm.trans h
    have ok := ok.1 c1
    refine r_bipush (v := -2) C (dall tdX6_drawn 11 rfl) (by decide) ?_
    exact r_iret C hR (dall tdX6_drawn 12 rfl) (by subst h; exact ⟨rfl, rfl⟩)
  · have h := (if_neg c1).symm.trans h
    have ok := ok.2 c1
    refine r_aload_n C 0 (dall tdX6_drawn 6 rfl) rfl ?_
    refine r_iload_n C 1 (dall tdX6_drawn 7 rfl) rfl ?_
    refine r_iload_n C 2 (dall tdX6_drawn 8 rfl) rfl ?_
    have o2 := ok
    refine r_vI (as := [.int a1_, .int a2_]) C (zX6_putDrawn cy q σ a1_ a2_ o2) mv_X6_putDrawn km_X6_446 (by decide) (by decide) ⟨Nat.le_refl _, Nat.le_refl _⟩ rfl rfl rfl rfl (Nat.le_of_ble_eq_true rfl) (dall tdX6_drawn 9 rfl) ?_
    refine r_pick [] rfl ?_
    exact wX6_drawn_18 ((fX6_putDrawn σ a1_ a2_).2) ((fX6_putDrawn σ a1_ a2_).1) C hR  h
def fX6_drawn (σ : OS) (a1_ : Int32) (a2_ : Int32) : Int32 × OS := pX6_drawn_0  σ a1_ a2_
def gX6_drawn (σ : OS) (a1_ : Int32) (a2_ : Int32) : Prop := oX6_drawn_0  σ a1_ a2_
set_option maxRecDepth 100000 in
theorem zX6_drawn (cy : Nat → ClassId) (q : Nat → Nat)  {D : va_G} (σ : OS) (a1_ : Int32) (a2_ : Int32) (ok : gX6_drawn σ a1_ a2_)  : Con yX6_drawn cX6_drawn 3 (some .int) 46 0 0 D (gty cy) [.ref (q 41), .int a1_, .int a2_] (wX6 cy q σ) (eI (wX6 cy q (fX6_drawn σ a1_ a2_).2) (fX6_drawn σ a1_ a2_).1) :=
  Con.of (own := RX6) (by decide +kernel) rfl (Nat.le_of_ble_eq_true rfl) (Nat.zero_le _) (fun X A C hR _ => (wX6_drawn_0 σ a1_ a2_ C hR  ok rfl))
theorem mv_X6_drawn : MV yX6_drawn cX6_drawn 3 (some .int) RX6 2 := ⟨ki_X6_drawn, kv_X6_drawn, kn_X6, kc_X6_drawn, by decide +kernel⟩
def tbX6_chance : List (Nat × Instr × Nat) := [(0, .iload_n 2, 1), (1, .i2l, 1), (2, .lconst 1, 1), (3, .ldc2_w 422, 3), (6, .invokestatic 74, 3), (9, .ifCond .eq 26, 3), (12, .iload_n 3, 1), (13, .i2l, 1), (14, .lconst 0, 1), (15, .ldc2_w 449, 3), (18, .invokestatic 74, 3), (21, .ifCond .eq 14, 3), (24, .iload 4, 2), (26, .i2l, 1), (27, .lconst 0, 1), (28, .lconst 1, 1), (29, .invokestatic 74, 3), (32, .ifCond .ne 7, 3), (35, .ldc2_w 145, 3), (38, .lreturn, 1), (39, .lconst 0, 1), (40, .lstore 5, 2), (42, .iconst 0, 1), (43, .istore 7, 2), (45, .iload 7, 2), (47, .iload_n 2, 1), (48, .if_icmp .ge 33, 3), (51, .lload 5, 2), (53, .aload_n 0, 1), (54, .iload_n 1, 1), (55, .iload 7, 2), (57, .iadd, 1), (58, .bipush 10, 2), (60, .invokevirtual 446, 3), (63, .iload_n 3, 1), (64, .if_icmp .lt 7, 3), (67, .lconst 1, 1), (68, .goto 4, 3), (71, .lconst 0, 1), (72, .ladd, 1), (73, .lstore 5, 2), (75, .iinc 7 1, 3), (78, .goto (-33), 3), (81, .lload 5, 2), (83, .iload_n 2, 1), (84, .i2l, 1), (85, .iload 4, 2), (87, .invokestatic 428, 3), (90, .lreturn, 1)]
theorem tdX6_chance : tbX6_chance.all (fun q => decide (decode cX6_chance q.1 = .ok q.2)) = true := by decide +kernel
def pX6_chance_72 (kR45 : OS × Int64 × Int32 → Int64 × OS) (σ : OS) (a1_ : Int32) (a2_ : Int32) (a3_ : Int32) (a4_ : Int32) (a7_ : Int32) (b0_ : Int64) (b1_ : Int64) : Int64 × OS := kR45 (σ, b1_ + b0_, a7_ + 1)
def oX6_chance_72 (kO45 : OS × Int64 × Int32 → Prop) (σ : OS) (a1_ : Int32) (a2_ : Int32) (a3_ : Int32) (a4_ : Int32) (a7_ : Int32) (b0_ : Int64) (b1_ : Int64) : Prop := kO45 (σ, b1_ + b0_, a7_ + 1)
set_option maxHeartbeats 4000000 in
set_option maxRecDepth 100000 in
theorem wX6_chance_72 {X : CX} {cy : Nat → ClassId} {q : Nat → Nat} {D : va_G} {A : Nat → Prop} {res : Int64 × OS} (σ : OS) (a1_ : Int32) (a2_ : Int32) (a3_ : Int32) (a4_ : Int32) (a7_ : Int32) (b0_ : Int64) (b1_ : Int64) (C : Cx X cX6_chance RX6 8 D (gty cy) A 46 0 0) (hR : Rt X (some .long) D (gty cy) A 0 0 (eL (wX6 cy q res.2) res.1)) (kR45 : OS × Int64 × Int32 → Int64 × OS) (kO45 : OS × Int64 × Int32 → Prop) (hk45 : ∀ z, kO45 z → kR45 z = res → At X D A 8 0 0 45 [(0, .ref (q 41)), (1, .int a1_), (2, .int a2_), (3, .int a3_), (4, .int a4_), (5, .long z.2.1), (7, .int z.2.2)] [] (wX6 cy q z.1)) (ok : oX6_chance_72 kO45 σ a1_ a2_ a3_ a4_ a7_ b0_ b1_) (h : pX6_chance_72 kR45 σ a1_ a2_ a3_ a4_ a7_ b0_ b1_ = res) : At X D A 8 0 0 72 [(0, .ref (q 41)), (1, .int a1_), (2, .int a2_), (3, .int a3_), (4, .int a4_), (7, .int a7_)] [.long b0_, .long b1_] (wX6 cy q σ) := by
  unfold pX6_chance_72 at h
  unfold oX6_chance_72 at ok
  refine r_ladd C (dall tdX6_chance 39 rfl) ?_
  refine r_lstore (lv' := [(5, .long (b1_ + b0_)), (0, .ref (q 41)), (1, .int a1_), (2, .int a2_), (3, .int a3_), (4, .int a4_), (7, .int a7_)]) C (dall tdX6_chance 40 rfl) (by decide) rfl ?_
  refine r_iinc (v := a7_ + 1) (lv' := [(7, .int (a7_ + 1)), (5, .long (b1_ + b0_)), (0, .ref (q 41)), (1, .int a1_), (2, .int a2_), (3, .int a3_), (4, .int a4_)]) C 6 (dall tdX6_chance 41 rfl) rfl rfl (by decide) rfl ?_
  refine r_goto (tgt := 45) C (dall tdX6_chance 42 rfl) (by decide) ?_
  refine r_pick [2, 3, 4, 5, 6, 1, 0] rfl ?_
  exact hk45 (σ, b1_ + b0_, a7_ + 1) ok h
def pX6_chance_63 (kR45 : OS × Int64 × Int32 → Int64 × OS) (σ : OS) (a1_ : Int32) (a2_ : Int32) (a3_ : Int32) (a4_ : Int32) (a7_ : Int32) (b0_ : Int32) (b1_ : Int64) : Int64 × OS := if b0_ < a3_ then pX6_chance_72 kR45 σ a1_ a2_ a3_ a4_ a7_ 0 b1_ else pX6_chance_72 kR45 σ a1_ a2_ a3_ a4_ a7_ 1 b1_
def oX6_chance_63 (kO45 : OS × Int64 × Int32 → Prop) (σ : OS) (a1_ : Int32) (a2_ : Int32) (a3_ : Int32) (a4_ : Int32) (a7_ : Int32) (b0_ : Int32) (b1_ : Int64) : Prop := (b0_ < a3_ → oX6_chance_72 kO45 σ a1_ a2_ a3_ a4_ a7_ 0 b1_) ∧ (¬ (b0_ < a3_) → oX6_chance_72 kO45 σ a1_ a2_ a3_ a4_ a7_ 1 b1_)
set_option maxHeartbeats 4000000 in
set_option maxRecDepth 100000 in
theorem wX6_chance_63 {X : CX} {cy : Nat → ClassId} {q : Nat → Nat} {D : va_G} {A : Nat → Prop} {res : Int64 × OS} (σ : OS) (a1_ : Int32) (a2_ : Int32) (a3_ : Int32) (a4_ : Int32) (a7_ : Int32) (b0_ : Int32) (b1_ : Int64) (C : Cx X cX6_chance RX6 8 D (gty cy) A 46 0 0) (hR : Rt X (some .long) D (gty cy) A 0 0 (eL (wX6 cy q res.2) res.1)) (kR45 : OS × Int64 × Int32 → Int64 × OS) (kO45 : OS × Int64 × Int32 → Prop) (hk45 : ∀ z, kO45 z → kR45 z = res → At X D A 8 0 0 45 [(0, .ref (q 41)), (1, .int a1_), (2, .int a2_), (3, .int a3_), (4, .int a4_), (5, .long z.2.1), (7, .int z.2.2)] [] (wX6 cy q z.1)) (ok : oX6_chance_63 kO45 σ a1_ a2_ a3_ a4_ a7_ b0_ b1_) (h : pX6_chance_63 kR45 σ a1_ a2_ a3_ a4_ a7_ b0_ b1_ = res) : At X D A 8 0 0 63 [(0, .ref (q 41)), (1, .int a1_), (2, .int a2_), (3, .int a3_), (4, .int a4_), (7, .int a7_)] [.int b0_, .long b1_] (wX6 cy q σ) := by
  unfold pX6_chance_63 at h
  unfold oX6_chance_63 at ok
  refine r_iload_n C 3 (dall tdX6_chance 34 rfl) rfl ?_
  refine r_icmp_lt (tgt := 71) C (dall tdX6_chance 35 rfl) (by decide) (fun c1 => ?_) (fun c1 => ?_)
  · have h := (if_pos c1).symm.trans h
    have ok := ok.1 c1
    refine r_lconst (v := 0) C (dall tdX6_chance 38 rfl) (by decide) ?_
    exact wX6_chance_72 σ a1_ a2_ a3_ a4_ a7_ 0 b1_ C hR kR45 kO45 hk45 ok h
  · have h := (if_neg c1).symm.trans h
    have ok := ok.2 c1
    refine r_lconst (v := 1) C (dall tdX6_chance 36 rfl) (by decide) ?_
    refine r_goto (tgt := 72) C (dall tdX6_chance 37 rfl) (by decide) ?_
    exact wX6_chance_72 σ a1_ a2_ a3_ a4_ a7_ 1 b1_ C hR kR45 kO45 hk45 ok h
def bX6_chance_45 (a1_ : Int32) (a2_ : Int32) (a3_ : Int32) (a4_ : Int32)  (kR45 : OS × Int64 × Int32 → Int64 × OS) (v : OS × Int64 × Int32) : Int64 × OS := if a2_ ≤ v.2.2 then (fX6_lowest v.2.1 a2_.toInt64 a4_, v.1) else pX6_chance_63 kR45 ((fX6_putDrawn v.1 (a1_ + v.2.2) 10).2) a1_ a2_ a3_ a4_ v.2.2 ((fX6_putDrawn v.1 (a1_ + v.2.2) 10).1) v.2.1
def kX6_chance_45 (a1_ : Int32) (a2_ : Int32) (a3_ : Int32) (a4_ : Int32)  (kO45 : OS × Int64 × Int32 → Prop) (v : OS × Int64 × Int32) : Prop := (a2_ ≤ v.2.2 → gX6_lowest v.2.1 a2_.toInt64 a4_) ∧ (¬ (a2_ ≤ v.2.2) → (gX6_putDrawn v.1 (a1_ + v.2.2) 10) ∧ (oX6_chance_63 kO45 ((fX6_putDrawn v.1 (a1_ + v.2.2) 10).2) a1_ a2_ a3_ a4_ v.2.2 ((fX6_putDrawn v.1 (a1_ + v.2.2) 10).1) v.2.1))
set_option maxHeartbeats 4000000 in
set_option maxRecDepth 100000 in
theorem wX6_chance_45 {X : CX} {cy : Nat → ClassId} {q : Nat → Nat} {D : va_G} {A : Nat → Prop} {res : Int64 × OS} (a1_ : Int32) (a2_ : Int32) (a3_ : Int32) (a4_ : Int32) (C : Cx X cX6_chance RX6 8 D (gty cy) A 46 0 0) (hR : Rt X (some .long) D (gty cy) A 0 0 (eL (wX6 cy q res.2) res.1)) (kR45 : OS × Int64 × Int32 → Int64 × OS) (kO45 : OS × Int64 × Int32 → Prop) (hk45 : ∀ z, kO45 z → kR45 z = res → At X D A 8 0 0 45 [(0, .ref (q 41)), (1, .int a1_), (2, .int a2_), (3, .int a3_), (4, .int a4_), (5, .long z.2.1), (7, .int z.2.2)] [] (wX6 cy q z.1)) (v : OS × Int64 × Int32) (ok : kX6_chance_45 a1_ a2_ a3_ a4_ kO45 v) (h : bX6_chance_45 a1_ a2_ a3_ a4_ kR45 v = res) : At X D A 8 0 0 45 [(0, .ref (q 41)), (1, .int a1_), (2, .int a2_), (3, .int a3_), (4, .int a4_), (5, .long v.2.1), (7, .int v.2.2)] [] (wX6 cy q v.1) := by
  unfold bX6_chance_45 at h
  unfold kX6_chance_45 at ok
  refine r_iload C 6 (dall tdX6_chance 24 rfl) rfl ?_
  refine r_iload_n C 2 (dall tdX6_chance 25 rfl) rfl ?_
  refine r_icmp_ge (tgt := 81) C (dall tdX6_chance 26 rfl) (by decide) (fun c2 => ?_) (fun c2 => ?_)
  · have h := (if_pos c2).symm.trans h
    have ok := ok.1 c2
    refine r_lload C 5 (dall tdX6_chance 43 rfl) rfl ?_
    refine r_iload_n C 2 (dall tdX6_chance 44 rfl) rfl ?_
    refine r_i2l C (dall tdX6_chance 45 rfl) ?_
    refine r_iload C 4 (dall tdX6_chance 46 rfl) rfl ?_
    have o3 := ok
    refine r_s0L (as := [.long v.2.1, .long a2_.toInt64, .int a4_]) C (zX6_lowest v.2.1 a2_.toInt64 a4_ o3) ms_X6_lowest km_X6_428 (by decide) (by decide) ⟨Nat.le_refl _, Nat.le_refl _⟩ rfl rfl (Nat.le_of_ble_eq_true rfl) (dall tdX6_chance 47 rfl) ?_
    exact r_lret C hR (dall tdX6_chance 48 rfl) (by subst h; exact ⟨rfl, rfl⟩)
  · have h := (if_neg c2).symm.trans h
    have ok := ok.2 c2
    refine r_lload C 5 (dall tdX6_chance 27 rfl) rfl ?_
    refine r_aload_n C 0 (dall tdX6_chance 28 rfl) rfl ?_
    refine r_iload_n C 1 (dall tdX6_chance 29 rfl) rfl ?_
    refine r_iload C 6 (dall tdX6_chance 30 rfl) rfl ?_
    refine r_iadd C (dall tdX6_chance 31 rfl) ?_
    refine r_bipush (v := 10) C (dall tdX6_chance 32 rfl) (by decide) ?_
    obtain ⟨o4, ok⟩ := ok
    refine r_vI (as := [.int (a1_ + v.2.2), .int 10]) C (zX6_putDrawn cy q v.1 (a1_ + v.2.2) 10 o4) mv_X6_putDrawn km_X6_446 (by decide) (by decide) ⟨Nat.le_refl _, Nat.le_refl _⟩ rfl rfl rfl rfl (Nat.le_of_ble_eq_true rfl) (dall tdX6_chance 33 rfl) ?_
    refine r_pick [0, 1, 2, 3, 4, 6] rfl ?_
    exact wX6_chance_63 ((fX6_putDrawn v.1 (a1_ + v.2.2) 10).2) a1_ a2_ a3_ a4_ v.2.2 ((fX6_putDrawn v.1 (a1_ + v.2.2) 10).1) v.2.1 C hR kR45 kO45 hk45 ok h
set_option maxHeartbeats 4000000 in
set_option maxRecDepth 100000 in
theorem lX6_chance_45 {X : CX} {cy : Nat → ClassId} {q : Nat → Nat} {D : va_G} {A : Nat → Prop} {res : Int64 × OS} (a1_ : Int32) (a2_ : Int32) (a3_ : Int32) (a4_ : Int32) (C : Cx X cX6_chance RX6 8 D (gty cy) A 46 0 0) (hR : Rt X (some .long) D (gty cy) A 0 0 (eL (wX6 cy q res.2) res.1))  (n : Nat) (v : OS × Int64 × Int32) (ok : lpOk (kX6_chance_45 a1_ a2_ a3_ a4_ ) n v) (h : lp (0, o0) (bX6_chance_45 a1_ a2_ a3_ a4_ ) n v = res) : At X D A 8 0 0 45 [(0, .ref (q 41)), (1, .int a1_), (2, .int a2_), (3, .int a3_), (4, .int a4_), (5, .long v.2.1), (7, .int v.2.2)] [] (wX6 cy q v.1) :=
  lp_rule (fun v rr_ => rr_ = res → At X D A 8 0 0 45 [(0, .ref (q 41)), (1, .int a1_), (2, .int a2_), (3, .int a3_), (4, .int a4_), (5, .long v.2.1), (7, .int v.2.2)] [] (wX6 cy q v.1)) (fun kR kO hk v ok h => wX6_chance_45 a1_ a2_ a3_ a4_ C hR  kR kO hk v ok h) n v ok h
def pX6_chance_0  (σ : OS) (a1_ : Int32) (a2_ : Int32) (a3_ : Int32) (a4_ : Int32) : Int64 × OS := if (fX6_in a2_.toInt64 1 (20)) = 0 then ((-4611686018427387904), σ) else if (fX6_in a3_.toInt64 0 (64)) = 0 then ((-4611686018427387904), σ) else if (fX6_in a4_.toInt64 0 1) = 0 then ((-4611686018427387904), σ) else lp (0, o0) (bX6_chance_45 a1_ a2_ a3_ a4_ ) fu (σ, 0, 0)
def oX6_chance_0  (σ : OS) (a1_ : Int32) (a2_ : Int32) (a3_ : Int32) (a4_ : Int32) : Prop := ((fX6_in a2_.toInt64 1 (20)) = 0 → True) ∧ (¬ ((fX6_in a2_.toInt64 1 (20)) = 0) → ((fX6_in a3_.toInt64 0 (64)) = 0 → True) ∧ (¬ ((fX6_in a3_.toInt64 0 (64)) = 0) → ((fX6_in a4_.toInt64 0 1) = 0 → True) ∧ (¬ ((fX6_in a4_.toInt64 0 1) = 0) → lpOk (kX6_chance_45 a1_ a2_ a3_ a4_ ) fu (σ, 0, 0))))
set_option maxHeartbeats 4000000 in
set_option maxRecDepth 100000 in
theorem wX6_chance_0 {X : CX} {cy : Nat → ClassId} {q : Nat → Nat} {D : va_G} {A : Nat → Prop} {res : Int64 × OS} (σ : OS) (a1_ : Int32) (a2_ : Int32) (a3_ : Int32) (a4_ : Int32) (C : Cx X cX6_chance RX6 8 D (gty cy) A 46 0 0) (hR : Rt X (some .long) D (gty cy) A 0 0 (eL (wX6 cy q res.2) res.1))  (ok : oX6_chance_0  σ a1_ a2_ a3_ a4_) (h : pX6_chance_0  σ a1_ a2_ a3_ a4_ = res) : At X D A 8 0 0 0 [(0, .ref (q 41)), (1, .int a1_), (2, .int a2_), (3, .int a3_), (4, .int a4_)] [] (wX6 cy q σ) := by
  unfold pX6_chance_0 at h
  unfold oX6_chance_0 at ok
  refine r_iload_n C 2 (dall tdX6_chance 0 rfl) rfl ?_
  refine r_i2l C (dall tdX6_chance 1 rfl) ?_
  refine r_lconst (v := 1) C (dall tdX6_chance 2 rfl) (by decide) ?_
  refine r_ldc2 C kk_X6_422 (dall tdX6_chance 3 rfl) ?_
  refine r_s0I (as := [.long a2_.toInt64, .long 1, .long (20)]) C (zX6_in a2_.toInt64 1 (20) ) ms_X6_in km_X6_74 (by decide) (by decide) ⟨Nat.le_refl _, Nat.le_refl _⟩ rfl rfl (Nat.le_of_ble_eq_true rfl) (dall tdX6_chance 4 rfl) ?_
  refine r_if_eq (tgt := 35) C (dall tdX6_chance 5 rfl) (by decide) (fun c5 => ?_) (fun c5 => ?_)
  · have h := (if_pos c5).symm.trans h
    have ok := ok.1 c5
    refine r_ldc2 C kk_X6_145 (dall tdX6_chance 18 rfl) ?_
    exact r_lret C hR (dall tdX6_chance 19 rfl) (by subst h; exact ⟨rfl, rfl⟩)
  · have h := (if_neg c5).symm.trans h
    have ok := ok.2 c5
    refine r_iload_n C 3 (dall tdX6_chance 6 rfl) rfl ?_
    refine r_i2l C (dall tdX6_chance 7 rfl) ?_
    refine r_lconst (v := 0) C (dall tdX6_chance 8 rfl) (by decide) ?_
    refine r_ldc2 C kk_X6_449 (dall tdX6_chance 9 rfl) ?_
    refine r_s0I (as := [.long a3_.toInt64, .long 0, .long (64)]) C (zX6_in a3_.toInt64 0 (64) ) ms_X6_in km_X6_74 (by decide) (by decide) ⟨Nat.le_refl _, Nat.le_refl _⟩ rfl rfl (Nat.le_of_ble_eq_true rfl) (dall tdX6_chance 10 rfl) ?_
    refine r_if_eq (tgt := 35) C (dall tdX6_chance 11 rfl) (by decide) (fun c6 => ?_) (fun c6 => ?_)
    · have h := (if_pos c6).symm.trans h
      have ok := ok.1 c6
      refine r_ldc2 C kk_X6_145 (dall tdX6_chance 18 rfl) ?_
      exact r_lret C hR (dall tdX6_chance 19 rfl) (by subst h; exact ⟨rfl, rfl⟩)
    · have h := (if_neg c6).symm.trans h
      have ok := ok.2 c6
      refine r_iload C 4 (dall tdX6_chance 12 rfl) rfl ?_
      refine r_i2l C (dall tdX6_chance 13 rfl) ?_
      refine r_lconst (v := 0) C (dall tdX6_chance 14 rfl) (by decide) ?_
      refine r_lconst (v := 1) C (dall tdX6_chance 15 rfl) (by decide) ?_
      refine r_s0I (as := [.long a4_.toInt64, .long 0, .long 1]) C (zX6_in a4_.toInt64 0 1 ) ms_X6_in km_X6_74 (by decide) (by decide) ⟨Nat.le_refl _, Nat.le_refl _⟩ rfl rfl (Nat.le_of_ble_eq_true rfl) (dall tdX6_chance 16 rfl) ?_
      refine r_if_ne (tgt := 39) C (dall tdX6_chance 17 rfl) (by decide) (fun c7 => ?_) (fun c7 => ?_)
      · have h := (if_neg c7).symm.trans h
        have ok := ok.2 c7
        refine r_lconst (v := 0) C (dall tdX6_chance 20 rfl) (by decide) ?_
        refine r_lstore (lv' := [(5, .long 0), (0, .ref (q 41)), (1, .int a1_), (2, .int a2_), (3, .int a3_), (4, .int a4_)]) C (dall tdX6_chance 21 rfl) (by decide) rfl ?_
        refine r_iconst (v := 0) C (dall tdX6_chance 22 rfl) (by decide) ?_
        refine r_istore (lv' := [(7, .int 0), (5, .long 0), (0, .ref (q 41)), (1, .int a1_), (2, .int a2_), (3, .int a3_), (4, .int a4_)]) C (dall tdX6_chance 23 rfl) (by decide) rfl ?_
        refine r_pick [2, 3, 4, 5, 6, 1, 0] rfl ?_
        exact lX6_chance_45 a1_ a2_ a3_ a4_ C hR  fu _ ok h
      · have h := (if_pos c7).symm.trans h
        have ok := ok.1 c7
        refine r_ldc2 C kk_X6_145 (dall tdX6_chance 18 rfl) ?_
        exact r_lret C hR (dall tdX6_chance 19 rfl) (by subst h; exact ⟨rfl, rfl⟩)
def fX6_chance (σ : OS) (a1_ : Int32) (a2_ : Int32) (a3_ : Int32) (a4_ : Int32) : Int64 × OS := pX6_chance_0  σ a1_ a2_ a3_ a4_
def gX6_chance (σ : OS) (a1_ : Int32) (a2_ : Int32) (a3_ : Int32) (a4_ : Int32) : Prop := oX6_chance_0  σ a1_ a2_ a3_ a4_
set_option maxRecDepth 100000 in
theorem zX6_chance (cy : Nat → ClassId) (q : Nat → Nat)  {D : va_G} (σ : OS) (a1_ : Int32) (a2_ : Int32) (a3_ : Int32) (a4_ : Int32) (ok : gX6_chance σ a1_ a2_ a3_ a4_)  : Con yX6_chance cX6_chance 8 (some .long) 46 0 0 D (gty cy) [.ref (q 41), .int a1_, .int a2_, .int a3_, .int a4_] (wX6 cy q σ) (eL (wX6 cy q (fX6_chance σ a1_ a2_ a3_ a4_).2) (fX6_chance σ a1_ a2_ a3_ a4_).1) :=
  Con.of (own := RX6) (by decide +kernel) rfl (Nat.le_of_ble_eq_true rfl) (Nat.zero_le _) (fun X A C hR _ => (wX6_chance_0 σ a1_ a2_ a3_ a4_ C hR  ok rfl))
theorem mv_X6_chance : MV yX6_chance cX6_chance 8 (some .long) RX6 4 := ⟨ki_X6_chance, kv_X6_chance, kn_X6, kc_X6_chance, by decide +kernel⟩
def tbX6_image : List (Nat × Instr × Nat) := [(0, .iconst 0, 1), (1, .istore_n 1, 1), (2, .iload_n 1, 1), (3, .bipush 15, 2), (5, .if_icmp .ge 21, 3), (8, .aload_n 0, 1), (9, .getfield 42, 3), (12, .iload_n 1, 1), (13, .aload_n 0, 1), (14, .getfield 29, 3), (17, .iload_n 1, 1), (18, .iaload, 1), (19, .iastore, 1), (20, .iinc 1 1, 3), (23, .goto (-21), 3), (26, .iconst 0, 1), (27, .istore_n 1, 1), (28, .iload_n 1, 1), (29, .iconst 5, 1), (30, .if_icmp .ge 21, 3), (33, .aload_n 0, 1), (34, .getfield 45, 3), (37, .iload_n 1, 1), (38, .aload_n 0, 1), (39, .getfield 32, 3), (42, .iload_n 1, 1), (43, .laload, 1), (44, .lastore, 1), (45, .iinc 1 1, 3), (48, .goto (-20), 3), (51, .aload_n 0, 1), (52, .aload_n 0, 1), (53, .getfield 71, 3), (56, .putfield 48, 3), (59, .aload_n 0, 1), (60, .aload_n 0, 1), (61, .getfield 115, 3), (64, .putfield 451, 3), (67, .aload_n 0, 1), (68, .aload_n 0, 1), (69, .getfield 358, 3), (72, .putfield 454, 3), (75, .aload_n 0, 1), (76, .aload_n 0, 1), (77, .getfield 118, 3), (80, .putfield 457, 3), (83, .aload_n 0, 1), (84, .aload_n 0, 1), (85, .getfield 25, 3), (88, .putfield 460, 3), (91, .aload_n 0, 1), (92, .getfield 71, 3), (95, .ireturn, 1)]
theorem tdX6_image : tbX6_image.all (fun q => decide (decode cX6_image q.1 = .ok q.2)) = true := by decide +kernel
def bX6_image_28   (kR28 : OS × Int32 → Int32 × OS) (v : OS × Int32) : Int32 × OS := if 5 ≤ v.2 then ((oL (oI (oI (oI (oI v.1 32 (v.1.1 12)) 33 ((oI v.1 32 (v.1.1 12)).1 7)) 34 ((oI (oI v.1 32 (v.1.1 12)) 33 ((oI v.1 32 (v.1.1 12)).1 7)).1 8)) 35 ((oI (oI (oI v.1 32 (v.1.1 12)) 33 ((oI v.1 32 (v.1.1 12)).1 7)) 34 ((oI (oI v.1 32 (v.1.1 12)) 33 ((oI v.1 32 (v.1.1 12)).1 7)).1 8)).1 4)) 36 ((oI (oI (oI (oI v.1 32 (v.1.1 12)) 33 ((oI v.1 32 (v.1.1 12)).1 7)) 34 ((oI (oI v.1 32 (v.1.1 12)) 33 ((oI v.1 32 (v.1.1 12)).1 7)).1 8)) 35 ((oI (oI (oI v.1 32 (v.1.1 12)) 33 ((oI v.1 32 (v.1.1 12)).1 7)) 34 ((oI (oI v.1 32 (v.1.1 12)) 33 ((oI v.1 32 (v.1.1 12)).1 7)).1 8)).1 4)).2.1 9)).1 12, oL (oI (oI (oI (oI v.1 32 (v.1.1 12)) 33 ((oI v.1 32 (v.1.1 12)).1 7)) 34 ((oI (oI v.1 32 (v.1.1 12)) 33 ((oI v.1 32 (v.1.1 12)).1 7)).1 8)) 35 ((oI (oI (oI v.1 32 (v.1.1 12)) 33 ((oI v.1 32 (v.1.1 12)).1 7)) 34 ((oI (oI v.1 32 (v.1.1 12)) 33 ((oI v.1 32 (v.1.1 12)).1 7)).1 8)).1 4)) 36 ((oI (oI (oI (oI v.1 32 (v.1.1 12)) 33 ((oI v.1 32 (v.1.1 12)).1 7)) 34 ((oI (oI v.1 32 (v.1.1 12)) 33 ((oI v.1 32 (v.1.1 12)).1 7)).1 8)) 35 ((oI (oI (oI v.1 32 (v.1.1 12)) 33 ((oI v.1 32 (v.1.1 12)).1 7)) 34 ((oI (oI v.1 32 (v.1.1 12)) 33 ((oI v.1 32 (v.1.1 12)).1 7)).1 8)).1 4)).2.1 9)) else kR28 (oT v.1 31 v.2.toNatClampNeg (v.1.2.2.2 11 v.2.toNatClampNeg), v.2 + 1)
def kX6_image_28   (kO28 : OS × Int32 → Prop) (v : OS × Int32) : Prop := (5 ≤ v.2 → True) ∧ (¬ (5 ≤ v.2) → (vp_in v.2 5) ∧ ((vp_in v.2 5) ∧ (kO28 (oT v.1 31 v.2.toNatClampNeg (v.1.2.2.2 11 v.2.toNatClampNeg), v.2 + 1))))
set_option maxHeartbeats 4000000 in
set_option maxRecDepth 100000 in
theorem wX6_image_28 {X : CX} {cy : Nat → ClassId} {q : Nat → Nat} {D : va_G} {A : Nat → Prop} {res : Int32 × OS}  (C : Cx X cX6_image RX6 2 D (gty cy) A 0 0 0) (hR : Rt X (some .int) D (gty cy) A 0 0 (eI (wX6 cy q res.2) res.1)) (kR28 : OS × Int32 → Int32 × OS) (kO28 : OS × Int32 → Prop) (hk28 : ∀ z, kO28 z → kR28 z = res → At X D A 2 0 0 28 [(0, .ref (q 41)), (1, .int z.2)] [] (wX6 cy q z.1)) (v : OS × Int32) (ok : kX6_image_28  kO28 v) (h : bX6_image_28  kR28 v = res) : At X D A 2 0 0 28 [(0, .ref (q 41)), (1, .int v.2)] [] (wX6 cy q v.1) := by
  unfold bX6_image_28 at h
  unfold kX6_image_28 at ok
  refine r_iload_n C 1 (dall tdX6_image 17 rfl) rfl ?_
  refine r_iconst (v := 5) C (dall tdX6_image 18 rfl) (by decide) ?_
  refine r_icmp_ge (tgt := 51) C (dall tdX6_image 19 rfl) (by decide) (fun c1 => ?_) (fun c1 => ?_)
  · have h := (if_pos c1).symm.trans h
    have ok := ok.1 c1
    refine r_aload_n C 0 (dall tdX6_image 30 rfl) rfl ?_
    refine r_aload_n C 0 (dall tdX6_image 31 rfl) rfl ?_
    refine r_get C 0 kw_X6 rfl rfl (by decide) kf_X6_71 rfl rfl (dall tdX6_image 32 rfl) ?_
    refine r_put C 0 kw_X6 tyX6_ok nmX6 rfl rfl (by decide) kf_X6_48 rfl rfl rfl rfl rfl (Nat.le_of_ble_eq_true rfl) (pu_X6_this_32 cy q v.1 (v.1.1 12)) (dall tdX6_image 33 rfl) ?_
    refine r_aload_n C 0 (dall tdX6_image 34 rfl) rfl ?_
    refine r_aload_n C 0 (dall tdX6_image 35 rfl) rfl ?_
    refine r_get C 0 kw_X6 rfl rfl (by decide) kf_X6_115 rfl rfl (dall tdX6_image 36 rfl) ?_
    refine r_put C 0 kw_X6 tyX6_ok nmX6 rfl rfl (by decide) kf_X6_451 rfl rfl rfl rfl rfl (Nat.le_of_ble_eq_true rfl) (pu_X6_this_33 cy q (oI v.1 32 (v.1.1 12)) ((oI v.1 32 (v.1.1 12)).1 7)) (dall tdX6_image 37 rfl) ?_
    refine r_aload_n C 0 (dall tdX6_image 38 rfl) rfl ?_
    refine r_aload_n C 0 (dall tdX6_image 39 rfl) rfl ?_
    refine r_get C 0 kw_X6 rfl rfl (by decide) kf_X6_358 rfl rfl (dall tdX6_image 40 rfl) ?_
    refine r_put C 0 kw_X6 tyX6_ok nmX6 rfl rfl (by decide) kf_X6_454 rfl rfl rfl rfl rfl (Nat.le_of_ble_eq_true rfl) (pu_X6_this_34 cy q (oI (oI v.1 32 (v.1.1 12)) 33 ((oI v.1 32 (v.1.1 12)).1 7)) ((oI (oI v.1 32 (v.1.1 12)) 33 ((oI v.1 32 (v.1.1 12)).1 7)).1 8)) (dall tdX6_image 41 rfl) ?_
    refine r_aload_n C 0 (dall tdX6_image 42 rfl) rfl ?_
    refine r_aload_n C 0 (dall tdX6_image 43 rfl) rfl ?_
    refine r_get C 0 kw_X6 rfl rfl (by decide) kf_X6_118 rfl rfl (dall tdX6_image 44 rfl) ?_
    refine r_put C 0 kw_X6 tyX6_ok nmX6 rfl rfl (by decide) kf_X6_457 rfl rfl rfl rfl rfl (Nat.le_of_ble_eq_true rfl) (pu_X6_this_35 cy q (oI (oI (oI v.1 32 (v.1.1 12)) 33 ((oI v.1 32 (v.1.1 12)).1 7)) 34 ((oI (oI v.1 32 (v.1.1 12)) 33 ((oI v.1 32 (v.1.1 12)).1 7)).1 8)) ((oI (oI (oI v.1 32 (v.1.1 12)) 33 ((oI v.1 32 (v.1.1 12)).1 7)) 34 ((oI (oI v.1 32 (v.1.1 12)) 33 ((oI v.1 32 (v.1.1 12)).1 7)).1 8)).1 4)) (dall tdX6_image 45 rfl) ?_
    refine r_aload_n C 0 (dall tdX6_image 46 rfl) rfl ?_
    refine r_aload_n C 0 (dall tdX6_image 47 rfl) rfl ?_
    refine r_get C 0 kw_X6 rfl rfl (by decide) kf_X6_25 rfl rfl (dall tdX6_image 48 rfl) ?_
    refine r_put C 0 kw_X6 tyX6_ok nmX6 rfl rfl (by decide) kf_X6_460 rfl rfl rfl rfl rfl (Nat.le_of_ble_eq_true rfl) (pu_X6_this_36 cy q (oI (oI (oI (oI v.1 32 (v.1.1 12)) 33 ((oI v.1 32 (v.1.1 12)).1 7)) 34 ((oI (oI v.1 32 (v.1.1 12)) 33 ((oI v.1 32 (v.1.1 12)).1 7)).1 8)) 35 ((oI (oI (oI v.1 32 (v.1.1 12)) 33 ((oI v.1 32 (v.1.1 12)).1 7)) 34 ((oI (oI v.1 32 (v.1.1 12)) 33 ((oI v.1 32 (v.1.1 12)).1 7)).1 8)).1 4)) ((oI (oI (oI (oI v.1 32 (v.1.1 12)) 33 ((oI v.1 32 (v.1.1 12)).1 7)) 34 ((oI (oI v.1 32 (v.1.1 12)) 33 ((oI v.1 32 (v.1.1 12)).1 7)).1 8)) 35 ((oI (oI (oI v.1 32 (v.1.1 12)) 33 ((oI v.1 32 (v.1.1 12)).1 7)) 34 ((oI (oI v.1 32 (v.1.1 12)) 33 ((oI v.1 32 (v.1.1 12)).1 7)).1 8)).1 4)).2.1 9)) (dall tdX6_image 49 rfl) ?_
    refine r_aload_n C 0 (dall tdX6_image 50 rfl) rfl ?_
    refine r_get C 0 kw_X6 rfl rfl (by decide) kf_X6_71 rfl rfl (dall tdX6_image 51 rfl) ?_
    exact r_iret C hR (dall tdX6_image 52 rfl) (by subst h; exact ⟨rfl, rfl⟩)
  · have h := (if_neg c1).symm.trans h
    have ok := ok.2 c1
    refine r_aload_n C 0 (dall tdX6_image 20 rfl) rfl ?_
    refine r_get C 0 kw_X6 rfl rfl (by decide) kf_X6_45 rfl rfl (dall tdX6_image 21 rfl) ?_
    refine r_iload_n C 1 (dall tdX6_image 22 rfl) rfl ?_
    refine r_aload_n C 0 (dall tdX6_image 23 rfl) rfl ?_
    refine r_get C 0 kw_X6 rfl rfl (by decide) kf_X6_32 rfl rfl (dall tdX6_image 24 rfl) ?_
    refine r_iload_n C 1 (dall tdX6_image 25 rfl) rfl ?_
    obtain ⟨o2, ok⟩ := ok
    refine r_lald C 5 1 rfl rfl o2 (dall tdX6_image 26 rfl) ?_
    obtain ⟨o3, ok⟩ := ok
    refine r_last C 9 1 rfl rfl o3 (pa_X6_this_31 cy q v.1 v.2.toNatClampNeg (v.1.2.2.2 11 v.2.toNatClampNeg)) (dall tdX6_image 27 rfl) ?_
    refine r_iinc (v := v.2 + 1) (lv' := [(1, .int (v.2 + 1)), (0, .ref (q 41))]) C 1 (dall tdX6_image 28 rfl) rfl rfl (by decide) rfl ?_
    refine r_goto (tgt := 28) C (dall tdX6_image 29 rfl) (by decide) ?_
    refine r_pick [1, 0] rfl ?_
    exact hk28 (oT v.1 31 v.2.toNatClampNeg (v.1.2.2.2 11 v.2.toNatClampNeg), v.2 + 1) ok h
set_option maxHeartbeats 4000000 in
set_option maxRecDepth 100000 in
theorem lX6_image_28 {X : CX} {cy : Nat → ClassId} {q : Nat → Nat} {D : va_G} {A : Nat → Prop} {res : Int32 × OS}  (C : Cx X cX6_image RX6 2 D (gty cy) A 0 0 0) (hR : Rt X (some .int) D (gty cy) A 0 0 (eI (wX6 cy q res.2) res.1))  (n : Nat) (v : OS × Int32) (ok : lpOk (kX6_image_28  ) n v) (h : lp (0, o0) (bX6_image_28  ) n v = res) : At X D A 2 0 0 28 [(0, .ref (q 41)), (1, .int v.2)] [] (wX6 cy q v.1) :=
  lp_rule (fun v rr_ => rr_ = res → At X D A 2 0 0 28 [(0, .ref (q 41)), (1, .int v.2)] [] (wX6 cy q v.1)) (fun kR kO hk v ok h => wX6_image_28  C hR  kR kO hk v ok h) n v ok h
def bX6_image_2   (kR2 : OS × Int32 → Int32 × OS) (v : OS × Int32) : Int32 × OS := if 15 ≤ v.2 then lp (0, o0) (bX6_image_28  ) fu (v.1, 0) else kR2 (oS v.1 30 v.2.toNatClampNeg (v.1.2.2.1 10 v.2.toNatClampNeg), v.2 + 1)
def kX6_image_2   (kO2 : OS × Int32 → Prop) (v : OS × Int32) : Prop := (15 ≤ v.2 → lpOk (kX6_image_28  ) fu (v.1, 0)) ∧ (¬ (15 ≤ v.2) → (vp_in v.2 15) ∧ ((vp_in v.2 15) ∧ (kO2 (oS v.1 30 v.2.toNatClampNeg (v.1.2.2.1 10 v.2.toNatClampNeg), v.2 + 1))))
set_option maxHeartbeats 4000000 in
set_option maxRecDepth 100000 in
theorem wX6_image_2 {X : CX} {cy : Nat → ClassId} {q : Nat → Nat} {D : va_G} {A : Nat → Prop} {res : Int32 × OS}  (C : Cx X cX6_image RX6 2 D (gty cy) A 0 0 0) (hR : Rt X (some .int) D (gty cy) A 0 0 (eI (wX6 cy q res.2) res.1)) (kR2 : OS × Int32 → Int32 × OS) (kO2 : OS × Int32 → Prop) (hk2 : ∀ z, kO2 z → kR2 z = res → At X D A 2 0 0 2 [(0, .ref (q 41)), (1, .int z.2)] [] (wX6 cy q z.1)) (v : OS × Int32) (ok : kX6_image_2  kO2 v) (h : bX6_image_2  kR2 v = res) : At X D A 2 0 0 2 [(0, .ref (q 41)), (1, .int v.2)] [] (wX6 cy q v.1) := by
  unfold bX6_image_2 at h
  unfold kX6_image_2 at ok
  refine r_iload_n C 1 (dall tdX6_image 2 rfl) rfl ?_
  refine r_bipush (v := 15) C (dall tdX6_image 3 rfl) (by decide) ?_
  refine r_icmp_ge (tgt := 26) C (dall tdX6_image 4 rfl) (by decide) (fun c4 => ?_) (fun c4 => ?_)
  · have h := (if_pos c4).symm.trans h
    have ok := ok.1 c4
    refine r_iconst (v := 0) C (dall tdX6_image 15 rfl) (by decide) ?_
    refine r_istore_n (lv' := [(1, .int 0), (0, .ref (q 41))]) C (dall tdX6_image 16 rfl) (by decide) rfl ?_
    refine r_pick [1, 0] rfl ?_
    exact lX6_image_28  C hR  fu _ ok h
  · have h := (if_neg c4).symm.trans h
    have ok := ok.2 c4
    refine r_aload_n C 0 (dall tdX6_image 5 rfl) rfl ?_
    refine r_get C 0 kw_X6 rfl rfl (by decide) kf_X6_42 rfl rfl (dall tdX6_image 6 rfl) ?_
    refine r_iload_n C 1 (dall tdX6_image 7 rfl) rfl ?_
    refine r_aload_n C 0 (dall tdX6_image 8 rfl) rfl ?_
    refine r_get C 0 kw_X6 rfl rfl (by decide) kf_X6_29 rfl rfl (dall tdX6_image 9 rfl) ?_
    refine r_iload_n C 1 (dall tdX6_image 10 rfl) rfl ?_
    obtain ⟨o5, ok⟩ := ok
    refine r_iald C 4 0 rfl rfl o5 (dall tdX6_image 11 rfl) ?_
    obtain ⟨o6, ok⟩ := ok
    refine r_iast C 8 0 rfl rfl o6 (pa_X6_this_30 cy q v.1 v.2.toNatClampNeg (v.1.2.2.1 10 v.2.toNatClampNeg)) (dall tdX6_image 12 rfl) ?_
    refine r_iinc (v := v.2 + 1) (lv' := [(1, .int (v.2 + 1)), (0, .ref (q 41))]) C 1 (dall tdX6_image 13 rfl) rfl rfl (by decide) rfl ?_
    refine r_goto (tgt := 2) C (dall tdX6_image 14 rfl) (by decide) ?_
    refine r_pick [1, 0] rfl ?_
    exact hk2 (oS v.1 30 v.2.toNatClampNeg (v.1.2.2.1 10 v.2.toNatClampNeg), v.2 + 1) ok h
set_option maxHeartbeats 4000000 in
set_option maxRecDepth 100000 in
theorem lX6_image_2 {X : CX} {cy : Nat → ClassId} {q : Nat → Nat} {D : va_G} {A : Nat → Prop} {res : Int32 × OS}  (C : Cx X cX6_image RX6 2 D (gty cy) A 0 0 0) (hR : Rt X (some .int) D (gty cy) A 0 0 (eI (wX6 cy q res.2) res.1))  (n : Nat) (v : OS × Int32) (ok : lpOk (kX6_image_2  ) n v) (h : lp (0, o0) (bX6_image_2  ) n v = res) : At X D A 2 0 0 2 [(0, .ref (q 41)), (1, .int v.2)] [] (wX6 cy q v.1) :=
  lp_rule (fun v rr_ => rr_ = res → At X D A 2 0 0 2 [(0, .ref (q 41)), (1, .int v.2)] [] (wX6 cy q v.1)) (fun kR kO hk v ok h => wX6_image_2  C hR  kR kO hk v ok h) n v ok h
def pX6_image_0  (σ : OS) : Int32 × OS := lp (0, o0) (bX6_image_2  ) fu (σ, 0)
def oX6_image_0  (σ : OS) : Prop := lpOk (kX6_image_2  ) fu (σ, 0)
set_option maxHeartbeats 4000000 in
set_option maxRecDepth 100000 in
theorem wX6_image_0 {X : CX} {cy : Nat → ClassId} {q : Nat → Nat} {D : va_G} {A : Nat → Prop} {res : Int32 × OS} (σ : OS) (C : Cx X cX6_image RX6 2 D (gty cy) A 0 0 0) (hR : Rt X (some .int) D (gty cy) A 0 0 (eI (wX6 cy q res.2) res.1))  (ok : oX6_image_0  σ) (h : pX6_image_0  σ = res) : At X D A 2 0 0 0 [(0, .ref (q 41))] [] (wX6 cy q σ) := by
  unfold pX6_image_0 at h
  unfold oX6_image_0 at ok
  refine r_iconst (v := 0) C (dall tdX6_image 0 rfl) (by decide) ?_
  refine r_istore_n (lv' := [(1, .int 0), (0, .ref (q 41))]) C (dall tdX6_image 1 rfl) (by decide) rfl ?_
  refine r_pick [1, 0] rfl ?_
  exact lX6_image_2  C hR  fu _ ok h
def fX6_image (σ : OS) : Int32 × OS := pX6_image_0  σ
def gX6_image (σ : OS) : Prop := oX6_image_0  σ
set_option maxRecDepth 100000 in
theorem zX6_image (cy : Nat → ClassId) (q : Nat → Nat)  {D : va_G} (σ : OS) (ok : gX6_image σ )  : Con yX6_image cX6_image 2 (some .int) 0 0 0 D (gty cy) [.ref (q 41)] (wX6 cy q σ) (eI (wX6 cy q (fX6_image σ ).2) (fX6_image σ ).1) :=
  Con.of (own := RX6) (by decide +kernel) rfl (Nat.le_of_ble_eq_true rfl) (Nat.zero_le _) (fun X A C hR _ => (wX6_image_0 σ C hR  ok rfl))
theorem mv_X6_image : MV yX6_image cX6_image 2 (some .int) RX6 0 := ⟨ki_X6_image, kv_X6_image, kn_X6, kc_X6_image, by decide +kernel⟩
def tbX6_back : List (Nat × Instr × Nat) := [(0, .aload_n 0, 1), (1, .getfield 48, 3), (4, .iconst (-1), 1), (5, .if_icmp .ne 6, 3), (8, .bipush (-3), 2), (10, .ireturn, 1), (11, .iconst 0, 1), (12, .istore_n 1, 1), (13, .iload_n 1, 1), (14, .bipush 15, 2), (16, .if_icmp .ge 21, 3), (19, .aload_n 0, 1), (20, .getfield 29, 3), (23, .iload_n 1, 1), (24, .aload_n 0, 1), (25, .getfield 42, 3), (28, .iload_n 1, 1), (29, .iaload, 1), (30, .iastore, 1), (31, .iinc 1 1, 3), (34, .goto (-21), 3), (37, .iconst 0, 1), (38, .istore_n 1, 1), (39, .iload_n 1, 1), (40, .iconst 5, 1), (41, .if_icmp .ge 21, 3), (44, .aload_n 0, 1), (45, .getfield 32, 3), (48, .iload_n 1, 1), (49, .aload_n 0, 1), (50, .getfield 45, 3), (53, .iload_n 1, 1), (54, .laload, 1), (55, .lastore, 1), (56, .iinc 1 1, 3), (59, .goto (-20), 3), (62, .aload_n 0, 1), (63, .aload_n 0, 1), (64, .getfield 48, 3), (67, .putfield 71, 3), (70, .aload_n 0, 1), (71, .aload_n 0, 1), (72, .getfield 451, 3), (75, .putfield 115, 3), (78, .aload_n 0, 1), (79, .aload_n 0, 1), (80, .getfield 454, 3), (83, .putfield 358, 3), (86, .aload_n 0, 1), (87, .aload_n 0, 1), (88, .getfield 457, 3), (91, .putfield 118, 3), (94, .aload_n 0, 1), (95, .aload_n 0, 1), (96, .getfield 460, 3), (99, .putfield 25, 3), (102, .aload_n 0, 1), (103, .getfield 71, 3), (106, .ireturn, 1)]
theorem tdX6_back : tbX6_back.all (fun q => decide (decode cX6_back q.1 = .ok q.2)) = true := by decide +kernel
def bX6_back_39   (kR39 : OS × Int32 → Int32 × OS) (v : OS × Int32) : Int32 × OS := if 5 ≤ v.2 then ((oL (oI (oI (oI (oI v.1 12 (v.1.1 32)) 7 ((oI v.1 12 (v.1.1 32)).1 33)) 8 ((oI (oI v.1 12 (v.1.1 32)) 7 ((oI v.1 12 (v.1.1 32)).1 33)).1 34)) 4 ((oI (oI (oI v.1 12 (v.1.1 32)) 7 ((oI v.1 12 (v.1.1 32)).1 33)) 8 ((oI (oI v.1 12 (v.1.1 32)) 7 ((oI v.1 12 (v.1.1 32)).1 33)).1 34)).1 35)) 9 ((oI (oI (oI (oI v.1 12 (v.1.1 32)) 7 ((oI v.1 12 (v.1.1 32)).1 33)) 8 ((oI (oI v.1 12 (v.1.1 32)) 7 ((oI v.1 12 (v.1.1 32)).1 33)).1 34)) 4 ((oI (oI (oI v.1 12 (v.1.1 32)) 7 ((oI v.1 12 (v.1.1 32)).1 33)) 8 ((oI (oI v.1 12 (v.1.1 32)) 7 ((oI v.1 12 (v.1.1 32)).1 33)).1 34)).1 35)).2.1 36)).1 12, oL (oI (oI (oI (oI v.1 12 (v.1.1 32)) 7 ((oI v.1 12 (v.1.1 32)).1 33)) 8 ((oI (oI v.1 12 (v.1.1 32)) 7 ((oI v.1 12 (v.1.1 32)).1 33)).1 34)) 4 ((oI (oI (oI v.1 12 (v.1.1 32)) 7 ((oI v.1 12 (v.1.1 32)).1 33)) 8 ((oI (oI v.1 12 (v.1.1 32)) 7 ((oI v.1 12 (v.1.1 32)).1 33)).1 34)).1 35)) 9 ((oI (oI (oI (oI v.1 12 (v.1.1 32)) 7 ((oI v.1 12 (v.1.1 32)).1 33)) 8 ((oI (oI v.1 12 (v.1.1 32)) 7 ((oI v.1 12 (v.1.1 32)).1 33)).1 34)) 4 ((oI (oI (oI v.1 12 (v.1.1 32)) 7 ((oI v.1 12 (v.1.1 32)).1 33)) 8 ((oI (oI v.1 12 (v.1.1 32)) 7 ((oI v.1 12 (v.1.1 32)).1 33)).1 34)).1 35)).2.1 36)) else kR39 (oT v.1 11 v.2.toNatClampNeg (v.1.2.2.2 31 v.2.toNatClampNeg), v.2 + 1)
def kX6_back_39   (kO39 : OS × Int32 → Prop) (v : OS × Int32) : Prop := (5 ≤ v.2 → True) ∧ (¬ (5 ≤ v.2) → (vp_in v.2 5) ∧ ((vp_in v.2 5) ∧ (kO39 (oT v.1 11 v.2.toNatClampNeg (v.1.2.2.2 31 v.2.toNatClampNeg), v.2 + 1))))
set_option maxHeartbeats 4000000 in
set_option maxRecDepth 100000 in
theorem wX6_back_39 {X : CX} {cy : Nat → ClassId} {q : Nat → Nat} {D : va_G} {A : Nat → Prop} {res : Int32 × OS}  (C : Cx X cX6_back RX6 2 D (gty cy) A 0 0 0) (hR : Rt X (some .int) D (gty cy) A 0 0 (eI (wX6 cy q res.2) res.1)) (kR39 : OS × Int32 → Int32 × OS) (kO39 : OS × Int32 → Prop) (hk39 : ∀ z, kO39 z → kR39 z = res → At X D A 2 0 0 39 [(0, .ref (q 41)), (1, .int z.2)] [] (wX6 cy q z.1)) (v : OS × Int32) (ok : kX6_back_39  kO39 v) (h : bX6_back_39  kR39 v = res) : At X D A 2 0 0 39 [(0, .ref (q 41)), (1, .int v.2)] [] (wX6 cy q v.1) := by
  unfold bX6_back_39 at h
  unfold kX6_back_39 at ok
  refine r_iload_n C 1 (dall tdX6_back 23 rfl) rfl ?_
  refine r_iconst (v := 5) C (dall tdX6_back 24 rfl) (by decide) ?_
  refine r_icmp_ge (tgt := 62) C (dall tdX6_back 25 rfl) (by decide) (fun c1 => ?_) (fun c1 => ?_)
  · have h := (if_pos c1).symm.trans h
    have ok := ok.1 c1
    refine r_aload_n C 0 (dall tdX6_back 36 rfl) rfl ?_
    refine r_aload_n C 0 (dall tdX6_back 37 rfl) rfl ?_
    refine r_get C 0 kw_X6 rfl rfl (by decide) kf_X6_48 rfl rfl (dall tdX6_back 38 rfl) ?_
    refine r_put C 0 kw_X6 tyX6_ok nmX6 rfl rfl (by decide) kf_X6_71 rfl rfl rfl rfl rfl (Nat.le_of_ble_eq_true rfl) (pu_X6_this_12 cy q v.1 (v.1.1 32)) (dall tdX6_back 39 rfl) ?_
    refine r_aload_n C 0 (dall tdX6_back 40 rfl) rfl ?_
    refine r_aload_n C 0 (dall tdX6_back 41 rfl) rfl ?_
    refine r_get C 0 kw_X6 rfl rfl (by decide) kf_X6_451 rfl rfl (dall tdX6_back 42 rfl) ?_
    refine r_put C 0 kw_X6 tyX6_ok nmX6 rfl rfl (by decide) kf_X6_115 rfl rfl rfl rfl rfl (Nat.le_of_ble_eq_true rfl) (pu_X6_this_7 cy q (oI v.1 12 (v.1.1 32)) ((oI v.1 12 (v.1.1 32)).1 33)) (dall tdX6_back 43 rfl) ?_
    refine r_aload_n C 0 (dall tdX6_back 44 rfl) rfl ?_
    refine r_aload_n C 0 (dall tdX6_back 45 rfl) rfl ?_
    refine r_get C 0 kw_X6 rfl rfl (by decide) kf_X6_454 rfl rfl (dall tdX6_back 46 rfl) ?_
    refine r_put C 0 kw_X6 tyX6_ok nmX6 rfl rfl (by decide) kf_X6_358 rfl rfl rfl rfl rfl (Nat.le_of_ble_eq_true rfl) (pu_X6_this_8 cy q (oI (oI v.1 12 (v.1.1 32)) 7 ((oI v.1 12 (v.1.1 32)).1 33)) ((oI (oI v.1 12 (v.1.1 32)) 7 ((oI v.1 12 (v.1.1 32)).1 33)).1 34)) (dall tdX6_back 47 rfl) ?_
    refine r_aload_n C 0 (dall tdX6_back 48 rfl) rfl ?_
    refine r_aload_n C 0 (dall tdX6_back 49 rfl) rfl ?_
    refine r_get C 0 kw_X6 rfl rfl (by decide) kf_X6_457 rfl rfl (dall tdX6_back 50 rfl) ?_
    refine r_put C 0 kw_X6 tyX6_ok nmX6 rfl rfl (by decide) kf_X6_118 rfl rfl rfl rfl rfl (Nat.le_of_ble_eq_true rfl) (pu_X6_this_4 cy q (oI (oI (oI v.1 12 (v.1.1 32)) 7 ((oI v.1 12 (v.1.1 32)).1 33)) 8 ((oI (oI v.1 12 (v.1.1 32)) 7 ((oI v.1 12 (v.1.1 32)).1 33)).1 34)) ((oI (oI (oI v.1 12 (v.1.1 32)) 7 ((oI v.1 12 (v.1.1 32)).1 33)) 8 ((oI (oI v.1 12 (v.1.1 32)) 7 ((oI v.1 12 (v.1.1 32)).1 33)).1 34)).1 35)) (dall tdX6_back 51 rfl) ?_
    refine r_aload_n C 0 (dall tdX6_back 52 rfl) rfl ?_
    refine r_aload_n C 0 (dall tdX6_back 53 rfl) rfl ?_
    refine r_get C 0 kw_X6 rfl rfl (by decide) kf_X6_460 rfl rfl (dall tdX6_back 54 rfl) ?_
    refine r_put C 0 kw_X6 tyX6_ok nmX6 rfl rfl (by decide) kf_X6_25 rfl rfl rfl rfl rfl (Nat.le_of_ble_eq_true rfl) (pu_X6_this_9 cy q (oI (oI (oI (oI v.1 12 (v.1.1 32)) 7 ((oI v.1 12 (v.1.1 32)).1 33)) 8 ((oI (oI v.1 12 (v.1.1 32)) 7 ((oI v.1 12 (v.1.1 32)).1 33)).1 34)) 4 ((oI (oI (oI v.1 12 (v.1.1 32)) 7 ((oI v.1 12 (v.1.1 32)).1 33)) 8 ((oI (oI v.1 12 (v.1.1 32)) 7 ((oI v.1 12 (v.1.1 32)).1 33)).1 34)).1 35)) ((oI (oI (oI (oI v.1 12 (v.1.1 32)) 7 ((oI v.1 12 (v.1.1 32)).1 33)) 8 ((oI (oI v.1 12 (v.1.1 32)) 7 ((oI v.1 12 (v.1.1 32)).1 33)).1 34)) 4 ((oI (oI (oI v.1 12 (v.1.1 32)) 7 ((oI v.1 12 (v.1.1 32)).1 33)) 8 ((oI (oI v.1 12 (v.1.1 32)) 7 ((oI v.1 12 (v.1.1 32)).1 33)).1 34)).1 35)).2.1 36)) (dall tdX6_back 55 rfl) ?_
    refine r_aload_n C 0 (dall tdX6_back 56 rfl) rfl ?_
    refine r_get C 0 kw_X6 rfl rfl (by decide) kf_X6_71 rfl rfl (dall tdX6_back 57 rfl) ?_
    exact r_iret C hR (dall tdX6_back 58 rfl) (by subst h; exact ⟨rfl, rfl⟩)
  · have h := (if_neg c1).symm.trans h
    have ok := ok.2 c1
    refine r_aload_n C 0 (dall tdX6_back 26 rfl) rfl ?_
    refine r_get C 0 kw_X6 rfl rfl (by decide) kf_X6_32 rfl rfl (dall tdX6_back 27 rfl) ?_
    refine r_iload_n C 1 (dall tdX6_back 28 rfl) rfl ?_
    refine r_aload_n C 0 (dall tdX6_back 29 rfl) rfl ?_
    refine r_get C 0 kw_X6 rfl rfl (by decide) kf_X6_45 rfl rfl (dall tdX6_back 30 rfl) ?_
    refine r_iload_n C 1 (dall tdX6_back 31 rfl) rfl ?_
    obtain ⟨o2, ok⟩ := ok
    refine r_lald C 9 1 rfl rfl o2 (dall tdX6_back 32 rfl) ?_
    obtain ⟨o3, ok⟩ := ok
    refine r_last C 5 1 rfl rfl o3 (pa_X6_this_11 cy q v.1 v.2.toNatClampNeg (v.1.2.2.2 31 v.2.toNatClampNeg)) (dall tdX6_back 33 rfl) ?_
    refine r_iinc (v := v.2 + 1) (lv' := [(1, .int (v.2 + 1)), (0, .ref (q 41))]) C 1 (dall tdX6_back 34 rfl) rfl rfl (by decide) rfl ?_
    refine r_goto (tgt := 39) C (dall tdX6_back 35 rfl) (by decide) ?_
    refine r_pick [1, 0] rfl ?_
    exact hk39 (oT v.1 11 v.2.toNatClampNeg (v.1.2.2.2 31 v.2.toNatClampNeg), v.2 + 1) ok h
set_option maxHeartbeats 4000000 in
set_option maxRecDepth 100000 in
theorem lX6_back_39 {X : CX} {cy : Nat → ClassId} {q : Nat → Nat} {D : va_G} {A : Nat → Prop} {res : Int32 × OS}  (C : Cx X cX6_back RX6 2 D (gty cy) A 0 0 0) (hR : Rt X (some .int) D (gty cy) A 0 0 (eI (wX6 cy q res.2) res.1))  (n : Nat) (v : OS × Int32) (ok : lpOk (kX6_back_39  ) n v) (h : lp (0, o0) (bX6_back_39  ) n v = res) : At X D A 2 0 0 39 [(0, .ref (q 41)), (1, .int v.2)] [] (wX6 cy q v.1) :=
  lp_rule (fun v rr_ => rr_ = res → At X D A 2 0 0 39 [(0, .ref (q 41)), (1, .int v.2)] [] (wX6 cy q v.1)) (fun kR kO hk v ok h => wX6_back_39  C hR  kR kO hk v ok h) n v ok h
def bX6_back_13   (kR13 : OS × Int32 → Int32 × OS) (v : OS × Int32) : Int32 × OS := if 15 ≤ v.2 then lp (0, o0) (bX6_back_39  ) fu (v.1, 0) else kR13 (oS v.1 10 v.2.toNatClampNeg (v.1.2.2.1 30 v.2.toNatClampNeg), v.2 + 1)
def kX6_back_13   (kO13 : OS × Int32 → Prop) (v : OS × Int32) : Prop := (15 ≤ v.2 → lpOk (kX6_back_39  ) fu (v.1, 0)) ∧ (¬ (15 ≤ v.2) → (vp_in v.2 15) ∧ ((vp_in v.2 15) ∧ (kO13 (oS v.1 10 v.2.toNatClampNeg (v.1.2.2.1 30 v.2.toNatClampNeg), v.2 + 1))))
set_option maxHeartbeats 4000000 in
set_option maxRecDepth 100000 in
theorem wX6_back_13 {X : CX} {cy : Nat → ClassId} {q : Nat → Nat} {D : va_G} {A : Nat → Prop} {res : Int32 × OS}  (C : Cx X cX6_back RX6 2 D (gty cy) A 0 0 0) (hR : Rt X (some .int) D (gty cy) A 0 0 (eI (wX6 cy q res.2) res.1)) (kR13 : OS × Int32 → Int32 × OS) (kO13 : OS × Int32 → Prop) (hk13 : ∀ z, kO13 z → kR13 z = res → At X D A 2 0 0 13 [(0, .ref (q 41)), (1, .int z.2)] [] (wX6 cy q z.1)) (v : OS × Int32) (ok : kX6_back_13  kO13 v) (h : bX6_back_13  kR13 v = res) : At X D A 2 0 0 13 [(0, .ref (q 41)), (1, .int v.2)] [] (wX6 cy q v.1) := by
  unfold bX6_back_13 at h
  unfold kX6_back_13 at ok
  refine r_iload_n C 1 (dall tdX6_back 8 rfl) rfl ?_
  refine r_bipush (v := 15) C (dall tdX6_back 9 rfl) (by decide) ?_
  refine r_icmp_ge (tgt := 37) C (dall tdX6_back 10 rfl) (by decide) (fun c4 => ?_) (fun c4 => ?_)
  · have h := (if_pos c4).symm.trans h
    have ok := ok.1 c4
    refine r_iconst (v := 0) C (dall tdX6_back 21 rfl) (by decide) ?_
    refine r_istore_n (lv' := [(1, .int 0), (0, .ref (q 41))]) C (dall tdX6_back 22 rfl) (by decide) rfl ?_
    refine r_pick [1, 0] rfl ?_
    exact lX6_back_39  C hR  fu _ ok h
  · have h := (if_neg c4).symm.trans h
    have ok := ok.2 c4
    refine r_aload_n C 0 (dall tdX6_back 11 rfl) rfl ?_
    refine r_get C 0 kw_X6 rfl rfl (by decide) kf_X6_29 rfl rfl (dall tdX6_back 12 rfl) ?_
    refine r_iload_n C 1 (dall tdX6_back 13 rfl) rfl ?_
    refine r_aload_n C 0 (dall tdX6_back 14 rfl) rfl ?_
    refine r_get C 0 kw_X6 rfl rfl (by decide) kf_X6_42 rfl rfl (dall tdX6_back 15 rfl) ?_
    refine r_iload_n C 1 (dall tdX6_back 16 rfl) rfl ?_
    obtain ⟨o5, ok⟩ := ok
    refine r_iald C 8 0 rfl rfl o5 (dall tdX6_back 17 rfl) ?_
    obtain ⟨o6, ok⟩ := ok
    refine r_iast C 4 0 rfl rfl o6 (pa_X6_this_10 cy q v.1 v.2.toNatClampNeg (v.1.2.2.1 30 v.2.toNatClampNeg)) (dall tdX6_back 18 rfl) ?_
    refine r_iinc (v := v.2 + 1) (lv' := [(1, .int (v.2 + 1)), (0, .ref (q 41))]) C 1 (dall tdX6_back 19 rfl) rfl rfl (by decide) rfl ?_
    refine r_goto (tgt := 13) C (dall tdX6_back 20 rfl) (by decide) ?_
    refine r_pick [1, 0] rfl ?_
    exact hk13 (oS v.1 10 v.2.toNatClampNeg (v.1.2.2.1 30 v.2.toNatClampNeg), v.2 + 1) ok h
set_option maxHeartbeats 4000000 in
set_option maxRecDepth 100000 in
theorem lX6_back_13 {X : CX} {cy : Nat → ClassId} {q : Nat → Nat} {D : va_G} {A : Nat → Prop} {res : Int32 × OS}  (C : Cx X cX6_back RX6 2 D (gty cy) A 0 0 0) (hR : Rt X (some .int) D (gty cy) A 0 0 (eI (wX6 cy q res.2) res.1))  (n : Nat) (v : OS × Int32) (ok : lpOk (kX6_back_13  ) n v) (h : lp (0, o0) (bX6_back_13  ) n v = res) : At X D A 2 0 0 13 [(0, .ref (q 41)), (1, .int v.2)] [] (wX6 cy q v.1) :=
  lp_rule (fun v rr_ => rr_ = res → At X D A 2 0 0 13 [(0, .ref (q 41)), (1, .int v.2)] [] (wX6 cy q v.1)) (fun kR kO hk v ok h => wX6_back_13  C hR  kR kO hk v ok h) n v ok h
def pX6_back_0  (σ : OS) : Int32 × OS := if (σ.1 32) = (-1) then ((-3), σ) else lp (0, o0) (bX6_back_13  ) fu (σ, 0)
def oX6_back_0  (σ : OS) : Prop := ((σ.1 32) = (-1) → True) ∧ (¬ ((σ.1 32) = (-1)) → lpOk (kX6_back_13  ) fu (σ, 0))
set_option maxHeartbeats 4000000 in
set_option maxRecDepth 100000 in
theorem wX6_back_0 {X : CX} {cy : Nat → ClassId} {q : Nat → Nat} {D : va_G} {A : Nat → Prop} {res : Int32 × OS} (σ : OS) (C : Cx X cX6_back RX6 2 D (gty cy) A 0 0 0) (hR : Rt X (some .int) D (gty cy) A 0 0 (eI (wX6 cy q res.2) res.1))  (ok : oX6_back_0  σ) (h : pX6_back_0  σ = res) : At X D A 2 0 0 0 [(0, .ref (q 41))] [] (wX6 cy q σ) := by
  unfold pX6_back_0 at h
  unfold oX6_back_0 at ok
  refine r_aload_n C 0 (dall tdX6_back 0 rfl) rfl ?_
  refine r_get C 0 kw_X6 rfl rfl (by decide) kf_X6_48 rfl rfl (dall tdX6_back 1 rfl) ?_
  refine r_iconst (v := -1) C (dall tdX6_back 2 rfl) (by decide) ?_
  refine r_icmp_ne (tgt := 11) C (dall tdX6_back 3 rfl) (by decide) (fun c7 => ?_) (fun c7 => ?_)
  · have h := (if_neg c7).symm.trans h
    have ok := ok.2 c7
    refine r_iconst (v := 0) C (dall tdX6_back 6 rfl) (by decide) ?_
    refine r_istore_n (lv' := [(1, .int 0), (0, .ref (q 41))]) C (dall tdX6_back 7 rfl) (by decide) rfl ?_
    refine r_pick [1, 0] rfl ?_
    exact lX6_back_13  C hR  fu _ ok h
  · have h := (if_pos c7).symm.trans h
    have ok := ok.1 c7
    refine r_bipush (v := -3) C (dall tdX6_back 4 rfl) (by decide) ?_
    exact r_iret C hR (dall tdX6_back 5 rfl) (by subst h; exact ⟨rfl, rfl⟩)
def fX6_back (σ : OS) : Int32 × OS := pX6_back_0  σ
def gX6_back (σ : OS) : Prop := oX6_back_0  σ
set_option maxRecDepth 100000 in
theorem zX6_back (cy : Nat → ClassId) (q : Nat → Nat)  {D : va_G} (σ : OS) (ok : gX6_back σ )  : Con yX6_back cX6_back 2 (some .int) 0 0 0 D (gty cy) [.ref (q 41)] (wX6 cy q σ) (eI (wX6 cy q (fX6_back σ ).2) (fX6_back σ ).1) :=
  Con.of (own := RX6) (by decide +kernel) rfl (Nat.le_of_ble_eq_true rfl) (Nat.zero_le _) (fun X A C hR _ => (wX6_back_0 σ C hR  ok rfl))
theorem mv_X6_back : MV yX6_back cX6_back 2 (some .int) RX6 0 := ⟨ki_X6_back, kv_X6_back, kn_X6, kc_X6_back, by decide +kernel⟩
def tbX6_count : List (Nat × Instr × Nat) := [(0, .iload_n 1, 1), (1, .i2l, 1), (2, .lconst 0, 1), (3, .ldc2_w 121, 3), (6, .invokestatic 74, 3), (9, .ifCond .ne 6, 3), (12, .bipush (-2), 2), (14, .ireturn, 1), (15, .iload_n 1, 1), (16, .ifCond .ne 10, 3), (19, .aload_n 0, 1), (20, .getfield 71, 3), (23, .goto 58, 3), (26, .iload_n 1, 1), (27, .iconst 1, 1), (28, .if_icmp .ne 13, 3), (31, .aload_n 0, 1), (32, .invokevirtual 80, 3), (35, .invokestatic 138, 3), (38, .goto 43, 3), (41, .iload_n 1, 1), (42, .iconst 2, 1), (43, .if_icmp .ne 10, 3), (46, .aload_n 0, 1), (47, .getfield 358, 3), (50, .goto 31, 3), (53, .iload_n 1, 1), (54, .iconst 3, 1), (55, .if_icmp .ne 10, 3), (58, .aload_n 0, 1), (59, .getfield 68, 3), (62, .goto 19, 3), (65, .iload_n 1, 1), (66, .iconst 4, 1), (67, .if_icmp .ne 10, 3), (70, .aload_n 0, 1), (71, .getfield 150, 3), (74, .goto 7, 3), (77, .aload_n 0, 1), (78, .getfield 118, 3), (81, .ireturn, 1)]
theorem tdX6_count : tbX6_count.all (fun q => decide (decode cX6_count q.1 = .ok q.2)) = true := by decide +kernel
def pX6_count_0  (σ : OS) (a1_ : Int32) : Int32 := if (fX6_in a1_.toInt64 0 (5)) = 0 then (-2) else if a1_ = 0 then σ.1 12 else if a1_ = 1 then fX6_bitsOf (fX6_putAll σ) else if a1_ = 2 then σ.1 8 else if a1_ = 3 then σ.1 3 else if a1_ = 4 then σ.1 6 else σ.1 4
def oX6_count_0  (σ : OS) (a1_ : Int32) : Prop := ((fX6_in a1_.toInt64 0 (5)) = 0 → True) ∧ (¬ ((fX6_in a1_.toInt64 0 (5)) = 0) → (a1_ = 0 → True) ∧ (¬ (a1_ = 0) → (a1_ = 1 → (gX6_putAll σ ) ∧ (gX6_bitsOf (fX6_putAll σ))) ∧ (¬ (a1_ = 1) → True)))
set_option maxHeartbeats 4000000 in
set_option maxRecDepth 100000 in
theorem wX6_count_0 {X : CX} {cy : Nat → ClassId} {q : Nat → Nat} {D : va_G} {A : Nat → Prop} {res : Int32} (σ : OS) (a1_ : Int32) (C : Cx X cX6_count RX6 2 D (gty cy) A 1 0 0) (hR : Rt X (some .int) D (gty cy) A 0 0 (eI (wX6 cy q σ) res))  (ok : oX6_count_0  σ a1_) (h : pX6_count_0  σ a1_ = res) : At X D A 2 0 0 0 [(0, .ref (q 41)), (1, .int a1_)] [] (wX6 cy q σ) := by
  unfold pX6_count_0 at h
  unfold oX6_count_0 at ok
  refine r_iload_n C 1 (dall tdX6_count 0 rfl) rfl ?_
  refine r_i2l C (dall tdX6_count 1 rfl) ?_
  refine r_lconst (v := 0) C (dall tdX6_count 2 rfl) (by decide) ?_
  refine r_ldc2 C kk_X6_121 (dall tdX6_count 3 rfl) ?_
  refine r_s0I (as := [.long a1_.toInt64, .long 0, .long (5)]) C (zX6_in a1_.toInt64 0 (5) ) ms_X6_in km_X6_74 (by decide) (by decide) ⟨Nat.le_refl _, Nat.le_refl _⟩ rfl rfl (Nat.le_of_ble_eq_true rfl) (dall tdX6_count 4 rfl) ?_
  refine r_if_ne (tgt := 15) C (dall tdX6_count 5 rfl) (by decide) (fun c1 => ?_) (fun c1 => ?_)
  · have h := (if_neg c1).symm.trans h
    have ok := ok.2 c1
    refine r_iload_n C 1 (dall tdX6_count 8 rfl) rfl ?_
    refine r_if_ne (tgt := 26) C (dall tdX6_count 9 rfl) (by decide) (fun c2 => ?_) (fun c2 => ?_)
    · have h := (if_neg c2).symm.trans h
      have ok := ok.2 c2
      refine r_iload_n C 1 (dall tdX6_count 13 rfl) rfl ?_
      refine r_iconst (v := 1) C (dall tdX6_count 14 rfl) (by decide) ?_
      refine r_icmp_ne (tgt := 41) C (dall tdX6_count 15 rfl) (by decide) (fun c3 => ?_) (fun c3 => ?_)
      · have h := (if_neg c3).symm.trans h
        have ok := ok.2 c3
        refine r_iload_n C 1 (dall tdX6_count 20 rfl) rfl ?_
        refine r_iconst (v := 2) C (dall tdX6_count 21 rfl) (by decide) ?_
        refine r_icmp_ne (tgt := 53) C (dall tdX6_count 22 rfl) (by decide) (fun c4 => ?_) (fun c4 => ?_)
        · have h := (if_neg c4).symm.trans h
          refine r_iload_n C 1 (dall tdX6_count 26 rfl) rfl ?_
          refine r_iconst (v := 3) C (dall tdX6_count 27 rfl) (by decide) ?_
          refine r_icmp_ne (tgt := 65) C (dall tdX6_count 28 rfl) (by decide) (fun c5 => ?_) (fun c5 => ?_)
          · have h := (if_neg c5).symm.trans h
            refine r_iload_n C 1 (dall tdX6_count 32 rfl) rfl ?_
            refine r_iconst (v := 4) C (dall tdX6_count 33 rfl) (by decide) ?_
            refine r_icmp_ne (tgt := 77) C (dall tdX6_count 34 rfl) (by decide) (fun c6 => ?_) (fun c6 => ?_)
            · have h := (if_neg c6).symm.trans h
              refine r_aload_n C 0 (dall tdX6_count 38 rfl) rfl ?_
              refine r_get C 0 kw_X6 rfl rfl (by decide) kf_X6_118 rfl rfl (dall tdX6_count 39 rfl) ?_
              exact r_iret C hR (dall tdX6_count 40 rfl) (by subst h; exact ⟨rfl, rfl⟩)
            · have h := (if_pos c6).symm.trans h
              refine r_aload_n C 0 (dall tdX6_count 35 rfl) rfl ?_
              refine r_get C 0 kw_X6 rfl rfl (by decide) kf_X6_150 rfl rfl (dall tdX6_count 36 rfl) ?_
              refine r_goto (tgt := 81) C (dall tdX6_count 37 rfl) (by decide) ?_
              exact r_iret C hR (dall tdX6_count 40 rfl) (by subst h; exact ⟨rfl, rfl⟩)
          · have h := (if_pos c5).symm.trans h
            refine r_aload_n C 0 (dall tdX6_count 29 rfl) rfl ?_
            refine r_get C 0 kw_X6 rfl rfl (by decide) kf_X6_68 rfl rfl (dall tdX6_count 30 rfl) ?_
            refine r_goto (tgt := 81) C (dall tdX6_count 31 rfl) (by decide) ?_
            exact r_iret C hR (dall tdX6_count 40 rfl) (by subst h; exact ⟨rfl, rfl⟩)
        · have h := (if_pos c4).symm.trans h
          refine r_aload_n C 0 (dall tdX6_count 23 rfl) rfl ?_
          refine r_get C 0 kw_X6 rfl rfl (by decide) kf_X6_358 rfl rfl (dall tdX6_count 24 rfl) ?_
          refine r_goto (tgt := 81) C (dall tdX6_count 25 rfl) (by decide) ?_
          exact r_iret C hR (dall tdX6_count 40 rfl) (by subst h; exact ⟨rfl, rfl⟩)
      · have h := (if_pos c3).symm.trans h
        have ok := ok.1 c3
        refine r_aload_n C 0 (dall tdX6_count 16 rfl) rfl ?_
        obtain ⟨o7, ok⟩ := ok
        refine r_vL (as := []) C (zX6_putAll cy q σ  o7) mv_X6_putAll km_X6_80 (by decide) (by decide) ⟨Nat.le_refl _, Nat.le_refl _⟩ rfl rfl rfl rfl (Nat.le_of_ble_eq_true rfl) (dall tdX6_count 17 rfl) ?_
        have o8 := ok
        refine r_s0I (as := [.long (fX6_putAll σ)]) C (zX6_bitsOf (fX6_putAll σ) o8) ms_X6_bitsOf km_X6_138 (by decide) (by decide) ⟨Nat.le_refl _, Nat.le_refl _⟩ rfl rfl (Nat.le_of_ble_eq_true rfl) (dall tdX6_count 18 rfl) ?_
        refine r_goto (tgt := 81) C (dall tdX6_count 19 rfl) (by decide) ?_
        exact r_iret C hR (dall tdX6_count 40 rfl) (by subst h; exact ⟨rfl, rfl⟩)
    · have h := (if_pos c2).symm.trans h
      have ok := ok.1 c2
      refine r_aload_n C 0 (dall tdX6_count 10 rfl) rfl ?_
      refine r_get C 0 kw_X6 rfl rfl (by decide) kf_X6_71 rfl rfl (dall tdX6_count 11 rfl) ?_
      refine r_goto (tgt := 81) C (dall tdX6_count 12 rfl) (by decide) ?_
      exact r_iret C hR (dall tdX6_count 40 rfl) (by subst h; exact ⟨rfl, rfl⟩)
  · have h := (if_pos c1).symm.trans h
    have ok := ok.1 c1
    refine r_bipush (v := -2) C (dall tdX6_count 6 rfl) (by decide) ?_
    exact r_iret C hR (dall tdX6_count 7 rfl) (by subst h; exact ⟨rfl, rfl⟩)
def fX6_count (σ : OS) (a1_ : Int32) : Int32 := pX6_count_0  σ a1_
def gX6_count (σ : OS) (a1_ : Int32) : Prop := oX6_count_0  σ a1_
set_option maxRecDepth 100000 in
theorem zX6_count (cy : Nat → ClassId) (q : Nat → Nat)  {D : va_G} (σ : OS) (a1_ : Int32) (ok : gX6_count σ a1_)  : Con yX6_count cX6_count 2 (some .int) 1 0 0 D (gty cy) [.ref (q 41), .int a1_] (wX6 cy q σ) (eI (wX6 cy q σ) (fX6_count σ a1_)) :=
  Con.of (own := RX6) (by decide +kernel) rfl (Nat.le_of_ble_eq_true rfl) (Nat.zero_le _) (fun X A C hR _ => (wX6_count_0 σ a1_ C hR  ok rfl))
theorem mv_X6_count : MV yX6_count cX6_count 2 (some .int) RX6 1 := ⟨ki_X6_count, kv_X6_count, kn_X6, kc_X6_count, by decide +kernel⟩
def tbX6_cell : List (Nat × Instr × Nat) := [(0, .iload_n 1, 1), (1, .invokestatic 434, 3), (4, .ifCond .ne 6, 3), (7, .bipush (-2), 2), (9, .ireturn, 1), (10, .aload_n 0, 1), (11, .getfield 51, 3), (14, .iload_n 1, 1), (15, .baload, 1), (16, .ifCond .ne 6, 3), (19, .bipush (-11), 2), (21, .ireturn, 1), (22, .iload_n 2, 1), (23, .i2l, 1), (24, .lconst 0, 1), (25, .aload_n 0, 1), (26, .getfield 58, 3), (29, .iload_n 1, 1), (30, .iaload, 1), (31, .iconst 1, 1), (32, .isub, 1), (33, .i2l, 1), (34, .invokestatic 74, 3), (37, .ifCond .ne 6, 3), (40, .bipush (-12), 2), (42, .ireturn, 1), (43, .aload_n 0, 1), (44, .getfield 61, 3), (47, .bipush 40, 2), (49, .iload_n 1, 1), (50, .imul, 1), (51, .iload_n 2, 1), (52, .iadd, 1), (53, .aload_n 0, 1), (54, .getfield 55, 3), (57, .iload_n 1, 1), (58, .iaload, 1), (59, .ifCond .ne 8, 3), (62, .iload_n 3, 1), (63, .i2b, 1), (64, .goto 19, 3), (67, .aload_n 0, 1), (68, .getfield 55, 3), (71, .iload_n 1, 1), (72, .iaload, 1), (73, .iconst 1, 1), (74, .if_icmp .ne 8, 3), (77, .iload_n 3, 1), (78, .i2s, 1), (79, .goto 4, 3), (82, .iload_n 3, 1), (83, .iastore, 1), (84, .iconst 1, 1), (85, .ireturn, 1)]
theorem tdX6_cell : tbX6_cell.all (fun q => decide (decode cX6_cell q.1 = .ok q.2)) = true := by decide +kernel
def pX6_cell_83  (σ : OS) (b0_ : Int32) (b1_ : Int32) : Int32 × OS := (1, oS σ 40 b1_.toNatClampNeg b0_)
def oX6_cell_83  (σ : OS) (b0_ : Int32) (b1_ : Int32) : Prop := vp_in b1_ 160
set_option maxHeartbeats 4000000 in
set_option maxRecDepth 100000 in
theorem wX6_cell_83 {X : CX} {cy : Nat → ClassId} {q : Nat → Nat} {D : va_G} {A : Nat → Prop} {res : Int32 × OS} (σ : OS) (b0_ : Int32) (b1_ : Int32) (C : Cx X cX6_cell RX6 4 D (gty cy) A 2 0 0) (hR : Rt X (some .int) D (gty cy) A 0 0 (eI (wX6 cy q res.2) res.1))  (ok : oX6_cell_83  σ b0_ b1_) (h : pX6_cell_83  σ b0_ b1_ = res) : At X D A 4 0 0 83 [] [.int b0_, .int b1_, .ref (q 40)] (wX6 cy q σ) := by
  unfold pX6_cell_83 at h
  unfold oX6_cell_83 at ok
  have o1 := ok
  refine r_iast C 13 0 rfl rfl o1 (pa_X6_this_40 cy q σ b1_.toNatClampNeg b0_) (dall tdX6_cell 51 rfl) ?_
  refine r_iconst (v := 1) C (dall tdX6_cell 52 rfl) (by decide) ?_
  exact r_iret C hR (dall tdX6_cell 53 rfl) (by subst h; exact ⟨rfl, rfl⟩)
def pX6_cell_0  (σ : OS) (a1_ : Int32) (a2_ : Int32) (a3_ : Int32) : Int32 × OS := if (fX6_isSheet a1_) = 0 then ((-2), σ) else if (σ.2.2.1 37 a1_.toNatClampNeg) = 0 then ((-11), σ) else if (fX6_in a2_.toInt64 0 (((σ.2.2.1 39 a1_.toNatClampNeg) - 1).toInt64)) = 0 then ((-12), σ) else if (σ.2.2.1 38 a1_.toNatClampNeg) = 0 then pX6_cell_83  σ a3_.toInt8.toInt32 ((40 * a1_) + a2_) else if (σ.2.2.1 38 a1_.toNatClampNeg) = 1 then pX6_cell_83  σ a3_.toInt16.toInt32 ((40 * a1_) + a2_) else pX6_cell_83  σ a3_ ((40 * a1_) + a2_)
def oX6_cell_0  (σ : OS) (a1_ : Int32) (a2_ : Int32) (a3_ : Int32) : Prop := (gX6_isSheet a1_) ∧ (((fX6_isSheet a1_) = 0 → True) ∧ (¬ ((fX6_isSheet a1_) = 0) → (vp_in a1_ 4) ∧ (((σ.2.2.1 37 a1_.toNatClampNeg) = 0 → True) ∧ (¬ ((σ.2.2.1 37 a1_.toNatClampNeg) = 0) → (vp_in a1_ 4) ∧ (((fX6_in a2_.toInt64 0 (((σ.2.2.1 39 a1_.toNatClampNeg) - 1).toInt64)) = 0 → True) ∧ (¬ ((fX6_in a2_.toInt64 0 (((σ.2.2.1 39 a1_.toNatClampNeg) - 1).toInt64)) = 0) → (vp_in a1_ 4) ∧ (((σ.2.2.1 38 a1_.toNatClampNeg) = 0 → oX6_cell_83  σ a3_.toInt8.toInt32 ((40 * a1_) + a2_)) ∧ (¬ ((σ.2.2.1 38 a1_.toNatClampNeg) = 0) → (vp_in a1_ 4) ∧ (((σ.2.2.1 38 a1_.toNatClampNeg) = 1 → oX6_cell_83  σ a3_.toInt16.toInt32 ((40 * a1_) + a2_)) ∧ (¬ ((σ.2.2.1 38 a1_.toNatClampNeg) = 1) → oX6_cell_83  σ a3_ ((40 * a1_) + a2_)))))))))))
set_option maxHeartbeats 4000000 in
set_option maxRecDepth 100000 in
theorem wX6_cell_0 {X : CX} {cy : Nat → ClassId} {q : Nat → Nat} {D : va_G} {A : Nat → Prop} {res : Int32 × OS} (σ : OS) (a1_ : Int32) (a2_ : Int32) (a3_ : Int32) (C : Cx X cX6_cell RX6 4 D (gty cy) A 2 0 0) (hR : Rt X (some .int) D (gty cy) A 0 0 (eI (wX6 cy q res.2) res.1))  (ok : oX6_cell_0  σ a1_ a2_ a3_) (h : pX6_cell_0  σ a1_ a2_ a3_ = res) : At X D A 4 0 0 0 [(0, .ref (q 41)), (1, .int a1_), (2, .int a2_), (3, .int a3_)] [] (wX6 cy q σ) := by
  unfold pX6_cell_0 at h
  unfold oX6_cell_0 at ok
  refine r_iload_n C 1 (dall tdX6_cell 0 rfl) rfl ?_
  obtain ⟨o2, ok⟩ := ok
  refine r_s0I (as := [.int a1_]) C (zX6_isSheet a1_ o2) ms_X6_isSheet km_X6_434 (by decide) (by decide) ⟨Nat.le_refl _, Nat.le_refl _⟩ rfl rfl (Nat.le_of_ble_eq_true rfl) (dall tdX6_cell 1 rfl) ?_
  refine r_if_ne (tgt := 10) C (dall tdX6_cell 2 rfl) (by decide) (fun c3 => ?_) (fun c3 => ?_)
  · have h := (if_neg c3).symm.trans h
    have ok := ok.2 c3
    refine r_aload_n C 0 (dall tdX6_cell 5 rfl) rfl ?_
    refine r_get C 0 kw_X6 rfl rfl (by decide) kf_X6_51 rfl rfl (dall tdX6_cell 6 rfl) ?_
    refine r_iload_n C 1 (dall tdX6_cell 7 rfl) rfl ?_
    obtain ⟨o4, ok⟩ := ok
    refine r_zald C 10 2 rfl rfl o4 (dall tdX6_cell 8 rfl) ?_
    refine r_if_ne (tgt := 22) C (dall tdX6_cell 9 rfl) (by decide) (fun c5 => ?_) (fun c5 => ?_)
    · have h := (if_neg c5).symm.trans h
      have ok := ok.2 c5
      refine r_iload_n C 2 (dall tdX6_cell 12 rfl) rfl ?_
      refine r_i2l C (dall tdX6_cell 13 rfl) ?_
      refine r_lconst (v := 0) C (dall tdX6_cell 14 rfl) (by decide) ?_
      refine r_aload_n C 0 (dall tdX6_cell 15 rfl) rfl ?_
      refine r_get C 0 kw_X6 rfl rfl (by decide) kf_X6_58 rfl rfl (dall tdX6_cell 16 rfl) ?_
      refine r_iload_n C 1 (dall tdX6_cell 17 rfl) rfl ?_
      obtain ⟨o6, ok⟩ := ok
      refine r_iald C 12 0 rfl rfl o6 (dall tdX6_cell 18 rfl) ?_
      refine r_iconst (v := 1) C (dall tdX6_cell 19 rfl) (by decide) ?_
      refine r_isub C (dall tdX6_cell 20 rfl) ?_
      refine r_i2l C (dall tdX6_cell 21 rfl) ?_
      refine r_s0I (as := [.long a2_.toInt64, .long 0, .long (((σ.2.2.1 39 a1_.toNatClampNeg) - 1).toInt64)]) C (zX6_in a2_.toInt64 0 (((σ.2.2.1 39 a1_.toNatClampNeg) - 1).toInt64) ) ms_X6_in km_X6_74 (by decide) (by decide) ⟨Nat.le_refl _, Nat.le_refl _⟩ rfl rfl (Nat.le_of_ble_eq_true rfl) (dall tdX6_cell 22 rfl) ?_
      refine r_if_ne (tgt := 43) C (dall tdX6_cell 23 rfl) (by decide) (fun c7 => ?_) (fun c7 => ?_)
      · have h := (if_neg c7).symm.trans h
        have ok := ok.2 c7
        refine r_aload_n C 0 (dall tdX6_cell 26 rfl) rfl ?_
        refine r_get C 0 kw_X6 rfl rfl (by decide) kf_X6_61 rfl rfl (dall tdX6_cell 27 rfl) ?_
        refine r_bipush (v := 40) C (dall tdX6_cell 28 rfl) (by decide) ?_
        refine r_iload_n C 1 (dall tdX6_cell 29 rfl) rfl ?_
        refine r_imul C (dall tdX6_cell 30 rfl) ?_
        refine r_iload_n C 2 (dall tdX6_cell 31 rfl) rfl ?_
        refine r_iadd C (dall tdX6_cell 32 rfl) ?_
        refine r_aload_n C 0 (dall tdX6_cell 33 rfl) rfl ?_
        refine r_get C 0 kw_X6 rfl rfl (by decide) kf_X6_55 rfl rfl (dall tdX6_cell 34 rfl) ?_
        refine r_iload_n C 1 (dall tdX6_cell 35 rfl) rfl ?_
        obtain ⟨o8, ok⟩ := ok
        refine r_iald C 11 0 rfl rfl o8 (dall tdX6_cell 36 rfl) ?_
        refine r_if_ne (tgt := 67) C (dall tdX6_cell 37 rfl) (by decide) (fun c9 => ?_) (fun c9 => ?_)
        · have h := (if_neg c9).symm.trans h
          have ok := ok.2 c9
          refine r_aload_n C 0 (dall tdX6_cell 41 rfl) rfl ?_
          refine r_get C 0 kw_X6 rfl rfl (by decide) kf_X6_55 rfl rfl (dall tdX6_cell 42 rfl) ?_
          refine r_iload_n C 1 (dall tdX6_cell 43 rfl) rfl ?_
          obtain ⟨o10, ok⟩ := ok
          refine r_iald C 11 0 rfl rfl o10 (dall tdX6_cell 44 rfl) ?_
          refine r_iconst (v := 1) C (dall tdX6_cell 45 rfl) (by decide) ?_
          refine r_icmp_ne (tgt := 82) C (dall tdX6_cell 46 rfl) (by decide) (fun c11 => ?_) (fun c11 => ?_)
          · have h := (if_neg c11).symm.trans h
            have ok := ok.2 c11
            refine r_iload_n C 3 (dall tdX6_cell 50 rfl) rfl ?_
            refine r_pick [] rfl ?_
            exact wX6_cell_83 σ a3_ ((40 * a1_) + a2_) C hR  ok h
          · have h := (if_pos c11).symm.trans h
            have ok := ok.1 c11
            refine r_iload_n C 3 (dall tdX6_cell 47 rfl) rfl ?_
            refine r_i2s C (dall tdX6_cell 48 rfl) ?_
            refine r_goto (tgt := 83) C (dall tdX6_cell 49 rfl) (by decide) ?_
            refine r_pick [] rfl ?_
            exact wX6_cell_83 σ a3_.toInt16.toInt32 ((40 * a1_) + a2_) C hR  ok h
        · have h := (if_pos c9).symm.trans h
          have ok := ok.1 c9
          refine r_iload_n C 3 (dall tdX6_cell 38 rfl) rfl ?_
          refine r_i2b C (dall tdX6_cell 39 rfl) ?_
          refine r_goto (tgt := 83) C (dall tdX6_cell 40 rfl) (by decide) ?_
          refine r_pick [] rfl ?_
          exact wX6_cell_83 σ a3_.toInt8.toInt32 ((40 * a1_) + a2_) C hR  ok h
      · have h := (if_pos c7).symm.trans h
        have ok := ok.1 c7
        refine r_bipush (v := -12) C (dall tdX6_cell 24 rfl) (by decide) ?_
        exact r_iret C hR (dall tdX6_cell 25 rfl) (by subst h; exact ⟨rfl, rfl⟩)
    · have h := (if_pos c5).symm.trans h
      have ok := ok.1 c5
      refine r_bipush (v := -11) C (dall tdX6_cell 10 rfl) (by decide) ?_
      exact r_iret C hR (dall tdX6_cell 11 rfl) (by subst h; exact ⟨rfl, rfl⟩)
  · have h := (if_pos c3).symm.trans h
    have ok := ok.1 c3
    refine r_bipush (v := -2) C (dall tdX6_cell 3 rfl) (by decide) ?_
    exact r_iret C hR (dall tdX6_cell 4 rfl) (by subst h; exact ⟨rfl, rfl⟩)
def fX6_cell (σ : OS) (a1_ : Int32) (a2_ : Int32) (a3_ : Int32) : Int32 × OS := pX6_cell_0  σ a1_ a2_ a3_
def gX6_cell (σ : OS) (a1_ : Int32) (a2_ : Int32) (a3_ : Int32) : Prop := oX6_cell_0  σ a1_ a2_ a3_
set_option maxRecDepth 100000 in
theorem zX6_cell (cy : Nat → ClassId) (q : Nat → Nat)  {D : va_G} (σ : OS) (a1_ : Int32) (a2_ : Int32) (a3_ : Int32) (ok : gX6_cell σ a1_ a2_ a3_)  : Con yX6_cell cX6_cell 4 (some .int) 2 0 0 D (gty cy) [.ref (q 41), .int a1_, .int a2_, .int a3_] (wX6 cy q σ) (eI (wX6 cy q (fX6_cell σ a1_ a2_ a3_).2) (fX6_cell σ a1_ a2_ a3_).1) :=
  Con.of (own := RX6) (by decide +kernel) rfl (Nat.le_of_ble_eq_true rfl) (Nat.zero_le _) (fun X A C hR _ => (wX6_cell_0 σ a1_ a2_ a3_ C hR  ok rfl))
theorem mv_X6_cell : MV yX6_cell cX6_cell 4 (some .int) RX6 3 := ⟨ki_X6_cell, kv_X6_cell, kn_X6, kc_X6_cell, by decide +kernel⟩
def tbX6_copy : List (Nat × Instr × Nat) := [(0, .iload_n 1, 1), (1, .invokestatic 434, 3), (4, .ifCond .eq 10, 3), (7, .iload_n 3, 1), (8, .invokestatic 434, 3), (11, .ifCond .ne 6, 3), (14, .bipush (-2), 2), (16, .ireturn, 1), (17, .aload_n 0, 1), (18, .getfield 51, 3), (21, .iload_n 1, 1), (22, .baload, 1), (23, .ifCond .eq 12, 3), (26, .aload_n 0, 1), (27, .getfield 51, 3), (30, .iload_n 3, 1), (31, .baload, 1), (32, .ifCond .ne 6, 3), (35, .bipush (-11), 2), (37, .ireturn, 1), (38, .aload_n 0, 1), (39, .getfield 55, 3), (42, .iload_n 1, 1), (43, .iaload, 1), (44, .aload_n 0, 1), (45, .getfield 55, 3), (48, .iload_n 3, 1), (49, .iaload, 1), (50, .if_icmp .eq 6, 3), (53, .bipush (-13), 2), (55, .ireturn, 1), (56, .iload 5, 2), (58, .ifCond .lt 39, 3), (61, .iload_n 2, 1), (62, .ifCond .lt 35, 3), (65, .iload 4, 2), (67, .ifCond .lt 30, 3), (70, .iload_n 2, 1), (71, .aload_n 0, 1), (72, .getfield 58, 3), (75, .iload_n 1, 1), (76, .iaload, 1), (77, .iload 5, 2), (79, .isub, 1), (80, .if_icmp .gt 17, 3), (83, .iload 4, 2), (85, .aload_n 0, 1), (86, .getfield 58, 3), (89, .iload_n 3, 1), (90, .iaload, 1), (91, .iload 5, 2), (93, .isub, 1), (94, .if_icmp .le 6, 3), (97, .bipush (-12), 2), (99, .ireturn, 1), (100, .iload_n 1, 1), (101, .iload_n 3, 1), (102, .if_icmp .ne 13, 3), (105, .iload_n 2, 1), (106, .iload 4, 2), (108, .if_icmp .ge 7, 3), (111, .iconst 1, 1), (112, .goto 4, 3), (115, .iconst 0, 1), (116, .istore 6, 2), (118, .iconst 0, 1), (119, .istore 7, 2), (121, .iload 7, 2), (123, .iload 5, 2), (125, .if_icmp .ge 57, 3), (128, .iload 6, 2), (130, .ifCond .eq 13, 3), (133, .iload 5, 2), (135, .iconst 1, 1), (136, .isub, 1), (137, .iload 7, 2), (139, .isub, 1), (140, .goto 5, 3), (143, .iload 7, 2), (145, .istore 8, 2), (147, .aload_n 0, 1), (148, .getfield 61, 3), (151, .bipush 40, 2), (153, .iload_n 3, 1), (154, .imul, 1), (155, .iload 4, 2), (157, .iadd, 1), (158, .iload 8, 2), (160, .iadd, 1), (161, .aload_n 0, 1), (162, .getfield 61, 3), (165, .bipush 40, 2), (167, .iload_n 1, 1), (168, .imul, 1), (169, .iload_n 2, 1), (170, .iadd, 1), (171, .iload 8, 2), (173, .iadd, 1), (174, .iaload, 1), (175, .iastore, 1), (176, .iinc 7 1, 3), (179, .goto (-58), 3), (182, .iload 5, 2), (184, .ireturn, 1)]
theorem tdX6_copy : tbX6_copy.all (fun q => decide (decode cX6_copy q.1 = .ok q.2)) = true := by decide +kernel
def pX6_copy_145 (kR121 : OS × Int32 → Int32 × OS) (σ : OS) (a1_ : Int32) (a2_ : Int32) (a3_ : Int32) (a4_ : Int32) (a5_ : Int32) (a6_ : Int32) (a7_ : Int32) (b0_ : Int32) : Int32 × OS := kR121 (oS σ 40 ((((40 * a3_) + a4_) + b0_).toNatClampNeg) (σ.2.2.1 40 (((40 * a1_) + a2_) + b0_).toNatClampNeg), a7_ + 1)
def oX6_copy_145 (kO121 : OS × Int32 → Prop) (σ : OS) (a1_ : Int32) (a2_ : Int32) (a3_ : Int32) (a4_ : Int32) (a5_ : Int32) (a6_ : Int32) (a7_ : Int32) (b0_ : Int32) : Prop := (vp_in (((40 * a1_) + a2_) + b0_) 160) ∧ ((vp_in (((40 * a3_) + a4_) + b0_) 160) ∧ (kO121 (oS σ 40 ((((40 * a3_) + a4_) + b0_).toNatClampNeg) (σ.2.2.1 40 (((40 * a1_) + a2_) + b0_).toNatClampNeg), a7_ + 1)))
set_option maxHeartbeats 4000000 in
set_option maxRecDepth 100000 in
theorem wX6_copy_145 {X : CX} {cy : Nat → ClassId} {q : Nat → Nat} {D : va_G} {A : Nat → Prop} {res : Int32 × OS} (σ : OS) (a1_ : Int32) (a2_ : Int32) (a3_ : Int32) (a4_ : Int32) (a5_ : Int32) (a6_ : Int32) (a7_ : Int32) (b0_ : Int32) (C : Cx X cX6_copy RX6 9 D (gty cy) A 2 0 0) (hR : Rt X (some .int) D (gty cy) A 0 0 (eI (wX6 cy q res.2) res.1)) (kR121 : OS × Int32 → Int32 × OS) (kO121 : OS × Int32 → Prop) (hk121 : ∀ z, kO121 z → kR121 z = res → At X D A 9 0 0 121 [(0, .ref (q 41)), (1, .int a1_), (2, .int a2_), (3, .int a3_), (4, .int a4_), (5, .int a5_), (6, .int a6_), (7, .int z.2)] [] (wX6 cy q z.1)) (ok : oX6_copy_145 kO121 σ a1_ a2_ a3_ a4_ a5_ a6_ a7_ b0_) (h : pX6_copy_145 kR121 σ a1_ a2_ a3_ a4_ a5_ a6_ a7_ b0_ = res) : At X D A 9 0 0 145 [(0, .ref (q 41)), (1, .int a1_), (2, .int a2_), (3, .int a3_), (4, .int a4_), (5, .int a5_), (6, .int a6_), (7, .int a7_)] [.int b0_] (wX6 cy q σ) := by
  unfold pX6_copy_145 at h
  unfold oX6_copy_145 at ok
  refine r_istore (lv' := [(8, .int b0_), (0, .ref (q 41)), (1, .int a1_), (2, .int a2_), (3, .int a3_), (4, .int a4_), (5, .int a5_), (6, .int a6_), (7, .int a7_)]) C (dall tdX6_copy 79 rfl) (by decide) rfl ?_
  refine r_aload_n C 1 (dall tdX6_copy 80 rfl) rfl ?_
  refine r_get C 0 kw_X6 rfl rfl (by decide) kf_X6_61 rfl rfl (dall tdX6_copy 81 rfl) ?_
  refine r_bipush (v := 40) C (dall tdX6_copy 82 rfl) (by decide) ?_
  refine r_iload_n C 4 (dall tdX6_copy 83 rfl) rfl ?_
  refine r_imul C (dall tdX6_copy 84 rfl) ?_
  refine r_iload C 5 (dall tdX6_copy 85 rfl) rfl ?_
  refine r_iadd C (dall tdX6_copy 86 rfl) ?_
  refine r_iload C 0 (dall tdX6_copy 87 rfl) rfl ?_
  refine r_iadd C (dall tdX6_copy 88 rfl) ?_
  refine r_aload_n C 1 (dall tdX6_copy 89 rfl) rfl ?_
  refine r_get C 0 kw_X6 rfl rfl (by decide) kf_X6_61 rfl rfl (dall tdX6_copy 90 rfl) ?_
  refine r_bipush (v := 40) C (dall tdX6_copy 91 rfl) (by decide) ?_
  refine r_iload_n C 2 (dall tdX6_copy 92 rfl) rfl ?_
  refine r_imul C (dall tdX6_copy 93 rfl) ?_
  refine r_iload_n C 3 (dall tdX6_copy 94 rfl) rfl ?_
  refine r_iadd C (dall tdX6_copy 95 rfl) ?_
  refine r_iload C 0 (dall tdX6_copy 96 rfl) rfl ?_
  refine r_iadd C (dall tdX6_copy 97 rfl) ?_
  obtain ⟨o1, ok⟩ := ok
  refine r_iald C 13 0 rfl rfl o1 (dall tdX6_copy 98 rfl) ?_
  obtain ⟨o2, ok⟩ := ok
  refine r_iast C 13 0 rfl rfl o2 (pa_X6_this_40 cy q σ ((((40 * a3_) + a4_) + b0_).toNatClampNeg) (σ.2.2.1 40 (((40 * a1_) + a2_) + b0_).toNatClampNeg)) (dall tdX6_copy 99 rfl) ?_
  refine r_iinc (v := a7_ + 1) (lv' := [(7, .int (a7_ + 1)), (8, .int b0_), (0, .ref (q 41)), (1, .int a1_), (2, .int a2_), (3, .int a3_), (4, .int a4_), (5, .int a5_), (6, .int a6_)]) C 8 (dall tdX6_copy 100 rfl) rfl rfl (by decide) rfl ?_
  refine r_goto (tgt := 121) C (dall tdX6_copy 101 rfl) (by decide) ?_
  refine r_pick [2, 3, 4, 5, 6, 7, 8, 0] rfl ?_
  exact hk121 (oS σ 40 ((((40 * a3_) + a4_) + b0_).toNatClampNeg) (σ.2.2.1 40 (((40 * a1_) + a2_) + b0_).toNatClampNeg), a7_ + 1) ok h
def bX6_copy_121 (a1_ : Int32) (a2_ : Int32) (a3_ : Int32) (a4_ : Int32) (a5_ : Int32) (a6_ : Int32)  (kR121 : OS × Int32 → Int32 × OS) (v : OS × Int32) : Int32 × OS := if a5_ ≤ v.2 then (a5_, v.1) else if a6_ = 0 then pX6_copy_145 kR121 v.1 a1_ a2_ a3_ a4_ a5_ a6_ v.2 v.2 else pX6_copy_145 kR121 v.1 a1_ a2_ a3_ a4_ a5_ a6_ v.2 ((a5_ - 1) - v.2)
def kX6_copy_121 (a1_ : Int32) (a2_ : Int32) (a3_ : Int32) (a4_ : Int32) (a5_ : Int32) (a6_ : Int32)  (kO121 : OS × Int32 → Prop) (v : OS × Int32) : Prop := (a5_ ≤ v.2 → True) ∧ (¬ (a5_ ≤ v.2) → (a6_ = 0 → oX6_copy_145 kO121 v.1 a1_ a2_ a3_ a4_ a5_ a6_ v.2 v.2) ∧ (¬ (a6_ = 0) → oX6_copy_145 kO121 v.1 a1_ a2_ a3_ a4_ a5_ a6_ v.2 ((a5_ - 1) - v.2)))
set_option maxHeartbeats 4000000 in
set_option maxRecDepth 100000 in
theorem wX6_copy_121 {X : CX} {cy : Nat → ClassId} {q : Nat → Nat} {D : va_G} {A : Nat → Prop} {res : Int32 × OS} (a1_ : Int32) (a2_ : Int32) (a3_ : Int32) (a4_ : Int32) (a5_ : Int32) (a6_ : Int32) (C : Cx X cX6_copy RX6 9 D (gty cy) A 2 0 0) (hR : Rt X (some .int) D (gty cy) A 0 0 (eI (wX6 cy q res.2) res.1)) (kR121 : OS × Int32 → Int32 × OS) (kO121 : OS × Int32 → Prop) (hk121 : ∀ z, kO121 z → kR121 z = res → At X D A 9 0 0 121 [(0, .ref (q 41)), (1, .int a1_), (2, .int a2_), (3, .int a3_), (4, .int a4_), (5, .int a5_), (6, .int a6_), (7, .int z.2)] [] (wX6 cy q z.1)) (v : OS × Int32) (ok : kX6_copy_121 a1_ a2_ a3_ a4_ a5_ a6_ kO121 v) (h : bX6_copy_121 a1_ a2_ a3_ a4_ a5_ a6_ kR121 v = res) : At X D A 9 0 0 121 [(0, .ref (q 41)), (1, .int a1_), (2, .int a2_), (3, .int a3_), (4, .int a4_), (5, .int a5_), (6, .int a6_), (7, .int v.2)] [] (wX6 cy q v.1) := by
  unfold bX6_copy_121 at h
  unfold kX6_copy_121 at ok
  refine r_iload C 7 (dall tdX6_copy 67 rfl) rfl ?_
  refine r_iload C 5 (dall tdX6_copy 68 rfl) rfl ?_
  refine r_icmp_ge (tgt := 182) C (dall tdX6_copy 69 rfl) (by decide) (fun c3 => ?_) (fun c3 => ?_)
  · have h := (if_pos c3).symm.trans h
    have ok := ok.1 c3
    refine r_iload C 5 (dall tdX6_copy 102 rfl) rfl ?_
    exact r_iret C hR (dall tdX6_copy 103 rfl) (by subst h; exact ⟨rfl, rfl⟩)
  · have h := (if_neg c3).symm.trans h
    have ok := ok.2 c3
    refine r_iload C 6 (dall tdX6_copy 70 rfl) rfl ?_
    refine r_if_eq (tgt := 143) C (dall tdX6_copy 71 rfl) (by decide) (fun c4 => ?_) (fun c4 => ?_)
    · have h := (if_pos c4).symm.trans h
      have ok := ok.1 c4
      refine r_iload C 7 (dall tdX6_copy 78 rfl) rfl ?_
      exact wX6_copy_145 v.1 a1_ a2_ a3_ a4_ a5_ a6_ v.2 v.2 C hR kR121 kO121 hk121 ok h
    · have h := (if_neg c4).symm.trans h
      have ok := ok.2 c4
      refine r_iload C 5 (dall tdX6_copy 72 rfl) rfl ?_
      refine r_iconst (v := 1) C (dall tdX6_copy 73 rfl) (by decide) ?_
      refine r_isub C (dall tdX6_copy 74 rfl) ?_
      refine r_iload C 7 (dall tdX6_copy 75 rfl) rfl ?_
      refine r_isub C (dall tdX6_copy 76 rfl) ?_
      refine r_goto (tgt := 145) C (dall tdX6_copy 77 rfl) (by decide) ?_
      exact wX6_copy_145 v.1 a1_ a2_ a3_ a4_ a5_ a6_ v.2 ((a5_ - 1) - v.2) C hR kR121 kO121 hk121 ok h
set_option maxHeartbeats 4000000 in
set_option maxRecDepth 100000 in
theorem lX6_copy_121 {X : CX} {cy : Nat → ClassId} {q : Nat → Nat} {D : va_G} {A : Nat → Prop} {res : Int32 × OS} (a1_ : Int32) (a2_ : Int32) (a3_ : Int32) (a4_ : Int32) (a5_ : Int32) (a6_ : Int32) (C : Cx X cX6_copy RX6 9 D (gty cy) A 2 0 0) (hR : Rt X (some .int) D (gty cy) A 0 0 (eI (wX6 cy q res.2) res.1))  (n : Nat) (v : OS × Int32) (ok : lpOk (kX6_copy_121 a1_ a2_ a3_ a4_ a5_ a6_ ) n v) (h : lp (0, o0) (bX6_copy_121 a1_ a2_ a3_ a4_ a5_ a6_ ) n v = res) : At X D A 9 0 0 121 [(0, .ref (q 41)), (1, .int a1_), (2, .int a2_), (3, .int a3_), (4, .int a4_), (5, .int a5_), (6, .int a6_), (7, .int v.2)] [] (wX6 cy q v.1) :=
  lp_rule (fun v rr_ => rr_ = res → At X D A 9 0 0 121 [(0, .ref (q 41)), (1, .int a1_), (2, .int a2_), (3, .int a3_), (4, .int a4_), (5, .int a5_), (6, .int a6_), (7, .int v.2)] [] (wX6 cy q v.1)) (fun kR kO hk v ok h => wX6_copy_121 a1_ a2_ a3_ a4_ a5_ a6_ C hR  kR kO hk v ok h) n v ok h
def pX6_copy_116  (σ : OS) (a1_ : Int32) (a2_ : Int32) (a3_ : Int32) (a4_ : Int32) (a5_ : Int32) (b0_ : Int32) : Int32 × OS := lp (0, o0) (bX6_copy_121 a1_ a2_ a3_ a4_ a5_ b0_ ) fu (σ, 0)
def oX6_copy_116  (σ : OS) (a1_ : Int32) (a2_ : Int32) (a3_ : Int32) (a4_ : Int32) (a5_ : Int32) (b0_ : Int32) : Prop := lpOk (kX6_copy_121 a1_ a2_ a3_ a4_ a5_ b0_ ) fu (σ, 0)
set_option maxHeartbeats 4000000 in
set_option maxRecDepth 100000 in
theorem wX6_copy_116 {X : CX} {cy : Nat → ClassId} {q : Nat → Nat} {D : va_G} {A : Nat → Prop} {res : Int32 × OS} (σ : OS) (a1_ : Int32) (a2_ : Int32) (a3_ : Int32) (a4_ : Int32) (a5_ : Int32) (b0_ : Int32) (C : Cx X cX6_copy RX6 9 D (gty cy) A 2 0 0) (hR : Rt X (some .int) D (gty cy) A 0 0 (eI (wX6 cy q res.2) res.1))  (ok : oX6_copy_116  σ a1_ a2_ a3_ a4_ a5_ b0_) (h : pX6_copy_116  σ a1_ a2_ a3_ a4_ a5_ b0_ = res) : At X D A 9 0 0 116 [(0, .ref (q 41)), (1, .int a1_), (2, .int a2_), (3, .int a3_), (4, .int a4_), (5, .int a5_)] [.int b0_] (wX6 cy q σ) := by
  unfold pX6_copy_116 at h
  unfold oX6_copy_116 at ok
  refine r_istore (lv' := [(6, .int b0_), (0, .ref (q 41)), (1, .int a1_), (2, .int a2_), (3, .int a3_), (4, .int a4_), (5, .int a5_)]) C (dall tdX6_copy 64 rfl) (by decide) rfl ?_
  refine r_iconst (v := 0) C (dall tdX6_copy 65 rfl) (by decide) ?_
  refine r_istore (lv' := [(7, .int 0), (6, .int b0_), (0, .ref (q 41)), (1, .int a1_), (2, .int a2_), (3, .int a3_), (4, .int a4_), (5, .int a5_)]) C (dall tdX6_copy 66 rfl) (by decide) rfl ?_
  refine r_pick [2, 3, 4, 5, 6, 7, 1, 0] rfl ?_
  exact lX6_copy_121 a1_ a2_ a3_ a4_ a5_ b0_ C hR  fu _ ok h
def pX6_copy_115  (σ : OS) (a1_ : Int32) (a2_ : Int32) (a3_ : Int32) (a4_ : Int32) (a5_ : Int32) : Int32 × OS := pX6_copy_116  σ a1_ a2_ a3_ a4_ a5_ 0
def oX6_copy_115  (σ : OS) (a1_ : Int32) (a2_ : Int32) (a3_ : Int32) (a4_ : Int32) (a5_ : Int32) : Prop := oX6_copy_116  σ a1_ a2_ a3_ a4_ a5_ 0
set_option maxHeartbeats 4000000 in
set_option maxRecDepth 100000 in
theorem wX6_copy_115 {X : CX} {cy : Nat → ClassId} {q : Nat → Nat} {D : va_G} {A : Nat → Prop} {res : Int32 × OS} (σ : OS) (a1_ : Int32) (a2_ : Int32) (a3_ : Int32) (a4_ : Int32) (a5_ : Int32) (C : Cx X cX6_copy RX6 9 D (gty cy) A 2 0 0) (hR : Rt X (some .int) D (gty cy) A 0 0 (eI (wX6 cy q res.2) res.1))  (ok : oX6_copy_115  σ a1_ a2_ a3_ a4_ a5_) (h : pX6_copy_115  σ a1_ a2_ a3_ a4_ a5_ = res) : At X D A 9 0 0 115 [(0, .ref (q 41)), (1, .int a1_), (2, .int a2_), (3, .int a3_), (4, .int a4_), (5, .int a5_)] [] (wX6 cy q σ) := by
  unfold pX6_copy_115 at h
  unfold oX6_copy_115 at ok
  refine r_iconst (v := 0) C (dall tdX6_copy 63 rfl) (by decide) ?_
  exact wX6_copy_116 σ a1_ a2_ a3_ a4_ a5_ 0 C hR  ok h
def pX6_copy_0  (σ : OS) (a1_ : Int32) (a2_ : Int32) (a3_ : Int32) (a4_ : Int32) (a5_ : Int32) : Int32 × OS := if (fX6_isSheet a1_) = 0 then ((-2), σ) else if (fX6_isSheet a3_) = 0 then ((-2), σ) else if (σ.2.2.1 37 a1_.toNatClampNeg) = 0 then ((-11), σ) else if (σ.2.2.1 37 a3_.toNatClampNeg) = 0 then ((-11), σ) else if (σ.2.2.1 38 a1_.toNatClampNeg) = (σ.2.2.1 38 a3_.toNatClampNeg) then if a5_ < 0 then ((-12), σ) else if a2_ < 0 then ((-12), σ) else if a4_ < 0 then ((-12), σ) else if ((σ.2.2.1 39 a1_.toNatClampNeg) - a5_) < a2_ then ((-12), σ) else if a4_ ≤ ((σ.2.2.1 39 a3_.toNatClampNeg) - a5_) then if a1_ = a3_ then if a4_ ≤ a2_ then pX6_copy_115  σ a1_ a2_ a3_ a4_ a5_ else pX6_copy_116  σ a1_ a2_ a3_ a4_ a5_ 1 else pX6_copy_115  σ a1_ a2_ a3_ a4_ a5_ else ((-12), σ) else ((-13), σ)
def oX6_copy_0  (σ : OS) (a1_ : Int32) (a2_ : Int32) (a3_ : Int32) (a4_ : Int32) (a5_ : Int32) : Prop := (gX6_isSheet a1_) ∧ (((fX6_isSheet a1_) = 0 → True) ∧ (¬ ((fX6_isSheet a1_) = 0) → (gX6_isSheet a3_) ∧ (((fX6_isSheet a3_) = 0 → True) ∧ (¬ ((fX6_isSheet a3_) = 0) → (vp_in a1_ 4) ∧ (((σ.2.2.1 37 a1_.toNatClampNeg) = 0 → True) ∧ (¬ ((σ.2.2.1 37 a1_.toNatClampNeg) = 0) → (vp_in a3_ 4) ∧ (((σ.2.2.1 37 a3_.toNatClampNeg) = 0 → True) ∧ (¬ ((σ.2.2.1 37 a3_.toNatClampNeg) = 0) → (vp_in a1_ 4) ∧ ((vp_in a3_ 4) ∧ (((σ.2.2.1 38 a1_.toNatClampNeg) = (σ.2.2.1 38 a3_.toNatClampNeg) → (a5_ < 0 → True) ∧ (¬ (a5_ < 0) → (a2_ < 0 → True) ∧ (¬ (a2_ < 0) → (a4_ < 0 → True) ∧ (¬ (a4_ < 0) → (vp_in a1_ 4) ∧ ((((σ.2.2.1 39 a1_.toNatClampNeg) - a5_) < a2_ → True) ∧ (¬ (((σ.2.2.1 39 a1_.toNatClampNeg) - a5_) < a2_) → (vp_in a3_ 4) ∧ ((a4_ ≤ ((σ.2.2.1 39 a3_.toNatClampNeg) - a5_) → (a1_ = a3_ → (a4_ ≤ a2_ → oX6_copy_115  σ a1_ a2_ a3_ a4_ a5_) ∧ (¬ (a4_ ≤ a2_) → oX6_copy_116  σ a1_ a2_ a3_ a4_ a5_ 1)) ∧ (¬ (a1_ = a3_) → oX6_copy_115  σ a1_ a2_ a3_ a4_ a5_)) ∧ (¬ (a4_ ≤ ((σ.2.2.1 39 a3_.toNatClampNeg) - a5_)) → True)))))))) ∧ (¬ ((σ.2.2.1 38 a1_.toNatClampNeg) = (σ.2.2.1 38 a3_.toNatClampNeg)) → True)))))))))))
set_option maxHeartbeats 4000000 in
set_option maxRecDepth 100000 in
theorem wX6_copy_0 {X : CX} {cy : Nat → ClassId} {q : Nat → Nat} {D : va_G} {A : Nat → Prop} {res : Int32 × OS} (σ : OS) (a1_ : Int32) (a2_ : Int32) (a3_ : Int32) (a4_ : Int32) (a5_ : Int32) (C : Cx X cX6_copy RX6 9 D (gty cy) A 2 0 0) (hR : Rt X (some .int) D (gty cy) A 0 0 (eI (wX6 cy q res.2) res.1))  (ok : oX6_copy_0  σ a1_ a2_ a3_ a4_ a5_) (h : pX6_copy_0  σ a1_ a2_ a3_ a4_ a5_ = res) : At X D A 9 0 0 0 [(0, .ref (q 41)), (1, .int a1_), (2, .int a2_), (3, .int a3_), (4, .int a4_), (5, .int a5_)] [] (wX6 cy q σ) := by
  unfold pX6_copy_0 at h
  unfold oX6_copy_0 at ok
  refine r_iload_n C 1 (dall tdX6_copy 0 rfl) rfl ?_
  obtain ⟨o5, ok⟩ := ok
  refine r_s0I (as := [.int a1_]) C (zX6_isSheet a1_ o5) ms_X6_isSheet km_X6_434 (by decide) (by decide) ⟨Nat.le_refl _, Nat.le_refl _⟩ rfl rfl (Nat.le_of_ble_eq_true rfl) (dall tdX6_copy 1 rfl) ?_
  refine r_if_eq (tgt := 14) C (dall tdX6_copy 2 rfl) (by decide) (fun c6 => ?_) (fun c6 => ?_)
  · have h := (if_pos c6).symm.trans h
    have ok := ok.1 c6
    refine r_bipush (v := -2) C (dall tdX6_copy 6 rfl) (by decide) ?_
    exact r_iret C hR (dall tdX6_copy 7 rfl) (by subst h; exact ⟨rfl, rfl⟩)
  · have h := (if_neg c6).symm.trans h
    have ok := ok.2 c6
    refine r_iload_n C 3 (dall tdX6_copy 3 rfl) rfl ?_
    obtain ⟨o7, ok⟩ := ok
    refine r_s0I (as := [.int a3_]) C (zX6_isSheet a3_ o7) ms_X6_isSheet km_X6_434 (by decide) (by decide) ⟨Nat.le_refl _, Nat.le_refl _⟩ rfl rfl (Nat.le_of_ble_eq_true rfl) (dall tdX6_copy 4 rfl) ?_
    refine r_if_ne (tgt := 17) C (dall tdX6_copy 5 rfl) (by decide) (fun c8 => ?_) (fun c8 => ?_)
    · have h := (if_neg c8).symm.trans h
      have ok := ok.2 c8
      refine r_aload_n C 0 (dall tdX6_copy 8 rfl) rfl ?_
      refine r_get C 0 kw_X6 rfl rfl (by decide) kf_X6_51 rfl rfl (dall tdX6_copy 9 rfl) ?_
      refine r_iload_n C 1 (dall tdX6_copy 10 rfl) rfl ?_
      obtain ⟨o9, ok⟩ := ok
      refine r_zald C 10 2 rfl rfl o9 (dall tdX6_copy 11 rfl) ?_
      refine r_if_eq (tgt := 35) C (dall tdX6_copy 12 rfl) (by decide) (fun c10 => ?_) (fun c10 => ?_)
      · have h := (if_pos c10).symm.trans h
        have ok := ok.1 c10
        refine r_bipush (v := -11) C (dall tdX6_copy 18 rfl) (by decide) ?_
        exact r_iret C hR (dall tdX6_copy 19 rfl) (by subst h; exact ⟨rfl, rfl⟩)
      · have h := (if_neg c10).symm.trans h
        have ok := ok.2 c10
        refine r_aload_n C 0 (dall tdX6_copy 13 rfl) rfl ?_
        refine r_get C 0 kw_X6 rfl rfl (by decide) kf_X6_51 rfl rfl (dall tdX6_copy 14 rfl) ?_
        refine r_iload_n C 3 (dall tdX6_copy 15 rfl) rfl ?_
        obtain ⟨o11, ok⟩ := ok
        refine r_zald C 10 2 rfl rfl o11 (dall tdX6_copy 16 rfl) ?_
        refine r_if_ne (tgt := 38) C (dall tdX6_copy 17 rfl) (by decide) (fun c12 => ?_) (fun c12 => ?_)
        · have h := (if_neg c12).symm.trans h
          have ok := ok.2 c12
          refine r_aload_n C 0 (dall tdX6_copy 20 rfl) rfl ?_
          refine r_get C 0 kw_X6 rfl rfl (by decide) kf_X6_55 rfl rfl (dall tdX6_copy 21 rfl) ?_
          refine r_iload_n C 1 (dall tdX6_copy 22 rfl) rfl ?_
          obtain ⟨o13, ok⟩ := ok
          refine r_iald C 11 0 rfl rfl o13 (dall tdX6_copy 23 rfl) ?_
          refine r_aload_n C 0 (dall tdX6_copy 24 rfl) rfl ?_
          refine r_get C 0 kw_X6 rfl rfl (by decide) kf_X6_55 rfl rfl (dall tdX6_copy 25 rfl) ?_
          refine r_iload_n C 3 (dall tdX6_copy 26 rfl) rfl ?_
          obtain ⟨o14, ok⟩ := ok
          refine r_iald C 11 0 rfl rfl o14 (dall tdX6_copy 27 rfl) ?_
          refine r_icmp_eq (tgt := 56) C (dall tdX6_copy 28 rfl) (by decide) (fun c15 => ?_) (fun c15 => ?_)
          · have h := (if_pos c15).symm.trans h
            have ok := ok.1 c15
            refine r_iload C 5 (dall tdX6_copy 31 rfl) rfl ?_
            refine r_if_lt (tgt := 97) C (dall tdX6_copy 32 rfl) (by decide) (fun c16 => ?_) (fun c16 => ?_)
            · have h := (if_pos c16).symm.trans h
              have ok := ok.1 c16
              refine r_bipush (v := -12) C (dall tdX6_copy 53 rfl) (by decide) ?_
              exact r_iret C hR (dall tdX6_copy 54 rfl) (by subst h; exact ⟨rfl, rfl⟩)
            · have h := (if_neg c16).symm.trans h
              have ok := ok.2 c16
              refine r_iload_n C 2 (dall tdX6_copy 33 rfl) rfl ?_
              refine r_if_lt (tgt := 97) C (dall tdX6_copy 34 rfl) (by decide) (fun c17 => ?_) (fun c17 => ?_)
              · have h := (if_pos c17).symm.trans h
                have ok := ok.1 c17
                refine r_bipush (v := -12) C (dall tdX6_copy 53 rfl) (by decide) ?_
                exact r_iret C hR (dall tdX6_copy 54 rfl) (by subst h; exact ⟨rfl, rfl⟩)
              · have h := (if_neg c17).symm.trans h
                have ok := ok.2 c17
                refine r_iload C 4 (dall tdX6_copy 35 rfl) rfl ?_
                refine r_if_lt (tgt := 97) C (dall tdX6_copy 36 rfl) (by decide) (fun c18 => ?_) (fun c18 => ?_)
                · have h := (if_pos c18).symm.trans h
                  have ok := ok.1 c18
                  refine r_bipush (v := -12) C (dall tdX6_copy 53 rfl) (by decide) ?_
                  exact r_iret C hR (dall tdX6_copy 54 rfl) (by subst h; exact ⟨rfl, rfl⟩)
                · have h := (if_neg c18).symm.trans h
                  have ok := ok.2 c18
                  refine r_iload_n C 2 (dall tdX6_copy 37 rfl) rfl ?_
                  refine r_aload_n C 0 (dall tdX6_copy 38 rfl) rfl ?_
                  refine r_get C 0 kw_X6 rfl rfl (by decide) kf_X6_58 rfl rfl (dall tdX6_copy 39 rfl) ?_
                  refine r_iload_n C 1 (dall tdX6_copy 40 rfl) rfl ?_
                  obtain ⟨o19, ok⟩ := ok
                  refine r_iald C 12 0 rfl rfl o19 (dall tdX6_copy 41 rfl) ?_
                  refine r_iload C 5 (dall tdX6_copy 42 rfl) rfl ?_
                  refine r_isub C (dall tdX6_copy 43 rfl) ?_
                  refine r_icmp_gt (tgt := 97) C (dall tdX6_copy 44 rfl) (by decide) (fun c20 => ?_) (fun c20 => ?_)
                  · have h := (if_pos c20).symm.trans h
                    have ok := ok.1 c20
                    refine r_bipush (v := -12) C (dall tdX6_copy 53 rfl) (by decide) ?_
                    exact r_iret C hR (dall tdX6_copy 54 rfl) (by subst h; exact ⟨rfl, rfl⟩)
                  · have h := (if_neg c20).symm.trans h
                    have ok := ok.2 c20
                    refine r_iload C 4 (dall tdX6_copy 45 rfl) rfl ?_
                    refine r_aload_n C 0 (dall tdX6_copy 46 rfl) rfl ?_
                    refine r_get C 0 kw_X6 rfl rfl (by decide) kf_X6_58 rfl rfl (dall tdX6_copy 47 rfl) ?_
                    refine r_iload_n C 3 (dall tdX6_copy 48 rfl) rfl ?_
                    obtain ⟨o21, ok⟩ := ok
                    refine r_iald C 12 0 rfl rfl o21 (dall tdX6_copy 49 rfl) ?_
                    refine r_iload C 5 (dall tdX6_copy 50 rfl) rfl ?_
                    refine r_isub C (dall tdX6_copy 51 rfl) ?_
                    refine r_icmp_le (tgt := 100) C (dall tdX6_copy 52 rfl) (by decide) (fun c22 => ?_) (fun c22 => ?_)
                    · have h := (if_pos c22).symm.trans h
                      have ok := ok.1 c22
                      refine r_iload_n C 1 (dall tdX6_copy 55 rfl) rfl ?_
                      refine r_iload_n C 3 (dall tdX6_copy 56 rfl) rfl ?_
                      refine r_icmp_ne (tgt := 115) C (dall tdX6_copy 57 rfl) (by decide) (fun c23 => ?_) (fun c23 => ?_)
                      · have h := (if_neg c23).symm.trans h
                        have ok := ok.2 c23
                        exact wX6_copy_115 σ a1_ a2_ a3_ a4_ a5_ C hR  ok h
                      · have h := (if_pos c23).symm.trans h
                        have ok := ok.1 c23
                        refine r_iload_n C 2 (dall tdX6_copy 58 rfl) rfl ?_
                        refine r_iload C 4 (dall tdX6_copy 59 rfl) rfl ?_
                        refine r_icmp_ge (tgt := 115) C (dall tdX6_copy 60 rfl) (by decide) (fun c24 => ?_) (fun c24 => ?_)
                        · have h := (if_pos c24).symm.trans h
                          have ok := ok.1 c24
                          exact wX6_copy_115 σ a1_ a2_ a3_ a4_ a5_ C hR  ok h
                        · have h := (if_neg c24).symm.trans h
                          have ok := ok.2 c24
                          refine r_iconst (v := 1) C (dall tdX6_copy 61 rfl) (by decide) ?_
                          refine r_goto (tgt := 116) C (dall tdX6_copy 62 rfl) (by decide) ?_
                          exact wX6_copy_116 σ a1_ a2_ a3_ a4_ a5_ 1 C hR  ok h
                    · have h := (if_neg c22).symm.trans h
                      have ok := ok.2 c22
                      refine r_bipush (v := -12) C (dall tdX6_copy 53 rfl) (by decide) ?_
                      exact r_iret C hR (dall tdX6_copy 54 rfl) (by subst h; exact ⟨rfl, rfl⟩)
          · have h := (if_neg c15).symm.trans h
            have ok := ok.2 c15
            refine r_bipush (v := -13) C (dall tdX6_copy 29 rfl) (by decide) ?_
            exact r_iret C hR (dall tdX6_copy 30 rfl) (by subst h; exact ⟨rfl, rfl⟩)
        · have h := (if_pos c12).symm.trans h
          have ok := ok.1 c12
          refine r_bipush (v := -11) C (dall tdX6_copy 18 rfl) (by decide) ?_
          exact r_iret C hR (dall tdX6_copy 19 rfl) (by subst h; exact ⟨rfl, rfl⟩)
    · have h := (if_pos c8).symm.trans h
      have ok := ok.1 c8
      refine r_bipush (v := -2) C (dall tdX6_copy 6 rfl) (by decide) ?_
      exact r_iret C hR (dall tdX6_copy 7 rfl) (by subst h; exact ⟨rfl, rfl⟩)
def fX6_copy (σ : OS) (a1_ : Int32) (a2_ : Int32) (a3_ : Int32) (a4_ : Int32) (a5_ : Int32) : Int32 × OS := pX6_copy_0  σ a1_ a2_ a3_ a4_ a5_
def gX6_copy (σ : OS) (a1_ : Int32) (a2_ : Int32) (a3_ : Int32) (a4_ : Int32) (a5_ : Int32) : Prop := oX6_copy_0  σ a1_ a2_ a3_ a4_ a5_
set_option maxRecDepth 100000 in
theorem zX6_copy (cy : Nat → ClassId) (q : Nat → Nat)  {D : va_G} (σ : OS) (a1_ : Int32) (a2_ : Int32) (a3_ : Int32) (a4_ : Int32) (a5_ : Int32) (ok : gX6_copy σ a1_ a2_ a3_ a4_ a5_)  : Con yX6_copy cX6_copy 9 (some .int) 2 0 0 D (gty cy) [.ref (q 41), .int a1_, .int a2_, .int a3_, .int a4_, .int a5_] (wX6 cy q σ) (eI (wX6 cy q (fX6_copy σ a1_ a2_ a3_ a4_ a5_).2) (fX6_copy σ a1_ a2_ a3_ a4_ a5_).1) :=
  Con.of (own := RX6) (by decide +kernel) rfl (Nat.le_of_ble_eq_true rfl) (Nat.zero_le _) (fun X A C hR _ => (wX6_copy_0 σ a1_ a2_ a3_ a4_ a5_ C hR  ok rfl))
theorem mv_X6_copy : MV yX6_copy cX6_copy 9 (some .int) RX6 5 := ⟨ki_X6_copy, kv_X6_copy, kn_X6, kc_X6_copy, by decide +kernel⟩
def tbX6_bag : List (Nat × Instr × Nat) := [(0, .iload_n 1, 1), (1, .invokestatic 434, 3), (4, .ifCond .eq 28, 3), (7, .iload_n 2, 1), (8, .i2l, 1), (9, .lconst 0, 1), (10, .ldc2_w 463, 3), (13, .invokestatic 74, 3), (16, .ifCond .eq 16, 3), (19, .iload 4, 2), (21, .i2l, 1), (22, .lconst 0, 1), (23, .ldc2_w 121, 3), (26, .invokestatic 74, 3), (29, .ifCond .ne 6, 3), (32, .bipush (-2), 2), (34, .ireturn, 1), (35, .aload_n 0, 1), (36, .getfield 51, 3), (39, .iload_n 1, 1), (40, .baload, 1), (41, .ifCond .eq 16, 3), (44, .aload_n 0, 1), (45, .getfield 55, 3), (48, .iload_n 1, 1), (49, .iaload, 1), (50, .iload_n 2, 1), (51, .if_icmp .eq 6, 3), (54, .bipush (-13), 2), (56, .ireturn, 1), (57, .aload_n 0, 1), (58, .getfield 51, 3), (61, .iload_n 1, 1), (62, .baload, 1), (63, .ifCond .ne 6, 3), (66, .bipush (-11), 2), (68, .ireturn, 1), (69, .iconst 0, 1), (70, .istore 5, 2), (72, .iconst 0, 1), (73, .istore 6, 2), (75, .iload 6, 2), (77, .iload 4, 2), (79, .if_icmp .ge 88, 3), (82, .iload_n 3, 1), (83, .ifCond .lt 20, 3), (86, .iload_n 3, 1), (87, .aload_n 0, 1), (88, .getfield 58, 3), (91, .iload_n 1, 1), (92, .iaload, 1), (93, .iconst 3, 1), (94, .iload 6, 2), (96, .imul, 1), (97, .isub, 1), (98, .iconst 3, 1), (99, .isub, 1), (100, .if_icmp .le 6, 3), (103, .bipush (-12), 2), (105, .ireturn, 1), (106, .bipush 40, 2), (108, .iload_n 1, 1), (109, .imul, 1), (110, .iload_n 3, 1), (111, .iadd, 1), (112, .iconst 3, 1), (113, .iload 6, 2), (115, .imul, 1), (116, .iadd, 1), (117, .istore 7, 2), (119, .iload 5, 2), (121, .aload_n 0, 1), (122, .aload_n 0, 1), (123, .getfield 61, 3), (126, .iload 7, 2), (128, .iaload, 1), (129, .aload_n 0, 1), (130, .getfield 61, 3), (133, .iload 7, 2), (135, .iconst 1, 1), (136, .iadd, 1), (137, .iaload, 1), (138, .aload_n 0, 1), (139, .getfield 61, 3), (142, .iload 7, 2), (144, .iconst 2, 1), (145, .iadd, 1), (146, .iaload, 1), (147, .invokevirtual 465, 3), (150, .ifCond .lt 7, 3), (153, .iconst 1, 1), (154, .goto 4, 3), (157, .iconst 0, 1), (158, .iadd, 1), (159, .istore 5, 2), (161, .iinc 6 1, 3), (164, .goto (-89), 3), (167, .iload 5, 2), (169, .ireturn, 1)]
theorem tdX6_bag : tbX6_bag.all (fun q => decide (decode cX6_bag q.1 = .ok q.2)) = true := by decide +kernel
def pX6_bag_158 (kR75 : OS × Int32 × Int32 → Int32 × OS) (σ : OS) (a1_ : Int32) (a3_ : Int32) (a4_ : Int32) (a6_ : Int32) (b0_ : Int32) (b1_ : Int32) : Int32 × OS := kR75 (σ, b1_ + b0_, a6_ + 1)
def oX6_bag_158 (kO75 : OS × Int32 × Int32 → Prop) (σ : OS) (a1_ : Int32) (a3_ : Int32) (a4_ : Int32) (a6_ : Int32) (b0_ : Int32) (b1_ : Int32) : Prop := kO75 (σ, b1_ + b0_, a6_ + 1)
set_option maxHeartbeats 4000000 in
set_option maxRecDepth 100000 in
theorem wX6_bag_158 {X : CX} {cy : Nat → ClassId} {q : Nat → Nat} {D : va_G} {A : Nat → Prop} {res : Int32 × OS} (σ : OS) (a1_ : Int32) (a3_ : Int32) (a4_ : Int32) (a6_ : Int32) (b0_ : Int32) (b1_ : Int32) (C : Cx X cX6_bag RX6 8 D (gty cy) A 2 0 0) (hR : Rt X (some .int) D (gty cy) A 0 0 (eI (wX6 cy q res.2) res.1)) (kR75 : OS × Int32 × Int32 → Int32 × OS) (kO75 : OS × Int32 × Int32 → Prop) (hk75 : ∀ z, kO75 z → kR75 z = res → At X D A 8 0 0 75 [(0, .ref (q 41)), (1, .int a1_), (3, .int a3_), (4, .int a4_), (5, .int z.2.1), (6, .int z.2.2)] [] (wX6 cy q z.1)) (ok : oX6_bag_158 kO75 σ a1_ a3_ a4_ a6_ b0_ b1_) (h : pX6_bag_158 kR75 σ a1_ a3_ a4_ a6_ b0_ b1_ = res) : At X D A 8 0 0 158 [(0, .ref (q 41)), (1, .int a1_), (3, .int a3_), (4, .int a4_), (6, .int a6_)] [.int b0_, .int b1_] (wX6 cy q σ) := by
  unfold pX6_bag_158 at h
  unfold oX6_bag_158 at ok
  refine r_iadd C (dall tdX6_bag 93 rfl) ?_
  refine r_istore (lv' := [(5, .int (b1_ + b0_)), (0, .ref (q 41)), (1, .int a1_), (3, .int a3_), (4, .int a4_), (6, .int a6_)]) C (dall tdX6_bag 94 rfl) (by decide) rfl ?_
  refine r_iinc (v := a6_ + 1) (lv' := [(6, .int (a6_ + 1)), (5, .int (b1_ + b0_)), (0, .ref (q 41)), (1, .int a1_), (3, .int a3_), (4, .int a4_)]) C 5 (dall tdX6_bag 95 rfl) rfl rfl (by decide) rfl ?_
  refine r_goto (tgt := 75) C (dall tdX6_bag 96 rfl) (by decide) ?_
  refine r_pick [2, 3, 4, 5, 1, 0] rfl ?_
  exact hk75 (σ, b1_ + b0_, a6_ + 1) ok h
def pX6_bag_150 (kR75 : OS × Int32 × Int32 → Int32 × OS) (σ : OS) (a1_ : Int32) (a3_ : Int32) (a4_ : Int32) (a6_ : Int32) (b0_ : Int32) (b1_ : Int32) : Int32 × OS := if b0_ < 0 then pX6_bag_158 kR75 σ a1_ a3_ a4_ a6_ 0 b1_ else pX6_bag_158 kR75 σ a1_ a3_ a4_ a6_ 1 b1_
def oX6_bag_150 (kO75 : OS × Int32 × Int32 → Prop) (σ : OS) (a1_ : Int32) (a3_ : Int32) (a4_ : Int32) (a6_ : Int32) (b0_ : Int32) (b1_ : Int32) : Prop := (b0_ < 0 → oX6_bag_158 kO75 σ a1_ a3_ a4_ a6_ 0 b1_) ∧ (¬ (b0_ < 0) → oX6_bag_158 kO75 σ a1_ a3_ a4_ a6_ 1 b1_)
set_option maxHeartbeats 4000000 in
set_option maxRecDepth 100000 in
theorem wX6_bag_150 {X : CX} {cy : Nat → ClassId} {q : Nat → Nat} {D : va_G} {A : Nat → Prop} {res : Int32 × OS} (σ : OS) (a1_ : Int32) (a3_ : Int32) (a4_ : Int32) (a6_ : Int32) (b0_ : Int32) (b1_ : Int32) (C : Cx X cX6_bag RX6 8 D (gty cy) A 2 0 0) (hR : Rt X (some .int) D (gty cy) A 0 0 (eI (wX6 cy q res.2) res.1)) (kR75 : OS × Int32 × Int32 → Int32 × OS) (kO75 : OS × Int32 × Int32 → Prop) (hk75 : ∀ z, kO75 z → kR75 z = res → At X D A 8 0 0 75 [(0, .ref (q 41)), (1, .int a1_), (3, .int a3_), (4, .int a4_), (5, .int z.2.1), (6, .int z.2.2)] [] (wX6 cy q z.1)) (ok : oX6_bag_150 kO75 σ a1_ a3_ a4_ a6_ b0_ b1_) (h : pX6_bag_150 kR75 σ a1_ a3_ a4_ a6_ b0_ b1_ = res) : At X D A 8 0 0 150 [(0, .ref (q 41)), (1, .int a1_), (3, .int a3_), (4, .int a4_), (6, .int a6_)] [.int b0_, .int b1_] (wX6 cy q σ) := by
  unfold pX6_bag_150 at h
  unfold oX6_bag_150 at ok
  refine r_if_lt (tgt := 157) C (dall tdX6_bag 89 rfl) (by decide) (fun c1 => ?_) (fun c1 => ?_)
  · have h := (if_pos c1).symm.trans h
    have ok := ok.1 c1
    refine r_iconst (v := 0) C (dall tdX6_bag 92 rfl) (by decide) ?_
    exact wX6_bag_158 σ a1_ a3_ a4_ a6_ 0 b1_ C hR kR75 kO75 hk75 ok h
  · have h := (if_neg c1).symm.trans h
    have ok := ok.2 c1
    refine r_iconst (v := 1) C (dall tdX6_bag 90 rfl) (by decide) ?_
    refine r_goto (tgt := 158) C (dall tdX6_bag 91 rfl) (by decide) ?_
    exact wX6_bag_158 σ a1_ a3_ a4_ a6_ 1 b1_ C hR kR75 kO75 hk75 ok h
def bX6_bag_75 (a1_ : Int32) (a3_ : Int32) (a4_ : Int32)  (kR75 : OS × Int32 × Int32 → Int32 × OS) (v : OS × Int32 × Int32) : Int32 × OS := if a4_ ≤ v.2.2 then (v.2.1, v.1) else if a3_ < 0 then ((-12), v.1) else if a3_ ≤ (((v.1.2.2.1 39 a1_.toNatClampNeg) - (3 * v.2.2)) - 3) then pX6_bag_150 kR75 ((fX6_regret v.1 (v.1.2.2.1 40 (((40 * a1_) + a3_) + (3 * v.2.2)).toNatClampNeg) (v.1.2.2.1 40 ((((40 * a1_) + a3_) + (3 * v.2.2)) + 1).toNatClampNeg) (v.1.2.2.1 40 ((((40 * a1_) + a3_) + (3 * v.2.2)) + 2).toNatClampNeg)).2) a1_ a3_ a4_ v.2.2 ((fX6_regret v.1 (v.1.2.2.1 40 (((40 * a1_) + a3_) + (3 * v.2.2)).toNatClampNeg) (v.1.2.2.1 40 ((((40 * a1_) + a3_) + (3 * v.2.2)) + 1).toNatClampNeg) (v.1.2.2.1 40 ((((40 * a1_) + a3_) + (3 * v.2.2)) + 2).toNatClampNeg)).1) v.2.1 else ((-12), v.1)
def kX6_bag_75 (a1_ : Int32) (a3_ : Int32) (a4_ : Int32)  (kO75 : OS × Int32 × Int32 → Prop) (v : OS × Int32 × Int32) : Prop := (a4_ ≤ v.2.2 → True) ∧ (¬ (a4_ ≤ v.2.2) → (a3_ < 0 → True) ∧ (¬ (a3_ < 0) → (vp_in a1_ 4) ∧ ((a3_ ≤ (((v.1.2.2.1 39 a1_.toNatClampNeg) - (3 * v.2.2)) - 3) → (vp_in (((40 * a1_) + a3_) + (3 * v.2.2)) 160) ∧ ((vp_in ((((40 * a1_) + a3_) + (3 * v.2.2)) + 1) 160) ∧ ((vp_in ((((40 * a1_) + a3_) + (3 * v.2.2)) + 2) 160) ∧ ((gX6_regret v.1 (v.1.2.2.1 40 (((40 * a1_) + a3_) + (3 * v.2.2)).toNatClampNeg) (v.1.2.2.1 40 ((((40 * a1_) + a3_) + (3 * v.2.2)) + 1).toNatClampNeg) (v.1.2.2.1 40 ((((40 * a1_) + a3_) + (3 * v.2.2)) + 2).toNatClampNeg)) ∧ (oX6_bag_150 kO75 ((fX6_regret v.1 (v.1.2.2.1 40 (((40 * a1_) + a3_) + (3 * v.2.2)).toNatClampNeg) (v.1.2.2.1 40 ((((40 * a1_) + a3_) + (3 * v.2.2)) + 1).toNatClampNeg) (v.1.2.2.1 40 ((((40 * a1_) + a3_) + (3 * v.2.2)) + 2).toNatClampNeg)).2) a1_ a3_ a4_ v.2.2 ((fX6_regret v.1 (v.1.2.2.1 40 (((40 * a1_) + a3_) + (3 * v.2.2)).toNatClampNeg) (v.1.2.2.1 40 ((((40 * a1_) + a3_) + (3 * v.2.2)) + 1).toNatClampNeg) (v.1.2.2.1 40 ((((40 * a1_) + a3_) + (3 * v.2.2)) + 2).toNatClampNeg)).1) v.2.1))))) ∧ (¬ (a3_ ≤ (((v.1.2.2.1 39 a1_.toNatClampNeg) - (3 * v.2.2)) - 3)) → True))))
set_option maxHeartbeats 4000000 in
set_option maxRecDepth 100000 in
theorem wX6_bag_75 {X : CX} {cy : Nat → ClassId} {q : Nat → Nat} {D : va_G} {A : Nat → Prop} {res : Int32 × OS} (a1_ : Int32) (a3_ : Int32) (a4_ : Int32) (C : Cx X cX6_bag RX6 8 D (gty cy) A 2 0 0) (hR : Rt X (some .int) D (gty cy) A 0 0 (eI (wX6 cy q res.2) res.1)) (kR75 : OS × Int32 × Int32 → Int32 × OS) (kO75 : OS × Int32 × Int32 → Prop) (hk75 : ∀ z, kO75 z → kR75 z = res → At X D A 8 0 0 75 [(0, .ref (q 41)), (1, .int a1_), (3, .int a3_), (4, .int a4_), (5, .int z.2.1), (6, .int z.2.2)] [] (wX6 cy q z.1)) (v : OS × Int32 × Int32) (ok : kX6_bag_75 a1_ a3_ a4_ kO75 v) (h : bX6_bag_75 a1_ a3_ a4_ kR75 v = res) : At X D A 8 0 0 75 [(0, .ref (q 41)), (1, .int a1_), (3, .int a3_), (4, .int a4_), (5, .int v.2.1), (6, .int v.2.2)] [] (wX6 cy q v.1) := by
  unfold bX6_bag_75 at h
  unfold kX6_bag_75 at ok
  refine r_iload C 5 (dall tdX6_bag 41 rfl) rfl ?_
  refine r_iload C 3 (dall tdX6_bag 42 rfl) rfl ?_
  refine r_icmp_ge (tgt := 167) C (dall tdX6_bag 43 rfl) (by decide) (fun c2 => ?_) (fun c2 => ?_)
  · have h := (if_pos c2).symm.trans h
    have ok := ok.1 c2
    refine r_iload C 4 (dall tdX6_bag 97 rfl) rfl ?_
    exact r_iret C hR (dall tdX6_bag 98 rfl) (by subst h; exact ⟨rfl, rfl⟩)
  · have h := (if_neg c2).symm.trans h
    have ok := ok.2 c2
    refine r_iload_n C 2 (dall tdX6_bag 44 rfl) rfl ?_
    refine r_if_lt (tgt := 103) C (dall tdX6_bag 45 rfl) (by decide) (fun c3 => ?_) (fun c3 => ?_)
    · have h := (if_pos c3).symm.trans h
      have ok := ok.1 c3
      refine r_bipush (v := -12) C (dall tdX6_bag 58 rfl) (by decide) ?_
      exact r_iret C hR (dall tdX6_bag 59 rfl) (by subst h; exact ⟨rfl, rfl⟩)
    · have h := (if_neg c3).symm.trans h
      have ok := ok.2 c3
      refine r_iload_n C 2 (dall tdX6_bag 46 rfl) rfl ?_
      refine r_aload_n C 0 (dall tdX6_bag 47 rfl) rfl ?_
      refine r_get C 0 kw_X6 rfl rfl (by decide) kf_X6_58 rfl rfl (dall tdX6_bag 48 rfl) ?_
      refine r_iload_n C 1 (dall tdX6_bag 49 rfl) rfl ?_
      obtain ⟨o4, ok⟩ := ok
      refine r_iald C 12 0 rfl rfl o4 (dall tdX6_bag 50 rfl) ?_
      refine r_iconst (v := 3) C (dall tdX6_bag 51 rfl) (by decide) ?_
      refine r_iload C 5 (dall tdX6_bag 52 rfl) rfl ?_
      refine r_imul C (dall tdX6_bag 53 rfl) ?_
      refine r_isub C (dall tdX6_bag 54 rfl) ?_
      refine r_iconst (v := 3) C (dall tdX6_bag 55 rfl) (by decide) ?_
      refine r_isub C (dall tdX6_bag 56 rfl) ?_
      refine r_icmp_le (tgt := 106) C (dall tdX6_bag 57 rfl) (by decide) (fun c5 => ?_) (fun c5 => ?_)
      · have h := (if_pos c5).symm.trans h
        have ok := ok.1 c5
        refine r_bipush (v := 40) C (dall tdX6_bag 60 rfl) (by decide) ?_
        refine r_iload_n C 1 (dall tdX6_bag 61 rfl) rfl ?_
        refine r_imul C (dall tdX6_bag 62 rfl) ?_
        refine r_iload_n C 2 (dall tdX6_bag 63 rfl) rfl ?_
        refine r_iadd C (dall tdX6_bag 64 rfl) ?_
        refine r_iconst (v := 3) C (dall tdX6_bag 65 rfl) (by decide) ?_
        refine r_iload C 5 (dall tdX6_bag 66 rfl) rfl ?_
        refine r_imul C (dall tdX6_bag 67 rfl) ?_
        refine r_iadd C (dall tdX6_bag 68 rfl) ?_
        refine r_istore (lv' := [(7, .int (((40 * a1_) + a3_) + (3 * v.2.2))), (0, .ref (q 41)), (1, .int a1_), (3, .int a3_), (4, .int a4_), (5, .int v.2.1), (6, .int v.2.2)]) C (dall tdX6_bag 69 rfl) (by decide) rfl ?_
        refine r_iload C 5 (dall tdX6_bag 70 rfl) rfl ?_
        refine r_aload_n C 1 (dall tdX6_bag 71 rfl) rfl ?_
        refine r_aload_n C 1 (dall tdX6_bag 72 rfl) rfl ?_
        refine r_get C 0 kw_X6 rfl rfl (by decide) kf_X6_61 rfl rfl (dall tdX6_bag 73 rfl) ?_
        refine r_iload C 0 (dall tdX6_bag 74 rfl) rfl ?_
        obtain ⟨o6, ok⟩ := ok
        refine r_iald C 13 0 rfl rfl o6 (dall tdX6_bag 75 rfl) ?_
        refine r_aload_n C 1 (dall tdX6_bag 76 rfl) rfl ?_
        refine r_get C 0 kw_X6 rfl rfl (by decide) kf_X6_61 rfl rfl (dall tdX6_bag 77 rfl) ?_
        refine r_iload C 0 (dall tdX6_bag 78 rfl) rfl ?_
        refine r_iconst (v := 1) C (dall tdX6_bag 79 rfl) (by decide) ?_
        refine r_iadd C (dall tdX6_bag 80 rfl) ?_
        obtain ⟨o7, ok⟩ := ok
        refine r_iald C 13 0 rfl rfl o7 (dall tdX6_bag 81 rfl) ?_
        refine r_aload_n C 1 (dall tdX6_bag 82 rfl) rfl ?_
        refine r_get C 0 kw_X6 rfl rfl (by decide) kf_X6_61 rfl rfl (dall tdX6_bag 83 rfl) ?_
        refine r_iload C 0 (dall tdX6_bag 84 rfl) rfl ?_
        refine r_iconst (v := 2) C (dall tdX6_bag 85 rfl) (by decide) ?_
        refine r_iadd C (dall tdX6_bag 86 rfl) ?_
        obtain ⟨o8, ok⟩ := ok
        refine r_iald C 13 0 rfl rfl o8 (dall tdX6_bag 87 rfl) ?_
        obtain ⟨o9, ok⟩ := ok
        refine r_vI (as := [.int (v.1.2.2.1 40 (((40 * a1_) + a3_) + (3 * v.2.2)).toNatClampNeg), .int (v.1.2.2.1 40 ((((40 * a1_) + a3_) + (3 * v.2.2)) + 1).toNatClampNeg), .int (v.1.2.2.1 40 ((((40 * a1_) + a3_) + (3 * v.2.2)) + 2).toNatClampNeg)]) C (zX6_regret cy q v.1 (v.1.2.2.1 40 (((40 * a1_) + a3_) + (3 * v.2.2)).toNatClampNeg) (v.1.2.2.1 40 ((((40 * a1_) + a3_) + (3 * v.2.2)) + 1).toNatClampNeg) (v.1.2.2.1 40 ((((40 * a1_) + a3_) + (3 * v.2.2)) + 2).toNatClampNeg) o9) mv_X6_regret km_X6_465 (by decide) (by decide) ⟨Nat.le_refl _, Nat.le_refl _⟩ rfl rfl rfl rfl (Nat.le_of_ble_eq_true rfl) (dall tdX6_bag 88 rfl) ?_
        refine r_pick [1, 2, 3, 4, 6] rfl ?_
        exact wX6_bag_150 ((fX6_regret v.1 (v.1.2.2.1 40 (((40 * a1_) + a3_) + (3 * v.2.2)).toNatClampNeg) (v.1.2.2.1 40 ((((40 * a1_) + a3_) + (3 * v.2.2)) + 1).toNatClampNeg) (v.1.2.2.1 40 ((((40 * a1_) + a3_) + (3 * v.2.2)) + 2).toNatClampNeg)).2) a1_ a3_ a4_ v.2.2 ((fX6_regret v.1 (v.1.2.2.1 40 (((40 * a1_) + a3_) + (3 * v.2.2)).toNatClampNeg) (v.1.2.2.1 40 ((((40 * a1_) + a3_) + (3 * v.2.2)) + 1).toNatClampNeg) (v.1.2.2.1 40 ((((40 * a1_) + a3_) + (3 * v.2.2)) + 2).toNatClampNeg)).1) v.2.1 C hR kR75 kO75 hk75 ok h
      · have h := (if_neg c5).symm.trans h
        have ok := ok.2 c5
        refine r_bipush (v := -12) C (dall tdX6_bag 58 rfl) (by decide) ?_
        exact r_iret C hR (dall tdX6_bag 59 rfl) (by subst h; exact ⟨rfl, rfl⟩)
set_option maxHeartbeats 4000000 in
set_option maxRecDepth 100000 in
theorem lX6_bag_75 {X : CX} {cy : Nat → ClassId} {q : Nat → Nat} {D : va_G} {A : Nat → Prop} {res : Int32 × OS} (a1_ : Int32) (a3_ : Int32) (a4_ : Int32) (C : Cx X cX6_bag RX6 8 D (gty cy) A 2 0 0) (hR : Rt X (some .int) D (gty cy) A 0 0 (eI (wX6 cy q res.2) res.1))  (n : Nat) (v : OS × Int32 × Int32) (ok : lpOk (kX6_bag_75 a1_ a3_ a4_ ) n v) (h : lp (0, o0) (bX6_bag_75 a1_ a3_ a4_ ) n v = res) : At X D A 8 0 0 75 [(0, .ref (q 41)), (1, .int a1_), (3, .int a3_), (4, .int a4_), (5, .int v.2.1), (6, .int v.2.2)] [] (wX6 cy q v.1) :=
  lp_rule (fun v rr_ => rr_ = res → At X D A 8 0 0 75 [(0, .ref (q 41)), (1, .int a1_), (3, .int a3_), (4, .int a4_), (5, .int v.2.1), (6, .int v.2.2)] [] (wX6 cy q v.1)) (fun kR kO hk v ok h => wX6_bag_75 a1_ a3_ a4_ C hR  kR kO hk v ok h) n v ok h
def pX6_bag_57  (σ : OS) (a1_ : Int32) (a3_ : Int32) (a4_ : Int32) : Int32 × OS := if (σ.2.2.1 37 a1_.toNatClampNeg) = 0 then ((-11), σ) else lp (0, o0) (bX6_bag_75 a1_ a3_ a4_ ) fu (σ, 0, 0)
def oX6_bag_57  (σ : OS) (a1_ : Int32) (a3_ : Int32) (a4_ : Int32) : Prop := (vp_in a1_ 4) ∧ (((σ.2.2.1 37 a1_.toNatClampNeg) = 0 → True) ∧ (¬ ((σ.2.2.1 37 a1_.toNatClampNeg) = 0) → lpOk (kX6_bag_75 a1_ a3_ a4_ ) fu (σ, 0, 0)))
set_option maxHeartbeats 4000000 in
set_option maxRecDepth 100000 in
theorem wX6_bag_57 {X : CX} {cy : Nat → ClassId} {q : Nat → Nat} {D : va_G} {A : Nat → Prop} {res : Int32 × OS} (σ : OS) (a1_ : Int32) (a3_ : Int32) (a4_ : Int32) (C : Cx X cX6_bag RX6 8 D (gty cy) A 2 0 0) (hR : Rt X (some .int) D (gty cy) A 0 0 (eI (wX6 cy q res.2) res.1))  (ok : oX6_bag_57  σ a1_ a3_ a4_) (h : pX6_bag_57  σ a1_ a3_ a4_ = res) : At X D A 8 0 0 57 [(0, .ref (q 41)), (1, .int a1_), (3, .int a3_), (4, .int a4_)] [] (wX6 cy q σ) := by
  unfold pX6_bag_57 at h
  unfold oX6_bag_57 at ok
  refine r_aload_n C 0 (dall tdX6_bag 30 rfl) rfl ?_
  refine r_get C 0 kw_X6 rfl rfl (by decide) kf_X6_51 rfl rfl (dall tdX6_bag 31 rfl) ?_
  refine r_iload_n C 1 (dall tdX6_bag 32 rfl) rfl ?_
  obtain ⟨o10, ok⟩ := ok
  refine r_zald C 10 2 rfl rfl o10 (dall tdX6_bag 33 rfl) ?_
  refine r_if_ne (tgt := 69) C (dall tdX6_bag 34 rfl) (by decide) (fun c11 => ?_) (fun c11 => ?_)
  · have h := (if_neg c11).symm.trans h
    have ok := ok.2 c11
    refine r_iconst (v := 0) C (dall tdX6_bag 37 rfl) (by decide) ?_
    refine r_istore (lv' := [(5, .int 0), (0, .ref (q 41)), (1, .int a1_), (3, .int a3_), (4, .int a4_)]) C (dall tdX6_bag 38 rfl) (by decide) rfl ?_
    refine r_iconst (v := 0) C (dall tdX6_bag 39 rfl) (by decide) ?_
    refine r_istore (lv' := [(6, .int 0), (5, .int 0), (0, .ref (q 41)), (1, .int a1_), (3, .int a3_), (4, .int a4_)]) C (dall tdX6_bag 40 rfl) (by decide) rfl ?_
    refine r_pick [2, 3, 4, 5, 1, 0] rfl ?_
    exact lX6_bag_75 a1_ a3_ a4_ C hR  fu _ ok h
  · have h := (if_pos c11).symm.trans h
    have ok := ok.1 c11
    refine r_bipush (v := -11) C (dall tdX6_bag 35 rfl) (by decide) ?_
    exact r_iret C hR (dall tdX6_bag 36 rfl) (by subst h; exact ⟨rfl, rfl⟩)
def pX6_bag_0  (σ : OS) (a1_ : Int32) (a2_ : Int32) (a3_ : Int32) (a4_ : Int32) : Int32 × OS := if (fX6_isSheet a1_) = 0 then ((-2), σ) else if (fX6_in a2_.toInt64 0 (2)) = 0 then ((-2), σ) else if (fX6_in a4_.toInt64 0 (5)) = 0 then ((-2), σ) else if (σ.2.2.1 37 a1_.toNatClampNeg) = 0 then pX6_bag_57  σ a1_ a3_ a4_ else if (σ.2.2.1 38 a1_.toNatClampNeg) = a2_ then pX6_bag_57  σ a1_ a3_ a4_ else ((-13), σ)
def oX6_bag_0  (σ : OS) (a1_ : Int32) (a2_ : Int32) (a3_ : Int32) (a4_ : Int32) : Prop := (gX6_isSheet a1_) ∧ (((fX6_isSheet a1_) = 0 → True) ∧ (¬ ((fX6_isSheet a1_) = 0) → ((fX6_in a2_.toInt64 0 (2)) = 0 → True) ∧ (¬ ((fX6_in a2_.toInt64 0 (2)) = 0) → ((fX6_in a4_.toInt64 0 (5)) = 0 → True) ∧ (¬ ((fX6_in a4_.toInt64 0 (5)) = 0) → (vp_in a1_ 4) ∧ (((σ.2.2.1 37 a1_.toNatClampNeg) = 0 → oX6_bag_57  σ a1_ a3_ a4_) ∧ (¬ ((σ.2.2.1 37 a1_.toNatClampNeg) = 0) → (vp_in a1_ 4) ∧ (((σ.2.2.1 38 a1_.toNatClampNeg) = a2_ → oX6_bag_57  σ a1_ a3_ a4_) ∧ (¬ ((σ.2.2.1 38 a1_.toNatClampNeg) = a2_) → True))))))))
set_option maxHeartbeats 4000000 in
set_option maxRecDepth 100000 in
theorem wX6_bag_0 {X : CX} {cy : Nat → ClassId} {q : Nat → Nat} {D : va_G} {A : Nat → Prop} {res : Int32 × OS} (σ : OS) (a1_ : Int32) (a2_ : Int32) (a3_ : Int32) (a4_ : Int32) (C : Cx X cX6_bag RX6 8 D (gty cy) A 2 0 0) (hR : Rt X (some .int) D (gty cy) A 0 0 (eI (wX6 cy q res.2) res.1))  (ok : oX6_bag_0  σ a1_ a2_ a3_ a4_) (h : pX6_bag_0  σ a1_ a2_ a3_ a4_ = res) : At X D A 8 0 0 0 [(0, .ref (q 41)), (1, .int a1_), (2, .int a2_), (3, .int a3_), (4, .int a4_)] [] (wX6 cy q σ) := by
  unfold pX6_bag_0 at h
  unfold oX6_bag_0 at ok
  refine r_iload_n C 1 (dall tdX6_bag 0 rfl) rfl ?_
  obtain ⟨o12, ok⟩ := ok
  refine r_s0I (as := [.int a1_]) C (zX6_isSheet a1_ o12) ms_X6_isSheet km_X6_434 (by decide) (by decide) ⟨Nat.le_refl _, Nat.le_refl _⟩ rfl rfl (Nat.le_of_ble_eq_true rfl) (dall tdX6_bag 1 rfl) ?_
  refine r_if_eq (tgt := 32) C (dall tdX6_bag 2 rfl) (by decide) (fun c13 => ?_) (fun c13 => ?_)
  · have h := (if_pos c13).symm.trans h
    have ok := ok.1 c13
    refine r_bipush (v := -2) C (dall tdX6_bag 15 rfl) (by decide) ?_
    exact r_iret C hR (dall tdX6_bag 16 rfl) (by subst h; exact ⟨rfl, rfl⟩)
  · have h := (if_neg c13).symm.trans h
    have ok := ok.2 c13
    refine r_iload_n C 2 (dall tdX6_bag 3 rfl) rfl ?_
    refine r_i2l C (dall tdX6_bag 4 rfl) ?_
    refine r_lconst (v := 0) C (dall tdX6_bag 5 rfl) (by decide) ?_
    refine r_ldc2 C kk_X6_463 (dall tdX6_bag 6 rfl) ?_
    refine r_s0I (as := [.long a2_.toInt64, .long 0, .long (2)]) C (zX6_in a2_.toInt64 0 (2) ) ms_X6_in km_X6_74 (by decide) (by decide) ⟨Nat.le_refl _, Nat.le_refl _⟩ rfl rfl (Nat.le_of_ble_eq_true rfl) (dall tdX6_bag 7 rfl) ?_
    refine r_if_eq (tgt := 32) C (dall tdX6_bag 8 rfl) (by decide) (fun c14 => ?_) (fun c14 => ?_)
    · have h := (if_pos c14).symm.trans h
      have ok := ok.1 c14
      refine r_bipush (v := -2) C (dall tdX6_bag 15 rfl) (by decide) ?_
      exact r_iret C hR (dall tdX6_bag 16 rfl) (by subst h; exact ⟨rfl, rfl⟩)
    · have h := (if_neg c14).symm.trans h
      have ok := ok.2 c14
      refine r_iload C 4 (dall tdX6_bag 9 rfl) rfl ?_
      refine r_i2l C (dall tdX6_bag 10 rfl) ?_
      refine r_lconst (v := 0) C (dall tdX6_bag 11 rfl) (by decide) ?_
      refine r_ldc2 C kk_X6_121 (dall tdX6_bag 12 rfl) ?_
      refine r_s0I (as := [.long a4_.toInt64, .long 0, .long (5)]) C (zX6_in a4_.toInt64 0 (5) ) ms_X6_in km_X6_74 (by decide) (by decide) ⟨Nat.le_refl _, Nat.le_refl _⟩ rfl rfl (Nat.le_of_ble_eq_true rfl) (dall tdX6_bag 13 rfl) ?_
      refine r_if_ne (tgt := 35) C (dall tdX6_bag 14 rfl) (by decide) (fun c15 => ?_) (fun c15 => ?_)
      · have h := (if_neg c15).symm.trans h
        have ok := ok.2 c15
        refine r_aload_n C 0 (dall tdX6_bag 17 rfl) rfl ?_
        refine r_get C 0 kw_X6 rfl rfl (by decide) kf_X6_51 rfl rfl (dall tdX6_bag 18 rfl) ?_
        refine r_iload_n C 1 (dall tdX6_bag 19 rfl) rfl ?_
        obtain ⟨o16, ok⟩ := ok
        refine r_zald C 10 2 rfl rfl o16 (dall tdX6_bag 20 rfl) ?_
        refine r_if_eq (tgt := 57) C (dall tdX6_bag 21 rfl) (by decide) (fun c17 => ?_) (fun c17 => ?_)
        · have h := (if_pos c17).symm.trans h
          have ok := ok.1 c17
          refine r_pick [0, 1, 3, 4] rfl ?_
          exact wX6_bag_57 σ a1_ a3_ a4_ C hR  ok h
        · have h := (if_neg c17).symm.trans h
          have ok := ok.2 c17
          refine r_aload_n C 0 (dall tdX6_bag 22 rfl) rfl ?_
          refine r_get C 0 kw_X6 rfl rfl (by decide) kf_X6_55 rfl rfl (dall tdX6_bag 23 rfl) ?_
          refine r_iload_n C 1 (dall tdX6_bag 24 rfl) rfl ?_
          obtain ⟨o18, ok⟩ := ok
          refine r_iald C 11 0 rfl rfl o18 (dall tdX6_bag 25 rfl) ?_
          refine r_iload_n C 2 (dall tdX6_bag 26 rfl) rfl ?_
          refine r_icmp_eq (tgt := 57) C (dall tdX6_bag 27 rfl) (by decide) (fun c19 => ?_) (fun c19 => ?_)
          · have h := (if_pos c19).symm.trans h
            have ok := ok.1 c19
            refine r_pick [0, 1, 3, 4] rfl ?_
            exact wX6_bag_57 σ a1_ a3_ a4_ C hR  ok h
          · have h := (if_neg c19).symm.trans h
            have ok := ok.2 c19
            refine r_bipush (v := -13) C (dall tdX6_bag 28 rfl) (by decide) ?_
            exact r_iret C hR (dall tdX6_bag 29 rfl) (by subst h; exact ⟨rfl, rfl⟩)
      · have h := (if_pos c15).symm.trans h
        have ok := ok.1 c15
        refine r_bipush (v := -2) C (dall tdX6_bag 15 rfl) (by decide) ?_
        exact r_iret C hR (dall tdX6_bag 16 rfl) (by subst h; exact ⟨rfl, rfl⟩)
def fX6_bag (σ : OS) (a1_ : Int32) (a2_ : Int32) (a3_ : Int32) (a4_ : Int32) : Int32 × OS := pX6_bag_0  σ a1_ a2_ a3_ a4_
def gX6_bag (σ : OS) (a1_ : Int32) (a2_ : Int32) (a3_ : Int32) (a4_ : Int32) : Prop := oX6_bag_0  σ a1_ a2_ a3_ a4_
set_option maxRecDepth 100000 in
theorem zX6_bag (cy : Nat → ClassId) (q : Nat → Nat)  {D : va_G} (σ : OS) (a1_ : Int32) (a2_ : Int32) (a3_ : Int32) (a4_ : Int32) (ok : gX6_bag σ a1_ a2_ a3_ a4_)  : Con yX6_bag cX6_bag 8 (some .int) 2 0 0 D (gty cy) [.ref (q 41), .int a1_, .int a2_, .int a3_, .int a4_] (wX6 cy q σ) (eI (wX6 cy q (fX6_bag σ a1_ a2_ a3_ a4_).2) (fX6_bag σ a1_ a2_ a3_ a4_).1) :=
  Con.of (own := RX6) (by decide +kernel) rfl (Nat.le_of_ble_eq_true rfl) (Nat.zero_le _) (fun X A C hR _ => (wX6_bag_0 σ a1_ a2_ a3_ a4_ C hR  ok rfl))
theorem mv_X6_bag : MV yX6_bag cX6_bag 8 (some .int) RX6 4 := ⟨ki_X6_bag, kv_X6_bag, kn_X6, kc_X6_bag, by decide +kernel⟩
def tbX6_taken : List (Nat × Instr × Nat) := [(0, .iload_n 2, 1), (1, .i2l, 1), (2, .lconst 0, 1), (3, .ldc2_w 121, 3), (6, .invokestatic 74, 3), (9, .ifCond .ne 6, 3), (12, .bipush (-2), 2), (14, .ireturn, 1), (15, .aload_n 0, 1), (16, .iload_n 1, 1), (17, .invokevirtual 90, 3), (20, .ifCond .ne 6, 3), (23, .bipush (-11), 2), (25, .ireturn, 1), (26, .aload_n 0, 1), (27, .getfield 29, 3), (30, .iconst 3, 1), (31, .iload_n 1, 1), (32, .imul, 1), (33, .iconst 2, 1), (34, .iadd, 1), (35, .iaload, 1), (36, .istore_n 3, 1), (37, .iload_n 3, 1), (38, .iconst (-1), 1), (39, .if_icmp .eq 16, 3), (42, .iload_n 3, 1), (43, .iload_n 2, 1), (44, .if_icmp .eq 11, 3), (47, .iload_n 3, 1), (48, .invokestatic 468, 3), (51, .istore_n 3, 1), (52, .goto (-15), 3), (55, .iload_n 3, 1), (56, .iload_n 2, 1), (57, .if_icmp .ne 14, 3), (60, .aload_n 0, 1), (61, .getfield 29, 3), (64, .iconst 3, 1), (65, .iload_n 1, 1), (66, .imul, 1), (67, .iaload, 1), (68, .goto 5, 3), (71, .bipush (-13), 2), (73, .ireturn, 1)]
theorem tdX6_taken : tbX6_taken.all (fun q => decide (decode cX6_taken q.1 = .ok q.2)) = true := by decide +kernel
def pX6_taken_55  (σ : OS) (a1_ : Int32) (a2_ : Int32) (a3_ : Int32) : Int32 := if a3_ = a2_ then σ.2.2.1 10 (3 * a1_).toNatClampNeg else (-13)
def oX6_taken_55  (σ : OS) (a1_ : Int32) (a2_ : Int32) (a3_ : Int32) : Prop := (a3_ = a2_ → vp_in (3 * a1_) 15) ∧ (¬ (a3_ = a2_) → True)
set_option maxHeartbeats 4000000 in
set_option maxRecDepth 100000 in
theorem wX6_taken_55 {X : CX} {cy : Nat → ClassId} {q : Nat → Nat} {D : va_G} {A : Nat → Prop} {res : Int32} (σ : OS) (a1_ : Int32) (a2_ : Int32) (a3_ : Int32) (C : Cx X cX6_taken RX6 4 D (gty cy) A 2 0 0) (hR : Rt X (some .int) D (gty cy) A 0 0 (eI (wX6 cy q σ) res))  (ok : oX6_taken_55  σ a1_ a2_ a3_) (h : pX6_taken_55  σ a1_ a2_ a3_ = res) : At X D A 4 0 0 55 [(0, .ref (q 41)), (1, .int a1_), (2, .int a2_), (3, .int a3_)] [] (wX6 cy q σ) := by
  unfold pX6_taken_55 at h
  unfold oX6_taken_55 at ok
  refine r_iload_n C 3 (dall tdX6_taken 33 rfl) rfl ?_
  refine r_iload_n C 2 (dall tdX6_taken 34 rfl) rfl ?_
  refine r_icmp_ne (tgt := 71) C (dall tdX6_taken 35 rfl) (by decide) (fun c1 => ?_) (fun c1 => ?_)
  · have h := (if_neg c1).symm.trans h
    have ok := ok.2 c1
    refine r_bipush (v := -13) C (dall tdX6_taken 43 rfl) (by decide) ?_
    exact r_iret C hR (dall tdX6_taken 44 rfl) (by subst h; exact ⟨rfl, rfl⟩)
  · have h := (if_pos c1).symm.trans h
    have ok := ok.1 c1
    refine r_aload_n C 0 (dall tdX6_taken 36 rfl) rfl ?_
    refine r_get C 0 kw_X6 rfl rfl (by decide) kf_X6_29 rfl rfl (dall tdX6_taken 37 rfl) ?_
    refine r_iconst (v := 3) C (dall tdX6_taken 38 rfl) (by decide) ?_
    refine r_iload_n C 1 (dall tdX6_taken 39 rfl) rfl ?_
    refine r_imul C (dall tdX6_taken 40 rfl) ?_
    have o2 := ok
    refine r_iald C 4 0 rfl rfl o2 (dall tdX6_taken 41 rfl) ?_
    refine r_goto (tgt := 73) C (dall tdX6_taken 42 rfl) (by decide) ?_
    exact r_iret C hR (dall tdX6_taken 44 rfl) (by subst h; exact ⟨rfl, rfl⟩)
def bX6_taken_37 (σ : OS) (a1_ : Int32) (a2_ : Int32)  (kR37 : Int32 → Int32) (v : Int32) : Int32 := if v = (-1) then pX6_taken_55  σ a1_ a2_ v else if v = a2_ then pX6_taken_55  σ a1_ a2_ v else kR37 (fX6_over v)
def kX6_taken_37 (σ : OS) (a1_ : Int32) (a2_ : Int32)  (kO37 : Int32 → Prop) (v : Int32) : Prop := (v = (-1) → oX6_taken_55  σ a1_ a2_ v) ∧ (¬ (v = (-1)) → (v = a2_ → oX6_taken_55  σ a1_ a2_ v) ∧ (¬ (v = a2_) → kO37 (fX6_over v)))
set_option maxHeartbeats 4000000 in
set_option maxRecDepth 100000 in
theorem wX6_taken_37 {X : CX} {cy : Nat → ClassId} {q : Nat → Nat} {D : va_G} {A : Nat → Prop} {res : Int32} (σ : OS) (a1_ : Int32) (a2_ : Int32) (C : Cx X cX6_taken RX6 4 D (gty cy) A 2 0 0) (hR : Rt X (some .int) D (gty cy) A 0 0 (eI (wX6 cy q σ) res)) (kR37 : Int32 → Int32) (kO37 : Int32 → Prop) (hk37 : ∀ z, kO37 z → kR37 z = res → At X D A 4 0 0 37 [(0, .ref (q 41)), (1, .int a1_), (2, .int a2_), (3, .int z)] [] (wX6 cy q σ)) (v : Int32) (ok : kX6_taken_37 σ a1_ a2_ kO37 v) (h : bX6_taken_37 σ a1_ a2_ kR37 v = res) : At X D A 4 0 0 37 [(0, .ref (q 41)), (1, .int a1_), (2, .int a2_), (3, .int v)] [] (wX6 cy q σ) := by
  unfold bX6_taken_37 at h
  unfold kX6_taken_37 at ok
  refine r_iload_n C 3 (dall tdX6_taken 23 rfl) rfl ?_
  refine r_iconst (v := -1) C (dall tdX6_taken 24 rfl) (by decide) ?_
  refine r_icmp_eq (tgt := 55) C (dall tdX6_taken 25 rfl) (by decide) (fun c3 => ?_) (fun c3 => ?_)
  · have h := (if_pos c3).symm.trans h
    have ok := ok.1 c3
    exact wX6_taken_55 σ a1_ a2_ v C hR  ok h
  · have h := (if_neg c3).symm.trans h
    have ok := ok.2 c3
    refine r_iload_n C 3 (dall tdX6_taken 26 rfl) rfl ?_
    refine r_iload_n C 2 (dall tdX6_taken 27 rfl) rfl ?_
    refine r_icmp_eq (tgt := 55) C (dall tdX6_taken 28 rfl) (by decide) (fun c4 => ?_) (fun c4 => ?_)
    · have h := (if_pos c4).symm.trans h
      have ok := ok.1 c4
      exact wX6_taken_55 σ a1_ a2_ v C hR  ok h
    · have h := (if_neg c4).symm.trans h
      have ok := ok.2 c4
      refine r_iload_n C 3 (dall tdX6_taken 29 rfl) rfl ?_
      refine r_s0I (as := [.int v]) C (zX6_over v ) ms_X6_over km_X6_468 (by decide) (by decide) ⟨Nat.le_refl _, Nat.le_refl _⟩ rfl rfl (Nat.le_of_ble_eq_true rfl) (dall tdX6_taken 30 rfl) ?_
      refine r_istore_n (lv' := [(3, .int (fX6_over v)), (0, .ref (q 41)), (1, .int a1_), (2, .int a2_)]) C (dall tdX6_taken 31 rfl) (by decide) rfl ?_
      refine r_goto (tgt := 37) C (dall tdX6_taken 32 rfl) (by decide) ?_
      refine r_pick [1, 2, 3, 0] rfl ?_
      exact hk37 (fX6_over v) ok h
set_option maxHeartbeats 4000000 in
set_option maxRecDepth 100000 in
theorem lX6_taken_37 {X : CX} {cy : Nat → ClassId} {q : Nat → Nat} {D : va_G} {A : Nat → Prop} {res : Int32} (σ : OS) (a1_ : Int32) (a2_ : Int32) (C : Cx X cX6_taken RX6 4 D (gty cy) A 2 0 0) (hR : Rt X (some .int) D (gty cy) A 0 0 (eI (wX6 cy q σ) res))  (n : Nat) (v : Int32) (ok : lpOk (kX6_taken_37 σ a1_ a2_ ) n v) (h : lp 0 (bX6_taken_37 σ a1_ a2_ ) n v = res) : At X D A 4 0 0 37 [(0, .ref (q 41)), (1, .int a1_), (2, .int a2_), (3, .int v)] [] (wX6 cy q σ) :=
  lp_rule (fun v rr_ => rr_ = res → At X D A 4 0 0 37 [(0, .ref (q 41)), (1, .int a1_), (2, .int a2_), (3, .int v)] [] (wX6 cy q σ)) (fun kR kO hk v ok h => wX6_taken_37 σ a1_ a2_ C hR  kR kO hk v ok h) n v ok h
def pX6_taken_0  (σ : OS) (a1_ : Int32) (a2_ : Int32) : Int32 := if (fX6_in a2_.toInt64 0 (5)) = 0 then (-2) else if (fX6_isOne σ a1_) = 0 then (-11) else lp 0 (bX6_taken_37 σ a1_ a2_ ) fu (σ.2.2.1 10 ((3 * a1_) + 2).toNatClampNeg)
def oX6_taken_0  (σ : OS) (a1_ : Int32) (a2_ : Int32) : Prop := ((fX6_in a2_.toInt64 0 (5)) = 0 → True) ∧ (¬ ((fX6_in a2_.toInt64 0 (5)) = 0) → (gX6_isOne σ a1_) ∧ (((fX6_isOne σ a1_) = 0 → True) ∧ (¬ ((fX6_isOne σ a1_) = 0) → (vp_in ((3 * a1_) + 2) 15) ∧ (lpOk (kX6_taken_37 σ a1_ a2_ ) fu (σ.2.2.1 10 ((3 * a1_) + 2).toNatClampNeg)))))
set_option maxHeartbeats 4000000 in
set_option maxRecDepth 100000 in
theorem wX6_taken_0 {X : CX} {cy : Nat → ClassId} {q : Nat → Nat} {D : va_G} {A : Nat → Prop} {res : Int32} (σ : OS) (a1_ : Int32) (a2_ : Int32) (C : Cx X cX6_taken RX6 4 D (gty cy) A 2 0 0) (hR : Rt X (some .int) D (gty cy) A 0 0 (eI (wX6 cy q σ) res))  (ok : oX6_taken_0  σ a1_ a2_) (h : pX6_taken_0  σ a1_ a2_ = res) : At X D A 4 0 0 0 [(0, .ref (q 41)), (1, .int a1_), (2, .int a2_)] [] (wX6 cy q σ) := by
  unfold pX6_taken_0 at h
  unfold oX6_taken_0 at ok
  refine r_iload_n C 2 (dall tdX6_taken 0 rfl) rfl ?_
  refine r_i2l C (dall tdX6_taken 1 rfl) ?_
  refine r_lconst (v := 0) C (dall tdX6_taken 2 rfl) (by decide) ?_
  refine r_ldc2 C kk_X6_121 (dall tdX6_taken 3 rfl) ?_
  refine r_s0I (as := [.long a2_.toInt64, .long 0, .long (5)]) C (zX6_in a2_.toInt64 0 (5) ) ms_X6_in km_X6_74 (by decide) (by decide) ⟨Nat.le_refl _, Nat.le_refl _⟩ rfl rfl (Nat.le_of_ble_eq_true rfl) (dall tdX6_taken 4 rfl) ?_
  refine r_if_ne (tgt := 15) C (dall tdX6_taken 5 rfl) (by decide) (fun c5 => ?_) (fun c5 => ?_)
  · have h := (if_neg c5).symm.trans h
    have ok := ok.2 c5
    refine r_aload_n C 0 (dall tdX6_taken 8 rfl) rfl ?_
    refine r_iload_n C 1 (dall tdX6_taken 9 rfl) rfl ?_
    obtain ⟨o6, ok⟩ := ok
    refine r_vI (as := [.int a1_]) C (zX6_isOne cy q σ a1_ o6) mv_X6_isOne km_X6_90 (by decide) (by decide) ⟨Nat.le_refl _, Nat.le_refl _⟩ rfl rfl rfl rfl (Nat.le_of_ble_eq_true rfl) (dall tdX6_taken 10 rfl) ?_
    refine r_if_ne (tgt := 26) C (dall tdX6_taken 11 rfl) (by decide) (fun c7 => ?_) (fun c7 => ?_)
    · have h := (if_neg c7).symm.trans h
      have ok := ok.2 c7
      refine r_aload_n C 0 (dall tdX6_taken 14 rfl) rfl ?_
      refine r_get C 0 kw_X6 rfl rfl (by decide) kf_X6_29 rfl rfl (dall tdX6_taken 15 rfl) ?_
      refine r_iconst (v := 3) C (dall tdX6_taken 16 rfl) (by decide) ?_
      refine r_iload_n C 1 (dall tdX6_taken 17 rfl) rfl ?_
      refine r_imul C (dall tdX6_taken 18 rfl) ?_
      refine r_iconst (v := 2) C (dall tdX6_taken 19 rfl) (by decide) ?_
      refine r_iadd C (dall tdX6_taken 20 rfl) ?_
      obtain ⟨o8, ok⟩ := ok
      refine r_iald C 4 0 rfl rfl o8 (dall tdX6_taken 21 rfl) ?_
      refine r_istore_n (lv' := [(3, .int (σ.2.2.1 10 ((3 * a1_) + 2).toNatClampNeg)), (0, .ref (q 41)), (1, .int a1_), (2, .int a2_)]) C (dall tdX6_taken 22 rfl) (by decide) rfl ?_
      refine r_pick [1, 2, 3, 0] rfl ?_
      exact lX6_taken_37 σ a1_ a2_ C hR  fu _ ok h
    · have h := (if_pos c7).symm.trans h
      have ok := ok.1 c7
      refine r_bipush (v := -11) C (dall tdX6_taken 12 rfl) (by decide) ?_
      exact r_iret C hR (dall tdX6_taken 13 rfl) (by subst h; exact ⟨rfl, rfl⟩)
  · have h := (if_pos c5).symm.trans h
    have ok := ok.1 c5
    refine r_bipush (v := -2) C (dall tdX6_taken 6 rfl) (by decide) ?_
    exact r_iret C hR (dall tdX6_taken 7 rfl) (by subst h; exact ⟨rfl, rfl⟩)
def fX6_taken (σ : OS) (a1_ : Int32) (a2_ : Int32) : Int32 := pX6_taken_0  σ a1_ a2_
def gX6_taken (σ : OS) (a1_ : Int32) (a2_ : Int32) : Prop := oX6_taken_0  σ a1_ a2_
set_option maxRecDepth 100000 in
theorem zX6_taken (cy : Nat → ClassId) (q : Nat → Nat)  {D : va_G} (σ : OS) (a1_ : Int32) (a2_ : Int32) (ok : gX6_taken σ a1_ a2_)  : Con yX6_taken cX6_taken 4 (some .int) 2 0 0 D (gty cy) [.ref (q 41), .int a1_, .int a2_] (wX6 cy q σ) (eI (wX6 cy q σ) (fX6_taken σ a1_ a2_)) :=
  Con.of (own := RX6) (by decide +kernel) rfl (Nat.le_of_ble_eq_true rfl) (Nat.zero_le _) (fun X A C hR _ => (wX6_taken_0 σ a1_ a2_ C hR  ok rfl))
theorem mv_X6_taken : MV yX6_taken cX6_taken 4 (some .int) RX6 2 := ⟨ki_X6_taken, kv_X6_taken, kn_X6, kc_X6_taken, by decide +kernel⟩

def tbX5_changeYear : List (Nat × Instr × Nat) := [(0, .iload_n 1, 1), (1, .sipush 999, 3), (4, .invokestatic 74, 3), (7, .ifCond .ne 6, 3), (10, .bipush (-2), 2), (12, .ireturn, 1), (13, .aload_n 0, 1), (14, .getfield 20, 3), (17, .getfield 88, 3), (20, .istore_n 2, 1), (21, .aload_n 0, 1), (22, .getfield 20, 3), (25, .iload_n 1, 1), (26, .putfield 88, 3), (29, .iload_n 2, 1), (30, .ireturn, 1)]
theorem tdX5_changeYear : tbX5_changeYear.all (fun q => decide (decode cX5_changeYear q.1 = .ok q.2)) = true := by decide +kernel
def pX5_changeYear_0 (τ : TX)  (σ : XS) (a1_ : Int32) : Int32 × XS := if (fX5_within a1_ 999) = 0 then ((-2), σ) else (σ.2.1.1 5, xN σ (oI σ.2.1 5 a1_))
set_option maxHeartbeats 4000000 in
set_option maxRecDepth 100000 in
theorem wX5_changeYear_0 {X : CX} {cy : Nat → ClassId} {q : Nat → Nat} {qn : Nat → Nat} {qt : Nat → Nat} {qk : Nat → Nat} {qr : Nat → Nat} {qs : Nat → Nat → Nat} {a : Nat} {τ : TX} {D : va_G} {A : Nat → Prop} {res : Int32 × XS} (σ : XS) (a1_ : Int32) (C : Cx X cX5_changeYear RX5 3 D (gty cy) A 1 0 0) (hR : Rt X (some .int) D (gty cy) A 0 0 (eI (wX5 cy q qn qt qk qr qs a τ res.2) res.1))  (h : pX5_changeYear_0 τ  σ a1_ = res) : At X D A 3 0 0 0 [(0, .ref (q 8)), (1, .int a1_)] [] (wX5 cy q qn qt qk qr qs a τ σ) := by
  unfold pX5_changeYear_0 at h
  refine r_iload_n C 1 (dall tdX5_changeYear 0 rfl) rfl ?_
  refine r_sipush (v := 999) C (dall tdX5_changeYear 1 rfl) (by decide) ?_
  refine r_s0I (as := [.int a1_, .int 999]) C (zX5_within a1_ 999 ) ms_X5_within km_X5_74 (by decide) (by decide) ⟨Nat.le_refl _, Nat.le_refl _⟩ rfl rfl (Nat.le_of_ble_eq_true rfl) (dall tdX5_changeYear 2 rfl) ?_
  refine r_if_ne (tgt := 13) C (dall tdX5_changeYear 3 rfl) (by decide) (fun c1 => ?_) (fun c1 => ?_)
  · have h := (if_neg c1).symm.trans h
    refine r_aload_n C 0 (dall tdX5_changeYear 6 rfl) rfl ?_
    refine r_get C 0 kw_X5 rfl rfl (by decide) kf_X5_20 rfl rfl (dall tdX5_changeYear 7 rfl) ?_
    refine r_get C 1 kw_X4 rfl rfl (by decide) kf_X5_88 rfl rfl (dall tdX5_changeYear 8 rfl) ?_
    refine r_istore_n (lv' := [(2, .int (σ.2.1.1 5)), (0, .ref (q 8)), (1, .int a1_)]) C (dall tdX5_changeYear 9 rfl) (by decide) rfl ?_
    refine r_aload_n C 1 (dall tdX5_changeYear 10 rfl) rfl ?_
    refine r_get C 0 kw_X5 rfl rfl (by decide) kf_X5_20 rfl rfl (dall tdX5_changeYear 11 rfl) ?_
    refine r_iload_n C 2 (dall tdX5_changeYear 12 rfl) rfl ?_
    refine r_put C 1 kw_X4 tyX4_ok nmX4 rfl rfl (by decide) kf_X5_88 rfl rfl rfl rfl rfl (Nat.le_of_ble_eq_true rfl) (pu_X5_n_5 cy q qn qt qk qr qs a τ σ a1_) (dall tdX5_changeYear 13 rfl) ?_
    refine r_iload_n C 0 (dall tdX5_changeYear 14 rfl) rfl ?_
    exact r_iret C hR (dall tdX5_changeYear 15 rfl) (by subst h; exact ⟨rfl, rfl⟩)
  · have h := (if_pos c1).symm.trans h
    refine r_bipush (v := -2) C (dall tdX5_changeYear 4 rfl) (by decide) ?_
    exact r_iret C hR (dall tdX5_changeYear 5 rfl) (by subst h; exact ⟨rfl, rfl⟩)
def fX5_changeYear (τ : TX) (σ : XS) (a1_ : Int32) : Int32 × XS := pX5_changeYear_0 τ  σ a1_
set_option maxRecDepth 100000 in
theorem zX5_changeYear (cy : Nat → ClassId) (q : Nat → Nat) (qn : Nat → Nat) (qt : Nat → Nat) (qk : Nat → Nat) (qr : Nat → Nat) (qs : Nat → Nat → Nat) (a : Nat) (τ : TX)  {D : va_G} (σ : XS) (a1_ : Int32)  : Con yX5_changeYear cX5_changeYear 3 (some .int) 1 0 0 D (gty cy) [.ref (q 8), .int a1_] (wX5 cy q qn qt qk qr qs a τ σ) (eI (wX5 cy q qn qt qk qr qs a τ (fX5_changeYear τ σ a1_).2) (fX5_changeYear τ σ a1_).1) :=
  Con.of (own := RX5) (by decide +kernel) rfl (Nat.le_of_ble_eq_true rfl) (Nat.zero_le _) (fun X A C hR _ => (wX5_changeYear_0 σ a1_ C hR  rfl))
theorem mv_X5_changeYear : MV yX5_changeYear cX5_changeYear 3 (some .int) RX5 1 := ⟨ki_X5_changeYear, kv_X5_changeYear, kn_X5, kc_X5_changeYear, by decide +kernel⟩
def tbX5_isOne : List (Nat × Instr × Nat) := [(0, .iload_n 1, 1), (1, .ifCond .lt 18, 3), (4, .iload_n 1, 1), (5, .aload_n 0, 1), (6, .getfield 20, 3), (9, .getfield 78, 3), (12, .if_icmp .ge 7, 3), (15, .iconst 1, 1), (16, .goto 4, 3), (19, .iconst 0, 1), (20, .ireturn, 1)]
theorem tdX5_isOne : tbX5_isOne.all (fun q => decide (decode cX5_isOne q.1 = .ok q.2)) = true := by decide +kernel
def pX5_isOne_0 (τ : TX)  (σ : XS) (a1_ : Int32) : Int32 := if a1_ < 0 then 0 else if (σ.2.1.1 4) ≤ a1_ then 0 else 1
set_option maxHeartbeats 4000000 in
set_option maxRecDepth 100000 in
theorem wX5_isOne_0 {X : CX} {cy : Nat → ClassId} {q : Nat → Nat} {qn : Nat → Nat} {qt : Nat → Nat} {qk : Nat → Nat} {qr : Nat → Nat} {qs : Nat → Nat → Nat} {a : Nat} {τ : TX} {D : va_G} {A : Nat → Prop} {res : Int32} (σ : XS) (a1_ : Int32) (C : Cx X cX5_isOne RX5 2 D (gty cy) A 0 0 0) (hR : Rt X (some .boolean) D (gty cy) A 0 0 (eI (wX5 cy q qn qt qk qr qs a τ σ) res))  (h : pX5_isOne_0 τ  σ a1_ = res) : At X D A 2 0 0 0 [(0, .ref (q 8)), (1, .int a1_)] [] (wX5 cy q qn qt qk qr qs a τ σ) := by
  unfold pX5_isOne_0 at h
  refine r_iload_n C 1 (dall tdX5_isOne 0 rfl) rfl ?_
  refine r_if_lt (tgt := 19) C (dall tdX5_isOne 1 rfl) (by decide) (fun c1 => ?_) (fun c1 => ?_)
  · have h := (if_pos c1).symm.trans h
    refine r_iconst (v := 0) C (dall tdX5_isOne 9 rfl) (by decide) ?_
    exact r_zret C (by decide) hR (dall tdX5_isOne 10 rfl) (by subst h; exact ⟨rfl, rfl⟩)
  · have h := (if_neg c1).symm.trans h
    refine r_iload_n C 1 (dall tdX5_isOne 2 rfl) rfl ?_
    refine r_aload_n C 0 (dall tdX5_isOne 3 rfl) rfl ?_
    refine r_get C 0 kw_X5 rfl rfl (by decide) kf_X5_20 rfl rfl (dall tdX5_isOne 4 rfl) ?_
    refine r_get C 1 kw_X4 rfl rfl (by decide) kf_X5_78 rfl rfl (dall tdX5_isOne 5 rfl) ?_
    refine r_icmp_ge (tgt := 19) C (dall tdX5_isOne 6 rfl) (by decide) (fun c2 => ?_) (fun c2 => ?_)
    · have h := (if_pos c2).symm.trans h
      refine r_iconst (v := 0) C (dall tdX5_isOne 9 rfl) (by decide) ?_
      exact r_zret C (by decide) hR (dall tdX5_isOne 10 rfl) (by subst h; exact ⟨rfl, rfl⟩)
    · have h := (if_neg c2).symm.trans h
      refine r_iconst (v := 1) C (dall tdX5_isOne 7 rfl) (by decide) ?_
      refine r_goto (tgt := 20) C (dall tdX5_isOne 8 rfl) (by decide) ?_
      exact r_zret C (by decide) hR (dall tdX5_isOne 10 rfl) (by subst h; exact ⟨rfl, rfl⟩)
def fX5_isOne (τ : TX) (σ : XS) (a1_ : Int32) : Int32 := pX5_isOne_0 τ  σ a1_
set_option maxRecDepth 100000 in
theorem zX5_isOne (cy : Nat → ClassId) (q : Nat → Nat) (qn : Nat → Nat) (qt : Nat → Nat) (qk : Nat → Nat) (qr : Nat → Nat) (qs : Nat → Nat → Nat) (a : Nat) (τ : TX)  {D : va_G} (σ : XS) (a1_ : Int32)  : Con yX5_isOne cX5_isOne 2 (some .boolean) 0 0 0 D (gty cy) [.ref (q 8), .int a1_] (wX5 cy q qn qt qk qr qs a τ σ) (eI (wX5 cy q qn qt qk qr qs a τ σ) (fX5_isOne τ σ a1_)) :=
  Con.of (own := RX5) (by decide +kernel) rfl (Nat.le_of_ble_eq_true rfl) (Nat.zero_le _) (fun X A C hR _ => (wX5_isOne_0 σ a1_ C hR  rfl))
theorem mv_X5_isOne : MV yX5_isOne cX5_isOne 2 (some .boolean) RX5 1 := ⟨ki_X5_isOne, kv_X5_isOne, kn_X5, kc_X5_isOne, by decide +kernel⟩
def tbX5_changeOfOne : List (Nat × Instr × Nat) := [(0, .aload_n 0, 1), (1, .iload_n 2, 1), (2, .invokevirtual 97, 3), (5, .ifCond .eq 12, 3), (8, .iload_n 3, 1), (9, .iload 4, 2), (11, .invokestatic 74, 3), (14, .ifCond .ne 6, 3), (17, .bipush (-2), 2), (19, .ireturn, 1), (20, .aload_n 1, 1), (21, .iload_n 2, 1), (22, .iaload, 1), (23, .istore 5, 2), (25, .aload_n 1, 1), (26, .iload_n 2, 1), (27, .iload_n 3, 1), (28, .iastore, 1), (29, .iload 5, 2), (31, .ireturn, 1)]
theorem tdX5_changeOfOne : tbX5_changeOfOne.all (fun q => decide (decode cX5_changeOfOne q.1 = .ok q.2)) = true := by decide +kernel
def pX5_changeOfOne_n1_0 (τ : TX)  (σ : XS) (a2_ : Int32) (a3_ : Int32) (a4_ : Int32) : Int32 × XS := if (fX5_isOne τ σ a2_) = 0 then ((-2), σ) else if (fX5_within a3_ a4_) = 0 then ((-2), σ) else (σ.2.1.2.2.1 1 a2_.toNatClampNeg, xN σ (oS σ.2.1 1 a2_.toNatClampNeg a3_))
def oX5_changeOfOne_n1_0 (τ : TX)  (σ : XS) (a2_ : Int32) (a3_ : Int32) (a4_ : Int32) : Prop := ((fX5_isOne τ σ a2_) = 0 → True) ∧ (¬ ((fX5_isOne τ σ a2_) = 0) → ((fX5_within a3_ a4_) = 0 → True) ∧ (¬ ((fX5_within a3_ a4_) = 0) → (vp_in a2_ 5) ∧ (vp_in a2_ 5)))
set_option maxHeartbeats 4000000 in
set_option maxRecDepth 100000 in
theorem wX5_changeOfOne_n1_0 {X : CX} {cy : Nat → ClassId} {q : Nat → Nat} {qn : Nat → Nat} {qt : Nat → Nat} {qk : Nat → Nat} {qr : Nat → Nat} {qs : Nat → Nat → Nat} {a : Nat} {τ : TX} {D : va_G} {A : Nat → Prop} {res : Int32 × XS} (σ : XS) (a2_ : Int32) (a3_ : Int32) (a4_ : Int32) (C : Cx X cX5_changeOfOne RX5 6 D (gty cy) A 1 0 0) (hR : Rt X (some .int) D (gty cy) A 0 0 (eI (wX5 cy q qn qt qk qr qs a τ res.2) res.1))  (ok : oX5_changeOfOne_n1_0 τ  σ a2_ a3_ a4_) (h : pX5_changeOfOne_n1_0 τ  σ a2_ a3_ a4_ = res) : At X D A 6 0 0 0 [(0, .ref (q 8)), (1, .ref (va_up qn 9 a 1)), (2, .int a2_), (3, .int a3_), (4, .int a4_)] [] (wX5 cy q qn qt qk qr qs a τ σ) := by
  unfold pX5_changeOfOne_n1_0 at h
  unfold oX5_changeOfOne_n1_0 at ok
  refine r_aload_n C 0 (dall tdX5_changeOfOne 0 rfl) rfl ?_
  refine r_iload_n C 2 (dall tdX5_changeOfOne 1 rfl) rfl ?_
  refine r_vI (as := [.int a2_]) C (zX5_isOne cy q qn qt qk qr qs a τ σ a2_ ) mv_X5_isOne km_X5_97 (by decide) (by decide) ⟨Nat.le_refl _, Nat.le_refl _⟩ rfl rfl rfl rfl (Nat.le_of_ble_eq_true rfl) (dall tdX5_changeOfOne 2 rfl) ?_
  refine r_if_eq (tgt := 17) C (dall tdX5_changeOfOne 3 rfl) (by decide) (fun c1 => ?_) (fun c1 => ?_)
  · have h := (if_pos c1).symm.trans h
    have ok := ok.1 c1
    refine r_bipush (v := -2) C (dall tdX5_changeOfOne 8 rfl) (by decide) ?_
    exact r_iret C hR (dall tdX5_changeOfOne 9 rfl) (by subst h; exact ⟨rfl, rfl⟩)
  · have h := (if_neg c1).symm.trans h
    have ok := ok.2 c1
    refine r_iload_n C 3 (dall tdX5_changeOfOne 4 rfl) rfl ?_
    refine r_iload C 4 (dall tdX5_changeOfOne 5 rfl) rfl ?_
    refine r_s0I (as := [.int a3_, .int a4_]) C (zX5_within a3_ a4_ ) ms_X5_within km_X5_74 (by decide) (by decide) ⟨Nat.le_refl _, Nat.le_refl _⟩ rfl rfl (Nat.le_of_ble_eq_true rfl) (dall tdX5_changeOfOne 6 rfl) ?_
    refine r_if_ne (tgt := 20) C (dall tdX5_changeOfOne 7 rfl) (by decide) (fun c2 => ?_) (fun c2 => ?_)
    · have h := (if_neg c2).symm.trans h
      have ok := ok.2 c2
      refine r_aload_n C 1 (dall tdX5_changeOfOne 10 rfl) rfl ?_
      refine r_iload_n C 2 (dall tdX5_changeOfOne 11 rfl) rfl ?_
      obtain ⟨o3, ok⟩ := ok
      refine r_iald C 3 0 rfl rfl o3 (dall tdX5_changeOfOne 12 rfl) ?_
      refine r_istore (lv' := [(5, .int (σ.2.1.2.2.1 1 a2_.toNatClampNeg)), (0, .ref (q 8)), (1, .ref (va_up qn 9 a 1)), (2, .int a2_), (3, .int a3_), (4, .int a4_)]) C (dall tdX5_changeOfOne 13 rfl) (by decide) rfl ?_
      refine r_aload_n C 2 (dall tdX5_changeOfOne 14 rfl) rfl ?_
      refine r_iload_n C 3 (dall tdX5_changeOfOne 15 rfl) rfl ?_
      refine r_iload_n C 4 (dall tdX5_changeOfOne 16 rfl) rfl ?_
      have o4 := ok
      refine r_iast C 3 0 rfl rfl o4 (pa_X5_n_1 cy q qn qt qk qr qs a τ σ a2_.toNatClampNeg a3_) (dall tdX5_changeOfOne 17 rfl) ?_
      refine r_iload C 0 (dall tdX5_changeOfOne 18 rfl) rfl ?_
      exact r_iret C hR (dall tdX5_changeOfOne 19 rfl) (by subst h; exact ⟨rfl, rfl⟩)
    · have h := (if_pos c2).symm.trans h
      have ok := ok.1 c2
      refine r_bipush (v := -2) C (dall tdX5_changeOfOne 8 rfl) (by decide) ?_
      exact r_iret C hR (dall tdX5_changeOfOne 9 rfl) (by subst h; exact ⟨rfl, rfl⟩)
def fX5_changeOfOne_n1 (τ : TX) (σ : XS) (a2_ : Int32) (a3_ : Int32) (a4_ : Int32) : Int32 × XS := pX5_changeOfOne_n1_0 τ  σ a2_ a3_ a4_
def gX5_changeOfOne_n1 (τ : TX) (σ : XS) (a2_ : Int32) (a3_ : Int32) (a4_ : Int32) : Prop := oX5_changeOfOne_n1_0 τ  σ a2_ a3_ a4_
set_option maxRecDepth 100000 in
theorem zX5_changeOfOne_n1 (cy : Nat → ClassId) (q : Nat → Nat) (qn : Nat → Nat) (qt : Nat → Nat) (qk : Nat → Nat) (qr : Nat → Nat) (qs : Nat → Nat → Nat) (a : Nat) (τ : TX)  {D : va_G} (σ : XS) (a2_ : Int32) (a3_ : Int32) (a4_ : Int32) (ok : gX5_changeOfOne_n1 τ σ a2_ a3_ a4_)  : Con yX5_changeOfOne cX5_changeOfOne 6 (some .int) 1 0 0 D (gty cy) [.ref (q 8), .ref (va_up qn 9 a 1), .int a2_, .int a3_, .int a4_] (wX5 cy q qn qt qk qr qs a τ σ) (eI (wX5 cy q qn qt qk qr qs a τ (fX5_changeOfOne_n1 τ σ a2_ a3_ a4_).2) (fX5_changeOfOne_n1 τ σ a2_ a3_ a4_).1) :=
  Con.of (own := RX5) (by decide +kernel) rfl (Nat.le_of_ble_eq_true rfl) (Nat.zero_le _) (fun X A C hR _ => (wX5_changeOfOne_n1_0 σ a2_ a3_ a4_ C hR  ok rfl))
theorem mv_X5_changeOfOne_n1 : MV yX5_changeOfOne cX5_changeOfOne 6 (some .int) RX5 4 := ⟨ki_X5_changeOfOne, kv_X5_changeOfOne, kn_X5, kc_X5_changeOfOne, by decide +kernel⟩
def pX5_changeOfOne_n2_0 (τ : TX)  (σ : XS) (a2_ : Int32) (a3_ : Int32) (a4_ : Int32) : Int32 × XS := if (fX5_isOne τ σ a2_) = 0 then ((-2), σ) else if (fX5_within a3_ a4_) = 0 then ((-2), σ) else (σ.2.1.2.2.1 2 a2_.toNatClampNeg, xN σ (oS σ.2.1 2 a2_.toNatClampNeg a3_))
def oX5_changeOfOne_n2_0 (τ : TX)  (σ : XS) (a2_ : Int32) (a3_ : Int32) (a4_ : Int32) : Prop := ((fX5_isOne τ σ a2_) = 0 → True) ∧ (¬ ((fX5_isOne τ σ a2_) = 0) → ((fX5_within a3_ a4_) = 0 → True) ∧ (¬ ((fX5_within a3_ a4_) = 0) → (vp_in a2_ 5) ∧ (vp_in a2_ 5)))
set_option maxHeartbeats 4000000 in
set_option maxRecDepth 100000 in
theorem wX5_changeOfOne_n2_0 {X : CX} {cy : Nat → ClassId} {q : Nat → Nat} {qn : Nat → Nat} {qt : Nat → Nat} {qk : Nat → Nat} {qr : Nat → Nat} {qs : Nat → Nat → Nat} {a : Nat} {τ : TX} {D : va_G} {A : Nat → Prop} {res : Int32 × XS} (σ : XS) (a2_ : Int32) (a3_ : Int32) (a4_ : Int32) (C : Cx X cX5_changeOfOne RX5 6 D (gty cy) A 1 0 0) (hR : Rt X (some .int) D (gty cy) A 0 0 (eI (wX5 cy q qn qt qk qr qs a τ res.2) res.1))  (ok : oX5_changeOfOne_n2_0 τ  σ a2_ a3_ a4_) (h : pX5_changeOfOne_n2_0 τ  σ a2_ a3_ a4_ = res) : At X D A 6 0 0 0 [(0, .ref (q 8)), (1, .ref (va_up qn 9 a 2)), (2, .int a2_), (3, .int a3_), (4, .int a4_)] [] (wX5 cy q qn qt qk qr qs a τ σ) := by
  unfold pX5_changeOfOne_n2_0 at h
  unfold oX5_changeOfOne_n2_0 at ok
  refine r_aload_n C 0 (dall tdX5_changeOfOne 0 rfl) rfl ?_
  refine r_iload_n C 2 (dall tdX5_changeOfOne 1 rfl) rfl ?_
  refine r_vI (as := [.int a2_]) C (zX5_isOne cy q qn qt qk qr qs a τ σ a2_ ) mv_X5_isOne km_X5_97 (by decide) (by decide) ⟨Nat.le_refl _, Nat.le_refl _⟩ rfl rfl rfl rfl (Nat.le_of_ble_eq_true rfl) (dall tdX5_changeOfOne 2 rfl) ?_
  refine r_if_eq (tgt := 17) C (dall tdX5_changeOfOne 3 rfl) (by decide) (fun c1 => ?_) (fun c1 => ?_)
  · have h := (if_pos c1).symm.trans h
    have ok := ok.1 c1
    refine r_bipush (v := -2) C (dall tdX5_changeOfOne 8 rfl) (by decide) ?_
    exact r_iret C hR (dall tdX5_changeOfOne 9 rfl) (by subst h; exact ⟨rfl, rfl⟩)
  · have h := (if_neg c1).symm.trans h
    have ok := ok.2 c1
    refine r_iload_n C 3 (dall tdX5_changeOfOne 4 rfl) rfl ?_
    refine r_iload C 4 (dall tdX5_changeOfOne 5 rfl) rfl ?_
    refine r_s0I (as := [.int a3_, .int a4_]) C (zX5_within a3_ a4_ ) ms_X5_within km_X5_74 (by decide) (by decide) ⟨Nat.le_refl _, Nat.le_refl _⟩ rfl rfl (Nat.le_of_ble_eq_true rfl) (dall tdX5_changeOfOne 6 rfl) ?_
    refine r_if_ne (tgt := 20) C (dall tdX5_changeOfOne 7 rfl) (by decide) (fun c2 => ?_) (fun c2 => ?_)
    · have h := (if_neg c2).symm.trans h
      have ok := ok.2 c2
      refine r_aload_n C 1 (dall tdX5_changeOfOne 10 rfl) rfl ?_
      refine r_iload_n C 2 (dall tdX5_changeOfOne 11 rfl) rfl ?_
      obtain ⟨o3, ok⟩ := ok
      refine r_iald C 4 0 rfl rfl o3 (dall tdX5_changeOfOne 12 rfl) ?_
      refine r_istore (lv' := [(5, .int (σ.2.1.2.2.1 2 a2_.toNatClampNeg)), (0, .ref (q 8)), (1, .ref (va_up qn 9 a 2)), (2, .int a2_), (3, .int a3_), (4, .int a4_)]) C (dall tdX5_changeOfOne 13 rfl) (by decide) rfl ?_
      refine r_aload_n C 2 (dall tdX5_changeOfOne 14 rfl) rfl ?_
      refine r_iload_n C 3 (dall tdX5_changeOfOne 15 rfl) rfl ?_
      refine r_iload_n C 4 (dall tdX5_changeOfOne 16 rfl) rfl ?_
      have o4 := ok
      refine r_iast C 4 0 rfl rfl o4 (pa_X5_n_2 cy q qn qt qk qr qs a τ σ a2_.toNatClampNeg a3_) (dall tdX5_changeOfOne 17 rfl) ?_
      refine r_iload C 0 (dall tdX5_changeOfOne 18 rfl) rfl ?_
      exact r_iret C hR (dall tdX5_changeOfOne 19 rfl) (by subst h; exact ⟨rfl, rfl⟩)
    · have h := (if_pos c2).symm.trans h
      have ok := ok.1 c2
      refine r_bipush (v := -2) C (dall tdX5_changeOfOne 8 rfl) (by decide) ?_
      exact r_iret C hR (dall tdX5_changeOfOne 9 rfl) (by subst h; exact ⟨rfl, rfl⟩)
def fX5_changeOfOne_n2 (τ : TX) (σ : XS) (a2_ : Int32) (a3_ : Int32) (a4_ : Int32) : Int32 × XS := pX5_changeOfOne_n2_0 τ  σ a2_ a3_ a4_
def gX5_changeOfOne_n2 (τ : TX) (σ : XS) (a2_ : Int32) (a3_ : Int32) (a4_ : Int32) : Prop := oX5_changeOfOne_n2_0 τ  σ a2_ a3_ a4_
set_option maxRecDepth 100000 in
theorem zX5_changeOfOne_n2 (cy : Nat → ClassId) (q : Nat → Nat) (qn : Nat → Nat) (qt : Nat → Nat) (qk : Nat → Nat) (qr : Nat → Nat) (qs : Nat → Nat → Nat) (a : Nat) (τ : TX)  {D : va_G} (σ : XS) (a2_ : Int32) (a3_ : Int32) (a4_ : Int32) (ok : gX5_changeOfOne_n2 τ σ a2_ a3_ a4_)  : Con yX5_changeOfOne cX5_changeOfOne 6 (some .int) 1 0 0 D (gty cy) [.ref (q 8), .ref (va_up qn 9 a 2), .int a2_, .int a3_, .int a4_] (wX5 cy q qn qt qk qr qs a τ σ) (eI (wX5 cy q qn qt qk qr qs a τ (fX5_changeOfOne_n2 τ σ a2_ a3_ a4_).2) (fX5_changeOfOne_n2 τ σ a2_ a3_ a4_).1) :=
  Con.of (own := RX5) (by decide +kernel) rfl (Nat.le_of_ble_eq_true rfl) (Nat.zero_le _) (fun X A C hR _ => (wX5_changeOfOne_n2_0 σ a2_ a3_ a4_ C hR  ok rfl))
theorem mv_X5_changeOfOne_n2 : MV yX5_changeOfOne cX5_changeOfOne 6 (some .int) RX5 4 := ⟨ki_X5_changeOfOne, kv_X5_changeOfOne, kn_X5, kc_X5_changeOfOne, by decide +kernel⟩
def tbX5_changeHouse : List (Nat × Instr × Nat) := [(0, .iload_n 1, 1), (1, .invokestatic 91, 3), (4, .ifCond .eq 25, 3), (7, .iload_n 2, 1), (8, .iconst 1, 1), (9, .invokestatic 74, 3), (12, .ifCond .eq 17, 3), (15, .aload_n 0, 1), (16, .getfield 20, 3), (19, .invokevirtual 154, 3), (22, .iload_n 1, 1), (23, .invokestatic 140, 3), (26, .ifCond .eq 6, 3), (29, .bipush (-2), 2), (31, .ireturn, 1), (32, .aload_n 0, 1), (33, .getfield 20, 3), (36, .getfield 103, 3), (39, .iload_n 1, 1), (40, .invokestatic 140, 3), (43, .ifCond .eq 7, 3), (46, .iconst 1, 1), (47, .goto 4, 3), (50, .iconst 0, 1), (51, .istore_n 3, 1), (52, .lconst 1, 1), (53, .iload_n 1, 1), (54, .lshl, 1), (55, .lstore 4, 2), (57, .aload_n 0, 1), (58, .getfield 20, 3), (61, .iload_n 2, 1), (62, .iconst 1, 1), (63, .if_icmp .ne 16, 3), (66, .aload_n 0, 1), (67, .getfield 20, 3), (70, .getfield 103, 3), (73, .lload 4, 2), (75, .lor, 1), (76, .goto 17, 3), (79, .aload_n 0, 1), (80, .getfield 20, 3), (83, .getfield 103, 3), (86, .lload 4, 2), (88, .ldc2_w 252, 3), (91, .lxor, 1), (92, .land, 1), (93, .putfield 103, 3), (96, .aload_n 0, 1), (97, .getfield 20, 3), (100, .invokevirtual 254, 3), (103, .iload_n 3, 1), (104, .ireturn, 1)]
theorem tdX5_changeHouse : tbX5_changeHouse.all (fun q => decide (decode cX5_changeHouse q.1 = .ok q.2)) = true := by decide +kernel
def pX5_changeHouse_103 (τ : TX)  (σ : XS) (a3_ : Int32) : Int32 × XS := (a3_, σ)
set_option maxHeartbeats 4000000 in
set_option maxRecDepth 100000 in
theorem wX5_changeHouse_103 {X : CX} {cy : Nat → ClassId} {q : Nat → Nat} {qn : Nat → Nat} {qt : Nat → Nat} {qk : Nat → Nat} {qr : Nat → Nat} {qs : Nat → Nat → Nat} {a : Nat} {τ : TX} {D : va_G} {A : Nat → Prop} {res : Int32 × XS} (σ : XS) (a3_ : Int32) (C : Cx X cX5_changeHouse RX5 6 D (gty cy) A 3 0 0) (hR : Rt X (some .int) D (gty cy) A 0 0 (eI (wX5 cy q qn qt qk qr qs a τ res.2) res.1))  (h : pX5_changeHouse_103 τ  σ a3_ = res) : At X D A 6 0 0 103 [(3, .int a3_)] [] (wX5 cy q qn qt qk qr qs a τ σ) := by
  unfold pX5_changeHouse_103 at h
  refine r_iload_n C 0 (dall tdX5_changeHouse 51 rfl) rfl ?_
  exact r_iret C hR (dall tdX5_changeHouse 52 rfl) (by subst h; exact ⟨rfl, rfl⟩)
def pX5_changeHouse_93 (τ : TX)  (σ : XS) (a3_ : Int32) (b0_ : Int64) : Int32 × XS := pX5_changeHouse_103 τ  (xN (xN σ (oL σ.2.1 8 b0_)) (fX4_dropLoose ((xN σ (oL σ.2.1 8 b0_)).2.1) )) a3_
def oX5_changeHouse_93 (τ : TX)  (σ : XS) (a3_ : Int32) (b0_ : Int64) : Prop := gX4_dropLoose ((xN σ (oL σ.2.1 8 b0_)).2.1) 
set_option maxHeartbeats 4000000 in
set_option maxRecDepth 100000 in
theorem wX5_changeHouse_93 {X : CX} {cy : Nat → ClassId} {q : Nat → Nat} {qn : Nat → Nat} {qt : Nat → Nat} {qk : Nat → Nat} {qr : Nat → Nat} {qs : Nat → Nat → Nat} {a : Nat} {τ : TX} {D : va_G} {A : Nat → Prop} {res : Int32 × XS} (σ : XS) (a3_ : Int32) (b0_ : Int64) (C : Cx X cX5_changeHouse RX5 6 D (gty cy) A 3 0 0) (hR : Rt X (some .int) D (gty cy) A 0 0 (eI (wX5 cy q qn qt qk qr qs a τ res.2) res.1))  (ok : oX5_changeHouse_93 τ  σ a3_ b0_) (h : pX5_changeHouse_93 τ  σ a3_ b0_ = res) : At X D A 6 0 0 93 [(0, .ref (q 8)), (3, .int a3_)] [.long b0_, .ref (va_up qn 9 a 12)] (wX5 cy q qn qt qk qr qs a τ σ) := by
  unfold pX5_changeHouse_93 at h
  unfold oX5_changeHouse_93 at ok
  refine r_put C 1 kw_X4 tyX4_ok nmX4 rfl rfl (by decide) kf_X5_103 rfl rfl rfl rfl rfl (Nat.le_of_ble_eq_true rfl) (pu_X5_n_8 cy q qn qt qk qr qs a τ σ b0_) (dall tdX5_changeHouse 47 rfl) ?_
  refine r_aload_n C 0 (dall tdX5_changeHouse 48 rfl) rfl ?_
  refine r_get C 0 kw_X5 rfl rfl (by decide) kf_X5_20 rfl rfl (dall tdX5_changeHouse 49 rfl) ?_
  have o1 := ok
  refine rcN_V (as := []) C (zX4_dropLoose cy (va_up qn 9 a) (tw cy a τ) ((xN σ (oL σ.2.1 8 b0_)).2.1)  o1) mv_X4_dropLoose km_X5_254 (by decide) (by decide) ⟨Nat.le_refl _, Nat.le_refl _⟩ rfl rfl (Nat.le_of_ble_eq_true rfl) (dall tdX5_changeHouse 50 rfl) ?_
  refine r_pick [1] rfl ?_
  exact wX5_changeHouse_103 (xN (xN σ (oL σ.2.1 8 b0_)) (fX4_dropLoose ((xN σ (oL σ.2.1 8 b0_)).2.1) )) a3_ C hR  h
def pX5_changeHouse_51 (τ : TX)  (σ : XS) (a1_ : Int32) (a2_ : Int32) (b0_ : Int32) : Int32 × XS := if a2_ = 1 then pX5_changeHouse_93 τ  σ b0_ ((σ.2.1.2.1 8) ||| (jshl 1 a1_)) else pX5_changeHouse_93 τ  σ b0_ ((σ.2.1.2.1 8) &&& ((jshl 1 a1_) ^^^ (-1)))
def oX5_changeHouse_51 (τ : TX)  (σ : XS) (a1_ : Int32) (a2_ : Int32) (b0_ : Int32) : Prop := (a2_ = 1 → oX5_changeHouse_93 τ  σ b0_ ((σ.2.1.2.1 8) ||| (jshl 1 a1_))) ∧ (¬ (a2_ = 1) → oX5_changeHouse_93 τ  σ b0_ ((σ.2.1.2.1 8) &&& ((jshl 1 a1_) ^^^ (-1))))
set_option maxHeartbeats 4000000 in
set_option maxRecDepth 100000 in
theorem wX5_changeHouse_51 {X : CX} {cy : Nat → ClassId} {q : Nat → Nat} {qn : Nat → Nat} {qt : Nat → Nat} {qk : Nat → Nat} {qr : Nat → Nat} {qs : Nat → Nat → Nat} {a : Nat} {τ : TX} {D : va_G} {A : Nat → Prop} {res : Int32 × XS} (σ : XS) (a1_ : Int32) (a2_ : Int32) (b0_ : Int32) (C : Cx X cX5_changeHouse RX5 6 D (gty cy) A 3 0 0) (hR : Rt X (some .int) D (gty cy) A 0 0 (eI (wX5 cy q qn qt qk qr qs a τ res.2) res.1))  (ok : oX5_changeHouse_51 τ  σ a1_ a2_ b0_) (h : pX5_changeHouse_51 τ  σ a1_ a2_ b0_ = res) : At X D A 6 0 0 51 [(0, .ref (q 8)), (1, .int a1_), (2, .int a2_)] [.int b0_] (wX5 cy q qn qt qk qr qs a τ σ) := by
  unfold pX5_changeHouse_51 at h
  unfold oX5_changeHouse_51 at ok
  refine r_istore_n (lv' := [(3, .int b0_), (0, .ref (q 8)), (1, .int a1_), (2, .int a2_)]) C (dall tdX5_changeHouse 24 rfl) (by decide) rfl ?_
  refine r_lconst (v := 1) C (dall tdX5_changeHouse 25 rfl) (by decide) ?_
  refine r_iload_n C 2 (dall tdX5_changeHouse 26 rfl) rfl ?_
  refine r_lshl C (dall tdX5_changeHouse 27 rfl) ?_
  refine r_lstore (lv' := [(4, .long (jshl 1 a1_)), (3, .int b0_), (0, .ref (q 8)), (1, .int a1_), (2, .int a2_)]) C (dall tdX5_changeHouse 28 rfl) (by decide) rfl ?_
  refine r_aload_n C 2 (dall tdX5_changeHouse 29 rfl) rfl ?_
  refine r_get C 0 kw_X5 rfl rfl (by decide) kf_X5_20 rfl rfl (dall tdX5_changeHouse 30 rfl) ?_
  refine r_iload_n C 4 (dall tdX5_changeHouse 31 rfl) rfl ?_
  refine r_iconst (v := 1) C (dall tdX5_changeHouse 32 rfl) (by decide) ?_
  refine r_icmp_ne (tgt := 79) C (dall tdX5_changeHouse 33 rfl) (by decide) (fun c2 => ?_) (fun c2 => ?_)
  · have h := (if_neg c2).symm.trans h
    have ok := ok.2 c2
    refine r_aload_n C 2 (dall tdX5_changeHouse 40 rfl) rfl ?_
    refine r_get C 0 kw_X5 rfl rfl (by decide) kf_X5_20 rfl rfl (dall tdX5_changeHouse 41 rfl) ?_
    refine r_get C 1 kw_X4 rfl rfl (by decide) kf_X5_103 rfl rfl (dall tdX5_changeHouse 42 rfl) ?_
    refine r_lload C 0 (dall tdX5_changeHouse 43 rfl) rfl ?_
    refine r_ldc2 C kk_X5_252 (dall tdX5_changeHouse 44 rfl) ?_
    refine r_lxor C (dall tdX5_changeHouse 45 rfl) ?_
    refine r_land C (dall tdX5_changeHouse 46 rfl) ?_
    refine r_pick [2, 1] rfl ?_
    exact wX5_changeHouse_93 σ b0_ ((σ.2.1.2.1 8) &&& ((jshl 1 a1_) ^^^ (-1))) C hR  ok h
  · have h := (if_pos c2).symm.trans h
    have ok := ok.1 c2
    refine r_aload_n C 2 (dall tdX5_changeHouse 34 rfl) rfl ?_
    refine r_get C 0 kw_X5 rfl rfl (by decide) kf_X5_20 rfl rfl (dall tdX5_changeHouse 35 rfl) ?_
    refine r_get C 1 kw_X4 rfl rfl (by decide) kf_X5_103 rfl rfl (dall tdX5_changeHouse 36 rfl) ?_
    refine r_lload C 0 (dall tdX5_changeHouse 37 rfl) rfl ?_
    refine r_lor C (dall tdX5_changeHouse 38 rfl) ?_
    refine r_goto (tgt := 93) C (dall tdX5_changeHouse 39 rfl) (by decide) ?_
    refine r_pick [2, 1] rfl ?_
    exact wX5_changeHouse_93 σ b0_ ((σ.2.1.2.1 8) ||| (jshl 1 a1_)) C hR  ok h
def pX5_changeHouse_0 (τ : TX)  (σ : XS) (a1_ : Int32) (a2_ : Int32) : Int32 × XS := if (fX5_isCell a1_) = 0 then ((-2), σ) else if (fX5_within a2_ 1) = 0 then ((-2), σ) else if (fX3_has (fX4_allUp σ.2.1) a1_) = 0 then if (fX3_has (σ.2.1.2.1 8) a1_) = 0 then pX5_changeHouse_51 τ  σ a1_ a2_ 0 else pX5_changeHouse_51 τ  σ a1_ a2_ 1 else ((-2), σ)
def oX5_changeHouse_0 (τ : TX)  (σ : XS) (a1_ : Int32) (a2_ : Int32) : Prop := (gX5_isCell a1_) ∧ (((fX5_isCell a1_) = 0 → True) ∧ (¬ ((fX5_isCell a1_) = 0) → ((fX5_within a2_ 1) = 0 → True) ∧ (¬ ((fX5_within a2_ 1) = 0) → (gX4_allUp σ.2.1 ) ∧ (((fX3_has (fX4_allUp σ.2.1) a1_) = 0 → ((fX3_has (σ.2.1.2.1 8) a1_) = 0 → oX5_changeHouse_51 τ  σ a1_ a2_ 0) ∧ (¬ ((fX3_has (σ.2.1.2.1 8) a1_) = 0) → oX5_changeHouse_51 τ  σ a1_ a2_ 1)) ∧ (¬ ((fX3_has (fX4_allUp σ.2.1) a1_) = 0) → True)))))
set_option maxHeartbeats 4000000 in
set_option maxRecDepth 100000 in
theorem wX5_changeHouse_0 {X : CX} {cy : Nat → ClassId} {q : Nat → Nat} {qn : Nat → Nat} {qt : Nat → Nat} {qk : Nat → Nat} {qr : Nat → Nat} {qs : Nat → Nat → Nat} {a : Nat} {τ : TX} {D : va_G} {A : Nat → Prop} {res : Int32 × XS} (σ : XS) (a1_ : Int32) (a2_ : Int32) (C : Cx X cX5_changeHouse RX5 6 D (gty cy) A 3 0 0) (hR : Rt X (some .int) D (gty cy) A 0 0 (eI (wX5 cy q qn qt qk qr qs a τ res.2) res.1))  (ok : oX5_changeHouse_0 τ  σ a1_ a2_) (h : pX5_changeHouse_0 τ  σ a1_ a2_ = res) : At X D A 6 0 0 0 [(0, .ref (q 8)), (1, .int a1_), (2, .int a2_)] [] (wX5 cy q qn qt qk qr qs a τ σ) := by
  unfold pX5_changeHouse_0 at h
  unfold oX5_changeHouse_0 at ok
  refine r_iload_n C 1 (dall tdX5_changeHouse 0 rfl) rfl ?_
  obtain ⟨o3, ok⟩ := ok
  refine r_s0I (as := [.int a1_]) C (zX5_isCell a1_ o3) ms_X5_isCell km_X5_91 (by decide) (by decide) ⟨Nat.le_refl _, Nat.le_refl _⟩ rfl rfl (Nat.le_of_ble_eq_true rfl) (dall tdX5_changeHouse 1 rfl) ?_
  refine r_if_eq (tgt := 29) C (dall tdX5_changeHouse 2 rfl) (by decide) (fun c4 => ?_) (fun c4 => ?_)
  · have h := (if_pos c4).symm.trans h
    have ok := ok.1 c4
    refine r_bipush (v := -2) C (dall tdX5_changeHouse 13 rfl) (by decide) ?_
    exact r_iret C hR (dall tdX5_changeHouse 14 rfl) (by subst h; exact ⟨rfl, rfl⟩)
  · have h := (if_neg c4).symm.trans h
    have ok := ok.2 c4
    refine r_iload_n C 2 (dall tdX5_changeHouse 3 rfl) rfl ?_
    refine r_iconst (v := 1) C (dall tdX5_changeHouse 4 rfl) (by decide) ?_
    refine r_s0I (as := [.int a2_, .int 1]) C (zX5_within a2_ 1 ) ms_X5_within km_X5_74 (by decide) (by decide) ⟨Nat.le_refl _, Nat.le_refl _⟩ rfl rfl (Nat.le_of_ble_eq_true rfl) (dall tdX5_changeHouse 5 rfl) ?_
    refine r_if_eq (tgt := 29) C (dall tdX5_changeHouse 6 rfl) (by decide) (fun c5 => ?_) (fun c5 => ?_)
    · have h := (if_pos c5).symm.trans h
      have ok := ok.1 c5
      refine r_bipush (v := -2) C (dall tdX5_changeHouse 13 rfl) (by decide) ?_
      exact r_iret C hR (dall tdX5_changeHouse 14 rfl) (by subst h; exact ⟨rfl, rfl⟩)
    · have h := (if_neg c5).symm.trans h
      have ok := ok.2 c5
      refine r_aload_n C 0 (dall tdX5_changeHouse 7 rfl) rfl ?_
      refine r_get C 0 kw_X5 rfl rfl (by decide) kf_X5_20 rfl rfl (dall tdX5_changeHouse 8 rfl) ?_
      obtain ⟨o6, ok⟩ := ok
      refine rcN_L0 (as := []) C (zX4_allUp cy (va_up qn 9 a) (tw cy a τ) σ.2.1  o6) mv_X4_allUp km_X5_154 (by decide) (by decide) ⟨Nat.le_refl _, Nat.le_refl _⟩ rfl rfl (Nat.le_of_ble_eq_true rfl) (dall tdX5_changeHouse 9 rfl) ?_
      refine r_iload_n C 1 (dall tdX5_changeHouse 10 rfl) rfl ?_
      refine r_s0I (as := [.long (fX4_allUp σ.2.1), .int a1_]) C (zX3_has (fX4_allUp σ.2.1) a1_ ) ms_X3_has km_X5_140 (by decide) (by decide) ⟨Nat.le_refl _, Nat.le_refl _⟩ rfl rfl (Nat.le_of_ble_eq_true rfl) (dall tdX5_changeHouse 11 rfl) ?_
      refine r_if_eq (tgt := 32) C (dall tdX5_changeHouse 12 rfl) (by decide) (fun c7 => ?_) (fun c7 => ?_)
      · have h := (if_pos c7).symm.trans h
        have ok := ok.1 c7
        refine r_aload_n C 0 (dall tdX5_changeHouse 15 rfl) rfl ?_
        refine r_get C 0 kw_X5 rfl rfl (by decide) kf_X5_20 rfl rfl (dall tdX5_changeHouse 16 rfl) ?_
        refine r_get C 1 kw_X4 rfl rfl (by decide) kf_X5_103 rfl rfl (dall tdX5_changeHouse 17 rfl) ?_
        refine r_iload_n C 1 (dall tdX5_changeHouse 18 rfl) rfl ?_
        refine r_s0I (as := [.long (σ.2.1.2.1 8), .int a1_]) C (zX3_has (σ.2.1.2.1 8) a1_ ) ms_X3_has km_X5_140 (by decide) (by decide) ⟨Nat.le_refl _, Nat.le_refl _⟩ rfl rfl (Nat.le_of_ble_eq_true rfl) (dall tdX5_changeHouse 19 rfl) ?_
        refine r_if_eq (tgt := 50) C (dall tdX5_changeHouse 20 rfl) (by decide) (fun c8 => ?_) (fun c8 => ?_)
        · have h := (if_pos c8).symm.trans h
          have ok := ok.1 c8
          refine r_iconst (v := 0) C (dall tdX5_changeHouse 23 rfl) (by decide) ?_
          exact wX5_changeHouse_51 σ a1_ a2_ 0 C hR  ok h
        · have h := (if_neg c8).symm.trans h
          have ok := ok.2 c8
          refine r_iconst (v := 1) C (dall tdX5_changeHouse 21 rfl) (by decide) ?_
          refine r_goto (tgt := 51) C (dall tdX5_changeHouse 22 rfl) (by decide) ?_
          exact wX5_changeHouse_51 σ a1_ a2_ 1 C hR  ok h
      · have h := (if_neg c7).symm.trans h
        have ok := ok.2 c7
        refine r_bipush (v := -2) C (dall tdX5_changeHouse 13 rfl) (by decide) ?_
        exact r_iret C hR (dall tdX5_changeHouse 14 rfl) (by subst h; exact ⟨rfl, rfl⟩)
def fX5_changeHouse (τ : TX) (σ : XS) (a1_ : Int32) (a2_ : Int32) : Int32 × XS := pX5_changeHouse_0 τ  σ a1_ a2_
def gX5_changeHouse (τ : TX) (σ : XS) (a1_ : Int32) (a2_ : Int32) : Prop := oX5_changeHouse_0 τ  σ a1_ a2_
set_option maxRecDepth 100000 in
theorem zX5_changeHouse (cy : Nat → ClassId) (q : Nat → Nat) (qn : Nat → Nat) (qt : Nat → Nat) (qk : Nat → Nat) (qr : Nat → Nat) (qs : Nat → Nat → Nat) (a : Nat) (τ : TX)  {D : va_G} (σ : XS) (a1_ : Int32) (a2_ : Int32) (ok : gX5_changeHouse τ σ a1_ a2_)  : Con yX5_changeHouse cX5_changeHouse 6 (some .int) 3 0 0 D (gty cy) [.ref (q 8), .int a1_, .int a2_] (wX5 cy q qn qt qk qr qs a τ σ) (eI (wX5 cy q qn qt qk qr qs a τ (fX5_changeHouse τ σ a1_ a2_).2) (fX5_changeHouse τ σ a1_ a2_).1) :=
  Con.of (own := RX5) (by decide +kernel) rfl (Nat.le_of_ble_eq_true rfl) (Nat.zero_le _) (fun X A C hR _ => (wX5_changeHouse_0 σ a1_ a2_ C hR  ok rfl))
theorem mv_X5_changeHouse : MV yX5_changeHouse cX5_changeHouse 6 (some .int) RX5 2 := ⟨ki_X5_changeHouse, kv_X5_changeHouse, kn_X5, kc_X5_changeHouse, by decide +kernel⟩
def tbX5_set : List (Nat × Instr × Nat) := [(0, .iload_n 1, 1), (1, .tableswitch 76 0 3 #[31, 37, 53, 69], 31), (32, .aload_n 0, 1), (33, .iload_n 3, 1), (34, .invokevirtual 51, 3), (37, .ireturn, 1), (38, .aload_n 0, 1), (39, .aload_n 0, 1), (40, .getfield 20, 3), (43, .getfield 55, 3), (46, .iload_n 2, 1), (47, .iload_n 3, 1), (48, .bipush 9, 2), (50, .invokevirtual 59, 3), (53, .ireturn, 1), (54, .aload_n 0, 1), (55, .aload_n 0, 1), (56, .getfield 20, 3), (59, .getfield 63, 3), (62, .iload_n 2, 1), (63, .iload_n 3, 1), (64, .bipush 99, 2), (66, .invokevirtual 59, 3), (69, .ireturn, 1), (70, .aload_n 0, 1), (71, .iload_n 2, 1), (72, .iload_n 3, 1), (73, .invokevirtual 66, 3), (76, .ireturn, 1), (77, .bipush (-2), 2), (79, .ireturn, 1)]
theorem tdX5_set : tbX5_set.all (fun q => decide (decode cX5_set q.1 = .ok q.2)) = true := by decide +kernel
def pX5_set_37 (τ : TX)  (σ : XS) (b0_ : Int32) : Int32 × XS := (b0_, σ)
set_option maxHeartbeats 4000000 in
set_option maxRecDepth 100000 in
theorem wX5_set_37 {X : CX} {cy : Nat → ClassId} {q : Nat → Nat} {qn : Nat → Nat} {qt : Nat → Nat} {qk : Nat → Nat} {qr : Nat → Nat} {qs : Nat → Nat → Nat} {a : Nat} {τ : TX} {D : va_G} {A : Nat → Prop} {res : Int32 × XS} (σ : XS) (b0_ : Int32) (C : Cx X cX5_set RX5 4 D (gty cy) A 4 0 0) (hR : Rt X (some .int) D (gty cy) A 0 0 (eI (wX5 cy q qn qt qk qr qs a τ res.2) res.1))  (h : pX5_set_37 τ  σ b0_ = res) : At X D A 4 0 0 37 [] [.int b0_] (wX5 cy q qn qt qk qr qs a τ σ) := by
  unfold pX5_set_37 at h
  exact r_iret C hR (dall tdX5_set 5 rfl) (by subst h; exact ⟨rfl, rfl⟩)
def pX5_set_53 (τ : TX)  (σ : XS) (b0_ : Int32) : Int32 × XS := (b0_, σ)
set_option maxHeartbeats 4000000 in
set_option maxRecDepth 100000 in
theorem wX5_set_53 {X : CX} {cy : Nat → ClassId} {q : Nat → Nat} {qn : Nat → Nat} {qt : Nat → Nat} {qk : Nat → Nat} {qr : Nat → Nat} {qs : Nat → Nat → Nat} {a : Nat} {τ : TX} {D : va_G} {A : Nat → Prop} {res : Int32 × XS} (σ : XS) (b0_ : Int32) (C : Cx X cX5_set RX5 4 D (gty cy) A 4 0 0) (hR : Rt X (some .int) D (gty cy) A 0 0 (eI (wX5 cy q qn qt qk qr qs a τ res.2) res.1))  (h : pX5_set_53 τ  σ b0_ = res) : At X D A 4 0 0 53 [] [.int b0_] (wX5 cy q qn qt qk qr qs a τ σ) := by
  unfold pX5_set_53 at h
  exact r_iret C hR (dall tdX5_set 14 rfl) (by subst h; exact ⟨rfl, rfl⟩)
def pX5_set_69 (τ : TX)  (σ : XS) (b0_ : Int32) : Int32 × XS := (b0_, σ)
set_option maxHeartbeats 4000000 in
set_option maxRecDepth 100000 in
theorem wX5_set_69 {X : CX} {cy : Nat → ClassId} {q : Nat → Nat} {qn : Nat → Nat} {qt : Nat → Nat} {qk : Nat → Nat} {qr : Nat → Nat} {qs : Nat → Nat → Nat} {a : Nat} {τ : TX} {D : va_G} {A : Nat → Prop} {res : Int32 × XS} (σ : XS) (b0_ : Int32) (C : Cx X cX5_set RX5 4 D (gty cy) A 4 0 0) (hR : Rt X (some .int) D (gty cy) A 0 0 (eI (wX5 cy q qn qt qk qr qs a τ res.2) res.1))  (h : pX5_set_69 τ  σ b0_ = res) : At X D A 4 0 0 69 [] [.int b0_] (wX5 cy q qn qt qk qr qs a τ σ) := by
  unfold pX5_set_69 at h
  exact r_iret C hR (dall tdX5_set 23 rfl) (by subst h; exact ⟨rfl, rfl⟩)
def pX5_set_76 (τ : TX)  (σ : XS) (b0_ : Int32) : Int32 × XS := (b0_, σ)
set_option maxHeartbeats 4000000 in
set_option maxRecDepth 100000 in
theorem wX5_set_76 {X : CX} {cy : Nat → ClassId} {q : Nat → Nat} {qn : Nat → Nat} {qt : Nat → Nat} {qk : Nat → Nat} {qr : Nat → Nat} {qs : Nat → Nat → Nat} {a : Nat} {τ : TX} {D : va_G} {A : Nat → Prop} {res : Int32 × XS} (σ : XS) (b0_ : Int32) (C : Cx X cX5_set RX5 4 D (gty cy) A 4 0 0) (hR : Rt X (some .int) D (gty cy) A 0 0 (eI (wX5 cy q qn qt qk qr qs a τ res.2) res.1))  (h : pX5_set_76 τ  σ b0_ = res) : At X D A 4 0 0 76 [] [.int b0_] (wX5 cy q qn qt qk qr qs a τ σ) := by
  unfold pX5_set_76 at h
  exact r_iret C hR (dall tdX5_set 28 rfl) (by subst h; exact ⟨rfl, rfl⟩)
def pX5_set_0 (τ : TX)  (σ : XS) (a1_ : Int32) (a2_ : Int32) (a3_ : Int32) : Int32 × XS := if a1_ = 0 then pX5_set_37 τ  ((fX5_changeYear τ σ a3_).2) ((fX5_changeYear τ σ a3_).1) else if a1_ = 1 then pX5_set_53 τ  ((fX5_changeOfOne_n1 τ σ a2_ a3_ 9).2) ((fX5_changeOfOne_n1 τ σ a2_ a3_ 9).1) else if a1_ = 2 then pX5_set_69 τ  ((fX5_changeOfOne_n2 τ σ a2_ a3_ 99).2) ((fX5_changeOfOne_n2 τ σ a2_ a3_ 99).1) else if a1_ = 3 then pX5_set_76 τ  ((fX5_changeHouse τ σ a2_ a3_).2) ((fX5_changeHouse τ σ a2_ a3_).1) else ((-2), σ)
def oX5_set_0 (τ : TX)  (σ : XS) (a1_ : Int32) (a2_ : Int32) (a3_ : Int32) : Prop := (a1_ = 0 → True) ∧ (¬ a1_ = 0 → (a1_ = 1 → gX5_changeOfOne_n1 τ σ a2_ a3_ 9) ∧ (¬ a1_ = 1 → (a1_ = 2 → gX5_changeOfOne_n2 τ σ a2_ a3_ 99) ∧ (¬ a1_ = 2 → (a1_ = 3 → gX5_changeHouse τ σ a2_ a3_) ∧ (¬ a1_ = 3 → True))))
set_option maxHeartbeats 4000000 in
set_option maxRecDepth 100000 in
theorem wX5_set_0 {X : CX} {cy : Nat → ClassId} {q : Nat → Nat} {qn : Nat → Nat} {qt : Nat → Nat} {qk : Nat → Nat} {qr : Nat → Nat} {qs : Nat → Nat → Nat} {a : Nat} {τ : TX} {D : va_G} {A : Nat → Prop} {res : Int32 × XS} (σ : XS) (a1_ : Int32) (a2_ : Int32) (a3_ : Int32) (C : Cx X cX5_set RX5 4 D (gty cy) A 4 0 0) (hR : Rt X (some .int) D (gty cy) A 0 0 (eI (wX5 cy q qn qt qk qr qs a τ res.2) res.1))  (ok : oX5_set_0 τ  σ a1_ a2_ a3_) (h : pX5_set_0 τ  σ a1_ a2_ a3_ = res) : At X D A 4 0 0 0 [(0, .ref (q 8)), (1, .int a1_), (2, .int a2_), (3, .int a3_)] [] (wX5 cy q qn qt qk qr qs a τ σ) := by
  unfold pX5_set_0 at h
  unfold oX5_set_0 at ok
  refine r_iload_n C 1 (dall tdX5_set 0 rfl) rfl ?_
  by_cases e1_0 : a1_ = 0
  · have h := (if_pos e1_0).symm.trans h
    have ok := ok.1 e1_0
    refine r_tsIn (off := 31) (tgt := 32) C 0 (dall tdX5_set 1 rfl) e1_0 (by decide) (by decide) (by decide) (by decide) ?_
    refine r_aload_n C 0 (dall tdX5_set 2 rfl) rfl ?_
    refine r_iload_n C 3 (dall tdX5_set 3 rfl) rfl ?_
    refine r_vI (as := [.int a3_]) C (zX5_changeYear cy q qn qt qk qr qs a τ σ a3_ ) mv_X5_changeYear km_X5_51 (by decide) (by decide) ⟨Nat.le_refl _, Nat.le_refl _⟩ rfl rfl rfl rfl (Nat.le_of_ble_eq_true rfl) (dall tdX5_set 4 rfl) ?_
    refine r_pick [] rfl ?_
    exact wX5_set_37 ((fX5_changeYear τ σ a3_).2) ((fX5_changeYear τ σ a3_).1) C hR  h
  · have h := (if_neg e1_0).symm.trans h
    have ok := ok.2 e1_0
    by_cases e1_1 : a1_ = 1
    · have h := (if_pos e1_1).symm.trans h
      have ok := ok.1 e1_1
      refine r_tsIn (off := 37) (tgt := 38) C 1 (dall tdX5_set 1 rfl) e1_1 (by decide) (by decide) (by decide) (by decide) ?_
      refine r_aload_n C 0 (dall tdX5_set 6 rfl) rfl ?_
      refine r_aload_n C 0 (dall tdX5_set 7 rfl) rfl ?_
      refine r_get C 0 kw_X5 rfl rfl (by decide) kf_X5_20 rfl rfl (dall tdX5_set 8 rfl) ?_
      refine r_get C 1 kw_X4 rfl rfl (by decide) kf_X5_55 rfl rfl (dall tdX5_set 9 rfl) ?_
      refine r_iload_n C 2 (dall tdX5_set 10 rfl) rfl ?_
      refine r_iload_n C 3 (dall tdX5_set 11 rfl) rfl ?_
      refine r_bipush (v := 9) C (dall tdX5_set 12 rfl) (by decide) ?_
      have o1 := ok
      refine r_vI (as := [.ref (va_up qn 9 a 1), .int a2_, .int a3_, .int 9]) C (zX5_changeOfOne_n1 cy q qn qt qk qr qs a τ σ a2_ a3_ 9 o1) mv_X5_changeOfOne_n1 km_X5_59 (by decide) (by decide) ⟨Nat.le_refl _, Nat.le_refl _⟩ rfl rfl rfl rfl (Nat.le_of_ble_eq_true rfl) (dall tdX5_set 13 rfl) ?_
      refine r_pick [] rfl ?_
      exact wX5_set_53 ((fX5_changeOfOne_n1 τ σ a2_ a3_ 9).2) ((fX5_changeOfOne_n1 τ σ a2_ a3_ 9).1) C hR  h
    · have h := (if_neg e1_1).symm.trans h
      have ok := ok.2 e1_1
      by_cases e1_2 : a1_ = 2
      · have h := (if_pos e1_2).symm.trans h
        have ok := ok.1 e1_2
        refine r_tsIn (off := 53) (tgt := 54) C 2 (dall tdX5_set 1 rfl) e1_2 (by decide) (by decide) (by decide) (by decide) ?_
        refine r_aload_n C 0 (dall tdX5_set 15 rfl) rfl ?_
        refine r_aload_n C 0 (dall tdX5_set 16 rfl) rfl ?_
        refine r_get C 0 kw_X5 rfl rfl (by decide) kf_X5_20 rfl rfl (dall tdX5_set 17 rfl) ?_
        refine r_get C 1 kw_X4 rfl rfl (by decide) kf_X5_63 rfl rfl (dall tdX5_set 18 rfl) ?_
        refine r_iload_n C 2 (dall tdX5_set 19 rfl) rfl ?_
        refine r_iload_n C 3 (dall tdX5_set 20 rfl) rfl ?_
        refine r_bipush (v := 99) C (dall tdX5_set 21 rfl) (by decide) ?_
        have o2 := ok
        refine r_vI (as := [.ref (va_up qn 9 a 2), .int a2_, .int a3_, .int 99]) C (zX5_changeOfOne_n2 cy q qn qt qk qr qs a τ σ a2_ a3_ 99 o2) mv_X5_changeOfOne_n2 km_X5_59 (by decide) (by decide) ⟨Nat.le_refl _, Nat.le_refl _⟩ rfl rfl rfl rfl (Nat.le_of_ble_eq_true rfl) (dall tdX5_set 22 rfl) ?_
        refine r_pick [] rfl ?_
        exact wX5_set_69 ((fX5_changeOfOne_n2 τ σ a2_ a3_ 99).2) ((fX5_changeOfOne_n2 τ σ a2_ a3_ 99).1) C hR  h
      · have h := (if_neg e1_2).symm.trans h
        have ok := ok.2 e1_2
        by_cases e1_3 : a1_ = 3
        · have h := (if_pos e1_3).symm.trans h
          have ok := ok.1 e1_3
          refine r_tsIn (off := 69) (tgt := 70) C 3 (dall tdX5_set 1 rfl) e1_3 (by decide) (by decide) (by decide) (by decide) ?_
          refine r_aload_n C 0 (dall tdX5_set 24 rfl) rfl ?_
          refine r_iload_n C 2 (dall tdX5_set 25 rfl) rfl ?_
          refine r_iload_n C 3 (dall tdX5_set 26 rfl) rfl ?_
          have o3 := ok
          refine r_vI (as := [.int a2_, .int a3_]) C (zX5_changeHouse cy q qn qt qk qr qs a τ σ a2_ a3_ o3) mv_X5_changeHouse km_X5_66 (by decide) (by decide) ⟨Nat.le_refl _, Nat.le_refl _⟩ rfl rfl rfl rfl (Nat.le_of_ble_eq_true rfl) (dall tdX5_set 27 rfl) ?_
          refine r_pick [] rfl ?_
          exact wX5_set_76 ((fX5_changeHouse τ σ a2_ a3_).2) ((fX5_changeHouse τ σ a2_ a3_).1) C hR  h
        · have h := (if_neg e1_3).symm.trans h
          have ok := ok.2 e1_3
          refine r_tsOut (tgt := 77) C (dall tdX5_set 1 rfl) (by have n0 := ne_toInt e1_0; rw [show (0 : Int32).toInt = 0 from by decide] at n0; have n1 := ne_toInt e1_1; rw [show (1 : Int32).toInt = 1 from by decide] at n1; have n2 := ne_toInt e1_2; rw [show (2 : Int32).toInt = 2 from by decide] at n2; have n3 := ne_toInt e1_3; rw [show (3 : Int32).toInt = 3 from by decide] at n3; omega) (by decide) ?_
          refine r_bipush (v := -2) C (dall tdX5_set 29 rfl) (by decide) ?_
          exact r_iret C hR (dall tdX5_set 30 rfl) (by subst h; exact ⟨rfl, rfl⟩)
def fX5_set (τ : TX) (σ : XS) (a1_ : Int32) (a2_ : Int32) (a3_ : Int32) : Int32 × XS := pX5_set_0 τ  σ a1_ a2_ a3_
def gX5_set (τ : TX) (σ : XS) (a1_ : Int32) (a2_ : Int32) (a3_ : Int32) : Prop := oX5_set_0 τ  σ a1_ a2_ a3_
set_option maxRecDepth 100000 in
theorem zX5_set (cy : Nat → ClassId) (q : Nat → Nat) (qn : Nat → Nat) (qt : Nat → Nat) (qk : Nat → Nat) (qr : Nat → Nat) (qs : Nat → Nat → Nat) (a : Nat) (τ : TX)  {D : va_G} (σ : XS) (a1_ : Int32) (a2_ : Int32) (a3_ : Int32) (ok : gX5_set τ σ a1_ a2_ a3_)  : Con yX5_set cX5_set 4 (some .int) 4 0 0 D (gty cy) [.ref (q 8), .int a1_, .int a2_, .int a3_] (wX5 cy q qn qt qk qr qs a τ σ) (eI (wX5 cy q qn qt qk qr qs a τ (fX5_set τ σ a1_ a2_ a3_).2) (fX5_set τ σ a1_ a2_ a3_).1) :=
  Con.of (own := RX5) (by decide +kernel) rfl (Nat.le_of_ble_eq_true rfl) (Nat.zero_le _) (fun X A C hR _ => (wX5_set_0 σ a1_ a2_ a3_ C hR  ok rfl))
theorem mv_X5_set : MV yX5_set cX5_set 4 (some .int) RX5 3 := ⟨ki_X5_set, kv_X5_set, kn_X5, kc_X5_set, by decide +kernel⟩
def tbX5_regret : List (Nat × Instr × Nat) := [(0, .iload_n 1, 1), (1, .invokestatic 70, 3), (4, .ifCond .eq 21, 3), (7, .iload_n 2, 1), (8, .bipush 9, 2), (10, .invokestatic 74, 3), (13, .ifCond .eq 12, 3), (16, .iload_n 3, 1), (17, .bipush 99, 2), (19, .invokestatic 74, 3), (22, .ifCond .ne 6, 3), (25, .bipush (-2), 2), (27, .ireturn, 1), (28, .aload_n 0, 1), (29, .getfield 20, 3), (32, .getfield 78, 3), (35, .iconst 5, 1), (36, .if_icmp .lt 6, 3), (39, .bipush (-4), 2), (41, .ireturn, 1), (42, .aload_n 0, 1), (43, .getfield 20, 3), (46, .getfield 78, 3), (49, .istore 4, 2), (51, .aload_n 0, 1), (52, .getfield 20, 3), (55, .getfield 81, 3), (58, .iload 4, 2), (60, .iload_n 1, 1), (61, .iastore, 1), (62, .aload_n 0, 1), (63, .getfield 20, 3), (66, .getfield 55, 3), (69, .iload 4, 2), (71, .iload_n 2, 1), (72, .iastore, 1), (73, .aload_n 0, 1), (74, .getfield 20, 3), (77, .getfield 63, 3), (80, .iload 4, 2), (82, .iload_n 3, 1), (83, .iastore, 1), (84, .aload_n 0, 1), (85, .getfield 20, 3), (88, .getfield 84, 3), (91, .iload 4, 2), (93, .lconst 0, 1), (94, .lastore, 1), (95, .aload_n 0, 1), (96, .getfield 20, 3), (99, .iload 4, 2), (101, .iconst 1, 1), (102, .iadd, 1), (103, .putfield 78, 3), (106, .iload 4, 2), (108, .ireturn, 1)]
theorem tdX5_regret : tbX5_regret.all (fun q => decide (decode cX5_regret q.1 = .ok q.2)) = true := by decide +kernel
def pX5_regret_0 (τ : TX)  (σ : XS) (a1_ : Int32) (a2_ : Int32) (a3_ : Int32) : Int32 × XS := if (fX5_isKind a1_) = 0 then ((-2), σ) else if (fX5_within a2_ 9) = 0 then ((-2), σ) else if (fX5_within a3_ 99) = 0 then ((-2), σ) else if (σ.2.1.1 4) < 5 then (σ.2.1.1 4, xN (xN (xN (xN (xN σ (oS σ.2.1 0 ((σ.2.1.1 4).toNatClampNeg) a1_)) (oS ((xN σ (oS σ.2.1 0 ((σ.2.1.1 4).toNatClampNeg) a1_)).2.1) 1 ((σ.2.1.1 4).toNatClampNeg) a2_)) (oS ((xN (xN σ (oS σ.2.1 0 ((σ.2.1.1 4).toNatClampNeg) a1_)) (oS ((xN σ (oS σ.2.1 0 ((σ.2.1.1 4).toNatClampNeg) a1_)).2.1) 1 ((σ.2.1.1 4).toNatClampNeg) a2_)).2.1) 2 ((σ.2.1.1 4).toNatClampNeg) a3_)) (oT ((xN (xN (xN σ (oS σ.2.1 0 ((σ.2.1.1 4).toNatClampNeg) a1_)) (oS ((xN σ (oS σ.2.1 0 ((σ.2.1.1 4).toNatClampNeg) a1_)).2.1) 1 ((σ.2.1.1 4).toNatClampNeg) a2_)) (oS ((xN (xN σ (oS σ.2.1 0 ((σ.2.1.1 4).toNatClampNeg) a1_)) (oS ((xN σ (oS σ.2.1 0 ((σ.2.1.1 4).toNatClampNeg) a1_)).2.1) 1 ((σ.2.1.1 4).toNatClampNeg) a2_)).2.1) 2 ((σ.2.1.1 4).toNatClampNeg) a3_)).2.1) 3 ((σ.2.1.1 4).toNatClampNeg) 0)) (oI ((xN (xN (xN (xN σ (oS σ.2.1 0 ((σ.2.1.1 4).toNatClampNeg) a1_)) (oS ((xN σ (oS σ.2.1 0 ((σ.2.1.1 4).toNatClampNeg) a1_)).2.1) 1 ((σ.2.1.1 4).toNatClampNeg) a2_)) (oS ((xN (xN σ (oS σ.2.1 0 ((σ.2.1.1 4).toNatClampNeg) a1_)) (oS ((xN σ (oS σ.2.1 0 ((σ.2.1.1 4).toNatClampNeg) a1_)).2.1) 1 ((σ.2.1.1 4).toNatClampNeg) a2_)).2.1) 2 ((σ.2.1.1 4).toNatClampNeg) a3_)) (oT ((xN (xN (xN σ (oS σ.2.1 0 ((σ.2.1.1 4).toNatClampNeg) a1_)) (oS ((xN σ (oS σ.2.1 0 ((σ.2.1.1 4).toNatClampNeg) a1_)).2.1) 1 ((σ.2.1.1 4).toNatClampNeg) a2_)) (oS ((xN (xN σ (oS σ.2.1 0 ((σ.2.1.1 4).toNatClampNeg) a1_)) (oS ((xN σ (oS σ.2.1 0 ((σ.2.1.1 4).toNatClampNeg) a1_)).2.1) 1 ((σ.2.1.1 4).toNatClampNeg) a2_)).2.1) 2 ((σ.2.1.1 4).toNatClampNeg) a3_)).2.1) 3 ((σ.2.1.1 4).toNatClampNeg) 0)).2.1) 4 ((σ.2.1.1 4) + 1))) else ((-4), σ)
def oX5_regret_0 (τ : TX)  (σ : XS) (a1_ : Int32) (a2_ : Int32) (a3_ : Int32) : Prop := (gX5_isKind a1_) ∧ (((fX5_isKind a1_) = 0 → True) ∧ (¬ ((fX5_isKind a1_) = 0) → ((fX5_within a2_ 9) = 0 → True) ∧ (¬ ((fX5_within a2_ 9) = 0) → ((fX5_within a3_ 99) = 0 → True) ∧ (¬ ((fX5_within a3_ 99) = 0) → ((σ.2.1.1 4) < 5 → (vp_in (σ.2.1.1 4) 5) ∧ ((vp_in (σ.2.1.1 4) 5) ∧ ((vp_in (σ.2.1.1 4) 5) ∧ (vp_in (σ.2.1.1 4) 5)))) ∧ (¬ ((σ.2.1.1 4) < 5) → True)))))
set_option maxHeartbeats 4000000 in
set_option maxRecDepth 100000 in
theorem wX5_regret_0 {X : CX} {cy : Nat → ClassId} {q : Nat → Nat} {qn : Nat → Nat} {qt : Nat → Nat} {qk : Nat → Nat} {qr : Nat → Nat} {qs : Nat → Nat → Nat} {a : Nat} {τ : TX} {D : va_G} {A : Nat → Prop} {res : Int32 × XS} (σ : XS) (a1_ : Int32) (a2_ : Int32) (a3_ : Int32) (C : Cx X cX5_regret RX5 5 D (gty cy) A 2 0 0) (hR : Rt X (some .int) D (gty cy) A 0 0 (eI (wX5 cy q qn qt qk qr qs a τ res.2) res.1))  (ok : oX5_regret_0 τ  σ a1_ a2_ a3_) (h : pX5_regret_0 τ  σ a1_ a2_ a3_ = res) : At X D A 5 0 0 0 [(0, .ref (q 8)), (1, .int a1_), (2, .int a2_), (3, .int a3_)] [] (wX5 cy q qn qt qk qr qs a τ σ) := by
  unfold pX5_regret_0 at h
  unfold oX5_regret_0 at ok
  refine r_iload_n C 1 (dall tdX5_regret 0 rfl) rfl ?_
  obtain ⟨o1, ok⟩ := ok
  refine r_s0I (as := [.int a1_]) C (zX5_isKind a1_ o1) ms_X5_isKind km_X5_70 (by decide) (by decide) ⟨Nat.le_refl _, Nat.le_refl _⟩ rfl rfl (Nat.le_of_ble_eq_true rfl) (dall tdX5_regret 1 rfl) ?_
  refine r_if_eq (tgt := 25) C (dall tdX5_regret 2 rfl) (by decide) (fun c2 => ?_) (fun c2 => ?_)
  · have h := (if_pos c2).symm.trans h
    have ok := ok.1 c2
    refine r_bipush (v := -2) C (dall tdX5_regret 11 rfl) (by decide) ?_
    exact r_iret C hR (dall tdX5_regret 12 rfl) (by subst h; exact ⟨rfl, rfl⟩)
  · have h := (if_neg c2).symm.trans h
    have ok := ok.2 c2
    refine r_iload_n C 2 (dall tdX5_regret 3 rfl) rfl ?_
    refine r_bipush (v := 9) C (dall tdX5_regret 4 rfl) (by decide) ?_
    refine r_s0I (as := [.int a2_, .int 9]) C (zX5_within a2_ 9 ) ms_X5_within km_X5_74 (by decide) (by decide) ⟨Nat.le_refl _, Nat.le_refl _⟩ rfl rfl (Nat.le_of_ble_eq_true rfl) (dall tdX5_regret 5 rfl) ?_
    refine r_if_eq (tgt := 25) C (dall tdX5_regret 6 rfl) (by decide) (fun c3 => ?_) (fun c3 => ?_)
    · have h := (if_pos c3).symm.trans h
      have ok := ok.1 c3
      refine r_bipush (v := -2) C (dall tdX5_regret 11 rfl) (by decide) ?_
      exact r_iret C hR (dall tdX5_regret 12 rfl) (by subst h; exact ⟨rfl, rfl⟩)
    · have h := (if_neg c3).symm.trans h
      have ok := ok.2 c3
      refine r_iload_n C 3 (dall tdX5_regret 7 rfl) rfl ?_
      refine r_bipush (v := 99) C (dall tdX5_regret 8 rfl) (by decide) ?_
      refine r_s0I (as := [.int a3_, .int 99]) C (zX5_within a3_ 99 ) ms_X5_within km_X5_74 (by decide) (by decide) ⟨Nat.le_refl _, Nat.le_refl _⟩ rfl rfl (Nat.le_of_ble_eq_true rfl) (dall tdX5_regret 9 rfl) ?_
      refine r_if_ne (tgt := 28) C (dall tdX5_regret 10 rfl) (by decide) (fun c4 => ?_) (fun c4 => ?_)
      · have h := (if_neg c4).symm.trans h
        have ok := ok.2 c4
        refine r_aload_n C 0 (dall tdX5_regret 13 rfl) rfl ?_
        refine r_get C 0 kw_X5 rfl rfl (by decide) kf_X5_20 rfl rfl (dall tdX5_regret 14 rfl) ?_
        refine r_get C 1 kw_X4 rfl rfl (by decide) kf_X5_78 rfl rfl (dall tdX5_regret 15 rfl) ?_
        refine r_iconst (v := 5) C (dall tdX5_regret 16 rfl) (by decide) ?_
        refine r_icmp_lt (tgt := 42) C (dall tdX5_regret 17 rfl) (by decide) (fun c5 => ?_) (fun c5 => ?_)
        · have h := (if_pos c5).symm.trans h
          have ok := ok.1 c5
          refine r_aload_n C 0 (dall tdX5_regret 20 rfl) rfl ?_
          refine r_get C 0 kw_X5 rfl rfl (by decide) kf_X5_20 rfl rfl (dall tdX5_regret 21 rfl) ?_
          refine r_get C 1 kw_X4 rfl rfl (by decide) kf_X5_78 rfl rfl (dall tdX5_regret 22 rfl) ?_
          refine r_istore (lv' := [(4, .int (σ.2.1.1 4)), (0, .ref (q 8)), (1, .int a1_), (2, .int a2_), (3, .int a3_)]) C (dall tdX5_regret 23 rfl) (by decide) rfl ?_
          refine r_aload_n C 1 (dall tdX5_regret 24 rfl) rfl ?_
          refine r_get C 0 kw_X5 rfl rfl (by decide) kf_X5_20 rfl rfl (dall tdX5_regret 25 rfl) ?_
          refine r_get C 1 kw_X4 rfl rfl (by decide) kf_X5_81 rfl rfl (dall tdX5_regret 26 rfl) ?_
          refine r_iload C 0 (dall tdX5_regret 27 rfl) rfl ?_
          refine r_iload_n C 2 (dall tdX5_regret 28 rfl) rfl ?_
          obtain ⟨o6, ok⟩ := ok
          refine r_iast C 2 0 rfl rfl o6 (pa_X5_n_0 cy q qn qt qk qr qs a τ σ ((σ.2.1.1 4).toNatClampNeg) a1_) (dall tdX5_regret 29 rfl) ?_
          refine r_aload_n C 1 (dall tdX5_regret 30 rfl) rfl ?_
          refine r_get C 0 kw_X5 rfl rfl (by decide) kf_X5_20 rfl rfl (dall tdX5_regret 31 rfl) ?_
          refine r_get C 1 kw_X4 rfl rfl (by decide) kf_X5_55 rfl rfl (dall tdX5_regret 32 rfl) ?_
          refine r_iload C 0 (dall tdX5_regret 33 rfl) rfl ?_
          refine r_iload_n C 3 (dall tdX5_regret 34 rfl) rfl ?_
          obtain ⟨o7, ok⟩ := ok
          refine r_iast C 3 0 rfl rfl o7 (pa_X5_n_1 cy q qn qt qk qr qs a τ (xN σ (oS σ.2.1 0 ((σ.2.1.1 4).toNatClampNeg) a1_)) ((σ.2.1.1 4).toNatClampNeg) a2_) (dall tdX5_regret 35 rfl) ?_
          refine r_aload_n C 1 (dall tdX5_regret 36 rfl) rfl ?_
          refine r_get C 0 kw_X5 rfl rfl (by decide) kf_X5_20 rfl rfl (dall tdX5_regret 37 rfl) ?_
          refine r_get C 1 kw_X4 rfl rfl (by decide) kf_X5_63 rfl rfl (dall tdX5_regret 38 rfl) ?_
          refine r_iload C 0 (dall tdX5_regret 39 rfl) rfl ?_
          refine r_iload_n C 4 (dall tdX5_regret 40 rfl) rfl ?_
          obtain ⟨o8, ok⟩ := ok
          refine r_iast C 4 0 rfl rfl o8 (pa_X5_n_2 cy q qn qt qk qr qs a τ (xN (xN σ (oS σ.2.1 0 ((σ.2.1.1 4).toNatClampNeg) a1_)) (oS ((xN σ (oS σ.2.1 0 ((σ.2.1.1 4).toNatClampNeg) a1_)).2.1) 1 ((σ.2.1.1 4).toNatClampNeg) a2_)) ((σ.2.1.1 4).toNatClampNeg) a3_) (dall tdX5_regret 41 rfl) ?_
          refine r_aload_n C 1 (dall tdX5_regret 42 rfl) rfl ?_
          refine r_get C 0 kw_X5 rfl rfl (by decide) kf_X5_20 rfl rfl (dall tdX5_regret 43 rfl) ?_
          refine r_get C 1 kw_X4 rfl rfl (by decide) kf_X5_84 rfl rfl (dall tdX5_regret 44 rfl) ?_
          refine r_iload C 0 (dall tdX5_regret 45 rfl) rfl ?_
          refine r_lconst (v := 0) C (dall tdX5_regret 46 rfl) (by decide) ?_
          have o9 := ok
          refine r_last C 5 1 rfl rfl o9 (pa_X5_n_3 cy q qn qt qk qr qs a τ (xN (xN (xN σ (oS σ.2.1 0 ((σ.2.1.1 4).toNatClampNeg) a1_)) (oS ((xN σ (oS σ.2.1 0 ((σ.2.1.1 4).toNatClampNeg) a1_)).2.1) 1 ((σ.2.1.1 4).toNatClampNeg) a2_)) (oS ((xN (xN σ (oS σ.2.1 0 ((σ.2.1.1 4).toNatClampNeg) a1_)) (oS ((xN σ (oS σ.2.1 0 ((σ.2.1.1 4).toNatClampNeg) a1_)).2.1) 1 ((σ.2.1.1 4).toNatClampNeg) a2_)).2.1) 2 ((σ.2.1.1 4).toNatClampNeg) a3_)) ((σ.2.1.1 4).toNatClampNeg) 0) (dall tdX5_regret 47 rfl) ?_
          refine r_aload_n C 1 (dall tdX5_regret 48 rfl) rfl ?_
          refine r_get C 0 kw_X5 rfl rfl (by decide) kf_X5_20 rfl rfl (dall tdX5_regret 49 rfl) ?_
          refine r_iload C 0 (dall tdX5_regret 50 rfl) rfl ?_
          refine r_iconst (v := 1) C (dall tdX5_regret 51 rfl) (by decide) ?_
          refine r_iadd C (dall tdX5_regret 52 rfl) ?_
          refine r_put C 1 kw_X4 tyX4_ok nmX4 rfl rfl (by decide) kf_X5_78 rfl rfl rfl rfl rfl (Nat.le_of_ble_eq_true rfl) (pu_X5_n_4 cy q qn qt qk qr qs a τ (xN (xN (xN (xN σ (oS σ.2.1 0 ((σ.2.1.1 4).toNatClampNeg) a1_)) (oS ((xN σ (oS σ.2.1 0 ((σ.2.1.1 4).toNatClampNeg) a1_)).2.1) 1 ((σ.2.1.1 4).toNatClampNeg) a2_)) (oS ((xN (xN σ (oS σ.2.1 0 ((σ.2.1.1 4).toNatClampNeg) a1_)) (oS ((xN σ (oS σ.2.1 0 ((σ.2.1.1 4).toNatClampNeg) a1_)).2.1) 1 ((σ.2.1.1 4).toNatClampNeg) a2_)).2.1) 2 ((σ.2.1.1 4).toNatClampNeg) a3_)) (oT ((xN (xN (xN σ (oS σ.2.1 0 ((σ.2.1.1 4).toNatClampNeg) a1_)) (oS ((xN σ (oS σ.2.1 0 ((σ.2.1.1 4).toNatClampNeg) a1_)).2.1) 1 ((σ.2.1.1 4).toNatClampNeg) a2_)) (oS ((xN (xN σ (oS σ.2.1 0 ((σ.2.1.1 4).toNatClampNeg) a1_)) (oS ((xN σ (oS σ.2.1 0 ((σ.2.1.1 4).toNatClampNeg) a1_)).2.1) 1 ((σ.2.1.1 4).toNatClampNeg) a2_)).2.1) 2 ((σ.2.1.1 4).toNatClampNeg) a3_)).2.1) 3 ((σ.2.1.1 4).toNatClampNeg) 0)) ((σ.2.1.1 4) + 1)) (dall tdX5_regret 53 rfl) ?_
          refine r_iload C 0 (dall tdX5_regret 54 rfl) rfl ?_
          exact r_iret C hR (dall tdX5_regret 55 rfl) (by subst h; exact ⟨rfl, rfl⟩)
        · have h := (if_neg c5).symm.trans h
          have ok := ok.2 c5
          refine r_bipush (v := -4) C (dall tdX5_regret 18 rfl) (by decide) ?_
          exact r_iret C hR (dall tdX5_regret 19 rfl) (by subst h; exact ⟨rfl, rfl⟩)
      · have h := (if_pos c4).symm.trans h
        have ok := ok.1 c4
        refine r_bipush (v := -2) C (dall tdX5_regret 11 rfl) (by decide) ?_
        exact r_iret C hR (dall tdX5_regret 12 rfl) (by subst h; exact ⟨rfl, rfl⟩)
def fX5_regret (τ : TX) (σ : XS) (a1_ : Int32) (a2_ : Int32) (a3_ : Int32) : Int32 × XS := pX5_regret_0 τ  σ a1_ a2_ a3_
def gX5_regret (τ : TX) (σ : XS) (a1_ : Int32) (a2_ : Int32) (a3_ : Int32) : Prop := oX5_regret_0 τ  σ a1_ a2_ a3_
set_option maxRecDepth 100000 in
theorem zX5_regret (cy : Nat → ClassId) (q : Nat → Nat) (qn : Nat → Nat) (qt : Nat → Nat) (qk : Nat → Nat) (qr : Nat → Nat) (qs : Nat → Nat → Nat) (a : Nat) (τ : TX)  {D : va_G} (σ : XS) (a1_ : Int32) (a2_ : Int32) (a3_ : Int32) (ok : gX5_regret τ σ a1_ a2_ a3_)  : Con yX5_regret cX5_regret 5 (some .int) 2 0 0 D (gty cy) [.ref (q 8), .int a1_, .int a2_, .int a3_] (wX5 cy q qn qt qk qr qs a τ σ) (eI (wX5 cy q qn qt qk qr qs a τ (fX5_regret τ σ a1_ a2_ a3_).2) (fX5_regret τ σ a1_ a2_ a3_).1) :=
  Con.of (own := RX5) (by decide +kernel) rfl (Nat.le_of_ble_eq_true rfl) (Nat.zero_le _) (fun X A C hR _ => (wX5_regret_0 σ a1_ a2_ a3_ C hR  ok rfl))
theorem mv_X5_regret : MV yX5_regret cX5_regret 5 (some .int) RX5 3 := ⟨ki_X5_regret, kv_X5_regret, kn_X5, kc_X5_regret, by decide +kernel⟩
def tbX5_toldOfOne : List (Nat × Instr × Nat) := [(0, .iload_n 2, 1), (1, .tableswitch 113 1 7 #[43, 53, 63, 73, 82, 91, 100], 43), (44, .aload_n 0, 1), (45, .getfield 20, 3), (48, .getfield 55, 3), (51, .iload_n 1, 1), (52, .iaload, 1), (53, .ireturn, 1), (54, .aload_n 0, 1), (55, .getfield 20, 3), (58, .getfield 63, 3), (61, .iload_n 1, 1), (62, .iaload, 1), (63, .ireturn, 1), (64, .aload_n 0, 1), (65, .getfield 20, 3), (68, .getfield 81, 3), (71, .iload_n 1, 1), (72, .iaload, 1), (73, .ireturn, 1), (74, .aload_n 0, 1), (75, .getfield 20, 3), (78, .iload_n 1, 1), (79, .invokevirtual 257, 3), (82, .ireturn, 1), (83, .aload_n 0, 1), (84, .getfield 20, 3), (87, .iload_n 1, 1), (88, .invokevirtual 260, 3), (91, .ireturn, 1), (92, .aload_n 0, 1), (93, .getfield 20, 3), (96, .iload_n 1, 1), (97, .invokevirtual 263, 3), (100, .ireturn, 1), (101, .aload_n 0, 1), (102, .getfield 20, 3), (105, .getfield 84, 3), (108, .iload_n 1, 1), (109, .laload, 1), (110, .invokestatic 148, 3), (113, .ireturn, 1), (114, .bipush (-2), 2), (116, .ireturn, 1)]
theorem tdX5_toldOfOne : tbX5_toldOfOne.all (fun q => decide (decode cX5_toldOfOne q.1 = .ok q.2)) = true := by decide +kernel
def pX5_toldOfOne_82 (τ : TX)  (σ : XS) (b0_ : Int32) : Int32 × XS := (b0_, σ)
set_option maxHeartbeats 4000000 in
set_option maxRecDepth 100000 in
theorem wX5_toldOfOne_82 {X : CX} {cy : Nat → ClassId} {q : Nat → Nat} {qn : Nat → Nat} {qt : Nat → Nat} {qk : Nat → Nat} {qr : Nat → Nat} {qs : Nat → Nat → Nat} {a : Nat} {τ : TX} {D : va_G} {A : Nat → Prop} {res : Int32 × XS} (σ : XS) (b0_ : Int32) (C : Cx X cX5_toldOfOne RX5 3 D (gty cy) A 5 0 0) (hR : Rt X (some .int) D (gty cy) A 0 0 (eI (wX5 cy q qn qt qk qr qs a τ res.2) res.1))  (h : pX5_toldOfOne_82 τ  σ b0_ = res) : At X D A 3 0 0 82 [] [.int b0_] (wX5 cy q qn qt qk qr qs a τ σ) := by
  unfold pX5_toldOfOne_82 at h
  exact r_iret C hR (dall tdX5_toldOfOne 24 rfl) (by subst h; exact ⟨rfl, rfl⟩)
def pX5_toldOfOne_91 (τ : TX)  (σ : XS) (b0_ : Int32) : Int32 × XS := (b0_, σ)
set_option maxHeartbeats 4000000 in
set_option maxRecDepth 100000 in
theorem wX5_toldOfOne_91 {X : CX} {cy : Nat → ClassId} {q : Nat → Nat} {qn : Nat → Nat} {qt : Nat → Nat} {qk : Nat → Nat} {qr : Nat → Nat} {qs : Nat → Nat → Nat} {a : Nat} {τ : TX} {D : va_G} {A : Nat → Prop} {res : Int32 × XS} (σ : XS) (b0_ : Int32) (C : Cx X cX5_toldOfOne RX5 3 D (gty cy) A 5 0 0) (hR : Rt X (some .int) D (gty cy) A 0 0 (eI (wX5 cy q qn qt qk qr qs a τ res.2) res.1))  (h : pX5_toldOfOne_91 τ  σ b0_ = res) : At X D A 3 0 0 91 [] [.int b0_] (wX5 cy q qn qt qk qr qs a τ σ) := by
  unfold pX5_toldOfOne_91 at h
  exact r_iret C hR (dall tdX5_toldOfOne 29 rfl) (by subst h; exact ⟨rfl, rfl⟩)
def pX5_toldOfOne_100 (τ : TX)  (σ : XS) (b0_ : Int32) : Int32 × XS := (b0_, σ)
set_option maxHeartbeats 4000000 in
set_option maxRecDepth 100000 in
theorem wX5_toldOfOne_100 {X : CX} {cy : Nat → ClassId} {q : Nat → Nat} {qn : Nat → Nat} {qt : Nat → Nat} {qk : Nat → Nat} {qr : Nat → Nat} {qs : Nat → Nat → Nat} {a : Nat} {τ : TX} {D : va_G} {A : Nat → Prop} {res : Int32 × XS} (σ : XS) (b0_ : Int32) (C : Cx X cX5_toldOfOne RX5 3 D (gty cy) A 5 0 0) (hR : Rt X (some .int) D (gty cy) A 0 0 (eI (wX5 cy q qn qt qk qr qs a τ res.2) res.1))  (h : pX5_toldOfOne_100 τ  σ b0_ = res) : At X D A 3 0 0 100 [] [.int b0_] (wX5 cy q qn qt qk qr qs a τ σ) := by
  unfold pX5_toldOfOne_100 at h
  exact r_iret C hR (dall tdX5_toldOfOne 34 rfl) (by subst h; exact ⟨rfl, rfl⟩)
def pX5_toldOfOne_0 (τ : TX)  (σ : XS) (a1_ : Int32) (a2_ : Int32) : Int32 × XS := if a2_ = 1 then (σ.2.1.2.2.1 1 a1_.toNatClampNeg, σ) else if a2_ = 2 then (σ.2.1.2.2.1 2 a1_.toNatClampNeg, σ) else if a2_ = 3 then (σ.2.1.2.2.1 0 a1_.toNatClampNeg, σ) else if a2_ = 4 then pX5_toldOfOne_82 τ  (xN σ ((fX4_holds τ σ.2.1 a1_).2)) ((fX4_holds τ σ.2.1 a1_).1) else if a2_ = 5 then pX5_toldOfOne_91 τ  (xN σ ((fX4_fades τ σ.2.1 a1_).2)) ((fX4_fades τ σ.2.1 a1_).1) else if a2_ = 6 then pX5_toldOfOne_100 τ  (xN σ ((fX4_costs τ σ.2.1 a1_).2)) ((fX4_costs τ σ.2.1 a1_).1) else if a2_ = 7 then (fJ13_bitCount_95d88 (σ.2.1.2.2.2 3 a1_.toNatClampNeg), σ) else ((-2), σ)
def oX5_toldOfOne_0 (τ : TX)  (σ : XS) (a1_ : Int32) (a2_ : Int32) : Prop := (a2_ = 1 → vp_in a1_ 5) ∧ (¬ a2_ = 1 → (a2_ = 2 → vp_in a1_ 5) ∧ (¬ a2_ = 2 → (a2_ = 3 → vp_in a1_ 5) ∧ (¬ a2_ = 3 → (a2_ = 4 → gX4_holds τ σ.2.1 a1_) ∧ (¬ a2_ = 4 → (a2_ = 5 → gX4_fades τ σ.2.1 a1_) ∧ (¬ a2_ = 5 → (a2_ = 6 → gX4_costs τ σ.2.1 a1_) ∧ (¬ a2_ = 6 → (a2_ = 7 → vp_in a1_ 5) ∧ (¬ a2_ = 7 → True)))))))
set_option maxHeartbeats 4000000 in
set_option maxRecDepth 100000 in
theorem wX5_toldOfOne_0 {X : CX} {cy : Nat → ClassId} {q : Nat → Nat} {qn : Nat → Nat} {qt : Nat → Nat} {qk : Nat → Nat} {qr : Nat → Nat} {qs : Nat → Nat → Nat} {a : Nat} {τ : TX} {D : va_G} {A : Nat → Prop} {res : Int32 × XS} (σ : XS) (a1_ : Int32) (a2_ : Int32) (C : Cx X cX5_toldOfOne RX5 3 D (gty cy) A 5 0 0) (hR : Rt X (some .int) D (gty cy) A 0 0 (eI (wX5 cy q qn qt qk qr qs a τ res.2) res.1))  (ok : oX5_toldOfOne_0 τ  σ a1_ a2_) (h : pX5_toldOfOne_0 τ  σ a1_ a2_ = res) : At X D A 3 0 0 0 [(0, .ref (q 8)), (1, .int a1_), (2, .int a2_)] [] (wX5 cy q qn qt qk qr qs a τ σ) := by
  unfold pX5_toldOfOne_0 at h
  unfold oX5_toldOfOne_0 at ok
  refine r_iload_n C 2 (dall tdX5_toldOfOne 0 rfl) rfl ?_
  by_cases e1_0 : a2_ = 1
  · have h := (if_pos e1_0).symm.trans h
    have ok := ok.1 e1_0
    refine r_tsIn (off := 43) (tgt := 44) C 1 (dall tdX5_toldOfOne 1 rfl) e1_0 (by decide) (by decide) (by decide) (by decide) ?_
    refine r_aload_n C 0 (dall tdX5_toldOfOne 2 rfl) rfl ?_
    refine r_get C 0 kw_X5 rfl rfl (by decide) kf_X5_20 rfl rfl (dall tdX5_toldOfOne 3 rfl) ?_
    refine r_get C 1 kw_X4 rfl rfl (by decide) kf_X5_55 rfl rfl (dall tdX5_toldOfOne 4 rfl) ?_
    refine r_iload_n C 1 (dall tdX5_toldOfOne 5 rfl) rfl ?_
    have o1 := ok
    refine r_iald C 3 0 rfl rfl o1 (dall tdX5_toldOfOne 6 rfl) ?_
    exact r_iret C hR (dall tdX5_toldOfOne 7 rfl) (by subst h; exact ⟨rfl, rfl⟩)
  · have h := (if_neg e1_0).symm.trans h
    have ok := ok.2 e1_0
    by_cases e1_1 : a2_ = 2
    · have h := (if_pos e1_1).symm.trans h
      have ok := ok.1 e1_1
      refine r_tsIn (off := 53) (tgt := 54) C 2 (dall tdX5_toldOfOne 1 rfl) e1_1 (by decide) (by decide) (by decide) (by decide) ?_
      refine r_aload_n C 0 (dall tdX5_toldOfOne 8 rfl) rfl ?_
      refine r_get C 0 kw_X5 rfl rfl (by decide) kf_X5_20 rfl rfl (dall tdX5_toldOfOne 9 rfl) ?_
      refine r_get C 1 kw_X4 rfl rfl (by decide) kf_X5_63 rfl rfl (dall tdX5_toldOfOne 10 rfl) ?_
      refine r_iload_n C 1 (dall tdX5_toldOfOne 11 rfl) rfl ?_
      have o2 := ok
      refine r_iald C 4 0 rfl rfl o2 (dall tdX5_toldOfOne 12 rfl) ?_
      exact r_iret C hR (dall tdX5_toldOfOne 13 rfl) (by subst h; exact ⟨rfl, rfl⟩)
    · have h := (if_neg e1_1).symm.trans h
      have ok := ok.2 e1_1
      by_cases e1_2 : a2_ = 3
      · have h := (if_pos e1_2).symm.trans h
        have ok := ok.1 e1_2
        refine r_tsIn (off := 63) (tgt := 64) C 3 (dall tdX5_toldOfOne 1 rfl) e1_2 (by decide) (by decide) (by decide) (by decide) ?_
        refine r_aload_n C 0 (dall tdX5_toldOfOne 14 rfl) rfl ?_
        refine r_get C 0 kw_X5 rfl rfl (by decide) kf_X5_20 rfl rfl (dall tdX5_toldOfOne 15 rfl) ?_
        refine r_get C 1 kw_X4 rfl rfl (by decide) kf_X5_81 rfl rfl (dall tdX5_toldOfOne 16 rfl) ?_
        refine r_iload_n C 1 (dall tdX5_toldOfOne 17 rfl) rfl ?_
        have o3 := ok
        refine r_iald C 2 0 rfl rfl o3 (dall tdX5_toldOfOne 18 rfl) ?_
        exact r_iret C hR (dall tdX5_toldOfOne 19 rfl) (by subst h; exact ⟨rfl, rfl⟩)
      · have h := (if_neg e1_2).symm.trans h
        have ok := ok.2 e1_2
        by_cases e1_3 : a2_ = 4
        · have h := (if_pos e1_3).symm.trans h
          have ok := ok.1 e1_3
          refine r_tsIn (off := 73) (tgt := 74) C 4 (dall tdX5_toldOfOne 1 rfl) e1_3 (by decide) (by decide) (by decide) (by decide) ?_
          refine r_aload_n C 0 (dall tdX5_toldOfOne 20 rfl) rfl ?_
          refine r_get C 0 kw_X5 rfl rfl (by decide) kf_X5_20 rfl rfl (dall tdX5_toldOfOne 21 rfl) ?_
          refine r_iload_n C 1 (dall tdX5_toldOfOne 22 rfl) rfl ?_
          have o4 := ok
          refine rcN_I (as := [.int a1_]) C (zX4_holds cy (va_up qn 9 a) τ σ.2.1 a1_ o4) mv_X4_holds km_X5_257 (by decide) (by decide) ⟨Nat.le_refl _, Nat.le_refl _⟩ rfl rfl (Nat.le_of_ble_eq_true rfl) (dall tdX5_toldOfOne 23 rfl) ?_
          refine r_pick [] rfl ?_
          exact wX5_toldOfOne_82 (xN σ ((fX4_holds τ σ.2.1 a1_).2)) ((fX4_holds τ σ.2.1 a1_).1) C hR  h
        · have h := (if_neg e1_3).symm.trans h
          have ok := ok.2 e1_3
          by_cases e1_4 : a2_ = 5
          · have h := (if_pos e1_4).symm.trans h
            have ok := ok.1 e1_4
            refine r_tsIn (off := 82) (tgt := 83) C 5 (dall tdX5_toldOfOne 1 rfl) e1_4 (by decide) (by decide) (by decide) (by decide) ?_
            refine r_aload_n C 0 (dall tdX5_toldOfOne 25 rfl) rfl ?_
            refine r_get C 0 kw_X5 rfl rfl (by decide) kf_X5_20 rfl rfl (dall tdX5_toldOfOne 26 rfl) ?_
            refine r_iload_n C 1 (dall tdX5_toldOfOne 27 rfl) rfl ?_
            have o5 := ok
            refine rcN_I (as := [.int a1_]) C (zX4_fades cy (va_up qn 9 a) τ σ.2.1 a1_ o5) mv_X4_fades km_X5_260 (by decide) (by decide) ⟨Nat.le_refl _, Nat.le_refl _⟩ rfl rfl (Nat.le_of_ble_eq_true rfl) (dall tdX5_toldOfOne 28 rfl) ?_
            refine r_pick [] rfl ?_
            exact wX5_toldOfOne_91 (xN σ ((fX4_fades τ σ.2.1 a1_).2)) ((fX4_fades τ σ.2.1 a1_).1) C hR  h
          · have h := (if_neg e1_4).symm.trans h
            have ok := ok.2 e1_4
            by_cases e1_5 : a2_ = 6
            · have h := (if_pos e1_5).symm.trans h
              have ok := ok.1 e1_5
              refine r_tsIn (off := 91) (tgt := 92) C 6 (dall tdX5_toldOfOne 1 rfl) e1_5 (by decide) (by decide) (by decide) (by decide) ?_
              refine r_aload_n C 0 (dall tdX5_toldOfOne 30 rfl) rfl ?_
              refine r_get C 0 kw_X5 rfl rfl (by decide) kf_X5_20 rfl rfl (dall tdX5_toldOfOne 31 rfl) ?_
              refine r_iload_n C 1 (dall tdX5_toldOfOne 32 rfl) rfl ?_
              have o6 := ok
              refine rcN_I (as := [.int a1_]) C (zX4_costs cy (va_up qn 9 a) τ σ.2.1 a1_ o6) mv_X4_costs km_X5_263 (by decide) (by decide) ⟨Nat.le_refl _, Nat.le_refl _⟩ rfl rfl (Nat.le_of_ble_eq_true rfl) (dall tdX5_toldOfOne 33 rfl) ?_
              refine r_pick [] rfl ?_
              exact wX5_toldOfOne_100 (xN σ ((fX4_costs τ σ.2.1 a1_).2)) ((fX4_costs τ σ.2.1 a1_).1) C hR  h
            · have h := (if_neg e1_5).symm.trans h
              have ok := ok.2 e1_5
              by_cases e1_6 : a2_ = 7
              · have h := (if_pos e1_6).symm.trans h
                have ok := ok.1 e1_6
                refine r_tsIn (off := 100) (tgt := 101) C 7 (dall tdX5_toldOfOne 1 rfl) e1_6 (by decide) (by decide) (by decide) (by decide) ?_
                refine r_aload_n C 0 (dall tdX5_toldOfOne 35 rfl) rfl ?_
                refine r_get C 0 kw_X5 rfl rfl (by decide) kf_X5_20 rfl rfl (dall tdX5_toldOfOne 36 rfl) ?_
                refine r_get C 1 kw_X4 rfl rfl (by decide) kf_X5_84 rfl rfl (dall tdX5_toldOfOne 37 rfl) ?_
                refine r_iload_n C 1 (dall tdX5_toldOfOne 38 rfl) rfl ?_
                have o7 := ok
                refine r_lald C 5 1 rfl rfl o7 (dall tdX5_toldOfOne 39 rfl) ?_
                refine r_s0I (as := [.long (σ.2.1.2.2.2 3 a1_.toNatClampNeg)]) C (zJ13_bitCount_95d88 (σ.2.1.2.2.2 3 a1_.toNatClampNeg) ) ms_J13_bitCount_95d88 km_X5_148 (by decide) (by decide) ⟨Nat.le_refl _, Nat.le_refl _⟩ rfl rfl (Nat.le_of_ble_eq_true rfl) (dall tdX5_toldOfOne 40 rfl) ?_
                exact r_iret C hR (dall tdX5_toldOfOne 41 rfl) (by subst h; exact ⟨rfl, rfl⟩)
              · have h := (if_neg e1_6).symm.trans h
                have ok := ok.2 e1_6
                refine r_tsOut (tgt := 114) C (dall tdX5_toldOfOne 1 rfl) (by have n0 := ne_toInt e1_0; rw [show (1 : Int32).toInt = 1 from by decide] at n0; have n1 := ne_toInt e1_1; rw [show (2 : Int32).toInt = 2 from by decide] at n1; have n2 := ne_toInt e1_2; rw [show (3 : Int32).toInt = 3 from by decide] at n2; have n3 := ne_toInt e1_3; rw [show (4 : Int32).toInt = 4 from by decide] at n3; have n4 := ne_toInt e1_4; rw [show (5 : Int32).toInt = 5 from by decide] at n4; have n5 := ne_toInt e1_5; rw [show (6 : Int32).toInt = 6 from by decide] at n5; have n6 := ne_toInt e1_6; rw [show (7 : Int32).toInt = 7 from by decide] at n6; omega) (by decide) ?_
                refine r_bipush (v := -2) C (dall tdX5_toldOfOne 42 rfl) (by decide) ?_
                exact r_iret C hR (dall tdX5_toldOfOne 43 rfl) (by subst h; exact ⟨rfl, rfl⟩)
def fX5_toldOfOne (τ : TX) (σ : XS) (a1_ : Int32) (a2_ : Int32) : Int32 × XS := pX5_toldOfOne_0 τ  σ a1_ a2_
def gX5_toldOfOne (τ : TX) (σ : XS) (a1_ : Int32) (a2_ : Int32) : Prop := oX5_toldOfOne_0 τ  σ a1_ a2_
set_option maxRecDepth 100000 in
theorem zX5_toldOfOne (cy : Nat → ClassId) (q : Nat → Nat) (qn : Nat → Nat) (qt : Nat → Nat) (qk : Nat → Nat) (qr : Nat → Nat) (qs : Nat → Nat → Nat) (a : Nat) (τ : TX)  {D : va_G} (σ : XS) (a1_ : Int32) (a2_ : Int32) (ok : gX5_toldOfOne τ σ a1_ a2_)  : Con yX5_toldOfOne cX5_toldOfOne 3 (some .int) 5 0 0 D (gty cy) [.ref (q 8), .int a1_, .int a2_] (wX5 cy q qn qt qk qr qs a τ σ) (eI (wX5 cy q qn qt qk qr qs a τ (fX5_toldOfOne τ σ a1_ a2_).2) (fX5_toldOfOne τ σ a1_ a2_).1) :=
  Con.of (own := RX5) (by decide +kernel) rfl (Nat.le_of_ble_eq_true rfl) (Nat.zero_le _) (fun X A C hR _ => (wX5_toldOfOne_0 σ a1_ a2_ C hR  ok rfl))
theorem mv_X5_toldOfOne : MV yX5_toldOfOne cX5_toldOfOne 3 (some .int) RX5 2 := ⟨ki_X5_toldOfOne, kv_X5_toldOfOne, kn_X5, kc_X5_toldOfOne, by decide +kernel⟩
def tbX5_told : List (Nat × Instr × Nat) := [(0, .iload_n 2, 1), (1, .ifCond .ne 11, 3), (4, .aload_n 0, 1), (5, .getfield 20, 3), (8, .getfield 88, 3), (11, .ireturn, 1), (12, .iload_n 2, 1), (13, .bipush 8, 2), (15, .if_icmp .ne 24, 3), (18, .iload_n 1, 1), (19, .invokestatic 91, 3), (22, .ifCond .eq 14, 3), (25, .aload_n 0, 1), (26, .getfield 20, 3), (29, .iload_n 1, 1), (30, .invokevirtual 94, 3), (33, .goto 5, 3), (36, .bipush (-2), 2), (38, .ireturn, 1), (39, .aload_n 0, 1), (40, .iload_n 1, 1), (41, .invokevirtual 97, 3), (44, .ifCond .eq 12, 3), (47, .aload_n 0, 1), (48, .iload_n 1, 1), (49, .iload_n 2, 1), (50, .invokevirtual 100, 3), (53, .goto 5, 3), (56, .bipush (-2), 2), (58, .ireturn, 1)]
theorem tdX5_told : tbX5_told.all (fun q => decide (decode cX5_told q.1 = .ok q.2)) = true := by decide +kernel
def pX5_told_53 (τ : TX)  (σ : XS) (b0_ : Int32) : Int32 × XS := (b0_, σ)
set_option maxHeartbeats 4000000 in
set_option maxRecDepth 100000 in
theorem wX5_told_53 {X : CX} {cy : Nat → ClassId} {q : Nat → Nat} {qn : Nat → Nat} {qt : Nat → Nat} {qk : Nat → Nat} {qr : Nat → Nat} {qs : Nat → Nat → Nat} {a : Nat} {τ : TX} {D : va_G} {A : Nat → Prop} {res : Int32 × XS} (σ : XS) (b0_ : Int32) (C : Cx X cX5_told RX5 3 D (gty cy) A 6 0 0) (hR : Rt X (some .int) D (gty cy) A 0 0 (eI (wX5 cy q qn qt qk qr qs a τ res.2) res.1))  (h : pX5_told_53 τ  σ b0_ = res) : At X D A 3 0 0 53 [] [.int b0_] (wX5 cy q qn qt qk qr qs a τ σ) := by
  unfold pX5_told_53 at h
  refine r_goto (tgt := 58) C (dall tdX5_told 27 rfl) (by decide) ?_
  exact r_iret C hR (dall tdX5_told 29 rfl) (by subst h; exact ⟨rfl, rfl⟩)
def pX5_told_0 (τ : TX)  (σ : XS) (a1_ : Int32) (a2_ : Int32) : Int32 × XS := if a2_ = 0 then (σ.2.1.1 5, σ) else if a2_ = 8 then if (fX5_isCell a1_) = 0 then ((-2), σ) else (fX4_whose σ.2.1 a1_, σ) else if (fX5_isOne τ σ a1_) = 0 then ((-2), σ) else pX5_told_53 τ  ((fX5_toldOfOne τ σ a1_ a2_).2) ((fX5_toldOfOne τ σ a1_ a2_).1)
def oX5_told_0 (τ : TX)  (σ : XS) (a1_ : Int32) (a2_ : Int32) : Prop := (a2_ = 0 → True) ∧ (¬ (a2_ = 0) → (a2_ = 8 → (gX5_isCell a1_) ∧ (((fX5_isCell a1_) = 0 → True) ∧ (¬ ((fX5_isCell a1_) = 0) → gX4_whose σ.2.1 a1_))) ∧ (¬ (a2_ = 8) → ((fX5_isOne τ σ a1_) = 0 → True) ∧ (¬ ((fX5_isOne τ σ a1_) = 0) → gX5_toldOfOne τ σ a1_ a2_)))
set_option maxHeartbeats 4000000 in
set_option maxRecDepth 100000 in
theorem wX5_told_0 {X : CX} {cy : Nat → ClassId} {q : Nat → Nat} {qn : Nat → Nat} {qt : Nat → Nat} {qk : Nat → Nat} {qr : Nat → Nat} {qs : Nat → Nat → Nat} {a : Nat} {τ : TX} {D : va_G} {A : Nat → Prop} {res : Int32 × XS} (σ : XS) (a1_ : Int32) (a2_ : Int32) (C : Cx X cX5_told RX5 3 D (gty cy) A 6 0 0) (hR : Rt X (some .int) D (gty cy) A 0 0 (eI (wX5 cy q qn qt qk qr qs a τ res.2) res.1))  (ok : oX5_told_0 τ  σ a1_ a2_) (h : pX5_told_0 τ  σ a1_ a2_ = res) : At X D A 3 0 0 0 [(0, .ref (q 8)), (1, .int a1_), (2, .int a2_)] [] (wX5 cy q qn qt qk qr qs a τ σ) := by
  unfold pX5_told_0 at h
  unfold oX5_told_0 at ok
  refine r_iload_n C 2 (dall tdX5_told 0 rfl) rfl ?_
  refine r_if_ne (tgt := 12) C (dall tdX5_told 1 rfl) (by decide) (fun c1 => ?_) (fun c1 => ?_)
  · have h := (if_neg c1).symm.trans h
    have ok := ok.2 c1
    refine r_iload_n C 2 (dall tdX5_told 6 rfl) rfl ?_
    refine r_bipush (v := 8) C (dall tdX5_told 7 rfl) (by decide) ?_
    refine r_icmp_ne (tgt := 39) C (dall tdX5_told 8 rfl) (by decide) (fun c2 => ?_) (fun c2 => ?_)
    · have h := (if_neg c2).symm.trans h
      have ok := ok.2 c2
      refine r_aload_n C 0 (dall tdX5_told 19 rfl) rfl ?_
      refine r_iload_n C 1 (dall tdX5_told 20 rfl) rfl ?_
      refine r_vI (as := [.int a1_]) C (zX5_isOne cy q qn qt qk qr qs a τ σ a1_ ) mv_X5_isOne km_X5_97 (by decide) (by decide) ⟨Nat.le_refl _, Nat.le_refl _⟩ rfl rfl rfl rfl (Nat.le_of_ble_eq_true rfl) (dall tdX5_told 21 rfl) ?_
      refine r_if_eq (tgt := 56) C (dall tdX5_told 22 rfl) (by decide) (fun c3 => ?_) (fun c3 => ?_)
      · have h := (if_pos c3).symm.trans h
        have ok := ok.1 c3
        refine r_bipush (v := -2) C (dall tdX5_told 28 rfl) (by decide) ?_
        exact r_iret C hR (dall tdX5_told 29 rfl) (by subst h; exact ⟨rfl, rfl⟩)
      · have h := (if_neg c3).symm.trans h
        have ok := ok.2 c3
        refine r_aload_n C 0 (dall tdX5_told 23 rfl) rfl ?_
        refine r_iload_n C 1 (dall tdX5_told 24 rfl) rfl ?_
        refine r_iload_n C 2 (dall tdX5_told 25 rfl) rfl ?_
        have o4 := ok
        refine r_vI (as := [.int a1_, .int a2_]) C (zX5_toldOfOne cy q qn qt qk qr qs a τ σ a1_ a2_ o4) mv_X5_toldOfOne km_X5_100 (by decide) (by decide) ⟨Nat.le_refl _, Nat.le_refl _⟩ rfl rfl rfl rfl (Nat.le_of_ble_eq_true rfl) (dall tdX5_told 26 rfl) ?_
        refine r_pick [] rfl ?_
        exact wX5_told_53 ((fX5_toldOfOne τ σ a1_ a2_).2) ((fX5_toldOfOne τ σ a1_ a2_).1) C hR  h
    · have h := (if_pos c2).symm.trans h
      have ok := ok.1 c2
      refine r_iload_n C 1 (dall tdX5_told 9 rfl) rfl ?_
      obtain ⟨o5, ok⟩ := ok
      refine r_s0I (as := [.int a1_]) C (zX5_isCell a1_ o5) ms_X5_isCell km_X5_91 (by decide) (by decide) ⟨Nat.le_refl _, Nat.le_refl _⟩ rfl rfl (Nat.le_of_ble_eq_true rfl) (dall tdX5_told 10 rfl) ?_
      refine r_if_eq (tgt := 36) C (dall tdX5_told 11 rfl) (by decide) (fun c6 => ?_) (fun c6 => ?_)
      · have h := (if_pos c6).symm.trans h
        have ok := ok.1 c6
        refine r_bipush (v := -2) C (dall tdX5_told 17 rfl) (by decide) ?_
        exact r_iret C hR (dall tdX5_told 18 rfl) (by subst h; exact ⟨rfl, rfl⟩)
      · have h := (if_neg c6).symm.trans h
        have ok := ok.2 c6
        refine r_aload_n C 0 (dall tdX5_told 12 rfl) rfl ?_
        refine r_get C 0 kw_X5 rfl rfl (by decide) kf_X5_20 rfl rfl (dall tdX5_told 13 rfl) ?_
        refine r_iload_n C 1 (dall tdX5_told 14 rfl) rfl ?_
        have o7 := ok
        refine rcN_I0 (as := [.int a1_]) C (zX4_whose cy (va_up qn 9 a) (tw cy a τ) σ.2.1 a1_ o7) mv_X4_whose km_X5_94 (by decide) (by decide) ⟨Nat.le_refl _, Nat.le_refl _⟩ rfl rfl (Nat.le_of_ble_eq_true rfl) (dall tdX5_told 15 rfl) ?_
        refine r_goto (tgt := 38) C (dall tdX5_told 16 rfl) (by decide) ?_
        exact r_iret C hR (dall tdX5_told 18 rfl) (by subst h; exact ⟨rfl, rfl⟩)
  · have h := (if_pos c1).symm.trans h
    have ok := ok.1 c1
    refine r_aload_n C 0 (dall tdX5_told 2 rfl) rfl ?_
    refine r_get C 0 kw_X5 rfl rfl (by decide) kf_X5_20 rfl rfl (dall tdX5_told 3 rfl) ?_
    refine r_get C 1 kw_X4 rfl rfl (by decide) kf_X5_88 rfl rfl (dall tdX5_told 4 rfl) ?_
    exact r_iret C hR (dall tdX5_told 5 rfl) (by subst h; exact ⟨rfl, rfl⟩)
def fX5_told (τ : TX) (σ : XS) (a1_ : Int32) (a2_ : Int32) : Int32 × XS := pX5_told_0 τ  σ a1_ a2_
def gX5_told (τ : TX) (σ : XS) (a1_ : Int32) (a2_ : Int32) : Prop := oX5_told_0 τ  σ a1_ a2_
set_option maxRecDepth 100000 in
theorem zX5_told (cy : Nat → ClassId) (q : Nat → Nat) (qn : Nat → Nat) (qt : Nat → Nat) (qk : Nat → Nat) (qr : Nat → Nat) (qs : Nat → Nat → Nat) (a : Nat) (τ : TX)  {D : va_G} (σ : XS) (a1_ : Int32) (a2_ : Int32) (ok : gX5_told τ σ a1_ a2_)  : Con yX5_told cX5_told 3 (some .int) 6 0 0 D (gty cy) [.ref (q 8), .int a1_, .int a2_] (wX5 cy q qn qt qk qr qs a τ σ) (eI (wX5 cy q qn qt qk qr qs a τ (fX5_told τ σ a1_ a2_).2) (fX5_told τ σ a1_ a2_).1) :=
  Con.of (own := RX5) (by decide +kernel) rfl (Nat.le_of_ble_eq_true rfl) (Nat.zero_le _) (fun X A C hR _ => (wX5_told_0 σ a1_ a2_ C hR  ok rfl))
theorem mv_X5_told : MV yX5_told cX5_told 3 (some .int) RX5 2 := ⟨ki_X5_told, kv_X5_told, kn_X5, kc_X5_told, by decide +kernel⟩
def tbX5_wall : List (Nat × Instr × Nat) := [(0, .iload_n 1, 1), (1, .iconst (-1), 1), (2, .if_icmp .ne 11, 3), (5, .aload_n 0, 1), (6, .getfield 20, 3), (9, .getfield 103, 3), (12, .lreturn, 1), (13, .iload_n 1, 1), (14, .bipush (-2), 2), (16, .if_icmp .ne 11, 3), (19, .aload_n 0, 1), (20, .getfield 20, 3), (23, .invokevirtual 107, 3), (26, .lreturn, 1), (27, .aload_n 0, 1), (28, .iload_n 1, 1), (29, .invokevirtual 97, 3), (32, .ifCond .eq 15, 3), (35, .aload_n 0, 1), (36, .getfield 20, 3), (39, .getfield 84, 3), (42, .iload_n 1, 1), (43, .laload, 1), (44, .goto 6, 3), (47, .ldc2_w 111, 3), (50, .lreturn, 1)]
theorem tdX5_wall : tbX5_wall.all (fun q => decide (decode cX5_wall q.1 = .ok q.2)) = true := by decide +kernel
def pX5_wall_0 (τ : TX)  (σ : XS) (a1_ : Int32) : Int64 := if a1_ = (-1) then σ.2.1.2.1 8 else if a1_ = (-2) then fX4_stands σ.2.1  else if (fX5_isOne τ σ a1_) = 0 then (-4611686018427387904) else σ.2.1.2.2.2 3 a1_.toNatClampNeg
def oX5_wall_0 (τ : TX)  (σ : XS) (a1_ : Int32) : Prop := (a1_ = (-1) → True) ∧ (¬ (a1_ = (-1)) → (a1_ = (-2) → gX4_stands σ.2.1 ) ∧ (¬ (a1_ = (-2)) → ((fX5_isOne τ σ a1_) = 0 → True) ∧ (¬ ((fX5_isOne τ σ a1_) = 0) → vp_in a1_ 5)))
set_option maxHeartbeats 4000000 in
set_option maxRecDepth 100000 in
theorem wX5_wall_0 {X : CX} {cy : Nat → ClassId} {q : Nat → Nat} {qn : Nat → Nat} {qt : Nat → Nat} {qk : Nat → Nat} {qr : Nat → Nat} {qs : Nat → Nat → Nat} {a : Nat} {τ : TX} {D : va_G} {A : Nat → Prop} {res : Int64} (σ : XS) (a1_ : Int32) (C : Cx X cX5_wall RX5 2 D (gty cy) A 2 0 0) (hR : Rt X (some .long) D (gty cy) A 0 0 (eL (wX5 cy q qn qt qk qr qs a τ σ) res))  (ok : oX5_wall_0 τ  σ a1_) (h : pX5_wall_0 τ  σ a1_ = res) : At X D A 2 0 0 0 [(0, .ref (q 8)), (1, .int a1_)] [] (wX5 cy q qn qt qk qr qs a τ σ) := by
  unfold pX5_wall_0 at h
  unfold oX5_wall_0 at ok
  refine r_iload_n C 1 (dall tdX5_wall 0 rfl) rfl ?_
  refine r_iconst (v := -1) C (dall tdX5_wall 1 rfl) (by decide) ?_
  refine r_icmp_ne (tgt := 13) C (dall tdX5_wall 2 rfl) (by decide) (fun c1 => ?_) (fun c1 => ?_)
  · have h := (if_neg c1).symm.trans h
    have ok := ok.2 c1
    refine r_iload_n C 1 (dall tdX5_wall 7 rfl) rfl ?_
    refine r_bipush (v := -2) C (dall tdX5_wall 8 rfl) (by decide) ?_
    refine r_icmp_ne (tgt := 27) C (dall tdX5_wall 9 rfl) (by decide) (fun c2 => ?_) (fun c2 => ?_)
    · have h := (if_neg c2).symm.trans h
      have ok := ok.2 c2
      refine r_aload_n C 0 (dall tdX5_wall 14 rfl) rfl ?_
      refine r_iload_n C 1 (dall tdX5_wall 15 rfl) rfl ?_
      refine r_vI (as := [.int a1_]) C (zX5_isOne cy q qn qt qk qr qs a τ σ a1_ ) mv_X5_isOne km_X5_97 (by decide) (by decide) ⟨Nat.le_refl _, Nat.le_refl _⟩ rfl rfl rfl rfl (Nat.le_of_ble_eq_true rfl) (dall tdX5_wall 16 rfl) ?_
      refine r_if_eq (tgt := 47) C (dall tdX5_wall 17 rfl) (by decide) (fun c3 => ?_) (fun c3 => ?_)
      · have h := (if_pos c3).symm.trans h
        have ok := ok.1 c3
        refine r_ldc2 C kk_X5_111 (dall tdX5_wall 24 rfl) ?_
        exact r_lret C hR (dall tdX5_wall 25 rfl) (by subst h; exact ⟨rfl, rfl⟩)
      · have h := (if_neg c3).symm.trans h
        have ok := ok.2 c3
        refine r_aload_n C 0 (dall tdX5_wall 18 rfl) rfl ?_
        refine r_get C 0 kw_X5 rfl rfl (by decide) kf_X5_20 rfl rfl (dall tdX5_wall 19 rfl) ?_
        refine r_get C 1 kw_X4 rfl rfl (by decide) kf_X5_84 rfl rfl (dall tdX5_wall 20 rfl) ?_
        refine r_iload_n C 1 (dall tdX5_wall 21 rfl) rfl ?_
        have o4 := ok
        refine r_lald C 5 1 rfl rfl o4 (dall tdX5_wall 22 rfl) ?_
        refine r_goto (tgt := 50) C (dall tdX5_wall 23 rfl) (by decide) ?_
        exact r_lret C hR (dall tdX5_wall 25 rfl) (by subst h; exact ⟨rfl, rfl⟩)
    · have h := (if_pos c2).symm.trans h
      have ok := ok.1 c2
      refine r_aload_n C 0 (dall tdX5_wall 10 rfl) rfl ?_
      refine r_get C 0 kw_X5 rfl rfl (by decide) kf_X5_20 rfl rfl (dall tdX5_wall 11 rfl) ?_
      have o5 := ok
      refine rcN_L0 (as := []) C (zX4_stands cy (va_up qn 9 a) (tw cy a τ) σ.2.1  o5) mv_X4_stands km_X5_107 (by decide) (by decide) ⟨Nat.le_refl _, Nat.le_refl _⟩ rfl rfl (Nat.le_of_ble_eq_true rfl) (dall tdX5_wall 12 rfl) ?_
      exact r_lret C hR (dall tdX5_wall 13 rfl) (by subst h; exact ⟨rfl, rfl⟩)
  · have h := (if_pos c1).symm.trans h
    have ok := ok.1 c1
    refine r_aload_n C 0 (dall tdX5_wall 3 rfl) rfl ?_
    refine r_get C 0 kw_X5 rfl rfl (by decide) kf_X5_20 rfl rfl (dall tdX5_wall 4 rfl) ?_
    refine r_get C 1 kw_X4 rfl rfl (by decide) kf_X5_103 rfl rfl (dall tdX5_wall 5 rfl) ?_
    exact r_lret C hR (dall tdX5_wall 6 rfl) (by subst h; exact ⟨rfl, rfl⟩)
def fX5_wall (τ : TX) (σ : XS) (a1_ : Int32) : Int64 := pX5_wall_0 τ  σ a1_
def gX5_wall (τ : TX) (σ : XS) (a1_ : Int32) : Prop := oX5_wall_0 τ  σ a1_
set_option maxRecDepth 100000 in
theorem zX5_wall (cy : Nat → ClassId) (q : Nat → Nat) (qn : Nat → Nat) (qt : Nat → Nat) (qk : Nat → Nat) (qr : Nat → Nat) (qs : Nat → Nat → Nat) (a : Nat) (τ : TX)  {D : va_G} (σ : XS) (a1_ : Int32) (ok : gX5_wall τ σ a1_)  : Con yX5_wall cX5_wall 2 (some .long) 2 0 0 D (gty cy) [.ref (q 8), .int a1_] (wX5 cy q qn qt qk qr qs a τ σ) (eL (wX5 cy q qn qt qk qr qs a τ σ) (fX5_wall τ σ a1_)) :=
  Con.of (own := RX5) (by decide +kernel) rfl (Nat.le_of_ble_eq_true rfl) (Nat.zero_le _) (fun X A C hR _ => (wX5_wall_0 σ a1_ C hR  ok rfl))
theorem mv_X5_wall : MV yX5_wall cX5_wall 2 (some .long) RX5 1 := ⟨ki_X5_wall, kv_X5_wall, kn_X5, kc_X5_wall, by decide +kernel⟩
def tbX5_feed : List (Nat × Instr × Nat) := [(0, .iload_n 1, 1), (1, .sipush 255, 3), (4, .invokestatic 74, 3), (7, .ifCond .ne 6, 3), (10, .bipush (-2), 2), (12, .ireturn, 1), (13, .aload_n 0, 1), (14, .getfield 33, 3), (17, .invokevirtual 113, 3), (20, .ifCond .eq 14, 3), (23, .aload_n 0, 1), (24, .getfield 33, 3), (27, .iload_n 1, 1), (28, .invokevirtual 117, 3), (31, .goto 5, 3), (34, .bipush (-4), 2), (36, .ireturn, 1)]
theorem tdX5_feed : tbX5_feed.all (fun q => decide (decode cX5_feed q.1 = .ok q.2)) = true := by decide +kernel
def pX5_feed_31 (τ : TX)  (σ : XS) (b0_ : Int32) : Int32 × XS := (b0_, σ)
set_option maxHeartbeats 4000000 in
set_option maxRecDepth 100000 in
theorem wX5_feed_31 {X : CX} {cy : Nat → ClassId} {q : Nat → Nat} {qn : Nat → Nat} {qt : Nat → Nat} {qk : Nat → Nat} {qr : Nat → Nat} {qs : Nat → Nat → Nat} {a : Nat} {τ : TX} {D : va_G} {A : Nat → Prop} {res : Int32 × XS} (σ : XS) (b0_ : Int32) (C : Cx X cX5_feed RX5 2 D (gty cy) A 1 0 0) (hR : Rt X (some .int) D (gty cy) A 0 0 (eI (wX5 cy q qn qt qk qr qs a τ res.2) res.1))  (h : pX5_feed_31 τ  σ b0_ = res) : At X D A 2 0 0 31 [] [.int b0_] (wX5 cy q qn qt qk qr qs a τ σ) := by
  unfold pX5_feed_31 at h
  refine r_goto (tgt := 36) C (dall tdX5_feed 14 rfl) (by decide) ?_
  exact r_iret C hR (dall tdX5_feed 16 rfl) (by subst h; exact ⟨rfl, rfl⟩)
def pX5_feed_0 (τ : TX)  (σ : XS) (a1_ : Int32) : Int32 × XS := if (fX5_within a1_ 255) = 0 then ((-2), σ) else if (fX0_hasRoom σ.2.2.2.2.1) = 0 then ((-4), σ) else pX5_feed_31 τ  (xR σ ((fX0_take σ.2.2.2.2.1 a1_).2)) ((fX0_take σ.2.2.2.2.1 a1_).1)
def oX5_feed_0 (τ : TX)  (σ : XS) (a1_ : Int32) : Prop := ((fX5_within a1_ 255) = 0 → True) ∧ (¬ ((fX5_within a1_ 255) = 0) → ((fX0_hasRoom σ.2.2.2.2.1) = 0 → True) ∧ (¬ ((fX0_hasRoom σ.2.2.2.2.1) = 0) → gX0_take σ.2.2.2.2.1 a1_))
set_option maxHeartbeats 4000000 in
set_option maxRecDepth 100000 in
theorem wX5_feed_0 {X : CX} {cy : Nat → ClassId} {q : Nat → Nat} {qn : Nat → Nat} {qt : Nat → Nat} {qk : Nat → Nat} {qr : Nat → Nat} {qs : Nat → Nat → Nat} {a : Nat} {τ : TX} {D : va_G} {A : Nat → Prop} {res : Int32 × XS} (σ : XS) (a1_ : Int32) (C : Cx X cX5_feed RX5 2 D (gty cy) A 1 0 0) (hR : Rt X (some .int) D (gty cy) A 0 0 (eI (wX5 cy q qn qt qk qr qs a τ res.2) res.1))  (ok : oX5_feed_0 τ  σ a1_) (h : pX5_feed_0 τ  σ a1_ = res) : At X D A 2 0 0 0 [(0, .ref (q 8)), (1, .int a1_)] [] (wX5 cy q qn qt qk qr qs a τ σ) := by
  unfold pX5_feed_0 at h
  unfold oX5_feed_0 at ok
  refine r_iload_n C 1 (dall tdX5_feed 0 rfl) rfl ?_
  refine r_sipush (v := 255) C (dall tdX5_feed 1 rfl) (by decide) ?_
  refine r_s0I (as := [.int a1_, .int 255]) C (zX5_within a1_ 255 ) ms_X5_within km_X5_74 (by decide) (by decide) ⟨Nat.le_refl _, Nat.le_refl _⟩ rfl rfl (Nat.le_of_ble_eq_true rfl) (dall tdX5_feed 2 rfl) ?_
  refine r_if_ne (tgt := 13) C (dall tdX5_feed 3 rfl) (by decide) (fun c1 => ?_) (fun c1 => ?_)
  · have h := (if_neg c1).symm.trans h
    have ok := ok.2 c1
    refine r_aload_n C 0 (dall tdX5_feed 6 rfl) rfl ?_
    refine r_get C 0 kw_X5 rfl rfl (by decide) kf_X5_33 rfl rfl (dall tdX5_feed 7 rfl) ?_
    refine rcR_I0 (as := []) C (zX0_hasRoom cy qr σ.2.2.2.2.1  ) mv_X0_hasRoom km_X5_113 (by decide) (by decide) ⟨Nat.le_refl _, Nat.le_refl _⟩ rfl rfl (Nat.le_of_ble_eq_true rfl) (dall tdX5_feed 8 rfl) ?_
    refine r_if_eq (tgt := 34) C (dall tdX5_feed 9 rfl) (by decide) (fun c2 => ?_) (fun c2 => ?_)
    · have h := (if_pos c2).symm.trans h
      have ok := ok.1 c2
      refine r_bipush (v := -4) C (dall tdX5_feed 15 rfl) (by decide) ?_
      exact r_iret C hR (dall tdX5_feed 16 rfl) (by subst h; exact ⟨rfl, rfl⟩)
    · have h := (if_neg c2).symm.trans h
      have ok := ok.2 c2
      refine r_aload_n C 0 (dall tdX5_feed 10 rfl) rfl ?_
      refine r_get C 0 kw_X5 rfl rfl (by decide) kf_X5_33 rfl rfl (dall tdX5_feed 11 rfl) ?_
      refine r_iload_n C 1 (dall tdX5_feed 12 rfl) rfl ?_
      have o3 := ok
      refine rcR_I (as := [.int a1_]) C (zX0_take cy qr σ.2.2.2.2.1 a1_ o3) mv_X0_take km_X5_117 (by decide) (by decide) ⟨Nat.le_refl _, Nat.le_refl _⟩ rfl rfl (Nat.le_of_ble_eq_true rfl) (dall tdX5_feed 13 rfl) ?_
      refine r_pick [] rfl ?_
      exact wX5_feed_31 (xR σ ((fX0_take σ.2.2.2.2.1 a1_).2)) ((fX0_take σ.2.2.2.2.1 a1_).1) C hR  h
  · have h := (if_pos c1).symm.trans h
    have ok := ok.1 c1
    refine r_bipush (v := -2) C (dall tdX5_feed 4 rfl) (by decide) ?_
    exact r_iret C hR (dall tdX5_feed 5 rfl) (by subst h; exact ⟨rfl, rfl⟩)
def fX5_feed (τ : TX) (σ : XS) (a1_ : Int32) : Int32 × XS := pX5_feed_0 τ  σ a1_
def gX5_feed (τ : TX) (σ : XS) (a1_ : Int32) : Prop := oX5_feed_0 τ  σ a1_
set_option maxRecDepth 100000 in
theorem zX5_feed (cy : Nat → ClassId) (q : Nat → Nat) (qn : Nat → Nat) (qt : Nat → Nat) (qk : Nat → Nat) (qr : Nat → Nat) (qs : Nat → Nat → Nat) (a : Nat) (τ : TX)  {D : va_G} (σ : XS) (a1_ : Int32) (ok : gX5_feed τ σ a1_)  : Con yX5_feed cX5_feed 2 (some .int) 1 0 0 D (gty cy) [.ref (q 8), .int a1_] (wX5 cy q qn qt qk qr qs a τ σ) (eI (wX5 cy q qn qt qk qr qs a τ (fX5_feed τ σ a1_).2) (fX5_feed τ σ a1_).1) :=
  Con.of (own := RX5) (by decide +kernel) rfl (Nat.le_of_ble_eq_true rfl) (Nat.zero_le _) (fun X A C hR _ => (wX5_feed_0 σ a1_ C hR  ok rfl))
theorem mv_X5_feed : MV yX5_feed cX5_feed 2 (some .int) RX5 1 := ⟨ki_X5_feed, kv_X5_feed, kn_X5, kc_X5_feed, by decide +kernel⟩
def tbX5_force : List (Nat × Instr × Nat) := [(0, .iload_n 1, 1), (1, .ifCond .lt 11, 3), (4, .iload_n 1, 1), (5, .aload_n 0, 1), (6, .getfield 46, 3), (9, .if_icmp .lt 6, 3), (12, .bipush (-2), 2), (14, .ireturn, 1), (15, .aload_n 0, 1), (16, .getfield 20, 3), (19, .getfield 128, 3), (22, .istore_n 2, 1), (23, .aload_n 0, 1), (24, .getfield 20, 3), (27, .iload_n 1, 1), (28, .putfield 128, 3), (31, .iload_n 2, 1), (32, .ireturn, 1)]
theorem tdX5_force : tbX5_force.all (fun q => decide (decode cX5_force q.1 = .ok q.2)) = true := by decide +kernel
def pX5_force_0 (τ : TX)  (σ : XS) (a1_ : Int32) : Int32 × XS := if a1_ < 0 then ((-2), σ) else if a1_ < (σ.1.1 6) then (σ.2.1.1 7, xN σ (oI σ.2.1 7 a1_)) else ((-2), σ)
set_option maxHeartbeats 4000000 in
set_option maxRecDepth 100000 in
theorem wX5_force_0 {X : CX} {cy : Nat → ClassId} {q : Nat → Nat} {qn : Nat → Nat} {qt : Nat → Nat} {qk : Nat → Nat} {qr : Nat → Nat} {qs : Nat → Nat → Nat} {a : Nat} {τ : TX} {D : va_G} {A : Nat → Prop} {res : Int32 × XS} (σ : XS) (a1_ : Int32) (C : Cx X cX5_force RX5 3 D (gty cy) A 0 0 0) (hR : Rt X (some .int) D (gty cy) A 0 0 (eI (wX5 cy q qn qt qk qr qs a τ res.2) res.1))  (h : pX5_force_0 τ  σ a1_ = res) : At X D A 3 0 0 0 [(0, .ref (q 8)), (1, .int a1_)] [] (wX5 cy q qn qt qk qr qs a τ σ) := by
  unfold pX5_force_0 at h
  refine r_iload_n C 1 (dall tdX5_force 0 rfl) rfl ?_
  refine r_if_lt (tgt := 12) C (dall tdX5_force 1 rfl) (by decide) (fun c1 => ?_) (fun c1 => ?_)
  · have h := (if_pos c1).symm.trans h
    refine r_bipush (v := -2) C (dall tdX5_force 6 rfl) (by decide) ?_
    exact r_iret C hR (dall tdX5_force 7 rfl) (by subst h; exact ⟨rfl, rfl⟩)
  · have h := (if_neg c1).symm.trans h
    refine r_iload_n C 1 (dall tdX5_force 2 rfl) rfl ?_
    refine r_aload_n C 0 (dall tdX5_force 3 rfl) rfl ?_
    refine r_get C 0 kw_X5 rfl rfl (by decide) kf_X5_46 rfl rfl (dall tdX5_force 4 rfl) ?_
    refine r_icmp_lt (tgt := 15) C (dall tdX5_force 5 rfl) (by decide) (fun c2 => ?_) (fun c2 => ?_)
    · have h := (if_pos c2).symm.trans h
      refine r_aload_n C 0 (dall tdX5_force 8 rfl) rfl ?_
      refine r_get C 0 kw_X5 rfl rfl (by decide) kf_X5_20 rfl rfl (dall tdX5_force 9 rfl) ?_
      refine r_get C 1 kw_X4 rfl rfl (by decide) kf_X5_128 rfl rfl (dall tdX5_force 10 rfl) ?_
      refine r_istore_n (lv' := [(2, .int (σ.2.1.1 7)), (0, .ref (q 8)), (1, .int a1_)]) C (dall tdX5_force 11 rfl) (by decide) rfl ?_
      refine r_aload_n C 1 (dall tdX5_force 12 rfl) rfl ?_
      refine r_get C 0 kw_X5 rfl rfl (by decide) kf_X5_20 rfl rfl (dall tdX5_force 13 rfl) ?_
      refine r_iload_n C 2 (dall tdX5_force 14 rfl) rfl ?_
      refine r_put C 1 kw_X4 tyX4_ok nmX4 rfl rfl (by decide) kf_X5_128 rfl rfl rfl rfl rfl (Nat.le_of_ble_eq_true rfl) (pu_X5_n_7 cy q qn qt qk qr qs a τ σ a1_) (dall tdX5_force 15 rfl) ?_
      refine r_iload_n C 0 (dall tdX5_force 16 rfl) rfl ?_
      exact r_iret C hR (dall tdX5_force 17 rfl) (by subst h; exact ⟨rfl, rfl⟩)
    · have h := (if_neg c2).symm.trans h
      refine r_bipush (v := -2) C (dall tdX5_force 6 rfl) (by decide) ?_
      exact r_iret C hR (dall tdX5_force 7 rfl) (by subst h; exact ⟨rfl, rfl⟩)
def fX5_force (τ : TX) (σ : XS) (a1_ : Int32) : Int32 × XS := pX5_force_0 τ  σ a1_
set_option maxRecDepth 100000 in
theorem zX5_force (cy : Nat → ClassId) (q : Nat → Nat) (qn : Nat → Nat) (qt : Nat → Nat) (qk : Nat → Nat) (qr : Nat → Nat) (qs : Nat → Nat → Nat) (a : Nat) (τ : TX)  {D : va_G} (σ : XS) (a1_ : Int32)  : Con yX5_force cX5_force 3 (some .int) 0 0 0 D (gty cy) [.ref (q 8), .int a1_] (wX5 cy q qn qt qk qr qs a τ σ) (eI (wX5 cy q qn qt qk qr qs a τ (fX5_force τ σ a1_).2) (fX5_force τ σ a1_).1) :=
  Con.of (own := RX5) (by decide +kernel) rfl (Nat.le_of_ble_eq_true rfl) (Nat.zero_le _) (fun X A C hR _ => (wX5_force_0 σ a1_ C hR  rfl))
theorem mv_X5_force : MV yX5_force cX5_force 3 (some .int) RX5 1 := ⟨ki_X5_force, kv_X5_force, kn_X5, kc_X5_force, by decide +kernel⟩
def tbX5_raise : List (Nat × Instr × Nat) := [(0, .aload_n 0, 1), (1, .iload_n 1, 1), (2, .invokevirtual 97, 3), (5, .ifCond .eq 17, 3), (8, .iload_n 2, 1), (9, .invokestatic 131, 3), (12, .ifCond .eq 10, 3), (15, .iload_n 3, 1), (16, .invokestatic 91, 3), (19, .ifCond .ne 6, 3), (22, .bipush (-2), 2), (24, .ireturn, 1), (25, .iload_n 2, 1), (26, .aload_n 0, 1), (27, .getfield 20, 3), (30, .invokevirtual 107, 3), (33, .invokestatic 134, 3), (36, .iload_n 3, 1), (37, .invokestatic 140, 3), (40, .ifCond .ne 6, 3), (43, .bipush (-3), 2), (45, .ireturn, 1), (46, .aload_n 0, 1), (47, .getfield 20, 3), (50, .getfield 84, 3), (53, .iload_n 1, 1), (54, .dup2, 1), (55, .laload, 1), (56, .iload_n 2, 1), (57, .iload_n 3, 1), (58, .invokestatic 144, 3), (61, .lor, 1), (62, .lastore, 1), (63, .aload_n 0, 1), (64, .getfield 20, 3), (67, .getfield 84, 3), (70, .iload_n 1, 1), (71, .laload, 1), (72, .invokestatic 148, 3), (75, .ireturn, 1)]
theorem tdX5_raise : tbX5_raise.all (fun q => decide (decode cX5_raise q.1 = .ok q.2)) = true := by decide +kernel
def pX5_raise_0 (τ : TX)  (σ : XS) (a1_ : Int32) (a2_ : Int32) (a3_ : Int32) : Int32 × XS := if (fX5_isOne τ σ a1_) = 0 then ((-2), σ) else if (fX5_isPart a2_) = 0 then ((-2), σ) else if (fX5_isCell a3_) = 0 then ((-2), σ) else if (fX3_has (fX3_places a2_ (fX4_stands σ.2.1)) a3_) = 0 then ((-3), σ) else (fJ13_bitCount_95d88 (((xN σ (oT σ.2.1 3 a1_.toNatClampNeg ((σ.2.1.2.2.2 3 a1_.toNatClampNeg) ||| (fX3_cellsOf a2_ a3_)))).2.1).2.2.2 3 a1_.toNatClampNeg), xN σ (oT σ.2.1 3 a1_.toNatClampNeg ((σ.2.1.2.2.2 3 a1_.toNatClampNeg) ||| (fX3_cellsOf a2_ a3_))))
def oX5_raise_0 (τ : TX)  (σ : XS) (a1_ : Int32) (a2_ : Int32) (a3_ : Int32) : Prop := ((fX5_isOne τ σ a1_) = 0 → True) ∧ (¬ ((fX5_isOne τ σ a1_) = 0) → (gX5_isPart a2_) ∧ (((fX5_isPart a2_) = 0 → True) ∧ (¬ ((fX5_isPart a2_) = 0) → (gX5_isCell a3_) ∧ (((fX5_isCell a3_) = 0 → True) ∧ (¬ ((fX5_isCell a3_) = 0) → (gX4_stands σ.2.1 ) ∧ ((gX3_places a2_ (fX4_stands σ.2.1)) ∧ (((fX3_has (fX3_places a2_ (fX4_stands σ.2.1)) a3_) = 0 → True) ∧ (¬ ((fX3_has (fX3_places a2_ (fX4_stands σ.2.1)) a3_) = 0) → (vp_in a1_ 5) ∧ ((gX3_cellsOf a2_ a3_) ∧ ((vp_in a1_ 5) ∧ (vp_in a1_ 5)))))))))))
set_option maxHeartbeats 4000000 in
set_option maxRecDepth 100000 in
theorem wX5_raise_0 {X : CX} {cy : Nat → ClassId} {q : Nat → Nat} {qn : Nat → Nat} {qt : Nat → Nat} {qk : Nat → Nat} {qr : Nat → Nat} {qs : Nat → Nat → Nat} {a : Nat} {τ : TX} {D : va_G} {A : Nat → Prop} {res : Int32 × XS} (σ : XS) (a1_ : Int32) (a2_ : Int32) (a3_ : Int32) (C : Cx X cX5_raise RX5 4 D (gty cy) A 2 0 0) (hR : Rt X (some .int) D (gty cy) A 0 0 (eI (wX5 cy q qn qt qk qr qs a τ res.2) res.1))  (ok : oX5_raise_0 τ  σ a1_ a2_ a3_) (h : pX5_raise_0 τ  σ a1_ a2_ a3_ = res) : At X D A 4 0 0 0 [(0, .ref (q 8)), (1, .int a1_), (2, .int a2_), (3, .int a3_)] [] (wX5 cy q qn qt qk qr qs a τ σ) := by
  unfold pX5_raise_0 at h
  unfold oX5_raise_0 at ok
  refine r_aload_n C 0 (dall tdX5_raise 0 rfl) rfl ?_
  refine r_iload_n C 1 (dall tdX5_raise 1 rfl) rfl ?_
  refine r_vI (as := [.int a1_]) C (zX5_isOne cy q qn qt qk qr qs a τ σ a1_ ) mv_X5_isOne km_X5_97 (by decide) (by decide) ⟨Nat.le_refl _, Nat.le_refl _⟩ rfl rfl rfl rfl (Nat.le_of_ble_eq_true rfl) (dall tdX5_raise 2 rfl) ?_
  refine r_if_eq (tgt := 22) C (dall tdX5_raise 3 rfl) (by decide) (fun c1 => ?_) (fun c1 => ?_)
  · have h := (if_pos c1).symm.trans h
    have ok := ok.1 c1
    refine r_bipush (v := -2) C (dall tdX5_raise 10 rfl) (by decide) ?_
    exact r_iret C hR (dall tdX5_raise 11 rfl) (by subst h; exact ⟨rfl, rfl⟩)
  · have h := (if_neg c1).symm.trans h
    have ok := ok.2 c1
    refine r_iload_n C 2 (dall tdX5_raise 4 rfl) rfl ?_
    obtain ⟨o2, ok⟩ := ok
    refine r_s0I (as := [.int a2_]) C (zX5_isPart a2_ o2) ms_X5_isPart km_X5_131 (by decide) (by decide) ⟨Nat.le_refl _, Nat.le_refl _⟩ rfl rfl (Nat.le_of_ble_eq_true rfl) (dall tdX5_raise 5 rfl) ?_
    refine r_if_eq (tgt := 22) C (dall tdX5_raise 6 rfl) (by decide) (fun c3 => ?_) (fun c3 => ?_)
    · have h := (if_pos c3).symm.trans h
      have ok := ok.1 c3
      refine r_bipush (v := -2) C (dall tdX5_raise 10 rfl) (by decide) ?_
      exact r_iret C hR (dall tdX5_raise 11 rfl) (by subst h; exact ⟨rfl, rfl⟩)
    · have h := (if_neg c3).symm.trans h
      have ok := ok.2 c3
      refine r_iload_n C 3 (dall tdX5_raise 7 rfl) rfl ?_
      obtain ⟨o4, ok⟩ := ok
      refine r_s0I (as := [.int a3_]) C (zX5_isCell a3_ o4) ms_X5_isCell km_X5_91 (by decide) (by decide) ⟨Nat.le_refl _, Nat.le_refl _⟩ rfl rfl (Nat.le_of_ble_eq_true rfl) (dall tdX5_raise 8 rfl) ?_
      refine r_if_ne (tgt := 25) C (dall tdX5_raise 9 rfl) (by decide) (fun c5 => ?_) (fun c5 => ?_)
      · have h := (if_neg c5).symm.trans h
        have ok := ok.2 c5
        refine r_iload_n C 2 (dall tdX5_raise 12 rfl) rfl ?_
        refine r_aload_n C 0 (dall tdX5_raise 13 rfl) rfl ?_
        refine r_get C 0 kw_X5 rfl rfl (by decide) kf_X5_20 rfl rfl (dall tdX5_raise 14 rfl) ?_
        obtain ⟨o6, ok⟩ := ok
        refine rcN_L0 (as := []) C (zX4_stands cy (va_up qn 9 a) (tw cy a τ) σ.2.1  o6) mv_X4_stands km_X5_107 (by decide) (by decide) ⟨Nat.le_refl _, Nat.le_refl _⟩ rfl rfl (Nat.le_of_ble_eq_true rfl) (dall tdX5_raise 15 rfl) ?_
        obtain ⟨o7, ok⟩ := ok
        refine r_s0L (as := [.int a2_, .long (fX4_stands σ.2.1)]) C (zX3_places a2_ (fX4_stands σ.2.1) o7) ms_X3_places km_X5_134 (by decide) (by decide) ⟨Nat.le_refl _, Nat.le_refl _⟩ rfl rfl (Nat.le_of_ble_eq_true rfl) (dall tdX5_raise 16 rfl) ?_
        refine r_iload_n C 3 (dall tdX5_raise 17 rfl) rfl ?_
        refine r_s0I (as := [.long (fX3_places a2_ (fX4_stands σ.2.1)), .int a3_]) C (zX3_has (fX3_places a2_ (fX4_stands σ.2.1)) a3_ ) ms_X3_has km_X5_140 (by decide) (by decide) ⟨Nat.le_refl _, Nat.le_refl _⟩ rfl rfl (Nat.le_of_ble_eq_true rfl) (dall tdX5_raise 18 rfl) ?_
        refine r_if_ne (tgt := 46) C (dall tdX5_raise 19 rfl) (by decide) (fun c8 => ?_) (fun c8 => ?_)
        · have h := (if_neg c8).symm.trans h
          have ok := ok.2 c8
          refine r_aload_n C 0 (dall tdX5_raise 22 rfl) rfl ?_
          refine r_get C 0 kw_X5 rfl rfl (by decide) kf_X5_20 rfl rfl (dall tdX5_raise 23 rfl) ?_
          refine r_get C 1 kw_X4 rfl rfl (by decide) kf_X5_84 rfl rfl (dall tdX5_raise 24 rfl) ?_
          refine r_iload_n C 1 (dall tdX5_raise 25 rfl) rfl ?_
          refine r_dup2_11 C (dall tdX5_raise 26 rfl) rfl rfl ?_
          obtain ⟨o9, ok⟩ := ok
          refine r_lald C 5 1 rfl rfl o9 (dall tdX5_raise 27 rfl) ?_
          refine r_iload_n C 2 (dall tdX5_raise 28 rfl) rfl ?_
          refine r_iload_n C 3 (dall tdX5_raise 29 rfl) rfl ?_
          obtain ⟨o10, ok⟩ := ok
          refine r_s0L (as := [.int a2_, .int a3_]) C (zX3_cellsOf a2_ a3_ o10) ms_X3_cellsOf km_X5_144 (by decide) (by decide) ⟨Nat.le_refl _, Nat.le_refl _⟩ rfl rfl (Nat.le_of_ble_eq_true rfl) (dall tdX5_raise 30 rfl) ?_
          refine r_lor C (dall tdX5_raise 31 rfl) ?_
          obtain ⟨o11, ok⟩ := ok
          refine r_last C 5 1 rfl rfl o11 (pa_X5_n_3 cy q qn qt qk qr qs a τ σ a1_.toNatClampNeg ((σ.2.1.2.2.2 3 a1_.toNatClampNeg) ||| (fX3_cellsOf a2_ a3_))) (dall tdX5_raise 32 rfl) ?_
          refine r_aload_n C 0 (dall tdX5_raise 33 rfl) rfl ?_
          refine r_get C 0 kw_X5 rfl rfl (by decide) kf_X5_20 rfl rfl (dall tdX5_raise 34 rfl) ?_
          refine r_get C 1 kw_X4 rfl rfl (by decide) kf_X5_84 rfl rfl (dall tdX5_raise 35 rfl) ?_
          refine r_iload_n C 1 (dall tdX5_raise 36 rfl) rfl ?_
          have o12 := ok
          refine r_lald C 5 1 rfl rfl o12 (dall tdX5_raise 37 rfl) ?_
          refine r_s0I (as := [.long (((xN σ (oT σ.2.1 3 a1_.toNatClampNeg ((σ.2.1.2.2.2 3 a1_.toNatClampNeg) ||| (fX3_cellsOf a2_ a3_)))).2.1).2.2.2 3 a1_.toNatClampNeg)]) C (zJ13_bitCount_95d88 (((xN σ (oT σ.2.1 3 a1_.toNatClampNeg ((σ.2.1.2.2.2 3 a1_.toNatClampNeg) ||| (fX3_cellsOf a2_ a3_)))).2.1).2.2.2 3 a1_.toNatClampNeg) ) ms_J13_bitCount_95d88 km_X5_148 (by decide) (by decide) ⟨Nat.le_refl _, Nat.le_refl _⟩ rfl rfl (Nat.le_of_ble_eq_true rfl) (dall tdX5_raise 38 rfl) ?_
          exact r_iret C hR (dall tdX5_raise 39 rfl) (by subst h; exact ⟨rfl, rfl⟩)
        · have h := (if_pos c8).symm.trans h
          have ok := ok.1 c8
          refine r_bipush (v := -3) C (dall tdX5_raise 20 rfl) (by decide) ?_
          exact r_iret C hR (dall tdX5_raise 21 rfl) (by subst h; exact ⟨rfl, rfl⟩)
      · have h := (if_pos c5).symm.trans h
        have ok := ok.1 c5
        refine r_bipush (v := -2) C (dall tdX5_raise 10 rfl) (by decide) ?_
        exact r_iret C hR (dall tdX5_raise 11 rfl) (by subst h; exact ⟨rfl, rfl⟩)
def fX5_raise (τ : TX) (σ : XS) (a1_ : Int32) (a2_ : Int32) (a3_ : Int32) : Int32 × XS := pX5_raise_0 τ  σ a1_ a2_ a3_
def gX5_raise (τ : TX) (σ : XS) (a1_ : Int32) (a2_ : Int32) (a3_ : Int32) : Prop := oX5_raise_0 τ  σ a1_ a2_ a3_
set_option maxRecDepth 100000 in
theorem zX5_raise (cy : Nat → ClassId) (q : Nat → Nat) (qn : Nat → Nat) (qt : Nat → Nat) (qk : Nat → Nat) (qr : Nat → Nat) (qs : Nat → Nat → Nat) (a : Nat) (τ : TX)  {D : va_G} (σ : XS) (a1_ : Int32) (a2_ : Int32) (a3_ : Int32) (ok : gX5_raise τ σ a1_ a2_ a3_)  : Con yX5_raise cX5_raise 4 (some .int) 2 0 0 D (gty cy) [.ref (q 8), .int a1_, .int a2_, .int a3_] (wX5 cy q qn qt qk qr qs a τ σ) (eI (wX5 cy q qn qt qk qr qs a τ (fX5_raise τ σ a1_ a2_ a3_).2) (fX5_raise τ σ a1_ a2_ a3_).1) :=
  Con.of (own := RX5) (by decide +kernel) rfl (Nat.le_of_ble_eq_true rfl) (Nat.zero_le _) (fun X A C hR _ => (wX5_raise_0 σ a1_ a2_ a3_ C hR  ok rfl))
theorem mv_X5_raise : MV yX5_raise cX5_raise 4 (some .int) RX5 3 := ⟨ki_X5_raise, kv_X5_raise, kn_X5, kc_X5_raise, by decide +kernel⟩
def tbX5_fell : List (Nat × Instr × Nat) := [(0, .iload_n 1, 1), (1, .invokestatic 91, 3), (4, .ifCond .ne 6, 3), (7, .bipush (-2), 2), (9, .ireturn, 1), (10, .aload_n 0, 1), (11, .getfield 20, 3), (14, .invokevirtual 154, 3), (17, .iload_n 1, 1), (18, .invokestatic 140, 3), (21, .ifCond .ne 6, 3), (24, .bipush (-3), 2), (26, .ireturn, 1), (27, .aload_n 0, 1), (28, .getfield 20, 3), (31, .invokevirtual 157, 3), (34, .istore_n 2, 1), (35, .aload_n 0, 1), (36, .getfield 20, 3), (39, .iload_n 1, 1), (40, .invokevirtual 160, 3), (43, .iload_n 2, 1), (44, .aload_n 0, 1), (45, .getfield 20, 3), (48, .invokevirtual 157, 3), (51, .isub, 1), (52, .ireturn, 1)]
theorem tdX5_fell : tbX5_fell.all (fun q => decide (decode cX5_fell q.1 = .ok q.2)) = true := by decide +kernel
def pX5_fell_43 (τ : TX)  (σ : XS) (a2_ : Int32) : Int32 × XS := (a2_ - (fX4_countUp σ.2.1), σ)
def oX5_fell_43 (τ : TX)  (σ : XS) (a2_ : Int32) : Prop := gX4_countUp σ.2.1 
set_option maxHeartbeats 4000000 in
set_option maxRecDepth 100000 in
theorem wX5_fell_43 {X : CX} {cy : Nat → ClassId} {q : Nat → Nat} {qn : Nat → Nat} {qt : Nat → Nat} {qk : Nat → Nat} {qr : Nat → Nat} {qs : Nat → Nat → Nat} {a : Nat} {τ : TX} {D : va_G} {A : Nat → Prop} {res : Int32 × XS} (σ : XS) (a2_ : Int32) (C : Cx X cX5_fell RX5 3 D (gty cy) A 4 0 0) (hR : Rt X (some .int) D (gty cy) A 0 0 (eI (wX5 cy q qn qt qk qr qs a τ res.2) res.1))  (ok : oX5_fell_43 τ  σ a2_) (h : pX5_fell_43 τ  σ a2_ = res) : At X D A 3 0 0 43 [(0, .ref (q 8)), (2, .int a2_)] [] (wX5 cy q qn qt qk qr qs a τ σ) := by
  unfold pX5_fell_43 at h
  unfold oX5_fell_43 at ok
  refine r_iload_n C 1 (dall tdX5_fell 21 rfl) rfl ?_
  refine r_aload_n C 0 (dall tdX5_fell 22 rfl) rfl ?_
  refine r_get C 0 kw_X5 rfl rfl (by decide) kf_X5_20 rfl rfl (dall tdX5_fell 23 rfl) ?_
  have o1 := ok
  refine rcN_I0 (as := []) C (zX4_countUp cy (va_up qn 9 a) (tw cy a τ) σ.2.1  o1) mv_X4_countUp km_X5_157 (by decide) (by decide) ⟨Nat.le_refl _, Nat.le_refl _⟩ rfl rfl (Nat.le_of_ble_eq_true rfl) (dall tdX5_fell 24 rfl) ?_
  refine r_isub C (dall tdX5_fell 25 rfl) ?_
  exact r_iret C hR (dall tdX5_fell 26 rfl) (by subst h; exact ⟨rfl, rfl⟩)
def pX5_fell_0 (τ : TX)  (σ : XS) (a1_ : Int32) : Int32 × XS := if (fX5_isCell a1_) = 0 then ((-2), σ) else if (fX3_has (fX4_allUp σ.2.1) a1_) = 0 then ((-3), σ) else pX5_fell_43 τ  (xN σ (fX4_dropCell σ.2.1 a1_)) (fX4_countUp σ.2.1)
def oX5_fell_0 (τ : TX)  (σ : XS) (a1_ : Int32) : Prop := (gX5_isCell a1_) ∧ (((fX5_isCell a1_) = 0 → True) ∧ (¬ ((fX5_isCell a1_) = 0) → (gX4_allUp σ.2.1 ) ∧ (((fX3_has (fX4_allUp σ.2.1) a1_) = 0 → True) ∧ (¬ ((fX3_has (fX4_allUp σ.2.1) a1_) = 0) → (gX4_countUp σ.2.1 ) ∧ ((gX4_dropCell σ.2.1 a1_) ∧ (oX5_fell_43 τ  (xN σ (fX4_dropCell σ.2.1 a1_)) (fX4_countUp σ.2.1)))))))
set_option maxHeartbeats 4000000 in
set_option maxRecDepth 100000 in
theorem wX5_fell_0 {X : CX} {cy : Nat → ClassId} {q : Nat → Nat} {qn : Nat → Nat} {qt : Nat → Nat} {qk : Nat → Nat} {qr : Nat → Nat} {qs : Nat → Nat → Nat} {a : Nat} {τ : TX} {D : va_G} {A : Nat → Prop} {res : Int32 × XS} (σ : XS) (a1_ : Int32) (C : Cx X cX5_fell RX5 3 D (gty cy) A 4 0 0) (hR : Rt X (some .int) D (gty cy) A 0 0 (eI (wX5 cy q qn qt qk qr qs a τ res.2) res.1))  (ok : oX5_fell_0 τ  σ a1_) (h : pX5_fell_0 τ  σ a1_ = res) : At X D A 3 0 0 0 [(0, .ref (q 8)), (1, .int a1_)] [] (wX5 cy q qn qt qk qr qs a τ σ) := by
  unfold pX5_fell_0 at h
  unfold oX5_fell_0 at ok
  refine r_iload_n C 1 (dall tdX5_fell 0 rfl) rfl ?_
  obtain ⟨o2, ok⟩ := ok
  refine r_s0I (as := [.int a1_]) C (zX5_isCell a1_ o2) ms_X5_isCell km_X5_91 (by decide) (by decide) ⟨Nat.le_refl _, Nat.le_refl _⟩ rfl rfl (Nat.le_of_ble_eq_true rfl) (dall tdX5_fell 1 rfl) ?_
  refine r_if_ne (tgt := 10) C (dall tdX5_fell 2 rfl) (by decide) (fun c3 => ?_) (fun c3 => ?_)
  · have h := (if_neg c3).symm.trans h
    have ok := ok.2 c3
    refine r_aload_n C 0 (dall tdX5_fell 5 rfl) rfl ?_
    refine r_get C 0 kw_X5 rfl rfl (by decide) kf_X5_20 rfl rfl (dall tdX5_fell 6 rfl) ?_
    obtain ⟨o4, ok⟩ := ok
    refine rcN_L0 (as := []) C (zX4_allUp cy (va_up qn 9 a) (tw cy a τ) σ.2.1  o4) mv_X4_allUp km_X5_154 (by decide) (by decide) ⟨Nat.le_refl _, Nat.le_refl _⟩ rfl rfl (Nat.le_of_ble_eq_true rfl) (dall tdX5_fell 7 rfl) ?_
    refine r_iload_n C 1 (dall tdX5_fell 8 rfl) rfl ?_
    refine r_s0I (as := [.long (fX4_allUp σ.2.1), .int a1_]) C (zX3_has (fX4_allUp σ.2.1) a1_ ) ms_X3_has km_X5_140 (by decide) (by decide) ⟨Nat.le_refl _, Nat.le_refl _⟩ rfl rfl (Nat.le_of_ble_eq_true rfl) (dall tdX5_fell 9 rfl) ?_
    refine r_if_ne (tgt := 27) C (dall tdX5_fell 10 rfl) (by decide) (fun c5 => ?_) (fun c5 => ?_)
    · have h := (if_neg c5).symm.trans h
      have ok := ok.2 c5
      refine r_aload_n C 0 (dall tdX5_fell 13 rfl) rfl ?_
      refine r_get C 0 kw_X5 rfl rfl (by decide) kf_X5_20 rfl rfl (dall tdX5_fell 14 rfl) ?_
      obtain ⟨o6, ok⟩ := ok
      refine rcN_I0 (as := []) C (zX4_countUp cy (va_up qn 9 a) (tw cy a τ) σ.2.1  o6) mv_X4_countUp km_X5_157 (by decide) (by decide) ⟨Nat.le_refl _, Nat.le_refl _⟩ rfl rfl (Nat.le_of_ble_eq_true rfl) (dall tdX5_fell 15 rfl) ?_
      refine r_istore_n (lv' := [(2, .int (fX4_countUp σ.2.1)), (0, .ref (q 8)), (1, .int a1_)]) C (dall tdX5_fell 16 rfl) (by decide) rfl ?_
      refine r_aload_n C 1 (dall tdX5_fell 17 rfl) rfl ?_
      refine r_get C 0 kw_X5 rfl rfl (by decide) kf_X5_20 rfl rfl (dall tdX5_fell 18 rfl) ?_
      refine r_iload_n C 2 (dall tdX5_fell 19 rfl) rfl ?_
      obtain ⟨o7, ok⟩ := ok
      refine rcN_V (as := [.int a1_]) C (zX4_dropCell cy (va_up qn 9 a) (tw cy a τ) σ.2.1 a1_ o7) mv_X4_dropCell km_X5_160 (by decide) (by decide) ⟨Nat.le_refl _, Nat.le_refl _⟩ rfl rfl (Nat.le_of_ble_eq_true rfl) (dall tdX5_fell 20 rfl) ?_
      refine r_pick [1, 0] rfl ?_
      exact wX5_fell_43 (xN σ (fX4_dropCell σ.2.1 a1_)) (fX4_countUp σ.2.1) C hR  ok h
    · have h := (if_pos c5).symm.trans h
      have ok := ok.1 c5
      refine r_bipush (v := -3) C (dall tdX5_fell 11 rfl) (by decide) ?_
      exact r_iret C hR (dall tdX5_fell 12 rfl) (by subst h; exact ⟨rfl, rfl⟩)
  · have h := (if_pos c3).symm.trans h
    have ok := ok.1 c3
    refine r_bipush (v := -2) C (dall tdX5_fell 3 rfl) (by decide) ?_
    exact r_iret C hR (dall tdX5_fell 4 rfl) (by subst h; exact ⟨rfl, rfl⟩)
def fX5_fell (τ : TX) (σ : XS) (a1_ : Int32) : Int32 × XS := pX5_fell_0 τ  σ a1_
def gX5_fell (τ : TX) (σ : XS) (a1_ : Int32) : Prop := oX5_fell_0 τ  σ a1_
set_option maxRecDepth 100000 in
theorem zX5_fell (cy : Nat → ClassId) (q : Nat → Nat) (qn : Nat → Nat) (qt : Nat → Nat) (qk : Nat → Nat) (qr : Nat → Nat) (qs : Nat → Nat → Nat) (a : Nat) (τ : TX)  {D : va_G} (σ : XS) (a1_ : Int32) (ok : gX5_fell τ σ a1_)  : Con yX5_fell cX5_fell 3 (some .int) 4 0 0 D (gty cy) [.ref (q 8), .int a1_] (wX5 cy q qn qt qk qr qs a τ σ) (eI (wX5 cy q qn qt qk qr qs a τ (fX5_fell τ σ a1_).2) (fX5_fell τ σ a1_).1) :=
  Con.of (own := RX5) (by decide +kernel) rfl (Nat.le_of_ble_eq_true rfl) (Nat.zero_le _) (fun X A C hR _ => (wX5_fell_0 σ a1_ C hR  ok rfl))
theorem mv_X5_fell : MV yX5_fell cX5_fell 3 (some .int) RX5 1 := ⟨ki_X5_fell, kv_X5_fell, kn_X5, kc_X5_fell, by decide +kernel⟩
def tbX5_room : List (Nat × Instr × Nat) := [(0, .iload_n 1, 1), (1, .invokestatic 131, 3), (4, .ifCond .eq 17, 3), (7, .iload_n 1, 1), (8, .aload_n 0, 1), (9, .getfield 20, 3), (12, .invokevirtual 107, 3), (15, .invokestatic 134, 3), (18, .goto 6, 3), (21, .ldc2_w 111, 3), (24, .lreturn, 1)]
theorem tdX5_room : tbX5_room.all (fun q => decide (decode cX5_room q.1 = .ok q.2)) = true := by decide +kernel
def pX5_room_0 (τ : TX)  (σ : XS) (a1_ : Int32) : Int64 := if (fX5_isPart a1_) = 0 then (-4611686018427387904) else fX3_places a1_ (fX4_stands σ.2.1)
def oX5_room_0 (τ : TX)  (σ : XS) (a1_ : Int32) : Prop := (gX5_isPart a1_) ∧ (((fX5_isPart a1_) = 0 → True) ∧ (¬ ((fX5_isPart a1_) = 0) → (gX4_stands σ.2.1 ) ∧ (gX3_places a1_ (fX4_stands σ.2.1))))
set_option maxHeartbeats 4000000 in
set_option maxRecDepth 100000 in
theorem wX5_room_0 {X : CX} {cy : Nat → ClassId} {q : Nat → Nat} {qn : Nat → Nat} {qt : Nat → Nat} {qk : Nat → Nat} {qr : Nat → Nat} {qs : Nat → Nat → Nat} {a : Nat} {τ : TX} {D : va_G} {A : Nat → Prop} {res : Int64} (σ : XS) (a1_ : Int32) (C : Cx X cX5_room RX5 2 D (gty cy) A 2 0 0) (hR : Rt X (some .long) D (gty cy) A 0 0 (eL (wX5 cy q qn qt qk qr qs a τ σ) res))  (ok : oX5_room_0 τ  σ a1_) (h : pX5_room_0 τ  σ a1_ = res) : At X D A 2 0 0 0 [(0, .ref (q 8)), (1, .int a1_)] [] (wX5 cy q qn qt qk qr qs a τ σ) := by
  unfold pX5_room_0 at h
  unfold oX5_room_0 at ok
  refine r_iload_n C 1 (dall tdX5_room 0 rfl) rfl ?_
  obtain ⟨o1, ok⟩ := ok
  refine r_s0I (as := [.int a1_]) C (zX5_isPart a1_ o1) ms_X5_isPart km_X5_131 (by decide) (by decide) ⟨Nat.le_refl _, Nat.le_refl _⟩ rfl rfl (Nat.le_of_ble_eq_true rfl) (dall tdX5_room 1 rfl) ?_
  refine r_if_eq (tgt := 21) C (dall tdX5_room 2 rfl) (by decide) (fun c2 => ?_) (fun c2 => ?_)
  · have h := (if_pos c2).symm.trans h
    have ok := ok.1 c2
    refine r_ldc2 C kk_X5_111 (dall tdX5_room 9 rfl) ?_
    exact r_lret C hR (dall tdX5_room 10 rfl) (by subst h; exact ⟨rfl, rfl⟩)
  · have h := (if_neg c2).symm.trans h
    have ok := ok.2 c2
    refine r_iload_n C 1 (dall tdX5_room 3 rfl) rfl ?_
    refine r_aload_n C 0 (dall tdX5_room 4 rfl) rfl ?_
    refine r_get C 0 kw_X5 rfl rfl (by decide) kf_X5_20 rfl rfl (dall tdX5_room 5 rfl) ?_
    obtain ⟨o3, ok⟩ := ok
    refine rcN_L0 (as := []) C (zX4_stands cy (va_up qn 9 a) (tw cy a τ) σ.2.1  o3) mv_X4_stands km_X5_107 (by decide) (by decide) ⟨Nat.le_refl _, Nat.le_refl _⟩ rfl rfl (Nat.le_of_ble_eq_true rfl) (dall tdX5_room 6 rfl) ?_
    have o4 := ok
    refine r_s0L (as := [.int a1_, .long (fX4_stands σ.2.1)]) C (zX3_places a1_ (fX4_stands σ.2.1) o4) ms_X3_places km_X5_134 (by decide) (by decide) ⟨Nat.le_refl _, Nat.le_refl _⟩ rfl rfl (Nat.le_of_ble_eq_true rfl) (dall tdX5_room 7 rfl) ?_
    refine r_goto (tgt := 24) C (dall tdX5_room 8 rfl) (by decide) ?_
    exact r_lret C hR (dall tdX5_room 10 rfl) (by subst h; exact ⟨rfl, rfl⟩)
def fX5_room (τ : TX) (σ : XS) (a1_ : Int32) : Int64 := pX5_room_0 τ  σ a1_
def gX5_room (τ : TX) (σ : XS) (a1_ : Int32) : Prop := oX5_room_0 τ  σ a1_
set_option maxRecDepth 100000 in
theorem zX5_room (cy : Nat → ClassId) (q : Nat → Nat) (qn : Nat → Nat) (qt : Nat → Nat) (qk : Nat → Nat) (qr : Nat → Nat) (qs : Nat → Nat → Nat) (a : Nat) (τ : TX)  {D : va_G} (σ : XS) (a1_ : Int32) (ok : gX5_room τ σ a1_)  : Con yX5_room cX5_room 2 (some .long) 2 0 0 D (gty cy) [.ref (q 8), .int a1_] (wX5 cy q qn qt qk qr qs a τ σ) (eL (wX5 cy q qn qt qk qr qs a τ σ) (fX5_room τ σ a1_)) :=
  Con.of (own := RX5) (by decide +kernel) rfl (Nat.le_of_ble_eq_true rfl) (Nat.zero_le _) (fun X A C hR _ => (wX5_room_0 σ a1_ C hR  ok rfl))
theorem mv_X5_room : MV yX5_room cX5_room 2 (some .long) RX5 1 := ⟨ki_X5_room, kv_X5_room, kn_X5, kc_X5_room, by decide +kernel⟩
def tbX5_year : List (Nat × Instr × Nat) := [(0, .aload_n 0, 1), (1, .getfield 20, 3), (4, .getfield 88, 3), (7, .sipush 999, 3), (10, .if_icmp .lt 6, 3), (13, .bipush (-3), 2), (15, .ireturn, 1), (16, .aload_n 0, 1), (17, .getfield 20, 3), (20, .invokevirtual 157, 3), (23, .istore_n 1, 1), (24, .aload_n 0, 1), (25, .getfield 20, 3), (28, .invokevirtual 164, 3), (31, .iload_n 1, 1), (32, .aload_n 0, 1), (33, .getfield 20, 3), (36, .invokevirtual 157, 3), (39, .isub, 1), (40, .ireturn, 1)]
theorem tdX5_year : tbX5_year.all (fun q => decide (decode cX5_year q.1 = .ok q.2)) = true := by decide +kernel
def pX5_year_31 (τ : TX)  (σ : XS) (a1_ : Int32) : Int32 × XS := (a1_ - (fX4_countUp σ.2.1), σ)
def oX5_year_31 (τ : TX)  (σ : XS) (a1_ : Int32) : Prop := gX4_countUp σ.2.1 
set_option maxHeartbeats 4000000 in
set_option maxRecDepth 100000 in
theorem wX5_year_31 {X : CX} {cy : Nat → ClassId} {q : Nat → Nat} {qn : Nat → Nat} {qt : Nat → Nat} {qk : Nat → Nat} {qr : Nat → Nat} {qs : Nat → Nat → Nat} {a : Nat} {τ : TX} {D : va_G} {A : Nat → Prop} {res : Int32 × XS} (σ : XS) (a1_ : Int32) (C : Cx X cX5_year RX5 2 D (gty cy) A 6 0 0) (hR : Rt X (some .int) D (gty cy) A 0 0 (eI (wX5 cy q qn qt qk qr qs a τ res.2) res.1))  (ok : oX5_year_31 τ  σ a1_) (h : pX5_year_31 τ  σ a1_ = res) : At X D A 2 0 0 31 [(0, .ref (q 8)), (1, .int a1_)] [] (wX5 cy q qn qt qk qr qs a τ σ) := by
  unfold pX5_year_31 at h
  unfold oX5_year_31 at ok
  refine r_iload_n C 1 (dall tdX5_year 14 rfl) rfl ?_
  refine r_aload_n C 0 (dall tdX5_year 15 rfl) rfl ?_
  refine r_get C 0 kw_X5 rfl rfl (by decide) kf_X5_20 rfl rfl (dall tdX5_year 16 rfl) ?_
  have o1 := ok
  refine rcN_I0 (as := []) C (zX4_countUp cy (va_up qn 9 a) (tw cy a τ) σ.2.1  o1) mv_X4_countUp km_X5_157 (by decide) (by decide) ⟨Nat.le_refl _, Nat.le_refl _⟩ rfl rfl (Nat.le_of_ble_eq_true rfl) (dall tdX5_year 17 rfl) ?_
  refine r_isub C (dall tdX5_year 18 rfl) ?_
  exact r_iret C hR (dall tdX5_year 19 rfl) (by subst h; exact ⟨rfl, rfl⟩)
def pX5_year_0 (τ : TX)  (σ : XS) : Int32 × XS := if (σ.2.1.1 5) < 999 then pX5_year_31 τ  (xN σ (fX4_passYear τ σ.2.1 )) (fX4_countUp σ.2.1) else ((-3), σ)
def oX5_year_0 (τ : TX)  (σ : XS) : Prop := ((σ.2.1.1 5) < 999 → (gX4_countUp σ.2.1 ) ∧ ((gX4_passYear τ σ.2.1 ) ∧ (oX5_year_31 τ  (xN σ (fX4_passYear τ σ.2.1 )) (fX4_countUp σ.2.1)))) ∧ (¬ ((σ.2.1.1 5) < 999) → True)
set_option maxHeartbeats 4000000 in
set_option maxRecDepth 100000 in
theorem wX5_year_0 {X : CX} {cy : Nat → ClassId} {q : Nat → Nat} {qn : Nat → Nat} {qt : Nat → Nat} {qk : Nat → Nat} {qr : Nat → Nat} {qs : Nat → Nat → Nat} {a : Nat} {τ : TX} {D : va_G} {A : Nat → Prop} {res : Int32 × XS} (σ : XS) (C : Cx X cX5_year RX5 2 D (gty cy) A 6 0 0) (hR : Rt X (some .int) D (gty cy) A 0 0 (eI (wX5 cy q qn qt qk qr qs a τ res.2) res.1))  (ok : oX5_year_0 τ  σ) (h : pX5_year_0 τ  σ = res) : At X D A 2 0 0 0 [(0, .ref (q 8))] [] (wX5 cy q qn qt qk qr qs a τ σ) := by
  unfold pX5_year_0 at h
  unfold oX5_year_0 at ok
  refine r_aload_n C 0 (dall tdX5_year 0 rfl) rfl ?_
  refine r_get C 0 kw_X5 rfl rfl (by decide) kf_X5_20 rfl rfl (dall tdX5_year 1 rfl) ?_
  refine r_get C 1 kw_X4 rfl rfl (by decide) kf_X5_88 rfl rfl (dall tdX5_year 2 rfl) ?_
  refine r_sipush (v := 999) C (dall tdX5_year 3 rfl) (by decide) ?_
  refine r_icmp_lt (tgt := 16) C (dall tdX5_year 4 rfl) (by decide) (fun c2 => ?_) (fun c2 => ?_)
  · have h := (if_pos c2).symm.trans h
    have ok := ok.1 c2
    refine r_aload_n C 0 (dall tdX5_year 7 rfl) rfl ?_
    refine r_get C 0 kw_X5 rfl rfl (by decide) kf_X5_20 rfl rfl (dall tdX5_year 8 rfl) ?_
    obtain ⟨o3, ok⟩ := ok
    refine rcN_I0 (as := []) C (zX4_countUp cy (va_up qn 9 a) (tw cy a τ) σ.2.1  o3) mv_X4_countUp km_X5_157 (by decide) (by decide) ⟨Nat.le_refl _, Nat.le_refl _⟩ rfl rfl (Nat.le_of_ble_eq_true rfl) (dall tdX5_year 9 rfl) ?_
    refine r_istore_n (lv' := [(1, .int (fX4_countUp σ.2.1)), (0, .ref (q 8))]) C (dall tdX5_year 10 rfl) (by decide) rfl ?_
    refine r_aload_n C 1 (dall tdX5_year 11 rfl) rfl ?_
    refine r_get C 0 kw_X5 rfl rfl (by decide) kf_X5_20 rfl rfl (dall tdX5_year 12 rfl) ?_
    obtain ⟨o4, ok⟩ := ok
    refine rcN_V (as := []) C (zX4_passYear cy (va_up qn 9 a) τ σ.2.1  o4) mv_X4_passYear km_X5_164 (by decide) (by decide) ⟨Nat.le_refl _, Nat.le_refl _⟩ rfl rfl (Nat.le_of_ble_eq_true rfl) (dall tdX5_year 13 rfl) ?_
    refine r_pick [1, 0] rfl ?_
    exact wX5_year_31 (xN σ (fX4_passYear τ σ.2.1 )) (fX4_countUp σ.2.1) C hR  ok h
  · have h := (if_neg c2).symm.trans h
    have ok := ok.2 c2
    refine r_bipush (v := -3) C (dall tdX5_year 5 rfl) (by decide) ?_
    exact r_iret C hR (dall tdX5_year 6 rfl) (by subst h; exact ⟨rfl, rfl⟩)
def fX5_year (τ : TX) (σ : XS) : Int32 × XS := pX5_year_0 τ  σ
def gX5_year (τ : TX) (σ : XS) : Prop := oX5_year_0 τ  σ
set_option maxRecDepth 100000 in
theorem zX5_year (cy : Nat → ClassId) (q : Nat → Nat) (qn : Nat → Nat) (qt : Nat → Nat) (qk : Nat → Nat) (qr : Nat → Nat) (qs : Nat → Nat → Nat) (a : Nat) (τ : TX)  {D : va_G} (σ : XS) (ok : gX5_year τ σ )  : Con yX5_year cX5_year 2 (some .int) 6 0 0 D (gty cy) [.ref (q 8)] (wX5 cy q qn qt qk qr qs a τ σ) (eI (wX5 cy q qn qt qk qr qs a τ (fX5_year τ σ ).2) (fX5_year τ σ ).1) :=
  Con.of (own := RX5) (by decide +kernel) rfl (Nat.le_of_ble_eq_true rfl) (Nat.zero_le _) (fun X A C hR _ => (wX5_year_0 σ C hR  ok rfl))
theorem mv_X5_year : MV yX5_year cX5_year 2 (some .int) RX5 0 := ⟨ki_X5_year, kv_X5_year, kn_X5, kc_X5_year, by decide +kernel⟩
def tbX5_think : List (Nat × Instr × Nat) := [(0, .aload_n 0, 1), (1, .getfield 24, 3), (4, .aload_n 0, 1), (5, .getfield 20, 3), (8, .invokevirtual 186, 3), (11, .iconst 0, 1), (12, .istore_n 2, 1), (13, .iload_n 2, 1), (14, .iload_n 1, 1), (15, .if_icmp .ge 16, 3), (18, .aload_n 0, 1), (19, .getfield 24, 3), (22, .invokevirtual 164, 3), (25, .iinc 2 1, 3), (28, .goto (-15), 3), (31, .return_, 1)]
theorem tdX5_think : tbX5_think.all (fun q => decide (decode cX5_think q.1 = .ok q.2)) = true := by decide +kernel
def pX5_think_25 (τ : TX) (kR13 : XS × Int32 → XS) (σ : XS) (a1_ : Int32) (a2_ : Int32) : XS := kR13 (σ, a2_ + 1)
def oX5_think_25 (τ : TX) (kO13 : XS × Int32 → Prop) (σ : XS) (a1_ : Int32) (a2_ : Int32) : Prop := kO13 (σ, a2_ + 1)
set_option maxHeartbeats 4000000 in
set_option maxRecDepth 100000 in
theorem wX5_think_25 {X : CX} {cy : Nat → ClassId} {q : Nat → Nat} {qn : Nat → Nat} {qt : Nat → Nat} {qk : Nat → Nat} {qr : Nat → Nat} {qs : Nat → Nat → Nat} {a : Nat} {τ : TX} {D : va_G} {A : Nat → Prop} {res : XS} (σ : XS) (a1_ : Int32) (a2_ : Int32) (C : Cx X cX5_think RX5 3 D (gty cy) A 6 0 0) (hR : Rt X none D (gty cy) A 0 0 (eV (wX5 cy q qn qt qk qr qs a τ res))) (kR13 : XS × Int32 → XS) (kO13 : XS × Int32 → Prop) (hk13 : ∀ z, kO13 z → kR13 z = res → At X D A 3 0 0 13 [(0, .ref (q 8)), (1, .int a1_), (2, .int z.2)] [] (wX5 cy q qn qt qk qr qs a τ z.1)) (ok : oX5_think_25 τ kO13 σ a1_ a2_) (h : pX5_think_25 τ kR13 σ a1_ a2_ = res) : At X D A 3 0 0 25 [(0, .ref (q 8)), (1, .int a1_), (2, .int a2_)] [] (wX5 cy q qn qt qk qr qs a τ σ) := by
  unfold pX5_think_25 at h
  unfold oX5_think_25 at ok
  refine r_iinc (v := a2_ + 1) (lv' := [(2, .int (a2_ + 1)), (0, .ref (q 8)), (1, .int a1_)]) C 2 (dall tdX5_think 13 rfl) rfl rfl (by decide) rfl ?_
  refine r_goto (tgt := 13) C (dall tdX5_think 14 rfl) (by decide) ?_
  refine r_pick [1, 2, 0] rfl ?_
  exact hk13 (σ, a2_ + 1) ok h
def bX5_think_13 (τ : TX) (a1_ : Int32)  (kR13 : XS × Int32 → XS) (v : XS × Int32) : XS := if a1_ ≤ v.2 then v.1 else pX5_think_25 τ kR13 (xT v.1 (fX4_passYear τ v.1.2.2.1 )) a1_ v.2
def kX5_think_13 (τ : TX) (a1_ : Int32)  (kO13 : XS × Int32 → Prop) (v : XS × Int32) : Prop := (a1_ ≤ v.2 → True) ∧ (¬ (a1_ ≤ v.2) → (gX4_passYear τ v.1.2.2.1 ) ∧ (oX5_think_25 τ kO13 (xT v.1 (fX4_passYear τ v.1.2.2.1 )) a1_ v.2))
set_option maxHeartbeats 4000000 in
set_option maxRecDepth 100000 in
theorem wX5_think_13 {X : CX} {cy : Nat → ClassId} {q : Nat → Nat} {qn : Nat → Nat} {qt : Nat → Nat} {qk : Nat → Nat} {qr : Nat → Nat} {qs : Nat → Nat → Nat} {a : Nat} {τ : TX} {D : va_G} {A : Nat → Prop} {res : XS} (a1_ : Int32) (C : Cx X cX5_think RX5 3 D (gty cy) A 6 0 0) (hR : Rt X none D (gty cy) A 0 0 (eV (wX5 cy q qn qt qk qr qs a τ res))) (kR13 : XS × Int32 → XS) (kO13 : XS × Int32 → Prop) (hk13 : ∀ z, kO13 z → kR13 z = res → At X D A 3 0 0 13 [(0, .ref (q 8)), (1, .int a1_), (2, .int z.2)] [] (wX5 cy q qn qt qk qr qs a τ z.1)) (v : XS × Int32) (ok : kX5_think_13 τ a1_ kO13 v) (h : bX5_think_13 τ a1_ kR13 v = res) : At X D A 3 0 0 13 [(0, .ref (q 8)), (1, .int a1_), (2, .int v.2)] [] (wX5 cy q qn qt qk qr qs a τ v.1) := by
  unfold bX5_think_13 at h
  unfold kX5_think_13 at ok
  refine r_iload_n C 2 (dall tdX5_think 7 rfl) rfl ?_
  refine r_iload_n C 1 (dall tdX5_think 8 rfl) rfl ?_
  refine r_icmp_ge (tgt := 31) C (dall tdX5_think 9 rfl) (by decide) (fun c1 => ?_) (fun c1 => ?_)
  · have h := (if_pos c1).symm.trans h
    have ok := ok.1 c1
    exact r_vret C hR (dall tdX5_think 15 rfl) (by subst h; exact ⟨rfl, rfl⟩)
  · have h := (if_neg c1).symm.trans h
    have ok := ok.2 c1
    refine r_aload_n C 0 (dall tdX5_think 10 rfl) rfl ?_
    refine r_get C 0 kw_X5 rfl rfl (by decide) kf_X5_24 rfl rfl (dall tdX5_think 11 rfl) ?_
    obtain ⟨o2, ok⟩ := ok
    refine rcT_V (as := []) C (zX4_passYear cy (va_up qt 9 a) τ v.1.2.2.1  o2) mv_X4_passYear km_X5_164 (by decide) (by decide) ⟨Nat.le_refl _, Nat.le_refl _⟩ rfl rfl (Nat.le_of_ble_eq_true rfl) (dall tdX5_think 12 rfl) ?_
    exact wX5_think_25 (xT v.1 (fX4_passYear τ v.1.2.2.1 )) a1_ v.2 C hR kR13 kO13 hk13 ok h
set_option maxHeartbeats 4000000 in
set_option maxRecDepth 100000 in
theorem lX5_think_13 {X : CX} {cy : Nat → ClassId} {q : Nat → Nat} {qn : Nat → Nat} {qt : Nat → Nat} {qk : Nat → Nat} {qr : Nat → Nat} {qs : Nat → Nat → Nat} {a : Nat} {τ : TX} {D : va_G} {A : Nat → Prop} {res : XS} (a1_ : Int32) (C : Cx X cX5_think RX5 3 D (gty cy) A 6 0 0) (hR : Rt X none D (gty cy) A 0 0 (eV (wX5 cy q qn qt qk qr qs a τ res)))  (n : Nat) (v : XS × Int32) (ok : lpOk (kX5_think_13 τ a1_ ) n v) (h : lp xs0 (bX5_think_13 τ a1_ ) n v = res) : At X D A 3 0 0 13 [(0, .ref (q 8)), (1, .int a1_), (2, .int v.2)] [] (wX5 cy q qn qt qk qr qs a τ v.1) :=
  lp_rule (fun v rr_ => rr_ = res → At X D A 3 0 0 13 [(0, .ref (q 8)), (1, .int a1_), (2, .int v.2)] [] (wX5 cy q qn qt qk qr qs a τ v.1)) (fun kR kO hk v ok h => wX5_think_13 a1_ C hR  kR kO hk v ok h) n v ok h
def pX5_think_11 (τ : TX)  (σ : XS) (a1_ : Int32) : XS := lp xs0 (bX5_think_13 τ a1_ ) fu (σ, 0)
def oX5_think_11 (τ : TX)  (σ : XS) (a1_ : Int32) : Prop := lpOk (kX5_think_13 τ a1_ ) fu (σ, 0)
set_option maxHeartbeats 4000000 in
set_option maxRecDepth 100000 in
theorem wX5_think_11 {X : CX} {cy : Nat → ClassId} {q : Nat → Nat} {qn : Nat → Nat} {qt : Nat → Nat} {qk : Nat → Nat} {qr : Nat → Nat} {qs : Nat → Nat → Nat} {a : Nat} {τ : TX} {D : va_G} {A : Nat → Prop} {res : XS} (σ : XS) (a1_ : Int32) (C : Cx X cX5_think RX5 3 D (gty cy) A 6 0 0) (hR : Rt X none D (gty cy) A 0 0 (eV (wX5 cy q qn qt qk qr qs a τ res)))  (ok : oX5_think_11 τ  σ a1_) (h : pX5_think_11 τ  σ a1_ = res) : At X D A 3 0 0 11 [(0, .ref (q 8)), (1, .int a1_)] [] (wX5 cy q qn qt qk qr qs a τ σ) := by
  unfold pX5_think_11 at h
  unfold oX5_think_11 at ok
  refine r_iconst (v := 0) C (dall tdX5_think 5 rfl) (by decide) ?_
  refine r_istore_n (lv' := [(2, .int 0), (0, .ref (q 8)), (1, .int a1_)]) C (dall tdX5_think 6 rfl) (by decide) rfl ?_
  refine r_pick [1, 2, 0] rfl ?_
  exact lX5_think_13 a1_ C hR  fu _ ok h
def pX5_think_0 (τ : TX)  (σ : XS) (a1_ : Int32) : XS := pX5_think_11 τ  (xT σ (oB4 σ.2.2.1 (fX4_become σ.2.1 σ.2.2.1))) a1_
def oX5_think_0 (τ : TX)  (σ : XS) (a1_ : Int32) : Prop := (gX4_become σ.2.1 σ.2.2.1) ∧ (oX5_think_11 τ  (xT σ (oB4 σ.2.2.1 (fX4_become σ.2.1 σ.2.2.1))) a1_)
set_option maxHeartbeats 4000000 in
set_option maxRecDepth 100000 in
theorem wX5_think_0 {X : CX} {cy : Nat → ClassId} {q : Nat → Nat} {qn : Nat → Nat} {qt : Nat → Nat} {qk : Nat → Nat} {qr : Nat → Nat} {qs : Nat → Nat → Nat} {a : Nat} {τ : TX} {D : va_G} {A : Nat → Prop} {res : XS} (σ : XS) (a1_ : Int32) (C : Cx X cX5_think RX5 3 D (gty cy) A 6 0 0) (hR : Rt X none D (gty cy) A 0 0 (eV (wX5 cy q qn qt qk qr qs a τ res)))  (ok : oX5_think_0 τ  σ a1_) (h : pX5_think_0 τ  σ a1_ = res) : At X D A 3 0 0 0 [(0, .ref (q 8)), (1, .int a1_)] [] (wX5 cy q qn qt qk qr qs a τ σ) := by
  unfold pX5_think_0 at h
  unfold oX5_think_0 at ok
  refine r_aload_n C 0 (dall tdX5_think 0 rfl) rfl ?_
  refine r_get C 0 kw_X5 rfl rfl (by decide) kf_X5_24 rfl rfl (dall tdX5_think 1 rfl) ?_
  refine r_aload_n C 0 (dall tdX5_think 2 rfl) rfl ?_
  refine r_get C 0 kw_X5 rfl rfl (by decide) kf_X5_20 rfl rfl (dall tdX5_think 3 rfl) ?_
  obtain ⟨o3, ok⟩ := ok
  refine rcB_TN (as := [.ref (va_up qn 9 a 12)]) C (zX4_become cy (va_up qt 9 a) (va_up qn 9 a) σ.2.1 σ.2.2.1 o3) mv_X4_become km_X5_186 (by decide) (by decide) ⟨Nat.le_refl _, Nat.le_refl _⟩ rfl rfl (Nat.le_of_ble_eq_true rfl) (dall tdX5_think 4 rfl) ?_
  exact wX5_think_11 (xT σ (oB4 σ.2.2.1 (fX4_become σ.2.1 σ.2.2.1))) a1_ C hR  ok h
def fX5_think (τ : TX) (σ : XS) (a1_ : Int32) : XS := pX5_think_0 τ  σ a1_
def gX5_think (τ : TX) (σ : XS) (a1_ : Int32) : Prop := oX5_think_0 τ  σ a1_
set_option maxRecDepth 100000 in
theorem zX5_think (cy : Nat → ClassId) (q : Nat → Nat) (qn : Nat → Nat) (qt : Nat → Nat) (qk : Nat → Nat) (qr : Nat → Nat) (qs : Nat → Nat → Nat) (a : Nat) (τ : TX)  {D : va_G} (σ : XS) (a1_ : Int32) (ok : gX5_think τ σ a1_)  : Con yX5_think cX5_think 3 none 6 0 0 D (gty cy) [.ref (q 8), .int a1_] (wX5 cy q qn qt qk qr qs a τ σ) (eV (wX5 cy q qn qt qk qr qs a τ (fX5_think τ σ a1_))) :=
  Con.of (own := RX5) (by decide +kernel) rfl (Nat.le_of_ble_eq_true rfl) (Nat.zero_le _) (fun X A C hR _ => (wX5_think_0 σ a1_ C hR  ok rfl))
theorem mv_X5_think : MV yX5_think cX5_think 3 none RX5 1 := ⟨ki_X5_think, kv_X5_think, kn_X5, kc_X5_think, by decide +kernel⟩
def tbX5_run : List (Nat × Instr × Nat) := [(0, .aload_n 0, 1), (1, .iload_n 1, 1), (2, .invokevirtual 97, 3), (5, .ifCond .eq 20, 3), (8, .iload_n 2, 1), (9, .bipush 40, 2), (11, .invokestatic 74, 3), (14, .ifCond .eq 11, 3), (17, .iload_n 3, 1), (18, .iconst 3, 1), (19, .invokestatic 74, 3), (22, .ifCond .ne 6, 3), (25, .bipush (-2), 2), (27, .ireturn, 1), (28, .aload_n 0, 1), (29, .iload_n 2, 1), (30, .invokevirtual 167, 3), (33, .iload_n 3, 1), (34, .tableswitch 55 0 2 #[26, 34, 47], 26), (60, .aload_n 0, 1), (61, .getfield 24, 3), (64, .invokevirtual 157, 3), (67, .ireturn, 1), (68, .aload_n 0, 1), (69, .getfield 24, 3), (72, .getfield 84, 3), (75, .iload_n 1, 1), (76, .laload, 1), (77, .invokestatic 148, 3), (80, .ireturn, 1), (81, .aload_n 0, 1), (82, .getfield 24, 3), (85, .getfield 170, 3), (88, .ireturn, 1), (89, .aload_n 0, 1), (90, .getfield 24, 3), (93, .getfield 63, 3), (96, .iload_n 1, 1), (97, .iaload, 1), (98, .ireturn, 1)]
theorem tdX5_run : tbX5_run.all (fun q => decide (decode cX5_run q.1 = .ok q.2)) = true := by decide +kernel
def pX5_run_33 (τ : TX)  (σ : XS) (a1_ : Int32) (a3_ : Int32) : Int32 × XS := if a3_ = 0 then (fX4_countUp σ.2.2.1 , σ) else if a3_ = 1 then (fJ13_bitCount_95d88 (σ.2.2.1.2.2.2 3 a1_.toNatClampNeg), σ) else if a3_ = 2 then (σ.2.2.1.1 6, σ) else (σ.2.2.1.2.2.1 2 a1_.toNatClampNeg, σ)
def oX5_run_33 (τ : TX)  (σ : XS) (a1_ : Int32) (a3_ : Int32) : Prop := (a3_ = 0 → gX4_countUp σ.2.2.1 ) ∧ (¬ a3_ = 0 → (a3_ = 1 → vp_in a1_ 5) ∧ (¬ a3_ = 1 → (a3_ = 2 → True) ∧ (¬ a3_ = 2 → vp_in a1_ 5)))
set_option maxHeartbeats 4000000 in
set_option maxRecDepth 100000 in
theorem wX5_run_33 {X : CX} {cy : Nat → ClassId} {q : Nat → Nat} {qn : Nat → Nat} {qt : Nat → Nat} {qk : Nat → Nat} {qr : Nat → Nat} {qs : Nat → Nat → Nat} {a : Nat} {τ : TX} {D : va_G} {A : Nat → Prop} {res : Int32 × XS} (σ : XS) (a1_ : Int32) (a3_ : Int32) (C : Cx X cX5_run RX5 4 D (gty cy) A 7 0 0) (hR : Rt X (some .int) D (gty cy) A 0 0 (eI (wX5 cy q qn qt qk qr qs a τ res.2) res.1))  (ok : oX5_run_33 τ  σ a1_ a3_) (h : pX5_run_33 τ  σ a1_ a3_ = res) : At X D A 4 0 0 33 [(0, .ref (q 8)), (1, .int a1_), (3, .int a3_)] [] (wX5 cy q qn qt qk qr qs a τ σ) := by
  unfold pX5_run_33 at h
  unfold oX5_run_33 at ok
  refine r_iload_n C 2 (dall tdX5_run 17 rfl) rfl ?_
  by_cases e34_0 : a3_ = 0
  · have h := (if_pos e34_0).symm.trans h
    have ok := ok.1 e34_0
    refine r_tsIn (off := 26) (tgt := 60) C 0 (dall tdX5_run 18 rfl) e34_0 (by decide) (by decide) (by decide) (by decide) ?_
    refine r_aload_n C 0 (dall tdX5_run 19 rfl) rfl ?_
    refine r_get C 0 kw_X5 rfl rfl (by decide) kf_X5_24 rfl rfl (dall tdX5_run 20 rfl) ?_
    have o1 := ok
    refine rcT_I0 (as := []) C (zX4_countUp cy (va_up qt 9 a) (tw cy a τ) σ.2.2.1  o1) mv_X4_countUp km_X5_157 (by decide) (by decide) ⟨Nat.le_refl _, Nat.le_refl _⟩ rfl rfl (Nat.le_of_ble_eq_true rfl) (dall tdX5_run 21 rfl) ?_
    exact r_iret C hR (dall tdX5_run 22 rfl) (by subst h; exact ⟨rfl, rfl⟩)
  · have h := (if_neg e34_0).symm.trans h
    have ok := ok.2 e34_0
    by_cases e34_1 : a3_ = 1
    · have h := (if_pos e34_1).symm.trans h
      have ok := ok.1 e34_1
      refine r_tsIn (off := 34) (tgt := 68) C 1 (dall tdX5_run 18 rfl) e34_1 (by decide) (by decide) (by decide) (by decide) ?_
      refine r_aload_n C 0 (dall tdX5_run 23 rfl) rfl ?_
      refine r_get C 0 kw_X5 rfl rfl (by decide) kf_X5_24 rfl rfl (dall tdX5_run 24 rfl) ?_
      refine r_get C 8 kw_X4 rfl rfl (by decide) kf_X5_84 rfl rfl (dall tdX5_run 25 rfl) ?_
      refine r_iload_n C 1 (dall tdX5_run 26 rfl) rfl ?_
      have o2 := ok
      refine r_lald C 12 1 rfl rfl o2 (dall tdX5_run 27 rfl) ?_
      refine r_s0I (as := [.long (σ.2.2.1.2.2.2 3 a1_.toNatClampNeg)]) C (zJ13_bitCount_95d88 (σ.2.2.1.2.2.2 3 a1_.toNatClampNeg) ) ms_J13_bitCount_95d88 km_X5_148 (by decide) (by decide) ⟨Nat.le_refl _, Nat.le_refl _⟩ rfl rfl (Nat.le_of_ble_eq_true rfl) (dall tdX5_run 28 rfl) ?_
      exact r_iret C hR (dall tdX5_run 29 rfl) (by subst h; exact ⟨rfl, rfl⟩)
    · have h := (if_neg e34_1).symm.trans h
      have ok := ok.2 e34_1
      by_cases e34_2 : a3_ = 2
      · have h := (if_pos e34_2).symm.trans h
        have ok := ok.1 e34_2
        refine r_tsIn (off := 47) (tgt := 81) C 2 (dall tdX5_run 18 rfl) e34_2 (by decide) (by decide) (by decide) (by decide) ?_
        refine r_aload_n C 0 (dall tdX5_run 30 rfl) rfl ?_
        refine r_get C 0 kw_X5 rfl rfl (by decide) kf_X5_24 rfl rfl (dall tdX5_run 31 rfl) ?_
        refine r_get C 8 kw_X4 rfl rfl (by decide) kf_X5_170 rfl rfl (dall tdX5_run 32 rfl) ?_
        exact r_iret C hR (dall tdX5_run 33 rfl) (by subst h; exact ⟨rfl, rfl⟩)
      · have h := (if_neg e34_2).symm.trans h
        have ok := ok.2 e34_2
        refine r_tsOut (tgt := 89) C (dall tdX5_run 18 rfl) (by have n0 := ne_toInt e34_0; rw [show (0 : Int32).toInt = 0 from by decide] at n0; have n1 := ne_toInt e34_1; rw [show (1 : Int32).toInt = 1 from by decide] at n1; have n2 := ne_toInt e34_2; rw [show (2 : Int32).toInt = 2 from by decide] at n2; omega) (by decide) ?_
        refine r_aload_n C 0 (dall tdX5_run 34 rfl) rfl ?_
        refine r_get C 0 kw_X5 rfl rfl (by decide) kf_X5_24 rfl rfl (dall tdX5_run 35 rfl) ?_
        refine r_get C 8 kw_X4 rfl rfl (by decide) kf_X5_63 rfl rfl (dall tdX5_run 36 rfl) ?_
        refine r_iload_n C 1 (dall tdX5_run 37 rfl) rfl ?_
        have o3 := ok
        refine r_iald C 11 0 rfl rfl o3 (dall tdX5_run 38 rfl) ?_
        exact r_iret C hR (dall tdX5_run 39 rfl) (by subst h; exact ⟨rfl, rfl⟩)
def pX5_run_0 (τ : TX)  (σ : XS) (a1_ : Int32) (a2_ : Int32) (a3_ : Int32) : Int32 × XS := if (fX5_isOne τ σ a1_) = 0 then ((-2), σ) else if (fX5_within a2_ 40) = 0 then ((-2), σ) else if (fX5_within a3_ 3) = 0 then ((-2), σ) else pX5_run_33 τ  (fX5_think τ σ a2_) a1_ a3_
def oX5_run_0 (τ : TX)  (σ : XS) (a1_ : Int32) (a2_ : Int32) (a3_ : Int32) : Prop := ((fX5_isOne τ σ a1_) = 0 → True) ∧ (¬ ((fX5_isOne τ σ a1_) = 0) → ((fX5_within a2_ 40) = 0 → True) ∧ (¬ ((fX5_within a2_ 40) = 0) → ((fX5_within a3_ 3) = 0 → True) ∧ (¬ ((fX5_within a3_ 3) = 0) → (gX5_think τ σ a2_) ∧ (oX5_run_33 τ  (fX5_think τ σ a2_) a1_ a3_))))
set_option maxHeartbeats 4000000 in
set_option maxRecDepth 100000 in
theorem wX5_run_0 {X : CX} {cy : Nat → ClassId} {q : Nat → Nat} {qn : Nat → Nat} {qt : Nat → Nat} {qk : Nat → Nat} {qr : Nat → Nat} {qs : Nat → Nat → Nat} {a : Nat} {τ : TX} {D : va_G} {A : Nat → Prop} {res : Int32 × XS} (σ : XS) (a1_ : Int32) (a2_ : Int32) (a3_ : Int32) (C : Cx X cX5_run RX5 4 D (gty cy) A 7 0 0) (hR : Rt X (some .int) D (gty cy) A 0 0 (eI (wX5 cy q qn qt qk qr qs a τ res.2) res.1))  (ok : oX5_run_0 τ  σ a1_ a2_ a3_) (h : pX5_run_0 τ  σ a1_ a2_ a3_ = res) : At X D A 4 0 0 0 [(0, .ref (q 8)), (1, .int a1_), (2, .int a2_), (3, .int a3_)] [] (wX5 cy q qn qt qk qr qs a τ σ) := by
  unfold pX5_run_0 at h
  unfold oX5_run_0 at ok
  refine r_aload_n C 0 (dall tdX5_run 0 rfl) rfl ?_
  refine r_iload_n C 1 (dall tdX5_run 1 rfl) rfl ?_
  refine r_vI (as := [.int a1_]) C (zX5_isOne cy q qn qt qk qr qs a τ σ a1_ ) mv_X5_isOne km_X5_97 (by decide) (by decide) ⟨Nat.le_refl _, Nat.le_refl _⟩ rfl rfl rfl rfl (Nat.le_of_ble_eq_true rfl) (dall tdX5_run 2 rfl) ?_
  refine r_if_eq (tgt := 25) C (dall tdX5_run 3 rfl) (by decide) (fun c4 => ?_) (fun c4 => ?_)
  · have h := (if_pos c4).symm.trans h
    have ok := ok.1 c4
    refine r_bipush (v := -2) C (dall tdX5_run 12 rfl) (by decide) ?_
    exact r_iret C hR (dall tdX5_run 13 rfl) (by subst h; exact ⟨rfl, rfl⟩)
  · have h := (if_neg c4).symm.trans h
    have ok := ok.2 c4
    refine r_iload_n C 2 (dall tdX5_run 4 rfl) rfl ?_
    refine r_bipush (v := 40) C (dall tdX5_run 5 rfl) (by decide) ?_
    refine r_s0I (as := [.int a2_, .int 40]) C (zX5_within a2_ 40 ) ms_X5_within km_X5_74 (by decide) (by decide) ⟨Nat.le_refl _, Nat.le_refl _⟩ rfl rfl (Nat.le_of_ble_eq_true rfl) (dall tdX5_run 6 rfl) ?_
    refine r_if_eq (tgt := 25) C (dall tdX5_run 7 rfl) (by decide) (fun c5 => ?_) (fun c5 => ?_)
    · have h := (if_pos c5).symm.trans h
      have ok := ok.1 c5
      refine r_bipush (v := -2) C (dall tdX5_run 12 rfl) (by decide) ?_
      exact r_iret C hR (dall tdX5_run 13 rfl) (by subst h; exact ⟨rfl, rfl⟩)
    · have h := (if_neg c5).symm.trans h
      have ok := ok.2 c5
      refine r_iload_n C 3 (dall tdX5_run 8 rfl) rfl ?_
      refine r_iconst (v := 3) C (dall tdX5_run 9 rfl) (by decide) ?_
      refine r_s0I (as := [.int a3_, .int 3]) C (zX5_within a3_ 3 ) ms_X5_within km_X5_74 (by decide) (by decide) ⟨Nat.le_refl _, Nat.le_refl _⟩ rfl rfl (Nat.le_of_ble_eq_true rfl) (dall tdX5_run 10 rfl) ?_
      refine r_if_ne (tgt := 28) C (dall tdX5_run 11 rfl) (by decide) (fun c6 => ?_) (fun c6 => ?_)
      · have h := (if_neg c6).symm.trans h
        have ok := ok.2 c6
        refine r_aload_n C 0 (dall tdX5_run 14 rfl) rfl ?_
        refine r_iload_n C 2 (dall tdX5_run 15 rfl) rfl ?_
        obtain ⟨o7, ok⟩ := ok
        refine r_vV (as := [.int a2_]) C (zX5_think cy q qn qt qk qr qs a τ σ a2_ o7) mv_X5_think km_X5_167 (by decide) (by decide) ⟨Nat.le_refl _, Nat.le_refl _⟩ rfl rfl rfl rfl (Nat.le_of_ble_eq_true rfl) (dall tdX5_run 16 rfl) ?_
        refine r_pick [0, 1, 3] rfl ?_
        exact wX5_run_33 (fX5_think τ σ a2_) a1_ a3_ C hR  ok h
      · have h := (if_pos c6).symm.trans h
        have ok := ok.1 c6
        refine r_bipush (v := -2) C (dall tdX5_run 12 rfl) (by decide) ?_
        exact r_iret C hR (dall tdX5_run 13 rfl) (by subst h; exact ⟨rfl, rfl⟩)
def fX5_run (τ : TX) (σ : XS) (a1_ : Int32) (a2_ : Int32) (a3_ : Int32) : Int32 × XS := pX5_run_0 τ  σ a1_ a2_ a3_
def gX5_run (τ : TX) (σ : XS) (a1_ : Int32) (a2_ : Int32) (a3_ : Int32) : Prop := oX5_run_0 τ  σ a1_ a2_ a3_
set_option maxRecDepth 100000 in
theorem zX5_run (cy : Nat → ClassId) (q : Nat → Nat) (qn : Nat → Nat) (qt : Nat → Nat) (qk : Nat → Nat) (qr : Nat → Nat) (qs : Nat → Nat → Nat) (a : Nat) (τ : TX)  {D : va_G} (σ : XS) (a1_ : Int32) (a2_ : Int32) (a3_ : Int32) (ok : gX5_run τ σ a1_ a2_ a3_)  : Con yX5_run cX5_run 4 (some .int) 7 0 0 D (gty cy) [.ref (q 8), .int a1_, .int a2_, .int a3_] (wX5 cy q qn qt qk qr qs a τ σ) (eI (wX5 cy q qn qt qk qr qs a τ (fX5_run τ σ a1_ a2_ a3_).2) (fX5_run τ σ a1_ a2_ a3_).1) :=
  Con.of (own := RX5) (by decide +kernel) rfl (Nat.le_of_ble_eq_true rfl) (Nat.zero_le _) (fun X A C hR _ => (wX5_run_0 σ a1_ a2_ a3_ C hR  ok rfl))
theorem mv_X5_run : MV yX5_run cX5_run 4 (some .int) RX5 3 := ⟨ki_X5_run, kv_X5_run, kn_X5, kc_X5_run, by decide +kernel⟩
def tbX5_later : List (Nat × Instr × Nat) := [(0, .iload_n 1, 1), (1, .bipush 40, 2), (3, .invokestatic 74, 3), (6, .ifCond .ne 7, 3), (9, .ldc2_w 111, 3), (12, .lreturn, 1), (13, .aload_n 0, 1), (14, .iload_n 1, 1), (15, .invokevirtual 167, 3), (18, .aload_n 0, 1), (19, .getfield 24, 3), (22, .invokevirtual 107, 3), (25, .lreturn, 1)]
theorem tdX5_later : tbX5_later.all (fun q => decide (decode cX5_later q.1 = .ok q.2)) = true := by decide +kernel
def pX5_later_18 (τ : TX)  (σ : XS) : Int64 × XS := (fX4_stands σ.2.2.1 , σ)
def oX5_later_18 (τ : TX)  (σ : XS) : Prop := gX4_stands σ.2.2.1 
set_option maxHeartbeats 4000000 in
set_option maxRecDepth 100000 in
theorem wX5_later_18 {X : CX} {cy : Nat → ClassId} {q : Nat → Nat} {qn : Nat → Nat} {qt : Nat → Nat} {qk : Nat → Nat} {qr : Nat → Nat} {qs : Nat → Nat → Nat} {a : Nat} {τ : TX} {D : va_G} {A : Nat → Prop} {res : Int64 × XS} (σ : XS) (C : Cx X cX5_later RX5 2 D (gty cy) A 7 0 0) (hR : Rt X (some .long) D (gty cy) A 0 0 (eL (wX5 cy q qn qt qk qr qs a τ res.2) res.1))  (ok : oX5_later_18 τ  σ) (h : pX5_later_18 τ  σ = res) : At X D A 2 0 0 18 [(0, .ref (q 8))] [] (wX5 cy q qn qt qk qr qs a τ σ) := by
  unfold pX5_later_18 at h
  unfold oX5_later_18 at ok
  refine r_aload_n C 0 (dall tdX5_later 9 rfl) rfl ?_
  refine r_get C 0 kw_X5 rfl rfl (by decide) kf_X5_24 rfl rfl (dall tdX5_later 10 rfl) ?_
  have o1 := ok
  refine rcT_L0 (as := []) C (zX4_stands cy (va_up qt 9 a) (tw cy a τ) σ.2.2.1  o1) mv_X4_stands km_X5_107 (by decide) (by decide) ⟨Nat.le_refl _, Nat.le_refl _⟩ rfl rfl (Nat.le_of_ble_eq_true rfl) (dall tdX5_later 11 rfl) ?_
  exact r_lret C hR (dall tdX5_later 12 rfl) (by subst h; exact ⟨rfl, rfl⟩)
def pX5_later_0 (τ : TX)  (σ : XS) (a1_ : Int32) : Int64 × XS := if (fX5_within a1_ 40) = 0 then ((-4611686018427387904), σ) else pX5_later_18 τ  (fX5_think τ σ a1_)
def oX5_later_0 (τ : TX)  (σ : XS) (a1_ : Int32) : Prop := ((fX5_within a1_ 40) = 0 → True) ∧ (¬ ((fX5_within a1_ 40) = 0) → (gX5_think τ σ a1_) ∧ (oX5_later_18 τ  (fX5_think τ σ a1_)))
set_option maxHeartbeats 4000000 in
set_option maxRecDepth 100000 in
theorem wX5_later_0 {X : CX} {cy : Nat → ClassId} {q : Nat → Nat} {qn : Nat → Nat} {qt : Nat → Nat} {qk : Nat → Nat} {qr : Nat → Nat} {qs : Nat → Nat → Nat} {a : Nat} {τ : TX} {D : va_G} {A : Nat → Prop} {res : Int64 × XS} (σ : XS) (a1_ : Int32) (C : Cx X cX5_later RX5 2 D (gty cy) A 7 0 0) (hR : Rt X (some .long) D (gty cy) A 0 0 (eL (wX5 cy q qn qt qk qr qs a τ res.2) res.1))  (ok : oX5_later_0 τ  σ a1_) (h : pX5_later_0 τ  σ a1_ = res) : At X D A 2 0 0 0 [(0, .ref (q 8)), (1, .int a1_)] [] (wX5 cy q qn qt qk qr qs a τ σ) := by
  unfold pX5_later_0 at h
  unfold oX5_later_0 at ok
  refine r_iload_n C 1 (dall tdX5_later 0 rfl) rfl ?_
  refine r_bipush (v := 40) C (dall tdX5_later 1 rfl) (by decide) ?_
  refine r_s0I (as := [.int a1_, .int 40]) C (zX5_within a1_ 40 ) ms_X5_within km_X5_74 (by decide) (by decide) ⟨Nat.le_refl _, Nat.le_refl _⟩ rfl rfl (Nat.le_of_ble_eq_true rfl) (dall tdX5_later 2 rfl) ?_
  refine r_if_ne (tgt := 13) C (dall tdX5_later 3 rfl) (by decide) (fun c2 => ?_) (fun c2 => ?_)
  · have h := (if_neg c2).symm.trans h
    have ok := ok.2 c2
    refine r_aload_n C 0 (dall tdX5_later 6 rfl) rfl ?_
    refine r_iload_n C 1 (dall tdX5_later 7 rfl) rfl ?_
    obtain ⟨o3, ok⟩ := ok
    refine r_vV (as := [.int a1_]) C (zX5_think cy q qn qt qk qr qs a τ σ a1_ o3) mv_X5_think km_X5_167 (by decide) (by decide) ⟨Nat.le_refl _, Nat.le_refl _⟩ rfl rfl rfl rfl (Nat.le_of_ble_eq_true rfl) (dall tdX5_later 8 rfl) ?_
    refine r_pick [0] rfl ?_
    exact wX5_later_18 (fX5_think τ σ a1_) C hR  ok h
  · have h := (if_pos c2).symm.trans h
    have ok := ok.1 c2
    refine r_ldc2 C kk_X5_111 (dall tdX5_later 4 rfl) ?_
    exact r_lret C hR (dall tdX5_later 5 rfl) (by subst h; exact ⟨rfl, rfl⟩)
def fX5_later (τ : TX) (σ : XS) (a1_ : Int32) : Int64 × XS := pX5_later_0 τ  σ a1_
def gX5_later (τ : TX) (σ : XS) (a1_ : Int32) : Prop := oX5_later_0 τ  σ a1_
set_option maxRecDepth 100000 in
theorem zX5_later (cy : Nat → ClassId) (q : Nat → Nat) (qn : Nat → Nat) (qt : Nat → Nat) (qk : Nat → Nat) (qr : Nat → Nat) (qs : Nat → Nat → Nat) (a : Nat) (τ : TX)  {D : va_G} (σ : XS) (a1_ : Int32) (ok : gX5_later τ σ a1_)  : Con yX5_later cX5_later 2 (some .long) 7 0 0 D (gty cy) [.ref (q 8), .int a1_] (wX5 cy q qn qt qk qr qs a τ σ) (eL (wX5 cy q qn qt qk qr qs a τ (fX5_later τ σ a1_).2) (fX5_later τ σ a1_).1) :=
  Con.of (own := RX5) (by decide +kernel) rfl (Nat.le_of_ble_eq_true rfl) (Nat.zero_le _) (fun X A C hR _ => (wX5_later_0 σ a1_ C hR  ok rfl))
theorem mv_X5_later : MV yX5_later cX5_later 2 (some .long) RX5 1 := ⟨ki_X5_later, kv_X5_later, kn_X5, kc_X5_later, by decide +kernel⟩
def tbX5_walk : List (Nat × Instr × Nat) := [(0, .iload_n 1, 1), (1, .invokestatic 91, 3), (4, .ifCond .eq 10, 3), (7, .iload_n 2, 1), (8, .invokestatic 91, 3), (11, .ifCond .ne 6, 3), (14, .bipush (-2), 2), (16, .ireturn, 1), (17, .aload_n 0, 1), (18, .getfield 20, 3), (21, .invokevirtual 107, 3), (24, .lstore_n 3, 1), (25, .lconst 1, 1), (26, .iload_n 1, 1), (27, .lshl, 1), (28, .lload_n 3, 1), (29, .land, 1), (30, .lstore 5, 2), (32, .iconst 0, 1), (33, .istore 7, 2), (35, .iload 7, 2), (37, .bipush 64, 2), (39, .if_icmp .ge 33, 3), (42, .lload 5, 2), (44, .iload_n 2, 1), (45, .invokestatic 140, 3), (48, .ifCond .eq 6, 3), (51, .iload 7, 2), (53, .ireturn, 1), (54, .lload 5, 2), (56, .lload 5, 2), (58, .invokestatic 173, 3), (61, .lload_n 3, 1), (62, .land, 1), (63, .lor, 1), (64, .lstore 5, 2), (66, .iinc 7 1, 3), (69, .goto (-34), 3), (72, .iconst (-1), 1), (73, .ireturn, 1)]
theorem tdX5_walk : tbX5_walk.all (fun q => decide (decode cX5_walk q.1 = .ok q.2)) = true := by decide +kernel
def bX5_walk_35 (τ : TX) (σ : XS) (a2_ : Int32) (a3_ : Int64)  (kR35 : Int64 × Int32 → Int32) (v : Int64 × Int32) : Int32 := if 64 ≤ v.2 then (-1) else if (fX3_has v.1 a2_) = 0 then kR35 (v.1 ||| ((fX3_beside v.1) &&& a3_), v.2 + 1) else v.2
def kX5_walk_35 (τ : TX) (σ : XS) (a2_ : Int32) (a3_ : Int64)  (kO35 : Int64 × Int32 → Prop) (v : Int64 × Int32) : Prop := (64 ≤ v.2 → True) ∧ (¬ (64 ≤ v.2) → ((fX3_has v.1 a2_) = 0 → kO35 (v.1 ||| ((fX3_beside v.1) &&& a3_), v.2 + 1)) ∧ (¬ ((fX3_has v.1 a2_) = 0) → True))
set_option maxHeartbeats 4000000 in
set_option maxRecDepth 100000 in
theorem wX5_walk_35 {X : CX} {cy : Nat → ClassId} {q : Nat → Nat} {qn : Nat → Nat} {qt : Nat → Nat} {qk : Nat → Nat} {qr : Nat → Nat} {qs : Nat → Nat → Nat} {a : Nat} {τ : TX} {D : va_G} {A : Nat → Prop} {res : Int32} (σ : XS) (a2_ : Int32) (a3_ : Int64) (C : Cx X cX5_walk RX5 8 D (gty cy) A 2 0 0) (hR : Rt X (some .int) D (gty cy) A 0 0 (eI (wX5 cy q qn qt qk qr qs a τ σ) res)) (kR35 : Int64 × Int32 → Int32) (kO35 : Int64 × Int32 → Prop) (hk35 : ∀ z, kO35 z → kR35 z = res → At X D A 8 0 0 35 [(2, .int a2_), (3, .long a3_), (5, .long z.1), (7, .int z.2)] [] (wX5 cy q qn qt qk qr qs a τ σ)) (v : Int64 × Int32) (ok : kX5_walk_35 τ σ a2_ a3_ kO35 v) (h : bX5_walk_35 τ σ a2_ a3_ kR35 v = res) : At X D A 8 0 0 35 [(2, .int a2_), (3, .long a3_), (5, .long v.1), (7, .int v.2)] [] (wX5 cy q qn qt qk qr qs a τ σ) := by
  unfold bX5_walk_35 at h
  unfold kX5_walk_35 at ok
  refine r_iload C 3 (dall tdX5_walk 20 rfl) rfl ?_
  refine r_bipush (v := 64) C (dall tdX5_walk 21 rfl) (by decide) ?_
  refine r_icmp_ge (tgt := 72) C (dall tdX5_walk 22 rfl) (by decide) (fun c1 => ?_) (fun c1 => ?_)
  · have h := (if_pos c1).symm.trans h
    have ok := ok.1 c1
    refine r_iconst (v := -1) C (dall tdX5_walk 38 rfl) (by decide) ?_
    exact r_iret C hR (dall tdX5_walk 39 rfl) (by subst h; exact ⟨rfl, rfl⟩)
  · have h := (if_neg c1).symm.trans h
    have ok := ok.2 c1
    refine r_lload C 2 (dall tdX5_walk 23 rfl) rfl ?_
    refine r_iload_n C 0 (dall tdX5_walk 24 rfl) rfl ?_
    refine r_s0I (as := [.long v.1, .int a2_]) C (zX3_has v.1 a2_ ) ms_X3_has km_X5_140 (by decide) (by decide) ⟨Nat.le_refl _, Nat.le_refl _⟩ rfl rfl (Nat.le_of_ble_eq_true rfl) (dall tdX5_walk 25 rfl) ?_
    refine r_if_eq (tgt := 54) C (dall tdX5_walk 26 rfl) (by decide) (fun c2 => ?_) (fun c2 => ?_)
    · have h := (if_pos c2).symm.trans h
      have ok := ok.1 c2
      refine r_lload C 2 (dall tdX5_walk 29 rfl) rfl ?_
      refine r_lload C 2 (dall tdX5_walk 30 rfl) rfl ?_
      refine r_s0L (as := [.long v.1]) C (zX3_beside v.1 ) ms_X3_beside km_X5_173 (by decide) (by decide) ⟨Nat.le_refl _, Nat.le_refl _⟩ rfl rfl (Nat.le_of_ble_eq_true rfl) (dall tdX5_walk 31 rfl) ?_
      refine r_lload_n C 1 (dall tdX5_walk 32 rfl) rfl ?_
      refine r_land C (dall tdX5_walk 33 rfl) ?_
      refine r_lor C (dall tdX5_walk 34 rfl) ?_
      refine r_lstore (lv' := [(5, .long (v.1 ||| ((fX3_beside v.1) &&& a3_))), (2, .int a2_), (3, .long a3_), (7, .int v.2)]) C (dall tdX5_walk 35 rfl) (by decide) rfl ?_
      refine r_iinc (v := v.2 + 1) (lv' := [(7, .int (v.2 + 1)), (5, .long (v.1 ||| ((fX3_beside v.1) &&& a3_))), (2, .int a2_), (3, .long a3_)]) C 3 (dall tdX5_walk 36 rfl) rfl rfl (by decide) rfl ?_
      refine r_goto (tgt := 35) C (dall tdX5_walk 37 rfl) (by decide) ?_
      refine r_pick [2, 3, 1, 0] rfl ?_
      exact hk35 (v.1 ||| ((fX3_beside v.1) &&& a3_), v.2 + 1) ok h
    · have h := (if_neg c2).symm.trans h
      have ok := ok.2 c2
      refine r_iload C 3 (dall tdX5_walk 27 rfl) rfl ?_
      exact r_iret C hR (dall tdX5_walk 28 rfl) (by subst h; exact ⟨rfl, rfl⟩)
set_option maxHeartbeats 4000000 in
set_option maxRecDepth 100000 in
theorem lX5_walk_35 {X : CX} {cy : Nat → ClassId} {q : Nat → Nat} {qn : Nat → Nat} {qt : Nat → Nat} {qk : Nat → Nat} {qr : Nat → Nat} {qs : Nat → Nat → Nat} {a : Nat} {τ : TX} {D : va_G} {A : Nat → Prop} {res : Int32} (σ : XS) (a2_ : Int32) (a3_ : Int64) (C : Cx X cX5_walk RX5 8 D (gty cy) A 2 0 0) (hR : Rt X (some .int) D (gty cy) A 0 0 (eI (wX5 cy q qn qt qk qr qs a τ σ) res))  (n : Nat) (v : Int64 × Int32) (ok : lpOk (kX5_walk_35 τ σ a2_ a3_ ) n v) (h : lp 0 (bX5_walk_35 τ σ a2_ a3_ ) n v = res) : At X D A 8 0 0 35 [(2, .int a2_), (3, .long a3_), (5, .long v.1), (7, .int v.2)] [] (wX5 cy q qn qt qk qr qs a τ σ) :=
  lp_rule (fun v rr_ => rr_ = res → At X D A 8 0 0 35 [(2, .int a2_), (3, .long a3_), (5, .long v.1), (7, .int v.2)] [] (wX5 cy q qn qt qk qr qs a τ σ)) (fun kR kO hk v ok h => wX5_walk_35 σ a2_ a3_ C hR  kR kO hk v ok h) n v ok h
def pX5_walk_0 (τ : TX)  (σ : XS) (a1_ : Int32) (a2_ : Int32) : Int32 := if (fX5_isCell a1_) = 0 then (-2) else if (fX5_isCell a2_) = 0 then (-2) else lp 0 (bX5_walk_35 τ σ a2_ (fX4_stands σ.2.1) ) fu ((jshl 1 a1_) &&& (fX4_stands σ.2.1), 0)
def oX5_walk_0 (τ : TX)  (σ : XS) (a1_ : Int32) (a2_ : Int32) : Prop := (gX5_isCell a1_) ∧ (((fX5_isCell a1_) = 0 → True) ∧ (¬ ((fX5_isCell a1_) = 0) → (gX5_isCell a2_) ∧ (((fX5_isCell a2_) = 0 → True) ∧ (¬ ((fX5_isCell a2_) = 0) → (gX4_stands σ.2.1 ) ∧ (lpOk (kX5_walk_35 τ σ a2_ (fX4_stands σ.2.1) ) fu ((jshl 1 a1_) &&& (fX4_stands σ.2.1), 0))))))
set_option maxHeartbeats 4000000 in
set_option maxRecDepth 100000 in
theorem wX5_walk_0 {X : CX} {cy : Nat → ClassId} {q : Nat → Nat} {qn : Nat → Nat} {qt : Nat → Nat} {qk : Nat → Nat} {qr : Nat → Nat} {qs : Nat → Nat → Nat} {a : Nat} {τ : TX} {D : va_G} {A : Nat → Prop} {res : Int32} (σ : XS) (a1_ : Int32) (a2_ : Int32) (C : Cx X cX5_walk RX5 8 D (gty cy) A 2 0 0) (hR : Rt X (some .int) D (gty cy) A 0 0 (eI (wX5 cy q qn qt qk qr qs a τ σ) res))  (ok : oX5_walk_0 τ  σ a1_ a2_) (h : pX5_walk_0 τ  σ a1_ a2_ = res) : At X D A 8 0 0 0 [(0, .ref (q 8)), (1, .int a1_), (2, .int a2_)] [] (wX5 cy q qn qt qk qr qs a τ σ) := by
  unfold pX5_walk_0 at h
  unfold oX5_walk_0 at ok
  refine r_iload_n C 1 (dall tdX5_walk 0 rfl) rfl ?_
  obtain ⟨o3, ok⟩ := ok
  refine r_s0I (as := [.int a1_]) C (zX5_isCell a1_ o3) ms_X5_isCell km_X5_91 (by decide) (by decide) ⟨Nat.le_refl _, Nat.le_refl _⟩ rfl rfl (Nat.le_of_ble_eq_true rfl) (dall tdX5_walk 1 rfl) ?_
  refine r_if_eq (tgt := 14) C (dall tdX5_walk 2 rfl) (by decide) (fun c4 => ?_) (fun c4 => ?_)
  · have h := (if_pos c4).symm.trans h
    have ok := ok.1 c4
    refine r_bipush (v := -2) C (dall tdX5_walk 6 rfl) (by decide) ?_
    exact r_iret C hR (dall tdX5_walk 7 rfl) (by subst h; exact ⟨rfl, rfl⟩)
  · have h := (if_neg c4).symm.trans h
    have ok := ok.2 c4
    refine r_iload_n C 2 (dall tdX5_walk 3 rfl) rfl ?_
    obtain ⟨o5, ok⟩ := ok
    refine r_s0I (as := [.int a2_]) C (zX5_isCell a2_ o5) ms_X5_isCell km_X5_91 (by decide) (by decide) ⟨Nat.le_refl _, Nat.le_refl _⟩ rfl rfl (Nat.le_of_ble_eq_true rfl) (dall tdX5_walk 4 rfl) ?_
    refine r_if_ne (tgt := 17) C (dall tdX5_walk 5 rfl) (by decide) (fun c6 => ?_) (fun c6 => ?_)
    · have h := (if_neg c6).symm.trans h
      have ok := ok.2 c6
      refine r_aload_n C 0 (dall tdX5_walk 8 rfl) rfl ?_
      refine r_get C 0 kw_X5 rfl rfl (by decide) kf_X5_20 rfl rfl (dall tdX5_walk 9 rfl) ?_
      obtain ⟨o7, ok⟩ := ok
      refine rcN_L0 (as := []) C (zX4_stands cy (va_up qn 9 a) (tw cy a τ) σ.2.1  o7) mv_X4_stands km_X5_107 (by decide) (by decide) ⟨Nat.le_refl _, Nat.le_refl _⟩ rfl rfl (Nat.le_of_ble_eq_true rfl) (dall tdX5_walk 10 rfl) ?_
      refine r_lstore_n (lv' := [(3, .long (fX4_stands σ.2.1)), (0, .ref (q 8)), (1, .int a1_), (2, .int a2_)]) C (dall tdX5_walk 11 rfl) (by decide) rfl ?_
      refine r_lconst (v := 1) C (dall tdX5_walk 12 rfl) (by decide) ?_
      refine r_iload_n C 2 (dall tdX5_walk 13 rfl) rfl ?_
      refine r_lshl C (dall tdX5_walk 14 rfl) ?_
      refine r_lload_n C 0 (dall tdX5_walk 15 rfl) rfl ?_
      refine r_land C (dall tdX5_walk 16 rfl) ?_
      refine r_lstore (lv' := [(5, .long ((jshl 1 a1_) &&& (fX4_stands σ.2.1))), (3, .long (fX4_stands σ.2.1)), (0, .ref (q 8)), (1, .int a1_), (2, .int a2_)]) C (dall tdX5_walk 17 rfl) (by decide) rfl ?_
      refine r_iconst (v := 0) C (dall tdX5_walk 18 rfl) (by decide) ?_
      refine r_istore (lv' := [(7, .int 0), (5, .long ((jshl 1 a1_) &&& (fX4_stands σ.2.1))), (3, .long (fX4_stands σ.2.1)), (0, .ref (q 8)), (1, .int a1_), (2, .int a2_)]) C (dall tdX5_walk 19 rfl) (by decide) rfl ?_
      refine r_pick [5, 2, 1, 0] rfl ?_
      exact lX5_walk_35 σ a2_ (fX4_stands σ.2.1) C hR  fu _ ok h
    · have h := (if_pos c6).symm.trans h
      have ok := ok.1 c6
      refine r_bipush (v := -2) C (dall tdX5_walk 6 rfl) (by decide) ?_
      exact r_iret C hR (dall tdX5_walk 7 rfl) (by subst h; exact ⟨rfl, rfl⟩)
def fX5_walk (τ : TX) (σ : XS) (a1_ : Int32) (a2_ : Int32) : Int32 := pX5_walk_0 τ  σ a1_ a2_
def gX5_walk (τ : TX) (σ : XS) (a1_ : Int32) (a2_ : Int32) : Prop := oX5_walk_0 τ  σ a1_ a2_
set_option maxRecDepth 100000 in
theorem zX5_walk (cy : Nat → ClassId) (q : Nat → Nat) (qn : Nat → Nat) (qt : Nat → Nat) (qk : Nat → Nat) (qr : Nat → Nat) (qs : Nat → Nat → Nat) (a : Nat) (τ : TX)  {D : va_G} (σ : XS) (a1_ : Int32) (a2_ : Int32) (ok : gX5_walk τ σ a1_ a2_)  : Con yX5_walk cX5_walk 8 (some .int) 2 0 0 D (gty cy) [.ref (q 8), .int a1_, .int a2_] (wX5 cy q qn qt qk qr qs a τ σ) (eI (wX5 cy q qn qt qk qr qs a τ σ) (fX5_walk τ σ a1_ a2_)) :=
  Con.of (own := RX5) (by decide +kernel) rfl (Nat.le_of_ble_eq_true rfl) (Nat.zero_le _) (fun X A C hR _ => (wX5_walk_0 σ a1_ a2_ C hR  ok rfl))
theorem mv_X5_walk : MV yX5_walk cX5_walk 8 (some .int) RX5 2 := ⟨ki_X5_walk, kv_X5_walk, kn_X5, kc_X5_walk, by decide +kernel⟩
def tbX5_round : List (Nat × Instr × Nat) := [(0, .iload_n 1, 1), (1, .invokestatic 91, 3), (4, .ifCond .eq 12, 3), (7, .iload_n 2, 1), (8, .bipush 63, 2), (10, .invokestatic 74, 3), (13, .ifCond .ne 7, 3), (16, .ldc2_w 111, 3), (19, .lreturn, 1), (20, .aload_n 0, 1), (21, .getfield 20, 3), (24, .invokevirtual 107, 3), (27, .lstore_n 3, 1), (28, .lconst 1, 1), (29, .iload_n 1, 1), (30, .lshl, 1), (31, .lload_n 3, 1), (32, .land, 1), (33, .lstore 5, 2), (35, .iconst 0, 1), (36, .istore 7, 2), (38, .iload 7, 2), (40, .iload_n 2, 1), (41, .if_icmp .ge 21, 3), (44, .lload 5, 2), (46, .lload 5, 2), (48, .invokestatic 173, 3), (51, .lload_n 3, 1), (52, .land, 1), (53, .lor, 1), (54, .lstore 5, 2), (56, .iinc 7 1, 3), (59, .goto (-21), 3), (62, .lload 5, 2), (64, .lreturn, 1)]
theorem tdX5_round : tbX5_round.all (fun q => decide (decode cX5_round q.1 = .ok q.2)) = true := by decide +kernel
def bX5_round_38 (τ : TX) (σ : XS) (a2_ : Int32) (a3_ : Int64)  (kR38 : Int64 × Int32 → Int64) (v : Int64 × Int32) : Int64 := if a2_ ≤ v.2 then v.1 else kR38 (v.1 ||| ((fX3_beside v.1) &&& a3_), v.2 + 1)
def kX5_round_38 (τ : TX) (σ : XS) (a2_ : Int32) (a3_ : Int64)  (kO38 : Int64 × Int32 → Prop) (v : Int64 × Int32) : Prop := (a2_ ≤ v.2 → True) ∧ (¬ (a2_ ≤ v.2) → kO38 (v.1 ||| ((fX3_beside v.1) &&& a3_), v.2 + 1))
set_option maxHeartbeats 4000000 in
set_option maxRecDepth 100000 in
theorem wX5_round_38 {X : CX} {cy : Nat → ClassId} {q : Nat → Nat} {qn : Nat → Nat} {qt : Nat → Nat} {qk : Nat → Nat} {qr : Nat → Nat} {qs : Nat → Nat → Nat} {a : Nat} {τ : TX} {D : va_G} {A : Nat → Prop} {res : Int64} (σ : XS) (a2_ : Int32) (a3_ : Int64) (C : Cx X cX5_round RX5 8 D (gty cy) A 2 0 0) (hR : Rt X (some .long) D (gty cy) A 0 0 (eL (wX5 cy q qn qt qk qr qs a τ σ) res)) (kR38 : Int64 × Int32 → Int64) (kO38 : Int64 × Int32 → Prop) (hk38 : ∀ z, kO38 z → kR38 z = res → At X D A 8 0 0 38 [(2, .int a2_), (3, .long a3_), (5, .long z.1), (7, .int z.2)] [] (wX5 cy q qn qt qk qr qs a τ σ)) (v : Int64 × Int32) (ok : kX5_round_38 τ σ a2_ a3_ kO38 v) (h : bX5_round_38 τ σ a2_ a3_ kR38 v = res) : At X D A 8 0 0 38 [(2, .int a2_), (3, .long a3_), (5, .long v.1), (7, .int v.2)] [] (wX5 cy q qn qt qk qr qs a τ σ) := by
  unfold bX5_round_38 at h
  unfold kX5_round_38 at ok
  refine r_iload C 3 (dall tdX5_round 21 rfl) rfl ?_
  refine r_iload_n C 0 (dall tdX5_round 22 rfl) rfl ?_
  refine r_icmp_ge (tgt := 62) C (dall tdX5_round 23 rfl) (by decide) (fun c1 => ?_) (fun c1 => ?_)
  · have h := (if_pos c1).symm.trans h
    have ok := ok.1 c1
    refine r_lload C 2 (dall tdX5_round 33 rfl) rfl ?_
    exact r_lret C hR (dall tdX5_round 34 rfl) (by subst h; exact ⟨rfl, rfl⟩)
  · have h := (if_neg c1).symm.trans h
    have ok := ok.2 c1
    refine r_lload C 2 (dall tdX5_round 24 rfl) rfl ?_
    refine r_lload C 2 (dall tdX5_round 25 rfl) rfl ?_
    refine r_s0L (as := [.long v.1]) C (zX3_beside v.1 ) ms_X3_beside km_X5_173 (by decide) (by decide) ⟨Nat.le_refl _, Nat.le_refl _⟩ rfl rfl (Nat.le_of_ble_eq_true rfl) (dall tdX5_round 26 rfl) ?_
    refine r_lload_n C 1 (dall tdX5_round 27 rfl) rfl ?_
    refine r_land C (dall tdX5_round 28 rfl) ?_
    refine r_lor C (dall tdX5_round 29 rfl) ?_
    refine r_lstore (lv' := [(5, .long (v.1 ||| ((fX3_beside v.1) &&& a3_))), (2, .int a2_), (3, .long a3_), (7, .int v.2)]) C (dall tdX5_round 30 rfl) (by decide) rfl ?_
    refine r_iinc (v := v.2 + 1) (lv' := [(7, .int (v.2 + 1)), (5, .long (v.1 ||| ((fX3_beside v.1) &&& a3_))), (2, .int a2_), (3, .long a3_)]) C 3 (dall tdX5_round 31 rfl) rfl rfl (by decide) rfl ?_
    refine r_goto (tgt := 38) C (dall tdX5_round 32 rfl) (by decide) ?_
    refine r_pick [2, 3, 1, 0] rfl ?_
    exact hk38 (v.1 ||| ((fX3_beside v.1) &&& a3_), v.2 + 1) ok h
set_option maxHeartbeats 4000000 in
set_option maxRecDepth 100000 in
theorem lX5_round_38 {X : CX} {cy : Nat → ClassId} {q : Nat → Nat} {qn : Nat → Nat} {qt : Nat → Nat} {qk : Nat → Nat} {qr : Nat → Nat} {qs : Nat → Nat → Nat} {a : Nat} {τ : TX} {D : va_G} {A : Nat → Prop} {res : Int64} (σ : XS) (a2_ : Int32) (a3_ : Int64) (C : Cx X cX5_round RX5 8 D (gty cy) A 2 0 0) (hR : Rt X (some .long) D (gty cy) A 0 0 (eL (wX5 cy q qn qt qk qr qs a τ σ) res))  (n : Nat) (v : Int64 × Int32) (ok : lpOk (kX5_round_38 τ σ a2_ a3_ ) n v) (h : lp 0 (bX5_round_38 τ σ a2_ a3_ ) n v = res) : At X D A 8 0 0 38 [(2, .int a2_), (3, .long a3_), (5, .long v.1), (7, .int v.2)] [] (wX5 cy q qn qt qk qr qs a τ σ) :=
  lp_rule (fun v rr_ => rr_ = res → At X D A 8 0 0 38 [(2, .int a2_), (3, .long a3_), (5, .long v.1), (7, .int v.2)] [] (wX5 cy q qn qt qk qr qs a τ σ)) (fun kR kO hk v ok h => wX5_round_38 σ a2_ a3_ C hR  kR kO hk v ok h) n v ok h
def pX5_round_0 (τ : TX)  (σ : XS) (a1_ : Int32) (a2_ : Int32) : Int64 := if (fX5_isCell a1_) = 0 then (-4611686018427387904) else if (fX5_within a2_ 63) = 0 then (-4611686018427387904) else lp 0 (bX5_round_38 τ σ a2_ (fX4_stands σ.2.1) ) fu ((jshl 1 a1_) &&& (fX4_stands σ.2.1), 0)
def oX5_round_0 (τ : TX)  (σ : XS) (a1_ : Int32) (a2_ : Int32) : Prop := (gX5_isCell a1_) ∧ (((fX5_isCell a1_) = 0 → True) ∧ (¬ ((fX5_isCell a1_) = 0) → ((fX5_within a2_ 63) = 0 → True) ∧ (¬ ((fX5_within a2_ 63) = 0) → (gX4_stands σ.2.1 ) ∧ (lpOk (kX5_round_38 τ σ a2_ (fX4_stands σ.2.1) ) fu ((jshl 1 a1_) &&& (fX4_stands σ.2.1), 0)))))
set_option maxHeartbeats 4000000 in
set_option maxRecDepth 100000 in
theorem wX5_round_0 {X : CX} {cy : Nat → ClassId} {q : Nat → Nat} {qn : Nat → Nat} {qt : Nat → Nat} {qk : Nat → Nat} {qr : Nat → Nat} {qs : Nat → Nat → Nat} {a : Nat} {τ : TX} {D : va_G} {A : Nat → Prop} {res : Int64} (σ : XS) (a1_ : Int32) (a2_ : Int32) (C : Cx X cX5_round RX5 8 D (gty cy) A 2 0 0) (hR : Rt X (some .long) D (gty cy) A 0 0 (eL (wX5 cy q qn qt qk qr qs a τ σ) res))  (ok : oX5_round_0 τ  σ a1_ a2_) (h : pX5_round_0 τ  σ a1_ a2_ = res) : At X D A 8 0 0 0 [(0, .ref (q 8)), (1, .int a1_), (2, .int a2_)] [] (wX5 cy q qn qt qk qr qs a τ σ) := by
  unfold pX5_round_0 at h
  unfold oX5_round_0 at ok
  refine r_iload_n C 1 (dall tdX5_round 0 rfl) rfl ?_
  obtain ⟨o2, ok⟩ := ok
  refine r_s0I (as := [.int a1_]) C (zX5_isCell a1_ o2) ms_X5_isCell km_X5_91 (by decide) (by decide) ⟨Nat.le_refl _, Nat.le_refl _⟩ rfl rfl (Nat.le_of_ble_eq_true rfl) (dall tdX5_round 1 rfl) ?_
  refine r_if_eq (tgt := 16) C (dall tdX5_round 2 rfl) (by decide) (fun c3 => ?_) (fun c3 => ?_)
  · have h := (if_pos c3).symm.trans h
    have ok := ok.1 c3
    refine r_ldc2 C kk_X5_111 (dall tdX5_round 7 rfl) ?_
    exact r_lret C hR (dall tdX5_round 8 rfl) (by subst h; exact ⟨rfl, rfl⟩)
  · have h := (if_neg c3).symm.trans h
    have ok := ok.2 c3
    refine r_iload_n C 2 (dall tdX5_round 3 rfl) rfl ?_
    refine r_bipush (v := 63) C (dall tdX5_round 4 rfl) (by decide) ?_
    refine r_s0I (as := [.int a2_, .int 63]) C (zX5_within a2_ 63 ) ms_X5_within km_X5_74 (by decide) (by decide) ⟨Nat.le_refl _, Nat.le_refl _⟩ rfl rfl (Nat.le_of_ble_eq_true rfl) (dall tdX5_round 5 rfl) ?_
    refine r_if_ne (tgt := 20) C (dall tdX5_round 6 rfl) (by decide) (fun c4 => ?_) (fun c4 => ?_)
    · have h := (if_neg c4).symm.trans h
      have ok := ok.2 c4
      refine r_aload_n C 0 (dall tdX5_round 9 rfl) rfl ?_
      refine r_get C 0 kw_X5 rfl rfl (by decide) kf_X5_20 rfl rfl (dall tdX5_round 10 rfl) ?_
      obtain ⟨o5, ok⟩ := ok
      refine rcN_L0 (as := []) C (zX4_stands cy (va_up qn 9 a) (tw cy a τ) σ.2.1  o5) mv_X4_stands km_X5_107 (by decide) (by decide) ⟨Nat.le_refl _, Nat.le_refl _⟩ rfl rfl (Nat.le_of_ble_eq_true rfl) (dall tdX5_round 11 rfl) ?_
      refine r_lstore_n (lv' := [(3, .long (fX4_stands σ.2.1)), (0, .ref (q 8)), (1, .int a1_), (2, .int a2_)]) C (dall tdX5_round 12 rfl) (by decide) rfl ?_
      refine r_lconst (v := 1) C (dall tdX5_round 13 rfl) (by decide) ?_
      refine r_iload_n C 2 (dall tdX5_round 14 rfl) rfl ?_
      refine r_lshl C (dall tdX5_round 15 rfl) ?_
      refine r_lload_n C 0 (dall tdX5_round 16 rfl) rfl ?_
      refine r_land C (dall tdX5_round 17 rfl) ?_
      refine r_lstore (lv' := [(5, .long ((jshl 1 a1_) &&& (fX4_stands σ.2.1))), (3, .long (fX4_stands σ.2.1)), (0, .ref (q 8)), (1, .int a1_), (2, .int a2_)]) C (dall tdX5_round 18 rfl) (by decide) rfl ?_
      refine r_iconst (v := 0) C (dall tdX5_round 19 rfl) (by decide) ?_
      refine r_istore (lv' := [(7, .int 0), (5, .long ((jshl 1 a1_) &&& (fX4_stands σ.2.1))), (3, .long (fX4_stands σ.2.1)), (0, .ref (q 8)), (1, .int a1_), (2, .int a2_)]) C (dall tdX5_round 20 rfl) (by decide) rfl ?_
      refine r_pick [5, 2, 1, 0] rfl ?_
      exact lX5_round_38 σ a2_ (fX4_stands σ.2.1) C hR  fu _ ok h
    · have h := (if_pos c4).symm.trans h
      have ok := ok.1 c4
      refine r_ldc2 C kk_X5_111 (dall tdX5_round 7 rfl) ?_
      exact r_lret C hR (dall tdX5_round 8 rfl) (by subst h; exact ⟨rfl, rfl⟩)
def fX5_round (τ : TX) (σ : XS) (a1_ : Int32) (a2_ : Int32) : Int64 := pX5_round_0 τ  σ a1_ a2_
def gX5_round (τ : TX) (σ : XS) (a1_ : Int32) (a2_ : Int32) : Prop := oX5_round_0 τ  σ a1_ a2_
set_option maxRecDepth 100000 in
theorem zX5_round (cy : Nat → ClassId) (q : Nat → Nat) (qn : Nat → Nat) (qt : Nat → Nat) (qk : Nat → Nat) (qr : Nat → Nat) (qs : Nat → Nat → Nat) (a : Nat) (τ : TX)  {D : va_G} (σ : XS) (a1_ : Int32) (a2_ : Int32) (ok : gX5_round τ σ a1_ a2_)  : Con yX5_round cX5_round 8 (some .long) 2 0 0 D (gty cy) [.ref (q 8), .int a1_, .int a2_] (wX5 cy q qn qt qk qr qs a τ σ) (eL (wX5 cy q qn qt qk qr qs a τ σ) (fX5_round τ σ a1_ a2_)) :=
  Con.of (own := RX5) (by decide +kernel) rfl (Nat.le_of_ble_eq_true rfl) (Nat.zero_le _) (fun X A C hR _ => (wX5_round_0 σ a1_ a2_ C hR  ok rfl))
theorem mv_X5_round : MV yX5_round cX5_round 8 (some .long) RX5 2 := ⟨ki_X5_round, kv_X5_round, kn_X5, kc_X5_round, by decide +kernel⟩
def tbX5_reach : List (Nat × Instr × Nat) := [(0, .iload_n 1, 1), (1, .invokestatic 91, 3), (4, .ifCond .ne 6, 3), (7, .bipush (-2), 2), (9, .ireturn, 1), (10, .aload_n 0, 1), (11, .getfield 20, 3), (14, .invokevirtual 107, 3), (17, .lstore_n 2, 1), (18, .lload_n 2, 1), (19, .iload_n 1, 1), (20, .invokestatic 140, 3), (23, .ifCond .eq 5, 3), (26, .iconst 0, 1), (27, .ireturn, 1), (28, .lload_n 2, 1), (29, .iload_n 1, 1), (30, .invokestatic 177, 3), (33, .ifCond .eq 5, 3), (36, .iconst 1, 1), (37, .ireturn, 1), (38, .lload_n 2, 1), (39, .iload_n 1, 1), (40, .invokestatic 180, 3), (43, .ifCond .eq 7, 3), (46, .iconst 2, 1), (47, .goto 4, 3), (50, .iconst (-1), 1), (51, .ireturn, 1)]
theorem tdX5_reach : tbX5_reach.all (fun q => decide (decode cX5_reach q.1 = .ok q.2)) = true := by decide +kernel
def pX5_reach_0 (τ : TX)  (σ : XS) (a1_ : Int32) : Int32 := if (fX5_isCell a1_) = 0 then (-2) else if (fX3_has (fX4_stands σ.2.1) a1_) = 0 then if (fX3_reachedByOne (fX4_stands σ.2.1) a1_) = 0 then if (fX3_reachedByTwo (fX4_stands σ.2.1) a1_) = 0 then (-1) else 2 else 1 else 0
def oX5_reach_0 (τ : TX)  (σ : XS) (a1_ : Int32) : Prop := (gX5_isCell a1_) ∧ (((fX5_isCell a1_) = 0 → True) ∧ (¬ ((fX5_isCell a1_) = 0) → (gX4_stands σ.2.1 ) ∧ (((fX3_has (fX4_stands σ.2.1) a1_) = 0 → (gX3_reachedByOne (fX4_stands σ.2.1) a1_) ∧ (((fX3_reachedByOne (fX4_stands σ.2.1) a1_) = 0 → gX3_reachedByTwo (fX4_stands σ.2.1) a1_) ∧ (¬ ((fX3_reachedByOne (fX4_stands σ.2.1) a1_) = 0) → True))) ∧ (¬ ((fX3_has (fX4_stands σ.2.1) a1_) = 0) → True))))
set_option maxHeartbeats 4000000 in
set_option maxRecDepth 100000 in
theorem wX5_reach_0 {X : CX} {cy : Nat → ClassId} {q : Nat → Nat} {qn : Nat → Nat} {qt : Nat → Nat} {qk : Nat → Nat} {qr : Nat → Nat} {qs : Nat → Nat → Nat} {a : Nat} {τ : TX} {D : va_G} {A : Nat → Prop} {res : Int32} (σ : XS) (a1_ : Int32) (C : Cx X cX5_reach RX5 4 D (gty cy) A 4 0 0) (hR : Rt X (some .int) D (gty cy) A 0 0 (eI (wX5 cy q qn qt qk qr qs a τ σ) res))  (ok : oX5_reach_0 τ  σ a1_) (h : pX5_reach_0 τ  σ a1_ = res) : At X D A 4 0 0 0 [(0, .ref (q 8)), (1, .int a1_)] [] (wX5 cy q qn qt qk qr qs a τ σ) := by
  unfold pX5_reach_0 at h
  unfold oX5_reach_0 at ok
  refine r_iload_n C 1 (dall tdX5_reach 0 rfl) rfl ?_
  obtain ⟨o1, ok⟩ := ok
  refine r_s0I (as := [.int a1_]) C (zX5_isCell a1_ o1) ms_X5_isCell km_X5_91 (by decide) (by decide) ⟨Nat.le_refl _, Nat.le_refl _⟩ rfl rfl (Nat.le_of_ble_eq_true rfl) (dall tdX5_reach 1 rfl) ?_
  refine r_if_ne (tgt := 10) C (dall tdX5_reach 2 rfl) (by decide) (fun c2 => ?_) (fun c2 => ?_)
  · have h := (if_neg c2).symm.trans h
    have ok := ok.2 c2
    refine r_aload_n C 0 (dall tdX5_reach 5 rfl) rfl ?_
    refine r_get C 0 kw_X5 rfl rfl (by decide) kf_X5_20 rfl rfl (dall tdX5_reach 6 rfl) ?_
    obtain ⟨o3, ok⟩ := ok
    refine rcN_L0 (as := []) C (zX4_stands cy (va_up qn 9 a) (tw cy a τ) σ.2.1  o3) mv_X4_stands km_X5_107 (by decide) (by decide) ⟨Nat.le_refl _, Nat.le_refl _⟩ rfl rfl (Nat.le_of_ble_eq_true rfl) (dall tdX5_reach 7 rfl) ?_
    refine r_lstore_n (lv' := [(2, .long (fX4_stands σ.2.1)), (0, .ref (q 8)), (1, .int a1_)]) C (dall tdX5_reach 8 rfl) (by decide) rfl ?_
    refine r_lload_n C 0 (dall tdX5_reach 9 rfl) rfl ?_
    refine r_iload_n C 2 (dall tdX5_reach 10 rfl) rfl ?_
    refine r_s0I (as := [.long (fX4_stands σ.2.1), .int a1_]) C (zX3_has (fX4_stands σ.2.1) a1_ ) ms_X3_has km_X5_140 (by decide) (by decide) ⟨Nat.le_refl _, Nat.le_refl _⟩ rfl rfl (Nat.le_of_ble_eq_true rfl) (dall tdX5_reach 11 rfl) ?_
    refine r_if_eq (tgt := 28) C (dall tdX5_reach 12 rfl) (by decide) (fun c4 => ?_) (fun c4 => ?_)
    · have h := (if_pos c4).symm.trans h
      have ok := ok.1 c4
      refine r_lload_n C 0 (dall tdX5_reach 15 rfl) rfl ?_
      refine r_iload_n C 2 (dall tdX5_reach 16 rfl) rfl ?_
      obtain ⟨o5, ok⟩ := ok
      refine r_s0I (as := [.long (fX4_stands σ.2.1), .int a1_]) C (zX3_reachedByOne (fX4_stands σ.2.1) a1_ o5) ms_X3_reachedByOne km_X5_177 (by decide) (by decide) ⟨Nat.le_refl _, Nat.le_refl _⟩ rfl rfl (Nat.le_of_ble_eq_true rfl) (dall tdX5_reach 17 rfl) ?_
      refine r_if_eq (tgt := 38) C (dall tdX5_reach 18 rfl) (by decide) (fun c6 => ?_) (fun c6 => ?_)
      · have h := (if_pos c6).symm.trans h
        have ok := ok.1 c6
        refine r_lload_n C 0 (dall tdX5_reach 21 rfl) rfl ?_
        refine r_iload_n C 2 (dall tdX5_reach 22 rfl) rfl ?_
        have o7 := ok
        refine r_s0I (as := [.long (fX4_stands σ.2.1), .int a1_]) C (zX3_reachedByTwo (fX4_stands σ.2.1) a1_ o7) ms_X3_reachedByTwo km_X5_180 (by decide) (by decide) ⟨Nat.le_refl _, Nat.le_refl _⟩ rfl rfl (Nat.le_of_ble_eq_true rfl) (dall tdX5_reach 23 rfl) ?_
        refine r_if_eq (tgt := 50) C (dall tdX5_reach 24 rfl) (by decide) (fun c8 => ?_) (fun c8 => ?_)
        · have h := (if_pos c8).symm.trans h
          refine r_iconst (v := -1) C (dall tdX5_reach 27 rfl) (by decide) ?_
          exact r_iret C hR (dall tdX5_reach 28 rfl) (by subst h; exact ⟨rfl, rfl⟩)
        · have h := (if_neg c8).symm.trans h
          refine r_iconst (v := 2) C (dall tdX5_reach 25 rfl) (by decide) ?_
          refine r_goto (tgt := 51) C (dall tdX5_reach 26 rfl) (by decide) ?_
          exact r_iret C hR (dall tdX5_reach 28 rfl) (by subst h; exact ⟨rfl, rfl⟩)
      · have h := (if_neg c6).symm.trans h
        have ok := ok.2 c6
        refine r_iconst (v := 1) C (dall tdX5_reach 19 rfl) (by decide) ?_
        exact r_iret C hR (dall tdX5_reach 20 rfl) (by subst h; exact ⟨rfl, rfl⟩)
    · have h := (if_neg c4).symm.trans h
      have ok := ok.2 c4
      refine r_iconst (v := 0) C (dall tdX5_reach 13 rfl) (by decide) ?_
      exact r_iret C hR (dall tdX5_reach 14 rfl) (by subst h; exact ⟨rfl, rfl⟩)
  · have h := (if_pos c2).symm.trans h
    have ok := ok.1 c2
    refine r_bipush (v := -2) C (dall tdX5_reach 3 rfl) (by decide) ?_
    exact r_iret C hR (dall tdX5_reach 4 rfl) (by subst h; exact ⟨rfl, rfl⟩)
def fX5_reach (τ : TX) (σ : XS) (a1_ : Int32) : Int32 := pX5_reach_0 τ  σ a1_
def gX5_reach (τ : TX) (σ : XS) (a1_ : Int32) : Prop := oX5_reach_0 τ  σ a1_
set_option maxRecDepth 100000 in
theorem zX5_reach (cy : Nat → ClassId) (q : Nat → Nat) (qn : Nat → Nat) (qt : Nat → Nat) (qk : Nat → Nat) (qr : Nat → Nat) (qs : Nat → Nat → Nat) (a : Nat) (τ : TX)  {D : va_G} (σ : XS) (a1_ : Int32) (ok : gX5_reach τ σ a1_)  : Con yX5_reach cX5_reach 4 (some .int) 4 0 0 D (gty cy) [.ref (q 8), .int a1_] (wX5 cy q qn qt qk qr qs a τ σ) (eI (wX5 cy q qn qt qk qr qs a τ σ) (fX5_reach τ σ a1_)) :=
  Con.of (own := RX5) (by decide +kernel) rfl (Nat.le_of_ble_eq_true rfl) (Nat.zero_le _) (fun X A C hR _ => (wX5_reach_0 σ a1_ C hR  ok rfl))
theorem mv_X5_reach : MV yX5_reach cX5_reach 4 (some .int) RX5 1 := ⟨ki_X5_reach, kv_X5_reach, kn_X5, kc_X5_reach, by decide +kernel⟩
def tbX5_key : List (Nat × Instr × Nat) := [(0, .iload_n 1, 1), (1, .iconst 1, 1), (2, .invokestatic 74, 3), (5, .ifCond .ne 6, 3), (8, .bipush (-2), 2), (10, .ireturn, 1), (11, .aload_n 0, 1), (12, .getfield 20, 3), (15, .invokevirtual 154, 3), (18, .lstore_n 2, 1), (19, .iconst (-1), 1), (20, .istore 4, 2), (22, .iconst (-1), 1), (23, .istore 5, 2), (25, .iconst 0, 1), (26, .istore 6, 2), (28, .iload 6, 2), (30, .bipush 64, 2), (32, .if_icmp .ge 44, 3), (35, .lload_n 2, 1), (36, .iload 6, 2), (38, .invokestatic 140, 3), (41, .ifCond .eq 29, 3), (44, .aload_n 0, 1), (45, .getfield 20, 3), (48, .iload 6, 2), (50, .invokevirtual 183, 3), (53, .istore 7, 2), (55, .iload 7, 2), (57, .iload 5, 2), (59, .if_icmp .le 11, 3), (62, .iload 7, 2), (64, .istore 5, 2), (66, .iload 6, 2), (68, .istore 4, 2), (70, .iinc 6 1, 3), (73, .goto (-45), 3), (76, .iload_n 1, 1), (77, .ifCond .ne 8, 3), (80, .iload 4, 2), (82, .goto 5, 3), (85, .iload 5, 2), (87, .ireturn, 1)]
theorem tdX5_key : tbX5_key.all (fun q => decide (decode cX5_key q.1 = .ok q.2)) = true := by decide +kernel
def pX5_key_70 (τ : TX) (kR28 : Int32 × Int32 × Int32 → Int32) (σ : XS) (a1_ : Int32) (a2_ : Int64) (a4_ : Int32) (a5_ : Int32) (a6_ : Int32) : Int32 := kR28 (a4_, a5_, a6_ + 1)
def oX5_key_70 (τ : TX) (kO28 : Int32 × Int32 × Int32 → Prop) (σ : XS) (a1_ : Int32) (a2_ : Int64) (a4_ : Int32) (a5_ : Int32) (a6_ : Int32) : Prop := kO28 (a4_, a5_, a6_ + 1)
set_option maxHeartbeats 4000000 in
set_option maxRecDepth 100000 in
theorem wX5_key_70 {X : CX} {cy : Nat → ClassId} {q : Nat → Nat} {qn : Nat → Nat} {qt : Nat → Nat} {qk : Nat → Nat} {qr : Nat → Nat} {qs : Nat → Nat → Nat} {a : Nat} {τ : TX} {D : va_G} {A : Nat → Prop} {res : Int32} (σ : XS) (a1_ : Int32) (a2_ : Int64) (a4_ : Int32) (a5_ : Int32) (a6_ : Int32) (C : Cx X cX5_key RX5 8 D (gty cy) A 3 0 0) (hR : Rt X (some .int) D (gty cy) A 0 0 (eI (wX5 cy q qn qt qk qr qs a τ σ) res)) (kR28 : Int32 × Int32 × Int32 → Int32) (kO28 : Int32 × Int32 × Int32 → Prop) (hk28 : ∀ z, kO28 z → kR28 z = res → At X D A 8 0 0 28 [(0, .ref (q 8)), (1, .int a1_), (2, .long a2_), (4, .int z.1), (5, .int z.2.1), (6, .int z.2.2)] [] (wX5 cy q qn qt qk qr qs a τ σ)) (ok : oX5_key_70 τ kO28 σ a1_ a2_ a4_ a5_ a6_) (h : pX5_key_70 τ kR28 σ a1_ a2_ a4_ a5_ a6_ = res) : At X D A 8 0 0 70 [(0, .ref (q 8)), (1, .int a1_), (2, .long a2_), (4, .int a4_), (5, .int a5_), (6, .int a6_)] [] (wX5 cy q qn qt qk qr qs a τ σ) := by
  unfold pX5_key_70 at h
  unfold oX5_key_70 at ok
  refine r_iinc (v := a6_ + 1) (lv' := [(6, .int (a6_ + 1)), (0, .ref (q 8)), (1, .int a1_), (2, .long a2_), (4, .int a4_), (5, .int a5_)]) C 5 (dall tdX5_key 35 rfl) rfl rfl (by decide) rfl ?_
  refine r_goto (tgt := 28) C (dall tdX5_key 36 rfl) (by decide) ?_
  refine r_pick [1, 2, 3, 4, 5, 0] rfl ?_
  exact hk28 (a4_, a5_, a6_ + 1) ok h
def bX5_key_28 (τ : TX) (σ : XS) (a1_ : Int32) (a2_ : Int64)  (kR28 : Int32 × Int32 × Int32 → Int32) (v : Int32 × Int32 × Int32) : Int32 := if 64 ≤ v.2.2 then if a1_ = 0 then v.1 else v.2.1 else if (fX3_has a2_ v.2.2) = 0 then pX5_key_70 τ kR28 σ a1_ a2_ v.1 v.2.1 v.2.2 else if (fX4_fallWithout σ.2.1 v.2.2) ≤ v.2.1 then pX5_key_70 τ kR28 σ a1_ a2_ v.1 v.2.1 v.2.2 else pX5_key_70 τ kR28 σ a1_ a2_ v.2.2 (fX4_fallWithout σ.2.1 v.2.2) v.2.2
def kX5_key_28 (τ : TX) (σ : XS) (a1_ : Int32) (a2_ : Int64)  (kO28 : Int32 × Int32 × Int32 → Prop) (v : Int32 × Int32 × Int32) : Prop := (64 ≤ v.2.2 → True) ∧ (¬ (64 ≤ v.2.2) → ((fX3_has a2_ v.2.2) = 0 → oX5_key_70 τ kO28 σ a1_ a2_ v.1 v.2.1 v.2.2) ∧ (¬ ((fX3_has a2_ v.2.2) = 0) → (gX4_fallWithout σ.2.1 v.2.2) ∧ (((fX4_fallWithout σ.2.1 v.2.2) ≤ v.2.1 → oX5_key_70 τ kO28 σ a1_ a2_ v.1 v.2.1 v.2.2) ∧ (¬ ((fX4_fallWithout σ.2.1 v.2.2) ≤ v.2.1) → oX5_key_70 τ kO28 σ a1_ a2_ v.2.2 (fX4_fallWithout σ.2.1 v.2.2) v.2.2))))
set_option maxHeartbeats 4000000 in
set_option maxRecDepth 100000 in
theorem wX5_key_28 {X : CX} {cy : Nat → ClassId} {q : Nat → Nat} {qn : Nat → Nat} {qt : Nat → Nat} {qk : Nat → Nat} {qr : Nat → Nat} {qs : Nat → Nat → Nat} {a : Nat} {τ : TX} {D : va_G} {A : Nat → Prop} {res : Int32} (σ : XS) (a1_ : Int32) (a2_ : Int64) (C : Cx X cX5_key RX5 8 D (gty cy) A 3 0 0) (hR : Rt X (some .int) D (gty cy) A 0 0 (eI (wX5 cy q qn qt qk qr qs a τ σ) res)) (kR28 : Int32 × Int32 × Int32 → Int32) (kO28 : Int32 × Int32 × Int32 → Prop) (hk28 : ∀ z, kO28 z → kR28 z = res → At X D A 8 0 0 28 [(0, .ref (q 8)), (1, .int a1_), (2, .long a2_), (4, .int z.1), (5, .int z.2.1), (6, .int z.2.2)] [] (wX5 cy q qn qt qk qr qs a τ σ)) (v : Int32 × Int32 × Int32) (ok : kX5_key_28 τ σ a1_ a2_ kO28 v) (h : bX5_key_28 τ σ a1_ a2_ kR28 v = res) : At X D A 8 0 0 28 [(0, .ref (q 8)), (1, .int a1_), (2, .long a2_), (4, .int v.1), (5, .int v.2.1), (6, .int v.2.2)] [] (wX5 cy q qn qt qk qr qs a τ σ) := by
  unfold bX5_key_28 at h
  unfold kX5_key_28 at ok
  refine r_iload C 5 (dall tdX5_key 16 rfl) rfl ?_
  refine r_bipush (v := 64) C (dall tdX5_key 17 rfl) (by decide) ?_
  refine r_icmp_ge (tgt := 76) C (dall tdX5_key 18 rfl) (by decide) (fun c1 => ?_) (fun c1 => ?_)
  · have h := (if_pos c1).symm.trans h
    have ok := ok.1 c1
    refine r_iload_n C 1 (dall tdX5_key 37 rfl) rfl ?_
    refine r_if_ne (tgt := 85) C (dall tdX5_key 38 rfl) (by decide) (fun c2 => ?_) (fun c2 => ?_)
    · have h := (if_neg c2).symm.trans h
      refine r_iload C 4 (dall tdX5_key 41 rfl) rfl ?_
      exact r_iret C hR (dall tdX5_key 42 rfl) (by subst h; exact ⟨rfl, rfl⟩)
    · have h := (if_pos c2).symm.trans h
      refine r_iload C 3 (dall tdX5_key 39 rfl) rfl ?_
      refine r_goto (tgt := 87) C (dall tdX5_key 40 rfl) (by decide) ?_
      exact r_iret C hR (dall tdX5_key 42 rfl) (by subst h; exact ⟨rfl, rfl⟩)
  · have h := (if_neg c1).symm.trans h
    have ok := ok.2 c1
    refine r_lload_n C 2 (dall tdX5_key 19 rfl) rfl ?_
    refine r_iload C 5 (dall tdX5_key 20 rfl) rfl ?_
    refine r_s0I (as := [.long a2_, .int v.2.2]) C (zX3_has a2_ v.2.2 ) ms_X3_has km_X5_140 (by decide) (by decide) ⟨Nat.le_refl _, Nat.le_refl _⟩ rfl rfl (Nat.le_of_ble_eq_true rfl) (dall tdX5_key 21 rfl) ?_
    refine r_if_eq (tgt := 70) C (dall tdX5_key 22 rfl) (by decide) (fun c3 => ?_) (fun c3 => ?_)
    · have h := (if_pos c3).symm.trans h
      have ok := ok.1 c3
      exact wX5_key_70 σ a1_ a2_ v.1 v.2.1 v.2.2 C hR kR28 kO28 hk28 ok h
    · have h := (if_neg c3).symm.trans h
      have ok := ok.2 c3
      refine r_aload_n C 0 (dall tdX5_key 23 rfl) rfl ?_
      refine r_get C 0 kw_X5 rfl rfl (by decide) kf_X5_20 rfl rfl (dall tdX5_key 24 rfl) ?_
      refine r_iload C 5 (dall tdX5_key 25 rfl) rfl ?_
      obtain ⟨o4, ok⟩ := ok
      refine rcN_I0 (as := [.int v.2.2]) C (zX4_fallWithout cy (va_up qn 9 a) (tw cy a τ) σ.2.1 v.2.2 o4) mv_X4_fallWithout km_X5_183 (by decide) (by decide) ⟨Nat.le_refl _, Nat.le_refl _⟩ rfl rfl (Nat.le_of_ble_eq_true rfl) (dall tdX5_key 26 rfl) ?_
      refine r_istore (lv' := [(7, .int (fX4_fallWithout σ.2.1 v.2.2)), (0, .ref (q 8)), (1, .int a1_), (2, .long a2_), (4, .int v.1), (5, .int v.2.1), (6, .int v.2.2)]) C (dall tdX5_key 27 rfl) (by decide) rfl ?_
      refine r_iload C 0 (dall tdX5_key 28 rfl) rfl ?_
      refine r_iload C 5 (dall tdX5_key 29 rfl) rfl ?_
      refine r_icmp_le (tgt := 70) C (dall tdX5_key 30 rfl) (by decide) (fun c5 => ?_) (fun c5 => ?_)
      · have h := (if_pos c5).symm.trans h
        have ok := ok.1 c5
        refine r_pick [1, 2, 3, 4, 5, 6] rfl ?_
        exact wX5_key_70 σ a1_ a2_ v.1 v.2.1 v.2.2 C hR kR28 kO28 hk28 ok h
      · have h := (if_neg c5).symm.trans h
        have ok := ok.2 c5
        refine r_iload C 0 (dall tdX5_key 31 rfl) rfl ?_
        refine r_istore (lv' := [(5, .int (fX4_fallWithout σ.2.1 v.2.2)), (7, .int (fX4_fallWithout σ.2.1 v.2.2)), (0, .ref (q 8)), (1, .int a1_), (2, .long a2_), (4, .int v.1), (6, .int v.2.2)]) C (dall tdX5_key 32 rfl) (by decide) rfl ?_
        refine r_iload C 6 (dall tdX5_key 33 rfl) rfl ?_
        refine r_istore (lv' := [(4, .int v.2.2), (5, .int (fX4_fallWithout σ.2.1 v.2.2)), (7, .int (fX4_fallWithout σ.2.1 v.2.2)), (0, .ref (q 8)), (1, .int a1_), (2, .long a2_), (6, .int v.2.2)]) C (dall tdX5_key 34 rfl) (by decide) rfl ?_
        refine r_pick [3, 4, 5, 0, 1, 6] rfl ?_
        exact wX5_key_70 σ a1_ a2_ v.2.2 (fX4_fallWithout σ.2.1 v.2.2) v.2.2 C hR kR28 kO28 hk28 ok h
set_option maxHeartbeats 4000000 in
set_option maxRecDepth 100000 in
theorem lX5_key_28 {X : CX} {cy : Nat → ClassId} {q : Nat → Nat} {qn : Nat → Nat} {qt : Nat → Nat} {qk : Nat → Nat} {qr : Nat → Nat} {qs : Nat → Nat → Nat} {a : Nat} {τ : TX} {D : va_G} {A : Nat → Prop} {res : Int32} (σ : XS) (a1_ : Int32) (a2_ : Int64) (C : Cx X cX5_key RX5 8 D (gty cy) A 3 0 0) (hR : Rt X (some .int) D (gty cy) A 0 0 (eI (wX5 cy q qn qt qk qr qs a τ σ) res))  (n : Nat) (v : Int32 × Int32 × Int32) (ok : lpOk (kX5_key_28 τ σ a1_ a2_ ) n v) (h : lp 0 (bX5_key_28 τ σ a1_ a2_ ) n v = res) : At X D A 8 0 0 28 [(0, .ref (q 8)), (1, .int a1_), (2, .long a2_), (4, .int v.1), (5, .int v.2.1), (6, .int v.2.2)] [] (wX5 cy q qn qt qk qr qs a τ σ) :=
  lp_rule (fun v rr_ => rr_ = res → At X D A 8 0 0 28 [(0, .ref (q 8)), (1, .int a1_), (2, .long a2_), (4, .int v.1), (5, .int v.2.1), (6, .int v.2.2)] [] (wX5 cy q qn qt qk qr qs a τ σ)) (fun kR kO hk v ok h => wX5_key_28 σ a1_ a2_ C hR  kR kO hk v ok h) n v ok h
def pX5_key_0 (τ : TX)  (σ : XS) (a1_ : Int32) : Int32 := if (fX5_within a1_ 1) = 0 then (-2) else lp 0 (bX5_key_28 τ σ a1_ (fX4_allUp σ.2.1) ) fu ((-1), (-1), 0)
def oX5_key_0 (τ : TX)  (σ : XS) (a1_ : Int32) : Prop := ((fX5_within a1_ 1) = 0 → True) ∧ (¬ ((fX5_within a1_ 1) = 0) → (gX4_allUp σ.2.1 ) ∧ (lpOk (kX5_key_28 τ σ a1_ (fX4_allUp σ.2.1) ) fu ((-1), (-1), 0)))
set_option maxHeartbeats 4000000 in
set_option maxRecDepth 100000 in
theorem wX5_key_0 {X : CX} {cy : Nat → ClassId} {q : Nat → Nat} {qn : Nat → Nat} {qt : Nat → Nat} {qk : Nat → Nat} {qr : Nat → Nat} {qs : Nat → Nat → Nat} {a : Nat} {τ : TX} {D : va_G} {A : Nat → Prop} {res : Int32} (σ : XS) (a1_ : Int32) (C : Cx X cX5_key RX5 8 D (gty cy) A 3 0 0) (hR : Rt X (some .int) D (gty cy) A 0 0 (eI (wX5 cy q qn qt qk qr qs a τ σ) res))  (ok : oX5_key_0 τ  σ a1_) (h : pX5_key_0 τ  σ a1_ = res) : At X D A 8 0 0 0 [(0, .ref (q 8)), (1, .int a1_)] [] (wX5 cy q qn qt qk qr qs a τ σ) := by
  unfold pX5_key_0 at h
  unfold oX5_key_0 at ok
  refine r_iload_n C 1 (dall tdX5_key 0 rfl) rfl ?_
  refine r_iconst (v := 1) C (dall tdX5_key 1 rfl) (by decide) ?_
  refine r_s0I (as := [.int a1_, .int 1]) C (zX5_within a1_ 1 ) ms_X5_within km_X5_74 (by decide) (by decide) ⟨Nat.le_refl _, Nat.le_refl _⟩ rfl rfl (Nat.le_of_ble_eq_true rfl) (dall tdX5_key 2 rfl) ?_
  refine r_if_ne (tgt := 11) C (dall tdX5_key 3 rfl) (by decide) (fun c6 => ?_) (fun c6 => ?_)
  · have h := (if_neg c6).symm.trans h
    have ok := ok.2 c6
    refine r_aload_n C 0 (dall tdX5_key 6 rfl) rfl ?_
    refine r_get C 0 kw_X5 rfl rfl (by decide) kf_X5_20 rfl rfl (dall tdX5_key 7 rfl) ?_
    obtain ⟨o7, ok⟩ := ok
    refine rcN_L0 (as := []) C (zX4_allUp cy (va_up qn 9 a) (tw cy a τ) σ.2.1  o7) mv_X4_allUp km_X5_154 (by decide) (by decide) ⟨Nat.le_refl _, Nat.le_refl _⟩ rfl rfl (Nat.le_of_ble_eq_true rfl) (dall tdX5_key 8 rfl) ?_
    refine r_lstore_n (lv' := [(2, .long (fX4_allUp σ.2.1)), (0, .ref (q 8)), (1, .int a1_)]) C (dall tdX5_key 9 rfl) (by decide) rfl ?_
    refine r_iconst (v := -1) C (dall tdX5_key 10 rfl) (by decide) ?_
    refine r_istore (lv' := [(4, .int (-1)), (2, .long (fX4_allUp σ.2.1)), (0, .ref (q 8)), (1, .int a1_)]) C (dall tdX5_key 11 rfl) (by decide) rfl ?_
    refine r_iconst (v := -1) C (dall tdX5_key 12 rfl) (by decide) ?_
    refine r_istore (lv' := [(5, .int (-1)), (4, .int (-1)), (2, .long (fX4_allUp σ.2.1)), (0, .ref (q 8)), (1, .int a1_)]) C (dall tdX5_key 13 rfl) (by decide) rfl ?_
    refine r_iconst (v := 0) C (dall tdX5_key 14 rfl) (by decide) ?_
    refine r_istore (lv' := [(6, .int 0), (5, .int (-1)), (4, .int (-1)), (2, .long (fX4_allUp σ.2.1)), (0, .ref (q 8)), (1, .int a1_)]) C (dall tdX5_key 15 rfl) (by decide) rfl ?_
    refine r_pick [4, 5, 3, 2, 1, 0] rfl ?_
    exact lX5_key_28 σ a1_ (fX4_allUp σ.2.1) C hR  fu _ ok h
  · have h := (if_pos c6).symm.trans h
    have ok := ok.1 c6
    refine r_bipush (v := -2) C (dall tdX5_key 4 rfl) (by decide) ?_
    exact r_iret C hR (dall tdX5_key 5 rfl) (by subst h; exact ⟨rfl, rfl⟩)
def fX5_key (τ : TX) (σ : XS) (a1_ : Int32) : Int32 := pX5_key_0 τ  σ a1_
def gX5_key (τ : TX) (σ : XS) (a1_ : Int32) : Prop := oX5_key_0 τ  σ a1_
set_option maxRecDepth 100000 in
theorem zX5_key (cy : Nat → ClassId) (q : Nat → Nat) (qn : Nat → Nat) (qt : Nat → Nat) (qk : Nat → Nat) (qr : Nat → Nat) (qs : Nat → Nat → Nat) (a : Nat) (τ : TX)  {D : va_G} (σ : XS) (a1_ : Int32) (ok : gX5_key τ σ a1_)  : Con yX5_key cX5_key 8 (some .int) 3 0 0 D (gty cy) [.ref (q 8), .int a1_] (wX5 cy q qn qt qk qr qs a τ σ) (eI (wX5 cy q qn qt qk qr qs a τ σ) (fX5_key τ σ a1_)) :=
  Con.of (own := RX5) (by decide +kernel) rfl (Nat.le_of_ble_eq_true rfl) (Nat.zero_le _) (fun X A C hR _ => (wX5_key_0 σ a1_ C hR  ok rfl))
theorem mv_X5_key : MV yX5_key cX5_key 8 (some .int) RX5 1 := ⟨ki_X5_key, kv_X5_key, kn_X5, kc_X5_key, by decide +kernel⟩

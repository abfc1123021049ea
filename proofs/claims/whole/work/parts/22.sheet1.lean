abbrev fX1 (q : Nat → Nat) (σ : OS) : List Value := [.ref (q 0), .int (σ.1 1), .int (σ.1 2)]
def wX1 (cy : Nat → ClassId) (q : Nat → Nat) (σ : OS) : va_W := (q 3, .inr (1, fX1 q σ)) :: (q 0, .inl (cy 0, 40, .inl (σ.2.2.1 0))) :: []
theorem pu_X1_this_1 (cy : Nat → ClassId) (q : Nat → Nat) (σ : OS) (v : Int32) : (wX1 cy q σ).set 0 (q 3, .inr (1, (fX1 q σ).set 1 (.int v))) = wX1 cy q (oI σ 1 v) := rfl
theorem pu_X1_this_2 (cy : Nat → ClassId) (q : Nat → Nat) (σ : OS) (v : Int32) : (wX1 cy q σ).set 0 (q 3, .inr (1, (fX1 q σ).set 2 (.int v))) = wX1 cy q (oI σ 2 v) := rfl
theorem pa_X1_this_0 (cy : Nat → ClassId) (q : Nat → Nat) (σ : OS) (i : Nat) (x : Int32) : (wX1 cy q σ).set 1 (q 0, .inl (cy 0, 40, .inl (upd (σ.2.2.1 0) i x))) = wX1 cy q (oS σ 0 i x) := rfl
def tbX1_isMissing : List (Nat × Instr × Nat) := [(0, .aload_n 0, 1), (1, .getfield 15, 3), (4, .iconst (-1), 1), (5, .if_icmp .ne 7, 3), (8, .iconst 1, 1), (9, .goto 4, 3), (12, .iconst 0, 1), (13, .ireturn, 1)]
theorem tdX1_isMissing : tbX1_isMissing.all (fun q => decide (decode cX1_isMissing q.1 = .ok q.2)) = true := by decide +kernel
def pX1_isMissing_0  (σ : OS) : Int32 := if (σ.1 1) = (-1) then 1 else 0
set_option maxHeartbeats 4000000 in
set_option maxRecDepth 100000 in
theorem wX1_isMissing_0 {X : CX} {cy : Nat → ClassId} {q : Nat → Nat} {D : va_G} {A : Nat → Prop} {res : Int32} (σ : OS) (C : Cx X cX1_isMissing RX1 1 D (gty cy) A 0 0 0) (hR : Rt X (some .boolean) D (gty cy) A 0 0 (eI (wX1 cy q σ) res))  (h : pX1_isMissing_0  σ = res) : At X D A 1 0 0 0 [(0, .ref (q 3))] [] (wX1 cy q σ) := by
  unfold pX1_isMissing_0 at h
  refine r_aload_n C 0 (dall tdX1_isMissing 0 rfl) rfl ?_
  refine r_get C 0 kw_X1 rfl rfl (by decide) kf_X1_15 rfl rfl (dall tdX1_isMissing 1 rfl) ?_
  refine r_iconst (v := -1) C (dall tdX1_isMissing 2 rfl) (by decide) ?_
  refine r_icmp_ne (tgt := 12) C (dall tdX1_isMissing 3 rfl) (by decide) (fun c1 => ?_) (fun c1 => ?_)
  · have h := (if_neg c1).symm.trans h
    refine r_iconst (v := 0) C (dall tdX1_isMissing 6 rfl) (by decide) ?_
    exact r_zret C (by decide) hR (dall tdX1_isMissing 7 rfl) (by subst h; exact ⟨rfl, rfl⟩)
  · have h := (if_pos c1).symm.trans h
    refine r_iconst (v := 1) C (dall tdX1_isMissing 4 rfl) (by decide) ?_
    refine r_goto (tgt := 13) C (dall tdX1_isMissing 5 rfl) (by decide) ?_
    exact r_zret C (by decide) hR (dall tdX1_isMissing 7 rfl) (by subst h; exact ⟨rfl, rfl⟩)
def fX1_isMissing (σ : OS) : Int32 := pX1_isMissing_0  σ
set_option maxRecDepth 100000 in
theorem zX1_isMissing (cy : Nat → ClassId) (q : Nat → Nat)  {D : va_G} (σ : OS)  : Con yX1_isMissing cX1_isMissing 1 (some .boolean) 0 0 0 D (gty cy) [.ref (q 3)] (wX1 cy q σ) (eI (wX1 cy q σ) (fX1_isMissing σ )) :=
  Con.of (own := RX1) (by decide +kernel) rfl (Nat.le_of_ble_eq_true rfl) (Nat.zero_le _) (fun X A C hR _ => (wX1_isMissing_0 σ C hR  rfl))
theorem mv_X1_isMissing : MV yX1_isMissing cX1_isMissing 1 (some .boolean) RX1 0 := ⟨ki_X1_isMissing, kv_X1_isMissing, kn_X1, kc_X1_isMissing, by decide +kernel⟩
def tbX1_put : List (Nat × Instr × Nat) := [(0, .aload_n 0, 1), (1, .getfield 9, 3), (4, .iload_n 1, 1), (5, .aload_n 0, 1), (6, .getfield 15, 3), (9, .ifCond .ne 8, 3), (12, .iload_n 2, 1), (13, .i2b, 1), (14, .goto 17, 3), (17, .aload_n 0, 1), (18, .getfield 15, 3), (21, .iconst 1, 1), (22, .if_icmp .ne 8, 3), (25, .iload_n 2, 1), (26, .i2s, 1), (27, .goto 4, 3), (30, .iload_n 2, 1), (31, .iastore, 1), (32, .return_, 1)]
theorem tdX1_put : tbX1_put.all (fun q => decide (decode cX1_put q.1 = .ok q.2)) = true := by decide +kernel
def pX1_put_31  (σ : OS) (b0_ : Int32) (b1_ : Int32) : OS := oS σ 0 b1_.toNatClampNeg b0_
def oX1_put_31  (σ : OS) (b0_ : Int32) (b1_ : Int32) : Prop := vp_in b1_ 40
set_option maxHeartbeats 4000000 in
set_option maxRecDepth 100000 in
theorem wX1_put_31 {X : CX} {cy : Nat → ClassId} {q : Nat → Nat} {D : va_G} {A : Nat → Prop} {res : OS} (σ : OS) (b0_ : Int32) (b1_ : Int32) (C : Cx X cX1_put RX1 3 D (gty cy) A 0 0 0) (hR : Rt X none D (gty cy) A 0 0 (eV (wX1 cy q res)))  (ok : oX1_put_31  σ b0_ b1_) (h : pX1_put_31  σ b0_ b1_ = res) : At X D A 3 0 0 31 [] [.int b0_, .int b1_, .ref (q 0)] (wX1 cy q σ) := by
  unfold pX1_put_31 at h
  unfold oX1_put_31 at ok
  have o1 := ok
  refine r_iast C 1 0 rfl rfl o1 (pa_X1_this_0 cy q σ b1_.toNatClampNeg b0_) (dall tdX1_put 17 rfl) ?_
  exact r_vret C hR (dall tdX1_put 18 rfl) (by subst h; exact ⟨rfl, rfl⟩)
def pX1_put_0  (σ : OS) (a1_ : Int32) (a2_ : Int32) : OS := if (σ.1 1) = 0 then pX1_put_31  σ a2_.toInt8.toInt32 a1_ else if (σ.1 1) = 1 then pX1_put_31  σ a2_.toInt16.toInt32 a1_ else pX1_put_31  σ a2_ a1_
def oX1_put_0  (σ : OS) (a1_ : Int32) (a2_ : Int32) : Prop := ((σ.1 1) = 0 → oX1_put_31  σ a2_.toInt8.toInt32 a1_) ∧ (¬ ((σ.1 1) = 0) → ((σ.1 1) = 1 → oX1_put_31  σ a2_.toInt16.toInt32 a1_) ∧ (¬ ((σ.1 1) = 1) → oX1_put_31  σ a2_ a1_))
set_option maxHeartbeats 4000000 in
set_option maxRecDepth 100000 in
theorem wX1_put_0 {X : CX} {cy : Nat → ClassId} {q : Nat → Nat} {D : va_G} {A : Nat → Prop} {res : OS} (σ : OS) (a1_ : Int32) (a2_ : Int32) (C : Cx X cX1_put RX1 3 D (gty cy) A 0 0 0) (hR : Rt X none D (gty cy) A 0 0 (eV (wX1 cy q res)))  (ok : oX1_put_0  σ a1_ a2_) (h : pX1_put_0  σ a1_ a2_ = res) : At X D A 3 0 0 0 [(0, .ref (q 3)), (1, .int a1_), (2, .int a2_)] [] (wX1 cy q σ) := by
  unfold pX1_put_0 at h
  unfold oX1_put_0 at ok
  refine r_aload_n C 0 (dall tdX1_put 0 rfl) rfl ?_
  refine r_get C 0 kw_X1 rfl rfl (by decide) kf_X1_9 rfl rfl (dall tdX1_put 1 rfl) ?_
  refine r_iload_n C 1 (dall tdX1_put 2 rfl) rfl ?_
  refine r_aload_n C 0 (dall tdX1_put 3 rfl) rfl ?_
  refine r_get C 0 kw_X1 rfl rfl (by decide) kf_X1_15 rfl rfl (dall tdX1_put 4 rfl) ?_
  refine r_if_ne (tgt := 17) C (dall tdX1_put 5 rfl) (by decide) (fun c2 => ?_) (fun c2 => ?_)
  · have h := (if_neg c2).symm.trans h
    have ok := ok.2 c2
    refine r_aload_n C 0 (dall tdX1_put 9 rfl) rfl ?_
    refine r_get C 0 kw_X1 rfl rfl (by decide) kf_X1_15 rfl rfl (dall tdX1_put 10 rfl) ?_
    refine r_iconst (v := 1) C (dall tdX1_put 11 rfl) (by decide) ?_
    refine r_icmp_ne (tgt := 30) C (dall tdX1_put 12 rfl) (by decide) (fun c3 => ?_) (fun c3 => ?_)
    · have h := (if_neg c3).symm.trans h
      have ok := ok.2 c3
      refine r_iload_n C 2 (dall tdX1_put 16 rfl) rfl ?_
      refine r_pick [] rfl ?_
      exact wX1_put_31 σ a2_ a1_ C hR  ok h
    · have h := (if_pos c3).symm.trans h
      have ok := ok.1 c3
      refine r_iload_n C 2 (dall tdX1_put 13 rfl) rfl ?_
      refine r_i2s C (dall tdX1_put 14 rfl) ?_
      refine r_goto (tgt := 31) C (dall tdX1_put 15 rfl) (by decide) ?_
      refine r_pick [] rfl ?_
      exact wX1_put_31 σ a2_.toInt16.toInt32 a1_ C hR  ok h
  · have h := (if_pos c2).symm.trans h
    have ok := ok.1 c2
    refine r_iload_n C 2 (dall tdX1_put 6 rfl) rfl ?_
    refine r_i2b C (dall tdX1_put 7 rfl) ?_
    refine r_goto (tgt := 31) C (dall tdX1_put 8 rfl) (by decide) ?_
    refine r_pick [] rfl ?_
    exact wX1_put_31 σ a2_.toInt8.toInt32 a1_ C hR  ok h
def fX1_put (σ : OS) (a1_ : Int32) (a2_ : Int32) : OS := pX1_put_0  σ a1_ a2_
def gX1_put (σ : OS) (a1_ : Int32) (a2_ : Int32) : Prop := oX1_put_0  σ a1_ a2_
set_option maxRecDepth 100000 in
theorem zX1_put (cy : Nat → ClassId) (q : Nat → Nat)  {D : va_G} (σ : OS) (a1_ : Int32) (a2_ : Int32) (ok : gX1_put σ a1_ a2_)  : Con yX1_put cX1_put 3 none 0 0 0 D (gty cy) [.ref (q 3), .int a1_, .int a2_] (wX1 cy q σ) (eV (wX1 cy q (fX1_put σ a1_ a2_))) :=
  Con.of (own := RX1) (by decide +kernel) rfl (Nat.le_of_ble_eq_true rfl) (Nat.zero_le _) (fun X A C hR _ => (wX1_put_0 σ a1_ a2_ C hR  ok rfl))
theorem mv_X1_put : MV yX1_put cX1_put 3 none RX1 2 := ⟨ki_X1_put, kv_X1_put, kn_X1, kc_X1_put, by decide +kernel⟩
def tbX1_hasRange : List (Nat × Instr × Nat) := [(0, .iload_n 2, 1), (1, .ifCond .lt 29, 3), (4, .iload_n 2, 1), (5, .aload_n 0, 1), (6, .getfield 19, 3), (9, .if_icmp .gt 21, 3), (12, .iload_n 1, 1), (13, .ifCond .lt 17, 3), (16, .iload_n 1, 1), (17, .aload_n 0, 1), (18, .getfield 19, 3), (21, .iload_n 2, 1), (22, .isub, 1), (23, .if_icmp .gt 7, 3), (26, .iconst 1, 1), (27, .goto 4, 3), (30, .iconst 0, 1), (31, .ireturn, 1)]
theorem tdX1_hasRange : tbX1_hasRange.all (fun q => decide (decode cX1_hasRange q.1 = .ok q.2)) = true := by decide +kernel
def pX1_hasRange_0  (σ : OS) (a1_ : Int32) (a2_ : Int32) : Int32 := if a2_ < 0 then 0 else if (σ.1 2) < a2_ then 0 else if a1_ < 0 then 0 else if ((σ.1 2) - a2_) < a1_ then 0 else 1
set_option maxHeartbeats 4000000 in
set_option maxRecDepth 100000 in
theorem wX1_hasRange_0 {X : CX} {cy : Nat → ClassId} {q : Nat → Nat} {D : va_G} {A : Nat → Prop} {res : Int32} (σ : OS) (a1_ : Int32) (a2_ : Int32) (C : Cx X cX1_hasRange RX1 3 D (gty cy) A 0 0 0) (hR : Rt X (some .boolean) D (gty cy) A 0 0 (eI (wX1 cy q σ) res))  (h : pX1_hasRange_0  σ a1_ a2_ = res) : At X D A 3 0 0 0 [(0, .ref (q 3)), (1, .int a1_), (2, .int a2_)] [] (wX1 cy q σ) := by
  unfold pX1_hasRange_0 at h
  refine r_iload_n C 2 (dall tdX1_hasRange 0 rfl) rfl ?_
  refine r_if_lt (tgt := 30) C (dall tdX1_hasRange 1 rfl) (by decide) (fun c1 => ?_) (fun c1 => ?_)
  · have h := (if_pos c1).symm.trans h
    refine r_iconst (v := 0) C (dall tdX1_hasRange 16 rfl) (by decide) ?_
    exact r_zret C (by decide) hR (dall tdX1_hasRange 17 rfl) (by subst h; exact ⟨rfl, rfl⟩)
  · have h := (if_neg c1).symm.trans h
    refine r_iload_n C 2 (dall tdX1_hasRange 2 rfl) rfl ?_
    refine r_aload_n C 0 (dall tdX1_hasRange 3 rfl) rfl ?_
    refine r_get C 0 kw_X1 rfl rfl (by decide) kf_X1_19 rfl rfl (dall tdX1_hasRange 4 rfl) ?_
    refine r_icmp_gt (tgt := 30) C (dall tdX1_hasRange 5 rfl) (by decide) (fun c2 => ?_) (fun c2 => ?_)
    · have h := (if_pos c2).symm.trans h
      refine r_iconst (v := 0) C (dall tdX1_hasRange 16 rfl) (by decide) ?_
      exact r_zret C (by decide) hR (dall tdX1_hasRange 17 rfl) (by subst h; exact ⟨rfl, rfl⟩)
    · have h := (if_neg c2).symm.trans h
      refine r_iload_n C 1 (dall tdX1_hasRange 6 rfl) rfl ?_
      refine r_if_lt (tgt := 30) C (dall tdX1_hasRange 7 rfl) (by decide) (fun c3 => ?_) (fun c3 => ?_)
      · have h := (if_pos c3).symm.trans h
        refine r_iconst (v := 0) C (dall tdX1_hasRange 16 rfl) (by decide) ?_
        exact r_zret C (by decide) hR (dall tdX1_hasRange 17 rfl) (by subst h; exact ⟨rfl, rfl⟩)
      · have h := (if_neg c3).symm.trans h
        refine r_iload_n C 1 (dall tdX1_hasRange 8 rfl) rfl ?_
        refine r_aload_n C 0 (dall tdX1_hasRange 9 rfl) rfl ?_
        refine r_get C 0 kw_X1 rfl rfl (by decide) kf_X1_19 rfl rfl (dall tdX1_hasRange 10 rfl) ?_
        refine r_iload_n C 2 (dall tdX1_hasRange 11 rfl) rfl ?_
        refine r_isub C (dall tdX1_hasRange 12 rfl) ?_
        refine r_icmp_gt (tgt := 30) C (dall tdX1_hasRange 13 rfl) (by decide) (fun c4 => ?_) (fun c4 => ?_)
        · have h := (if_pos c4).symm.trans h
          refine r_iconst (v := 0) C (dall tdX1_hasRange 16 rfl) (by decide) ?_
          exact r_zret C (by decide) hR (dall tdX1_hasRange 17 rfl) (by subst h; exact ⟨rfl, rfl⟩)
        · have h := (if_neg c4).symm.trans h
          refine r_iconst (v := 1) C (dall tdX1_hasRange 14 rfl) (by decide) ?_
          refine r_goto (tgt := 31) C (dall tdX1_hasRange 15 rfl) (by decide) ?_
          exact r_zret C (by decide) hR (dall tdX1_hasRange 17 rfl) (by subst h; exact ⟨rfl, rfl⟩)
def fX1_hasRange (σ : OS) (a1_ : Int32) (a2_ : Int32) : Int32 := pX1_hasRange_0  σ a1_ a2_
set_option maxRecDepth 100000 in
theorem zX1_hasRange (cy : Nat → ClassId) (q : Nat → Nat)  {D : va_G} (σ : OS) (a1_ : Int32) (a2_ : Int32)  : Con yX1_hasRange cX1_hasRange 3 (some .boolean) 0 0 0 D (gty cy) [.ref (q 3), .int a1_, .int a2_] (wX1 cy q σ) (eI (wX1 cy q σ) (fX1_hasRange σ a1_ a2_)) :=
  Con.of (own := RX1) (by decide +kernel) rfl (Nat.le_of_ble_eq_true rfl) (Nat.zero_le _) (fun X A C hR _ => (wX1_hasRange_0 σ a1_ a2_ C hR  rfl))
theorem mv_X1_hasRange : MV yX1_hasRange cX1_hasRange 3 (some .boolean) RX1 2 := ⟨ki_X1_hasRange, kv_X1_hasRange, kn_X1, kc_X1_hasRange, by decide +kernel⟩

abbrev fX0 (q : Nat → Nat) (σ : OS) : List Value := [.int (σ.1 0), .ref (q 1), .ref (q 2), .ref (q 3), .int (σ.1 4), .int (σ.1 5), .int (σ.1 6), .int (σ.1 7), .int (σ.1 8), .int (σ.1 9), .int (σ.1 10)]
def wX0 (cy : Nat → ClassId) (q : Nat → Nat) (σ : OS) : va_W := (q 11, .inr (0, fX0 q σ)) :: (q 1, .inl (cy 0, 160, .inl (σ.2.2.1 1))) :: (q 2, .inl (cy 0, 160, .inl (σ.2.2.1 2))) :: (q 3, .inl (cy 0, 3, .inl (σ.2.2.1 3))) :: []
theorem pu_X0_this_0 (cy : Nat → ClassId) (q : Nat → Nat) (σ : OS) (v : Int32) : (wX0 cy q σ).set 0 (q 11, .inr (0, (fX0 q σ).set 0 (.int v))) = wX0 cy q (oI σ 0 v) := rfl
theorem pu_X0_this_4 (cy : Nat → ClassId) (q : Nat → Nat) (σ : OS) (v : Int32) : (wX0 cy q σ).set 0 (q 11, .inr (0, (fX0 q σ).set 4 (.int v))) = wX0 cy q (oI σ 4 v) := rfl
theorem pu_X0_this_5 (cy : Nat → ClassId) (q : Nat → Nat) (σ : OS) (v : Int32) : (wX0 cy q σ).set 0 (q 11, .inr (0, (fX0 q σ).set 5 (.int v))) = wX0 cy q (oI σ 5 v) := rfl
theorem pu_X0_this_6 (cy : Nat → ClassId) (q : Nat → Nat) (σ : OS) (v : Int32) : (wX0 cy q σ).set 0 (q 11, .inr (0, (fX0 q σ).set 6 (.int v))) = wX0 cy q (oI σ 6 v) := rfl
theorem pu_X0_this_7 (cy : Nat → ClassId) (q : Nat → Nat) (σ : OS) (v : Int32) : (wX0 cy q σ).set 0 (q 11, .inr (0, (fX0 q σ).set 7 (.int v))) = wX0 cy q (oI σ 7 v) := rfl
theorem pu_X0_this_8 (cy : Nat → ClassId) (q : Nat → Nat) (σ : OS) (v : Int32) : (wX0 cy q σ).set 0 (q 11, .inr (0, (fX0 q σ).set 8 (.int v))) = wX0 cy q (oI σ 8 v) := rfl
theorem pu_X0_this_9 (cy : Nat → ClassId) (q : Nat → Nat) (σ : OS) (v : Int32) : (wX0 cy q σ).set 0 (q 11, .inr (0, (fX0 q σ).set 9 (.int v))) = wX0 cy q (oI σ 9 v) := rfl
theorem pu_X0_this_10 (cy : Nat → ClassId) (q : Nat → Nat) (σ : OS) (v : Int32) : (wX0 cy q σ).set 0 (q 11, .inr (0, (fX0 q σ).set 10 (.int v))) = wX0 cy q (oI σ 10 v) := rfl
theorem pa_X0_this_1 (cy : Nat → ClassId) (q : Nat → Nat) (σ : OS) (i : Nat) (x : Int32) : (wX0 cy q σ).set 1 (q 1, .inl (cy 0, 160, .inl (upd (σ.2.2.1 1) i x))) = wX0 cy q (oS σ 1 i x) := rfl
theorem pa_X0_this_2 (cy : Nat → ClassId) (q : Nat → Nat) (σ : OS) (i : Nat) (x : Int32) : (wX0 cy q σ).set 2 (q 2, .inl (cy 0, 160, .inl (upd (σ.2.2.1 2) i x))) = wX0 cy q (oS σ 2 i x) := rfl
theorem pa_X0_this_3 (cy : Nat → ClassId) (q : Nat → Nat) (σ : OS) (i : Nat) (x : Int32) : (wX0 cy q σ).set 3 (q 3, .inl (cy 0, 3, .inl (upd (σ.2.2.1 3) i x))) = wX0 cy q (oS σ 3 i x) := rfl
def tbX0_hasRoom : List (Nat × Instr × Nat) := [(0, .aload_n 0, 1), (1, .getfield 21, 3), (4, .sipush 160, 3), (7, .if_icmp .ge 7, 3), (10, .iconst 1, 1), (11, .goto 4, 3), (14, .iconst 0, 1), (15, .ireturn, 1)]
theorem tdX0_hasRoom : tbX0_hasRoom.all (fun q => decide (decode cX0_hasRoom q.1 = .ok q.2)) = true := by decide +kernel
def pX0_hasRoom_0  (σ : OS) : Int32 := if 160 ≤ (σ.1 0) then 0 else 1
set_option maxHeartbeats 4000000 in
set_option maxRecDepth 100000 in
theorem wX0_hasRoom_0 {X : CX} {cy : Nat → ClassId} {q : Nat → Nat} {D : va_G} {A : Nat → Prop} {res : Int32} (σ : OS) (C : Cx X cX0_hasRoom RX0 1 D (gty cy) A 0 0 0) (hR : Rt X (some .boolean) D (gty cy) A 0 0 (eI (wX0 cy q σ) res))  (h : pX0_hasRoom_0  σ = res) : At X D A 1 0 0 0 [(0, .ref (q 11))] [] (wX0 cy q σ) := by
  unfold pX0_hasRoom_0 at h
  refine r_aload_n C 0 (dall tdX0_hasRoom 0 rfl) rfl ?_
  refine r_get C 0 kw_X0 rfl rfl (by decide) kf_X0_21 rfl rfl (dall tdX0_hasRoom 1 rfl) ?_
  refine r_sipush (v := 160) C (dall tdX0_hasRoom 2 rfl) (by decide) ?_
  refine r_icmp_ge (tgt := 14) C (dall tdX0_hasRoom 3 rfl) (by decide) (fun c1 => ?_) (fun c1 => ?_)
  · have h := (if_pos c1).symm.trans h
    refine r_iconst (v := 0) C (dall tdX0_hasRoom 6 rfl) (by decide) ?_
    exact r_zret C (by decide) hR (dall tdX0_hasRoom 7 rfl) (by subst h; exact ⟨rfl, rfl⟩)
  · have h := (if_neg c1).symm.trans h
    refine r_iconst (v := 1) C (dall tdX0_hasRoom 4 rfl) (by decide) ?_
    refine r_goto (tgt := 15) C (dall tdX0_hasRoom 5 rfl) (by decide) ?_
    exact r_zret C (by decide) hR (dall tdX0_hasRoom 7 rfl) (by subst h; exact ⟨rfl, rfl⟩)
def fX0_hasRoom (σ : OS) : Int32 := pX0_hasRoom_0  σ
set_option maxRecDepth 100000 in
theorem zX0_hasRoom (cy : Nat → ClassId) (q : Nat → Nat)  {D : va_G} (σ : OS)  : Con yX0_hasRoom cX0_hasRoom 1 (some .boolean) 0 0 0 D (gty cy) [.ref (q 11)] (wX0 cy q σ) (eI (wX0 cy q σ) (fX0_hasRoom σ )) :=
  Con.of (own := RX0) (by decide +kernel) rfl (Nat.le_of_ble_eq_true rfl) (Nat.zero_le _) (fun X A C hR _ => (wX0_hasRoom_0 σ C hR  rfl))
theorem mv_X0_hasRoom : MV yX0_hasRoom cX0_hasRoom 1 (some .boolean) RX0 0 := ⟨ki_X0_hasRoom, kv_X0_hasRoom, kn_X0, kc_X0_hasRoom, by decide +kernel⟩
def tbX0_take : List (Nat × Instr × Nat) := [(0, .aload_n 0, 1), (1, .getfield 9, 3), (4, .aload_n 0, 1), (5, .getfield 21, 3), (8, .iload_n 1, 1), (9, .iastore, 1), (10, .aload_n 0, 1), (11, .dup, 1), (12, .getfield 21, 3), (15, .iconst 1, 1), (16, .iadd, 1), (17, .putfield 21, 3), (20, .aload_n 0, 1), (21, .getfield 21, 3), (24, .ireturn, 1)]
theorem tdX0_take : tbX0_take.all (fun q => decide (decode cX0_take q.1 = .ok q.2)) = true := by decide +kernel
def pX0_take_0  (σ : OS) (a1_ : Int32) : Int32 × OS := ((oI (oS σ 1 ((σ.1 0).toNatClampNeg) a1_) 0 (((oS σ 1 ((σ.1 0).toNatClampNeg) a1_).1 0) + 1)).1 0, oI (oS σ 1 ((σ.1 0).toNatClampNeg) a1_) 0 (((oS σ 1 ((σ.1 0).toNatClampNeg) a1_).1 0) + 1))
def oX0_take_0  (σ : OS) (a1_ : Int32) : Prop := vp_in (σ.1 0) 160
set_option maxHeartbeats 4000000 in
set_option maxRecDepth 100000 in
theorem wX0_take_0 {X : CX} {cy : Nat → ClassId} {q : Nat → Nat} {D : va_G} {A : Nat → Prop} {res : Int32 × OS} (σ : OS) (a1_ : Int32) (C : Cx X cX0_take RX0 2 D (gty cy) A 0 0 0) (hR : Rt X (some .int) D (gty cy) A 0 0 (eI (wX0 cy q res.2) res.1))  (ok : oX0_take_0  σ a1_) (h : pX0_take_0  σ a1_ = res) : At X D A 2 0 0 0 [(0, .ref (q 11)), (1, .int a1_)] [] (wX0 cy q σ) := by
  unfold pX0_take_0 at h
  unfold oX0_take_0 at ok
  refine r_aload_n C 0 (dall tdX0_take 0 rfl) rfl ?_
  refine r_get C 0 kw_X0 rfl rfl (by decide) kf_X0_9 rfl rfl (dall tdX0_take 1 rfl) ?_
  refine r_aload_n C 0 (dall tdX0_take 2 rfl) rfl ?_
  refine r_get C 0 kw_X0 rfl rfl (by decide) kf_X0_21 rfl rfl (dall tdX0_take 3 rfl) ?_
  refine r_iload_n C 1 (dall tdX0_take 4 rfl) rfl ?_
  have o1 := ok
  refine r_iast C 1 0 rfl rfl o1 (pa_X0_this_1 cy q σ ((σ.1 0).toNatClampNeg) a1_) (dall tdX0_take 5 rfl) ?_
  refine r_aload_n C 0 (dall tdX0_take 6 rfl) rfl ?_
  refine r_dup C (dall tdX0_take 7 rfl) rfl ?_
  refine r_get C 0 kw_X0 rfl rfl (by decide) kf_X0_21 rfl rfl (dall tdX0_take 8 rfl) ?_
  refine r_iconst (v := 1) C (dall tdX0_take 9 rfl) (by decide) ?_
  refine r_iadd C (dall tdX0_take 10 rfl) ?_
  refine r_put C 0 kw_X0 tyX0_ok nmX0 rfl rfl (by decide) kf_X0_21 rfl rfl rfl rfl rfl (Nat.le_of_ble_eq_true rfl) (pu_X0_this_0 cy q (oS σ 1 ((σ.1 0).toNatClampNeg) a1_) (((oS σ 1 ((σ.1 0).toNatClampNeg) a1_).1 0) + 1)) (dall tdX0_take 11 rfl) ?_
  refine r_aload_n C 0 (dall tdX0_take 12 rfl) rfl ?_
  refine r_get C 0 kw_X0 rfl rfl (by decide) kf_X0_21 rfl rfl (dall tdX0_take 13 rfl) ?_
  exact r_iret C hR (dall tdX0_take 14 rfl) (by subst h; exact ⟨rfl, rfl⟩)
def fX0_take (σ : OS) (a1_ : Int32) : Int32 × OS := pX0_take_0  σ a1_
def gX0_take (σ : OS) (a1_ : Int32) : Prop := oX0_take_0  σ a1_
set_option maxRecDepth 100000 in
theorem zX0_take (cy : Nat → ClassId) (q : Nat → Nat)  {D : va_G} (σ : OS) (a1_ : Int32) (ok : gX0_take σ a1_)  : Con yX0_take cX0_take 2 (some .int) 0 0 0 D (gty cy) [.ref (q 11), .int a1_] (wX0 cy q σ) (eI (wX0 cy q (fX0_take σ a1_).2) (fX0_take σ a1_).1) :=
  Con.of (own := RX0) (by decide +kernel) rfl (Nat.le_of_ble_eq_true rfl) (Nat.zero_le _) (fun X A C hR _ => (wX0_take_0 σ a1_ C hR  ok rfl))
theorem mv_X0_take : MV yX0_take cX0_take 2 (some .int) RX0 1 := ⟨ki_X0_take, kv_X0_take, kn_X0, kc_X0_take, by decide +kernel⟩
def tbX0_spells : List (Nat × Instr × Nat) := [(0, .iload_n 3, 1), (1, .iload_n 2, 1), (2, .isub, 1), (3, .bipush 6, 2), (5, .if_icmp .le 5, 3), (8, .iconst 0, 1), (9, .ireturn, 1), (10, .iconst 0, 1), (11, .istore 4, 2), (13, .iload 4, 2), (15, .bipush 6, 2), (17, .if_icmp .ge 52, 3), (20, .iload_n 2, 1), (21, .iload 4, 2), (23, .iadd, 1), (24, .iload_n 3, 1), (25, .if_icmp .ge 15, 3), (28, .aload_n 0, 1), (29, .getfield 9, 3), (32, .iload_n 2, 1), (33, .iload 4, 2), (35, .iadd, 1), (36, .iaload, 1), (37, .goto 5, 3), (40, .bipush 32, 2), (42, .istore 5, 2), (44, .iload 5, 2), (46, .ldc 124, 2), (48, .bipush 6, 2), (50, .iload_n 1, 1), (51, .imul, 1), (52, .iload 4, 2), (54, .iadd, 1), (55, .invokevirtual 126, 3), (58, .if_icmp .eq 5, 3), (61, .iconst 0, 1), (62, .ireturn, 1), (63, .iinc 4 1, 3), (66, .goto (-53), 3), (69, .iconst 1, 1), (70, .ireturn, 1)]
theorem tdX0_spells : tbX0_spells.all (fun q => decide (decode cX0_spells q.1 = .ok q.2)) = true := by decide +kernel
def pX0_spells_42 (kR13 : Int32 → Int32) (σ : OS) (a1_ : Int32) (a2_ : Int32) (a3_ : Int32) (a4_ : Int32) (b0_ : Int32) : Int32 := if b0_ = (fJ0_charAt_5068e_s0 ((6 * a1_) + a4_)) then kR13 (a4_ + 1) else 0
def oX0_spells_42 (kO13 : Int32 → Prop) (σ : OS) (a1_ : Int32) (a2_ : Int32) (a3_ : Int32) (a4_ : Int32) (b0_ : Int32) : Prop := (gJ0_charAt_5068e_s0 ((6 * a1_) + a4_)) ∧ ((b0_ = (fJ0_charAt_5068e_s0 ((6 * a1_) + a4_)) → kO13 (a4_ + 1)) ∧ (¬ (b0_ = (fJ0_charAt_5068e_s0 ((6 * a1_) + a4_))) → True))
set_option maxHeartbeats 4000000 in
set_option maxRecDepth 100000 in
theorem wX0_spells_42 {X : CX} {cy : Nat → ClassId} {q : Nat → Nat} {D : va_G} {A : Nat → Prop} {res : Int32} (σ : OS) (a1_ : Int32) (a2_ : Int32) (a3_ : Int32) (a4_ : Int32) (b0_ : Int32) (C : Cx X cX0_spells RX0 6 D (gty cy) A 4 0 0) (hR : Rt X (some .boolean) D (gty cy) A 0 0 (eI (wX0 cy q σ) res)) (kR13 : Int32 → Int32) (kO13 : Int32 → Prop) (hk13 : ∀ z, kO13 z → kR13 z = res → At X D A 6 0 0 13 [(0, .ref (q 11)), (1, .int a1_), (2, .int a2_), (3, .int a3_), (4, .int z)] [] (wX0 cy q σ)) (ok : oX0_spells_42 kO13 σ a1_ a2_ a3_ a4_ b0_) (h : pX0_spells_42 kR13 σ a1_ a2_ a3_ a4_ b0_ = res) : At X D A 6 0 0 42 [(0, .ref (q 11)), (1, .int a1_), (2, .int a2_), (3, .int a3_), (4, .int a4_)] [.int b0_] (wX0 cy q σ) := by
  unfold pX0_spells_42 at h
  unfold oX0_spells_42 at ok
  refine r_istore (lv' := [(5, .int b0_), (0, .ref (q 11)), (1, .int a1_), (2, .int a2_), (3, .int a3_), (4, .int a4_)]) C (dall tdX0_spells 25 rfl) (by decide) rfl ?_
  refine r_iload C 0 (dall tdX0_spells 26 rfl) rfl ?_
  refine r_ldcS0 C (dall tdX0_spells 27 rfl) ?_
  refine r_bipush (v := 6) C (dall tdX0_spells 28 rfl) (by decide) ?_
  refine r_iload_n C 2 (dall tdX0_spells 29 rfl) rfl ?_
  refine r_imul C (dall tdX0_spells 30 rfl) ?_
  refine r_iload C 5 (dall tdX0_spells 31 rfl) rfl ?_
  refine r_iadd C (dall tdX0_spells 32 rfl) ?_
  obtain ⟨o1, ok⟩ := ok
  refine r_strI (as := [.int ((6 * a1_) + a4_)]) C 0 (by decide) (zJ0_charAt_5068e_s0 ((6 * a1_) + a4_) o1) mv_J0_charAt_5068e_s0 km_X0_126 (by decide) (by decide) ⟨Nat.le_refl _, Nat.le_refl _⟩ rfl rfl (Nat.le_of_ble_eq_true rfl) (dall tdX0_spells 33 rfl) ?_
  refine r_icmp_eq (tgt := 63) C (dall tdX0_spells 34 rfl) (by decide) (fun c2 => ?_) (fun c2 => ?_)
  · have h := (if_pos c2).symm.trans h
    have ok := ok.1 c2
    refine r_iinc (v := a4_ + 1) (lv' := [(4, .int (a4_ + 1)), (5, .int b0_), (0, .ref (q 11)), (1, .int a1_), (2, .int a2_), (3, .int a3_)]) C 5 (dall tdX0_spells 37 rfl) rfl rfl (by decide) rfl ?_
    refine r_goto (tgt := 13) C (dall tdX0_spells 38 rfl) (by decide) ?_
    refine r_pick [2, 3, 4, 5, 0] rfl ?_
    exact hk13 (a4_ + 1) ok h
  · have h := (if_neg c2).symm.trans h
    have ok := ok.2 c2
    refine r_iconst (v := 0) C (dall tdX0_spells 35 rfl) (by decide) ?_
    exact r_zret C (by decide) hR (dall tdX0_spells 36 rfl) (by subst h; exact ⟨rfl, rfl⟩)
def bX0_spells_13 (σ : OS) (a1_ : Int32) (a2_ : Int32) (a3_ : Int32)  (kR13 : Int32 → Int32) (v : Int32) : Int32 := if 6 ≤ v then 1 else if a3_ ≤ (a2_ + v) then pX0_spells_42 kR13 σ a1_ a2_ a3_ v 32 else pX0_spells_42 kR13 σ a1_ a2_ a3_ v (σ.2.2.1 1 (a2_ + v).toNatClampNeg)
def kX0_spells_13 (σ : OS) (a1_ : Int32) (a2_ : Int32) (a3_ : Int32)  (kO13 : Int32 → Prop) (v : Int32) : Prop := (6 ≤ v → True) ∧ (¬ (6 ≤ v) → (a3_ ≤ (a2_ + v) → oX0_spells_42 kO13 σ a1_ a2_ a3_ v 32) ∧ (¬ (a3_ ≤ (a2_ + v)) → (vp_in (a2_ + v) 160) ∧ (oX0_spells_42 kO13 σ a1_ a2_ a3_ v (σ.2.2.1 1 (a2_ + v).toNatClampNeg))))
set_option maxHeartbeats 4000000 in
set_option maxRecDepth 100000 in
theorem wX0_spells_13 {X : CX} {cy : Nat → ClassId} {q : Nat → Nat} {D : va_G} {A : Nat → Prop} {res : Int32} (σ : OS) (a1_ : Int32) (a2_ : Int32) (a3_ : Int32) (C : Cx X cX0_spells RX0 6 D (gty cy) A 4 0 0) (hR : Rt X (some .boolean) D (gty cy) A 0 0 (eI (wX0 cy q σ) res)) (kR13 : Int32 → Int32) (kO13 : Int32 → Prop) (hk13 : ∀ z, kO13 z → kR13 z = res → At X D A 6 0 0 13 [(0, .ref (q 11)), (1, .int a1_), (2, .int a2_), (3, .int a3_), (4, .int z)] [] (wX0 cy q σ)) (v : Int32) (ok : kX0_spells_13 σ a1_ a2_ a3_ kO13 v) (h : bX0_spells_13 σ a1_ a2_ a3_ kR13 v = res) : At X D A 6 0 0 13 [(0, .ref (q 11)), (1, .int a1_), (2, .int a2_), (3, .int a3_), (4, .int v)] [] (wX0 cy q σ) := by
  unfold bX0_spells_13 at h
  unfold kX0_spells_13 at ok
  refine r_iload C 4 (dall tdX0_spells 9 rfl) rfl ?_
  refine r_bipush (v := 6) C (dall tdX0_spells 10 rfl) (by decide) ?_
  refine r_icmp_ge (tgt := 69) C (dall tdX0_spells 11 rfl) (by decide) (fun c3 => ?_) (fun c3 => ?_)
  · have h := (if_pos c3).symm.trans h
    have ok := ok.1 c3
    refine r_iconst (v := 1) C (dall tdX0_spells 39 rfl) (by decide) ?_
    exact r_zret C (by decide) hR (dall tdX0_spells 40 rfl) (by subst h; exact ⟨rfl, rfl⟩)
  · have h := (if_neg c3).symm.trans h
    have ok := ok.2 c3
    refine r_iload_n C 2 (dall tdX0_spells 12 rfl) rfl ?_
    refine r_iload C 4 (dall tdX0_spells 13 rfl) rfl ?_
    refine r_iadd C (dall tdX0_spells 14 rfl) ?_
    refine r_iload_n C 3 (dall tdX0_spells 15 rfl) rfl ?_
    refine r_icmp_ge (tgt := 40) C (dall tdX0_spells 16 rfl) (by decide) (fun c4 => ?_) (fun c4 => ?_)
    · have h := (if_pos c4).symm.trans h
      have ok := ok.1 c4
      refine r_bipush (v := 32) C (dall tdX0_spells 24 rfl) (by decide) ?_
      exact wX0_spells_42 σ a1_ a2_ a3_ v 32 C hR kR13 kO13 hk13 ok h
    · have h := (if_neg c4).symm.trans h
      have ok := ok.2 c4
      refine r_aload_n C 0 (dall tdX0_spells 17 rfl) rfl ?_
      refine r_get C 0 kw_X0 rfl rfl (by decide) kf_X0_9 rfl rfl (dall tdX0_spells 18 rfl) ?_
      refine r_iload_n C 2 (dall tdX0_spells 19 rfl) rfl ?_
      refine r_iload C 4 (dall tdX0_spells 20 rfl) rfl ?_
      refine r_iadd C (dall tdX0_spells 21 rfl) ?_
      obtain ⟨o5, ok⟩ := ok
      refine r_iald C 1 0 rfl rfl o5 (dall tdX0_spells 22 rfl) ?_
      refine r_goto (tgt := 42) C (dall tdX0_spells 23 rfl) (by decide) ?_
      exact wX0_spells_42 σ a1_ a2_ a3_ v (σ.2.2.1 1 (a2_ + v).toNatClampNeg) C hR kR13 kO13 hk13 ok h
set_option maxHeartbeats 4000000 in
set_option maxRecDepth 100000 in
theorem lX0_spells_13 {X : CX} {cy : Nat → ClassId} {q : Nat → Nat} {D : va_G} {A : Nat → Prop} {res : Int32} (σ : OS) (a1_ : Int32) (a2_ : Int32) (a3_ : Int32) (C : Cx X cX0_spells RX0 6 D (gty cy) A 4 0 0) (hR : Rt X (some .boolean) D (gty cy) A 0 0 (eI (wX0 cy q σ) res))  (n : Nat) (v : Int32) (ok : lpOk (kX0_spells_13 σ a1_ a2_ a3_ ) n v) (h : lp 0 (bX0_spells_13 σ a1_ a2_ a3_ ) n v = res) : At X D A 6 0 0 13 [(0, .ref (q 11)), (1, .int a1_), (2, .int a2_), (3, .int a3_), (4, .int v)] [] (wX0 cy q σ) :=
  lp_rule (fun v rr_ => rr_ = res → At X D A 6 0 0 13 [(0, .ref (q 11)), (1, .int a1_), (2, .int a2_), (3, .int a3_), (4, .int v)] [] (wX0 cy q σ)) (fun kR kO hk v ok h => wX0_spells_13 σ a1_ a2_ a3_ C hR  kR kO hk v ok h) n v ok h
def pX0_spells_0  (σ : OS) (a1_ : Int32) (a2_ : Int32) (a3_ : Int32) : Int32 := if (a3_ - a2_) ≤ 6 then lp 0 (bX0_spells_13 σ a1_ a2_ a3_ ) fu 0 else 0
def oX0_spells_0  (σ : OS) (a1_ : Int32) (a2_ : Int32) (a3_ : Int32) : Prop := ((a3_ - a2_) ≤ 6 → lpOk (kX0_spells_13 σ a1_ a2_ a3_ ) fu 0) ∧ (¬ ((a3_ - a2_) ≤ 6) → True)
set_option maxHeartbeats 4000000 in
set_option maxRecDepth 100000 in
theorem wX0_spells_0 {X : CX} {cy : Nat → ClassId} {q : Nat → Nat} {D : va_G} {A : Nat → Prop} {res : Int32} (σ : OS) (a1_ : Int32) (a2_ : Int32) (a3_ : Int32) (C : Cx X cX0_spells RX0 6 D (gty cy) A 4 0 0) (hR : Rt X (some .boolean) D (gty cy) A 0 0 (eI (wX0 cy q σ) res))  (ok : oX0_spells_0  σ a1_ a2_ a3_) (h : pX0_spells_0  σ a1_ a2_ a3_ = res) : At X D A 6 0 0 0 [(0, .ref (q 11)), (1, .int a1_), (2, .int a2_), (3, .int a3_)] [] (wX0 cy q σ) := by
  unfold pX0_spells_0 at h
  unfold oX0_spells_0 at ok
  refine r_iload_n C 3 (dall tdX0_spells 0 rfl) rfl ?_
  refine r_iload_n C 2 (dall tdX0_spells 1 rfl) rfl ?_
  refine r_isub C (dall tdX0_spells 2 rfl) ?_
  refine r_bipush (v := 6) C (dall tdX0_spells 3 rfl) (by decide) ?_
  refine r_icmp_le (tgt := 10) C (dall tdX0_spells 4 rfl) (by decide) (fun c6 => ?_) (fun c6 => ?_)
  · have h := (if_pos c6).symm.trans h
    have ok := ok.1 c6
    refine r_iconst (v := 0) C (dall tdX0_spells 7 rfl) (by decide) ?_
    refine r_istore (lv' := [(4, .int 0), (0, .ref (q 11)), (1, .int a1_), (2, .int a2_), (3, .int a3_)]) C (dall tdX0_spells 8 rfl) (by decide) rfl ?_
    refine r_pick [1, 2, 3, 4, 0] rfl ?_
    exact lX0_spells_13 σ a1_ a2_ a3_ C hR  fu _ ok h
  · have h := (if_neg c6).symm.trans h
    have ok := ok.2 c6
    refine r_iconst (v := 0) C (dall tdX0_spells 5 rfl) (by decide) ?_
    exact r_zret C (by decide) hR (dall tdX0_spells 6 rfl) (by subst h; exact ⟨rfl, rfl⟩)
def fX0_spells (σ : OS) (a1_ : Int32) (a2_ : Int32) (a3_ : Int32) : Int32 := pX0_spells_0  σ a1_ a2_ a3_
def gX0_spells (σ : OS) (a1_ : Int32) (a2_ : Int32) (a3_ : Int32) : Prop := oX0_spells_0  σ a1_ a2_ a3_
set_option maxRecDepth 100000 in
theorem zX0_spells (cy : Nat → ClassId) (q : Nat → Nat)  {D : va_G} (σ : OS) (a1_ : Int32) (a2_ : Int32) (a3_ : Int32) (ok : gX0_spells σ a1_ a2_ a3_)  : Con yX0_spells cX0_spells 6 (some .boolean) 4 0 0 D (gty cy) [.ref (q 11), .int a1_, .int a2_, .int a3_] (wX0 cy q σ) (eI (wX0 cy q σ) (fX0_spells σ a1_ a2_ a3_)) :=
  Con.of (own := RX0) (by decide +kernel) rfl (Nat.le_of_ble_eq_true rfl) (Nat.zero_le _) (fun X A C hR _ => (wX0_spells_0 σ a1_ a2_ a3_ C hR  ok rfl))
theorem mv_X0_spells : MV yX0_spells cX0_spells 6 (some .boolean) RX0 3 := ⟨ki_X0_spells, kv_X0_spells, kn_X0, kc_X0_spells, by decide +kernel⟩
def tbX0_wordToken : List (Nat × Instr × Nat) := [(0, .iconst 0, 1), (1, .istore_n 1, 1), (2, .iload_n 1, 1), (3, .sipush 160, 3), (6, .if_icmp .ge 45, 3), (9, .aload_n 0, 1), (10, .getfield 28, 3), (13, .aload_n 0, 1), (14, .getfield 21, 3), (17, .if_icmp .ge 34, 3), (20, .aload_n 0, 1), (21, .getfield 9, 3), (24, .aload_n 0, 1), (25, .getfield 28, 3), (28, .iaload, 1), (29, .invokestatic 99, 3), (32, .ifCond .eq 19, 3), (35, .aload_n 0, 1), (36, .dup, 1), (37, .getfield 28, 3), (40, .iconst 1, 1), (41, .iadd, 1), (42, .putfield 28, 3), (45, .iinc 1 1, 3), (48, .goto (-46), 3), (51, .iconst 0, 1), (52, .istore_n 1, 1), (53, .iload_n 1, 1), (54, .bipush 12, 2), (56, .if_icmp .ge 27, 3), (59, .aload_n 0, 1), (60, .iload_n 1, 1), (61, .aload_n 0, 1), (62, .getfield 93, 3), (65, .aload_n 0, 1), (66, .getfield 28, 3), (69, .invokevirtual 120, 3), (72, .ifCond .eq 5, 3), (75, .iload_n 1, 1), (76, .ireturn, 1), (77, .iinc 1 1, 3), (80, .goto (-27), 3), (83, .bipush 22, 2), (85, .ireturn, 1)]
theorem tdX0_wordToken : tbX0_wordToken.all (fun q => decide (decode cX0_wordToken q.1 = .ok q.2)) = true := by decide +kernel
def bX0_wordToken_53 (σ : OS)  (kR53 : Int32 → Int32 × OS) (v : Int32) : Int32 × OS := if 12 ≤ v then (22, σ) else if (fX0_spells σ v (σ.1 7) (σ.1 5)) = 0 then kR53 (v + 1) else (v, σ)
def kX0_wordToken_53 (σ : OS)  (kO53 : Int32 → Prop) (v : Int32) : Prop := (12 ≤ v → True) ∧ (¬ (12 ≤ v) → (gX0_spells σ v (σ.1 7) (σ.1 5)) ∧ (((fX0_spells σ v (σ.1 7) (σ.1 5)) = 0 → kO53 (v + 1)) ∧ (¬ ((fX0_spells σ v (σ.1 7) (σ.1 5)) = 0) → True)))
set_option maxHeartbeats 4000000 in
set_option maxRecDepth 100000 in
theorem wX0_wordToken_53 {X : CX} {cy : Nat → ClassId} {q : Nat → Nat} {D : va_G} {A : Nat → Prop} {res : Int32 × OS} (σ : OS) (C : Cx X cX0_wordToken RX0 2 D (gty cy) A 5 0 0) (hR : Rt X (some .int) D (gty cy) A 0 0 (eI (wX0 cy q res.2) res.1)) (kR53 : Int32 → Int32 × OS) (kO53 : Int32 → Prop) (hk53 : ∀ z, kO53 z → kR53 z = res → At X D A 2 0 0 53 [(0, .ref (q 11)), (1, .int z)] [] (wX0 cy q σ)) (v : Int32) (ok : kX0_wordToken_53 σ kO53 v) (h : bX0_wordToken_53 σ kR53 v = res) : At X D A 2 0 0 53 [(0, .ref (q 11)), (1, .int v)] [] (wX0 cy q σ) := by
  unfold bX0_wordToken_53 at h
  unfold kX0_wordToken_53 at ok
  refine r_iload_n C 1 (dall tdX0_wordToken 27 rfl) rfl ?_
  refine r_bipush (v := 12) C (dall tdX0_wordToken 28 rfl) (by decide) ?_
  refine r_icmp_ge (tgt := 83) C (dall tdX0_wordToken 29 rfl) (by decide) (fun c1 => ?_) (fun c1 => ?_)
  · have h := (if_pos c1).symm.trans h
    have ok := ok.1 c1
    refine r_bipush (v := 22) C (dall tdX0_wordToken 42 rfl) (by decide) ?_
    exact r_iret C hR (dall tdX0_wordToken 43 rfl) (by subst h; exact ⟨rfl, rfl⟩)
  · have h := (if_neg c1).symm.trans h
    have ok := ok.2 c1
    refine r_aload_n C 0 (dall tdX0_wordToken 30 rfl) rfl ?_
    refine r_iload_n C 1 (dall tdX0_wordToken 31 rfl) rfl ?_
    refine r_aload_n C 0 (dall tdX0_wordToken 32 rfl) rfl ?_
    refine r_get C 0 kw_X0 rfl rfl (by decide) kf_X0_93 rfl rfl (dall tdX0_wordToken 33 rfl) ?_
    refine r_aload_n C 0 (dall tdX0_wordToken 34 rfl) rfl ?_
    refine r_get C 0 kw_X0 rfl rfl (by decide) kf_X0_28 rfl rfl (dall tdX0_wordToken 35 rfl) ?_
    obtain ⟨o2, ok⟩ := ok
    refine r_vI (as := [.int v, .int (σ.1 7), .int (σ.1 5)]) C (zX0_spells cy q σ v (σ.1 7) (σ.1 5) o2) mv_X0_spells km_X0_120 (by decide) (by decide) ⟨Nat.le_refl _, Nat.le_refl _⟩ rfl rfl rfl rfl (Nat.le_of_ble_eq_true rfl) (dall tdX0_wordToken 36 rfl) ?_
    refine r_if_eq (tgt := 77) C (dall tdX0_wordToken 37 rfl) (by decide) (fun c3 => ?_) (fun c3 => ?_)
    · have h := (if_pos c3).symm.trans h
      have ok := ok.1 c3
      refine r_iinc (v := v + 1) (lv' := [(1, .int (v + 1)), (0, .ref (q 11))]) C 1 (dall tdX0_wordToken 40 rfl) rfl rfl (by decide) rfl ?_
      refine r_goto (tgt := 53) C (dall tdX0_wordToken 41 rfl) (by decide) ?_
      refine r_pick [1, 0] rfl ?_
      exact hk53 (v + 1) ok h
    · have h := (if_neg c3).symm.trans h
      have ok := ok.2 c3
      refine r_iload_n C 1 (dall tdX0_wordToken 38 rfl) rfl ?_
      exact r_iret C hR (dall tdX0_wordToken 39 rfl) (by subst h; exact ⟨rfl, rfl⟩)
set_option maxHeartbeats 4000000 in
set_option maxRecDepth 100000 in
theorem lX0_wordToken_53 {X : CX} {cy : Nat → ClassId} {q : Nat → Nat} {D : va_G} {A : Nat → Prop} {res : Int32 × OS} (σ : OS) (C : Cx X cX0_wordToken RX0 2 D (gty cy) A 5 0 0) (hR : Rt X (some .int) D (gty cy) A 0 0 (eI (wX0 cy q res.2) res.1))  (n : Nat) (v : Int32) (ok : lpOk (kX0_wordToken_53 σ ) n v) (h : lp (0, o0) (bX0_wordToken_53 σ ) n v = res) : At X D A 2 0 0 53 [(0, .ref (q 11)), (1, .int v)] [] (wX0 cy q σ) :=
  lp_rule (fun v rr_ => rr_ = res → At X D A 2 0 0 53 [(0, .ref (q 11)), (1, .int v)] [] (wX0 cy q σ)) (fun kR kO hk v ok h => wX0_wordToken_53 σ C hR  kR kO hk v ok h) n v ok h
def pX0_wordToken_51  (σ : OS) : Int32 × OS := lp (0, o0) (bX0_wordToken_53 σ ) fu 0
def oX0_wordToken_51  (σ : OS) : Prop := lpOk (kX0_wordToken_53 σ ) fu 0
set_option maxHeartbeats 4000000 in
set_option maxRecDepth 100000 in
theorem wX0_wordToken_51 {X : CX} {cy : Nat → ClassId} {q : Nat → Nat} {D : va_G} {A : Nat → Prop} {res : Int32 × OS} (σ : OS) (C : Cx X cX0_wordToken RX0 2 D (gty cy) A 5 0 0) (hR : Rt X (some .int) D (gty cy) A 0 0 (eI (wX0 cy q res.2) res.1))  (ok : oX0_wordToken_51  σ) (h : pX0_wordToken_51  σ = res) : At X D A 2 0 0 51 [(0, .ref (q 11))] [] (wX0 cy q σ) := by
  unfold pX0_wordToken_51 at h
  unfold oX0_wordToken_51 at ok
  refine r_iconst (v := 0) C (dall tdX0_wordToken 25 rfl) (by decide) ?_
  refine r_istore_n (lv' := [(1, .int 0), (0, .ref (q 11))]) C (dall tdX0_wordToken 26 rfl) (by decide) rfl ?_
  refine r_pick [1, 0] rfl ?_
  exact lX0_wordToken_53 σ C hR  fu _ ok h
def bX0_wordToken_2   (kR2 : OS × Int32 → Int32 × OS) (v : OS × Int32) : Int32 × OS := if 160 ≤ v.2 then pX0_wordToken_51  v.1 else if (v.1.1 0) ≤ (v.1.1 5) then pX0_wordToken_51  v.1 else if (fX0_isLetter (v.1.2.2.1 1 (v.1.1 5).toNatClampNeg)) = 0 then pX0_wordToken_51  v.1 else kR2 (oI v.1 5 ((v.1.1 5) + 1), v.2 + 1)
def kX0_wordToken_2   (kO2 : OS × Int32 → Prop) (v : OS × Int32) : Prop := (160 ≤ v.2 → oX0_wordToken_51  v.1) ∧ (¬ (160 ≤ v.2) → ((v.1.1 0) ≤ (v.1.1 5) → oX0_wordToken_51  v.1) ∧ (¬ ((v.1.1 0) ≤ (v.1.1 5)) → (vp_in (v.1.1 5) 160) ∧ (((fX0_isLetter (v.1.2.2.1 1 (v.1.1 5).toNatClampNeg)) = 0 → oX0_wordToken_51  v.1) ∧ (¬ ((fX0_isLetter (v.1.2.2.1 1 (v.1.1 5).toNatClampNeg)) = 0) → kO2 (oI v.1 5 ((v.1.1 5) + 1), v.2 + 1)))))
set_option maxHeartbeats 4000000 in
set_option maxRecDepth 100000 in
theorem wX0_wordToken_2 {X : CX} {cy : Nat → ClassId} {q : Nat → Nat} {D : va_G} {A : Nat → Prop} {res : Int32 × OS}  (C : Cx X cX0_wordToken RX0 2 D (gty cy) A 5 0 0) (hR : Rt X (some .int) D (gty cy) A 0 0 (eI (wX0 cy q res.2) res.1)) (kR2 : OS × Int32 → Int32 × OS) (kO2 : OS × Int32 → Prop) (hk2 : ∀ z, kO2 z → kR2 z = res → At X D A 2 0 0 2 [(0, .ref (q 11)), (1, .int z.2)] [] (wX0 cy q z.1)) (v : OS × Int32) (ok : kX0_wordToken_2  kO2 v) (h : bX0_wordToken_2  kR2 v = res) : At X D A 2 0 0 2 [(0, .ref (q 11)), (1, .int v.2)] [] (wX0 cy q v.1) := by
  unfold bX0_wordToken_2 at h
  unfold kX0_wordToken_2 at ok
  refine r_iload_n C 1 (dall tdX0_wordToken 2 rfl) rfl ?_
  refine r_sipush (v := 160) C (dall tdX0_wordToken 3 rfl) (by decide) ?_
  refine r_icmp_ge (tgt := 51) C (dall tdX0_wordToken 4 rfl) (by decide) (fun c4 => ?_) (fun c4 => ?_)
  · have h := (if_pos c4).symm.trans h
    have ok := ok.1 c4
    refine r_pick [0] rfl ?_
    exact wX0_wordToken_51 v.1 C hR  ok h
  · have h := (if_neg c4).symm.trans h
    have ok := ok.2 c4
    refine r_aload_n C 0 (dall tdX0_wordToken 5 rfl) rfl ?_
    refine r_get C 0 kw_X0 rfl rfl (by decide) kf_X0_28 rfl rfl (dall tdX0_wordToken 6 rfl) ?_
    refine r_aload_n C 0 (dall tdX0_wordToken 7 rfl) rfl ?_
    refine r_get C 0 kw_X0 rfl rfl (by decide) kf_X0_21 rfl rfl (dall tdX0_wordToken 8 rfl) ?_
    refine r_icmp_ge (tgt := 51) C (dall tdX0_wordToken 9 rfl) (by decide) (fun c5 => ?_) (fun c5 => ?_)
    · have h := (if_pos c5).symm.trans h
      have ok := ok.1 c5
      refine r_pick [0] rfl ?_
      exact wX0_wordToken_51 v.1 C hR  ok h
    · have h := (if_neg c5).symm.trans h
      have ok := ok.2 c5
      refine r_aload_n C 0 (dall tdX0_wordToken 10 rfl) rfl ?_
      refine r_get C 0 kw_X0 rfl rfl (by decide) kf_X0_9 rfl rfl (dall tdX0_wordToken 11 rfl) ?_
      refine r_aload_n C 0 (dall tdX0_wordToken 12 rfl) rfl ?_
      refine r_get C 0 kw_X0 rfl rfl (by decide) kf_X0_28 rfl rfl (dall tdX0_wordToken 13 rfl) ?_
      obtain ⟨o6, ok⟩ := ok
      refine r_iald C 1 0 rfl rfl o6 (dall tdX0_wordToken 14 rfl) ?_
      refine r_s0I (as := [.int (v.1.2.2.1 1 (v.1.1 5).toNatClampNeg)]) C (zX0_isLetter (v.1.2.2.1 1 (v.1.1 5).toNatClampNeg) ) ms_X0_isLetter km_X0_99 (by decide) (by decide) ⟨Nat.le_refl _, Nat.le_refl _⟩ rfl rfl (Nat.le_of_ble_eq_true rfl) (dall tdX0_wordToken 15 rfl) ?_
      refine r_if_eq (tgt := 51) C (dall tdX0_wordToken 16 rfl) (by decide) (fun c7 => ?_) (fun c7 => ?_)
      · have h := (if_pos c7).symm.trans h
        have ok := ok.1 c7
        refine r_pick [0] rfl ?_
        exact wX0_wordToken_51 v.1 C hR  ok h
      · have h := (if_neg c7).symm.trans h
        have ok := ok.2 c7
        refine r_aload_n C 0 (dall tdX0_wordToken 17 rfl) rfl ?_
        refine r_dup C (dall tdX0_wordToken 18 rfl) rfl ?_
        refine r_get C 0 kw_X0 rfl rfl (by decide) kf_X0_28 rfl rfl (dall tdX0_wordToken 19 rfl) ?_
        refine r_iconst (v := 1) C (dall tdX0_wordToken 20 rfl) (by decide) ?_
        refine r_iadd C (dall tdX0_wordToken 21 rfl) ?_
        refine r_put C 0 kw_X0 tyX0_ok nmX0 rfl rfl (by decide) kf_X0_28 rfl rfl rfl rfl rfl (Nat.le_of_ble_eq_true rfl) (pu_X0_this_5 cy q v.1 ((v.1.1 5) + 1)) (dall tdX0_wordToken 22 rfl) ?_
        refine r_iinc (v := v.2 + 1) (lv' := [(1, .int (v.2 + 1)), (0, .ref (q 11))]) C 1 (dall tdX0_wordToken 23 rfl) rfl rfl (by decide) rfl ?_
        refine r_goto (tgt := 2) C (dall tdX0_wordToken 24 rfl) (by decide) ?_
        refine r_pick [1, 0] rfl ?_
        exact hk2 (oI v.1 5 ((v.1.1 5) + 1), v.2 + 1) ok h
set_option maxHeartbeats 4000000 in
set_option maxRecDepth 100000 in
theorem lX0_wordToken_2 {X : CX} {cy : Nat → ClassId} {q : Nat → Nat} {D : va_G} {A : Nat → Prop} {res : Int32 × OS}  (C : Cx X cX0_wordToken RX0 2 D (gty cy) A 5 0 0) (hR : Rt X (some .int) D (gty cy) A 0 0 (eI (wX0 cy q res.2) res.1))  (n : Nat) (v : OS × Int32) (ok : lpOk (kX0_wordToken_2  ) n v) (h : lp (0, o0) (bX0_wordToken_2  ) n v = res) : At X D A 2 0 0 2 [(0, .ref (q 11)), (1, .int v.2)] [] (wX0 cy q v.1) :=
  lp_rule (fun v rr_ => rr_ = res → At X D A 2 0 0 2 [(0, .ref (q 11)), (1, .int v.2)] [] (wX0 cy q v.1)) (fun kR kO hk v ok h => wX0_wordToken_2  C hR  kR kO hk v ok h) n v ok h
def pX0_wordToken_0  (σ : OS) : Int32 × OS := lp (0, o0) (bX0_wordToken_2  ) fu (σ, 0)
def oX0_wordToken_0  (σ : OS) : Prop := lpOk (kX0_wordToken_2  ) fu (σ, 0)
set_option maxHeartbeats 4000000 in
set_option maxRecDepth 100000 in
theorem wX0_wordToken_0 {X : CX} {cy : Nat → ClassId} {q : Nat → Nat} {D : va_G} {A : Nat → Prop} {res : Int32 × OS} (σ : OS) (C : Cx X cX0_wordToken RX0 2 D (gty cy) A 5 0 0) (hR : Rt X (some .int) D (gty cy) A 0 0 (eI (wX0 cy q res.2) res.1))  (ok : oX0_wordToken_0  σ) (h : pX0_wordToken_0  σ = res) : At X D A 2 0 0 0 [(0, .ref (q 11))] [] (wX0 cy q σ) := by
  unfold pX0_wordToken_0 at h
  unfold oX0_wordToken_0 at ok
  refine r_iconst (v := 0) C (dall tdX0_wordToken 0 rfl) (by decide) ?_
  refine r_istore_n (lv' := [(1, .int 0), (0, .ref (q 11))]) C (dall tdX0_wordToken 1 rfl) (by decide) rfl ?_
  refine r_pick [1, 0] rfl ?_
  exact lX0_wordToken_2  C hR  fu _ ok h
def fX0_wordToken (σ : OS) : Int32 × OS := pX0_wordToken_0  σ
def gX0_wordToken (σ : OS) : Prop := oX0_wordToken_0  σ
set_option maxRecDepth 100000 in
theorem zX0_wordToken (cy : Nat → ClassId) (q : Nat → Nat)  {D : va_G} (σ : OS) (ok : gX0_wordToken σ )  : Con yX0_wordToken cX0_wordToken 2 (some .int) 5 0 0 D (gty cy) [.ref (q 11)] (wX0 cy q σ) (eI (wX0 cy q (fX0_wordToken σ ).2) (fX0_wordToken σ ).1) :=
  Con.of (own := RX0) (by decide +kernel) rfl (Nat.le_of_ble_eq_true rfl) (Nat.zero_le _) (fun X A C hR _ => (wX0_wordToken_0 σ C hR  ok rfl))
theorem mv_X0_wordToken : MV yX0_wordToken cX0_wordToken 2 (some .int) RX0 0 := ⟨ki_X0_wordToken, kv_X0_wordToken, kn_X0, kc_X0_wordToken, by decide +kernel⟩
def tbX0_numberToken : List (Nat × Instr × Nat) := [(0, .iconst 0, 1), (1, .istore_n 1, 1), (2, .iconst 0, 1), (3, .istore_n 2, 1), (4, .iload_n 2, 1), (5, .sipush 160, 3), (8, .if_icmp .ge 63, 3), (11, .aload_n 0, 1), (12, .getfield 28, 3), (15, .aload_n 0, 1), (16, .getfield 21, 3), (19, .if_icmp .ge 52, 3), (22, .aload_n 0, 1), (23, .getfield 9, 3), (26, .aload_n 0, 1), (27, .getfield 28, 3), (30, .iaload, 1), (31, .invokestatic 106, 3), (34, .ifCond .eq 37, 3), (37, .bipush 10, 2), (39, .iload_n 1, 1), (40, .imul, 1), (41, .aload_n 0, 1), (42, .getfield 9, 3), (45, .aload_n 0, 1), (46, .getfield 28, 3), (49, .iaload, 1), (50, .iadd, 1), (51, .bipush 48, 2), (53, .isub, 1), (54, .istore_n 1, 1), (55, .aload_n 0, 1), (56, .dup, 1), (57, .getfield 28, 3), (60, .iconst 1, 1), (61, .iadd, 1), (62, .putfield 28, 3), (65, .iinc 2 1, 3), (68, .goto (-64), 3), (71, .aload_n 0, 1), (72, .iload_n 1, 1), (73, .putfield 83, 3), (76, .aload_n 0, 1), (77, .getfield 28, 3), (80, .aload_n 0, 1), (81, .getfield 93, 3), (84, .isub, 1), (85, .iconst 4, 1), (86, .if_icmp .le 8, 3), (89, .bipush 22, 2), (91, .goto 5, 3), (94, .bipush 20, 2), (96, .ireturn, 1)]
theorem tdX0_numberToken : tbX0_numberToken.all (fun q => decide (decode cX0_numberToken q.1 = .ok q.2)) = true := by decide +kernel
def pX0_numberToken_71  (σ : OS) (a1_ : Int32) : Int32 × OS := if (((oI σ 8 a1_).1 5) - ((oI σ 8 a1_).1 7)) ≤ 4 then (20, oI σ 8 a1_) else (22, oI σ 8 a1_)
set_option maxHeartbeats 4000000 in
set_option maxRecDepth 100000 in
theorem wX0_numberToken_71 {X : CX} {cy : Nat → ClassId} {q : Nat → Nat} {D : va_G} {A : Nat → Prop} {res : Int32 × OS} (σ : OS) (a1_ : Int32) (C : Cx X cX0_numberToken RX0 3 D (gty cy) A 1 0 0) (hR : Rt X (some .int) D (gty cy) A 0 0 (eI (wX0 cy q res.2) res.1))  (h : pX0_numberToken_71  σ a1_ = res) : At X D A 3 0 0 71 [(0, .ref (q 11)), (1, .int a1_)] [] (wX0 cy q σ) := by
  unfold pX0_numberToken_71 at h
  refine r_aload_n C 0 (dall tdX0_numberToken 39 rfl) rfl ?_
  refine r_iload_n C 1 (dall tdX0_numberToken 40 rfl) rfl ?_
  refine r_put C 0 kw_X0 tyX0_ok nmX0 rfl rfl (by decide) kf_X0_83 rfl rfl rfl rfl rfl (Nat.le_of_ble_eq_true rfl) (pu_X0_this_8 cy q σ a1_) (dall tdX0_numberToken 41 rfl) ?_
  refine r_aload_n C 0 (dall tdX0_numberToken 42 rfl) rfl ?_
  refine r_get C 0 kw_X0 rfl rfl (by decide) kf_X0_28 rfl rfl (dall tdX0_numberToken 43 rfl) ?_
  refine r_aload_n C 0 (dall tdX0_numberToken 44 rfl) rfl ?_
  refine r_get C 0 kw_X0 rfl rfl (by decide) kf_X0_93 rfl rfl (dall tdX0_numberToken 45 rfl) ?_
  refine r_isub C (dall tdX0_numberToken 46 rfl) ?_
  refine r_iconst (v := 4) C (dall tdX0_numberToken 47 rfl) (by decide) ?_
  refine r_icmp_le (tgt := 94) C (dall tdX0_numberToken 48 rfl) (by decide) (fun c1 => ?_) (fun c1 => ?_)
  · have h := (if_pos c1).symm.trans h
    refine r_bipush (v := 20) C (dall tdX0_numberToken 51 rfl) (by decide) ?_
    exact r_iret C hR (dall tdX0_numberToken 52 rfl) (by subst h; exact ⟨rfl, rfl⟩)
  · have h := (if_neg c1).symm.trans h
    refine r_bipush (v := 22) C (dall tdX0_numberToken 49 rfl) (by decide) ?_
    refine r_goto (tgt := 96) C (dall tdX0_numberToken 50 rfl) (by decide) ?_
    exact r_iret C hR (dall tdX0_numberToken 52 rfl) (by subst h; exact ⟨rfl, rfl⟩)
def bX0_numberToken_4   (kR4 : OS × Int32 × Int32 → Int32 × OS) (v : OS × Int32 × Int32) : Int32 × OS := if 160 ≤ v.2.2 then pX0_numberToken_71  v.1 v.2.1 else if (v.1.1 0) ≤ (v.1.1 5) then pX0_numberToken_71  v.1 v.2.1 else if (fX0_isDigit (v.1.2.2.1 1 (v.1.1 5).toNatClampNeg)) = 0 then pX0_numberToken_71  v.1 v.2.1 else kR4 (oI v.1 5 ((v.1.1 5) + 1), ((10 * v.2.1) + (v.1.2.2.1 1 (v.1.1 5).toNatClampNeg)) - 48, v.2.2 + 1)
def kX0_numberToken_4   (kO4 : OS × Int32 × Int32 → Prop) (v : OS × Int32 × Int32) : Prop := (160 ≤ v.2.2 → True) ∧ (¬ (160 ≤ v.2.2) → ((v.1.1 0) ≤ (v.1.1 5) → True) ∧ (¬ ((v.1.1 0) ≤ (v.1.1 5)) → (vp_in (v.1.1 5) 160) ∧ (((fX0_isDigit (v.1.2.2.1 1 (v.1.1 5).toNatClampNeg)) = 0 → True) ∧ (¬ ((fX0_isDigit (v.1.2.2.1 1 (v.1.1 5).toNatClampNeg)) = 0) → (vp_in (v.1.1 5) 160) ∧ (kO4 (oI v.1 5 ((v.1.1 5) + 1), ((10 * v.2.1) + (v.1.2.2.1 1 (v.1.1 5).toNatClampNeg)) - 48, v.2.2 + 1))))))
set_option maxHeartbeats 4000000 in
set_option maxRecDepth 100000 in
theorem wX0_numberToken_4 {X : CX} {cy : Nat → ClassId} {q : Nat → Nat} {D : va_G} {A : Nat → Prop} {res : Int32 × OS}  (C : Cx X cX0_numberToken RX0 3 D (gty cy) A 1 0 0) (hR : Rt X (some .int) D (gty cy) A 0 0 (eI (wX0 cy q res.2) res.1)) (kR4 : OS × Int32 × Int32 → Int32 × OS) (kO4 : OS × Int32 × Int32 → Prop) (hk4 : ∀ z, kO4 z → kR4 z = res → At X D A 3 0 0 4 [(0, .ref (q 11)), (1, .int z.2.1), (2, .int z.2.2)] [] (wX0 cy q z.1)) (v : OS × Int32 × Int32) (ok : kX0_numberToken_4  kO4 v) (h : bX0_numberToken_4  kR4 v = res) : At X D A 3 0 0 4 [(0, .ref (q 11)), (1, .int v.2.1), (2, .int v.2.2)] [] (wX0 cy q v.1) := by
  unfold bX0_numberToken_4 at h
  unfold kX0_numberToken_4 at ok
  refine r_iload_n C 2 (dall tdX0_numberToken 4 rfl) rfl ?_
  refine r_sipush (v := 160) C (dall tdX0_numberToken 5 rfl) (by decide) ?_
  refine r_icmp_ge (tgt := 71) C (dall tdX0_numberToken 6 rfl) (by decide) (fun c2 => ?_) (fun c2 => ?_)
  · have h := (if_pos c2).symm.trans h
    have ok := ok.1 c2
    refine r_pick [0, 1] rfl ?_
    exact wX0_numberToken_71 v.1 v.2.1 C hR  h
  · have h := (if_neg c2).symm.trans h
    have ok := ok.2 c2
    refine r_aload_n C 0 (dall tdX0_numberToken 7 rfl) rfl ?_
    refine r_get C 0 kw_X0 rfl rfl (by decide) kf_X0_28 rfl rfl (dall tdX0_numberToken 8 rfl) ?_
    refine r_aload_n C 0 (dall tdX0_numberToken 9 rfl) rfl ?_
    refine r_get C 0 kw_X0 rfl rfl (by decide) kf_X0_21 rfl rfl (dall tdX0_numberToken 10 rfl) ?_
    refine r_icmp_ge (tgt := 71) C (dall tdX0_numberToken 11 rfl) (by decide) (fun c3 => ?_) (fun c3 => ?_)
    · have h := (if_pos c3).symm.trans h
      have ok := ok.1 c3
      refine r_pick [0, 1] rfl ?_
      exact wX0_numberToken_71 v.1 v.2.1 C hR  h
    · have h := (if_neg c3).symm.trans h
      have ok := ok.2 c3
      refine r_aload_n C 0 (dall tdX0_numberToken 12 rfl) rfl ?_
      refine r_get C 0 kw_X0 rfl rfl (by decide) kf_X0_9 rfl rfl (dall tdX0_numberToken 13 rfl) ?_
      refine r_aload_n C 0 (dall tdX0_numberToken 14 rfl) rfl ?_
      refine r_get C 0 kw_X0 rfl rfl (by decide) kf_X0_28 rfl rfl (dall tdX0_numberToken 15 rfl) ?_
      obtain ⟨o4, ok⟩ := ok
      refine r_iald C 1 0 rfl rfl o4 (dall tdX0_numberToken 16 rfl) ?_
      refine r_s0I (as := [.int (v.1.2.2.1 1 (v.1.1 5).toNatClampNeg)]) C (zX0_isDigit (v.1.2.2.1 1 (v.1.1 5).toNatClampNeg) ) ms_X0_isDigit km_X0_106 (by decide) (by decide) ⟨Nat.le_refl _, Nat.le_refl _⟩ rfl rfl (Nat.le_of_ble_eq_true rfl) (dall tdX0_numberToken 17 rfl) ?_
      refine r_if_eq (tgt := 71) C (dall tdX0_numberToken 18 rfl) (by decide) (fun c5 => ?_) (fun c5 => ?_)
      · have h := (if_pos c5).symm.trans h
        have ok := ok.1 c5
        refine r_pick [0, 1] rfl ?_
        exact wX0_numberToken_71 v.1 v.2.1 C hR  h
      · have h := (if_neg c5).symm.trans h
        have ok := ok.2 c5
        refine r_bipush (v := 10) C (dall tdX0_numberToken 19 rfl) (by decide) ?_
        refine r_iload_n C 1 (dall tdX0_numberToken 20 rfl) rfl ?_
        refine r_imul C (dall tdX0_numberToken 21 rfl) ?_
        refine r_aload_n C 0 (dall tdX0_numberToken 22 rfl) rfl ?_
        refine r_get C 0 kw_X0 rfl rfl (by decide) kf_X0_9 rfl rfl (dall tdX0_numberToken 23 rfl) ?_
        refine r_aload_n C 0 (dall tdX0_numberToken 24 rfl) rfl ?_
        refine r_get C 0 kw_X0 rfl rfl (by decide) kf_X0_28 rfl rfl (dall tdX0_numberToken 25 rfl) ?_
        obtain ⟨o6, ok⟩ := ok
        refine r_iald C 1 0 rfl rfl o6 (dall tdX0_numberToken 26 rfl) ?_
        refine r_iadd C (dall tdX0_numberToken 27 rfl) ?_
        refine r_bipush (v := 48) C (dall tdX0_numberToken 28 rfl) (by decide) ?_
        refine r_isub C (dall tdX0_numberToken 29 rfl) ?_
        refine r_istore_n (lv' := [(1, .int (((10 * v.2.1) + (v.1.2.2.1 1 (v.1.1 5).toNatClampNeg)) - 48)), (0, .ref (q 11)), (2, .int v.2.2)]) C (dall tdX0_numberToken 30 rfl) (by decide) rfl ?_
        refine r_aload_n C 1 (dall tdX0_numberToken 31 rfl) rfl ?_
        refine r_dup C (dall tdX0_numberToken 32 rfl) rfl ?_
        refine r_get C 0 kw_X0 rfl rfl (by decide) kf_X0_28 rfl rfl (dall tdX0_numberToken 33 rfl) ?_
        refine r_iconst (v := 1) C (dall tdX0_numberToken 34 rfl) (by decide) ?_
        refine r_iadd C (dall tdX0_numberToken 35 rfl) ?_
        refine r_put C 0 kw_X0 tyX0_ok nmX0 rfl rfl (by decide) kf_X0_28 rfl rfl rfl rfl rfl (Nat.le_of_ble_eq_true rfl) (pu_X0_this_5 cy q v.1 ((v.1.1 5) + 1)) (dall tdX0_numberToken 36 rfl) ?_
        refine r_iinc (v := v.2.2 + 1) (lv' := [(2, .int (v.2.2 + 1)), (1, .int (((10 * v.2.1) + (v.1.2.2.1 1 (v.1.1 5).toNatClampNeg)) - 48)), (0, .ref (q 11))]) C 2 (dall tdX0_numberToken 37 rfl) rfl rfl (by decide) rfl ?_
        refine r_goto (tgt := 4) C (dall tdX0_numberToken 38 rfl) (by decide) ?_
        refine r_pick [2, 1, 0] rfl ?_
        exact hk4 (oI v.1 5 ((v.1.1 5) + 1), ((10 * v.2.1) + (v.1.2.2.1 1 (v.1.1 5).toNatClampNeg)) - 48, v.2.2 + 1) ok h
set_option maxHeartbeats 4000000 in
set_option maxRecDepth 100000 in
theorem lX0_numberToken_4 {X : CX} {cy : Nat → ClassId} {q : Nat → Nat} {D : va_G} {A : Nat → Prop} {res : Int32 × OS}  (C : Cx X cX0_numberToken RX0 3 D (gty cy) A 1 0 0) (hR : Rt X (some .int) D (gty cy) A 0 0 (eI (wX0 cy q res.2) res.1))  (n : Nat) (v : OS × Int32 × Int32) (ok : lpOk (kX0_numberToken_4  ) n v) (h : lp (0, o0) (bX0_numberToken_4  ) n v = res) : At X D A 3 0 0 4 [(0, .ref (q 11)), (1, .int v.2.1), (2, .int v.2.2)] [] (wX0 cy q v.1) :=
  lp_rule (fun v rr_ => rr_ = res → At X D A 3 0 0 4 [(0, .ref (q 11)), (1, .int v.2.1), (2, .int v.2.2)] [] (wX0 cy q v.1)) (fun kR kO hk v ok h => wX0_numberToken_4  C hR  kR kO hk v ok h) n v ok h
def pX0_numberToken_0  (σ : OS) : Int32 × OS := lp (0, o0) (bX0_numberToken_4  ) fu (σ, 0, 0)
def oX0_numberToken_0  (σ : OS) : Prop := lpOk (kX0_numberToken_4  ) fu (σ, 0, 0)
set_option maxHeartbeats 4000000 in
set_option maxRecDepth 100000 in
theorem wX0_numberToken_0 {X : CX} {cy : Nat → ClassId} {q : Nat → Nat} {D : va_G} {A : Nat → Prop} {res : Int32 × OS} (σ : OS) (C : Cx X cX0_numberToken RX0 3 D (gty cy) A 1 0 0) (hR : Rt X (some .int) D (gty cy) A 0 0 (eI (wX0 cy q res.2) res.1))  (ok : oX0_numberToken_0  σ) (h : pX0_numberToken_0  σ = res) : At X D A 3 0 0 0 [(0, .ref (q 11))] [] (wX0 cy q σ) := by
  unfold pX0_numberToken_0 at h
  unfold oX0_numberToken_0 at ok
  refine r_iconst (v := 0) C (dall tdX0_numberToken 0 rfl) (by decide) ?_
  refine r_istore_n (lv' := [(1, .int 0), (0, .ref (q 11))]) C (dall tdX0_numberToken 1 rfl) (by decide) rfl ?_
  refine r_iconst (v := 0) C (dall tdX0_numberToken 2 rfl) (by decide) ?_
  refine r_istore_n (lv' := [(2, .int 0), (1, .int 0), (0, .ref (q 11))]) C (dall tdX0_numberToken 3 rfl) (by decide) rfl ?_
  refine r_pick [2, 1, 0] rfl ?_
  exact lX0_numberToken_4  C hR  fu _ ok h
def fX0_numberToken (σ : OS) : Int32 × OS := pX0_numberToken_0  σ
def gX0_numberToken (σ : OS) : Prop := oX0_numberToken_0  σ
set_option maxRecDepth 100000 in
theorem zX0_numberToken (cy : Nat → ClassId) (q : Nat → Nat)  {D : va_G} (σ : OS) (ok : gX0_numberToken σ )  : Con yX0_numberToken cX0_numberToken 3 (some .int) 1 0 0 D (gty cy) [.ref (q 11)] (wX0 cy q σ) (eI (wX0 cy q (fX0_numberToken σ ).2) (fX0_numberToken σ ).1) :=
  Con.of (own := RX0) (by decide +kernel) rfl (Nat.le_of_ble_eq_true rfl) (Nat.zero_le _) (fun X A C hR _ => (wX0_numberToken_0 σ C hR  ok rfl))
theorem mv_X0_numberToken : MV yX0_numberToken cX0_numberToken 3 (some .int) RX0 0 := ⟨ki_X0_numberToken, kv_X0_numberToken, kn_X0, kc_X0_numberToken, by decide +kernel⟩
def tbX0_step : List (Nat × Instr × Nat) := [(0, .aload_n 0, 1), (1, .getfield 34, 3), (4, .iconst (-1), 1), (5, .if_icmp .eq 4, 3), (8, .return_, 1), (9, .iconst 0, 1), (10, .istore_n 1, 1), (11, .iload_n 1, 1), (12, .sipush 160, 3), (15, .if_icmp .ge 45, 3), (18, .aload_n 0, 1), (19, .getfield 28, 3), (22, .aload_n 0, 1), (23, .getfield 21, 3), (26, .if_icmp .ge 34, 3), (29, .aload_n 0, 1), (30, .getfield 9, 3), (33, .aload_n 0, 1), (34, .getfield 28, 3), (37, .iaload, 1), (38, .invokestatic 96, 3), (41, .ifCond .eq 19, 3), (44, .aload_n 0, 1), (45, .dup, 1), (46, .getfield 28, 3), (49, .iconst 1, 1), (50, .iadd, 1), (51, .putfield 28, 3), (54, .iinc 1 1, 3), (57, .goto (-46), 3), (60, .aload_n 0, 1), (61, .aload_n 0, 1), (62, .getfield 28, 3), (65, .putfield 93, 3), (68, .aload_n 0, 1), (69, .getfield 28, 3), (72, .aload_n 0, 1), (73, .getfield 21, 3), (76, .if_icmp .lt 12, 3), (79, .aload_n 0, 1), (80, .bipush 21, 2), (82, .putfield 61, 3), (85, .goto 98, 3), (88, .aload_n 0, 1), (89, .getfield 9, 3), (92, .aload_n 0, 1), (93, .getfield 28, 3), (96, .iaload, 1), (97, .invokestatic 99, 3), (100, .ifCond .eq 14, 3), (103, .aload_n 0, 1), (104, .aload_n 0, 1), (105, .invokevirtual 102, 3), (108, .putfield 61, 3), (111, .goto 72, 3), (114, .aload_n 0, 1), (115, .getfield 9, 3), (118, .aload_n 0, 1), (119, .getfield 28, 3), (122, .iaload, 1), (123, .invokestatic 106, 3), (126, .ifCond .eq 14, 3), (129, .aload_n 0, 1), (130, .aload_n 0, 1), (131, .invokevirtual 109, 3), (134, .putfield 61, 3), (137, .goto 46, 3), (140, .ldc 112, 2), (142, .aload_n 0, 1), (143, .getfield 9, 3), (146, .aload_n 0, 1), (147, .getfield 28, 3), (150, .iaload, 1), (151, .i2c, 1), (152, .invokevirtual 114, 3), (155, .istore_n 1, 1), (156, .aload_n 0, 1), (157, .iload_n 1, 1), (158, .ifCond .ge 8, 3), (161, .bipush 22, 2), (163, .goto 7, 3), (166, .bipush 12, 2), (168, .iload_n 1, 1), (169, .iadd, 1), (170, .putfield 61, 3), (173, .aload_n 0, 1), (174, .dup, 1), (175, .getfield 28, 3), (178, .iconst 1, 1), (179, .iadd, 1), (180, .putfield 28, 3), (183, .return_, 1)]
theorem tdX0_step : tbX0_step.all (fun q => decide (decode cX0_step q.1 = .ok q.2)) = true := by decide +kernel
def pX0_step_170  (σ : OS) (b0_ : Int32) : OS := oI (oI σ 6 b0_) 5 (((oI σ 6 b0_).1 5) + 1)
set_option maxHeartbeats 4000000 in
set_option maxRecDepth 100000 in
theorem wX0_step_170 {X : CX} {cy : Nat → ClassId} {q : Nat → Nat} {D : va_G} {A : Nat → Prop} {res : OS} (σ : OS) (b0_ : Int32) (C : Cx X cX0_step RX0 2 D (gty cy) A 6 0 0) (hR : Rt X none D (gty cy) A 0 0 (eV (wX0 cy q res)))  (h : pX0_step_170  σ b0_ = res) : At X D A 2 0 0 170 [(0, .ref (q 11))] [.int b0_, .ref (q 11)] (wX0 cy q σ) := by
  unfold pX0_step_170 at h
  refine r_put C 0 kw_X0 tyX0_ok nmX0 rfl rfl (by decide) kf_X0_61 rfl rfl rfl rfl rfl (Nat.le_of_ble_eq_true rfl) (pu_X0_this_6 cy q σ b0_) (dall tdX0_step 84 rfl) ?_
  refine r_aload_n C 0 (dall tdX0_step 85 rfl) rfl ?_
  refine r_dup C (dall tdX0_step 86 rfl) rfl ?_
  refine r_get C 0 kw_X0 rfl rfl (by decide) kf_X0_28 rfl rfl (dall tdX0_step 87 rfl) ?_
  refine r_iconst (v := 1) C (dall tdX0_step 88 rfl) (by decide) ?_
  refine r_iadd C (dall tdX0_step 89 rfl) ?_
  refine r_put C 0 kw_X0 tyX0_ok nmX0 rfl rfl (by decide) kf_X0_28 rfl rfl rfl rfl rfl (Nat.le_of_ble_eq_true rfl) (pu_X0_this_5 cy q (oI σ 6 b0_) (((oI σ 6 b0_).1 5) + 1)) (dall tdX0_step 90 rfl) ?_
  exact r_vret C hR (dall tdX0_step 91 rfl) (by subst h; exact ⟨rfl, rfl⟩)
def pX0_step_134  (σ : OS) (b0_ : Int32) : OS := oI σ 6 b0_
set_option maxHeartbeats 4000000 in
set_option maxRecDepth 100000 in
theorem wX0_step_134 {X : CX} {cy : Nat → ClassId} {q : Nat → Nat} {D : va_G} {A : Nat → Prop} {res : OS} (σ : OS) (b0_ : Int32) (C : Cx X cX0_step RX0 2 D (gty cy) A 6 0 0) (hR : Rt X none D (gty cy) A 0 0 (eV (wX0 cy q res)))  (h : pX0_step_134  σ b0_ = res) : At X D A 2 0 0 134 [] [.int b0_, .ref (q 11)] (wX0 cy q σ) := by
  unfold pX0_step_134 at h
  refine r_put C 0 kw_X0 tyX0_ok nmX0 rfl rfl (by decide) kf_X0_61 rfl rfl rfl rfl rfl (Nat.le_of_ble_eq_true rfl) (pu_X0_this_6 cy q σ b0_) (dall tdX0_step 65 rfl) ?_
  refine r_goto (tgt := 183) C (dall tdX0_step 66 rfl) (by decide) ?_
  exact r_vret C hR (dall tdX0_step 91 rfl) (by subst h; exact ⟨rfl, rfl⟩)
def pX0_step_108  (σ : OS) (b0_ : Int32) : OS := oI σ 6 b0_
set_option maxHeartbeats 4000000 in
set_option maxRecDepth 100000 in
theorem wX0_step_108 {X : CX} {cy : Nat → ClassId} {q : Nat → Nat} {D : va_G} {A : Nat → Prop} {res : OS} (σ : OS) (b0_ : Int32) (C : Cx X cX0_step RX0 2 D (gty cy) A 6 0 0) (hR : Rt X none D (gty cy) A 0 0 (eV (wX0 cy q res)))  (h : pX0_step_108  σ b0_ = res) : At X D A 2 0 0 108 [] [.int b0_, .ref (q 11)] (wX0 cy q σ) := by
  unfold pX0_step_108 at h
  refine r_put C 0 kw_X0 tyX0_ok nmX0 rfl rfl (by decide) kf_X0_61 rfl rfl rfl rfl rfl (Nat.le_of_ble_eq_true rfl) (pu_X0_this_6 cy q σ b0_) (dall tdX0_step 53 rfl) ?_
  refine r_goto (tgt := 183) C (dall tdX0_step 54 rfl) (by decide) ?_
  exact r_vret C hR (dall tdX0_step 91 rfl) (by subst h; exact ⟨rfl, rfl⟩)
def pX0_step_60  (σ : OS) : OS := if ((oI σ 7 (σ.1 5)).1 5) < ((oI σ 7 (σ.1 5)).1 0) then if (fX0_isLetter ((oI σ 7 (σ.1 5)).2.2.1 1 ((oI σ 7 (σ.1 5)).1 5).toNatClampNeg)) = 0 then if (fX0_isDigit ((oI σ 7 (σ.1 5)).2.2.1 1 ((oI σ 7 (σ.1 5)).1 5).toNatClampNeg)) = 0 then if 0 ≤ (fJ0_indexOf_0f7a4_s1 ((((oI σ 7 (σ.1 5)).2.2.1 1 ((oI σ 7 (σ.1 5)).1 5).toNatClampNeg).toUInt32 % 65536).toInt32)) then pX0_step_170  (oI σ 7 (σ.1 5)) (12 + (fJ0_indexOf_0f7a4_s1 ((((oI σ 7 (σ.1 5)).2.2.1 1 ((oI σ 7 (σ.1 5)).1 5).toNatClampNeg).toUInt32 % 65536).toInt32))) else pX0_step_170  (oI σ 7 (σ.1 5)) 22 else pX0_step_134  ((fX0_numberToken (oI σ 7 (σ.1 5)) ).2) ((fX0_numberToken (oI σ 7 (σ.1 5)) ).1) else pX0_step_108  ((fX0_wordToken (oI σ 7 (σ.1 5)) ).2) ((fX0_wordToken (oI σ 7 (σ.1 5)) ).1) else oI (oI σ 7 (σ.1 5)) 6 21
def oX0_step_60  (σ : OS) : Prop := (((oI σ 7 (σ.1 5)).1 5) < ((oI σ 7 (σ.1 5)).1 0) → (vp_in ((oI σ 7 (σ.1 5)).1 5) 160) ∧ (((fX0_isLetter ((oI σ 7 (σ.1 5)).2.2.1 1 ((oI σ 7 (σ.1 5)).1 5).toNatClampNeg)) = 0 → (vp_in ((oI σ 7 (σ.1 5)).1 5) 160) ∧ (((fX0_isDigit ((oI σ 7 (σ.1 5)).2.2.1 1 ((oI σ 7 (σ.1 5)).1 5).toNatClampNeg)) = 0 → (vp_in ((oI σ 7 (σ.1 5)).1 5) 160) ∧ (gJ0_indexOf_0f7a4_s1 ((((oI σ 7 (σ.1 5)).2.2.1 1 ((oI σ 7 (σ.1 5)).1 5).toNatClampNeg).toUInt32 % 65536).toInt32))) ∧ (¬ ((fX0_isDigit ((oI σ 7 (σ.1 5)).2.2.1 1 ((oI σ 7 (σ.1 5)).1 5).toNatClampNeg)) = 0) → gX0_numberToken (oI σ 7 (σ.1 5)) ))) ∧ (¬ ((fX0_isLetter ((oI σ 7 (σ.1 5)).2.2.1 1 ((oI σ 7 (σ.1 5)).1 5).toNatClampNeg)) = 0) → gX0_wordToken (oI σ 7 (σ.1 5)) ))) ∧ (¬ (((oI σ 7 (σ.1 5)).1 5) < ((oI σ 7 (σ.1 5)).1 0)) → True)
set_option maxHeartbeats 4000000 in
set_option maxRecDepth 100000 in
theorem wX0_step_60 {X : CX} {cy : Nat → ClassId} {q : Nat → Nat} {D : va_G} {A : Nat → Prop} {res : OS} (σ : OS) (C : Cx X cX0_step RX0 2 D (gty cy) A 6 0 0) (hR : Rt X none D (gty cy) A 0 0 (eV (wX0 cy q res)))  (ok : oX0_step_60  σ) (h : pX0_step_60  σ = res) : At X D A 2 0 0 60 [(0, .ref (q 11))] [] (wX0 cy q σ) := by
  unfold pX0_step_60 at h
  unfold oX0_step_60 at ok
  refine r_aload_n C 0 (dall tdX0_step 30 rfl) rfl ?_
  refine r_aload_n C 0 (dall tdX0_step 31 rfl) rfl ?_
  refine r_get C 0 kw_X0 rfl rfl (by decide) kf_X0_28 rfl rfl (dall tdX0_step 32 rfl) ?_
  refine r_put C 0 kw_X0 tyX0_ok nmX0 rfl rfl (by decide) kf_X0_93 rfl rfl rfl rfl rfl (Nat.le_of_ble_eq_true rfl) (pu_X0_this_7 cy q σ (σ.1 5)) (dall tdX0_step 33 rfl) ?_
  refine r_aload_n C 0 (dall tdX0_step 34 rfl) rfl ?_
  refine r_get C 0 kw_X0 rfl rfl (by decide) kf_X0_28 rfl rfl (dall tdX0_step 35 rfl) ?_
  refine r_aload_n C 0 (dall tdX0_step 36 rfl) rfl ?_
  refine r_get C 0 kw_X0 rfl rfl (by decide) kf_X0_21 rfl rfl (dall tdX0_step 37 rfl) ?_
  refine r_icmp_lt (tgt := 88) C (dall tdX0_step 38 rfl) (by decide) (fun c1 => ?_) (fun c1 => ?_)
  · have h := (if_pos c1).symm.trans h
    have ok := ok.1 c1
    refine r_aload_n C 0 (dall tdX0_step 43 rfl) rfl ?_
    refine r_get C 0 kw_X0 rfl rfl (by decide) kf_X0_9 rfl rfl (dall tdX0_step 44 rfl) ?_
    refine r_aload_n C 0 (dall tdX0_step 45 rfl) rfl ?_
    refine r_get C 0 kw_X0 rfl rfl (by decide) kf_X0_28 rfl rfl (dall tdX0_step 46 rfl) ?_
    obtain ⟨o2, ok⟩ := ok
    refine r_iald C 1 0 rfl rfl o2 (dall tdX0_step 47 rfl) ?_
    refine r_s0I (as := [.int ((oI σ 7 (σ.1 5)).2.2.1 1 ((oI σ 7 (σ.1 5)).1 5).toNatClampNeg)]) C (zX0_isLetter ((oI σ 7 (σ.1 5)).2.2.1 1 ((oI σ 7 (σ.1 5)).1 5).toNatClampNeg) ) ms_X0_isLetter km_X0_99 (by decide) (by decide) ⟨Nat.le_refl _, Nat.le_refl _⟩ rfl rfl (Nat.le_of_ble_eq_true rfl) (dall tdX0_step 48 rfl) ?_
    refine r_if_eq (tgt := 114) C (dall tdX0_step 49 rfl) (by decide) (fun c3 => ?_) (fun c3 => ?_)
    · have h := (if_pos c3).symm.trans h
      have ok := ok.1 c3
      refine r_aload_n C 0 (dall tdX0_step 55 rfl) rfl ?_
      refine r_get C 0 kw_X0 rfl rfl (by decide) kf_X0_9 rfl rfl (dall tdX0_step 56 rfl) ?_
      refine r_aload_n C 0 (dall tdX0_step 57 rfl) rfl ?_
      refine r_get C 0 kw_X0 rfl rfl (by decide) kf_X0_28 rfl rfl (dall tdX0_step 58 rfl) ?_
      obtain ⟨o4, ok⟩ := ok
      refine r_iald C 1 0 rfl rfl o4 (dall tdX0_step 59 rfl) ?_
      refine r_s0I (as := [.int ((oI σ 7 (σ.1 5)).2.2.1 1 ((oI σ 7 (σ.1 5)).1 5).toNatClampNeg)]) C (zX0_isDigit ((oI σ 7 (σ.1 5)).2.2.1 1 ((oI σ 7 (σ.1 5)).1 5).toNatClampNeg) ) ms_X0_isDigit km_X0_106 (by decide) (by decide) ⟨Nat.le_refl _, Nat.le_refl _⟩ rfl rfl (Nat.le_of_ble_eq_true rfl) (dall tdX0_step 60 rfl) ?_
      refine r_if_eq (tgt := 140) C (dall tdX0_step 61 rfl) (by decide) (fun c5 => ?_) (fun c5 => ?_)
      · have h := (if_pos c5).symm.trans h
        have ok := ok.1 c5
        refine r_ldcS1 C (dall tdX0_step 67 rfl) ?_
        refine r_aload_n C 0 (dall tdX0_step 68 rfl) rfl ?_
        refine r_get C 0 kw_X0 rfl rfl (by decide) kf_X0_9 rfl rfl (dall tdX0_step 69 rfl) ?_
        refine r_aload_n C 0 (dall tdX0_step 70 rfl) rfl ?_
        refine r_get C 0 kw_X0 rfl rfl (by decide) kf_X0_28 rfl rfl (dall tdX0_step 71 rfl) ?_
        obtain ⟨o6, ok⟩ := ok
        refine r_iald C 1 0 rfl rfl o6 (dall tdX0_step 72 rfl) ?_
        refine r_i2c C (dall tdX0_step 73 rfl) ?_
        have o7 := ok
        refine r_strI (as := [.int ((((oI σ 7 (σ.1 5)).2.2.1 1 ((oI σ 7 (σ.1 5)).1 5).toNatClampNeg).toUInt32 % 65536).toInt32)]) C 1 (by decide) (zJ0_indexOf_0f7a4_s1 ((((oI σ 7 (σ.1 5)).2.2.1 1 ((oI σ 7 (σ.1 5)).1 5).toNatClampNeg).toUInt32 % 65536).toInt32) o7) mv_J0_indexOf_0f7a4_s1 km_X0_114 (by decide) (by decide) ⟨Nat.le_refl _, Nat.le_refl _⟩ rfl rfl (Nat.le_of_ble_eq_true rfl) (dall tdX0_step 74 rfl) ?_
        refine r_istore_n (lv' := [(1, .int (fJ0_indexOf_0f7a4_s1 ((((oI σ 7 (σ.1 5)).2.2.1 1 ((oI σ 7 (σ.1 5)).1 5).toNatClampNeg).toUInt32 % 65536).toInt32))), (0, .ref (q 11))]) C (dall tdX0_step 75 rfl) (by decide) rfl ?_
        refine r_aload_n C 1 (dall tdX0_step 76 rfl) rfl ?_
        refine r_iload_n C 0 (dall tdX0_step 77 rfl) rfl ?_
        refine r_if_ge (tgt := 166) C (dall tdX0_step 78 rfl) (by decide) (fun c8 => ?_) (fun c8 => ?_)
        · have h := (if_pos c8).symm.trans h
          refine r_bipush (v := 12) C (dall tdX0_step 81 rfl) (by decide) ?_
          refine r_iload_n C 0 (dall tdX0_step 82 rfl) rfl ?_
          refine r_iadd C (dall tdX0_step 83 rfl) ?_
          refine r_pick [1] rfl ?_
          exact wX0_step_170 (oI σ 7 (σ.1 5)) (12 + (fJ0_indexOf_0f7a4_s1 ((((oI σ 7 (σ.1 5)).2.2.1 1 ((oI σ 7 (σ.1 5)).1 5).toNatClampNeg).toUInt32 % 65536).toInt32))) C hR  h
        · have h := (if_neg c8).symm.trans h
          refine r_bipush (v := 22) C (dall tdX0_step 79 rfl) (by decide) ?_
          refine r_goto (tgt := 170) C (dall tdX0_step 80 rfl) (by decide) ?_
          refine r_pick [1] rfl ?_
          exact wX0_step_170 (oI σ 7 (σ.1 5)) 22 C hR  h
      · have h := (if_neg c5).symm.trans h
        have ok := ok.2 c5
        refine r_aload_n C 0 (dall tdX0_step 62 rfl) rfl ?_
        refine r_aload_n C 0 (dall tdX0_step 63 rfl) rfl ?_
        have o9 := ok
        refine r_vI (as := []) C (zX0_numberToken cy q (oI σ 7 (σ.1 5))  o9) mv_X0_numberToken km_X0_109 (by decide) (by decide) ⟨Nat.le_refl _, Nat.le_refl _⟩ rfl rfl rfl rfl (Nat.le_of_ble_eq_true rfl) (dall tdX0_step 64 rfl) ?_
        refine r_pick [] rfl ?_
        exact wX0_step_134 ((fX0_numberToken (oI σ 7 (σ.1 5)) ).2) ((fX0_numberToken (oI σ 7 (σ.1 5)) ).1) C hR  h
    · have h := (if_neg c3).symm.trans h
      have ok := ok.2 c3
      refine r_aload_n C 0 (dall tdX0_step 50 rfl) rfl ?_
      refine r_aload_n C 0 (dall tdX0_step 51 rfl) rfl ?_
      have o10 := ok
      refine r_vI (as := []) C (zX0_wordToken cy q (oI σ 7 (σ.1 5))  o10) mv_X0_wordToken km_X0_102 (by decide) (by decide) ⟨Nat.le_refl _, Nat.le_refl _⟩ rfl rfl rfl rfl (Nat.le_of_ble_eq_true rfl) (dall tdX0_step 52 rfl) ?_
      refine r_pick [] rfl ?_
      exact wX0_step_108 ((fX0_wordToken (oI σ 7 (σ.1 5)) ).2) ((fX0_wordToken (oI σ 7 (σ.1 5)) ).1) C hR  h
  · have h := (if_neg c1).symm.trans h
    have ok := ok.2 c1
    refine r_aload_n C 0 (dall tdX0_step 39 rfl) rfl ?_
    refine r_bipush (v := 21) C (dall tdX0_step 40 rfl) (by decide) ?_
    refine r_put C 0 kw_X0 tyX0_ok nmX0 rfl rfl (by decide) kf_X0_61 rfl rfl rfl rfl rfl (Nat.le_of_ble_eq_true rfl) (pu_X0_this_6 cy q (oI σ 7 (σ.1 5)) 21) (dall tdX0_step 41 rfl) ?_
    refine r_goto (tgt := 183) C (dall tdX0_step 42 rfl) (by decide) ?_
    exact r_vret C hR (dall tdX0_step 91 rfl) (by subst h; exact ⟨rfl, rfl⟩)
def bX0_step_11   (kR11 : OS × Int32 → OS) (v : OS × Int32) : OS := if 160 ≤ v.2 then pX0_step_60  v.1 else if (v.1.1 0) ≤ (v.1.1 5) then pX0_step_60  v.1 else if (fX0_isBlank (v.1.2.2.1 1 (v.1.1 5).toNatClampNeg)) = 0 then pX0_step_60  v.1 else kR11 (oI v.1 5 ((v.1.1 5) + 1), v.2 + 1)
def kX0_step_11   (kO11 : OS × Int32 → Prop) (v : OS × Int32) : Prop := (160 ≤ v.2 → oX0_step_60  v.1) ∧ (¬ (160 ≤ v.2) → ((v.1.1 0) ≤ (v.1.1 5) → oX0_step_60  v.1) ∧ (¬ ((v.1.1 0) ≤ (v.1.1 5)) → (vp_in (v.1.1 5) 160) ∧ (((fX0_isBlank (v.1.2.2.1 1 (v.1.1 5).toNatClampNeg)) = 0 → oX0_step_60  v.1) ∧ (¬ ((fX0_isBlank (v.1.2.2.1 1 (v.1.1 5).toNatClampNeg)) = 0) → kO11 (oI v.1 5 ((v.1.1 5) + 1), v.2 + 1)))))
set_option maxHeartbeats 4000000 in
set_option maxRecDepth 100000 in
theorem wX0_step_11 {X : CX} {cy : Nat → ClassId} {q : Nat → Nat} {D : va_G} {A : Nat → Prop} {res : OS}  (C : Cx X cX0_step RX0 2 D (gty cy) A 6 0 0) (hR : Rt X none D (gty cy) A 0 0 (eV (wX0 cy q res))) (kR11 : OS × Int32 → OS) (kO11 : OS × Int32 → Prop) (hk11 : ∀ z, kO11 z → kR11 z = res → At X D A 2 0 0 11 [(0, .ref (q 11)), (1, .int z.2)] [] (wX0 cy q z.1)) (v : OS × Int32) (ok : kX0_step_11  kO11 v) (h : bX0_step_11  kR11 v = res) : At X D A 2 0 0 11 [(0, .ref (q 11)), (1, .int v.2)] [] (wX0 cy q v.1) := by
  unfold bX0_step_11 at h
  unfold kX0_step_11 at ok
  refine r_iload_n C 1 (dall tdX0_step 7 rfl) rfl ?_
  refine r_sipush (v := 160) C (dall tdX0_step 8 rfl) (by decide) ?_
  refine r_icmp_ge (tgt := 60) C (dall tdX0_step 9 rfl) (by decide) (fun c11 => ?_) (fun c11 => ?_)
  · have h := (if_pos c11).symm.trans h
    have ok := ok.1 c11
    refine r_pick [0] rfl ?_
    exact wX0_step_60 v.1 C hR  ok h
  · have h := (if_neg c11).symm.trans h
    have ok := ok.2 c11
    refine r_aload_n C 0 (dall tdX0_step 10 rfl) rfl ?_
    refine r_get C 0 kw_X0 rfl rfl (by decide) kf_X0_28 rfl rfl (dall tdX0_step 11 rfl) ?_
    refine r_aload_n C 0 (dall tdX0_step 12 rfl) rfl ?_
    refine r_get C 0 kw_X0 rfl rfl (by decide) kf_X0_21 rfl rfl (dall tdX0_step 13 rfl) ?_
    refine r_icmp_ge (tgt := 60) C (dall tdX0_step 14 rfl) (by decide) (fun c12 => ?_) (fun c12 => ?_)
    · have h := (if_pos c12).symm.trans h
      have ok := ok.1 c12
      refine r_pick [0] rfl ?_
      exact wX0_step_60 v.1 C hR  ok h
    · have h := (if_neg c12).symm.trans h
      have ok := ok.2 c12
      refine r_aload_n C 0 (dall tdX0_step 15 rfl) rfl ?_
      refine r_get C 0 kw_X0 rfl rfl (by decide) kf_X0_9 rfl rfl (dall tdX0_step 16 rfl) ?_
      refine r_aload_n C 0 (dall tdX0_step 17 rfl) rfl ?_
      refine r_get C 0 kw_X0 rfl rfl (by decide) kf_X0_28 rfl rfl (dall tdX0_step 18 rfl) ?_
      obtain ⟨o13, ok⟩ := ok
      refine r_iald C 1 0 rfl rfl o13 (dall tdX0_step 19 rfl) ?_
      refine r_s0I (as := [.int (v.1.2.2.1 1 (v.1.1 5).toNatClampNeg)]) C (zX0_isBlank (v.1.2.2.1 1 (v.1.1 5).toNatClampNeg) ) ms_X0_isBlank km_X0_96 (by decide) (by decide) ⟨Nat.le_refl _, Nat.le_refl _⟩ rfl rfl (Nat.le_of_ble_eq_true rfl) (dall tdX0_step 20 rfl) ?_
      refine r_if_eq (tgt := 60) C (dall tdX0_step 21 rfl) (by decide) (fun c14 => ?_) (fun c14 => ?_)
      · have h := (if_pos c14).symm.trans h
        have ok := ok.1 c14
        refine r_pick [0] rfl ?_
        exact wX0_step_60 v.1 C hR  ok h
      · have h := (if_neg c14).symm.trans h
        have ok := ok.2 c14
        refine r_aload_n C 0 (dall tdX0_step 22 rfl) rfl ?_
        refine r_dup C (dall tdX0_step 23 rfl) rfl ?_
        refine r_get C 0 kw_X0 rfl rfl (by decide) kf_X0_28 rfl rfl (dall tdX0_step 24 rfl) ?_
        refine r_iconst (v := 1) C (dall tdX0_step 25 rfl) (by decide) ?_
        refine r_iadd C (dall tdX0_step 26 rfl) ?_
        refine r_put C 0 kw_X0 tyX0_ok nmX0 rfl rfl (by decide) kf_X0_28 rfl rfl rfl rfl rfl (Nat.le_of_ble_eq_true rfl) (pu_X0_this_5 cy q v.1 ((v.1.1 5) + 1)) (dall tdX0_step 27 rfl) ?_
        refine r_iinc (v := v.2 + 1) (lv' := [(1, .int (v.2 + 1)), (0, .ref (q 11))]) C 1 (dall tdX0_step 28 rfl) rfl rfl (by decide) rfl ?_
        refine r_goto (tgt := 11) C (dall tdX0_step 29 rfl) (by decide) ?_
        refine r_pick [1, 0] rfl ?_
        exact hk11 (oI v.1 5 ((v.1.1 5) + 1), v.2 + 1) ok h
set_option maxHeartbeats 4000000 in
set_option maxRecDepth 100000 in
theorem lX0_step_11 {X : CX} {cy : Nat → ClassId} {q : Nat → Nat} {D : va_G} {A : Nat → Prop} {res : OS}  (C : Cx X cX0_step RX0 2 D (gty cy) A 6 0 0) (hR : Rt X none D (gty cy) A 0 0 (eV (wX0 cy q res)))  (n : Nat) (v : OS × Int32) (ok : lpOk (kX0_step_11  ) n v) (h : lp o0 (bX0_step_11  ) n v = res) : At X D A 2 0 0 11 [(0, .ref (q 11)), (1, .int v.2)] [] (wX0 cy q v.1) :=
  lp_rule (fun v rr_ => rr_ = res → At X D A 2 0 0 11 [(0, .ref (q 11)), (1, .int v.2)] [] (wX0 cy q v.1)) (fun kR kO hk v ok h => wX0_step_11  C hR  kR kO hk v ok h) n v ok h
def pX0_step_0  (σ : OS) : OS := if (σ.1 10) = (-1) then lp o0 (bX0_step_11  ) fu (σ, 0) else σ
def oX0_step_0  (σ : OS) : Prop := ((σ.1 10) = (-1) → lpOk (kX0_step_11  ) fu (σ, 0)) ∧ (¬ ((σ.1 10) = (-1)) → True)
set_option maxHeartbeats 4000000 in
set_option maxRecDepth 100000 in
theorem wX0_step_0 {X : CX} {cy : Nat → ClassId} {q : Nat → Nat} {D : va_G} {A : Nat → Prop} {res : OS} (σ : OS) (C : Cx X cX0_step RX0 2 D (gty cy) A 6 0 0) (hR : Rt X none D (gty cy) A 0 0 (eV (wX0 cy q res)))  (ok : oX0_step_0  σ) (h : pX0_step_0  σ = res) : At X D A 2 0 0 0 [(0, .ref (q 11))] [] (wX0 cy q σ) := by
  unfold pX0_step_0 at h
  unfold oX0_step_0 at ok
  refine r_aload_n C 0 (dall tdX0_step 0 rfl) rfl ?_
  refine r_get C 0 kw_X0 rfl rfl (by decide) kf_X0_34 rfl rfl (dall tdX0_step 1 rfl) ?_
  refine r_iconst (v := -1) C (dall tdX0_step 2 rfl) (by decide) ?_
  refine r_icmp_eq (tgt := 9) C (dall tdX0_step 3 rfl) (by decide) (fun c15 => ?_) (fun c15 => ?_)
  · have h := (if_pos c15).symm.trans h
    have ok := ok.1 c15
    refine r_iconst (v := 0) C (dall tdX0_step 5 rfl) (by decide) ?_
    refine r_istore_n (lv' := [(1, .int 0), (0, .ref (q 11))]) C (dall tdX0_step 6 rfl) (by decide) rfl ?_
    refine r_pick [1, 0] rfl ?_
    exact lX0_step_11  C hR  fu _ ok h
  · have h := (if_neg c15).symm.trans h
    have ok := ok.2 c15
    exact r_vret C hR (dall tdX0_step 4 rfl) (by subst h; exact ⟨rfl, rfl⟩)
def fX0_step (σ : OS) : OS := pX0_step_0  σ
def gX0_step (σ : OS) : Prop := oX0_step_0  σ
set_option maxRecDepth 100000 in
theorem zX0_step (cy : Nat → ClassId) (q : Nat → Nat)  {D : va_G} (σ : OS) (ok : gX0_step σ )  : Con yX0_step cX0_step 2 none 6 0 0 D (gty cy) [.ref (q 11)] (wX0 cy q σ) (eV (wX0 cy q (fX0_step σ ))) :=
  Con.of (own := RX0) (by decide +kernel) rfl (Nat.le_of_ble_eq_true rfl) (Nat.zero_le _) (fun X A C hR _ => (wX0_step_0 σ C hR  ok rfl))
theorem mv_X0_step : MV yX0_step cX0_step 2 none RX0 0 := ⟨ki_X0_step, kv_X0_step, kn_X0, kc_X0_step, by decide +kernel⟩
def tbX0_refuse : List (Nat × Instr × Nat) := [(0, .aload_n 0, 1), (1, .getfield 34, 3), (4, .iconst (-1), 1), (5, .if_icmp .ne 11, 3), (8, .aload_n 0, 1), (9, .aload_n 0, 1), (10, .getfield 93, 3), (13, .putfield 34, 3), (16, .aload_n 0, 1), (17, .bipush 22, 2), (19, .putfield 61, 3), (22, .return_, 1)]
theorem tdX0_refuse : tbX0_refuse.all (fun q => decide (decode cX0_refuse q.1 = .ok q.2)) = true := by decide +kernel
def pX0_refuse_16  (σ : OS) : OS := oI σ 6 22
set_option maxHeartbeats 4000000 in
set_option maxRecDepth 100000 in
theorem wX0_refuse_16 {X : CX} {cy : Nat → ClassId} {q : Nat → Nat} {D : va_G} {A : Nat → Prop} {res : OS} (σ : OS) (C : Cx X cX0_refuse RX0 1 D (gty cy) A 0 0 0) (hR : Rt X none D (gty cy) A 0 0 (eV (wX0 cy q res)))  (h : pX0_refuse_16  σ = res) : At X D A 1 0 0 16 [(0, .ref (q 11))] [] (wX0 cy q σ) := by
  unfold pX0_refuse_16 at h
  refine r_aload_n C 0 (dall tdX0_refuse 8 rfl) rfl ?_
  refine r_bipush (v := 22) C (dall tdX0_refuse 9 rfl) (by decide) ?_
  refine r_put C 0 kw_X0 tyX0_ok nmX0 rfl rfl (by decide) kf_X0_61 rfl rfl rfl rfl rfl (Nat.le_of_ble_eq_true rfl) (pu_X0_this_6 cy q σ 22) (dall tdX0_refuse 10 rfl) ?_
  exact r_vret C hR (dall tdX0_refuse 11 rfl) (by subst h; exact ⟨rfl, rfl⟩)
def pX0_refuse_0  (σ : OS) : OS := if (σ.1 10) = (-1) then pX0_refuse_16  (oI σ 10 (σ.1 7)) else pX0_refuse_16  σ
set_option maxHeartbeats 4000000 in
set_option maxRecDepth 100000 in
theorem wX0_refuse_0 {X : CX} {cy : Nat → ClassId} {q : Nat → Nat} {D : va_G} {A : Nat → Prop} {res : OS} (σ : OS) (C : Cx X cX0_refuse RX0 1 D (gty cy) A 0 0 0) (hR : Rt X none D (gty cy) A 0 0 (eV (wX0 cy q res)))  (h : pX0_refuse_0  σ = res) : At X D A 1 0 0 0 [(0, .ref (q 11))] [] (wX0 cy q σ) := by
  unfold pX0_refuse_0 at h
  refine r_aload_n C 0 (dall tdX0_refuse 0 rfl) rfl ?_
  refine r_get C 0 kw_X0 rfl rfl (by decide) kf_X0_34 rfl rfl (dall tdX0_refuse 1 rfl) ?_
  refine r_iconst (v := -1) C (dall tdX0_refuse 2 rfl) (by decide) ?_
  refine r_icmp_ne (tgt := 16) C (dall tdX0_refuse 3 rfl) (by decide) (fun c1 => ?_) (fun c1 => ?_)
  · have h := (if_neg c1).symm.trans h
    exact wX0_refuse_16 σ C hR  h
  · have h := (if_pos c1).symm.trans h
    refine r_aload_n C 0 (dall tdX0_refuse 4 rfl) rfl ?_
    refine r_aload_n C 0 (dall tdX0_refuse 5 rfl) rfl ?_
    refine r_get C 0 kw_X0 rfl rfl (by decide) kf_X0_93 rfl rfl (dall tdX0_refuse 6 rfl) ?_
    refine r_put C 0 kw_X0 tyX0_ok nmX0 rfl rfl (by decide) kf_X0_34 rfl rfl rfl rfl rfl (Nat.le_of_ble_eq_true rfl) (pu_X0_this_10 cy q σ (σ.1 7)) (dall tdX0_refuse 7 rfl) ?_
    exact wX0_refuse_16 (oI σ 10 (σ.1 7)) C hR  h
def fX0_refuse (σ : OS) : OS := pX0_refuse_0  σ
set_option maxRecDepth 100000 in
theorem zX0_refuse (cy : Nat → ClassId) (q : Nat → Nat)  {D : va_G} (σ : OS)  : Con yX0_refuse cX0_refuse 1 none 0 0 0 D (gty cy) [.ref (q 11)] (wX0 cy q σ) (eV (wX0 cy q (fX0_refuse σ ))) :=
  Con.of (own := RX0) (by decide +kernel) rfl (Nat.le_of_ble_eq_true rfl) (Nat.zero_le _) (fun X A C hR _ => (wX0_refuse_0 σ C hR  rfl))
theorem mv_X0_refuse : MV yX0_refuse cX0_refuse 1 none RX0 0 := ⟨ki_X0_refuse, kv_X0_refuse, kn_X0, kc_X0_refuse, by decide +kernel⟩
def tbX0_expect : List (Nat × Instr × Nat) := [(0, .aload_n 0, 1), (1, .getfield 61, 3), (4, .iload_n 1, 1), (5, .if_icmp .ne 10, 3), (8, .aload_n 0, 1), (9, .invokevirtual 37, 3), (12, .goto 7, 3), (15, .aload_n 0, 1), (16, .invokevirtual 90, 3), (19, .return_, 1)]
theorem tdX0_expect : tbX0_expect.all (fun q => decide (decode cX0_expect q.1 = .ok q.2)) = true := by decide +kernel
def pX0_expect_19  (σ : OS) : OS := σ
set_option maxHeartbeats 4000000 in
set_option maxRecDepth 100000 in
theorem wX0_expect_19 {X : CX} {cy : Nat → ClassId} {q : Nat → Nat} {D : va_G} {A : Nat → Prop} {res : OS} (σ : OS) (C : Cx X cX0_expect RX0 2 D (gty cy) A 7 0 0) (hR : Rt X none D (gty cy) A 0 0 (eV (wX0 cy q res)))  (h : pX0_expect_19  σ = res) : At X D A 2 0 0 19 [] [] (wX0 cy q σ) := by
  unfold pX0_expect_19 at h
  exact r_vret C hR (dall tdX0_expect 9 rfl) (by subst h; exact ⟨rfl, rfl⟩)
def pX0_expect_12  (σ : OS) : OS := pX0_expect_19  σ
set_option maxHeartbeats 4000000 in
set_option maxRecDepth 100000 in
theorem wX0_expect_12 {X : CX} {cy : Nat → ClassId} {q : Nat → Nat} {D : va_G} {A : Nat → Prop} {res : OS} (σ : OS) (C : Cx X cX0_expect RX0 2 D (gty cy) A 7 0 0) (hR : Rt X none D (gty cy) A 0 0 (eV (wX0 cy q res)))  (h : pX0_expect_12  σ = res) : At X D A 2 0 0 12 [] [] (wX0 cy q σ) := by
  unfold pX0_expect_12 at h
  refine r_goto (tgt := 19) C (dall tdX0_expect 6 rfl) (by decide) ?_
  exact wX0_expect_19 σ C hR  h
def pX0_expect_0  (σ : OS) (a1_ : Int32) : OS := if (σ.1 6) = a1_ then pX0_expect_12  (fX0_step σ) else pX0_expect_19  (fX0_refuse σ)
def oX0_expect_0  (σ : OS) (a1_ : Int32) : Prop := ((σ.1 6) = a1_ → gX0_step σ ) ∧ (¬ ((σ.1 6) = a1_) → True)
set_option maxHeartbeats 4000000 in
set_option maxRecDepth 100000 in
theorem wX0_expect_0 {X : CX} {cy : Nat → ClassId} {q : Nat → Nat} {D : va_G} {A : Nat → Prop} {res : OS} (σ : OS) (a1_ : Int32) (C : Cx X cX0_expect RX0 2 D (gty cy) A 7 0 0) (hR : Rt X none D (gty cy) A 0 0 (eV (wX0 cy q res)))  (ok : oX0_expect_0  σ a1_) (h : pX0_expect_0  σ a1_ = res) : At X D A 2 0 0 0 [(0, .ref (q 11)), (1, .int a1_)] [] (wX0 cy q σ) := by
  unfold pX0_expect_0 at h
  unfold oX0_expect_0 at ok
  refine r_aload_n C 0 (dall tdX0_expect 0 rfl) rfl ?_
  refine r_get C 0 kw_X0 rfl rfl (by decide) kf_X0_61 rfl rfl (dall tdX0_expect 1 rfl) ?_
  refine r_iload_n C 1 (dall tdX0_expect 2 rfl) rfl ?_
  refine r_icmp_ne (tgt := 15) C (dall tdX0_expect 3 rfl) (by decide) (fun c1 => ?_) (fun c1 => ?_)
  · have h := (if_neg c1).symm.trans h
    have ok := ok.2 c1
    refine r_aload_n C 0 (dall tdX0_expect 7 rfl) rfl ?_
    refine r_vV (as := []) C (zX0_refuse cy q σ  ) mv_X0_refuse km_X0_90 (by decide) (by decide) ⟨Nat.le_refl _, Nat.le_refl _⟩ rfl rfl rfl rfl (Nat.le_of_ble_eq_true rfl) (dall tdX0_expect 8 rfl) ?_
    refine r_pick [] rfl ?_
    exact wX0_expect_19 (fX0_refuse σ) C hR  h
  · have h := (if_pos c1).symm.trans h
    have ok := ok.1 c1
    refine r_aload_n C 0 (dall tdX0_expect 4 rfl) rfl ?_
    have o2 := ok
    refine r_vV (as := []) C (zX0_step cy q σ  o2) mv_X0_step km_X0_37 (by decide) (by decide) ⟨Nat.le_refl _, Nat.le_refl _⟩ rfl rfl rfl rfl (Nat.le_of_ble_eq_true rfl) (dall tdX0_expect 5 rfl) ?_
    refine r_pick [] rfl ?_
    exact wX0_expect_12 (fX0_step σ) C hR  h
def fX0_expect (σ : OS) (a1_ : Int32) : OS := pX0_expect_0  σ a1_
def gX0_expect (σ : OS) (a1_ : Int32) : Prop := oX0_expect_0  σ a1_
set_option maxRecDepth 100000 in
theorem zX0_expect (cy : Nat → ClassId) (q : Nat → Nat)  {D : va_G} (σ : OS) (a1_ : Int32) (ok : gX0_expect σ a1_)  : Con yX0_expect cX0_expect 2 none 7 0 0 D (gty cy) [.ref (q 11), .int a1_] (wX0 cy q σ) (eV (wX0 cy q (fX0_expect σ a1_))) :=
  Con.of (own := RX0) (by decide +kernel) rfl (Nat.le_of_ble_eq_true rfl) (Nat.zero_le _) (fun X A C hR _ => (wX0_expect_0 σ a1_ C hR  ok rfl))
theorem mv_X0_expect : MV yX0_expect cX0_expect 2 none RX0 1 := ⟨ki_X0_expect, kv_X0_expect, kn_X0, kc_X0_expect, by decide +kernel⟩
def tbX0_opens : List (Nat × Instr × Nat) := [(0, .aload_n 0, 1), (1, .getfield 31, 3), (4, .iconst 5, 1), (5, .if_icmp .lt 9, 3), (8, .aload_n 0, 1), (9, .invokevirtual 90, 3), (12, .iconst 0, 1), (13, .ireturn, 1), (14, .aload_n 0, 1), (15, .dup, 1), (16, .getfield 31, 3), (19, .iconst 1, 1), (20, .iadd, 1), (21, .putfield 31, 3), (24, .aload_n 0, 1), (25, .invokevirtual 37, 3), (28, .iconst 1, 1), (29, .ireturn, 1)]
theorem tdX0_opens : tbX0_opens.all (fun q => decide (decode cX0_opens q.1 = .ok q.2)) = true := by decide +kernel
def pX0_opens_28  (σ : OS) : Int32 × OS := (1, σ)
set_option maxHeartbeats 4000000 in
set_option maxRecDepth 100000 in
theorem wX0_opens_28 {X : CX} {cy : Nat → ClassId} {q : Nat → Nat} {D : va_G} {A : Nat → Prop} {res : Int32 × OS} (σ : OS) (C : Cx X cX0_opens RX0 1 D (gty cy) A 7 0 0) (hR : Rt X (some .boolean) D (gty cy) A 0 0 (eI (wX0 cy q res.2) res.1))  (h : pX0_opens_28  σ = res) : At X D A 1 0 0 28 [] [] (wX0 cy q σ) := by
  unfold pX0_opens_28 at h
  refine r_iconst (v := 1) C (dall tdX0_opens 16 rfl) (by decide) ?_
  exact r_zret C (by decide) hR (dall tdX0_opens 17 rfl) (by subst h; exact ⟨rfl, rfl⟩)
def pX0_opens_12  (σ : OS) : Int32 × OS := (0, σ)
set_option maxHeartbeats 4000000 in
set_option maxRecDepth 100000 in
theorem wX0_opens_12 {X : CX} {cy : Nat → ClassId} {q : Nat → Nat} {D : va_G} {A : Nat → Prop} {res : Int32 × OS} (σ : OS) (C : Cx X cX0_opens RX0 1 D (gty cy) A 7 0 0) (hR : Rt X (some .boolean) D (gty cy) A 0 0 (eI (wX0 cy q res.2) res.1))  (h : pX0_opens_12  σ = res) : At X D A 1 0 0 12 [] [] (wX0 cy q σ) := by
  unfold pX0_opens_12 at h
  refine r_iconst (v := 0) C (dall tdX0_opens 6 rfl) (by decide) ?_
  exact r_zret C (by decide) hR (dall tdX0_opens 7 rfl) (by subst h; exact ⟨rfl, rfl⟩)
def pX0_opens_0  (σ : OS) : Int32 × OS := if (σ.1 9) < 5 then pX0_opens_28  (fX0_step (oI σ 9 ((σ.1 9) + 1))) else pX0_opens_12  (fX0_refuse σ)
def oX0_opens_0  (σ : OS) : Prop := ((σ.1 9) < 5 → gX0_step (oI σ 9 ((σ.1 9) + 1)) ) ∧ (¬ ((σ.1 9) < 5) → True)
set_option maxHeartbeats 4000000 in
set_option maxRecDepth 100000 in
theorem wX0_opens_0 {X : CX} {cy : Nat → ClassId} {q : Nat → Nat} {D : va_G} {A : Nat → Prop} {res : Int32 × OS} (σ : OS) (C : Cx X cX0_opens RX0 1 D (gty cy) A 7 0 0) (hR : Rt X (some .boolean) D (gty cy) A 0 0 (eI (wX0 cy q res.2) res.1))  (ok : oX0_opens_0  σ) (h : pX0_opens_0  σ = res) : At X D A 1 0 0 0 [(0, .ref (q 11))] [] (wX0 cy q σ) := by
  unfold pX0_opens_0 at h
  unfold oX0_opens_0 at ok
  refine r_aload_n C 0 (dall tdX0_opens 0 rfl) rfl ?_
  refine r_get C 0 kw_X0 rfl rfl (by decide) kf_X0_31 rfl rfl (dall tdX0_opens 1 rfl) ?_
  refine r_iconst (v := 5) C (dall tdX0_opens 2 rfl) (by decide) ?_
  refine r_icmp_lt (tgt := 14) C (dall tdX0_opens 3 rfl) (by decide) (fun c1 => ?_) (fun c1 => ?_)
  · have h := (if_pos c1).symm.trans h
    have ok := ok.1 c1
    refine r_aload_n C 0 (dall tdX0_opens 8 rfl) rfl ?_
    refine r_dup C (dall tdX0_opens 9 rfl) rfl ?_
    refine r_get C 0 kw_X0 rfl rfl (by decide) kf_X0_31 rfl rfl (dall tdX0_opens 10 rfl) ?_
    refine r_iconst (v := 1) C (dall tdX0_opens 11 rfl) (by decide) ?_
    refine r_iadd C (dall tdX0_opens 12 rfl) ?_
    refine r_put C 0 kw_X0 tyX0_ok nmX0 rfl rfl (by decide) kf_X0_31 rfl rfl rfl rfl rfl (Nat.le_of_ble_eq_true rfl) (pu_X0_this_9 cy q σ ((σ.1 9) + 1)) (dall tdX0_opens 13 rfl) ?_
    refine r_aload_n C 0 (dall tdX0_opens 14 rfl) rfl ?_
    have o2 := ok
    refine r_vV (as := []) C (zX0_step cy q (oI σ 9 ((σ.1 9) + 1))  o2) mv_X0_step km_X0_37 (by decide) (by decide) ⟨Nat.le_refl _, Nat.le_refl _⟩ rfl rfl rfl rfl (Nat.le_of_ble_eq_true rfl) (dall tdX0_opens 15 rfl) ?_
    refine r_pick [] rfl ?_
    exact wX0_opens_28 (fX0_step (oI σ 9 ((σ.1 9) + 1))) C hR  h
  · have h := (if_neg c1).symm.trans h
    have ok := ok.2 c1
    refine r_aload_n C 0 (dall tdX0_opens 4 rfl) rfl ?_
    refine r_vV (as := []) C (zX0_refuse cy q σ  ) mv_X0_refuse km_X0_90 (by decide) (by decide) ⟨Nat.le_refl _, Nat.le_refl _⟩ rfl rfl rfl rfl (Nat.le_of_ble_eq_true rfl) (dall tdX0_opens 5 rfl) ?_
    refine r_pick [] rfl ?_
    exact wX0_opens_12 (fX0_refuse σ) C hR  h
def fX0_opens (σ : OS) : Int32 × OS := pX0_opens_0  σ
def gX0_opens (σ : OS) : Prop := oX0_opens_0  σ
set_option maxRecDepth 100000 in
theorem zX0_opens (cy : Nat → ClassId) (q : Nat → Nat)  {D : va_G} (σ : OS) (ok : gX0_opens σ )  : Con yX0_opens cX0_opens 1 (some .boolean) 7 0 0 D (gty cy) [.ref (q 11)] (wX0 cy q σ) (eI (wX0 cy q (fX0_opens σ ).2) (fX0_opens σ ).1) :=
  Con.of (own := RX0) (by decide +kernel) rfl (Nat.le_of_ble_eq_true rfl) (Nat.zero_le _) (fun X A C hR _ => (wX0_opens_0 σ C hR  ok rfl))
theorem mv_X0_opens : MV yX0_opens cX0_opens 1 (some .boolean) RX0 0 := ⟨ki_X0_opens, kv_X0_opens, kn_X0, kc_X0_opens, by decide +kernel⟩
def tbX0_write : List (Nat × Instr × Nat) := [(0, .aload_n 0, 1), (1, .getfield 25, 3), (4, .sipush 160, 3), (7, .if_icmp .ge 23, 3), (10, .aload_n 0, 1), (11, .getfield 15, 3), (14, .aload_n 0, 1), (15, .getfield 25, 3), (18, .iload_n 1, 1), (19, .iastore, 1), (20, .aload_n 0, 1), (21, .dup, 1), (22, .getfield 25, 3), (25, .iconst 1, 1), (26, .iadd, 1), (27, .putfield 25, 3), (30, .return_, 1)]
theorem tdX0_write : tbX0_write.all (fun q => decide (decode cX0_write q.1 = .ok q.2)) = true := by decide +kernel
def pX0_write_0  (σ : OS) (a1_ : Int32) : OS := if 160 ≤ (σ.1 4) then σ else oI (oS σ 2 ((σ.1 4).toNatClampNeg) a1_) 4 (((oS σ 2 ((σ.1 4).toNatClampNeg) a1_).1 4) + 1)
def oX0_write_0  (σ : OS) (a1_ : Int32) : Prop := (160 ≤ (σ.1 4) → True) ∧ (¬ (160 ≤ (σ.1 4)) → vp_in (σ.1 4) 160)
set_option maxHeartbeats 4000000 in
set_option maxRecDepth 100000 in
theorem wX0_write_0 {X : CX} {cy : Nat → ClassId} {q : Nat → Nat} {D : va_G} {A : Nat → Prop} {res : OS} (σ : OS) (a1_ : Int32) (C : Cx X cX0_write RX0 2 D (gty cy) A 0 0 0) (hR : Rt X none D (gty cy) A 0 0 (eV (wX0 cy q res)))  (ok : oX0_write_0  σ a1_) (h : pX0_write_0  σ a1_ = res) : At X D A 2 0 0 0 [(0, .ref (q 11)), (1, .int a1_)] [] (wX0 cy q σ) := by
  unfold pX0_write_0 at h
  unfold oX0_write_0 at ok
  refine r_aload_n C 0 (dall tdX0_write 0 rfl) rfl ?_
  refine r_get C 0 kw_X0 rfl rfl (by decide) kf_X0_25 rfl rfl (dall tdX0_write 1 rfl) ?_
  refine r_sipush (v := 160) C (dall tdX0_write 2 rfl) (by decide) ?_
  refine r_icmp_ge (tgt := 30) C (dall tdX0_write 3 rfl) (by decide) (fun c1 => ?_) (fun c1 => ?_)
  · have h := (if_pos c1).symm.trans h
    have ok := ok.1 c1
    exact r_vret C hR (dall tdX0_write 16 rfl) (by subst h; exact ⟨rfl, rfl⟩)
  · have h := (if_neg c1).symm.trans h
    have ok := ok.2 c1
    refine r_aload_n C 0 (dall tdX0_write 4 rfl) rfl ?_
    refine r_get C 0 kw_X0 rfl rfl (by decide) kf_X0_15 rfl rfl (dall tdX0_write 5 rfl) ?_
    refine r_aload_n C 0 (dall tdX0_write 6 rfl) rfl ?_
    refine r_get C 0 kw_X0 rfl rfl (by decide) kf_X0_25 rfl rfl (dall tdX0_write 7 rfl) ?_
    refine r_iload_n C 1 (dall tdX0_write 8 rfl) rfl ?_
    have o2 := ok
    refine r_iast C 2 0 rfl rfl o2 (pa_X0_this_2 cy q σ ((σ.1 4).toNatClampNeg) a1_) (dall tdX0_write 9 rfl) ?_
    refine r_aload_n C 0 (dall tdX0_write 10 rfl) rfl ?_
    refine r_dup C (dall tdX0_write 11 rfl) rfl ?_
    refine r_get C 0 kw_X0 rfl rfl (by decide) kf_X0_25 rfl rfl (dall tdX0_write 12 rfl) ?_
    refine r_iconst (v := 1) C (dall tdX0_write 13 rfl) (by decide) ?_
    refine r_iadd C (dall tdX0_write 14 rfl) ?_
    refine r_put C 0 kw_X0 tyX0_ok nmX0 rfl rfl (by decide) kf_X0_25 rfl rfl rfl rfl rfl (Nat.le_of_ble_eq_true rfl) (pu_X0_this_4 cy q (oS σ 2 ((σ.1 4).toNatClampNeg) a1_) (((oS σ 2 ((σ.1 4).toNatClampNeg) a1_).1 4) + 1)) (dall tdX0_write 15 rfl) ?_
    exact r_vret C hR (dall tdX0_write 16 rfl) (by subst h; exact ⟨rfl, rfl⟩)
def fX0_write (σ : OS) (a1_ : Int32) : OS := pX0_write_0  σ a1_
def gX0_write (σ : OS) (a1_ : Int32) : Prop := oX0_write_0  σ a1_
set_option maxRecDepth 100000 in
theorem zX0_write (cy : Nat → ClassId) (q : Nat → Nat)  {D : va_G} (σ : OS) (a1_ : Int32) (ok : gX0_write σ a1_)  : Con yX0_write cX0_write 2 none 0 0 0 D (gty cy) [.ref (q 11), .int a1_] (wX0 cy q σ) (eV (wX0 cy q (fX0_write σ a1_))) :=
  Con.of (own := RX0) (by decide +kernel) rfl (Nat.le_of_ble_eq_true rfl) (Nat.zero_le _) (fun X A C hR _ => (wX0_write_0 σ a1_ C hR  ok rfl))
theorem mv_X0_write : MV yX0_write cX0_write 2 none RX0 1 := ⟨ki_X0_write, kv_X0_write, kn_X0, kc_X0_write, by decide +kernel⟩

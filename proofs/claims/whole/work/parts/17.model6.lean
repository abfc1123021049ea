def tbX6_round : List (Nat × Instr × Nat) := [(0, .iload_n 1, 1), (1, .invokestatic 94, 3), (4, .ifCond .eq 29, 3), (7, .iload_n 2, 1), (8, .i2l, 1), (9, .lconst 0, 1), (10, .ldc2_w 78, 3), (13, .invokestatic 74, 3), (16, .ifCond .eq 17, 3), (19, .lconst 1, 1), (20, .iload_n 1, 1), (21, .lshl, 1), (22, .aload_n 0, 1), (23, .invokevirtual 147, 3), (26, .iload_n 2, 1), (27, .invokestatic 376, 3), (30, .goto 6, 3), (33, .ldc2_w 145, 3), (36, .lreturn, 1)]
theorem tdX6_round : tbX6_round.all (fun q => decide (decode cX6_round q.1 = .ok q.2)) = true := by decide +kernel
def pX6_round_0  (σ : OS) (a1_ : Int32) (a2_ : Int32) : Int64 := if (fX6_isCell a1_) = 0 then (-4611686018427387904) else if (fX6_in a2_.toInt64 0 (63)) = 0 then (-4611686018427387904) else fX6_comeTo (jshl 1 a1_) (fX6_stands σ) a2_
def oX6_round_0  (σ : OS) (a1_ : Int32) (a2_ : Int32) : Prop := (gX6_isCell a1_) ∧ (((fX6_isCell a1_) = 0 → True) ∧ (¬ ((fX6_isCell a1_) = 0) → ((fX6_in a2_.toInt64 0 (63)) = 0 → True) ∧ (¬ ((fX6_in a2_.toInt64 0 (63)) = 0) → (gX6_stands σ ) ∧ (gX6_comeTo (jshl 1 a1_) (fX6_stands σ) a2_))))
set_option maxHeartbeats 4000000 in
set_option maxRecDepth 100000 in
theorem wX6_round_0 {X : CX} {cy : Nat → ClassId} {q : Nat → Nat} {D : va_G} {A : Nat → Prop} {res : Int64} (σ : OS) (a1_ : Int32) (a2_ : Int32) (C : Cx X cX6_round RX6 3 D (gty cy) A 2 0 0) (hR : Rt X (some .long) D (gty cy) A 0 0 (eL (wX6 cy q σ) res))  (ok : oX6_round_0  σ a1_ a2_) (h : pX6_round_0  σ a1_ a2_ = res) : At X D A 3 0 0 0 [(0, .ref (q 41)), (1, .int a1_), (2, .int a2_)] [] (wX6 cy q σ) := by
  unfold pX6_round_0 at h
  unfold oX6_round_0 at ok
  refine r_iload_n C 1 (dall tdX6_round 0 rfl) rfl ?_
  obtain ⟨o1, ok⟩ := ok
  refine r_s0I (as := [.int a1_]) C (zX6_isCell a1_ o1) ms_X6_isCell km_X6_94 (by decide) (by decide) ⟨Nat.le_refl _, Nat.le_refl _⟩ rfl rfl (Nat.le_of_ble_eq_true rfl) (dall tdX6_round 1 rfl) ?_
  refine r_if_eq (tgt := 33) C (dall tdX6_round 2 rfl) (by decide) (fun c2 => ?_) (fun c2 => ?_)
  · have h := (if_pos c2).symm.trans h
    have ok := ok.1 c2
    refine r_ldc2 C kk_X6_145 (dall tdX6_round 17 rfl) ?_
    exact r_lret C hR (dall tdX6_round 18 rfl) (by subst h; exact ⟨rfl, rfl⟩)
  · have h := (if_neg c2).symm.trans h
    have ok := ok.2 c2
    refine r_iload_n C 2 (dall tdX6_round 3 rfl) rfl ?_
    refine r_i2l C (dall tdX6_round 4 rfl) ?_
    refine r_lconst (v := 0) C (dall tdX6_round 5 rfl) (by decide) ?_
    refine r_ldc2 C kk_X6_78 (dall tdX6_round 6 rfl) ?_
    refine r_s0I (as := [.long a2_.toInt64, .long 0, .long (63)]) C (zX6_in a2_.toInt64 0 (63) ) ms_X6_in km_X6_74 (by decide) (by decide) ⟨Nat.le_refl _, Nat.le_refl _⟩ rfl rfl (Nat.le_of_ble_eq_true rfl) (dall tdX6_round 7 rfl) ?_
    refine r_if_eq (tgt := 33) C (dall tdX6_round 8 rfl) (by decide) (fun c3 => ?_) (fun c3 => ?_)
    · have h := (if_pos c3).symm.trans h
      have ok := ok.1 c3
      refine r_ldc2 C kk_X6_145 (dall tdX6_round 17 rfl) ?_
      exact r_lret C hR (dall tdX6_round 18 rfl) (by subst h; exact ⟨rfl, rfl⟩)
    · have h := (if_neg c3).symm.trans h
      have ok := ok.2 c3
      refine r_lconst (v := 1) C (dall tdX6_round 9 rfl) (by decide) ?_
      refine r_iload_n C 1 (dall tdX6_round 10 rfl) rfl ?_
      refine r_lshl C (dall tdX6_round 11 rfl) ?_
      refine r_aload_n C 0 (dall tdX6_round 12 rfl) rfl ?_
      obtain ⟨o4, ok⟩ := ok
      refine r_vL (as := []) C (zX6_stands cy q σ  o4) mv_X6_stands km_X6_147 (by decide) (by decide) ⟨Nat.le_refl _, Nat.le_refl _⟩ rfl rfl rfl rfl (Nat.le_of_ble_eq_true rfl) (dall tdX6_round 13 rfl) ?_
      refine r_iload_n C 2 (dall tdX6_round 14 rfl) rfl ?_
      have o5 := ok
      refine r_s0L (as := [.long (jshl 1 a1_), .long (fX6_stands σ), .int a2_]) C (zX6_comeTo (jshl 1 a1_) (fX6_stands σ) a2_ o5) ms_X6_comeTo km_X6_376 (by decide) (by decide) ⟨Nat.le_refl _, Nat.le_refl _⟩ rfl rfl (Nat.le_of_ble_eq_true rfl) (dall tdX6_round 15 rfl) ?_
      refine r_goto (tgt := 36) C (dall tdX6_round 16 rfl) (by decide) ?_
      exact r_lret C hR (dall tdX6_round 18 rfl) (by subst h; exact ⟨rfl, rfl⟩)
def fX6_round (σ : OS) (a1_ : Int32) (a2_ : Int32) : Int64 := pX6_round_0  σ a1_ a2_
def gX6_round (σ : OS) (a1_ : Int32) (a2_ : Int32) : Prop := oX6_round_0  σ a1_ a2_
set_option maxRecDepth 100000 in
theorem zX6_round (cy : Nat → ClassId) (q : Nat → Nat)  {D : va_G} (σ : OS) (a1_ : Int32) (a2_ : Int32) (ok : gX6_round σ a1_ a2_)  : Con yX6_round cX6_round 3 (some .long) 2 0 0 D (gty cy) [.ref (q 41), .int a1_, .int a2_] (wX6 cy q σ) (eL (wX6 cy q σ) (fX6_round σ a1_ a2_)) :=
  Con.of (own := RX6) (by decide +kernel) rfl (Nat.le_of_ble_eq_true rfl) (Nat.zero_le _) (fun X A C hR _ => (wX6_round_0 σ a1_ a2_ C hR  ok rfl))
theorem mv_X6_round : MV yX6_round cX6_round 3 (some .long) RX6 2 := ⟨ki_X6_round, kv_X6_round, kn_X6, kc_X6_round, by decide +kernel⟩
def tbX6_reach : List (Nat × Instr × Nat) := [(0, .iload_n 1, 1), (1, .invokestatic 94, 3), (4, .ifCond .ne 6, 3), (7, .bipush (-2), 2), (9, .ireturn, 1), (10, .aload_n 0, 1), (11, .invokevirtual 147, 3), (14, .lstore_n 2, 1), (15, .lload_n 2, 1), (16, .iload_n 1, 1), (17, .invokestatic 97, 3), (20, .ifCond .eq 7, 3), (23, .iconst 0, 1), (24, .goto 28, 3), (27, .iload_n 1, 1), (28, .lload_n 2, 1), (29, .invokestatic 415, 3), (32, .ifCond .eq 7, 3), (35, .iconst 1, 1), (36, .goto 16, 3), (39, .iload_n 1, 1), (40, .lload_n 2, 1), (41, .invokestatic 419, 3), (44, .ifCond .eq 7, 3), (47, .iconst 2, 1), (48, .goto 4, 3), (51, .iconst (-1), 1), (52, .ireturn, 1)]
theorem tdX6_reach : tbX6_reach.all (fun q => decide (decode cX6_reach q.1 = .ok q.2)) = true := by decide +kernel
def pX6_reach_0  (σ : OS) (a1_ : Int32) : Int32 := if (fX6_isCell a1_) = 0 then (-2) else if (fX6_has (fX6_stands σ) a1_) = 0 then if (fX6_byOne a1_ (fX6_stands σ)) = 0 then if (fX6_byTwo a1_ (fX6_stands σ)) = 0 then (-1) else 2 else 1 else 0
def oX6_reach_0  (σ : OS) (a1_ : Int32) : Prop := (gX6_isCell a1_) ∧ (((fX6_isCell a1_) = 0 → True) ∧ (¬ ((fX6_isCell a1_) = 0) → (gX6_stands σ ) ∧ (((fX6_has (fX6_stands σ) a1_) = 0 → (gX6_byOne a1_ (fX6_stands σ)) ∧ (((fX6_byOne a1_ (fX6_stands σ)) = 0 → gX6_byTwo a1_ (fX6_stands σ)) ∧ (¬ ((fX6_byOne a1_ (fX6_stands σ)) = 0) → True))) ∧ (¬ ((fX6_has (fX6_stands σ) a1_) = 0) → True))))
set_option maxHeartbeats 4000000 in
set_option maxRecDepth 100000 in
theorem wX6_reach_0 {X : CX} {cy : Nat → ClassId} {q : Nat → Nat} {D : va_G} {A : Nat → Prop} {res : Int32} (σ : OS) (a1_ : Int32) (C : Cx X cX6_reach RX6 4 D (gty cy) A 4 0 0) (hR : Rt X (some .int) D (gty cy) A 0 0 (eI (wX6 cy q σ) res))  (ok : oX6_reach_0  σ a1_) (h : pX6_reach_0  σ a1_ = res) : At X D A 4 0 0 0 [(0, .ref (q 41)), (1, .int a1_)] [] (wX6 cy q σ) := by
  unfold pX6_reach_0 at h
  unfold oX6_reach_0 at ok
  refine r_iload_n C 1 (dall tdX6_reach 0 rfl) rfl ?_
  obtain ⟨o1, ok⟩ := ok
  refine r_s0I (as := [.int a1_]) C (zX6_isCell a1_ o1) ms_X6_isCell km_X6_94 (by decide) (by decide) ⟨Nat.le_refl _, Nat.le_refl _⟩ rfl rfl (Nat.le_of_ble_eq_true rfl) (dall tdX6_reach 1 rfl) ?_
  refine r_if_ne (tgt := 10) C (dall tdX6_reach 2 rfl) (by decide) (fun c2 => ?_) (fun c2 => ?_)
  · have h := (if_neg c2).symm.trans h
    have ok := ok.2 c2
    refine r_aload_n C 0 (dall tdX6_reach 5 rfl) rfl ?_
    obtain ⟨o3, ok⟩ := ok
    refine r_vL (as := []) C (zX6_stands cy q σ  o3) mv_X6_stands km_X6_147 (by decide) (by decide) ⟨Nat.le_refl _, Nat.le_refl _⟩ rfl rfl rfl rfl (Nat.le_of_ble_eq_true rfl) (dall tdX6_reach 6 rfl) ?_
    refine r_lstore_n (lv' := [(2, .long (fX6_stands σ)), (0, .ref (q 41)), (1, .int a1_)]) C (dall tdX6_reach 7 rfl) (by decide) rfl ?_
    refine r_lload_n C 0 (dall tdX6_reach 8 rfl) rfl ?_
    refine r_iload_n C 2 (dall tdX6_reach 9 rfl) rfl ?_
    refine r_s0I (as := [.long (fX6_stands σ), .int a1_]) C (zX6_has (fX6_stands σ) a1_ ) ms_X6_has km_X6_97 (by decide) (by decide) ⟨Nat.le_refl _, Nat.le_refl _⟩ rfl rfl (Nat.le_of_ble_eq_true rfl) (dall tdX6_reach 10 rfl) ?_
    refine r_if_eq (tgt := 27) C (dall tdX6_reach 11 rfl) (by decide) (fun c4 => ?_) (fun c4 => ?_)
    · have h := (if_pos c4).symm.trans h
      have ok := ok.1 c4
      refine r_iload_n C 2 (dall tdX6_reach 14 rfl) rfl ?_
      refine r_lload_n C 0 (dall tdX6_reach 15 rfl) rfl ?_
      obtain ⟨o5, ok⟩ := ok
      refine r_s0I (as := [.int a1_, .long (fX6_stands σ)]) C (zX6_byOne a1_ (fX6_stands σ) o5) ms_X6_byOne km_X6_415 (by decide) (by decide) ⟨Nat.le_refl _, Nat.le_refl _⟩ rfl rfl (Nat.le_of_ble_eq_true rfl) (dall tdX6_reach 16 rfl) ?_
      refine r_if_eq (tgt := 39) C (dall tdX6_reach 17 rfl) (by decide) (fun c6 => ?_) (fun c6 => ?_)
      · have h := (if_pos c6).symm.trans h
        have ok := ok.1 c6
        refine r_iload_n C 2 (dall tdX6_reach 20 rfl) rfl ?_
        refine r_lload_n C 0 (dall tdX6_reach 21 rfl) rfl ?_
        have o7 := ok
        refine r_s0I (as := [.int a1_, .long (fX6_stands σ)]) C (zX6_byTwo a1_ (fX6_stands σ) o7) ms_X6_byTwo km_X6_419 (by decide) (by decide) ⟨Nat.le_refl _, Nat.le_refl _⟩ rfl rfl (Nat.le_of_ble_eq_true rfl) (dall tdX6_reach 22 rfl) ?_
        refine r_if_eq (tgt := 51) C (dall tdX6_reach 23 rfl) (by decide) (fun c8 => ?_) (fun c8 => ?_)
        · have h := (if_pos c8).symm.trans h
          refine r_iconst (v := -1) C (dall tdX6_reach 26 rfl) (by decide) ?_
          exact r_iret C hR (dall tdX6_reach 27 rfl) (by subst h; exact ⟨rfl, rfl⟩)
        · have h := (if_neg c8).symm.trans h
          refine r_iconst (v := 2) C (dall tdX6_reach 24 rfl) (by decide) ?_
          refine r_goto (tgt := 52) C (dall tdX6_reach 25 rfl) (by decide) ?_
          exact r_iret C hR (dall tdX6_reach 27 rfl) (by subst h; exact ⟨rfl, rfl⟩)
      · have h := (if_neg c6).symm.trans h
        have ok := ok.2 c6
        refine r_iconst (v := 1) C (dall tdX6_reach 18 rfl) (by decide) ?_
        refine r_goto (tgt := 52) C (dall tdX6_reach 19 rfl) (by decide) ?_
        exact r_iret C hR (dall tdX6_reach 27 rfl) (by subst h; exact ⟨rfl, rfl⟩)
    · have h := (if_neg c4).symm.trans h
      have ok := ok.2 c4
      refine r_iconst (v := 0) C (dall tdX6_reach 12 rfl) (by decide) ?_
      refine r_goto (tgt := 52) C (dall tdX6_reach 13 rfl) (by decide) ?_
      exact r_iret C hR (dall tdX6_reach 27 rfl) (by subst h; exact ⟨rfl, rfl⟩)
  · have h := (if_pos c2).symm.trans h
    have ok := ok.1 c2
    refine r_bipush (v := -2) C (dall tdX6_reach 3 rfl) (by decide) ?_
    exact r_iret C hR (dall tdX6_reach 4 rfl) (by subst h; exact ⟨rfl, rfl⟩)
def fX6_reach (σ : OS) (a1_ : Int32) : Int32 := pX6_reach_0  σ a1_
def gX6_reach (σ : OS) (a1_ : Int32) : Prop := oX6_reach_0  σ a1_
set_option maxRecDepth 100000 in
theorem zX6_reach (cy : Nat → ClassId) (q : Nat → Nat)  {D : va_G} (σ : OS) (a1_ : Int32) (ok : gX6_reach σ a1_)  : Con yX6_reach cX6_reach 4 (some .int) 4 0 0 D (gty cy) [.ref (q 41), .int a1_] (wX6 cy q σ) (eI (wX6 cy q σ) (fX6_reach σ a1_)) :=
  Con.of (own := RX6) (by decide +kernel) rfl (Nat.le_of_ble_eq_true rfl) (Nat.zero_le _) (fun X A C hR _ => (wX6_reach_0 σ a1_ C hR  ok rfl))
theorem mv_X6_reach : MV yX6_reach cX6_reach 4 (some .int) RX6 1 := ⟨ki_X6_reach, kv_X6_reach, kn_X6, kc_X6_reach, by decide +kernel⟩
def tbX6_key : List (Nat × Instr × Nat) := [(0, .iload_n 1, 1), (1, .i2l, 1), (2, .lconst 0, 1), (3, .lconst 1, 1), (4, .invokestatic 74, 3), (7, .ifCond .ne 6, 3), (10, .bipush (-2), 2), (12, .ireturn, 1), (13, .iconst (-1), 1), (14, .istore_n 2, 1), (15, .iconst (-1), 1), (16, .istore_n 3, 1), (17, .aload_n 0, 1), (18, .invokevirtual 80, 3), (21, .lstore 4, 2), (23, .iconst 0, 1), (24, .istore 6, 2), (26, .iload 6, 2), (28, .bipush 64, 2), (30, .if_icmp .ge 72, 3), (33, .lload 4, 2), (35, .iload 6, 2), (37, .invokestatic 97, 3), (40, .ifCond .eq 56, 3), (43, .lload 4, 2), (45, .lconst 1, 1), (46, .iload 6, 2), (48, .lshl, 1), (49, .ldc2_w 105, 3), (52, .lxor, 1), (53, .land, 1), (54, .lstore 7, 2), (56, .lload 7, 2), (58, .aload_n 0, 1), (59, .getfield 25, 3), (62, .aload_n 0, 1), (63, .getfield 25, 3), (66, .lload 7, 2), (68, .lor, 1), (69, .bipush 64, 2), (71, .invokestatic 376, 3), (74, .ldc2_w 105, 3), (77, .lxor, 1), (78, .land, 1), (79, .invokestatic 138, 3), (82, .istore 9, 2), (84, .iload 9, 2), (86, .iload_n 3, 1), (87, .if_icmp .le 9, 3), (90, .iload 6, 2), (92, .istore_n 2, 1), (93, .iload 9, 2), (95, .istore_n 3, 1), (96, .iinc 6 1, 3), (99, .goto (-73), 3), (102, .iload_n 1, 1), (103, .ifCond .ne 7, 3), (106, .iload_n 2, 1), (107, .goto 4, 3), (110, .iload_n 3, 1), (111, .ireturn, 1)]
theorem tdX6_key : tbX6_key.all (fun q => decide (decode cX6_key q.1 = .ok q.2)) = true := by decide +kernel
def pX6_key_96 (kR26 : Int32 × Int32 × Int32 → Int32) (σ : OS) (a1_ : Int32) (a2_ : Int32) (a3_ : Int32) (a4_ : Int64) (a6_ : Int32) : Int32 := kR26 (a2_, a3_, a6_ + 1)
def oX6_key_96 (kO26 : Int32 × Int32 × Int32 → Prop) (σ : OS) (a1_ : Int32) (a2_ : Int32) (a3_ : Int32) (a4_ : Int64) (a6_ : Int32) : Prop := kO26 (a2_, a3_, a6_ + 1)
set_option maxHeartbeats 4000000 in
set_option maxRecDepth 100000 in
theorem wX6_key_96 {X : CX} {cy : Nat → ClassId} {q : Nat → Nat} {D : va_G} {A : Nat → Prop} {res : Int32} (σ : OS) (a1_ : Int32) (a2_ : Int32) (a3_ : Int32) (a4_ : Int64) (a6_ : Int32) (C : Cx X cX6_key RX6 10 D (gty cy) A 2 0 0) (hR : Rt X (some .int) D (gty cy) A 0 0 (eI (wX6 cy q σ) res)) (kR26 : Int32 × Int32 × Int32 → Int32) (kO26 : Int32 × Int32 × Int32 → Prop) (hk26 : ∀ z, kO26 z → kR26 z = res → At X D A 10 0 0 26 [(0, .ref (q 41)), (1, .int a1_), (2, .int z.1), (3, .int z.2.1), (4, .long a4_), (6, .int z.2.2)] [] (wX6 cy q σ)) (ok : oX6_key_96 kO26 σ a1_ a2_ a3_ a4_ a6_) (h : pX6_key_96 kR26 σ a1_ a2_ a3_ a4_ a6_ = res) : At X D A 10 0 0 96 [(0, .ref (q 41)), (1, .int a1_), (2, .int a2_), (3, .int a3_), (4, .long a4_), (6, .int a6_)] [] (wX6 cy q σ) := by
  unfold pX6_key_96 at h
  unfold oX6_key_96 at ok
  refine r_iinc (v := a6_ + 1) (lv' := [(6, .int (a6_ + 1)), (0, .ref (q 41)), (1, .int a1_), (2, .int a2_), (3, .int a3_), (4, .long a4_)]) C 5 (dall tdX6_key 53 rfl) rfl rfl (by decide) rfl ?_
  refine r_goto (tgt := 26) C (dall tdX6_key 54 rfl) (by decide) ?_
  refine r_pick [1, 2, 3, 4, 5, 0] rfl ?_
  exact hk26 (a2_, a3_, a6_ + 1) ok h
def bX6_key_26 (σ : OS) (a1_ : Int32) (a4_ : Int64)  (kR26 : Int32 × Int32 × Int32 → Int32) (v : Int32 × Int32 × Int32) : Int32 := if 64 ≤ v.2.2 then if a1_ = 0 then v.1 else v.2.1 else if (fX6_has a4_ v.2.2) = 0 then pX6_key_96 kR26 σ a1_ v.1 v.2.1 a4_ v.2.2 else if (fX6_bitsOf ((a4_ &&& ((jshl 1 v.2.2) ^^^ (-1))) &&& ((fX6_comeTo (σ.2.1 9) ((σ.2.1 9) ||| (a4_ &&& ((jshl 1 v.2.2) ^^^ (-1)))) 64) ^^^ (-1)))) ≤ v.2.1 then pX6_key_96 kR26 σ a1_ v.1 v.2.1 a4_ v.2.2 else pX6_key_96 kR26 σ a1_ v.2.2 (fX6_bitsOf ((a4_ &&& ((jshl 1 v.2.2) ^^^ (-1))) &&& ((fX6_comeTo (σ.2.1 9) ((σ.2.1 9) ||| (a4_ &&& ((jshl 1 v.2.2) ^^^ (-1)))) 64) ^^^ (-1)))) a4_ v.2.2
def kX6_key_26 (σ : OS) (a1_ : Int32) (a4_ : Int64)  (kO26 : Int32 × Int32 × Int32 → Prop) (v : Int32 × Int32 × Int32) : Prop := (64 ≤ v.2.2 → True) ∧ (¬ (64 ≤ v.2.2) → ((fX6_has a4_ v.2.2) = 0 → oX6_key_96 kO26 σ a1_ v.1 v.2.1 a4_ v.2.2) ∧ (¬ ((fX6_has a4_ v.2.2) = 0) → (gX6_comeTo (σ.2.1 9) ((σ.2.1 9) ||| (a4_ &&& ((jshl 1 v.2.2) ^^^ (-1)))) 64) ∧ ((gX6_bitsOf ((a4_ &&& ((jshl 1 v.2.2) ^^^ (-1))) &&& ((fX6_comeTo (σ.2.1 9) ((σ.2.1 9) ||| (a4_ &&& ((jshl 1 v.2.2) ^^^ (-1)))) 64) ^^^ (-1)))) ∧ (((fX6_bitsOf ((a4_ &&& ((jshl 1 v.2.2) ^^^ (-1))) &&& ((fX6_comeTo (σ.2.1 9) ((σ.2.1 9) ||| (a4_ &&& ((jshl 1 v.2.2) ^^^ (-1)))) 64) ^^^ (-1)))) ≤ v.2.1 → oX6_key_96 kO26 σ a1_ v.1 v.2.1 a4_ v.2.2) ∧ (¬ ((fX6_bitsOf ((a4_ &&& ((jshl 1 v.2.2) ^^^ (-1))) &&& ((fX6_comeTo (σ.2.1 9) ((σ.2.1 9) ||| (a4_ &&& ((jshl 1 v.2.2) ^^^ (-1)))) 64) ^^^ (-1)))) ≤ v.2.1) → oX6_key_96 kO26 σ a1_ v.2.2 (fX6_bitsOf ((a4_ &&& ((jshl 1 v.2.2) ^^^ (-1))) &&& ((fX6_comeTo (σ.2.1 9) ((σ.2.1 9) ||| (a4_ &&& ((jshl 1 v.2.2) ^^^ (-1)))) 64) ^^^ (-1)))) a4_ v.2.2)))))
set_option maxHeartbeats 4000000 in
set_option maxRecDepth 100000 in
theorem wX6_key_26 {X : CX} {cy : Nat → ClassId} {q : Nat → Nat} {D : va_G} {A : Nat → Prop} {res : Int32} (σ : OS) (a1_ : Int32) (a4_ : Int64) (C : Cx X cX6_key RX6 10 D (gty cy) A 2 0 0) (hR : Rt X (some .int) D (gty cy) A 0 0 (eI (wX6 cy q σ) res)) (kR26 : Int32 × Int32 × Int32 → Int32) (kO26 : Int32 × Int32 × Int32 → Prop) (hk26 : ∀ z, kO26 z → kR26 z = res → At X D A 10 0 0 26 [(0, .ref (q 41)), (1, .int a1_), (2, .int z.1), (3, .int z.2.1), (4, .long a4_), (6, .int z.2.2)] [] (wX6 cy q σ)) (v : Int32 × Int32 × Int32) (ok : kX6_key_26 σ a1_ a4_ kO26 v) (h : bX6_key_26 σ a1_ a4_ kR26 v = res) : At X D A 10 0 0 26 [(0, .ref (q 41)), (1, .int a1_), (2, .int v.1), (3, .int v.2.1), (4, .long a4_), (6, .int v.2.2)] [] (wX6 cy q σ) := by
  unfold bX6_key_26 at h
  unfold kX6_key_26 at ok
  refine r_iload C 5 (dall tdX6_key 17 rfl) rfl ?_
  refine r_bipush (v := 64) C (dall tdX6_key 18 rfl) (by decide) ?_
  refine r_icmp_ge (tgt := 102) C (dall tdX6_key 19 rfl) (by decide) (fun c1 => ?_) (fun c1 => ?_)
  · have h := (if_pos c1).symm.trans h
    have ok := ok.1 c1
    refine r_iload_n C 1 (dall tdX6_key 55 rfl) rfl ?_
    refine r_if_ne (tgt := 110) C (dall tdX6_key 56 rfl) (by decide) (fun c2 => ?_) (fun c2 => ?_)
    · have h := (if_neg c2).symm.trans h
      refine r_iload_n C 3 (dall tdX6_key 59 rfl) rfl ?_
      exact r_iret C hR (dall tdX6_key 60 rfl) (by subst h; exact ⟨rfl, rfl⟩)
    · have h := (if_pos c2).symm.trans h
      refine r_iload_n C 2 (dall tdX6_key 57 rfl) rfl ?_
      refine r_goto (tgt := 111) C (dall tdX6_key 58 rfl) (by decide) ?_
      exact r_iret C hR (dall tdX6_key 60 rfl) (by subst h; exact ⟨rfl, rfl⟩)
  · have h := (if_neg c1).symm.trans h
    have ok := ok.2 c1
    refine r_lload C 4 (dall tdX6_key 20 rfl) rfl ?_
    refine r_iload C 5 (dall tdX6_key 21 rfl) rfl ?_
    refine r_s0I (as := [.long a4_, .int v.2.2]) C (zX6_has a4_ v.2.2 ) ms_X6_has km_X6_97 (by decide) (by decide) ⟨Nat.le_refl _, Nat.le_refl _⟩ rfl rfl (Nat.le_of_ble_eq_true rfl) (dall tdX6_key 22 rfl) ?_
    refine r_if_eq (tgt := 96) C (dall tdX6_key 23 rfl) (by decide) (fun c3 => ?_) (fun c3 => ?_)
    · have h := (if_pos c3).symm.trans h
      have ok := ok.1 c3
      exact wX6_key_96 σ a1_ v.1 v.2.1 a4_ v.2.2 C hR kR26 kO26 hk26 ok h
    · have h := (if_neg c3).symm.trans h
      have ok := ok.2 c3
      refine r_lload C 4 (dall tdX6_key 24 rfl) rfl ?_
      refine r_lconst (v := 1) C (dall tdX6_key 25 rfl) (by decide) ?_
      refine r_iload C 5 (dall tdX6_key 26 rfl) rfl ?_
      refine r_lshl C (dall tdX6_key 27 rfl) ?_
      refine r_ldc2 C kk_X6_105 (dall tdX6_key 28 rfl) ?_
      refine r_lxor C (dall tdX6_key 29 rfl) ?_
      refine r_land C (dall tdX6_key 30 rfl) ?_
      refine r_lstore (lv' := [(7, .long (a4_ &&& ((jshl 1 v.2.2) ^^^ (-1)))), (0, .ref (q 41)), (1, .int a1_), (2, .int v.1), (3, .int v.2.1), (4, .long a4_), (6, .int v.2.2)]) C (dall tdX6_key 31 rfl) (by decide) rfl ?_
      refine r_lload C 0 (dall tdX6_key 32 rfl) rfl ?_
      refine r_aload_n C 1 (dall tdX6_key 33 rfl) rfl ?_
      refine r_get C 0 kw_X6 rfl rfl (by decide) kf_X6_25 rfl rfl (dall tdX6_key 34 rfl) ?_
      refine r_aload_n C 1 (dall tdX6_key 35 rfl) rfl ?_
      refine r_get C 0 kw_X6 rfl rfl (by decide) kf_X6_25 rfl rfl (dall tdX6_key 36 rfl) ?_
      refine r_lload C 0 (dall tdX6_key 37 rfl) rfl ?_
      refine r_lor C (dall tdX6_key 38 rfl) ?_
      refine r_bipush (v := 64) C (dall tdX6_key 39 rfl) (by decide) ?_
      obtain ⟨o4, ok⟩ := ok
      refine r_s0L (as := [.long (σ.2.1 9), .long ((σ.2.1 9) ||| (a4_ &&& ((jshl 1 v.2.2) ^^^ (-1)))), .int 64]) C (zX6_comeTo (σ.2.1 9) ((σ.2.1 9) ||| (a4_ &&& ((jshl 1 v.2.2) ^^^ (-1)))) 64 o4) ms_X6_comeTo km_X6_376 (by decide) (by decide) ⟨Nat.le_refl _, Nat.le_refl _⟩ rfl rfl (Nat.le_of_ble_eq_true rfl) (dall tdX6_key 40 rfl) ?_
      refine r_ldc2 C kk_X6_105 (dall tdX6_key 41 rfl) ?_
      refine r_lxor C (dall tdX6_key 42 rfl) ?_
      refine r_land C (dall tdX6_key 43 rfl) ?_
      obtain ⟨o5, ok⟩ := ok
      refine r_s0I (as := [.long ((a4_ &&& ((jshl 1 v.2.2) ^^^ (-1))) &&& ((fX6_comeTo (σ.2.1 9) ((σ.2.1 9) ||| (a4_ &&& ((jshl 1 v.2.2) ^^^ (-1)))) 64) ^^^ (-1)))]) C (zX6_bitsOf ((a4_ &&& ((jshl 1 v.2.2) ^^^ (-1))) &&& ((fX6_comeTo (σ.2.1 9) ((σ.2.1 9) ||| (a4_ &&& ((jshl 1 v.2.2) ^^^ (-1)))) 64) ^^^ (-1))) o5) ms_X6_bitsOf km_X6_138 (by decide) (by decide) ⟨Nat.le_refl _, Nat.le_refl _⟩ rfl rfl (Nat.le_of_ble_eq_true rfl) (dall tdX6_key 44 rfl) ?_
      refine r_istore (lv' := [(9, .int (fX6_bitsOf ((a4_ &&& ((jshl 1 v.2.2) ^^^ (-1))) &&& ((fX6_comeTo (σ.2.1 9) ((σ.2.1 9) ||| (a4_ &&& ((jshl 1 v.2.2) ^^^ (-1)))) 64) ^^^ (-1))))), (7, .long (a4_ &&& ((jshl 1 v.2.2) ^^^ (-1)))), (0, .ref (q 41)), (1, .int a1_), (2, .int v.1), (3, .int v.2.1), (4, .long a4_), (6, .int v.2.2)]) C (dall tdX6_key 45 rfl) (by decide) rfl ?_
      refine r_iload C 0 (dall tdX6_key 46 rfl) rfl ?_
      refine r_iload_n C 5 (dall tdX6_key 47 rfl) rfl ?_
      refine r_icmp_le (tgt := 96) C (dall tdX6_key 48 rfl) (by decide) (fun c6 => ?_) (fun c6 => ?_)
      · have h := (if_pos c6).symm.trans h
        have ok := ok.1 c6
        refine r_pick [2, 3, 4, 5, 6, 7] rfl ?_
        exact wX6_key_96 σ a1_ v.1 v.2.1 a4_ v.2.2 C hR kR26 kO26 hk26 ok h
      · have h := (if_neg c6).symm.trans h
        have ok := ok.2 c6
        refine r_iload C 7 (dall tdX6_key 49 rfl) rfl ?_
        refine r_istore_n (lv' := [(2, .int v.2.2), (9, .int (fX6_bitsOf ((a4_ &&& ((jshl 1 v.2.2) ^^^ (-1))) &&& ((fX6_comeTo (σ.2.1 9) ((σ.2.1 9) ||| (a4_ &&& ((jshl 1 v.2.2) ^^^ (-1)))) 64) ^^^ (-1))))), (7, .long (a4_ &&& ((jshl 1 v.2.2) ^^^ (-1)))), (0, .ref (q 41)), (1, .int a1_), (3, .int v.2.1), (4, .long a4_), (6, .int v.2.2)]) C (dall tdX6_key 50 rfl) (by decide) rfl ?_
        refine r_iload C 1 (dall tdX6_key 51 rfl) rfl ?_
        refine r_istore_n (lv' := [(3, .int (fX6_bitsOf ((a4_ &&& ((jshl 1 v.2.2) ^^^ (-1))) &&& ((fX6_comeTo (σ.2.1 9) ((σ.2.1 9) ||| (a4_ &&& ((jshl 1 v.2.2) ^^^ (-1)))) 64) ^^^ (-1))))), (2, .int v.2.2), (9, .int (fX6_bitsOf ((a4_ &&& ((jshl 1 v.2.2) ^^^ (-1))) &&& ((fX6_comeTo (σ.2.1 9) ((σ.2.1 9) ||| (a4_ &&& ((jshl 1 v.2.2) ^^^ (-1)))) 64) ^^^ (-1))))), (7, .long (a4_ &&& ((jshl 1 v.2.2) ^^^ (-1)))), (0, .ref (q 41)), (1, .int a1_), (4, .long a4_), (6, .int v.2.2)]) C (dall tdX6_key 52 rfl) (by decide) rfl ?_
        refine r_pick [4, 5, 1, 0, 6, 7] rfl ?_
        exact wX6_key_96 σ a1_ v.2.2 (fX6_bitsOf ((a4_ &&& ((jshl 1 v.2.2) ^^^ (-1))) &&& ((fX6_comeTo (σ.2.1 9) ((σ.2.1 9) ||| (a4_ &&& ((jshl 1 v.2.2) ^^^ (-1)))) 64) ^^^ (-1)))) a4_ v.2.2 C hR kR26 kO26 hk26 ok h
set_option maxHeartbeats 4000000 in
set_option maxRecDepth 100000 in
theorem lX6_key_26 {X : CX} {cy : Nat → ClassId} {q : Nat → Nat} {D : va_G} {A : Nat → Prop} {res : Int32} (σ : OS) (a1_ : Int32) (a4_ : Int64) (C : Cx X cX6_key RX6 10 D (gty cy) A 2 0 0) (hR : Rt X (some .int) D (gty cy) A 0 0 (eI (wX6 cy q σ) res))  (n : Nat) (v : Int32 × Int32 × Int32) (ok : lpOk (kX6_key_26 σ a1_ a4_ ) n v) (h : lp 0 (bX6_key_26 σ a1_ a4_ ) n v = res) : At X D A 10 0 0 26 [(0, .ref (q 41)), (1, .int a1_), (2, .int v.1), (3, .int v.2.1), (4, .long a4_), (6, .int v.2.2)] [] (wX6 cy q σ) :=
  lp_rule (fun v rr_ => rr_ = res → At X D A 10 0 0 26 [(0, .ref (q 41)), (1, .int a1_), (2, .int v.1), (3, .int v.2.1), (4, .long a4_), (6, .int v.2.2)] [] (wX6 cy q σ)) (fun kR kO hk v ok h => wX6_key_26 σ a1_ a4_ C hR  kR kO hk v ok h) n v ok h
def pX6_key_0  (σ : OS) (a1_ : Int32) : Int32 := if (fX6_in a1_.toInt64 0 1) = 0 then (-2) else lp 0 (bX6_key_26 σ a1_ (fX6_putAll σ) ) fu ((-1), (-1), 0)
def oX6_key_0  (σ : OS) (a1_ : Int32) : Prop := ((fX6_in a1_.toInt64 0 1) = 0 → True) ∧ (¬ ((fX6_in a1_.toInt64 0 1) = 0) → (gX6_putAll σ ) ∧ (lpOk (kX6_key_26 σ a1_ (fX6_putAll σ) ) fu ((-1), (-1), 0)))
set_option maxHeartbeats 4000000 in
set_option maxRecDepth 100000 in
theorem wX6_key_0 {X : CX} {cy : Nat → ClassId} {q : Nat → Nat} {D : va_G} {A : Nat → Prop} {res : Int32} (σ : OS) (a1_ : Int32) (C : Cx X cX6_key RX6 10 D (gty cy) A 2 0 0) (hR : Rt X (some .int) D (gty cy) A 0 0 (eI (wX6 cy q σ) res))  (ok : oX6_key_0  σ a1_) (h : pX6_key_0  σ a1_ = res) : At X D A 10 0 0 0 [(0, .ref (q 41)), (1, .int a1_)] [] (wX6 cy q σ) := by
  unfold pX6_key_0 at h
  unfold oX6_key_0 at ok
  refine r_iload_n C 1 (dall tdX6_key 0 rfl) rfl ?_
  refine r_i2l C (dall tdX6_key 1 rfl) ?_
  refine r_lconst (v := 0) C (dall tdX6_key 2 rfl) (by decide) ?_
  refine r_lconst (v := 1) C (dall tdX6_key 3 rfl) (by decide) ?_
  refine r_s0I (as := [.long a1_.toInt64, .long 0, .long 1]) C (zX6_in a1_.toInt64 0 1 ) ms_X6_in km_X6_74 (by decide) (by decide) ⟨Nat.le_refl _, Nat.le_refl _⟩ rfl rfl (Nat.le_of_ble_eq_true rfl) (dall tdX6_key 4 rfl) ?_
  refine r_if_ne (tgt := 13) C (dall tdX6_key 5 rfl) (by decide) (fun c7 => ?_) (fun c7 => ?_)
  · have h := (if_neg c7).symm.trans h
    have ok := ok.2 c7
    refine r_iconst (v := -1) C (dall tdX6_key 8 rfl) (by decide) ?_
    refine r_istore_n (lv' := [(2, .int (-1)), (0, .ref (q 41)), (1, .int a1_)]) C (dall tdX6_key 9 rfl) (by decide) rfl ?_
    refine r_iconst (v := -1) C (dall tdX6_key 10 rfl) (by decide) ?_
    refine r_istore_n (lv' := [(3, .int (-1)), (2, .int (-1)), (0, .ref (q 41)), (1, .int a1_)]) C (dall tdX6_key 11 rfl) (by decide) rfl ?_
    refine r_aload_n C 2 (dall tdX6_key 12 rfl) rfl ?_
    obtain ⟨o8, ok⟩ := ok
    refine r_vL (as := []) C (zX6_putAll cy q σ  o8) mv_X6_putAll km_X6_80 (by decide) (by decide) ⟨Nat.le_refl _, Nat.le_refl _⟩ rfl rfl rfl rfl (Nat.le_of_ble_eq_true rfl) (dall tdX6_key 13 rfl) ?_
    refine r_lstore (lv' := [(4, .long (fX6_putAll σ)), (3, .int (-1)), (2, .int (-1)), (0, .ref (q 41)), (1, .int a1_)]) C (dall tdX6_key 14 rfl) (by decide) rfl ?_
    refine r_iconst (v := 0) C (dall tdX6_key 15 rfl) (by decide) ?_
    refine r_istore (lv' := [(6, .int 0), (4, .long (fX6_putAll σ)), (3, .int (-1)), (2, .int (-1)), (0, .ref (q 41)), (1, .int a1_)]) C (dall tdX6_key 16 rfl) (by decide) rfl ?_
    refine r_pick [4, 5, 3, 2, 1, 0] rfl ?_
    exact lX6_key_26 σ a1_ (fX6_putAll σ) C hR  fu _ ok h
  · have h := (if_pos c7).symm.trans h
    have ok := ok.1 c7
    refine r_bipush (v := -2) C (dall tdX6_key 6 rfl) (by decide) ?_
    exact r_iret C hR (dall tdX6_key 7 rfl) (by subst h; exact ⟨rfl, rfl⟩)
def fX6_key (σ : OS) (a1_ : Int32) : Int32 := pX6_key_0  σ a1_
def gX6_key (σ : OS) (a1_ : Int32) : Prop := oX6_key_0  σ a1_
set_option maxRecDepth 100000 in
theorem zX6_key (cy : Nat → ClassId) (q : Nat → Nat)  {D : va_G} (σ : OS) (a1_ : Int32) (ok : gX6_key σ a1_)  : Con yX6_key cX6_key 10 (some .int) 2 0 0 D (gty cy) [.ref (q 41), .int a1_] (wX6 cy q σ) (eI (wX6 cy q σ) (fX6_key σ a1_)) :=
  Con.of (own := RX6) (by decide +kernel) rfl (Nat.le_of_ble_eq_true rfl) (Nat.zero_le _) (fun X A C hR _ => (wX6_key_0 σ a1_ C hR  ok rfl))
theorem mv_X6_key : MV yX6_key cX6_key 10 (some .int) RX6 1 := ⟨ki_X6_key, kv_X6_key, kn_X6, kc_X6_key, by decide +kernel⟩
def tbX6_putBehind : List (Nat × Instr × Nat) := [(0, .aload_n 0, 1), (1, .invokevirtual 405, 3), (4, .aload_n 0, 1), (5, .getfield 32, 3), (8, .iload_n 1, 1), (9, .dup2, 1), (10, .laload, 1), (11, .lload_n 2, 1), (12, .lor, 1), (13, .lastore, 1), (14, .aload_n 0, 1), (15, .iload 4, 2), (17, .invokevirtual 408, 3), (20, .aload_n 0, 1), (21, .invokevirtual 80, 3), (24, .invokestatic 138, 3), (27, .istore 5, 2), (29, .aload_n 0, 1), (30, .invokevirtual 412, 3), (33, .iload 5, 2), (35, .ireturn, 1)]
theorem tdX6_putBehind : tbX6_putBehind.all (fun q => decide (decode cX6_putBehind q.1 = .ok q.2)) = true := by decide +kernel
def pX6_putBehind_33  (σ : OS) (a5_ : Int32) : Int32 × OS := (a5_, σ)
set_option maxHeartbeats 4000000 in
set_option maxRecDepth 100000 in
theorem wX6_putBehind_33 {X : CX} {cy : Nat → ClassId} {q : Nat → Nat} {D : va_G} {A : Nat → Prop} {res : Int32 × OS} (σ : OS) (a5_ : Int32) (C : Cx X cX6_putBehind RX6 6 D (gty cy) A 46 0 0) (hR : Rt X (some .int) D (gty cy) A 0 0 (eI (wX6 cy q res.2) res.1))  (h : pX6_putBehind_33  σ a5_ = res) : At X D A 6 0 0 33 [(5, .int a5_)] [] (wX6 cy q σ) := by
  unfold pX6_putBehind_33 at h
  refine r_iload C 0 (dall tdX6_putBehind 19 rfl) rfl ?_
  exact r_iret C hR (dall tdX6_putBehind 20 rfl) (by subst h; exact ⟨rfl, rfl⟩)
def pX6_putBehind_20  (σ : OS) : Int32 × OS := pX6_putBehind_33  (fX6_laysBack σ) (fX6_bitsOf (fX6_putAll σ))
def oX6_putBehind_20  (σ : OS) : Prop := (gX6_putAll σ ) ∧ ((gX6_bitsOf (fX6_putAll σ)) ∧ (gX6_laysBack σ))
set_option maxHeartbeats 4000000 in
set_option maxRecDepth 100000 in
theorem wX6_putBehind_20 {X : CX} {cy : Nat → ClassId} {q : Nat → Nat} {D : va_G} {A : Nat → Prop} {res : Int32 × OS} (σ : OS) (C : Cx X cX6_putBehind RX6 6 D (gty cy) A 46 0 0) (hR : Rt X (some .int) D (gty cy) A 0 0 (eI (wX6 cy q res.2) res.1))  (ok : oX6_putBehind_20  σ) (h : pX6_putBehind_20  σ = res) : At X D A 6 0 0 20 [(0, .ref (q 41))] [] (wX6 cy q σ) := by
  unfold pX6_putBehind_20 at h
  unfold oX6_putBehind_20 at ok
  refine r_aload_n C 0 (dall tdX6_putBehind 13 rfl) rfl ?_
  obtain ⟨o1, ok⟩ := ok
  refine r_vL (as := []) C (zX6_putAll cy q σ  o1) mv_X6_putAll km_X6_80 (by decide) (by decide) ⟨Nat.le_refl _, Nat.le_refl _⟩ rfl rfl rfl rfl (Nat.le_of_ble_eq_true rfl) (dall tdX6_putBehind 14 rfl) ?_
  obtain ⟨o2, ok⟩ := ok
  refine r_s0I (as := [.long (fX6_putAll σ)]) C (zX6_bitsOf (fX6_putAll σ) o2) ms_X6_bitsOf km_X6_138 (by decide) (by decide) ⟨Nat.le_refl _, Nat.le_refl _⟩ rfl rfl (Nat.le_of_ble_eq_true rfl) (dall tdX6_putBehind 15 rfl) ?_
  refine r_istore (lv' := [(5, .int (fX6_bitsOf (fX6_putAll σ))), (0, .ref (q 41))]) C (dall tdX6_putBehind 16 rfl) (by decide) rfl ?_
  refine r_aload_n C 1 (dall tdX6_putBehind 17 rfl) rfl ?_
  have o3 := ok
  refine r_vV (as := []) C (zX6_laysBack cy q σ  o3) mv_X6_laysBack km_X6_412 (by decide) (by decide) ⟨Nat.le_refl _, Nat.le_refl _⟩ rfl rfl rfl rfl (Nat.le_of_ble_eq_true rfl) (dall tdX6_putBehind 18 rfl) ?_
  refine r_pick [0] rfl ?_
  exact wX6_putBehind_33 (fX6_laysBack σ) (fX6_bitsOf (fX6_putAll σ)) C hR  h
def pX6_putBehind_4  (σ : OS) (a1_ : Int32) (a2_ : Int64) (a4_ : Int32) : Int32 × OS := pX6_putBehind_20  (fX6_go (oT σ 11 a1_.toNatClampNeg ((σ.2.2.2 11 a1_.toNatClampNeg) ||| a2_)) a4_)
def oX6_putBehind_4  (σ : OS) (a1_ : Int32) (a2_ : Int64) (a4_ : Int32) : Prop := (vp_in a1_ 5) ∧ ((vp_in a1_ 5) ∧ ((gX6_go (oT σ 11 a1_.toNatClampNeg ((σ.2.2.2 11 a1_.toNatClampNeg) ||| a2_)) a4_) ∧ (oX6_putBehind_20  (fX6_go (oT σ 11 a1_.toNatClampNeg ((σ.2.2.2 11 a1_.toNatClampNeg) ||| a2_)) a4_))))
set_option maxHeartbeats 4000000 in
set_option maxRecDepth 100000 in
theorem wX6_putBehind_4 {X : CX} {cy : Nat → ClassId} {q : Nat → Nat} {D : va_G} {A : Nat → Prop} {res : Int32 × OS} (σ : OS) (a1_ : Int32) (a2_ : Int64) (a4_ : Int32) (C : Cx X cX6_putBehind RX6 6 D (gty cy) A 46 0 0) (hR : Rt X (some .int) D (gty cy) A 0 0 (eI (wX6 cy q res.2) res.1))  (ok : oX6_putBehind_4  σ a1_ a2_ a4_) (h : pX6_putBehind_4  σ a1_ a2_ a4_ = res) : At X D A 6 0 0 4 [(0, .ref (q 41)), (1, .int a1_), (2, .long a2_), (4, .int a4_)] [] (wX6 cy q σ) := by
  unfold pX6_putBehind_4 at h
  unfold oX6_putBehind_4 at ok
  refine r_aload_n C 0 (dall tdX6_putBehind 2 rfl) rfl ?_
  refine r_get C 0 kw_X6 rfl rfl (by decide) kf_X6_32 rfl rfl (dall tdX6_putBehind 3 rfl) ?_
  refine r_iload_n C 1 (dall tdX6_putBehind 4 rfl) rfl ?_
  refine r_dup2_11 C (dall tdX6_putBehind 5 rfl) rfl rfl ?_
  obtain ⟨o4, ok⟩ := ok
  refine r_lald C 5 1 rfl rfl o4 (dall tdX6_putBehind 6 rfl) ?_
  refine r_lload_n C 2 (dall tdX6_putBehind 7 rfl) rfl ?_
  refine r_lor C (dall tdX6_putBehind 8 rfl) ?_
  obtain ⟨o5, ok⟩ := ok
  refine r_last C 5 1 rfl rfl o5 (pa_X6_this_11 cy q σ a1_.toNatClampNeg ((σ.2.2.2 11 a1_.toNatClampNeg) ||| a2_)) (dall tdX6_putBehind 9 rfl) ?_
  refine r_aload_n C 0 (dall tdX6_putBehind 10 rfl) rfl ?_
  refine r_iload C 3 (dall tdX6_putBehind 11 rfl) rfl ?_
  obtain ⟨o6, ok⟩ := ok
  refine r_vV (as := [.int a4_]) C (zX6_go cy q (oT σ 11 a1_.toNatClampNeg ((σ.2.2.2 11 a1_.toNatClampNeg) ||| a2_)) a4_ o6) mv_X6_go km_X6_408 (by decide) (by decide) ⟨Nat.le_refl _, Nat.le_refl _⟩ rfl rfl rfl rfl (Nat.le_of_ble_eq_true rfl) (dall tdX6_putBehind 12 rfl) ?_
  refine r_pick [0] rfl ?_
  exact wX6_putBehind_20 (fX6_go (oT σ 11 a1_.toNatClampNeg ((σ.2.2.2 11 a1_.toNatClampNeg) ||| a2_)) a4_) C hR  ok h
def pX6_putBehind_0  (σ : OS) (a1_ : Int32) (a2_ : Int64) (a4_ : Int32) : Int32 × OS := pX6_putBehind_4  (fX6_laysAside σ) a1_ a2_ a4_
def oX6_putBehind_0  (σ : OS) (a1_ : Int32) (a2_ : Int64) (a4_ : Int32) : Prop := (gX6_laysAside σ ) ∧ (oX6_putBehind_4  (fX6_laysAside σ) a1_ a2_ a4_)
set_option maxHeartbeats 4000000 in
set_option maxRecDepth 100000 in
theorem wX6_putBehind_0 {X : CX} {cy : Nat → ClassId} {q : Nat → Nat} {D : va_G} {A : Nat → Prop} {res : Int32 × OS} (σ : OS) (a1_ : Int32) (a2_ : Int64) (a4_ : Int32) (C : Cx X cX6_putBehind RX6 6 D (gty cy) A 46 0 0) (hR : Rt X (some .int) D (gty cy) A 0 0 (eI (wX6 cy q res.2) res.1))  (ok : oX6_putBehind_0  σ a1_ a2_ a4_) (h : pX6_putBehind_0  σ a1_ a2_ a4_ = res) : At X D A 6 0 0 0 [(0, .ref (q 41)), (1, .int a1_), (2, .long a2_), (4, .int a4_)] [] (wX6 cy q σ) := by
  unfold pX6_putBehind_0 at h
  unfold oX6_putBehind_0 at ok
  refine r_aload_n C 0 (dall tdX6_putBehind 0 rfl) rfl ?_
  obtain ⟨o7, ok⟩ := ok
  refine r_vV (as := []) C (zX6_laysAside cy q σ  o7) mv_X6_laysAside km_X6_405 (by decide) (by decide) ⟨Nat.le_refl _, Nat.le_refl _⟩ rfl rfl rfl rfl (Nat.le_of_ble_eq_true rfl) (dall tdX6_putBehind 1 rfl) ?_
  exact wX6_putBehind_4 (fX6_laysAside σ) a1_ a2_ a4_ C hR  ok h
def fX6_putBehind (σ : OS) (a1_ : Int32) (a2_ : Int64) (a4_ : Int32) : Int32 × OS := pX6_putBehind_0  σ a1_ a2_ a4_
def gX6_putBehind (σ : OS) (a1_ : Int32) (a2_ : Int64) (a4_ : Int32) : Prop := oX6_putBehind_0  σ a1_ a2_ a4_
set_option maxRecDepth 100000 in
theorem zX6_putBehind (cy : Nat → ClassId) (q : Nat → Nat)  {D : va_G} (σ : OS) (a1_ : Int32) (a2_ : Int64) (a4_ : Int32) (ok : gX6_putBehind σ a1_ a2_ a4_)  : Con yX6_putBehind cX6_putBehind 6 (some .int) 46 0 0 D (gty cy) [.ref (q 41), .int a1_, .long a2_, .int a4_] (wX6 cy q σ) (eI (wX6 cy q (fX6_putBehind σ a1_ a2_ a4_).2) (fX6_putBehind σ a1_ a2_ a4_).1) :=
  Con.of (own := RX6) (by decide +kernel) rfl (Nat.le_of_ble_eq_true rfl) (Nat.zero_le _) (fun X A C hR _ => (wX6_putBehind_0 σ a1_ a2_ a4_ C hR  ok rfl))
theorem mv_X6_putBehind : MV yX6_putBehind cX6_putBehind 6 (some .int) RX6 3 := ⟨ki_X6_putBehind, kv_X6_putBehind, kn_X6, kc_X6_putBehind, by decide +kernel⟩
def tbX6_add : List (Nat × Instr × Nat) := [(0, .aload_n 0, 1), (1, .iload_n 1, 1), (2, .invokevirtual 90, 3), (5, .ifCond .eq 25, 3), (8, .iload_n 2, 1), (9, .i2l, 1), (10, .lconst 1, 1), (11, .ldc2_w 422, 3), (14, .invokestatic 74, 3), (17, .ifCond .eq 13, 3), (20, .iload_n 3, 1), (21, .i2l, 1), (22, .lconst 0, 1), (23, .lconst 1, 1), (24, .invokestatic 74, 3), (27, .ifCond .ne 6, 3), (30, .bipush (-2), 2), (32, .ireturn, 1), (33, .iconst (-1), 1), (34, .istore 4, 2), (36, .aload_n 0, 1), (37, .iload_n 1, 1), (38, .lconst 0, 1), (39, .iload_n 2, 1), (40, .invokevirtual 424, 3), (43, .istore 5, 2), (45, .aload_n 0, 1), (46, .invokevirtual 147, 3), (49, .lstore 6, 2), (51, .iconst 0, 1), (52, .istore 8, 2), (54, .iload 8, 2), (56, .sipush 384, 3), (59, .if_icmp .ge 71, 3), (62, .iload 8, 2), (64, .bipush 64, 2), (66, .idiv, 1), (67, .iload 8, 2), (69, .bipush 64, 2), (71, .irem, 1), (72, .invokestatic 391, 3), (75, .lstore 9, 2), (77, .lload 9, 2), (79, .lload 6, 2), (81, .invokestatic 395, 3), (84, .ifCond .eq 40, 3), (87, .aload_n 0, 1), (88, .iload_n 1, 1), (89, .lload 9, 2), (91, .iload_n 2, 1), (92, .invokevirtual 424, 3), (95, .istore 11, 2), (97, .iload 11, 2), (99, .iload 5, 2), (101, .if_icmp .le 23, 3), (104, .bipush 100, 2), (106, .iload 8, 2), (108, .bipush 64, 2), (110, .idiv, 1), (111, .imul, 1), (112, .iload 8, 2), (114, .bipush 64, 2), (116, .irem, 1), (117, .iadd, 1), (118, .istore 4, 2), (120, .iload 11, 2), (122, .istore 5, 2), (124, .iinc 8 1, 3), (127, .goto (-73), 3), (130, .iload_n 3, 1), (131, .ifCond .ne 8, 3), (134, .iload 4, 2), (136, .goto 5, 3), (139, .iload 5, 2), (141, .ireturn, 1)]
theorem tdX6_add : tbX6_add.all (fun q => decide (decode cX6_add q.1 = .ok q.2)) = true := by decide +kernel
def pX6_add_124 (kR54 : OS × Int32 × Int32 × Int32 → Int32 × OS) (σ : OS) (a1_ : Int32) (a2_ : Int32) (a3_ : Int32) (a4_ : Int32) (a5_ : Int32) (a6_ : Int64) (a8_ : Int32) : Int32 × OS := kR54 (σ, a4_, a5_, a8_ + 1)
def oX6_add_124 (kO54 : OS × Int32 × Int32 × Int32 → Prop) (σ : OS) (a1_ : Int32) (a2_ : Int32) (a3_ : Int32) (a4_ : Int32) (a5_ : Int32) (a6_ : Int64) (a8_ : Int32) : Prop := kO54 (σ, a4_, a5_, a8_ + 1)
set_option maxHeartbeats 4000000 in
set_option maxRecDepth 100000 in
theorem wX6_add_124 {X : CX} {cy : Nat → ClassId} {q : Nat → Nat} {D : va_G} {A : Nat → Prop} {res : Int32 × OS} (σ : OS) (a1_ : Int32) (a2_ : Int32) (a3_ : Int32) (a4_ : Int32) (a5_ : Int32) (a6_ : Int64) (a8_ : Int32) (C : Cx X cX6_add RX6 12 D (gty cy) A 47 0 0) (hR : Rt X (some .int) D (gty cy) A 0 0 (eI (wX6 cy q res.2) res.1)) (kR54 : OS × Int32 × Int32 × Int32 → Int32 × OS) (kO54 : OS × Int32 × Int32 × Int32 → Prop) (hk54 : ∀ z, kO54 z → kR54 z = res → At X D A 12 0 0 54 [(0, .ref (q 41)), (1, .int a1_), (2, .int a2_), (3, .int a3_), (4, .int z.2.1), (5, .int z.2.2.1), (6, .long a6_), (8, .int z.2.2.2)] [] (wX6 cy q z.1)) (ok : oX6_add_124 kO54 σ a1_ a2_ a3_ a4_ a5_ a6_ a8_) (h : pX6_add_124 kR54 σ a1_ a2_ a3_ a4_ a5_ a6_ a8_ = res) : At X D A 12 0 0 124 [(0, .ref (q 41)), (1, .int a1_), (2, .int a2_), (3, .int a3_), (4, .int a4_), (5, .int a5_), (6, .long a6_), (8, .int a8_)] [] (wX6 cy q σ) := by
  unfold pX6_add_124 at h
  unfold oX6_add_124 at ok
  refine r_iinc (v := a8_ + 1) (lv' := [(8, .int (a8_ + 1)), (0, .ref (q 41)), (1, .int a1_), (2, .int a2_), (3, .int a3_), (4, .int a4_), (5, .int a5_), (6, .long a6_)]) C 7 (dall tdX6_add 67 rfl) rfl rfl (by decide) rfl ?_
  refine r_goto (tgt := 54) C (dall tdX6_add 68 rfl) (by decide) ?_
  refine r_pick [1, 2, 3, 4, 5, 6, 7, 0] rfl ?_
  exact hk54 (σ, a4_, a5_, a8_ + 1) ok h
def pX6_add_95 (kR54 : OS × Int32 × Int32 × Int32 → Int32 × OS) (σ : OS) (a1_ : Int32) (a2_ : Int32) (a3_ : Int32) (a4_ : Int32) (a5_ : Int32) (a6_ : Int64) (a8_ : Int32) (b0_ : Int32) : Int32 × OS := if b0_ ≤ a5_ then pX6_add_124 kR54 σ a1_ a2_ a3_ a4_ a5_ a6_ a8_ else pX6_add_124 kR54 σ a1_ a2_ a3_ ((100 * (a8_ / 64)) + (a8_ - a8_ / 64 * 64)) b0_ a6_ a8_
def oX6_add_95 (kO54 : OS × Int32 × Int32 × Int32 → Prop) (σ : OS) (a1_ : Int32) (a2_ : Int32) (a3_ : Int32) (a4_ : Int32) (a5_ : Int32) (a6_ : Int64) (a8_ : Int32) (b0_ : Int32) : Prop := (b0_ ≤ a5_ → oX6_add_124 kO54 σ a1_ a2_ a3_ a4_ a5_ a6_ a8_) ∧ (¬ (b0_ ≤ a5_) → oX6_add_124 kO54 σ a1_ a2_ a3_ ((100 * (a8_ / 64)) + (a8_ - a8_ / 64 * 64)) b0_ a6_ a8_)
set_option maxHeartbeats 4000000 in
set_option maxRecDepth 100000 in
theorem wX6_add_95 {X : CX} {cy : Nat → ClassId} {q : Nat → Nat} {D : va_G} {A : Nat → Prop} {res : Int32 × OS} (σ : OS) (a1_ : Int32) (a2_ : Int32) (a3_ : Int32) (a4_ : Int32) (a5_ : Int32) (a6_ : Int64) (a8_ : Int32) (b0_ : Int32) (C : Cx X cX6_add RX6 12 D (gty cy) A 47 0 0) (hR : Rt X (some .int) D (gty cy) A 0 0 (eI (wX6 cy q res.2) res.1)) (kR54 : OS × Int32 × Int32 × Int32 → Int32 × OS) (kO54 : OS × Int32 × Int32 × Int32 → Prop) (hk54 : ∀ z, kO54 z → kR54 z = res → At X D A 12 0 0 54 [(0, .ref (q 41)), (1, .int a1_), (2, .int a2_), (3, .int a3_), (4, .int z.2.1), (5, .int z.2.2.1), (6, .long a6_), (8, .int z.2.2.2)] [] (wX6 cy q z.1)) (ok : oX6_add_95 kO54 σ a1_ a2_ a3_ a4_ a5_ a6_ a8_ b0_) (h : pX6_add_95 kR54 σ a1_ a2_ a3_ a4_ a5_ a6_ a8_ b0_ = res) : At X D A 12 0 0 95 [(0, .ref (q 41)), (1, .int a1_), (2, .int a2_), (3, .int a3_), (4, .int a4_), (5, .int a5_), (6, .long a6_), (8, .int a8_)] [.int b0_] (wX6 cy q σ) := by
  unfold pX6_add_95 at h
  unfold oX6_add_95 at ok
  refine r_istore (lv' := [(11, .int b0_), (0, .ref (q 41)), (1, .int a1_), (2, .int a2_), (3, .int a3_), (4, .int a4_), (5, .int a5_), (6, .long a6_), (8, .int a8_)]) C (dall tdX6_add 51 rfl) (by decide) rfl ?_
  refine r_iload C 0 (dall tdX6_add 52 rfl) rfl ?_
  refine r_iload C 6 (dall tdX6_add 53 rfl) rfl ?_
  refine r_icmp_le (tgt := 124) C (dall tdX6_add 54 rfl) (by decide) (fun c1 => ?_) (fun c1 => ?_)
  · have h := (if_pos c1).symm.trans h
    have ok := ok.1 c1
    refine r_pick [1, 2, 3, 4, 5, 6, 7, 8] rfl ?_
    exact wX6_add_124 σ a1_ a2_ a3_ a4_ a5_ a6_ a8_ C hR kR54 kO54 hk54 ok h
  · have h := (if_neg c1).symm.trans h
    have ok := ok.2 c1
    refine r_bipush (v := 100) C (dall tdX6_add 55 rfl) (by decide) ?_
    refine r_iload C 8 (dall tdX6_add 56 rfl) rfl ?_
    refine r_bipush (v := 64) C (dall tdX6_add 57 rfl) (by decide) ?_
    refine r_idiv C (dall tdX6_add 58 rfl) (by decide) ?_
    refine r_imul C (dall tdX6_add 59 rfl) ?_
    refine r_iload C 8 (dall tdX6_add 60 rfl) rfl ?_
    refine r_bipush (v := 64) C (dall tdX6_add 61 rfl) (by decide) ?_
    refine r_irem C (dall tdX6_add 62 rfl) (by decide) ?_
    refine r_iadd C (dall tdX6_add 63 rfl) ?_
    refine r_istore (lv' := [(4, .int ((100 * (a8_ / 64)) + (a8_ - a8_ / 64 * 64))), (11, .int b0_), (0, .ref (q 41)), (1, .int a1_), (2, .int a2_), (3, .int a3_), (5, .int a5_), (6, .long a6_), (8, .int a8_)]) C (dall tdX6_add 64 rfl) (by decide) rfl ?_
    refine r_iload C 1 (dall tdX6_add 65 rfl) rfl ?_
    refine r_istore (lv' := [(5, .int b0_), (4, .int ((100 * (a8_ / 64)) + (a8_ - a8_ / 64 * 64))), (11, .int b0_), (0, .ref (q 41)), (1, .int a1_), (2, .int a2_), (3, .int a3_), (6, .long a6_), (8, .int a8_)]) C (dall tdX6_add 66 rfl) (by decide) rfl ?_
    refine r_pick [3, 4, 5, 6, 1, 0, 7, 8] rfl ?_
    exact wX6_add_124 σ a1_ a2_ a3_ ((100 * (a8_ / 64)) + (a8_ - a8_ / 64 * 64)) b0_ a6_ a8_ C hR kR54 kO54 hk54 ok h
def bX6_add_54 (a1_ : Int32) (a2_ : Int32) (a3_ : Int32) (a6_ : Int64)  (kR54 : OS × Int32 × Int32 × Int32 → Int32 × OS) (v : OS × Int32 × Int32 × Int32) : Int32 × OS := if 384 ≤ v.2.2.2 then if a3_ = 0 then (v.2.1, v.1) else (v.2.2.1, v.1) else if (fX6_can (fX6_partAt (v.2.2.2 / 64) (v.2.2.2 - v.2.2.2 / 64 * 64)) a6_) = 0 then pX6_add_124 kR54 v.1 a1_ a2_ a3_ v.2.1 v.2.2.1 a6_ v.2.2.2 else pX6_add_95 kR54 ((fX6_putBehind v.1 a1_ (fX6_partAt (v.2.2.2 / 64) (v.2.2.2 - v.2.2.2 / 64 * 64)) a2_).2) a1_ a2_ a3_ v.2.1 v.2.2.1 a6_ v.2.2.2 ((fX6_putBehind v.1 a1_ (fX6_partAt (v.2.2.2 / 64) (v.2.2.2 - v.2.2.2 / 64 * 64)) a2_).1)
def kX6_add_54 (a1_ : Int32) (a2_ : Int32) (a3_ : Int32) (a6_ : Int64)  (kO54 : OS × Int32 × Int32 × Int32 → Prop) (v : OS × Int32 × Int32 × Int32) : Prop := (384 ≤ v.2.2.2 → True) ∧ (¬ (384 ≤ v.2.2.2) → ((fX6_can (fX6_partAt (v.2.2.2 / 64) (v.2.2.2 - v.2.2.2 / 64 * 64)) a6_) = 0 → oX6_add_124 kO54 v.1 a1_ a2_ a3_ v.2.1 v.2.2.1 a6_ v.2.2.2) ∧ (¬ ((fX6_can (fX6_partAt (v.2.2.2 / 64) (v.2.2.2 - v.2.2.2 / 64 * 64)) a6_) = 0) → (gX6_putBehind v.1 a1_ (fX6_partAt (v.2.2.2 / 64) (v.2.2.2 - v.2.2.2 / 64 * 64)) a2_) ∧ (oX6_add_95 kO54 ((fX6_putBehind v.1 a1_ (fX6_partAt (v.2.2.2 / 64) (v.2.2.2 - v.2.2.2 / 64 * 64)) a2_).2) a1_ a2_ a3_ v.2.1 v.2.2.1 a6_ v.2.2.2 ((fX6_putBehind v.1 a1_ (fX6_partAt (v.2.2.2 / 64) (v.2.2.2 - v.2.2.2 / 64 * 64)) a2_).1))))
set_option maxHeartbeats 4000000 in
set_option maxRecDepth 100000 in
theorem wX6_add_54 {X : CX} {cy : Nat → ClassId} {q : Nat → Nat} {D : va_G} {A : Nat → Prop} {res : Int32 × OS} (a1_ : Int32) (a2_ : Int32) (a3_ : Int32) (a6_ : Int64) (C : Cx X cX6_add RX6 12 D (gty cy) A 47 0 0) (hR : Rt X (some .int) D (gty cy) A 0 0 (eI (wX6 cy q res.2) res.1)) (kR54 : OS × Int32 × Int32 × Int32 → Int32 × OS) (kO54 : OS × Int32 × Int32 × Int32 → Prop) (hk54 : ∀ z, kO54 z → kR54 z = res → At X D A 12 0 0 54 [(0, .ref (q 41)), (1, .int a1_), (2, .int a2_), (3, .int a3_), (4, .int z.2.1), (5, .int z.2.2.1), (6, .long a6_), (8, .int z.2.2.2)] [] (wX6 cy q z.1)) (v : OS × Int32 × Int32 × Int32) (ok : kX6_add_54 a1_ a2_ a3_ a6_ kO54 v) (h : bX6_add_54 a1_ a2_ a3_ a6_ kR54 v = res) : At X D A 12 0 0 54 [(0, .ref (q 41)), (1, .int a1_), (2, .int a2_), (3, .int a3_), (4, .int v.2.1), (5, .int v.2.2.1), (6, .long a6_), (8, .int v.2.2.2)] [] (wX6 cy q v.1) := by
  unfold bX6_add_54 at h
  unfold kX6_add_54 at ok
  refine r_iload C 7 (dall tdX6_add 31 rfl) rfl ?_
  refine r_sipush (v := 384) C (dall tdX6_add 32 rfl) (by decide) ?_
  refine r_icmp_ge (tgt := 130) C (dall tdX6_add 33 rfl) (by decide) (fun c2 => ?_) (fun c2 => ?_)
  · have h := (if_pos c2).symm.trans h
    have ok := ok.1 c2
    refine r_iload_n C 3 (dall tdX6_add 69 rfl) rfl ?_
    refine r_if_ne (tgt := 139) C (dall tdX6_add 70 rfl) (by decide) (fun c3 => ?_) (fun c3 => ?_)
    · have h := (if_neg c3).symm.trans h
      refine r_iload C 5 (dall tdX6_add 73 rfl) rfl ?_
      exact r_iret C hR (dall tdX6_add 74 rfl) (by subst h; exact ⟨rfl, rfl⟩)
    · have h := (if_pos c3).symm.trans h
      refine r_iload C 4 (dall tdX6_add 71 rfl) rfl ?_
      refine r_goto (tgt := 141) C (dall tdX6_add 72 rfl) (by decide) ?_
      exact r_iret C hR (dall tdX6_add 74 rfl) (by subst h; exact ⟨rfl, rfl⟩)
  · have h := (if_neg c2).symm.trans h
    have ok := ok.2 c2
    refine r_iload C 7 (dall tdX6_add 34 rfl) rfl ?_
    refine r_bipush (v := 64) C (dall tdX6_add 35 rfl) (by decide) ?_
    refine r_idiv C (dall tdX6_add 36 rfl) (by decide) ?_
    refine r_iload C 7 (dall tdX6_add 37 rfl) rfl ?_
    refine r_bipush (v := 64) C (dall tdX6_add 38 rfl) (by decide) ?_
    refine r_irem C (dall tdX6_add 39 rfl) (by decide) ?_
    refine r_s0L (as := [.int (v.2.2.2 / 64), .int (v.2.2.2 - v.2.2.2 / 64 * 64)]) C (zX6_partAt (v.2.2.2 / 64) (v.2.2.2 - v.2.2.2 / 64 * 64) ) ms_X6_partAt km_X6_391 (by decide) (by decide) ⟨Nat.le_refl _, Nat.le_refl _⟩ rfl rfl (Nat.le_of_ble_eq_true rfl) (dall tdX6_add 40 rfl) ?_
    refine r_lstore (lv' := [(9, .long (fX6_partAt (v.2.2.2 / 64) (v.2.2.2 - v.2.2.2 / 64 * 64))), (0, .ref (q 41)), (1, .int a1_), (2, .int a2_), (3, .int a3_), (4, .int v.2.1), (5, .int v.2.2.1), (6, .long a6_), (8, .int v.2.2.2)]) C (dall tdX6_add 41 rfl) (by decide) rfl ?_
    refine r_lload C 0 (dall tdX6_add 42 rfl) rfl ?_
    refine r_lload C 7 (dall tdX6_add 43 rfl) rfl ?_
    refine r_s0I (as := [.long (fX6_partAt (v.2.2.2 / 64) (v.2.2.2 - v.2.2.2 / 64 * 64)), .long a6_]) C (zX6_can (fX6_partAt (v.2.2.2 / 64) (v.2.2.2 - v.2.2.2 / 64 * 64)) a6_ ) ms_X6_can km_X6_395 (by decide) (by decide) ⟨Nat.le_refl _, Nat.le_refl _⟩ rfl rfl (Nat.le_of_ble_eq_true rfl) (dall tdX6_add 44 rfl) ?_
    refine r_if_eq (tgt := 124) C (dall tdX6_add 45 rfl) (by decide) (fun c4 => ?_) (fun c4 => ?_)
    · have h := (if_pos c4).symm.trans h
      have ok := ok.1 c4
      refine r_pick [1, 2, 3, 4, 5, 6, 7, 8] rfl ?_
      exact wX6_add_124 v.1 a1_ a2_ a3_ v.2.1 v.2.2.1 a6_ v.2.2.2 C hR kR54 kO54 hk54 ok h
    · have h := (if_neg c4).symm.trans h
      have ok := ok.2 c4
      refine r_aload_n C 1 (dall tdX6_add 46 rfl) rfl ?_
      refine r_iload_n C 2 (dall tdX6_add 47 rfl) rfl ?_
      refine r_lload C 0 (dall tdX6_add 48 rfl) rfl ?_
      refine r_iload_n C 3 (dall tdX6_add 49 rfl) rfl ?_
      obtain ⟨o5, ok⟩ := ok
      refine r_vI (as := [.int a1_, .long (fX6_partAt (v.2.2.2 / 64) (v.2.2.2 - v.2.2.2 / 64 * 64)), .int a2_]) C (zX6_putBehind cy q v.1 a1_ (fX6_partAt (v.2.2.2 / 64) (v.2.2.2 - v.2.2.2 / 64 * 64)) a2_ o5) mv_X6_putBehind km_X6_424 (by decide) (by decide) ⟨Nat.le_refl _, Nat.le_refl _⟩ rfl rfl rfl rfl (Nat.le_of_ble_eq_true rfl) (dall tdX6_add 50 rfl) ?_
      refine r_pick [1, 2, 3, 4, 5, 6, 7, 8] rfl ?_
      exact wX6_add_95 ((fX6_putBehind v.1 a1_ (fX6_partAt (v.2.2.2 / 64) (v.2.2.2 - v.2.2.2 / 64 * 64)) a2_).2) a1_ a2_ a3_ v.2.1 v.2.2.1 a6_ v.2.2.2 ((fX6_putBehind v.1 a1_ (fX6_partAt (v.2.2.2 / 64) (v.2.2.2 - v.2.2.2 / 64 * 64)) a2_).1) C hR kR54 kO54 hk54 ok h
set_option maxHeartbeats 4000000 in
set_option maxRecDepth 100000 in
theorem lX6_add_54 {X : CX} {cy : Nat → ClassId} {q : Nat → Nat} {D : va_G} {A : Nat → Prop} {res : Int32 × OS} (a1_ : Int32) (a2_ : Int32) (a3_ : Int32) (a6_ : Int64) (C : Cx X cX6_add RX6 12 D (gty cy) A 47 0 0) (hR : Rt X (some .int) D (gty cy) A 0 0 (eI (wX6 cy q res.2) res.1))  (n : Nat) (v : OS × Int32 × Int32 × Int32) (ok : lpOk (kX6_add_54 a1_ a2_ a3_ a6_ ) n v) (h : lp (0, o0) (bX6_add_54 a1_ a2_ a3_ a6_ ) n v = res) : At X D A 12 0 0 54 [(0, .ref (q 41)), (1, .int a1_), (2, .int a2_), (3, .int a3_), (4, .int v.2.1), (5, .int v.2.2.1), (6, .long a6_), (8, .int v.2.2.2)] [] (wX6 cy q v.1) :=
  lp_rule (fun v rr_ => rr_ = res → At X D A 12 0 0 54 [(0, .ref (q 41)), (1, .int a1_), (2, .int a2_), (3, .int a3_), (4, .int v.2.1), (5, .int v.2.2.1), (6, .long a6_), (8, .int v.2.2.2)] [] (wX6 cy q v.1)) (fun kR kO hk v ok h => wX6_add_54 a1_ a2_ a3_ a6_ C hR  kR kO hk v ok h) n v ok h
def pX6_add_43  (σ : OS) (a1_ : Int32) (a2_ : Int32) (a3_ : Int32) (a4_ : Int32) (b0_ : Int32) : Int32 × OS := lp (0, o0) (bX6_add_54 a1_ a2_ a3_ (fX6_stands σ) ) fu (σ, a4_, b0_, 0)
def oX6_add_43  (σ : OS) (a1_ : Int32) (a2_ : Int32) (a3_ : Int32) (a4_ : Int32) (b0_ : Int32) : Prop := (gX6_stands σ ) ∧ (lpOk (kX6_add_54 a1_ a2_ a3_ (fX6_stands σ) ) fu (σ, a4_, b0_, 0))
set_option maxHeartbeats 4000000 in
set_option maxRecDepth 100000 in
theorem wX6_add_43 {X : CX} {cy : Nat → ClassId} {q : Nat → Nat} {D : va_G} {A : Nat → Prop} {res : Int32 × OS} (σ : OS) (a1_ : Int32) (a2_ : Int32) (a3_ : Int32) (a4_ : Int32) (b0_ : Int32) (C : Cx X cX6_add RX6 12 D (gty cy) A 47 0 0) (hR : Rt X (some .int) D (gty cy) A 0 0 (eI (wX6 cy q res.2) res.1))  (ok : oX6_add_43  σ a1_ a2_ a3_ a4_ b0_) (h : pX6_add_43  σ a1_ a2_ a3_ a4_ b0_ = res) : At X D A 12 0 0 43 [(0, .ref (q 41)), (1, .int a1_), (2, .int a2_), (3, .int a3_), (4, .int a4_)] [.int b0_] (wX6 cy q σ) := by
  unfold pX6_add_43 at h
  unfold oX6_add_43 at ok
  refine r_istore (lv' := [(5, .int b0_), (0, .ref (q 41)), (1, .int a1_), (2, .int a2_), (3, .int a3_), (4, .int a4_)]) C (dall tdX6_add 25 rfl) (by decide) rfl ?_
  refine r_aload_n C 1 (dall tdX6_add 26 rfl) rfl ?_
  obtain ⟨o6, ok⟩ := ok
  refine r_vL (as := []) C (zX6_stands cy q σ  o6) mv_X6_stands km_X6_147 (by decide) (by decide) ⟨Nat.le_refl _, Nat.le_refl _⟩ rfl rfl rfl rfl (Nat.le_of_ble_eq_true rfl) (dall tdX6_add 27 rfl) ?_
  refine r_lstore (lv' := [(6, .long (fX6_stands σ)), (5, .int b0_), (0, .ref (q 41)), (1, .int a1_), (2, .int a2_), (3, .int a3_), (4, .int a4_)]) C (dall tdX6_add 28 rfl) (by decide) rfl ?_
  refine r_iconst (v := 0) C (dall tdX6_add 29 rfl) (by decide) ?_
  refine r_istore (lv' := [(8, .int 0), (6, .long (fX6_stands σ)), (5, .int b0_), (0, .ref (q 41)), (1, .int a1_), (2, .int a2_), (3, .int a3_), (4, .int a4_)]) C (dall tdX6_add 30 rfl) (by decide) rfl ?_
  refine r_pick [3, 4, 5, 6, 7, 2, 1, 0] rfl ?_
  exact lX6_add_54 a1_ a2_ a3_ (fX6_stands σ) C hR  fu _ ok h
def pX6_add_0  (σ : OS) (a1_ : Int32) (a2_ : Int32) (a3_ : Int32) : Int32 × OS := if (fX6_isOne σ a1_) = 0 then ((-2), σ) else if (fX6_in a2_.toInt64 1 (20)) = 0 then ((-2), σ) else if (fX6_in a3_.toInt64 0 1) = 0 then ((-2), σ) else pX6_add_43  ((fX6_putBehind σ a1_ 0 a2_).2) a1_ a2_ a3_ (-1) ((fX6_putBehind σ a1_ 0 a2_).1)
def oX6_add_0  (σ : OS) (a1_ : Int32) (a2_ : Int32) (a3_ : Int32) : Prop := (gX6_isOne σ a1_) ∧ (((fX6_isOne σ a1_) = 0 → True) ∧ (¬ ((fX6_isOne σ a1_) = 0) → ((fX6_in a2_.toInt64 1 (20)) = 0 → True) ∧ (¬ ((fX6_in a2_.toInt64 1 (20)) = 0) → ((fX6_in a3_.toInt64 0 1) = 0 → True) ∧ (¬ ((fX6_in a3_.toInt64 0 1) = 0) → (gX6_putBehind σ a1_ 0 a2_) ∧ (oX6_add_43  ((fX6_putBehind σ a1_ 0 a2_).2) a1_ a2_ a3_ (-1) ((fX6_putBehind σ a1_ 0 a2_).1))))))
set_option maxHeartbeats 4000000 in
set_option maxRecDepth 100000 in
theorem wX6_add_0 {X : CX} {cy : Nat → ClassId} {q : Nat → Nat} {D : va_G} {A : Nat → Prop} {res : Int32 × OS} (σ : OS) (a1_ : Int32) (a2_ : Int32) (a3_ : Int32) (C : Cx X cX6_add RX6 12 D (gty cy) A 47 0 0) (hR : Rt X (some .int) D (gty cy) A 0 0 (eI (wX6 cy q res.2) res.1))  (ok : oX6_add_0  σ a1_ a2_ a3_) (h : pX6_add_0  σ a1_ a2_ a3_ = res) : At X D A 12 0 0 0 [(0, .ref (q 41)), (1, .int a1_), (2, .int a2_), (3, .int a3_)] [] (wX6 cy q σ) := by
  unfold pX6_add_0 at h
  unfold oX6_add_0 at ok
  refine r_aload_n C 0 (dall tdX6_add 0 rfl) rfl ?_
  refine r_iload_n C 1 (dall tdX6_add 1 rfl) rfl ?_
  obtain ⟨o7, ok⟩ := ok
  refine r_vI (as := [.int a1_]) C (zX6_isOne cy q σ a1_ o7) mv_X6_isOne km_X6_90 (by decide) (by decide) ⟨Nat.le_refl _, Nat.le_refl _⟩ rfl rfl rfl rfl (Nat.le_of_ble_eq_true rfl) (dall tdX6_add 2 rfl) ?_
  refine r_if_eq (tgt := 30) C (dall tdX6_add 3 rfl) (by decide) (fun c8 => ?_) (fun c8 => ?_)
  · have h := (if_pos c8).symm.trans h
    have ok := ok.1 c8
    refine r_bipush (v := -2) C (dall tdX6_add 16 rfl) (by decide) ?_
    exact r_iret C hR (dall tdX6_add 17 rfl) (by subst h; exact ⟨rfl, rfl⟩)
  · have h := (if_neg c8).symm.trans h
    have ok := ok.2 c8
    refine r_iload_n C 2 (dall tdX6_add 4 rfl) rfl ?_
    refine r_i2l C (dall tdX6_add 5 rfl) ?_
    refine r_lconst (v := 1) C (dall tdX6_add 6 rfl) (by decide) ?_
    refine r_ldc2 C kk_X6_422 (dall tdX6_add 7 rfl) ?_
    refine r_s0I (as := [.long a2_.toInt64, .long 1, .long (20)]) C (zX6_in a2_.toInt64 1 (20) ) ms_X6_in km_X6_74 (by decide) (by decide) ⟨Nat.le_refl _, Nat.le_refl _⟩ rfl rfl (Nat.le_of_ble_eq_true rfl) (dall tdX6_add 8 rfl) ?_
    refine r_if_eq (tgt := 30) C (dall tdX6_add 9 rfl) (by decide) (fun c9 => ?_) (fun c9 => ?_)
    · have h := (if_pos c9).symm.trans h
      have ok := ok.1 c9
      refine r_bipush (v := -2) C (dall tdX6_add 16 rfl) (by decide) ?_
      exact r_iret C hR (dall tdX6_add 17 rfl) (by subst h; exact ⟨rfl, rfl⟩)
    · have h := (if_neg c9).symm.trans h
      have ok := ok.2 c9
      refine r_iload_n C 3 (dall tdX6_add 10 rfl) rfl ?_
      refine r_i2l C (dall tdX6_add 11 rfl) ?_
      refine r_lconst (v := 0) C (dall tdX6_add 12 rfl) (by decide) ?_
      refine r_lconst (v := 1) C (dall tdX6_add 13 rfl) (by decide) ?_
      refine r_s0I (as := [.long a3_.toInt64, .long 0, .long 1]) C (zX6_in a3_.toInt64 0 1 ) ms_X6_in km_X6_74 (by decide) (by decide) ⟨Nat.le_refl _, Nat.le_refl _⟩ rfl rfl (Nat.le_of_ble_eq_true rfl) (dall tdX6_add 14 rfl) ?_
      refine r_if_ne (tgt := 33) C (dall tdX6_add 15 rfl) (by decide) (fun c10 => ?_) (fun c10 => ?_)
      · have h := (if_neg c10).symm.trans h
        have ok := ok.2 c10
        refine r_iconst (v := -1) C (dall tdX6_add 18 rfl) (by decide) ?_
        refine r_istore (lv' := [(4, .int (-1)), (0, .ref (q 41)), (1, .int a1_), (2, .int a2_), (3, .int a3_)]) C (dall tdX6_add 19 rfl) (by decide) rfl ?_
        refine r_aload_n C 1 (dall tdX6_add 20 rfl) rfl ?_
        refine r_iload_n C 2 (dall tdX6_add 21 rfl) rfl ?_
        refine r_lconst (v := 0) C (dall tdX6_add 22 rfl) (by decide) ?_
        refine r_iload_n C 3 (dall tdX6_add 23 rfl) rfl ?_
        obtain ⟨o11, ok⟩ := ok
        refine r_vI (as := [.int a1_, .long 0, .int a2_]) C (zX6_putBehind cy q σ a1_ 0 a2_ o11) mv_X6_putBehind km_X6_424 (by decide) (by decide) ⟨Nat.le_refl _, Nat.le_refl _⟩ rfl rfl rfl rfl (Nat.le_of_ble_eq_true rfl) (dall tdX6_add 24 rfl) ?_
        refine r_pick [1, 2, 3, 4, 0] rfl ?_
        exact wX6_add_43 ((fX6_putBehind σ a1_ 0 a2_).2) a1_ a2_ a3_ (-1) ((fX6_putBehind σ a1_ 0 a2_).1) C hR  ok h
      · have h := (if_pos c10).symm.trans h
        have ok := ok.1 c10
        refine r_bipush (v := -2) C (dall tdX6_add 16 rfl) (by decide) ?_
        exact r_iret C hR (dall tdX6_add 17 rfl) (by subst h; exact ⟨rfl, rfl⟩)
def fX6_add (σ : OS) (a1_ : Int32) (a2_ : Int32) (a3_ : Int32) : Int32 × OS := pX6_add_0  σ a1_ a2_ a3_
def gX6_add (σ : OS) (a1_ : Int32) (a2_ : Int32) (a3_ : Int32) : Prop := oX6_add_0  σ a1_ a2_ a3_
set_option maxRecDepth 100000 in
theorem zX6_add (cy : Nat → ClassId) (q : Nat → Nat)  {D : va_G} (σ : OS) (a1_ : Int32) (a2_ : Int32) (a3_ : Int32) (ok : gX6_add σ a1_ a2_ a3_)  : Con yX6_add cX6_add 12 (some .int) 47 0 0 D (gty cy) [.ref (q 41), .int a1_, .int a2_, .int a3_] (wX6 cy q σ) (eI (wX6 cy q (fX6_add σ a1_ a2_ a3_).2) (fX6_add σ a1_ a2_ a3_).1) :=
  Con.of (own := RX6) (by decide +kernel) rfl (Nat.le_of_ble_eq_true rfl) (Nat.zero_le _) (fun X A C hR _ => (wX6_add_0 σ a1_ a2_ a3_ C hR  ok rfl))
theorem mv_X6_add : MV yX6_add cX6_add 12 (some .int) RX6 3 := ⟨ki_X6_add, kv_X6_add, kn_X6, kc_X6_add, by decide +kernel⟩
def tbX6_share : List (Nat × Instr × Nat) := [(0, .aload_n 0, 1), (1, .iload_n 1, 1), (2, .invokevirtual 90, 3), (5, .ifCond .eq 22, 3), (8, .iload_n 2, 1), (9, .i2l, 1), (10, .lconst 0, 1), (11, .lconst 1, 1), (12, .invokestatic 74, 3), (15, .ifCond .eq 12, 3), (18, .aload_n 0, 1), (19, .invokevirtual 147, 3), (22, .lconst 0, 1), (23, .lcmp, 1), (24, .ifCond .ne 7, 3), (27, .ldc2_w 145, 3), (30, .lreturn, 1), (31, .aload_n 0, 1), (32, .getfield 32, 3), (35, .iload_n 1, 1), (36, .laload, 1), (37, .invokestatic 138, 3), (40, .i2l, 1), (41, .aload_n 0, 1), (42, .invokevirtual 147, 3), (45, .invokestatic 138, 3), (48, .i2l, 1), (49, .iload_n 2, 1), (50, .invokestatic 428, 3), (53, .lreturn, 1)]
theorem tdX6_share : tbX6_share.all (fun q => decide (decode cX6_share q.1 = .ok q.2)) = true := by decide +kernel
def pX6_share_0  (σ : OS) (a1_ : Int32) (a2_ : Int32) : Int64 := if (fX6_isOne σ a1_) = 0 then (-4611686018427387904) else if (fX6_in a2_.toInt64 0 1) = 0 then (-4611686018427387904) else if (fX6_stands σ) = 0 then (-4611686018427387904) else fX6_lowest ((fX6_bitsOf (σ.2.2.2 11 a1_.toNatClampNeg)).toInt64) ((fX6_bitsOf (fX6_stands σ)).toInt64) a2_
def oX6_share_0  (σ : OS) (a1_ : Int32) (a2_ : Int32) : Prop := (gX6_isOne σ a1_) ∧ (((fX6_isOne σ a1_) = 0 → True) ∧ (¬ ((fX6_isOne σ a1_) = 0) → ((fX6_in a2_.toInt64 0 1) = 0 → True) ∧ (¬ ((fX6_in a2_.toInt64 0 1) = 0) → (gX6_stands σ ) ∧ (((fX6_stands σ) = 0 → True) ∧ (¬ ((fX6_stands σ) = 0) → (vp_in a1_ 5) ∧ ((gX6_bitsOf (σ.2.2.2 11 a1_.toNatClampNeg)) ∧ ((gX6_stands σ ) ∧ ((gX6_bitsOf (fX6_stands σ)) ∧ (gX6_lowest ((fX6_bitsOf (σ.2.2.2 11 a1_.toNatClampNeg)).toInt64) ((fX6_bitsOf (fX6_stands σ)).toInt64) a2_)))))))))
set_option maxHeartbeats 4000000 in
set_option maxRecDepth 100000 in
theorem wX6_share_0 {X : CX} {cy : Nat → ClassId} {q : Nat → Nat} {D : va_G} {A : Nat → Prop} {res : Int64} (σ : OS) (a1_ : Int32) (a2_ : Int32) (C : Cx X cX6_share RX6 3 D (gty cy) A 2 0 0) (hR : Rt X (some .long) D (gty cy) A 0 0 (eL (wX6 cy q σ) res))  (ok : oX6_share_0  σ a1_ a2_) (h : pX6_share_0  σ a1_ a2_ = res) : At X D A 3 0 0 0 [(0, .ref (q 41)), (1, .int a1_), (2, .int a2_)] [] (wX6 cy q σ) := by
  unfold pX6_share_0 at h
  unfold oX6_share_0 at ok
  refine r_aload_n C 0 (dall tdX6_share 0 rfl) rfl ?_
  refine r_iload_n C 1 (dall tdX6_share 1 rfl) rfl ?_
  obtain ⟨o1, ok⟩ := ok
  refine r_vI (as := [.int a1_]) C (zX6_isOne cy q σ a1_ o1) mv_X6_isOne km_X6_90 (by decide) (by decide) ⟨Nat.le_refl _, Nat.le_refl _⟩ rfl rfl rfl rfl (Nat.le_of_ble_eq_true rfl) (dall tdX6_share 2 rfl) ?_
  refine r_if_eq (tgt := 27) C (dall tdX6_share 3 rfl) (by decide) (fun c2 => ?_) (fun c2 => ?_)
  · have h := (if_pos c2).symm.trans h
    have ok := ok.1 c2
    refine r_ldc2 C kk_X6_145 (dall tdX6_share 15 rfl) ?_
    exact r_lret C hR (dall tdX6_share 16 rfl) (by subst h; exact ⟨rfl, rfl⟩)
  · have h := (if_neg c2).symm.trans h
    have ok := ok.2 c2
    refine r_iload_n C 2 (dall tdX6_share 4 rfl) rfl ?_
    refine r_i2l C (dall tdX6_share 5 rfl) ?_
    refine r_lconst (v := 0) C (dall tdX6_share 6 rfl) (by decide) ?_
    refine r_lconst (v := 1) C (dall tdX6_share 7 rfl) (by decide) ?_
    refine r_s0I (as := [.long a2_.toInt64, .long 0, .long 1]) C (zX6_in a2_.toInt64 0 1 ) ms_X6_in km_X6_74 (by decide) (by decide) ⟨Nat.le_refl _, Nat.le_refl _⟩ rfl rfl (Nat.le_of_ble_eq_true rfl) (dall tdX6_share 8 rfl) ?_
    refine r_if_eq (tgt := 27) C (dall tdX6_share 9 rfl) (by decide) (fun c3 => ?_) (fun c3 => ?_)
    · have h := (if_pos c3).symm.trans h
      have ok := ok.1 c3
      refine r_ldc2 C kk_X6_145 (dall tdX6_share 15 rfl) ?_
      exact r_lret C hR (dall tdX6_share 16 rfl) (by subst h; exact ⟨rfl, rfl⟩)
    · have h := (if_neg c3).symm.trans h
      have ok := ok.2 c3
      refine r_aload_n C 0 (dall tdX6_share 10 rfl) rfl ?_
      obtain ⟨o4, ok⟩ := ok
      refine r_vL (as := []) C (zX6_stands cy q σ  o4) mv_X6_stands km_X6_147 (by decide) (by decide) ⟨Nat.le_refl _, Nat.le_refl _⟩ rfl rfl rfl rfl (Nat.le_of_ble_eq_true rfl) (dall tdX6_share 11 rfl) ?_
      refine r_lconst (v := 0) C (dall tdX6_share 12 rfl) (by decide) ?_
      refine r_lif_ne (tgt := 31) C (dall tdX6_share 13 rfl) (dall tdX6_share 14 rfl) (by decide) (fun c5 => ?_) (fun c5 => ?_)
      · have h := (if_neg c5).symm.trans h
        have ok := ok.2 c5
        refine r_aload_n C 0 (dall tdX6_share 17 rfl) rfl ?_
        refine r_get C 0 kw_X6 rfl rfl (by decide) kf_X6_32 rfl rfl (dall tdX6_share 18 rfl) ?_
        refine r_iload_n C 1 (dall tdX6_share 19 rfl) rfl ?_
        obtain ⟨o6, ok⟩ := ok
        refine r_lald C 5 1 rfl rfl o6 (dall tdX6_share 20 rfl) ?_
        obtain ⟨o7, ok⟩ := ok
        refine r_s0I (as := [.long (σ.2.2.2 11 a1_.toNatClampNeg)]) C (zX6_bitsOf (σ.2.2.2 11 a1_.toNatClampNeg) o7) ms_X6_bitsOf km_X6_138 (by decide) (by decide) ⟨Nat.le_refl _, Nat.le_refl _⟩ rfl rfl (Nat.le_of_ble_eq_true rfl) (dall tdX6_share 21 rfl) ?_
        refine r_i2l C (dall tdX6_share 22 rfl) ?_
        refine r_aload_n C 0 (dall tdX6_share 23 rfl) rfl ?_
        obtain ⟨o8, ok⟩ := ok
        refine r_vL (as := []) C (zX6_stands cy q σ  o8) mv_X6_stands km_X6_147 (by decide) (by decide) ⟨Nat.le_refl _, Nat.le_refl _⟩ rfl rfl rfl rfl (Nat.le_of_ble_eq_true rfl) (dall tdX6_share 24 rfl) ?_
        obtain ⟨o9, ok⟩ := ok
        refine r_s0I (as := [.long (fX6_stands σ)]) C (zX6_bitsOf (fX6_stands σ) o9) ms_X6_bitsOf km_X6_138 (by decide) (by decide) ⟨Nat.le_refl _, Nat.le_refl _⟩ rfl rfl (Nat.le_of_ble_eq_true rfl) (dall tdX6_share 25 rfl) ?_
        refine r_i2l C (dall tdX6_share 26 rfl) ?_
        refine r_iload_n C 2 (dall tdX6_share 27 rfl) rfl ?_
        have o10 := ok
        refine r_s0L (as := [.long ((fX6_bitsOf (σ.2.2.2 11 a1_.toNatClampNeg)).toInt64), .long ((fX6_bitsOf (fX6_stands σ)).toInt64), .int a2_]) C (zX6_lowest ((fX6_bitsOf (σ.2.2.2 11 a1_.toNatClampNeg)).toInt64) ((fX6_bitsOf (fX6_stands σ)).toInt64) a2_ o10) ms_X6_lowest km_X6_428 (by decide) (by decide) ⟨Nat.le_refl _, Nat.le_refl _⟩ rfl rfl (Nat.le_of_ble_eq_true rfl) (dall tdX6_share 28 rfl) ?_
        exact r_lret C hR (dall tdX6_share 29 rfl) (by subst h; exact ⟨rfl, rfl⟩)
      · have h := (if_pos c5).symm.trans h
        have ok := ok.1 c5
        refine r_ldc2 C kk_X6_145 (dall tdX6_share 15 rfl) ?_
        exact r_lret C hR (dall tdX6_share 16 rfl) (by subst h; exact ⟨rfl, rfl⟩)
def fX6_share (σ : OS) (a1_ : Int32) (a2_ : Int32) : Int64 := pX6_share_0  σ a1_ a2_
def gX6_share (σ : OS) (a1_ : Int32) (a2_ : Int32) : Prop := oX6_share_0  σ a1_ a2_
set_option maxRecDepth 100000 in
theorem zX6_share (cy : Nat → ClassId) (q : Nat → Nat)  {D : va_G} (σ : OS) (a1_ : Int32) (a2_ : Int32) (ok : gX6_share σ a1_ a2_)  : Con yX6_share cX6_share 3 (some .long) 2 0 0 D (gty cy) [.ref (q 41), .int a1_, .int a2_] (wX6 cy q σ) (eL (wX6 cy q σ) (fX6_share σ a1_ a2_)) :=
  Con.of (own := RX6) (by decide +kernel) rfl (Nat.le_of_ble_eq_true rfl) (Nat.zero_le _) (fun X A C hR _ => (wX6_share_0 σ a1_ a2_ C hR  ok rfl))
theorem mv_X6_share : MV yX6_share cX6_share 3 (some .long) RX6 2 := ⟨ki_X6_share, kv_X6_share, kn_X6, kc_X6_share, by decide +kernel⟩
def tbX6_firstOther : List (Nat × Instr × Nat) := [(0, .aload_n 0, 1), (1, .invokevirtual 405, 3), (4, .iconst (-1), 1), (5, .istore_n 3, 1), (6, .iconst 0, 1), (7, .istore 4, 2), (9, .iload 4, 2), (11, .aload_n 0, 1), (12, .getfield 58, 3), (15, .iload_n 1, 1), (16, .iaload, 1), (17, .if_icmp .ge 50, 3), (20, .iload_n 3, 1), (21, .iconst (-1), 1), (22, .if_icmp .ne 45, 3), (25, .aload_n 0, 1), (26, .invokevirtual 400, 3), (29, .pop, 1), (30, .aload_n 0, 1), (31, .getfield 32, 3), (34, .iload_n 2, 1), (35, .laload, 1), (36, .invokestatic 138, 3), (39, .aload_n 0, 1), (40, .getfield 61, 3), (43, .bipush 40, 2), (45, .iload_n 1, 1), (46, .imul, 1), (47, .iload 4, 2), (49, .iadd, 1), (50, .iaload, 1), (51, .if_icmp .ne 7, 3), (54, .iconst (-1), 1), (55, .goto 5, 3), (58, .iload 4, 2), (60, .istore_n 3, 1), (61, .iinc 4 1, 3), (64, .goto (-55), 3), (67, .aload_n 0, 1), (68, .invokevirtual 412, 3), (71, .iload_n 3, 1), (72, .ireturn, 1)]
theorem tdX6_firstOther : tbX6_firstOther.all (fun q => decide (decode cX6_firstOther q.1 = .ok q.2)) = true := by decide +kernel
def pX6_firstOther_71  (σ : OS) (a3_ : Int32) : Int32 × OS := (a3_, σ)
set_option maxHeartbeats 4000000 in
set_option maxRecDepth 100000 in
theorem wX6_firstOther_71 {X : CX} {cy : Nat → ClassId} {q : Nat → Nat} {D : va_G} {A : Nat → Prop} {res : Int32 × OS} (σ : OS) (a3_ : Int32) (C : Cx X cX6_firstOther RX6 5 D (gty cy) A 45 0 0) (hR : Rt X (some .int) D (gty cy) A 0 0 (eI (wX6 cy q res.2) res.1))  (h : pX6_firstOther_71  σ a3_ = res) : At X D A 5 0 0 71 [(3, .int a3_)] [] (wX6 cy q σ) := by
  unfold pX6_firstOther_71 at h
  refine r_iload_n C 0 (dall tdX6_firstOther 40 rfl) rfl ?_
  exact r_iret C hR (dall tdX6_firstOther 41 rfl) (by subst h; exact ⟨rfl, rfl⟩)
def pX6_firstOther_67  (σ : OS) (a3_ : Int32) : Int32 × OS := pX6_firstOther_71  (fX6_laysBack σ) a3_
def oX6_firstOther_67  (σ : OS) (a3_ : Int32) : Prop := gX6_laysBack σ 
set_option maxHeartbeats 4000000 in
set_option maxRecDepth 100000 in
theorem wX6_firstOther_67 {X : CX} {cy : Nat → ClassId} {q : Nat → Nat} {D : va_G} {A : Nat → Prop} {res : Int32 × OS} (σ : OS) (a3_ : Int32) (C : Cx X cX6_firstOther RX6 5 D (gty cy) A 45 0 0) (hR : Rt X (some .int) D (gty cy) A 0 0 (eI (wX6 cy q res.2) res.1))  (ok : oX6_firstOther_67  σ a3_) (h : pX6_firstOther_67  σ a3_ = res) : At X D A 5 0 0 67 [(0, .ref (q 41)), (3, .int a3_)] [] (wX6 cy q σ) := by
  unfold pX6_firstOther_67 at h
  unfold oX6_firstOther_67 at ok
  refine r_aload_n C 0 (dall tdX6_firstOther 38 rfl) rfl ?_
  have o1 := ok
  refine r_vV (as := []) C (zX6_laysBack cy q σ  o1) mv_X6_laysBack km_X6_412 (by decide) (by decide) ⟨Nat.le_refl _, Nat.le_refl _⟩ rfl rfl rfl rfl (Nat.le_of_ble_eq_true rfl) (dall tdX6_firstOther 39 rfl) ?_
  refine r_pick [1] rfl ?_
  exact wX6_firstOther_71 (fX6_laysBack σ) a3_ C hR  h
def pX6_firstOther_60 (kR9 : OS × Int32 × Int32 → Int32 × OS) (σ : OS) (a1_ : Int32) (a2_ : Int32) (a4_ : Int32) (b0_ : Int32) : Int32 × OS := kR9 (σ, b0_, a4_ + 1)
def oX6_firstOther_60 (kO9 : OS × Int32 × Int32 → Prop) (σ : OS) (a1_ : Int32) (a2_ : Int32) (a4_ : Int32) (b0_ : Int32) : Prop := kO9 (σ, b0_, a4_ + 1)
set_option maxHeartbeats 4000000 in
set_option maxRecDepth 100000 in
theorem wX6_firstOther_60 {X : CX} {cy : Nat → ClassId} {q : Nat → Nat} {D : va_G} {A : Nat → Prop} {res : Int32 × OS} (σ : OS) (a1_ : Int32) (a2_ : Int32) (a4_ : Int32) (b0_ : Int32) (C : Cx X cX6_firstOther RX6 5 D (gty cy) A 45 0 0) (hR : Rt X (some .int) D (gty cy) A 0 0 (eI (wX6 cy q res.2) res.1)) (kR9 : OS × Int32 × Int32 → Int32 × OS) (kO9 : OS × Int32 × Int32 → Prop) (hk9 : ∀ z, kO9 z → kR9 z = res → At X D A 5 0 0 9 [(0, .ref (q 41)), (1, .int a1_), (2, .int a2_), (3, .int z.2.1), (4, .int z.2.2)] [] (wX6 cy q z.1)) (ok : oX6_firstOther_60 kO9 σ a1_ a2_ a4_ b0_) (h : pX6_firstOther_60 kR9 σ a1_ a2_ a4_ b0_ = res) : At X D A 5 0 0 60 [(0, .ref (q 41)), (1, .int a1_), (2, .int a2_), (4, .int a4_)] [.int b0_] (wX6 cy q σ) := by
  unfold pX6_firstOther_60 at h
  unfold oX6_firstOther_60 at ok
  refine r_istore_n (lv' := [(3, .int b0_), (0, .ref (q 41)), (1, .int a1_), (2, .int a2_), (4, .int a4_)]) C (dall tdX6_firstOther 35 rfl) (by decide) rfl ?_
  refine r_iinc (v := a4_ + 1) (lv' := [(4, .int (a4_ + 1)), (3, .int b0_), (0, .ref (q 41)), (1, .int a1_), (2, .int a2_)]) C 4 (dall tdX6_firstOther 36 rfl) rfl rfl (by decide) rfl ?_
  refine r_goto (tgt := 9) C (dall tdX6_firstOther 37 rfl) (by decide) ?_
  refine r_pick [2, 3, 4, 1, 0] rfl ?_
  exact hk9 (σ, b0_, a4_ + 1) ok h
def pX6_firstOther_29 (kR9 : OS × Int32 × Int32 → Int32 × OS) (σ : OS) (a1_ : Int32) (a2_ : Int32) (a4_ : Int32) (b0_ : Int32) : Int32 × OS := if (fX6_bitsOf (σ.2.2.2 11 a2_.toNatClampNeg)) = (σ.2.2.1 40 ((40 * a1_) + a4_).toNatClampNeg) then pX6_firstOther_60 kR9 σ a1_ a2_ a4_ (-1) else pX6_firstOther_60 kR9 σ a1_ a2_ a4_ a4_
def oX6_firstOther_29 (kO9 : OS × Int32 × Int32 → Prop) (σ : OS) (a1_ : Int32) (a2_ : Int32) (a4_ : Int32) (b0_ : Int32) : Prop := (vp_in a2_ 5) ∧ ((gX6_bitsOf (σ.2.2.2 11 a2_.toNatClampNeg)) ∧ ((vp_in ((40 * a1_) + a4_) 160) ∧ (((fX6_bitsOf (σ.2.2.2 11 a2_.toNatClampNeg)) = (σ.2.2.1 40 ((40 * a1_) + a4_).toNatClampNeg) → oX6_firstOther_60 kO9 σ a1_ a2_ a4_ (-1)) ∧ (¬ ((fX6_bitsOf (σ.2.2.2 11 a2_.toNatClampNeg)) = (σ.2.2.1 40 ((40 * a1_) + a4_).toNatClampNeg)) → oX6_firstOther_60 kO9 σ a1_ a2_ a4_ a4_))))
set_option maxHeartbeats 4000000 in
set_option maxRecDepth 100000 in
theorem wX6_firstOther_29 {X : CX} {cy : Nat → ClassId} {q : Nat → Nat} {D : va_G} {A : Nat → Prop} {res : Int32 × OS} (σ : OS) (a1_ : Int32) (a2_ : Int32) (a4_ : Int32) (b0_ : Int32) (C : Cx X cX6_firstOther RX6 5 D (gty cy) A 45 0 0) (hR : Rt X (some .int) D (gty cy) A 0 0 (eI (wX6 cy q res.2) res.1)) (kR9 : OS × Int32 × Int32 → Int32 × OS) (kO9 : OS × Int32 × Int32 → Prop) (hk9 : ∀ z, kO9 z → kR9 z = res → At X D A 5 0 0 9 [(0, .ref (q 41)), (1, .int a1_), (2, .int a2_), (3, .int z.2.1), (4, .int z.2.2)] [] (wX6 cy q z.1)) (ok : oX6_firstOther_29 kO9 σ a1_ a2_ a4_ b0_) (h : pX6_firstOther_29 kR9 σ a1_ a2_ a4_ b0_ = res) : At X D A 5 0 0 29 [(0, .ref (q 41)), (1, .int a1_), (2, .int a2_), (4, .int a4_)] [.int b0_] (wX6 cy q σ) := by
  unfold pX6_firstOther_29 at h
  unfold oX6_firstOther_29 at ok
  refine r_pop C (dall tdX6_firstOther 17 rfl) rfl ?_
  refine r_aload_n C 0 (dall tdX6_firstOther 18 rfl) rfl ?_
  refine r_get C 0 kw_X6 rfl rfl (by decide) kf_X6_32 rfl rfl (dall tdX6_firstOther 19 rfl) ?_
  refine r_iload_n C 2 (dall tdX6_firstOther 20 rfl) rfl ?_
  obtain ⟨o2, ok⟩ := ok
  refine r_lald C 5 1 rfl rfl o2 (dall tdX6_firstOther 21 rfl) ?_
  obtain ⟨o3, ok⟩ := ok
  refine r_s0I (as := [.long (σ.2.2.2 11 a2_.toNatClampNeg)]) C (zX6_bitsOf (σ.2.2.2 11 a2_.toNatClampNeg) o3) ms_X6_bitsOf km_X6_138 (by decide) (by decide) ⟨Nat.le_refl _, Nat.le_refl _⟩ rfl rfl (Nat.le_of_ble_eq_true rfl) (dall tdX6_firstOther 22 rfl) ?_
  refine r_aload_n C 0 (dall tdX6_firstOther 23 rfl) rfl ?_
  refine r_get C 0 kw_X6 rfl rfl (by decide) kf_X6_61 rfl rfl (dall tdX6_firstOther 24 rfl) ?_
  refine r_bipush (v := 40) C (dall tdX6_firstOther 25 rfl) (by decide) ?_
  refine r_iload_n C 1 (dall tdX6_firstOther 26 rfl) rfl ?_
  refine r_imul C (dall tdX6_firstOther 27 rfl) ?_
  refine r_iload C 3 (dall tdX6_firstOther 28 rfl) rfl ?_
  refine r_iadd C (dall tdX6_firstOther 29 rfl) ?_
  obtain ⟨o4, ok⟩ := ok
  refine r_iald C 13 0 rfl rfl o4 (dall tdX6_firstOther 30 rfl) ?_
  refine r_icmp_ne (tgt := 58) C (dall tdX6_firstOther 31 rfl) (by decide) (fun c5 => ?_) (fun c5 => ?_)
  · have h := (if_neg c5).symm.trans h
    have ok := ok.2 c5
    refine r_iload C 3 (dall tdX6_firstOther 34 rfl) rfl ?_
    exact wX6_firstOther_60 σ a1_ a2_ a4_ a4_ C hR kR9 kO9 hk9 ok h
  · have h := (if_pos c5).symm.trans h
    have ok := ok.1 c5
    refine r_iconst (v := -1) C (dall tdX6_firstOther 32 rfl) (by decide) ?_
    refine r_goto (tgt := 60) C (dall tdX6_firstOther 33 rfl) (by decide) ?_
    exact wX6_firstOther_60 σ a1_ a2_ a4_ (-1) C hR kR9 kO9 hk9 ok h
def bX6_firstOther_9 (a1_ : Int32) (a2_ : Int32)  (kR9 : OS × Int32 × Int32 → Int32 × OS) (v : OS × Int32 × Int32) : Int32 × OS := if (v.1.2.2.1 39 a1_.toNatClampNeg) ≤ v.2.2 then pX6_firstOther_67  v.1 v.2.1 else if v.2.1 = (-1) then pX6_firstOther_29 kR9 ((fX6_passes v.1 ).2) a1_ a2_ v.2.2 ((fX6_passes v.1 ).1) else pX6_firstOther_67  v.1 v.2.1
def kX6_firstOther_9 (a1_ : Int32) (a2_ : Int32)  (kO9 : OS × Int32 × Int32 → Prop) (v : OS × Int32 × Int32) : Prop := (vp_in a1_ 4) ∧ (((v.1.2.2.1 39 a1_.toNatClampNeg) ≤ v.2.2 → oX6_firstOther_67  v.1 v.2.1) ∧ (¬ ((v.1.2.2.1 39 a1_.toNatClampNeg) ≤ v.2.2) → (v.2.1 = (-1) → (gX6_passes v.1 ) ∧ (oX6_firstOther_29 kO9 ((fX6_passes v.1 ).2) a1_ a2_ v.2.2 ((fX6_passes v.1 ).1))) ∧ (¬ (v.2.1 = (-1)) → oX6_firstOther_67  v.1 v.2.1)))
set_option maxHeartbeats 4000000 in
set_option maxRecDepth 100000 in
theorem wX6_firstOther_9 {X : CX} {cy : Nat → ClassId} {q : Nat → Nat} {D : va_G} {A : Nat → Prop} {res : Int32 × OS} (a1_ : Int32) (a2_ : Int32) (C : Cx X cX6_firstOther RX6 5 D (gty cy) A 45 0 0) (hR : Rt X (some .int) D (gty cy) A 0 0 (eI (wX6 cy q res.2) res.1)) (kR9 : OS × Int32 × Int32 → Int32 × OS) (kO9 : OS × Int32 × Int32 → Prop) (hk9 : ∀ z, kO9 z → kR9 z = res → At X D A 5 0 0 9 [(0, .ref (q 41)), (1, .int a1_), (2, .int a2_), (3, .int z.2.1), (4, .int z.2.2)] [] (wX6 cy q z.1)) (v : OS × Int32 × Int32) (ok : kX6_firstOther_9 a1_ a2_ kO9 v) (h : bX6_firstOther_9 a1_ a2_ kR9 v = res) : At X D A 5 0 0 9 [(0, .ref (q 41)), (1, .int a1_), (2, .int a2_), (3, .int v.2.1), (4, .int v.2.2)] [] (wX6 cy q v.1) := by
  unfold bX6_firstOther_9 at h
  unfold kX6_firstOther_9 at ok
  refine r_iload C 4 (dall tdX6_firstOther 6 rfl) rfl ?_
  refine r_aload_n C 0 (dall tdX6_firstOther 7 rfl) rfl ?_
  refine r_get C 0 kw_X6 rfl rfl (by decide) kf_X6_58 rfl rfl (dall tdX6_firstOther 8 rfl) ?_
  refine r_iload_n C 1 (dall tdX6_firstOther 9 rfl) rfl ?_
  obtain ⟨o6, ok⟩ := ok
  refine r_iald C 12 0 rfl rfl o6 (dall tdX6_firstOther 10 rfl) ?_
  refine r_icmp_ge (tgt := 67) C (dall tdX6_firstOther 11 rfl) (by decide) (fun c7 => ?_) (fun c7 => ?_)
  · have h := (if_pos c7).symm.trans h
    have ok := ok.1 c7
    refine r_pick [0, 3] rfl ?_
    exact wX6_firstOther_67 v.1 v.2.1 C hR  ok h
  · have h := (if_neg c7).symm.trans h
    have ok := ok.2 c7
    refine r_iload_n C 3 (dall tdX6_firstOther 12 rfl) rfl ?_
    refine r_iconst (v := -1) C (dall tdX6_firstOther 13 rfl) (by decide) ?_
    refine r_icmp_ne (tgt := 67) C (dall tdX6_firstOther 14 rfl) (by decide) (fun c8 => ?_) (fun c8 => ?_)
    · have h := (if_neg c8).symm.trans h
      have ok := ok.2 c8
      refine r_pick [0, 3] rfl ?_
      exact wX6_firstOther_67 v.1 v.2.1 C hR  ok h
    · have h := (if_pos c8).symm.trans h
      have ok := ok.1 c8
      refine r_aload_n C 0 (dall tdX6_firstOther 15 rfl) rfl ?_
      obtain ⟨o9, ok⟩ := ok
      refine r_vI (as := []) C (zX6_passes cy q v.1  o9) mv_X6_passes km_X6_400 (by decide) (by decide) ⟨Nat.le_refl _, Nat.le_refl _⟩ rfl rfl rfl rfl (Nat.le_of_ble_eq_true rfl) (dall tdX6_firstOther 16 rfl) ?_
      refine r_pick [0, 1, 2, 4] rfl ?_
      exact wX6_firstOther_29 ((fX6_passes v.1 ).2) a1_ a2_ v.2.2 ((fX6_passes v.1 ).1) C hR kR9 kO9 hk9 ok h
set_option maxHeartbeats 4000000 in
set_option maxRecDepth 100000 in
theorem lX6_firstOther_9 {X : CX} {cy : Nat → ClassId} {q : Nat → Nat} {D : va_G} {A : Nat → Prop} {res : Int32 × OS} (a1_ : Int32) (a2_ : Int32) (C : Cx X cX6_firstOther RX6 5 D (gty cy) A 45 0 0) (hR : Rt X (some .int) D (gty cy) A 0 0 (eI (wX6 cy q res.2) res.1))  (n : Nat) (v : OS × Int32 × Int32) (ok : lpOk (kX6_firstOther_9 a1_ a2_ ) n v) (h : lp (0, o0) (bX6_firstOther_9 a1_ a2_ ) n v = res) : At X D A 5 0 0 9 [(0, .ref (q 41)), (1, .int a1_), (2, .int a2_), (3, .int v.2.1), (4, .int v.2.2)] [] (wX6 cy q v.1) :=
  lp_rule (fun v rr_ => rr_ = res → At X D A 5 0 0 9 [(0, .ref (q 41)), (1, .int a1_), (2, .int a2_), (3, .int v.2.1), (4, .int v.2.2)] [] (wX6 cy q v.1)) (fun kR kO hk v ok h => wX6_firstOther_9 a1_ a2_ C hR  kR kO hk v ok h) n v ok h
def pX6_firstOther_4  (σ : OS) (a1_ : Int32) (a2_ : Int32) : Int32 × OS := lp (0, o0) (bX6_firstOther_9 a1_ a2_ ) fu (σ, (-1), 0)
def oX6_firstOther_4  (σ : OS) (a1_ : Int32) (a2_ : Int32) : Prop := lpOk (kX6_firstOther_9 a1_ a2_ ) fu (σ, (-1), 0)
set_option maxHeartbeats 4000000 in
set_option maxRecDepth 100000 in
theorem wX6_firstOther_4 {X : CX} {cy : Nat → ClassId} {q : Nat → Nat} {D : va_G} {A : Nat → Prop} {res : Int32 × OS} (σ : OS) (a1_ : Int32) (a2_ : Int32) (C : Cx X cX6_firstOther RX6 5 D (gty cy) A 45 0 0) (hR : Rt X (some .int) D (gty cy) A 0 0 (eI (wX6 cy q res.2) res.1))  (ok : oX6_firstOther_4  σ a1_ a2_) (h : pX6_firstOther_4  σ a1_ a2_ = res) : At X D A 5 0 0 4 [(0, .ref (q 41)), (1, .int a1_), (2, .int a2_)] [] (wX6 cy q σ) := by
  unfold pX6_firstOther_4 at h
  unfold oX6_firstOther_4 at ok
  refine r_iconst (v := -1) C (dall tdX6_firstOther 2 rfl) (by decide) ?_
  refine r_istore_n (lv' := [(3, .int (-1)), (0, .ref (q 41)), (1, .int a1_), (2, .int a2_)]) C (dall tdX6_firstOther 3 rfl) (by decide) rfl ?_
  refine r_iconst (v := 0) C (dall tdX6_firstOther 4 rfl) (by decide) ?_
  refine r_istore (lv' := [(4, .int 0), (3, .int (-1)), (0, .ref (q 41)), (1, .int a1_), (2, .int a2_)]) C (dall tdX6_firstOther 5 rfl) (by decide) rfl ?_
  refine r_pick [2, 3, 4, 1, 0] rfl ?_
  exact lX6_firstOther_9 a1_ a2_ C hR  fu _ ok h
def pX6_firstOther_0  (σ : OS) (a1_ : Int32) (a2_ : Int32) : Int32 × OS := pX6_firstOther_4  (fX6_laysAside σ) a1_ a2_
def oX6_firstOther_0  (σ : OS) (a1_ : Int32) (a2_ : Int32) : Prop := (gX6_laysAside σ ) ∧ (oX6_firstOther_4  (fX6_laysAside σ) a1_ a2_)
set_option maxHeartbeats 4000000 in
set_option maxRecDepth 100000 in
theorem wX6_firstOther_0 {X : CX} {cy : Nat → ClassId} {q : Nat → Nat} {D : va_G} {A : Nat → Prop} {res : Int32 × OS} (σ : OS) (a1_ : Int32) (a2_ : Int32) (C : Cx X cX6_firstOther RX6 5 D (gty cy) A 45 0 0) (hR : Rt X (some .int) D (gty cy) A 0 0 (eI (wX6 cy q res.2) res.1))  (ok : oX6_firstOther_0  σ a1_ a2_) (h : pX6_firstOther_0  σ a1_ a2_ = res) : At X D A 5 0 0 0 [(0, .ref (q 41)), (1, .int a1_), (2, .int a2_)] [] (wX6 cy q σ) := by
  unfold pX6_firstOther_0 at h
  unfold oX6_firstOther_0 at ok
  refine r_aload_n C 0 (dall tdX6_firstOther 0 rfl) rfl ?_
  obtain ⟨o10, ok⟩ := ok
  refine r_vV (as := []) C (zX6_laysAside cy q σ  o10) mv_X6_laysAside km_X6_405 (by decide) (by decide) ⟨Nat.le_refl _, Nat.le_refl _⟩ rfl rfl rfl rfl (Nat.le_of_ble_eq_true rfl) (dall tdX6_firstOther 1 rfl) ?_
  exact wX6_firstOther_4 (fX6_laysAside σ) a1_ a2_ C hR  ok h
def fX6_firstOther (σ : OS) (a1_ : Int32) (a2_ : Int32) : Int32 × OS := pX6_firstOther_0  σ a1_ a2_
def gX6_firstOther (σ : OS) (a1_ : Int32) (a2_ : Int32) : Prop := oX6_firstOther_0  σ a1_ a2_
set_option maxRecDepth 100000 in
theorem zX6_firstOther (cy : Nat → ClassId) (q : Nat → Nat)  {D : va_G} (σ : OS) (a1_ : Int32) (a2_ : Int32) (ok : gX6_firstOther σ a1_ a2_)  : Con yX6_firstOther cX6_firstOther 5 (some .int) 45 0 0 D (gty cy) [.ref (q 41), .int a1_, .int a2_] (wX6 cy q σ) (eI (wX6 cy q (fX6_firstOther σ a1_ a2_).2) (fX6_firstOther σ a1_ a2_).1) :=
  Con.of (own := RX6) (by decide +kernel) rfl (Nat.le_of_ble_eq_true rfl) (Nat.zero_le _) (fun X A C hR _ => (wX6_firstOther_0 σ a1_ a2_ C hR  ok rfl))
theorem mv_X6_firstOther : MV yX6_firstOther cX6_firstOther 5 (some .int) RX6 2 := ⟨ki_X6_firstOther, kv_X6_firstOther, kn_X6, kc_X6_firstOther, by decide +kernel⟩
def tbX6_likeSet : List (Nat × Instr × Nat) := [(0, .iconst 0, 1), (1, .istore_n 2, 1), (2, .iconst 0, 1), (3, .istore_n 3, 1), (4, .iload_n 3, 1), (5, .aload_n 0, 1), (6, .getfield 71, 3), (9, .if_icmp .ge 29, 3), (12, .iload_n 2, 1), (13, .aload_n 0, 1), (14, .iload_n 1, 1), (15, .iload_n 3, 1), (16, .invokevirtual 431, 3), (19, .iconst (-1), 1), (20, .if_icmp .ne 7, 3), (23, .iconst 1, 1), (24, .goto 4, 3), (27, .iconst 0, 1), (28, .iload_n 3, 1), (29, .ishl, 1), (30, .ior, 1), (31, .istore_n 2, 1), (32, .iinc 3 1, 3), (35, .goto (-31), 3), (38, .iload_n 2, 1), (39, .ireturn, 1)]
theorem tdX6_likeSet : tbX6_likeSet.all (fun q => decide (decode cX6_likeSet q.1 = .ok q.2)) = true := by decide +kernel
def pX6_likeSet_28 (kR4 : OS × Int32 × Int32 → Int32 × OS) (σ : OS) (a1_ : Int32) (a3_ : Int32) (b0_ : Int32) (b1_ : Int32) : Int32 × OS := kR4 (σ, b1_ ||| (b0_ <<< (a3_ &&& 31)), a3_ + 1)
def oX6_likeSet_28 (kO4 : OS × Int32 × Int32 → Prop) (σ : OS) (a1_ : Int32) (a3_ : Int32) (b0_ : Int32) (b1_ : Int32) : Prop := kO4 (σ, b1_ ||| (b0_ <<< (a3_ &&& 31)), a3_ + 1)
set_option maxHeartbeats 4000000 in
set_option maxRecDepth 100000 in
theorem wX6_likeSet_28 {X : CX} {cy : Nat → ClassId} {q : Nat → Nat} {D : va_G} {A : Nat → Prop} {res : Int32 × OS} (σ : OS) (a1_ : Int32) (a3_ : Int32) (b0_ : Int32) (b1_ : Int32) (C : Cx X cX6_likeSet RX6 4 D (gty cy) A 46 0 0) (hR : Rt X (some .int) D (gty cy) A 0 0 (eI (wX6 cy q res.2) res.1)) (kR4 : OS × Int32 × Int32 → Int32 × OS) (kO4 : OS × Int32 × Int32 → Prop) (hk4 : ∀ z, kO4 z → kR4 z = res → At X D A 4 0 0 4 [(0, .ref (q 41)), (1, .int a1_), (2, .int z.2.1), (3, .int z.2.2)] [] (wX6 cy q z.1)) (ok : oX6_likeSet_28 kO4 σ a1_ a3_ b0_ b1_) (h : pX6_likeSet_28 kR4 σ a1_ a3_ b0_ b1_ = res) : At X D A 4 0 0 28 [(0, .ref (q 41)), (1, .int a1_), (3, .int a3_)] [.int b0_, .int b1_] (wX6 cy q σ) := by
  unfold pX6_likeSet_28 at h
  unfold oX6_likeSet_28 at ok
  refine r_iload_n C 2 (dall tdX6_likeSet 18 rfl) rfl ?_
  refine r_ishl C (dall tdX6_likeSet 19 rfl) ?_
  refine r_ior C (dall tdX6_likeSet 20 rfl) ?_
  refine r_istore_n (lv' := [(2, .int (b1_ ||| (b0_ <<< (a3_ &&& 31)))), (0, .ref (q 41)), (1, .int a1_), (3, .int a3_)]) C (dall tdX6_likeSet 21 rfl) (by decide) rfl ?_
  refine r_iinc (v := a3_ + 1) (lv' := [(3, .int (a3_ + 1)), (2, .int (b1_ ||| (b0_ <<< (a3_ &&& 31)))), (0, .ref (q 41)), (1, .int a1_)]) C 3 (dall tdX6_likeSet 22 rfl) rfl rfl (by decide) rfl ?_
  refine r_goto (tgt := 4) C (dall tdX6_likeSet 23 rfl) (by decide) ?_
  refine r_pick [2, 3, 1, 0] rfl ?_
  exact hk4 (σ, b1_ ||| (b0_ <<< (a3_ &&& 31)), a3_ + 1) ok h
def pX6_likeSet_19 (kR4 : OS × Int32 × Int32 → Int32 × OS) (σ : OS) (a1_ : Int32) (a3_ : Int32) (b0_ : Int32) (b1_ : Int32) : Int32 × OS := if b0_ = (-1) then pX6_likeSet_28 kR4 σ a1_ a3_ 1 b1_ else pX6_likeSet_28 kR4 σ a1_ a3_ 0 b1_
def oX6_likeSet_19 (kO4 : OS × Int32 × Int32 → Prop) (σ : OS) (a1_ : Int32) (a3_ : Int32) (b0_ : Int32) (b1_ : Int32) : Prop := (b0_ = (-1) → oX6_likeSet_28 kO4 σ a1_ a3_ 1 b1_) ∧ (¬ (b0_ = (-1)) → oX6_likeSet_28 kO4 σ a1_ a3_ 0 b1_)
set_option maxHeartbeats 4000000 in
set_option maxRecDepth 100000 in
theorem wX6_likeSet_19 {X : CX} {cy : Nat → ClassId} {q : Nat → Nat} {D : va_G} {A : Nat → Prop} {res : Int32 × OS} (σ : OS) (a1_ : Int32) (a3_ : Int32) (b0_ : Int32) (b1_ : Int32) (C : Cx X cX6_likeSet RX6 4 D (gty cy) A 46 0 0) (hR : Rt X (some .int) D (gty cy) A 0 0 (eI (wX6 cy q res.2) res.1)) (kR4 : OS × Int32 × Int32 → Int32 × OS) (kO4 : OS × Int32 × Int32 → Prop) (hk4 : ∀ z, kO4 z → kR4 z = res → At X D A 4 0 0 4 [(0, .ref (q 41)), (1, .int a1_), (2, .int z.2.1), (3, .int z.2.2)] [] (wX6 cy q z.1)) (ok : oX6_likeSet_19 kO4 σ a1_ a3_ b0_ b1_) (h : pX6_likeSet_19 kR4 σ a1_ a3_ b0_ b1_ = res) : At X D A 4 0 0 19 [(0, .ref (q 41)), (1, .int a1_), (3, .int a3_)] [.int b0_, .int b1_] (wX6 cy q σ) := by
  unfold pX6_likeSet_19 at h
  unfold oX6_likeSet_19 at ok
  refine r_iconst (v := -1) C (dall tdX6_likeSet 13 rfl) (by decide) ?_
  refine r_icmp_ne (tgt := 27) C (dall tdX6_likeSet 14 rfl) (by decide) (fun c1 => ?_) (fun c1 => ?_)
  · have h := (if_neg c1).symm.trans h
    have ok := ok.2 c1
    refine r_iconst (v := 0) C (dall tdX6_likeSet 17 rfl) (by decide) ?_
    exact wX6_likeSet_28 σ a1_ a3_ 0 b1_ C hR kR4 kO4 hk4 ok h
  · have h := (if_pos c1).symm.trans h
    have ok := ok.1 c1
    refine r_iconst (v := 1) C (dall tdX6_likeSet 15 rfl) (by decide) ?_
    refine r_goto (tgt := 28) C (dall tdX6_likeSet 16 rfl) (by decide) ?_
    exact wX6_likeSet_28 σ a1_ a3_ 1 b1_ C hR kR4 kO4 hk4 ok h
def bX6_likeSet_4 (a1_ : Int32)  (kR4 : OS × Int32 × Int32 → Int32 × OS) (v : OS × Int32 × Int32) : Int32 × OS := if (v.1.1 12) ≤ v.2.2 then (v.2.1, v.1) else pX6_likeSet_19 kR4 ((fX6_firstOther v.1 a1_ v.2.2).2) a1_ v.2.2 ((fX6_firstOther v.1 a1_ v.2.2).1) v.2.1
def kX6_likeSet_4 (a1_ : Int32)  (kO4 : OS × Int32 × Int32 → Prop) (v : OS × Int32 × Int32) : Prop := ((v.1.1 12) ≤ v.2.2 → True) ∧ (¬ ((v.1.1 12) ≤ v.2.2) → (gX6_firstOther v.1 a1_ v.2.2) ∧ (oX6_likeSet_19 kO4 ((fX6_firstOther v.1 a1_ v.2.2).2) a1_ v.2.2 ((fX6_firstOther v.1 a1_ v.2.2).1) v.2.1))
set_option maxHeartbeats 4000000 in
set_option maxRecDepth 100000 in
theorem wX6_likeSet_4 {X : CX} {cy : Nat → ClassId} {q : Nat → Nat} {D : va_G} {A : Nat → Prop} {res : Int32 × OS} (a1_ : Int32) (C : Cx X cX6_likeSet RX6 4 D (gty cy) A 46 0 0) (hR : Rt X (some .int) D (gty cy) A 0 0 (eI (wX6 cy q res.2) res.1)) (kR4 : OS × Int32 × Int32 → Int32 × OS) (kO4 : OS × Int32 × Int32 → Prop) (hk4 : ∀ z, kO4 z → kR4 z = res → At X D A 4 0 0 4 [(0, .ref (q 41)), (1, .int a1_), (2, .int z.2.1), (3, .int z.2.2)] [] (wX6 cy q z.1)) (v : OS × Int32 × Int32) (ok : kX6_likeSet_4 a1_ kO4 v) (h : bX6_likeSet_4 a1_ kR4 v = res) : At X D A 4 0 0 4 [(0, .ref (q 41)), (1, .int a1_), (2, .int v.2.1), (3, .int v.2.2)] [] (wX6 cy q v.1) := by
  unfold bX6_likeSet_4 at h
  unfold kX6_likeSet_4 at ok
  refine r_iload_n C 3 (dall tdX6_likeSet 4 rfl) rfl ?_
  refine r_aload_n C 0 (dall tdX6_likeSet 5 rfl) rfl ?_
  refine r_get C 0 kw_X6 rfl rfl (by decide) kf_X6_71 rfl rfl (dall tdX6_likeSet 6 rfl) ?_
  refine r_icmp_ge (tgt := 38) C (dall tdX6_likeSet 7 rfl) (by decide) (fun c2 => ?_) (fun c2 => ?_)
  · have h := (if_pos c2).symm.trans h
    have ok := ok.1 c2
    refine r_iload_n C 2 (dall tdX6_likeSet 24 rfl) rfl ?_
    exact r_iret C hR (dall tdX6_likeSet 25 rfl) (by subst h; exact ⟨rfl, rfl⟩)
  · have h := (if_neg c2).symm.trans h
    have ok := ok.2 c2
    refine r_iload_n C 2 (dall tdX6_likeSet 8 rfl) rfl ?_
    refine r_aload_n C 0 (dall tdX6_likeSet 9 rfl) rfl ?_
    refine r_iload_n C 1 (dall tdX6_likeSet 10 rfl) rfl ?_
    refine r_iload_n C 3 (dall tdX6_likeSet 11 rfl) rfl ?_
    obtain ⟨o3, ok⟩ := ok
    refine r_vI (as := [.int a1_, .int v.2.2]) C (zX6_firstOther cy q v.1 a1_ v.2.2 o3) mv_X6_firstOther km_X6_431 (by decide) (by decide) ⟨Nat.le_refl _, Nat.le_refl _⟩ rfl rfl rfl rfl (Nat.le_of_ble_eq_true rfl) (dall tdX6_likeSet 12 rfl) ?_
    refine r_pick [0, 1, 3] rfl ?_
    exact wX6_likeSet_19 ((fX6_firstOther v.1 a1_ v.2.2).2) a1_ v.2.2 ((fX6_firstOther v.1 a1_ v.2.2).1) v.2.1 C hR kR4 kO4 hk4 ok h
set_option maxHeartbeats 4000000 in
set_option maxRecDepth 100000 in
theorem lX6_likeSet_4 {X : CX} {cy : Nat → ClassId} {q : Nat → Nat} {D : va_G} {A : Nat → Prop} {res : Int32 × OS} (a1_ : Int32) (C : Cx X cX6_likeSet RX6 4 D (gty cy) A 46 0 0) (hR : Rt X (some .int) D (gty cy) A 0 0 (eI (wX6 cy q res.2) res.1))  (n : Nat) (v : OS × Int32 × Int32) (ok : lpOk (kX6_likeSet_4 a1_ ) n v) (h : lp (0, o0) (bX6_likeSet_4 a1_ ) n v = res) : At X D A 4 0 0 4 [(0, .ref (q 41)), (1, .int a1_), (2, .int v.2.1), (3, .int v.2.2)] [] (wX6 cy q v.1) :=
  lp_rule (fun v rr_ => rr_ = res → At X D A 4 0 0 4 [(0, .ref (q 41)), (1, .int a1_), (2, .int v.2.1), (3, .int v.2.2)] [] (wX6 cy q v.1)) (fun kR kO hk v ok h => wX6_likeSet_4 a1_ C hR  kR kO hk v ok h) n v ok h
def pX6_likeSet_0  (σ : OS) (a1_ : Int32) : Int32 × OS := lp (0, o0) (bX6_likeSet_4 a1_ ) fu (σ, 0, 0)
def oX6_likeSet_0  (σ : OS) (a1_ : Int32) : Prop := lpOk (kX6_likeSet_4 a1_ ) fu (σ, 0, 0)
set_option maxHeartbeats 4000000 in
set_option maxRecDepth 100000 in
theorem wX6_likeSet_0 {X : CX} {cy : Nat → ClassId} {q : Nat → Nat} {D : va_G} {A : Nat → Prop} {res : Int32 × OS} (σ : OS) (a1_ : Int32) (C : Cx X cX6_likeSet RX6 4 D (gty cy) A 46 0 0) (hR : Rt X (some .int) D (gty cy) A 0 0 (eI (wX6 cy q res.2) res.1))  (ok : oX6_likeSet_0  σ a1_) (h : pX6_likeSet_0  σ a1_ = res) : At X D A 4 0 0 0 [(0, .ref (q 41)), (1, .int a1_)] [] (wX6 cy q σ) := by
  unfold pX6_likeSet_0 at h
  unfold oX6_likeSet_0 at ok
  refine r_iconst (v := 0) C (dall tdX6_likeSet 0 rfl) (by decide) ?_
  refine r_istore_n (lv' := [(2, .int 0), (0, .ref (q 41)), (1, .int a1_)]) C (dall tdX6_likeSet 1 rfl) (by decide) rfl ?_
  refine r_iconst (v := 0) C (dall tdX6_likeSet 2 rfl) (by decide) ?_
  refine r_istore_n (lv' := [(3, .int 0), (2, .int 0), (0, .ref (q 41)), (1, .int a1_)]) C (dall tdX6_likeSet 3 rfl) (by decide) rfl ?_
  refine r_pick [2, 3, 1, 0] rfl ?_
  exact lX6_likeSet_4 a1_ C hR  fu _ ok h
def fX6_likeSet (σ : OS) (a1_ : Int32) : Int32 × OS := pX6_likeSet_0  σ a1_
def gX6_likeSet (σ : OS) (a1_ : Int32) : Prop := oX6_likeSet_0  σ a1_
set_option maxRecDepth 100000 in
theorem zX6_likeSet (cy : Nat → ClassId) (q : Nat → Nat)  {D : va_G} (σ : OS) (a1_ : Int32) (ok : gX6_likeSet σ a1_)  : Con yX6_likeSet cX6_likeSet 4 (some .int) 46 0 0 D (gty cy) [.ref (q 41), .int a1_] (wX6 cy q σ) (eI (wX6 cy q (fX6_likeSet σ a1_).2) (fX6_likeSet σ a1_).1) :=
  Con.of (own := RX6) (by decide +kernel) rfl (Nat.le_of_ble_eq_true rfl) (Nat.zero_le _) (fun X A C hR _ => (wX6_likeSet_0 σ a1_ C hR  ok rfl))
theorem mv_X6_likeSet : MV yX6_likeSet cX6_likeSet 4 (some .int) RX6 1 := ⟨ki_X6_likeSet, kv_X6_likeSet, kn_X6, kc_X6_likeSet, by decide +kernel⟩
def tbX6_tells : List (Nat × Instr × Nat) := [(0, .iload_n 1, 1), (1, .invokestatic 434, 3), (4, .ifCond .eq 23, 3), (7, .aload_n 0, 1), (8, .iload_n 2, 1), (9, .invokevirtual 90, 3), (12, .ifCond .eq 15, 3), (15, .iload_n 3, 1), (16, .i2l, 1), (17, .lconst 0, 1), (18, .ldc2_w 437, 3), (21, .invokestatic 74, 3), (24, .ifCond .ne 6, 3), (27, .bipush (-2), 2), (29, .ireturn, 1), (30, .aload_n 0, 1), (31, .getfield 51, 3), (34, .iload_n 1, 1), (35, .baload, 1), (36, .ifCond .ne 6, 3), (39, .bipush (-11), 2), (41, .ireturn, 1), (42, .aload_n 0, 1), (43, .getfield 58, 3), (46, .iload_n 1, 1), (47, .iaload, 1), (48, .bipush 20, 2), (50, .if_icmp .le 6, 3), (53, .bipush (-2), 2), (55, .ireturn, 1), (56, .iload_n 3, 1), (57, .ifCond .eq 9, 3), (60, .iload_n 3, 1), (61, .bipush 6, 2), (63, .if_icmp .ne 22, 3), (66, .iload_n 3, 1), (67, .ifCond .ne 12, 3), (70, .aload_n 0, 1), (71, .iload_n 1, 1), (72, .iload_n 2, 1), (73, .invokevirtual 431, 3), (76, .goto 8, 3), (79, .aload_n 0, 1), (80, .iload_n 1, 1), (81, .invokevirtual 439, 3), (84, .ireturn, 1), (85, .iload_n 3, 1), (86, .iconst 1, 1), (87, .if_icmp .ne 7, 3), (90, .iconst 3, 1), (91, .goto 22, 3), (94, .iload_n 3, 1), (95, .iconst 2, 1), (96, .if_icmp .ne 7, 3), (99, .iconst 1, 1), (100, .goto 13, 3), (103, .iload_n 3, 1), (104, .iconst 5, 1), (105, .if_icmp .ne 7, 3), (108, .iconst 4, 1), (109, .goto 4, 3), (112, .iconst 2, 1), (113, .istore 4, 2), (115, .iload 4, 2), (117, .iconst 4, 1), (118, .if_icmp .ne 10, 3), (121, .aload_n 0, 1), (122, .getfield 118, 3), (125, .goto 10, 3), (128, .aload_n 0, 1), (129, .iload_n 2, 1), (130, .iload 4, 2), (132, .invokevirtual 101, 3), (135, .istore 5, 2), (137, .iload 4, 2), (139, .iconst 4, 1), (140, .if_icmp .ne 12, 3), (143, .aload_n 0, 1), (144, .getfield 68, 3), (147, .iconst 1, 1), (148, .isub, 1), (149, .goto 26, 3), (152, .iload 4, 2), (154, .iconst 3, 1), (155, .if_icmp .ne 7, 3), (158, .iconst 5, 1), (159, .goto 16, 3), (162, .iload 4, 2), (164, .iconst 1, 1), (165, .if_icmp .ne 8, 3), (168, .bipush 9, 2), (170, .goto 5, 3), (173, .bipush 99, 2), (175, .istore 6, 2), (177, .iconst 0, 1), (178, .istore 7, 2), (180, .iconst 0, 1), (181, .istore 8, 2), (183, .iconst (-1), 1), (184, .istore 9, 2), (186, .iload 6, 2), (188, .istore 10, 2), (190, .iload 10, 2), (192, .ifCond .lt 55, 3), (195, .aload_n 0, 1), (196, .iload 4, 2), (198, .iload_n 2, 1), (199, .iload 10, 2), (201, .invokevirtual 111, 3), (204, .aload_n 0, 1), (205, .iload_n 1, 1), (206, .iload_n 2, 1), (207, .invokevirtual 431, 3), (210, .iconst (-1), 1), (211, .if_icmp .ne 30, 3), (214, .iload 7, 2), (216, .iload 10, 2), (218, .bipush 10, 2), (220, .if_icmp .ge 10, 3), (223, .iconst 1, 1), (224, .iload 10, 2), (226, .ishl, 1), (227, .goto 4, 3), (230, .iconst 0, 1), (231, .ior, 1), (232, .istore 7, 2), (234, .iinc 8 1, 3), (237, .iload 10, 2), (239, .istore 9, 2), (241, .iinc 10 (-1), 3), (244, .goto (-54), 3), (247, .aload_n 0, 1), (248, .iload 4, 2), (250, .iload_n 2, 1), (251, .iload 5, 2), (253, .invokevirtual 111, 3), (256, .iload_n 3, 1), (257, .iconst 3, 1), (258, .if_icmp .ne 8, 3), (261, .iload 8, 2), (263, .goto 15, 3), (266, .iload_n 3, 1), (267, .iconst 4, 1), (268, .if_icmp .ne 8, 3), (271, .iload 9, 2), (273, .goto 5, 3), (276, .iload 7, 2), (278, .ireturn, 1)]
theorem tdX6_tells : tbX6_tells.all (fun q => decide (decode cX6_tells q.1 = .ok q.2)) = true := by decide +kernel
def pX6_tells_84  (σ : OS) (b0_ : Int32) : Int32 × OS := (b0_, σ)
set_option maxHeartbeats 4000000 in
set_option maxRecDepth 100000 in
theorem wX6_tells_84 {X : CX} {cy : Nat → ClassId} {q : Nat → Nat} {D : va_G} {A : Nat → Prop} {res : Int32 × OS} (σ : OS) (b0_ : Int32) (C : Cx X cX6_tells RX6 11 D (gty cy) A 47 0 0) (hR : Rt X (some .int) D (gty cy) A 0 0 (eI (wX6 cy q res.2) res.1))  (h : pX6_tells_84  σ b0_ = res) : At X D A 11 0 0 84 [] [.int b0_] (wX6 cy q σ) := by
  unfold pX6_tells_84 at h
  exact r_iret C hR (dall tdX6_tells 45 rfl) (by subst h; exact ⟨rfl, rfl⟩)
def pX6_tells_76  (σ : OS) (b0_ : Int32) : Int32 × OS := pX6_tells_84  σ b0_
set_option maxHeartbeats 4000000 in
set_option maxRecDepth 100000 in
theorem wX6_tells_76 {X : CX} {cy : Nat → ClassId} {q : Nat → Nat} {D : va_G} {A : Nat → Prop} {res : Int32 × OS} (σ : OS) (b0_ : Int32) (C : Cx X cX6_tells RX6 11 D (gty cy) A 47 0 0) (hR : Rt X (some .int) D (gty cy) A 0 0 (eI (wX6 cy q res.2) res.1))  (h : pX6_tells_76  σ b0_ = res) : At X D A 11 0 0 76 [] [.int b0_] (wX6 cy q σ) := by
  unfold pX6_tells_76 at h
  refine r_goto (tgt := 84) C (dall tdX6_tells 41 rfl) (by decide) ?_
  exact wX6_tells_84 σ b0_ C hR  h
def pX6_tells_66  (σ : OS) (a1_ : Int32) (a2_ : Int32) (a3_ : Int32) : Int32 × OS := if a3_ = 0 then pX6_tells_76  ((fX6_firstOther σ a1_ a2_).2) ((fX6_firstOther σ a1_ a2_).1) else pX6_tells_84  ((fX6_likeSet σ a1_).2) ((fX6_likeSet σ a1_).1)
def oX6_tells_66  (σ : OS) (a1_ : Int32) (a2_ : Int32) (a3_ : Int32) : Prop := (a3_ = 0 → gX6_firstOther σ a1_ a2_) ∧ (¬ (a3_ = 0) → gX6_likeSet σ a1_)
set_option maxHeartbeats 4000000 in
set_option maxRecDepth 100000 in
theorem wX6_tells_66 {X : CX} {cy : Nat → ClassId} {q : Nat → Nat} {D : va_G} {A : Nat → Prop} {res : Int32 × OS} (σ : OS) (a1_ : Int32) (a2_ : Int32) (a3_ : Int32) (C : Cx X cX6_tells RX6 11 D (gty cy) A 47 0 0) (hR : Rt X (some .int) D (gty cy) A 0 0 (eI (wX6 cy q res.2) res.1))  (ok : oX6_tells_66  σ a1_ a2_ a3_) (h : pX6_tells_66  σ a1_ a2_ a3_ = res) : At X D A 11 0 0 66 [(0, .ref (q 41)), (1, .int a1_), (2, .int a2_), (3, .int a3_)] [] (wX6 cy q σ) := by
  unfold pX6_tells_66 at h
  unfold oX6_tells_66 at ok
  refine r_iload_n C 3 (dall tdX6_tells 35 rfl) rfl ?_
  refine r_if_ne (tgt := 79) C (dall tdX6_tells 36 rfl) (by decide) (fun c1 => ?_) (fun c1 => ?_)
  · have h := (if_neg c1).symm.trans h
    have ok := ok.2 c1
    refine r_aload_n C 0 (dall tdX6_tells 42 rfl) rfl ?_
    refine r_iload_n C 1 (dall tdX6_tells 43 rfl) rfl ?_
    have o2 := ok
    refine r_vI (as := [.int a1_]) C (zX6_likeSet cy q σ a1_ o2) mv_X6_likeSet km_X6_439 (by decide) (by decide) ⟨Nat.le_refl _, Nat.le_refl _⟩ rfl rfl rfl rfl (Nat.le_of_ble_eq_true rfl) (dall tdX6_tells 44 rfl) ?_
    refine r_pick [] rfl ?_
    exact wX6_tells_84 ((fX6_likeSet σ a1_).2) ((fX6_likeSet σ a1_).1) C hR  h
  · have h := (if_pos c1).symm.trans h
    have ok := ok.1 c1
    refine r_aload_n C 0 (dall tdX6_tells 37 rfl) rfl ?_
    refine r_iload_n C 1 (dall tdX6_tells 38 rfl) rfl ?_
    refine r_iload_n C 2 (dall tdX6_tells 39 rfl) rfl ?_
    have o3 := ok
    refine r_vI (as := [.int a1_, .int a2_]) C (zX6_firstOther cy q σ a1_ a2_ o3) mv_X6_firstOther km_X6_431 (by decide) (by decide) ⟨Nat.le_refl _, Nat.le_refl _⟩ rfl rfl rfl rfl (Nat.le_of_ble_eq_true rfl) (dall tdX6_tells 40 rfl) ?_
    refine r_pick [] rfl ?_
    exact wX6_tells_76 ((fX6_firstOther σ a1_ a2_).2) ((fX6_firstOther σ a1_ a2_).1) C hR  h
def pX6_tells_256  (σ : OS) (a3_ : Int32) (a7_ : Int32) (a8_ : Int32) (a9_ : Int32) : Int32 × OS := if a3_ = 3 then (a8_, σ) else if a3_ = 4 then (a9_, σ) else (a7_, σ)
set_option maxHeartbeats 4000000 in
set_option maxRecDepth 100000 in
theorem wX6_tells_256 {X : CX} {cy : Nat → ClassId} {q : Nat → Nat} {D : va_G} {A : Nat → Prop} {res : Int32 × OS} (σ : OS) (a3_ : Int32) (a7_ : Int32) (a8_ : Int32) (a9_ : Int32) (C : Cx X cX6_tells RX6 11 D (gty cy) A 47 0 0) (hR : Rt X (some .int) D (gty cy) A 0 0 (eI (wX6 cy q res.2) res.1))  (h : pX6_tells_256  σ a3_ a7_ a8_ a9_ = res) : At X D A 11 0 0 256 [(3, .int a3_), (7, .int a7_), (8, .int a8_), (9, .int a9_)] [] (wX6 cy q σ) := by
  unfold pX6_tells_256 at h
  refine r_iload_n C 0 (dall tdX6_tells 136 rfl) rfl ?_
  refine r_iconst (v := 3) C (dall tdX6_tells 137 rfl) (by decide) ?_
  refine r_icmp_ne (tgt := 266) C (dall tdX6_tells 138 rfl) (by decide) (fun c4 => ?_) (fun c4 => ?_)
  · have h := (if_neg c4).symm.trans h
    refine r_iload_n C 0 (dall tdX6_tells 141 rfl) rfl ?_
    refine r_iconst (v := 4) C (dall tdX6_tells 142 rfl) (by decide) ?_
    refine r_icmp_ne (tgt := 276) C (dall tdX6_tells 143 rfl) (by decide) (fun c5 => ?_) (fun c5 => ?_)
    · have h := (if_neg c5).symm.trans h
      refine r_iload C 1 (dall tdX6_tells 146 rfl) rfl ?_
      exact r_iret C hR (dall tdX6_tells 147 rfl) (by subst h; exact ⟨rfl, rfl⟩)
    · have h := (if_pos c5).symm.trans h
      refine r_iload C 3 (dall tdX6_tells 144 rfl) rfl ?_
      refine r_goto (tgt := 278) C (dall tdX6_tells 145 rfl) (by decide) ?_
      exact r_iret C hR (dall tdX6_tells 147 rfl) (by subst h; exact ⟨rfl, rfl⟩)
  · have h := (if_pos c4).symm.trans h
    refine r_iload C 2 (dall tdX6_tells 139 rfl) rfl ?_
    refine r_goto (tgt := 278) C (dall tdX6_tells 140 rfl) (by decide) ?_
    exact r_iret C hR (dall tdX6_tells 147 rfl) (by subst h; exact ⟨rfl, rfl⟩)
def pX6_tells_241 (kR190 : OS × Int32 × Int32 × Int32 × Int32 → Int32 × OS) (σ : OS) (a1_ : Int32) (a2_ : Int32) (a3_ : Int32) (a4_ : Int32) (a5_ : Int32) (a7_ : Int32) (a8_ : Int32) (a9_ : Int32) (a10_ : Int32) : Int32 × OS := kR190 (σ, a7_, a8_, a9_, a10_ + (-1))
def oX6_tells_241 (kO190 : OS × Int32 × Int32 × Int32 × Int32 → Prop) (σ : OS) (a1_ : Int32) (a2_ : Int32) (a3_ : Int32) (a4_ : Int32) (a5_ : Int32) (a7_ : Int32) (a8_ : Int32) (a9_ : Int32) (a10_ : Int32) : Prop := kO190 (σ, a7_, a8_, a9_, a10_ + (-1))
set_option maxHeartbeats 4000000 in
set_option maxRecDepth 100000 in
theorem wX6_tells_241 {X : CX} {cy : Nat → ClassId} {q : Nat → Nat} {D : va_G} {A : Nat → Prop} {res : Int32 × OS} (σ : OS) (a1_ : Int32) (a2_ : Int32) (a3_ : Int32) (a4_ : Int32) (a5_ : Int32) (a7_ : Int32) (a8_ : Int32) (a9_ : Int32) (a10_ : Int32) (C : Cx X cX6_tells RX6 11 D (gty cy) A 47 0 0) (hR : Rt X (some .int) D (gty cy) A 0 0 (eI (wX6 cy q res.2) res.1)) (kR190 : OS × Int32 × Int32 × Int32 × Int32 → Int32 × OS) (kO190 : OS × Int32 × Int32 × Int32 × Int32 → Prop) (hk190 : ∀ z, kO190 z → kR190 z = res → At X D A 11 0 0 190 [(0, .ref (q 41)), (1, .int a1_), (2, .int a2_), (3, .int a3_), (4, .int a4_), (5, .int a5_), (7, .int z.2.1), (8, .int z.2.2.1), (9, .int z.2.2.2.1), (10, .int z.2.2.2.2)] [] (wX6 cy q z.1)) (ok : oX6_tells_241 kO190 σ a1_ a2_ a3_ a4_ a5_ a7_ a8_ a9_ a10_) (h : pX6_tells_241 kR190 σ a1_ a2_ a3_ a4_ a5_ a7_ a8_ a9_ a10_ = res) : At X D A 11 0 0 241 [(0, .ref (q 41)), (1, .int a1_), (2, .int a2_), (3, .int a3_), (4, .int a4_), (5, .int a5_), (7, .int a7_), (8, .int a8_), (9, .int a9_), (10, .int a10_)] [] (wX6 cy q σ) := by
  unfold pX6_tells_241 at h
  unfold oX6_tells_241 at ok
  refine r_iinc (v := a10_ + (-1)) (lv' := [(10, .int (a10_ + (-1))), (0, .ref (q 41)), (1, .int a1_), (2, .int a2_), (3, .int a3_), (4, .int a4_), (5, .int a5_), (7, .int a7_), (8, .int a8_), (9, .int a9_)]) C 9 (dall tdX6_tells 129 rfl) rfl rfl (by decide) rfl ?_
  refine r_goto (tgt := 190) C (dall tdX6_tells 130 rfl) (by decide) ?_
  refine r_pick [1, 2, 3, 4, 5, 6, 7, 8, 9, 0] rfl ?_
  exact hk190 (σ, a7_, a8_, a9_, a10_ + (-1)) ok h
def pX6_tells_231 (kR190 : OS × Int32 × Int32 × Int32 × Int32 → Int32 × OS) (σ : OS) (a1_ : Int32) (a2_ : Int32) (a3_ : Int32) (a4_ : Int32) (a5_ : Int32) (a8_ : Int32) (a10_ : Int32) (b0_ : Int32) (b1_ : Int32) : Int32 × OS := pX6_tells_241 kR190 σ a1_ a2_ a3_ a4_ a5_ (b1_ ||| b0_) (a8_ + 1) a10_ a10_
def oX6_tells_231 (kO190 : OS × Int32 × Int32 × Int32 × Int32 → Prop) (σ : OS) (a1_ : Int32) (a2_ : Int32) (a3_ : Int32) (a4_ : Int32) (a5_ : Int32) (a8_ : Int32) (a10_ : Int32) (b0_ : Int32) (b1_ : Int32) : Prop := oX6_tells_241 kO190 σ a1_ a2_ a3_ a4_ a5_ (b1_ ||| b0_) (a8_ + 1) a10_ a10_
set_option maxHeartbeats 4000000 in
set_option maxRecDepth 100000 in
theorem wX6_tells_231 {X : CX} {cy : Nat → ClassId} {q : Nat → Nat} {D : va_G} {A : Nat → Prop} {res : Int32 × OS} (σ : OS) (a1_ : Int32) (a2_ : Int32) (a3_ : Int32) (a4_ : Int32) (a5_ : Int32) (a8_ : Int32) (a10_ : Int32) (b0_ : Int32) (b1_ : Int32) (C : Cx X cX6_tells RX6 11 D (gty cy) A 47 0 0) (hR : Rt X (some .int) D (gty cy) A 0 0 (eI (wX6 cy q res.2) res.1)) (kR190 : OS × Int32 × Int32 × Int32 × Int32 → Int32 × OS) (kO190 : OS × Int32 × Int32 × Int32 × Int32 → Prop) (hk190 : ∀ z, kO190 z → kR190 z = res → At X D A 11 0 0 190 [(0, .ref (q 41)), (1, .int a1_), (2, .int a2_), (3, .int a3_), (4, .int a4_), (5, .int a5_), (7, .int z.2.1), (8, .int z.2.2.1), (9, .int z.2.2.2.1), (10, .int z.2.2.2.2)] [] (wX6 cy q z.1)) (ok : oX6_tells_231 kO190 σ a1_ a2_ a3_ a4_ a5_ a8_ a10_ b0_ b1_) (h : pX6_tells_231 kR190 σ a1_ a2_ a3_ a4_ a5_ a8_ a10_ b0_ b1_ = res) : At X D A 11 0 0 231 [(0, .ref (q 41)), (1, .int a1_), (2, .int a2_), (3, .int a3_), (4, .int a4_), (5, .int a5_), (8, .int a8_), (10, .int a10_)] [.int b0_, .int b1_] (wX6 cy q σ) := by
  unfold pX6_tells_231 at h
  unfold oX6_tells_231 at ok
  refine r_ior C (dall tdX6_tells 124 rfl) ?_
  refine r_istore (lv' := [(7, .int (b1_ ||| b0_)), (0, .ref (q 41)), (1, .int a1_), (2, .int a2_), (3, .int a3_), (4, .int a4_), (5, .int a5_), (8, .int a8_), (10, .int a10_)]) C (dall tdX6_tells 125 rfl) (by decide) rfl ?_
  refine r_iinc (v := a8_ + 1) (lv' := [(8, .int (a8_ + 1)), (7, .int (b1_ ||| b0_)), (0, .ref (q 41)), (1, .int a1_), (2, .int a2_), (3, .int a3_), (4, .int a4_), (5, .int a5_), (10, .int a10_)]) C 7 (dall tdX6_tells 126 rfl) rfl rfl (by decide) rfl ?_
  refine r_iload C 8 (dall tdX6_tells 127 rfl) rfl ?_
  refine r_istore (lv' := [(9, .int a10_), (8, .int (a8_ + 1)), (7, .int (b1_ ||| b0_)), (0, .ref (q 41)), (1, .int a1_), (2, .int a2_), (3, .int a3_), (4, .int a4_), (5, .int a5_), (10, .int a10_)]) C (dall tdX6_tells 128 rfl) (by decide) rfl ?_
  refine r_pick [3, 4, 5, 6, 7, 8, 2, 1, 0, 9] rfl ?_
  exact wX6_tells_241 σ a1_ a2_ a3_ a4_ a5_ (b1_ ||| b0_) (a8_ + 1) a10_ a10_ C hR kR190 kO190 hk190 ok h
def pX6_tells_210 (kR190 : OS × Int32 × Int32 × Int32 × Int32 → Int32 × OS) (σ : OS) (a1_ : Int32) (a2_ : Int32) (a3_ : Int32) (a4_ : Int32) (a5_ : Int32) (a7_ : Int32) (a8_ : Int32) (a9_ : Int32) (a10_ : Int32) (b0_ : Int32) : Int32 × OS := if b0_ = (-1) then if 10 ≤ a10_ then pX6_tells_231 kR190 σ a1_ a2_ a3_ a4_ a5_ a8_ a10_ 0 a7_ else pX6_tells_231 kR190 σ a1_ a2_ a3_ a4_ a5_ a8_ a10_ (1 <<< (a10_ &&& 31)) a7_ else pX6_tells_241 kR190 σ a1_ a2_ a3_ a4_ a5_ a7_ a8_ a9_ a10_
def oX6_tells_210 (kO190 : OS × Int32 × Int32 × Int32 × Int32 → Prop) (σ : OS) (a1_ : Int32) (a2_ : Int32) (a3_ : Int32) (a4_ : Int32) (a5_ : Int32) (a7_ : Int32) (a8_ : Int32) (a9_ : Int32) (a10_ : Int32) (b0_ : Int32) : Prop := (b0_ = (-1) → (10 ≤ a10_ → oX6_tells_231 kO190 σ a1_ a2_ a3_ a4_ a5_ a8_ a10_ 0 a7_) ∧ (¬ (10 ≤ a10_) → oX6_tells_231 kO190 σ a1_ a2_ a3_ a4_ a5_ a8_ a10_ (1 <<< (a10_ &&& 31)) a7_)) ∧ (¬ (b0_ = (-1)) → oX6_tells_241 kO190 σ a1_ a2_ a3_ a4_ a5_ a7_ a8_ a9_ a10_)
set_option maxHeartbeats 4000000 in
set_option maxRecDepth 100000 in
theorem wX6_tells_210 {X : CX} {cy : Nat → ClassId} {q : Nat → Nat} {D : va_G} {A : Nat → Prop} {res : Int32 × OS} (σ : OS) (a1_ : Int32) (a2_ : Int32) (a3_ : Int32) (a4_ : Int32) (a5_ : Int32) (a7_ : Int32) (a8_ : Int32) (a9_ : Int32) (a10_ : Int32) (b0_ : Int32) (C : Cx X cX6_tells RX6 11 D (gty cy) A 47 0 0) (hR : Rt X (some .int) D (gty cy) A 0 0 (eI (wX6 cy q res.2) res.1)) (kR190 : OS × Int32 × Int32 × Int32 × Int32 → Int32 × OS) (kO190 : OS × Int32 × Int32 × Int32 × Int32 → Prop) (hk190 : ∀ z, kO190 z → kR190 z = res → At X D A 11 0 0 190 [(0, .ref (q 41)), (1, .int a1_), (2, .int a2_), (3, .int a3_), (4, .int a4_), (5, .int a5_), (7, .int z.2.1), (8, .int z.2.2.1), (9, .int z.2.2.2.1), (10, .int z.2.2.2.2)] [] (wX6 cy q z.1)) (ok : oX6_tells_210 kO190 σ a1_ a2_ a3_ a4_ a5_ a7_ a8_ a9_ a10_ b0_) (h : pX6_tells_210 kR190 σ a1_ a2_ a3_ a4_ a5_ a7_ a8_ a9_ a10_ b0_ = res) : At X D A 11 0 0 210 [(0, .ref (q 41)), (1, .int a1_), (2, .int a2_), (3, .int a3_), (4, .int a4_), (5, .int a5_), (7, .int a7_), (8, .int a8_), (9, .int a9_), (10, .int a10_)] [.int b0_] (wX6 cy q σ) := by
  unfold pX6_tells_210 at h
  unfold oX6_tells_210 at ok
  refine r_iconst (v := -1) C (dall tdX6_tells 113 rfl) (by decide) ?_
  refine r_icmp_ne (tgt := 241) C (dall tdX6_tells 114 rfl) (by decide) (fun c6 => ?_) (fun c6 => ?_)
  · have h := (if_neg c6).symm.trans h
    have ok := ok.2 c6
    exact wX6_tells_241 σ a1_ a2_ a3_ a4_ a5_ a7_ a8_ a9_ a10_ C hR kR190 kO190 hk190 ok h
  · have h := (if_pos c6).symm.trans h
    have ok := ok.1 c6
    refine r_iload C 6 (dall tdX6_tells 115 rfl) rfl ?_
    refine r_iload C 9 (dall tdX6_tells 116 rfl) rfl ?_
    refine r_bipush (v := 10) C (dall tdX6_tells 117 rfl) (by decide) ?_
    refine r_icmp_ge (tgt := 230) C (dall tdX6_tells 118 rfl) (by decide) (fun c7 => ?_) (fun c7 => ?_)
    · have h := (if_pos c7).symm.trans h
      have ok := ok.1 c7
      refine r_iconst (v := 0) C (dall tdX6_tells 123 rfl) (by decide) ?_
      refine r_pick [0, 1, 2, 3, 4, 5, 7, 9] rfl ?_
      exact wX6_tells_231 σ a1_ a2_ a3_ a4_ a5_ a8_ a10_ 0 a7_ C hR kR190 kO190 hk190 ok h
    · have h := (if_neg c7).symm.trans h
      have ok := ok.2 c7
      refine r_iconst (v := 1) C (dall tdX6_tells 119 rfl) (by decide) ?_
      refine r_iload C 9 (dall tdX6_tells 120 rfl) rfl ?_
      refine r_ishl C (dall tdX6_tells 121 rfl) ?_
      refine r_goto (tgt := 231) C (dall tdX6_tells 122 rfl) (by decide) ?_
      refine r_pick [0, 1, 2, 3, 4, 5, 7, 9] rfl ?_
      exact wX6_tells_231 σ a1_ a2_ a3_ a4_ a5_ a8_ a10_ (1 <<< (a10_ &&& 31)) a7_ C hR kR190 kO190 hk190 ok h
def pX6_tells_204 (kR190 : OS × Int32 × Int32 × Int32 × Int32 → Int32 × OS) (σ : OS) (a1_ : Int32) (a2_ : Int32) (a3_ : Int32) (a4_ : Int32) (a5_ : Int32) (a7_ : Int32) (a8_ : Int32) (a9_ : Int32) (a10_ : Int32) : Int32 × OS := pX6_tells_210 kR190 ((fX6_firstOther σ a1_ a2_).2) a1_ a2_ a3_ a4_ a5_ a7_ a8_ a9_ a10_ ((fX6_firstOther σ a1_ a2_).1)
def oX6_tells_204 (kO190 : OS × Int32 × Int32 × Int32 × Int32 → Prop) (σ : OS) (a1_ : Int32) (a2_ : Int32) (a3_ : Int32) (a4_ : Int32) (a5_ : Int32) (a7_ : Int32) (a8_ : Int32) (a9_ : Int32) (a10_ : Int32) : Prop := (gX6_firstOther σ a1_ a2_) ∧ (oX6_tells_210 kO190 ((fX6_firstOther σ a1_ a2_).2) a1_ a2_ a3_ a4_ a5_ a7_ a8_ a9_ a10_ ((fX6_firstOther σ a1_ a2_).1))
set_option maxHeartbeats 4000000 in
set_option maxRecDepth 100000 in
theorem wX6_tells_204 {X : CX} {cy : Nat → ClassId} {q : Nat → Nat} {D : va_G} {A : Nat → Prop} {res : Int32 × OS} (σ : OS) (a1_ : Int32) (a2_ : Int32) (a3_ : Int32) (a4_ : Int32) (a5_ : Int32) (a7_ : Int32) (a8_ : Int32) (a9_ : Int32) (a10_ : Int32) (C : Cx X cX6_tells RX6 11 D (gty cy) A 47 0 0) (hR : Rt X (some .int) D (gty cy) A 0 0 (eI (wX6 cy q res.2) res.1)) (kR190 : OS × Int32 × Int32 × Int32 × Int32 → Int32 × OS) (kO190 : OS × Int32 × Int32 × Int32 × Int32 → Prop) (hk190 : ∀ z, kO190 z → kR190 z = res → At X D A 11 0 0 190 [(0, .ref (q 41)), (1, .int a1_), (2, .int a2_), (3, .int a3_), (4, .int a4_), (5, .int a5_), (7, .int z.2.1), (8, .int z.2.2.1), (9, .int z.2.2.2.1), (10, .int z.2.2.2.2)] [] (wX6 cy q z.1)) (ok : oX6_tells_204 kO190 σ a1_ a2_ a3_ a4_ a5_ a7_ a8_ a9_ a10_) (h : pX6_tells_204 kR190 σ a1_ a2_ a3_ a4_ a5_ a7_ a8_ a9_ a10_ = res) : At X D A 11 0 0 204 [(0, .ref (q 41)), (1, .int a1_), (2, .int a2_), (3, .int a3_), (4, .int a4_), (5, .int a5_), (7, .int a7_), (8, .int a8_), (9, .int a9_), (10, .int a10_)] [] (wX6 cy q σ) := by
  unfold pX6_tells_204 at h
  unfold oX6_tells_204 at ok
  refine r_aload_n C 0 (dall tdX6_tells 109 rfl) rfl ?_
  refine r_iload_n C 1 (dall tdX6_tells 110 rfl) rfl ?_
  refine r_iload_n C 2 (dall tdX6_tells 111 rfl) rfl ?_
  obtain ⟨o8, ok⟩ := ok
  refine r_vI (as := [.int a1_, .int a2_]) C (zX6_firstOther cy q σ a1_ a2_ o8) mv_X6_firstOther km_X6_431 (by decide) (by decide) ⟨Nat.le_refl _, Nat.le_refl _⟩ rfl rfl rfl rfl (Nat.le_of_ble_eq_true rfl) (dall tdX6_tells 112 rfl) ?_
  exact wX6_tells_210 ((fX6_firstOther σ a1_ a2_).2) a1_ a2_ a3_ a4_ a5_ a7_ a8_ a9_ a10_ ((fX6_firstOther σ a1_ a2_).1) C hR kR190 kO190 hk190 ok h
def bX6_tells_190 (a1_ : Int32) (a2_ : Int32) (a3_ : Int32) (a4_ : Int32) (a5_ : Int32)  (kR190 : OS × Int32 × Int32 × Int32 × Int32 → Int32 × OS) (v : OS × Int32 × Int32 × Int32 × Int32) : Int32 × OS := if v.2.2.2.2 < 0 then pX6_tells_256  (fX6_lays v.1 a4_ a2_ a5_) a3_ v.2.1 v.2.2.1 v.2.2.2.1 else pX6_tells_204 kR190 (fX6_lays v.1 a4_ a2_ v.2.2.2.2) a1_ a2_ a3_ a4_ a5_ v.2.1 v.2.2.1 v.2.2.2.1 v.2.2.2.2
def kX6_tells_190 (a1_ : Int32) (a2_ : Int32) (a3_ : Int32) (a4_ : Int32) (a5_ : Int32)  (kO190 : OS × Int32 × Int32 × Int32 × Int32 → Prop) (v : OS × Int32 × Int32 × Int32 × Int32) : Prop := (v.2.2.2.2 < 0 → gX6_lays v.1 a4_ a2_ a5_) ∧ (¬ (v.2.2.2.2 < 0) → (gX6_lays v.1 a4_ a2_ v.2.2.2.2) ∧ (oX6_tells_204 kO190 (fX6_lays v.1 a4_ a2_ v.2.2.2.2) a1_ a2_ a3_ a4_ a5_ v.2.1 v.2.2.1 v.2.2.2.1 v.2.2.2.2))
set_option maxHeartbeats 4000000 in
set_option maxRecDepth 100000 in
theorem wX6_tells_190 {X : CX} {cy : Nat → ClassId} {q : Nat → Nat} {D : va_G} {A : Nat → Prop} {res : Int32 × OS} (a1_ : Int32) (a2_ : Int32) (a3_ : Int32) (a4_ : Int32) (a5_ : Int32) (C : Cx X cX6_tells RX6 11 D (gty cy) A 47 0 0) (hR : Rt X (some .int) D (gty cy) A 0 0 (eI (wX6 cy q res.2) res.1)) (kR190 : OS × Int32 × Int32 × Int32 × Int32 → Int32 × OS) (kO190 : OS × Int32 × Int32 × Int32 × Int32 → Prop) (hk190 : ∀ z, kO190 z → kR190 z = res → At X D A 11 0 0 190 [(0, .ref (q 41)), (1, .int a1_), (2, .int a2_), (3, .int a3_), (4, .int a4_), (5, .int a5_), (7, .int z.2.1), (8, .int z.2.2.1), (9, .int z.2.2.2.1), (10, .int z.2.2.2.2)] [] (wX6 cy q z.1)) (v : OS × Int32 × Int32 × Int32 × Int32) (ok : kX6_tells_190 a1_ a2_ a3_ a4_ a5_ kO190 v) (h : bX6_tells_190 a1_ a2_ a3_ a4_ a5_ kR190 v = res) : At X D A 11 0 0 190 [(0, .ref (q 41)), (1, .int a1_), (2, .int a2_), (3, .int a3_), (4, .int a4_), (5, .int a5_), (7, .int v.2.1), (8, .int v.2.2.1), (9, .int v.2.2.2.1), (10, .int v.2.2.2.2)] [] (wX6 cy q v.1) := by
  unfold bX6_tells_190 at h
  unfold kX6_tells_190 at ok
  refine r_iload C 9 (dall tdX6_tells 102 rfl) rfl ?_
  refine r_if_lt (tgt := 247) C (dall tdX6_tells 103 rfl) (by decide) (fun c9 => ?_) (fun c9 => ?_)
  · have h := (if_pos c9).symm.trans h
    have ok := ok.1 c9
    refine r_aload_n C 0 (dall tdX6_tells 131 rfl) rfl ?_
    refine r_iload C 4 (dall tdX6_tells 132 rfl) rfl ?_
    refine r_iload_n C 2 (dall tdX6_tells 133 rfl) rfl ?_
    refine r_iload C 5 (dall tdX6_tells 134 rfl) rfl ?_
    have o10 := ok
    refine r_vV (as := [.int a4_, .int a2_, .int a5_]) C (zX6_lays cy q v.1 a4_ a2_ a5_ o10) mv_X6_lays km_X6_111 (by decide) (by decide) ⟨Nat.le_refl _, Nat.le_refl _⟩ rfl rfl rfl rfl (Nat.le_of_ble_eq_true rfl) (dall tdX6_tells 135 rfl) ?_
    refine r_pick [3, 6, 7, 8] rfl ?_
    exact wX6_tells_256 (fX6_lays v.1 a4_ a2_ a5_) a3_ v.2.1 v.2.2.1 v.2.2.2.1 C hR  h
  · have h := (if_neg c9).symm.trans h
    have ok := ok.2 c9
    refine r_aload_n C 0 (dall tdX6_tells 104 rfl) rfl ?_
    refine r_iload C 4 (dall tdX6_tells 105 rfl) rfl ?_
    refine r_iload_n C 2 (dall tdX6_tells 106 rfl) rfl ?_
    refine r_iload C 9 (dall tdX6_tells 107 rfl) rfl ?_
    obtain ⟨o11, ok⟩ := ok
    refine r_vV (as := [.int a4_, .int a2_, .int v.2.2.2.2]) C (zX6_lays cy q v.1 a4_ a2_ v.2.2.2.2 o11) mv_X6_lays km_X6_111 (by decide) (by decide) ⟨Nat.le_refl _, Nat.le_refl _⟩ rfl rfl rfl rfl (Nat.le_of_ble_eq_true rfl) (dall tdX6_tells 108 rfl) ?_
    exact wX6_tells_204 (fX6_lays v.1 a4_ a2_ v.2.2.2.2) a1_ a2_ a3_ a4_ a5_ v.2.1 v.2.2.1 v.2.2.2.1 v.2.2.2.2 C hR kR190 kO190 hk190 ok h
set_option maxHeartbeats 4000000 in
set_option maxRecDepth 100000 in
theorem lX6_tells_190 {X : CX} {cy : Nat → ClassId} {q : Nat → Nat} {D : va_G} {A : Nat → Prop} {res : Int32 × OS} (a1_ : Int32) (a2_ : Int32) (a3_ : Int32) (a4_ : Int32) (a5_ : Int32) (C : Cx X cX6_tells RX6 11 D (gty cy) A 47 0 0) (hR : Rt X (some .int) D (gty cy) A 0 0 (eI (wX6 cy q res.2) res.1))  (n : Nat) (v : OS × Int32 × Int32 × Int32 × Int32) (ok : lpOk (kX6_tells_190 a1_ a2_ a3_ a4_ a5_ ) n v) (h : lp (0, o0) (bX6_tells_190 a1_ a2_ a3_ a4_ a5_ ) n v = res) : At X D A 11 0 0 190 [(0, .ref (q 41)), (1, .int a1_), (2, .int a2_), (3, .int a3_), (4, .int a4_), (5, .int a5_), (7, .int v.2.1), (8, .int v.2.2.1), (9, .int v.2.2.2.1), (10, .int v.2.2.2.2)] [] (wX6 cy q v.1) :=
  lp_rule (fun v rr_ => rr_ = res → At X D A 11 0 0 190 [(0, .ref (q 41)), (1, .int a1_), (2, .int a2_), (3, .int a3_), (4, .int a4_), (5, .int a5_), (7, .int v.2.1), (8, .int v.2.2.1), (9, .int v.2.2.2.1), (10, .int v.2.2.2.2)] [] (wX6 cy q v.1)) (fun kR kO hk v ok h => wX6_tells_190 a1_ a2_ a3_ a4_ a5_ C hR  kR kO hk v ok h) n v ok h
def pX6_tells_175  (σ : OS) (a1_ : Int32) (a2_ : Int32) (a3_ : Int32) (a4_ : Int32) (a5_ : Int32) (b0_ : Int32) : Int32 × OS := lp (0, o0) (bX6_tells_190 a1_ a2_ a3_ a4_ a5_ ) fu (σ, 0, 0, (-1), b0_)
def oX6_tells_175  (σ : OS) (a1_ : Int32) (a2_ : Int32) (a3_ : Int32) (a4_ : Int32) (a5_ : Int32) (b0_ : Int32) : Prop := lpOk (kX6_tells_190 a1_ a2_ a3_ a4_ a5_ ) fu (σ, 0, 0, (-1), b0_)
set_option maxHeartbeats 4000000 in
set_option maxRecDepth 100000 in
theorem wX6_tells_175 {X : CX} {cy : Nat → ClassId} {q : Nat → Nat} {D : va_G} {A : Nat → Prop} {res : Int32 × OS} (σ : OS) (a1_ : Int32) (a2_ : Int32) (a3_ : Int32) (a4_ : Int32) (a5_ : Int32) (b0_ : Int32) (C : Cx X cX6_tells RX6 11 D (gty cy) A 47 0 0) (hR : Rt X (some .int) D (gty cy) A 0 0 (eI (wX6 cy q res.2) res.1))  (ok : oX6_tells_175  σ a1_ a2_ a3_ a4_ a5_ b0_) (h : pX6_tells_175  σ a1_ a2_ a3_ a4_ a5_ b0_ = res) : At X D A 11 0 0 175 [(0, .ref (q 41)), (1, .int a1_), (2, .int a2_), (3, .int a3_), (4, .int a4_), (5, .int a5_)] [.int b0_] (wX6 cy q σ) := by
  unfold pX6_tells_175 at h
  unfold oX6_tells_175 at ok
  refine r_istore (lv' := [(6, .int b0_), (0, .ref (q 41)), (1, .int a1_), (2, .int a2_), (3, .int a3_), (4, .int a4_), (5, .int a5_)]) C (dall tdX6_tells 93 rfl) (by decide) rfl ?_
  refine r_iconst (v := 0) C (dall tdX6_tells 94 rfl) (by decide) ?_
  refine r_istore (lv' := [(7, .int 0), (6, .int b0_), (0, .ref (q 41)), (1, .int a1_), (2, .int a2_), (3, .int a3_), (4, .int a4_), (5, .int a5_)]) C (dall tdX6_tells 95 rfl) (by decide) rfl ?_
  refine r_iconst (v := 0) C (dall tdX6_tells 96 rfl) (by decide) ?_
  refine r_istore (lv' := [(8, .int 0), (7, .int 0), (6, .int b0_), (0, .ref (q 41)), (1, .int a1_), (2, .int a2_), (3, .int a3_), (4, .int a4_), (5, .int a5_)]) C (dall tdX6_tells 97 rfl) (by decide) rfl ?_
  refine r_iconst (v := -1) C (dall tdX6_tells 98 rfl) (by decide) ?_
  refine r_istore (lv' := [(9, .int (-1)), (8, .int 0), (7, .int 0), (6, .int b0_), (0, .ref (q 41)), (1, .int a1_), (2, .int a2_), (3, .int a3_), (4, .int a4_), (5, .int a5_)]) C (dall tdX6_tells 99 rfl) (by decide) rfl ?_
  refine r_iload C 3 (dall tdX6_tells 100 rfl) rfl ?_
  refine r_istore (lv' := [(10, .int b0_), (9, .int (-1)), (8, .int 0), (7, .int 0), (6, .int b0_), (0, .ref (q 41)), (1, .int a1_), (2, .int a2_), (3, .int a3_), (4, .int a4_), (5, .int a5_)]) C (dall tdX6_tells 101 rfl) (by decide) rfl ?_
  refine r_pick [5, 6, 7, 8, 9, 10, 3, 2, 1, 0] rfl ?_
  exact lX6_tells_190 a1_ a2_ a3_ a4_ a5_ C hR  fu _ ok h
def pX6_tells_135  (σ : OS) (a1_ : Int32) (a2_ : Int32) (a3_ : Int32) (a4_ : Int32) (b0_ : Int32) : Int32 × OS := if a4_ = 4 then pX6_tells_175  σ a1_ a2_ a3_ a4_ b0_ ((σ.1 3) - 1) else if a4_ = 3 then pX6_tells_175  σ a1_ a2_ a3_ a4_ b0_ 5 else if a4_ = 1 then pX6_tells_175  σ a1_ a2_ a3_ a4_ b0_ 9 else pX6_tells_175  σ a1_ a2_ a3_ a4_ b0_ 99
def oX6_tells_135  (σ : OS) (a1_ : Int32) (a2_ : Int32) (a3_ : Int32) (a4_ : Int32) (b0_ : Int32) : Prop := (a4_ = 4 → oX6_tells_175  σ a1_ a2_ a3_ a4_ b0_ ((σ.1 3) - 1)) ∧ (¬ (a4_ = 4) → (a4_ = 3 → oX6_tells_175  σ a1_ a2_ a3_ a4_ b0_ 5) ∧ (¬ (a4_ = 3) → (a4_ = 1 → oX6_tells_175  σ a1_ a2_ a3_ a4_ b0_ 9) ∧ (¬ (a4_ = 1) → oX6_tells_175  σ a1_ a2_ a3_ a4_ b0_ 99)))
set_option maxHeartbeats 4000000 in
set_option maxRecDepth 100000 in
theorem wX6_tells_135 {X : CX} {cy : Nat → ClassId} {q : Nat → Nat} {D : va_G} {A : Nat → Prop} {res : Int32 × OS} (σ : OS) (a1_ : Int32) (a2_ : Int32) (a3_ : Int32) (a4_ : Int32) (b0_ : Int32) (C : Cx X cX6_tells RX6 11 D (gty cy) A 47 0 0) (hR : Rt X (some .int) D (gty cy) A 0 0 (eI (wX6 cy q res.2) res.1))  (ok : oX6_tells_135  σ a1_ a2_ a3_ a4_ b0_) (h : pX6_tells_135  σ a1_ a2_ a3_ a4_ b0_ = res) : At X D A 11 0 0 135 [(0, .ref (q 41)), (1, .int a1_), (2, .int a2_), (3, .int a3_), (4, .int a4_)] [.int b0_] (wX6 cy q σ) := by
  unfold pX6_tells_135 at h
  unfold oX6_tells_135 at ok
  refine r_istore (lv' := [(5, .int b0_), (0, .ref (q 41)), (1, .int a1_), (2, .int a2_), (3, .int a3_), (4, .int a4_)]) C (dall tdX6_tells 73 rfl) (by decide) rfl ?_
  refine r_iload C 5 (dall tdX6_tells 74 rfl) rfl ?_
  refine r_iconst (v := 4) C (dall tdX6_tells 75 rfl) (by decide) ?_
  refine r_icmp_ne (tgt := 152) C (dall tdX6_tells 76 rfl) (by decide) (fun c12 => ?_) (fun c12 => ?_)
  · have h := (if_neg c12).symm.trans h
    have ok := ok.2 c12
    refine r_iload C 5 (dall tdX6_tells 82 rfl) rfl ?_
    refine r_iconst (v := 3) C (dall tdX6_tells 83 rfl) (by decide) ?_
    refine r_icmp_ne (tgt := 162) C (dall tdX6_tells 84 rfl) (by decide) (fun c13 => ?_) (fun c13 => ?_)
    · have h := (if_neg c13).symm.trans h
      have ok := ok.2 c13
      refine r_iload C 5 (dall tdX6_tells 87 rfl) rfl ?_
      refine r_iconst (v := 1) C (dall tdX6_tells 88 rfl) (by decide) ?_
      refine r_icmp_ne (tgt := 173) C (dall tdX6_tells 89 rfl) (by decide) (fun c14 => ?_) (fun c14 => ?_)
      · have h := (if_neg c14).symm.trans h
        have ok := ok.2 c14
        refine r_bipush (v := 99) C (dall tdX6_tells 92 rfl) (by decide) ?_
        refine r_pick [1, 2, 3, 4, 5, 0] rfl ?_
        exact wX6_tells_175 σ a1_ a2_ a3_ a4_ b0_ 99 C hR  ok h
      · have h := (if_pos c14).symm.trans h
        have ok := ok.1 c14
        refine r_bipush (v := 9) C (dall tdX6_tells 90 rfl) (by decide) ?_
        refine r_goto (tgt := 175) C (dall tdX6_tells 91 rfl) (by decide) ?_
        refine r_pick [1, 2, 3, 4, 5, 0] rfl ?_
        exact wX6_tells_175 σ a1_ a2_ a3_ a4_ b0_ 9 C hR  ok h
    · have h := (if_pos c13).symm.trans h
      have ok := ok.1 c13
      refine r_iconst (v := 5) C (dall tdX6_tells 85 rfl) (by decide) ?_
      refine r_goto (tgt := 175) C (dall tdX6_tells 86 rfl) (by decide) ?_
      refine r_pick [1, 2, 3, 4, 5, 0] rfl ?_
      exact wX6_tells_175 σ a1_ a2_ a3_ a4_ b0_ 5 C hR  ok h
  · have h := (if_pos c12).symm.trans h
    have ok := ok.1 c12
    refine r_aload_n C 1 (dall tdX6_tells 77 rfl) rfl ?_
    refine r_get C 0 kw_X6 rfl rfl (by decide) kf_X6_68 rfl rfl (dall tdX6_tells 78 rfl) ?_
    refine r_iconst (v := 1) C (dall tdX6_tells 79 rfl) (by decide) ?_
    refine r_isub C (dall tdX6_tells 80 rfl) ?_
    refine r_goto (tgt := 175) C (dall tdX6_tells 81 rfl) (by decide) ?_
    refine r_pick [1, 2, 3, 4, 5, 0] rfl ?_
    exact wX6_tells_175 σ a1_ a2_ a3_ a4_ b0_ ((σ.1 3) - 1) C hR  ok h
def pX6_tells_113  (σ : OS) (a1_ : Int32) (a2_ : Int32) (a3_ : Int32) (b0_ : Int32) : Int32 × OS := if b0_ = 4 then pX6_tells_135  σ a1_ a2_ a3_ b0_ (σ.1 4) else pX6_tells_135  ((fX6_told σ a2_ b0_).2) a1_ a2_ a3_ b0_ ((fX6_told σ a2_ b0_).1)
def oX6_tells_113  (σ : OS) (a1_ : Int32) (a2_ : Int32) (a3_ : Int32) (b0_ : Int32) : Prop := (b0_ = 4 → oX6_tells_135  σ a1_ a2_ a3_ b0_ (σ.1 4)) ∧ (¬ (b0_ = 4) → (gX6_told σ a2_ b0_) ∧ (oX6_tells_135  ((fX6_told σ a2_ b0_).2) a1_ a2_ a3_ b0_ ((fX6_told σ a2_ b0_).1)))
set_option maxHeartbeats 4000000 in
set_option maxRecDepth 100000 in
theorem wX6_tells_113 {X : CX} {cy : Nat → ClassId} {q : Nat → Nat} {D : va_G} {A : Nat → Prop} {res : Int32 × OS} (σ : OS) (a1_ : Int32) (a2_ : Int32) (a3_ : Int32) (b0_ : Int32) (C : Cx X cX6_tells RX6 11 D (gty cy) A 47 0 0) (hR : Rt X (some .int) D (gty cy) A 0 0 (eI (wX6 cy q res.2) res.1))  (ok : oX6_tells_113  σ a1_ a2_ a3_ b0_) (h : pX6_tells_113  σ a1_ a2_ a3_ b0_ = res) : At X D A 11 0 0 113 [(0, .ref (q 41)), (1, .int a1_), (2, .int a2_), (3, .int a3_)] [.int b0_] (wX6 cy q σ) := by
  unfold pX6_tells_113 at h
  unfold oX6_tells_113 at ok
  refine r_istore (lv' := [(4, .int b0_), (0, .ref (q 41)), (1, .int a1_), (2, .int a2_), (3, .int a3_)]) C (dall tdX6_tells 62 rfl) (by decide) rfl ?_
  refine r_iload C 0 (dall tdX6_tells 63 rfl) rfl ?_
  refine r_iconst (v := 4) C (dall tdX6_tells 64 rfl) (by decide) ?_
  refine r_icmp_ne (tgt := 128) C (dall tdX6_tells 65 rfl) (by decide) (fun c15 => ?_) (fun c15 => ?_)
  · have h := (if_neg c15).symm.trans h
    have ok := ok.2 c15
    refine r_aload_n C 1 (dall tdX6_tells 69 rfl) rfl ?_
    refine r_iload_n C 3 (dall tdX6_tells 70 rfl) rfl ?_
    refine r_iload C 0 (dall tdX6_tells 71 rfl) rfl ?_
    obtain ⟨o16, ok⟩ := ok
    refine r_vI (as := [.int a2_, .int b0_]) C (zX6_told cy q σ a2_ b0_ o16) mv_X6_told km_X6_101 (by decide) (by decide) ⟨Nat.le_refl _, Nat.le_refl _⟩ rfl rfl rfl rfl (Nat.le_of_ble_eq_true rfl) (dall tdX6_tells 72 rfl) ?_
    refine r_pick [1, 2, 3, 4, 0] rfl ?_
    exact wX6_tells_135 ((fX6_told σ a2_ b0_).2) a1_ a2_ a3_ b0_ ((fX6_told σ a2_ b0_).1) C hR  ok h
  · have h := (if_pos c15).symm.trans h
    have ok := ok.1 c15
    refine r_aload_n C 1 (dall tdX6_tells 66 rfl) rfl ?_
    refine r_get C 0 kw_X6 rfl rfl (by decide) kf_X6_118 rfl rfl (dall tdX6_tells 67 rfl) ?_
    refine r_goto (tgt := 135) C (dall tdX6_tells 68 rfl) (by decide) ?_
    refine r_pick [1, 2, 3, 4, 0] rfl ?_
    exact wX6_tells_135 σ a1_ a2_ a3_ b0_ (σ.1 4) C hR  ok h
def pX6_tells_0  (σ : OS) (a1_ : Int32) (a2_ : Int32) (a3_ : Int32) : Int32 × OS := if (fX6_isSheet a1_) = 0 then ((-2), σ) else if (fX6_isOne σ a2_) = 0 then ((-2), σ) else if (fX6_in a3_.toInt64 0 (6)) = 0 then ((-2), σ) else if (σ.2.2.1 37 a1_.toNatClampNeg) = 0 then ((-11), σ) else if (σ.2.2.1 39 a1_.toNatClampNeg) ≤ 20 then if a3_ = 0 then pX6_tells_66  σ a1_ a2_ a3_ else if a3_ = 6 then pX6_tells_66  σ a1_ a2_ a3_ else if a3_ = 1 then pX6_tells_113  σ a1_ a2_ a3_ 3 else if a3_ = 2 then pX6_tells_113  σ a1_ a2_ a3_ 1 else if a3_ = 5 then pX6_tells_113  σ a1_ a2_ a3_ 4 else pX6_tells_113  σ a1_ a2_ a3_ 2 else ((-2), σ)
def oX6_tells_0  (σ : OS) (a1_ : Int32) (a2_ : Int32) (a3_ : Int32) : Prop := (gX6_isSheet a1_) ∧ (((fX6_isSheet a1_) = 0 → True) ∧ (¬ ((fX6_isSheet a1_) = 0) → (gX6_isOne σ a2_) ∧ (((fX6_isOne σ a2_) = 0 → True) ∧ (¬ ((fX6_isOne σ a2_) = 0) → ((fX6_in a3_.toInt64 0 (6)) = 0 → True) ∧ (¬ ((fX6_in a3_.toInt64 0 (6)) = 0) → (vp_in a1_ 4) ∧ (((σ.2.2.1 37 a1_.toNatClampNeg) = 0 → True) ∧ (¬ ((σ.2.2.1 37 a1_.toNatClampNeg) = 0) → (vp_in a1_ 4) ∧ (((σ.2.2.1 39 a1_.toNatClampNeg) ≤ 20 → (a3_ = 0 → oX6_tells_66  σ a1_ a2_ a3_) ∧ (¬ (a3_ = 0) → (a3_ = 6 → oX6_tells_66  σ a1_ a2_ a3_) ∧ (¬ (a3_ = 6) → (a3_ = 1 → oX6_tells_113  σ a1_ a2_ a3_ 3) ∧ (¬ (a3_ = 1) → (a3_ = 2 → oX6_tells_113  σ a1_ a2_ a3_ 1) ∧ (¬ (a3_ = 2) → (a3_ = 5 → oX6_tells_113  σ a1_ a2_ a3_ 4) ∧ (¬ (a3_ = 5) → oX6_tells_113  σ a1_ a2_ a3_ 2)))))) ∧ (¬ ((σ.2.2.1 39 a1_.toNatClampNeg) ≤ 20) → True)))))))))
set_option maxHeartbeats 4000000 in
set_option maxRecDepth 100000 in
theorem wX6_tells_0 {X : CX} {cy : Nat → ClassId} {q : Nat → Nat} {D : va_G} {A : Nat → Prop} {res : Int32 × OS} (σ : OS) (a1_ : Int32) (a2_ : Int32) (a3_ : Int32) (C : Cx X cX6_tells RX6 11 D (gty cy) A 47 0 0) (hR : Rt X (some .int) D (gty cy) A 0 0 (eI (wX6 cy q res.2) res.1))  (ok : oX6_tells_0  σ a1_ a2_ a3_) (h : pX6_tells_0  σ a1_ a2_ a3_ = res) : At X D A 11 0 0 0 [(0, .ref (q 41)), (1, .int a1_), (2, .int a2_), (3, .int a3_)] [] (wX6 cy q σ) := by
  unfold pX6_tells_0 at h
  unfold oX6_tells_0 at ok
  refine r_iload_n C 1 (dall tdX6_tells 0 rfl) rfl ?_
  obtain ⟨o17, ok⟩ := ok
  refine r_s0I (as := [.int a1_]) C (zX6_isSheet a1_ o17) ms_X6_isSheet km_X6_434 (by decide) (by decide) ⟨Nat.le_refl _, Nat.le_refl _⟩ rfl rfl (Nat.le_of_ble_eq_true rfl) (dall tdX6_tells 1 rfl) ?_
  refine r_if_eq (tgt := 27) C (dall tdX6_tells 2 rfl) (by decide) (fun c18 => ?_) (fun c18 => ?_)
  · have h := (if_pos c18).symm.trans h
    have ok := ok.1 c18
    refine r_bipush (v := -2) C (dall tdX6_tells 13 rfl) (by decide) ?_
    exact r_iret C hR (dall tdX6_tells 14 rfl) (by subst h; exact ⟨rfl, rfl⟩)
  · have h := (if_neg c18).symm.trans h
    have ok := ok.2 c18
    refine r_aload_n C 0 (dall tdX6_tells 3 rfl) rfl ?_
    refine r_iload_n C 2 (dall tdX6_tells 4 rfl) rfl ?_
    obtain ⟨o19, ok⟩ := ok
    refine r_vI (as := [.int a2_]) C (zX6_isOne cy q σ a2_ o19) mv_X6_isOne km_X6_90 (by decide) (by decide) ⟨Nat.le_refl _, Nat.le_refl _⟩ rfl rfl rfl rfl (Nat.le_of_ble_eq_true rfl) (dall tdX6_tells 5 rfl) ?_
    refine r_if_eq (tgt := 27) C (dall tdX6_tells 6 rfl) (by decide) (fun c20 => ?_) (fun c20 => ?_)
    · have h := (if_pos c20).symm.trans h
      have ok := ok.1 c20
      refine r_bipush (v := -2) C (dall tdX6_tells 13 rfl) (by decide) ?_
      exact r_iret C hR (dall tdX6_tells 14 rfl) (by subst h; exact ⟨rfl, rfl⟩)
    · have h := (if_neg c20).symm.trans h
      have ok := ok.2 c20
      refine r_iload_n C 3 (dall tdX6_tells 7 rfl) rfl ?_
      refine r_i2l C (dall tdX6_tells 8 rfl) ?_
      refine r_lconst (v := 0) C (dall tdX6_tells 9 rfl) (by decide) ?_
      refine r_ldc2 C kk_X6_437 (dall tdX6_tells 10 rfl) ?_
      refine r_s0I (as := [.long a3_.toInt64, .long 0, .long (6)]) C (zX6_in a3_.toInt64 0 (6) ) ms_X6_in km_X6_74 (by decide) (by decide) ⟨Nat.le_refl _, Nat.le_refl _⟩ rfl rfl (Nat.le_of_ble_eq_true rfl) (dall tdX6_tells 11 rfl) ?_
      refine r_if_ne (tgt := 30) C (dall tdX6_tells 12 rfl) (by decide) (fun c21 => ?_) (fun c21 => ?_)
      · have h := (if_neg c21).symm.trans h
        have ok := ok.2 c21
        refine r_aload_n C 0 (dall tdX6_tells 15 rfl) rfl ?_
        refine r_get C 0 kw_X6 rfl rfl (by decide) kf_X6_51 rfl rfl (dall tdX6_tells 16 rfl) ?_
        refine r_iload_n C 1 (dall tdX6_tells 17 rfl) rfl ?_
        obtain ⟨o22, ok⟩ := ok
        refine r_zald C 10 2 rfl rfl o22 (dall tdX6_tells 18 rfl) ?_
        refine r_if_ne (tgt := 42) C (dall tdX6_tells 19 rfl) (by decide) (fun c23 => ?_) (fun c23 => ?_)
        · have h := (if_neg c23).symm.trans h
          have ok := ok.2 c23
          refine r_aload_n C 0 (dall tdX6_tells 22 rfl) rfl ?_
          refine r_get C 0 kw_X6 rfl rfl (by decide) kf_X6_58 rfl rfl (dall tdX6_tells 23 rfl) ?_
          refine r_iload_n C 1 (dall tdX6_tells 24 rfl) rfl ?_
          obtain ⟨o24, ok⟩ := ok
          refine r_iald C 12 0 rfl rfl o24 (dall tdX6_tells 25 rfl) ?_
          refine r_bipush (v := 20) C (dall tdX6_tells 26 rfl) (by decide) ?_
          refine r_icmp_le (tgt := 56) C (dall tdX6_tells 27 rfl) (by decide) (fun c25 => ?_) (fun c25 => ?_)
          · have h := (if_pos c25).symm.trans h
            have ok := ok.1 c25
            refine r_iload_n C 3 (dall tdX6_tells 30 rfl) rfl ?_
            refine r_if_eq (tgt := 66) C (dall tdX6_tells 31 rfl) (by decide) (fun c26 => ?_) (fun c26 => ?_)
            · have h := (if_pos c26).symm.trans h
              have ok := ok.1 c26
              exact wX6_tells_66 σ a1_ a2_ a3_ C hR  ok h
            · have h := (if_neg c26).symm.trans h
              have ok := ok.2 c26
              refine r_iload_n C 3 (dall tdX6_tells 32 rfl) rfl ?_
              refine r_bipush (v := 6) C (dall tdX6_tells 33 rfl) (by decide) ?_
              refine r_icmp_ne (tgt := 85) C (dall tdX6_tells 34 rfl) (by decide) (fun c27 => ?_) (fun c27 => ?_)
              · have h := (if_neg c27).symm.trans h
                have ok := ok.2 c27
                refine r_iload_n C 3 (dall tdX6_tells 46 rfl) rfl ?_
                refine r_iconst (v := 1) C (dall tdX6_tells 47 rfl) (by decide) ?_
                refine r_icmp_ne (tgt := 94) C (dall tdX6_tells 48 rfl) (by decide) (fun c28 => ?_) (fun c28 => ?_)
                · have h := (if_neg c28).symm.trans h
                  have ok := ok.2 c28
                  refine r_iload_n C 3 (dall tdX6_tells 51 rfl) rfl ?_
                  refine r_iconst (v := 2) C (dall tdX6_tells 52 rfl) (by decide) ?_
                  refine r_icmp_ne (tgt := 103) C (dall tdX6_tells 53 rfl) (by decide) (fun c29 => ?_) (fun c29 => ?_)
                  · have h := (if_neg c29).symm.trans h
                    have ok := ok.2 c29
                    refine r_iload_n C 3 (dall tdX6_tells 56 rfl) rfl ?_
                    refine r_iconst (v := 5) C (dall tdX6_tells 57 rfl) (by decide) ?_
                    refine r_icmp_ne (tgt := 112) C (dall tdX6_tells 58 rfl) (by decide) (fun c30 => ?_) (fun c30 => ?_)
                    · have h := (if_neg c30).symm.trans h
                      have ok := ok.2 c30
                      refine r_iconst (v := 2) C (dall tdX6_tells 61 rfl) (by decide) ?_
                      exact wX6_tells_113 σ a1_ a2_ a3_ 2 C hR  ok h
                    · have h := (if_pos c30).symm.trans h
                      have ok := ok.1 c30
                      refine r_iconst (v := 4) C (dall tdX6_tells 59 rfl) (by decide) ?_
                      refine r_goto (tgt := 113) C (dall tdX6_tells 60 rfl) (by decide) ?_
                      exact wX6_tells_113 σ a1_ a2_ a3_ 4 C hR  ok h
                  · have h := (if_pos c29).symm.trans h
                    have ok := ok.1 c29
                    refine r_iconst (v := 1) C (dall tdX6_tells 54 rfl) (by decide) ?_
                    refine r_goto (tgt := 113) C (dall tdX6_tells 55 rfl) (by decide) ?_
                    exact wX6_tells_113 σ a1_ a2_ a3_ 1 C hR  ok h
                · have h := (if_pos c28).symm.trans h
                  have ok := ok.1 c28
                  refine r_iconst (v := 3) C (dall tdX6_tells 49 rfl) (by decide) ?_
                  refine r_goto (tgt := 113) C (dall tdX6_tells 50 rfl) (by decide) ?_
                  exact wX6_tells_113 σ a1_ a2_ a3_ 3 C hR  ok h
              · have h := (if_pos c27).symm.trans h
                have ok := ok.1 c27
                exact wX6_tells_66 σ a1_ a2_ a3_ C hR  ok h
          · have h := (if_neg c25).symm.trans h
            have ok := ok.2 c25
            refine r_bipush (v := -2) C (dall tdX6_tells 28 rfl) (by decide) ?_
            exact r_iret C hR (dall tdX6_tells 29 rfl) (by subst h; exact ⟨rfl, rfl⟩)
        · have h := (if_pos c23).symm.trans h
          have ok := ok.1 c23
          refine r_bipush (v := -11) C (dall tdX6_tells 20 rfl) (by decide) ?_
          exact r_iret C hR (dall tdX6_tells 21 rfl) (by subst h; exact ⟨rfl, rfl⟩)
      · have h := (if_pos c21).symm.trans h
        have ok := ok.1 c21
        refine r_bipush (v := -2) C (dall tdX6_tells 13 rfl) (by decide) ?_
        exact r_iret C hR (dall tdX6_tells 14 rfl) (by subst h; exact ⟨rfl, rfl⟩)
def fX6_tells (σ : OS) (a1_ : Int32) (a2_ : Int32) (a3_ : Int32) : Int32 × OS := pX6_tells_0  σ a1_ a2_ a3_
def gX6_tells (σ : OS) (a1_ : Int32) (a2_ : Int32) (a3_ : Int32) : Prop := oX6_tells_0  σ a1_ a2_ a3_
set_option maxRecDepth 100000 in
theorem zX6_tells (cy : Nat → ClassId) (q : Nat → Nat)  {D : va_G} (σ : OS) (a1_ : Int32) (a2_ : Int32) (a3_ : Int32) (ok : gX6_tells σ a1_ a2_ a3_)  : Con yX6_tells cX6_tells 11 (some .int) 47 0 0 D (gty cy) [.ref (q 41), .int a1_, .int a2_, .int a3_] (wX6 cy q σ) (eI (wX6 cy q (fX6_tells σ a1_ a2_ a3_).2) (fX6_tells σ a1_ a2_ a3_).1) :=
  Con.of (own := RX6) (by decide +kernel) rfl (Nat.le_of_ble_eq_true rfl) (Nat.zero_le _) (fun X A C hR _ => (wX6_tells_0 σ a1_ a2_ a3_ C hR  ok rfl))
theorem mv_X6_tells : MV yX6_tells cX6_tells 11 (some .int) RX6 3 := ⟨ki_X6_tells, kv_X6_tells, kn_X6, kc_X6_tells, by decide +kernel⟩
def tbX6_sheet : List (Nat × Instr × Nat) := [(0, .iload_n 1, 1), (1, .invokestatic 434, 3), (4, .ifCond .eq 27, 3), (7, .iload_n 2, 1), (8, .i2l, 1), (9, .ldc2_w 105, 3), (12, .ldc2_w 463, 3), (15, .invokestatic 74, 3), (18, .ifCond .eq 13, 3), (21, .iload_n 2, 1), (22, .ifCond .lt 12, 3), (25, .iload_n 3, 1), (26, .bipush 40, 2), (28, .if_icmp .le 6, 3), (31, .bipush (-2), 2), (33, .ireturn, 1), (34, .iload_n 2, 1), (35, .ifCond .lt 10, 3), (38, .iload_n 3, 1), (39, .ifCond .ge 6, 3), (42, .bipush (-14), 2), (44, .ireturn, 1), (45, .aload_n 0, 1), (46, .getfield 51, 3), (49, .iload_n 1, 1), (50, .iload_n 2, 1), (51, .ifCond .lt 7, 3), (54, .iconst 1, 1), (55, .goto 4, 3), (58, .iconst 0, 1), (59, .bastore, 1), (60, .aload_n 0, 1), (61, .getfield 55, 3), (64, .iload_n 1, 1), (65, .iload_n 2, 1), (66, .iastore, 1), (67, .aload_n 0, 1), (68, .getfield 58, 3), (71, .iload_n 1, 1), (72, .iload_n 3, 1), (73, .iastore, 1), (74, .iconst 0, 1), (75, .istore 4, 2), (77, .iload 4, 2), (79, .iload_n 3, 1), (80, .if_icmp .ge 26, 3), (83, .iload_n 2, 1), (84, .ifCond .lt 22, 3), (87, .aload_n 0, 1), (88, .getfield 61, 3), (91, .bipush 40, 2), (93, .iload_n 1, 1), (94, .imul, 1), (95, .iload 4, 2), (97, .iadd, 1), (98, .iconst 0, 1), (99, .iastore, 1), (100, .iinc 4 1, 3), (103, .goto (-26), 3), (106, .iconst 1, 1), (107, .ireturn, 1)]
theorem tdX6_sheet : tbX6_sheet.all (fun q => decide (decode cX6_sheet q.1 = .ok q.2)) = true := by decide +kernel
def bX6_sheet_77 (a1_ : Int32) (a2_ : Int32) (a3_ : Int32)  (kR77 : OS × Int32 → Int32 × OS) (v : OS × Int32) : Int32 × OS := if a3_ ≤ v.2 then (1, v.1) else if a2_ < 0 then (1, v.1) else kR77 (oS v.1 40 (((40 * a1_) + v.2).toNatClampNeg) 0, v.2 + 1)
def kX6_sheet_77 (a1_ : Int32) (a2_ : Int32) (a3_ : Int32)  (kO77 : OS × Int32 → Prop) (v : OS × Int32) : Prop := (a3_ ≤ v.2 → True) ∧ (¬ (a3_ ≤ v.2) → (a2_ < 0 → True) ∧ (¬ (a2_ < 0) → (vp_in ((40 * a1_) + v.2) 160) ∧ (kO77 (oS v.1 40 (((40 * a1_) + v.2).toNatClampNeg) 0, v.2 + 1))))
set_option maxHeartbeats 4000000 in
set_option maxRecDepth 100000 in
theorem wX6_sheet_77 {X : CX} {cy : Nat → ClassId} {q : Nat → Nat} {D : va_G} {A : Nat → Prop} {res : Int32 × OS} (a1_ : Int32) (a2_ : Int32) (a3_ : Int32) (C : Cx X cX6_sheet RX6 5 D (gty cy) A 2 0 0) (hR : Rt X (some .int) D (gty cy) A 0 0 (eI (wX6 cy q res.2) res.1)) (kR77 : OS × Int32 → Int32 × OS) (kO77 : OS × Int32 → Prop) (hk77 : ∀ z, kO77 z → kR77 z = res → At X D A 5 0 0 77 [(0, .ref (q 41)), (1, .int a1_), (2, .int a2_), (3, .int a3_), (4, .int z.2)] [] (wX6 cy q z.1)) (v : OS × Int32) (ok : kX6_sheet_77 a1_ a2_ a3_ kO77 v) (h : bX6_sheet_77 a1_ a2_ a3_ kR77 v = res) : At X D A 5 0 0 77 [(0, .ref (q 41)), (1, .int a1_), (2, .int a2_), (3, .int a3_), (4, .int v.2)] [] (wX6 cy q v.1) := by
  unfold bX6_sheet_77 at h
  unfold kX6_sheet_77 at ok
  refine r_iload C 4 (dall tdX6_sheet 43 rfl) rfl ?_
  refine r_iload_n C 3 (dall tdX6_sheet 44 rfl) rfl ?_
  refine r_icmp_ge (tgt := 106) C (dall tdX6_sheet 45 rfl) (by decide) (fun c1 => ?_) (fun c1 => ?_)
  · have h := (if_pos c1).symm.trans h
    have ok := ok.1 c1
    refine r_iconst (v := 1) C (dall tdX6_sheet 59 rfl) (by decide) ?_
    exact r_iret C hR (dall tdX6_sheet 60 rfl) (by subst h; exact ⟨rfl, rfl⟩)
  · have h := (if_neg c1).symm.trans h
    have ok := ok.2 c1
    refine r_iload_n C 2 (dall tdX6_sheet 46 rfl) rfl ?_
    refine r_if_lt (tgt := 106) C (dall tdX6_sheet 47 rfl) (by decide) (fun c2 => ?_) (fun c2 => ?_)
    · have h := (if_pos c2).symm.trans h
      have ok := ok.1 c2
      refine r_iconst (v := 1) C (dall tdX6_sheet 59 rfl) (by decide) ?_
      exact r_iret C hR (dall tdX6_sheet 60 rfl) (by subst h; exact ⟨rfl, rfl⟩)
    · have h := (if_neg c2).symm.trans h
      have ok := ok.2 c2
      refine r_aload_n C 0 (dall tdX6_sheet 48 rfl) rfl ?_
      refine r_get C 0 kw_X6 rfl rfl (by decide) kf_X6_61 rfl rfl (dall tdX6_sheet 49 rfl) ?_
      refine r_bipush (v := 40) C (dall tdX6_sheet 50 rfl) (by decide) ?_
      refine r_iload_n C 1 (dall tdX6_sheet 51 rfl) rfl ?_
      refine r_imul C (dall tdX6_sheet 52 rfl) ?_
      refine r_iload C 4 (dall tdX6_sheet 53 rfl) rfl ?_
      refine r_iadd C (dall tdX6_sheet 54 rfl) ?_
      refine r_iconst (v := 0) C (dall tdX6_sheet 55 rfl) (by decide) ?_
      obtain ⟨o3, ok⟩ := ok
      refine r_iast C 13 0 rfl rfl o3 (pa_X6_this_40 cy q v.1 (((40 * a1_) + v.2).toNatClampNeg) 0) (dall tdX6_sheet 56 rfl) ?_
      refine r_iinc (v := v.2 + 1) (lv' := [(4, .int (v.2 + 1)), (0, .ref (q 41)), (1, .int a1_), (2, .int a2_), (3, .int a3_)]) C 4 (dall tdX6_sheet 57 rfl) rfl rfl (by decide) rfl ?_
      refine r_goto (tgt := 77) C (dall tdX6_sheet 58 rfl) (by decide) ?_
      refine r_pick [1, 2, 3, 4, 0] rfl ?_
      exact hk77 (oS v.1 40 (((40 * a1_) + v.2).toNatClampNeg) 0, v.2 + 1) ok h
set_option maxHeartbeats 4000000 in
set_option maxRecDepth 100000 in
theorem lX6_sheet_77 {X : CX} {cy : Nat → ClassId} {q : Nat → Nat} {D : va_G} {A : Nat → Prop} {res : Int32 × OS} (a1_ : Int32) (a2_ : Int32) (a3_ : Int32) (C : Cx X cX6_sheet RX6 5 D (gty cy) A 2 0 0) (hR : Rt X (some .int) D (gty cy) A 0 0 (eI (wX6 cy q res.2) res.1))  (n : Nat) (v : OS × Int32) (ok : lpOk (kX6_sheet_77 a1_ a2_ a3_ ) n v) (h : lp (0, o0) (bX6_sheet_77 a1_ a2_ a3_ ) n v = res) : At X D A 5 0 0 77 [(0, .ref (q 41)), (1, .int a1_), (2, .int a2_), (3, .int a3_), (4, .int v.2)] [] (wX6 cy q v.1) :=
  lp_rule (fun v rr_ => rr_ = res → At X D A 5 0 0 77 [(0, .ref (q 41)), (1, .int a1_), (2, .int a2_), (3, .int a3_), (4, .int v.2)] [] (wX6 cy q v.1)) (fun kR kO hk v ok h => wX6_sheet_77 a1_ a2_ a3_ C hR  kR kO hk v ok h) n v ok h
def pX6_sheet_59  (σ : OS) (a1_ : Int32) (a2_ : Int32) (a3_ : Int32) (b0_ : Int32) (b1_ : Int32) : Int32 × OS := lp (0, o0) (bX6_sheet_77 a1_ a2_ a3_ ) fu (oS (oS (oS σ 37 b1_.toNatClampNeg (vp_nar .boolean b0_)) 38 a1_.toNatClampNeg a2_) 39 a1_.toNatClampNeg a3_, 0)
def oX6_sheet_59  (σ : OS) (a1_ : Int32) (a2_ : Int32) (a3_ : Int32) (b0_ : Int32) (b1_ : Int32) : Prop := (vp_in b1_ 4) ∧ ((vp_in a1_ 4) ∧ ((vp_in a1_ 4) ∧ (lpOk (kX6_sheet_77 a1_ a2_ a3_ ) fu (oS (oS (oS σ 37 b1_.toNatClampNeg (vp_nar .boolean b0_)) 38 a1_.toNatClampNeg a2_) 39 a1_.toNatClampNeg a3_, 0))))
set_option maxHeartbeats 4000000 in
set_option maxRecDepth 100000 in
theorem wX6_sheet_59 {X : CX} {cy : Nat → ClassId} {q : Nat → Nat} {D : va_G} {A : Nat → Prop} {res : Int32 × OS} (σ : OS) (a1_ : Int32) (a2_ : Int32) (a3_ : Int32) (b0_ : Int32) (b1_ : Int32) (C : Cx X cX6_sheet RX6 5 D (gty cy) A 2 0 0) (hR : Rt X (some .int) D (gty cy) A 0 0 (eI (wX6 cy q res.2) res.1))  (ok : oX6_sheet_59  σ a1_ a2_ a3_ b0_ b1_) (h : pX6_sheet_59  σ a1_ a2_ a3_ b0_ b1_ = res) : At X D A 5 0 0 59 [(0, .ref (q 41)), (1, .int a1_), (2, .int a2_), (3, .int a3_)] [.int b0_, .int b1_, .ref (q 37)] (wX6 cy q σ) := by
  unfold pX6_sheet_59 at h
  unfold oX6_sheet_59 at ok
  obtain ⟨o4, ok⟩ := ok
  refine r_zast C 10 2 rfl rfl o4 (pa_X6_this_37 cy q σ b1_.toNatClampNeg (vp_nar .boolean b0_)) (dall tdX6_sheet 30 rfl) ?_
  refine r_aload_n C 0 (dall tdX6_sheet 31 rfl) rfl ?_
  refine r_get C 0 kw_X6 rfl rfl (by decide) kf_X6_55 rfl rfl (dall tdX6_sheet 32 rfl) ?_
  refine r_iload_n C 1 (dall tdX6_sheet 33 rfl) rfl ?_
  refine r_iload_n C 2 (dall tdX6_sheet 34 rfl) rfl ?_
  obtain ⟨o5, ok⟩ := ok
  refine r_iast C 11 0 rfl rfl o5 (pa_X6_this_38 cy q (oS σ 37 b1_.toNatClampNeg (vp_nar .boolean b0_)) a1_.toNatClampNeg a2_) (dall tdX6_sheet 35 rfl) ?_
  refine r_aload_n C 0 (dall tdX6_sheet 36 rfl) rfl ?_
  refine r_get C 0 kw_X6 rfl rfl (by decide) kf_X6_58 rfl rfl (dall tdX6_sheet 37 rfl) ?_
  refine r_iload_n C 1 (dall tdX6_sheet 38 rfl) rfl ?_
  refine r_iload_n C 3 (dall tdX6_sheet 39 rfl) rfl ?_
  obtain ⟨o6, ok⟩ := ok
  refine r_iast C 12 0 rfl rfl o6 (pa_X6_this_39 cy q (oS (oS σ 37 b1_.toNatClampNeg (vp_nar .boolean b0_)) 38 a1_.toNatClampNeg a2_) a1_.toNatClampNeg a3_) (dall tdX6_sheet 40 rfl) ?_
  refine r_iconst (v := 0) C (dall tdX6_sheet 41 rfl) (by decide) ?_
  refine r_istore (lv' := [(4, .int 0), (0, .ref (q 41)), (1, .int a1_), (2, .int a2_), (3, .int a3_)]) C (dall tdX6_sheet 42 rfl) (by decide) rfl ?_
  refine r_pick [1, 2, 3, 4, 0] rfl ?_
  exact lX6_sheet_77 a1_ a2_ a3_ C hR  fu _ ok h
def pX6_sheet_45  (σ : OS) (a1_ : Int32) (a2_ : Int32) (a3_ : Int32) : Int32 × OS := if a2_ < 0 then pX6_sheet_59  σ a1_ a2_ a3_ 0 a1_ else pX6_sheet_59  σ a1_ a2_ a3_ 1 a1_
def oX6_sheet_45  (σ : OS) (a1_ : Int32) (a2_ : Int32) (a3_ : Int32) : Prop := (a2_ < 0 → oX6_sheet_59  σ a1_ a2_ a3_ 0 a1_) ∧ (¬ (a2_ < 0) → oX6_sheet_59  σ a1_ a2_ a3_ 1 a1_)
set_option maxHeartbeats 4000000 in
set_option maxRecDepth 100000 in
theorem wX6_sheet_45 {X : CX} {cy : Nat → ClassId} {q : Nat → Nat} {D : va_G} {A : Nat → Prop} {res : Int32 × OS} (σ : OS) (a1_ : Int32) (a2_ : Int32) (a3_ : Int32) (C : Cx X cX6_sheet RX6 5 D (gty cy) A 2 0 0) (hR : Rt X (some .int) D (gty cy) A 0 0 (eI (wX6 cy q res.2) res.1))  (ok : oX6_sheet_45  σ a1_ a2_ a3_) (h : pX6_sheet_45  σ a1_ a2_ a3_ = res) : At X D A 5 0 0 45 [(0, .ref (q 41)), (1, .int a1_), (2, .int a2_), (3, .int a3_)] [] (wX6 cy q σ) := by
  unfold pX6_sheet_45 at h
  unfold oX6_sheet_45 at ok
  refine r_aload_n C 0 (dall tdX6_sheet 22 rfl) rfl ?_
  refine r_get C 0 kw_X6 rfl rfl (by decide) kf_X6_51 rfl rfl (dall tdX6_sheet 23 rfl) ?_
  refine r_iload_n C 1 (dall tdX6_sheet 24 rfl) rfl ?_
  refine r_iload_n C 2 (dall tdX6_sheet 25 rfl) rfl ?_
  refine r_if_lt (tgt := 58) C (dall tdX6_sheet 26 rfl) (by decide) (fun c7 => ?_) (fun c7 => ?_)
  · have h := (if_pos c7).symm.trans h
    have ok := ok.1 c7
    refine r_iconst (v := 0) C (dall tdX6_sheet 29 rfl) (by decide) ?_
    exact wX6_sheet_59 σ a1_ a2_ a3_ 0 a1_ C hR  ok h
  · have h := (if_neg c7).symm.trans h
    have ok := ok.2 c7
    refine r_iconst (v := 1) C (dall tdX6_sheet 27 rfl) (by decide) ?_
    refine r_goto (tgt := 59) C (dall tdX6_sheet 28 rfl) (by decide) ?_
    exact wX6_sheet_59 σ a1_ a2_ a3_ 1 a1_ C hR  ok h
def pX6_sheet_34  (σ : OS) (a1_ : Int32) (a2_ : Int32) (a3_ : Int32) : Int32 × OS := if a2_ < 0 then pX6_sheet_45  σ a1_ a2_ a3_ else if 0 ≤ a3_ then pX6_sheet_45  σ a1_ a2_ a3_ else ((-14), σ)
def oX6_sheet_34  (σ : OS) (a1_ : Int32) (a2_ : Int32) (a3_ : Int32) : Prop := (a2_ < 0 → oX6_sheet_45  σ a1_ a2_ a3_) ∧ (¬ (a2_ < 0) → (0 ≤ a3_ → oX6_sheet_45  σ a1_ a2_ a3_) ∧ (¬ (0 ≤ a3_) → True))
set_option maxHeartbeats 4000000 in
set_option maxRecDepth 100000 in
theorem wX6_sheet_34 {X : CX} {cy : Nat → ClassId} {q : Nat → Nat} {D : va_G} {A : Nat → Prop} {res : Int32 × OS} (σ : OS) (a1_ : Int32) (a2_ : Int32) (a3_ : Int32) (C : Cx X cX6_sheet RX6 5 D (gty cy) A 2 0 0) (hR : Rt X (some .int) D (gty cy) A 0 0 (eI (wX6 cy q res.2) res.1))  (ok : oX6_sheet_34  σ a1_ a2_ a3_) (h : pX6_sheet_34  σ a1_ a2_ a3_ = res) : At X D A 5 0 0 34 [(0, .ref (q 41)), (1, .int a1_), (2, .int a2_), (3, .int a3_)] [] (wX6 cy q σ) := by
  unfold pX6_sheet_34 at h
  unfold oX6_sheet_34 at ok
  refine r_iload_n C 2 (dall tdX6_sheet 16 rfl) rfl ?_
  refine r_if_lt (tgt := 45) C (dall tdX6_sheet 17 rfl) (by decide) (fun c8 => ?_) (fun c8 => ?_)
  · have h := (if_pos c8).symm.trans h
    have ok := ok.1 c8
    exact wX6_sheet_45 σ a1_ a2_ a3_ C hR  ok h
  · have h := (if_neg c8).symm.trans h
    have ok := ok.2 c8
    refine r_iload_n C 3 (dall tdX6_sheet 18 rfl) rfl ?_
    refine r_if_ge (tgt := 45) C (dall tdX6_sheet 19 rfl) (by decide) (fun c9 => ?_) (fun c9 => ?_)
    · have h := (if_pos c9).symm.trans h
      have ok := ok.1 c9
      exact wX6_sheet_45 σ a1_ a2_ a3_ C hR  ok h
    · have h := (if_neg c9).symm.trans h
      have ok := ok.2 c9
      refine r_bipush (v := -14) C (dall tdX6_sheet 20 rfl) (by decide) ?_
      exact r_iret C hR (dall tdX6_sheet 21 rfl) (by subst h; exact ⟨rfl, rfl⟩)
def pX6_sheet_0  (σ : OS) (a1_ : Int32) (a2_ : Int32) (a3_ : Int32) : Int32 × OS := if (fX6_isSheet a1_) = 0 then ((-2), σ) else if (fX6_in a2_.toInt64 (-1) (2)) = 0 then ((-2), σ) else if a2_ < 0 then pX6_sheet_34  σ a1_ a2_ a3_ else if a3_ ≤ 40 then pX6_sheet_34  σ a1_ a2_ a3_ else ((-2), σ)
def oX6_sheet_0  (σ : OS) (a1_ : Int32) (a2_ : Int32) (a3_ : Int32) : Prop := (gX6_isSheet a1_) ∧ (((fX6_isSheet a1_) = 0 → True) ∧ (¬ ((fX6_isSheet a1_) = 0) → ((fX6_in a2_.toInt64 (-1) (2)) = 0 → True) ∧ (¬ ((fX6_in a2_.toInt64 (-1) (2)) = 0) → (a2_ < 0 → oX6_sheet_34  σ a1_ a2_ a3_) ∧ (¬ (a2_ < 0) → (a3_ ≤ 40 → oX6_sheet_34  σ a1_ a2_ a3_) ∧ (¬ (a3_ ≤ 40) → True)))))
set_option maxHeartbeats 4000000 in
set_option maxRecDepth 100000 in
theorem wX6_sheet_0 {X : CX} {cy : Nat → ClassId} {q : Nat → Nat} {D : va_G} {A : Nat → Prop} {res : Int32 × OS} (σ : OS) (a1_ : Int32) (a2_ : Int32) (a3_ : Int32) (C : Cx X cX6_sheet RX6 5 D (gty cy) A 2 0 0) (hR : Rt X (some .int) D (gty cy) A 0 0 (eI (wX6 cy q res.2) res.1))  (ok : oX6_sheet_0  σ a1_ a2_ a3_) (h : pX6_sheet_0  σ a1_ a2_ a3_ = res) : At X D A 5 0 0 0 [(0, .ref (q 41)), (1, .int a1_), (2, .int a2_), (3, .int a3_)] [] (wX6 cy q σ) := by
  unfold pX6_sheet_0 at h
  unfold oX6_sheet_0 at ok
  refine r_iload_n C 1 (dall tdX6_sheet 0 rfl) rfl ?_
  obtain ⟨o10, ok⟩ := ok
  refine r_s0I (as := [.int a1_]) C (zX6_isSheet a1_ o10) ms_X6_isSheet km_X6_434 (by decide) (by decide) ⟨Nat.le_refl _, Nat.le_refl _⟩ rfl rfl (Nat.le_of_ble_eq_true rfl) (dall tdX6_sheet 1 rfl) ?_
  refine r_if_eq (tgt := 31) C (dall tdX6_sheet 2 rfl) (by decide) (fun c11 => ?_) (fun c11 => ?_)
  · have h := (if_pos c11).symm.trans h
    have ok := ok.1 c11
    refine r_bipush (v := -2) C (dall tdX6_sheet 14 rfl) (by decide) ?_
    exact r_iret C hR (dall tdX6_sheet 15 rfl) (by subst h; exact ⟨rfl, rfl⟩)
  · have h := (if_neg c11).symm.trans h
    have ok := ok.2 c11
    refine r_iload_n C 2 (dall tdX6_sheet 3 rfl) rfl ?_
    refine r_i2l C (dall tdX6_sheet 4 rfl) ?_
    refine r_ldc2 C kk_X6_105 (dall tdX6_sheet 5 rfl) ?_
    refine r_ldc2 C kk_X6_463 (dall tdX6_sheet 6 rfl) ?_
    refine r_s0I (as := [.long a2_.toInt64, .long (-1), .long (2)]) C (zX6_in a2_.toInt64 (-1) (2) ) ms_X6_in km_X6_74 (by decide) (by decide) ⟨Nat.le_refl _, Nat.le_refl _⟩ rfl rfl (Nat.le_of_ble_eq_true rfl) (dall tdX6_sheet 7 rfl) ?_
    refine r_if_eq (tgt := 31) C (dall tdX6_sheet 8 rfl) (by decide) (fun c12 => ?_) (fun c12 => ?_)
    · have h := (if_pos c12).symm.trans h
      have ok := ok.1 c12
      refine r_bipush (v := -2) C (dall tdX6_sheet 14 rfl) (by decide) ?_
      exact r_iret C hR (dall tdX6_sheet 15 rfl) (by subst h; exact ⟨rfl, rfl⟩)
    · have h := (if_neg c12).symm.trans h
      have ok := ok.2 c12
      refine r_iload_n C 2 (dall tdX6_sheet 9 rfl) rfl ?_
      refine r_if_lt (tgt := 34) C (dall tdX6_sheet 10 rfl) (by decide) (fun c13 => ?_) (fun c13 => ?_)
      · have h := (if_pos c13).symm.trans h
        have ok := ok.1 c13
        exact wX6_sheet_34 σ a1_ a2_ a3_ C hR  ok h
      · have h := (if_neg c13).symm.trans h
        have ok := ok.2 c13
        refine r_iload_n C 3 (dall tdX6_sheet 11 rfl) rfl ?_
        refine r_bipush (v := 40) C (dall tdX6_sheet 12 rfl) (by decide) ?_
        refine r_icmp_le (tgt := 34) C (dall tdX6_sheet 13 rfl) (by decide) (fun c14 => ?_) (fun c14 => ?_)
        · have h := (if_pos c14).symm.trans h
          have ok := ok.1 c14
          exact wX6_sheet_34 σ a1_ a2_ a3_ C hR  ok h
        · have h := (if_neg c14).symm.trans h
          have ok := ok.2 c14
          refine r_bipush (v := -2) C (dall tdX6_sheet 14 rfl) (by decide) ?_
          exact r_iret C hR (dall tdX6_sheet 15 rfl) (by subst h; exact ⟨rfl, rfl⟩)
def fX6_sheet (σ : OS) (a1_ : Int32) (a2_ : Int32) (a3_ : Int32) : Int32 × OS := pX6_sheet_0  σ a1_ a2_ a3_
def gX6_sheet (σ : OS) (a1_ : Int32) (a2_ : Int32) (a3_ : Int32) : Prop := oX6_sheet_0  σ a1_ a2_ a3_
set_option maxRecDepth 100000 in
theorem zX6_sheet (cy : Nat → ClassId) (q : Nat → Nat)  {D : va_G} (σ : OS) (a1_ : Int32) (a2_ : Int32) (a3_ : Int32) (ok : gX6_sheet σ a1_ a2_ a3_)  : Con yX6_sheet cX6_sheet 5 (some .int) 2 0 0 D (gty cy) [.ref (q 41), .int a1_, .int a2_, .int a3_] (wX6 cy q σ) (eI (wX6 cy q (fX6_sheet σ a1_ a2_ a3_).2) (fX6_sheet σ a1_ a2_ a3_).1) :=
  Con.of (own := RX6) (by decide +kernel) rfl (Nat.le_of_ble_eq_true rfl) (Nat.zero_le _) (fun X A C hR _ => (wX6_sheet_0 σ a1_ a2_ a3_ C hR  ok rfl))
theorem mv_X6_sheet : MV yX6_sheet cX6_sheet 5 (some .int) RX6 3 := ⟨ki_X6_sheet, kv_X6_sheet, kn_X6, kc_X6_sheet, by decide +kernel⟩

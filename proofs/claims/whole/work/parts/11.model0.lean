abbrev fX6 (q : Nat → Nat) (σ : OS) : List Value := [.int (σ.1 0), .ref (q 1), .ref (q 2), .int (σ.1 3), .int (σ.1 4), .ref (q 5), .int (σ.1 6), .int (σ.1 7), .int (σ.1 8), .long (σ.2.1 9), .ref (q 10), .ref (q 11), .int (σ.1 12), .int (σ.1 13), .int (σ.1 14), .int (σ.1 15), .int (σ.1 16), .int (σ.1 17), .int (σ.1 18), .int (σ.1 19), .int (σ.1 20), .int (σ.1 21), .int (σ.1 22), .int (σ.1 23), .long (σ.2.1 24), .int (σ.1 25), .int (σ.1 26), .int (σ.1 27), .ref (q 28), .ref (q 29), .ref (q 30), .ref (q 31), .int (σ.1 32), .int (σ.1 33), .int (σ.1 34), .int (σ.1 35), .long (σ.2.1 36), .ref (q 37), .ref (q 38), .ref (q 39), .ref (q 40)]
def wX6 (cy : Nat → ClassId) (q : Nat → Nat) (σ : OS) : va_W := (q 41, .inr (5, fX6 q σ)) :: (q 1, .inl (cy 0, 960, .inl (σ.2.2.1 1))) :: (q 2, .inl (cy 0, 6, .inl (σ.2.2.1 2))) :: (q 5, .inl (cy 0, 160, .inl (σ.2.2.1 5))) :: (q 10, .inl (cy 0, 15, .inl (σ.2.2.1 10))) :: (q 11, .inl (cy 1, 5, .inr (.inl (σ.2.2.2 11)))) :: (q 28, .inl (cy 0, 17, .inl (σ.2.2.1 28))) :: (q 29, .inl (cy 1, 5, .inr (.inl (σ.2.2.2 29)))) :: (q 30, .inl (cy 0, 15, .inl (σ.2.2.1 30))) :: (q 31, .inl (cy 1, 5, .inr (.inl (σ.2.2.2 31)))) :: (q 37, .inl (cy 2, 4, .inl (σ.2.2.1 37))) :: (q 38, .inl (cy 0, 4, .inl (σ.2.2.1 38))) :: (q 39, .inl (cy 0, 4, .inl (σ.2.2.1 39))) :: (q 40, .inl (cy 0, 160, .inl (σ.2.2.1 40))) :: []
theorem pu_X6_this_0 (cy : Nat → ClassId) (q : Nat → Nat) (σ : OS) (v : Int32) : (wX6 cy q σ).set 0 (q 41, .inr (5, (fX6 q σ).set 0 (.int v))) = wX6 cy q (oI σ 0 v) := rfl
theorem pu_X6_this_3 (cy : Nat → ClassId) (q : Nat → Nat) (σ : OS) (v : Int32) : (wX6 cy q σ).set 0 (q 41, .inr (5, (fX6 q σ).set 3 (.int v))) = wX6 cy q (oI σ 3 v) := rfl
theorem pu_X6_this_4 (cy : Nat → ClassId) (q : Nat → Nat) (σ : OS) (v : Int32) : (wX6 cy q σ).set 0 (q 41, .inr (5, (fX6 q σ).set 4 (.int v))) = wX6 cy q (oI σ 4 v) := rfl
theorem pu_X6_this_6 (cy : Nat → ClassId) (q : Nat → Nat) (σ : OS) (v : Int32) : (wX6 cy q σ).set 0 (q 41, .inr (5, (fX6 q σ).set 6 (.int v))) = wX6 cy q (oI σ 6 v) := rfl
theorem pu_X6_this_7 (cy : Nat → ClassId) (q : Nat → Nat) (σ : OS) (v : Int32) : (wX6 cy q σ).set 0 (q 41, .inr (5, (fX6 q σ).set 7 (.int v))) = wX6 cy q (oI σ 7 v) := rfl
theorem pu_X6_this_8 (cy : Nat → ClassId) (q : Nat → Nat) (σ : OS) (v : Int32) : (wX6 cy q σ).set 0 (q 41, .inr (5, (fX6 q σ).set 8 (.int v))) = wX6 cy q (oI σ 8 v) := rfl
theorem pu_X6_this_9 (cy : Nat → ClassId) (q : Nat → Nat) (σ : OS) (v : Int64) : (wX6 cy q σ).set 0 (q 41, .inr (5, (fX6 q σ).set 9 (.long v))) = wX6 cy q (oL σ 9 v) := rfl
theorem pu_X6_this_12 (cy : Nat → ClassId) (q : Nat → Nat) (σ : OS) (v : Int32) : (wX6 cy q σ).set 0 (q 41, .inr (5, (fX6 q σ).set 12 (.int v))) = wX6 cy q (oI σ 12 v) := rfl
theorem pu_X6_this_13 (cy : Nat → ClassId) (q : Nat → Nat) (σ : OS) (v : Int32) : (wX6 cy q σ).set 0 (q 41, .inr (5, (fX6 q σ).set 13 (.int v))) = wX6 cy q (oI σ 13 v) := rfl
theorem pu_X6_this_14 (cy : Nat → ClassId) (q : Nat → Nat) (σ : OS) (v : Int32) : (wX6 cy q σ).set 0 (q 41, .inr (5, (fX6 q σ).set 14 (.int v))) = wX6 cy q (oI σ 14 v) := rfl
theorem pu_X6_this_15 (cy : Nat → ClassId) (q : Nat → Nat) (σ : OS) (v : Int32) : (wX6 cy q σ).set 0 (q 41, .inr (5, (fX6 q σ).set 15 (.int v))) = wX6 cy q (oI σ 15 v) := rfl
theorem pu_X6_this_16 (cy : Nat → ClassId) (q : Nat → Nat) (σ : OS) (v : Int32) : (wX6 cy q σ).set 0 (q 41, .inr (5, (fX6 q σ).set 16 (.int v))) = wX6 cy q (oI σ 16 v) := rfl
theorem pu_X6_this_17 (cy : Nat → ClassId) (q : Nat → Nat) (σ : OS) (v : Int32) : (wX6 cy q σ).set 0 (q 41, .inr (5, (fX6 q σ).set 17 (.int v))) = wX6 cy q (oI σ 17 v) := rfl
theorem pu_X6_this_18 (cy : Nat → ClassId) (q : Nat → Nat) (σ : OS) (v : Int32) : (wX6 cy q σ).set 0 (q 41, .inr (5, (fX6 q σ).set 18 (.int v))) = wX6 cy q (oI σ 18 v) := rfl
theorem pu_X6_this_19 (cy : Nat → ClassId) (q : Nat → Nat) (σ : OS) (v : Int32) : (wX6 cy q σ).set 0 (q 41, .inr (5, (fX6 q σ).set 19 (.int v))) = wX6 cy q (oI σ 19 v) := rfl
theorem pu_X6_this_20 (cy : Nat → ClassId) (q : Nat → Nat) (σ : OS) (v : Int32) : (wX6 cy q σ).set 0 (q 41, .inr (5, (fX6 q σ).set 20 (.int v))) = wX6 cy q (oI σ 20 v) := rfl
theorem pu_X6_this_21 (cy : Nat → ClassId) (q : Nat → Nat) (σ : OS) (v : Int32) : (wX6 cy q σ).set 0 (q 41, .inr (5, (fX6 q σ).set 21 (.int v))) = wX6 cy q (oI σ 21 v) := rfl
theorem pu_X6_this_22 (cy : Nat → ClassId) (q : Nat → Nat) (σ : OS) (v : Int32) : (wX6 cy q σ).set 0 (q 41, .inr (5, (fX6 q σ).set 22 (.int v))) = wX6 cy q (oI σ 22 v) := rfl
theorem pu_X6_this_23 (cy : Nat → ClassId) (q : Nat → Nat) (σ : OS) (v : Int32) : (wX6 cy q σ).set 0 (q 41, .inr (5, (fX6 q σ).set 23 (.int v))) = wX6 cy q (oI σ 23 v) := rfl
theorem pu_X6_this_24 (cy : Nat → ClassId) (q : Nat → Nat) (σ : OS) (v : Int64) : (wX6 cy q σ).set 0 (q 41, .inr (5, (fX6 q σ).set 24 (.long v))) = wX6 cy q (oL σ 24 v) := rfl
theorem pu_X6_this_25 (cy : Nat → ClassId) (q : Nat → Nat) (σ : OS) (v : Int32) : (wX6 cy q σ).set 0 (q 41, .inr (5, (fX6 q σ).set 25 (.int v))) = wX6 cy q (oI σ 25 v) := rfl
theorem pu_X6_this_26 (cy : Nat → ClassId) (q : Nat → Nat) (σ : OS) (v : Int32) : (wX6 cy q σ).set 0 (q 41, .inr (5, (fX6 q σ).set 26 (.int v))) = wX6 cy q (oI σ 26 v) := rfl
theorem pu_X6_this_27 (cy : Nat → ClassId) (q : Nat → Nat) (σ : OS) (v : Int32) : (wX6 cy q σ).set 0 (q 41, .inr (5, (fX6 q σ).set 27 (.int v))) = wX6 cy q (oI σ 27 v) := rfl
theorem pu_X6_this_32 (cy : Nat → ClassId) (q : Nat → Nat) (σ : OS) (v : Int32) : (wX6 cy q σ).set 0 (q 41, .inr (5, (fX6 q σ).set 32 (.int v))) = wX6 cy q (oI σ 32 v) := rfl
theorem pu_X6_this_33 (cy : Nat → ClassId) (q : Nat → Nat) (σ : OS) (v : Int32) : (wX6 cy q σ).set 0 (q 41, .inr (5, (fX6 q σ).set 33 (.int v))) = wX6 cy q (oI σ 33 v) := rfl
theorem pu_X6_this_34 (cy : Nat → ClassId) (q : Nat → Nat) (σ : OS) (v : Int32) : (wX6 cy q σ).set 0 (q 41, .inr (5, (fX6 q σ).set 34 (.int v))) = wX6 cy q (oI σ 34 v) := rfl
theorem pu_X6_this_35 (cy : Nat → ClassId) (q : Nat → Nat) (σ : OS) (v : Int32) : (wX6 cy q σ).set 0 (q 41, .inr (5, (fX6 q σ).set 35 (.int v))) = wX6 cy q (oI σ 35 v) := rfl
theorem pu_X6_this_36 (cy : Nat → ClassId) (q : Nat → Nat) (σ : OS) (v : Int64) : (wX6 cy q σ).set 0 (q 41, .inr (5, (fX6 q σ).set 36 (.long v))) = wX6 cy q (oL σ 36 v) := rfl
theorem pa_X6_this_1 (cy : Nat → ClassId) (q : Nat → Nat) (σ : OS) (i : Nat) (x : Int32) : (wX6 cy q σ).set 1 (q 1, .inl (cy 0, 960, .inl (upd (σ.2.2.1 1) i x))) = wX6 cy q (oS σ 1 i x) := rfl
theorem pa_X6_this_2 (cy : Nat → ClassId) (q : Nat → Nat) (σ : OS) (i : Nat) (x : Int32) : (wX6 cy q σ).set 2 (q 2, .inl (cy 0, 6, .inl (upd (σ.2.2.1 2) i x))) = wX6 cy q (oS σ 2 i x) := rfl
theorem pa_X6_this_5 (cy : Nat → ClassId) (q : Nat → Nat) (σ : OS) (i : Nat) (x : Int32) : (wX6 cy q σ).set 3 (q 5, .inl (cy 0, 160, .inl (upd (σ.2.2.1 5) i x))) = wX6 cy q (oS σ 5 i x) := rfl
theorem pa_X6_this_10 (cy : Nat → ClassId) (q : Nat → Nat) (σ : OS) (i : Nat) (x : Int32) : (wX6 cy q σ).set 4 (q 10, .inl (cy 0, 15, .inl (upd (σ.2.2.1 10) i x))) = wX6 cy q (oS σ 10 i x) := rfl
theorem pa_X6_this_11 (cy : Nat → ClassId) (q : Nat → Nat) (σ : OS) (i : Nat) (x : Int64) : (wX6 cy q σ).set 5 (q 11, .inl (cy 1, 5, .inr (.inl (vp_updL (σ.2.2.2 11) i x)))) = wX6 cy q (oT σ 11 i x) := rfl
theorem pa_X6_this_28 (cy : Nat → ClassId) (q : Nat → Nat) (σ : OS) (i : Nat) (x : Int32) : (wX6 cy q σ).set 6 (q 28, .inl (cy 0, 17, .inl (upd (σ.2.2.1 28) i x))) = wX6 cy q (oS σ 28 i x) := rfl
theorem pa_X6_this_29 (cy : Nat → ClassId) (q : Nat → Nat) (σ : OS) (i : Nat) (x : Int64) : (wX6 cy q σ).set 7 (q 29, .inl (cy 1, 5, .inr (.inl (vp_updL (σ.2.2.2 29) i x)))) = wX6 cy q (oT σ 29 i x) := rfl
theorem pa_X6_this_30 (cy : Nat → ClassId) (q : Nat → Nat) (σ : OS) (i : Nat) (x : Int32) : (wX6 cy q σ).set 8 (q 30, .inl (cy 0, 15, .inl (upd (σ.2.2.1 30) i x))) = wX6 cy q (oS σ 30 i x) := rfl
theorem pa_X6_this_31 (cy : Nat → ClassId) (q : Nat → Nat) (σ : OS) (i : Nat) (x : Int64) : (wX6 cy q σ).set 9 (q 31, .inl (cy 1, 5, .inr (.inl (vp_updL (σ.2.2.2 31) i x)))) = wX6 cy q (oT σ 31 i x) := rfl
theorem pa_X6_this_37 (cy : Nat → ClassId) (q : Nat → Nat) (σ : OS) (i : Nat) (x : Int32) : (wX6 cy q σ).set 10 (q 37, .inl (cy 2, 4, .inl (upd (σ.2.2.1 37) i x))) = wX6 cy q (oS σ 37 i x) := rfl
theorem pa_X6_this_38 (cy : Nat → ClassId) (q : Nat → Nat) (σ : OS) (i : Nat) (x : Int32) : (wX6 cy q σ).set 11 (q 38, .inl (cy 0, 4, .inl (upd (σ.2.2.1 38) i x))) = wX6 cy q (oS σ 38 i x) := rfl
theorem pa_X6_this_39 (cy : Nat → ClassId) (q : Nat → Nat) (σ : OS) (i : Nat) (x : Int32) : (wX6 cy q σ).set 12 (q 39, .inl (cy 0, 4, .inl (upd (σ.2.2.1 39) i x))) = wX6 cy q (oS σ 39 i x) := rfl
theorem pa_X6_this_40 (cy : Nat → ClassId) (q : Nat → Nat) (σ : OS) (i : Nat) (x : Int32) : (wX6 cy q σ).set 13 (q 40, .inl (cy 0, 160, .inl (upd (σ.2.2.1 40) i x))) = wX6 cy q (oS σ 40 i x) := rfl
def tbX6_spell : List (Nat × Instr × Nat) := [(0, .aload_n 0, 1), (1, .getfield 13, 3), (4, .iload_n 1, 1), (5, .iload_n 2, 1), (6, .iastore, 1), (7, .aload_n 0, 1), (8, .getfield 13, 3), (11, .iload_n 1, 1), (12, .iconst 1, 1), (13, .iadd, 1), (14, .iload_n 3, 1), (15, .iastore, 1), (16, .aload_n 0, 1), (17, .getfield 13, 3), (20, .iload_n 1, 1), (21, .iconst 2, 1), (22, .iadd, 1), (23, .iload 4, 2), (25, .iastore, 1), (26, .aload_n 0, 1), (27, .getfield 13, 3), (30, .iload_n 1, 1), (31, .iconst 3, 1), (32, .iadd, 1), (33, .iload 5, 2), (35, .iastore, 1), (36, .aload_n 0, 1), (37, .getfield 13, 3), (40, .iload_n 1, 1), (41, .iconst 4, 1), (42, .iadd, 1), (43, .iload 6, 2), (45, .iastore, 1), (46, .aload_n 0, 1), (47, .getfield 13, 3), (50, .iload_n 1, 1), (51, .iconst 5, 1), (52, .iadd, 1), (53, .iload 7, 2), (55, .iastore, 1), (56, .aload_n 0, 1), (57, .getfield 13, 3), (60, .iload_n 1, 1), (61, .bipush 6, 2), (63, .iadd, 1), (64, .iload 8, 2), (66, .iastore, 1), (67, .aload_n 0, 1), (68, .getfield 13, 3), (71, .iload_n 1, 1), (72, .bipush 7, 2), (74, .iadd, 1), (75, .iload 9, 2), (77, .iastore, 1), (78, .return_, 1)]
theorem tdX6_spell : tbX6_spell.all (fun q => decide (decode cX6_spell q.1 = .ok q.2)) = true := by decide +kernel
def pX6_spell_0  (σ : OS) (a1_ : Int32) (a2_ : Int32) (a3_ : Int32) (a4_ : Int32) (a5_ : Int32) (a6_ : Int32) (a7_ : Int32) (a8_ : Int32) (a9_ : Int32) : OS := oS (oS (oS (oS (oS (oS (oS (oS σ 1 a1_.toNatClampNeg a2_) 1 ((a1_ + 1).toNatClampNeg) a3_) 1 ((a1_ + 2).toNatClampNeg) a4_) 1 ((a1_ + 3).toNatClampNeg) a5_) 1 ((a1_ + 4).toNatClampNeg) a6_) 1 ((a1_ + 5).toNatClampNeg) a7_) 1 ((a1_ + 6).toNatClampNeg) a8_) 1 ((a1_ + 7).toNatClampNeg) a9_
def oX6_spell_0  (σ : OS) (a1_ : Int32) (a2_ : Int32) (a3_ : Int32) (a4_ : Int32) (a5_ : Int32) (a6_ : Int32) (a7_ : Int32) (a8_ : Int32) (a9_ : Int32) : Prop := (vp_in a1_ 960) ∧ ((vp_in (a1_ + 1) 960) ∧ ((vp_in (a1_ + 2) 960) ∧ ((vp_in (a1_ + 3) 960) ∧ ((vp_in (a1_ + 4) 960) ∧ ((vp_in (a1_ + 5) 960) ∧ ((vp_in (a1_ + 6) 960) ∧ (vp_in (a1_ + 7) 960)))))))
set_option maxHeartbeats 4000000 in
set_option maxRecDepth 100000 in
theorem wX6_spell_0 {X : CX} {cy : Nat → ClassId} {q : Nat → Nat} {D : va_G} {A : Nat → Prop} {res : OS} (σ : OS) (a1_ : Int32) (a2_ : Int32) (a3_ : Int32) (a4_ : Int32) (a5_ : Int32) (a6_ : Int32) (a7_ : Int32) (a8_ : Int32) (a9_ : Int32) (C : Cx X cX6_spell RX6 10 D (gty cy) A 0 0 0) (hR : Rt X none D (gty cy) A 0 0 (eV (wX6 cy q res)))  (ok : oX6_spell_0  σ a1_ a2_ a3_ a4_ a5_ a6_ a7_ a8_ a9_) (h : pX6_spell_0  σ a1_ a2_ a3_ a4_ a5_ a6_ a7_ a8_ a9_ = res) : At X D A 10 0 0 0 [(0, .ref (q 41)), (1, .int a1_), (2, .int a2_), (3, .int a3_), (4, .int a4_), (5, .int a5_), (6, .int a6_), (7, .int a7_), (8, .int a8_), (9, .int a9_)] [] (wX6 cy q σ) := by
  unfold pX6_spell_0 at h
  unfold oX6_spell_0 at ok
  refine r_aload_n C 0 (dall tdX6_spell 0 rfl) rfl ?_
  refine r_get C 0 kw_X6 rfl rfl (by decide) kf_X6_13 rfl rfl (dall tdX6_spell 1 rfl) ?_
  refine r_iload_n C 1 (dall tdX6_spell 2 rfl) rfl ?_
  refine r_iload_n C 2 (dall tdX6_spell 3 rfl) rfl ?_
  obtain ⟨o1, ok⟩ := ok
  refine r_iast C 1 0 rfl rfl o1 (pa_X6_this_1 cy q σ a1_.toNatClampNeg a2_) (dall tdX6_spell 4 rfl) ?_
  refine r_aload_n C 0 (dall tdX6_spell 5 rfl) rfl ?_
  refine r_get C 0 kw_X6 rfl rfl (by decide) kf_X6_13 rfl rfl (dall tdX6_spell 6 rfl) ?_
  refine r_iload_n C 1 (dall tdX6_spell 7 rfl) rfl ?_
  refine r_iconst (v := 1) C (dall tdX6_spell 8 rfl) (by decide) ?_
  refine r_iadd C (dall tdX6_spell 9 rfl) ?_
  refine r_iload_n C 3 (dall tdX6_spell 10 rfl) rfl ?_
  obtain ⟨o2, ok⟩ := ok
  refine r_iast C 1 0 rfl rfl o2 (pa_X6_this_1 cy q (oS σ 1 a1_.toNatClampNeg a2_) ((a1_ + 1).toNatClampNeg) a3_) (dall tdX6_spell 11 rfl) ?_
  refine r_aload_n C 0 (dall tdX6_spell 12 rfl) rfl ?_
  refine r_get C 0 kw_X6 rfl rfl (by decide) kf_X6_13 rfl rfl (dall tdX6_spell 13 rfl) ?_
  refine r_iload_n C 1 (dall tdX6_spell 14 rfl) rfl ?_
  refine r_iconst (v := 2) C (dall tdX6_spell 15 rfl) (by decide) ?_
  refine r_iadd C (dall tdX6_spell 16 rfl) ?_
  refine r_iload C 4 (dall tdX6_spell 17 rfl) rfl ?_
  obtain ⟨o3, ok⟩ := ok
  refine r_iast C 1 0 rfl rfl o3 (pa_X6_this_1 cy q (oS (oS σ 1 a1_.toNatClampNeg a2_) 1 ((a1_ + 1).toNatClampNeg) a3_) ((a1_ + 2).toNatClampNeg) a4_) (dall tdX6_spell 18 rfl) ?_
  refine r_aload_n C 0 (dall tdX6_spell 19 rfl) rfl ?_
  refine r_get C 0 kw_X6 rfl rfl (by decide) kf_X6_13 rfl rfl (dall tdX6_spell 20 rfl) ?_
  refine r_iload_n C 1 (dall tdX6_spell 21 rfl) rfl ?_
  refine r_iconst (v := 3) C (dall tdX6_spell 22 rfl) (by decide) ?_
  refine r_iadd C (dall tdX6_spell 23 rfl) ?_
  refine r_iload C 5 (dall tdX6_spell 24 rfl) rfl ?_
  obtain ⟨o4, ok⟩ := ok
  refine r_iast C 1 0 rfl rfl o4 (pa_X6_this_1 cy q (oS (oS (oS σ 1 a1_.toNatClampNeg a2_) 1 ((a1_ + 1).toNatClampNeg) a3_) 1 ((a1_ + 2).toNatClampNeg) a4_) ((a1_ + 3).toNatClampNeg) a5_) (dall tdX6_spell 25 rfl) ?_
  refine r_aload_n C 0 (dall tdX6_spell 26 rfl) rfl ?_
  refine r_get C 0 kw_X6 rfl rfl (by decide) kf_X6_13 rfl rfl (dall tdX6_spell 27 rfl) ?_
  refine r_iload_n C 1 (dall tdX6_spell 28 rfl) rfl ?_
  refine r_iconst (v := 4) C (dall tdX6_spell 29 rfl) (by decide) ?_
  refine r_iadd C (dall tdX6_spell 30 rfl) ?_
  refine r_iload C 6 (dall tdX6_spell 31 rfl) rfl ?_
  obtain ⟨o5, ok⟩ := ok
  refine r_iast C 1 0 rfl rfl o5 (pa_X6_this_1 cy q (oS (oS (oS (oS σ 1 a1_.toNatClampNeg a2_) 1 ((a1_ + 1).toNatClampNeg) a3_) 1 ((a1_ + 2).toNatClampNeg) a4_) 1 ((a1_ + 3).toNatClampNeg) a5_) ((a1_ + 4).toNatClampNeg) a6_) (dall tdX6_spell 32 rfl) ?_
  refine r_aload_n C 0 (dall tdX6_spell 33 rfl) rfl ?_
  refine r_get C 0 kw_X6 rfl rfl (by decide) kf_X6_13 rfl rfl (dall tdX6_spell 34 rfl) ?_
  refine r_iload_n C 1 (dall tdX6_spell 35 rfl) rfl ?_
  refine r_iconst (v := 5) C (dall tdX6_spell 36 rfl) (by decide) ?_
  refine r_iadd C (dall tdX6_spell 37 rfl) ?_
  refine r_iload C 7 (dall tdX6_spell 38 rfl) rfl ?_
  obtain ⟨o6, ok⟩ := ok
  refine r_iast C 1 0 rfl rfl o6 (pa_X6_this_1 cy q (oS (oS (oS (oS (oS σ 1 a1_.toNatClampNeg a2_) 1 ((a1_ + 1).toNatClampNeg) a3_) 1 ((a1_ + 2).toNatClampNeg) a4_) 1 ((a1_ + 3).toNatClampNeg) a5_) 1 ((a1_ + 4).toNatClampNeg) a6_) ((a1_ + 5).toNatClampNeg) a7_) (dall tdX6_spell 39 rfl) ?_
  refine r_aload_n C 0 (dall tdX6_spell 40 rfl) rfl ?_
  refine r_get C 0 kw_X6 rfl rfl (by decide) kf_X6_13 rfl rfl (dall tdX6_spell 41 rfl) ?_
  refine r_iload_n C 1 (dall tdX6_spell 42 rfl) rfl ?_
  refine r_bipush (v := 6) C (dall tdX6_spell 43 rfl) (by decide) ?_
  refine r_iadd C (dall tdX6_spell 44 rfl) ?_
  refine r_iload C 8 (dall tdX6_spell 45 rfl) rfl ?_
  obtain ⟨o7, ok⟩ := ok
  refine r_iast C 1 0 rfl rfl o7 (pa_X6_this_1 cy q (oS (oS (oS (oS (oS (oS σ 1 a1_.toNatClampNeg a2_) 1 ((a1_ + 1).toNatClampNeg) a3_) 1 ((a1_ + 2).toNatClampNeg) a4_) 1 ((a1_ + 3).toNatClampNeg) a5_) 1 ((a1_ + 4).toNatClampNeg) a6_) 1 ((a1_ + 5).toNatClampNeg) a7_) ((a1_ + 6).toNatClampNeg) a8_) (dall tdX6_spell 46 rfl) ?_
  refine r_aload_n C 0 (dall tdX6_spell 47 rfl) rfl ?_
  refine r_get C 0 kw_X6 rfl rfl (by decide) kf_X6_13 rfl rfl (dall tdX6_spell 48 rfl) ?_
  refine r_iload_n C 1 (dall tdX6_spell 49 rfl) rfl ?_
  refine r_bipush (v := 7) C (dall tdX6_spell 50 rfl) (by decide) ?_
  refine r_iadd C (dall tdX6_spell 51 rfl) ?_
  refine r_iload C 9 (dall tdX6_spell 52 rfl) rfl ?_
  have o8 := ok
  refine r_iast C 1 0 rfl rfl o8 (pa_X6_this_1 cy q (oS (oS (oS (oS (oS (oS (oS σ 1 a1_.toNatClampNeg a2_) 1 ((a1_ + 1).toNatClampNeg) a3_) 1 ((a1_ + 2).toNatClampNeg) a4_) 1 ((a1_ + 3).toNatClampNeg) a5_) 1 ((a1_ + 4).toNatClampNeg) a6_) 1 ((a1_ + 5).toNatClampNeg) a7_) 1 ((a1_ + 6).toNatClampNeg) a8_) ((a1_ + 7).toNatClampNeg) a9_) (dall tdX6_spell 53 rfl) ?_
  exact r_vret C hR (dall tdX6_spell 54 rfl) (by subst h; exact ⟨rfl, rfl⟩)
def fX6_spell (σ : OS) (a1_ : Int32) (a2_ : Int32) (a3_ : Int32) (a4_ : Int32) (a5_ : Int32) (a6_ : Int32) (a7_ : Int32) (a8_ : Int32) (a9_ : Int32) : OS := pX6_spell_0  σ a1_ a2_ a3_ a4_ a5_ a6_ a7_ a8_ a9_
def gX6_spell (σ : OS) (a1_ : Int32) (a2_ : Int32) (a3_ : Int32) (a4_ : Int32) (a5_ : Int32) (a6_ : Int32) (a7_ : Int32) (a8_ : Int32) (a9_ : Int32) : Prop := oX6_spell_0  σ a1_ a2_ a3_ a4_ a5_ a6_ a7_ a8_ a9_
set_option maxRecDepth 100000 in
theorem zX6_spell (cy : Nat → ClassId) (q : Nat → Nat)  {D : va_G} (σ : OS) (a1_ : Int32) (a2_ : Int32) (a3_ : Int32) (a4_ : Int32) (a5_ : Int32) (a6_ : Int32) (a7_ : Int32) (a8_ : Int32) (a9_ : Int32) (ok : gX6_spell σ a1_ a2_ a3_ a4_ a5_ a6_ a7_ a8_ a9_)  : Con yX6_spell cX6_spell 10 none 0 0 0 D (gty cy) [.ref (q 41), .int a1_, .int a2_, .int a3_, .int a4_, .int a5_, .int a6_, .int a7_, .int a8_, .int a9_] (wX6 cy q σ) (eV (wX6 cy q (fX6_spell σ a1_ a2_ a3_ a4_ a5_ a6_ a7_ a8_ a9_))) :=
  Con.of (own := RX6) (by decide +kernel) rfl (Nat.le_of_ble_eq_true rfl) (Nat.zero_le _) (fun X A C hR _ => (wX6_spell_0 σ a1_ a2_ a3_ a4_ a5_ a6_ a7_ a8_ a9_ C hR  ok rfl))
theorem mv_X6_spell : MV yX6_spell cX6_spell 10 none RX6 9 := ⟨ki_X6_spell, kv_X6_spell, kn_X6, kc_X6_spell, by decide +kernel⟩
def tbX6_isOne : List (Nat × Instr × Nat) := [(0, .iload_n 1, 1), (1, .i2l, 1), (2, .lconst 0, 1), (3, .aload_n 0, 1), (4, .getfield 71, 3), (7, .iconst 1, 1), (8, .isub, 1), (9, .i2l, 1), (10, .invokestatic 74, 3), (13, .ireturn, 1)]
theorem tdX6_isOne : tbX6_isOne.all (fun q => decide (decode cX6_isOne q.1 = .ok q.2)) = true := by decide +kernel
def pX6_isOne_0  (σ : OS) (a1_ : Int32) : Int32 := fX6_in a1_.toInt64 0 (((σ.1 12) - 1).toInt64)
def oX6_isOne_0  (σ : OS) (a1_ : Int32) : Prop := narrow .boolean (.int (fX6_in a1_.toInt64 0 (((σ.1 12) - 1).toInt64))) = .int (fX6_in a1_.toInt64 0 (((σ.1 12) - 1).toInt64))
set_option maxHeartbeats 4000000 in
set_option maxRecDepth 100000 in
theorem wX6_isOne_0 {X : CX} {cy : Nat → ClassId} {q : Nat → Nat} {D : va_G} {A : Nat → Prop} {res : Int32} (σ : OS) (a1_ : Int32) (C : Cx X cX6_isOne RX6 2 D (gty cy) A 1 0 0) (hR : Rt X (some .boolean) D (gty cy) A 0 0 (eI (wX6 cy q σ) res))  (ok : oX6_isOne_0  σ a1_) (h : pX6_isOne_0  σ a1_ = res) : At X D A 2 0 0 0 [(0, .ref (q 41)), (1, .int a1_)] [] (wX6 cy q σ) := by
  unfold pX6_isOne_0 at h
  unfold oX6_isOne_0 at ok
  refine r_iload_n C 1 (dall tdX6_isOne 0 rfl) rfl ?_
  refine r_i2l C (dall tdX6_isOne 1 rfl) ?_
  refine r_lconst (v := 0) C (dall tdX6_isOne 2 rfl) (by decide) ?_
  refine r_aload_n C 0 (dall tdX6_isOne 3 rfl) rfl ?_
  refine r_get C 0 kw_X6 rfl rfl (by decide) kf_X6_71 rfl rfl (dall tdX6_isOne 4 rfl) ?_
  refine r_iconst (v := 1) C (dall tdX6_isOne 5 rfl) (by decide) ?_
  refine r_isub C (dall tdX6_isOne 6 rfl) ?_
  refine r_i2l C (dall tdX6_isOne 7 rfl) ?_
  refine r_s0I (as := [.long a1_.toInt64, .long 0, .long (((σ.1 12) - 1).toInt64)]) C (zX6_in a1_.toInt64 0 (((σ.1 12) - 1).toInt64) ) ms_X6_in km_X6_74 (by decide) (by decide) ⟨Nat.le_refl _, Nat.le_refl _⟩ rfl rfl (Nat.le_of_ble_eq_true rfl) (dall tdX6_isOne 8 rfl) ?_
  have o1 := ok
  exact r_zret C o1 hR (dall tdX6_isOne 9 rfl) (by subst h; exact ⟨rfl, rfl⟩)
def fX6_isOne (σ : OS) (a1_ : Int32) : Int32 := pX6_isOne_0  σ a1_
def gX6_isOne (σ : OS) (a1_ : Int32) : Prop := oX6_isOne_0  σ a1_
set_option maxRecDepth 100000 in
theorem zX6_isOne (cy : Nat → ClassId) (q : Nat → Nat)  {D : va_G} (σ : OS) (a1_ : Int32) (ok : gX6_isOne σ a1_)  : Con yX6_isOne cX6_isOne 2 (some .boolean) 1 0 0 D (gty cy) [.ref (q 41), .int a1_] (wX6 cy q σ) (eI (wX6 cy q σ) (fX6_isOne σ a1_)) :=
  Con.of (own := RX6) (by decide +kernel) rfl (Nat.le_of_ble_eq_true rfl) (Nat.zero_le _) (fun X A C hR _ => (wX6_isOne_0 σ a1_ C hR  ok rfl))
theorem mv_X6_isOne : MV yX6_isOne cX6_isOne 2 (some .boolean) RX6 1 := ⟨ki_X6_isOne, kv_X6_isOne, kn_X6, kc_X6_isOne, by decide +kernel⟩
def tbX6_putAll : List (Nat × Instr × Nat) := [(0, .lconst 0, 1), (1, .lstore_n 1, 1), (2, .iconst 0, 1), (3, .istore_n 3, 1), (4, .iload_n 3, 1), (5, .aload_n 0, 1), (6, .getfield 71, 3), (9, .if_icmp .ge 18, 3), (12, .lload_n 1, 1), (13, .aload_n 0, 1), (14, .getfield 32, 3), (17, .iload_n 3, 1), (18, .laload, 1), (19, .lor, 1), (20, .lstore_n 1, 1), (21, .iinc 3 1, 3), (24, .goto (-20), 3), (27, .lload_n 1, 1), (28, .lreturn, 1)]
theorem tdX6_putAll : tbX6_putAll.all (fun q => decide (decode cX6_putAll q.1 = .ok q.2)) = true := by decide +kernel
def bX6_putAll_4 (σ : OS)  (kR4 : Int64 × Int32 → Int64) (v : Int64 × Int32) : Int64 := if (σ.1 12) ≤ v.2 then v.1 else kR4 (v.1 ||| (σ.2.2.2 11 v.2.toNatClampNeg), v.2 + 1)
def kX6_putAll_4 (σ : OS)  (kO4 : Int64 × Int32 → Prop) (v : Int64 × Int32) : Prop := ((σ.1 12) ≤ v.2 → True) ∧ (¬ ((σ.1 12) ≤ v.2) → (vp_in v.2 5) ∧ (kO4 (v.1 ||| (σ.2.2.2 11 v.2.toNatClampNeg), v.2 + 1)))
set_option maxHeartbeats 4000000 in
set_option maxRecDepth 100000 in
theorem wX6_putAll_4 {X : CX} {cy : Nat → ClassId} {q : Nat → Nat} {D : va_G} {A : Nat → Prop} {res : Int64} (σ : OS) (C : Cx X cX6_putAll RX6 4 D (gty cy) A 0 0 0) (hR : Rt X (some .long) D (gty cy) A 0 0 (eL (wX6 cy q σ) res)) (kR4 : Int64 × Int32 → Int64) (kO4 : Int64 × Int32 → Prop) (hk4 : ∀ z, kO4 z → kR4 z = res → At X D A 4 0 0 4 [(0, .ref (q 41)), (1, .long z.1), (3, .int z.2)] [] (wX6 cy q σ)) (v : Int64 × Int32) (ok : kX6_putAll_4 σ kO4 v) (h : bX6_putAll_4 σ kR4 v = res) : At X D A 4 0 0 4 [(0, .ref (q 41)), (1, .long v.1), (3, .int v.2)] [] (wX6 cy q σ) := by
  unfold bX6_putAll_4 at h
  unfold kX6_putAll_4 at ok
  refine r_iload_n C 2 (dall tdX6_putAll 4 rfl) rfl ?_
  refine r_aload_n C 0 (dall tdX6_putAll 5 rfl) rfl ?_
  refine r_get C 0 kw_X6 rfl rfl (by decide) kf_X6_71 rfl rfl (dall tdX6_putAll 6 rfl) ?_
  refine r_icmp_ge (tgt := 27) C (dall tdX6_putAll 7 rfl) (by decide) (fun c1 => ?_) (fun c1 => ?_)
  · have h := (if_pos c1).symm.trans h
    have ok := ok.1 c1
    refine r_lload_n C 1 (dall tdX6_putAll 17 rfl) rfl ?_
    exact r_lret C hR (dall tdX6_putAll 18 rfl) (by subst h; exact ⟨rfl, rfl⟩)
  · have h := (if_neg c1).symm.trans h
    have ok := ok.2 c1
    refine r_lload_n C 1 (dall tdX6_putAll 8 rfl) rfl ?_
    refine r_aload_n C 0 (dall tdX6_putAll 9 rfl) rfl ?_
    refine r_get C 0 kw_X6 rfl rfl (by decide) kf_X6_32 rfl rfl (dall tdX6_putAll 10 rfl) ?_
    refine r_iload_n C 2 (dall tdX6_putAll 11 rfl) rfl ?_
    obtain ⟨o2, ok⟩ := ok
    refine r_lald C 5 1 rfl rfl o2 (dall tdX6_putAll 12 rfl) ?_
    refine r_lor C (dall tdX6_putAll 13 rfl) ?_
    refine r_lstore_n (lv' := [(1, .long (v.1 ||| (σ.2.2.2 11 v.2.toNatClampNeg))), (0, .ref (q 41)), (3, .int v.2)]) C (dall tdX6_putAll 14 rfl) (by decide) rfl ?_
    refine r_iinc (v := v.2 + 1) (lv' := [(3, .int (v.2 + 1)), (1, .long (v.1 ||| (σ.2.2.2 11 v.2.toNatClampNeg))), (0, .ref (q 41))]) C 2 (dall tdX6_putAll 15 rfl) rfl rfl (by decide) rfl ?_
    refine r_goto (tgt := 4) C (dall tdX6_putAll 16 rfl) (by decide) ?_
    refine r_pick [2, 1, 0] rfl ?_
    exact hk4 (v.1 ||| (σ.2.2.2 11 v.2.toNatClampNeg), v.2 + 1) ok h
set_option maxHeartbeats 4000000 in
set_option maxRecDepth 100000 in
theorem lX6_putAll_4 {X : CX} {cy : Nat → ClassId} {q : Nat → Nat} {D : va_G} {A : Nat → Prop} {res : Int64} (σ : OS) (C : Cx X cX6_putAll RX6 4 D (gty cy) A 0 0 0) (hR : Rt X (some .long) D (gty cy) A 0 0 (eL (wX6 cy q σ) res))  (n : Nat) (v : Int64 × Int32) (ok : lpOk (kX6_putAll_4 σ ) n v) (h : lp 0 (bX6_putAll_4 σ ) n v = res) : At X D A 4 0 0 4 [(0, .ref (q 41)), (1, .long v.1), (3, .int v.2)] [] (wX6 cy q σ) :=
  lp_rule (fun v rr_ => rr_ = res → At X D A 4 0 0 4 [(0, .ref (q 41)), (1, .long v.1), (3, .int v.2)] [] (wX6 cy q σ)) (fun kR kO hk v ok h => wX6_putAll_4 σ C hR  kR kO hk v ok h) n v ok h
def pX6_putAll_0  (σ : OS) : Int64 := lp 0 (bX6_putAll_4 σ ) fu (0, 0)
def oX6_putAll_0  (σ : OS) : Prop := lpOk (kX6_putAll_4 σ ) fu (0, 0)
set_option maxHeartbeats 4000000 in
set_option maxRecDepth 100000 in
theorem wX6_putAll_0 {X : CX} {cy : Nat → ClassId} {q : Nat → Nat} {D : va_G} {A : Nat → Prop} {res : Int64} (σ : OS) (C : Cx X cX6_putAll RX6 4 D (gty cy) A 0 0 0) (hR : Rt X (some .long) D (gty cy) A 0 0 (eL (wX6 cy q σ) res))  (ok : oX6_putAll_0  σ) (h : pX6_putAll_0  σ = res) : At X D A 4 0 0 0 [(0, .ref (q 41))] [] (wX6 cy q σ) := by
  unfold pX6_putAll_0 at h
  unfold oX6_putAll_0 at ok
  refine r_lconst (v := 0) C (dall tdX6_putAll 0 rfl) (by decide) ?_
  refine r_lstore_n (lv' := [(1, .long 0), (0, .ref (q 41))]) C (dall tdX6_putAll 1 rfl) (by decide) rfl ?_
  refine r_iconst (v := 0) C (dall tdX6_putAll 2 rfl) (by decide) ?_
  refine r_istore_n (lv' := [(3, .int 0), (1, .long 0), (0, .ref (q 41))]) C (dall tdX6_putAll 3 rfl) (by decide) rfl ?_
  refine r_pick [2, 1, 0] rfl ?_
  exact lX6_putAll_4 σ C hR  fu _ ok h
def fX6_putAll (σ : OS) : Int64 := pX6_putAll_0  σ
def gX6_putAll (σ : OS) : Prop := oX6_putAll_0  σ
set_option maxRecDepth 100000 in
theorem zX6_putAll (cy : Nat → ClassId) (q : Nat → Nat)  {D : va_G} (σ : OS) (ok : gX6_putAll σ )  : Con yX6_putAll cX6_putAll 4 (some .long) 0 0 0 D (gty cy) [.ref (q 41)] (wX6 cy q σ) (eL (wX6 cy q σ) (fX6_putAll σ )) :=
  Con.of (own := RX6) (by decide +kernel) rfl (Nat.le_of_ble_eq_true rfl) (Nat.zero_le _) (fun X A C hR _ => (wX6_putAll_0 σ C hR  ok rfl))
theorem mv_X6_putAll : MV yX6_putAll cX6_putAll 4 (some .long) RX6 0 := ⟨ki_X6_putAll, kv_X6_putAll, kn_X6, kc_X6_putAll, by decide +kernel⟩
def tbX6_stands : List (Nat × Instr × Nat) := [(0, .aload_n 0, 1), (1, .getfield 25, 3), (4, .aload_n 0, 1), (5, .invokevirtual 80, 3), (8, .lor, 1), (9, .lreturn, 1)]
theorem tdX6_stands : tbX6_stands.all (fun q => decide (decode cX6_stands q.1 = .ok q.2)) = true := by decide +kernel
def pX6_stands_0  (σ : OS) : Int64 := (σ.2.1 9) ||| (fX6_putAll σ)
def oX6_stands_0  (σ : OS) : Prop := gX6_putAll σ 
set_option maxHeartbeats 4000000 in
set_option maxRecDepth 100000 in
theorem wX6_stands_0 {X : CX} {cy : Nat → ClassId} {q : Nat → Nat} {D : va_G} {A : Nat → Prop} {res : Int64} (σ : OS) (C : Cx X cX6_stands RX6 1 D (gty cy) A 1 0 0) (hR : Rt X (some .long) D (gty cy) A 0 0 (eL (wX6 cy q σ) res))  (ok : oX6_stands_0  σ) (h : pX6_stands_0  σ = res) : At X D A 1 0 0 0 [(0, .ref (q 41))] [] (wX6 cy q σ) := by
  unfold pX6_stands_0 at h
  unfold oX6_stands_0 at ok
  refine r_aload_n C 0 (dall tdX6_stands 0 rfl) rfl ?_
  refine r_get C 0 kw_X6 rfl rfl (by decide) kf_X6_25 rfl rfl (dall tdX6_stands 1 rfl) ?_
  refine r_aload_n C 0 (dall tdX6_stands 2 rfl) rfl ?_
  have o1 := ok
  refine r_vL (as := []) C (zX6_putAll cy q σ  o1) mv_X6_putAll km_X6_80 (by decide) (by decide) ⟨Nat.le_refl _, Nat.le_refl _⟩ rfl rfl rfl rfl (Nat.le_of_ble_eq_true rfl) (dall tdX6_stands 3 rfl) ?_
  refine r_lor C (dall tdX6_stands 4 rfl) ?_
  exact r_lret C hR (dall tdX6_stands 5 rfl) (by subst h; exact ⟨rfl, rfl⟩)
def fX6_stands (σ : OS) : Int64 := pX6_stands_0  σ
def gX6_stands (σ : OS) : Prop := oX6_stands_0  σ
set_option maxRecDepth 100000 in
theorem zX6_stands (cy : Nat → ClassId) (q : Nat → Nat)  {D : va_G} (σ : OS) (ok : gX6_stands σ )  : Con yX6_stands cX6_stands 1 (some .long) 1 0 0 D (gty cy) [.ref (q 41)] (wX6 cy q σ) (eL (wX6 cy q σ) (fX6_stands σ )) :=
  Con.of (own := RX6) (by decide +kernel) rfl (Nat.le_of_ble_eq_true rfl) (Nat.zero_le _) (fun X A C hR _ => (wX6_stands_0 σ C hR  ok rfl))
theorem mv_X6_stands : MV yX6_stands cX6_stands 1 (some .long) RX6 0 := ⟨ki_X6_stands, kv_X6_stands, kn_X6, kc_X6_stands, by decide +kernel⟩
def tbX6_byteAt : List (Nat × Instr × Nat) := [(0, .iload_n 1, 1), (1, .aload_n 0, 1), (2, .getfield 153, 3), (5, .if_icmp .ge 17, 3), (8, .aload_n 0, 1), (9, .getfield 13, 3), (12, .aload_n 0, 1), (13, .getfield 156, 3), (16, .iload_n 1, 1), (17, .iadd, 1), (18, .iaload, 1), (19, .goto 4, 3), (22, .iconst (-1), 1), (23, .ireturn, 1)]
theorem tdX6_byteAt : tbX6_byteAt.all (fun q => decide (decode cX6_byteAt q.1 = .ok q.2)) = true := by decide +kernel
def pX6_byteAt_0  (σ : OS) (a1_ : Int32) : Int32 := if (σ.1 20) ≤ a1_ then (-1) else σ.2.2.1 1 ((σ.1 19) + a1_).toNatClampNeg
def oX6_byteAt_0  (σ : OS) (a1_ : Int32) : Prop := ((σ.1 20) ≤ a1_ → True) ∧ (¬ ((σ.1 20) ≤ a1_) → vp_in ((σ.1 19) + a1_) 960)
set_option maxHeartbeats 4000000 in
set_option maxRecDepth 100000 in
theorem wX6_byteAt_0 {X : CX} {cy : Nat → ClassId} {q : Nat → Nat} {D : va_G} {A : Nat → Prop} {res : Int32} (σ : OS) (a1_ : Int32) (C : Cx X cX6_byteAt RX6 2 D (gty cy) A 0 0 0) (hR : Rt X (some .int) D (gty cy) A 0 0 (eI (wX6 cy q σ) res))  (ok : oX6_byteAt_0  σ a1_) (h : pX6_byteAt_0  σ a1_ = res) : At X D A 2 0 0 0 [(0, .ref (q 41)), (1, .int a1_)] [] (wX6 cy q σ) := by
  unfold pX6_byteAt_0 at h
  unfold oX6_byteAt_0 at ok
  refine r_iload_n C 1 (dall tdX6_byteAt 0 rfl) rfl ?_
  refine r_aload_n C 0 (dall tdX6_byteAt 1 rfl) rfl ?_
  refine r_get C 0 kw_X6 rfl rfl (by decide) kf_X6_153 rfl rfl (dall tdX6_byteAt 2 rfl) ?_
  refine r_icmp_ge (tgt := 22) C (dall tdX6_byteAt 3 rfl) (by decide) (fun c1 => ?_) (fun c1 => ?_)
  · have h := (if_pos c1).symm.trans h
    have ok := ok.1 c1
    refine r_iconst (v := -1) C (dall tdX6_byteAt 12 rfl) (by decide) ?_
    exact r_iret C hR (dall tdX6_byteAt 13 rfl) (by subst h; exact ⟨rfl, rfl⟩)
  · have h := (if_neg c1).symm.trans h
    have ok := ok.2 c1
    refine r_aload_n C 0 (dall tdX6_byteAt 4 rfl) rfl ?_
    refine r_get C 0 kw_X6 rfl rfl (by decide) kf_X6_13 rfl rfl (dall tdX6_byteAt 5 rfl) ?_
    refine r_aload_n C 0 (dall tdX6_byteAt 6 rfl) rfl ?_
    refine r_get C 0 kw_X6 rfl rfl (by decide) kf_X6_156 rfl rfl (dall tdX6_byteAt 7 rfl) ?_
    refine r_iload_n C 1 (dall tdX6_byteAt 8 rfl) rfl ?_
    refine r_iadd C (dall tdX6_byteAt 9 rfl) ?_
    have o2 := ok
    refine r_iald C 1 0 rfl rfl o2 (dall tdX6_byteAt 10 rfl) ?_
    refine r_goto (tgt := 23) C (dall tdX6_byteAt 11 rfl) (by decide) ?_
    exact r_iret C hR (dall tdX6_byteAt 13 rfl) (by subst h; exact ⟨rfl, rfl⟩)
def fX6_byteAt (σ : OS) (a1_ : Int32) : Int32 := pX6_byteAt_0  σ a1_
def gX6_byteAt (σ : OS) (a1_ : Int32) : Prop := oX6_byteAt_0  σ a1_
set_option maxRecDepth 100000 in
theorem zX6_byteAt (cy : Nat → ClassId) (q : Nat → Nat)  {D : va_G} (σ : OS) (a1_ : Int32) (ok : gX6_byteAt σ a1_)  : Con yX6_byteAt cX6_byteAt 2 (some .int) 0 0 0 D (gty cy) [.ref (q 41), .int a1_] (wX6 cy q σ) (eI (wX6 cy q σ) (fX6_byteAt σ a1_)) :=
  Con.of (own := RX6) (by decide +kernel) rfl (Nat.le_of_ble_eq_true rfl) (Nat.zero_le _) (fun X A C hR _ => (wX6_byteAt_0 σ a1_ C hR  ok rfl))
theorem mv_X6_byteAt : MV yX6_byteAt cX6_byteAt 2 (some .int) RX6 1 := ⟨ki_X6_byteAt, kv_X6_byteAt, kn_X6, kc_X6_byteAt, by decide +kernel⟩
def tbX6_next : List (Nat × Instr × Nat) := [(0, .aload_n 0, 1), (1, .aload_n 0, 1), (2, .getfield 159, 3), (5, .invokevirtual 162, 3), (8, .bipush 32, 2), (10, .if_icmp .eq 16, 3), (13, .aload_n 0, 1), (14, .aload_n 0, 1), (15, .getfield 159, 3), (18, .invokevirtual 162, 3), (21, .bipush 10, 2), (23, .if_icmp .ne 16, 3), (26, .aload_n 0, 1), (27, .dup, 1), (28, .getfield 159, 3), (31, .iconst 1, 1), (32, .iadd, 1), (33, .putfield 159, 3), (36, .goto (-36), 3), (39, .aload_n 0, 1), (40, .aload_n 0, 1), (41, .getfield 159, 3), (44, .putfield 165, 3), (47, .aload_n 0, 1), (48, .aload_n 0, 1), (49, .getfield 159, 3), (52, .invokevirtual 162, 3), (55, .istore_n 1, 1), (56, .aload_n 0, 1), (57, .iconst 4, 1), (58, .putfield 168, 3), (61, .iload_n 1, 1), (62, .ifCond .ge 19, 3), (65, .aload_n 0, 1), (66, .iconst 0, 1), (67, .putfield 168, 3), (70, .aload_n 0, 1), (71, .aload_n 0, 1), (72, .getfield 153, 3), (75, .putfield 165, 3), (78, .goto 243, 3), (81, .iload_n 1, 1), (82, .i2l, 1), (83, .ldc2_w 171, 3), (86, .ldc2_w 173, 3), (89, .invokestatic 74, 3), (92, .ifCond .eq 42, 3), (95, .aload_n 0, 1), (96, .iconst 1, 1), (97, .putfield 168, 3), (100, .aload_n 0, 1), (101, .aload_n 0, 1), (102, .getfield 159, 3), (105, .invokevirtual 162, 3), (108, .i2l, 1), (109, .ldc2_w 171, 3), (112, .ldc2_w 173, 3), (115, .invokestatic 74, 3), (118, .ifCond .eq 203, 3), (121, .aload_n 0, 1), (122, .dup, 1), (123, .getfield 159, 3), (126, .iconst 1, 1), (127, .iadd, 1), (128, .putfield 159, 3), (131, .goto (-31), 3), (134, .iload_n 1, 1), (135, .i2l, 1), (136, .ldc2_w 175, 3), (139, .ldc2_w 177, 3), (142, .invokestatic 74, 3), (145, .ifCond .eq 107, 3), (148, .aload_n 0, 1), (149, .iconst 2, 1), (150, .putfield 168, 3), (153, .aload_n 0, 1), (154, .lconst 0, 1), (155, .putfield 179, 3), (158, .iconst 0, 1), (159, .istore_n 2, 1), (160, .aload_n 0, 1), (161, .aload_n 0, 1), (162, .getfield 159, 3), (165, .invokevirtual 162, 3), (168, .i2l, 1), (169, .ldc2_w 175, 3), (172, .ldc2_w 177, 3), (175, .invokestatic 74, 3), (178, .ifCond .eq 57, 3), (181, .aload_n 0, 1), (182, .iload_n 2, 1), (183, .iconst 4, 1), (184, .if_icmp .ge 28, 3), (187, .ldc2_w 182, 3), (190, .aload_n 0, 1), (191, .getfield 179, 3), (194, .lmul, 1), (195, .aload_n 0, 1), (196, .aload_n 0, 1), (197, .getfield 159, 3), (200, .invokevirtual 162, 3), (203, .i2l, 1), (204, .ladd, 1), (205, .ldc2_w 175, 3), (208, .lsub, 1), (209, .goto 7, 3), (212, .aload_n 0, 1), (213, .getfield 179, 3), (216, .putfield 179, 3), (219, .iinc 2 1, 3), (222, .aload_n 0, 1), (223, .dup, 1), (224, .getfield 159, 3), (227, .iconst 1, 1), (228, .iadd, 1), (229, .putfield 159, 3), (232, .goto (-72), 3), (235, .aload_n 0, 1), (236, .iload_n 2, 1), (237, .iconst 4, 1), (238, .if_icmp .le 7, 3), (241, .iconst 4, 1), (242, .goto 4, 3), (245, .iconst 2, 1), (246, .putfield 168, 3), (249, .goto 72, 3), (252, .iload_n 1, 1), (253, .bipush 40, 2), (255, .if_icmp .eq 45, 3), (258, .iload_n 1, 1), (259, .bipush 41, 2), (261, .if_icmp .eq 39, 3), (264, .iload_n 1, 1), (265, .bipush 59, 2), (267, .if_icmp .eq 33, 3), (270, .iload_n 1, 1), (271, .bipush 43, 2), (273, .if_icmp .eq 27, 3), (276, .iload_n 1, 1), (277, .bipush 45, 2), (279, .if_icmp .eq 21, 3), (282, .iload_n 1, 1), (283, .bipush 42, 2), (285, .if_icmp .eq 15, 3), (288, .iload_n 1, 1), (289, .bipush 60, 2), (291, .if_icmp .eq 9, 3), (294, .iload_n 1, 1), (295, .bipush 61, 2), (297, .if_icmp .ne 24, 3), (300, .aload_n 0, 1), (301, .iconst 3, 1), (302, .putfield 168, 3), (305, .aload_n 0, 1), (306, .iload_n 1, 1), (307, .i2l, 1), (308, .putfield 179, 3), (311, .aload_n 0, 1), (312, .dup, 1), (313, .getfield 159, 3), (316, .iconst 1, 1), (317, .iadd, 1), (318, .putfield 159, 3), (321, .return_, 1)]
theorem tdX6_next : tbX6_next.all (fun q => decide (decode cX6_next q.1 = .ok q.2)) = true := by decide +kernel
def pX6_next_26 (kR0 : OS → OS) (σ : OS) : OS := kR0 (oI σ 21 ((σ.1 21) + 1))
def oX6_next_26 (kO0 : OS → Prop) (σ : OS) : Prop := kO0 (oI σ 21 ((σ.1 21) + 1))
set_option maxHeartbeats 4000000 in
set_option maxRecDepth 100000 in
theorem wX6_next_26 {X : CX} {cy : Nat → ClassId} {q : Nat → Nat} {D : va_G} {A : Nat → Prop} {res : OS} (σ : OS) (C : Cx X cX6_next RX6 3 D (gty cy) A 1 0 0) (hR : Rt X none D (gty cy) A 0 0 (eV (wX6 cy q res))) (kR0 : OS → OS) (kO0 : OS → Prop) (hk0 : ∀ z, kO0 z → kR0 z = res → At X D A 3 0 0 0 [(0, .ref (q 41))] [] (wX6 cy q z)) (ok : oX6_next_26 kO0 σ) (h : pX6_next_26 kR0 σ = res) : At X D A 3 0 0 26 [(0, .ref (q 41))] [] (wX6 cy q σ) := by
  unfold pX6_next_26 at h
  unfold oX6_next_26 at ok
  refine r_aload_n C 0 (dall tdX6_next 12 rfl) rfl ?_
  refine r_dup C (dall tdX6_next 13 rfl) rfl ?_
  refine r_get C 0 kw_X6 rfl rfl (by decide) kf_X6_159 rfl rfl (dall tdX6_next 14 rfl) ?_
  refine r_iconst (v := 1) C (dall tdX6_next 15 rfl) (by decide) ?_
  refine r_iadd C (dall tdX6_next 16 rfl) ?_
  refine r_put C 0 kw_X6 tyX6_ok nmX6 rfl rfl (by decide) kf_X6_159 rfl rfl rfl rfl rfl (Nat.le_of_ble_eq_true rfl) (pu_X6_this_21 cy q σ ((σ.1 21) + 1)) (dall tdX6_next 17 rfl) ?_
  refine r_goto (tgt := 0) C (dall tdX6_next 18 rfl) (by decide) ?_
  exact hk0 (oI σ 21 ((σ.1 21) + 1)) ok h
def pX6_next_300  (σ : OS) (a1_ : Int32) : OS := oI (oL (oI σ 22 3) 24 a1_.toInt64) 21 (((oL (oI σ 22 3) 24 a1_.toInt64).1 21) + 1)
set_option maxHeartbeats 4000000 in
set_option maxRecDepth 100000 in
theorem wX6_next_300 {X : CX} {cy : Nat → ClassId} {q : Nat → Nat} {D : va_G} {A : Nat → Prop} {res : OS} (σ : OS) (a1_ : Int32) (C : Cx X cX6_next RX6 3 D (gty cy) A 1 0 0) (hR : Rt X none D (gty cy) A 0 0 (eV (wX6 cy q res)))  (h : pX6_next_300  σ a1_ = res) : At X D A 3 0 0 300 [(0, .ref (q 41)), (1, .int a1_)] [] (wX6 cy q σ) := by
  unfold pX6_next_300 at h
  refine r_aload_n C 0 (dall tdX6_next 150 rfl) rfl ?_
  refine r_iconst (v := 3) C (dall tdX6_next 151 rfl) (by decide) ?_
  refine r_put C 0 kw_X6 tyX6_ok nmX6 rfl rfl (by decide) kf_X6_168 rfl rfl rfl rfl rfl (Nat.le_of_ble_eq_true rfl) (pu_X6_this_22 cy q σ 3) (dall tdX6_next 152 rfl) ?_
  refine r_aload_n C 0 (dall tdX6_next 153 rfl) rfl ?_
  refine r_iload_n C 1 (dall tdX6_next 154 rfl) rfl ?_
  refine r_i2l C (dall tdX6_next 155 rfl) ?_
  refine r_put C 0 kw_X6 tyX6_ok nmX6 rfl rfl (by decide) kf_X6_179 rfl rfl rfl rfl rfl (Nat.le_of_ble_eq_true rfl) (pu_X6_this_24 cy q (oI σ 22 3) a1_.toInt64) (dall tdX6_next 156 rfl) ?_
  refine r_aload_n C 0 (dall tdX6_next 157 rfl) rfl ?_
  refine r_dup C (dall tdX6_next 158 rfl) rfl ?_
  refine r_get C 0 kw_X6 rfl rfl (by decide) kf_X6_159 rfl rfl (dall tdX6_next 159 rfl) ?_
  refine r_iconst (v := 1) C (dall tdX6_next 160 rfl) (by decide) ?_
  refine r_iadd C (dall tdX6_next 161 rfl) ?_
  refine r_put C 0 kw_X6 tyX6_ok nmX6 rfl rfl (by decide) kf_X6_159 rfl rfl rfl rfl rfl (Nat.le_of_ble_eq_true rfl) (pu_X6_this_21 cy q (oL (oI σ 22 3) 24 a1_.toInt64) (((oL (oI σ 22 3) 24 a1_.toInt64).1 21) + 1)) (dall tdX6_next 162 rfl) ?_
  exact r_vret C hR (dall tdX6_next 163 rfl) (by subst h; exact ⟨rfl, rfl⟩)
def pX6_next_246  (σ : OS) (b0_ : Int32) : OS := oI σ 22 b0_
set_option maxHeartbeats 4000000 in
set_option maxRecDepth 100000 in
theorem wX6_next_246 {X : CX} {cy : Nat → ClassId} {q : Nat → Nat} {D : va_G} {A : Nat → Prop} {res : OS} (σ : OS) (b0_ : Int32) (C : Cx X cX6_next RX6 3 D (gty cy) A 1 0 0) (hR : Rt X none D (gty cy) A 0 0 (eV (wX6 cy q res)))  (h : pX6_next_246  σ b0_ = res) : At X D A 3 0 0 246 [] [.int b0_, .ref (q 41)] (wX6 cy q σ) := by
  unfold pX6_next_246 at h
  refine r_put C 0 kw_X6 tyX6_ok nmX6 rfl rfl (by decide) kf_X6_168 rfl rfl rfl rfl rfl (Nat.le_of_ble_eq_true rfl) (pu_X6_this_22 cy q σ b0_) (dall tdX6_next 124 rfl) ?_
  refine r_goto (tgt := 321) C (dall tdX6_next 125 rfl) (by decide) ?_
  exact r_vret C hR (dall tdX6_next 163 rfl) (by subst h; exact ⟨rfl, rfl⟩)
def pX6_next_216 (kR160 : OS × Int32 → OS) (σ : OS) (a2_ : Int32) (b0_ : Int64) : OS := kR160 (oI (oL σ 24 b0_) 21 (((oL σ 24 b0_).1 21) + 1), a2_ + 1)
def oX6_next_216 (kO160 : OS × Int32 → Prop) (σ : OS) (a2_ : Int32) (b0_ : Int64) : Prop := kO160 (oI (oL σ 24 b0_) 21 (((oL σ 24 b0_).1 21) + 1), a2_ + 1)
set_option maxHeartbeats 4000000 in
set_option maxRecDepth 100000 in
theorem wX6_next_216 {X : CX} {cy : Nat → ClassId} {q : Nat → Nat} {D : va_G} {A : Nat → Prop} {res : OS} (σ : OS) (a2_ : Int32) (b0_ : Int64) (C : Cx X cX6_next RX6 3 D (gty cy) A 1 0 0) (hR : Rt X none D (gty cy) A 0 0 (eV (wX6 cy q res))) (kR160 : OS × Int32 → OS) (kO160 : OS × Int32 → Prop) (hk160 : ∀ z, kO160 z → kR160 z = res → At X D A 3 0 0 160 [(0, .ref (q 41)), (2, .int z.2)] [] (wX6 cy q z.1)) (ok : oX6_next_216 kO160 σ a2_ b0_) (h : pX6_next_216 kR160 σ a2_ b0_ = res) : At X D A 3 0 0 216 [(0, .ref (q 41)), (2, .int a2_)] [.long b0_, .ref (q 41)] (wX6 cy q σ) := by
  unfold pX6_next_216 at h
  unfold oX6_next_216 at ok
  refine r_put C 0 kw_X6 tyX6_ok nmX6 rfl rfl (by decide) kf_X6_179 rfl rfl rfl rfl rfl (Nat.le_of_ble_eq_true rfl) (pu_X6_this_24 cy q σ b0_) (dall tdX6_next 108 rfl) ?_
  refine r_iinc (v := a2_ + 1) (lv' := [(2, .int (a2_ + 1)), (0, .ref (q 41))]) C 1 (dall tdX6_next 109 rfl) rfl rfl (by decide) rfl ?_
  refine r_aload_n C 1 (dall tdX6_next 110 rfl) rfl ?_
  refine r_dup C (dall tdX6_next 111 rfl) rfl ?_
  refine r_get C 0 kw_X6 rfl rfl (by decide) kf_X6_159 rfl rfl (dall tdX6_next 112 rfl) ?_
  refine r_iconst (v := 1) C (dall tdX6_next 113 rfl) (by decide) ?_
  refine r_iadd C (dall tdX6_next 114 rfl) ?_
  refine r_put C 0 kw_X6 tyX6_ok nmX6 rfl rfl (by decide) kf_X6_159 rfl rfl rfl rfl rfl (Nat.le_of_ble_eq_true rfl) (pu_X6_this_21 cy q (oL σ 24 b0_) (((oL σ 24 b0_).1 21) + 1)) (dall tdX6_next 115 rfl) ?_
  refine r_goto (tgt := 160) C (dall tdX6_next 116 rfl) (by decide) ?_
  refine r_pick [1, 0] rfl ?_
  exact hk160 (oI (oL σ 24 b0_) 21 (((oL σ 24 b0_).1 21) + 1), a2_ + 1) ok h
def bX6_next_160   (kR160 : OS × Int32 → OS) (v : OS × Int32) : OS := if (fX6_in ((fX6_byteAt v.1 (v.1.1 21)).toInt64) (48) (57)) = 0 then if v.2 ≤ 4 then pX6_next_246  v.1 2 else pX6_next_246  v.1 4 else if 4 ≤ v.2 then pX6_next_216 kR160 v.1 v.2 (v.1.2.1 24) else pX6_next_216 kR160 v.1 v.2 ((((10) * (v.1.2.1 24)) + ((fX6_byteAt v.1 (v.1.1 21)).toInt64)) - (48))
def kX6_next_160   (kO160 : OS × Int32 → Prop) (v : OS × Int32) : Prop := (gX6_byteAt v.1 (v.1.1 21)) ∧ (((fX6_in ((fX6_byteAt v.1 (v.1.1 21)).toInt64) (48) (57)) = 0 → True) ∧ (¬ ((fX6_in ((fX6_byteAt v.1 (v.1.1 21)).toInt64) (48) (57)) = 0) → (4 ≤ v.2 → oX6_next_216 kO160 v.1 v.2 (v.1.2.1 24)) ∧ (¬ (4 ≤ v.2) → (gX6_byteAt v.1 (v.1.1 21)) ∧ (oX6_next_216 kO160 v.1 v.2 ((((10) * (v.1.2.1 24)) + ((fX6_byteAt v.1 (v.1.1 21)).toInt64)) - (48))))))
set_option maxHeartbeats 4000000 in
set_option maxRecDepth 100000 in
theorem wX6_next_160 {X : CX} {cy : Nat → ClassId} {q : Nat → Nat} {D : va_G} {A : Nat → Prop} {res : OS}  (C : Cx X cX6_next RX6 3 D (gty cy) A 1 0 0) (hR : Rt X none D (gty cy) A 0 0 (eV (wX6 cy q res))) (kR160 : OS × Int32 → OS) (kO160 : OS × Int32 → Prop) (hk160 : ∀ z, kO160 z → kR160 z = res → At X D A 3 0 0 160 [(0, .ref (q 41)), (2, .int z.2)] [] (wX6 cy q z.1)) (v : OS × Int32) (ok : kX6_next_160  kO160 v) (h : bX6_next_160  kR160 v = res) : At X D A 3 0 0 160 [(0, .ref (q 41)), (2, .int v.2)] [] (wX6 cy q v.1) := by
  unfold bX6_next_160 at h
  unfold kX6_next_160 at ok
  refine r_aload_n C 0 (dall tdX6_next 80 rfl) rfl ?_
  refine r_aload_n C 0 (dall tdX6_next 81 rfl) rfl ?_
  refine r_get C 0 kw_X6 rfl rfl (by decide) kf_X6_159 rfl rfl (dall tdX6_next 82 rfl) ?_
  obtain ⟨o1, ok⟩ := ok
  refine r_vI (as := [.int (v.1.1 21)]) C (zX6_byteAt cy q v.1 (v.1.1 21) o1) mv_X6_byteAt km_X6_162 (by decide) (by decide) ⟨Nat.le_refl _, Nat.le_refl _⟩ rfl rfl rfl rfl (Nat.le_of_ble_eq_true rfl) (dall tdX6_next 83 rfl) ?_
  refine r_i2l C (dall tdX6_next 84 rfl) ?_
  refine r_ldc2 C kk_X6_175 (dall tdX6_next 85 rfl) ?_
  refine r_ldc2 C kk_X6_177 (dall tdX6_next 86 rfl) ?_
  refine r_s0I (as := [.long ((fX6_byteAt v.1 (v.1.1 21)).toInt64), .long (48), .long (57)]) C (zX6_in ((fX6_byteAt v.1 (v.1.1 21)).toInt64) (48) (57) ) ms_X6_in km_X6_74 (by decide) (by decide) ⟨Nat.le_refl _, Nat.le_refl _⟩ rfl rfl (Nat.le_of_ble_eq_true rfl) (dall tdX6_next 87 rfl) ?_
  refine r_if_eq (tgt := 235) C (dall tdX6_next 88 rfl) (by decide) (fun c2 => ?_) (fun c2 => ?_)
  · have h := (if_pos c2).symm.trans h
    have ok := ok.1 c2
    refine r_aload_n C 0 (dall tdX6_next 117 rfl) rfl ?_
    refine r_iload_n C 1 (dall tdX6_next 118 rfl) rfl ?_
    refine r_iconst (v := 4) C (dall tdX6_next 119 rfl) (by decide) ?_
    refine r_icmp_le (tgt := 245) C (dall tdX6_next 120 rfl) (by decide) (fun c3 => ?_) (fun c3 => ?_)
    · have h := (if_pos c3).symm.trans h
      refine r_iconst (v := 2) C (dall tdX6_next 123 rfl) (by decide) ?_
      refine r_pick [] rfl ?_
      exact wX6_next_246 v.1 2 C hR  h
    · have h := (if_neg c3).symm.trans h
      refine r_iconst (v := 4) C (dall tdX6_next 121 rfl) (by decide) ?_
      refine r_goto (tgt := 246) C (dall tdX6_next 122 rfl) (by decide) ?_
      refine r_pick [] rfl ?_
      exact wX6_next_246 v.1 4 C hR  h
  · have h := (if_neg c2).symm.trans h
    have ok := ok.2 c2
    refine r_aload_n C 0 (dall tdX6_next 89 rfl) rfl ?_
    refine r_iload_n C 1 (dall tdX6_next 90 rfl) rfl ?_
    refine r_iconst (v := 4) C (dall tdX6_next 91 rfl) (by decide) ?_
    refine r_icmp_ge (tgt := 212) C (dall tdX6_next 92 rfl) (by decide) (fun c4 => ?_) (fun c4 => ?_)
    · have h := (if_pos c4).symm.trans h
      have ok := ok.1 c4
      refine r_aload_n C 0 (dall tdX6_next 106 rfl) rfl ?_
      refine r_get C 0 kw_X6 rfl rfl (by decide) kf_X6_179 rfl rfl (dall tdX6_next 107 rfl) ?_
      exact wX6_next_216 v.1 v.2 (v.1.2.1 24) C hR kR160 kO160 hk160 ok h
    · have h := (if_neg c4).symm.trans h
      have ok := ok.2 c4
      refine r_ldc2 C kk_X6_182 (dall tdX6_next 93 rfl) ?_
      refine r_aload_n C 0 (dall tdX6_next 94 rfl) rfl ?_
      refine r_get C 0 kw_X6 rfl rfl (by decide) kf_X6_179 rfl rfl (dall tdX6_next 95 rfl) ?_
      refine r_lmul C (dall tdX6_next 96 rfl) ?_
      refine r_aload_n C 0 (dall tdX6_next 97 rfl) rfl ?_
      refine r_aload_n C 0 (dall tdX6_next 98 rfl) rfl ?_
      refine r_get C 0 kw_X6 rfl rfl (by decide) kf_X6_159 rfl rfl (dall tdX6_next 99 rfl) ?_
      obtain ⟨o5, ok⟩ := ok
      refine r_vI (as := [.int (v.1.1 21)]) C (zX6_byteAt cy q v.1 (v.1.1 21) o5) mv_X6_byteAt km_X6_162 (by decide) (by decide) ⟨Nat.le_refl _, Nat.le_refl _⟩ rfl rfl rfl rfl (Nat.le_of_ble_eq_true rfl) (dall tdX6_next 100 rfl) ?_
      refine r_i2l C (dall tdX6_next 101 rfl) ?_
      refine r_ladd C (dall tdX6_next 102 rfl) ?_
      refine r_ldc2 C kk_X6_175 (dall tdX6_next 103 rfl) ?_
      refine r_lsub C (dall tdX6_next 104 rfl) ?_
      refine r_goto (tgt := 216) C (dall tdX6_next 105 rfl) (by decide) ?_
      exact wX6_next_216 v.1 v.2 ((((10) * (v.1.2.1 24)) + ((fX6_byteAt v.1 (v.1.1 21)).toInt64)) - (48)) C hR kR160 kO160 hk160 ok h
set_option maxHeartbeats 4000000 in
set_option maxRecDepth 100000 in
theorem lX6_next_160 {X : CX} {cy : Nat → ClassId} {q : Nat → Nat} {D : va_G} {A : Nat → Prop} {res : OS}  (C : Cx X cX6_next RX6 3 D (gty cy) A 1 0 0) (hR : Rt X none D (gty cy) A 0 0 (eV (wX6 cy q res)))  (n : Nat) (v : OS × Int32) (ok : lpOk (kX6_next_160  ) n v) (h : lp o0 (bX6_next_160  ) n v = res) : At X D A 3 0 0 160 [(0, .ref (q 41)), (2, .int v.2)] [] (wX6 cy q v.1) :=
  lp_rule (fun v rr_ => rr_ = res → At X D A 3 0 0 160 [(0, .ref (q 41)), (2, .int v.2)] [] (wX6 cy q v.1)) (fun kR kO hk v ok h => wX6_next_160  C hR  kR kO hk v ok h) n v ok h
def bX6_next_100   (kR100 : OS → OS) (v : OS) : OS := if (fX6_in ((fX6_byteAt v (v.1 21)).toInt64) (97) (122)) = 0 then v else kR100 (oI v 21 ((v.1 21) + 1))
def kX6_next_100   (kO100 : OS → Prop) (v : OS) : Prop := (gX6_byteAt v (v.1 21)) ∧ (((fX6_in ((fX6_byteAt v (v.1 21)).toInt64) (97) (122)) = 0 → True) ∧ (¬ ((fX6_in ((fX6_byteAt v (v.1 21)).toInt64) (97) (122)) = 0) → kO100 (oI v 21 ((v.1 21) + 1))))
set_option maxHeartbeats 4000000 in
set_option maxRecDepth 100000 in
theorem wX6_next_100 {X : CX} {cy : Nat → ClassId} {q : Nat → Nat} {D : va_G} {A : Nat → Prop} {res : OS}  (C : Cx X cX6_next RX6 3 D (gty cy) A 1 0 0) (hR : Rt X none D (gty cy) A 0 0 (eV (wX6 cy q res))) (kR100 : OS → OS) (kO100 : OS → Prop) (hk100 : ∀ z, kO100 z → kR100 z = res → At X D A 3 0 0 100 [(0, .ref (q 41))] [] (wX6 cy q z)) (v : OS) (ok : kX6_next_100  kO100 v) (h : bX6_next_100  kR100 v = res) : At X D A 3 0 0 100 [(0, .ref (q 41))] [] (wX6 cy q v) := by
  unfold bX6_next_100 at h
  unfold kX6_next_100 at ok
  refine r_aload_n C 0 (dall tdX6_next 50 rfl) rfl ?_
  refine r_aload_n C 0 (dall tdX6_next 51 rfl) rfl ?_
  refine r_get C 0 kw_X6 rfl rfl (by decide) kf_X6_159 rfl rfl (dall tdX6_next 52 rfl) ?_
  obtain ⟨o6, ok⟩ := ok
  refine r_vI (as := [.int (v.1 21)]) C (zX6_byteAt cy q v (v.1 21) o6) mv_X6_byteAt km_X6_162 (by decide) (by decide) ⟨Nat.le_refl _, Nat.le_refl _⟩ rfl rfl rfl rfl (Nat.le_of_ble_eq_true rfl) (dall tdX6_next 53 rfl) ?_
  refine r_i2l C (dall tdX6_next 54 rfl) ?_
  refine r_ldc2 C kk_X6_171 (dall tdX6_next 55 rfl) ?_
  refine r_ldc2 C kk_X6_173 (dall tdX6_next 56 rfl) ?_
  refine r_s0I (as := [.long ((fX6_byteAt v (v.1 21)).toInt64), .long (97), .long (122)]) C (zX6_in ((fX6_byteAt v (v.1 21)).toInt64) (97) (122) ) ms_X6_in km_X6_74 (by decide) (by decide) ⟨Nat.le_refl _, Nat.le_refl _⟩ rfl rfl (Nat.le_of_ble_eq_true rfl) (dall tdX6_next 57 rfl) ?_
  refine r_if_eq (tgt := 321) C (dall tdX6_next 58 rfl) (by decide) (fun c7 => ?_) (fun c7 => ?_)
  · have h := (if_pos c7).symm.trans h
    have ok := ok.1 c7
    exact r_vret C hR (dall tdX6_next 163 rfl) (by subst h; exact ⟨rfl, rfl⟩)
  · have h := (if_neg c7).symm.trans h
    have ok := ok.2 c7
    refine r_aload_n C 0 (dall tdX6_next 59 rfl) rfl ?_
    refine r_dup C (dall tdX6_next 60 rfl) rfl ?_
    refine r_get C 0 kw_X6 rfl rfl (by decide) kf_X6_159 rfl rfl (dall tdX6_next 61 rfl) ?_
    refine r_iconst (v := 1) C (dall tdX6_next 62 rfl) (by decide) ?_
    refine r_iadd C (dall tdX6_next 63 rfl) ?_
    refine r_put C 0 kw_X6 tyX6_ok nmX6 rfl rfl (by decide) kf_X6_159 rfl rfl rfl rfl rfl (Nat.le_of_ble_eq_true rfl) (pu_X6_this_21 cy q v ((v.1 21) + 1)) (dall tdX6_next 64 rfl) ?_
    refine r_goto (tgt := 100) C (dall tdX6_next 65 rfl) (by decide) ?_
    exact hk100 (oI v 21 ((v.1 21) + 1)) ok h
set_option maxHeartbeats 4000000 in
set_option maxRecDepth 100000 in
theorem lX6_next_100 {X : CX} {cy : Nat → ClassId} {q : Nat → Nat} {D : va_G} {A : Nat → Prop} {res : OS}  (C : Cx X cX6_next RX6 3 D (gty cy) A 1 0 0) (hR : Rt X none D (gty cy) A 0 0 (eV (wX6 cy q res)))  (n : Nat) (v : OS) (ok : lpOk (kX6_next_100  ) n v) (h : lp o0 (bX6_next_100  ) n v = res) : At X D A 3 0 0 100 [(0, .ref (q 41))] [] (wX6 cy q v) :=
  lp_rule (fun v rr_ => rr_ = res → At X D A 3 0 0 100 [(0, .ref (q 41))] [] (wX6 cy q v)) (fun kR kO hk v ok h => wX6_next_100  C hR  kR kO hk v ok h) n v ok h
def bX6_next_0   (kR0 : OS → OS) (v : OS) : OS := if (fX6_byteAt v (v.1 21)) = 32 then pX6_next_26 kR0 v else if (fX6_byteAt v (v.1 21)) = 10 then pX6_next_26 kR0 v else if 0 ≤ (fX6_byteAt (oI v 23 (v.1 21)) ((oI v 23 (v.1 21)).1 21)) then if (fX6_in ((fX6_byteAt (oI v 23 (v.1 21)) ((oI v 23 (v.1 21)).1 21)).toInt64) (97) (122)) = 0 then if (fX6_in ((fX6_byteAt (oI v 23 (v.1 21)) ((oI v 23 (v.1 21)).1 21)).toInt64) (48) (57)) = 0 then if (fX6_byteAt (oI v 23 (v.1 21)) ((oI v 23 (v.1 21)).1 21)) = 40 then pX6_next_300  (oI (oI v 23 (v.1 21)) 22 4) (fX6_byteAt (oI v 23 (v.1 21)) ((oI v 23 (v.1 21)).1 21)) else if (fX6_byteAt (oI v 23 (v.1 21)) ((oI v 23 (v.1 21)).1 21)) = 41 then pX6_next_300  (oI (oI v 23 (v.1 21)) 22 4) (fX6_byteAt (oI v 23 (v.1 21)) ((oI v 23 (v.1 21)).1 21)) else if (fX6_byteAt (oI v 23 (v.1 21)) ((oI v 23 (v.1 21)).1 21)) = 59 then pX6_next_300  (oI (oI v 23 (v.1 21)) 22 4) (fX6_byteAt (oI v 23 (v.1 21)) ((oI v 23 (v.1 21)).1 21)) else if (fX6_byteAt (oI v 23 (v.1 21)) ((oI v 23 (v.1 21)).1 21)) = 43 then pX6_next_300  (oI (oI v 23 (v.1 21)) 22 4) (fX6_byteAt (oI v 23 (v.1 21)) ((oI v 23 (v.1 21)).1 21)) else if (fX6_byteAt (oI v 23 (v.1 21)) ((oI v 23 (v.1 21)).1 21)) = 45 then pX6_next_300  (oI (oI v 23 (v.1 21)) 22 4) (fX6_byteAt (oI v 23 (v.1 21)) ((oI v 23 (v.1 21)).1 21)) else if (fX6_byteAt (oI v 23 (v.1 21)) ((oI v 23 (v.1 21)).1 21)) = 42 then pX6_next_300  (oI (oI v 23 (v.1 21)) 22 4) (fX6_byteAt (oI v 23 (v.1 21)) ((oI v 23 (v.1 21)).1 21)) else if (fX6_byteAt (oI v 23 (v.1 21)) ((oI v 23 (v.1 21)).1 21)) = 60 then pX6_next_300  (oI (oI v 23 (v.1 21)) 22 4) (fX6_byteAt (oI v 23 (v.1 21)) ((oI v 23 (v.1 21)).1 21)) else if (fX6_byteAt (oI v 23 (v.1 21)) ((oI v 23 (v.1 21)).1 21)) = 61 then pX6_next_300  (oI (oI v 23 (v.1 21)) 22 4) (fX6_byteAt (oI v 23 (v.1 21)) ((oI v 23 (v.1 21)).1 21)) else oI (oI v 23 (v.1 21)) 22 4 else lp o0 (bX6_next_160  ) fu (oL (oI (oI (oI v 23 (v.1 21)) 22 4) 22 2) 24 0, 0) else lp o0 (bX6_next_100  ) fu (oI (oI (oI v 23 (v.1 21)) 22 4) 22 1) else oI (oI (oI (oI v 23 (v.1 21)) 22 4) 22 0) 23 ((oI (oI (oI v 23 (v.1 21)) 22 4) 22 0).1 20)
def kX6_next_0   (kO0 : OS → Prop) (v : OS) : Prop := (gX6_byteAt v (v.1 21)) ∧ (((fX6_byteAt v (v.1 21)) = 32 → oX6_next_26 kO0 v) ∧ (¬ ((fX6_byteAt v (v.1 21)) = 32) → (gX6_byteAt v (v.1 21)) ∧ (((fX6_byteAt v (v.1 21)) = 10 → oX6_next_26 kO0 v) ∧ (¬ ((fX6_byteAt v (v.1 21)) = 10) → (gX6_byteAt (oI v 23 (v.1 21)) ((oI v 23 (v.1 21)).1 21)) ∧ ((0 ≤ (fX6_byteAt (oI v 23 (v.1 21)) ((oI v 23 (v.1 21)).1 21)) → ((fX6_in ((fX6_byteAt (oI v 23 (v.1 21)) ((oI v 23 (v.1 21)).1 21)).toInt64) (97) (122)) = 0 → ((fX6_in ((fX6_byteAt (oI v 23 (v.1 21)) ((oI v 23 (v.1 21)).1 21)).toInt64) (48) (57)) = 0 → True) ∧ (¬ ((fX6_in ((fX6_byteAt (oI v 23 (v.1 21)) ((oI v 23 (v.1 21)).1 21)).toInt64) (48) (57)) = 0) → lpOk (kX6_next_160  ) fu (oL (oI (oI (oI v 23 (v.1 21)) 22 4) 22 2) 24 0, 0))) ∧ (¬ ((fX6_in ((fX6_byteAt (oI v 23 (v.1 21)) ((oI v 23 (v.1 21)).1 21)).toInt64) (97) (122)) = 0) → lpOk (kX6_next_100  ) fu (oI (oI (oI v 23 (v.1 21)) 22 4) 22 1))) ∧ (¬ (0 ≤ (fX6_byteAt (oI v 23 (v.1 21)) ((oI v 23 (v.1 21)).1 21))) → True))))))
set_option maxHeartbeats 4000000 in
set_option maxRecDepth 100000 in
theorem wX6_next_0 {X : CX} {cy : Nat → ClassId} {q : Nat → Nat} {D : va_G} {A : Nat → Prop} {res : OS}  (C : Cx X cX6_next RX6 3 D (gty cy) A 1 0 0) (hR : Rt X none D (gty cy) A 0 0 (eV (wX6 cy q res))) (kR0 : OS → OS) (kO0 : OS → Prop) (hk0 : ∀ z, kO0 z → kR0 z = res → At X D A 3 0 0 0 [(0, .ref (q 41))] [] (wX6 cy q z)) (v : OS) (ok : kX6_next_0  kO0 v) (h : bX6_next_0  kR0 v = res) : At X D A 3 0 0 0 [(0, .ref (q 41))] [] (wX6 cy q v) := by
  unfold bX6_next_0 at h
  unfold kX6_next_0 at ok
  refine r_aload_n C 0 (dall tdX6_next 0 rfl) rfl ?_
  refine r_aload_n C 0 (dall tdX6_next 1 rfl) rfl ?_
  refine r_get C 0 kw_X6 rfl rfl (by decide) kf_X6_159 rfl rfl (dall tdX6_next 2 rfl) ?_
  obtain ⟨o8, ok⟩ := ok
  refine r_vI (as := [.int (v.1 21)]) C (zX6_byteAt cy q v (v.1 21) o8) mv_X6_byteAt km_X6_162 (by decide) (by decide) ⟨Nat.le_refl _, Nat.le_refl _⟩ rfl rfl rfl rfl (Nat.le_of_ble_eq_true rfl) (dall tdX6_next 3 rfl) ?_
  refine r_bipush (v := 32) C (dall tdX6_next 4 rfl) (by decide) ?_
  refine r_icmp_eq (tgt := 26) C (dall tdX6_next 5 rfl) (by decide) (fun c9 => ?_) (fun c9 => ?_)
  · have h := (if_pos c9).symm.trans h
    have ok := ok.1 c9
    exact wX6_next_26 v C hR kR0 kO0 hk0 ok h
  · have h := (if_neg c9).symm.trans h
    have ok := ok.2 c9
    refine r_aload_n C 0 (dall tdX6_next 6 rfl) rfl ?_
    refine r_aload_n C 0 (dall tdX6_next 7 rfl) rfl ?_
    refine r_get C 0 kw_X6 rfl rfl (by decide) kf_X6_159 rfl rfl (dall tdX6_next 8 rfl) ?_
    obtain ⟨o10, ok⟩ := ok
    refine r_vI (as := [.int (v.1 21)]) C (zX6_byteAt cy q v (v.1 21) o10) mv_X6_byteAt km_X6_162 (by decide) (by decide) ⟨Nat.le_refl _, Nat.le_refl _⟩ rfl rfl rfl rfl (Nat.le_of_ble_eq_true rfl) (dall tdX6_next 9 rfl) ?_
    refine r_bipush (v := 10) C (dall tdX6_next 10 rfl) (by decide) ?_
    refine r_icmp_ne (tgt := 39) C (dall tdX6_next 11 rfl) (by decide) (fun c11 => ?_) (fun c11 => ?_)
    · have h := (if_neg c11).symm.trans h
      have ok := ok.2 c11
      refine r_aload_n C 0 (dall tdX6_next 19 rfl) rfl ?_
      refine r_aload_n C 0 (dall tdX6_next 20 rfl) rfl ?_
      refine r_get C 0 kw_X6 rfl rfl (by decide) kf_X6_159 rfl rfl (dall tdX6_next 21 rfl) ?_
      refine r_put C 0 kw_X6 tyX6_ok nmX6 rfl rfl (by decide) kf_X6_165 rfl rfl rfl rfl rfl (Nat.le_of_ble_eq_true rfl) (pu_X6_this_23 cy q v (v.1 21)) (dall tdX6_next 22 rfl) ?_
      refine r_aload_n C 0 (dall tdX6_next 23 rfl) rfl ?_
      refine r_aload_n C 0 (dall tdX6_next 24 rfl) rfl ?_
      refine r_get C 0 kw_X6 rfl rfl (by decide) kf_X6_159 rfl rfl (dall tdX6_next 25 rfl) ?_
      obtain ⟨o12, ok⟩ := ok
      refine r_vI (as := [.int ((oI v 23 (v.1 21)).1 21)]) C (zX6_byteAt cy q (oI v 23 (v.1 21)) ((oI v 23 (v.1 21)).1 21) o12) mv_X6_byteAt km_X6_162 (by decide) (by decide) ⟨Nat.le_refl _, Nat.le_refl _⟩ rfl rfl rfl rfl (Nat.le_of_ble_eq_true rfl) (dall tdX6_next 26 rfl) ?_
      refine r_istore_n (lv' := [(1, .int (fX6_byteAt (oI v 23 (v.1 21)) ((oI v 23 (v.1 21)).1 21))), (0, .ref (q 41))]) C (dall tdX6_next 27 rfl) (by decide) rfl ?_
      refine r_aload_n C 1 (dall tdX6_next 28 rfl) rfl ?_
      refine r_iconst (v := 4) C (dall tdX6_next 29 rfl) (by decide) ?_
      refine r_put C 0 kw_X6 tyX6_ok nmX6 rfl rfl (by decide) kf_X6_168 rfl rfl rfl rfl rfl (Nat.le_of_ble_eq_true rfl) (pu_X6_this_22 cy q (oI v 23 (v.1 21)) 4) (dall tdX6_next 30 rfl) ?_
      refine r_iload_n C 0 (dall tdX6_next 31 rfl) rfl ?_
      refine r_if_ge (tgt := 81) C (dall tdX6_next 32 rfl) (by decide) (fun c13 => ?_) (fun c13 => ?_)
      · have h := (if_pos c13).symm.trans h
        have ok := ok.1 c13
        refine r_iload_n C 0 (dall tdX6_next 41 rfl) rfl ?_
        refine r_i2l C (dall tdX6_next 42 rfl) ?_
        refine r_ldc2 C kk_X6_171 (dall tdX6_next 43 rfl) ?_
        refine r_ldc2 C kk_X6_173 (dall tdX6_next 44 rfl) ?_
        refine r_s0I (as := [.long ((fX6_byteAt (oI v 23 (v.1 21)) ((oI v 23 (v.1 21)).1 21)).toInt64), .long (97), .long (122)]) C (zX6_in ((fX6_byteAt (oI v 23 (v.1 21)) ((oI v 23 (v.1 21)).1 21)).toInt64) (97) (122) ) ms_X6_in km_X6_74 (by decide) (by decide) ⟨Nat.le_refl _, Nat.le_refl _⟩ rfl rfl (Nat.le_of_ble_eq_true rfl) (dall tdX6_next 45 rfl) ?_
        refine r_if_eq (tgt := 134) C (dall tdX6_next 46 rfl) (by decide) (fun c14 => ?_) (fun c14 => ?_)
        · have h := (if_pos c14).symm.trans h
          have ok := ok.1 c14
          refine r_iload_n C 0 (dall tdX6_next 66 rfl) rfl ?_
          refine r_i2l C (dall tdX6_next 67 rfl) ?_
          refine r_ldc2 C kk_X6_175 (dall tdX6_next 68 rfl) ?_
          refine r_ldc2 C kk_X6_177 (dall tdX6_next 69 rfl) ?_
          refine r_s0I (as := [.long ((fX6_byteAt (oI v 23 (v.1 21)) ((oI v 23 (v.1 21)).1 21)).toInt64), .long (48), .long (57)]) C (zX6_in ((fX6_byteAt (oI v 23 (v.1 21)) ((oI v 23 (v.1 21)).1 21)).toInt64) (48) (57) ) ms_X6_in km_X6_74 (by decide) (by decide) ⟨Nat.le_refl _, Nat.le_refl _⟩ rfl rfl (Nat.le_of_ble_eq_true rfl) (dall tdX6_next 70 rfl) ?_
          refine r_if_eq (tgt := 252) C (dall tdX6_next 71 rfl) (by decide) (fun c15 => ?_) (fun c15 => ?_)
          · have h := (if_pos c15).symm.trans h
            have ok := ok.1 c15
            refine r_iload_n C 0 (dall tdX6_next 126 rfl) rfl ?_
            refine r_bipush (v := 40) C (dall tdX6_next 127 rfl) (by decide) ?_
            refine r_icmp_eq (tgt := 300) C (dall tdX6_next 128 rfl) (by decide) (fun c16 => ?_) (fun c16 => ?_)
            · have h := (if_pos c16).symm.trans h
              refine r_pick [1, 0] rfl ?_
              exact wX6_next_300 (oI (oI v 23 (v.1 21)) 22 4) (fX6_byteAt (oI v 23 (v.1 21)) ((oI v 23 (v.1 21)).1 21)) C hR  h
            · have h := (if_neg c16).symm.trans h
              refine r_iload_n C 0 (dall tdX6_next 129 rfl) rfl ?_
              refine r_bipush (v := 41) C (dall tdX6_next 130 rfl) (by decide) ?_
              refine r_icmp_eq (tgt := 300) C (dall tdX6_next 131 rfl) (by decide) (fun c17 => ?_) (fun c17 => ?_)
              · have h := (if_pos c17).symm.trans h
                refine r_pick [1, 0] rfl ?_
                exact wX6_next_300 (oI (oI v 23 (v.1 21)) 22 4) (fX6_byteAt (oI v 23 (v.1 21)) ((oI v 23 (v.1 21)).1 21)) C hR  h
              · have h := (if_neg c17).symm.trans h
                refine r_iload_n C 0 (dall tdX6_next 132 rfl) rfl ?_
                refine r_bipush (v := 59) C (dall tdX6_next 133 rfl) (by decide) ?_
                refine r_icmp_eq (tgt := 300) C (dall tdX6_next 134 rfl) (by decide) (fun c18 => ?_) (fun c18 => ?_)
                · have h := (if_pos c18).symm.trans h
                  refine r_pick [1, 0] rfl ?_
                  exact wX6_next_300 (oI (oI v 23 (v.1 21)) 22 4) (fX6_byteAt (oI v 23 (v.1 21)) ((oI v 23 (v.1 21)).1 21)) C hR  h
                · have h := (if_neg c18).symm.trans h
                  refine r_iload_n C 0 (dall tdX6_next 135 rfl) rfl ?_
                  refine r_bipush (v := 43) C (dall tdX6_next 136 rfl) (by decide) ?_
                  refine r_icmp_eq (tgt := 300) C (dall tdX6_next 137 rfl) (by decide) (fun c19 => ?_) (fun c19 => ?_)
                  · have h := (if_pos c19).symm.trans h
                    refine r_pick [1, 0] rfl ?_
                    exact wX6_next_300 (oI (oI v 23 (v.1 21)) 22 4) (fX6_byteAt (oI v 23 (v.1 21)) ((oI v 23 (v.1 21)).1 21)) C hR  h
                  · have h := (if_neg c19).symm.trans h
                    refine r_iload_n C 0 (dall tdX6_next 138 rfl) rfl ?_
                    refine r_bipush (v := 45) C (dall tdX6_next 139 rfl) (by decide) ?_
                    refine r_icmp_eq (tgt := 300) C (dall tdX6_next 140 rfl) (by decide) (fun c20 => ?_) (fun c20 => ?_)
                    · have h := (if_pos c20).symm.trans h
                      refine r_pick [1, 0] rfl ?_
                      exact wX6_next_300 (oI (oI v 23 (v.1 21)) 22 4) (fX6_byteAt (oI v 23 (v.1 21)) ((oI v 23 (v.1 21)).1 21)) C hR  h
                    · have h := (if_neg c20).symm.trans h
                      refine r_iload_n C 0 (dall tdX6_next 141 rfl) rfl ?_
                      refine r_bipush (v := 42) C (dall tdX6_next 142 rfl) (by decide) ?_
                      refine r_icmp_eq (tgt := 300) C (dall tdX6_next 143 rfl) (by decide) (fun c21 => ?_) (fun c21 => ?_)
                      · have h := (if_pos c21).symm.trans h
                        refine r_pick [1, 0] rfl ?_
                        exact wX6_next_300 (oI (oI v 23 (v.1 21)) 22 4) (fX6_byteAt (oI v 23 (v.1 21)) ((oI v 23 (v.1 21)).1 21)) C hR  h
                      · have h := (if_neg c21).symm.trans h
                        refine r_iload_n C 0 (dall tdX6_next 144 rfl) rfl ?_
                        refine r_bipush (v := 60) C (dall tdX6_next 145 rfl) (by decide) ?_
                        refine r_icmp_eq (tgt := 300) C (dall tdX6_next 146 rfl) (by decide) (fun c22 => ?_) (fun c22 => ?_)
                        · have h := (if_pos c22).symm.trans h
                          refine r_pick [1, 0] rfl ?_
                          exact wX6_next_300 (oI (oI v 23 (v.1 21)) 22 4) (fX6_byteAt (oI v 23 (v.1 21)) ((oI v 23 (v.1 21)).1 21)) C hR  h
                        · have h := (if_neg c22).symm.trans h
                          refine r_iload_n C 0 (dall tdX6_next 147 rfl) rfl ?_
                          refine r_bipush (v := 61) C (dall tdX6_next 148 rfl) (by decide) ?_
                          refine r_icmp_ne (tgt := 321) C (dall tdX6_next 149 rfl) (by decide) (fun c23 => ?_) (fun c23 => ?_)
                          · have h := (if_neg c23).symm.trans h
                            exact r_vret C hR (dall tdX6_next 163 rfl) (by subst h; exact ⟨rfl, rfl⟩)
                          · have h := (if_pos c23).symm.trans h
                            refine r_pick [1, 0] rfl ?_
                            exact wX6_next_300 (oI (oI v 23 (v.1 21)) 22 4) (fX6_byteAt (oI v 23 (v.1 21)) ((oI v 23 (v.1 21)).1 21)) C hR  h
          · have h := (if_neg c15).symm.trans h
            have ok := ok.2 c15
            refine r_aload_n C 1 (dall tdX6_next 72 rfl) rfl ?_
            refine r_iconst (v := 2) C (dall tdX6_next 73 rfl) (by decide) ?_
            refine r_put C 0 kw_X6 tyX6_ok nmX6 rfl rfl (by decide) kf_X6_168 rfl rfl rfl rfl rfl (Nat.le_of_ble_eq_true rfl) (pu_X6_this_22 cy q (oI (oI v 23 (v.1 21)) 22 4) 2) (dall tdX6_next 74 rfl) ?_
            refine r_aload_n C 1 (dall tdX6_next 75 rfl) rfl ?_
            refine r_lconst (v := 0) C (dall tdX6_next 76 rfl) (by decide) ?_
            refine r_put C 0 kw_X6 tyX6_ok nmX6 rfl rfl (by decide) kf_X6_179 rfl rfl rfl rfl rfl (Nat.le_of_ble_eq_true rfl) (pu_X6_this_24 cy q (oI (oI (oI v 23 (v.1 21)) 22 4) 22 2) 0) (dall tdX6_next 77 rfl) ?_
            refine r_iconst (v := 0) C (dall tdX6_next 78 rfl) (by decide) ?_
            refine r_istore_n (lv' := [(2, .int 0), (1, .int (fX6_byteAt (oI v 23 (v.1 21)) ((oI v 23 (v.1 21)).1 21))), (0, .ref (q 41))]) C (dall tdX6_next 79 rfl) (by decide) rfl ?_
            refine r_pick [2, 0] rfl ?_
            exact lX6_next_160  C hR  fu _ ok h
        · have h := (if_neg c14).symm.trans h
          have ok := ok.2 c14
          refine r_aload_n C 1 (dall tdX6_next 47 rfl) rfl ?_
          refine r_iconst (v := 1) C (dall tdX6_next 48 rfl) (by decide) ?_
          refine r_put C 0 kw_X6 tyX6_ok nmX6 rfl rfl (by decide) kf_X6_168 rfl rfl rfl rfl rfl (Nat.le_of_ble_eq_true rfl) (pu_X6_this_22 cy q (oI (oI v 23 (v.1 21)) 22 4) 1) (dall tdX6_next 49 rfl) ?_
          refine r_pick [1] rfl ?_
          exact lX6_next_100  C hR  fu _ ok h
      · have h := (if_neg c13).symm.trans h
        have ok := ok.2 c13
        refine r_aload_n C 1 (dall tdX6_next 33 rfl) rfl ?_
        refine r_iconst (v := 0) C (dall tdX6_next 34 rfl) (by decide) ?_
        refine r_put C 0 kw_X6 tyX6_ok nmX6 rfl rfl (by decide) kf_X6_168 rfl rfl rfl rfl rfl (Nat.le_of_ble_eq_true rfl) (pu_X6_this_22 cy q (oI (oI v 23 (v.1 21)) 22 4) 0) (dall tdX6_next 35 rfl) ?_
        refine r_aload_n C 1 (dall tdX6_next 36 rfl) rfl ?_
        refine r_aload_n C 1 (dall tdX6_next 37 rfl) rfl ?_
        refine r_get C 0 kw_X6 rfl rfl (by decide) kf_X6_153 rfl rfl (dall tdX6_next 38 rfl) ?_
        refine r_put C 0 kw_X6 tyX6_ok nmX6 rfl rfl (by decide) kf_X6_165 rfl rfl rfl rfl rfl (Nat.le_of_ble_eq_true rfl) (pu_X6_this_23 cy q (oI (oI (oI v 23 (v.1 21)) 22 4) 22 0) ((oI (oI (oI v 23 (v.1 21)) 22 4) 22 0).1 20)) (dall tdX6_next 39 rfl) ?_
        refine r_goto (tgt := 321) C (dall tdX6_next 40 rfl) (by decide) ?_
        exact r_vret C hR (dall tdX6_next 163 rfl) (by subst h; exact ⟨rfl, rfl⟩)
    · have h := (if_pos c11).symm.trans h
      have ok := ok.1 c11
      exact wX6_next_26 v C hR kR0 kO0 hk0 ok h
set_option maxHeartbeats 4000000 in
set_option maxRecDepth 100000 in
theorem lX6_next_0 {X : CX} {cy : Nat → ClassId} {q : Nat → Nat} {D : va_G} {A : Nat → Prop} {res : OS}  (C : Cx X cX6_next RX6 3 D (gty cy) A 1 0 0) (hR : Rt X none D (gty cy) A 0 0 (eV (wX6 cy q res)))  (n : Nat) (v : OS) (ok : lpOk (kX6_next_0  ) n v) (h : lp o0 (bX6_next_0  ) n v = res) : At X D A 3 0 0 0 [(0, .ref (q 41))] [] (wX6 cy q v) :=
  lp_rule (fun v rr_ => rr_ = res → At X D A 3 0 0 0 [(0, .ref (q 41))] [] (wX6 cy q v)) (fun kR kO hk v ok h => wX6_next_0  C hR  kR kO hk v ok h) n v ok h
def fX6_next (σ : OS) : OS := lp o0 (bX6_next_0  ) fu σ
def gX6_next (σ : OS) : Prop := lpOk (kX6_next_0  ) fu σ
set_option maxRecDepth 100000 in
theorem zX6_next (cy : Nat → ClassId) (q : Nat → Nat)  {D : va_G} (σ : OS) (ok : gX6_next σ )  : Con yX6_next cX6_next 3 none 1 0 0 D (gty cy) [.ref (q 41)] (wX6 cy q σ) (eV (wX6 cy q (fX6_next σ ))) :=
  Con.of (own := RX6) (by decide +kernel) rfl (Nat.le_of_ble_eq_true rfl) (Nat.zero_le _) (fun X A C hR _ => (lX6_next_0  C hR  fu _ ok rfl))
theorem mv_X6_next : MV yX6_next cX6_next 3 none RX6 0 := ⟨ki_X6_next, kv_X6_next, kn_X6, kc_X6_next, by decide +kernel⟩
def tbX6_isLetter : List (Nat × Instr × Nat) := [(0, .aload_n 0, 1), (1, .getfield 165, 3), (4, .iload_n 1, 1), (5, .iadd, 1), (6, .aload_n 0, 1), (7, .getfield 159, 3), (10, .if_icmp .ge 25, 3), (13, .aload_n 0, 1), (14, .aload_n 0, 1), (15, .getfield 165, 3), (18, .iload_n 1, 1), (19, .iadd, 1), (20, .invokevirtual 162, 3), (23, .iload_n 2, 1), (24, .if_icmp .ne 7, 3), (27, .iconst 1, 1), (28, .goto 16, 3), (31, .iconst 0, 1), (32, .goto 12, 3), (35, .iload_n 2, 1), (36, .ifCond .ne 7, 3), (39, .iconst 1, 1), (40, .goto 4, 3), (43, .iconst 0, 1), (44, .ireturn, 1)]
theorem tdX6_isLetter : tbX6_isLetter.all (fun q => decide (decode cX6_isLetter q.1 = .ok q.2)) = true := by decide +kernel
def pX6_isLetter_0  (σ : OS) (a1_ : Int32) (a2_ : Int32) : Int32 := if (σ.1 21) ≤ ((σ.1 23) + a1_) then if a2_ = 0 then 1 else 0 else if (fX6_byteAt σ ((σ.1 23) + a1_)) = a2_ then 1 else 0
def oX6_isLetter_0  (σ : OS) (a1_ : Int32) (a2_ : Int32) : Prop := ((σ.1 21) ≤ ((σ.1 23) + a1_) → True) ∧ (¬ ((σ.1 21) ≤ ((σ.1 23) + a1_)) → gX6_byteAt σ ((σ.1 23) + a1_))
set_option maxHeartbeats 4000000 in
set_option maxRecDepth 100000 in
theorem wX6_isLetter_0 {X : CX} {cy : Nat → ClassId} {q : Nat → Nat} {D : va_G} {A : Nat → Prop} {res : Int32} (σ : OS) (a1_ : Int32) (a2_ : Int32) (C : Cx X cX6_isLetter RX6 3 D (gty cy) A 1 0 0) (hR : Rt X (some .boolean) D (gty cy) A 0 0 (eI (wX6 cy q σ) res))  (ok : oX6_isLetter_0  σ a1_ a2_) (h : pX6_isLetter_0  σ a1_ a2_ = res) : At X D A 3 0 0 0 [(0, .ref (q 41)), (1, .int a1_), (2, .int a2_)] [] (wX6 cy q σ) := by
  unfold pX6_isLetter_0 at h
  unfold oX6_isLetter_0 at ok
  refine r_aload_n C 0 (dall tdX6_isLetter 0 rfl) rfl ?_
  refine r_get C 0 kw_X6 rfl rfl (by decide) kf_X6_165 rfl rfl (dall tdX6_isLetter 1 rfl) ?_
  refine r_iload_n C 1 (dall tdX6_isLetter 2 rfl) rfl ?_
  refine r_iadd C (dall tdX6_isLetter 3 rfl) ?_
  refine r_aload_n C 0 (dall tdX6_isLetter 4 rfl) rfl ?_
  refine r_get C 0 kw_X6 rfl rfl (by decide) kf_X6_159 rfl rfl (dall tdX6_isLetter 5 rfl) ?_
  refine r_icmp_ge (tgt := 35) C (dall tdX6_isLetter 6 rfl) (by decide) (fun c1 => ?_) (fun c1 => ?_)
  · have h := (if_pos c1).symm.trans h
    have ok := ok.1 c1
    refine r_iload_n C 2 (dall tdX6_isLetter 19 rfl) rfl ?_
    refine r_if_ne (tgt := 43) C (dall tdX6_isLetter 20 rfl) (by decide) (fun c2 => ?_) (fun c2 => ?_)
    · have h := (if_neg c2).symm.trans h
      refine r_iconst (v := 0) C (dall tdX6_isLetter 23 rfl) (by decide) ?_
      exact r_zret C (by decide) hR (dall tdX6_isLetter 24 rfl) (by subst h; exact ⟨rfl, rfl⟩)
    · have h := (if_pos c2).symm.trans h
      refine r_iconst (v := 1) C (dall tdX6_isLetter 21 rfl) (by decide) ?_
      refine r_goto (tgt := 44) C (dall tdX6_isLetter 22 rfl) (by decide) ?_
      exact r_zret C (by decide) hR (dall tdX6_isLetter 24 rfl) (by subst h; exact ⟨rfl, rfl⟩)
  · have h := (if_neg c1).symm.trans h
    have ok := ok.2 c1
    refine r_aload_n C 0 (dall tdX6_isLetter 7 rfl) rfl ?_
    refine r_aload_n C 0 (dall tdX6_isLetter 8 rfl) rfl ?_
    refine r_get C 0 kw_X6 rfl rfl (by decide) kf_X6_165 rfl rfl (dall tdX6_isLetter 9 rfl) ?_
    refine r_iload_n C 1 (dall tdX6_isLetter 10 rfl) rfl ?_
    refine r_iadd C (dall tdX6_isLetter 11 rfl) ?_
    have o3 := ok
    refine r_vI (as := [.int ((σ.1 23) + a1_)]) C (zX6_byteAt cy q σ ((σ.1 23) + a1_) o3) mv_X6_byteAt km_X6_162 (by decide) (by decide) ⟨Nat.le_refl _, Nat.le_refl _⟩ rfl rfl rfl rfl (Nat.le_of_ble_eq_true rfl) (dall tdX6_isLetter 12 rfl) ?_
    refine r_iload_n C 2 (dall tdX6_isLetter 13 rfl) rfl ?_
    refine r_icmp_ne (tgt := 31) C (dall tdX6_isLetter 14 rfl) (by decide) (fun c4 => ?_) (fun c4 => ?_)
    · have h := (if_neg c4).symm.trans h
      refine r_iconst (v := 0) C (dall tdX6_isLetter 17 rfl) (by decide) ?_
      refine r_goto (tgt := 44) C (dall tdX6_isLetter 18 rfl) (by decide) ?_
      exact r_zret C (by decide) hR (dall tdX6_isLetter 24 rfl) (by subst h; exact ⟨rfl, rfl⟩)
    · have h := (if_pos c4).symm.trans h
      refine r_iconst (v := 1) C (dall tdX6_isLetter 15 rfl) (by decide) ?_
      refine r_goto (tgt := 44) C (dall tdX6_isLetter 16 rfl) (by decide) ?_
      exact r_zret C (by decide) hR (dall tdX6_isLetter 24 rfl) (by subst h; exact ⟨rfl, rfl⟩)
def fX6_isLetter (σ : OS) (a1_ : Int32) (a2_ : Int32) : Int32 := pX6_isLetter_0  σ a1_ a2_
def gX6_isLetter (σ : OS) (a1_ : Int32) (a2_ : Int32) : Prop := oX6_isLetter_0  σ a1_ a2_
set_option maxRecDepth 100000 in
theorem zX6_isLetter (cy : Nat → ClassId) (q : Nat → Nat)  {D : va_G} (σ : OS) (a1_ : Int32) (a2_ : Int32) (ok : gX6_isLetter σ a1_ a2_)  : Con yX6_isLetter cX6_isLetter 3 (some .boolean) 1 0 0 D (gty cy) [.ref (q 41), .int a1_, .int a2_] (wX6 cy q σ) (eI (wX6 cy q σ) (fX6_isLetter σ a1_ a2_)) :=
  Con.of (own := RX6) (by decide +kernel) rfl (Nat.le_of_ble_eq_true rfl) (Nat.zero_le _) (fun X A C hR _ => (wX6_isLetter_0 σ a1_ a2_ C hR  ok rfl))
theorem mv_X6_isLetter : MV yX6_isLetter cX6_isLetter 3 (some .boolean) RX6 2 := ⟨ki_X6_isLetter, kv_X6_isLetter, kn_X6, kc_X6_isLetter, by decide +kernel⟩
def tbX6_isWord : List (Nat × Instr × Nat) := [(0, .aload_n 0, 1), (1, .getfield 184, 3), (4, .ifCond .ne 108, 3), (7, .aload_n 0, 1), (8, .getfield 168, 3), (11, .iconst 1, 1), (12, .if_icmp .ne 100, 3), (15, .aload_n 0, 1), (16, .getfield 159, 3), (19, .aload_n 0, 1), (20, .getfield 165, 3), (23, .bipush 8, 2), (25, .iadd, 1), (26, .if_icmp .gt 86, 3), (29, .aload_n 0, 1), (30, .iconst 0, 1), (31, .iload_n 1, 1), (32, .invokevirtual 191, 3), (35, .ifCond .eq 77, 3), (38, .aload_n 0, 1), (39, .iconst 1, 1), (40, .iload_n 2, 1), (41, .invokevirtual 191, 3), (44, .ifCond .eq 68, 3), (47, .aload_n 0, 1), (48, .iconst 2, 1), (49, .iload_n 3, 1), (50, .invokevirtual 191, 3), (53, .ifCond .eq 59, 3), (56, .aload_n 0, 1), (57, .iconst 3, 1), (58, .iload 4, 2), (60, .invokevirtual 191, 3), (63, .ifCond .eq 49, 3), (66, .aload_n 0, 1), (67, .iconst 4, 1), (68, .iload 5, 2), (70, .invokevirtual 191, 3), (73, .ifCond .eq 39, 3), (76, .aload_n 0, 1), (77, .iconst 5, 1), (78, .iload 6, 2), (80, .invokevirtual 191, 3), (83, .ifCond .eq 29, 3), (86, .aload_n 0, 1), (87, .bipush 6, 2), (89, .iload 7, 2), (91, .invokevirtual 191, 3), (94, .ifCond .eq 18, 3), (97, .aload_n 0, 1), (98, .bipush 7, 2), (100, .iload 8, 2), (102, .invokevirtual 191, 3), (105, .ifCond .eq 7, 3), (108, .iconst 1, 1), (109, .goto 4, 3), (112, .iconst 0, 1), (113, .ireturn, 1)]
theorem tdX6_isWord : tbX6_isWord.all (fun q => decide (decode cX6_isWord q.1 = .ok q.2)) = true := by decide +kernel
def pX6_isWord_0  (σ : OS) (a1_ : Int32) (a2_ : Int32) (a3_ : Int32) (a4_ : Int32) (a5_ : Int32) (a6_ : Int32) (a7_ : Int32) (a8_ : Int32) : Int32 := if (σ.1 26) = 0 then if (σ.1 22) = 1 then if ((σ.1 23) + 8) < (σ.1 21) then 0 else if (fX6_isLetter σ 0 a1_) = 0 then 0 else if (fX6_isLetter σ 1 a2_) = 0 then 0 else if (fX6_isLetter σ 2 a3_) = 0 then 0 else if (fX6_isLetter σ 3 a4_) = 0 then 0 else if (fX6_isLetter σ 4 a5_) = 0 then 0 else if (fX6_isLetter σ 5 a6_) = 0 then 0 else if (fX6_isLetter σ 6 a7_) = 0 then 0 else if (fX6_isLetter σ 7 a8_) = 0 then 0 else 1 else 0 else 0
def oX6_isWord_0  (σ : OS) (a1_ : Int32) (a2_ : Int32) (a3_ : Int32) (a4_ : Int32) (a5_ : Int32) (a6_ : Int32) (a7_ : Int32) (a8_ : Int32) : Prop := ((σ.1 26) = 0 → ((σ.1 22) = 1 → (((σ.1 23) + 8) < (σ.1 21) → True) ∧ (¬ (((σ.1 23) + 8) < (σ.1 21)) → (gX6_isLetter σ 0 a1_) ∧ (((fX6_isLetter σ 0 a1_) = 0 → True) ∧ (¬ ((fX6_isLetter σ 0 a1_) = 0) → (gX6_isLetter σ 1 a2_) ∧ (((fX6_isLetter σ 1 a2_) = 0 → True) ∧ (¬ ((fX6_isLetter σ 1 a2_) = 0) → (gX6_isLetter σ 2 a3_) ∧ (((fX6_isLetter σ 2 a3_) = 0 → True) ∧ (¬ ((fX6_isLetter σ 2 a3_) = 0) → (gX6_isLetter σ 3 a4_) ∧ (((fX6_isLetter σ 3 a4_) = 0 → True) ∧ (¬ ((fX6_isLetter σ 3 a4_) = 0) → (gX6_isLetter σ 4 a5_) ∧ (((fX6_isLetter σ 4 a5_) = 0 → True) ∧ (¬ ((fX6_isLetter σ 4 a5_) = 0) → (gX6_isLetter σ 5 a6_) ∧ (((fX6_isLetter σ 5 a6_) = 0 → True) ∧ (¬ ((fX6_isLetter σ 5 a6_) = 0) → (gX6_isLetter σ 6 a7_) ∧ (((fX6_isLetter σ 6 a7_) = 0 → True) ∧ (¬ ((fX6_isLetter σ 6 a7_) = 0) → gX6_isLetter σ 7 a8_)))))))))))))))) ∧ (¬ ((σ.1 22) = 1) → True)) ∧ (¬ ((σ.1 26) = 0) → True)
set_option maxHeartbeats 4000000 in
set_option maxRecDepth 100000 in
theorem wX6_isWord_0 {X : CX} {cy : Nat → ClassId} {q : Nat → Nat} {D : va_G} {A : Nat → Prop} {res : Int32} (σ : OS) (a1_ : Int32) (a2_ : Int32) (a3_ : Int32) (a4_ : Int32) (a5_ : Int32) (a6_ : Int32) (a7_ : Int32) (a8_ : Int32) (C : Cx X cX6_isWord RX6 9 D (gty cy) A 2 0 0) (hR : Rt X (some .boolean) D (gty cy) A 0 0 (eI (wX6 cy q σ) res))  (ok : oX6_isWord_0  σ a1_ a2_ a3_ a4_ a5_ a6_ a7_ a8_) (h : pX6_isWord_0  σ a1_ a2_ a3_ a4_ a5_ a6_ a7_ a8_ = res) : At X D A 9 0 0 0 [(0, .ref (q 41)), (1, .int a1_), (2, .int a2_), (3, .int a3_), (4, .int a4_), (5, .int a5_), (6, .int a6_), (7, .int a7_), (8, .int a8_)] [] (wX6 cy q σ) := by
  unfold pX6_isWord_0 at h
  unfold oX6_isWord_0 at ok
  refine r_aload_n C 0 (dall tdX6_isWord 0 rfl) rfl ?_
  refine r_get C 0 kw_X6 rfl rfl (by decide) kf_X6_184 rfl rfl (dall tdX6_isWord 1 rfl) ?_
  refine r_if_ne (tgt := 112) C (dall tdX6_isWord 2 rfl) (by decide) (fun c1 => ?_) (fun c1 => ?_)
  · have h := (if_neg c1).symm.trans h
    have ok := ok.2 c1
    refine r_iconst (v := 0) C (dall tdX6_isWord 56 rfl) (by decide) ?_
    exact r_zret C (by decide) hR (dall tdX6_isWord 57 rfl) (by subst h; exact ⟨rfl, rfl⟩)
  · have h := (if_pos c1).symm.trans h
    have ok := ok.1 c1
    refine r_aload_n C 0 (dall tdX6_isWord 3 rfl) rfl ?_
    refine r_get C 0 kw_X6 rfl rfl (by decide) kf_X6_168 rfl rfl (dall tdX6_isWord 4 rfl) ?_
    refine r_iconst (v := 1) C (dall tdX6_isWord 5 rfl) (by decide) ?_
    refine r_icmp_ne (tgt := 112) C (dall tdX6_isWord 6 rfl) (by decide) (fun c2 => ?_) (fun c2 => ?_)
    · have h := (if_neg c2).symm.trans h
      have ok := ok.2 c2
      refine r_iconst (v := 0) C (dall tdX6_isWord 56 rfl) (by decide) ?_
      exact r_zret C (by decide) hR (dall tdX6_isWord 57 rfl) (by subst h; exact ⟨rfl, rfl⟩)
    · have h := (if_pos c2).symm.trans h
      have ok := ok.1 c2
      refine r_aload_n C 0 (dall tdX6_isWord 7 rfl) rfl ?_
      refine r_get C 0 kw_X6 rfl rfl (by decide) kf_X6_159 rfl rfl (dall tdX6_isWord 8 rfl) ?_
      refine r_aload_n C 0 (dall tdX6_isWord 9 rfl) rfl ?_
      refine r_get C 0 kw_X6 rfl rfl (by decide) kf_X6_165 rfl rfl (dall tdX6_isWord 10 rfl) ?_
      refine r_bipush (v := 8) C (dall tdX6_isWord 11 rfl) (by decide) ?_
      refine r_iadd C (dall tdX6_isWord 12 rfl) ?_
      refine r_icmp_gt (tgt := 112) C (dall tdX6_isWord 13 rfl) (by decide) (fun c3 => ?_) (fun c3 => ?_)
      · have h := (if_pos c3).symm.trans h
        have ok := ok.1 c3
        refine r_iconst (v := 0) C (dall tdX6_isWord 56 rfl) (by decide) ?_
        exact r_zret C (by decide) hR (dall tdX6_isWord 57 rfl) (by subst h; exact ⟨rfl, rfl⟩)
      · have h := (if_neg c3).symm.trans h
        have ok := ok.2 c3
        refine r_aload_n C 0 (dall tdX6_isWord 14 rfl) rfl ?_
        refine r_iconst (v := 0) C (dall tdX6_isWord 15 rfl) (by decide) ?_
        refine r_iload_n C 1 (dall tdX6_isWord 16 rfl) rfl ?_
        obtain ⟨o4, ok⟩ := ok
        refine r_vI (as := [.int 0, .int a1_]) C (zX6_isLetter cy q σ 0 a1_ o4) mv_X6_isLetter km_X6_191 (by decide) (by decide) ⟨Nat.le_refl _, Nat.le_refl _⟩ rfl rfl rfl rfl (Nat.le_of_ble_eq_true rfl) (dall tdX6_isWord 17 rfl) ?_
        refine r_if_eq (tgt := 112) C (dall tdX6_isWord 18 rfl) (by decide) (fun c5 => ?_) (fun c5 => ?_)
        · have h := (if_pos c5).symm.trans h
          have ok := ok.1 c5
          refine r_iconst (v := 0) C (dall tdX6_isWord 56 rfl) (by decide) ?_
          exact r_zret C (by decide) hR (dall tdX6_isWord 57 rfl) (by subst h; exact ⟨rfl, rfl⟩)
        · have h := (if_neg c5).symm.trans h
          have ok := ok.2 c5
          refine r_aload_n C 0 (dall tdX6_isWord 19 rfl) rfl ?_
          refine r_iconst (v := 1) C (dall tdX6_isWord 20 rfl) (by decide) ?_
          refine r_iload_n C 2 (dall tdX6_isWord 21 rfl) rfl ?_
          obtain ⟨o6, ok⟩ := ok
          refine r_vI (as := [.int 1, .int a2_]) C (zX6_isLetter cy q σ 1 a2_ o6) mv_X6_isLetter km_X6_191 (by decide) (by decide) ⟨Nat.le_refl _, Nat.le_refl _⟩ rfl rfl rfl rfl (Nat.le_of_ble_eq_true rfl) (dall tdX6_isWord 22 rfl) ?_
          refine r_if_eq (tgt := 112) C (dall tdX6_isWord 23 rfl) (by decide) (fun c7 => ?_) (fun c7 => ?_)
          · have h := (if_pos c7).symm.trans h
            have ok := ok.1 c7
            refine r_iconst (v := 0) C (dall tdX6_isWord 56 rfl) (by decide) ?_
            exact r_zret C (by decide) hR (dall tdX6_isWord 57 rfl) (by subst h; exact ⟨rfl, rfl⟩)
          · have h := (if_neg c7).symm.trans h
            have ok := ok.2 c7
            refine r_aload_n C 0 (dall tdX6_isWord 24 rfl) rfl ?_
            refine r_iconst (v := 2) C (dall tdX6_isWord 25 rfl) (by decide) ?_
            refine r_iload_n C 3 (dall tdX6_isWord 26 rfl) rfl ?_
            obtain ⟨o8, ok⟩ := ok
            refine r_vI (as := [.int 2, .int a3_]) C (zX6_isLetter cy q σ 2 a3_ o8) mv_X6_isLetter km_X6_191 (by decide) (by decide) ⟨Nat.le_refl _, Nat.le_refl _⟩ rfl rfl rfl rfl (Nat.le_of_ble_eq_true rfl) (dall tdX6_isWord 27 rfl) ?_
            refine r_if_eq (tgt := 112) C (dall tdX6_isWord 28 rfl) (by decide) (fun c9 => ?_) (fun c9 => ?_)
            · have h := (if_pos c9).symm.trans h
              have ok := ok.1 c9
              refine r_iconst (v := 0) C (dall tdX6_isWord 56 rfl) (by decide) ?_
              exact r_zret C (by decide) hR (dall tdX6_isWord 57 rfl) (by subst h; exact ⟨rfl, rfl⟩)
            · have h := (if_neg c9).symm.trans h
              have ok := ok.2 c9
              refine r_aload_n C 0 (dall tdX6_isWord 29 rfl) rfl ?_
              refine r_iconst (v := 3) C (dall tdX6_isWord 30 rfl) (by decide) ?_
              refine r_iload C 4 (dall tdX6_isWord 31 rfl) rfl ?_
              obtain ⟨o10, ok⟩ := ok
              refine r_vI (as := [.int 3, .int a4_]) C (zX6_isLetter cy q σ 3 a4_ o10) mv_X6_isLetter km_X6_191 (by decide) (by decide) ⟨Nat.le_refl _, Nat.le_refl _⟩ rfl rfl rfl rfl (Nat.le_of_ble_eq_true rfl) (dall tdX6_isWord 32 rfl) ?_
              refine r_if_eq (tgt := 112) C (dall tdX6_isWord 33 rfl) (by decide) (fun c11 => ?_) (fun c11 => ?_)
              · have h := (if_pos c11).symm.trans h
                have ok := ok.1 c11
                refine r_iconst (v := 0) C (dall tdX6_isWord 56 rfl) (by decide) ?_
                exact r_zret C (by decide) hR (dall tdX6_isWord 57 rfl) (by subst h; exact ⟨rfl, rfl⟩)
              · have h := (if_neg c11).symm.trans h
                have ok := ok.2 c11
                refine r_aload_n C 0 (dall tdX6_isWord 34 rfl) rfl ?_
                refine r_iconst (v := 4) C (dall tdX6_isWord 35 rfl) (by decide) ?_
                refine r_iload C 5 (dall tdX6_isWord 36 rfl) rfl ?_
                obtain ⟨o12, ok⟩ := ok
                refine r_vI (as := [.int 4, .int a5_]) C (zX6_isLetter cy q σ 4 a5_ o12) mv_X6_isLetter km_X6_191 (by decide) (by decide) ⟨Nat.le_refl _, Nat.le_refl _⟩ rfl rfl rfl rfl (Nat.le_of_ble_eq_true rfl) (dall tdX6_isWord 37 rfl) ?_
                refine r_if_eq (tgt := 112) C (dall tdX6_isWord 38 rfl) (by decide) (fun c13 => ?_) (fun c13 => ?_)
                · have h := (if_pos c13).symm.trans h
                  have ok := ok.1 c13
                  refine r_iconst (v := 0) C (dall tdX6_isWord 56 rfl) (by decide) ?_
                  exact r_zret C (by decide) hR (dall tdX6_isWord 57 rfl) (by subst h; exact ⟨rfl, rfl⟩)
                · have h := (if_neg c13).symm.trans h
                  have ok := ok.2 c13
                  refine r_aload_n C 0 (dall tdX6_isWord 39 rfl) rfl ?_
                  refine r_iconst (v := 5) C (dall tdX6_isWord 40 rfl) (by decide) ?_
                  refine r_iload C 6 (dall tdX6_isWord 41 rfl) rfl ?_
                  obtain ⟨o14, ok⟩ := ok
                  refine r_vI (as := [.int 5, .int a6_]) C (zX6_isLetter cy q σ 5 a6_ o14) mv_X6_isLetter km_X6_191 (by decide) (by decide) ⟨Nat.le_refl _, Nat.le_refl _⟩ rfl rfl rfl rfl (Nat.le_of_ble_eq_true rfl) (dall tdX6_isWord 42 rfl) ?_
                  refine r_if_eq (tgt := 112) C (dall tdX6_isWord 43 rfl) (by decide) (fun c15 => ?_) (fun c15 => ?_)
                  · have h := (if_pos c15).symm.trans h
                    have ok := ok.1 c15
                    refine r_iconst (v := 0) C (dall tdX6_isWord 56 rfl) (by decide) ?_
                    exact r_zret C (by decide) hR (dall tdX6_isWord 57 rfl) (by subst h; exact ⟨rfl, rfl⟩)
                  · have h := (if_neg c15).symm.trans h
                    have ok := ok.2 c15
                    refine r_aload_n C 0 (dall tdX6_isWord 44 rfl) rfl ?_
                    refine r_bipush (v := 6) C (dall tdX6_isWord 45 rfl) (by decide) ?_
                    refine r_iload C 7 (dall tdX6_isWord 46 rfl) rfl ?_
                    obtain ⟨o16, ok⟩ := ok
                    refine r_vI (as := [.int 6, .int a7_]) C (zX6_isLetter cy q σ 6 a7_ o16) mv_X6_isLetter km_X6_191 (by decide) (by decide) ⟨Nat.le_refl _, Nat.le_refl _⟩ rfl rfl rfl rfl (Nat.le_of_ble_eq_true rfl) (dall tdX6_isWord 47 rfl) ?_
                    refine r_if_eq (tgt := 112) C (dall tdX6_isWord 48 rfl) (by decide) (fun c17 => ?_) (fun c17 => ?_)
                    · have h := (if_pos c17).symm.trans h
                      have ok := ok.1 c17
                      refine r_iconst (v := 0) C (dall tdX6_isWord 56 rfl) (by decide) ?_
                      exact r_zret C (by decide) hR (dall tdX6_isWord 57 rfl) (by subst h; exact ⟨rfl, rfl⟩)
                    · have h := (if_neg c17).symm.trans h
                      have ok := ok.2 c17
                      refine r_aload_n C 0 (dall tdX6_isWord 49 rfl) rfl ?_
                      refine r_bipush (v := 7) C (dall tdX6_isWord 50 rfl) (by decide) ?_
                      refine r_iload C 8 (dall tdX6_isWord 51 rfl) rfl ?_
                      have o18 := ok
                      refine r_vI (as := [.int 7, .int a8_]) C (zX6_isLetter cy q σ 7 a8_ o18) mv_X6_isLetter km_X6_191 (by decide) (by decide) ⟨Nat.le_refl _, Nat.le_refl _⟩ rfl rfl rfl rfl (Nat.le_of_ble_eq_true rfl) (dall tdX6_isWord 52 rfl) ?_
                      refine r_if_eq (tgt := 112) C (dall tdX6_isWord 53 rfl) (by decide) (fun c19 => ?_) (fun c19 => ?_)
                      · have h := (if_pos c19).symm.trans h
                        refine r_iconst (v := 0) C (dall tdX6_isWord 56 rfl) (by decide) ?_
                        exact r_zret C (by decide) hR (dall tdX6_isWord 57 rfl) (by subst h; exact ⟨rfl, rfl⟩)
                      · have h := (if_neg c19).symm.trans h
                        refine r_iconst (v := 1) C (dall tdX6_isWord 54 rfl) (by decide) ?_
                        refine r_goto (tgt := 113) C (dall tdX6_isWord 55 rfl) (by decide) ?_
                        exact r_zret C (by decide) hR (dall tdX6_isWord 57 rfl) (by subst h; exact ⟨rfl, rfl⟩)
def fX6_isWord (σ : OS) (a1_ : Int32) (a2_ : Int32) (a3_ : Int32) (a4_ : Int32) (a5_ : Int32) (a6_ : Int32) (a7_ : Int32) (a8_ : Int32) : Int32 := pX6_isWord_0  σ a1_ a2_ a3_ a4_ a5_ a6_ a7_ a8_
def gX6_isWord (σ : OS) (a1_ : Int32) (a2_ : Int32) (a3_ : Int32) (a4_ : Int32) (a5_ : Int32) (a6_ : Int32) (a7_ : Int32) (a8_ : Int32) : Prop := oX6_isWord_0  σ a1_ a2_ a3_ a4_ a5_ a6_ a7_ a8_
set_option maxRecDepth 100000 in
theorem zX6_isWord (cy : Nat → ClassId) (q : Nat → Nat)  {D : va_G} (σ : OS) (a1_ : Int32) (a2_ : Int32) (a3_ : Int32) (a4_ : Int32) (a5_ : Int32) (a6_ : Int32) (a7_ : Int32) (a8_ : Int32) (ok : gX6_isWord σ a1_ a2_ a3_ a4_ a5_ a6_ a7_ a8_)  : Con yX6_isWord cX6_isWord 9 (some .boolean) 2 0 0 D (gty cy) [.ref (q 41), .int a1_, .int a2_, .int a3_, .int a4_, .int a5_, .int a6_, .int a7_, .int a8_] (wX6 cy q σ) (eI (wX6 cy q σ) (fX6_isWord σ a1_ a2_ a3_ a4_ a5_ a6_ a7_ a8_)) :=
  Con.of (own := RX6) (by decide +kernel) rfl (Nat.le_of_ble_eq_true rfl) (Nat.zero_le _) (fun X A C hR _ => (wX6_isWord_0 σ a1_ a2_ a3_ a4_ a5_ a6_ a7_ a8_ C hR  ok rfl))
theorem mv_X6_isWord : MV yX6_isWord cX6_isWord 9 (some .boolean) RX6 8 := ⟨ki_X6_isWord, kv_X6_isWord, kn_X6, kc_X6_isWord, by decide +kernel⟩
def tbX6_fail : List (Nat × Instr × Nat) := [(0, .aload_n 0, 1), (1, .getfield 184, 3), (4, .ifCond .ne 16, 3), (7, .aload_n 0, 1), (8, .iconst 1, 1), (9, .putfield 184, 3), (12, .aload_n 0, 1), (13, .aload_n 0, 1), (14, .getfield 165, 3), (17, .putfield 188, 3), (20, .return_, 1)]
theorem tdX6_fail : tbX6_fail.all (fun q => decide (decode cX6_fail q.1 = .ok q.2)) = true := by decide +kernel
def pX6_fail_0  (σ : OS) : OS := if (σ.1 26) = 0 then oI (oI σ 26 1) 27 ((oI σ 26 1).1 23) else σ
set_option maxHeartbeats 4000000 in
set_option maxRecDepth 100000 in
theorem wX6_fail_0 {X : CX} {cy : Nat → ClassId} {q : Nat → Nat} {D : va_G} {A : Nat → Prop} {res : OS} (σ : OS) (C : Cx X cX6_fail RX6 1 D (gty cy) A 0 0 0) (hR : Rt X none D (gty cy) A 0 0 (eV (wX6 cy q res)))  (h : pX6_fail_0  σ = res) : At X D A 1 0 0 0 [(0, .ref (q 41))] [] (wX6 cy q σ) := by
  unfold pX6_fail_0 at h
  refine r_aload_n C 0 (dall tdX6_fail 0 rfl) rfl ?_
  refine r_get C 0 kw_X6 rfl rfl (by decide) kf_X6_184 rfl rfl (dall tdX6_fail 1 rfl) ?_
  refine r_if_ne (tgt := 20) C (dall tdX6_fail 2 rfl) (by decide) (fun c1 => ?_) (fun c1 => ?_)
  · have h := (if_neg c1).symm.trans h
    exact r_vret C hR (dall tdX6_fail 10 rfl) (by subst h; exact ⟨rfl, rfl⟩)
  · have h := (if_pos c1).symm.trans h
    refine r_aload_n C 0 (dall tdX6_fail 3 rfl) rfl ?_
    refine r_iconst (v := 1) C (dall tdX6_fail 4 rfl) (by decide) ?_
    refine r_put C 0 kw_X6 tyX6_ok nmX6 rfl rfl (by decide) kf_X6_184 rfl rfl rfl (by decide) (by decide) (Nat.le_of_ble_eq_true rfl) (pu_X6_this_26 cy q σ 1) (dall tdX6_fail 5 rfl) ?_
    refine r_aload_n C 0 (dall tdX6_fail 6 rfl) rfl ?_
    refine r_aload_n C 0 (dall tdX6_fail 7 rfl) rfl ?_
    refine r_get C 0 kw_X6 rfl rfl (by decide) kf_X6_165 rfl rfl (dall tdX6_fail 8 rfl) ?_
    refine r_put C 0 kw_X6 tyX6_ok nmX6 rfl rfl (by decide) kf_X6_188 rfl rfl rfl rfl rfl (Nat.le_of_ble_eq_true rfl) (pu_X6_this_27 cy q (oI σ 26 1) ((oI σ 26 1).1 23)) (dall tdX6_fail 9 rfl) ?_
    exact r_vret C hR (dall tdX6_fail 10 rfl) (by subst h; exact ⟨rfl, rfl⟩)
def fX6_fail (σ : OS) : OS := pX6_fail_0  σ
set_option maxRecDepth 100000 in
theorem zX6_fail (cy : Nat → ClassId) (q : Nat → Nat)  {D : va_G} (σ : OS)  : Con yX6_fail cX6_fail 1 none 0 0 0 D (gty cy) [.ref (q 41)] (wX6 cy q σ) (eV (wX6 cy q (fX6_fail σ ))) :=
  Con.of (own := RX6) (by decide +kernel) rfl (Nat.le_of_ble_eq_true rfl) (Nat.zero_le _) (fun X A C hR _ => (wX6_fail_0 σ C hR  rfl))
theorem mv_X6_fail : MV yX6_fail cX6_fail 1 none RX6 0 := ⟨ki_X6_fail, kv_X6_fail, kn_X6, kc_X6_fail, by decide +kernel⟩
def tbX6_opens : List (Nat × Instr × Nat) := [(0, .aload_n 0, 1), (1, .getfield 195, 3), (4, .iconst 5, 1), (5, .if_icmp .ne 9, 3), (8, .aload_n 0, 1), (9, .invokevirtual 198, 3), (12, .iconst 0, 1), (13, .ireturn, 1), (14, .aload_n 0, 1), (15, .dup, 1), (16, .getfield 195, 3), (19, .iconst 1, 1), (20, .iadd, 1), (21, .putfield 195, 3), (24, .aload_n 0, 1), (25, .invokevirtual 201, 3), (28, .iconst 1, 1), (29, .ireturn, 1)]
theorem tdX6_opens : tbX6_opens.all (fun q => decide (decode cX6_opens q.1 = .ok q.2)) = true := by decide +kernel
def pX6_opens_28  (σ : OS) : Int32 × OS := (1, σ)
set_option maxHeartbeats 4000000 in
set_option maxRecDepth 100000 in
theorem wX6_opens_28 {X : CX} {cy : Nat → ClassId} {q : Nat → Nat} {D : va_G} {A : Nat → Prop} {res : Int32 × OS} (σ : OS) (C : Cx X cX6_opens RX6 1 D (gty cy) A 2 0 0) (hR : Rt X (some .boolean) D (gty cy) A 0 0 (eI (wX6 cy q res.2) res.1))  (h : pX6_opens_28  σ = res) : At X D A 1 0 0 28 [] [] (wX6 cy q σ) := by
  unfold pX6_opens_28 at h
  refine r_iconst (v := 1) C (dall tdX6_opens 16 rfl) (by decide) ?_
  exact r_zret C (by decide) hR (dall tdX6_opens 17 rfl) (by subst h; exact ⟨rfl, rfl⟩)
def pX6_opens_12  (σ : OS) : Int32 × OS := (0, σ)
set_option maxHeartbeats 4000000 in
set_option maxRecDepth 100000 in
theorem wX6_opens_12 {X : CX} {cy : Nat → ClassId} {q : Nat → Nat} {D : va_G} {A : Nat → Prop} {res : Int32 × OS} (σ : OS) (C : Cx X cX6_opens RX6 1 D (gty cy) A 2 0 0) (hR : Rt X (some .boolean) D (gty cy) A 0 0 (eI (wX6 cy q res.2) res.1))  (h : pX6_opens_12  σ = res) : At X D A 1 0 0 12 [] [] (wX6 cy q σ) := by
  unfold pX6_opens_12 at h
  refine r_iconst (v := 0) C (dall tdX6_opens 6 rfl) (by decide) ?_
  exact r_zret C (by decide) hR (dall tdX6_opens 7 rfl) (by subst h; exact ⟨rfl, rfl⟩)
def pX6_opens_0  (σ : OS) : Int32 × OS := if (σ.1 25) = 5 then pX6_opens_12  (fX6_fail σ) else pX6_opens_28  (fX6_next (oI σ 25 ((σ.1 25) + 1)))
def oX6_opens_0  (σ : OS) : Prop := ((σ.1 25) = 5 → True) ∧ (¬ ((σ.1 25) = 5) → gX6_next (oI σ 25 ((σ.1 25) + 1)) )
set_option maxHeartbeats 4000000 in
set_option maxRecDepth 100000 in
theorem wX6_opens_0 {X : CX} {cy : Nat → ClassId} {q : Nat → Nat} {D : va_G} {A : Nat → Prop} {res : Int32 × OS} (σ : OS) (C : Cx X cX6_opens RX6 1 D (gty cy) A 2 0 0) (hR : Rt X (some .boolean) D (gty cy) A 0 0 (eI (wX6 cy q res.2) res.1))  (ok : oX6_opens_0  σ) (h : pX6_opens_0  σ = res) : At X D A 1 0 0 0 [(0, .ref (q 41))] [] (wX6 cy q σ) := by
  unfold pX6_opens_0 at h
  unfold oX6_opens_0 at ok
  refine r_aload_n C 0 (dall tdX6_opens 0 rfl) rfl ?_
  refine r_get C 0 kw_X6 rfl rfl (by decide) kf_X6_195 rfl rfl (dall tdX6_opens 1 rfl) ?_
  refine r_iconst (v := 5) C (dall tdX6_opens 2 rfl) (by decide) ?_
  refine r_icmp_ne (tgt := 14) C (dall tdX6_opens 3 rfl) (by decide) (fun c1 => ?_) (fun c1 => ?_)
  · have h := (if_neg c1).symm.trans h
    have ok := ok.2 c1
    refine r_aload_n C 0 (dall tdX6_opens 8 rfl) rfl ?_
    refine r_dup C (dall tdX6_opens 9 rfl) rfl ?_
    refine r_get C 0 kw_X6 rfl rfl (by decide) kf_X6_195 rfl rfl (dall tdX6_opens 10 rfl) ?_
    refine r_iconst (v := 1) C (dall tdX6_opens 11 rfl) (by decide) ?_
    refine r_iadd C (dall tdX6_opens 12 rfl) ?_
    refine r_put C 0 kw_X6 tyX6_ok nmX6 rfl rfl (by decide) kf_X6_195 rfl rfl rfl rfl rfl (Nat.le_of_ble_eq_true rfl) (pu_X6_this_25 cy q σ ((σ.1 25) + 1)) (dall tdX6_opens 13 rfl) ?_
    refine r_aload_n C 0 (dall tdX6_opens 14 rfl) rfl ?_
    have o2 := ok
    refine r_vV (as := []) C (zX6_next cy q (oI σ 25 ((σ.1 25) + 1))  o2) mv_X6_next km_X6_201 (by decide) (by decide) ⟨Nat.le_refl _, Nat.le_refl _⟩ rfl rfl rfl rfl (Nat.le_of_ble_eq_true rfl) (dall tdX6_opens 15 rfl) ?_
    refine r_pick [] rfl ?_
    exact wX6_opens_28 (fX6_next (oI σ 25 ((σ.1 25) + 1))) C hR  h
  · have h := (if_pos c1).symm.trans h
    have ok := ok.1 c1
    refine r_aload_n C 0 (dall tdX6_opens 4 rfl) rfl ?_
    refine r_vV (as := []) C (zX6_fail cy q σ  ) mv_X6_fail km_X6_198 (by decide) (by decide) ⟨Nat.le_refl _, Nat.le_refl _⟩ rfl rfl rfl rfl (Nat.le_of_ble_eq_true rfl) (dall tdX6_opens 5 rfl) ?_
    refine r_pick [] rfl ?_
    exact wX6_opens_12 (fX6_fail σ) C hR  h
def fX6_opens (σ : OS) : Int32 × OS := pX6_opens_0  σ
def gX6_opens (σ : OS) : Prop := oX6_opens_0  σ
set_option maxRecDepth 100000 in
theorem zX6_opens (cy : Nat → ClassId) (q : Nat → Nat)  {D : va_G} (σ : OS) (ok : gX6_opens σ )  : Con yX6_opens cX6_opens 1 (some .boolean) 2 0 0 D (gty cy) [.ref (q 41)] (wX6 cy q σ) (eI (wX6 cy q (fX6_opens σ ).2) (fX6_opens σ ).1) :=
  Con.of (own := RX6) (by decide +kernel) rfl (Nat.le_of_ble_eq_true rfl) (Nat.zero_le _) (fun X A C hR _ => (wX6_opens_0 σ C hR  ok rfl))
theorem mv_X6_opens : MV yX6_opens cX6_opens 1 (some .boolean) RX6 0 := ⟨ki_X6_opens, kv_X6_opens, kn_X6, kc_X6_opens, by decide +kernel⟩
def tbX6_isSign : List (Nat × Instr × Nat) := [(0, .aload_n 0, 1), (1, .getfield 184, 3), (4, .ifCond .ne 25, 3), (7, .aload_n 0, 1), (8, .getfield 168, 3), (11, .iconst 3, 1), (12, .if_icmp .ne 17, 3), (15, .aload_n 0, 1), (16, .getfield 179, 3), (19, .iload_n 1, 1), (20, .i2l, 1), (21, .lcmp, 1), (22, .ifCond .ne 7, 3), (25, .iconst 1, 1), (26, .goto 4, 3), (29, .iconst 0, 1), (30, .ireturn, 1)]
theorem tdX6_isSign : tbX6_isSign.all (fun q => decide (decode cX6_isSign q.1 = .ok q.2)) = true := by decide +kernel
def pX6_isSign_0  (σ : OS) (a1_ : Int32) : Int32 := if (σ.1 26) = 0 then if (σ.1 22) = 3 then if (σ.2.1 24) = a1_.toInt64 then 1 else 0 else 0 else 0
set_option maxHeartbeats 4000000 in
set_option maxRecDepth 100000 in
theorem wX6_isSign_0 {X : CX} {cy : Nat → ClassId} {q : Nat → Nat} {D : va_G} {A : Nat → Prop} {res : Int32} (σ : OS) (a1_ : Int32) (C : Cx X cX6_isSign RX6 2 D (gty cy) A 0 0 0) (hR : Rt X (some .boolean) D (gty cy) A 0 0 (eI (wX6 cy q σ) res))  (h : pX6_isSign_0  σ a1_ = res) : At X D A 2 0 0 0 [(0, .ref (q 41)), (1, .int a1_)] [] (wX6 cy q σ) := by
  unfold pX6_isSign_0 at h
  refine r_aload_n C 0 (dall tdX6_isSign 0 rfl) rfl ?_
  refine r_get C 0 kw_X6 rfl rfl (by decide) kf_X6_184 rfl rfl (dall tdX6_isSign 1 rfl) ?_
  refine r_if_ne (tgt := 29) C (dall tdX6_isSign 2 rfl) (by decide) (fun c1 => ?_) (fun c1 => ?_)
  · have h := (if_neg c1).symm.trans h
    refine r_iconst (v := 0) C (dall tdX6_isSign 15 rfl) (by decide) ?_
    exact r_zret C (by decide) hR (dall tdX6_isSign 16 rfl) (by subst h; exact ⟨rfl, rfl⟩)
  · have h := (if_pos c1).symm.trans h
    refine r_aload_n C 0 (dall tdX6_isSign 3 rfl) rfl ?_
    refine r_get C 0 kw_X6 rfl rfl (by decide) kf_X6_168 rfl rfl (dall tdX6_isSign 4 rfl) ?_
    refine r_iconst (v := 3) C (dall tdX6_isSign 5 rfl) (by decide) ?_
    refine r_icmp_ne (tgt := 29) C (dall tdX6_isSign 6 rfl) (by decide) (fun c2 => ?_) (fun c2 => ?_)
    · have h := (if_neg c2).symm.trans h
      refine r_iconst (v := 0) C (dall tdX6_isSign 15 rfl) (by decide) ?_
      exact r_zret C (by decide) hR (dall tdX6_isSign 16 rfl) (by subst h; exact ⟨rfl, rfl⟩)
    · have h := (if_pos c2).symm.trans h
      refine r_aload_n C 0 (dall tdX6_isSign 7 rfl) rfl ?_
      refine r_get C 0 kw_X6 rfl rfl (by decide) kf_X6_179 rfl rfl (dall tdX6_isSign 8 rfl) ?_
      refine r_iload_n C 1 (dall tdX6_isSign 9 rfl) rfl ?_
      refine r_i2l C (dall tdX6_isSign 10 rfl) ?_
      refine r_lif_ne (tgt := 29) C (dall tdX6_isSign 11 rfl) (dall tdX6_isSign 12 rfl) (by decide) (fun c3 => ?_) (fun c3 => ?_)
      · have h := (if_neg c3).symm.trans h
        refine r_iconst (v := 0) C (dall tdX6_isSign 15 rfl) (by decide) ?_
        exact r_zret C (by decide) hR (dall tdX6_isSign 16 rfl) (by subst h; exact ⟨rfl, rfl⟩)
      · have h := (if_pos c3).symm.trans h
        refine r_iconst (v := 1) C (dall tdX6_isSign 13 rfl) (by decide) ?_
        refine r_goto (tgt := 30) C (dall tdX6_isSign 14 rfl) (by decide) ?_
        exact r_zret C (by decide) hR (dall tdX6_isSign 16 rfl) (by subst h; exact ⟨rfl, rfl⟩)
def fX6_isSign (σ : OS) (a1_ : Int32) : Int32 := pX6_isSign_0  σ a1_
set_option maxRecDepth 100000 in
theorem zX6_isSign (cy : Nat → ClassId) (q : Nat → Nat)  {D : va_G} (σ : OS) (a1_ : Int32)  : Con yX6_isSign cX6_isSign 2 (some .boolean) 0 0 0 D (gty cy) [.ref (q 41), .int a1_] (wX6 cy q σ) (eI (wX6 cy q σ) (fX6_isSign σ a1_)) :=
  Con.of (own := RX6) (by decide +kernel) rfl (Nat.le_of_ble_eq_true rfl) (Nat.zero_le _) (fun X A C hR _ => (wX6_isSign_0 σ a1_ C hR  rfl))
theorem mv_X6_isSign : MV yX6_isSign cX6_isSign 2 (some .boolean) RX6 1 := ⟨ki_X6_isSign, kv_X6_isSign, kn_X6, kc_X6_isSign, by decide +kernel⟩
def tbX6_name : List (Nat × Instr × Nat) := [(0, .aload_n 0, 1), (1, .bipush 102, 2), (3, .bipush 105, 2), (5, .bipush 114, 2), (7, .bipush 109, 2), (9, .iconst 0, 1), (10, .iconst 0, 1), (11, .iconst 0, 1), (12, .iconst 0, 1), (13, .invokevirtual 204, 3), (16, .ifCond .eq 8, 3), (19, .aload_n 0, 1), (20, .getfield 208, 3), (23, .ireturn, 1), (24, .aload_n 0, 1), (25, .bipush 110, 2), (27, .bipush 117, 2), (29, .bipush 109, 2), (31, .bipush 98, 2), (33, .bipush 101, 2), (35, .bipush 114, 2), (37, .iconst 0, 1), (38, .iconst 0, 1), (39, .invokevirtual 204, 3), (42, .ifCond .eq 8, 3), (45, .aload_n 0, 1), (46, .getfield 211, 3), (49, .ireturn, 1), (50, .aload_n 0, 1), (51, .bipush 121, 2), (53, .bipush 101, 2), (55, .bipush 97, 2), (57, .bipush 114, 2), (59, .iconst 0, 1), (60, .iconst 0, 1), (61, .iconst 0, 1), (62, .iconst 0, 1), (63, .invokevirtual 204, 3), (66, .ifCond .eq 8, 3), (69, .aload_n 0, 1), (70, .getfield 214, 3), (73, .ireturn, 1), (74, .aload_n 0, 1), (75, .bipush 112, 2), (77, .bipush 97, 2), (79, .bipush 114, 2), (81, .bipush 116, 2), (83, .bipush 115, 2), (85, .iconst 0, 1), (86, .iconst 0, 1), (87, .iconst 0, 1), (88, .invokevirtual 204, 3), (91, .ifCond .eq 8, 3), (94, .aload_n 0, 1), (95, .getfield 217, 3), (98, .ireturn, 1), (99, .aload_n 0, 1), (100, .bipush 104, 2), (102, .bipush 105, 2), (104, .bipush 103, 2), (106, .bipush 104, 2), (108, .iconst 0, 1), (109, .iconst 0, 1), (110, .iconst 0, 1), (111, .iconst 0, 1), (112, .invokevirtual 204, 3), (115, .ifCond .eq 8, 3), (118, .aload_n 0, 1), (119, .getfield 220, 3), (122, .ireturn, 1), (123, .aload_n 0, 1), (124, .bipush 112, 2), (126, .bipush 97, 2), (128, .bipush 105, 2), (130, .bipush 100, 2), (132, .iconst 0, 1), (133, .iconst 0, 1), (134, .iconst 0, 1), (135, .iconst 0, 1), (136, .invokevirtual 204, 3), (139, .ifCond .eq 8, 3), (142, .aload_n 0, 1), (143, .getfield 223, 3), (146, .ireturn, 1), (147, .aload_n 0, 1), (148, .invokevirtual 198, 3), (151, .iconst 0, 1), (152, .ireturn, 1)]
theorem tdX6_name : tbX6_name.all (fun q => decide (decode cX6_name q.1 = .ok q.2)) = true := by decide +kernel
def pX6_name_151  (σ : OS) : Int32 × OS := (0, σ)
set_option maxHeartbeats 4000000 in
set_option maxRecDepth 100000 in
theorem wX6_name_151 {X : CX} {cy : Nat → ClassId} {q : Nat → Nat} {D : va_G} {A : Nat → Prop} {res : Int32 × OS} (σ : OS) (C : Cx X cX6_name RX6 1 D (gty cy) A 3 0 0) (hR : Rt X (some .int) D (gty cy) A 0 0 (eI (wX6 cy q res.2) res.1))  (h : pX6_name_151  σ = res) : At X D A 1 0 0 151 [] [] (wX6 cy q σ) := by
  unfold pX6_name_151 at h
  refine r_iconst (v := 0) C (dall tdX6_name 86 rfl) (by decide) ?_
  exact r_iret C hR (dall tdX6_name 87 rfl) (by subst h; exact ⟨rfl, rfl⟩)
def pX6_name_0  (σ : OS) : Int32 × OS := if (fX6_isWord σ 102 105 114 109 0 0 0 0) = 0 then if (fX6_isWord σ 110 117 109 98 101 114 0 0) = 0 then if (fX6_isWord σ 121 101 97 114 0 0 0 0) = 0 then if (fX6_isWord σ 112 97 114 116 115 0 0 0) = 0 then if (fX6_isWord σ 104 105 103 104 0 0 0 0) = 0 then if (fX6_isWord σ 112 97 105 100 0 0 0 0) = 0 then pX6_name_151  (fX6_fail σ) else (σ.1 18, σ) else (σ.1 17, σ) else (σ.1 16, σ) else (σ.1 15, σ) else (σ.1 14, σ) else (σ.1 13, σ)
def oX6_name_0  (σ : OS) : Prop := (gX6_isWord σ 102 105 114 109 0 0 0 0) ∧ (((fX6_isWord σ 102 105 114 109 0 0 0 0) = 0 → (gX6_isWord σ 110 117 109 98 101 114 0 0) ∧ (((fX6_isWord σ 110 117 109 98 101 114 0 0) = 0 → (gX6_isWord σ 121 101 97 114 0 0 0 0) ∧ (((fX6_isWord σ 121 101 97 114 0 0 0 0) = 0 → (gX6_isWord σ 112 97 114 116 115 0 0 0) ∧ (((fX6_isWord σ 112 97 114 116 115 0 0 0) = 0 → (gX6_isWord σ 104 105 103 104 0 0 0 0) ∧ (((fX6_isWord σ 104 105 103 104 0 0 0 0) = 0 → gX6_isWord σ 112 97 105 100 0 0 0 0) ∧ (¬ ((fX6_isWord σ 104 105 103 104 0 0 0 0) = 0) → True))) ∧ (¬ ((fX6_isWord σ 112 97 114 116 115 0 0 0) = 0) → True))) ∧ (¬ ((fX6_isWord σ 121 101 97 114 0 0 0 0) = 0) → True))) ∧ (¬ ((fX6_isWord σ 110 117 109 98 101 114 0 0) = 0) → True))) ∧ (¬ ((fX6_isWord σ 102 105 114 109 0 0 0 0) = 0) → True))
set_option maxHeartbeats 4000000 in
set_option maxRecDepth 100000 in
theorem wX6_name_0 {X : CX} {cy : Nat → ClassId} {q : Nat → Nat} {D : va_G} {A : Nat → Prop} {res : Int32 × OS} (σ : OS) (C : Cx X cX6_name RX6 1 D (gty cy) A 3 0 0) (hR : Rt X (some .int) D (gty cy) A 0 0 (eI (wX6 cy q res.2) res.1))  (ok : oX6_name_0  σ) (h : pX6_name_0  σ = res) : At X D A 1 0 0 0 [(0, .ref (q 41))] [] (wX6 cy q σ) := by
  unfold pX6_name_0 at h
  unfold oX6_name_0 at ok
  refine r_aload_n C 0 (dall tdX6_name 0 rfl) rfl ?_
  refine r_bipush (v := 102) C (dall tdX6_name 1 rfl) (by decide) ?_
  refine r_bipush (v := 105) C (dall tdX6_name 2 rfl) (by decide) ?_
  refine r_bipush (v := 114) C (dall tdX6_name 3 rfl) (by decide) ?_
  refine r_bipush (v := 109) C (dall tdX6_name 4 rfl) (by decide) ?_
  refine r_iconst (v := 0) C (dall tdX6_name 5 rfl) (by decide) ?_
  refine r_iconst (v := 0) C (dall tdX6_name 6 rfl) (by decide) ?_
  refine r_iconst (v := 0) C (dall tdX6_name 7 rfl) (by decide) ?_
  refine r_iconst (v := 0) C (dall tdX6_name 8 rfl) (by decide) ?_
  obtain ⟨o1, ok⟩ := ok
  refine r_vI (as := [.int 102, .int 105, .int 114, .int 109, .int 0, .int 0, .int 0, .int 0]) C (zX6_isWord cy q σ 102 105 114 109 0 0 0 0 o1) mv_X6_isWord km_X6_204 (by decide) (by decide) ⟨Nat.le_refl _, Nat.le_refl _⟩ rfl rfl rfl rfl (Nat.le_of_ble_eq_true rfl) (dall tdX6_name 9 rfl) ?_
  refine r_if_eq (tgt := 24) C (dall tdX6_name 10 rfl) (by decide) (fun c2 => ?_) (fun c2 => ?_)
  · have h := (if_pos c2).symm.trans h
    have ok := ok.1 c2
    refine r_aload_n C 0 (dall tdX6_name 14 rfl) rfl ?_
    refine r_bipush (v := 110) C (dall tdX6_name 15 rfl) (by decide) ?_
    refine r_bipush (v := 117) C (dall tdX6_name 16 rfl) (by decide) ?_
    refine r_bipush (v := 109) C (dall tdX6_name 17 rfl) (by decide) ?_
    refine r_bipush (v := 98) C (dall tdX6_name 18 rfl) (by decide) ?_
    refine r_bipush (v := 101) C (dall tdX6_name 19 rfl) (by decide) ?_
    refine r_bipush (v := 114) C (dall tdX6_name 20 rfl) (by decide) ?_
    refine r_iconst (v := 0) C (dall tdX6_name 21 rfl) (by decide) ?_
    refine r_iconst (v := 0) C (dall tdX6_name 22 rfl) (by decide) ?_
    obtain ⟨o3, ok⟩ := ok
    refine r_vI (as := [.int 110, .int 117, .int 109, .int 98, .int 101, .int 114, .int 0, .int 0]) C (zX6_isWord cy q σ 110 117 109 98 101 114 0 0 o3) mv_X6_isWord km_X6_204 (by decide) (by decide) ⟨Nat.le_refl _, Nat.le_refl _⟩ rfl rfl rfl rfl (Nat.le_of_ble_eq_true rfl) (dall tdX6_name 23 rfl) ?_
    refine r_if_eq (tgt := 50) C (dall tdX6_name 24 rfl) (by decide) (fun c4 => ?_) (fun c4 => ?_)
    · have h := (if_pos c4).symm.trans h
      have ok := ok.1 c4
      refine r_aload_n C 0 (dall tdX6_name 28 rfl) rfl ?_
      refine r_bipush (v := 121) C (dall tdX6_name 29 rfl) (by decide) ?_
      refine r_bipush (v := 101) C (dall tdX6_name 30 rfl) (by decide) ?_
      refine r_bipush (v := 97) C (dall tdX6_name 31 rfl) (by decide) ?_
      refine r_bipush (v := 114) C (dall tdX6_name 32 rfl) (by decide) ?_
      refine r_iconst (v := 0) C (dall tdX6_name 33 rfl) (by decide) ?_
      refine r_iconst (v := 0) C (dall tdX6_name 34 rfl) (by decide) ?_
      refine r_iconst (v := 0) C (dall tdX6_name 35 rfl) (by decide) ?_
      refine r_iconst (v := 0) C (dall tdX6_name 36 rfl) (by decide) ?_
      obtain ⟨o5, ok⟩ := ok
      refine r_vI (as := [.int 121, .int 101, .int 97, .int 114, .int 0, .int 0, .int 0, .int 0]) C (zX6_isWord cy q σ 121 101 97 114 0 0 0 0 o5) mv_X6_isWord km_X6_204 (by decide) (by decide) ⟨Nat.le_refl _, Nat.le_refl _⟩ rfl rfl rfl rfl (Nat.le_of_ble_eq_true rfl) (dall tdX6_name 37 rfl) ?_
      refine r_if_eq (tgt := 74) C (dall tdX6_name 38 rfl) (by decide) (fun c6 => ?_) (fun c6 => ?_)
      · have h := (if_pos c6).symm.trans h
        have ok := ok.1 c6
        refine r_aload_n C 0 (dall tdX6_name 42 rfl) rfl ?_
        refine r_bipush (v := 112) C (dall tdX6_name 43 rfl) (by decide) ?_
        refine r_bipush (v := 97) C (dall tdX6_name 44 rfl) (by decide) ?_
        refine r_bipush (v := 114) C (dall tdX6_name 45 rfl) (by decide) ?_
        refine r_bipush (v := 116) C (dall tdX6_name 46 rfl) (by decide) ?_
        refine r_bipush (v := 115) C (dall tdX6_name 47 rfl) (by decide) ?_
        refine r_iconst (v := 0) C (dall tdX6_name 48 rfl) (by decide) ?_
        refine r_iconst (v := 0) C (dall tdX6_name 49 rfl) (by decide) ?_
        refine r_iconst (v := 0) C (dall tdX6_name 50 rfl) (by decide) ?_
        obtain ⟨o7, ok⟩ := ok
        refine r_vI (as := [.int 112, .int 97, .int 114, .int 116, .int 115, .int 0, .int 0, .int 0]) C (zX6_isWord cy q σ 112 97 114 116 115 0 0 0 o7) mv_X6_isWord km_X6_204 (by decide) (by decide) ⟨Nat.le_refl _, Nat.le_refl _⟩ rfl rfl rfl rfl (Nat.le_of_ble_eq_true rfl) (dall tdX6_name 51 rfl) ?_
        refine r_if_eq (tgt := 99) C (dall tdX6_name 52 rfl) (by decide) (fun c8 => ?_) (fun c8 => ?_)
        · have h := (if_pos c8).symm.trans h
          have ok := ok.1 c8
          refine r_aload_n C 0 (dall tdX6_name 56 rfl) rfl ?_
          refine r_bipush (v := 104) C (dall tdX6_name 57 rfl) (by decide) ?_
          refine r_bipush (v := 105) C (dall tdX6_name 58 rfl) (by decide) ?_
          refine r_bipush (v := 103) C (dall tdX6_name 59 rfl) (by decide) ?_
          refine r_bipush (v := 104) C (dall tdX6_name 60 rfl) (by decide) ?_
          refine r_iconst (v := 0) C (dall tdX6_name 61 rfl) (by decide) ?_
          refine r_iconst (v := 0) C (dall tdX6_name 62 rfl) (by decide) ?_
          refine r_iconst (v := 0) C (dall tdX6_name 63 rfl) (by decide) ?_
          refine r_iconst (v := 0) C (dall tdX6_name 64 rfl) (by decide) ?_
          obtain ⟨o9, ok⟩ := ok
          refine r_vI (as := [.int 104, .int 105, .int 103, .int 104, .int 0, .int 0, .int 0, .int 0]) C (zX6_isWord cy q σ 104 105 103 104 0 0 0 0 o9) mv_X6_isWord km_X6_204 (by decide) (by decide) ⟨Nat.le_refl _, Nat.le_refl _⟩ rfl rfl rfl rfl (Nat.le_of_ble_eq_true rfl) (dall tdX6_name 65 rfl) ?_
          refine r_if_eq (tgt := 123) C (dall tdX6_name 66 rfl) (by decide) (fun c10 => ?_) (fun c10 => ?_)
          · have h := (if_pos c10).symm.trans h
            have ok := ok.1 c10
            refine r_aload_n C 0 (dall tdX6_name 70 rfl) rfl ?_
            refine r_bipush (v := 112) C (dall tdX6_name 71 rfl) (by decide) ?_
            refine r_bipush (v := 97) C (dall tdX6_name 72 rfl) (by decide) ?_
            refine r_bipush (v := 105) C (dall tdX6_name 73 rfl) (by decide) ?_
            refine r_bipush (v := 100) C (dall tdX6_name 74 rfl) (by decide) ?_
            refine r_iconst (v := 0) C (dall tdX6_name 75 rfl) (by decide) ?_
            refine r_iconst (v := 0) C (dall tdX6_name 76 rfl) (by decide) ?_
            refine r_iconst (v := 0) C (dall tdX6_name 77 rfl) (by decide) ?_
            refine r_iconst (v := 0) C (dall tdX6_name 78 rfl) (by decide) ?_
            have o11 := ok
            refine r_vI (as := [.int 112, .int 97, .int 105, .int 100, .int 0, .int 0, .int 0, .int 0]) C (zX6_isWord cy q σ 112 97 105 100 0 0 0 0 o11) mv_X6_isWord km_X6_204 (by decide) (by decide) ⟨Nat.le_refl _, Nat.le_refl _⟩ rfl rfl rfl rfl (Nat.le_of_ble_eq_true rfl) (dall tdX6_name 79 rfl) ?_
            refine r_if_eq (tgt := 147) C (dall tdX6_name 80 rfl) (by decide) (fun c12 => ?_) (fun c12 => ?_)
            · have h := (if_pos c12).symm.trans h
              refine r_aload_n C 0 (dall tdX6_name 84 rfl) rfl ?_
              refine r_vV (as := []) C (zX6_fail cy q σ  ) mv_X6_fail km_X6_198 (by decide) (by decide) ⟨Nat.le_refl _, Nat.le_refl _⟩ rfl rfl rfl rfl (Nat.le_of_ble_eq_true rfl) (dall tdX6_name 85 rfl) ?_
              refine r_pick [] rfl ?_
              exact wX6_name_151 (fX6_fail σ) C hR  h
            · have h := (if_neg c12).symm.trans h
              refine r_aload_n C 0 (dall tdX6_name 81 rfl) rfl ?_
              refine r_get C 0 kw_X6 rfl rfl (by decide) kf_X6_223 rfl rfl (dall tdX6_name 82 rfl) ?_
              exact r_iret C hR (dall tdX6_name 83 rfl) (by subst h; exact ⟨rfl, rfl⟩)
          · have h := (if_neg c10).symm.trans h
            have ok := ok.2 c10
            refine r_aload_n C 0 (dall tdX6_name 67 rfl) rfl ?_
            refine r_get C 0 kw_X6 rfl rfl (by decide) kf_X6_220 rfl rfl (dall tdX6_name 68 rfl) ?_
            exact r_iret C hR (dall tdX6_name 69 rfl) (by subst h; exact ⟨rfl, rfl⟩)
        · have h := (if_neg c8).symm.trans h
          have ok := ok.2 c8
          refine r_aload_n C 0 (dall tdX6_name 53 rfl) rfl ?_
          refine r_get C 0 kw_X6 rfl rfl (by decide) kf_X6_217 rfl rfl (dall tdX6_name 54 rfl) ?_
          exact r_iret C hR (dall tdX6_name 55 rfl) (by subst h; exact ⟨rfl, rfl⟩)
      · have h := (if_neg c6).symm.trans h
        have ok := ok.2 c6
        refine r_aload_n C 0 (dall tdX6_name 39 rfl) rfl ?_
        refine r_get C 0 kw_X6 rfl rfl (by decide) kf_X6_214 rfl rfl (dall tdX6_name 40 rfl) ?_
        exact r_iret C hR (dall tdX6_name 41 rfl) (by subst h; exact ⟨rfl, rfl⟩)
    · have h := (if_neg c4).symm.trans h
      have ok := ok.2 c4
      refine r_aload_n C 0 (dall tdX6_name 25 rfl) rfl ?_
      refine r_get C 0 kw_X6 rfl rfl (by decide) kf_X6_211 rfl rfl (dall tdX6_name 26 rfl) ?_
      exact r_iret C hR (dall tdX6_name 27 rfl) (by subst h; exact ⟨rfl, rfl⟩)
  · have h := (if_neg c2).symm.trans h
    have ok := ok.2 c2
    refine r_aload_n C 0 (dall tdX6_name 11 rfl) rfl ?_
    refine r_get C 0 kw_X6 rfl rfl (by decide) kf_X6_208 rfl rfl (dall tdX6_name 12 rfl) ?_
    exact r_iret C hR (dall tdX6_name 13 rfl) (by subst h; exact ⟨rfl, rfl⟩)
def fX6_name (σ : OS) : Int32 × OS := pX6_name_0  σ
def gX6_name (σ : OS) : Prop := oX6_name_0  σ
set_option maxRecDepth 100000 in
theorem zX6_name (cy : Nat → ClassId) (q : Nat → Nat)  {D : va_G} (σ : OS) (ok : gX6_name σ )  : Con yX6_name cX6_name 1 (some .int) 3 0 0 D (gty cy) [.ref (q 41)] (wX6 cy q σ) (eI (wX6 cy q (fX6_name σ ).2) (fX6_name σ ).1) :=
  Con.of (own := RX6) (by decide +kernel) rfl (Nat.le_of_ble_eq_true rfl) (Nat.zero_le _) (fun X A C hR _ => (wX6_name_0 σ C hR  ok rfl))
theorem mv_X6_name : MV yX6_name cX6_name 1 (some .int) RX6 0 := ⟨ki_X6_name, kv_X6_name, kn_X6, kc_X6_name, by decide +kernel⟩
def tbX6_atom5 : List (Nat × Instr × Nat) := [(0, .iconst 0, 1), (1, .istore_n 1, 1), (2, .aload_n 0, 1), (3, .bipush 45, 2), (5, .invokevirtual 226, 3), (8, .ifCond .eq 11, 3), (11, .aload_n 0, 1), (12, .invokevirtual 229, 3), (15, .pop, 1), (16, .goto 86, 3), (19, .aload_n 0, 1), (20, .bipush 40, 2), (22, .invokevirtual 226, 3), (25, .ifCond .eq 11, 3), (28, .aload_n 0, 1), (29, .invokevirtual 229, 3), (32, .pop, 1), (33, .goto 69, 3), (36, .aload_n 0, 1), (37, .getfield 184, 3), (40, .ifCond .ne 24, 3), (43, .aload_n 0, 1), (44, .getfield 168, 3), (47, .iconst 2, 1), (48, .if_icmp .ne 16, 3), (51, .aload_n 0, 1), (52, .getfield 179, 3), (55, .l2i, 1), (56, .istore_n 1, 1), (57, .aload_n 0, 1), (58, .invokevirtual 201, 3), (61, .goto 41, 3), (64, .aload_n 0, 1), (65, .getfield 184, 3), (68, .ifCond .ne 30, 3), (71, .aload_n 0, 1), (72, .getfield 168, 3), (75, .iconst 1, 1), (76, .if_icmp .ne 22, 3), (79, .aload_n 0, 1), (80, .invokevirtual 233, 3), (83, .istore_n 1, 1), (84, .aload_n 0, 1), (85, .getfield 184, 3), (88, .ifCond .ne 14, 3), (91, .aload_n 0, 1), (92, .invokevirtual 201, 3), (95, .goto 7, 3), (98, .aload_n 0, 1), (99, .invokevirtual 198, 3), (102, .iload_n 1, 1), (103, .ireturn, 1)]
theorem tdX6_atom5 : tbX6_atom5.all (fun q => decide (decode cX6_atom5 q.1 = .ok q.2)) = true := by decide +kernel
def pX6_atom5_102  (σ : OS) (a1_ : Int32) : Int32 × OS := (a1_, σ)
set_option maxHeartbeats 4000000 in
set_option maxRecDepth 100000 in
theorem wX6_atom5_102 {X : CX} {cy : Nat → ClassId} {q : Nat → Nat} {D : va_G} {A : Nat → Prop} {res : Int32 × OS} (σ : OS) (a1_ : Int32) (C : Cx X cX6_atom5 RX6 2 D (gty cy) A 4 0 0) (hR : Rt X (some .int) D (gty cy) A 0 0 (eI (wX6 cy q res.2) res.1))  (h : pX6_atom5_102  σ a1_ = res) : At X D A 2 0 0 102 [(1, .int a1_)] [] (wX6 cy q σ) := by
  unfold pX6_atom5_102 at h
  refine r_iload_n C 0 (dall tdX6_atom5 50 rfl) rfl ?_
  exact r_iret C hR (dall tdX6_atom5 51 rfl) (by subst h; exact ⟨rfl, rfl⟩)
def pX6_atom5_98  (σ : OS) (a1_ : Int32) : Int32 × OS := pX6_atom5_102  (fX6_fail σ) a1_
set_option maxHeartbeats 4000000 in
set_option maxRecDepth 100000 in
theorem wX6_atom5_98 {X : CX} {cy : Nat → ClassId} {q : Nat → Nat} {D : va_G} {A : Nat → Prop} {res : Int32 × OS} (σ : OS) (a1_ : Int32) (C : Cx X cX6_atom5 RX6 2 D (gty cy) A 4 0 0) (hR : Rt X (some .int) D (gty cy) A 0 0 (eI (wX6 cy q res.2) res.1))  (h : pX6_atom5_98  σ a1_ = res) : At X D A 2 0 0 98 [(0, .ref (q 41)), (1, .int a1_)] [] (wX6 cy q σ) := by
  unfold pX6_atom5_98 at h
  refine r_aload_n C 0 (dall tdX6_atom5 48 rfl) rfl ?_
  refine r_vV (as := []) C (zX6_fail cy q σ  ) mv_X6_fail km_X6_198 (by decide) (by decide) ⟨Nat.le_refl _, Nat.le_refl _⟩ rfl rfl rfl rfl (Nat.le_of_ble_eq_true rfl) (dall tdX6_atom5 49 rfl) ?_
  refine r_pick [1] rfl ?_
  exact wX6_atom5_102 (fX6_fail σ) a1_ C hR  h
def pX6_atom5_95  (σ : OS) (a1_ : Int32) : Int32 × OS := pX6_atom5_102  σ a1_
set_option maxHeartbeats 4000000 in
set_option maxRecDepth 100000 in
theorem wX6_atom5_95 {X : CX} {cy : Nat → ClassId} {q : Nat → Nat} {D : va_G} {A : Nat → Prop} {res : Int32 × OS} (σ : OS) (a1_ : Int32) (C : Cx X cX6_atom5 RX6 2 D (gty cy) A 4 0 0) (hR : Rt X (some .int) D (gty cy) A 0 0 (eI (wX6 cy q res.2) res.1))  (h : pX6_atom5_95  σ a1_ = res) : At X D A 2 0 0 95 [(1, .int a1_)] [] (wX6 cy q σ) := by
  unfold pX6_atom5_95 at h
  refine r_goto (tgt := 102) C (dall tdX6_atom5 47 rfl) (by decide) ?_
  exact wX6_atom5_102 σ a1_ C hR  h
def pX6_atom5_83  (σ : OS) (b0_ : Int32) : Int32 × OS := if (σ.1 26) = 0 then pX6_atom5_95  (fX6_next σ) b0_ else pX6_atom5_102  σ b0_
def oX6_atom5_83  (σ : OS) (b0_ : Int32) : Prop := ((σ.1 26) = 0 → gX6_next σ ) ∧ (¬ ((σ.1 26) = 0) → True)
set_option maxHeartbeats 4000000 in
set_option maxRecDepth 100000 in
theorem wX6_atom5_83 {X : CX} {cy : Nat → ClassId} {q : Nat → Nat} {D : va_G} {A : Nat → Prop} {res : Int32 × OS} (σ : OS) (b0_ : Int32) (C : Cx X cX6_atom5 RX6 2 D (gty cy) A 4 0 0) (hR : Rt X (some .int) D (gty cy) A 0 0 (eI (wX6 cy q res.2) res.1))  (ok : oX6_atom5_83  σ b0_) (h : pX6_atom5_83  σ b0_ = res) : At X D A 2 0 0 83 [(0, .ref (q 41))] [.int b0_] (wX6 cy q σ) := by
  unfold pX6_atom5_83 at h
  unfold oX6_atom5_83 at ok
  refine r_istore_n (lv' := [(1, .int b0_), (0, .ref (q 41))]) C (dall tdX6_atom5 41 rfl) (by decide) rfl ?_
  refine r_aload_n C 1 (dall tdX6_atom5 42 rfl) rfl ?_
  refine r_get C 0 kw_X6 rfl rfl (by decide) kf_X6_184 rfl rfl (dall tdX6_atom5 43 rfl) ?_
  refine r_if_ne (tgt := 102) C (dall tdX6_atom5 44 rfl) (by decide) (fun c1 => ?_) (fun c1 => ?_)
  · have h := (if_neg c1).symm.trans h
    have ok := ok.2 c1
    refine r_pick [0] rfl ?_
    exact wX6_atom5_102 σ b0_ C hR  h
  · have h := (if_pos c1).symm.trans h
    have ok := ok.1 c1
    refine r_aload_n C 1 (dall tdX6_atom5 45 rfl) rfl ?_
    have o2 := ok
    refine r_vV (as := []) C (zX6_next cy q σ  o2) mv_X6_next km_X6_201 (by decide) (by decide) ⟨Nat.le_refl _, Nat.le_refl _⟩ rfl rfl rfl rfl (Nat.le_of_ble_eq_true rfl) (dall tdX6_atom5 46 rfl) ?_
    refine r_pick [0] rfl ?_
    exact wX6_atom5_95 (fX6_next σ) b0_ C hR  h
def pX6_atom5_64  (σ : OS) (a1_ : Int32) : Int32 × OS := if (σ.1 26) = 0 then if (σ.1 22) = 1 then pX6_atom5_83  ((fX6_name σ ).2) ((fX6_name σ ).1) else pX6_atom5_98  σ a1_ else pX6_atom5_98  σ a1_
def oX6_atom5_64  (σ : OS) (a1_ : Int32) : Prop := ((σ.1 26) = 0 → ((σ.1 22) = 1 → (gX6_name σ ) ∧ (oX6_atom5_83  ((fX6_name σ ).2) ((fX6_name σ ).1))) ∧ (¬ ((σ.1 22) = 1) → True)) ∧ (¬ ((σ.1 26) = 0) → True)
set_option maxHeartbeats 4000000 in
set_option maxRecDepth 100000 in
theorem wX6_atom5_64 {X : CX} {cy : Nat → ClassId} {q : Nat → Nat} {D : va_G} {A : Nat → Prop} {res : Int32 × OS} (σ : OS) (a1_ : Int32) (C : Cx X cX6_atom5 RX6 2 D (gty cy) A 4 0 0) (hR : Rt X (some .int) D (gty cy) A 0 0 (eI (wX6 cy q res.2) res.1))  (ok : oX6_atom5_64  σ a1_) (h : pX6_atom5_64  σ a1_ = res) : At X D A 2 0 0 64 [(0, .ref (q 41)), (1, .int a1_)] [] (wX6 cy q σ) := by
  unfold pX6_atom5_64 at h
  unfold oX6_atom5_64 at ok
  refine r_aload_n C 0 (dall tdX6_atom5 32 rfl) rfl ?_
  refine r_get C 0 kw_X6 rfl rfl (by decide) kf_X6_184 rfl rfl (dall tdX6_atom5 33 rfl) ?_
  refine r_if_ne (tgt := 98) C (dall tdX6_atom5 34 rfl) (by decide) (fun c3 => ?_) (fun c3 => ?_)
  · have h := (if_neg c3).symm.trans h
    have ok := ok.2 c3
    exact wX6_atom5_98 σ a1_ C hR  h
  · have h := (if_pos c3).symm.trans h
    have ok := ok.1 c3
    refine r_aload_n C 0 (dall tdX6_atom5 35 rfl) rfl ?_
    refine r_get C 0 kw_X6 rfl rfl (by decide) kf_X6_168 rfl rfl (dall tdX6_atom5 36 rfl) ?_
    refine r_iconst (v := 1) C (dall tdX6_atom5 37 rfl) (by decide) ?_
    refine r_icmp_ne (tgt := 98) C (dall tdX6_atom5 38 rfl) (by decide) (fun c4 => ?_) (fun c4 => ?_)
    · have h := (if_neg c4).symm.trans h
      have ok := ok.2 c4
      exact wX6_atom5_98 σ a1_ C hR  h
    · have h := (if_pos c4).symm.trans h
      have ok := ok.1 c4
      refine r_aload_n C 0 (dall tdX6_atom5 39 rfl) rfl ?_
      obtain ⟨o5, ok⟩ := ok
      refine r_vI (as := []) C (zX6_name cy q σ  o5) mv_X6_name km_X6_233 (by decide) (by decide) ⟨Nat.le_refl _, Nat.le_refl _⟩ rfl rfl rfl rfl (Nat.le_of_ble_eq_true rfl) (dall tdX6_atom5 40 rfl) ?_
      refine r_pick [0] rfl ?_
      exact wX6_atom5_83 ((fX6_name σ ).2) ((fX6_name σ ).1) C hR  ok h
def pX6_atom5_61  (σ : OS) (a1_ : Int32) : Int32 × OS := pX6_atom5_102  σ a1_
set_option maxHeartbeats 4000000 in
set_option maxRecDepth 100000 in
theorem wX6_atom5_61 {X : CX} {cy : Nat → ClassId} {q : Nat → Nat} {D : va_G} {A : Nat → Prop} {res : Int32 × OS} (σ : OS) (a1_ : Int32) (C : Cx X cX6_atom5 RX6 2 D (gty cy) A 4 0 0) (hR : Rt X (some .int) D (gty cy) A 0 0 (eI (wX6 cy q res.2) res.1))  (h : pX6_atom5_61  σ a1_ = res) : At X D A 2 0 0 61 [(1, .int a1_)] [] (wX6 cy q σ) := by
  unfold pX6_atom5_61 at h
  refine r_goto (tgt := 102) C (dall tdX6_atom5 31 rfl) (by decide) ?_
  exact wX6_atom5_102 σ a1_ C hR  h
def pX6_atom5_32  (σ : OS) (a1_ : Int32) (b0_ : Int32) : Int32 × OS := pX6_atom5_102  σ a1_
set_option maxHeartbeats 4000000 in
set_option maxRecDepth 100000 in
theorem wX6_atom5_32 {X : CX} {cy : Nat → ClassId} {q : Nat → Nat} {D : va_G} {A : Nat → Prop} {res : Int32 × OS} (σ : OS) (a1_ : Int32) (b0_ : Int32) (C : Cx X cX6_atom5 RX6 2 D (gty cy) A 4 0 0) (hR : Rt X (some .int) D (gty cy) A 0 0 (eI (wX6 cy q res.2) res.1))  (h : pX6_atom5_32  σ a1_ b0_ = res) : At X D A 2 0 0 32 [(1, .int a1_)] [.int b0_] (wX6 cy q σ) := by
  unfold pX6_atom5_32 at h
  refine r_pop C (dall tdX6_atom5 16 rfl) rfl ?_
  refine r_goto (tgt := 102) C (dall tdX6_atom5 17 rfl) (by decide) ?_
  exact wX6_atom5_102 σ a1_ C hR  h
def pX6_atom5_15  (σ : OS) (a1_ : Int32) (b0_ : Int32) : Int32 × OS := pX6_atom5_102  σ a1_
set_option maxHeartbeats 4000000 in
set_option maxRecDepth 100000 in
theorem wX6_atom5_15 {X : CX} {cy : Nat → ClassId} {q : Nat → Nat} {D : va_G} {A : Nat → Prop} {res : Int32 × OS} (σ : OS) (a1_ : Int32) (b0_ : Int32) (C : Cx X cX6_atom5 RX6 2 D (gty cy) A 4 0 0) (hR : Rt X (some .int) D (gty cy) A 0 0 (eI (wX6 cy q res.2) res.1))  (h : pX6_atom5_15  σ a1_ b0_ = res) : At X D A 2 0 0 15 [(1, .int a1_)] [.int b0_] (wX6 cy q σ) := by
  unfold pX6_atom5_15 at h
  refine r_pop C (dall tdX6_atom5 8 rfl) rfl ?_
  refine r_goto (tgt := 102) C (dall tdX6_atom5 9 rfl) (by decide) ?_
  exact wX6_atom5_102 σ a1_ C hR  h
def pX6_atom5_0  (σ : OS) : Int32 × OS := if (fX6_isSign σ 45) = 0 then if (fX6_isSign σ 40) = 0 then if (σ.1 26) = 0 then if (σ.1 22) = 2 then pX6_atom5_61  (fX6_next σ) ((σ.2.1 24).toInt32) else pX6_atom5_64  σ 0 else pX6_atom5_64  σ 0 else pX6_atom5_32  ((fX6_opens σ ).2) 0 ((fX6_opens σ ).1) else pX6_atom5_15  ((fX6_opens σ ).2) 0 ((fX6_opens σ ).1)
def oX6_atom5_0  (σ : OS) : Prop := ((fX6_isSign σ 45) = 0 → ((fX6_isSign σ 40) = 0 → ((σ.1 26) = 0 → ((σ.1 22) = 2 → gX6_next σ ) ∧ (¬ ((σ.1 22) = 2) → oX6_atom5_64  σ 0)) ∧ (¬ ((σ.1 26) = 0) → oX6_atom5_64  σ 0)) ∧ (¬ ((fX6_isSign σ 40) = 0) → gX6_opens σ )) ∧ (¬ ((fX6_isSign σ 45) = 0) → gX6_opens σ )
set_option maxHeartbeats 4000000 in
set_option maxRecDepth 100000 in
theorem wX6_atom5_0 {X : CX} {cy : Nat → ClassId} {q : Nat → Nat} {D : va_G} {A : Nat → Prop} {res : Int32 × OS} (σ : OS) (C : Cx X cX6_atom5 RX6 2 D (gty cy) A 4 0 0) (hR : Rt X (some .int) D (gty cy) A 0 0 (eI (wX6 cy q res.2) res.1))  (ok : oX6_atom5_0  σ) (h : pX6_atom5_0  σ = res) : At X D A 2 0 0 0 [(0, .ref (q 41))] [] (wX6 cy q σ) := by
  unfold pX6_atom5_0 at h
  unfold oX6_atom5_0 at ok
  refine r_iconst (v := 0) C (dall tdX6_atom5 0 rfl) (by decide) ?_
  refine r_istore_n (lv' := [(1, .int 0), (0, .ref (q 41))]) C (dall tdX6_atom5 1 rfl) (by decide) rfl ?_
  refine r_aload_n C 1 (dall tdX6_atom5 2 rfl) rfl ?_
  refine r_bipush (v := 45) C (dall tdX6_atom5 3 rfl) (by decide) ?_
  refine r_vI (as := [.int 45]) C (zX6_isSign cy q σ 45 ) mv_X6_isSign km_X6_226 (by decide) (by decide) ⟨Nat.le_refl _, Nat.le_refl _⟩ rfl rfl rfl rfl (Nat.le_of_ble_eq_true rfl) (dall tdX6_atom5 4 rfl) ?_
  refine r_if_eq (tgt := 19) C (dall tdX6_atom5 5 rfl) (by decide) (fun c6 => ?_) (fun c6 => ?_)
  · have h := (if_pos c6).symm.trans h
    have ok := ok.1 c6
    refine r_aload_n C 1 (dall tdX6_atom5 10 rfl) rfl ?_
    refine r_bipush (v := 40) C (dall tdX6_atom5 11 rfl) (by decide) ?_
    refine r_vI (as := [.int 40]) C (zX6_isSign cy q σ 40 ) mv_X6_isSign km_X6_226 (by decide) (by decide) ⟨Nat.le_refl _, Nat.le_refl _⟩ rfl rfl rfl rfl (Nat.le_of_ble_eq_true rfl) (dall tdX6_atom5 12 rfl) ?_
    refine r_if_eq (tgt := 36) C (dall tdX6_atom5 13 rfl) (by decide) (fun c7 => ?_) (fun c7 => ?_)
    · have h := (if_pos c7).symm.trans h
      have ok := ok.1 c7
      refine r_aload_n C 1 (dall tdX6_atom5 18 rfl) rfl ?_
      refine r_get C 0 kw_X6 rfl rfl (by decide) kf_X6_184 rfl rfl (dall tdX6_atom5 19 rfl) ?_
      refine r_if_ne (tgt := 64) C (dall tdX6_atom5 20 rfl) (by decide) (fun c8 => ?_) (fun c8 => ?_)
      · have h := (if_neg c8).symm.trans h
        have ok := ok.2 c8
        refine r_pick [1, 0] rfl ?_
        exact wX6_atom5_64 σ 0 C hR  ok h
      · have h := (if_pos c8).symm.trans h
        have ok := ok.1 c8
        refine r_aload_n C 1 (dall tdX6_atom5 21 rfl) rfl ?_
        refine r_get C 0 kw_X6 rfl rfl (by decide) kf_X6_168 rfl rfl (dall tdX6_atom5 22 rfl) ?_
        refine r_iconst (v := 2) C (dall tdX6_atom5 23 rfl) (by decide) ?_
        refine r_icmp_ne (tgt := 64) C (dall tdX6_atom5 24 rfl) (by decide) (fun c9 => ?_) (fun c9 => ?_)
        · have h := (if_neg c9).symm.trans h
          have ok := ok.2 c9
          refine r_pick [1, 0] rfl ?_
          exact wX6_atom5_64 σ 0 C hR  ok h
        · have h := (if_pos c9).symm.trans h
          have ok := ok.1 c9
          refine r_aload_n C 1 (dall tdX6_atom5 25 rfl) rfl ?_
          refine r_get C 0 kw_X6 rfl rfl (by decide) kf_X6_179 rfl rfl (dall tdX6_atom5 26 rfl) ?_
          refine r_l2i C (dall tdX6_atom5 27 rfl) ?_
          refine r_istore_n (lv' := [(1, .int ((σ.2.1 24).toInt32)), (0, .ref (q 41))]) C (dall tdX6_atom5 28 rfl) (by decide) rfl ?_
          refine r_aload_n C 1 (dall tdX6_atom5 29 rfl) rfl ?_
          have o10 := ok
          refine r_vV (as := []) C (zX6_next cy q σ  o10) mv_X6_next km_X6_201 (by decide) (by decide) ⟨Nat.le_refl _, Nat.le_refl _⟩ rfl rfl rfl rfl (Nat.le_of_ble_eq_true rfl) (dall tdX6_atom5 30 rfl) ?_
          refine r_pick [0] rfl ?_
          exact wX6_atom5_61 (fX6_next σ) ((σ.2.1 24).toInt32) C hR  h
    · have h := (if_neg c7).symm.trans h
      have ok := ok.2 c7
      refine r_aload_n C 1 (dall tdX6_atom5 14 rfl) rfl ?_
      have o11 := ok
      refine r_vI (as := []) C (zX6_opens cy q σ  o11) mv_X6_opens km_X6_229 (by decide) (by decide) ⟨Nat.le_refl _, Nat.le_refl _⟩ rfl rfl rfl rfl (Nat.le_of_ble_eq_true rfl) (dall tdX6_atom5 15 rfl) ?_
      refine r_pick [0] rfl ?_
      exact wX6_atom5_32 ((fX6_opens σ ).2) 0 ((fX6_opens σ ).1) C hR  h
  · have h := (if_neg c6).symm.trans h
    have ok := ok.2 c6
    refine r_aload_n C 1 (dall tdX6_atom5 6 rfl) rfl ?_
    have o12 := ok
    refine r_vI (as := []) C (zX6_opens cy q σ  o12) mv_X6_opens km_X6_229 (by decide) (by decide) ⟨Nat.le_refl _, Nat.le_refl _⟩ rfl rfl rfl rfl (Nat.le_of_ble_eq_true rfl) (dall tdX6_atom5 7 rfl) ?_
    refine r_pick [0] rfl ?_
    exact wX6_atom5_15 ((fX6_opens σ ).2) 0 ((fX6_opens σ ).1) C hR  h
def fX6_atom5 (σ : OS) : Int32 × OS := pX6_atom5_0  σ
def gX6_atom5 (σ : OS) : Prop := oX6_atom5_0  σ
set_option maxRecDepth 100000 in
theorem zX6_atom5 (cy : Nat → ClassId) (q : Nat → Nat)  {D : va_G} (σ : OS) (ok : gX6_atom5 σ )  : Con yX6_atom5 cX6_atom5 2 (some .int) 4 0 0 D (gty cy) [.ref (q 41)] (wX6 cy q σ) (eI (wX6 cy q (fX6_atom5 σ ).2) (fX6_atom5 σ ).1) :=
  Con.of (own := RX6) (by decide +kernel) rfl (Nat.le_of_ble_eq_true rfl) (Nat.zero_le _) (fun X A C hR _ => (wX6_atom5_0 σ C hR  ok rfl))
theorem mv_X6_atom5 : MV yX6_atom5 cX6_atom5 2 (some .int) RX6 0 := ⟨ki_X6_atom5, kv_X6_atom5, kn_X6, kc_X6_atom5, by decide +kernel⟩
def tbX6_term5 : List (Nat × Instr × Nat) := [(0, .aload_n 0, 1), (1, .invokevirtual 236, 3), (4, .istore_n 1, 1), (5, .aload_n 0, 1), (6, .bipush 42, 2), (8, .invokevirtual 226, 3), (11, .ifCond .eq 17, 3), (14, .aload_n 0, 1), (15, .invokevirtual 201, 3), (18, .iload_n 1, 1), (19, .aload_n 0, 1), (20, .invokevirtual 236, 3), (23, .imul, 1), (24, .istore_n 1, 1), (25, .goto (-20), 3), (28, .iload_n 1, 1), (29, .ireturn, 1)]
theorem tdX6_term5 : tbX6_term5.all (fun q => decide (decode cX6_term5 q.1 = .ok q.2)) = true := by decide +kernel
def pX6_term5_23 (kR5 : OS × Int32 → Int32 × OS) (σ : OS) (b0_ : Int32) (b1_ : Int32) : Int32 × OS := kR5 (σ, b1_ * b0_)
def oX6_term5_23 (kO5 : OS × Int32 → Prop) (σ : OS) (b0_ : Int32) (b1_ : Int32) : Prop := kO5 (σ, b1_ * b0_)
set_option maxHeartbeats 4000000 in
set_option maxRecDepth 100000 in
theorem wX6_term5_23 {X : CX} {cy : Nat → ClassId} {q : Nat → Nat} {D : va_G} {A : Nat → Prop} {res : Int32 × OS} (σ : OS) (b0_ : Int32) (b1_ : Int32) (C : Cx X cX6_term5 RX6 2 D (gty cy) A 5 0 0) (hR : Rt X (some .int) D (gty cy) A 0 0 (eI (wX6 cy q res.2) res.1)) (kR5 : OS × Int32 → Int32 × OS) (kO5 : OS × Int32 → Prop) (hk5 : ∀ z, kO5 z → kR5 z = res → At X D A 2 0 0 5 [(0, .ref (q 41)), (1, .int z.2)] [] (wX6 cy q z.1)) (ok : oX6_term5_23 kO5 σ b0_ b1_) (h : pX6_term5_23 kR5 σ b0_ b1_ = res) : At X D A 2 0 0 23 [(0, .ref (q 41))] [.int b0_, .int b1_] (wX6 cy q σ) := by
  unfold pX6_term5_23 at h
  unfold oX6_term5_23 at ok
  refine r_imul C (dall tdX6_term5 12 rfl) ?_
  refine r_istore_n (lv' := [(1, .int (b1_ * b0_)), (0, .ref (q 41))]) C (dall tdX6_term5 13 rfl) (by decide) rfl ?_
  refine r_goto (tgt := 5) C (dall tdX6_term5 14 rfl) (by decide) ?_
  refine r_pick [1, 0] rfl ?_
  exact hk5 (σ, b1_ * b0_) ok h
def pX6_term5_18 (kR5 : OS × Int32 → Int32 × OS) (σ : OS) (a1_ : Int32) : Int32 × OS := pX6_term5_23 kR5 ((fX6_atom5 σ ).2) ((fX6_atom5 σ ).1) a1_
def oX6_term5_18 (kO5 : OS × Int32 → Prop) (σ : OS) (a1_ : Int32) : Prop := (gX6_atom5 σ ) ∧ (oX6_term5_23 kO5 ((fX6_atom5 σ ).2) ((fX6_atom5 σ ).1) a1_)
set_option maxHeartbeats 4000000 in
set_option maxRecDepth 100000 in
theorem wX6_term5_18 {X : CX} {cy : Nat → ClassId} {q : Nat → Nat} {D : va_G} {A : Nat → Prop} {res : Int32 × OS} (σ : OS) (a1_ : Int32) (C : Cx X cX6_term5 RX6 2 D (gty cy) A 5 0 0) (hR : Rt X (some .int) D (gty cy) A 0 0 (eI (wX6 cy q res.2) res.1)) (kR5 : OS × Int32 → Int32 × OS) (kO5 : OS × Int32 → Prop) (hk5 : ∀ z, kO5 z → kR5 z = res → At X D A 2 0 0 5 [(0, .ref (q 41)), (1, .int z.2)] [] (wX6 cy q z.1)) (ok : oX6_term5_18 kO5 σ a1_) (h : pX6_term5_18 kR5 σ a1_ = res) : At X D A 2 0 0 18 [(0, .ref (q 41)), (1, .int a1_)] [] (wX6 cy q σ) := by
  unfold pX6_term5_18 at h
  unfold oX6_term5_18 at ok
  refine r_iload_n C 1 (dall tdX6_term5 9 rfl) rfl ?_
  refine r_aload_n C 0 (dall tdX6_term5 10 rfl) rfl ?_
  obtain ⟨o1, ok⟩ := ok
  refine r_vI (as := []) C (zX6_atom5 cy q σ  o1) mv_X6_atom5 km_X6_236 (by decide) (by decide) ⟨Nat.le_refl _, Nat.le_refl _⟩ rfl rfl rfl rfl (Nat.le_of_ble_eq_true rfl) (dall tdX6_term5 11 rfl) ?_
  refine r_pick [0] rfl ?_
  exact wX6_term5_23 ((fX6_atom5 σ ).2) ((fX6_atom5 σ ).1) a1_ C hR kR5 kO5 hk5 ok h
def bX6_term5_5   (kR5 : OS × Int32 → Int32 × OS) (v : OS × Int32) : Int32 × OS := if (fX6_isSign v.1 42) = 0 then (v.2, v.1) else pX6_term5_18 kR5 (fX6_next v.1) v.2
def kX6_term5_5   (kO5 : OS × Int32 → Prop) (v : OS × Int32) : Prop := ((fX6_isSign v.1 42) = 0 → True) ∧ (¬ ((fX6_isSign v.1 42) = 0) → (gX6_next v.1 ) ∧ (oX6_term5_18 kO5 (fX6_next v.1) v.2))
set_option maxHeartbeats 4000000 in
set_option maxRecDepth 100000 in
theorem wX6_term5_5 {X : CX} {cy : Nat → ClassId} {q : Nat → Nat} {D : va_G} {A : Nat → Prop} {res : Int32 × OS}  (C : Cx X cX6_term5 RX6 2 D (gty cy) A 5 0 0) (hR : Rt X (some .int) D (gty cy) A 0 0 (eI (wX6 cy q res.2) res.1)) (kR5 : OS × Int32 → Int32 × OS) (kO5 : OS × Int32 → Prop) (hk5 : ∀ z, kO5 z → kR5 z = res → At X D A 2 0 0 5 [(0, .ref (q 41)), (1, .int z.2)] [] (wX6 cy q z.1)) (v : OS × Int32) (ok : kX6_term5_5  kO5 v) (h : bX6_term5_5  kR5 v = res) : At X D A 2 0 0 5 [(0, .ref (q 41)), (1, .int v.2)] [] (wX6 cy q v.1) := by
  unfold bX6_term5_5 at h
  unfold kX6_term5_5 at ok
  refine r_aload_n C 0 (dall tdX6_term5 3 rfl) rfl ?_
  refine r_bipush (v := 42) C (dall tdX6_term5 4 rfl) (by decide) ?_
  refine r_vI (as := [.int 42]) C (zX6_isSign cy q v.1 42 ) mv_X6_isSign km_X6_226 (by decide) (by decide) ⟨Nat.le_refl _, Nat.le_refl _⟩ rfl rfl rfl rfl (Nat.le_of_ble_eq_true rfl) (dall tdX6_term5 5 rfl) ?_
  refine r_if_eq (tgt := 28) C (dall tdX6_term5 6 rfl) (by decide) (fun c2 => ?_) (fun c2 => ?_)
  · have h := (if_pos c2).symm.trans h
    have ok := ok.1 c2
    refine r_iload_n C 1 (dall tdX6_term5 15 rfl) rfl ?_
    exact r_iret C hR (dall tdX6_term5 16 rfl) (by subst h; exact ⟨rfl, rfl⟩)
  · have h := (if_neg c2).symm.trans h
    have ok := ok.2 c2
    refine r_aload_n C 0 (dall tdX6_term5 7 rfl) rfl ?_
    obtain ⟨o3, ok⟩ := ok
    refine r_vV (as := []) C (zX6_next cy q v.1  o3) mv_X6_next km_X6_201 (by decide) (by decide) ⟨Nat.le_refl _, Nat.le_refl _⟩ rfl rfl rfl rfl (Nat.le_of_ble_eq_true rfl) (dall tdX6_term5 8 rfl) ?_
    exact wX6_term5_18 (fX6_next v.1) v.2 C hR kR5 kO5 hk5 ok h
set_option maxHeartbeats 4000000 in
set_option maxRecDepth 100000 in
theorem lX6_term5_5 {X : CX} {cy : Nat → ClassId} {q : Nat → Nat} {D : va_G} {A : Nat → Prop} {res : Int32 × OS}  (C : Cx X cX6_term5 RX6 2 D (gty cy) A 5 0 0) (hR : Rt X (some .int) D (gty cy) A 0 0 (eI (wX6 cy q res.2) res.1))  (n : Nat) (v : OS × Int32) (ok : lpOk (kX6_term5_5  ) n v) (h : lp (0, o0) (bX6_term5_5  ) n v = res) : At X D A 2 0 0 5 [(0, .ref (q 41)), (1, .int v.2)] [] (wX6 cy q v.1) :=
  lp_rule (fun v rr_ => rr_ = res → At X D A 2 0 0 5 [(0, .ref (q 41)), (1, .int v.2)] [] (wX6 cy q v.1)) (fun kR kO hk v ok h => wX6_term5_5  C hR  kR kO hk v ok h) n v ok h
def pX6_term5_4  (σ : OS) (b0_ : Int32) : Int32 × OS := lp (0, o0) (bX6_term5_5  ) fu (σ, b0_)
def oX6_term5_4  (σ : OS) (b0_ : Int32) : Prop := lpOk (kX6_term5_5  ) fu (σ, b0_)
set_option maxHeartbeats 4000000 in
set_option maxRecDepth 100000 in
theorem wX6_term5_4 {X : CX} {cy : Nat → ClassId} {q : Nat → Nat} {D : va_G} {A : Nat → Prop} {res : Int32 × OS} (σ : OS) (b0_ : Int32) (C : Cx X cX6_term5 RX6 2 D (gty cy) A 5 0 0) (hR : Rt X (some .int) D (gty cy) A 0 0 (eI (wX6 cy q res.2) res.1))  (ok : oX6_term5_4  σ b0_) (h : pX6_term5_4  σ b0_ = res) : At X D A 2 0 0 4 [(0, .ref (q 41))] [.int b0_] (wX6 cy q σ) := by
  unfold pX6_term5_4 at h
  unfold oX6_term5_4 at ok
  refine r_istore_n (lv' := [(1, .int b0_), (0, .ref (q 41))]) C (dall tdX6_term5 2 rfl) (by decide) rfl ?_
  refine r_pick [1, 0] rfl ?_
  exact lX6_term5_5  C hR  fu _ ok h
def pX6_term5_0  (σ : OS) : Int32 × OS := pX6_term5_4  ((fX6_atom5 σ ).2) ((fX6_atom5 σ ).1)
def oX6_term5_0  (σ : OS) : Prop := (gX6_atom5 σ ) ∧ (oX6_term5_4  ((fX6_atom5 σ ).2) ((fX6_atom5 σ ).1))
set_option maxHeartbeats 4000000 in
set_option maxRecDepth 100000 in
theorem wX6_term5_0 {X : CX} {cy : Nat → ClassId} {q : Nat → Nat} {D : va_G} {A : Nat → Prop} {res : Int32 × OS} (σ : OS) (C : Cx X cX6_term5 RX6 2 D (gty cy) A 5 0 0) (hR : Rt X (some .int) D (gty cy) A 0 0 (eI (wX6 cy q res.2) res.1))  (ok : oX6_term5_0  σ) (h : pX6_term5_0  σ = res) : At X D A 2 0 0 0 [(0, .ref (q 41))] [] (wX6 cy q σ) := by
  unfold pX6_term5_0 at h
  unfold oX6_term5_0 at ok
  refine r_aload_n C 0 (dall tdX6_term5 0 rfl) rfl ?_
  obtain ⟨o4, ok⟩ := ok
  refine r_vI (as := []) C (zX6_atom5 cy q σ  o4) mv_X6_atom5 km_X6_236 (by decide) (by decide) ⟨Nat.le_refl _, Nat.le_refl _⟩ rfl rfl rfl rfl (Nat.le_of_ble_eq_true rfl) (dall tdX6_term5 1 rfl) ?_
  exact wX6_term5_4 ((fX6_atom5 σ ).2) ((fX6_atom5 σ ).1) C hR  ok h
def fX6_term5 (σ : OS) : Int32 × OS := pX6_term5_0  σ
def gX6_term5 (σ : OS) : Prop := oX6_term5_0  σ
set_option maxRecDepth 100000 in
theorem zX6_term5 (cy : Nat → ClassId) (q : Nat → Nat)  {D : va_G} (σ : OS) (ok : gX6_term5 σ )  : Con yX6_term5 cX6_term5 2 (some .int) 5 0 0 D (gty cy) [.ref (q 41)] (wX6 cy q σ) (eI (wX6 cy q (fX6_term5 σ ).2) (fX6_term5 σ ).1) :=
  Con.of (own := RX6) (by decide +kernel) rfl (Nat.le_of_ble_eq_true rfl) (Nat.zero_le _) (fun X A C hR _ => (wX6_term5_0 σ C hR  ok rfl))
theorem mv_X6_term5 : MV yX6_term5 cX6_term5 2 (some .int) RX6 0 := ⟨ki_X6_term5, kv_X6_term5, kn_X6, kc_X6_term5, by decide +kernel⟩
def tbX6_added5 : List (Nat × Instr × Nat) := [(0, .aload_n 0, 1), (1, .invokevirtual 239, 3), (4, .istore_n 1, 1), (5, .aload_n 0, 1), (6, .bipush 43, 2), (8, .invokevirtual 226, 3), (11, .ifCond .ne 12, 3), (14, .aload_n 0, 1), (15, .bipush 45, 2), (17, .invokevirtual 226, 3), (20, .ifCond .eq 46, 3), (23, .aload_n 0, 1), (24, .getfield 179, 3), (27, .ldc2_w 242, 3), (30, .lcmp, 1), (31, .ifCond .ne 7, 3), (34, .iconst 1, 1), (35, .goto 4, 3), (38, .iconst 0, 1), (39, .istore_n 2, 1), (40, .aload_n 0, 1), (41, .invokevirtual 201, 3), (44, .aload_n 0, 1), (45, .invokevirtual 239, 3), (48, .istore_n 3, 1), (49, .iload_n 2, 1), (50, .ifCond .eq 9, 3), (53, .iload_n 1, 1), (54, .iload_n 3, 1), (55, .iadd, 1), (56, .goto 6, 3), (59, .iload_n 1, 1), (60, .iload_n 3, 1), (61, .isub, 1), (62, .istore_n 1, 1), (63, .goto (-58), 3), (66, .iload_n 1, 1), (67, .ireturn, 1)]
theorem tdX6_added5 : tbX6_added5.all (fun q => decide (decode cX6_added5 q.1 = .ok q.2)) = true := by decide +kernel
def pX6_added5_62 (kR5 : OS × Int32 → Int32 × OS) (σ : OS) (b0_ : Int32) : Int32 × OS := kR5 (σ, b0_)
def oX6_added5_62 (kO5 : OS × Int32 → Prop) (σ : OS) (b0_ : Int32) : Prop := kO5 (σ, b0_)
set_option maxHeartbeats 4000000 in
set_option maxRecDepth 100000 in
theorem wX6_added5_62 {X : CX} {cy : Nat → ClassId} {q : Nat → Nat} {D : va_G} {A : Nat → Prop} {res : Int32 × OS} (σ : OS) (b0_ : Int32) (C : Cx X cX6_added5 RX6 4 D (gty cy) A 6 0 0) (hR : Rt X (some .int) D (gty cy) A 0 0 (eI (wX6 cy q res.2) res.1)) (kR5 : OS × Int32 → Int32 × OS) (kO5 : OS × Int32 → Prop) (hk5 : ∀ z, kO5 z → kR5 z = res → At X D A 4 0 0 5 [(0, .ref (q 41)), (1, .int z.2)] [] (wX6 cy q z.1)) (ok : oX6_added5_62 kO5 σ b0_) (h : pX6_added5_62 kR5 σ b0_ = res) : At X D A 4 0 0 62 [(0, .ref (q 41))] [.int b0_] (wX6 cy q σ) := by
  unfold pX6_added5_62 at h
  unfold oX6_added5_62 at ok
  refine r_istore_n (lv' := [(1, .int b0_), (0, .ref (q 41))]) C (dall tdX6_added5 34 rfl) (by decide) rfl ?_
  refine r_goto (tgt := 5) C (dall tdX6_added5 35 rfl) (by decide) ?_
  refine r_pick [1, 0] rfl ?_
  exact hk5 (σ, b0_) ok h
def pX6_added5_48 (kR5 : OS × Int32 → Int32 × OS) (σ : OS) (a1_ : Int32) (a2_ : Int32) (b0_ : Int32) : Int32 × OS := if a2_ = 0 then pX6_added5_62 kR5 σ (a1_ - b0_) else pX6_added5_62 kR5 σ (a1_ + b0_)
def oX6_added5_48 (kO5 : OS × Int32 → Prop) (σ : OS) (a1_ : Int32) (a2_ : Int32) (b0_ : Int32) : Prop := (a2_ = 0 → oX6_added5_62 kO5 σ (a1_ - b0_)) ∧ (¬ (a2_ = 0) → oX6_added5_62 kO5 σ (a1_ + b0_))
set_option maxHeartbeats 4000000 in
set_option maxRecDepth 100000 in
theorem wX6_added5_48 {X : CX} {cy : Nat → ClassId} {q : Nat → Nat} {D : va_G} {A : Nat → Prop} {res : Int32 × OS} (σ : OS) (a1_ : Int32) (a2_ : Int32) (b0_ : Int32) (C : Cx X cX6_added5 RX6 4 D (gty cy) A 6 0 0) (hR : Rt X (some .int) D (gty cy) A 0 0 (eI (wX6 cy q res.2) res.1)) (kR5 : OS × Int32 → Int32 × OS) (kO5 : OS × Int32 → Prop) (hk5 : ∀ z, kO5 z → kR5 z = res → At X D A 4 0 0 5 [(0, .ref (q 41)), (1, .int z.2)] [] (wX6 cy q z.1)) (ok : oX6_added5_48 kO5 σ a1_ a2_ b0_) (h : pX6_added5_48 kR5 σ a1_ a2_ b0_ = res) : At X D A 4 0 0 48 [(0, .ref (q 41)), (1, .int a1_), (2, .int a2_)] [.int b0_] (wX6 cy q σ) := by
  unfold pX6_added5_48 at h
  unfold oX6_added5_48 at ok
  refine r_istore_n (lv' := [(3, .int b0_), (0, .ref (q 41)), (1, .int a1_), (2, .int a2_)]) C (dall tdX6_added5 24 rfl) (by decide) rfl ?_
  refine r_iload_n C 3 (dall tdX6_added5 25 rfl) rfl ?_
  refine r_if_eq (tgt := 59) C (dall tdX6_added5 26 rfl) (by decide) (fun c1 => ?_) (fun c1 => ?_)
  · have h := (if_pos c1).symm.trans h
    have ok := ok.1 c1
    refine r_iload_n C 2 (dall tdX6_added5 31 rfl) rfl ?_
    refine r_iload_n C 0 (dall tdX6_added5 32 rfl) rfl ?_
    refine r_isub C (dall tdX6_added5 33 rfl) ?_
    refine r_pick [1] rfl ?_
    exact wX6_added5_62 σ (a1_ - b0_) C hR kR5 kO5 hk5 ok h
  · have h := (if_neg c1).symm.trans h
    have ok := ok.2 c1
    refine r_iload_n C 2 (dall tdX6_added5 27 rfl) rfl ?_
    refine r_iload_n C 0 (dall tdX6_added5 28 rfl) rfl ?_
    refine r_iadd C (dall tdX6_added5 29 rfl) ?_
    refine r_goto (tgt := 62) C (dall tdX6_added5 30 rfl) (by decide) ?_
    refine r_pick [1] rfl ?_
    exact wX6_added5_62 σ (a1_ + b0_) C hR kR5 kO5 hk5 ok h
def pX6_added5_44 (kR5 : OS × Int32 → Int32 × OS) (σ : OS) (a1_ : Int32) (a2_ : Int32) : Int32 × OS := pX6_added5_48 kR5 ((fX6_term5 σ ).2) a1_ a2_ ((fX6_term5 σ ).1)
def oX6_added5_44 (kO5 : OS × Int32 → Prop) (σ : OS) (a1_ : Int32) (a2_ : Int32) : Prop := (gX6_term5 σ ) ∧ (oX6_added5_48 kO5 ((fX6_term5 σ ).2) a1_ a2_ ((fX6_term5 σ ).1))
set_option maxHeartbeats 4000000 in
set_option maxRecDepth 100000 in
theorem wX6_added5_44 {X : CX} {cy : Nat → ClassId} {q : Nat → Nat} {D : va_G} {A : Nat → Prop} {res : Int32 × OS} (σ : OS) (a1_ : Int32) (a2_ : Int32) (C : Cx X cX6_added5 RX6 4 D (gty cy) A 6 0 0) (hR : Rt X (some .int) D (gty cy) A 0 0 (eI (wX6 cy q res.2) res.1)) (kR5 : OS × Int32 → Int32 × OS) (kO5 : OS × Int32 → Prop) (hk5 : ∀ z, kO5 z → kR5 z = res → At X D A 4 0 0 5 [(0, .ref (q 41)), (1, .int z.2)] [] (wX6 cy q z.1)) (ok : oX6_added5_44 kO5 σ a1_ a2_) (h : pX6_added5_44 kR5 σ a1_ a2_ = res) : At X D A 4 0 0 44 [(0, .ref (q 41)), (1, .int a1_), (2, .int a2_)] [] (wX6 cy q σ) := by
  unfold pX6_added5_44 at h
  unfold oX6_added5_44 at ok
  refine r_aload_n C 0 (dall tdX6_added5 22 rfl) rfl ?_
  obtain ⟨o2, ok⟩ := ok
  refine r_vI (as := []) C (zX6_term5 cy q σ  o2) mv_X6_term5 km_X6_239 (by decide) (by decide) ⟨Nat.le_refl _, Nat.le_refl _⟩ rfl rfl rfl rfl (Nat.le_of_ble_eq_true rfl) (dall tdX6_added5 23 rfl) ?_
  exact wX6_added5_48 ((fX6_term5 σ ).2) a1_ a2_ ((fX6_term5 σ ).1) C hR kR5 kO5 hk5 ok h
def pX6_added5_39 (kR5 : OS × Int32 → Int32 × OS) (σ : OS) (a1_ : Int32) (b0_ : Int32) : Int32 × OS := pX6_added5_44 kR5 (fX6_next σ) a1_ b0_
def oX6_added5_39 (kO5 : OS × Int32 → Prop) (σ : OS) (a1_ : Int32) (b0_ : Int32) : Prop := (gX6_next σ ) ∧ (oX6_added5_44 kO5 (fX6_next σ) a1_ b0_)
set_option maxHeartbeats 4000000 in
set_option maxRecDepth 100000 in
theorem wX6_added5_39 {X : CX} {cy : Nat → ClassId} {q : Nat → Nat} {D : va_G} {A : Nat → Prop} {res : Int32 × OS} (σ : OS) (a1_ : Int32) (b0_ : Int32) (C : Cx X cX6_added5 RX6 4 D (gty cy) A 6 0 0) (hR : Rt X (some .int) D (gty cy) A 0 0 (eI (wX6 cy q res.2) res.1)) (kR5 : OS × Int32 → Int32 × OS) (kO5 : OS × Int32 → Prop) (hk5 : ∀ z, kO5 z → kR5 z = res → At X D A 4 0 0 5 [(0, .ref (q 41)), (1, .int z.2)] [] (wX6 cy q z.1)) (ok : oX6_added5_39 kO5 σ a1_ b0_) (h : pX6_added5_39 kR5 σ a1_ b0_ = res) : At X D A 4 0 0 39 [(0, .ref (q 41)), (1, .int a1_)] [.int b0_] (wX6 cy q σ) := by
  unfold pX6_added5_39 at h
  unfold oX6_added5_39 at ok
  refine r_istore_n (lv' := [(2, .int b0_), (0, .ref (q 41)), (1, .int a1_)]) C (dall tdX6_added5 19 rfl) (by decide) rfl ?_
  refine r_aload_n C 1 (dall tdX6_added5 20 rfl) rfl ?_
  obtain ⟨o3, ok⟩ := ok
  refine r_vV (as := []) C (zX6_next cy q σ  o3) mv_X6_next km_X6_201 (by decide) (by decide) ⟨Nat.le_refl _, Nat.le_refl _⟩ rfl rfl rfl rfl (Nat.le_of_ble_eq_true rfl) (dall tdX6_added5 21 rfl) ?_
  refine r_pick [1, 2, 0] rfl ?_
  exact wX6_added5_44 (fX6_next σ) a1_ b0_ C hR kR5 kO5 hk5 ok h
def pX6_added5_23 (kR5 : OS × Int32 → Int32 × OS) (σ : OS) (a1_ : Int32) : Int32 × OS := if (σ.2.1 24) = (43) then pX6_added5_39 kR5 σ a1_ 1 else pX6_added5_39 kR5 σ a1_ 0
def oX6_added5_23 (kO5 : OS × Int32 → Prop) (σ : OS) (a1_ : Int32) : Prop := ((σ.2.1 24) = (43) → oX6_added5_39 kO5 σ a1_ 1) ∧ (¬ ((σ.2.1 24) = (43)) → oX6_added5_39 kO5 σ a1_ 0)
set_option maxHeartbeats 4000000 in
set_option maxRecDepth 100000 in
theorem wX6_added5_23 {X : CX} {cy : Nat → ClassId} {q : Nat → Nat} {D : va_G} {A : Nat → Prop} {res : Int32 × OS} (σ : OS) (a1_ : Int32) (C : Cx X cX6_added5 RX6 4 D (gty cy) A 6 0 0) (hR : Rt X (some .int) D (gty cy) A 0 0 (eI (wX6 cy q res.2) res.1)) (kR5 : OS × Int32 → Int32 × OS) (kO5 : OS × Int32 → Prop) (hk5 : ∀ z, kO5 z → kR5 z = res → At X D A 4 0 0 5 [(0, .ref (q 41)), (1, .int z.2)] [] (wX6 cy q z.1)) (ok : oX6_added5_23 kO5 σ a1_) (h : pX6_added5_23 kR5 σ a1_ = res) : At X D A 4 0 0 23 [(0, .ref (q 41)), (1, .int a1_)] [] (wX6 cy q σ) := by
  unfold pX6_added5_23 at h
  unfold oX6_added5_23 at ok
  refine r_aload_n C 0 (dall tdX6_added5 11 rfl) rfl ?_
  refine r_get C 0 kw_X6 rfl rfl (by decide) kf_X6_179 rfl rfl (dall tdX6_added5 12 rfl) ?_
  refine r_ldc2 C kk_X6_242 (dall tdX6_added5 13 rfl) ?_
  refine r_lif_ne (tgt := 38) C (dall tdX6_added5 14 rfl) (dall tdX6_added5 15 rfl) (by decide) (fun c4 => ?_) (fun c4 => ?_)
  · have h := (if_neg c4).symm.trans h
    have ok := ok.2 c4
    refine r_iconst (v := 0) C (dall tdX6_added5 18 rfl) (by decide) ?_
    exact wX6_added5_39 σ a1_ 0 C hR kR5 kO5 hk5 ok h
  · have h := (if_pos c4).symm.trans h
    have ok := ok.1 c4
    refine r_iconst (v := 1) C (dall tdX6_added5 16 rfl) (by decide) ?_
    refine r_goto (tgt := 39) C (dall tdX6_added5 17 rfl) (by decide) ?_
    exact wX6_added5_39 σ a1_ 1 C hR kR5 kO5 hk5 ok h
def bX6_added5_5   (kR5 : OS × Int32 → Int32 × OS) (v : OS × Int32) : Int32 × OS := if (fX6_isSign v.1 43) = 0 then if (fX6_isSign v.1 45) = 0 then (v.2, v.1) else pX6_added5_23 kR5 v.1 v.2 else pX6_added5_23 kR5 v.1 v.2
def kX6_added5_5   (kO5 : OS × Int32 → Prop) (v : OS × Int32) : Prop := ((fX6_isSign v.1 43) = 0 → ((fX6_isSign v.1 45) = 0 → True) ∧ (¬ ((fX6_isSign v.1 45) = 0) → oX6_added5_23 kO5 v.1 v.2)) ∧ (¬ ((fX6_isSign v.1 43) = 0) → oX6_added5_23 kO5 v.1 v.2)
set_option maxHeartbeats 4000000 in
set_option maxRecDepth 100000 in
theorem wX6_added5_5 {X : CX} {cy : Nat → ClassId} {q : Nat → Nat} {D : va_G} {A : Nat → Prop} {res : Int32 × OS}  (C : Cx X cX6_added5 RX6 4 D (gty cy) A 6 0 0) (hR : Rt X (some .int) D (gty cy) A 0 0 (eI (wX6 cy q res.2) res.1)) (kR5 : OS × Int32 → Int32 × OS) (kO5 : OS × Int32 → Prop) (hk5 : ∀ z, kO5 z → kR5 z = res → At X D A 4 0 0 5 [(0, .ref (q 41)), (1, .int z.2)] [] (wX6 cy q z.1)) (v : OS × Int32) (ok : kX6_added5_5  kO5 v) (h : bX6_added5_5  kR5 v = res) : At X D A 4 0 0 5 [(0, .ref (q 41)), (1, .int v.2)] [] (wX6 cy q v.1) := by
  unfold bX6_added5_5 at h
  unfold kX6_added5_5 at ok
  refine r_aload_n C 0 (dall tdX6_added5 3 rfl) rfl ?_
  refine r_bipush (v := 43) C (dall tdX6_added5 4 rfl) (by decide) ?_
  refine r_vI (as := [.int 43]) C (zX6_isSign cy q v.1 43 ) mv_X6_isSign km_X6_226 (by decide) (by decide) ⟨Nat.le_refl _, Nat.le_refl _⟩ rfl rfl rfl rfl (Nat.le_of_ble_eq_true rfl) (dall tdX6_added5 5 rfl) ?_
  refine r_if_ne (tgt := 23) C (dall tdX6_added5 6 rfl) (by decide) (fun c5 => ?_) (fun c5 => ?_)
  · have h := (if_neg c5).symm.trans h
    have ok := ok.2 c5
    exact wX6_added5_23 v.1 v.2 C hR kR5 kO5 hk5 ok h
  · have h := (if_pos c5).symm.trans h
    have ok := ok.1 c5
    refine r_aload_n C 0 (dall tdX6_added5 7 rfl) rfl ?_
    refine r_bipush (v := 45) C (dall tdX6_added5 8 rfl) (by decide) ?_
    refine r_vI (as := [.int 45]) C (zX6_isSign cy q v.1 45 ) mv_X6_isSign km_X6_226 (by decide) (by decide) ⟨Nat.le_refl _, Nat.le_refl _⟩ rfl rfl rfl rfl (Nat.le_of_ble_eq_true rfl) (dall tdX6_added5 9 rfl) ?_
    refine r_if_eq (tgt := 66) C (dall tdX6_added5 10 rfl) (by decide) (fun c6 => ?_) (fun c6 => ?_)
    · have h := (if_pos c6).symm.trans h
      have ok := ok.1 c6
      refine r_iload_n C 1 (dall tdX6_added5 36 rfl) rfl ?_
      exact r_iret C hR (dall tdX6_added5 37 rfl) (by subst h; exact ⟨rfl, rfl⟩)
    · have h := (if_neg c6).symm.trans h
      have ok := ok.2 c6
      exact wX6_added5_23 v.1 v.2 C hR kR5 kO5 hk5 ok h
set_option maxHeartbeats 4000000 in
set_option maxRecDepth 100000 in
theorem lX6_added5_5 {X : CX} {cy : Nat → ClassId} {q : Nat → Nat} {D : va_G} {A : Nat → Prop} {res : Int32 × OS}  (C : Cx X cX6_added5 RX6 4 D (gty cy) A 6 0 0) (hR : Rt X (some .int) D (gty cy) A 0 0 (eI (wX6 cy q res.2) res.1))  (n : Nat) (v : OS × Int32) (ok : lpOk (kX6_added5_5  ) n v) (h : lp (0, o0) (bX6_added5_5  ) n v = res) : At X D A 4 0 0 5 [(0, .ref (q 41)), (1, .int v.2)] [] (wX6 cy q v.1) :=
  lp_rule (fun v rr_ => rr_ = res → At X D A 4 0 0 5 [(0, .ref (q 41)), (1, .int v.2)] [] (wX6 cy q v.1)) (fun kR kO hk v ok h => wX6_added5_5  C hR  kR kO hk v ok h) n v ok h
def pX6_added5_4  (σ : OS) (b0_ : Int32) : Int32 × OS := lp (0, o0) (bX6_added5_5  ) fu (σ, b0_)
def oX6_added5_4  (σ : OS) (b0_ : Int32) : Prop := lpOk (kX6_added5_5  ) fu (σ, b0_)
set_option maxHeartbeats 4000000 in
set_option maxRecDepth 100000 in
theorem wX6_added5_4 {X : CX} {cy : Nat → ClassId} {q : Nat → Nat} {D : va_G} {A : Nat → Prop} {res : Int32 × OS} (σ : OS) (b0_ : Int32) (C : Cx X cX6_added5 RX6 4 D (gty cy) A 6 0 0) (hR : Rt X (some .int) D (gty cy) A 0 0 (eI (wX6 cy q res.2) res.1))  (ok : oX6_added5_4  σ b0_) (h : pX6_added5_4  σ b0_ = res) : At X D A 4 0 0 4 [(0, .ref (q 41))] [.int b0_] (wX6 cy q σ) := by
  unfold pX6_added5_4 at h
  unfold oX6_added5_4 at ok
  refine r_istore_n (lv' := [(1, .int b0_), (0, .ref (q 41))]) C (dall tdX6_added5 2 rfl) (by decide) rfl ?_
  refine r_pick [1, 0] rfl ?_
  exact lX6_added5_5  C hR  fu _ ok h
def pX6_added5_0  (σ : OS) : Int32 × OS := pX6_added5_4  ((fX6_term5 σ ).2) ((fX6_term5 σ ).1)
def oX6_added5_0  (σ : OS) : Prop := (gX6_term5 σ ) ∧ (oX6_added5_4  ((fX6_term5 σ ).2) ((fX6_term5 σ ).1))
set_option maxHeartbeats 4000000 in
set_option maxRecDepth 100000 in
theorem wX6_added5_0 {X : CX} {cy : Nat → ClassId} {q : Nat → Nat} {D : va_G} {A : Nat → Prop} {res : Int32 × OS} (σ : OS) (C : Cx X cX6_added5 RX6 4 D (gty cy) A 6 0 0) (hR : Rt X (some .int) D (gty cy) A 0 0 (eI (wX6 cy q res.2) res.1))  (ok : oX6_added5_0  σ) (h : pX6_added5_0  σ = res) : At X D A 4 0 0 0 [(0, .ref (q 41))] [] (wX6 cy q σ) := by
  unfold pX6_added5_0 at h
  unfold oX6_added5_0 at ok
  refine r_aload_n C 0 (dall tdX6_added5 0 rfl) rfl ?_
  obtain ⟨o7, ok⟩ := ok
  refine r_vI (as := []) C (zX6_term5 cy q σ  o7) mv_X6_term5 km_X6_239 (by decide) (by decide) ⟨Nat.le_refl _, Nat.le_refl _⟩ rfl rfl rfl rfl (Nat.le_of_ble_eq_true rfl) (dall tdX6_added5 1 rfl) ?_
  exact wX6_added5_4 ((fX6_term5 σ ).2) ((fX6_term5 σ ).1) C hR  ok h
def fX6_added5 (σ : OS) : Int32 × OS := pX6_added5_0  σ
def gX6_added5 (σ : OS) : Prop := oX6_added5_0  σ
set_option maxRecDepth 100000 in
theorem zX6_added5 (cy : Nat → ClassId) (q : Nat → Nat)  {D : va_G} (σ : OS) (ok : gX6_added5 σ )  : Con yX6_added5 cX6_added5 4 (some .int) 6 0 0 D (gty cy) [.ref (q 41)] (wX6 cy q σ) (eI (wX6 cy q (fX6_added5 σ ).2) (fX6_added5 σ ).1) :=
  Con.of (own := RX6) (by decide +kernel) rfl (Nat.le_of_ble_eq_true rfl) (Nat.zero_le _) (fun X A C hR _ => (wX6_added5_0 σ C hR  ok rfl))
theorem mv_X6_added5 : MV yX6_added5 cX6_added5 4 (some .int) RX6 0 := ⟨ki_X6_added5, kv_X6_added5, kn_X6, kc_X6_added5, by decide +kernel⟩
def tbX6_not5 : List (Nat × Instr × Nat) := [(0, .aload_n 0, 1), (1, .bipush 110, 2), (3, .bipush 111, 2), (5, .bipush 116, 2), (7, .iconst 0, 1), (8, .iconst 0, 1), (9, .iconst 0, 1), (10, .iconst 0, 1), (11, .iconst 0, 1), (12, .invokevirtual 204, 3), (15, .ifCond .eq 10, 3), (18, .aload_n 0, 1), (19, .invokevirtual 229, 3), (22, .pop, 1), (23, .iconst 0, 1), (24, .ireturn, 1), (25, .aload_n 0, 1), (26, .invokevirtual 244, 3), (29, .istore_n 1, 1), (30, .aload_n 0, 1), (31, .bipush 60, 2), (33, .invokevirtual 226, 3), (36, .ifCond .ne 14, 3), (39, .aload_n 0, 1), (40, .bipush 61, 2), (42, .invokevirtual 226, 3), (45, .ifCond .ne 5, 3), (48, .iload_n 1, 1), (49, .ireturn, 1), (50, .aload_n 0, 1), (51, .getfield 179, 3), (54, .ldc2_w 247, 3), (57, .lcmp, 1), (58, .ifCond .ne 7, 3), (61, .iconst 1, 1), (62, .goto 4, 3), (65, .iconst 0, 1), (66, .istore_n 2, 1), (67, .aload_n 0, 1), (68, .invokevirtual 201, 3), (71, .aload_n 0, 1), (72, .invokevirtual 244, 3), (75, .istore_n 3, 1), (76, .iload_n 2, 1), (77, .ifCond .eq 11, 3), (80, .iload_n 1, 1), (81, .iload_n 3, 1), (82, .if_icmp .ge 15, 3), (85, .goto 8, 3), (88, .iload_n 1, 1), (89, .iload_n 3, 1), (90, .if_icmp .ne 7, 3), (93, .iconst 1, 1), (94, .goto 4, 3), (97, .iconst 0, 1), (98, .ireturn, 1)]
theorem tdX6_not5 : tbX6_not5.all (fun q => decide (decode cX6_not5 q.1 = .ok q.2)) = true := by decide +kernel
def pX6_not5_93  (σ : OS) : Int32 × OS := (1, σ)
set_option maxHeartbeats 4000000 in
set_option maxRecDepth 100000 in
theorem wX6_not5_93 {X : CX} {cy : Nat → ClassId} {q : Nat → Nat} {D : va_G} {A : Nat → Prop} {res : Int32 × OS} (σ : OS) (C : Cx X cX6_not5 RX6 4 D (gty cy) A 7 0 0) (hR : Rt X (some .int) D (gty cy) A 0 0 (eI (wX6 cy q res.2) res.1))  (h : pX6_not5_93  σ = res) : At X D A 4 0 0 93 [] [] (wX6 cy q σ) := by
  unfold pX6_not5_93 at h
  refine r_iconst (v := 1) C (dall tdX6_not5 52 rfl) (by decide) ?_
  refine r_goto (tgt := 98) C (dall tdX6_not5 53 rfl) (by decide) ?_
  exact r_iret C hR (dall tdX6_not5 55 rfl) (by subst h; exact ⟨rfl, rfl⟩)
def pX6_not5_75  (σ : OS) (a1_ : Int32) (a2_ : Int32) (b0_ : Int32) : Int32 × OS := if a2_ = 0 then if a1_ = b0_ then pX6_not5_93  σ else (0, σ) else if b0_ ≤ a1_ then (0, σ) else pX6_not5_93  σ
set_option maxHeartbeats 4000000 in
set_option maxRecDepth 100000 in
theorem wX6_not5_75 {X : CX} {cy : Nat → ClassId} {q : Nat → Nat} {D : va_G} {A : Nat → Prop} {res : Int32 × OS} (σ : OS) (a1_ : Int32) (a2_ : Int32) (b0_ : Int32) (C : Cx X cX6_not5 RX6 4 D (gty cy) A 7 0 0) (hR : Rt X (some .int) D (gty cy) A 0 0 (eI (wX6 cy q res.2) res.1))  (h : pX6_not5_75  σ a1_ a2_ b0_ = res) : At X D A 4 0 0 75 [(1, .int a1_), (2, .int a2_)] [.int b0_] (wX6 cy q σ) := by
  unfold pX6_not5_75 at h
  refine r_istore_n (lv' := [(3, .int b0_), (1, .int a1_), (2, .int a2_)]) C (dall tdX6_not5 42 rfl) (by decide) rfl ?_
  refine r_iload_n C 2 (dall tdX6_not5 43 rfl) rfl ?_
  refine r_if_eq (tgt := 88) C (dall tdX6_not5 44 rfl) (by decide) (fun c1 => ?_) (fun c1 => ?_)
  · have h := (if_pos c1).symm.trans h
    refine r_iload_n C 1 (dall tdX6_not5 49 rfl) rfl ?_
    refine r_iload_n C 0 (dall tdX6_not5 50 rfl) rfl ?_
    refine r_icmp_ne (tgt := 97) C (dall tdX6_not5 51 rfl) (by decide) (fun c2 => ?_) (fun c2 => ?_)
    · have h := (if_neg c2).symm.trans h
      refine r_iconst (v := 0) C (dall tdX6_not5 54 rfl) (by decide) ?_
      exact r_iret C hR (dall tdX6_not5 55 rfl) (by subst h; exact ⟨rfl, rfl⟩)
    · have h := (if_pos c2).symm.trans h
      refine r_pick [] rfl ?_
      exact wX6_not5_93 σ C hR  h
  · have h := (if_neg c1).symm.trans h
    refine r_iload_n C 1 (dall tdX6_not5 45 rfl) rfl ?_
    refine r_iload_n C 0 (dall tdX6_not5 46 rfl) rfl ?_
    refine r_icmp_ge (tgt := 97) C (dall tdX6_not5 47 rfl) (by decide) (fun c3 => ?_) (fun c3 => ?_)
    · have h := (if_pos c3).symm.trans h
      refine r_iconst (v := 0) C (dall tdX6_not5 54 rfl) (by decide) ?_
      exact r_iret C hR (dall tdX6_not5 55 rfl) (by subst h; exact ⟨rfl, rfl⟩)
    · have h := (if_neg c3).symm.trans h
      refine r_goto (tgt := 93) C (dall tdX6_not5 48 rfl) (by decide) ?_
      refine r_pick [] rfl ?_
      exact wX6_not5_93 σ C hR  h
def pX6_not5_71  (σ : OS) (a1_ : Int32) (a2_ : Int32) : Int32 × OS := pX6_not5_75  ((fX6_added5 σ ).2) a1_ a2_ ((fX6_added5 σ ).1)
def oX6_not5_71  (σ : OS) (a1_ : Int32) (a2_ : Int32) : Prop := gX6_added5 σ 
set_option maxHeartbeats 4000000 in
set_option maxRecDepth 100000 in
theorem wX6_not5_71 {X : CX} {cy : Nat → ClassId} {q : Nat → Nat} {D : va_G} {A : Nat → Prop} {res : Int32 × OS} (σ : OS) (a1_ : Int32) (a2_ : Int32) (C : Cx X cX6_not5 RX6 4 D (gty cy) A 7 0 0) (hR : Rt X (some .int) D (gty cy) A 0 0 (eI (wX6 cy q res.2) res.1))  (ok : oX6_not5_71  σ a1_ a2_) (h : pX6_not5_71  σ a1_ a2_ = res) : At X D A 4 0 0 71 [(0, .ref (q 41)), (1, .int a1_), (2, .int a2_)] [] (wX6 cy q σ) := by
  unfold pX6_not5_71 at h
  unfold oX6_not5_71 at ok
  refine r_aload_n C 0 (dall tdX6_not5 40 rfl) rfl ?_
  have o4 := ok
  refine r_vI (as := []) C (zX6_added5 cy q σ  o4) mv_X6_added5 km_X6_244 (by decide) (by decide) ⟨Nat.le_refl _, Nat.le_refl _⟩ rfl rfl rfl rfl (Nat.le_of_ble_eq_true rfl) (dall tdX6_not5 41 rfl) ?_
  refine r_pick [1, 2] rfl ?_
  exact wX6_not5_75 ((fX6_added5 σ ).2) a1_ a2_ ((fX6_added5 σ ).1) C hR  h
def pX6_not5_66  (σ : OS) (a1_ : Int32) (b0_ : Int32) : Int32 × OS := pX6_not5_71  (fX6_next σ) a1_ b0_
def oX6_not5_66  (σ : OS) (a1_ : Int32) (b0_ : Int32) : Prop := (gX6_next σ ) ∧ (oX6_not5_71  (fX6_next σ) a1_ b0_)
set_option maxHeartbeats 4000000 in
set_option maxRecDepth 100000 in
theorem wX6_not5_66 {X : CX} {cy : Nat → ClassId} {q : Nat → Nat} {D : va_G} {A : Nat → Prop} {res : Int32 × OS} (σ : OS) (a1_ : Int32) (b0_ : Int32) (C : Cx X cX6_not5 RX6 4 D (gty cy) A 7 0 0) (hR : Rt X (some .int) D (gty cy) A 0 0 (eI (wX6 cy q res.2) res.1))  (ok : oX6_not5_66  σ a1_ b0_) (h : pX6_not5_66  σ a1_ b0_ = res) : At X D A 4 0 0 66 [(0, .ref (q 41)), (1, .int a1_)] [.int b0_] (wX6 cy q σ) := by
  unfold pX6_not5_66 at h
  unfold oX6_not5_66 at ok
  refine r_istore_n (lv' := [(2, .int b0_), (0, .ref (q 41)), (1, .int a1_)]) C (dall tdX6_not5 37 rfl) (by decide) rfl ?_
  refine r_aload_n C 1 (dall tdX6_not5 38 rfl) rfl ?_
  obtain ⟨o5, ok⟩ := ok
  refine r_vV (as := []) C (zX6_next cy q σ  o5) mv_X6_next km_X6_201 (by decide) (by decide) ⟨Nat.le_refl _, Nat.le_refl _⟩ rfl rfl rfl rfl (Nat.le_of_ble_eq_true rfl) (dall tdX6_not5 39 rfl) ?_
  refine r_pick [1, 2, 0] rfl ?_
  exact wX6_not5_71 (fX6_next σ) a1_ b0_ C hR  ok h
def pX6_not5_50  (σ : OS) (a1_ : Int32) : Int32 × OS := if (σ.2.1 24) = (60) then pX6_not5_66  σ a1_ 1 else pX6_not5_66  σ a1_ 0
def oX6_not5_50  (σ : OS) (a1_ : Int32) : Prop := ((σ.2.1 24) = (60) → oX6_not5_66  σ a1_ 1) ∧ (¬ ((σ.2.1 24) = (60)) → oX6_not5_66  σ a1_ 0)
set_option maxHeartbeats 4000000 in
set_option maxRecDepth 100000 in
theorem wX6_not5_50 {X : CX} {cy : Nat → ClassId} {q : Nat → Nat} {D : va_G} {A : Nat → Prop} {res : Int32 × OS} (σ : OS) (a1_ : Int32) (C : Cx X cX6_not5 RX6 4 D (gty cy) A 7 0 0) (hR : Rt X (some .int) D (gty cy) A 0 0 (eI (wX6 cy q res.2) res.1))  (ok : oX6_not5_50  σ a1_) (h : pX6_not5_50  σ a1_ = res) : At X D A 4 0 0 50 [(0, .ref (q 41)), (1, .int a1_)] [] (wX6 cy q σ) := by
  unfold pX6_not5_50 at h
  unfold oX6_not5_50 at ok
  refine r_aload_n C 0 (dall tdX6_not5 29 rfl) rfl ?_
  refine r_get C 0 kw_X6 rfl rfl (by decide) kf_X6_179 rfl rfl (dall tdX6_not5 30 rfl) ?_
  refine r_ldc2 C kk_X6_247 (dall tdX6_not5 31 rfl) ?_
  refine r_lif_ne (tgt := 65) C (dall tdX6_not5 32 rfl) (dall tdX6_not5 33 rfl) (by decide) (fun c6 => ?_) (fun c6 => ?_)
  · have h := (if_neg c6).symm.trans h
    have ok := ok.2 c6
    refine r_iconst (v := 0) C (dall tdX6_not5 36 rfl) (by decide) ?_
    exact wX6_not5_66 σ a1_ 0 C hR  ok h
  · have h := (if_pos c6).symm.trans h
    have ok := ok.1 c6
    refine r_iconst (v := 1) C (dall tdX6_not5 34 rfl) (by decide) ?_
    refine r_goto (tgt := 66) C (dall tdX6_not5 35 rfl) (by decide) ?_
    exact wX6_not5_66 σ a1_ 1 C hR  ok h
def pX6_not5_29  (σ : OS) (b0_ : Int32) : Int32 × OS := if (fX6_isSign σ 60) = 0 then if (fX6_isSign σ 61) = 0 then (b0_, σ) else pX6_not5_50  σ b0_ else pX6_not5_50  σ b0_
def oX6_not5_29  (σ : OS) (b0_ : Int32) : Prop := ((fX6_isSign σ 60) = 0 → ((fX6_isSign σ 61) = 0 → True) ∧ (¬ ((fX6_isSign σ 61) = 0) → oX6_not5_50  σ b0_)) ∧ (¬ ((fX6_isSign σ 60) = 0) → oX6_not5_50  σ b0_)
set_option maxHeartbeats 4000000 in
set_option maxRecDepth 100000 in
theorem wX6_not5_29 {X : CX} {cy : Nat → ClassId} {q : Nat → Nat} {D : va_G} {A : Nat → Prop} {res : Int32 × OS} (σ : OS) (b0_ : Int32) (C : Cx X cX6_not5 RX6 4 D (gty cy) A 7 0 0) (hR : Rt X (some .int) D (gty cy) A 0 0 (eI (wX6 cy q res.2) res.1))  (ok : oX6_not5_29  σ b0_) (h : pX6_not5_29  σ b0_ = res) : At X D A 4 0 0 29 [(0, .ref (q 41))] [.int b0_] (wX6 cy q σ) := by
  unfold pX6_not5_29 at h
  unfold oX6_not5_29 at ok
  refine r_istore_n (lv' := [(1, .int b0_), (0, .ref (q 41))]) C (dall tdX6_not5 18 rfl) (by decide) rfl ?_
  refine r_aload_n C 1 (dall tdX6_not5 19 rfl) rfl ?_
  refine r_bipush (v := 60) C (dall tdX6_not5 20 rfl) (by decide) ?_
  refine r_vI (as := [.int 60]) C (zX6_isSign cy q σ 60 ) mv_X6_isSign km_X6_226 (by decide) (by decide) ⟨Nat.le_refl _, Nat.le_refl _⟩ rfl rfl rfl rfl (Nat.le_of_ble_eq_true rfl) (dall tdX6_not5 21 rfl) ?_
  refine r_if_ne (tgt := 50) C (dall tdX6_not5 22 rfl) (by decide) (fun c7 => ?_) (fun c7 => ?_)
  · have h := (if_neg c7).symm.trans h
    have ok := ok.2 c7
    refine r_pick [1, 0] rfl ?_
    exact wX6_not5_50 σ b0_ C hR  ok h
  · have h := (if_pos c7).symm.trans h
    have ok := ok.1 c7
    refine r_aload_n C 1 (dall tdX6_not5 23 rfl) rfl ?_
    refine r_bipush (v := 61) C (dall tdX6_not5 24 rfl) (by decide) ?_
    refine r_vI (as := [.int 61]) C (zX6_isSign cy q σ 61 ) mv_X6_isSign km_X6_226 (by decide) (by decide) ⟨Nat.le_refl _, Nat.le_refl _⟩ rfl rfl rfl rfl (Nat.le_of_ble_eq_true rfl) (dall tdX6_not5 25 rfl) ?_
    refine r_if_ne (tgt := 50) C (dall tdX6_not5 26 rfl) (by decide) (fun c8 => ?_) (fun c8 => ?_)
    · have h := (if_neg c8).symm.trans h
      have ok := ok.2 c8
      refine r_pick [1, 0] rfl ?_
      exact wX6_not5_50 σ b0_ C hR  ok h
    · have h := (if_pos c8).symm.trans h
      have ok := ok.1 c8
      refine r_iload_n C 0 (dall tdX6_not5 27 rfl) rfl ?_
      exact r_iret C hR (dall tdX6_not5 28 rfl) (by subst h; exact ⟨rfl, rfl⟩)
def pX6_not5_22  (σ : OS) (b0_ : Int32) : Int32 × OS := (0, σ)
set_option maxHeartbeats 4000000 in
set_option maxRecDepth 100000 in
theorem wX6_not5_22 {X : CX} {cy : Nat → ClassId} {q : Nat → Nat} {D : va_G} {A : Nat → Prop} {res : Int32 × OS} (σ : OS) (b0_ : Int32) (C : Cx X cX6_not5 RX6 4 D (gty cy) A 7 0 0) (hR : Rt X (some .int) D (gty cy) A 0 0 (eI (wX6 cy q res.2) res.1))  (h : pX6_not5_22  σ b0_ = res) : At X D A 4 0 0 22 [] [.int b0_] (wX6 cy q σ) := by
  unfold pX6_not5_22 at h
  refine r_pop C (dall tdX6_not5 13 rfl) rfl ?_
  refine r_iconst (v := 0) C (dall tdX6_not5 14 rfl) (by decide) ?_
  exact r_iret C hR (dall tdX6_not5 15 rfl) (by subst h; exact ⟨rfl, rfl⟩)
def pX6_not5_0  (σ : OS) : Int32 × OS := if (fX6_isWord σ 110 111 116 0 0 0 0 0) = 0 then pX6_not5_29  ((fX6_added5 σ ).2) ((fX6_added5 σ ).1) else pX6_not5_22  ((fX6_opens σ ).2) ((fX6_opens σ ).1)
def oX6_not5_0  (σ : OS) : Prop := (gX6_isWord σ 110 111 116 0 0 0 0 0) ∧ (((fX6_isWord σ 110 111 116 0 0 0 0 0) = 0 → (gX6_added5 σ ) ∧ (oX6_not5_29  ((fX6_added5 σ ).2) ((fX6_added5 σ ).1))) ∧ (¬ ((fX6_isWord σ 110 111 116 0 0 0 0 0) = 0) → gX6_opens σ ))
set_option maxHeartbeats 4000000 in
set_option maxRecDepth 100000 in
theorem wX6_not5_0 {X : CX} {cy : Nat → ClassId} {q : Nat → Nat} {D : va_G} {A : Nat → Prop} {res : Int32 × OS} (σ : OS) (C : Cx X cX6_not5 RX6 4 D (gty cy) A 7 0 0) (hR : Rt X (some .int) D (gty cy) A 0 0 (eI (wX6 cy q res.2) res.1))  (ok : oX6_not5_0  σ) (h : pX6_not5_0  σ = res) : At X D A 4 0 0 0 [(0, .ref (q 41))] [] (wX6 cy q σ) := by
  unfold pX6_not5_0 at h
  unfold oX6_not5_0 at ok
  refine r_aload_n C 0 (dall tdX6_not5 0 rfl) rfl ?_
  refine r_bipush (v := 110) C (dall tdX6_not5 1 rfl) (by decide) ?_
  refine r_bipush (v := 111) C (dall tdX6_not5 2 rfl) (by decide) ?_
  refine r_bipush (v := 116) C (dall tdX6_not5 3 rfl) (by decide) ?_
  refine r_iconst (v := 0) C (dall tdX6_not5 4 rfl) (by decide) ?_
  refine r_iconst (v := 0) C (dall tdX6_not5 5 rfl) (by decide) ?_
  refine r_iconst (v := 0) C (dall tdX6_not5 6 rfl) (by decide) ?_
  refine r_iconst (v := 0) C (dall tdX6_not5 7 rfl) (by decide) ?_
  refine r_iconst (v := 0) C (dall tdX6_not5 8 rfl) (by decide) ?_
  obtain ⟨o9, ok⟩ := ok
  refine r_vI (as := [.int 110, .int 111, .int 116, .int 0, .int 0, .int 0, .int 0, .int 0]) C (zX6_isWord cy q σ 110 111 116 0 0 0 0 0 o9) mv_X6_isWord km_X6_204 (by decide) (by decide) ⟨Nat.le_refl _, Nat.le_refl _⟩ rfl rfl rfl rfl (Nat.le_of_ble_eq_true rfl) (dall tdX6_not5 9 rfl) ?_
  refine r_if_eq (tgt := 25) C (dall tdX6_not5 10 rfl) (by decide) (fun c10 => ?_) (fun c10 => ?_)
  · have h := (if_pos c10).symm.trans h
    have ok := ok.1 c10
    refine r_aload_n C 0 (dall tdX6_not5 16 rfl) rfl ?_
    obtain ⟨o11, ok⟩ := ok
    refine r_vI (as := []) C (zX6_added5 cy q σ  o11) mv_X6_added5 km_X6_244 (by decide) (by decide) ⟨Nat.le_refl _, Nat.le_refl _⟩ rfl rfl rfl rfl (Nat.le_of_ble_eq_true rfl) (dall tdX6_not5 17 rfl) ?_
    exact wX6_not5_29 ((fX6_added5 σ ).2) ((fX6_added5 σ ).1) C hR  ok h
  · have h := (if_neg c10).symm.trans h
    have ok := ok.2 c10
    refine r_aload_n C 0 (dall tdX6_not5 11 rfl) rfl ?_
    have o12 := ok
    refine r_vI (as := []) C (zX6_opens cy q σ  o12) mv_X6_opens km_X6_229 (by decide) (by decide) ⟨Nat.le_refl _, Nat.le_refl _⟩ rfl rfl rfl rfl (Nat.le_of_ble_eq_true rfl) (dall tdX6_not5 12 rfl) ?_
    refine r_pick [] rfl ?_
    exact wX6_not5_22 ((fX6_opens σ ).2) ((fX6_opens σ ).1) C hR  h
def fX6_not5 (σ : OS) : Int32 × OS := pX6_not5_0  σ
def gX6_not5 (σ : OS) : Prop := oX6_not5_0  σ
set_option maxRecDepth 100000 in
theorem zX6_not5 (cy : Nat → ClassId) (q : Nat → Nat)  {D : va_G} (σ : OS) (ok : gX6_not5 σ )  : Con yX6_not5 cX6_not5 4 (some .int) 7 0 0 D (gty cy) [.ref (q 41)] (wX6 cy q σ) (eI (wX6 cy q (fX6_not5 σ ).2) (fX6_not5 σ ).1) :=
  Con.of (own := RX6) (by decide +kernel) rfl (Nat.le_of_ble_eq_true rfl) (Nat.zero_le _) (fun X A C hR _ => (wX6_not5_0 σ C hR  ok rfl))
theorem mv_X6_not5 : MV yX6_not5 cX6_not5 4 (some .int) RX6 0 := ⟨ki_X6_not5, kv_X6_not5, kn_X6, kc_X6_not5, by decide +kernel⟩

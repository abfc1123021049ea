def wB (cy : Nat → ClassId) (q r : Nat → Nat) (ρ : OS) (σ : OS) : va_W := [(q 12, .inr (3, fX4 q σ)), (q 0, .inl (cy 0, 5, .inl (σ.2.2.1 0))), (q 1, .inl (cy 0, 5, .inl (σ.2.2.1 1))), (q 2, .inl (cy 0, 5, .inl (σ.2.2.1 2))), (q 3, .inl (cy 1, 5, .inr (.inl (σ.2.2.2 3)))), (r 12, .inr (3, fX4 r ρ)), (r 0, .inl (cy 0, 5, .inl (ρ.2.2.1 0))), (r 1, .inl (cy 0, 5, .inl (ρ.2.2.1 1))), (r 2, .inl (cy 0, 5, .inl (ρ.2.2.1 2))), (r 3, .inl (cy 1, 5, .inr (.inl (ρ.2.2.2 3))))]
theorem pu_B_this_4 (cy : Nat → ClassId) (q r : Nat → Nat) (ρ : OS) (σ : OS) (v : Int32) : (wB cy q r ρ σ).set 0 (q 12, .inr (3, (fX4 q σ).set 4 (.int v))) = wB cy q r ρ (oI σ 4 v) := rfl
theorem pu_B_this_5 (cy : Nat → ClassId) (q r : Nat → Nat) (ρ : OS) (σ : OS) (v : Int32) : (wB cy q r ρ σ).set 0 (q 12, .inr (3, (fX4 q σ).set 5 (.int v))) = wB cy q r ρ (oI σ 5 v) := rfl
theorem pu_B_this_6 (cy : Nat → ClassId) (q r : Nat → Nat) (ρ : OS) (σ : OS) (v : Int32) : (wB cy q r ρ σ).set 0 (q 12, .inr (3, (fX4 q σ).set 6 (.int v))) = wB cy q r ρ (oI σ 6 v) := rfl
theorem pu_B_this_7 (cy : Nat → ClassId) (q r : Nat → Nat) (ρ : OS) (σ : OS) (v : Int32) : (wB cy q r ρ σ).set 0 (q 12, .inr (3, (fX4 q σ).set 7 (.int v))) = wB cy q r ρ (oI σ 7 v) := rfl
theorem pu_B_this_8 (cy : Nat → ClassId) (q r : Nat → Nat) (ρ : OS) (σ : OS) (v : Int64) : (wB cy q r ρ σ).set 0 (q 12, .inr (3, (fX4 q σ).set 8 (.long v))) = wB cy q r ρ (oL σ 8 v) := rfl
theorem pa_B_this_0 (cy : Nat → ClassId) (q r : Nat → Nat) (ρ : OS) (σ : OS) (i : Nat) (x : Int32) : (wB cy q r ρ σ).set 1 (q 0, .inl (cy 0, 5, .inl (upd (σ.2.2.1 0) i x))) = wB cy q r ρ (oS σ 0 i x) := rfl
theorem pa_B_this_1 (cy : Nat → ClassId) (q r : Nat → Nat) (ρ : OS) (σ : OS) (i : Nat) (x : Int32) : (wB cy q r ρ σ).set 2 (q 1, .inl (cy 0, 5, .inl (upd (σ.2.2.1 1) i x))) = wB cy q r ρ (oS σ 1 i x) := rfl
theorem pa_B_this_2 (cy : Nat → ClassId) (q r : Nat → Nat) (ρ : OS) (σ : OS) (i : Nat) (x : Int32) : (wB cy q r ρ σ).set 3 (q 2, .inl (cy 0, 5, .inl (upd (σ.2.2.1 2) i x))) = wB cy q r ρ (oS σ 2 i x) := rfl
theorem pa_B_this_3 (cy : Nat → ClassId) (q r : Nat → Nat) (ρ : OS) (σ : OS) (i : Nat) (x : Int64) : (wB cy q r ρ σ).set 4 (q 3, .inl (cy 1, 5, .inr (.inl (vp_updL (σ.2.2.2 3) i x)))) = wB cy q r ρ (oT σ 3 i x) := rfl
def tbX4_become : List (Nat × Instr × Nat) := [(0, .iconst 0, 1), (1, .istore_n 2, 1), (2, .iload_n 2, 1), (3, .iconst 5, 1), (4, .if_icmp .ge 57, 3), (7, .aload_n 0, 1), (8, .getfield 9, 3), (11, .iload_n 2, 1), (12, .aload_n 1, 1), (13, .getfield 9, 3), (16, .iload_n 2, 1), (17, .iaload, 1), (18, .iastore, 1), (19, .aload_n 0, 1), (20, .getfield 15, 3), (23, .iload_n 2, 1), (24, .aload_n 1, 1), (25, .getfield 15, 3), (28, .iload_n 2, 1), (29, .iaload, 1), (30, .iastore, 1), (31, .aload_n 0, 1), (32, .getfield 18, 3), (35, .iload_n 2, 1), (36, .aload_n 1, 1), (37, .getfield 18, 3), (40, .iload_n 2, 1), (41, .iaload, 1), (42, .iastore, 1), (43, .aload_n 0, 1), (44, .getfield 21, 3), (47, .iload_n 2, 1), (48, .aload_n 1, 1), (49, .getfield 21, 3), (52, .iload_n 2, 1), (53, .laload, 1), (54, .lastore, 1), (55, .iinc 2 1, 3), (58, .goto (-56), 3), (61, .aload_n 0, 1), (62, .aload_n 1, 1), (63, .getfield 43, 3), (66, .putfield 43, 3), (69, .aload_n 0, 1), (70, .aload_n 1, 1), (71, .getfield 47, 3), (74, .putfield 47, 3), (77, .aload_n 0, 1), (78, .aload_n 1, 1), (79, .getfield 50, 3), (82, .putfield 50, 3), (85, .aload_n 0, 1), (86, .aload_n 1, 1), (87, .getfield 53, 3), (90, .putfield 53, 3), (93, .aload_n 0, 1), (94, .aload_n 1, 1), (95, .getfield 27, 3), (98, .putfield 27, 3), (101, .return_, 1)]
theorem tdX4_become : tbX4_become.all (fun q => decide (decode cX4_become q.1 = .ok q.2)) = true := by decide +kernel
def bX4_become_2 (ρ : OS)   (kR2 : OS × Int32 → OS) (v : OS × Int32) : OS := if 5 ≤ v.2 then oL (oI (oI (oI (oI v.1 4 (ρ.1 4)) 5 (ρ.1 5)) 6 (ρ.1 6)) 7 (ρ.1 7)) 8 (ρ.2.1 8) else kR2 (oT (oS (oS (oS v.1 0 v.2.toNatClampNeg (ρ.2.2.1 0 v.2.toNatClampNeg)) 1 v.2.toNatClampNeg (ρ.2.2.1 1 v.2.toNatClampNeg)) 2 v.2.toNatClampNeg (ρ.2.2.1 2 v.2.toNatClampNeg)) 3 v.2.toNatClampNeg (ρ.2.2.2 3 v.2.toNatClampNeg), v.2 + 1)
def kX4_become_2 (ρ : OS)   (kO2 : OS × Int32 → Prop) (v : OS × Int32) : Prop := (5 ≤ v.2 → True) ∧ (¬ (5 ≤ v.2) → (vp_in v.2 5) ∧ ((vp_in v.2 5) ∧ ((vp_in v.2 5) ∧ ((vp_in v.2 5) ∧ ((vp_in v.2 5) ∧ ((vp_in v.2 5) ∧ ((vp_in v.2 5) ∧ ((vp_in v.2 5) ∧ (kO2 (oT (oS (oS (oS v.1 0 v.2.toNatClampNeg (ρ.2.2.1 0 v.2.toNatClampNeg)) 1 v.2.toNatClampNeg (ρ.2.2.1 1 v.2.toNatClampNeg)) 2 v.2.toNatClampNeg (ρ.2.2.1 2 v.2.toNatClampNeg)) 3 v.2.toNatClampNeg (ρ.2.2.2 3 v.2.toNatClampNeg), v.2 + 1))))))))))
set_option maxHeartbeats 4000000 in
set_option maxRecDepth 100000 in
theorem wX4_become_2 {X : CX} {cy : Nat → ClassId} {q : Nat → Nat} {r : Nat → Nat} {ρ : OS} {D : va_G} {A : Nat → Prop} {res : OS}  (C : Cx X cX4_become RX4 3 D (gty cy) A 0 0 0) (hR : Rt X none D (gty cy) A 0 0 (eV (wB cy q r ρ res))) (kR2 : OS × Int32 → OS) (kO2 : OS × Int32 → Prop) (hk2 : ∀ z, kO2 z → kR2 z = res → At X D A 3 0 0 2 [(0, .ref (q 12)), (1, .ref (r 12)), (2, .int z.2)] [] (wB cy q r ρ z.1)) (v : OS × Int32) (ok : kX4_become_2 ρ  kO2 v) (h : bX4_become_2 ρ  kR2 v = res) : At X D A 3 0 0 2 [(0, .ref (q 12)), (1, .ref (r 12)), (2, .int v.2)] [] (wB cy q r ρ v.1) := by
  unfold bX4_become_2 at h
  unfold kX4_become_2 at ok
  refine r_iload_n C 2 (dall tdX4_become 2 rfl) rfl ?_
  refine r_iconst (v := 5) C (dall tdX4_become 3 rfl) (by decide) ?_
  refine r_icmp_ge (tgt := 61) C (dall tdX4_become 4 rfl) (by decide) (fun c1 => ?_) (fun c1 => ?_)
  · have h := (if_pos c1).symm.trans h
    have ok := ok.1 c1
    refine r_aload_n C 0 (dall tdX4_become 39 rfl) rfl ?_
    refine r_aload_n C 1 (dall tdX4_become 40 rfl) rfl ?_
    refine r_get C 5 kw_X4 rfl rfl (by decide) kf_X4_43 rfl rfl (dall tdX4_become 41 rfl) ?_
    refine r_put C 0 kw_X4 tyX4_ok nmX4 rfl rfl (by decide) kf_X4_43 rfl rfl rfl rfl rfl (Nat.le_of_ble_eq_true rfl) (pu_B_this_4 cy q r ρ v.1 (ρ.1 4)) (dall tdX4_become 42 rfl) ?_
    refine r_aload_n C 0 (dall tdX4_become 43 rfl) rfl ?_
    refine r_aload_n C 1 (dall tdX4_become 44 rfl) rfl ?_
    refine r_get C 5 kw_X4 rfl rfl (by decide) kf_X4_47 rfl rfl (dall tdX4_become 45 rfl) ?_
    refine r_put C 0 kw_X4 tyX4_ok nmX4 rfl rfl (by decide) kf_X4_47 rfl rfl rfl rfl rfl (Nat.le_of_ble_eq_true rfl) (pu_B_this_5 cy q r ρ (oI v.1 4 (ρ.1 4)) (ρ.1 5)) (dall tdX4_become 46 rfl) ?_
    refine r_aload_n C 0 (dall tdX4_become 47 rfl) rfl ?_
    refine r_aload_n C 1 (dall tdX4_become 48 rfl) rfl ?_
    refine r_get C 5 kw_X4 rfl rfl (by decide) kf_X4_50 rfl rfl (dall tdX4_become 49 rfl) ?_
    refine r_put C 0 kw_X4 tyX4_ok nmX4 rfl rfl (by decide) kf_X4_50 rfl rfl rfl rfl rfl (Nat.le_of_ble_eq_true rfl) (pu_B_this_6 cy q r ρ (oI (oI v.1 4 (ρ.1 4)) 5 (ρ.1 5)) (ρ.1 6)) (dall tdX4_become 50 rfl) ?_
    refine r_aload_n C 0 (dall tdX4_become 51 rfl) rfl ?_
    refine r_aload_n C 1 (dall tdX4_become 52 rfl) rfl ?_
    refine r_get C 5 kw_X4 rfl rfl (by decide) kf_X4_53 rfl rfl (dall tdX4_become 53 rfl) ?_
    refine r_put C 0 kw_X4 tyX4_ok nmX4 rfl rfl (by decide) kf_X4_53 rfl rfl rfl rfl rfl (Nat.le_of_ble_eq_true rfl) (pu_B_this_7 cy q r ρ (oI (oI (oI v.1 4 (ρ.1 4)) 5 (ρ.1 5)) 6 (ρ.1 6)) (ρ.1 7)) (dall tdX4_become 54 rfl) ?_
    refine r_aload_n C 0 (dall tdX4_become 55 rfl) rfl ?_
    refine r_aload_n C 1 (dall tdX4_become 56 rfl) rfl ?_
    refine r_get C 5 kw_X4 rfl rfl (by decide) kf_X4_27 rfl rfl (dall tdX4_become 57 rfl) ?_
    refine r_put C 0 kw_X4 tyX4_ok nmX4 rfl rfl (by decide) kf_X4_27 rfl rfl rfl rfl rfl (Nat.le_of_ble_eq_true rfl) (pu_B_this_8 cy q r ρ (oI (oI (oI (oI v.1 4 (ρ.1 4)) 5 (ρ.1 5)) 6 (ρ.1 6)) 7 (ρ.1 7)) (ρ.2.1 8)) (dall tdX4_become 58 rfl) ?_
    exact r_vret C hR (dall tdX4_become 59 rfl) (by subst h; exact ⟨rfl, rfl⟩)
  · have h := (if_neg c1).symm.trans h
    have ok := ok.2 c1
    refine r_aload_n C 0 (dall tdX4_become 5 rfl) rfl ?_
    refine r_get C 0 kw_X4 rfl rfl (by decide) kf_X4_9 rfl rfl (dall tdX4_become 6 rfl) ?_
    refine r_iload_n C 2 (dall tdX4_become 7 rfl) rfl ?_
    refine r_aload_n C 1 (dall tdX4_become 8 rfl) rfl ?_
    refine r_get C 5 kw_X4 rfl rfl (by decide) kf_X4_9 rfl rfl (dall tdX4_become 9 rfl) ?_
    refine r_iload_n C 2 (dall tdX4_become 10 rfl) rfl ?_
    obtain ⟨o2, ok⟩ := ok
    refine r_iald C 6 0 rfl rfl o2 (dall tdX4_become 11 rfl) ?_
    obtain ⟨o3, ok⟩ := ok
    refine r_iast C 1 0 rfl rfl o3 (pa_B_this_0 cy q r ρ v.1 v.2.toNatClampNeg (ρ.2.2.1 0 v.2.toNatClampNeg)) (dall tdX4_become 12 rfl) ?_
    refine r_aload_n C 0 (dall tdX4_become 13 rfl) rfl ?_
    refine r_get C 0 kw_X4 rfl rfl (by decide) kf_X4_15 rfl rfl (dall tdX4_become 14 rfl) ?_
    refine r_iload_n C 2 (dall tdX4_become 15 rfl) rfl ?_
    refine r_aload_n C 1 (dall tdX4_become 16 rfl) rfl ?_
    refine r_get C 5 kw_X4 rfl rfl (by decide) kf_X4_15 rfl rfl (dall tdX4_become 17 rfl) ?_
    refine r_iload_n C 2 (dall tdX4_become 18 rfl) rfl ?_
    obtain ⟨o4, ok⟩ := ok
    refine r_iald C 7 0 rfl rfl o4 (dall tdX4_become 19 rfl) ?_
    obtain ⟨o5, ok⟩ := ok
    refine r_iast C 2 0 rfl rfl o5 (pa_B_this_1 cy q r ρ (oS v.1 0 v.2.toNatClampNeg (ρ.2.2.1 0 v.2.toNatClampNeg)) v.2.toNatClampNeg (ρ.2.2.1 1 v.2.toNatClampNeg)) (dall tdX4_become 20 rfl) ?_
    refine r_aload_n C 0 (dall tdX4_become 21 rfl) rfl ?_
    refine r_get C 0 kw_X4 rfl rfl (by decide) kf_X4_18 rfl rfl (dall tdX4_become 22 rfl) ?_
    refine r_iload_n C 2 (dall tdX4_become 23 rfl) rfl ?_
    refine r_aload_n C 1 (dall tdX4_become 24 rfl) rfl ?_
    refine r_get C 5 kw_X4 rfl rfl (by decide) kf_X4_18 rfl rfl (dall tdX4_become 25 rfl) ?_
    refine r_iload_n C 2 (dall tdX4_become 26 rfl) rfl ?_
    obtain ⟨o6, ok⟩ := ok
    refine r_iald C 8 0 rfl rfl o6 (dall tdX4_become 27 rfl) ?_
    obtain ⟨o7, ok⟩ := ok
    refine r_iast C 3 0 rfl rfl o7 (pa_B_this_2 cy q r ρ (oS (oS v.1 0 v.2.toNatClampNeg (ρ.2.2.1 0 v.2.toNatClampNeg)) 1 v.2.toNatClampNeg (ρ.2.2.1 1 v.2.toNatClampNeg)) v.2.toNatClampNeg (ρ.2.2.1 2 v.2.toNatClampNeg)) (dall tdX4_become 28 rfl) ?_
    refine r_aload_n C 0 (dall tdX4_become 29 rfl) rfl ?_
    refine r_get C 0 kw_X4 rfl rfl (by decide) kf_X4_21 rfl rfl (dall tdX4_become 30 rfl) ?_
    refine r_iload_n C 2 (dall tdX4_become 31 rfl) rfl ?_
    refine r_aload_n C 1 (dall tdX4_become 32 rfl) rfl ?_
    refine r_get C 5 kw_X4 rfl rfl (by decide) kf_X4_21 rfl rfl (dall tdX4_become 33 rfl) ?_
    refine r_iload_n C 2 (dall tdX4_become 34 rfl) rfl ?_
    obtain ⟨o8, ok⟩ := ok
    refine r_lald C 9 1 rfl rfl o8 (dall tdX4_become 35 rfl) ?_
    obtain ⟨o9, ok⟩ := ok
    refine r_last C 4 1 rfl rfl o9 (pa_B_this_3 cy q r ρ (oS (oS (oS v.1 0 v.2.toNatClampNeg (ρ.2.2.1 0 v.2.toNatClampNeg)) 1 v.2.toNatClampNeg (ρ.2.2.1 1 v.2.toNatClampNeg)) 2 v.2.toNatClampNeg (ρ.2.2.1 2 v.2.toNatClampNeg)) v.2.toNatClampNeg (ρ.2.2.2 3 v.2.toNatClampNeg)) (dall tdX4_become 36 rfl) ?_
    refine r_iinc (v := v.2 + 1) (lv' := [(2, .int (v.2 + 1)), (0, .ref (q 12)), (1, .ref (r 12))]) C 2 (dall tdX4_become 37 rfl) rfl rfl (by decide) rfl ?_
    refine r_goto (tgt := 2) C (dall tdX4_become 38 rfl) (by decide) ?_
    refine r_pick [1, 2, 0] rfl ?_
    exact hk2 (oT (oS (oS (oS v.1 0 v.2.toNatClampNeg (ρ.2.2.1 0 v.2.toNatClampNeg)) 1 v.2.toNatClampNeg (ρ.2.2.1 1 v.2.toNatClampNeg)) 2 v.2.toNatClampNeg (ρ.2.2.1 2 v.2.toNatClampNeg)) 3 v.2.toNatClampNeg (ρ.2.2.2 3 v.2.toNatClampNeg), v.2 + 1) ok h
set_option maxHeartbeats 4000000 in
set_option maxRecDepth 100000 in
theorem lX4_become_2 {X : CX} {cy : Nat → ClassId} {q : Nat → Nat} {r : Nat → Nat} {ρ : OS} {D : va_G} {A : Nat → Prop} {res : OS}  (C : Cx X cX4_become RX4 3 D (gty cy) A 0 0 0) (hR : Rt X none D (gty cy) A 0 0 (eV (wB cy q r ρ res)))  (n : Nat) (v : OS × Int32) (ok : lpOk (kX4_become_2 ρ  ) n v) (h : lp o0 (bX4_become_2 ρ  ) n v = res) : At X D A 3 0 0 2 [(0, .ref (q 12)), (1, .ref (r 12)), (2, .int v.2)] [] (wB cy q r ρ v.1) :=
  lp_rule (fun v rr_ => rr_ = res → At X D A 3 0 0 2 [(0, .ref (q 12)), (1, .ref (r 12)), (2, .int v.2)] [] (wB cy q r ρ v.1)) (fun kR kO hk v ok h => wX4_become_2  C hR  kR kO hk v ok h) n v ok h
def pX4_become_0 (ρ : OS)  (σ : OS) : OS := lp o0 (bX4_become_2 ρ  ) fu (σ, 0)
def oX4_become_0 (ρ : OS)  (σ : OS) : Prop := lpOk (kX4_become_2 ρ  ) fu (σ, 0)
set_option maxHeartbeats 4000000 in
set_option maxRecDepth 100000 in
theorem wX4_become_0 {X : CX} {cy : Nat → ClassId} {q : Nat → Nat} {r : Nat → Nat} {ρ : OS} {D : va_G} {A : Nat → Prop} {res : OS} (σ : OS) (C : Cx X cX4_become RX4 3 D (gty cy) A 0 0 0) (hR : Rt X none D (gty cy) A 0 0 (eV (wB cy q r ρ res)))  (ok : oX4_become_0 ρ  σ) (h : pX4_become_0 ρ  σ = res) : At X D A 3 0 0 0 [(0, .ref (q 12)), (1, .ref (r 12))] [] (wB cy q r ρ σ) := by
  unfold pX4_become_0 at h
  unfold oX4_become_0 at ok
  refine r_iconst (v := 0) C (dall tdX4_become 0 rfl) (by decide) ?_
  refine r_istore_n (lv' := [(2, .int 0), (0, .ref (q 12)), (1, .ref (r 12))]) C (dall tdX4_become 1 rfl) (by decide) rfl ?_
  refine r_pick [1, 2, 0] rfl ?_
  exact lX4_become_2  C hR  fu _ ok h
def fX4_become (ρ : OS) (σ : OS) : OS := pX4_become_0 ρ  σ
def gX4_become (ρ : OS) (σ : OS) : Prop := oX4_become_0 ρ  σ
set_option maxRecDepth 100000 in
theorem zX4_become (cy : Nat → ClassId) (q : Nat → Nat) (r : Nat → Nat) (ρ : OS)  {D : va_G} (σ : OS) (ok : gX4_become ρ σ )  : Con yX4_become cX4_become 3 none 0 0 0 D (gty cy) [.ref (q 12), .ref (r 12)] (wB cy q r ρ σ) (eV (wB cy q r ρ (fX4_become ρ σ ))) :=
  Con.of (own := RX4) (by decide +kernel) rfl (Nat.le_of_ble_eq_true rfl) (Nat.zero_le _) (fun X A C hR _ => (wX4_become_0 σ C hR  ok rfl))
theorem mv_X4_become : MV yX4_become cX4_become 3 none RX4 1 := ⟨ki_X4_become, kv_X4_become, kn_X4, kc_X4_become, by decide +kernel⟩
def wF (cy : Nat → ClassId) (q : Nat → Nat) (σ : OS) : va_W := [(q 0, .inl (cy 0, 40, .inl (σ.2.2.1 0)))]
theorem pa_F_this_0 (cy : Nat → ClassId) (q : Nat → Nat) (σ : OS) (i : Nat) (x : Int32) : (wF cy q σ).set 0 (q 0, .inl (cy 0, 40, .inl (upd (σ.2.2.1 0) i x))) = wF cy q (oS σ 0 i x) := rfl
theorem put_fill (cy : Nat → ClassId) (q : Nat → Nat) (σ F : OS) : Put [1] (wX1 cy q σ) (wF cy q F) (wX1 cy q (oAr σ 0 (F.2.2.1 0))) := by
  refine ⟨rfl, fun i c hi => ?_⟩
  match i, hi with
  | 0, hi => exact Or.inr ⟨by simp, hi⟩
  | 1, hi => exact Or.inl ⟨by simp, by rw [← Option.some.inj hi]; exact List.mem_cons_self⟩
  | n + 2, hi => exact Or.inr ⟨by simp, hi⟩
def tbJ7_fill_53178 : List (Nat × Instr × Nat) := [(0, .iconst 0, 1), (1, .istore_n 2, 1), (2, .aload_n 0, 1), (3, .arraylength, 1), (4, .istore_n 3, 1), (5, .iload_n 2, 1), (6, .iload_n 3, 1), (7, .if_icmp .ge 13, 3), (10, .aload_n 0, 1), (11, .iload_n 2, 1), (12, .iload_n 1, 1), (13, .iastore, 1), (14, .iinc 2 1, 3), (17, .goto (-12), 3), (20, .return_, 1)]
theorem tdJ7_fill_53178 : tbJ7_fill_53178.all (fun q => decide (decode cJ7_fill_53178 q.1 = .ok q.2)) = true := by decide +kernel
def bJ7_fill_53178_5 (a1_ : Int32) (a3_ : Int32)  (kR5 : OS × Int32 → OS) (v : OS × Int32) : OS := if a3_ ≤ v.2 then v.1 else kR5 (oS v.1 0 v.2.toNatClampNeg a1_, v.2 + 1)
def kJ7_fill_53178_5 (a1_ : Int32) (a3_ : Int32)  (kO5 : OS × Int32 → Prop) (v : OS × Int32) : Prop := (a3_ ≤ v.2 → True) ∧ (¬ (a3_ ≤ v.2) → (vp_in v.2 40) ∧ (kO5 (oS v.1 0 v.2.toNatClampNeg a1_, v.2 + 1)))
set_option maxHeartbeats 4000000 in
set_option maxRecDepth 100000 in
theorem wJ7_fill_53178_5 {X : CX} {cy : Nat → ClassId} {q : Nat → Nat} {D : va_G} {A : Nat → Prop} {res : OS} (a1_ : Int32) (a3_ : Int32) (C : Cx X cJ7_fill_53178 RJ7 4 D (gty cy) A 0 0 0) (hR : Rt X none D (gty cy) A 0 0 (eV (wF cy q res))) (kR5 : OS × Int32 → OS) (kO5 : OS × Int32 → Prop) (hk5 : ∀ z, kO5 z → kR5 z = res → At X D A 4 0 0 5 [(0, .ref (q 0)), (1, .int a1_), (2, .int z.2), (3, .int a3_)] [] (wF cy q z.1)) (v : OS × Int32) (ok : kJ7_fill_53178_5 a1_ a3_ kO5 v) (h : bJ7_fill_53178_5 a1_ a3_ kR5 v = res) : At X D A 4 0 0 5 [(0, .ref (q 0)), (1, .int a1_), (2, .int v.2), (3, .int a3_)] [] (wF cy q v.1) := by
  unfold bJ7_fill_53178_5 at h
  unfold kJ7_fill_53178_5 at ok
  refine r_iload_n C 2 (dall tdJ7_fill_53178 5 rfl) rfl ?_
  refine r_iload_n C 3 (dall tdJ7_fill_53178 6 rfl) rfl ?_
  refine r_icmp_ge (tgt := 20) C (dall tdJ7_fill_53178 7 rfl) (by decide) (fun c1 => ?_) (fun c1 => ?_)
  · have h := (if_pos c1).symm.trans h
    have ok := ok.1 c1
    exact r_vret C hR (dall tdJ7_fill_53178 14 rfl) (by subst h; exact ⟨rfl, rfl⟩)
  · have h := (if_neg c1).symm.trans h
    have ok := ok.2 c1
    refine r_aload_n C 0 (dall tdJ7_fill_53178 8 rfl) rfl ?_
    refine r_iload_n C 2 (dall tdJ7_fill_53178 9 rfl) rfl ?_
    refine r_iload_n C 1 (dall tdJ7_fill_53178 10 rfl) rfl ?_
    obtain ⟨o2, ok⟩ := ok
    refine r_iast C 0 0 rfl rfl o2 (pa_F_this_0 cy q v.1 v.2.toNatClampNeg a1_) (dall tdJ7_fill_53178 11 rfl) ?_
    refine r_iinc (v := v.2 + 1) (lv' := [(2, .int (v.2 + 1)), (0, .ref (q 0)), (1, .int a1_), (3, .int a3_)]) C 2 (dall tdJ7_fill_53178 12 rfl) rfl rfl (by decide) rfl ?_
    refine r_goto (tgt := 5) C (dall tdJ7_fill_53178 13 rfl) (by decide) ?_
    refine r_pick [1, 2, 0, 3] rfl ?_
    exact hk5 (oS v.1 0 v.2.toNatClampNeg a1_, v.2 + 1) ok h
set_option maxHeartbeats 4000000 in
set_option maxRecDepth 100000 in
theorem lJ7_fill_53178_5 {X : CX} {cy : Nat → ClassId} {q : Nat → Nat} {D : va_G} {A : Nat → Prop} {res : OS} (a1_ : Int32) (a3_ : Int32) (C : Cx X cJ7_fill_53178 RJ7 4 D (gty cy) A 0 0 0) (hR : Rt X none D (gty cy) A 0 0 (eV (wF cy q res)))  (n : Nat) (v : OS × Int32) (ok : lpOk (kJ7_fill_53178_5 a1_ a3_ ) n v) (h : lp o0 (bJ7_fill_53178_5 a1_ a3_ ) n v = res) : At X D A 4 0 0 5 [(0, .ref (q 0)), (1, .int a1_), (2, .int v.2), (3, .int a3_)] [] (wF cy q v.1) :=
  lp_rule (fun v rr_ => rr_ = res → At X D A 4 0 0 5 [(0, .ref (q 0)), (1, .int a1_), (2, .int v.2), (3, .int a3_)] [] (wF cy q v.1)) (fun kR kO hk v ok h => wJ7_fill_53178_5 a1_ a3_ C hR  kR kO hk v ok h) n v ok h
def pJ7_fill_53178_0  (σ : OS) (a1_ : Int32) : OS := lp o0 (bJ7_fill_53178_5 a1_ 40 ) fu (σ, 0)
def oJ7_fill_53178_0  (σ : OS) (a1_ : Int32) : Prop := lpOk (kJ7_fill_53178_5 a1_ 40 ) fu (σ, 0)
set_option maxHeartbeats 4000000 in
set_option maxRecDepth 100000 in
theorem wJ7_fill_53178_0 {X : CX} {cy : Nat → ClassId} {q : Nat → Nat} {D : va_G} {A : Nat → Prop} {res : OS} (σ : OS) (a1_ : Int32) (C : Cx X cJ7_fill_53178 RJ7 4 D (gty cy) A 0 0 0) (hR : Rt X none D (gty cy) A 0 0 (eV (wF cy q res)))  (ok : oJ7_fill_53178_0  σ a1_) (h : pJ7_fill_53178_0  σ a1_ = res) : At X D A 4 0 0 0 [(0, .ref (q 0)), (1, .int a1_)] [] (wF cy q σ) := by
  unfold pJ7_fill_53178_0 at h
  unfold oJ7_fill_53178_0 at ok
  refine r_iconst (v := 0) C (dall tdJ7_fill_53178 0 rfl) (by decide) ?_
  refine r_istore_n (lv' := [(2, .int 0), (0, .ref (q 0)), (1, .int a1_)]) C (dall tdJ7_fill_53178 1 rfl) (by decide) rfl ?_
  refine r_aload_n C 1 (dall tdJ7_fill_53178 2 rfl) rfl ?_
  refine r_alen (v := 40) C 0 0 rfl rfl rfl (dall tdJ7_fill_53178 3 rfl) ?_
  refine r_istore_n (lv' := [(3, .int 40), (2, .int 0), (0, .ref (q 0)), (1, .int a1_)]) C (dall tdJ7_fill_53178 4 rfl) (by decide) rfl ?_
  refine r_pick [2, 3, 1, 0] rfl ?_
  exact lJ7_fill_53178_5 a1_ 40 C hR  fu _ ok h
def fJ7_fill_53178 (σ : OS) (a1_ : Int32) : OS := pJ7_fill_53178_0  σ a1_
def gJ7_fill_53178 (σ : OS) (a1_ : Int32) : Prop := oJ7_fill_53178_0  σ a1_
set_option maxRecDepth 100000 in
theorem zJ7_fill_53178 (cy : Nat → ClassId) (q : Nat → Nat)  {D : va_G} (σ : OS) (a1_ : Int32) (ok : gJ7_fill_53178 σ a1_)  : Con yJ7_fill_53178 cJ7_fill_53178 4 none 0 0 0 D (gty cy) [.ref (q 0), .int a1_] (wF cy q σ) (eV (wF cy q (fJ7_fill_53178 σ a1_))) :=
  Con.of (own := RJ7) (by decide +kernel) rfl (Nat.le_of_ble_eq_true rfl) (Nat.zero_le _) (fun X A C hR _ => (wJ7_fill_53178_0 σ a1_ C hR  ok rfl))
theorem ms_J7_fill_53178 : MS_ yJ7_fill_53178 cJ7_fill_53178 4 none 2 := ⟨ks_J7_fill_53178, kn_J7, kc_J7_fill_53178, by decide +kernel⟩
def tbX1_become : List (Nat × Instr × Nat) := [(0, .aload_n 0, 1), (1, .iload_n 1, 1), (2, .putfield 15, 3), (5, .aload_n 0, 1), (6, .iload_n 2, 1), (7, .putfield 19, 3), (10, .aload_n 0, 1), (11, .getfield 9, 3), (14, .iconst 0, 1), (15, .invokestatic 22, 3), (18, .return_, 1)]
theorem tdX1_become : tbX1_become.all (fun q => decide (decode cX1_become q.1 = .ok q.2)) = true := by decide +kernel
def pX1_become_18  (σ : OS) : OS := σ
set_option maxHeartbeats 4000000 in
set_option maxRecDepth 100000 in
theorem wX1_become_18 {X : CX} {cy : Nat → ClassId} {q : Nat → Nat} {D : va_G} {A : Nat → Prop} {res : OS} (σ : OS) (C : Cx X cX1_become RX1 3 D (gty cy) A 1 0 0) (hR : Rt X none D (gty cy) A 0 0 (eV (wX1 cy q res)))  (h : pX1_become_18  σ = res) : At X D A 3 0 0 18 [] [] (wX1 cy q σ) := by
  unfold pX1_become_18 at h
  exact r_vret C hR (dall tdX1_become 10 rfl) (by subst h; exact ⟨rfl, rfl⟩)
def pX1_become_0  (σ : OS) (a1_ : Int32) (a2_ : Int32) : OS := pX1_become_18  (oAr (oI (oI σ 1 a1_) 2 a2_) 0 ((fJ7_fill_53178 (oI (oI σ 1 a1_) 2 a2_) 0).2.2.1 0))
def oX1_become_0  (σ : OS) (a1_ : Int32) (a2_ : Int32) : Prop := gJ7_fill_53178 (oI (oI σ 1 a1_) 2 a2_) 0
set_option maxHeartbeats 4000000 in
set_option maxRecDepth 100000 in
theorem wX1_become_0 {X : CX} {cy : Nat → ClassId} {q : Nat → Nat} {D : va_G} {A : Nat → Prop} {res : OS} (σ : OS) (a1_ : Int32) (a2_ : Int32) (C : Cx X cX1_become RX1 3 D (gty cy) A 1 0 0) (hR : Rt X none D (gty cy) A 0 0 (eV (wX1 cy q res)))  (ok : oX1_become_0  σ a1_ a2_) (h : pX1_become_0  σ a1_ a2_ = res) : At X D A 3 0 0 0 [(0, .ref (q 3)), (1, .int a1_), (2, .int a2_)] [] (wX1 cy q σ) := by
  unfold pX1_become_0 at h
  unfold oX1_become_0 at ok
  refine r_aload_n C 0 (dall tdX1_become 0 rfl) rfl ?_
  refine r_iload_n C 1 (dall tdX1_become 1 rfl) rfl ?_
  refine r_put C 0 kw_X1 tyX1_ok nmX1 rfl rfl (by decide) kf_X1_15 rfl rfl rfl rfl rfl (Nat.le_of_ble_eq_true rfl) (pu_X1_this_1 cy q σ a1_) (dall tdX1_become 2 rfl) ?_
  refine r_aload_n C 0 (dall tdX1_become 3 rfl) rfl ?_
  refine r_iload_n C 2 (dall tdX1_become 4 rfl) rfl ?_
  refine r_put C 0 kw_X1 tyX1_ok nmX1 rfl rfl (by decide) kf_X1_19 rfl rfl rfl rfl rfl (Nat.le_of_ble_eq_true rfl) (pu_X1_this_2 cy q (oI σ 1 a1_) a2_) (dall tdX1_become 5 rfl) ?_
  refine r_aload_n C 0 (dall tdX1_become 6 rfl) rfl ?_
  refine r_get C 0 kw_X1 rfl rfl (by decide) kf_X1_9 rfl rfl (dall tdX1_become 7 rfl) ?_
  refine r_iconst (v := 0) C (dall tdX1_become 8 rfl) (by decide) ?_
  have o1 := ok
  refine r_callWS (as := [.ref (q 0), .int 0]) C (zJ7_fill_53178 cy q (oI (oI σ 1 a1_) 2 a2_) 0 o1) ms_J7_fill_53178 km_X1_22 (by decide) (by decide) ⟨Nat.le_refl _, Nat.le_refl _⟩ [1] rfl rfl rfl rfl (Nat.le_of_ble_eq_true rfl) (dall tdX1_become 9 rfl) (fun v w hp => ?_)
  obtain ⟨rfl, rfl⟩ := hp
  refine ⟨_, put_fill cy q (oI (oI σ 1 a1_) 2 a2_) (fJ7_fill_53178 (oI (oI σ 1 a1_) 2 a2_) 0), ?_⟩
  refine r_pick [] rfl ?_
  exact wX1_become_18 (oAr (oI (oI σ 1 a1_) 2 a2_) 0 ((fJ7_fill_53178 (oI (oI σ 1 a1_) 2 a2_) 0).2.2.1 0)) C hR  h
def fX1_become (σ : OS) (a1_ : Int32) (a2_ : Int32) : OS := pX1_become_0  σ a1_ a2_
def gX1_become (σ : OS) (a1_ : Int32) (a2_ : Int32) : Prop := oX1_become_0  σ a1_ a2_
set_option maxRecDepth 100000 in
theorem zX1_become (cy : Nat → ClassId) (q : Nat → Nat)  {D : va_G} (σ : OS) (a1_ : Int32) (a2_ : Int32) (ok : gX1_become σ a1_ a2_)  : Con yX1_become cX1_become 3 none 1 0 0 D (gty cy) [.ref (q 3), .int a1_, .int a2_] (wX1 cy q σ) (eV (wX1 cy q (fX1_become σ a1_ a2_))) :=
  Con.of (own := RX1) (by decide +kernel) rfl (Nat.le_of_ble_eq_true rfl) (Nat.zero_le _) (fun X A C hR _ => (wX1_become_0 σ a1_ a2_ C hR  ok rfl))
theorem mv_X1_become : MV yX1_become cX1_become 3 none RX1 2 := ⟨ki_X1_become, kv_X1_become, kn_X1, kc_X1_become, by decide +kernel⟩

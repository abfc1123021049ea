def tbX5_copy : List (Nat × Instr × Nat) := [(0, .iload_n 1, 1), (1, .invokestatic 197, 3), (4, .ifCond .eq 10, 3), (7, .iload_n 3, 1), (8, .invokestatic 197, 3), (11, .ifCond .ne 6, 3), (14, .bipush (-2), 2), (16, .ireturn, 1), (17, .aload_n 0, 1), (18, .getfield 39, 3), (21, .iload_n 1, 1), (22, .aaload, 1), (23, .astore 6, 2), (25, .aload_n 0, 1), (26, .getfield 39, 3), (29, .iload_n 3, 1), (30, .aaload, 1), (31, .astore 7, 2), (33, .aload 6, 2), (35, .invokevirtual 200, 3), (38, .ifCond .ne 11, 3), (41, .aload 7, 2), (43, .invokevirtual 200, 3), (46, .ifCond .eq 6, 3), (49, .bipush (-11), 2), (51, .ireturn, 1), (52, .aload 6, 2), (54, .getfield 228, 3), (57, .aload 7, 2), (59, .getfield 228, 3), (62, .if_icmp .eq 6, 3), (65, .bipush (-13), 2), (67, .ireturn, 1), (68, .aload 6, 2), (70, .iload_n 2, 1), (71, .iload 5, 2), (73, .invokevirtual 231, 3), (76, .ifCond .eq 15, 3), (79, .aload 7, 2), (81, .iload 4, 2), (83, .iload 5, 2), (85, .invokevirtual 231, 3), (88, .ifCond .ne 6, 3), (91, .bipush (-12), 2), (93, .ireturn, 1), (94, .aload 6, 2), (96, .getfield 234, 3), (99, .iload_n 2, 1), (100, .aload 7, 2), (102, .getfield 234, 3), (105, .iload 4, 2), (107, .iload 5, 2), (109, .invokestatic 237, 3), (112, .iload 5, 2), (114, .ireturn, 1)]
theorem tdX5_copy : tbX5_copy.all (fun q => decide (decode cX5_copy q.1 = .ok q.2)) = true := by decide +kernel
def pX5_copy_0 (τ : TX) (si : Nat) (sj : Nat)  (σ : XS) (a1_ : Int32) (a2_ : Int32) (a3_ : Int32) (a4_ : Int32) (a5_ : Int32) : Int32 × XS := if (fX5_isSheet a1_) = 0 then ((-2), σ) else if (fX5_isSheet a3_) = 0 then ((-2), σ) else if (fX1_isMissing (σ.2.2.2.2.2 si)) = 0 then if (fX1_isMissing (σ.2.2.2.2.2 sj)) = 0 then if ((σ.2.2.2.2.2 si).1 1) = ((σ.2.2.2.2.2 sj).1 1) then if (fX1_hasRange (σ.2.2.2.2.2 si) a2_ a5_) = 0 then ((-12), σ) else if (fX1_hasRange (σ.2.2.2.2.2 sj) a4_ a5_) = 0 then ((-12), σ) else (a5_, xS σ sj (oAr (σ.2.2.2.2.2 sj) 0 (va_cpy ((σ.2.2.2.2.2 si).2.2.1 0) ((σ.2.2.2.2.2 sj).2.2.1 0) a2_.toNatClampNeg a4_.toNatClampNeg a5_.toNatClampNeg))) else ((-13), σ) else ((-11), σ) else ((-11), σ)
def oX5_copy_0 (τ : TX) (si : Nat) (sj : Nat)  (σ : XS) (a1_ : Int32) (a2_ : Int32) (a3_ : Int32) (a4_ : Int32) (a5_ : Int32) : Prop := (gX5_isSheet a1_) ∧ (((fX5_isSheet a1_) = 0 → True) ∧ (¬ ((fX5_isSheet a1_) = 0) → (gX5_isSheet a3_) ∧ (((fX5_isSheet a3_) = 0 → True) ∧ (¬ ((fX5_isSheet a3_) = 0) → (vp_in a1_ 4) ∧ ((a1_.toNatClampNeg = si) ∧ ((vp_in a3_ 4) ∧ ((a3_.toNatClampNeg = sj) ∧ ((si < 4) ∧ (((fX1_isMissing (σ.2.2.2.2.2 si)) = 0 → (sj < 4) ∧ (((fX1_isMissing (σ.2.2.2.2.2 sj)) = 0 → (si < 4) ∧ ((sj < 4) ∧ ((((σ.2.2.2.2.2 si).1 1) = ((σ.2.2.2.2.2 sj).1 1) → (si < 4) ∧ (((fX1_hasRange (σ.2.2.2.2.2 si) a2_ a5_) = 0 → True) ∧ (¬ ((fX1_hasRange (σ.2.2.2.2.2 si) a2_ a5_) = 0) → (sj < 4) ∧ (((fX1_hasRange (σ.2.2.2.2.2 sj) a4_ a5_) = 0 → True) ∧ (¬ ((fX1_hasRange (σ.2.2.2.2.2 sj) a4_ a5_) = 0) → (si < 4) ∧ ((sj < 4) ∧ ((si < 4) ∧ ((sj < 4) ∧ ((¬ a2_ < 0) ∧ ((¬ a4_ < 0) ∧ ((¬ a5_ < 0) ∧ ((a2_.toNatClampNeg + a5_.toNatClampNeg ≤ 40) ∧ (a4_.toNatClampNeg + a5_.toNatClampNeg ≤ 40))))))))))))) ∧ (¬ (((σ.2.2.2.2.2 si).1 1) = ((σ.2.2.2.2.2 sj).1 1)) → True)))) ∧ (¬ ((fX1_isMissing (σ.2.2.2.2.2 sj)) = 0) → True))) ∧ (¬ ((fX1_isMissing (σ.2.2.2.2.2 si)) = 0) → True))))))))))
set_option maxHeartbeats 4000000 in
set_option maxRecDepth 100000 in
theorem wX5_copy_0 {X : CX} {cy : Nat → ClassId} {q : Nat → Nat} {qn : Nat → Nat} {qt : Nat → Nat} {qk : Nat → Nat} {qr : Nat → Nat} {qs : Nat → Nat → Nat} {a : Nat} {τ : TX} {si : Nat} {sj : Nat} {D : va_G} {A : Nat → Prop} {res : Int32 × XS} (σ : XS) (a1_ : Int32) (a2_ : Int32) (a3_ : Int32) (a4_ : Int32) (a5_ : Int32) (C : Cx X cX5_copy RX5 8 D (gty cy) A 2 0 0) (hR : Rt X (some .int) D (gty cy) A 0 0 (eI (wX5 cy q qn qt qk qr qs a τ res.2) res.1))  (ok : oX5_copy_0 τ si sj  σ a1_ a2_ a3_ a4_ a5_) (h : pX5_copy_0 τ si sj  σ a1_ a2_ a3_ a4_ a5_ = res) : At X D A 8 0 0 0 [(0, .ref (q 8)), (1, .int a1_), (2, .int a2_), (3, .int a3_), (4, .int a4_), (5, .int a5_)] [] (wX5 cy q qn qt qk qr qs a τ σ) := by
  unfold pX5_copy_0 at h
  unfold oX5_copy_0 at ok
  refine r_iload_n C 1 (dall tdX5_copy 0 rfl) rfl ?_
  obtain ⟨o1, ok⟩ := ok
  refine r_s0I (as := [.int a1_]) C (zX5_isSheet a1_ o1) ms_X5_isSheet km_X5_197 (by decide) (by decide) ⟨Nat.le_refl _, Nat.le_refl _⟩ rfl rfl (Nat.le_of_ble_eq_true rfl) (dall tdX5_copy 1 rfl) ?_
  refine r_if_eq (tgt := 14) C (dall tdX5_copy 2 rfl) (by decide) (fun c2 => ?_) (fun c2 => ?_)
  · have h := (if_pos c2).symm.trans h
    have ok := ok.1 c2
    refine r_bipush (v := -2) C (dall tdX5_copy 6 rfl) (by decide) ?_
    exact r_iret C hR (dall tdX5_copy 7 rfl) (by subst h; exact ⟨rfl, rfl⟩)
  · have h := (if_neg c2).symm.trans h
    have ok := ok.2 c2
    refine r_iload_n C 3 (dall tdX5_copy 3 rfl) rfl ?_
    obtain ⟨o3, ok⟩ := ok
    refine r_s0I (as := [.int a3_]) C (zX5_isSheet a3_ o3) ms_X5_isSheet km_X5_197 (by decide) (by decide) ⟨Nat.le_refl _, Nat.le_refl _⟩ rfl rfl (Nat.le_of_ble_eq_true rfl) (dall tdX5_copy 4 rfl) ?_
    refine r_if_ne (tgt := 17) C (dall tdX5_copy 5 rfl) (by decide) (fun c4 => ?_) (fun c4 => ?_)
    · have h := (if_neg c4).symm.trans h
      have ok := ok.2 c4
      refine r_aload_n C 0 (dall tdX5_copy 8 rfl) rfl ?_
      refine r_get C 0 kw_X5 rfl rfl (by decide) kf_X5_39 rfl rfl (dall tdX5_copy 9 rfl) ?_
      refine r_iload_n C 1 (dall tdX5_copy 10 rfl) rfl ?_
      obtain ⟨o5, ok⟩ := ok
      obtain ⟨o6, ok⟩ := ok
      refine r_shs C o5 o6 (dall tdX5_copy 11 rfl) ?_
      refine r_astore (lv' := [(6, .ref (qs si 3)), (0, .ref (q 8)), (1, .int a1_), (2, .int a2_), (3, .int a3_), (4, .int a4_), (5, .int a5_)]) C (dall tdX5_copy 12 rfl) (by decide) rfl ?_
      refine r_aload_n C 1 (dall tdX5_copy 13 rfl) rfl ?_
      refine r_get C 0 kw_X5 rfl rfl (by decide) kf_X5_39 rfl rfl (dall tdX5_copy 14 rfl) ?_
      refine r_iload_n C 4 (dall tdX5_copy 15 rfl) rfl ?_
      obtain ⟨o7, ok⟩ := ok
      obtain ⟨o8, ok⟩ := ok
      refine r_shs C o7 o8 (dall tdX5_copy 16 rfl) ?_
      refine r_astore (lv' := [(7, .ref (qs sj 3)), (6, .ref (qs si 3)), (0, .ref (q 8)), (1, .int a1_), (2, .int a2_), (3, .int a3_), (4, .int a4_), (5, .int a5_)]) C (dall tdX5_copy 17 rfl) (by decide) rfl ?_
      refine r_aload C 1 (dall tdX5_copy 18 rfl) rfl ?_
      obtain ⟨o9, ok⟩ := ok
      refine rcS_I0 (as := []) C o9 (zX1_isMissing cy (qs si) (σ.2.2.2.2.2 si)  ) mv_X1_isMissing km_X5_200 (by decide) (by decide) ⟨Nat.le_refl _, Nat.le_refl _⟩ rfl rfl (Nat.le_of_ble_eq_true rfl) (dall tdX5_copy 19 rfl) ?_
      refine r_if_ne (tgt := 49) C (dall tdX5_copy 20 rfl) (by decide) (fun c10 => ?_) (fun c10 => ?_)
      · have h := (if_neg c10).symm.trans h
        have ok := ok.2 c10
        refine r_bipush (v := -11) C (dall tdX5_copy 24 rfl) (by decide) ?_
        exact r_iret C hR (dall tdX5_copy 25 rfl) (by subst h; exact ⟨rfl, rfl⟩)
      · have h := (if_pos c10).symm.trans h
        have ok := ok.1 c10
        refine r_aload C 0 (dall tdX5_copy 21 rfl) rfl ?_
        obtain ⟨o11, ok⟩ := ok
        refine rcS_I0 (as := []) C o11 (zX1_isMissing cy (qs sj) (σ.2.2.2.2.2 sj)  ) mv_X1_isMissing km_X5_200 (by decide) (by decide) ⟨Nat.le_refl _, Nat.le_refl _⟩ rfl rfl (Nat.le_of_ble_eq_true rfl) (dall tdX5_copy 22 rfl) ?_
        refine r_if_eq (tgt := 52) C (dall tdX5_copy 23 rfl) (by decide) (fun c12 => ?_) (fun c12 => ?_)
        · have h := (if_pos c12).symm.trans h
          have ok := ok.1 c12
          refine r_aload C 1 (dall tdX5_copy 26 rfl) rfl ?_
          obtain ⟨o13, ok⟩ := ok
          refine r_get C (27 + 2 * si) kw_X1 (sh_obj o13) rfl (by decide) kf_X5_228 rfl rfl (dall tdX5_copy 27 rfl) ?_
          refine r_aload C 0 (dall tdX5_copy 28 rfl) rfl ?_
          obtain ⟨o14, ok⟩ := ok
          refine r_get C (27 + 2 * sj) kw_X1 (sh_obj o14) rfl (by decide) kf_X5_228 rfl rfl (dall tdX5_copy 29 rfl) ?_
          refine r_icmp_eq (tgt := 68) C (dall tdX5_copy 30 rfl) (by decide) (fun c15 => ?_) (fun c15 => ?_)
          · have h := (if_pos c15).symm.trans h
            have ok := ok.1 c15
            refine r_aload C 1 (dall tdX5_copy 33 rfl) rfl ?_
            refine r_iload_n C 4 (dall tdX5_copy 34 rfl) rfl ?_
            refine r_iload C 7 (dall tdX5_copy 35 rfl) rfl ?_
            obtain ⟨o16, ok⟩ := ok
            refine rcS_I0 (as := [.int a2_, .int a5_]) C o16 (zX1_hasRange cy (qs si) (σ.2.2.2.2.2 si) a2_ a5_ ) mv_X1_hasRange km_X5_231 (by decide) (by decide) ⟨Nat.le_refl _, Nat.le_refl _⟩ rfl rfl (Nat.le_of_ble_eq_true rfl) (dall tdX5_copy 36 rfl) ?_
            refine r_if_eq (tgt := 91) C (dall tdX5_copy 37 rfl) (by decide) (fun c17 => ?_) (fun c17 => ?_)
            · have h := (if_pos c17).symm.trans h
              have ok := ok.1 c17
              refine r_bipush (v := -12) C (dall tdX5_copy 43 rfl) (by decide) ?_
              exact r_iret C hR (dall tdX5_copy 44 rfl) (by subst h; exact ⟨rfl, rfl⟩)
            · have h := (if_neg c17).symm.trans h
              have ok := ok.2 c17
              refine r_aload C 0 (dall tdX5_copy 38 rfl) rfl ?_
              refine r_iload C 6 (dall tdX5_copy 39 rfl) rfl ?_
              refine r_iload C 7 (dall tdX5_copy 40 rfl) rfl ?_
              obtain ⟨o18, ok⟩ := ok
              refine rcS_I0 (as := [.int a4_, .int a5_]) C o18 (zX1_hasRange cy (qs sj) (σ.2.2.2.2.2 sj) a4_ a5_ ) mv_X1_hasRange km_X5_231 (by decide) (by decide) ⟨Nat.le_refl _, Nat.le_refl _⟩ rfl rfl (Nat.le_of_ble_eq_true rfl) (dall tdX5_copy 41 rfl) ?_
              refine r_if_ne (tgt := 94) C (dall tdX5_copy 42 rfl) (by decide) (fun c19 => ?_) (fun c19 => ?_)
              · have h := (if_neg c19).symm.trans h
                have ok := ok.2 c19
                refine r_aload C 1 (dall tdX5_copy 45 rfl) rfl ?_
                obtain ⟨o20, ok⟩ := ok
                refine r_get C (27 + 2 * si) kw_X1 (sh_obj o20) rfl (by decide) kf_X5_234 rfl rfl (dall tdX5_copy 46 rfl) ?_
                refine r_iload_n C 4 (dall tdX5_copy 47 rfl) rfl ?_
                refine r_aload C 0 (dall tdX5_copy 48 rfl) rfl ?_
                obtain ⟨o21, ok⟩ := ok
                refine r_get C (27 + 2 * sj) kw_X1 (sh_obj o21) rfl (by decide) kf_X5_234 rfl rfl (dall tdX5_copy 49 rfl) ?_
                refine r_iload C 6 (dall tdX5_copy 50 rfl) rfl ?_
                refine r_iload C 7 (dall tdX5_copy 51 rfl) rfl ?_
                obtain ⟨o22, ok⟩ := ok
                obtain ⟨o23, ok⟩ := ok
                obtain ⟨o24, ok⟩ := ok
                obtain ⟨o25, ok⟩ := ok
                obtain ⟨o26, ok⟩ := ok
                obtain ⟨o27, ok⟩ := ok
                have o28 := ok
                refine r_acopy C o22 o23 o24 o25 o26 o27 o28 km_X5_237 (by decide) (Nat.le_of_ble_eq_true rfl) (dall tdX5_copy 52 rfl) ?_
                refine r_iload C 7 (dall tdX5_copy 53 rfl) rfl ?_
                exact r_iret C hR (dall tdX5_copy 54 rfl) (by subst h; exact ⟨rfl, rfl⟩)
              · have h := (if_pos c19).symm.trans h
                have ok := ok.1 c19
                refine r_bipush (v := -12) C (dall tdX5_copy 43 rfl) (by decide) ?_
                exact r_iret C hR (dall tdX5_copy 44 rfl) (by subst h; exact ⟨rfl, rfl⟩)
          · have h := (if_neg c15).symm.trans h
            have ok := ok.2 c15
            refine r_bipush (v := -13) C (dall tdX5_copy 31 rfl) (by decide) ?_
            exact r_iret C hR (dall tdX5_copy 32 rfl) (by subst h; exact ⟨rfl, rfl⟩)
        · have h := (if_neg c12).symm.trans h
          have ok := ok.2 c12
          refine r_bipush (v := -11) C (dall tdX5_copy 24 rfl) (by decide) ?_
          exact r_iret C hR (dall tdX5_copy 25 rfl) (by subst h; exact ⟨rfl, rfl⟩)
    · have h := (if_pos c4).symm.trans h
      have ok := ok.1 c4
      refine r_bipush (v := -2) C (dall tdX5_copy 6 rfl) (by decide) ?_
      exact r_iret C hR (dall tdX5_copy 7 rfl) (by subst h; exact ⟨rfl, rfl⟩)
def fX5_copy (τ : TX) (si : Nat) (sj : Nat) (σ : XS) (a1_ : Int32) (a2_ : Int32) (a3_ : Int32) (a4_ : Int32) (a5_ : Int32) : Int32 × XS := pX5_copy_0 τ si sj  σ a1_ a2_ a3_ a4_ a5_
def gX5_copy (τ : TX) (si : Nat) (sj : Nat) (σ : XS) (a1_ : Int32) (a2_ : Int32) (a3_ : Int32) (a4_ : Int32) (a5_ : Int32) : Prop := oX5_copy_0 τ si sj  σ a1_ a2_ a3_ a4_ a5_
set_option maxRecDepth 100000 in
theorem zX5_copy (cy : Nat → ClassId) (q : Nat → Nat) (qn : Nat → Nat) (qt : Nat → Nat) (qk : Nat → Nat) (qr : Nat → Nat) (qs : Nat → Nat → Nat) (a : Nat) (τ : TX) (si : Nat) (sj : Nat)  {D : va_G} (σ : XS) (a1_ : Int32) (a2_ : Int32) (a3_ : Int32) (a4_ : Int32) (a5_ : Int32) (ok : gX5_copy τ si sj σ a1_ a2_ a3_ a4_ a5_)  : Con yX5_copy cX5_copy 8 (some .int) 2 0 0 D (gty cy) [.ref (q 8), .int a1_, .int a2_, .int a3_, .int a4_, .int a5_] (wX5 cy q qn qt qk qr qs a τ σ) (eI (wX5 cy q qn qt qk qr qs a τ (fX5_copy τ si sj σ a1_ a2_ a3_ a4_ a5_).2) (fX5_copy τ si sj σ a1_ a2_ a3_ a4_ a5_).1) :=
  Con.of (own := RX5) (by decide +kernel) rfl (Nat.le_of_ble_eq_true rfl) (Nat.zero_le _) (fun X A C hR _ => (wX5_copy_0 σ a1_ a2_ a3_ a4_ a5_ C hR  ok rfl))
theorem mv_X5_copy : MV yX5_copy cX5_copy 8 (some .int) RX5 5 := ⟨ki_X5_copy, kv_X5_copy, kn_X5, kc_X5_copy, by decide +kernel⟩
def tbX5_bag : List (Nat × Instr × Nat) := [(0, .iload_n 1, 1), (1, .invokestatic 197, 3), (4, .ifCond .eq 20, 3), (7, .iload_n 2, 1), (8, .iconst 2, 1), (9, .invokestatic 74, 3), (12, .ifCond .eq 12, 3), (15, .iload 4, 2), (17, .iconst 5, 1), (18, .invokestatic 74, 3), (21, .ifCond .ne 6, 3), (24, .bipush (-2), 2), (26, .ireturn, 1), (27, .aload_n 0, 1), (28, .getfield 39, 3), (31, .iload_n 1, 1), (32, .aaload, 1), (33, .astore 5, 2), (35, .aload 5, 2), (37, .invokevirtual 200, 3), (40, .ifCond .eq 6, 3), (43, .bipush (-11), 2), (45, .ireturn, 1), (46, .aload 5, 2), (48, .getfield 228, 3), (51, .iload_n 2, 1), (52, .if_icmp .eq 6, 3), (55, .bipush (-13), 2), (57, .ireturn, 1), (58, .iconst 0, 1), (59, .istore 6, 2), (61, .iconst 0, 1), (62, .istore 7, 2), (64, .iload 7, 2), (66, .iload 4, 2), (68, .if_icmp .ge 78, 3), (71, .iload_n 3, 1), (72, .ifCond .lt 19, 3), (75, .iload_n 3, 1), (76, .aload 5, 2), (78, .getfield 203, 3), (81, .iconst 3, 1), (82, .iload 7, 2), (84, .imul, 1), (85, .isub, 1), (86, .iconst 3, 1), (87, .isub, 1), (88, .if_icmp .le 6, 3), (91, .bipush (-12), 2), (93, .ireturn, 1), (94, .iload_n 3, 1), (95, .iconst 3, 1), (96, .iload 7, 2), (98, .imul, 1), (99, .iadd, 1), (100, .istore 8, 2), (102, .aload_n 0, 1), (103, .aload 5, 2), (105, .getfield 234, 3), (108, .iload 8, 2), (110, .iaload, 1), (111, .aload 5, 2), (113, .getfield 234, 3), (116, .iload 8, 2), (118, .iconst 1, 1), (119, .iadd, 1), (120, .iaload, 1), (121, .aload 5, 2), (123, .getfield 234, 3), (126, .iload 8, 2), (128, .iconst 2, 1), (129, .iadd, 1), (130, .iaload, 1), (131, .invokevirtual 243, 3), (134, .ifCond .lt 6, 3), (137, .iinc 6 1, 3), (140, .iinc 7 1, 3), (143, .goto (-79), 3), (146, .iload 6, 2), (148, .ireturn, 1)]
theorem tdX5_bag : tbX5_bag.all (fun q => decide (decode cX5_bag q.1 = .ok q.2)) = true := by decide +kernel
def pX5_bag_140 (τ : TX) (si : Nat) (kR64 : XS × Int32 × Int32 → Int32 × XS) (σ : XS) (a3_ : Int32) (a4_ : Int32) (a6_ : Int32) (a7_ : Int32) : Int32 × XS := kR64 (σ, a6_, a7_ + 1)
def oX5_bag_140 (τ : TX) (si : Nat) (kO64 : XS × Int32 × Int32 → Prop) (σ : XS) (a3_ : Int32) (a4_ : Int32) (a6_ : Int32) (a7_ : Int32) : Prop := kO64 (σ, a6_, a7_ + 1)
set_option maxHeartbeats 4000000 in
set_option maxRecDepth 100000 in
theorem wX5_bag_140 {X : CX} {cy : Nat → ClassId} {q : Nat → Nat} {qn : Nat → Nat} {qt : Nat → Nat} {qk : Nat → Nat} {qr : Nat → Nat} {qs : Nat → Nat → Nat} {a : Nat} {τ : TX} {si : Nat} {D : va_G} {A : Nat → Prop} {res : Int32 × XS} (σ : XS) (a3_ : Int32) (a4_ : Int32) (a6_ : Int32) (a7_ : Int32) (C : Cx X cX5_bag RX5 9 D (gty cy) A 3 0 0) (hR : Rt X (some .int) D (gty cy) A 0 0 (eI (wX5 cy q qn qt qk qr qs a τ res.2) res.1)) (kR64 : XS × Int32 × Int32 → Int32 × XS) (kO64 : XS × Int32 × Int32 → Prop) (hk64 : ∀ z, kO64 z → kR64 z = res → At X D A 9 0 0 64 [(0, .ref (q 8)), (3, .int a3_), (4, .int a4_), (5, .ref (qs si 3)), (6, .int z.2.1), (7, .int z.2.2)] [] (wX5 cy q qn qt qk qr qs a τ z.1)) (ok : oX5_bag_140 τ si kO64 σ a3_ a4_ a6_ a7_) (h : pX5_bag_140 τ si kR64 σ a3_ a4_ a6_ a7_ = res) : At X D A 9 0 0 140 [(0, .ref (q 8)), (3, .int a3_), (4, .int a4_), (5, .ref (qs si 3)), (6, .int a6_), (7, .int a7_)] [] (wX5 cy q qn qt qk qr qs a τ σ) := by
  unfold pX5_bag_140 at h
  unfold oX5_bag_140 at ok
  refine r_iinc (v := a7_ + 1) (lv' := [(7, .int (a7_ + 1)), (0, .ref (q 8)), (3, .int a3_), (4, .int a4_), (5, .ref (qs si 3)), (6, .int a6_)]) C 5 (dall tdX5_bag 76 rfl) rfl rfl (by decide) rfl ?_
  refine r_goto (tgt := 64) C (dall tdX5_bag 77 rfl) (by decide) ?_
  refine r_pick [1, 2, 3, 4, 5, 0] rfl ?_
  exact hk64 (σ, a6_, a7_ + 1) ok h
def pX5_bag_134 (τ : TX) (si : Nat) (kR64 : XS × Int32 × Int32 → Int32 × XS) (σ : XS) (a3_ : Int32) (a4_ : Int32) (a6_ : Int32) (a7_ : Int32) (b0_ : Int32) : Int32 × XS := if b0_ < 0 then pX5_bag_140 τ si kR64 σ a3_ a4_ a6_ a7_ else pX5_bag_140 τ si kR64 σ a3_ a4_ (a6_ + 1) a7_
def oX5_bag_134 (τ : TX) (si : Nat) (kO64 : XS × Int32 × Int32 → Prop) (σ : XS) (a3_ : Int32) (a4_ : Int32) (a6_ : Int32) (a7_ : Int32) (b0_ : Int32) : Prop := (b0_ < 0 → oX5_bag_140 τ si kO64 σ a3_ a4_ a6_ a7_) ∧ (¬ (b0_ < 0) → oX5_bag_140 τ si kO64 σ a3_ a4_ (a6_ + 1) a7_)
set_option maxHeartbeats 4000000 in
set_option maxRecDepth 100000 in
theorem wX5_bag_134 {X : CX} {cy : Nat → ClassId} {q : Nat → Nat} {qn : Nat → Nat} {qt : Nat → Nat} {qk : Nat → Nat} {qr : Nat → Nat} {qs : Nat → Nat → Nat} {a : Nat} {τ : TX} {si : Nat} {D : va_G} {A : Nat → Prop} {res : Int32 × XS} (σ : XS) (a3_ : Int32) (a4_ : Int32) (a6_ : Int32) (a7_ : Int32) (b0_ : Int32) (C : Cx X cX5_bag RX5 9 D (gty cy) A 3 0 0) (hR : Rt X (some .int) D (gty cy) A 0 0 (eI (wX5 cy q qn qt qk qr qs a τ res.2) res.1)) (kR64 : XS × Int32 × Int32 → Int32 × XS) (kO64 : XS × Int32 × Int32 → Prop) (hk64 : ∀ z, kO64 z → kR64 z = res → At X D A 9 0 0 64 [(0, .ref (q 8)), (3, .int a3_), (4, .int a4_), (5, .ref (qs si 3)), (6, .int z.2.1), (7, .int z.2.2)] [] (wX5 cy q qn qt qk qr qs a τ z.1)) (ok : oX5_bag_134 τ si kO64 σ a3_ a4_ a6_ a7_ b0_) (h : pX5_bag_134 τ si kR64 σ a3_ a4_ a6_ a7_ b0_ = res) : At X D A 9 0 0 134 [(0, .ref (q 8)), (3, .int a3_), (4, .int a4_), (5, .ref (qs si 3)), (6, .int a6_), (7, .int a7_)] [.int b0_] (wX5 cy q qn qt qk qr qs a τ σ) := by
  unfold pX5_bag_134 at h
  unfold oX5_bag_134 at ok
  refine r_if_lt (tgt := 140) C (dall tdX5_bag 74 rfl) (by decide) (fun c1 => ?_) (fun c1 => ?_)
  · have h := (if_pos c1).symm.trans h
    have ok := ok.1 c1
    exact wX5_bag_140 σ a3_ a4_ a6_ a7_ C hR kR64 kO64 hk64 ok h
  · have h := (if_neg c1).symm.trans h
    have ok := ok.2 c1
    refine r_iinc (v := a6_ + 1) (lv' := [(6, .int (a6_ + 1)), (0, .ref (q 8)), (3, .int a3_), (4, .int a4_), (5, .ref (qs si 3)), (7, .int a7_)]) C 4 (dall tdX5_bag 75 rfl) rfl rfl (by decide) rfl ?_
    refine r_pick [1, 2, 3, 4, 0, 5] rfl ?_
    exact wX5_bag_140 σ a3_ a4_ (a6_ + 1) a7_ C hR kR64 kO64 hk64 ok h
def bX5_bag_64 (τ : TX) (si : Nat) (a3_ : Int32) (a4_ : Int32)  (kR64 : XS × Int32 × Int32 → Int32 × XS) (v : XS × Int32 × Int32) : Int32 × XS := if a4_ ≤ v.2.2 then (v.2.1, v.1) else if a3_ < 0 then ((-12), v.1) else if a3_ ≤ ((((v.1.2.2.2.2.2 si).1 2) - (3 * v.2.2)) - 3) then pX5_bag_134 τ si kR64 ((fX5_regret τ v.1 ((v.1.2.2.2.2.2 si).2.2.1 0 (a3_ + (3 * v.2.2)).toNatClampNeg) ((v.1.2.2.2.2.2 si).2.2.1 0 ((a3_ + (3 * v.2.2)) + 1).toNatClampNeg) ((v.1.2.2.2.2.2 si).2.2.1 0 ((a3_ + (3 * v.2.2)) + 2).toNatClampNeg)).2) a3_ a4_ v.2.1 v.2.2 ((fX5_regret τ v.1 ((v.1.2.2.2.2.2 si).2.2.1 0 (a3_ + (3 * v.2.2)).toNatClampNeg) ((v.1.2.2.2.2.2 si).2.2.1 0 ((a3_ + (3 * v.2.2)) + 1).toNatClampNeg) ((v.1.2.2.2.2.2 si).2.2.1 0 ((a3_ + (3 * v.2.2)) + 2).toNatClampNeg)).1) else ((-12), v.1)
def kX5_bag_64 (τ : TX) (si : Nat) (a3_ : Int32) (a4_ : Int32)  (kO64 : XS × Int32 × Int32 → Prop) (v : XS × Int32 × Int32) : Prop := (a4_ ≤ v.2.2 → True) ∧ (¬ (a4_ ≤ v.2.2) → (a3_ < 0 → True) ∧ (¬ (a3_ < 0) → (si < 4) ∧ ((a3_ ≤ ((((v.1.2.2.2.2.2 si).1 2) - (3 * v.2.2)) - 3) → (si < 4) ∧ ((si < 4) ∧ ((vp_in (a3_ + (3 * v.2.2)) 40) ∧ ((si < 4) ∧ ((si < 4) ∧ ((vp_in ((a3_ + (3 * v.2.2)) + 1) 40) ∧ ((si < 4) ∧ ((si < 4) ∧ ((vp_in ((a3_ + (3 * v.2.2)) + 2) 40) ∧ ((gX5_regret τ v.1 ((v.1.2.2.2.2.2 si).2.2.1 0 (a3_ + (3 * v.2.2)).toNatClampNeg) ((v.1.2.2.2.2.2 si).2.2.1 0 ((a3_ + (3 * v.2.2)) + 1).toNatClampNeg) ((v.1.2.2.2.2.2 si).2.2.1 0 ((a3_ + (3 * v.2.2)) + 2).toNatClampNeg)) ∧ (oX5_bag_134 τ si kO64 ((fX5_regret τ v.1 ((v.1.2.2.2.2.2 si).2.2.1 0 (a3_ + (3 * v.2.2)).toNatClampNeg) ((v.1.2.2.2.2.2 si).2.2.1 0 ((a3_ + (3 * v.2.2)) + 1).toNatClampNeg) ((v.1.2.2.2.2.2 si).2.2.1 0 ((a3_ + (3 * v.2.2)) + 2).toNatClampNeg)).2) a3_ a4_ v.2.1 v.2.2 ((fX5_regret τ v.1 ((v.1.2.2.2.2.2 si).2.2.1 0 (a3_ + (3 * v.2.2)).toNatClampNeg) ((v.1.2.2.2.2.2 si).2.2.1 0 ((a3_ + (3 * v.2.2)) + 1).toNatClampNeg) ((v.1.2.2.2.2.2 si).2.2.1 0 ((a3_ + (3 * v.2.2)) + 2).toNatClampNeg)).1)))))))))))) ∧ (¬ (a3_ ≤ ((((v.1.2.2.2.2.2 si).1 2) - (3 * v.2.2)) - 3)) → True))))
set_option maxHeartbeats 4000000 in
set_option maxRecDepth 100000 in
theorem wX5_bag_64 {X : CX} {cy : Nat → ClassId} {q : Nat → Nat} {qn : Nat → Nat} {qt : Nat → Nat} {qk : Nat → Nat} {qr : Nat → Nat} {qs : Nat → Nat → Nat} {a : Nat} {τ : TX} {si : Nat} {D : va_G} {A : Nat → Prop} {res : Int32 × XS} (a3_ : Int32) (a4_ : Int32) (C : Cx X cX5_bag RX5 9 D (gty cy) A 3 0 0) (hR : Rt X (some .int) D (gty cy) A 0 0 (eI (wX5 cy q qn qt qk qr qs a τ res.2) res.1)) (kR64 : XS × Int32 × Int32 → Int32 × XS) (kO64 : XS × Int32 × Int32 → Prop) (hk64 : ∀ z, kO64 z → kR64 z = res → At X D A 9 0 0 64 [(0, .ref (q 8)), (3, .int a3_), (4, .int a4_), (5, .ref (qs si 3)), (6, .int z.2.1), (7, .int z.2.2)] [] (wX5 cy q qn qt qk qr qs a τ z.1)) (v : XS × Int32 × Int32) (ok : kX5_bag_64 τ si a3_ a4_ kO64 v) (h : bX5_bag_64 τ si a3_ a4_ kR64 v = res) : At X D A 9 0 0 64 [(0, .ref (q 8)), (3, .int a3_), (4, .int a4_), (5, .ref (qs si 3)), (6, .int v.2.1), (7, .int v.2.2)] [] (wX5 cy q qn qt qk qr qs a τ v.1) := by
  unfold bX5_bag_64 at h
  unfold kX5_bag_64 at ok
  refine r_iload C 5 (dall tdX5_bag 33 rfl) rfl ?_
  refine r_iload C 2 (dall tdX5_bag 34 rfl) rfl ?_
  refine r_icmp_ge (tgt := 146) C (dall tdX5_bag 35 rfl) (by decide) (fun c2 => ?_) (fun c2 => ?_)
  · have h := (if_pos c2).symm.trans h
    have ok := ok.1 c2
    refine r_iload C 4 (dall tdX5_bag 78 rfl) rfl ?_
    exact r_iret C hR (dall tdX5_bag 79 rfl) (by subst h; exact ⟨rfl, rfl⟩)
  · have h := (if_neg c2).symm.trans h
    have ok := ok.2 c2
    refine r_iload_n C 1 (dall tdX5_bag 36 rfl) rfl ?_
    refine r_if_lt (tgt := 91) C (dall tdX5_bag 37 rfl) (by decide) (fun c3 => ?_) (fun c3 => ?_)
    · have h := (if_pos c3).symm.trans h
      have ok := ok.1 c3
      refine r_bipush (v := -12) C (dall tdX5_bag 48 rfl) (by decide) ?_
      exact r_iret C hR (dall tdX5_bag 49 rfl) (by subst h; exact ⟨rfl, rfl⟩)
    · have h := (if_neg c3).symm.trans h
      have ok := ok.2 c3
      refine r_iload_n C 1 (dall tdX5_bag 38 rfl) rfl ?_
      refine r_aload C 3 (dall tdX5_bag 39 rfl) rfl ?_
      obtain ⟨o4, ok⟩ := ok
      refine r_get C (27 + 2 * si) kw_X1 (sh_obj o4) rfl (by decide) kf_X5_203 rfl rfl (dall tdX5_bag 40 rfl) ?_
      refine r_iconst (v := 3) C (dall tdX5_bag 41 rfl) (by decide) ?_
      refine r_iload C 5 (dall tdX5_bag 42 rfl) rfl ?_
      refine r_imul C (dall tdX5_bag 43 rfl) ?_
      refine r_isub C (dall tdX5_bag 44 rfl) ?_
      refine r_iconst (v := 3) C (dall tdX5_bag 45 rfl) (by decide) ?_
      refine r_isub C (dall tdX5_bag 46 rfl) ?_
      refine r_icmp_le (tgt := 94) C (dall tdX5_bag 47 rfl) (by decide) (fun c5 => ?_) (fun c5 => ?_)
      · have h := (if_pos c5).symm.trans h
        have ok := ok.1 c5
        refine r_iload_n C 1 (dall tdX5_bag 50 rfl) rfl ?_
        refine r_iconst (v := 3) C (dall tdX5_bag 51 rfl) (by decide) ?_
        refine r_iload C 5 (dall tdX5_bag 52 rfl) rfl ?_
        refine r_imul C (dall tdX5_bag 53 rfl) ?_
        refine r_iadd C (dall tdX5_bag 54 rfl) ?_
        refine r_istore (lv' := [(8, .int (a3_ + (3 * v.2.2))), (0, .ref (q 8)), (3, .int a3_), (4, .int a4_), (5, .ref (qs si 3)), (6, .int v.2.1), (7, .int v.2.2)]) C (dall tdX5_bag 55 rfl) (by decide) rfl ?_
        refine r_aload_n C 1 (dall tdX5_bag 56 rfl) rfl ?_
        refine r_aload C 4 (dall tdX5_bag 57 rfl) rfl ?_
        obtain ⟨o6, ok⟩ := ok
        refine r_get C (27 + 2 * si) kw_X1 (sh_obj o6) rfl (by decide) kf_X5_234 rfl rfl (dall tdX5_bag 58 rfl) ?_
        refine r_iload C 0 (dall tdX5_bag 59 rfl) rfl ?_
        obtain ⟨o7, ok⟩ := ok
        obtain ⟨o8, ok⟩ := ok
        refine r_iald C (28 + 2 * si) 0 (sh_arr o7) rfl o8 (dall tdX5_bag 60 rfl) ?_
        refine r_aload C 4 (dall tdX5_bag 61 rfl) rfl ?_
        obtain ⟨o9, ok⟩ := ok
        refine r_get C (27 + 2 * si) kw_X1 (sh_obj o9) rfl (by decide) kf_X5_234 rfl rfl (dall tdX5_bag 62 rfl) ?_
        refine r_iload C 0 (dall tdX5_bag 63 rfl) rfl ?_
        refine r_iconst (v := 1) C (dall tdX5_bag 64 rfl) (by decide) ?_
        refine r_iadd C (dall tdX5_bag 65 rfl) ?_
        obtain ⟨o10, ok⟩ := ok
        obtain ⟨o11, ok⟩ := ok
        refine r_iald C (28 + 2 * si) 0 (sh_arr o10) rfl o11 (dall tdX5_bag 66 rfl) ?_
        refine r_aload C 4 (dall tdX5_bag 67 rfl) rfl ?_
        obtain ⟨o12, ok⟩ := ok
        refine r_get C (27 + 2 * si) kw_X1 (sh_obj o12) rfl (by decide) kf_X5_234 rfl rfl (dall tdX5_bag 68 rfl) ?_
        refine r_iload C 0 (dall tdX5_bag 69 rfl) rfl ?_
        refine r_iconst (v := 2) C (dall tdX5_bag 70 rfl) (by decide) ?_
        refine r_iadd C (dall tdX5_bag 71 rfl) ?_
        obtain ⟨o13, ok⟩ := ok
        obtain ⟨o14, ok⟩ := ok
        refine r_iald C (28 + 2 * si) 0 (sh_arr o13) rfl o14 (dall tdX5_bag 72 rfl) ?_
        obtain ⟨o15, ok⟩ := ok
        refine r_vI (as := [.int ((v.1.2.2.2.2.2 si).2.2.1 0 (a3_ + (3 * v.2.2)).toNatClampNeg), .int ((v.1.2.2.2.2.2 si).2.2.1 0 ((a3_ + (3 * v.2.2)) + 1).toNatClampNeg), .int ((v.1.2.2.2.2.2 si).2.2.1 0 ((a3_ + (3 * v.2.2)) + 2).toNatClampNeg)]) C (zX5_regret cy q qn qt qk qr qs a τ v.1 ((v.1.2.2.2.2.2 si).2.2.1 0 (a3_ + (3 * v.2.2)).toNatClampNeg) ((v.1.2.2.2.2.2 si).2.2.1 0 ((a3_ + (3 * v.2.2)) + 1).toNatClampNeg) ((v.1.2.2.2.2.2 si).2.2.1 0 ((a3_ + (3 * v.2.2)) + 2).toNatClampNeg) o15) mv_X5_regret km_X5_243 (by decide) (by decide) ⟨Nat.le_refl _, Nat.le_refl _⟩ rfl rfl rfl rfl (Nat.le_of_ble_eq_true rfl) (dall tdX5_bag 73 rfl) ?_
        refine r_pick [1, 2, 3, 4, 5, 6] rfl ?_
        exact wX5_bag_134 ((fX5_regret τ v.1 ((v.1.2.2.2.2.2 si).2.2.1 0 (a3_ + (3 * v.2.2)).toNatClampNeg) ((v.1.2.2.2.2.2 si).2.2.1 0 ((a3_ + (3 * v.2.2)) + 1).toNatClampNeg) ((v.1.2.2.2.2.2 si).2.2.1 0 ((a3_ + (3 * v.2.2)) + 2).toNatClampNeg)).2) a3_ a4_ v.2.1 v.2.2 ((fX5_regret τ v.1 ((v.1.2.2.2.2.2 si).2.2.1 0 (a3_ + (3 * v.2.2)).toNatClampNeg) ((v.1.2.2.2.2.2 si).2.2.1 0 ((a3_ + (3 * v.2.2)) + 1).toNatClampNeg) ((v.1.2.2.2.2.2 si).2.2.1 0 ((a3_ + (3 * v.2.2)) + 2).toNatClampNeg)).1) C hR kR64 kO64 hk64 ok h
      · have h := (if_neg c5).symm.trans h
        have ok := ok.2 c5
        refine r_bipush (v := -12) C (dall tdX5_bag 48 rfl) (by decide) ?_
        exact r_iret C hR (dall tdX5_bag 49 rfl) (by subst h; exact ⟨rfl, rfl⟩)
set_option maxHeartbeats 4000000 in
set_option maxRecDepth 100000 in
theorem lX5_bag_64 {X : CX} {cy : Nat → ClassId} {q : Nat → Nat} {qn : Nat → Nat} {qt : Nat → Nat} {qk : Nat → Nat} {qr : Nat → Nat} {qs : Nat → Nat → Nat} {a : Nat} {τ : TX} {si : Nat} {D : va_G} {A : Nat → Prop} {res : Int32 × XS} (a3_ : Int32) (a4_ : Int32) (C : Cx X cX5_bag RX5 9 D (gty cy) A 3 0 0) (hR : Rt X (some .int) D (gty cy) A 0 0 (eI (wX5 cy q qn qt qk qr qs a τ res.2) res.1))  (n : Nat) (v : XS × Int32 × Int32) (ok : lpOk (kX5_bag_64 τ si a3_ a4_ ) n v) (h : lp (0, xs0) (bX5_bag_64 τ si a3_ a4_ ) n v = res) : At X D A 9 0 0 64 [(0, .ref (q 8)), (3, .int a3_), (4, .int a4_), (5, .ref (qs si 3)), (6, .int v.2.1), (7, .int v.2.2)] [] (wX5 cy q qn qt qk qr qs a τ v.1) :=
  lp_rule (fun v rr_ => rr_ = res → At X D A 9 0 0 64 [(0, .ref (q 8)), (3, .int a3_), (4, .int a4_), (5, .ref (qs si 3)), (6, .int v.2.1), (7, .int v.2.2)] [] (wX5 cy q qn qt qk qr qs a τ v.1)) (fun kR kO hk v ok h => wX5_bag_64 a3_ a4_ C hR  kR kO hk v ok h) n v ok h
def pX5_bag_0 (τ : TX) (si : Nat)  (σ : XS) (a1_ : Int32) (a2_ : Int32) (a3_ : Int32) (a4_ : Int32) : Int32 × XS := if (fX5_isSheet a1_) = 0 then ((-2), σ) else if (fX5_within a2_ 2) = 0 then ((-2), σ) else if (fX5_within a4_ 5) = 0 then ((-2), σ) else if (fX1_isMissing (σ.2.2.2.2.2 si)) = 0 then if ((σ.2.2.2.2.2 si).1 1) = a2_ then lp (0, xs0) (bX5_bag_64 τ si a3_ a4_ ) fu (σ, 0, 0) else ((-13), σ) else ((-11), σ)
def oX5_bag_0 (τ : TX) (si : Nat)  (σ : XS) (a1_ : Int32) (a2_ : Int32) (a3_ : Int32) (a4_ : Int32) : Prop := (gX5_isSheet a1_) ∧ (((fX5_isSheet a1_) = 0 → True) ∧ (¬ ((fX5_isSheet a1_) = 0) → ((fX5_within a2_ 2) = 0 → True) ∧ (¬ ((fX5_within a2_ 2) = 0) → ((fX5_within a4_ 5) = 0 → True) ∧ (¬ ((fX5_within a4_ 5) = 0) → (vp_in a1_ 4) ∧ ((a1_.toNatClampNeg = si) ∧ ((si < 4) ∧ (((fX1_isMissing (σ.2.2.2.2.2 si)) = 0 → (si < 4) ∧ ((((σ.2.2.2.2.2 si).1 1) = a2_ → lpOk (kX5_bag_64 τ si a3_ a4_ ) fu (σ, 0, 0)) ∧ (¬ (((σ.2.2.2.2.2 si).1 1) = a2_) → True))) ∧ (¬ ((fX1_isMissing (σ.2.2.2.2.2 si)) = 0) → True))))))))
set_option maxHeartbeats 4000000 in
set_option maxRecDepth 100000 in
theorem wX5_bag_0 {X : CX} {cy : Nat → ClassId} {q : Nat → Nat} {qn : Nat → Nat} {qt : Nat → Nat} {qk : Nat → Nat} {qr : Nat → Nat} {qs : Nat → Nat → Nat} {a : Nat} {τ : TX} {si : Nat} {D : va_G} {A : Nat → Prop} {res : Int32 × XS} (σ : XS) (a1_ : Int32) (a2_ : Int32) (a3_ : Int32) (a4_ : Int32) (C : Cx X cX5_bag RX5 9 D (gty cy) A 3 0 0) (hR : Rt X (some .int) D (gty cy) A 0 0 (eI (wX5 cy q qn qt qk qr qs a τ res.2) res.1))  (ok : oX5_bag_0 τ si  σ a1_ a2_ a3_ a4_) (h : pX5_bag_0 τ si  σ a1_ a2_ a3_ a4_ = res) : At X D A 9 0 0 0 [(0, .ref (q 8)), (1, .int a1_), (2, .int a2_), (3, .int a3_), (4, .int a4_)] [] (wX5 cy q qn qt qk qr qs a τ σ) := by
  unfold pX5_bag_0 at h
  unfold oX5_bag_0 at ok
  refine r_iload_n C 1 (dall tdX5_bag 0 rfl) rfl ?_
  obtain ⟨o16, ok⟩ := ok
  refine r_s0I (as := [.int a1_]) C (zX5_isSheet a1_ o16) ms_X5_isSheet km_X5_197 (by decide) (by decide) ⟨Nat.le_refl _, Nat.le_refl _⟩ rfl rfl (Nat.le_of_ble_eq_true rfl) (dall tdX5_bag 1 rfl) ?_
  refine r_if_eq (tgt := 24) C (dall tdX5_bag 2 rfl) (by decide) (fun c17 => ?_) (fun c17 => ?_)
  · have h := (if_pos c17).symm.trans h
    have ok := ok.1 c17
    refine r_bipush (v := -2) C (dall tdX5_bag 11 rfl) (by decide) ?_
    exact r_iret C hR (dall tdX5_bag 12 rfl) (by subst h; exact ⟨rfl, rfl⟩)
  · have h := (if_neg c17).symm.trans h
    have ok := ok.2 c17
    refine r_iload_n C 2 (dall tdX5_bag 3 rfl) rfl ?_
    refine r_iconst (v := 2) C (dall tdX5_bag 4 rfl) (by decide) ?_
    refine r_s0I (as := [.int a2_, .int 2]) C (zX5_within a2_ 2 ) ms_X5_within km_X5_74 (by decide) (by decide) ⟨Nat.le_refl _, Nat.le_refl _⟩ rfl rfl (Nat.le_of_ble_eq_true rfl) (dall tdX5_bag 5 rfl) ?_
    refine r_if_eq (tgt := 24) C (dall tdX5_bag 6 rfl) (by decide) (fun c18 => ?_) (fun c18 => ?_)
    · have h := (if_pos c18).symm.trans h
      have ok := ok.1 c18
      refine r_bipush (v := -2) C (dall tdX5_bag 11 rfl) (by decide) ?_
      exact r_iret C hR (dall tdX5_bag 12 rfl) (by subst h; exact ⟨rfl, rfl⟩)
    · have h := (if_neg c18).symm.trans h
      have ok := ok.2 c18
      refine r_iload C 4 (dall tdX5_bag 7 rfl) rfl ?_
      refine r_iconst (v := 5) C (dall tdX5_bag 8 rfl) (by decide) ?_
      refine r_s0I (as := [.int a4_, .int 5]) C (zX5_within a4_ 5 ) ms_X5_within km_X5_74 (by decide) (by decide) ⟨Nat.le_refl _, Nat.le_refl _⟩ rfl rfl (Nat.le_of_ble_eq_true rfl) (dall tdX5_bag 9 rfl) ?_
      refine r_if_ne (tgt := 27) C (dall tdX5_bag 10 rfl) (by decide) (fun c19 => ?_) (fun c19 => ?_)
      · have h := (if_neg c19).symm.trans h
        have ok := ok.2 c19
        refine r_aload_n C 0 (dall tdX5_bag 13 rfl) rfl ?_
        refine r_get C 0 kw_X5 rfl rfl (by decide) kf_X5_39 rfl rfl (dall tdX5_bag 14 rfl) ?_
        refine r_iload_n C 1 (dall tdX5_bag 15 rfl) rfl ?_
        obtain ⟨o20, ok⟩ := ok
        obtain ⟨o21, ok⟩ := ok
        refine r_shs C o20 o21 (dall tdX5_bag 16 rfl) ?_
        refine r_astore (lv' := [(5, .ref (qs si 3)), (0, .ref (q 8)), (1, .int a1_), (2, .int a2_), (3, .int a3_), (4, .int a4_)]) C (dall tdX5_bag 17 rfl) (by decide) rfl ?_
        refine r_aload C 0 (dall tdX5_bag 18 rfl) rfl ?_
        obtain ⟨o22, ok⟩ := ok
        refine rcS_I0 (as := []) C o22 (zX1_isMissing cy (qs si) (σ.2.2.2.2.2 si)  ) mv_X1_isMissing km_X5_200 (by decide) (by decide) ⟨Nat.le_refl _, Nat.le_refl _⟩ rfl rfl (Nat.le_of_ble_eq_true rfl) (dall tdX5_bag 19 rfl) ?_
        refine r_if_eq (tgt := 46) C (dall tdX5_bag 20 rfl) (by decide) (fun c23 => ?_) (fun c23 => ?_)
        · have h := (if_pos c23).symm.trans h
          have ok := ok.1 c23
          refine r_aload C 0 (dall tdX5_bag 23 rfl) rfl ?_
          obtain ⟨o24, ok⟩ := ok
          refine r_get C (27 + 2 * si) kw_X1 (sh_obj o24) rfl (by decide) kf_X5_228 rfl rfl (dall tdX5_bag 24 rfl) ?_
          refine r_iload_n C 3 (dall tdX5_bag 25 rfl) rfl ?_
          refine r_icmp_eq (tgt := 58) C (dall tdX5_bag 26 rfl) (by decide) (fun c25 => ?_) (fun c25 => ?_)
          · have h := (if_pos c25).symm.trans h
            have ok := ok.1 c25
            refine r_iconst (v := 0) C (dall tdX5_bag 29 rfl) (by decide) ?_
            refine r_istore (lv' := [(6, .int 0), (5, .ref (qs si 3)), (0, .ref (q 8)), (1, .int a1_), (2, .int a2_), (3, .int a3_), (4, .int a4_)]) C (dall tdX5_bag 30 rfl) (by decide) rfl ?_
            refine r_iconst (v := 0) C (dall tdX5_bag 31 rfl) (by decide) ?_
            refine r_istore (lv' := [(7, .int 0), (6, .int 0), (5, .ref (qs si 3)), (0, .ref (q 8)), (1, .int a1_), (2, .int a2_), (3, .int a3_), (4, .int a4_)]) C (dall tdX5_bag 32 rfl) (by decide) rfl ?_
            refine r_pick [3, 6, 7, 2, 1, 0] rfl ?_
            exact lX5_bag_64 a3_ a4_ C hR  fu _ ok h
          · have h := (if_neg c25).symm.trans h
            have ok := ok.2 c25
            refine r_bipush (v := -13) C (dall tdX5_bag 27 rfl) (by decide) ?_
            exact r_iret C hR (dall tdX5_bag 28 rfl) (by subst h; exact ⟨rfl, rfl⟩)
        · have h := (if_neg c23).symm.trans h
          have ok := ok.2 c23
          refine r_bipush (v := -11) C (dall tdX5_bag 21 rfl) (by decide) ?_
          exact r_iret C hR (dall tdX5_bag 22 rfl) (by subst h; exact ⟨rfl, rfl⟩)
      · have h := (if_pos c19).symm.trans h
        have ok := ok.1 c19
        refine r_bipush (v := -2) C (dall tdX5_bag 11 rfl) (by decide) ?_
        exact r_iret C hR (dall tdX5_bag 12 rfl) (by subst h; exact ⟨rfl, rfl⟩)
def fX5_bag (τ : TX) (si : Nat) (σ : XS) (a1_ : Int32) (a2_ : Int32) (a3_ : Int32) (a4_ : Int32) : Int32 × XS := pX5_bag_0 τ si  σ a1_ a2_ a3_ a4_
def gX5_bag (τ : TX) (si : Nat) (σ : XS) (a1_ : Int32) (a2_ : Int32) (a3_ : Int32) (a4_ : Int32) : Prop := oX5_bag_0 τ si  σ a1_ a2_ a3_ a4_
set_option maxRecDepth 100000 in
theorem zX5_bag (cy : Nat → ClassId) (q : Nat → Nat) (qn : Nat → Nat) (qt : Nat → Nat) (qk : Nat → Nat) (qr : Nat → Nat) (qs : Nat → Nat → Nat) (a : Nat) (τ : TX) (si : Nat)  {D : va_G} (σ : XS) (a1_ : Int32) (a2_ : Int32) (a3_ : Int32) (a4_ : Int32) (ok : gX5_bag τ si σ a1_ a2_ a3_ a4_)  : Con yX5_bag cX5_bag 9 (some .int) 3 0 0 D (gty cy) [.ref (q 8), .int a1_, .int a2_, .int a3_, .int a4_] (wX5 cy q qn qt qk qr qs a τ σ) (eI (wX5 cy q qn qt qk qr qs a τ (fX5_bag τ si σ a1_ a2_ a3_ a4_).2) (fX5_bag τ si σ a1_ a2_ a3_ a4_).1) :=
  Con.of (own := RX5) (by decide +kernel) rfl (Nat.le_of_ble_eq_true rfl) (Nat.zero_le _) (fun X A C hR _ => (wX5_bag_0 σ a1_ a2_ a3_ a4_ C hR  ok rfl))
theorem mv_X5_bag : MV yX5_bag cX5_bag 9 (some .int) RX5 4 := ⟨ki_X5_bag, kv_X5_bag, kn_X5, kc_X5_bag, by decide +kernel⟩
def tbX5_taken : List (Nat × Instr × Nat) := [(0, .iload_n 2, 1), (1, .invokestatic 70, 3), (4, .ifCond .ne 6, 3), (7, .bipush (-2), 2), (9, .ireturn, 1), (10, .aload_n 0, 1), (11, .iload_n 1, 1), (12, .invokevirtual 97, 3), (15, .ifCond .ne 6, 3), (18, .bipush (-11), 2), (20, .ireturn, 1), (21, .aload_n 0, 1), (22, .getfield 20, 3), (25, .getfield 81, 3), (28, .iload_n 1, 1), (29, .iaload, 1), (30, .iload_n 2, 1), (31, .invokestatic 246, 3), (34, .ifCond .eq 15, 3), (37, .aload_n 0, 1), (38, .getfield 20, 3), (41, .getfield 55, 3), (44, .iload_n 1, 1), (45, .iaload, 1), (46, .goto 5, 3), (49, .bipush (-13), 2), (51, .ireturn, 1)]
theorem tdX5_taken : tbX5_taken.all (fun q => decide (decode cX5_taken q.1 = .ok q.2)) = true := by decide +kernel
def pX5_taken_0 (τ : TX)  (σ : XS) (a1_ : Int32) (a2_ : Int32) : Int32 := if (fX5_isKind a2_) = 0 then (-2) else if (fX5_isOne τ σ a1_) = 0 then (-11) else if (fX5_isUnder (σ.2.1.2.2.1 0 a1_.toNatClampNeg) a2_) = 0 then (-13) else σ.2.1.2.2.1 1 a1_.toNatClampNeg
def oX5_taken_0 (τ : TX)  (σ : XS) (a1_ : Int32) (a2_ : Int32) : Prop := (gX5_isKind a2_) ∧ (((fX5_isKind a2_) = 0 → True) ∧ (¬ ((fX5_isKind a2_) = 0) → ((fX5_isOne τ σ a1_) = 0 → True) ∧ (¬ ((fX5_isOne τ σ a1_) = 0) → (vp_in a1_ 5) ∧ ((gX5_isUnder (σ.2.1.2.2.1 0 a1_.toNatClampNeg) a2_) ∧ (((fX5_isUnder (σ.2.1.2.2.1 0 a1_.toNatClampNeg) a2_) = 0 → True) ∧ (¬ ((fX5_isUnder (σ.2.1.2.2.1 0 a1_.toNatClampNeg) a2_) = 0) → vp_in a1_ 5))))))
set_option maxHeartbeats 4000000 in
set_option maxRecDepth 100000 in
theorem wX5_taken_0 {X : CX} {cy : Nat → ClassId} {q : Nat → Nat} {qn : Nat → Nat} {qt : Nat → Nat} {qk : Nat → Nat} {qr : Nat → Nat} {qs : Nat → Nat → Nat} {a : Nat} {τ : TX} {D : va_G} {A : Nat → Prop} {res : Int32} (σ : XS) (a1_ : Int32) (a2_ : Int32) (C : Cx X cX5_taken RX5 3 D (gty cy) A 3 0 0) (hR : Rt X (some .int) D (gty cy) A 0 0 (eI (wX5 cy q qn qt qk qr qs a τ σ) res))  (ok : oX5_taken_0 τ  σ a1_ a2_) (h : pX5_taken_0 τ  σ a1_ a2_ = res) : At X D A 3 0 0 0 [(0, .ref (q 8)), (1, .int a1_), (2, .int a2_)] [] (wX5 cy q qn qt qk qr qs a τ σ) := by
  unfold pX5_taken_0 at h
  unfold oX5_taken_0 at ok
  refine r_iload_n C 2 (dall tdX5_taken 0 rfl) rfl ?_
  obtain ⟨o1, ok⟩ := ok
  refine r_s0I (as := [.int a2_]) C (zX5_isKind a2_ o1) ms_X5_isKind km_X5_70 (by decide) (by decide) ⟨Nat.le_refl _, Nat.le_refl _⟩ rfl rfl (Nat.le_of_ble_eq_true rfl) (dall tdX5_taken 1 rfl) ?_
  refine r_if_ne (tgt := 10) C (dall tdX5_taken 2 rfl) (by decide) (fun c2 => ?_) (fun c2 => ?_)
  · have h := (if_neg c2).symm.trans h
    have ok := ok.2 c2
    refine r_aload_n C 0 (dall tdX5_taken 5 rfl) rfl ?_
    refine r_iload_n C 1 (dall tdX5_taken 6 rfl) rfl ?_
    refine r_vI (as := [.int a1_]) C (zX5_isOne cy q qn qt qk qr qs a τ σ a1_ ) mv_X5_isOne km_X5_97 (by decide) (by decide) ⟨Nat.le_refl _, Nat.le_refl _⟩ rfl rfl rfl rfl (Nat.le_of_ble_eq_true rfl) (dall tdX5_taken 7 rfl) ?_
    refine r_if_ne (tgt := 21) C (dall tdX5_taken 8 rfl) (by decide) (fun c3 => ?_) (fun c3 => ?_)
    · have h := (if_neg c3).symm.trans h
      have ok := ok.2 c3
      refine r_aload_n C 0 (dall tdX5_taken 11 rfl) rfl ?_
      refine r_get C 0 kw_X5 rfl rfl (by decide) kf_X5_20 rfl rfl (dall tdX5_taken 12 rfl) ?_
      refine r_get C 1 kw_X4 rfl rfl (by decide) kf_X5_81 rfl rfl (dall tdX5_taken 13 rfl) ?_
      refine r_iload_n C 1 (dall tdX5_taken 14 rfl) rfl ?_
      obtain ⟨o4, ok⟩ := ok
      refine r_iald C 2 0 rfl rfl o4 (dall tdX5_taken 15 rfl) ?_
      refine r_iload_n C 2 (dall tdX5_taken 16 rfl) rfl ?_
      obtain ⟨o5, ok⟩ := ok
      refine r_s0I (as := [.int (σ.2.1.2.2.1 0 a1_.toNatClampNeg), .int a2_]) C (zX5_isUnder (σ.2.1.2.2.1 0 a1_.toNatClampNeg) a2_ o5) ms_X5_isUnder km_X5_246 (by decide) (by decide) ⟨Nat.le_refl _, Nat.le_refl _⟩ rfl rfl (Nat.le_of_ble_eq_true rfl) (dall tdX5_taken 17 rfl) ?_
      refine r_if_eq (tgt := 49) C (dall tdX5_taken 18 rfl) (by decide) (fun c6 => ?_) (fun c6 => ?_)
      · have h := (if_pos c6).symm.trans h
        have ok := ok.1 c6
        refine r_bipush (v := -13) C (dall tdX5_taken 25 rfl) (by decide) ?_
        exact r_iret C hR (dall tdX5_taken 26 rfl) (by subst h; exact ⟨rfl, rfl⟩)
      · have h := (if_neg c6).symm.trans h
        have ok := ok.2 c6
        refine r_aload_n C 0 (dall tdX5_taken 19 rfl) rfl ?_
        refine r_get C 0 kw_X5 rfl rfl (by decide) kf_X5_20 rfl rfl (dall tdX5_taken 20 rfl) ?_
        refine r_get C 1 kw_X4 rfl rfl (by decide) kf_X5_55 rfl rfl (dall tdX5_taken 21 rfl) ?_
        refine r_iload_n C 1 (dall tdX5_taken 22 rfl) rfl ?_
        have o7 := ok
        refine r_iald C 3 0 rfl rfl o7 (dall tdX5_taken 23 rfl) ?_
        refine r_goto (tgt := 51) C (dall tdX5_taken 24 rfl) (by decide) ?_
        exact r_iret C hR (dall tdX5_taken 26 rfl) (by subst h; exact ⟨rfl, rfl⟩)
    · have h := (if_pos c3).symm.trans h
      have ok := ok.1 c3
      refine r_bipush (v := -11) C (dall tdX5_taken 9 rfl) (by decide) ?_
      exact r_iret C hR (dall tdX5_taken 10 rfl) (by subst h; exact ⟨rfl, rfl⟩)
  · have h := (if_pos c2).symm.trans h
    have ok := ok.1 c2
    refine r_bipush (v := -2) C (dall tdX5_taken 3 rfl) (by decide) ?_
    exact r_iret C hR (dall tdX5_taken 4 rfl) (by subst h; exact ⟨rfl, rfl⟩)
def fX5_taken (τ : TX) (σ : XS) (a1_ : Int32) (a2_ : Int32) : Int32 := pX5_taken_0 τ  σ a1_ a2_
def gX5_taken (τ : TX) (σ : XS) (a1_ : Int32) (a2_ : Int32) : Prop := oX5_taken_0 τ  σ a1_ a2_
set_option maxRecDepth 100000 in
theorem zX5_taken (cy : Nat → ClassId) (q : Nat → Nat) (qn : Nat → Nat) (qt : Nat → Nat) (qk : Nat → Nat) (qr : Nat → Nat) (qs : Nat → Nat → Nat) (a : Nat) (τ : TX)  {D : va_G} (σ : XS) (a1_ : Int32) (a2_ : Int32) (ok : gX5_taken τ σ a1_ a2_)  : Con yX5_taken cX5_taken 3 (some .int) 3 0 0 D (gty cy) [.ref (q 8), .int a1_, .int a2_] (wX5 cy q qn qt qk qr qs a τ σ) (eI (wX5 cy q qn qt qk qr qs a τ σ) (fX5_taken τ σ a1_ a2_)) :=
  Con.of (own := RX5) (by decide +kernel) rfl (Nat.le_of_ble_eq_true rfl) (Nat.zero_le _) (fun X A C hR _ => (wX5_taken_0 σ a1_ a2_ C hR  ok rfl))
theorem mv_X5_taken : MV yX5_taken cX5_taken 3 (some .int) RX5 2 := ⟨ki_X5_taken, kv_X5_taken, kn_X5, kc_X5_taken, by decide +kernel⟩

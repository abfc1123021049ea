theorem mv_X0_readOne : MV yX0_readOne cX0_readOne 1 none RX0 0 := ⟨ki_X0_readOne, kv_X0_readOne, kn_X0, kc_X0_readOne, by decide +kernel⟩
theorem mv_X0_readTerm : MV yX0_readTerm cX0_readTerm 2 none RX0 0 := ⟨ki_X0_readTerm, kv_X0_readTerm, kn_X0, kc_X0_readTerm, by decide +kernel⟩
theorem mv_X0_readSum : MV yX0_readSum cX0_readSum 3 none RX0 0 := ⟨ki_X0_readSum, kv_X0_readSum, kn_X0, kc_X0_readSum, by decide +kernel⟩
theorem mv_X0_readNot : MV yX0_readNot cX0_readNot 2 none RX0 0 := ⟨ki_X0_readNot, kv_X0_readNot, kn_X0, kc_X0_readNot, by decide +kernel⟩
theorem mv_X0_readBoth : MV yX0_readBoth cX0_readBoth 2 none RX0 0 := ⟨ki_X0_readBoth, kv_X0_readBoth, kn_X0, kc_X0_readBoth, by decide +kernel⟩
theorem mv_X0_readEither : MV yX0_readEither cX0_readEither 2 none RX0 0 := ⟨ki_X0_readEither, kv_X0_readEither, kn_X0, kc_X0_readEither, by decide +kernel⟩
def tbX0_readOne : List (Nat × Instr × Nat) := [(0, .aload_n 0, 1), (1, .getfield 61, 3), (4, .bipush 20, 2), (6, .if_icmp .ne 18, 3), (9, .aload_n 0, 1), (10, .aload_n 0, 1), (11, .getfield 83, 3), (14, .invokevirtual 64, 3), (17, .aload_n 0, 1), (18, .invokevirtual 37, 3), (21, .goto 112, 3), (24, .aload_n 0, 1), (25, .getfield 61, 3), (28, .invokestatic 86, 3), (31, .ifCond .eq 20, 3), (34, .aload_n 0, 1), (35, .aload_n 0, 1), (36, .getfield 61, 3), (39, .iconst (-1), 1), (40, .ixor, 1), (41, .invokevirtual 64, 3), (44, .aload_n 0, 1), (45, .invokevirtual 37, 3), (48, .goto 85, 3), (51, .aload_n 0, 1), (52, .getfield 61, 3), (55, .bipush 16, 2), (57, .if_icmp .ne 33, 3), (60, .aload_n 0, 1), (61, .invokevirtual 70, 3), (64, .ifCond .eq 69, 3), (67, .aload_n 0, 1), (68, .invokevirtual 80, 3), (71, .aload_n 0, 1), (72, .dup, 1), (73, .getfield 31, 3), (76, .iconst 1, 1), (77, .isub, 1), (78, .putfield 31, 3), (81, .aload_n 0, 1), (82, .bipush (-24), 2), (84, .invokevirtual 64, 3), (87, .goto 46, 3), (90, .aload_n 0, 1), (91, .getfield 61, 3), (94, .bipush 12, 2), (96, .if_icmp .ne 33, 3), (99, .aload_n 0, 1), (100, .invokevirtual 70, 3), (103, .ifCond .eq 30, 3), (106, .aload_n 0, 1), (107, .invokevirtual 44, 3), (110, .aload_n 0, 1), (111, .dup, 1), (112, .getfield 31, 3), (115, .iconst 1, 1), (116, .isub, 1), (117, .putfield 31, 3), (120, .aload_n 0, 1), (121, .bipush 13, 2), (123, .invokevirtual 40, 3), (126, .goto 7, 3), (129, .aload_n 0, 1), (130, .invokevirtual 90, 3), (133, .return_, 1)]
theorem tdX0_readOne : tbX0_readOne.all (fun q => decide (decode cX0_readOne q.1 = .ok q.2)) = true := by decide +kernel
def pX0_readOne_133 (F1 : OS → OS) (F2 : OS → OS)  (σ : OS) : OS := σ
set_option maxHeartbeats 4000000 in
set_option maxRecDepth 100000 in
theorem wX0_readOne_133 {X : CX} {cy : Nat → ClassId} {q : Nat → Nat} {D : va_G} {A : Nat → Prop} {res : OS} {lv lv1 lv2 : Nat} {F1 : OS → OS} {G1 : OS → Prop} {F2 : OS → OS} {G2 : OS → Prop} (hlv : 20 ≤ lv) (hz1 : ∀ σ : OS, G1 σ → Con yX0_readOne cX0_readOne 1 none lv1 0 0 D (gty cy) [.ref (q 11)] (wX0 cy q σ) (eV (wX0 cy q (F1 σ)))) (hl1 : lv1 + 1 ≤ lv) (hz2 : ∀ σ : OS, G2 σ → Con yX0_readEither cX0_readEither 2 none lv2 0 0 D (gty cy) [.ref (q 11)] (wX0 cy q σ) (eV (wX0 cy q (F2 σ)))) (hl2 : lv2 + 1 ≤ lv)  (σ : OS) (C : Cx X cX0_readOne RX0 1 D (gty cy) A lv 0 0) (hR : Rt X none D (gty cy) A 0 0 (eV (wX0 cy q res)))  (h : pX0_readOne_133 F1 F2  σ = res) : At X D A 1 0 0 133 [] [] (wX0 cy q σ) := by
  unfold pX0_readOne_133 at h
  exact r_vret C hR (dall tdX0_readOne 64 rfl) (by subst h; exact ⟨rfl, rfl⟩)
def pX0_readOne_126 (F1 : OS → OS) (F2 : OS → OS)  (σ : OS) : OS := pX0_readOne_133 F1 F2  σ
set_option maxHeartbeats 4000000 in
set_option maxRecDepth 100000 in
theorem wX0_readOne_126 {X : CX} {cy : Nat → ClassId} {q : Nat → Nat} {D : va_G} {A : Nat → Prop} {res : OS} {lv lv1 lv2 : Nat} {F1 : OS → OS} {G1 : OS → Prop} {F2 : OS → OS} {G2 : OS → Prop} (hlv : 20 ≤ lv) (hz1 : ∀ σ : OS, G1 σ → Con yX0_readOne cX0_readOne 1 none lv1 0 0 D (gty cy) [.ref (q 11)] (wX0 cy q σ) (eV (wX0 cy q (F1 σ)))) (hl1 : lv1 + 1 ≤ lv) (hz2 : ∀ σ : OS, G2 σ → Con yX0_readEither cX0_readEither 2 none lv2 0 0 D (gty cy) [.ref (q 11)] (wX0 cy q σ) (eV (wX0 cy q (F2 σ)))) (hl2 : lv2 + 1 ≤ lv)  (σ : OS) (C : Cx X cX0_readOne RX0 1 D (gty cy) A lv 0 0) (hR : Rt X none D (gty cy) A 0 0 (eV (wX0 cy q res)))  (h : pX0_readOne_126 F1 F2  σ = res) : At X D A 1 0 0 126 [] [] (wX0 cy q σ) := by
  unfold pX0_readOne_126 at h
  refine r_goto (tgt := 133) C (dall tdX0_readOne 61 rfl) (by decide) ?_
  exact wX0_readOne_133 hlv hz1 hl1 hz2 hl2 σ C hR  h
def pX0_readOne_110 (F1 : OS → OS) (F2 : OS → OS)  (σ : OS) : OS := pX0_readOne_126 F1 F2  (fX0_expect (oI σ 9 ((σ.1 9) - 1)) 13)
def oX0_readOne_110 (F1 : OS → OS) (F2 : OS → OS) (G1 : OS → Prop) (G2 : OS → Prop)  (σ : OS) : Prop := gX0_expect (oI σ 9 ((σ.1 9) - 1)) 13
set_option maxHeartbeats 4000000 in
set_option maxRecDepth 100000 in
theorem wX0_readOne_110 {X : CX} {cy : Nat → ClassId} {q : Nat → Nat} {D : va_G} {A : Nat → Prop} {res : OS} {lv lv1 lv2 : Nat} {F1 : OS → OS} {G1 : OS → Prop} {F2 : OS → OS} {G2 : OS → Prop} (hlv : 20 ≤ lv) (hz1 : ∀ σ : OS, G1 σ → Con yX0_readOne cX0_readOne 1 none lv1 0 0 D (gty cy) [.ref (q 11)] (wX0 cy q σ) (eV (wX0 cy q (F1 σ)))) (hl1 : lv1 + 1 ≤ lv) (hz2 : ∀ σ : OS, G2 σ → Con yX0_readEither cX0_readEither 2 none lv2 0 0 D (gty cy) [.ref (q 11)] (wX0 cy q σ) (eV (wX0 cy q (F2 σ)))) (hl2 : lv2 + 1 ≤ lv)  (σ : OS) (C : Cx X cX0_readOne RX0 1 D (gty cy) A lv 0 0) (hR : Rt X none D (gty cy) A 0 0 (eV (wX0 cy q res)))  (ok : oX0_readOne_110 F1 F2 G1 G2  σ) (h : pX0_readOne_110 F1 F2  σ = res) : At X D A 1 0 0 110 [(0, .ref (q 11))] [] (wX0 cy q σ) := by
  unfold pX0_readOne_110 at h
  unfold oX0_readOne_110 at ok
  refine r_aload_n C 0 (dall tdX0_readOne 52 rfl) rfl ?_
  refine r_dup C (dall tdX0_readOne 53 rfl) rfl ?_
  refine r_get C 0 kw_X0 rfl rfl (by decide) kf_X0_31 rfl rfl (dall tdX0_readOne 54 rfl) ?_
  refine r_iconst (v := 1) C (dall tdX0_readOne 55 rfl) (by decide) ?_
  refine r_isub C (dall tdX0_readOne 56 rfl) ?_
  refine r_put C 0 kw_X0 tyX0_ok nmX0 rfl rfl (by decide) kf_X0_31 rfl rfl rfl rfl rfl (Nat.le_of_ble_eq_true rfl) (pu_X0_this_9 cy q σ ((σ.1 9) - 1)) (dall tdX0_readOne 57 rfl) ?_
  refine r_aload_n C 0 (dall tdX0_readOne 58 rfl) rfl ?_
  refine r_bipush (v := 13) C (dall tdX0_readOne 59 rfl) (by decide) ?_
  have o1 := ok
  refine r_vV (as := [.int 13]) C (zX0_expect cy q (oI σ 9 ((σ.1 9) - 1)) 13 o1) mv_X0_expect km_X0_40 (by omega) (by decide) ⟨Nat.le_refl _, Nat.le_refl _⟩ rfl rfl rfl rfl (Nat.le_of_ble_eq_true rfl) (dall tdX0_readOne 60 rfl) ?_
  refine r_pick [] rfl ?_
  exact wX0_readOne_126 hlv hz1 hl1 hz2 hl2 (fX0_expect (oI σ 9 ((σ.1 9) - 1)) 13) C hR  h
def pX0_readOne_103 (F1 : OS → OS) (F2 : OS → OS)  (σ : OS) (b0_ : Int32) : OS := if b0_ = 0 then pX0_readOne_133 F1 F2  σ else pX0_readOne_110 F1 F2  (F2 σ)
def oX0_readOne_103 (F1 : OS → OS) (F2 : OS → OS) (G1 : OS → Prop) (G2 : OS → Prop)  (σ : OS) (b0_ : Int32) : Prop := (b0_ = 0 → True) ∧ (¬ (b0_ = 0) → (G2 σ ) ∧ (oX0_readOne_110 F1 F2 G1 G2  (F2 σ)))
set_option maxHeartbeats 4000000 in
set_option maxRecDepth 100000 in
theorem wX0_readOne_103 {X : CX} {cy : Nat → ClassId} {q : Nat → Nat} {D : va_G} {A : Nat → Prop} {res : OS} {lv lv1 lv2 : Nat} {F1 : OS → OS} {G1 : OS → Prop} {F2 : OS → OS} {G2 : OS → Prop} (hlv : 20 ≤ lv) (hz1 : ∀ σ : OS, G1 σ → Con yX0_readOne cX0_readOne 1 none lv1 0 0 D (gty cy) [.ref (q 11)] (wX0 cy q σ) (eV (wX0 cy q (F1 σ)))) (hl1 : lv1 + 1 ≤ lv) (hz2 : ∀ σ : OS, G2 σ → Con yX0_readEither cX0_readEither 2 none lv2 0 0 D (gty cy) [.ref (q 11)] (wX0 cy q σ) (eV (wX0 cy q (F2 σ)))) (hl2 : lv2 + 1 ≤ lv)  (σ : OS) (b0_ : Int32) (C : Cx X cX0_readOne RX0 1 D (gty cy) A lv 0 0) (hR : Rt X none D (gty cy) A 0 0 (eV (wX0 cy q res)))  (ok : oX0_readOne_103 F1 F2 G1 G2  σ b0_) (h : pX0_readOne_103 F1 F2  σ b0_ = res) : At X D A 1 0 0 103 [(0, .ref (q 11))] [.int b0_] (wX0 cy q σ) := by
  unfold pX0_readOne_103 at h
  unfold oX0_readOne_103 at ok
  refine r_if_eq (tgt := 133) C (dall tdX0_readOne 49 rfl) (by decide) (fun c2 => ?_) (fun c2 => ?_)
  · have h := (if_pos c2).symm.trans h
    have ok := ok.1 c2
    refine r_pick [] rfl ?_
    exact wX0_readOne_133 hlv hz1 hl1 hz2 hl2 σ C hR  h
  · have h := (if_neg c2).symm.trans h
    have ok := ok.2 c2
    refine r_aload_n C 0 (dall tdX0_readOne 50 rfl) rfl ?_
    obtain ⟨o3, ok⟩ := ok
    refine r_vV (as := []) C (hz2  σ  o3) mv_X0_readEither km_X0_44 hl2 (by decide) ⟨Nat.le_refl _, Nat.le_refl _⟩ rfl rfl rfl rfl (Nat.le_of_ble_eq_true rfl) (dall tdX0_readOne 51 rfl) ?_
    exact wX0_readOne_110 hlv hz1 hl1 hz2 hl2 (F2 σ) C hR  ok h
def pX0_readOne_87 (F1 : OS → OS) (F2 : OS → OS)  (σ : OS) : OS := pX0_readOne_133 F1 F2  σ
set_option maxHeartbeats 4000000 in
set_option maxRecDepth 100000 in
theorem wX0_readOne_87 {X : CX} {cy : Nat → ClassId} {q : Nat → Nat} {D : va_G} {A : Nat → Prop} {res : OS} {lv lv1 lv2 : Nat} {F1 : OS → OS} {G1 : OS → Prop} {F2 : OS → OS} {G2 : OS → Prop} (hlv : 20 ≤ lv) (hz1 : ∀ σ : OS, G1 σ → Con yX0_readOne cX0_readOne 1 none lv1 0 0 D (gty cy) [.ref (q 11)] (wX0 cy q σ) (eV (wX0 cy q (F1 σ)))) (hl1 : lv1 + 1 ≤ lv) (hz2 : ∀ σ : OS, G2 σ → Con yX0_readEither cX0_readEither 2 none lv2 0 0 D (gty cy) [.ref (q 11)] (wX0 cy q σ) (eV (wX0 cy q (F2 σ)))) (hl2 : lv2 + 1 ≤ lv)  (σ : OS) (C : Cx X cX0_readOne RX0 1 D (gty cy) A lv 0 0) (hR : Rt X none D (gty cy) A 0 0 (eV (wX0 cy q res)))  (h : pX0_readOne_87 F1 F2  σ = res) : At X D A 1 0 0 87 [] [] (wX0 cy q σ) := by
  unfold pX0_readOne_87 at h
  refine r_goto (tgt := 133) C (dall tdX0_readOne 42 rfl) (by decide) ?_
  exact wX0_readOne_133 hlv hz1 hl1 hz2 hl2 σ C hR  h
def pX0_readOne_71 (F1 : OS → OS) (F2 : OS → OS)  (σ : OS) : OS := pX0_readOne_87 F1 F2  (fX0_write (oI σ 9 ((σ.1 9) - 1)) (-24))
def oX0_readOne_71 (F1 : OS → OS) (F2 : OS → OS) (G1 : OS → Prop) (G2 : OS → Prop)  (σ : OS) : Prop := gX0_write (oI σ 9 ((σ.1 9) - 1)) (-24)
set_option maxHeartbeats 4000000 in
set_option maxRecDepth 100000 in
theorem wX0_readOne_71 {X : CX} {cy : Nat → ClassId} {q : Nat → Nat} {D : va_G} {A : Nat → Prop} {res : OS} {lv lv1 lv2 : Nat} {F1 : OS → OS} {G1 : OS → Prop} {F2 : OS → OS} {G2 : OS → Prop} (hlv : 20 ≤ lv) (hz1 : ∀ σ : OS, G1 σ → Con yX0_readOne cX0_readOne 1 none lv1 0 0 D (gty cy) [.ref (q 11)] (wX0 cy q σ) (eV (wX0 cy q (F1 σ)))) (hl1 : lv1 + 1 ≤ lv) (hz2 : ∀ σ : OS, G2 σ → Con yX0_readEither cX0_readEither 2 none lv2 0 0 D (gty cy) [.ref (q 11)] (wX0 cy q σ) (eV (wX0 cy q (F2 σ)))) (hl2 : lv2 + 1 ≤ lv)  (σ : OS) (C : Cx X cX0_readOne RX0 1 D (gty cy) A lv 0 0) (hR : Rt X none D (gty cy) A 0 0 (eV (wX0 cy q res)))  (ok : oX0_readOne_71 F1 F2 G1 G2  σ) (h : pX0_readOne_71 F1 F2  σ = res) : At X D A 1 0 0 71 [(0, .ref (q 11))] [] (wX0 cy q σ) := by
  unfold pX0_readOne_71 at h
  unfold oX0_readOne_71 at ok
  refine r_aload_n C 0 (dall tdX0_readOne 33 rfl) rfl ?_
  refine r_dup C (dall tdX0_readOne 34 rfl) rfl ?_
  refine r_get C 0 kw_X0 rfl rfl (by decide) kf_X0_31 rfl rfl (dall tdX0_readOne 35 rfl) ?_
  refine r_iconst (v := 1) C (dall tdX0_readOne 36 rfl) (by decide) ?_
  refine r_isub C (dall tdX0_readOne 37 rfl) ?_
  refine r_put C 0 kw_X0 tyX0_ok nmX0 rfl rfl (by decide) kf_X0_31 rfl rfl rfl rfl rfl (Nat.le_of_ble_eq_true rfl) (pu_X0_this_9 cy q σ ((σ.1 9) - 1)) (dall tdX0_readOne 38 rfl) ?_
  refine r_aload_n C 0 (dall tdX0_readOne 39 rfl) rfl ?_
  refine r_bipush (v := -24) C (dall tdX0_readOne 40 rfl) (by decide) ?_
  have o4 := ok
  refine r_vV (as := [.int (-24)]) C (zX0_write cy q (oI σ 9 ((σ.1 9) - 1)) (-24) o4) mv_X0_write km_X0_64 (by omega) (by decide) ⟨Nat.le_refl _, Nat.le_refl _⟩ rfl rfl rfl rfl (Nat.le_of_ble_eq_true rfl) (dall tdX0_readOne 41 rfl) ?_
  refine r_pick [] rfl ?_
  exact wX0_readOne_87 hlv hz1 hl1 hz2 hl2 (fX0_write (oI σ 9 ((σ.1 9) - 1)) (-24)) C hR  h
def pX0_readOne_64 (F1 : OS → OS) (F2 : OS → OS)  (σ : OS) (b0_ : Int32) : OS := if b0_ = 0 then pX0_readOne_133 F1 F2  σ else pX0_readOne_71 F1 F2  (F1 σ)
def oX0_readOne_64 (F1 : OS → OS) (F2 : OS → OS) (G1 : OS → Prop) (G2 : OS → Prop)  (σ : OS) (b0_ : Int32) : Prop := (b0_ = 0 → True) ∧ (¬ (b0_ = 0) → (G1 σ ) ∧ (oX0_readOne_71 F1 F2 G1 G2  (F1 σ)))
set_option maxHeartbeats 4000000 in
set_option maxRecDepth 100000 in
theorem wX0_readOne_64 {X : CX} {cy : Nat → ClassId} {q : Nat → Nat} {D : va_G} {A : Nat → Prop} {res : OS} {lv lv1 lv2 : Nat} {F1 : OS → OS} {G1 : OS → Prop} {F2 : OS → OS} {G2 : OS → Prop} (hlv : 20 ≤ lv) (hz1 : ∀ σ : OS, G1 σ → Con yX0_readOne cX0_readOne 1 none lv1 0 0 D (gty cy) [.ref (q 11)] (wX0 cy q σ) (eV (wX0 cy q (F1 σ)))) (hl1 : lv1 + 1 ≤ lv) (hz2 : ∀ σ : OS, G2 σ → Con yX0_readEither cX0_readEither 2 none lv2 0 0 D (gty cy) [.ref (q 11)] (wX0 cy q σ) (eV (wX0 cy q (F2 σ)))) (hl2 : lv2 + 1 ≤ lv)  (σ : OS) (b0_ : Int32) (C : Cx X cX0_readOne RX0 1 D (gty cy) A lv 0 0) (hR : Rt X none D (gty cy) A 0 0 (eV (wX0 cy q res)))  (ok : oX0_readOne_64 F1 F2 G1 G2  σ b0_) (h : pX0_readOne_64 F1 F2  σ b0_ = res) : At X D A 1 0 0 64 [(0, .ref (q 11))] [.int b0_] (wX0 cy q σ) := by
  unfold pX0_readOne_64 at h
  unfold oX0_readOne_64 at ok
  refine r_if_eq (tgt := 133) C (dall tdX0_readOne 30 rfl) (by decide) (fun c5 => ?_) (fun c5 => ?_)
  · have h := (if_pos c5).symm.trans h
    have ok := ok.1 c5
    refine r_pick [] rfl ?_
    exact wX0_readOne_133 hlv hz1 hl1 hz2 hl2 σ C hR  h
  · have h := (if_neg c5).symm.trans h
    have ok := ok.2 c5
    refine r_aload_n C 0 (dall tdX0_readOne 31 rfl) rfl ?_
    obtain ⟨o6, ok⟩ := ok
    refine r_vV (as := []) C (hz1  σ  o6) mv_X0_readOne km_X0_80 hl1 (by decide) ⟨Nat.le_refl _, Nat.le_refl _⟩ rfl rfl rfl rfl (Nat.le_of_ble_eq_true rfl) (dall tdX0_readOne 32 rfl) ?_
    exact wX0_readOne_71 hlv hz1 hl1 hz2 hl2 (F1 σ) C hR  ok h
def pX0_readOne_48 (F1 : OS → OS) (F2 : OS → OS)  (σ : OS) : OS := pX0_readOne_133 F1 F2  σ
set_option maxHeartbeats 4000000 in
set_option maxRecDepth 100000 in
theorem wX0_readOne_48 {X : CX} {cy : Nat → ClassId} {q : Nat → Nat} {D : va_G} {A : Nat → Prop} {res : OS} {lv lv1 lv2 : Nat} {F1 : OS → OS} {G1 : OS → Prop} {F2 : OS → OS} {G2 : OS → Prop} (hlv : 20 ≤ lv) (hz1 : ∀ σ : OS, G1 σ → Con yX0_readOne cX0_readOne 1 none lv1 0 0 D (gty cy) [.ref (q 11)] (wX0 cy q σ) (eV (wX0 cy q (F1 σ)))) (hl1 : lv1 + 1 ≤ lv) (hz2 : ∀ σ : OS, G2 σ → Con yX0_readEither cX0_readEither 2 none lv2 0 0 D (gty cy) [.ref (q 11)] (wX0 cy q σ) (eV (wX0 cy q (F2 σ)))) (hl2 : lv2 + 1 ≤ lv)  (σ : OS) (C : Cx X cX0_readOne RX0 1 D (gty cy) A lv 0 0) (hR : Rt X none D (gty cy) A 0 0 (eV (wX0 cy q res)))  (h : pX0_readOne_48 F1 F2  σ = res) : At X D A 1 0 0 48 [] [] (wX0 cy q σ) := by
  unfold pX0_readOne_48 at h
  refine r_goto (tgt := 133) C (dall tdX0_readOne 23 rfl) (by decide) ?_
  exact wX0_readOne_133 hlv hz1 hl1 hz2 hl2 σ C hR  h
def pX0_readOne_44 (F1 : OS → OS) (F2 : OS → OS)  (σ : OS) : OS := pX0_readOne_48 F1 F2  (fX0_step σ)
def oX0_readOne_44 (F1 : OS → OS) (F2 : OS → OS) (G1 : OS → Prop) (G2 : OS → Prop)  (σ : OS) : Prop := gX0_step σ 
set_option maxHeartbeats 4000000 in
set_option maxRecDepth 100000 in
theorem wX0_readOne_44 {X : CX} {cy : Nat → ClassId} {q : Nat → Nat} {D : va_G} {A : Nat → Prop} {res : OS} {lv lv1 lv2 : Nat} {F1 : OS → OS} {G1 : OS → Prop} {F2 : OS → OS} {G2 : OS → Prop} (hlv : 20 ≤ lv) (hz1 : ∀ σ : OS, G1 σ → Con yX0_readOne cX0_readOne 1 none lv1 0 0 D (gty cy) [.ref (q 11)] (wX0 cy q σ) (eV (wX0 cy q (F1 σ)))) (hl1 : lv1 + 1 ≤ lv) (hz2 : ∀ σ : OS, G2 σ → Con yX0_readEither cX0_readEither 2 none lv2 0 0 D (gty cy) [.ref (q 11)] (wX0 cy q σ) (eV (wX0 cy q (F2 σ)))) (hl2 : lv2 + 1 ≤ lv)  (σ : OS) (C : Cx X cX0_readOne RX0 1 D (gty cy) A lv 0 0) (hR : Rt X none D (gty cy) A 0 0 (eV (wX0 cy q res)))  (ok : oX0_readOne_44 F1 F2 G1 G2  σ) (h : pX0_readOne_44 F1 F2  σ = res) : At X D A 1 0 0 44 [(0, .ref (q 11))] [] (wX0 cy q σ) := by
  unfold pX0_readOne_44 at h
  unfold oX0_readOne_44 at ok
  refine r_aload_n C 0 (dall tdX0_readOne 21 rfl) rfl ?_
  have o7 := ok
  refine r_vV (as := []) C (zX0_step cy q σ  o7) mv_X0_step km_X0_37 (by omega) (by decide) ⟨Nat.le_refl _, Nat.le_refl _⟩ rfl rfl rfl rfl (Nat.le_of_ble_eq_true rfl) (dall tdX0_readOne 22 rfl) ?_
  refine r_pick [] rfl ?_
  exact wX0_readOne_48 hlv hz1 hl1 hz2 hl2 (fX0_step σ) C hR  h
def pX0_readOne_21 (F1 : OS → OS) (F2 : OS → OS)  (σ : OS) : OS := pX0_readOne_133 F1 F2  σ
set_option maxHeartbeats 4000000 in
set_option maxRecDepth 100000 in
theorem wX0_readOne_21 {X : CX} {cy : Nat → ClassId} {q : Nat → Nat} {D : va_G} {A : Nat → Prop} {res : OS} {lv lv1 lv2 : Nat} {F1 : OS → OS} {G1 : OS → Prop} {F2 : OS → OS} {G2 : OS → Prop} (hlv : 20 ≤ lv) (hz1 : ∀ σ : OS, G1 σ → Con yX0_readOne cX0_readOne 1 none lv1 0 0 D (gty cy) [.ref (q 11)] (wX0 cy q σ) (eV (wX0 cy q (F1 σ)))) (hl1 : lv1 + 1 ≤ lv) (hz2 : ∀ σ : OS, G2 σ → Con yX0_readEither cX0_readEither 2 none lv2 0 0 D (gty cy) [.ref (q 11)] (wX0 cy q σ) (eV (wX0 cy q (F2 σ)))) (hl2 : lv2 + 1 ≤ lv)  (σ : OS) (C : Cx X cX0_readOne RX0 1 D (gty cy) A lv 0 0) (hR : Rt X none D (gty cy) A 0 0 (eV (wX0 cy q res)))  (h : pX0_readOne_21 F1 F2  σ = res) : At X D A 1 0 0 21 [] [] (wX0 cy q σ) := by
  unfold pX0_readOne_21 at h
  refine r_goto (tgt := 133) C (dall tdX0_readOne 10 rfl) (by decide) ?_
  exact wX0_readOne_133 hlv hz1 hl1 hz2 hl2 σ C hR  h
def pX0_readOne_17 (F1 : OS → OS) (F2 : OS → OS)  (σ : OS) : OS := pX0_readOne_21 F1 F2  (fX0_step σ)
def oX0_readOne_17 (F1 : OS → OS) (F2 : OS → OS) (G1 : OS → Prop) (G2 : OS → Prop)  (σ : OS) : Prop := gX0_step σ 
set_option maxHeartbeats 4000000 in
set_option maxRecDepth 100000 in
theorem wX0_readOne_17 {X : CX} {cy : Nat → ClassId} {q : Nat → Nat} {D : va_G} {A : Nat → Prop} {res : OS} {lv lv1 lv2 : Nat} {F1 : OS → OS} {G1 : OS → Prop} {F2 : OS → OS} {G2 : OS → Prop} (hlv : 20 ≤ lv) (hz1 : ∀ σ : OS, G1 σ → Con yX0_readOne cX0_readOne 1 none lv1 0 0 D (gty cy) [.ref (q 11)] (wX0 cy q σ) (eV (wX0 cy q (F1 σ)))) (hl1 : lv1 + 1 ≤ lv) (hz2 : ∀ σ : OS, G2 σ → Con yX0_readEither cX0_readEither 2 none lv2 0 0 D (gty cy) [.ref (q 11)] (wX0 cy q σ) (eV (wX0 cy q (F2 σ)))) (hl2 : lv2 + 1 ≤ lv)  (σ : OS) (C : Cx X cX0_readOne RX0 1 D (gty cy) A lv 0 0) (hR : Rt X none D (gty cy) A 0 0 (eV (wX0 cy q res)))  (ok : oX0_readOne_17 F1 F2 G1 G2  σ) (h : pX0_readOne_17 F1 F2  σ = res) : At X D A 1 0 0 17 [(0, .ref (q 11))] [] (wX0 cy q σ) := by
  unfold pX0_readOne_17 at h
  unfold oX0_readOne_17 at ok
  refine r_aload_n C 0 (dall tdX0_readOne 8 rfl) rfl ?_
  have o8 := ok
  refine r_vV (as := []) C (zX0_step cy q σ  o8) mv_X0_step km_X0_37 (by omega) (by decide) ⟨Nat.le_refl _, Nat.le_refl _⟩ rfl rfl rfl rfl (Nat.le_of_ble_eq_true rfl) (dall tdX0_readOne 9 rfl) ?_
  refine r_pick [] rfl ?_
  exact wX0_readOne_21 hlv hz1 hl1 hz2 hl2 (fX0_step σ) C hR  h
def pX0_readOne_0 (F1 : OS → OS) (F2 : OS → OS)  (σ : OS) : OS := if (σ.1 6) = 20 then pX0_readOne_17 F1 F2  (fX0_write σ (σ.1 8)) else if (fX0_isName (σ.1 6)) = 0 then if (σ.1 6) = 16 then pX0_readOne_64 F1 F2  ((fX0_opens σ ).2) ((fX0_opens σ ).1) else if (σ.1 6) = 12 then pX0_readOne_103 F1 F2  ((fX0_opens σ ).2) ((fX0_opens σ ).1) else pX0_readOne_133 F1 F2  (fX0_refuse σ) else pX0_readOne_44 F1 F2  (fX0_write σ ((σ.1 6) ^^^ (-1)))
def oX0_readOne_0 (F1 : OS → OS) (F2 : OS → OS) (G1 : OS → Prop) (G2 : OS → Prop)  (σ : OS) : Prop := ((σ.1 6) = 20 → (gX0_write σ (σ.1 8)) ∧ (oX0_readOne_17 F1 F2 G1 G2  (fX0_write σ (σ.1 8)))) ∧ (¬ ((σ.1 6) = 20) → ((fX0_isName (σ.1 6)) = 0 → ((σ.1 6) = 16 → (gX0_opens σ ) ∧ (oX0_readOne_64 F1 F2 G1 G2  ((fX0_opens σ ).2) ((fX0_opens σ ).1))) ∧ (¬ ((σ.1 6) = 16) → ((σ.1 6) = 12 → (gX0_opens σ ) ∧ (oX0_readOne_103 F1 F2 G1 G2  ((fX0_opens σ ).2) ((fX0_opens σ ).1))) ∧ (¬ ((σ.1 6) = 12) → True))) ∧ (¬ ((fX0_isName (σ.1 6)) = 0) → (gX0_write σ ((σ.1 6) ^^^ (-1))) ∧ (oX0_readOne_44 F1 F2 G1 G2  (fX0_write σ ((σ.1 6) ^^^ (-1))))))
set_option maxHeartbeats 4000000 in
set_option maxRecDepth 100000 in
theorem wX0_readOne_0 {X : CX} {cy : Nat → ClassId} {q : Nat → Nat} {D : va_G} {A : Nat → Prop} {res : OS} {lv lv1 lv2 : Nat} {F1 : OS → OS} {G1 : OS → Prop} {F2 : OS → OS} {G2 : OS → Prop} (hlv : 20 ≤ lv) (hz1 : ∀ σ : OS, G1 σ → Con yX0_readOne cX0_readOne 1 none lv1 0 0 D (gty cy) [.ref (q 11)] (wX0 cy q σ) (eV (wX0 cy q (F1 σ)))) (hl1 : lv1 + 1 ≤ lv) (hz2 : ∀ σ : OS, G2 σ → Con yX0_readEither cX0_readEither 2 none lv2 0 0 D (gty cy) [.ref (q 11)] (wX0 cy q σ) (eV (wX0 cy q (F2 σ)))) (hl2 : lv2 + 1 ≤ lv)  (σ : OS) (C : Cx X cX0_readOne RX0 1 D (gty cy) A lv 0 0) (hR : Rt X none D (gty cy) A 0 0 (eV (wX0 cy q res)))  (ok : oX0_readOne_0 F1 F2 G1 G2  σ) (h : pX0_readOne_0 F1 F2  σ = res) : At X D A 1 0 0 0 [(0, .ref (q 11))] [] (wX0 cy q σ) := by
  unfold pX0_readOne_0 at h
  unfold oX0_readOne_0 at ok
  refine r_aload_n C 0 (dall tdX0_readOne 0 rfl) rfl ?_
  refine r_get C 0 kw_X0 rfl rfl (by decide) kf_X0_61 rfl rfl (dall tdX0_readOne 1 rfl) ?_
  refine r_bipush (v := 20) C (dall tdX0_readOne 2 rfl) (by decide) ?_
  refine r_icmp_ne (tgt := 24) C (dall tdX0_readOne 3 rfl) (by decide) (fun c9 => ?_) (fun c9 => ?_)
  · have h := (if_neg c9).symm.trans h
    have ok := ok.2 c9
    refine r_aload_n C 0 (dall tdX0_readOne 11 rfl) rfl ?_
    refine r_get C 0 kw_X0 rfl rfl (by decide) kf_X0_61 rfl rfl (dall tdX0_readOne 12 rfl) ?_
    refine r_s0I (as := [.int (σ.1 6)]) C (zX0_isName (σ.1 6) ) ms_X0_isName km_X0_86 (by omega) (by decide) ⟨Nat.le_refl _, Nat.le_refl _⟩ rfl rfl (Nat.le_of_ble_eq_true rfl) (dall tdX0_readOne 13 rfl) ?_
    refine r_if_eq (tgt := 51) C (dall tdX0_readOne 14 rfl) (by decide) (fun c10 => ?_) (fun c10 => ?_)
    · have h := (if_pos c10).symm.trans h
      have ok := ok.1 c10
      refine r_aload_n C 0 (dall tdX0_readOne 24 rfl) rfl ?_
      refine r_get C 0 kw_X0 rfl rfl (by decide) kf_X0_61 rfl rfl (dall tdX0_readOne 25 rfl) ?_
      refine r_bipush (v := 16) C (dall tdX0_readOne 26 rfl) (by decide) ?_
      refine r_icmp_ne (tgt := 90) C (dall tdX0_readOne 27 rfl) (by decide) (fun c11 => ?_) (fun c11 => ?_)
      · have h := (if_neg c11).symm.trans h
        have ok := ok.2 c11
        refine r_aload_n C 0 (dall tdX0_readOne 43 rfl) rfl ?_
        refine r_get C 0 kw_X0 rfl rfl (by decide) kf_X0_61 rfl rfl (dall tdX0_readOne 44 rfl) ?_
        refine r_bipush (v := 12) C (dall tdX0_readOne 45 rfl) (by decide) ?_
        refine r_icmp_ne (tgt := 129) C (dall tdX0_readOne 46 rfl) (by decide) (fun c12 => ?_) (fun c12 => ?_)
        · have h := (if_neg c12).symm.trans h
          have ok := ok.2 c12
          refine r_aload_n C 0 (dall tdX0_readOne 62 rfl) rfl ?_
          refine r_vV (as := []) C (zX0_refuse cy q σ  ) mv_X0_refuse km_X0_90 (by omega) (by decide) ⟨Nat.le_refl _, Nat.le_refl _⟩ rfl rfl rfl rfl (Nat.le_of_ble_eq_true rfl) (dall tdX0_readOne 63 rfl) ?_
          refine r_pick [] rfl ?_
          exact wX0_readOne_133 hlv hz1 hl1 hz2 hl2 (fX0_refuse σ) C hR  h
        · have h := (if_pos c12).symm.trans h
          have ok := ok.1 c12
          refine r_aload_n C 0 (dall tdX0_readOne 47 rfl) rfl ?_
          obtain ⟨o13, ok⟩ := ok
          refine r_vI (as := []) C (zX0_opens cy q σ  o13) mv_X0_opens km_X0_70 (by omega) (by decide) ⟨Nat.le_refl _, Nat.le_refl _⟩ rfl rfl rfl rfl (Nat.le_of_ble_eq_true rfl) (dall tdX0_readOne 48 rfl) ?_
          exact wX0_readOne_103 hlv hz1 hl1 hz2 hl2 ((fX0_opens σ ).2) ((fX0_opens σ ).1) C hR  ok h
      · have h := (if_pos c11).symm.trans h
        have ok := ok.1 c11
        refine r_aload_n C 0 (dall tdX0_readOne 28 rfl) rfl ?_
        obtain ⟨o14, ok⟩ := ok
        refine r_vI (as := []) C (zX0_opens cy q σ  o14) mv_X0_opens km_X0_70 (by omega) (by decide) ⟨Nat.le_refl _, Nat.le_refl _⟩ rfl rfl rfl rfl (Nat.le_of_ble_eq_true rfl) (dall tdX0_readOne 29 rfl) ?_
        exact wX0_readOne_64 hlv hz1 hl1 hz2 hl2 ((fX0_opens σ ).2) ((fX0_opens σ ).1) C hR  ok h
    · have h := (if_neg c10).symm.trans h
      have ok := ok.2 c10
      refine r_aload_n C 0 (dall tdX0_readOne 15 rfl) rfl ?_
      refine r_aload_n C 0 (dall tdX0_readOne 16 rfl) rfl ?_
      refine r_get C 0 kw_X0 rfl rfl (by decide) kf_X0_61 rfl rfl (dall tdX0_readOne 17 rfl) ?_
      refine r_iconst (v := -1) C (dall tdX0_readOne 18 rfl) (by decide) ?_
      refine r_ixor C (dall tdX0_readOne 19 rfl) ?_
      obtain ⟨o15, ok⟩ := ok
      refine r_vV (as := [.int ((σ.1 6) ^^^ (-1))]) C (zX0_write cy q σ ((σ.1 6) ^^^ (-1)) o15) mv_X0_write km_X0_64 (by omega) (by decide) ⟨Nat.le_refl _, Nat.le_refl _⟩ rfl rfl rfl rfl (Nat.le_of_ble_eq_true rfl) (dall tdX0_readOne 20 rfl) ?_
      exact wX0_readOne_44 hlv hz1 hl1 hz2 hl2 (fX0_write σ ((σ.1 6) ^^^ (-1))) C hR  ok h
  · have h := (if_pos c9).symm.trans h
    have ok := ok.1 c9
    refine r_aload_n C 0 (dall tdX0_readOne 4 rfl) rfl ?_
    refine r_aload_n C 0 (dall tdX0_readOne 5 rfl) rfl ?_
    refine r_get C 0 kw_X0 rfl rfl (by decide) kf_X0_83 rfl rfl (dall tdX0_readOne 6 rfl) ?_
    obtain ⟨o16, ok⟩ := ok
    refine r_vV (as := [.int (σ.1 8)]) C (zX0_write cy q σ (σ.1 8) o16) mv_X0_write km_X0_64 (by omega) (by decide) ⟨Nat.le_refl _, Nat.le_refl _⟩ rfl rfl rfl rfl (Nat.le_of_ble_eq_true rfl) (dall tdX0_readOne 7 rfl) ?_
    exact wX0_readOne_17 hlv hz1 hl1 hz2 hl2 (fX0_write σ (σ.1 8)) C hR  ok h
def fX0_readOne (F1 : OS → OS) (F2 : OS → OS) (σ : OS) : OS := pX0_readOne_0 F1 F2  σ
def gX0_readOne (F1 : OS → OS) (F2 : OS → OS) (G1 : OS → Prop) (G2 : OS → Prop) (σ : OS) : Prop := oX0_readOne_0 F1 F2 G1 G2  σ
set_option maxRecDepth 100000 in
theorem zX0_readOne (cy : Nat → ClassId) (q : Nat → Nat)  {lv lv1 lv2 : Nat} {F1 : OS → OS} {G1 : OS → Prop} {F2 : OS → OS} {G2 : OS → Prop}  {D : va_G} (hlv : 20 ≤ lv) (hz1 : ∀ σ : OS, G1 σ → Con yX0_readOne cX0_readOne 1 none lv1 0 0 D (gty cy) [.ref (q 11)] (wX0 cy q σ) (eV (wX0 cy q (F1 σ)))) (hl1 : lv1 + 1 ≤ lv) (hz2 : ∀ σ : OS, G2 σ → Con yX0_readEither cX0_readEither 2 none lv2 0 0 D (gty cy) [.ref (q 11)] (wX0 cy q σ) (eV (wX0 cy q (F2 σ)))) (hl2 : lv2 + 1 ≤ lv) (σ : OS) (ok : gX0_readOne F1 F2 G1 G2 σ )  : Con yX0_readOne cX0_readOne 1 none lv 0 0 D (gty cy) [.ref (q 11)] (wX0 cy q σ) (eV (wX0 cy q (fX0_readOne F1 F2 σ ))) :=
  Con.of (own := RX0) (by decide +kernel) rfl (Nat.le_of_ble_eq_true rfl) (Nat.zero_le _) (fun X A C hR _ => (wX0_readOne_0 hlv hz1 hl1 hz2 hl2 σ C hR  ok rfl))
def tbX0_readTerm : List (Nat × Instr × Nat) := [(0, .aload_n 0, 1), (1, .invokevirtual 80, 3), (4, .iconst 0, 1), (5, .istore_n 1, 1), (6, .iload_n 1, 1), (7, .sipush 160, 3), (10, .if_icmp .ge 32, 3), (13, .aload_n 0, 1), (14, .getfield 61, 3), (17, .bipush 17, 2), (19, .if_icmp .ne 23, 3), (22, .aload_n 0, 1), (23, .invokevirtual 37, 3), (26, .aload_n 0, 1), (27, .invokevirtual 80, 3), (30, .aload_n 0, 1), (31, .bipush (-18), 2), (33, .invokevirtual 64, 3), (36, .iinc 1 1, 3), (39, .goto (-33), 3), (42, .return_, 1)]
theorem tdX0_readTerm : tbX0_readTerm.all (fun q => decide (decode cX0_readTerm q.1 = .ok q.2)) = true := by decide +kernel
def pX0_readTerm_36 (F1 : OS → OS) (kR6 : OS × Int32 → OS) (σ : OS) (a1_ : Int32) : OS := kR6 (σ, a1_ + 1)
def oX0_readTerm_36 (F1 : OS → OS) (G1 : OS → Prop) (kO6 : OS × Int32 → Prop) (σ : OS) (a1_ : Int32) : Prop := kO6 (σ, a1_ + 1)
set_option maxHeartbeats 4000000 in
set_option maxRecDepth 100000 in
theorem wX0_readTerm_36 {X : CX} {cy : Nat → ClassId} {q : Nat → Nat} {D : va_G} {A : Nat → Prop} {res : OS} {lv lv1 : Nat} {F1 : OS → OS} {G1 : OS → Prop} (hlv : 20 ≤ lv) (hz1 : ∀ σ : OS, G1 σ → Con yX0_readOne cX0_readOne 1 none lv1 0 0 D (gty cy) [.ref (q 11)] (wX0 cy q σ) (eV (wX0 cy q (F1 σ)))) (hl1 : lv1 + 1 ≤ lv)  (σ : OS) (a1_ : Int32) (C : Cx X cX0_readTerm RX0 2 D (gty cy) A lv 0 0) (hR : Rt X none D (gty cy) A 0 0 (eV (wX0 cy q res))) (kR6 : OS × Int32 → OS) (kO6 : OS × Int32 → Prop) (hk6 : ∀ z, kO6 z → kR6 z = res → At X D A 2 0 0 6 [(0, .ref (q 11)), (1, .int z.2)] [] (wX0 cy q z.1)) (ok : oX0_readTerm_36 F1 G1 kO6 σ a1_) (h : pX0_readTerm_36 F1 kR6 σ a1_ = res) : At X D A 2 0 0 36 [(0, .ref (q 11)), (1, .int a1_)] [] (wX0 cy q σ) := by
  unfold pX0_readTerm_36 at h
  unfold oX0_readTerm_36 at ok
  refine r_iinc (v := a1_ + 1) (lv' := [(1, .int (a1_ + 1)), (0, .ref (q 11))]) C 1 (dall tdX0_readTerm 18 rfl) rfl rfl (by decide) rfl ?_
  refine r_goto (tgt := 6) C (dall tdX0_readTerm 19 rfl) (by decide) ?_
  refine r_pick [1, 0] rfl ?_
  exact hk6 (σ, a1_ + 1) ok h
def pX0_readTerm_30 (F1 : OS → OS) (kR6 : OS × Int32 → OS) (σ : OS) (a1_ : Int32) : OS := pX0_readTerm_36 F1 kR6 (fX0_write σ (-18)) a1_
def oX0_readTerm_30 (F1 : OS → OS) (G1 : OS → Prop) (kO6 : OS × Int32 → Prop) (σ : OS) (a1_ : Int32) : Prop := (gX0_write σ (-18)) ∧ (oX0_readTerm_36 F1 G1 kO6 (fX0_write σ (-18)) a1_)
set_option maxHeartbeats 4000000 in
set_option maxRecDepth 100000 in
theorem wX0_readTerm_30 {X : CX} {cy : Nat → ClassId} {q : Nat → Nat} {D : va_G} {A : Nat → Prop} {res : OS} {lv lv1 : Nat} {F1 : OS → OS} {G1 : OS → Prop} (hlv : 20 ≤ lv) (hz1 : ∀ σ : OS, G1 σ → Con yX0_readOne cX0_readOne 1 none lv1 0 0 D (gty cy) [.ref (q 11)] (wX0 cy q σ) (eV (wX0 cy q (F1 σ)))) (hl1 : lv1 + 1 ≤ lv)  (σ : OS) (a1_ : Int32) (C : Cx X cX0_readTerm RX0 2 D (gty cy) A lv 0 0) (hR : Rt X none D (gty cy) A 0 0 (eV (wX0 cy q res))) (kR6 : OS × Int32 → OS) (kO6 : OS × Int32 → Prop) (hk6 : ∀ z, kO6 z → kR6 z = res → At X D A 2 0 0 6 [(0, .ref (q 11)), (1, .int z.2)] [] (wX0 cy q z.1)) (ok : oX0_readTerm_30 F1 G1 kO6 σ a1_) (h : pX0_readTerm_30 F1 kR6 σ a1_ = res) : At X D A 2 0 0 30 [(0, .ref (q 11)), (1, .int a1_)] [] (wX0 cy q σ) := by
  unfold pX0_readTerm_30 at h
  unfold oX0_readTerm_30 at ok
  refine r_aload_n C 0 (dall tdX0_readTerm 15 rfl) rfl ?_
  refine r_bipush (v := -18) C (dall tdX0_readTerm 16 rfl) (by decide) ?_
  obtain ⟨o1, ok⟩ := ok
  refine r_vV (as := [.int (-18)]) C (zX0_write cy q σ (-18) o1) mv_X0_write km_X0_64 (by omega) (by decide) ⟨Nat.le_refl _, Nat.le_refl _⟩ rfl rfl rfl rfl (Nat.le_of_ble_eq_true rfl) (dall tdX0_readTerm 17 rfl) ?_
  exact wX0_readTerm_36 hlv hz1 hl1 (fX0_write σ (-18)) a1_ C hR kR6 kO6 hk6 ok h
def pX0_readTerm_26 (F1 : OS → OS) (kR6 : OS × Int32 → OS) (σ : OS) (a1_ : Int32) : OS := pX0_readTerm_30 F1 kR6 (F1 σ) a1_
def oX0_readTerm_26 (F1 : OS → OS) (G1 : OS → Prop) (kO6 : OS × Int32 → Prop) (σ : OS) (a1_ : Int32) : Prop := (G1 σ ) ∧ (oX0_readTerm_30 F1 G1 kO6 (F1 σ) a1_)
set_option maxHeartbeats 4000000 in
set_option maxRecDepth 100000 in
theorem wX0_readTerm_26 {X : CX} {cy : Nat → ClassId} {q : Nat → Nat} {D : va_G} {A : Nat → Prop} {res : OS} {lv lv1 : Nat} {F1 : OS → OS} {G1 : OS → Prop} (hlv : 20 ≤ lv) (hz1 : ∀ σ : OS, G1 σ → Con yX0_readOne cX0_readOne 1 none lv1 0 0 D (gty cy) [.ref (q 11)] (wX0 cy q σ) (eV (wX0 cy q (F1 σ)))) (hl1 : lv1 + 1 ≤ lv)  (σ : OS) (a1_ : Int32) (C : Cx X cX0_readTerm RX0 2 D (gty cy) A lv 0 0) (hR : Rt X none D (gty cy) A 0 0 (eV (wX0 cy q res))) (kR6 : OS × Int32 → OS) (kO6 : OS × Int32 → Prop) (hk6 : ∀ z, kO6 z → kR6 z = res → At X D A 2 0 0 6 [(0, .ref (q 11)), (1, .int z.2)] [] (wX0 cy q z.1)) (ok : oX0_readTerm_26 F1 G1 kO6 σ a1_) (h : pX0_readTerm_26 F1 kR6 σ a1_ = res) : At X D A 2 0 0 26 [(0, .ref (q 11)), (1, .int a1_)] [] (wX0 cy q σ) := by
  unfold pX0_readTerm_26 at h
  unfold oX0_readTerm_26 at ok
  refine r_aload_n C 0 (dall tdX0_readTerm 13 rfl) rfl ?_
  obtain ⟨o2, ok⟩ := ok
  refine r_vV (as := []) C (hz1  σ  o2) mv_X0_readOne km_X0_80 hl1 (by decide) ⟨Nat.le_refl _, Nat.le_refl _⟩ rfl rfl rfl rfl (Nat.le_of_ble_eq_true rfl) (dall tdX0_readTerm 14 rfl) ?_
  exact wX0_readTerm_30 hlv hz1 hl1 (F1 σ) a1_ C hR kR6 kO6 hk6 ok h
def bX0_readTerm_6 (F1 : OS → OS)   (kR6 : OS × Int32 → OS) (v : OS × Int32) : OS := if 160 ≤ v.2 then v.1 else if (v.1.1 6) = 17 then pX0_readTerm_26 F1 kR6 (fX0_step v.1) v.2 else v.1
def kX0_readTerm_6 (F1 : OS → OS) (G1 : OS → Prop)   (kO6 : OS × Int32 → Prop) (v : OS × Int32) : Prop := (160 ≤ v.2 → True) ∧ (¬ (160 ≤ v.2) → ((v.1.1 6) = 17 → (gX0_step v.1 ) ∧ (oX0_readTerm_26 F1 G1 kO6 (fX0_step v.1) v.2)) ∧ (¬ ((v.1.1 6) = 17) → True))
set_option maxHeartbeats 4000000 in
set_option maxRecDepth 100000 in
theorem wX0_readTerm_6 {X : CX} {cy : Nat → ClassId} {q : Nat → Nat} {D : va_G} {A : Nat → Prop} {res : OS} {lv lv1 : Nat} {F1 : OS → OS} {G1 : OS → Prop} (hlv : 20 ≤ lv) (hz1 : ∀ σ : OS, G1 σ → Con yX0_readOne cX0_readOne 1 none lv1 0 0 D (gty cy) [.ref (q 11)] (wX0 cy q σ) (eV (wX0 cy q (F1 σ)))) (hl1 : lv1 + 1 ≤ lv)   (C : Cx X cX0_readTerm RX0 2 D (gty cy) A lv 0 0) (hR : Rt X none D (gty cy) A 0 0 (eV (wX0 cy q res))) (kR6 : OS × Int32 → OS) (kO6 : OS × Int32 → Prop) (hk6 : ∀ z, kO6 z → kR6 z = res → At X D A 2 0 0 6 [(0, .ref (q 11)), (1, .int z.2)] [] (wX0 cy q z.1)) (v : OS × Int32) (ok : kX0_readTerm_6 F1 G1  kO6 v) (h : bX0_readTerm_6 F1  kR6 v = res) : At X D A 2 0 0 6 [(0, .ref (q 11)), (1, .int v.2)] [] (wX0 cy q v.1) := by
  unfold bX0_readTerm_6 at h
  unfold kX0_readTerm_6 at ok
  refine r_iload_n C 1 (dall tdX0_readTerm 4 rfl) rfl ?_
  refine r_sipush (v := 160) C (dall tdX0_readTerm 5 rfl) (by decide) ?_
  refine r_icmp_ge (tgt := 42) C (dall tdX0_readTerm 6 rfl) (by decide) (fun c3 => ?_) (fun c3 => ?_)
  · have h := (if_pos c3).symm.trans h
    have ok := ok.1 c3
    exact r_vret C hR (dall tdX0_readTerm 20 rfl) (by subst h; exact ⟨rfl, rfl⟩)
  · have h := (if_neg c3).symm.trans h
    have ok := ok.2 c3
    refine r_aload_n C 0 (dall tdX0_readTerm 7 rfl) rfl ?_
    refine r_get C 0 kw_X0 rfl rfl (by decide) kf_X0_61 rfl rfl (dall tdX0_readTerm 8 rfl) ?_
    refine r_bipush (v := 17) C (dall tdX0_readTerm 9 rfl) (by decide) ?_
    refine r_icmp_ne (tgt := 42) C (dall tdX0_readTerm 10 rfl) (by decide) (fun c4 => ?_) (fun c4 => ?_)
    · have h := (if_neg c4).symm.trans h
      have ok := ok.2 c4
      exact r_vret C hR (dall tdX0_readTerm 20 rfl) (by subst h; exact ⟨rfl, rfl⟩)
    · have h := (if_pos c4).symm.trans h
      have ok := ok.1 c4
      refine r_aload_n C 0 (dall tdX0_readTerm 11 rfl) rfl ?_
      obtain ⟨o5, ok⟩ := ok
      refine r_vV (as := []) C (zX0_step cy q v.1  o5) mv_X0_step km_X0_37 (by omega) (by decide) ⟨Nat.le_refl _, Nat.le_refl _⟩ rfl rfl rfl rfl (Nat.le_of_ble_eq_true rfl) (dall tdX0_readTerm 12 rfl) ?_
      exact wX0_readTerm_26 hlv hz1 hl1 (fX0_step v.1) v.2 C hR kR6 kO6 hk6 ok h
set_option maxHeartbeats 4000000 in
set_option maxRecDepth 100000 in
theorem lX0_readTerm_6 {X : CX} {cy : Nat → ClassId} {q : Nat → Nat} {D : va_G} {A : Nat → Prop} {res : OS} {lv lv1 : Nat} {F1 : OS → OS} {G1 : OS → Prop} (hlv : 20 ≤ lv) (hz1 : ∀ σ : OS, G1 σ → Con yX0_readOne cX0_readOne 1 none lv1 0 0 D (gty cy) [.ref (q 11)] (wX0 cy q σ) (eV (wX0 cy q (F1 σ)))) (hl1 : lv1 + 1 ≤ lv)   (C : Cx X cX0_readTerm RX0 2 D (gty cy) A lv 0 0) (hR : Rt X none D (gty cy) A 0 0 (eV (wX0 cy q res)))  (n : Nat) (v : OS × Int32) (ok : lpOk (kX0_readTerm_6 F1 G1  ) n v) (h : lp o0 (bX0_readTerm_6 F1  ) n v = res) : At X D A 2 0 0 6 [(0, .ref (q 11)), (1, .int v.2)] [] (wX0 cy q v.1) :=
  lp_rule (fun v rr_ => rr_ = res → At X D A 2 0 0 6 [(0, .ref (q 11)), (1, .int v.2)] [] (wX0 cy q v.1)) (fun kR kO hk v ok h => wX0_readTerm_6 hlv hz1 hl1  C hR  kR kO hk v ok h) n v ok h
def pX0_readTerm_4 (F1 : OS → OS)  (σ : OS) : OS := lp o0 (bX0_readTerm_6 F1  ) fu (σ, 0)
def oX0_readTerm_4 (F1 : OS → OS) (G1 : OS → Prop)  (σ : OS) : Prop := lpOk (kX0_readTerm_6 F1 G1  ) fu (σ, 0)
set_option maxHeartbeats 4000000 in
set_option maxRecDepth 100000 in
theorem wX0_readTerm_4 {X : CX} {cy : Nat → ClassId} {q : Nat → Nat} {D : va_G} {A : Nat → Prop} {res : OS} {lv lv1 : Nat} {F1 : OS → OS} {G1 : OS → Prop} (hlv : 20 ≤ lv) (hz1 : ∀ σ : OS, G1 σ → Con yX0_readOne cX0_readOne 1 none lv1 0 0 D (gty cy) [.ref (q 11)] (wX0 cy q σ) (eV (wX0 cy q (F1 σ)))) (hl1 : lv1 + 1 ≤ lv)  (σ : OS) (C : Cx X cX0_readTerm RX0 2 D (gty cy) A lv 0 0) (hR : Rt X none D (gty cy) A 0 0 (eV (wX0 cy q res)))  (ok : oX0_readTerm_4 F1 G1  σ) (h : pX0_readTerm_4 F1  σ = res) : At X D A 2 0 0 4 [(0, .ref (q 11))] [] (wX0 cy q σ) := by
  unfold pX0_readTerm_4 at h
  unfold oX0_readTerm_4 at ok
  refine r_iconst (v := 0) C (dall tdX0_readTerm 2 rfl) (by decide) ?_
  refine r_istore_n (lv' := [(1, .int 0), (0, .ref (q 11))]) C (dall tdX0_readTerm 3 rfl) (by decide) rfl ?_
  refine r_pick [1, 0] rfl ?_
  exact lX0_readTerm_6 hlv hz1 hl1  C hR  fu _ ok h
def pX0_readTerm_0 (F1 : OS → OS)  (σ : OS) : OS := pX0_readTerm_4 F1  (F1 σ)
def oX0_readTerm_0 (F1 : OS → OS) (G1 : OS → Prop)  (σ : OS) : Prop := (G1 σ ) ∧ (oX0_readTerm_4 F1 G1  (F1 σ))
set_option maxHeartbeats 4000000 in
set_option maxRecDepth 100000 in
theorem wX0_readTerm_0 {X : CX} {cy : Nat → ClassId} {q : Nat → Nat} {D : va_G} {A : Nat → Prop} {res : OS} {lv lv1 : Nat} {F1 : OS → OS} {G1 : OS → Prop} (hlv : 20 ≤ lv) (hz1 : ∀ σ : OS, G1 σ → Con yX0_readOne cX0_readOne 1 none lv1 0 0 D (gty cy) [.ref (q 11)] (wX0 cy q σ) (eV (wX0 cy q (F1 σ)))) (hl1 : lv1 + 1 ≤ lv)  (σ : OS) (C : Cx X cX0_readTerm RX0 2 D (gty cy) A lv 0 0) (hR : Rt X none D (gty cy) A 0 0 (eV (wX0 cy q res)))  (ok : oX0_readTerm_0 F1 G1  σ) (h : pX0_readTerm_0 F1  σ = res) : At X D A 2 0 0 0 [(0, .ref (q 11))] [] (wX0 cy q σ) := by
  unfold pX0_readTerm_0 at h
  unfold oX0_readTerm_0 at ok
  refine r_aload_n C 0 (dall tdX0_readTerm 0 rfl) rfl ?_
  obtain ⟨o6, ok⟩ := ok
  refine r_vV (as := []) C (hz1  σ  o6) mv_X0_readOne km_X0_80 hl1 (by decide) ⟨Nat.le_refl _, Nat.le_refl _⟩ rfl rfl rfl rfl (Nat.le_of_ble_eq_true rfl) (dall tdX0_readTerm 1 rfl) ?_
  exact wX0_readTerm_4 hlv hz1 hl1 (F1 σ) C hR  ok h
def fX0_readTerm (F1 : OS → OS) (σ : OS) : OS := pX0_readTerm_0 F1  σ
def gX0_readTerm (F1 : OS → OS) (G1 : OS → Prop) (σ : OS) : Prop := oX0_readTerm_0 F1 G1  σ
set_option maxRecDepth 100000 in
theorem zX0_readTerm (cy : Nat → ClassId) (q : Nat → Nat)  {lv lv1 : Nat} {F1 : OS → OS} {G1 : OS → Prop}  {D : va_G} (hlv : 20 ≤ lv) (hz1 : ∀ σ : OS, G1 σ → Con yX0_readOne cX0_readOne 1 none lv1 0 0 D (gty cy) [.ref (q 11)] (wX0 cy q σ) (eV (wX0 cy q (F1 σ)))) (hl1 : lv1 + 1 ≤ lv) (σ : OS) (ok : gX0_readTerm F1 G1 σ )  : Con yX0_readTerm cX0_readTerm 2 none lv 0 0 D (gty cy) [.ref (q 11)] (wX0 cy q σ) (eV (wX0 cy q (fX0_readTerm F1 σ ))) :=
  Con.of (own := RX0) (by decide +kernel) rfl (Nat.le_of_ble_eq_true rfl) (Nat.zero_le _) (fun X A C hR _ => (wX0_readTerm_0 hlv hz1 hl1 σ C hR  ok rfl))
def tbX0_readSum : List (Nat × Instr × Nat) := [(0, .aload_n 0, 1), (1, .invokevirtual 77, 3), (4, .iconst 0, 1), (5, .istore_n 1, 1), (6, .iload_n 1, 1), (7, .sipush 160, 3), (10, .if_icmp .ge 47, 3), (13, .aload_n 0, 1), (14, .getfield 61, 3), (17, .bipush 15, 2), (19, .if_icmp .eq 12, 3), (22, .aload_n 0, 1), (23, .getfield 61, 3), (26, .bipush 16, 2), (28, .if_icmp .ne 29, 3), (31, .aload_n 0, 1), (32, .getfield 61, 3), (35, .istore_n 2, 1), (36, .aload_n 0, 1), (37, .invokevirtual 37, 3), (40, .aload_n 0, 1), (41, .invokevirtual 77, 3), (44, .aload_n 0, 1), (45, .iload_n 2, 1), (46, .iconst (-1), 1), (47, .ixor, 1), (48, .invokevirtual 64, 3), (51, .iinc 1 1, 3), (54, .goto (-48), 3), (57, .return_, 1)]
theorem tdX0_readSum : tbX0_readSum.all (fun q => decide (decode cX0_readSum q.1 = .ok q.2)) = true := by decide +kernel
def pX0_readSum_51 (F1 : OS → OS) (kR6 : OS × Int32 → OS) (σ : OS) (a1_ : Int32) : OS := kR6 (σ, a1_ + 1)
def oX0_readSum_51 (F1 : OS → OS) (G1 : OS → Prop) (kO6 : OS × Int32 → Prop) (σ : OS) (a1_ : Int32) : Prop := kO6 (σ, a1_ + 1)
set_option maxHeartbeats 4000000 in
set_option maxRecDepth 100000 in
theorem wX0_readSum_51 {X : CX} {cy : Nat → ClassId} {q : Nat → Nat} {D : va_G} {A : Nat → Prop} {res : OS} {lv lv1 : Nat} {F1 : OS → OS} {G1 : OS → Prop} (hlv : 20 ≤ lv) (hz1 : ∀ σ : OS, G1 σ → Con yX0_readTerm cX0_readTerm 2 none lv1 0 0 D (gty cy) [.ref (q 11)] (wX0 cy q σ) (eV (wX0 cy q (F1 σ)))) (hl1 : lv1 + 1 ≤ lv)  (σ : OS) (a1_ : Int32) (C : Cx X cX0_readSum RX0 3 D (gty cy) A lv 0 0) (hR : Rt X none D (gty cy) A 0 0 (eV (wX0 cy q res))) (kR6 : OS × Int32 → OS) (kO6 : OS × Int32 → Prop) (hk6 : ∀ z, kO6 z → kR6 z = res → At X D A 3 0 0 6 [(0, .ref (q 11)), (1, .int z.2)] [] (wX0 cy q z.1)) (ok : oX0_readSum_51 F1 G1 kO6 σ a1_) (h : pX0_readSum_51 F1 kR6 σ a1_ = res) : At X D A 3 0 0 51 [(0, .ref (q 11)), (1, .int a1_)] [] (wX0 cy q σ) := by
  unfold pX0_readSum_51 at h
  unfold oX0_readSum_51 at ok
  refine r_iinc (v := a1_ + 1) (lv' := [(1, .int (a1_ + 1)), (0, .ref (q 11))]) C 1 (dall tdX0_readSum 27 rfl) rfl rfl (by decide) rfl ?_
  refine r_goto (tgt := 6) C (dall tdX0_readSum 28 rfl) (by decide) ?_
  refine r_pick [1, 0] rfl ?_
  exact hk6 (σ, a1_ + 1) ok h
def pX0_readSum_44 (F1 : OS → OS) (kR6 : OS × Int32 → OS) (σ : OS) (a1_ : Int32) (a2_ : Int32) : OS := pX0_readSum_51 F1 kR6 (fX0_write σ (a2_ ^^^ (-1))) a1_
def oX0_readSum_44 (F1 : OS → OS) (G1 : OS → Prop) (kO6 : OS × Int32 → Prop) (σ : OS) (a1_ : Int32) (a2_ : Int32) : Prop := (gX0_write σ (a2_ ^^^ (-1))) ∧ (oX0_readSum_51 F1 G1 kO6 (fX0_write σ (a2_ ^^^ (-1))) a1_)
set_option maxHeartbeats 4000000 in
set_option maxRecDepth 100000 in
theorem wX0_readSum_44 {X : CX} {cy : Nat → ClassId} {q : Nat → Nat} {D : va_G} {A : Nat → Prop} {res : OS} {lv lv1 : Nat} {F1 : OS → OS} {G1 : OS → Prop} (hlv : 20 ≤ lv) (hz1 : ∀ σ : OS, G1 σ → Con yX0_readTerm cX0_readTerm 2 none lv1 0 0 D (gty cy) [.ref (q 11)] (wX0 cy q σ) (eV (wX0 cy q (F1 σ)))) (hl1 : lv1 + 1 ≤ lv)  (σ : OS) (a1_ : Int32) (a2_ : Int32) (C : Cx X cX0_readSum RX0 3 D (gty cy) A lv 0 0) (hR : Rt X none D (gty cy) A 0 0 (eV (wX0 cy q res))) (kR6 : OS × Int32 → OS) (kO6 : OS × Int32 → Prop) (hk6 : ∀ z, kO6 z → kR6 z = res → At X D A 3 0 0 6 [(0, .ref (q 11)), (1, .int z.2)] [] (wX0 cy q z.1)) (ok : oX0_readSum_44 F1 G1 kO6 σ a1_ a2_) (h : pX0_readSum_44 F1 kR6 σ a1_ a2_ = res) : At X D A 3 0 0 44 [(0, .ref (q 11)), (1, .int a1_), (2, .int a2_)] [] (wX0 cy q σ) := by
  unfold pX0_readSum_44 at h
  unfold oX0_readSum_44 at ok
  refine r_aload_n C 0 (dall tdX0_readSum 22 rfl) rfl ?_
  refine r_iload_n C 2 (dall tdX0_readSum 23 rfl) rfl ?_
  refine r_iconst (v := -1) C (dall tdX0_readSum 24 rfl) (by decide) ?_
  refine r_ixor C (dall tdX0_readSum 25 rfl) ?_
  obtain ⟨o1, ok⟩ := ok
  refine r_vV (as := [.int (a2_ ^^^ (-1))]) C (zX0_write cy q σ (a2_ ^^^ (-1)) o1) mv_X0_write km_X0_64 (by omega) (by decide) ⟨Nat.le_refl _, Nat.le_refl _⟩ rfl rfl rfl rfl (Nat.le_of_ble_eq_true rfl) (dall tdX0_readSum 26 rfl) ?_
  refine r_pick [0, 1] rfl ?_
  exact wX0_readSum_51 hlv hz1 hl1 (fX0_write σ (a2_ ^^^ (-1))) a1_ C hR kR6 kO6 hk6 ok h
def pX0_readSum_40 (F1 : OS → OS) (kR6 : OS × Int32 → OS) (σ : OS) (a1_ : Int32) (a2_ : Int32) : OS := pX0_readSum_44 F1 kR6 (F1 σ) a1_ a2_
def oX0_readSum_40 (F1 : OS → OS) (G1 : OS → Prop) (kO6 : OS × Int32 → Prop) (σ : OS) (a1_ : Int32) (a2_ : Int32) : Prop := (G1 σ ) ∧ (oX0_readSum_44 F1 G1 kO6 (F1 σ) a1_ a2_)
set_option maxHeartbeats 4000000 in
set_option maxRecDepth 100000 in
theorem wX0_readSum_40 {X : CX} {cy : Nat → ClassId} {q : Nat → Nat} {D : va_G} {A : Nat → Prop} {res : OS} {lv lv1 : Nat} {F1 : OS → OS} {G1 : OS → Prop} (hlv : 20 ≤ lv) (hz1 : ∀ σ : OS, G1 σ → Con yX0_readTerm cX0_readTerm 2 none lv1 0 0 D (gty cy) [.ref (q 11)] (wX0 cy q σ) (eV (wX0 cy q (F1 σ)))) (hl1 : lv1 + 1 ≤ lv)  (σ : OS) (a1_ : Int32) (a2_ : Int32) (C : Cx X cX0_readSum RX0 3 D (gty cy) A lv 0 0) (hR : Rt X none D (gty cy) A 0 0 (eV (wX0 cy q res))) (kR6 : OS × Int32 → OS) (kO6 : OS × Int32 → Prop) (hk6 : ∀ z, kO6 z → kR6 z = res → At X D A 3 0 0 6 [(0, .ref (q 11)), (1, .int z.2)] [] (wX0 cy q z.1)) (ok : oX0_readSum_40 F1 G1 kO6 σ a1_ a2_) (h : pX0_readSum_40 F1 kR6 σ a1_ a2_ = res) : At X D A 3 0 0 40 [(0, .ref (q 11)), (1, .int a1_), (2, .int a2_)] [] (wX0 cy q σ) := by
  unfold pX0_readSum_40 at h
  unfold oX0_readSum_40 at ok
  refine r_aload_n C 0 (dall tdX0_readSum 20 rfl) rfl ?_
  obtain ⟨o2, ok⟩ := ok
  refine r_vV (as := []) C (hz1  σ  o2) mv_X0_readTerm km_X0_77 hl1 (by decide) ⟨Nat.le_refl _, Nat.le_refl _⟩ rfl rfl rfl rfl (Nat.le_of_ble_eq_true rfl) (dall tdX0_readSum 21 rfl) ?_
  exact wX0_readSum_44 hlv hz1 hl1 (F1 σ) a1_ a2_ C hR kR6 kO6 hk6 ok h
def pX0_readSum_31 (F1 : OS → OS) (kR6 : OS × Int32 → OS) (σ : OS) (a1_ : Int32) : OS := pX0_readSum_40 F1 kR6 (fX0_step σ) a1_ (σ.1 6)
def oX0_readSum_31 (F1 : OS → OS) (G1 : OS → Prop) (kO6 : OS × Int32 → Prop) (σ : OS) (a1_ : Int32) : Prop := (gX0_step σ ) ∧ (oX0_readSum_40 F1 G1 kO6 (fX0_step σ) a1_ (σ.1 6))
set_option maxHeartbeats 4000000 in
set_option maxRecDepth 100000 in
theorem wX0_readSum_31 {X : CX} {cy : Nat → ClassId} {q : Nat → Nat} {D : va_G} {A : Nat → Prop} {res : OS} {lv lv1 : Nat} {F1 : OS → OS} {G1 : OS → Prop} (hlv : 20 ≤ lv) (hz1 : ∀ σ : OS, G1 σ → Con yX0_readTerm cX0_readTerm 2 none lv1 0 0 D (gty cy) [.ref (q 11)] (wX0 cy q σ) (eV (wX0 cy q (F1 σ)))) (hl1 : lv1 + 1 ≤ lv)  (σ : OS) (a1_ : Int32) (C : Cx X cX0_readSum RX0 3 D (gty cy) A lv 0 0) (hR : Rt X none D (gty cy) A 0 0 (eV (wX0 cy q res))) (kR6 : OS × Int32 → OS) (kO6 : OS × Int32 → Prop) (hk6 : ∀ z, kO6 z → kR6 z = res → At X D A 3 0 0 6 [(0, .ref (q 11)), (1, .int z.2)] [] (wX0 cy q z.1)) (ok : oX0_readSum_31 F1 G1 kO6 σ a1_) (h : pX0_readSum_31 F1 kR6 σ a1_ = res) : At X D A 3 0 0 31 [(0, .ref (q 11)), (1, .int a1_)] [] (wX0 cy q σ) := by
  unfold pX0_readSum_31 at h
  unfold oX0_readSum_31 at ok
  refine r_aload_n C 0 (dall tdX0_readSum 15 rfl) rfl ?_
  refine r_get C 0 kw_X0 rfl rfl (by decide) kf_X0_61 rfl rfl (dall tdX0_readSum 16 rfl) ?_
  refine r_istore_n (lv' := [(2, .int (σ.1 6)), (0, .ref (q 11)), (1, .int a1_)]) C (dall tdX0_readSum 17 rfl) (by decide) rfl ?_
  refine r_aload_n C 1 (dall tdX0_readSum 18 rfl) rfl ?_
  obtain ⟨o3, ok⟩ := ok
  refine r_vV (as := []) C (zX0_step cy q σ  o3) mv_X0_step km_X0_37 (by omega) (by decide) ⟨Nat.le_refl _, Nat.le_refl _⟩ rfl rfl rfl rfl (Nat.le_of_ble_eq_true rfl) (dall tdX0_readSum 19 rfl) ?_
  refine r_pick [1, 2, 0] rfl ?_
  exact wX0_readSum_40 hlv hz1 hl1 (fX0_step σ) a1_ (σ.1 6) C hR kR6 kO6 hk6 ok h
def bX0_readSum_6 (F1 : OS → OS)   (kR6 : OS × Int32 → OS) (v : OS × Int32) : OS := if 160 ≤ v.2 then v.1 else if (v.1.1 6) = 15 then pX0_readSum_31 F1 kR6 v.1 v.2 else if (v.1.1 6) = 16 then pX0_readSum_31 F1 kR6 v.1 v.2 else v.1
def kX0_readSum_6 (F1 : OS → OS) (G1 : OS → Prop)   (kO6 : OS × Int32 → Prop) (v : OS × Int32) : Prop := (160 ≤ v.2 → True) ∧ (¬ (160 ≤ v.2) → ((v.1.1 6) = 15 → oX0_readSum_31 F1 G1 kO6 v.1 v.2) ∧ (¬ ((v.1.1 6) = 15) → ((v.1.1 6) = 16 → oX0_readSum_31 F1 G1 kO6 v.1 v.2) ∧ (¬ ((v.1.1 6) = 16) → True)))
set_option maxHeartbeats 4000000 in
set_option maxRecDepth 100000 in
theorem wX0_readSum_6 {X : CX} {cy : Nat → ClassId} {q : Nat → Nat} {D : va_G} {A : Nat → Prop} {res : OS} {lv lv1 : Nat} {F1 : OS → OS} {G1 : OS → Prop} (hlv : 20 ≤ lv) (hz1 : ∀ σ : OS, G1 σ → Con yX0_readTerm cX0_readTerm 2 none lv1 0 0 D (gty cy) [.ref (q 11)] (wX0 cy q σ) (eV (wX0 cy q (F1 σ)))) (hl1 : lv1 + 1 ≤ lv)   (C : Cx X cX0_readSum RX0 3 D (gty cy) A lv 0 0) (hR : Rt X none D (gty cy) A 0 0 (eV (wX0 cy q res))) (kR6 : OS × Int32 → OS) (kO6 : OS × Int32 → Prop) (hk6 : ∀ z, kO6 z → kR6 z = res → At X D A 3 0 0 6 [(0, .ref (q 11)), (1, .int z.2)] [] (wX0 cy q z.1)) (v : OS × Int32) (ok : kX0_readSum_6 F1 G1  kO6 v) (h : bX0_readSum_6 F1  kR6 v = res) : At X D A 3 0 0 6 [(0, .ref (q 11)), (1, .int v.2)] [] (wX0 cy q v.1) := by
  unfold bX0_readSum_6 at h
  unfold kX0_readSum_6 at ok
  refine r_iload_n C 1 (dall tdX0_readSum 4 rfl) rfl ?_
  refine r_sipush (v := 160) C (dall tdX0_readSum 5 rfl) (by decide) ?_
  refine r_icmp_ge (tgt := 57) C (dall tdX0_readSum 6 rfl) (by decide) (fun c4 => ?_) (fun c4 => ?_)
  · have h := (if_pos c4).symm.trans h
    have ok := ok.1 c4
    exact r_vret C hR (dall tdX0_readSum 29 rfl) (by subst h; exact ⟨rfl, rfl⟩)
  · have h := (if_neg c4).symm.trans h
    have ok := ok.2 c4
    refine r_aload_n C 0 (dall tdX0_readSum 7 rfl) rfl ?_
    refine r_get C 0 kw_X0 rfl rfl (by decide) kf_X0_61 rfl rfl (dall tdX0_readSum 8 rfl) ?_
    refine r_bipush (v := 15) C (dall tdX0_readSum 9 rfl) (by decide) ?_
    refine r_icmp_eq (tgt := 31) C (dall tdX0_readSum 10 rfl) (by decide) (fun c5 => ?_) (fun c5 => ?_)
    · have h := (if_pos c5).symm.trans h
      have ok := ok.1 c5
      exact wX0_readSum_31 hlv hz1 hl1 v.1 v.2 C hR kR6 kO6 hk6 ok h
    · have h := (if_neg c5).symm.trans h
      have ok := ok.2 c5
      refine r_aload_n C 0 (dall tdX0_readSum 11 rfl) rfl ?_
      refine r_get C 0 kw_X0 rfl rfl (by decide) kf_X0_61 rfl rfl (dall tdX0_readSum 12 rfl) ?_
      refine r_bipush (v := 16) C (dall tdX0_readSum 13 rfl) (by decide) ?_
      refine r_icmp_ne (tgt := 57) C (dall tdX0_readSum 14 rfl) (by decide) (fun c6 => ?_) (fun c6 => ?_)
      · have h := (if_neg c6).symm.trans h
        have ok := ok.2 c6
        exact r_vret C hR (dall tdX0_readSum 29 rfl) (by subst h; exact ⟨rfl, rfl⟩)
      · have h := (if_pos c6).symm.trans h
        have ok := ok.1 c6
        exact wX0_readSum_31 hlv hz1 hl1 v.1 v.2 C hR kR6 kO6 hk6 ok h
set_option maxHeartbeats 4000000 in
set_option maxRecDepth 100000 in
theorem lX0_readSum_6 {X : CX} {cy : Nat → ClassId} {q : Nat → Nat} {D : va_G} {A : Nat → Prop} {res : OS} {lv lv1 : Nat} {F1 : OS → OS} {G1 : OS → Prop} (hlv : 20 ≤ lv) (hz1 : ∀ σ : OS, G1 σ → Con yX0_readTerm cX0_readTerm 2 none lv1 0 0 D (gty cy) [.ref (q 11)] (wX0 cy q σ) (eV (wX0 cy q (F1 σ)))) (hl1 : lv1 + 1 ≤ lv)   (C : Cx X cX0_readSum RX0 3 D (gty cy) A lv 0 0) (hR : Rt X none D (gty cy) A 0 0 (eV (wX0 cy q res)))  (n : Nat) (v : OS × Int32) (ok : lpOk (kX0_readSum_6 F1 G1  ) n v) (h : lp o0 (bX0_readSum_6 F1  ) n v = res) : At X D A 3 0 0 6 [(0, .ref (q 11)), (1, .int v.2)] [] (wX0 cy q v.1) :=
  lp_rule (fun v rr_ => rr_ = res → At X D A 3 0 0 6 [(0, .ref (q 11)), (1, .int v.2)] [] (wX0 cy q v.1)) (fun kR kO hk v ok h => wX0_readSum_6 hlv hz1 hl1  C hR  kR kO hk v ok h) n v ok h
def pX0_readSum_4 (F1 : OS → OS)  (σ : OS) : OS := lp o0 (bX0_readSum_6 F1  ) fu (σ, 0)
def oX0_readSum_4 (F1 : OS → OS) (G1 : OS → Prop)  (σ : OS) : Prop := lpOk (kX0_readSum_6 F1 G1  ) fu (σ, 0)
set_option maxHeartbeats 4000000 in
set_option maxRecDepth 100000 in
theorem wX0_readSum_4 {X : CX} {cy : Nat → ClassId} {q : Nat → Nat} {D : va_G} {A : Nat → Prop} {res : OS} {lv lv1 : Nat} {F1 : OS → OS} {G1 : OS → Prop} (hlv : 20 ≤ lv) (hz1 : ∀ σ : OS, G1 σ → Con yX0_readTerm cX0_readTerm 2 none lv1 0 0 D (gty cy) [.ref (q 11)] (wX0 cy q σ) (eV (wX0 cy q (F1 σ)))) (hl1 : lv1 + 1 ≤ lv)  (σ : OS) (C : Cx X cX0_readSum RX0 3 D (gty cy) A lv 0 0) (hR : Rt X none D (gty cy) A 0 0 (eV (wX0 cy q res)))  (ok : oX0_readSum_4 F1 G1  σ) (h : pX0_readSum_4 F1  σ = res) : At X D A 3 0 0 4 [(0, .ref (q 11))] [] (wX0 cy q σ) := by
  unfold pX0_readSum_4 at h
  unfold oX0_readSum_4 at ok
  refine r_iconst (v := 0) C (dall tdX0_readSum 2 rfl) (by decide) ?_
  refine r_istore_n (lv' := [(1, .int 0), (0, .ref (q 11))]) C (dall tdX0_readSum 3 rfl) (by decide) rfl ?_
  refine r_pick [1, 0] rfl ?_
  exact lX0_readSum_6 hlv hz1 hl1  C hR  fu _ ok h
def pX0_readSum_0 (F1 : OS → OS)  (σ : OS) : OS := pX0_readSum_4 F1  (F1 σ)
def oX0_readSum_0 (F1 : OS → OS) (G1 : OS → Prop)  (σ : OS) : Prop := (G1 σ ) ∧ (oX0_readSum_4 F1 G1  (F1 σ))
set_option maxHeartbeats 4000000 in
set_option maxRecDepth 100000 in
theorem wX0_readSum_0 {X : CX} {cy : Nat → ClassId} {q : Nat → Nat} {D : va_G} {A : Nat → Prop} {res : OS} {lv lv1 : Nat} {F1 : OS → OS} {G1 : OS → Prop} (hlv : 20 ≤ lv) (hz1 : ∀ σ : OS, G1 σ → Con yX0_readTerm cX0_readTerm 2 none lv1 0 0 D (gty cy) [.ref (q 11)] (wX0 cy q σ) (eV (wX0 cy q (F1 σ)))) (hl1 : lv1 + 1 ≤ lv)  (σ : OS) (C : Cx X cX0_readSum RX0 3 D (gty cy) A lv 0 0) (hR : Rt X none D (gty cy) A 0 0 (eV (wX0 cy q res)))  (ok : oX0_readSum_0 F1 G1  σ) (h : pX0_readSum_0 F1  σ = res) : At X D A 3 0 0 0 [(0, .ref (q 11))] [] (wX0 cy q σ) := by
  unfold pX0_readSum_0 at h
  unfold oX0_readSum_0 at ok
  refine r_aload_n C 0 (dall tdX0_readSum 0 rfl) rfl ?_
  obtain ⟨o7, ok⟩ := ok
  refine r_vV (as := []) C (hz1  σ  o7) mv_X0_readTerm km_X0_77 hl1 (by decide) ⟨Nat.le_refl _, Nat.le_refl _⟩ rfl rfl rfl rfl (Nat.le_of_ble_eq_true rfl) (dall tdX0_readSum 1 rfl) ?_
  exact wX0_readSum_4 hlv hz1 hl1 (F1 σ) C hR  ok h
def fX0_readSum (F1 : OS → OS) (σ : OS) : OS := pX0_readSum_0 F1  σ
def gX0_readSum (F1 : OS → OS) (G1 : OS → Prop) (σ : OS) : Prop := oX0_readSum_0 F1 G1  σ
set_option maxRecDepth 100000 in
theorem zX0_readSum (cy : Nat → ClassId) (q : Nat → Nat)  {lv lv1 : Nat} {F1 : OS → OS} {G1 : OS → Prop}  {D : va_G} (hlv : 20 ≤ lv) (hz1 : ∀ σ : OS, G1 σ → Con yX0_readTerm cX0_readTerm 2 none lv1 0 0 D (gty cy) [.ref (q 11)] (wX0 cy q σ) (eV (wX0 cy q (F1 σ)))) (hl1 : lv1 + 1 ≤ lv) (σ : OS) (ok : gX0_readSum F1 G1 σ )  : Con yX0_readSum cX0_readSum 3 none lv 0 0 D (gty cy) [.ref (q 11)] (wX0 cy q σ) (eV (wX0 cy q (fX0_readSum F1 σ ))) :=
  Con.of (own := RX0) (by decide +kernel) rfl (Nat.le_of_ble_eq_true rfl) (Nat.zero_le _) (fun X A C hR _ => (wX0_readSum_0 hlv hz1 hl1 σ C hR  ok rfl))
def tbX0_readNot : List (Nat × Instr × Nat) := [(0, .aload_n 0, 1), (1, .getfield 61, 3), (4, .iconst 5, 1), (5, .if_icmp .ne 31, 3), (8, .aload_n 0, 1), (9, .invokevirtual 70, 3), (12, .ifCond .eq 23, 3), (15, .aload_n 0, 1), (16, .invokevirtual 67, 3), (19, .aload_n 0, 1), (20, .dup, 1), (21, .getfield 31, 3), (24, .iconst 1, 1), (25, .isub, 1), (26, .putfield 31, 3), (29, .aload_n 0, 1), (30, .bipush (-6), 2), (32, .invokevirtual 64, 3), (35, .return_, 1), (36, .aload_n 0, 1), (37, .invokevirtual 74, 3), (40, .aload_n 0, 1), (41, .getfield 61, 3), (44, .bipush 18, 2), (46, .if_icmp .eq 12, 3), (49, .aload_n 0, 1), (50, .getfield 61, 3), (53, .bipush 19, 2), (55, .if_icmp .ne 23, 3), (58, .aload_n 0, 1), (59, .getfield 61, 3), (62, .istore_n 1, 1), (63, .aload_n 0, 1), (64, .invokevirtual 37, 3), (67, .aload_n 0, 1), (68, .invokevirtual 74, 3), (71, .aload_n 0, 1), (72, .iload_n 1, 1), (73, .iconst (-1), 1), (74, .ixor, 1), (75, .invokevirtual 64, 3), (78, .return_, 1)]
theorem tdX0_readNot : tbX0_readNot.all (fun q => decide (decode cX0_readNot q.1 = .ok q.2)) = true := by decide +kernel
def pX0_readNot_78 (F1 : OS → OS) (F2 : OS → OS)  (σ : OS) : OS := σ
set_option maxHeartbeats 4000000 in
set_option maxRecDepth 100000 in
theorem wX0_readNot_78 {X : CX} {cy : Nat → ClassId} {q : Nat → Nat} {D : va_G} {A : Nat → Prop} {res : OS} {lv lv1 lv2 : Nat} {F1 : OS → OS} {G1 : OS → Prop} {F2 : OS → OS} {G2 : OS → Prop} (hlv : 20 ≤ lv) (hz1 : ∀ σ : OS, G1 σ → Con yX0_readNot cX0_readNot 2 none lv1 0 0 D (gty cy) [.ref (q 11)] (wX0 cy q σ) (eV (wX0 cy q (F1 σ)))) (hl1 : lv1 + 1 ≤ lv) (hz2 : ∀ σ : OS, G2 σ → Con yX0_readSum cX0_readSum 3 none lv2 0 0 D (gty cy) [.ref (q 11)] (wX0 cy q σ) (eV (wX0 cy q (F2 σ)))) (hl2 : lv2 + 1 ≤ lv)  (σ : OS) (C : Cx X cX0_readNot RX0 2 D (gty cy) A lv 0 0) (hR : Rt X none D (gty cy) A 0 0 (eV (wX0 cy q res)))  (h : pX0_readNot_78 F1 F2  σ = res) : At X D A 2 0 0 78 [] [] (wX0 cy q σ) := by
  unfold pX0_readNot_78 at h
  exact r_vret C hR (dall tdX0_readNot 41 rfl) (by subst h; exact ⟨rfl, rfl⟩)
def pX0_readNot_71 (F1 : OS → OS) (F2 : OS → OS)  (σ : OS) (a1_ : Int32) : OS := pX0_readNot_78 F1 F2  (fX0_write σ (a1_ ^^^ (-1)))
def oX0_readNot_71 (F1 : OS → OS) (F2 : OS → OS) (G1 : OS → Prop) (G2 : OS → Prop)  (σ : OS) (a1_ : Int32) : Prop := gX0_write σ (a1_ ^^^ (-1))
set_option maxHeartbeats 4000000 in
set_option maxRecDepth 100000 in
theorem wX0_readNot_71 {X : CX} {cy : Nat → ClassId} {q : Nat → Nat} {D : va_G} {A : Nat → Prop} {res : OS} {lv lv1 lv2 : Nat} {F1 : OS → OS} {G1 : OS → Prop} {F2 : OS → OS} {G2 : OS → Prop} (hlv : 20 ≤ lv) (hz1 : ∀ σ : OS, G1 σ → Con yX0_readNot cX0_readNot 2 none lv1 0 0 D (gty cy) [.ref (q 11)] (wX0 cy q σ) (eV (wX0 cy q (F1 σ)))) (hl1 : lv1 + 1 ≤ lv) (hz2 : ∀ σ : OS, G2 σ → Con yX0_readSum cX0_readSum 3 none lv2 0 0 D (gty cy) [.ref (q 11)] (wX0 cy q σ) (eV (wX0 cy q (F2 σ)))) (hl2 : lv2 + 1 ≤ lv)  (σ : OS) (a1_ : Int32) (C : Cx X cX0_readNot RX0 2 D (gty cy) A lv 0 0) (hR : Rt X none D (gty cy) A 0 0 (eV (wX0 cy q res)))  (ok : oX0_readNot_71 F1 F2 G1 G2  σ a1_) (h : pX0_readNot_71 F1 F2  σ a1_ = res) : At X D A 2 0 0 71 [(0, .ref (q 11)), (1, .int a1_)] [] (wX0 cy q σ) := by
  unfold pX0_readNot_71 at h
  unfold oX0_readNot_71 at ok
  refine r_aload_n C 0 (dall tdX0_readNot 36 rfl) rfl ?_
  refine r_iload_n C 1 (dall tdX0_readNot 37 rfl) rfl ?_
  refine r_iconst (v := -1) C (dall tdX0_readNot 38 rfl) (by decide) ?_
  refine r_ixor C (dall tdX0_readNot 39 rfl) ?_
  have o1 := ok
  refine r_vV (as := [.int (a1_ ^^^ (-1))]) C (zX0_write cy q σ (a1_ ^^^ (-1)) o1) mv_X0_write km_X0_64 (by omega) (by decide) ⟨Nat.le_refl _, Nat.le_refl _⟩ rfl rfl rfl rfl (Nat.le_of_ble_eq_true rfl) (dall tdX0_readNot 40 rfl) ?_
  refine r_pick [] rfl ?_
  exact wX0_readNot_78 hlv hz1 hl1 hz2 hl2 (fX0_write σ (a1_ ^^^ (-1))) C hR  h
def pX0_readNot_67 (F1 : OS → OS) (F2 : OS → OS)  (σ : OS) (a1_ : Int32) : OS := pX0_readNot_71 F1 F2  (F2 σ) a1_
def oX0_readNot_67 (F1 : OS → OS) (F2 : OS → OS) (G1 : OS → Prop) (G2 : OS → Prop)  (σ : OS) (a1_ : Int32) : Prop := (G2 σ ) ∧ (oX0_readNot_71 F1 F2 G1 G2  (F2 σ) a1_)
set_option maxHeartbeats 4000000 in
set_option maxRecDepth 100000 in
theorem wX0_readNot_67 {X : CX} {cy : Nat → ClassId} {q : Nat → Nat} {D : va_G} {A : Nat → Prop} {res : OS} {lv lv1 lv2 : Nat} {F1 : OS → OS} {G1 : OS → Prop} {F2 : OS → OS} {G2 : OS → Prop} (hlv : 20 ≤ lv) (hz1 : ∀ σ : OS, G1 σ → Con yX0_readNot cX0_readNot 2 none lv1 0 0 D (gty cy) [.ref (q 11)] (wX0 cy q σ) (eV (wX0 cy q (F1 σ)))) (hl1 : lv1 + 1 ≤ lv) (hz2 : ∀ σ : OS, G2 σ → Con yX0_readSum cX0_readSum 3 none lv2 0 0 D (gty cy) [.ref (q 11)] (wX0 cy q σ) (eV (wX0 cy q (F2 σ)))) (hl2 : lv2 + 1 ≤ lv)  (σ : OS) (a1_ : Int32) (C : Cx X cX0_readNot RX0 2 D (gty cy) A lv 0 0) (hR : Rt X none D (gty cy) A 0 0 (eV (wX0 cy q res)))  (ok : oX0_readNot_67 F1 F2 G1 G2  σ a1_) (h : pX0_readNot_67 F1 F2  σ a1_ = res) : At X D A 2 0 0 67 [(0, .ref (q 11)), (1, .int a1_)] [] (wX0 cy q σ) := by
  unfold pX0_readNot_67 at h
  unfold oX0_readNot_67 at ok
  refine r_aload_n C 0 (dall tdX0_readNot 34 rfl) rfl ?_
  obtain ⟨o2, ok⟩ := ok
  refine r_vV (as := []) C (hz2  σ  o2) mv_X0_readSum km_X0_74 hl2 (by decide) ⟨Nat.le_refl _, Nat.le_refl _⟩ rfl rfl rfl rfl (Nat.le_of_ble_eq_true rfl) (dall tdX0_readNot 35 rfl) ?_
  exact wX0_readNot_71 hlv hz1 hl1 hz2 hl2 (F2 σ) a1_ C hR  ok h
def pX0_readNot_58 (F1 : OS → OS) (F2 : OS → OS)  (σ : OS) : OS := pX0_readNot_67 F1 F2  (fX0_step σ) (σ.1 6)
def oX0_readNot_58 (F1 : OS → OS) (F2 : OS → OS) (G1 : OS → Prop) (G2 : OS → Prop)  (σ : OS) : Prop := (gX0_step σ ) ∧ (oX0_readNot_67 F1 F2 G1 G2  (fX0_step σ) (σ.1 6))
set_option maxHeartbeats 4000000 in
set_option maxRecDepth 100000 in
theorem wX0_readNot_58 {X : CX} {cy : Nat → ClassId} {q : Nat → Nat} {D : va_G} {A : Nat → Prop} {res : OS} {lv lv1 lv2 : Nat} {F1 : OS → OS} {G1 : OS → Prop} {F2 : OS → OS} {G2 : OS → Prop} (hlv : 20 ≤ lv) (hz1 : ∀ σ : OS, G1 σ → Con yX0_readNot cX0_readNot 2 none lv1 0 0 D (gty cy) [.ref (q 11)] (wX0 cy q σ) (eV (wX0 cy q (F1 σ)))) (hl1 : lv1 + 1 ≤ lv) (hz2 : ∀ σ : OS, G2 σ → Con yX0_readSum cX0_readSum 3 none lv2 0 0 D (gty cy) [.ref (q 11)] (wX0 cy q σ) (eV (wX0 cy q (F2 σ)))) (hl2 : lv2 + 1 ≤ lv)  (σ : OS) (C : Cx X cX0_readNot RX0 2 D (gty cy) A lv 0 0) (hR : Rt X none D (gty cy) A 0 0 (eV (wX0 cy q res)))  (ok : oX0_readNot_58 F1 F2 G1 G2  σ) (h : pX0_readNot_58 F1 F2  σ = res) : At X D A 2 0 0 58 [(0, .ref (q 11))] [] (wX0 cy q σ) := by
  unfold pX0_readNot_58 at h
  unfold oX0_readNot_58 at ok
  refine r_aload_n C 0 (dall tdX0_readNot 29 rfl) rfl ?_
  refine r_get C 0 kw_X0 rfl rfl (by decide) kf_X0_61 rfl rfl (dall tdX0_readNot 30 rfl) ?_
  refine r_istore_n (lv' := [(1, .int (σ.1 6)), (0, .ref (q 11))]) C (dall tdX0_readNot 31 rfl) (by decide) rfl ?_
  refine r_aload_n C 1 (dall tdX0_readNot 32 rfl) rfl ?_
  obtain ⟨o3, ok⟩ := ok
  refine r_vV (as := []) C (zX0_step cy q σ  o3) mv_X0_step km_X0_37 (by omega) (by decide) ⟨Nat.le_refl _, Nat.le_refl _⟩ rfl rfl rfl rfl (Nat.le_of_ble_eq_true rfl) (dall tdX0_readNot 33 rfl) ?_
  refine r_pick [1, 0] rfl ?_
  exact wX0_readNot_67 hlv hz1 hl1 hz2 hl2 (fX0_step σ) (σ.1 6) C hR  ok h
def pX0_readNot_40 (F1 : OS → OS) (F2 : OS → OS)  (σ : OS) : OS := if (σ.1 6) = 18 then pX0_readNot_58 F1 F2  σ else if (σ.1 6) = 19 then pX0_readNot_58 F1 F2  σ else pX0_readNot_78 F1 F2  σ
def oX0_readNot_40 (F1 : OS → OS) (F2 : OS → OS) (G1 : OS → Prop) (G2 : OS → Prop)  (σ : OS) : Prop := ((σ.1 6) = 18 → oX0_readNot_58 F1 F2 G1 G2  σ) ∧ (¬ ((σ.1 6) = 18) → ((σ.1 6) = 19 → oX0_readNot_58 F1 F2 G1 G2  σ) ∧ (¬ ((σ.1 6) = 19) → True))
set_option maxHeartbeats 4000000 in
set_option maxRecDepth 100000 in
theorem wX0_readNot_40 {X : CX} {cy : Nat → ClassId} {q : Nat → Nat} {D : va_G} {A : Nat → Prop} {res : OS} {lv lv1 lv2 : Nat} {F1 : OS → OS} {G1 : OS → Prop} {F2 : OS → OS} {G2 : OS → Prop} (hlv : 20 ≤ lv) (hz1 : ∀ σ : OS, G1 σ → Con yX0_readNot cX0_readNot 2 none lv1 0 0 D (gty cy) [.ref (q 11)] (wX0 cy q σ) (eV (wX0 cy q (F1 σ)))) (hl1 : lv1 + 1 ≤ lv) (hz2 : ∀ σ : OS, G2 σ → Con yX0_readSum cX0_readSum 3 none lv2 0 0 D (gty cy) [.ref (q 11)] (wX0 cy q σ) (eV (wX0 cy q (F2 σ)))) (hl2 : lv2 + 1 ≤ lv)  (σ : OS) (C : Cx X cX0_readNot RX0 2 D (gty cy) A lv 0 0) (hR : Rt X none D (gty cy) A 0 0 (eV (wX0 cy q res)))  (ok : oX0_readNot_40 F1 F2 G1 G2  σ) (h : pX0_readNot_40 F1 F2  σ = res) : At X D A 2 0 0 40 [(0, .ref (q 11))] [] (wX0 cy q σ) := by
  unfold pX0_readNot_40 at h
  unfold oX0_readNot_40 at ok
  refine r_aload_n C 0 (dall tdX0_readNot 21 rfl) rfl ?_
  refine r_get C 0 kw_X0 rfl rfl (by decide) kf_X0_61 rfl rfl (dall tdX0_readNot 22 rfl) ?_
  refine r_bipush (v := 18) C (dall tdX0_readNot 23 rfl) (by decide) ?_
  refine r_icmp_eq (tgt := 58) C (dall tdX0_readNot 24 rfl) (by decide) (fun c4 => ?_) (fun c4 => ?_)
  · have h := (if_pos c4).symm.trans h
    have ok := ok.1 c4
    exact wX0_readNot_58 hlv hz1 hl1 hz2 hl2 σ C hR  ok h
  · have h := (if_neg c4).symm.trans h
    have ok := ok.2 c4
    refine r_aload_n C 0 (dall tdX0_readNot 25 rfl) rfl ?_
    refine r_get C 0 kw_X0 rfl rfl (by decide) kf_X0_61 rfl rfl (dall tdX0_readNot 26 rfl) ?_
    refine r_bipush (v := 19) C (dall tdX0_readNot 27 rfl) (by decide) ?_
    refine r_icmp_ne (tgt := 78) C (dall tdX0_readNot 28 rfl) (by decide) (fun c5 => ?_) (fun c5 => ?_)
    · have h := (if_neg c5).symm.trans h
      have ok := ok.2 c5
      refine r_pick [] rfl ?_
      exact wX0_readNot_78 hlv hz1 hl1 hz2 hl2 σ C hR  h
    · have h := (if_pos c5).symm.trans h
      have ok := ok.1 c5
      exact wX0_readNot_58 hlv hz1 hl1 hz2 hl2 σ C hR  ok h
def pX0_readNot_35 (F1 : OS → OS) (F2 : OS → OS)  (σ : OS) : OS := σ
set_option maxHeartbeats 4000000 in
set_option maxRecDepth 100000 in
theorem wX0_readNot_35 {X : CX} {cy : Nat → ClassId} {q : Nat → Nat} {D : va_G} {A : Nat → Prop} {res : OS} {lv lv1 lv2 : Nat} {F1 : OS → OS} {G1 : OS → Prop} {F2 : OS → OS} {G2 : OS → Prop} (hlv : 20 ≤ lv) (hz1 : ∀ σ : OS, G1 σ → Con yX0_readNot cX0_readNot 2 none lv1 0 0 D (gty cy) [.ref (q 11)] (wX0 cy q σ) (eV (wX0 cy q (F1 σ)))) (hl1 : lv1 + 1 ≤ lv) (hz2 : ∀ σ : OS, G2 σ → Con yX0_readSum cX0_readSum 3 none lv2 0 0 D (gty cy) [.ref (q 11)] (wX0 cy q σ) (eV (wX0 cy q (F2 σ)))) (hl2 : lv2 + 1 ≤ lv)  (σ : OS) (C : Cx X cX0_readNot RX0 2 D (gty cy) A lv 0 0) (hR : Rt X none D (gty cy) A 0 0 (eV (wX0 cy q res)))  (h : pX0_readNot_35 F1 F2  σ = res) : At X D A 2 0 0 35 [] [] (wX0 cy q σ) := by
  unfold pX0_readNot_35 at h
  exact r_vret C hR (dall tdX0_readNot 18 rfl) (by subst h; exact ⟨rfl, rfl⟩)
def pX0_readNot_19 (F1 : OS → OS) (F2 : OS → OS)  (σ : OS) : OS := pX0_readNot_35 F1 F2  (fX0_write (oI σ 9 ((σ.1 9) - 1)) (-6))
def oX0_readNot_19 (F1 : OS → OS) (F2 : OS → OS) (G1 : OS → Prop) (G2 : OS → Prop)  (σ : OS) : Prop := gX0_write (oI σ 9 ((σ.1 9) - 1)) (-6)
set_option maxHeartbeats 4000000 in
set_option maxRecDepth 100000 in
theorem wX0_readNot_19 {X : CX} {cy : Nat → ClassId} {q : Nat → Nat} {D : va_G} {A : Nat → Prop} {res : OS} {lv lv1 lv2 : Nat} {F1 : OS → OS} {G1 : OS → Prop} {F2 : OS → OS} {G2 : OS → Prop} (hlv : 20 ≤ lv) (hz1 : ∀ σ : OS, G1 σ → Con yX0_readNot cX0_readNot 2 none lv1 0 0 D (gty cy) [.ref (q 11)] (wX0 cy q σ) (eV (wX0 cy q (F1 σ)))) (hl1 : lv1 + 1 ≤ lv) (hz2 : ∀ σ : OS, G2 σ → Con yX0_readSum cX0_readSum 3 none lv2 0 0 D (gty cy) [.ref (q 11)] (wX0 cy q σ) (eV (wX0 cy q (F2 σ)))) (hl2 : lv2 + 1 ≤ lv)  (σ : OS) (C : Cx X cX0_readNot RX0 2 D (gty cy) A lv 0 0) (hR : Rt X none D (gty cy) A 0 0 (eV (wX0 cy q res)))  (ok : oX0_readNot_19 F1 F2 G1 G2  σ) (h : pX0_readNot_19 F1 F2  σ = res) : At X D A 2 0 0 19 [(0, .ref (q 11))] [] (wX0 cy q σ) := by
  unfold pX0_readNot_19 at h
  unfold oX0_readNot_19 at ok
  refine r_aload_n C 0 (dall tdX0_readNot 9 rfl) rfl ?_
  refine r_dup C (dall tdX0_readNot 10 rfl) rfl ?_
  refine r_get C 0 kw_X0 rfl rfl (by decide) kf_X0_31 rfl rfl (dall tdX0_readNot 11 rfl) ?_
  refine r_iconst (v := 1) C (dall tdX0_readNot 12 rfl) (by decide) ?_
  refine r_isub C (dall tdX0_readNot 13 rfl) ?_
  refine r_put C 0 kw_X0 tyX0_ok nmX0 rfl rfl (by decide) kf_X0_31 rfl rfl rfl rfl rfl (Nat.le_of_ble_eq_true rfl) (pu_X0_this_9 cy q σ ((σ.1 9) - 1)) (dall tdX0_readNot 14 rfl) ?_
  refine r_aload_n C 0 (dall tdX0_readNot 15 rfl) rfl ?_
  refine r_bipush (v := -6) C (dall tdX0_readNot 16 rfl) (by decide) ?_
  have o6 := ok
  refine r_vV (as := [.int (-6)]) C (zX0_write cy q (oI σ 9 ((σ.1 9) - 1)) (-6) o6) mv_X0_write km_X0_64 (by omega) (by decide) ⟨Nat.le_refl _, Nat.le_refl _⟩ rfl rfl rfl rfl (Nat.le_of_ble_eq_true rfl) (dall tdX0_readNot 17 rfl) ?_
  refine r_pick [] rfl ?_
  exact wX0_readNot_35 hlv hz1 hl1 hz2 hl2 (fX0_write (oI σ 9 ((σ.1 9) - 1)) (-6)) C hR  h
def pX0_readNot_12 (F1 : OS → OS) (F2 : OS → OS)  (σ : OS) (b0_ : Int32) : OS := if b0_ = 0 then pX0_readNot_35 F1 F2  σ else pX0_readNot_19 F1 F2  (F1 σ)
def oX0_readNot_12 (F1 : OS → OS) (F2 : OS → OS) (G1 : OS → Prop) (G2 : OS → Prop)  (σ : OS) (b0_ : Int32) : Prop := (b0_ = 0 → True) ∧ (¬ (b0_ = 0) → (G1 σ ) ∧ (oX0_readNot_19 F1 F2 G1 G2  (F1 σ)))
set_option maxHeartbeats 4000000 in
set_option maxRecDepth 100000 in
theorem wX0_readNot_12 {X : CX} {cy : Nat → ClassId} {q : Nat → Nat} {D : va_G} {A : Nat → Prop} {res : OS} {lv lv1 lv2 : Nat} {F1 : OS → OS} {G1 : OS → Prop} {F2 : OS → OS} {G2 : OS → Prop} (hlv : 20 ≤ lv) (hz1 : ∀ σ : OS, G1 σ → Con yX0_readNot cX0_readNot 2 none lv1 0 0 D (gty cy) [.ref (q 11)] (wX0 cy q σ) (eV (wX0 cy q (F1 σ)))) (hl1 : lv1 + 1 ≤ lv) (hz2 : ∀ σ : OS, G2 σ → Con yX0_readSum cX0_readSum 3 none lv2 0 0 D (gty cy) [.ref (q 11)] (wX0 cy q σ) (eV (wX0 cy q (F2 σ)))) (hl2 : lv2 + 1 ≤ lv)  (σ : OS) (b0_ : Int32) (C : Cx X cX0_readNot RX0 2 D (gty cy) A lv 0 0) (hR : Rt X none D (gty cy) A 0 0 (eV (wX0 cy q res)))  (ok : oX0_readNot_12 F1 F2 G1 G2  σ b0_) (h : pX0_readNot_12 F1 F2  σ b0_ = res) : At X D A 2 0 0 12 [(0, .ref (q 11))] [.int b0_] (wX0 cy q σ) := by
  unfold pX0_readNot_12 at h
  unfold oX0_readNot_12 at ok
  refine r_if_eq (tgt := 35) C (dall tdX0_readNot 6 rfl) (by decide) (fun c7 => ?_) (fun c7 => ?_)
  · have h := (if_pos c7).symm.trans h
    have ok := ok.1 c7
    refine r_pick [] rfl ?_
    exact wX0_readNot_35 hlv hz1 hl1 hz2 hl2 σ C hR  h
  · have h := (if_neg c7).symm.trans h
    have ok := ok.2 c7
    refine r_aload_n C 0 (dall tdX0_readNot 7 rfl) rfl ?_
    obtain ⟨o8, ok⟩ := ok
    refine r_vV (as := []) C (hz1  σ  o8) mv_X0_readNot km_X0_67 hl1 (by decide) ⟨Nat.le_refl _, Nat.le_refl _⟩ rfl rfl rfl rfl (Nat.le_of_ble_eq_true rfl) (dall tdX0_readNot 8 rfl) ?_
    exact wX0_readNot_19 hlv hz1 hl1 hz2 hl2 (F1 σ) C hR  ok h
def pX0_readNot_0 (F1 : OS → OS) (F2 : OS → OS)  (σ : OS) : OS := if (σ.1 6) = 5 then pX0_readNot_12 F1 F2  ((fX0_opens σ ).2) ((fX0_opens σ ).1) else pX0_readNot_40 F1 F2  (F2 σ)
def oX0_readNot_0 (F1 : OS → OS) (F2 : OS → OS) (G1 : OS → Prop) (G2 : OS → Prop)  (σ : OS) : Prop := ((σ.1 6) = 5 → (gX0_opens σ ) ∧ (oX0_readNot_12 F1 F2 G1 G2  ((fX0_opens σ ).2) ((fX0_opens σ ).1))) ∧ (¬ ((σ.1 6) = 5) → (G2 σ ) ∧ (oX0_readNot_40 F1 F2 G1 G2  (F2 σ)))
set_option maxHeartbeats 4000000 in
set_option maxRecDepth 100000 in
theorem wX0_readNot_0 {X : CX} {cy : Nat → ClassId} {q : Nat → Nat} {D : va_G} {A : Nat → Prop} {res : OS} {lv lv1 lv2 : Nat} {F1 : OS → OS} {G1 : OS → Prop} {F2 : OS → OS} {G2 : OS → Prop} (hlv : 20 ≤ lv) (hz1 : ∀ σ : OS, G1 σ → Con yX0_readNot cX0_readNot 2 none lv1 0 0 D (gty cy) [.ref (q 11)] (wX0 cy q σ) (eV (wX0 cy q (F1 σ)))) (hl1 : lv1 + 1 ≤ lv) (hz2 : ∀ σ : OS, G2 σ → Con yX0_readSum cX0_readSum 3 none lv2 0 0 D (gty cy) [.ref (q 11)] (wX0 cy q σ) (eV (wX0 cy q (F2 σ)))) (hl2 : lv2 + 1 ≤ lv)  (σ : OS) (C : Cx X cX0_readNot RX0 2 D (gty cy) A lv 0 0) (hR : Rt X none D (gty cy) A 0 0 (eV (wX0 cy q res)))  (ok : oX0_readNot_0 F1 F2 G1 G2  σ) (h : pX0_readNot_0 F1 F2  σ = res) : At X D A 2 0 0 0 [(0, .ref (q 11))] [] (wX0 cy q σ) := by
  unfold pX0_readNot_0 at h
  unfold oX0_readNot_0 at ok
  refine r_aload_n C 0 (dall tdX0_readNot 0 rfl) rfl ?_
  refine r_get C 0 kw_X0 rfl rfl (by decide) kf_X0_61 rfl rfl (dall tdX0_readNot 1 rfl) ?_
  refine r_iconst (v := 5) C (dall tdX0_readNot 2 rfl) (by decide) ?_
  refine r_icmp_ne (tgt := 36) C (dall tdX0_readNot 3 rfl) (by decide) (fun c9 => ?_) (fun c9 => ?_)
  · have h := (if_neg c9).symm.trans h
    have ok := ok.2 c9
    refine r_aload_n C 0 (dall tdX0_readNot 19 rfl) rfl ?_
    obtain ⟨o10, ok⟩ := ok
    refine r_vV (as := []) C (hz2  σ  o10) mv_X0_readSum km_X0_74 hl2 (by decide) ⟨Nat.le_refl _, Nat.le_refl _⟩ rfl rfl rfl rfl (Nat.le_of_ble_eq_true rfl) (dall tdX0_readNot 20 rfl) ?_
    exact wX0_readNot_40 hlv hz1 hl1 hz2 hl2 (F2 σ) C hR  ok h
  · have h := (if_pos c9).symm.trans h
    have ok := ok.1 c9
    refine r_aload_n C 0 (dall tdX0_readNot 4 rfl) rfl ?_
    obtain ⟨o11, ok⟩ := ok
    refine r_vI (as := []) C (zX0_opens cy q σ  o11) mv_X0_opens km_X0_70 (by omega) (by decide) ⟨Nat.le_refl _, Nat.le_refl _⟩ rfl rfl rfl rfl (Nat.le_of_ble_eq_true rfl) (dall tdX0_readNot 5 rfl) ?_
    exact wX0_readNot_12 hlv hz1 hl1 hz2 hl2 ((fX0_opens σ ).2) ((fX0_opens σ ).1) C hR  ok h
def fX0_readNot (F1 : OS → OS) (F2 : OS → OS) (σ : OS) : OS := pX0_readNot_0 F1 F2  σ
def gX0_readNot (F1 : OS → OS) (F2 : OS → OS) (G1 : OS → Prop) (G2 : OS → Prop) (σ : OS) : Prop := oX0_readNot_0 F1 F2 G1 G2  σ
set_option maxRecDepth 100000 in
theorem zX0_readNot (cy : Nat → ClassId) (q : Nat → Nat)  {lv lv1 lv2 : Nat} {F1 : OS → OS} {G1 : OS → Prop} {F2 : OS → OS} {G2 : OS → Prop}  {D : va_G} (hlv : 20 ≤ lv) (hz1 : ∀ σ : OS, G1 σ → Con yX0_readNot cX0_readNot 2 none lv1 0 0 D (gty cy) [.ref (q 11)] (wX0 cy q σ) (eV (wX0 cy q (F1 σ)))) (hl1 : lv1 + 1 ≤ lv) (hz2 : ∀ σ : OS, G2 σ → Con yX0_readSum cX0_readSum 3 none lv2 0 0 D (gty cy) [.ref (q 11)] (wX0 cy q σ) (eV (wX0 cy q (F2 σ)))) (hl2 : lv2 + 1 ≤ lv) (σ : OS) (ok : gX0_readNot F1 F2 G1 G2 σ )  : Con yX0_readNot cX0_readNot 2 none lv 0 0 D (gty cy) [.ref (q 11)] (wX0 cy q σ) (eV (wX0 cy q (fX0_readNot F1 F2 σ ))) :=
  Con.of (own := RX0) (by decide +kernel) rfl (Nat.le_of_ble_eq_true rfl) (Nat.zero_le _) (fun X A C hR _ => (wX0_readNot_0 hlv hz1 hl1 hz2 hl2 σ C hR  ok rfl))
def tbX0_readBoth : List (Nat × Instr × Nat) := [(0, .aload_n 0, 1), (1, .invokevirtual 67, 3), (4, .iconst 0, 1), (5, .istore_n 1, 1), (6, .iload_n 1, 1), (7, .sipush 160, 3), (10, .if_icmp .ge 31, 3), (13, .aload_n 0, 1), (14, .getfield 61, 3), (17, .iconst 4, 1), (18, .if_icmp .ne 23, 3), (21, .aload_n 0, 1), (22, .invokevirtual 37, 3), (25, .aload_n 0, 1), (26, .invokevirtual 67, 3), (29, .aload_n 0, 1), (30, .bipush (-5), 2), (32, .invokevirtual 64, 3), (35, .iinc 1 1, 3), (38, .goto (-32), 3), (41, .return_, 1)]
theorem tdX0_readBoth : tbX0_readBoth.all (fun q => decide (decode cX0_readBoth q.1 = .ok q.2)) = true := by decide +kernel
def pX0_readBoth_35 (F1 : OS → OS) (kR6 : OS × Int32 → OS) (σ : OS) (a1_ : Int32) : OS := kR6 (σ, a1_ + 1)
def oX0_readBoth_35 (F1 : OS → OS) (G1 : OS → Prop) (kO6 : OS × Int32 → Prop) (σ : OS) (a1_ : Int32) : Prop := kO6 (σ, a1_ + 1)
set_option maxHeartbeats 4000000 in
set_option maxRecDepth 100000 in
theorem wX0_readBoth_35 {X : CX} {cy : Nat → ClassId} {q : Nat → Nat} {D : va_G} {A : Nat → Prop} {res : OS} {lv lv1 : Nat} {F1 : OS → OS} {G1 : OS → Prop} (hlv : 20 ≤ lv) (hz1 : ∀ σ : OS, G1 σ → Con yX0_readNot cX0_readNot 2 none lv1 0 0 D (gty cy) [.ref (q 11)] (wX0 cy q σ) (eV (wX0 cy q (F1 σ)))) (hl1 : lv1 + 1 ≤ lv)  (σ : OS) (a1_ : Int32) (C : Cx X cX0_readBoth RX0 2 D (gty cy) A lv 0 0) (hR : Rt X none D (gty cy) A 0 0 (eV (wX0 cy q res))) (kR6 : OS × Int32 → OS) (kO6 : OS × Int32 → Prop) (hk6 : ∀ z, kO6 z → kR6 z = res → At X D A 2 0 0 6 [(0, .ref (q 11)), (1, .int z.2)] [] (wX0 cy q z.1)) (ok : oX0_readBoth_35 F1 G1 kO6 σ a1_) (h : pX0_readBoth_35 F1 kR6 σ a1_ = res) : At X D A 2 0 0 35 [(0, .ref (q 11)), (1, .int a1_)] [] (wX0 cy q σ) := by
  unfold pX0_readBoth_35 at h
  unfold oX0_readBoth_35 at ok
  refine r_iinc (v := a1_ + 1) (lv' := [(1, .int (a1_ + 1)), (0, .ref (q 11))]) C 1 (dall tdX0_readBoth 18 rfl) rfl rfl (by decide) rfl ?_
  refine r_goto (tgt := 6) C (dall tdX0_readBoth 19 rfl) (by decide) ?_
  refine r_pick [1, 0] rfl ?_
  exact hk6 (σ, a1_ + 1) ok h
def pX0_readBoth_29 (F1 : OS → OS) (kR6 : OS × Int32 → OS) (σ : OS) (a1_ : Int32) : OS := pX0_readBoth_35 F1 kR6 (fX0_write σ (-5)) a1_
def oX0_readBoth_29 (F1 : OS → OS) (G1 : OS → Prop) (kO6 : OS × Int32 → Prop) (σ : OS) (a1_ : Int32) : Prop := (gX0_write σ (-5)) ∧ (oX0_readBoth_35 F1 G1 kO6 (fX0_write σ (-5)) a1_)
set_option maxHeartbeats 4000000 in
set_option maxRecDepth 100000 in
theorem wX0_readBoth_29 {X : CX} {cy : Nat → ClassId} {q : Nat → Nat} {D : va_G} {A : Nat → Prop} {res : OS} {lv lv1 : Nat} {F1 : OS → OS} {G1 : OS → Prop} (hlv : 20 ≤ lv) (hz1 : ∀ σ : OS, G1 σ → Con yX0_readNot cX0_readNot 2 none lv1 0 0 D (gty cy) [.ref (q 11)] (wX0 cy q σ) (eV (wX0 cy q (F1 σ)))) (hl1 : lv1 + 1 ≤ lv)  (σ : OS) (a1_ : Int32) (C : Cx X cX0_readBoth RX0 2 D (gty cy) A lv 0 0) (hR : Rt X none D (gty cy) A 0 0 (eV (wX0 cy q res))) (kR6 : OS × Int32 → OS) (kO6 : OS × Int32 → Prop) (hk6 : ∀ z, kO6 z → kR6 z = res → At X D A 2 0 0 6 [(0, .ref (q 11)), (1, .int z.2)] [] (wX0 cy q z.1)) (ok : oX0_readBoth_29 F1 G1 kO6 σ a1_) (h : pX0_readBoth_29 F1 kR6 σ a1_ = res) : At X D A 2 0 0 29 [(0, .ref (q 11)), (1, .int a1_)] [] (wX0 cy q σ) := by
  unfold pX0_readBoth_29 at h
  unfold oX0_readBoth_29 at ok
  refine r_aload_n C 0 (dall tdX0_readBoth 15 rfl) rfl ?_
  refine r_bipush (v := -5) C (dall tdX0_readBoth 16 rfl) (by decide) ?_
  obtain ⟨o1, ok⟩ := ok
  refine r_vV (as := [.int (-5)]) C (zX0_write cy q σ (-5) o1) mv_X0_write km_X0_64 (by omega) (by decide) ⟨Nat.le_refl _, Nat.le_refl _⟩ rfl rfl rfl rfl (Nat.le_of_ble_eq_true rfl) (dall tdX0_readBoth 17 rfl) ?_
  exact wX0_readBoth_35 hlv hz1 hl1 (fX0_write σ (-5)) a1_ C hR kR6 kO6 hk6 ok h
def pX0_readBoth_25 (F1 : OS → OS) (kR6 : OS × Int32 → OS) (σ : OS) (a1_ : Int32) : OS := pX0_readBoth_29 F1 kR6 (F1 σ) a1_
def oX0_readBoth_25 (F1 : OS → OS) (G1 : OS → Prop) (kO6 : OS × Int32 → Prop) (σ : OS) (a1_ : Int32) : Prop := (G1 σ ) ∧ (oX0_readBoth_29 F1 G1 kO6 (F1 σ) a1_)
set_option maxHeartbeats 4000000 in
set_option maxRecDepth 100000 in
theorem wX0_readBoth_25 {X : CX} {cy : Nat → ClassId} {q : Nat → Nat} {D : va_G} {A : Nat → Prop} {res : OS} {lv lv1 : Nat} {F1 : OS → OS} {G1 : OS → Prop} (hlv : 20 ≤ lv) (hz1 : ∀ σ : OS, G1 σ → Con yX0_readNot cX0_readNot 2 none lv1 0 0 D (gty cy) [.ref (q 11)] (wX0 cy q σ) (eV (wX0 cy q (F1 σ)))) (hl1 : lv1 + 1 ≤ lv)  (σ : OS) (a1_ : Int32) (C : Cx X cX0_readBoth RX0 2 D (gty cy) A lv 0 0) (hR : Rt X none D (gty cy) A 0 0 (eV (wX0 cy q res))) (kR6 : OS × Int32 → OS) (kO6 : OS × Int32 → Prop) (hk6 : ∀ z, kO6 z → kR6 z = res → At X D A 2 0 0 6 [(0, .ref (q 11)), (1, .int z.2)] [] (wX0 cy q z.1)) (ok : oX0_readBoth_25 F1 G1 kO6 σ a1_) (h : pX0_readBoth_25 F1 kR6 σ a1_ = res) : At X D A 2 0 0 25 [(0, .ref (q 11)), (1, .int a1_)] [] (wX0 cy q σ) := by
  unfold pX0_readBoth_25 at h
  unfold oX0_readBoth_25 at ok
  refine r_aload_n C 0 (dall tdX0_readBoth 13 rfl) rfl ?_
  obtain ⟨o2, ok⟩ := ok
  refine r_vV (as := []) C (hz1  σ  o2) mv_X0_readNot km_X0_67 hl1 (by decide) ⟨Nat.le_refl _, Nat.le_refl _⟩ rfl rfl rfl rfl (Nat.le_of_ble_eq_true rfl) (dall tdX0_readBoth 14 rfl) ?_
  exact wX0_readBoth_29 hlv hz1 hl1 (F1 σ) a1_ C hR kR6 kO6 hk6 ok h
def bX0_readBoth_6 (F1 : OS → OS)   (kR6 : OS × Int32 → OS) (v : OS × Int32) : OS := if 160 ≤ v.2 then v.1 else if (v.1.1 6) = 4 then pX0_readBoth_25 F1 kR6 (fX0_step v.1) v.2 else v.1
def kX0_readBoth_6 (F1 : OS → OS) (G1 : OS → Prop)   (kO6 : OS × Int32 → Prop) (v : OS × Int32) : Prop := (160 ≤ v.2 → True) ∧ (¬ (160 ≤ v.2) → ((v.1.1 6) = 4 → (gX0_step v.1 ) ∧ (oX0_readBoth_25 F1 G1 kO6 (fX0_step v.1) v.2)) ∧ (¬ ((v.1.1 6) = 4) → True))
set_option maxHeartbeats 4000000 in
set_option maxRecDepth 100000 in
theorem wX0_readBoth_6 {X : CX} {cy : Nat → ClassId} {q : Nat → Nat} {D : va_G} {A : Nat → Prop} {res : OS} {lv lv1 : Nat} {F1 : OS → OS} {G1 : OS → Prop} (hlv : 20 ≤ lv) (hz1 : ∀ σ : OS, G1 σ → Con yX0_readNot cX0_readNot 2 none lv1 0 0 D (gty cy) [.ref (q 11)] (wX0 cy q σ) (eV (wX0 cy q (F1 σ)))) (hl1 : lv1 + 1 ≤ lv)   (C : Cx X cX0_readBoth RX0 2 D (gty cy) A lv 0 0) (hR : Rt X none D (gty cy) A 0 0 (eV (wX0 cy q res))) (kR6 : OS × Int32 → OS) (kO6 : OS × Int32 → Prop) (hk6 : ∀ z, kO6 z → kR6 z = res → At X D A 2 0 0 6 [(0, .ref (q 11)), (1, .int z.2)] [] (wX0 cy q z.1)) (v : OS × Int32) (ok : kX0_readBoth_6 F1 G1  kO6 v) (h : bX0_readBoth_6 F1  kR6 v = res) : At X D A 2 0 0 6 [(0, .ref (q 11)), (1, .int v.2)] [] (wX0 cy q v.1) := by
  unfold bX0_readBoth_6 at h
  unfold kX0_readBoth_6 at ok
  refine r_iload_n C 1 (dall tdX0_readBoth 4 rfl) rfl ?_
  refine r_sipush (v := 160) C (dall tdX0_readBoth 5 rfl) (by decide) ?_
  refine r_icmp_ge (tgt := 41) C (dall tdX0_readBoth 6 rfl) (by decide) (fun c3 => ?_) (fun c3 => ?_)
  · have h := (if_pos c3).symm.trans h
    have ok := ok.1 c3
    exact r_vret C hR (dall tdX0_readBoth 20 rfl) (by subst h; exact ⟨rfl, rfl⟩)
  · have h := (if_neg c3).symm.trans h
    have ok := ok.2 c3
    refine r_aload_n C 0 (dall tdX0_readBoth 7 rfl) rfl ?_
    refine r_get C 0 kw_X0 rfl rfl (by decide) kf_X0_61 rfl rfl (dall tdX0_readBoth 8 rfl) ?_
    refine r_iconst (v := 4) C (dall tdX0_readBoth 9 rfl) (by decide) ?_
    refine r_icmp_ne (tgt := 41) C (dall tdX0_readBoth 10 rfl) (by decide) (fun c4 => ?_) (fun c4 => ?_)
    · have h := (if_neg c4).symm.trans h
      have ok := ok.2 c4
      exact r_vret C hR (dall tdX0_readBoth 20 rfl) (by subst h; exact ⟨rfl, rfl⟩)
    · have h := (if_pos c4).symm.trans h
      have ok := ok.1 c4
      refine r_aload_n C 0 (dall tdX0_readBoth 11 rfl) rfl ?_
      obtain ⟨o5, ok⟩ := ok
      refine r_vV (as := []) C (zX0_step cy q v.1  o5) mv_X0_step km_X0_37 (by omega) (by decide) ⟨Nat.le_refl _, Nat.le_refl _⟩ rfl rfl rfl rfl (Nat.le_of_ble_eq_true rfl) (dall tdX0_readBoth 12 rfl) ?_
      exact wX0_readBoth_25 hlv hz1 hl1 (fX0_step v.1) v.2 C hR kR6 kO6 hk6 ok h
set_option maxHeartbeats 4000000 in
set_option maxRecDepth 100000 in
theorem lX0_readBoth_6 {X : CX} {cy : Nat → ClassId} {q : Nat → Nat} {D : va_G} {A : Nat → Prop} {res : OS} {lv lv1 : Nat} {F1 : OS → OS} {G1 : OS → Prop} (hlv : 20 ≤ lv) (hz1 : ∀ σ : OS, G1 σ → Con yX0_readNot cX0_readNot 2 none lv1 0 0 D (gty cy) [.ref (q 11)] (wX0 cy q σ) (eV (wX0 cy q (F1 σ)))) (hl1 : lv1 + 1 ≤ lv)   (C : Cx X cX0_readBoth RX0 2 D (gty cy) A lv 0 0) (hR : Rt X none D (gty cy) A 0 0 (eV (wX0 cy q res)))  (n : Nat) (v : OS × Int32) (ok : lpOk (kX0_readBoth_6 F1 G1  ) n v) (h : lp o0 (bX0_readBoth_6 F1  ) n v = res) : At X D A 2 0 0 6 [(0, .ref (q 11)), (1, .int v.2)] [] (wX0 cy q v.1) :=
  lp_rule (fun v rr_ => rr_ = res → At X D A 2 0 0 6 [(0, .ref (q 11)), (1, .int v.2)] [] (wX0 cy q v.1)) (fun kR kO hk v ok h => wX0_readBoth_6 hlv hz1 hl1  C hR  kR kO hk v ok h) n v ok h
def pX0_readBoth_4 (F1 : OS → OS)  (σ : OS) : OS := lp o0 (bX0_readBoth_6 F1  ) fu (σ, 0)
def oX0_readBoth_4 (F1 : OS → OS) (G1 : OS → Prop)  (σ : OS) : Prop := lpOk (kX0_readBoth_6 F1 G1  ) fu (σ, 0)
set_option maxHeartbeats 4000000 in
set_option maxRecDepth 100000 in
theorem wX0_readBoth_4 {X : CX} {cy : Nat → ClassId} {q : Nat → Nat} {D : va_G} {A : Nat → Prop} {res : OS} {lv lv1 : Nat} {F1 : OS → OS} {G1 : OS → Prop} (hlv : 20 ≤ lv) (hz1 : ∀ σ : OS, G1 σ → Con yX0_readNot cX0_readNot 2 none lv1 0 0 D (gty cy) [.ref (q 11)] (wX0 cy q σ) (eV (wX0 cy q (F1 σ)))) (hl1 : lv1 + 1 ≤ lv)  (σ : OS) (C : Cx X cX0_readBoth RX0 2 D (gty cy) A lv 0 0) (hR : Rt X none D (gty cy) A 0 0 (eV (wX0 cy q res)))  (ok : oX0_readBoth_4 F1 G1  σ) (h : pX0_readBoth_4 F1  σ = res) : At X D A 2 0 0 4 [(0, .ref (q 11))] [] (wX0 cy q σ) := by
  unfold pX0_readBoth_4 at h
  unfold oX0_readBoth_4 at ok
  refine r_iconst (v := 0) C (dall tdX0_readBoth 2 rfl) (by decide) ?_
  refine r_istore_n (lv' := [(1, .int 0), (0, .ref (q 11))]) C (dall tdX0_readBoth 3 rfl) (by decide) rfl ?_
  refine r_pick [1, 0] rfl ?_
  exact lX0_readBoth_6 hlv hz1 hl1  C hR  fu _ ok h
def pX0_readBoth_0 (F1 : OS → OS)  (σ : OS) : OS := pX0_readBoth_4 F1  (F1 σ)
def oX0_readBoth_0 (F1 : OS → OS) (G1 : OS → Prop)  (σ : OS) : Prop := (G1 σ ) ∧ (oX0_readBoth_4 F1 G1  (F1 σ))
set_option maxHeartbeats 4000000 in
set_option maxRecDepth 100000 in
theorem wX0_readBoth_0 {X : CX} {cy : Nat → ClassId} {q : Nat → Nat} {D : va_G} {A : Nat → Prop} {res : OS} {lv lv1 : Nat} {F1 : OS → OS} {G1 : OS → Prop} (hlv : 20 ≤ lv) (hz1 : ∀ σ : OS, G1 σ → Con yX0_readNot cX0_readNot 2 none lv1 0 0 D (gty cy) [.ref (q 11)] (wX0 cy q σ) (eV (wX0 cy q (F1 σ)))) (hl1 : lv1 + 1 ≤ lv)  (σ : OS) (C : Cx X cX0_readBoth RX0 2 D (gty cy) A lv 0 0) (hR : Rt X none D (gty cy) A 0 0 (eV (wX0 cy q res)))  (ok : oX0_readBoth_0 F1 G1  σ) (h : pX0_readBoth_0 F1  σ = res) : At X D A 2 0 0 0 [(0, .ref (q 11))] [] (wX0 cy q σ) := by
  unfold pX0_readBoth_0 at h
  unfold oX0_readBoth_0 at ok
  refine r_aload_n C 0 (dall tdX0_readBoth 0 rfl) rfl ?_
  obtain ⟨o6, ok⟩ := ok
  refine r_vV (as := []) C (hz1  σ  o6) mv_X0_readNot km_X0_67 hl1 (by decide) ⟨Nat.le_refl _, Nat.le_refl _⟩ rfl rfl rfl rfl (Nat.le_of_ble_eq_true rfl) (dall tdX0_readBoth 1 rfl) ?_
  exact wX0_readBoth_4 hlv hz1 hl1 (F1 σ) C hR  ok h
def fX0_readBoth (F1 : OS → OS) (σ : OS) : OS := pX0_readBoth_0 F1  σ
def gX0_readBoth (F1 : OS → OS) (G1 : OS → Prop) (σ : OS) : Prop := oX0_readBoth_0 F1 G1  σ
set_option maxRecDepth 100000 in
theorem zX0_readBoth (cy : Nat → ClassId) (q : Nat → Nat)  {lv lv1 : Nat} {F1 : OS → OS} {G1 : OS → Prop}  {D : va_G} (hlv : 20 ≤ lv) (hz1 : ∀ σ : OS, G1 σ → Con yX0_readNot cX0_readNot 2 none lv1 0 0 D (gty cy) [.ref (q 11)] (wX0 cy q σ) (eV (wX0 cy q (F1 σ)))) (hl1 : lv1 + 1 ≤ lv) (σ : OS) (ok : gX0_readBoth F1 G1 σ )  : Con yX0_readBoth cX0_readBoth 2 none lv 0 0 D (gty cy) [.ref (q 11)] (wX0 cy q σ) (eV (wX0 cy q (fX0_readBoth F1 σ ))) :=
  Con.of (own := RX0) (by decide +kernel) rfl (Nat.le_of_ble_eq_true rfl) (Nat.zero_le _) (fun X A C hR _ => (wX0_readBoth_0 hlv hz1 hl1 σ C hR  ok rfl))
def tbX0_readEither : List (Nat × Instr × Nat) := [(0, .aload_n 0, 1), (1, .invokevirtual 58, 3), (4, .iconst 0, 1), (5, .istore_n 1, 1), (6, .iload_n 1, 1), (7, .sipush 160, 3), (10, .if_icmp .ge 31, 3), (13, .aload_n 0, 1), (14, .getfield 61, 3), (17, .iconst 3, 1), (18, .if_icmp .ne 23, 3), (21, .aload_n 0, 1), (22, .invokevirtual 37, 3), (25, .aload_n 0, 1), (26, .invokevirtual 58, 3), (29, .aload_n 0, 1), (30, .bipush (-4), 2), (32, .invokevirtual 64, 3), (35, .iinc 1 1, 3), (38, .goto (-32), 3), (41, .return_, 1)]
theorem tdX0_readEither : tbX0_readEither.all (fun q => decide (decode cX0_readEither q.1 = .ok q.2)) = true := by decide +kernel
def pX0_readEither_35 (F1 : OS → OS) (kR6 : OS × Int32 → OS) (σ : OS) (a1_ : Int32) : OS := kR6 (σ, a1_ + 1)
def oX0_readEither_35 (F1 : OS → OS) (G1 : OS → Prop) (kO6 : OS × Int32 → Prop) (σ : OS) (a1_ : Int32) : Prop := kO6 (σ, a1_ + 1)
set_option maxHeartbeats 4000000 in
set_option maxRecDepth 100000 in
theorem wX0_readEither_35 {X : CX} {cy : Nat → ClassId} {q : Nat → Nat} {D : va_G} {A : Nat → Prop} {res : OS} {lv lv1 : Nat} {F1 : OS → OS} {G1 : OS → Prop} (hlv : 20 ≤ lv) (hz1 : ∀ σ : OS, G1 σ → Con yX0_readBoth cX0_readBoth 2 none lv1 0 0 D (gty cy) [.ref (q 11)] (wX0 cy q σ) (eV (wX0 cy q (F1 σ)))) (hl1 : lv1 + 1 ≤ lv)  (σ : OS) (a1_ : Int32) (C : Cx X cX0_readEither RX0 2 D (gty cy) A lv 0 0) (hR : Rt X none D (gty cy) A 0 0 (eV (wX0 cy q res))) (kR6 : OS × Int32 → OS) (kO6 : OS × Int32 → Prop) (hk6 : ∀ z, kO6 z → kR6 z = res → At X D A 2 0 0 6 [(0, .ref (q 11)), (1, .int z.2)] [] (wX0 cy q z.1)) (ok : oX0_readEither_35 F1 G1 kO6 σ a1_) (h : pX0_readEither_35 F1 kR6 σ a1_ = res) : At X D A 2 0 0 35 [(0, .ref (q 11)), (1, .int a1_)] [] (wX0 cy q σ) := by
  unfold pX0_readEither_35 at h
  unfold oX0_readEither_35 at ok
  refine r_iinc (v := a1_ + 1) (lv' := [(1, .int (a1_ + 1)), (0, .ref (q 11))]) C 1 (dall tdX0_readEither 18 rfl) rfl rfl (by decide) rfl ?_
  refine r_goto (tgt := 6) C (dall tdX0_readEither 19 rfl) (by decide) ?_
  refine r_pick [1, 0] rfl ?_
  exact hk6 (σ, a1_ + 1) ok h
def pX0_readEither_29 (F1 : OS → OS) (kR6 : OS × Int32 → OS) (σ : OS) (a1_ : Int32) : OS := pX0_readEither_35 F1 kR6 (fX0_write σ (-4)) a1_
def oX0_readEither_29 (F1 : OS → OS) (G1 : OS → Prop) (kO6 : OS × Int32 → Prop) (σ : OS) (a1_ : Int32) : Prop := (gX0_write σ (-4)) ∧ (oX0_readEither_35 F1 G1 kO6 (fX0_write σ (-4)) a1_)
set_option maxHeartbeats 4000000 in
set_option maxRecDepth 100000 in
theorem wX0_readEither_29 {X : CX} {cy : Nat → ClassId} {q : Nat → Nat} {D : va_G} {A : Nat → Prop} {res : OS} {lv lv1 : Nat} {F1 : OS → OS} {G1 : OS → Prop} (hlv : 20 ≤ lv) (hz1 : ∀ σ : OS, G1 σ → Con yX0_readBoth cX0_readBoth 2 none lv1 0 0 D (gty cy) [.ref (q 11)] (wX0 cy q σ) (eV (wX0 cy q (F1 σ)))) (hl1 : lv1 + 1 ≤ lv)  (σ : OS) (a1_ : Int32) (C : Cx X cX0_readEither RX0 2 D (gty cy) A lv 0 0) (hR : Rt X none D (gty cy) A 0 0 (eV (wX0 cy q res))) (kR6 : OS × Int32 → OS) (kO6 : OS × Int32 → Prop) (hk6 : ∀ z, kO6 z → kR6 z = res → At X D A 2 0 0 6 [(0, .ref (q 11)), (1, .int z.2)] [] (wX0 cy q z.1)) (ok : oX0_readEither_29 F1 G1 kO6 σ a1_) (h : pX0_readEither_29 F1 kR6 σ a1_ = res) : At X D A 2 0 0 29 [(0, .ref (q 11)), (1, .int a1_)] [] (wX0 cy q σ) := by
  unfold pX0_readEither_29 at h
  unfold oX0_readEither_29 at ok
  refine r_aload_n C 0 (dall tdX0_readEither 15 rfl) rfl ?_
  refine r_bipush (v := -4) C (dall tdX0_readEither 16 rfl) (by decide) ?_
  obtain ⟨o1, ok⟩ := ok
  refine r_vV (as := [.int (-4)]) C (zX0_write cy q σ (-4) o1) mv_X0_write km_X0_64 (by omega) (by decide) ⟨Nat.le_refl _, Nat.le_refl _⟩ rfl rfl rfl rfl (Nat.le_of_ble_eq_true rfl) (dall tdX0_readEither 17 rfl) ?_
  exact wX0_readEither_35 hlv hz1 hl1 (fX0_write σ (-4)) a1_ C hR kR6 kO6 hk6 ok h
def pX0_readEither_25 (F1 : OS → OS) (kR6 : OS × Int32 → OS) (σ : OS) (a1_ : Int32) : OS := pX0_readEither_29 F1 kR6 (F1 σ) a1_
def oX0_readEither_25 (F1 : OS → OS) (G1 : OS → Prop) (kO6 : OS × Int32 → Prop) (σ : OS) (a1_ : Int32) : Prop := (G1 σ ) ∧ (oX0_readEither_29 F1 G1 kO6 (F1 σ) a1_)
set_option maxHeartbeats 4000000 in
set_option maxRecDepth 100000 in
theorem wX0_readEither_25 {X : CX} {cy : Nat → ClassId} {q : Nat → Nat} {D : va_G} {A : Nat → Prop} {res : OS} {lv lv1 : Nat} {F1 : OS → OS} {G1 : OS → Prop} (hlv : 20 ≤ lv) (hz1 : ∀ σ : OS, G1 σ → Con yX0_readBoth cX0_readBoth 2 none lv1 0 0 D (gty cy) [.ref (q 11)] (wX0 cy q σ) (eV (wX0 cy q (F1 σ)))) (hl1 : lv1 + 1 ≤ lv)  (σ : OS) (a1_ : Int32) (C : Cx X cX0_readEither RX0 2 D (gty cy) A lv 0 0) (hR : Rt X none D (gty cy) A 0 0 (eV (wX0 cy q res))) (kR6 : OS × Int32 → OS) (kO6 : OS × Int32 → Prop) (hk6 : ∀ z, kO6 z → kR6 z = res → At X D A 2 0 0 6 [(0, .ref (q 11)), (1, .int z.2)] [] (wX0 cy q z.1)) (ok : oX0_readEither_25 F1 G1 kO6 σ a1_) (h : pX0_readEither_25 F1 kR6 σ a1_ = res) : At X D A 2 0 0 25 [(0, .ref (q 11)), (1, .int a1_)] [] (wX0 cy q σ) := by
  unfold pX0_readEither_25 at h
  unfold oX0_readEither_25 at ok
  refine r_aload_n C 0 (dall tdX0_readEither 13 rfl) rfl ?_
  obtain ⟨o2, ok⟩ := ok
  refine r_vV (as := []) C (hz1  σ  o2) mv_X0_readBoth km_X0_58 hl1 (by decide) ⟨Nat.le_refl _, Nat.le_refl _⟩ rfl rfl rfl rfl (Nat.le_of_ble_eq_true rfl) (dall tdX0_readEither 14 rfl) ?_
  exact wX0_readEither_29 hlv hz1 hl1 (F1 σ) a1_ C hR kR6 kO6 hk6 ok h
def bX0_readEither_6 (F1 : OS → OS)   (kR6 : OS × Int32 → OS) (v : OS × Int32) : OS := if 160 ≤ v.2 then v.1 else if (v.1.1 6) = 3 then pX0_readEither_25 F1 kR6 (fX0_step v.1) v.2 else v.1
def kX0_readEither_6 (F1 : OS → OS) (G1 : OS → Prop)   (kO6 : OS × Int32 → Prop) (v : OS × Int32) : Prop := (160 ≤ v.2 → True) ∧ (¬ (160 ≤ v.2) → ((v.1.1 6) = 3 → (gX0_step v.1 ) ∧ (oX0_readEither_25 F1 G1 kO6 (fX0_step v.1) v.2)) ∧ (¬ ((v.1.1 6) = 3) → True))
set_option maxHeartbeats 4000000 in
set_option maxRecDepth 100000 in
theorem wX0_readEither_6 {X : CX} {cy : Nat → ClassId} {q : Nat → Nat} {D : va_G} {A : Nat → Prop} {res : OS} {lv lv1 : Nat} {F1 : OS → OS} {G1 : OS → Prop} (hlv : 20 ≤ lv) (hz1 : ∀ σ : OS, G1 σ → Con yX0_readBoth cX0_readBoth 2 none lv1 0 0 D (gty cy) [.ref (q 11)] (wX0 cy q σ) (eV (wX0 cy q (F1 σ)))) (hl1 : lv1 + 1 ≤ lv)   (C : Cx X cX0_readEither RX0 2 D (gty cy) A lv 0 0) (hR : Rt X none D (gty cy) A 0 0 (eV (wX0 cy q res))) (kR6 : OS × Int32 → OS) (kO6 : OS × Int32 → Prop) (hk6 : ∀ z, kO6 z → kR6 z = res → At X D A 2 0 0 6 [(0, .ref (q 11)), (1, .int z.2)] [] (wX0 cy q z.1)) (v : OS × Int32) (ok : kX0_readEither_6 F1 G1  kO6 v) (h : bX0_readEither_6 F1  kR6 v = res) : At X D A 2 0 0 6 [(0, .ref (q 11)), (1, .int v.2)] [] (wX0 cy q v.1) := by
  unfold bX0_readEither_6 at h
  unfold kX0_readEither_6 at ok
  refine r_iload_n C 1 (dall tdX0_readEither 4 rfl) rfl ?_
  refine r_sipush (v := 160) C (dall tdX0_readEither 5 rfl) (by decide) ?_
  refine r_icmp_ge (tgt := 41) C (dall tdX0_readEither 6 rfl) (by decide) (fun c3 => ?_) (fun c3 => ?_)
  · have h := (if_pos c3).symm.trans h
    have ok := ok.1 c3
    exact r_vret C hR (dall tdX0_readEither 20 rfl) (by subst h; exact ⟨rfl, rfl⟩)
  · have h := (if_neg c3).symm.trans h
    have ok := ok.2 c3
    refine r_aload_n C 0 (dall tdX0_readEither 7 rfl) rfl ?_
    refine r_get C 0 kw_X0 rfl rfl (by decide) kf_X0_61 rfl rfl (dall tdX0_readEither 8 rfl) ?_
    refine r_iconst (v := 3) C (dall tdX0_readEither 9 rfl) (by decide) ?_
    refine r_icmp_ne (tgt := 41) C (dall tdX0_readEither 10 rfl) (by decide) (fun c4 => ?_) (fun c4 => ?_)
    · have h := (if_neg c4).symm.trans h
      have ok := ok.2 c4
      exact r_vret C hR (dall tdX0_readEither 20 rfl) (by subst h; exact ⟨rfl, rfl⟩)
    · have h := (if_pos c4).symm.trans h
      have ok := ok.1 c4
      refine r_aload_n C 0 (dall tdX0_readEither 11 rfl) rfl ?_
      obtain ⟨o5, ok⟩ := ok
      refine r_vV (as := []) C (zX0_step cy q v.1  o5) mv_X0_step km_X0_37 (by omega) (by decide) ⟨Nat.le_refl _, Nat.le_refl _⟩ rfl rfl rfl rfl (Nat.le_of_ble_eq_true rfl) (dall tdX0_readEither 12 rfl) ?_
      exact wX0_readEither_25 hlv hz1 hl1 (fX0_step v.1) v.2 C hR kR6 kO6 hk6 ok h
set_option maxHeartbeats 4000000 in
set_option maxRecDepth 100000 in
theorem lX0_readEither_6 {X : CX} {cy : Nat → ClassId} {q : Nat → Nat} {D : va_G} {A : Nat → Prop} {res : OS} {lv lv1 : Nat} {F1 : OS → OS} {G1 : OS → Prop} (hlv : 20 ≤ lv) (hz1 : ∀ σ : OS, G1 σ → Con yX0_readBoth cX0_readBoth 2 none lv1 0 0 D (gty cy) [.ref (q 11)] (wX0 cy q σ) (eV (wX0 cy q (F1 σ)))) (hl1 : lv1 + 1 ≤ lv)   (C : Cx X cX0_readEither RX0 2 D (gty cy) A lv 0 0) (hR : Rt X none D (gty cy) A 0 0 (eV (wX0 cy q res)))  (n : Nat) (v : OS × Int32) (ok : lpOk (kX0_readEither_6 F1 G1  ) n v) (h : lp o0 (bX0_readEither_6 F1  ) n v = res) : At X D A 2 0 0 6 [(0, .ref (q 11)), (1, .int v.2)] [] (wX0 cy q v.1) :=
  lp_rule (fun v rr_ => rr_ = res → At X D A 2 0 0 6 [(0, .ref (q 11)), (1, .int v.2)] [] (wX0 cy q v.1)) (fun kR kO hk v ok h => wX0_readEither_6 hlv hz1 hl1  C hR  kR kO hk v ok h) n v ok h
def pX0_readEither_4 (F1 : OS → OS)  (σ : OS) : OS := lp o0 (bX0_readEither_6 F1  ) fu (σ, 0)
def oX0_readEither_4 (F1 : OS → OS) (G1 : OS → Prop)  (σ : OS) : Prop := lpOk (kX0_readEither_6 F1 G1  ) fu (σ, 0)
set_option maxHeartbeats 4000000 in
set_option maxRecDepth 100000 in
theorem wX0_readEither_4 {X : CX} {cy : Nat → ClassId} {q : Nat → Nat} {D : va_G} {A : Nat → Prop} {res : OS} {lv lv1 : Nat} {F1 : OS → OS} {G1 : OS → Prop} (hlv : 20 ≤ lv) (hz1 : ∀ σ : OS, G1 σ → Con yX0_readBoth cX0_readBoth 2 none lv1 0 0 D (gty cy) [.ref (q 11)] (wX0 cy q σ) (eV (wX0 cy q (F1 σ)))) (hl1 : lv1 + 1 ≤ lv)  (σ : OS) (C : Cx X cX0_readEither RX0 2 D (gty cy) A lv 0 0) (hR : Rt X none D (gty cy) A 0 0 (eV (wX0 cy q res)))  (ok : oX0_readEither_4 F1 G1  σ) (h : pX0_readEither_4 F1  σ = res) : At X D A 2 0 0 4 [(0, .ref (q 11))] [] (wX0 cy q σ) := by
  unfold pX0_readEither_4 at h
  unfold oX0_readEither_4 at ok
  refine r_iconst (v := 0) C (dall tdX0_readEither 2 rfl) (by decide) ?_
  refine r_istore_n (lv' := [(1, .int 0), (0, .ref (q 11))]) C (dall tdX0_readEither 3 rfl) (by decide) rfl ?_
  refine r_pick [1, 0] rfl ?_
  exact lX0_readEither_6 hlv hz1 hl1  C hR  fu _ ok h
def pX0_readEither_0 (F1 : OS → OS)  (σ : OS) : OS := pX0_readEither_4 F1  (F1 σ)
def oX0_readEither_0 (F1 : OS → OS) (G1 : OS → Prop)  (σ : OS) : Prop := (G1 σ ) ∧ (oX0_readEither_4 F1 G1  (F1 σ))
set_option maxHeartbeats 4000000 in
set_option maxRecDepth 100000 in
theorem wX0_readEither_0 {X : CX} {cy : Nat → ClassId} {q : Nat → Nat} {D : va_G} {A : Nat → Prop} {res : OS} {lv lv1 : Nat} {F1 : OS → OS} {G1 : OS → Prop} (hlv : 20 ≤ lv) (hz1 : ∀ σ : OS, G1 σ → Con yX0_readBoth cX0_readBoth 2 none lv1 0 0 D (gty cy) [.ref (q 11)] (wX0 cy q σ) (eV (wX0 cy q (F1 σ)))) (hl1 : lv1 + 1 ≤ lv)  (σ : OS) (C : Cx X cX0_readEither RX0 2 D (gty cy) A lv 0 0) (hR : Rt X none D (gty cy) A 0 0 (eV (wX0 cy q res)))  (ok : oX0_readEither_0 F1 G1  σ) (h : pX0_readEither_0 F1  σ = res) : At X D A 2 0 0 0 [(0, .ref (q 11))] [] (wX0 cy q σ) := by
  unfold pX0_readEither_0 at h
  unfold oX0_readEither_0 at ok
  refine r_aload_n C 0 (dall tdX0_readEither 0 rfl) rfl ?_
  obtain ⟨o6, ok⟩ := ok
  refine r_vV (as := []) C (hz1  σ  o6) mv_X0_readBoth km_X0_58 hl1 (by decide) ⟨Nat.le_refl _, Nat.le_refl _⟩ rfl rfl rfl rfl (Nat.le_of_ble_eq_true rfl) (dall tdX0_readEither 1 rfl) ?_
  exact wX0_readEither_4 hlv hz1 hl1 (F1 σ) C hR  ok h
def fX0_readEither (F1 : OS → OS) (σ : OS) : OS := pX0_readEither_0 F1  σ
def gX0_readEither (F1 : OS → OS) (G1 : OS → Prop) (σ : OS) : Prop := oX0_readEither_0 F1 G1  σ
set_option maxRecDepth 100000 in
theorem zX0_readEither (cy : Nat → ClassId) (q : Nat → Nat)  {lv lv1 : Nat} {F1 : OS → OS} {G1 : OS → Prop}  {D : va_G} (hlv : 20 ≤ lv) (hz1 : ∀ σ : OS, G1 σ → Con yX0_readBoth cX0_readBoth 2 none lv1 0 0 D (gty cy) [.ref (q 11)] (wX0 cy q σ) (eV (wX0 cy q (F1 σ)))) (hl1 : lv1 + 1 ≤ lv) (σ : OS) (ok : gX0_readEither F1 G1 σ )  : Con yX0_readEither cX0_readEither 2 none lv 0 0 D (gty cy) [.ref (q 11)] (wX0 cy q σ) (eV (wX0 cy q (fX0_readEither F1 σ ))) :=
  Con.of (own := RX0) (by decide +kernel) rfl (Nat.le_of_ble_eq_true rfl) (Nat.zero_le _) (fun X A C hR _ => (wX0_readEither_0 hlv hz1 hl1 σ C hR  ok rfl))

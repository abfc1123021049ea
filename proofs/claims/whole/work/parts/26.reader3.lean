/-- readOne, readNot, readEither with d more that may be open -/
def rdF : Nat → (OS → OS) × (OS → OS) × (OS → OS)
  | 0 => (fun σ => σ, fun σ => σ, fun σ => σ)
  | d + 1 => (fX0_readOne (rdF d).1 (rdF d).2.2, fX0_readNot (rdF d).2.1 (fX0_readSum (fX0_readTerm (fX0_readOne (rdF d).1 (rdF d).2.2))), fX0_readEither (fX0_readBoth (fX0_readNot (rdF d).2.1 (fX0_readSum (fX0_readTerm (fX0_readOne (rdF d).1 (rdF d).2.2))))))
def rdG : Nat → (OS → Prop) × (OS → Prop) × (OS → Prop)
  | 0 => (fun _ => False, fun _ => False, fun _ => False)
  | d + 1 => (gX0_readOne (rdF d).1 (rdF d).2.2 (rdG d).1 (rdG d).2.2,
    gX0_readNot (rdF d).2.1 (fX0_readSum (fX0_readTerm (fX0_readOne (rdF d).1 (rdF d).2.2))) (rdG d).2.1 (gX0_readSum (fX0_readTerm (fX0_readOne (rdF d).1 (rdF d).2.2)) (gX0_readTerm (fX0_readOne (rdF d).1 (rdF d).2.2) (gX0_readOne (rdF d).1 (rdF d).2.2 (rdG d).1 (rdG d).2.2))),
    gX0_readEither (fX0_readBoth (fX0_readNot (rdF d).2.1 (fX0_readSum (fX0_readTerm (fX0_readOne (rdF d).1 (rdF d).2.2))))) (gX0_readBoth (fX0_readNot (rdF d).2.1 (fX0_readSum (fX0_readTerm (fX0_readOne (rdF d).1 (rdF d).2.2)))) (gX0_readNot (rdF d).2.1 (fX0_readSum (fX0_readTerm (fX0_readOne (rdF d).1 (rdF d).2.2))) (rdG d).2.1 (gX0_readSum (fX0_readTerm (fX0_readOne (rdF d).1 (rdF d).2.2)) (gX0_readTerm (fX0_readOne (rdF d).1 (rdF d).2.2) (gX0_readOne (rdF d).1 (rdF d).2.2 (rdG d).1 (rdG d).2.2))))))
theorem rd_con (cy : Nat → ClassId) (q : Nat → Nat) {D : va_G} : ∀ d : Nat,
    (∀ σ : OS, (rdG d).1 σ → Con yX0_readOne cX0_readOne 1 none (20 + 8 * d + 1) 0 0 D (gty cy) [.ref (q 11)] (wX0 cy q σ) (eV (wX0 cy q ((rdF d).1 σ)))) ∧
    (∀ σ : OS, (rdG d).2.1 σ → Con yX0_readNot cX0_readNot 2 none (20 + 8 * d + 4) 0 0 D (gty cy) [.ref (q 11)] (wX0 cy q σ) (eV (wX0 cy q ((rdF d).2.1 σ)))) ∧
    (∀ σ : OS, (rdG d).2.2 σ → Con yX0_readEither cX0_readEither 2 none (20 + 8 * d + 6) 0 0 D (gty cy) [.ref (q 11)] (wX0 cy q σ) (eV (wX0 cy q ((rdF d).2.2 σ))))
  | 0 => ⟨fun _ h => h.elim, fun _ h => h.elim, fun _ h => h.elim⟩
  | d + 1 => by
    obtain ⟨h1, h2, h3⟩ := rd_con cy q (D := D) d
    have one := zX0_readOne cy q (lv := 20 + 8 * (d + 1) + 1) (by omega) h1 (by omega) h3 (by omega)
    have term := zX0_readTerm cy q (lv := 20 + 8 * (d + 1) + 2) (by omega) one (by omega)
    have sum := zX0_readSum cy q (lv := 20 + 8 * (d + 1) + 3) (by omega) term (by omega)
    have nt := zX0_readNot cy q (lv := 20 + 8 * (d + 1) + 4) (by omega) h2 (by omega) sum (by omega)
    have both := zX0_readBoth cy q (lv := 20 + 8 * (d + 1) + 5) (by omega) nt (by omega)
    exact ⟨one, nt, zX0_readEither cy q (lv := 20 + 8 * (d + 1) + 6) (by omega) both (by omega)⟩
def fX0_readEither_ (σ : OS) : OS := (rdF 6).2.2 σ
def gX0_readEither_ (σ : OS) : Prop := (rdG 6).2.2 σ
theorem zX0_readEither_ (cy : Nat → ClassId) (q : Nat → Nat) {D : va_G} (σ : OS) (ok : gX0_readEither_ σ) : Con yX0_readEither cX0_readEither 2 none 74 0 0 D (gty cy) [.ref (q 11)] (wX0 cy q σ) (eV (wX0 cy q (fX0_readEither_ σ))) := (rd_con cy q 6).2.2 σ ok
def tbX0_read : List (Nat × Instr × Nat) := [(0, .aload_n 0, 1), (1, .iconst 0, 1), (2, .putfield 25, 3), (5, .aload_n 0, 1), (6, .iconst 0, 1), (7, .putfield 28, 3), (10, .aload_n 0, 1), (11, .iconst 0, 1), (12, .putfield 31, 3), (15, .aload_n 0, 1), (16, .iconst (-1), 1), (17, .putfield 34, 3), (20, .aload_n 0, 1), (21, .invokevirtual 37, 3), (24, .iconst 0, 1), (25, .istore_n 1, 1), (26, .iload_n 1, 1), (27, .iconst 3, 1), (28, .if_icmp .ge 36, 3), (31, .aload_n 0, 1), (32, .iconst 0, 1), (33, .iload_n 1, 1), (34, .iadd, 1), (35, .invokevirtual 40, 3), (38, .aload_n 0, 1), (39, .invokevirtual 44, 3), (42, .aload_n 0, 1), (43, .bipush 14, 2), (45, .invokevirtual 40, 3), (48, .aload_n 0, 1), (49, .getfield 18, 3), (52, .iload_n 1, 1), (53, .aload_n 0, 1), (54, .getfield 25, 3), (57, .iastore, 1), (58, .iinc 1 1, 3), (61, .goto (-35), 3), (64, .aload_n 0, 1), (65, .bipush 21, 2), (67, .invokevirtual 40, 3), (70, .aload_n 0, 1), (71, .iconst 0, 1), (72, .putfield 21, 3), (75, .aload_n 0, 1), (76, .getfield 34, 3), (79, .ireturn, 1)]
theorem tdX0_read : tbX0_read.all (fun q => decide (decode cX0_read q.1 = .ok q.2)) = true := by decide +kernel
def pX0_read_70  (σ : OS) : Int32 × OS := ((oI σ 0 0).1 10, oI σ 0 0)
set_option maxHeartbeats 4000000 in
set_option maxRecDepth 100000 in
theorem wX0_read_70 {X : CX} {cy : Nat → ClassId} {q : Nat → Nat} {D : va_G} {A : Nat → Prop} {res : Int32 × OS} (σ : OS) (C : Cx X cX0_read RX0 2 D (gty cy) A 75 0 0) (hR : Rt X (some .int) D (gty cy) A 0 0 (eI (wX0 cy q res.2) res.1))  (h : pX0_read_70  σ = res) : At X D A 2 0 0 70 [(0, .ref (q 11))] [] (wX0 cy q σ) := by
  unfold pX0_read_70 at h
  refine r_aload_n C 0 (dall tdX0_read 40 rfl) rfl ?_
  refine r_iconst (v := 0) C (dall tdX0_read 41 rfl) (by decide) ?_
  refine r_put C 0 kw_X0 tyX0_ok nmX0 rfl rfl (by decide) kf_X0_21 rfl rfl rfl rfl rfl (Nat.le_of_ble_eq_true rfl) (pu_X0_this_0 cy q σ 0) (dall tdX0_read 42 rfl) ?_
  refine r_aload_n C 0 (dall tdX0_read 43 rfl) rfl ?_
  refine r_get C 0 kw_X0 rfl rfl (by decide) kf_X0_34 rfl rfl (dall tdX0_read 44 rfl) ?_
  exact r_iret C hR (dall tdX0_read 45 rfl) (by subst h; exact ⟨rfl, rfl⟩)
def pX0_read_48 (kR26 : OS × Int32 → Int32 × OS) (σ : OS) (a1_ : Int32) : Int32 × OS := kR26 (oS σ 3 a1_.toNatClampNeg (σ.1 4), a1_ + 1)
def oX0_read_48 (kO26 : OS × Int32 → Prop) (σ : OS) (a1_ : Int32) : Prop := (vp_in a1_ 3) ∧ (kO26 (oS σ 3 a1_.toNatClampNeg (σ.1 4), a1_ + 1))
set_option maxHeartbeats 4000000 in
set_option maxRecDepth 100000 in
theorem wX0_read_48 {X : CX} {cy : Nat → ClassId} {q : Nat → Nat} {D : va_G} {A : Nat → Prop} {res : Int32 × OS} (σ : OS) (a1_ : Int32) (C : Cx X cX0_read RX0 2 D (gty cy) A 75 0 0) (hR : Rt X (some .int) D (gty cy) A 0 0 (eI (wX0 cy q res.2) res.1)) (kR26 : OS × Int32 → Int32 × OS) (kO26 : OS × Int32 → Prop) (hk26 : ∀ z, kO26 z → kR26 z = res → At X D A 2 0 0 26 [(0, .ref (q 11)), (1, .int z.2)] [] (wX0 cy q z.1)) (ok : oX0_read_48 kO26 σ a1_) (h : pX0_read_48 kR26 σ a1_ = res) : At X D A 2 0 0 48 [(0, .ref (q 11)), (1, .int a1_)] [] (wX0 cy q σ) := by
  unfold pX0_read_48 at h
  unfold oX0_read_48 at ok
  refine r_aload_n C 0 (dall tdX0_read 29 rfl) rfl ?_
  refine r_get C 0 kw_X0 rfl rfl (by decide) kf_X0_18 rfl rfl (dall tdX0_read 30 rfl) ?_
  refine r_iload_n C 1 (dall tdX0_read 31 rfl) rfl ?_
  refine r_aload_n C 0 (dall tdX0_read 32 rfl) rfl ?_
  refine r_get C 0 kw_X0 rfl rfl (by decide) kf_X0_25 rfl rfl (dall tdX0_read 33 rfl) ?_
  obtain ⟨o1, ok⟩ := ok
  refine r_iast C 3 0 rfl rfl o1 (pa_X0_this_3 cy q σ a1_.toNatClampNeg (σ.1 4)) (dall tdX0_read 34 rfl) ?_
  refine r_iinc (v := a1_ + 1) (lv' := [(1, .int (a1_ + 1)), (0, .ref (q 11))]) C 1 (dall tdX0_read 35 rfl) rfl rfl (by decide) rfl ?_
  refine r_goto (tgt := 26) C (dall tdX0_read 36 rfl) (by decide) ?_
  refine r_pick [1, 0] rfl ?_
  exact hk26 (oS σ 3 a1_.toNatClampNeg (σ.1 4), a1_ + 1) ok h
def pX0_read_42 (kR26 : OS × Int32 → Int32 × OS) (σ : OS) (a1_ : Int32) : Int32 × OS := pX0_read_48 kR26 (fX0_expect σ 14) a1_
def oX0_read_42 (kO26 : OS × Int32 → Prop) (σ : OS) (a1_ : Int32) : Prop := (gX0_expect σ 14) ∧ (oX0_read_48 kO26 (fX0_expect σ 14) a1_)
set_option maxHeartbeats 4000000 in
set_option maxRecDepth 100000 in
theorem wX0_read_42 {X : CX} {cy : Nat → ClassId} {q : Nat → Nat} {D : va_G} {A : Nat → Prop} {res : Int32 × OS} (σ : OS) (a1_ : Int32) (C : Cx X cX0_read RX0 2 D (gty cy) A 75 0 0) (hR : Rt X (some .int) D (gty cy) A 0 0 (eI (wX0 cy q res.2) res.1)) (kR26 : OS × Int32 → Int32 × OS) (kO26 : OS × Int32 → Prop) (hk26 : ∀ z, kO26 z → kR26 z = res → At X D A 2 0 0 26 [(0, .ref (q 11)), (1, .int z.2)] [] (wX0 cy q z.1)) (ok : oX0_read_42 kO26 σ a1_) (h : pX0_read_42 kR26 σ a1_ = res) : At X D A 2 0 0 42 [(0, .ref (q 11)), (1, .int a1_)] [] (wX0 cy q σ) := by
  unfold pX0_read_42 at h
  unfold oX0_read_42 at ok
  refine r_aload_n C 0 (dall tdX0_read 26 rfl) rfl ?_
  refine r_bipush (v := 14) C (dall tdX0_read 27 rfl) (by decide) ?_
  obtain ⟨o2, ok⟩ := ok
  refine r_vV (as := [.int 14]) C (zX0_expect cy q σ 14 o2) mv_X0_expect km_X0_40 (by decide) (by decide) ⟨Nat.le_refl _, Nat.le_refl _⟩ rfl rfl rfl rfl (Nat.le_of_ble_eq_true rfl) (dall tdX0_read 28 rfl) ?_
  exact wX0_read_48 (fX0_expect σ 14) a1_ C hR kR26 kO26 hk26 ok h
def pX0_read_38 (kR26 : OS × Int32 → Int32 × OS) (σ : OS) (a1_ : Int32) : Int32 × OS := pX0_read_42 kR26 (fX0_readEither_ σ) a1_
def oX0_read_38 (kO26 : OS × Int32 → Prop) (σ : OS) (a1_ : Int32) : Prop := (gX0_readEither_ σ ) ∧ (oX0_read_42 kO26 (fX0_readEither_ σ) a1_)
set_option maxHeartbeats 4000000 in
set_option maxRecDepth 100000 in
theorem wX0_read_38 {X : CX} {cy : Nat → ClassId} {q : Nat → Nat} {D : va_G} {A : Nat → Prop} {res : Int32 × OS} (σ : OS) (a1_ : Int32) (C : Cx X cX0_read RX0 2 D (gty cy) A 75 0 0) (hR : Rt X (some .int) D (gty cy) A 0 0 (eI (wX0 cy q res.2) res.1)) (kR26 : OS × Int32 → Int32 × OS) (kO26 : OS × Int32 → Prop) (hk26 : ∀ z, kO26 z → kR26 z = res → At X D A 2 0 0 26 [(0, .ref (q 11)), (1, .int z.2)] [] (wX0 cy q z.1)) (ok : oX0_read_38 kO26 σ a1_) (h : pX0_read_38 kR26 σ a1_ = res) : At X D A 2 0 0 38 [(0, .ref (q 11)), (1, .int a1_)] [] (wX0 cy q σ) := by
  unfold pX0_read_38 at h
  unfold oX0_read_38 at ok
  refine r_aload_n C 0 (dall tdX0_read 24 rfl) rfl ?_
  obtain ⟨o3, ok⟩ := ok
  refine r_vV (as := []) C (zX0_readEither_ cy q σ  o3) mv_X0_readEither km_X0_44 (by decide) (by decide) ⟨Nat.le_refl _, Nat.le_refl _⟩ rfl rfl rfl rfl (Nat.le_of_ble_eq_true rfl) (dall tdX0_read 25 rfl) ?_
  exact wX0_read_42 (fX0_readEither_ σ) a1_ C hR kR26 kO26 hk26 ok h
def bX0_read_26   (kR26 : OS × Int32 → Int32 × OS) (v : OS × Int32) : Int32 × OS := if 3 ≤ v.2 then pX0_read_70  (fX0_expect v.1 21) else pX0_read_38 kR26 (fX0_expect v.1 (0 + v.2)) v.2
def kX0_read_26   (kO26 : OS × Int32 → Prop) (v : OS × Int32) : Prop := (3 ≤ v.2 → gX0_expect v.1 21) ∧ (¬ (3 ≤ v.2) → (gX0_expect v.1 (0 + v.2)) ∧ (oX0_read_38 kO26 (fX0_expect v.1 (0 + v.2)) v.2))
set_option maxHeartbeats 4000000 in
set_option maxRecDepth 100000 in
theorem wX0_read_26 {X : CX} {cy : Nat → ClassId} {q : Nat → Nat} {D : va_G} {A : Nat → Prop} {res : Int32 × OS}  (C : Cx X cX0_read RX0 2 D (gty cy) A 75 0 0) (hR : Rt X (some .int) D (gty cy) A 0 0 (eI (wX0 cy q res.2) res.1)) (kR26 : OS × Int32 → Int32 × OS) (kO26 : OS × Int32 → Prop) (hk26 : ∀ z, kO26 z → kR26 z = res → At X D A 2 0 0 26 [(0, .ref (q 11)), (1, .int z.2)] [] (wX0 cy q z.1)) (v : OS × Int32) (ok : kX0_read_26  kO26 v) (h : bX0_read_26  kR26 v = res) : At X D A 2 0 0 26 [(0, .ref (q 11)), (1, .int v.2)] [] (wX0 cy q v.1) := by
  unfold bX0_read_26 at h
  unfold kX0_read_26 at ok
  refine r_iload_n C 1 (dall tdX0_read 16 rfl) rfl ?_
  refine r_iconst (v := 3) C (dall tdX0_read 17 rfl) (by decide) ?_
  refine r_icmp_ge (tgt := 64) C (dall tdX0_read 18 rfl) (by decide) (fun c4 => ?_) (fun c4 => ?_)
  · have h := (if_pos c4).symm.trans h
    have ok := ok.1 c4
    refine r_aload_n C 0 (dall tdX0_read 37 rfl) rfl ?_
    refine r_bipush (v := 21) C (dall tdX0_read 38 rfl) (by decide) ?_
    have o5 := ok
    refine r_vV (as := [.int 21]) C (zX0_expect cy q v.1 21 o5) mv_X0_expect km_X0_40 (by decide) (by decide) ⟨Nat.le_refl _, Nat.le_refl _⟩ rfl rfl rfl rfl (Nat.le_of_ble_eq_true rfl) (dall tdX0_read 39 rfl) ?_
    refine r_pick [0] rfl ?_
    exact wX0_read_70 (fX0_expect v.1 21) C hR  h
  · have h := (if_neg c4).symm.trans h
    have ok := ok.2 c4
    refine r_aload_n C 0 (dall tdX0_read 19 rfl) rfl ?_
    refine r_iconst (v := 0) C (dall tdX0_read 20 rfl) (by decide) ?_
    refine r_iload_n C 1 (dall tdX0_read 21 rfl) rfl ?_
    refine r_iadd C (dall tdX0_read 22 rfl) ?_
    obtain ⟨o6, ok⟩ := ok
    refine r_vV (as := [.int (0 + v.2)]) C (zX0_expect cy q v.1 (0 + v.2) o6) mv_X0_expect km_X0_40 (by decide) (by decide) ⟨Nat.le_refl _, Nat.le_refl _⟩ rfl rfl rfl rfl (Nat.le_of_ble_eq_true rfl) (dall tdX0_read 23 rfl) ?_
    exact wX0_read_38 (fX0_expect v.1 (0 + v.2)) v.2 C hR kR26 kO26 hk26 ok h
set_option maxHeartbeats 4000000 in
set_option maxRecDepth 100000 in
theorem lX0_read_26 {X : CX} {cy : Nat → ClassId} {q : Nat → Nat} {D : va_G} {A : Nat → Prop} {res : Int32 × OS}  (C : Cx X cX0_read RX0 2 D (gty cy) A 75 0 0) (hR : Rt X (some .int) D (gty cy) A 0 0 (eI (wX0 cy q res.2) res.1))  (n : Nat) (v : OS × Int32) (ok : lpOk (kX0_read_26  ) n v) (h : lp (0, o0) (bX0_read_26  ) n v = res) : At X D A 2 0 0 26 [(0, .ref (q 11)), (1, .int v.2)] [] (wX0 cy q v.1) :=
  lp_rule (fun v rr_ => rr_ = res → At X D A 2 0 0 26 [(0, .ref (q 11)), (1, .int v.2)] [] (wX0 cy q v.1)) (fun kR kO hk v ok h => wX0_read_26  C hR  kR kO hk v ok h) n v ok h
def pX0_read_24  (σ : OS) : Int32 × OS := lp (0, o0) (bX0_read_26  ) fu (σ, 0)
def oX0_read_24  (σ : OS) : Prop := lpOk (kX0_read_26  ) fu (σ, 0)
set_option maxHeartbeats 4000000 in
set_option maxRecDepth 100000 in
theorem wX0_read_24 {X : CX} {cy : Nat → ClassId} {q : Nat → Nat} {D : va_G} {A : Nat → Prop} {res : Int32 × OS} (σ : OS) (C : Cx X cX0_read RX0 2 D (gty cy) A 75 0 0) (hR : Rt X (some .int) D (gty cy) A 0 0 (eI (wX0 cy q res.2) res.1))  (ok : oX0_read_24  σ) (h : pX0_read_24  σ = res) : At X D A 2 0 0 24 [(0, .ref (q 11))] [] (wX0 cy q σ) := by
  unfold pX0_read_24 at h
  unfold oX0_read_24 at ok
  refine r_iconst (v := 0) C (dall tdX0_read 14 rfl) (by decide) ?_
  refine r_istore_n (lv' := [(1, .int 0), (0, .ref (q 11))]) C (dall tdX0_read 15 rfl) (by decide) rfl ?_
  refine r_pick [1, 0] rfl ?_
  exact lX0_read_26  C hR  fu _ ok h
def pX0_read_0  (σ : OS) : Int32 × OS := pX0_read_24  (fX0_step (oI (oI (oI (oI σ 4 0) 5 0) 9 0) 10 (-1)))
def oX0_read_0  (σ : OS) : Prop := (gX0_step (oI (oI (oI (oI σ 4 0) 5 0) 9 0) 10 (-1)) ) ∧ (oX0_read_24  (fX0_step (oI (oI (oI (oI σ 4 0) 5 0) 9 0) 10 (-1))))
set_option maxHeartbeats 4000000 in
set_option maxRecDepth 100000 in
theorem wX0_read_0 {X : CX} {cy : Nat → ClassId} {q : Nat → Nat} {D : va_G} {A : Nat → Prop} {res : Int32 × OS} (σ : OS) (C : Cx X cX0_read RX0 2 D (gty cy) A 75 0 0) (hR : Rt X (some .int) D (gty cy) A 0 0 (eI (wX0 cy q res.2) res.1))  (ok : oX0_read_0  σ) (h : pX0_read_0  σ = res) : At X D A 2 0 0 0 [(0, .ref (q 11))] [] (wX0 cy q σ) := by
  unfold pX0_read_0 at h
  unfold oX0_read_0 at ok
  refine r_aload_n C 0 (dall tdX0_read 0 rfl) rfl ?_
  refine r_iconst (v := 0) C (dall tdX0_read 1 rfl) (by decide) ?_
  refine r_put C 0 kw_X0 tyX0_ok nmX0 rfl rfl (by decide) kf_X0_25 rfl rfl rfl rfl rfl (Nat.le_of_ble_eq_true rfl) (pu_X0_this_4 cy q σ 0) (dall tdX0_read 2 rfl) ?_
  refine r_aload_n C 0 (dall tdX0_read 3 rfl) rfl ?_
  refine r_iconst (v := 0) C (dall tdX0_read 4 rfl) (by decide) ?_
  refine r_put C 0 kw_X0 tyX0_ok nmX0 rfl rfl (by decide) kf_X0_28 rfl rfl rfl rfl rfl (Nat.le_of_ble_eq_true rfl) (pu_X0_this_5 cy q (oI σ 4 0) 0) (dall tdX0_read 5 rfl) ?_
  refine r_aload_n C 0 (dall tdX0_read 6 rfl) rfl ?_
  refine r_iconst (v := 0) C (dall tdX0_read 7 rfl) (by decide) ?_
  refine r_put C 0 kw_X0 tyX0_ok nmX0 rfl rfl (by decide) kf_X0_31 rfl rfl rfl rfl rfl (Nat.le_of_ble_eq_true rfl) (pu_X0_this_9 cy q (oI (oI σ 4 0) 5 0) 0) (dall tdX0_read 8 rfl) ?_
  refine r_aload_n C 0 (dall tdX0_read 9 rfl) rfl ?_
  refine r_iconst (v := -1) C (dall tdX0_read 10 rfl) (by decide) ?_
  refine r_put C 0 kw_X0 tyX0_ok nmX0 rfl rfl (by decide) kf_X0_34 rfl rfl rfl rfl rfl (Nat.le_of_ble_eq_true rfl) (pu_X0_this_10 cy q (oI (oI (oI σ 4 0) 5 0) 9 0) (-1)) (dall tdX0_read 11 rfl) ?_
  refine r_aload_n C 0 (dall tdX0_read 12 rfl) rfl ?_
  obtain ⟨o7, ok⟩ := ok
  refine r_vV (as := []) C (zX0_step cy q (oI (oI (oI (oI σ 4 0) 5 0) 9 0) 10 (-1))  o7) mv_X0_step km_X0_37 (by decide) (by decide) ⟨Nat.le_refl _, Nat.le_refl _⟩ rfl rfl rfl rfl (Nat.le_of_ble_eq_true rfl) (dall tdX0_read 13 rfl) ?_
  exact wX0_read_24 (fX0_step (oI (oI (oI (oI σ 4 0) 5 0) 9 0) 10 (-1))) C hR  ok h
def fX0_read (σ : OS) : Int32 × OS := pX0_read_0  σ
def gX0_read (σ : OS) : Prop := oX0_read_0  σ
set_option maxRecDepth 100000 in
theorem zX0_read (cy : Nat → ClassId) (q : Nat → Nat)  {D : va_G} (σ : OS) (ok : gX0_read σ )  : Con yX0_read cX0_read 2 (some .int) 75 0 0 D (gty cy) [.ref (q 11)] (wX0 cy q σ) (eI (wX0 cy q (fX0_read σ ).2) (fX0_read σ ).1) :=
  Con.of (own := RX0) (by decide +kernel) rfl (Nat.le_of_ble_eq_true rfl) (Nat.zero_le _) (fun X A C hR _ => (wX0_read_0 σ C hR  ok rfl))
theorem mv_X0_read : MV yX0_read cX0_read 2 (some .int) RX0 0 := ⟨ki_X0_read, kv_X0_read, kn_X0, kc_X0_read, by decide +kernel⟩

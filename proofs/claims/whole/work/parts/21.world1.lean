abbrev fX4 (q : Nat → Nat) (σ : OS) : List Value := [.ref (q 0), .ref (q 1), .ref (q 2), .ref (q 3), .int (σ.1 4), .int (σ.1 5), .int (σ.1 6), .int (σ.1 7), .long (σ.2.1 8), .ref (q 9), .ref (q 10), .ref (q 11)]
def wX4 (cy : Nat → ClassId) (q : Nat → Nat) (w0 : va_W) (σ : OS) : va_W := (q 12, .inr (3, fX4 q σ)) :: (q 0, .inl (cy 0, 5, .inl (σ.2.2.1 0))) :: (q 1, .inl (cy 0, 5, .inl (σ.2.2.1 1))) :: (q 2, .inl (cy 0, 5, .inl (σ.2.2.1 2))) :: (q 3, .inl (cy 1, 5, .inr (.inl (σ.2.2.2 3)))) :: (q 10, .inl (cy 0, 6, .inl (σ.2.2.1 10))) :: (q 11, .inl (cy 0, 160, .inl (σ.2.2.1 11))) :: w0
theorem pu_X4_this_4 (cy : Nat → ClassId) (q : Nat → Nat) (w0 : va_W) (σ : OS) (v : Int32) : (wX4 cy q w0 σ).set 0 (q 12, .inr (3, (fX4 q σ).set 4 (.int v))) = wX4 cy q w0 (oI σ 4 v) := rfl
theorem pu_X4_this_5 (cy : Nat → ClassId) (q : Nat → Nat) (w0 : va_W) (σ : OS) (v : Int32) : (wX4 cy q w0 σ).set 0 (q 12, .inr (3, (fX4 q σ).set 5 (.int v))) = wX4 cy q w0 (oI σ 5 v) := rfl
theorem pu_X4_this_6 (cy : Nat → ClassId) (q : Nat → Nat) (w0 : va_W) (σ : OS) (v : Int32) : (wX4 cy q w0 σ).set 0 (q 12, .inr (3, (fX4 q σ).set 6 (.int v))) = wX4 cy q w0 (oI σ 6 v) := rfl
theorem pu_X4_this_7 (cy : Nat → ClassId) (q : Nat → Nat) (w0 : va_W) (σ : OS) (v : Int32) : (wX4 cy q w0 σ).set 0 (q 12, .inr (3, (fX4 q σ).set 7 (.int v))) = wX4 cy q w0 (oI σ 7 v) := rfl
theorem pu_X4_this_8 (cy : Nat → ClassId) (q : Nat → Nat) (w0 : va_W) (σ : OS) (v : Int64) : (wX4 cy q w0 σ).set 0 (q 12, .inr (3, (fX4 q σ).set 8 (.long v))) = wX4 cy q w0 (oL σ 8 v) := rfl
theorem pa_X4_this_0 (cy : Nat → ClassId) (q : Nat → Nat) (w0 : va_W) (σ : OS) (i : Nat) (x : Int32) : (wX4 cy q w0 σ).set 1 (q 0, .inl (cy 0, 5, .inl (upd (σ.2.2.1 0) i x))) = wX4 cy q w0 (oS σ 0 i x) := rfl
theorem pa_X4_this_1 (cy : Nat → ClassId) (q : Nat → Nat) (w0 : va_W) (σ : OS) (i : Nat) (x : Int32) : (wX4 cy q w0 σ).set 2 (q 1, .inl (cy 0, 5, .inl (upd (σ.2.2.1 1) i x))) = wX4 cy q w0 (oS σ 1 i x) := rfl
theorem pa_X4_this_2 (cy : Nat → ClassId) (q : Nat → Nat) (w0 : va_W) (σ : OS) (i : Nat) (x : Int32) : (wX4 cy q w0 σ).set 3 (q 2, .inl (cy 0, 5, .inl (upd (σ.2.2.1 2) i x))) = wX4 cy q w0 (oS σ 2 i x) := rfl
theorem pa_X4_this_3 (cy : Nat → ClassId) (q : Nat → Nat) (w0 : va_W) (σ : OS) (i : Nat) (x : Int64) : (wX4 cy q w0 σ).set 4 (q 3, .inl (cy 1, 5, .inr (.inl (vp_updL (σ.2.2.2 3) i x)))) = wX4 cy q w0 (oT σ 3 i x) := rfl
theorem pa_X4_this_10 (cy : Nat → ClassId) (q : Nat → Nat) (w0 : va_W) (σ : OS) (i : Nat) (x : Int32) : (wX4 cy q w0 σ).set 5 (q 10, .inl (cy 0, 6, .inl (upd (σ.2.2.1 10) i x))) = wX4 cy q w0 (oS σ 10 i x) := rfl
theorem pa_X4_this_11 (cy : Nat → ClassId) (q : Nat → Nat) (w0 : va_W) (σ : OS) (i : Nat) (x : Int32) : (wX4 cy q w0 σ).set 6 (q 11, .inl (cy 0, 160, .inl (upd (σ.2.2.1 11) i x))) = wX4 cy q w0 (oS σ 11 i x) := rfl
def tbX4_allUp : List (Nat × Instr × Nat) := [(0, .lconst 0, 1), (1, .lstore_n 1, 1), (2, .iconst 0, 1), (3, .istore_n 3, 1), (4, .iload_n 3, 1), (5, .aload_n 0, 1), (6, .getfield 43, 3), (9, .if_icmp .ge 18, 3), (12, .lload_n 1, 1), (13, .aload_n 0, 1), (14, .getfield 21, 3), (17, .iload_n 3, 1), (18, .laload, 1), (19, .lor, 1), (20, .lstore_n 1, 1), (21, .iinc 3 1, 3), (24, .goto (-20), 3), (27, .lload_n 1, 1), (28, .lreturn, 1)]
theorem tdX4_allUp : tbX4_allUp.all (fun q => decide (decode cX4_allUp q.1 = .ok q.2)) = true := by decide +kernel
def bX4_allUp_4 (σ : OS)  (kR4 : Int64 × Int32 → Int64) (v : Int64 × Int32) : Int64 := if (σ.1 4) ≤ v.2 then v.1 else kR4 (v.1 ||| (σ.2.2.2 3 v.2.toNatClampNeg), v.2 + 1)
def kX4_allUp_4 (σ : OS)  (kO4 : Int64 × Int32 → Prop) (v : Int64 × Int32) : Prop := ((σ.1 4) ≤ v.2 → True) ∧ (¬ ((σ.1 4) ≤ v.2) → (vp_in v.2 5) ∧ (kO4 (v.1 ||| (σ.2.2.2 3 v.2.toNatClampNeg), v.2 + 1)))
set_option maxHeartbeats 4000000 in
set_option maxRecDepth 100000 in
theorem wX4_allUp_4 {X : CX} {cy : Nat → ClassId} {q : Nat → Nat} {w0 : va_W} {D : va_G} {A : Nat → Prop} {res : Int64} (σ : OS) (C : Cx X cX4_allUp RX4 4 D (gty cy) A 0 0 0) (hR : Rt X (some .long) D (gty cy) A 0 0 (eL (wX4 cy q w0 σ) res)) (kR4 : Int64 × Int32 → Int64) (kO4 : Int64 × Int32 → Prop) (hk4 : ∀ z, kO4 z → kR4 z = res → At X D A 4 0 0 4 [(0, .ref (q 12)), (1, .long z.1), (3, .int z.2)] [] (wX4 cy q w0 σ)) (v : Int64 × Int32) (ok : kX4_allUp_4 σ kO4 v) (h : bX4_allUp_4 σ kR4 v = res) : At X D A 4 0 0 4 [(0, .ref (q 12)), (1, .long v.1), (3, .int v.2)] [] (wX4 cy q w0 σ) := by
  unfold bX4_allUp_4 at h
  unfold kX4_allUp_4 at ok
  refine r_iload_n C 2 (dall tdX4_allUp 4 rfl) rfl ?_
  refine r_aload_n C 0 (dall tdX4_allUp 5 rfl) rfl ?_
  refine r_get C 0 kw_X4 rfl rfl (by decide) kf_X4_43 rfl rfl (dall tdX4_allUp 6 rfl) ?_
  refine r_icmp_ge (tgt := 27) C (dall tdX4_allUp 7 rfl) (by decide) (fun c1 => ?_) (fun c1 => ?_)
  · have h := (if_pos c1).symm.trans h
    have ok := ok.1 c1
    refine r_lload_n C 1 (dall tdX4_allUp 17 rfl) rfl ?_
    exact r_lret C hR (dall tdX4_allUp 18 rfl) (by subst h; exact ⟨rfl, rfl⟩)
  · have h := (if_neg c1).symm.trans h
    have ok := ok.2 c1
    refine r_lload_n C 1 (dall tdX4_allUp 8 rfl) rfl ?_
    refine r_aload_n C 0 (dall tdX4_allUp 9 rfl) rfl ?_
    refine r_get C 0 kw_X4 rfl rfl (by decide) kf_X4_21 rfl rfl (dall tdX4_allUp 10 rfl) ?_
    refine r_iload_n C 2 (dall tdX4_allUp 11 rfl) rfl ?_
    obtain ⟨o2, ok⟩ := ok
    refine r_lald C 4 1 rfl rfl o2 (dall tdX4_allUp 12 rfl) ?_
    refine r_lor C (dall tdX4_allUp 13 rfl) ?_
    refine r_lstore_n (lv' := [(1, .long (v.1 ||| (σ.2.2.2 3 v.2.toNatClampNeg))), (0, .ref (q 12)), (3, .int v.2)]) C (dall tdX4_allUp 14 rfl) (by decide) rfl ?_
    refine r_iinc (v := v.2 + 1) (lv' := [(3, .int (v.2 + 1)), (1, .long (v.1 ||| (σ.2.2.2 3 v.2.toNatClampNeg))), (0, .ref (q 12))]) C 2 (dall tdX4_allUp 15 rfl) rfl rfl (by decide) rfl ?_
    refine r_goto (tgt := 4) C (dall tdX4_allUp 16 rfl) (by decide) ?_
    refine r_pick [2, 1, 0] rfl ?_
    exact hk4 (v.1 ||| (σ.2.2.2 3 v.2.toNatClampNeg), v.2 + 1) ok h
set_option maxHeartbeats 4000000 in
set_option maxRecDepth 100000 in
theorem lX4_allUp_4 {X : CX} {cy : Nat → ClassId} {q : Nat → Nat} {w0 : va_W} {D : va_G} {A : Nat → Prop} {res : Int64} (σ : OS) (C : Cx X cX4_allUp RX4 4 D (gty cy) A 0 0 0) (hR : Rt X (some .long) D (gty cy) A 0 0 (eL (wX4 cy q w0 σ) res))  (n : Nat) (v : Int64 × Int32) (ok : lpOk (kX4_allUp_4 σ ) n v) (h : lp 0 (bX4_allUp_4 σ ) n v = res) : At X D A 4 0 0 4 [(0, .ref (q 12)), (1, .long v.1), (3, .int v.2)] [] (wX4 cy q w0 σ) :=
  lp_rule (fun v rr_ => rr_ = res → At X D A 4 0 0 4 [(0, .ref (q 12)), (1, .long v.1), (3, .int v.2)] [] (wX4 cy q w0 σ)) (fun kR kO hk v ok h => wX4_allUp_4 σ C hR  kR kO hk v ok h) n v ok h
def pX4_allUp_0  (σ : OS) : Int64 := lp 0 (bX4_allUp_4 σ ) fu (0, 0)
def oX4_allUp_0  (σ : OS) : Prop := lpOk (kX4_allUp_4 σ ) fu (0, 0)
set_option maxHeartbeats 4000000 in
set_option maxRecDepth 100000 in
theorem wX4_allUp_0 {X : CX} {cy : Nat → ClassId} {q : Nat → Nat} {w0 : va_W} {D : va_G} {A : Nat → Prop} {res : Int64} (σ : OS) (C : Cx X cX4_allUp RX4 4 D (gty cy) A 0 0 0) (hR : Rt X (some .long) D (gty cy) A 0 0 (eL (wX4 cy q w0 σ) res))  (ok : oX4_allUp_0  σ) (h : pX4_allUp_0  σ = res) : At X D A 4 0 0 0 [(0, .ref (q 12))] [] (wX4 cy q w0 σ) := by
  unfold pX4_allUp_0 at h
  unfold oX4_allUp_0 at ok
  refine r_lconst (v := 0) C (dall tdX4_allUp 0 rfl) (by decide) ?_
  refine r_lstore_n (lv' := [(1, .long 0), (0, .ref (q 12))]) C (dall tdX4_allUp 1 rfl) (by decide) rfl ?_
  refine r_iconst (v := 0) C (dall tdX4_allUp 2 rfl) (by decide) ?_
  refine r_istore_n (lv' := [(3, .int 0), (1, .long 0), (0, .ref (q 12))]) C (dall tdX4_allUp 3 rfl) (by decide) rfl ?_
  refine r_pick [2, 1, 0] rfl ?_
  exact lX4_allUp_4 σ C hR  fu _ ok h
def fX4_allUp (σ : OS) : Int64 := pX4_allUp_0  σ
def gX4_allUp (σ : OS) : Prop := oX4_allUp_0  σ
set_option maxRecDepth 100000 in
theorem zX4_allUp (cy : Nat → ClassId) (q : Nat → Nat) (w0 : va_W)  {D : va_G} (σ : OS) (ok : gX4_allUp σ )  : Con yX4_allUp cX4_allUp 4 (some .long) 0 0 0 D (gty cy) [.ref (q 12)] (wX4 cy q w0 σ) (eL (wX4 cy q w0 σ) (fX4_allUp σ )) :=
  Con.of (own := RX4) (by decide +kernel) rfl (Nat.le_of_ble_eq_true rfl) (Nat.zero_le _) (fun X A C hR _ => (wX4_allUp_0 σ C hR  ok rfl))
theorem mv_X4_allUp : MV yX4_allUp cX4_allUp 4 (some .long) RX4 0 := ⟨ki_X4_allUp, kv_X4_allUp, kn_X4, kc_X4_allUp, by decide +kernel⟩
def tbX4_stands : List (Nat × Instr × Nat) := [(0, .aload_n 0, 1), (1, .getfield 27, 3), (4, .aload_n 0, 1), (5, .invokevirtual 56, 3), (8, .lor, 1), (9, .lreturn, 1)]
theorem tdX4_stands : tbX4_stands.all (fun q => decide (decode cX4_stands q.1 = .ok q.2)) = true := by decide +kernel
def pX4_stands_0  (σ : OS) : Int64 := (σ.2.1 8) ||| (fX4_allUp σ)
def oX4_stands_0  (σ : OS) : Prop := gX4_allUp σ 
set_option maxHeartbeats 4000000 in
set_option maxRecDepth 100000 in
theorem wX4_stands_0 {X : CX} {cy : Nat → ClassId} {q : Nat → Nat} {w0 : va_W} {D : va_G} {A : Nat → Prop} {res : Int64} (σ : OS) (C : Cx X cX4_stands RX4 1 D (gty cy) A 1 0 0) (hR : Rt X (some .long) D (gty cy) A 0 0 (eL (wX4 cy q w0 σ) res))  (ok : oX4_stands_0  σ) (h : pX4_stands_0  σ = res) : At X D A 1 0 0 0 [(0, .ref (q 12))] [] (wX4 cy q w0 σ) := by
  unfold pX4_stands_0 at h
  unfold oX4_stands_0 at ok
  refine r_aload_n C 0 (dall tdX4_stands 0 rfl) rfl ?_
  refine r_get C 0 kw_X4 rfl rfl (by decide) kf_X4_27 rfl rfl (dall tdX4_stands 1 rfl) ?_
  refine r_aload_n C 0 (dall tdX4_stands 2 rfl) rfl ?_
  have o1 := ok
  refine r_vL (as := []) C (zX4_allUp cy q w0 σ  o1) mv_X4_allUp km_X4_56 (by decide) (by decide) ⟨Nat.le_refl _, Nat.le_refl _⟩ rfl rfl rfl rfl (Nat.le_of_ble_eq_true rfl) (dall tdX4_stands 3 rfl) ?_
  refine r_lor C (dall tdX4_stands 4 rfl) ?_
  exact r_lret C hR (dall tdX4_stands 5 rfl) (by subst h; exact ⟨rfl, rfl⟩)
def fX4_stands (σ : OS) : Int64 := pX4_stands_0  σ
def gX4_stands (σ : OS) : Prop := oX4_stands_0  σ
set_option maxRecDepth 100000 in
theorem zX4_stands (cy : Nat → ClassId) (q : Nat → Nat) (w0 : va_W)  {D : va_G} (σ : OS) (ok : gX4_stands σ )  : Con yX4_stands cX4_stands 1 (some .long) 1 0 0 D (gty cy) [.ref (q 12)] (wX4 cy q w0 σ) (eL (wX4 cy q w0 σ) (fX4_stands σ )) :=
  Con.of (own := RX4) (by decide +kernel) rfl (Nat.le_of_ble_eq_true rfl) (Nat.zero_le _) (fun X A C hR _ => (wX4_stands_0 σ C hR  ok rfl))
theorem mv_X4_stands : MV yX4_stands cX4_stands 1 (some .long) RX4 0 := ⟨ki_X4_stands, kv_X4_stands, kn_X4, kc_X4_stands, by decide +kernel⟩
def tbX4_countUp : List (Nat × Instr × Nat) := [(0, .aload_n 0, 1), (1, .invokevirtual 56, 3), (4, .invokestatic 60, 3), (7, .ireturn, 1)]
theorem tdX4_countUp : tbX4_countUp.all (fun q => decide (decode cX4_countUp q.1 = .ok q.2)) = true := by decide +kernel
def pX4_countUp_0  (σ : OS) : Int32 := fJ13_bitCount_95d88 (fX4_allUp σ)
def oX4_countUp_0  (σ : OS) : Prop := gX4_allUp σ 
set_option maxHeartbeats 4000000 in
set_option maxRecDepth 100000 in
theorem wX4_countUp_0 {X : CX} {cy : Nat → ClassId} {q : Nat → Nat} {w0 : va_W} {D : va_G} {A : Nat → Prop} {res : Int32} (σ : OS) (C : Cx X cX4_countUp RX4 1 D (gty cy) A 1 0 0) (hR : Rt X (some .int) D (gty cy) A 0 0 (eI (wX4 cy q w0 σ) res))  (ok : oX4_countUp_0  σ) (h : pX4_countUp_0  σ = res) : At X D A 1 0 0 0 [(0, .ref (q 12))] [] (wX4 cy q w0 σ) := by
  unfold pX4_countUp_0 at h
  unfold oX4_countUp_0 at ok
  refine r_aload_n C 0 (dall tdX4_countUp 0 rfl) rfl ?_
  have o1 := ok
  refine r_vL (as := []) C (zX4_allUp cy q w0 σ  o1) mv_X4_allUp km_X4_56 (by decide) (by decide) ⟨Nat.le_refl _, Nat.le_refl _⟩ rfl rfl rfl rfl (Nat.le_of_ble_eq_true rfl) (dall tdX4_countUp 1 rfl) ?_
  refine r_s0I (as := [.long (fX4_allUp σ)]) C (zJ13_bitCount_95d88 (fX4_allUp σ) ) ms_J13_bitCount_95d88 km_X4_60 (by decide) (by decide) ⟨Nat.le_refl _, Nat.le_refl _⟩ rfl rfl (Nat.le_of_ble_eq_true rfl) (dall tdX4_countUp 2 rfl) ?_
  exact r_iret C hR (dall tdX4_countUp 3 rfl) (by subst h; exact ⟨rfl, rfl⟩)
def fX4_countUp (σ : OS) : Int32 := pX4_countUp_0  σ
def gX4_countUp (σ : OS) : Prop := oX4_countUp_0  σ
set_option maxRecDepth 100000 in
theorem zX4_countUp (cy : Nat → ClassId) (q : Nat → Nat) (w0 : va_W)  {D : va_G} (σ : OS) (ok : gX4_countUp σ )  : Con yX4_countUp cX4_countUp 1 (some .int) 1 0 0 D (gty cy) [.ref (q 12)] (wX4 cy q w0 σ) (eI (wX4 cy q w0 σ) (fX4_countUp σ )) :=
  Con.of (own := RX4) (by decide +kernel) rfl (Nat.le_of_ble_eq_true rfl) (Nat.zero_le _) (fun X A C hR _ => (wX4_countUp_0 σ C hR  ok rfl))
theorem mv_X4_countUp : MV yX4_countUp cX4_countUp 1 (some .int) RX4 0 := ⟨ki_X4_countUp, kv_X4_countUp, kn_X4, kc_X4_countUp, by decide +kernel⟩
def tbX4_whose : List (Nat × Instr × Nat) := [(0, .iconst 0, 1), (1, .istore_n 2, 1), (2, .iload_n 2, 1), (3, .aload_n 0, 1), (4, .getfield 43, 3), (7, .if_icmp .ge 24, 3), (10, .aload_n 0, 1), (11, .getfield 21, 3), (14, .iload_n 2, 1), (15, .laload, 1), (16, .iload_n 1, 1), (17, .invokestatic 66, 3), (20, .ifCond .eq 5, 3), (23, .iload_n 2, 1), (24, .ireturn, 1), (25, .iinc 2 1, 3), (28, .goto (-26), 3), (31, .aload_n 0, 1), (32, .getfield 27, 3), (35, .iload_n 1, 1), (36, .invokestatic 66, 3), (39, .ifCond .eq 8, 3), (42, .bipush 9, 2), (44, .goto 4, 3), (47, .iconst (-1), 1), (48, .ireturn, 1)]
theorem tdX4_whose : tbX4_whose.all (fun q => decide (decode cX4_whose q.1 = .ok q.2)) = true := by decide +kernel
def bX4_whose_2 (σ : OS) (a1_ : Int32)  (kR2 : Int32 → Int32) (v : Int32) : Int32 := if (σ.1 4) ≤ v then if (fX3_has (σ.2.1 8) a1_) = 0 then (-1) else 9 else if (fX3_has (σ.2.2.2 3 v.toNatClampNeg) a1_) = 0 then kR2 (v + 1) else v
def kX4_whose_2 (σ : OS) (a1_ : Int32)  (kO2 : Int32 → Prop) (v : Int32) : Prop := ((σ.1 4) ≤ v → True) ∧ (¬ ((σ.1 4) ≤ v) → (vp_in v 5) ∧ (((fX3_has (σ.2.2.2 3 v.toNatClampNeg) a1_) = 0 → kO2 (v + 1)) ∧ (¬ ((fX3_has (σ.2.2.2 3 v.toNatClampNeg) a1_) = 0) → True)))
set_option maxHeartbeats 4000000 in
set_option maxRecDepth 100000 in
theorem wX4_whose_2 {X : CX} {cy : Nat → ClassId} {q : Nat → Nat} {w0 : va_W} {D : va_G} {A : Nat → Prop} {res : Int32} (σ : OS) (a1_ : Int32) (C : Cx X cX4_whose RX4 3 D (gty cy) A 1 0 0) (hR : Rt X (some .int) D (gty cy) A 0 0 (eI (wX4 cy q w0 σ) res)) (kR2 : Int32 → Int32) (kO2 : Int32 → Prop) (hk2 : ∀ z, kO2 z → kR2 z = res → At X D A 3 0 0 2 [(0, .ref (q 12)), (1, .int a1_), (2, .int z)] [] (wX4 cy q w0 σ)) (v : Int32) (ok : kX4_whose_2 σ a1_ kO2 v) (h : bX4_whose_2 σ a1_ kR2 v = res) : At X D A 3 0 0 2 [(0, .ref (q 12)), (1, .int a1_), (2, .int v)] [] (wX4 cy q w0 σ) := by
  unfold bX4_whose_2 at h
  unfold kX4_whose_2 at ok
  refine r_iload_n C 2 (dall tdX4_whose 2 rfl) rfl ?_
  refine r_aload_n C 0 (dall tdX4_whose 3 rfl) rfl ?_
  refine r_get C 0 kw_X4 rfl rfl (by decide) kf_X4_43 rfl rfl (dall tdX4_whose 4 rfl) ?_
  refine r_icmp_ge (tgt := 31) C (dall tdX4_whose 5 rfl) (by decide) (fun c1 => ?_) (fun c1 => ?_)
  · have h := (if_pos c1).symm.trans h
    have ok := ok.1 c1
    refine r_aload_n C 0 (dall tdX4_whose 17 rfl) rfl ?_
    refine r_get C 0 kw_X4 rfl rfl (by decide) kf_X4_27 rfl rfl (dall tdX4_whose 18 rfl) ?_
    refine r_iload_n C 1 (dall tdX4_whose 19 rfl) rfl ?_
    refine r_s0I (as := [.long (σ.2.1 8), .int a1_]) C (zX3_has (σ.2.1 8) a1_ ) ms_X3_has km_X4_66 (by decide) (by decide) ⟨Nat.le_refl _, Nat.le_refl _⟩ rfl rfl (Nat.le_of_ble_eq_true rfl) (dall tdX4_whose 20 rfl) ?_
    refine r_if_eq (tgt := 47) C (dall tdX4_whose 21 rfl) (by decide) (fun c2 => ?_) (fun c2 => ?_)
    · have h := (if_pos c2).symm.trans h
      refine r_iconst (v := -1) C (dall tdX4_whose 24 rfl) (by decide) ?_
      exact r_iret C hR (dall tdX4_whose 25 rfl) (by subst h; exact ⟨rfl, rfl⟩)
    · have h := (if_neg c2).symm.trans h
      refine r_bipush (v := 9) C (dall tdX4_whose 22 rfl) (by decide) ?_
      refine r_goto (tgt := 48) C (dall tdX4_whose 23 rfl) (by decide) ?_
      exact r_iret C hR (dall tdX4_whose 25 rfl) (by subst h; exact ⟨rfl, rfl⟩)
  · have h := (if_neg c1).symm.trans h
    have ok := ok.2 c1
    refine r_aload_n C 0 (dall tdX4_whose 6 rfl) rfl ?_
    refine r_get C 0 kw_X4 rfl rfl (by decide) kf_X4_21 rfl rfl (dall tdX4_whose 7 rfl) ?_
    refine r_iload_n C 2 (dall tdX4_whose 8 rfl) rfl ?_
    obtain ⟨o3, ok⟩ := ok
    refine r_lald C 4 1 rfl rfl o3 (dall tdX4_whose 9 rfl) ?_
    refine r_iload_n C 1 (dall tdX4_whose 10 rfl) rfl ?_
    refine r_s0I (as := [.long (σ.2.2.2 3 v.toNatClampNeg), .int a1_]) C (zX3_has (σ.2.2.2 3 v.toNatClampNeg) a1_ ) ms_X3_has km_X4_66 (by decide) (by decide) ⟨Nat.le_refl _, Nat.le_refl _⟩ rfl rfl (Nat.le_of_ble_eq_true rfl) (dall tdX4_whose 11 rfl) ?_
    refine r_if_eq (tgt := 25) C (dall tdX4_whose 12 rfl) (by decide) (fun c4 => ?_) (fun c4 => ?_)
    · have h := (if_pos c4).symm.trans h
      have ok := ok.1 c4
      refine r_iinc (v := v + 1) (lv' := [(2, .int (v + 1)), (0, .ref (q 12)), (1, .int a1_)]) C 2 (dall tdX4_whose 15 rfl) rfl rfl (by decide) rfl ?_
      refine r_goto (tgt := 2) C (dall tdX4_whose 16 rfl) (by decide) ?_
      refine r_pick [1, 2, 0] rfl ?_
      exact hk2 (v + 1) ok h
    · have h := (if_neg c4).symm.trans h
      have ok := ok.2 c4
      refine r_iload_n C 2 (dall tdX4_whose 13 rfl) rfl ?_
      exact r_iret C hR (dall tdX4_whose 14 rfl) (by subst h; exact ⟨rfl, rfl⟩)
set_option maxHeartbeats 4000000 in
set_option maxRecDepth 100000 in
theorem lX4_whose_2 {X : CX} {cy : Nat → ClassId} {q : Nat → Nat} {w0 : va_W} {D : va_G} {A : Nat → Prop} {res : Int32} (σ : OS) (a1_ : Int32) (C : Cx X cX4_whose RX4 3 D (gty cy) A 1 0 0) (hR : Rt X (some .int) D (gty cy) A 0 0 (eI (wX4 cy q w0 σ) res))  (n : Nat) (v : Int32) (ok : lpOk (kX4_whose_2 σ a1_ ) n v) (h : lp 0 (bX4_whose_2 σ a1_ ) n v = res) : At X D A 3 0 0 2 [(0, .ref (q 12)), (1, .int a1_), (2, .int v)] [] (wX4 cy q w0 σ) :=
  lp_rule (fun v rr_ => rr_ = res → At X D A 3 0 0 2 [(0, .ref (q 12)), (1, .int a1_), (2, .int v)] [] (wX4 cy q w0 σ)) (fun kR kO hk v ok h => wX4_whose_2 σ a1_ C hR  kR kO hk v ok h) n v ok h
def pX4_whose_0  (σ : OS) (a1_ : Int32) : Int32 := lp 0 (bX4_whose_2 σ a1_ ) fu 0
def oX4_whose_0  (σ : OS) (a1_ : Int32) : Prop := lpOk (kX4_whose_2 σ a1_ ) fu 0
set_option maxHeartbeats 4000000 in
set_option maxRecDepth 100000 in
theorem wX4_whose_0 {X : CX} {cy : Nat → ClassId} {q : Nat → Nat} {w0 : va_W} {D : va_G} {A : Nat → Prop} {res : Int32} (σ : OS) (a1_ : Int32) (C : Cx X cX4_whose RX4 3 D (gty cy) A 1 0 0) (hR : Rt X (some .int) D (gty cy) A 0 0 (eI (wX4 cy q w0 σ) res))  (ok : oX4_whose_0  σ a1_) (h : pX4_whose_0  σ a1_ = res) : At X D A 3 0 0 0 [(0, .ref (q 12)), (1, .int a1_)] [] (wX4 cy q w0 σ) := by
  unfold pX4_whose_0 at h
  unfold oX4_whose_0 at ok
  refine r_iconst (v := 0) C (dall tdX4_whose 0 rfl) (by decide) ?_
  refine r_istore_n (lv' := [(2, .int 0), (0, .ref (q 12)), (1, .int a1_)]) C (dall tdX4_whose 1 rfl) (by decide) rfl ?_
  refine r_pick [1, 2, 0] rfl ?_
  exact lX4_whose_2 σ a1_ C hR  fu _ ok h
def fX4_whose (σ : OS) (a1_ : Int32) : Int32 := pX4_whose_0  σ a1_
def gX4_whose (σ : OS) (a1_ : Int32) : Prop := oX4_whose_0  σ a1_
set_option maxRecDepth 100000 in
theorem zX4_whose (cy : Nat → ClassId) (q : Nat → Nat) (w0 : va_W)  {D : va_G} (σ : OS) (a1_ : Int32) (ok : gX4_whose σ a1_)  : Con yX4_whose cX4_whose 3 (some .int) 1 0 0 D (gty cy) [.ref (q 12), .int a1_] (wX4 cy q w0 σ) (eI (wX4 cy q w0 σ) (fX4_whose σ a1_)) :=
  Con.of (own := RX4) (by decide +kernel) rfl (Nat.le_of_ble_eq_true rfl) (Nat.zero_le _) (fun X A C hR _ => (wX4_whose_0 σ a1_ C hR  ok rfl))
theorem mv_X4_whose : MV yX4_whose cX4_whose 3 (some .int) RX4 1 := ⟨ki_X4_whose, kv_X4_whose, kn_X4, kc_X4_whose, by decide +kernel⟩
def tbX4_dropLoose : List (Nat × Instr × Nat) := [(0, .aload_n 0, 1), (1, .getfield 27, 3), (4, .aload_n 0, 1), (5, .invokevirtual 72, 3), (8, .invokestatic 75, 3), (11, .lstore_n 1, 1), (12, .iconst 0, 1), (13, .istore_n 3, 1), (14, .iload_n 3, 1), (15, .aload_n 0, 1), (16, .getfield 43, 3), (19, .if_icmp .ge 19, 3), (22, .aload_n 0, 1), (23, .getfield 21, 3), (26, .iload_n 3, 1), (27, .dup2, 1), (28, .laload, 1), (29, .lload_n 1, 1), (30, .land, 1), (31, .lastore, 1), (32, .iinc 3 1, 3), (35, .goto (-21), 3), (38, .return_, 1)]
theorem tdX4_dropLoose : tbX4_dropLoose.all (fun q => decide (decode cX4_dropLoose q.1 = .ok q.2)) = true := by decide +kernel
def bX4_dropLoose_14 (a1_ : Int64)  (kR14 : OS × Int32 → OS) (v : OS × Int32) : OS := if (v.1.1 4) ≤ v.2 then v.1 else kR14 (oT v.1 3 v.2.toNatClampNeg ((v.1.2.2.2 3 v.2.toNatClampNeg) &&& a1_), v.2 + 1)
def kX4_dropLoose_14 (a1_ : Int64)  (kO14 : OS × Int32 → Prop) (v : OS × Int32) : Prop := ((v.1.1 4) ≤ v.2 → True) ∧ (¬ ((v.1.1 4) ≤ v.2) → (vp_in v.2 5) ∧ ((vp_in v.2 5) ∧ (kO14 (oT v.1 3 v.2.toNatClampNeg ((v.1.2.2.2 3 v.2.toNatClampNeg) &&& a1_), v.2 + 1))))
set_option maxHeartbeats 4000000 in
set_option maxRecDepth 100000 in
theorem wX4_dropLoose_14 {X : CX} {cy : Nat → ClassId} {q : Nat → Nat} {w0 : va_W} {D : va_G} {A : Nat → Prop} {res : OS} (a1_ : Int64) (C : Cx X cX4_dropLoose RX4 4 D (gty cy) A 2 0 0) (hR : Rt X none D (gty cy) A 0 0 (eV (wX4 cy q w0 res))) (kR14 : OS × Int32 → OS) (kO14 : OS × Int32 → Prop) (hk14 : ∀ z, kO14 z → kR14 z = res → At X D A 4 0 0 14 [(0, .ref (q 12)), (1, .long a1_), (3, .int z.2)] [] (wX4 cy q w0 z.1)) (v : OS × Int32) (ok : kX4_dropLoose_14 a1_ kO14 v) (h : bX4_dropLoose_14 a1_ kR14 v = res) : At X D A 4 0 0 14 [(0, .ref (q 12)), (1, .long a1_), (3, .int v.2)] [] (wX4 cy q w0 v.1) := by
  unfold bX4_dropLoose_14 at h
  unfold kX4_dropLoose_14 at ok
  refine r_iload_n C 2 (dall tdX4_dropLoose 8 rfl) rfl ?_
  refine r_aload_n C 0 (dall tdX4_dropLoose 9 rfl) rfl ?_
  refine r_get C 0 kw_X4 rfl rfl (by decide) kf_X4_43 rfl rfl (dall tdX4_dropLoose 10 rfl) ?_
  refine r_icmp_ge (tgt := 38) C (dall tdX4_dropLoose 11 rfl) (by decide) (fun c1 => ?_) (fun c1 => ?_)
  · have h := (if_pos c1).symm.trans h
    have ok := ok.1 c1
    exact r_vret C hR (dall tdX4_dropLoose 22 rfl) (by subst h; exact ⟨rfl, rfl⟩)
  · have h := (if_neg c1).symm.trans h
    have ok := ok.2 c1
    refine r_aload_n C 0 (dall tdX4_dropLoose 12 rfl) rfl ?_
    refine r_get C 0 kw_X4 rfl rfl (by decide) kf_X4_21 rfl rfl (dall tdX4_dropLoose 13 rfl) ?_
    refine r_iload_n C 2 (dall tdX4_dropLoose 14 rfl) rfl ?_
    refine r_dup2_11 C (dall tdX4_dropLoose 15 rfl) rfl rfl ?_
    obtain ⟨o2, ok⟩ := ok
    refine r_lald C 4 1 rfl rfl o2 (dall tdX4_dropLoose 16 rfl) ?_
    refine r_lload_n C 1 (dall tdX4_dropLoose 17 rfl) rfl ?_
    refine r_land C (dall tdX4_dropLoose 18 rfl) ?_
    obtain ⟨o3, ok⟩ := ok
    refine r_last C 4 1 rfl rfl o3 (pa_X4_this_3 cy q w0 v.1 v.2.toNatClampNeg ((v.1.2.2.2 3 v.2.toNatClampNeg) &&& a1_)) (dall tdX4_dropLoose 19 rfl) ?_
    refine r_iinc (v := v.2 + 1) (lv' := [(3, .int (v.2 + 1)), (0, .ref (q 12)), (1, .long a1_)]) C 2 (dall tdX4_dropLoose 20 rfl) rfl rfl (by decide) rfl ?_
    refine r_goto (tgt := 14) C (dall tdX4_dropLoose 21 rfl) (by decide) ?_
    refine r_pick [1, 2, 0] rfl ?_
    exact hk14 (oT v.1 3 v.2.toNatClampNeg ((v.1.2.2.2 3 v.2.toNatClampNeg) &&& a1_), v.2 + 1) ok h
set_option maxHeartbeats 4000000 in
set_option maxRecDepth 100000 in
theorem lX4_dropLoose_14 {X : CX} {cy : Nat → ClassId} {q : Nat → Nat} {w0 : va_W} {D : va_G} {A : Nat → Prop} {res : OS} (a1_ : Int64) (C : Cx X cX4_dropLoose RX4 4 D (gty cy) A 2 0 0) (hR : Rt X none D (gty cy) A 0 0 (eV (wX4 cy q w0 res)))  (n : Nat) (v : OS × Int32) (ok : lpOk (kX4_dropLoose_14 a1_ ) n v) (h : lp o0 (bX4_dropLoose_14 a1_ ) n v = res) : At X D A 4 0 0 14 [(0, .ref (q 12)), (1, .long a1_), (3, .int v.2)] [] (wX4 cy q w0 v.1) :=
  lp_rule (fun v rr_ => rr_ = res → At X D A 4 0 0 14 [(0, .ref (q 12)), (1, .long a1_), (3, .int v.2)] [] (wX4 cy q w0 v.1)) (fun kR kO hk v ok h => wX4_dropLoose_14 a1_ C hR  kR kO hk v ok h) n v ok h
def pX4_dropLoose_0  (σ : OS) : OS := lp o0 (bX4_dropLoose_14 (fX3_held (σ.2.1 8) (fX4_stands σ)) ) fu (σ, 0)
def oX4_dropLoose_0  (σ : OS) : Prop := (gX4_stands σ ) ∧ ((gX3_held (σ.2.1 8) (fX4_stands σ)) ∧ (lpOk (kX4_dropLoose_14 (fX3_held (σ.2.1 8) (fX4_stands σ)) ) fu (σ, 0)))
set_option maxHeartbeats 4000000 in
set_option maxRecDepth 100000 in
theorem wX4_dropLoose_0 {X : CX} {cy : Nat → ClassId} {q : Nat → Nat} {w0 : va_W} {D : va_G} {A : Nat → Prop} {res : OS} (σ : OS) (C : Cx X cX4_dropLoose RX4 4 D (gty cy) A 2 0 0) (hR : Rt X none D (gty cy) A 0 0 (eV (wX4 cy q w0 res)))  (ok : oX4_dropLoose_0  σ) (h : pX4_dropLoose_0  σ = res) : At X D A 4 0 0 0 [(0, .ref (q 12))] [] (wX4 cy q w0 σ) := by
  unfold pX4_dropLoose_0 at h
  unfold oX4_dropLoose_0 at ok
  refine r_aload_n C 0 (dall tdX4_dropLoose 0 rfl) rfl ?_
  refine r_get C 0 kw_X4 rfl rfl (by decide) kf_X4_27 rfl rfl (dall tdX4_dropLoose 1 rfl) ?_
  refine r_aload_n C 0 (dall tdX4_dropLoose 2 rfl) rfl ?_
  obtain ⟨o4, ok⟩ := ok
  refine r_vL (as := []) C (zX4_stands cy q w0 σ  o4) mv_X4_stands km_X4_72 (by decide) (by decide) ⟨Nat.le_refl _, Nat.le_refl _⟩ rfl rfl rfl rfl (Nat.le_of_ble_eq_true rfl) (dall tdX4_dropLoose 3 rfl) ?_
  obtain ⟨o5, ok⟩ := ok
  refine r_s0L (as := [.long (σ.2.1 8), .long (fX4_stands σ)]) C (zX3_held (σ.2.1 8) (fX4_stands σ) o5) ms_X3_held km_X4_75 (by decide) (by decide) ⟨Nat.le_refl _, Nat.le_refl _⟩ rfl rfl (Nat.le_of_ble_eq_true rfl) (dall tdX4_dropLoose 4 rfl) ?_
  refine r_lstore_n (lv' := [(1, .long (fX3_held (σ.2.1 8) (fX4_stands σ))), (0, .ref (q 12))]) C (dall tdX4_dropLoose 5 rfl) (by decide) rfl ?_
  refine r_iconst (v := 0) C (dall tdX4_dropLoose 6 rfl) (by decide) ?_
  refine r_istore_n (lv' := [(3, .int 0), (1, .long (fX3_held (σ.2.1 8) (fX4_stands σ))), (0, .ref (q 12))]) C (dall tdX4_dropLoose 7 rfl) (by decide) rfl ?_
  refine r_pick [2, 1, 0] rfl ?_
  exact lX4_dropLoose_14 (fX3_held (σ.2.1 8) (fX4_stands σ)) C hR  fu _ ok h
def fX4_dropLoose (σ : OS) : OS := pX4_dropLoose_0  σ
def gX4_dropLoose (σ : OS) : Prop := oX4_dropLoose_0  σ
set_option maxRecDepth 100000 in
theorem zX4_dropLoose (cy : Nat → ClassId) (q : Nat → Nat) (w0 : va_W)  {D : va_G} (σ : OS) (ok : gX4_dropLoose σ )  : Con yX4_dropLoose cX4_dropLoose 4 none 2 0 0 D (gty cy) [.ref (q 12)] (wX4 cy q w0 σ) (eV (wX4 cy q w0 (fX4_dropLoose σ ))) :=
  Con.of (own := RX4) (by decide +kernel) rfl (Nat.le_of_ble_eq_true rfl) (Nat.zero_le _) (fun X A C hR _ => (wX4_dropLoose_0 σ C hR  ok rfl))
theorem mv_X4_dropLoose : MV yX4_dropLoose cX4_dropLoose 4 none RX4 0 := ⟨ki_X4_dropLoose, kv_X4_dropLoose, kn_X4, kc_X4_dropLoose, by decide +kernel⟩
def tbX4_dropCell : List (Nat × Instr × Nat) := [(0, .iconst 0, 1), (1, .istore_n 2, 1), (2, .iload_n 2, 1), (3, .aload_n 0, 1), (4, .getfield 43, 3), (7, .if_icmp .ge 25, 3), (10, .aload_n 0, 1), (11, .getfield 21, 3), (14, .iload_n 2, 1), (15, .dup2, 1), (16, .laload, 1), (17, .lconst 1, 1), (18, .iload_n 1, 1), (19, .lshl, 1), (20, .ldc2_w 79, 3), (23, .lxor, 1), (24, .land, 1), (25, .lastore, 1), (26, .iinc 2 1, 3), (29, .goto (-27), 3), (32, .aload_n 0, 1), (33, .invokevirtual 81, 3), (36, .return_, 1)]
theorem tdX4_dropCell : tbX4_dropCell.all (fun q => decide (decode cX4_dropCell q.1 = .ok q.2)) = true := by decide +kernel
def pX4_dropCell_36  (σ : OS) : OS := σ
set_option maxHeartbeats 4000000 in
set_option maxRecDepth 100000 in
theorem wX4_dropCell_36 {X : CX} {cy : Nat → ClassId} {q : Nat → Nat} {w0 : va_W} {D : va_G} {A : Nat → Prop} {res : OS} (σ : OS) (C : Cx X cX4_dropCell RX4 3 D (gty cy) A 3 0 0) (hR : Rt X none D (gty cy) A 0 0 (eV (wX4 cy q w0 res)))  (h : pX4_dropCell_36  σ = res) : At X D A 3 0 0 36 [] [] (wX4 cy q w0 σ) := by
  unfold pX4_dropCell_36 at h
  exact r_vret C hR (dall tdX4_dropCell 22 rfl) (by subst h; exact ⟨rfl, rfl⟩)
def bX4_dropCell_2 (a1_ : Int32)  (kR2 : OS × Int32 → OS) (v : OS × Int32) : OS := if (v.1.1 4) ≤ v.2 then pX4_dropCell_36  (fX4_dropLoose v.1) else kR2 (oT v.1 3 v.2.toNatClampNeg ((v.1.2.2.2 3 v.2.toNatClampNeg) &&& ((jshl 1 a1_) ^^^ (-1))), v.2 + 1)
def kX4_dropCell_2 (a1_ : Int32)  (kO2 : OS × Int32 → Prop) (v : OS × Int32) : Prop := ((v.1.1 4) ≤ v.2 → gX4_dropLoose v.1 ) ∧ (¬ ((v.1.1 4) ≤ v.2) → (vp_in v.2 5) ∧ ((vp_in v.2 5) ∧ (kO2 (oT v.1 3 v.2.toNatClampNeg ((v.1.2.2.2 3 v.2.toNatClampNeg) &&& ((jshl 1 a1_) ^^^ (-1))), v.2 + 1))))
set_option maxHeartbeats 4000000 in
set_option maxRecDepth 100000 in
theorem wX4_dropCell_2 {X : CX} {cy : Nat → ClassId} {q : Nat → Nat} {w0 : va_W} {D : va_G} {A : Nat → Prop} {res : OS} (a1_ : Int32) (C : Cx X cX4_dropCell RX4 3 D (gty cy) A 3 0 0) (hR : Rt X none D (gty cy) A 0 0 (eV (wX4 cy q w0 res))) (kR2 : OS × Int32 → OS) (kO2 : OS × Int32 → Prop) (hk2 : ∀ z, kO2 z → kR2 z = res → At X D A 3 0 0 2 [(0, .ref (q 12)), (1, .int a1_), (2, .int z.2)] [] (wX4 cy q w0 z.1)) (v : OS × Int32) (ok : kX4_dropCell_2 a1_ kO2 v) (h : bX4_dropCell_2 a1_ kR2 v = res) : At X D A 3 0 0 2 [(0, .ref (q 12)), (1, .int a1_), (2, .int v.2)] [] (wX4 cy q w0 v.1) := by
  unfold bX4_dropCell_2 at h
  unfold kX4_dropCell_2 at ok
  refine r_iload_n C 2 (dall tdX4_dropCell 2 rfl) rfl ?_
  refine r_aload_n C 0 (dall tdX4_dropCell 3 rfl) rfl ?_
  refine r_get C 0 kw_X4 rfl rfl (by decide) kf_X4_43 rfl rfl (dall tdX4_dropCell 4 rfl) ?_
  refine r_icmp_ge (tgt := 32) C (dall tdX4_dropCell 5 rfl) (by decide) (fun c1 => ?_) (fun c1 => ?_)
  · have h := (if_pos c1).symm.trans h
    have ok := ok.1 c1
    refine r_aload_n C 0 (dall tdX4_dropCell 20 rfl) rfl ?_
    have o2 := ok
    refine r_vV (as := []) C (zX4_dropLoose cy q w0 v.1  o2) mv_X4_dropLoose km_X4_81 (by decide) (by decide) ⟨Nat.le_refl _, Nat.le_refl _⟩ rfl rfl rfl rfl (Nat.le_of_ble_eq_true rfl) (dall tdX4_dropCell 21 rfl) ?_
    refine r_pick [] rfl ?_
    exact wX4_dropCell_36 (fX4_dropLoose v.1) C hR  h
  · have h := (if_neg c1).symm.trans h
    have ok := ok.2 c1
    refine r_aload_n C 0 (dall tdX4_dropCell 6 rfl) rfl ?_
    refine r_get C 0 kw_X4 rfl rfl (by decide) kf_X4_21 rfl rfl (dall tdX4_dropCell 7 rfl) ?_
    refine r_iload_n C 2 (dall tdX4_dropCell 8 rfl) rfl ?_
    refine r_dup2_11 C (dall tdX4_dropCell 9 rfl) rfl rfl ?_
    obtain ⟨o3, ok⟩ := ok
    refine r_lald C 4 1 rfl rfl o3 (dall tdX4_dropCell 10 rfl) ?_
    refine r_lconst (v := 1) C (dall tdX4_dropCell 11 rfl) (by decide) ?_
    refine r_iload_n C 1 (dall tdX4_dropCell 12 rfl) rfl ?_
    refine r_lshl C (dall tdX4_dropCell 13 rfl) ?_
    refine r_ldc2 C kk_X4_79 (dall tdX4_dropCell 14 rfl) ?_
    refine r_lxor C (dall tdX4_dropCell 15 rfl) ?_
    refine r_land C (dall tdX4_dropCell 16 rfl) ?_
    obtain ⟨o4, ok⟩ := ok
    refine r_last C 4 1 rfl rfl o4 (pa_X4_this_3 cy q w0 v.1 v.2.toNatClampNeg ((v.1.2.2.2 3 v.2.toNatClampNeg) &&& ((jshl 1 a1_) ^^^ (-1)))) (dall tdX4_dropCell 17 rfl) ?_
    refine r_iinc (v := v.2 + 1) (lv' := [(2, .int (v.2 + 1)), (0, .ref (q 12)), (1, .int a1_)]) C 2 (dall tdX4_dropCell 18 rfl) rfl rfl (by decide) rfl ?_
    refine r_goto (tgt := 2) C (dall tdX4_dropCell 19 rfl) (by decide) ?_
    refine r_pick [1, 2, 0] rfl ?_
    exact hk2 (oT v.1 3 v.2.toNatClampNeg ((v.1.2.2.2 3 v.2.toNatClampNeg) &&& ((jshl 1 a1_) ^^^ (-1))), v.2 + 1) ok h
set_option maxHeartbeats 4000000 in
set_option maxRecDepth 100000 in
theorem lX4_dropCell_2 {X : CX} {cy : Nat → ClassId} {q : Nat → Nat} {w0 : va_W} {D : va_G} {A : Nat → Prop} {res : OS} (a1_ : Int32) (C : Cx X cX4_dropCell RX4 3 D (gty cy) A 3 0 0) (hR : Rt X none D (gty cy) A 0 0 (eV (wX4 cy q w0 res)))  (n : Nat) (v : OS × Int32) (ok : lpOk (kX4_dropCell_2 a1_ ) n v) (h : lp o0 (bX4_dropCell_2 a1_ ) n v = res) : At X D A 3 0 0 2 [(0, .ref (q 12)), (1, .int a1_), (2, .int v.2)] [] (wX4 cy q w0 v.1) :=
  lp_rule (fun v rr_ => rr_ = res → At X D A 3 0 0 2 [(0, .ref (q 12)), (1, .int a1_), (2, .int v.2)] [] (wX4 cy q w0 v.1)) (fun kR kO hk v ok h => wX4_dropCell_2 a1_ C hR  kR kO hk v ok h) n v ok h
def pX4_dropCell_0  (σ : OS) (a1_ : Int32) : OS := lp o0 (bX4_dropCell_2 a1_ ) fu (σ, 0)
def oX4_dropCell_0  (σ : OS) (a1_ : Int32) : Prop := lpOk (kX4_dropCell_2 a1_ ) fu (σ, 0)
set_option maxHeartbeats 4000000 in
set_option maxRecDepth 100000 in
theorem wX4_dropCell_0 {X : CX} {cy : Nat → ClassId} {q : Nat → Nat} {w0 : va_W} {D : va_G} {A : Nat → Prop} {res : OS} (σ : OS) (a1_ : Int32) (C : Cx X cX4_dropCell RX4 3 D (gty cy) A 3 0 0) (hR : Rt X none D (gty cy) A 0 0 (eV (wX4 cy q w0 res)))  (ok : oX4_dropCell_0  σ a1_) (h : pX4_dropCell_0  σ a1_ = res) : At X D A 3 0 0 0 [(0, .ref (q 12)), (1, .int a1_)] [] (wX4 cy q w0 σ) := by
  unfold pX4_dropCell_0 at h
  unfold oX4_dropCell_0 at ok
  refine r_iconst (v := 0) C (dall tdX4_dropCell 0 rfl) (by decide) ?_
  refine r_istore_n (lv' := [(2, .int 0), (0, .ref (q 12)), (1, .int a1_)]) C (dall tdX4_dropCell 1 rfl) (by decide) rfl ?_
  refine r_pick [1, 2, 0] rfl ?_
  exact lX4_dropCell_2 a1_ C hR  fu _ ok h
def fX4_dropCell (σ : OS) (a1_ : Int32) : OS := pX4_dropCell_0  σ a1_
def gX4_dropCell (σ : OS) (a1_ : Int32) : Prop := oX4_dropCell_0  σ a1_
set_option maxRecDepth 100000 in
theorem zX4_dropCell (cy : Nat → ClassId) (q : Nat → Nat) (w0 : va_W)  {D : va_G} (σ : OS) (a1_ : Int32) (ok : gX4_dropCell σ a1_)  : Con yX4_dropCell cX4_dropCell 3 none 3 0 0 D (gty cy) [.ref (q 12), .int a1_] (wX4 cy q w0 σ) (eV (wX4 cy q w0 (fX4_dropCell σ a1_))) :=
  Con.of (own := RX4) (by decide +kernel) rfl (Nat.le_of_ble_eq_true rfl) (Nat.zero_le _) (fun X A C hR _ => (wX4_dropCell_0 σ a1_ C hR  ok rfl))
theorem mv_X4_dropCell : MV yX4_dropCell cX4_dropCell 3 none RX4 1 := ⟨ki_X4_dropCell, kv_X4_dropCell, kn_X4, kc_X4_dropCell, by decide +kernel⟩
def tbX4_highestCell : List (Nat × Instr × Nat) := [(0, .bipush 63, 2), (2, .aload_n 0, 1), (3, .getfield 21, 3), (6, .iload_n 1, 1), (7, .laload, 1), (8, .invokestatic 84, 3), (11, .isub, 1), (12, .ireturn, 1)]
theorem tdX4_highestCell : tbX4_highestCell.all (fun q => decide (decode cX4_highestCell q.1 = .ok q.2)) = true := by decide +kernel
def pX4_highestCell_0  (σ : OS) (a1_ : Int32) : Int32 := 63 - (fJ13_numberOfLeadingZeros_95d88 (σ.2.2.2 3 a1_.toNatClampNeg))
def oX4_highestCell_0  (σ : OS) (a1_ : Int32) : Prop := vp_in a1_ 5
set_option maxHeartbeats 4000000 in
set_option maxRecDepth 100000 in
theorem wX4_highestCell_0 {X : CX} {cy : Nat → ClassId} {q : Nat → Nat} {w0 : va_W} {D : va_G} {A : Nat → Prop} {res : Int32} (σ : OS) (a1_ : Int32) (C : Cx X cX4_highestCell RX4 2 D (gty cy) A 2 0 0) (hR : Rt X (some .int) D (gty cy) A 0 0 (eI (wX4 cy q w0 σ) res))  (ok : oX4_highestCell_0  σ a1_) (h : pX4_highestCell_0  σ a1_ = res) : At X D A 2 0 0 0 [(0, .ref (q 12)), (1, .int a1_)] [] (wX4 cy q w0 σ) := by
  unfold pX4_highestCell_0 at h
  unfold oX4_highestCell_0 at ok
  refine r_bipush (v := 63) C (dall tdX4_highestCell 0 rfl) (by decide) ?_
  refine r_aload_n C 0 (dall tdX4_highestCell 1 rfl) rfl ?_
  refine r_get C 0 kw_X4 rfl rfl (by decide) kf_X4_21 rfl rfl (dall tdX4_highestCell 2 rfl) ?_
  refine r_iload_n C 1 (dall tdX4_highestCell 3 rfl) rfl ?_
  have o1 := ok
  refine r_lald C 4 1 rfl rfl o1 (dall tdX4_highestCell 4 rfl) ?_
  refine r_s0I (as := [.long (σ.2.2.2 3 a1_.toNatClampNeg)]) C (zJ13_numberOfLeadingZeros_95d88 (σ.2.2.2 3 a1_.toNatClampNeg) ) ms_J13_numberOfLeadingZeros_95d88 km_X4_84 (by decide) (by decide) ⟨Nat.le_refl _, Nat.le_refl _⟩ rfl rfl (Nat.le_of_ble_eq_true rfl) (dall tdX4_highestCell 5 rfl) ?_
  refine r_isub C (dall tdX4_highestCell 6 rfl) ?_
  exact r_iret C hR (dall tdX4_highestCell 7 rfl) (by subst h; exact ⟨rfl, rfl⟩)
def fX4_highestCell (σ : OS) (a1_ : Int32) : Int32 := pX4_highestCell_0  σ a1_
def gX4_highestCell (σ : OS) (a1_ : Int32) : Prop := oX4_highestCell_0  σ a1_
set_option maxRecDepth 100000 in
theorem zX4_highestCell (cy : Nat → ClassId) (q : Nat → Nat) (w0 : va_W)  {D : va_G} (σ : OS) (a1_ : Int32) (ok : gX4_highestCell σ a1_)  : Con yX4_highestCell cX4_highestCell 2 (some .int) 2 0 0 D (gty cy) [.ref (q 12), .int a1_] (wX4 cy q w0 σ) (eI (wX4 cy q w0 σ) (fX4_highestCell σ a1_)) :=
  Con.of (own := RX4) (by decide +kernel) rfl (Nat.le_of_ble_eq_true rfl) (Nat.zero_le _) (fun X A C hR _ => (wX4_highestCell_0 σ a1_ C hR  ok rfl))
theorem mv_X4_highestCell : MV yX4_highestCell cX4_highestCell 2 (some .int) RX4 1 := ⟨ki_X4_highestCell, kv_X4_highestCell, kn_X4, kc_X4_highestCell, by decide +kernel⟩
def tbX4_fallWithout : List (Nat × Instr × Nat) := [(0, .aload_n 0, 1), (1, .invokevirtual 72, 3), (4, .lconst 1, 1), (5, .iload_n 1, 1), (6, .lshl, 1), (7, .ldc2_w 79, 3), (10, .lxor, 1), (11, .land, 1), (12, .lstore_n 2, 1), (13, .lload_n 2, 1), (14, .aload_n 0, 1), (15, .getfield 27, 3), (18, .lload_n 2, 1), (19, .invokestatic 75, 3), (22, .ldc2_w 79, 3), (25, .lxor, 1), (26, .land, 1), (27, .invokestatic 60, 3), (30, .ireturn, 1)]
theorem tdX4_fallWithout : tbX4_fallWithout.all (fun q => decide (decode cX4_fallWithout q.1 = .ok q.2)) = true := by decide +kernel
def pX4_fallWithout_0  (σ : OS) (a1_ : Int32) : Int32 := fJ13_bitCount_95d88 (((fX4_stands σ) &&& ((jshl 1 a1_) ^^^ (-1))) &&& ((fX3_held (σ.2.1 8) ((fX4_stands σ) &&& ((jshl 1 a1_) ^^^ (-1)))) ^^^ (-1)))
def oX4_fallWithout_0  (σ : OS) (a1_ : Int32) : Prop := (gX4_stands σ ) ∧ (gX3_held (σ.2.1 8) ((fX4_stands σ) &&& ((jshl 1 a1_) ^^^ (-1))))
set_option maxHeartbeats 4000000 in
set_option maxRecDepth 100000 in
theorem wX4_fallWithout_0 {X : CX} {cy : Nat → ClassId} {q : Nat → Nat} {w0 : va_W} {D : va_G} {A : Nat → Prop} {res : Int32} (σ : OS) (a1_ : Int32) (C : Cx X cX4_fallWithout RX4 4 D (gty cy) A 2 0 0) (hR : Rt X (some .int) D (gty cy) A 0 0 (eI (wX4 cy q w0 σ) res))  (ok : oX4_fallWithout_0  σ a1_) (h : pX4_fallWithout_0  σ a1_ = res) : At X D A 4 0 0 0 [(0, .ref (q 12)), (1, .int a1_)] [] (wX4 cy q w0 σ) := by
  unfold pX4_fallWithout_0 at h
  unfold oX4_fallWithout_0 at ok
  refine r_aload_n C 0 (dall tdX4_fallWithout 0 rfl) rfl ?_
  obtain ⟨o1, ok⟩ := ok
  refine r_vL (as := []) C (zX4_stands cy q w0 σ  o1) mv_X4_stands km_X4_72 (by decide) (by decide) ⟨Nat.le_refl _, Nat.le_refl _⟩ rfl rfl rfl rfl (Nat.le_of_ble_eq_true rfl) (dall tdX4_fallWithout 1 rfl) ?_
  refine r_lconst (v := 1) C (dall tdX4_fallWithout 2 rfl) (by decide) ?_
  refine r_iload_n C 1 (dall tdX4_fallWithout 3 rfl) rfl ?_
  refine r_lshl C (dall tdX4_fallWithout 4 rfl) ?_
  refine r_ldc2 C kk_X4_79 (dall tdX4_fallWithout 5 rfl) ?_
  refine r_lxor C (dall tdX4_fallWithout 6 rfl) ?_
  refine r_land C (dall tdX4_fallWithout 7 rfl) ?_
  refine r_lstore_n (lv' := [(2, .long ((fX4_stands σ) &&& ((jshl 1 a1_) ^^^ (-1)))), (0, .ref (q 12)), (1, .int a1_)]) C (dall tdX4_fallWithout 8 rfl) (by decide) rfl ?_
  refine r_lload_n C 0 (dall tdX4_fallWithout 9 rfl) rfl ?_
  refine r_aload_n C 1 (dall tdX4_fallWithout 10 rfl) rfl ?_
  refine r_get C 0 kw_X4 rfl rfl (by decide) kf_X4_27 rfl rfl (dall tdX4_fallWithout 11 rfl) ?_
  refine r_lload_n C 0 (dall tdX4_fallWithout 12 rfl) rfl ?_
  have o2 := ok
  refine r_s0L (as := [.long (σ.2.1 8), .long ((fX4_stands σ) &&& ((jshl 1 a1_) ^^^ (-1)))]) C (zX3_held (σ.2.1 8) ((fX4_stands σ) &&& ((jshl 1 a1_) ^^^ (-1))) o2) ms_X3_held km_X4_75 (by decide) (by decide) ⟨Nat.le_refl _, Nat.le_refl _⟩ rfl rfl (Nat.le_of_ble_eq_true rfl) (dall tdX4_fallWithout 13 rfl) ?_
  refine r_ldc2 C kk_X4_79 (dall tdX4_fallWithout 14 rfl) ?_
  refine r_lxor C (dall tdX4_fallWithout 15 rfl) ?_
  refine r_land C (dall tdX4_fallWithout 16 rfl) ?_
  refine r_s0I (as := [.long (((fX4_stands σ) &&& ((jshl 1 a1_) ^^^ (-1))) &&& ((fX3_held (σ.2.1 8) ((fX4_stands σ) &&& ((jshl 1 a1_) ^^^ (-1)))) ^^^ (-1)))]) C (zJ13_bitCount_95d88 (((fX4_stands σ) &&& ((jshl 1 a1_) ^^^ (-1))) &&& ((fX3_held (σ.2.1 8) ((fX4_stands σ) &&& ((jshl 1 a1_) ^^^ (-1)))) ^^^ (-1))) ) ms_J13_bitCount_95d88 km_X4_60 (by decide) (by decide) ⟨Nat.le_refl _, Nat.le_refl _⟩ rfl rfl (Nat.le_of_ble_eq_true rfl) (dall tdX4_fallWithout 17 rfl) ?_
  exact r_iret C hR (dall tdX4_fallWithout 18 rfl) (by subst h; exact ⟨rfl, rfl⟩)
def fX4_fallWithout (σ : OS) (a1_ : Int32) : Int32 := pX4_fallWithout_0  σ a1_
def gX4_fallWithout (σ : OS) (a1_ : Int32) : Prop := oX4_fallWithout_0  σ a1_
set_option maxRecDepth 100000 in
theorem zX4_fallWithout (cy : Nat → ClassId) (q : Nat → Nat) (w0 : va_W)  {D : va_G} (σ : OS) (a1_ : Int32) (ok : gX4_fallWithout σ a1_)  : Con yX4_fallWithout cX4_fallWithout 4 (some .int) 2 0 0 D (gty cy) [.ref (q 12), .int a1_] (wX4 cy q w0 σ) (eI (wX4 cy q w0 σ) (fX4_fallWithout σ a1_)) :=
  Con.of (own := RX4) (by decide +kernel) rfl (Nat.le_of_ble_eq_true rfl) (Nat.zero_le _) (fun X A C hR _ => (wX4_fallWithout_0 σ a1_ C hR  ok rfl))
theorem mv_X4_fallWithout : MV yX4_fallWithout cX4_fallWithout 4 (some .int) RX4 1 := ⟨ki_X4_fallWithout, kv_X4_fallWithout, kn_X4, kc_X4_fallWithout, by decide +kernel⟩

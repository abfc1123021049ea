def tbX6_in : List (Nat × Instr × Nat) := [(0, .lload_n 0, 1), (1, .lload_n 2, 1), (2, .lcmp, 1), (3, .ifCond .lt 14, 3), (6, .lload_n 0, 1), (7, .lload 4, 2), (9, .lcmp, 1), (10, .ifCond .gt 7, 3), (13, .iconst 1, 1), (14, .goto 4, 3), (17, .iconst 0, 1), (18, .ireturn, 1)]
theorem tdX6_in : tbX6_in.all (fun q => decide (decode cX6_in q.1 = .ok q.2)) = true := by decide +kernel
def pX6_in_0  (a0_ : Int64) (a2_ : Int64) (a4_ : Int64) : Int32 := if a0_ < a2_ then 0 else if a4_ < a0_ then 0 else 1
set_option maxHeartbeats 4000000 in
set_option maxRecDepth 100000 in
theorem wX6_in_0 {X : CX} {tys : List (ClassId × FieldType)} {D : va_G} {A : Nat → Prop} {res : Int32} (a0_ : Int64) (a2_ : Int64) (a4_ : Int64) (C : Cx X cX6_in RX6 6 D tys A 0 0 0) (hR : Rt X (some .boolean) D tys A 0 0 (eI ([]) res))  (h : pX6_in_0  a0_ a2_ a4_ = res) : At X D A 6 0 0 0 [(0, .long a0_), (2, .long a2_), (4, .long a4_)] [] (([] : va_W)) := by
  unfold pX6_in_0 at h
  refine r_lload_n C 0 (dall tdX6_in 0 rfl) rfl ?_
  refine r_lload_n C 1 (dall tdX6_in 1 rfl) rfl ?_
  refine r_lif_lt (tgt := 17) C (dall tdX6_in 2 rfl) (dall tdX6_in 3 rfl) (by decide) (fun c1 => ?_) (fun c1 => ?_)
  · have h := (if_pos c1).symm.trans h
    refine r_iconst (v := 0) C (dall tdX6_in 10 rfl) (by decide) ?_
    exact r_zret C (by decide) hR (dall tdX6_in 11 rfl) (by subst h; exact ⟨rfl, rfl⟩)
  · have h := (if_neg c1).symm.trans h
    refine r_lload_n C 0 (dall tdX6_in 4 rfl) rfl ?_
    refine r_lload C 2 (dall tdX6_in 5 rfl) rfl ?_
    refine r_lif_gt (tgt := 17) C (dall tdX6_in 6 rfl) (dall tdX6_in 7 rfl) (by decide) (fun c2 => ?_) (fun c2 => ?_)
    · have h := (if_pos c2).symm.trans h
      refine r_iconst (v := 0) C (dall tdX6_in 10 rfl) (by decide) ?_
      exact r_zret C (by decide) hR (dall tdX6_in 11 rfl) (by subst h; exact ⟨rfl, rfl⟩)
    · have h := (if_neg c2).symm.trans h
      refine r_iconst (v := 1) C (dall tdX6_in 8 rfl) (by decide) ?_
      refine r_goto (tgt := 18) C (dall tdX6_in 9 rfl) (by decide) ?_
      exact r_zret C (by decide) hR (dall tdX6_in 11 rfl) (by subst h; exact ⟨rfl, rfl⟩)
def fX6_in (a0_ : Int64) (a2_ : Int64) (a4_ : Int64) : Int32 := pX6_in_0  a0_ a2_ a4_
set_option maxRecDepth 100000 in
theorem zX6_in  {D : va_G} (a0_ : Int64) (a2_ : Int64) (a4_ : Int64)  {tys : List (ClassId × FieldType)} : Con yX6_in cX6_in 6 (some .boolean) 0 0 0 D tys [.long a0_, .long a2_, .long a4_] ([]) (eI ([]) (fX6_in a0_ a2_ a4_)) :=
  Con.of (own := RX6) (by decide +kernel) rfl (Nat.le_of_ble_eq_true rfl) (Nat.zero_le _) (fun X A C hR _ => (wX6_in_0 a0_ a2_ a4_ C hR  rfl))
theorem ms_X6_in : MS_ yX6_in cX6_in 6 (some .boolean) 3 := ⟨ks_X6_in, kn_X6, kc_X6_in, by decide +kernel⟩
def tbX6_within : List (Nat × Instr × Nat) := [(0, .iload_n 0, 1), (1, .iload_n 1, 1), (2, .if_icmp .ge 7, 3), (5, .iload_n 1, 1), (6, .goto 13, 3), (9, .iload_n 0, 1), (10, .iload_n 2, 1), (11, .if_icmp .le 7, 3), (14, .iload_n 2, 1), (15, .goto 4, 3), (18, .iload_n 0, 1), (19, .ireturn, 1)]
theorem tdX6_within : tbX6_within.all (fun q => decide (decode cX6_within q.1 = .ok q.2)) = true := by decide +kernel
def pX6_within_0  (a0_ : Int32) (a1_ : Int32) (a2_ : Int32) : Int32 := if a1_ ≤ a0_ then if a0_ ≤ a2_ then a0_ else a2_ else a1_
set_option maxHeartbeats 4000000 in
set_option maxRecDepth 100000 in
theorem wX6_within_0 {X : CX} {tys : List (ClassId × FieldType)} {D : va_G} {A : Nat → Prop} {res : Int32} (a0_ : Int32) (a1_ : Int32) (a2_ : Int32) (C : Cx X cX6_within RX6 3 D tys A 0 0 0) (hR : Rt X (some .int) D tys A 0 0 (eI ([]) res))  (h : pX6_within_0  a0_ a1_ a2_ = res) : At X D A 3 0 0 0 [(0, .int a0_), (1, .int a1_), (2, .int a2_)] [] (([] : va_W)) := by
  unfold pX6_within_0 at h
  refine r_iload_n C 0 (dall tdX6_within 0 rfl) rfl ?_
  refine r_iload_n C 1 (dall tdX6_within 1 rfl) rfl ?_
  refine r_icmp_ge (tgt := 9) C (dall tdX6_within 2 rfl) (by decide) (fun c1 => ?_) (fun c1 => ?_)
  · have h := (if_pos c1).symm.trans h
    refine r_iload_n C 0 (dall tdX6_within 5 rfl) rfl ?_
    refine r_iload_n C 2 (dall tdX6_within 6 rfl) rfl ?_
    refine r_icmp_le (tgt := 18) C (dall tdX6_within 7 rfl) (by decide) (fun c2 => ?_) (fun c2 => ?_)
    · have h := (if_pos c2).symm.trans h
      refine r_iload_n C 0 (dall tdX6_within 10 rfl) rfl ?_
      exact r_iret C hR (dall tdX6_within 11 rfl) (by subst h; exact ⟨rfl, rfl⟩)
    · have h := (if_neg c2).symm.trans h
      refine r_iload_n C 2 (dall tdX6_within 8 rfl) rfl ?_
      refine r_goto (tgt := 19) C (dall tdX6_within 9 rfl) (by decide) ?_
      exact r_iret C hR (dall tdX6_within 11 rfl) (by subst h; exact ⟨rfl, rfl⟩)
  · have h := (if_neg c1).symm.trans h
    refine r_iload_n C 1 (dall tdX6_within 3 rfl) rfl ?_
    refine r_goto (tgt := 19) C (dall tdX6_within 4 rfl) (by decide) ?_
    exact r_iret C hR (dall tdX6_within 11 rfl) (by subst h; exact ⟨rfl, rfl⟩)
def fX6_within (a0_ : Int32) (a1_ : Int32) (a2_ : Int32) : Int32 := pX6_within_0  a0_ a1_ a2_
set_option maxRecDepth 100000 in
theorem zX6_within  {D : va_G} (a0_ : Int32) (a1_ : Int32) (a2_ : Int32)  {tys : List (ClassId × FieldType)} : Con yX6_within cX6_within 3 (some .int) 0 0 0 D tys [.int a0_, .int a1_, .int a2_] ([]) (eI ([]) (fX6_within a0_ a1_ a2_)) :=
  Con.of (own := RX6) (by decide +kernel) rfl (Nat.le_of_ble_eq_true rfl) (Nat.zero_le _) (fun X A C hR _ => (wX6_within_0 a0_ a1_ a2_ C hR  rfl))
theorem ms_X6_within : MS_ yX6_within cX6_within 3 (some .int) 3 := ⟨ks_X6_within, kn_X6, kc_X6_within, by decide +kernel⟩
def tbX6_isCell : List (Nat × Instr × Nat) := [(0, .iload_n 0, 1), (1, .i2l, 1), (2, .lconst 0, 1), (3, .ldc2_w 78, 3), (6, .invokestatic 74, 3), (9, .ireturn, 1)]
theorem tdX6_isCell : tbX6_isCell.all (fun q => decide (decode cX6_isCell q.1 = .ok q.2)) = true := by decide +kernel
def pX6_isCell_0  (a0_ : Int32) : Int32 := fX6_in a0_.toInt64 0 (63)
def oX6_isCell_0  (a0_ : Int32) : Prop := narrow .boolean (.int (fX6_in a0_.toInt64 0 (63))) = .int (fX6_in a0_.toInt64 0 (63))
set_option maxHeartbeats 4000000 in
set_option maxRecDepth 100000 in
theorem wX6_isCell_0 {X : CX} {tys : List (ClassId × FieldType)} {D : va_G} {A : Nat → Prop} {res : Int32} (a0_ : Int32) (C : Cx X cX6_isCell RX6 1 D tys A 1 0 0) (hR : Rt X (some .boolean) D tys A 0 0 (eI ([]) res))  (ok : oX6_isCell_0  a0_) (h : pX6_isCell_0  a0_ = res) : At X D A 1 0 0 0 [(0, .int a0_)] [] (([] : va_W)) := by
  unfold pX6_isCell_0 at h
  unfold oX6_isCell_0 at ok
  refine r_iload_n C 0 (dall tdX6_isCell 0 rfl) rfl ?_
  refine r_i2l C (dall tdX6_isCell 1 rfl) ?_
  refine r_lconst (v := 0) C (dall tdX6_isCell 2 rfl) (by decide) ?_
  refine r_ldc2 C kk_X6_78 (dall tdX6_isCell 3 rfl) ?_
  refine r_s0I (as := [.long a0_.toInt64, .long 0, .long (63)]) C (zX6_in a0_.toInt64 0 (63) ) ms_X6_in km_X6_74 (by decide) (by decide) ⟨Nat.le_refl _, Nat.le_refl _⟩ rfl rfl (Nat.le_of_ble_eq_true rfl) (dall tdX6_isCell 4 rfl) ?_
  have o1 := ok
  exact r_zret C o1 hR (dall tdX6_isCell 5 rfl) (by subst h; exact ⟨rfl, rfl⟩)
def fX6_isCell (a0_ : Int32) : Int32 := pX6_isCell_0  a0_
def gX6_isCell (a0_ : Int32) : Prop := oX6_isCell_0  a0_
set_option maxRecDepth 100000 in
theorem zX6_isCell  {D : va_G} (a0_ : Int32) (ok : gX6_isCell a0_)  {tys : List (ClassId × FieldType)} : Con yX6_isCell cX6_isCell 1 (some .boolean) 1 0 0 D tys [.int a0_] ([]) (eI ([]) (fX6_isCell a0_)) :=
  Con.of (own := RX6) (by decide +kernel) rfl (Nat.le_of_ble_eq_true rfl) (Nat.zero_le _) (fun X A C hR _ => (wX6_isCell_0 a0_ C hR  ok rfl))
theorem ms_X6_isCell : MS_ yX6_isCell cX6_isCell 1 (some .boolean) 1 := ⟨ks_X6_isCell, kn_X6, kc_X6_isCell, by decide +kernel⟩
def tbX6_bitsOf : List (Nat × Instr × Nat) := [(0, .iconst 0, 1), (1, .istore_n 2, 1), (2, .lload_n 0, 1), (3, .lstore_n 3, 1), (4, .lload_n 3, 1), (5, .lconst 0, 1), (6, .lcmp, 1), (7, .ifCond .eq 15, 3), (10, .iinc 2 1, 3), (13, .lload_n 3, 1), (14, .lload_n 3, 1), (15, .lconst 1, 1), (16, .lsub, 1), (17, .land, 1), (18, .lstore_n 3, 1), (19, .goto (-15), 3), (22, .iload_n 2, 1), (23, .ireturn, 1)]
theorem tdX6_bitsOf : tbX6_bitsOf.all (fun q => decide (decode cX6_bitsOf q.1 = .ok q.2)) = true := by decide +kernel
def bX6_bitsOf_4   (kR4 : Int32 × Int64 → Int32) (v : Int32 × Int64) : Int32 := if v.2 = 0 then v.1 else kR4 (v.1 + 1, v.2 &&& (v.2 - 1))
def kX6_bitsOf_4   (kO4 : Int32 × Int64 → Prop) (v : Int32 × Int64) : Prop := (v.2 = 0 → True) ∧ (¬ (v.2 = 0) → kO4 (v.1 + 1, v.2 &&& (v.2 - 1)))
set_option maxHeartbeats 4000000 in
set_option maxRecDepth 100000 in
theorem wX6_bitsOf_4 {X : CX} {tys : List (ClassId × FieldType)} {D : va_G} {A : Nat → Prop} {res : Int32}  (C : Cx X cX6_bitsOf RX6 5 D tys A 0 0 0) (hR : Rt X (some .int) D tys A 0 0 (eI ([]) res)) (kR4 : Int32 × Int64 → Int32) (kO4 : Int32 × Int64 → Prop) (hk4 : ∀ z, kO4 z → kR4 z = res → At X D A 5 0 0 4 [(2, .int z.1), (3, .long z.2)] [] (([] : va_W))) (v : Int32 × Int64) (ok : kX6_bitsOf_4  kO4 v) (h : bX6_bitsOf_4  kR4 v = res) : At X D A 5 0 0 4 [(2, .int v.1), (3, .long v.2)] [] (([] : va_W)) := by
  unfold bX6_bitsOf_4 at h
  unfold kX6_bitsOf_4 at ok
  refine r_lload_n C 1 (dall tdX6_bitsOf 4 rfl) rfl ?_
  refine r_lconst (v := 0) C (dall tdX6_bitsOf 5 rfl) (by decide) ?_
  refine r_lif_eq (tgt := 22) C (dall tdX6_bitsOf 6 rfl) (dall tdX6_bitsOf 7 rfl) (by decide) (fun c1 => ?_) (fun c1 => ?_)
  · have h := (if_pos c1).symm.trans h
    have ok := ok.1 c1
    refine r_iload_n C 0 (dall tdX6_bitsOf 16 rfl) rfl ?_
    exact r_iret C hR (dall tdX6_bitsOf 17 rfl) (by subst h; exact ⟨rfl, rfl⟩)
  · have h := (if_neg c1).symm.trans h
    have ok := ok.2 c1
    refine r_iinc (v := v.1 + 1) (lv' := [(2, .int (v.1 + 1)), (3, .long v.2)]) C 0 (dall tdX6_bitsOf 8 rfl) rfl rfl (by decide) rfl ?_
    refine r_lload_n C 1 (dall tdX6_bitsOf 9 rfl) rfl ?_
    refine r_lload_n C 1 (dall tdX6_bitsOf 10 rfl) rfl ?_
    refine r_lconst (v := 1) C (dall tdX6_bitsOf 11 rfl) (by decide) ?_
    refine r_lsub C (dall tdX6_bitsOf 12 rfl) ?_
    refine r_land C (dall tdX6_bitsOf 13 rfl) ?_
    refine r_lstore_n (lv' := [(3, .long (v.2 &&& (v.2 - 1))), (2, .int (v.1 + 1))]) C (dall tdX6_bitsOf 14 rfl) (by decide) rfl ?_
    refine r_goto (tgt := 4) C (dall tdX6_bitsOf 15 rfl) (by decide) ?_
    refine r_pick [1, 0] rfl ?_
    exact hk4 (v.1 + 1, v.2 &&& (v.2 - 1)) ok h
set_option maxHeartbeats 4000000 in
set_option maxRecDepth 100000 in
theorem lX6_bitsOf_4 {X : CX} {tys : List (ClassId × FieldType)} {D : va_G} {A : Nat → Prop} {res : Int32}  (C : Cx X cX6_bitsOf RX6 5 D tys A 0 0 0) (hR : Rt X (some .int) D tys A 0 0 (eI ([]) res))  (n : Nat) (v : Int32 × Int64) (ok : lpOk (kX6_bitsOf_4  ) n v) (h : lp 0 (bX6_bitsOf_4  ) n v = res) : At X D A 5 0 0 4 [(2, .int v.1), (3, .long v.2)] [] (([] : va_W)) :=
  lp_rule (fun v rr_ => rr_ = res → At X D A 5 0 0 4 [(2, .int v.1), (3, .long v.2)] [] (([] : va_W))) (fun kR kO hk v ok h => wX6_bitsOf_4  C hR  kR kO hk v ok h) n v ok h
def pX6_bitsOf_0  (a0_ : Int64) : Int32 := lp 0 (bX6_bitsOf_4  ) fu (0, a0_)
def oX6_bitsOf_0  (a0_ : Int64) : Prop := lpOk (kX6_bitsOf_4  ) fu (0, a0_)
set_option maxHeartbeats 4000000 in
set_option maxRecDepth 100000 in
theorem wX6_bitsOf_0 {X : CX} {tys : List (ClassId × FieldType)} {D : va_G} {A : Nat → Prop} {res : Int32} (a0_ : Int64) (C : Cx X cX6_bitsOf RX6 5 D tys A 0 0 0) (hR : Rt X (some .int) D tys A 0 0 (eI ([]) res))  (ok : oX6_bitsOf_0  a0_) (h : pX6_bitsOf_0  a0_ = res) : At X D A 5 0 0 0 [(0, .long a0_)] [] (([] : va_W)) := by
  unfold pX6_bitsOf_0 at h
  unfold oX6_bitsOf_0 at ok
  refine r_iconst (v := 0) C (dall tdX6_bitsOf 0 rfl) (by decide) ?_
  refine r_istore_n (lv' := [(2, .int 0), (0, .long a0_)]) C (dall tdX6_bitsOf 1 rfl) (by decide) rfl ?_
  refine r_lload_n C 1 (dall tdX6_bitsOf 2 rfl) rfl ?_
  refine r_lstore_n (lv' := [(3, .long a0_), (2, .int 0), (0, .long a0_)]) C (dall tdX6_bitsOf 3 rfl) (by decide) rfl ?_
  refine r_pick [1, 0] rfl ?_
  exact lX6_bitsOf_4  C hR  fu _ ok h
def fX6_bitsOf (a0_ : Int64) : Int32 := pX6_bitsOf_0  a0_
def gX6_bitsOf (a0_ : Int64) : Prop := oX6_bitsOf_0  a0_
set_option maxRecDepth 100000 in
theorem zX6_bitsOf  {D : va_G} (a0_ : Int64) (ok : gX6_bitsOf a0_)  {tys : List (ClassId × FieldType)} : Con yX6_bitsOf cX6_bitsOf 5 (some .int) 0 0 0 D tys [.long a0_] ([]) (eI ([]) (fX6_bitsOf a0_)) :=
  Con.of (own := RX6) (by decide +kernel) rfl (Nat.le_of_ble_eq_true rfl) (Nat.zero_le _) (fun X A C hR _ => (wX6_bitsOf_0 a0_ C hR  ok rfl))
theorem ms_X6_bitsOf : MS_ yX6_bitsOf cX6_bitsOf 5 (some .int) 1 := ⟨ks_X6_bitsOf, kn_X6, kc_X6_bitsOf, by decide +kernel⟩
def tbX6_has : List (Nat × Instr × Nat) := [(0, .lload_n 0, 1), (1, .iload_n 2, 1), (2, .lshr, 1), (3, .lconst 1, 1), (4, .land, 1), (5, .lconst 1, 1), (6, .lcmp, 1), (7, .ifCond .ne 7, 3), (10, .iconst 1, 1), (11, .goto 4, 3), (14, .iconst 0, 1), (15, .ireturn, 1)]
theorem tdX6_has : tbX6_has.all (fun q => decide (decode cX6_has q.1 = .ok q.2)) = true := by decide +kernel
def pX6_has_0  (a0_ : Int64) (a2_ : Int32) : Int32 := if ((jshr a0_ a2_) &&& 1) = 1 then 1 else 0
set_option maxHeartbeats 4000000 in
set_option maxRecDepth 100000 in
theorem wX6_has_0 {X : CX} {tys : List (ClassId × FieldType)} {D : va_G} {A : Nat → Prop} {res : Int32} (a0_ : Int64) (a2_ : Int32) (C : Cx X cX6_has RX6 3 D tys A 0 0 0) (hR : Rt X (some .boolean) D tys A 0 0 (eI ([]) res))  (h : pX6_has_0  a0_ a2_ = res) : At X D A 3 0 0 0 [(0, .long a0_), (2, .int a2_)] [] (([] : va_W)) := by
  unfold pX6_has_0 at h
  refine r_lload_n C 0 (dall tdX6_has 0 rfl) rfl ?_
  refine r_iload_n C 1 (dall tdX6_has 1 rfl) rfl ?_
  refine r_lshr C (dall tdX6_has 2 rfl) ?_
  refine r_lconst (v := 1) C (dall tdX6_has 3 rfl) (by decide) ?_
  refine r_land C (dall tdX6_has 4 rfl) ?_
  refine r_lconst (v := 1) C (dall tdX6_has 5 rfl) (by decide) ?_
  refine r_lif_ne (tgt := 14) C (dall tdX6_has 6 rfl) (dall tdX6_has 7 rfl) (by decide) (fun c1 => ?_) (fun c1 => ?_)
  · have h := (if_neg c1).symm.trans h
    refine r_iconst (v := 0) C (dall tdX6_has 10 rfl) (by decide) ?_
    exact r_zret C (by decide) hR (dall tdX6_has 11 rfl) (by subst h; exact ⟨rfl, rfl⟩)
  · have h := (if_pos c1).symm.trans h
    refine r_iconst (v := 1) C (dall tdX6_has 8 rfl) (by decide) ?_
    refine r_goto (tgt := 15) C (dall tdX6_has 9 rfl) (by decide) ?_
    exact r_zret C (by decide) hR (dall tdX6_has 11 rfl) (by subst h; exact ⟨rfl, rfl⟩)
def fX6_has (a0_ : Int64) (a2_ : Int32) : Int32 := pX6_has_0  a0_ a2_
set_option maxRecDepth 100000 in
theorem zX6_has  {D : va_G} (a0_ : Int64) (a2_ : Int32)  {tys : List (ClassId × FieldType)} : Con yX6_has cX6_has 3 (some .boolean) 0 0 0 D tys [.long a0_, .int a2_] ([]) (eI ([]) (fX6_has a0_ a2_)) :=
  Con.of (own := RX6) (by decide +kernel) rfl (Nat.le_of_ble_eq_true rfl) (Nat.zero_le _) (fun X A C hR _ => (wX6_has_0 a0_ a2_ C hR  rfl))
theorem ms_X6_has : MS_ yX6_has cX6_has 3 (some .boolean) 2 := ⟨ks_X6_has, kn_X6, kc_X6_has, by decide +kernel⟩
def tbX6_mostOf : List (Nat × Instr × Nat) := [(0, .iload_n 0, 1), (1, .ifCond .ne 9, 3), (4, .sipush 999, 3), (7, .goto 24, 3), (10, .iload_n 0, 1), (11, .iconst 1, 1), (12, .if_icmp .ne 8, 3), (15, .bipush 9, 2), (17, .goto 14, 3), (20, .iload_n 0, 1), (21, .iconst 2, 1), (22, .if_icmp .ne 8, 3), (25, .bipush 99, 2), (27, .goto 4, 3), (30, .iconst 1, 1), (31, .ireturn, 1)]
theorem tdX6_mostOf : tbX6_mostOf.all (fun q => decide (decode cX6_mostOf q.1 = .ok q.2)) = true := by decide +kernel
def pX6_mostOf_0  (a0_ : Int32) : Int32 := if a0_ = 0 then 999 else if a0_ = 1 then 9 else if a0_ = 2 then 99 else 1
set_option maxHeartbeats 4000000 in
set_option maxRecDepth 100000 in
theorem wX6_mostOf_0 {X : CX} {tys : List (ClassId × FieldType)} {D : va_G} {A : Nat → Prop} {res : Int32} (a0_ : Int32) (C : Cx X cX6_mostOf RX6 1 D tys A 0 0 0) (hR : Rt X (some .int) D tys A 0 0 (eI ([]) res))  (h : pX6_mostOf_0  a0_ = res) : At X D A 1 0 0 0 [(0, .int a0_)] [] (([] : va_W)) := by
  unfold pX6_mostOf_0 at h
  refine r_iload_n C 0 (dall tdX6_mostOf 0 rfl) rfl ?_
  refine r_if_ne (tgt := 10) C (dall tdX6_mostOf 1 rfl) (by decide) (fun c1 => ?_) (fun c1 => ?_)
  · have h := (if_neg c1).symm.trans h
    refine r_iload_n C 0 (dall tdX6_mostOf 4 rfl) rfl ?_
    refine r_iconst (v := 1) C (dall tdX6_mostOf 5 rfl) (by decide) ?_
    refine r_icmp_ne (tgt := 20) C (dall tdX6_mostOf 6 rfl) (by decide) (fun c2 => ?_) (fun c2 => ?_)
    · have h := (if_neg c2).symm.trans h
      refine r_iload_n C 0 (dall tdX6_mostOf 9 rfl) rfl ?_
      refine r_iconst (v := 2) C (dall tdX6_mostOf 10 rfl) (by decide) ?_
      refine r_icmp_ne (tgt := 30) C (dall tdX6_mostOf 11 rfl) (by decide) (fun c3 => ?_) (fun c3 => ?_)
      · have h := (if_neg c3).symm.trans h
        refine r_iconst (v := 1) C (dall tdX6_mostOf 14 rfl) (by decide) ?_
        exact r_iret C hR (dall tdX6_mostOf 15 rfl) (by subst h; exact ⟨rfl, rfl⟩)
      · have h := (if_pos c3).symm.trans h
        refine r_bipush (v := 99) C (dall tdX6_mostOf 12 rfl) (by decide) ?_
        refine r_goto (tgt := 31) C (dall tdX6_mostOf 13 rfl) (by decide) ?_
        exact r_iret C hR (dall tdX6_mostOf 15 rfl) (by subst h; exact ⟨rfl, rfl⟩)
    · have h := (if_pos c2).symm.trans h
      refine r_bipush (v := 9) C (dall tdX6_mostOf 7 rfl) (by decide) ?_
      refine r_goto (tgt := 31) C (dall tdX6_mostOf 8 rfl) (by decide) ?_
      exact r_iret C hR (dall tdX6_mostOf 15 rfl) (by subst h; exact ⟨rfl, rfl⟩)
  · have h := (if_pos c1).symm.trans h
    refine r_sipush (v := 999) C (dall tdX6_mostOf 2 rfl) (by decide) ?_
    refine r_goto (tgt := 31) C (dall tdX6_mostOf 3 rfl) (by decide) ?_
    exact r_iret C hR (dall tdX6_mostOf 15 rfl) (by subst h; exact ⟨rfl, rfl⟩)
def fX6_mostOf (a0_ : Int32) : Int32 := pX6_mostOf_0  a0_
set_option maxRecDepth 100000 in
theorem zX6_mostOf  {D : va_G} (a0_ : Int32)  {tys : List (ClassId × FieldType)} : Con yX6_mostOf cX6_mostOf 1 (some .int) 0 0 0 D tys [.int a0_] ([]) (eI ([]) (fX6_mostOf a0_)) :=
  Con.of (own := RX6) (by decide +kernel) rfl (Nat.le_of_ble_eq_true rfl) (Nat.zero_le _) (fun X A C hR _ => (wX6_mostOf_0 a0_ C hR  rfl))
theorem ms_X6_mostOf : MS_ yX6_mostOf cX6_mostOf 1 (some .int) 1 := ⟨ks_X6_mostOf, kn_X6, kc_X6_mostOf, by decide +kernel⟩
def tbX6_greatest : List (Nat × Instr × Nat) := [(0, .iconst (-1), 1), (1, .istore_n 2, 1), (2, .iconst 0, 1), (3, .istore_n 3, 1), (4, .iload_n 3, 1), (5, .bipush 64, 2), (7, .if_icmp .ge 23, 3), (10, .lload_n 0, 1), (11, .iload_n 3, 1), (12, .invokestatic 97, 3), (15, .ifCond .eq 7, 3), (18, .iload_n 3, 1), (19, .goto 4, 3), (22, .iload_n 2, 1), (23, .istore_n 2, 1), (24, .iinc 3 1, 3), (27, .goto (-23), 3), (30, .iload_n 2, 1), (31, .ireturn, 1)]
theorem tdX6_greatest : tbX6_greatest.all (fun q => decide (decode cX6_greatest q.1 = .ok q.2)) = true := by decide +kernel
def pX6_greatest_23 (kR4 : Int32 × Int32 → Int32) (a0_ : Int64) (a3_ : Int32) (b0_ : Int32) : Int32 := kR4 (b0_, a3_ + 1)
def oX6_greatest_23 (kO4 : Int32 × Int32 → Prop) (a0_ : Int64) (a3_ : Int32) (b0_ : Int32) : Prop := kO4 (b0_, a3_ + 1)
set_option maxHeartbeats 4000000 in
set_option maxRecDepth 100000 in
theorem wX6_greatest_23 {X : CX} {tys : List (ClassId × FieldType)} {D : va_G} {A : Nat → Prop} {res : Int32} (a0_ : Int64) (a3_ : Int32) (b0_ : Int32) (C : Cx X cX6_greatest RX6 4 D tys A 1 0 0) (hR : Rt X (some .int) D tys A 0 0 (eI ([]) res)) (kR4 : Int32 × Int32 → Int32) (kO4 : Int32 × Int32 → Prop) (hk4 : ∀ z, kO4 z → kR4 z = res → At X D A 4 0 0 4 [(0, .long a0_), (2, .int z.1), (3, .int z.2)] [] (([] : va_W))) (ok : oX6_greatest_23 kO4 a0_ a3_ b0_) (h : pX6_greatest_23 kR4 a0_ a3_ b0_ = res) : At X D A 4 0 0 23 [(0, .long a0_), (3, .int a3_)] [.int b0_] (([] : va_W)) := by
  unfold pX6_greatest_23 at h
  unfold oX6_greatest_23 at ok
  refine r_istore_n (lv' := [(2, .int b0_), (0, .long a0_), (3, .int a3_)]) C (dall tdX6_greatest 14 rfl) (by decide) rfl ?_
  refine r_iinc (v := a3_ + 1) (lv' := [(3, .int (a3_ + 1)), (2, .int b0_), (0, .long a0_)]) C 2 (dall tdX6_greatest 15 rfl) rfl rfl (by decide) rfl ?_
  refine r_goto (tgt := 4) C (dall tdX6_greatest 16 rfl) (by decide) ?_
  refine r_pick [2, 1, 0] rfl ?_
  exact hk4 (b0_, a3_ + 1) ok h
def bX6_greatest_4 (a0_ : Int64)  (kR4 : Int32 × Int32 → Int32) (v : Int32 × Int32) : Int32 := if 64 ≤ v.2 then v.1 else if (fX6_has a0_ v.2) = 0 then pX6_greatest_23 kR4 a0_ v.2 v.1 else pX6_greatest_23 kR4 a0_ v.2 v.2
def kX6_greatest_4 (a0_ : Int64)  (kO4 : Int32 × Int32 → Prop) (v : Int32 × Int32) : Prop := (64 ≤ v.2 → True) ∧ (¬ (64 ≤ v.2) → ((fX6_has a0_ v.2) = 0 → oX6_greatest_23 kO4 a0_ v.2 v.1) ∧ (¬ ((fX6_has a0_ v.2) = 0) → oX6_greatest_23 kO4 a0_ v.2 v.2))
set_option maxHeartbeats 4000000 in
set_option maxRecDepth 100000 in
theorem wX6_greatest_4 {X : CX} {tys : List (ClassId × FieldType)} {D : va_G} {A : Nat → Prop} {res : Int32} (a0_ : Int64) (C : Cx X cX6_greatest RX6 4 D tys A 1 0 0) (hR : Rt X (some .int) D tys A 0 0 (eI ([]) res)) (kR4 : Int32 × Int32 → Int32) (kO4 : Int32 × Int32 → Prop) (hk4 : ∀ z, kO4 z → kR4 z = res → At X D A 4 0 0 4 [(0, .long a0_), (2, .int z.1), (3, .int z.2)] [] (([] : va_W))) (v : Int32 × Int32) (ok : kX6_greatest_4 a0_ kO4 v) (h : bX6_greatest_4 a0_ kR4 v = res) : At X D A 4 0 0 4 [(0, .long a0_), (2, .int v.1), (3, .int v.2)] [] (([] : va_W)) := by
  unfold bX6_greatest_4 at h
  unfold kX6_greatest_4 at ok
  refine r_iload_n C 2 (dall tdX6_greatest 4 rfl) rfl ?_
  refine r_bipush (v := 64) C (dall tdX6_greatest 5 rfl) (by decide) ?_
  refine r_icmp_ge (tgt := 30) C (dall tdX6_greatest 6 rfl) (by decide) (fun c1 => ?_) (fun c1 => ?_)
  · have h := (if_pos c1).symm.trans h
    have ok := ok.1 c1
    refine r_iload_n C 1 (dall tdX6_greatest 17 rfl) rfl ?_
    exact r_iret C hR (dall tdX6_greatest 18 rfl) (by subst h; exact ⟨rfl, rfl⟩)
  · have h := (if_neg c1).symm.trans h
    have ok := ok.2 c1
    refine r_lload_n C 0 (dall tdX6_greatest 7 rfl) rfl ?_
    refine r_iload_n C 2 (dall tdX6_greatest 8 rfl) rfl ?_
    refine r_s0I (as := [.long a0_, .int v.2]) C (zX6_has a0_ v.2 ) ms_X6_has km_X6_97 (by decide) (by decide) ⟨Nat.le_refl _, Nat.le_refl _⟩ rfl rfl (Nat.le_of_ble_eq_true rfl) (dall tdX6_greatest 9 rfl) ?_
    refine r_if_eq (tgt := 22) C (dall tdX6_greatest 10 rfl) (by decide) (fun c2 => ?_) (fun c2 => ?_)
    · have h := (if_pos c2).symm.trans h
      have ok := ok.1 c2
      refine r_iload_n C 1 (dall tdX6_greatest 13 rfl) rfl ?_
      refine r_pick [0, 2] rfl ?_
      exact wX6_greatest_23 a0_ v.2 v.1 C hR kR4 kO4 hk4 ok h
    · have h := (if_neg c2).symm.trans h
      have ok := ok.2 c2
      refine r_iload_n C 2 (dall tdX6_greatest 11 rfl) rfl ?_
      refine r_goto (tgt := 23) C (dall tdX6_greatest 12 rfl) (by decide) ?_
      refine r_pick [0, 2] rfl ?_
      exact wX6_greatest_23 a0_ v.2 v.2 C hR kR4 kO4 hk4 ok h
set_option maxHeartbeats 4000000 in
set_option maxRecDepth 100000 in
theorem lX6_greatest_4 {X : CX} {tys : List (ClassId × FieldType)} {D : va_G} {A : Nat → Prop} {res : Int32} (a0_ : Int64) (C : Cx X cX6_greatest RX6 4 D tys A 1 0 0) (hR : Rt X (some .int) D tys A 0 0 (eI ([]) res))  (n : Nat) (v : Int32 × Int32) (ok : lpOk (kX6_greatest_4 a0_ ) n v) (h : lp 0 (bX6_greatest_4 a0_ ) n v = res) : At X D A 4 0 0 4 [(0, .long a0_), (2, .int v.1), (3, .int v.2)] [] (([] : va_W)) :=
  lp_rule (fun v rr_ => rr_ = res → At X D A 4 0 0 4 [(0, .long a0_), (2, .int v.1), (3, .int v.2)] [] (([] : va_W))) (fun kR kO hk v ok h => wX6_greatest_4 a0_ C hR  kR kO hk v ok h) n v ok h
def pX6_greatest_0  (a0_ : Int64) : Int32 := lp 0 (bX6_greatest_4 a0_ ) fu ((-1), 0)
def oX6_greatest_0  (a0_ : Int64) : Prop := lpOk (kX6_greatest_4 a0_ ) fu ((-1), 0)
set_option maxHeartbeats 4000000 in
set_option maxRecDepth 100000 in
theorem wX6_greatest_0 {X : CX} {tys : List (ClassId × FieldType)} {D : va_G} {A : Nat → Prop} {res : Int32} (a0_ : Int64) (C : Cx X cX6_greatest RX6 4 D tys A 1 0 0) (hR : Rt X (some .int) D tys A 0 0 (eI ([]) res))  (ok : oX6_greatest_0  a0_) (h : pX6_greatest_0  a0_ = res) : At X D A 4 0 0 0 [(0, .long a0_)] [] (([] : va_W)) := by
  unfold pX6_greatest_0 at h
  unfold oX6_greatest_0 at ok
  refine r_iconst (v := -1) C (dall tdX6_greatest 0 rfl) (by decide) ?_
  refine r_istore_n (lv' := [(2, .int (-1)), (0, .long a0_)]) C (dall tdX6_greatest 1 rfl) (by decide) rfl ?_
  refine r_iconst (v := 0) C (dall tdX6_greatest 2 rfl) (by decide) ?_
  refine r_istore_n (lv' := [(3, .int 0), (2, .int (-1)), (0, .long a0_)]) C (dall tdX6_greatest 3 rfl) (by decide) rfl ?_
  refine r_pick [2, 1, 0] rfl ?_
  exact lX6_greatest_4 a0_ C hR  fu _ ok h
def fX6_greatest (a0_ : Int64) : Int32 := pX6_greatest_0  a0_
def gX6_greatest (a0_ : Int64) : Prop := oX6_greatest_0  a0_
set_option maxRecDepth 100000 in
theorem zX6_greatest  {D : va_G} (a0_ : Int64) (ok : gX6_greatest a0_)  {tys : List (ClassId × FieldType)} : Con yX6_greatest cX6_greatest 4 (some .int) 1 0 0 D tys [.long a0_] ([]) (eI ([]) (fX6_greatest a0_)) :=
  Con.of (own := RX6) (by decide +kernel) rfl (Nat.le_of_ble_eq_true rfl) (Nat.zero_le _) (fun X A C hR _ => (wX6_greatest_0 a0_ C hR  ok rfl))
theorem ms_X6_greatest : MS_ yX6_greatest cX6_greatest 4 (some .int) 1 := ⟨ks_X6_greatest, kn_X6, kc_X6_greatest, by decide +kernel⟩
def tbX6_beside : List (Nat × Instr × Nat) := [(0, .lload_n 0, 1), (1, .bipush 8, 2), (3, .lshl, 1), (4, .lload_n 0, 1), (5, .bipush 8, 2), (7, .lushr, 1), (8, .lor, 1), (9, .lload_n 0, 1), (10, .ldc2_w 368, 3), (13, .land, 1), (14, .iconst 1, 1), (15, .lshl, 1), (16, .lor, 1), (17, .lload_n 0, 1), (18, .ldc2_w 370, 3), (21, .land, 1), (22, .iconst 1, 1), (23, .lushr, 1), (24, .lor, 1), (25, .lreturn, 1)]
theorem tdX6_beside : tbX6_beside.all (fun q => decide (decode cX6_beside q.1 = .ok q.2)) = true := by decide +kernel
def pX6_beside_0  (a0_ : Int64) : Int64 := (((jshl a0_ 8) ||| (jushr a0_ 8)) ||| (jshl (a0_ &&& (9187201950435737471)) 1)) ||| (jushr (a0_ &&& (-72340172838076674)) 1)
set_option maxHeartbeats 4000000 in
set_option maxRecDepth 100000 in
theorem wX6_beside_0 {X : CX} {tys : List (ClassId × FieldType)} {D : va_G} {A : Nat → Prop} {res : Int64} (a0_ : Int64) (C : Cx X cX6_beside RX6 2 D tys A 0 0 0) (hR : Rt X (some .long) D tys A 0 0 (eL ([]) res))  (h : pX6_beside_0  a0_ = res) : At X D A 2 0 0 0 [(0, .long a0_)] [] (([] : va_W)) := by
  unfold pX6_beside_0 at h
  refine r_lload_n C 0 (dall tdX6_beside 0 rfl) rfl ?_
  refine r_bipush (v := 8) C (dall tdX6_beside 1 rfl) (by decide) ?_
  refine r_lshl C (dall tdX6_beside 2 rfl) ?_
  refine r_lload_n C 0 (dall tdX6_beside 3 rfl) rfl ?_
  refine r_bipush (v := 8) C (dall tdX6_beside 4 rfl) (by decide) ?_
  refine r_lushr C (dall tdX6_beside 5 rfl) ?_
  refine r_lor C (dall tdX6_beside 6 rfl) ?_
  refine r_lload_n C 0 (dall tdX6_beside 7 rfl) rfl ?_
  refine r_ldc2 C kk_X6_368 (dall tdX6_beside 8 rfl) ?_
  refine r_land C (dall tdX6_beside 9 rfl) ?_
  refine r_iconst (v := 1) C (dall tdX6_beside 10 rfl) (by decide) ?_
  refine r_lshl C (dall tdX6_beside 11 rfl) ?_
  refine r_lor C (dall tdX6_beside 12 rfl) ?_
  refine r_lload_n C 0 (dall tdX6_beside 13 rfl) rfl ?_
  refine r_ldc2 C kk_X6_370 (dall tdX6_beside 14 rfl) ?_
  refine r_land C (dall tdX6_beside 15 rfl) ?_
  refine r_iconst (v := 1) C (dall tdX6_beside 16 rfl) (by decide) ?_
  refine r_lushr C (dall tdX6_beside 17 rfl) ?_
  refine r_lor C (dall tdX6_beside 18 rfl) ?_
  exact r_lret C hR (dall tdX6_beside 19 rfl) (by subst h; exact ⟨rfl, rfl⟩)
def fX6_beside (a0_ : Int64) : Int64 := pX6_beside_0  a0_
set_option maxRecDepth 100000 in
theorem zX6_beside  {D : va_G} (a0_ : Int64)  {tys : List (ClassId × FieldType)} : Con yX6_beside cX6_beside 2 (some .long) 0 0 0 D tys [.long a0_] ([]) (eL ([]) (fX6_beside a0_)) :=
  Con.of (own := RX6) (by decide +kernel) rfl (Nat.le_of_ble_eq_true rfl) (Nat.zero_le _) (fun X A C hR _ => (wX6_beside_0 a0_ C hR  rfl))
theorem ms_X6_beside : MS_ yX6_beside cX6_beside 2 (some .long) 1 := ⟨ks_X6_beside, kn_X6, kc_X6_beside, by decide +kernel⟩
def tbX6_comeTo : List (Nat × Instr × Nat) := [(0, .lload_n 0, 1), (1, .lload_n 2, 1), (2, .land, 1), (3, .lstore 5, 2), (5, .lconst 0, 1), (6, .lstore 7, 2), (8, .iconst 0, 1), (9, .istore 9, 2), (11, .iload 9, 2), (13, .iload 4, 2), (15, .if_icmp .ge 33, 3), (18, .lload 5, 2), (20, .lload 7, 2), (22, .lcmp, 1), (23, .ifCond .eq 25, 3), (26, .lload 5, 2), (28, .lstore 7, 2), (30, .lload 5, 2), (32, .lload 5, 2), (34, .invokestatic 372, 3), (37, .lload_n 2, 1), (38, .land, 1), (39, .lor, 1), (40, .lstore 5, 2), (42, .iinc 9 1, 3), (45, .goto (-34), 3), (48, .lload 5, 2), (50, .lreturn, 1)]
theorem tdX6_comeTo : tbX6_comeTo.all (fun q => decide (decode cX6_comeTo q.1 = .ok q.2)) = true := by decide +kernel
def bX6_comeTo_11 (a2_ : Int64) (a4_ : Int32)  (kR11 : Int64 × Int64 × Int32 → Int64) (v : Int64 × Int64 × Int32) : Int64 := if a4_ ≤ v.2.2 then v.1 else if v.1 = v.2.1 then v.1 else kR11 (v.1 ||| ((fX6_beside v.1) &&& a2_), v.1, v.2.2 + 1)
def kX6_comeTo_11 (a2_ : Int64) (a4_ : Int32)  (kO11 : Int64 × Int64 × Int32 → Prop) (v : Int64 × Int64 × Int32) : Prop := (a4_ ≤ v.2.2 → True) ∧ (¬ (a4_ ≤ v.2.2) → (v.1 = v.2.1 → True) ∧ (¬ (v.1 = v.2.1) → kO11 (v.1 ||| ((fX6_beside v.1) &&& a2_), v.1, v.2.2 + 1)))
set_option maxHeartbeats 4000000 in
set_option maxRecDepth 100000 in
theorem wX6_comeTo_11 {X : CX} {tys : List (ClassId × FieldType)} {D : va_G} {A : Nat → Prop} {res : Int64} (a2_ : Int64) (a4_ : Int32) (C : Cx X cX6_comeTo RX6 10 D tys A 1 0 0) (hR : Rt X (some .long) D tys A 0 0 (eL ([]) res)) (kR11 : Int64 × Int64 × Int32 → Int64) (kO11 : Int64 × Int64 × Int32 → Prop) (hk11 : ∀ z, kO11 z → kR11 z = res → At X D A 10 0 0 11 [(2, .long a2_), (4, .int a4_), (5, .long z.1), (7, .long z.2.1), (9, .int z.2.2)] [] (([] : va_W))) (v : Int64 × Int64 × Int32) (ok : kX6_comeTo_11 a2_ a4_ kO11 v) (h : bX6_comeTo_11 a2_ a4_ kR11 v = res) : At X D A 10 0 0 11 [(2, .long a2_), (4, .int a4_), (5, .long v.1), (7, .long v.2.1), (9, .int v.2.2)] [] (([] : va_W)) := by
  unfold bX6_comeTo_11 at h
  unfold kX6_comeTo_11 at ok
  refine r_iload C 4 (dall tdX6_comeTo 8 rfl) rfl ?_
  refine r_iload C 1 (dall tdX6_comeTo 9 rfl) rfl ?_
  refine r_icmp_ge (tgt := 48) C (dall tdX6_comeTo 10 rfl) (by decide) (fun c1 => ?_) (fun c1 => ?_)
  · have h := (if_pos c1).symm.trans h
    have ok := ok.1 c1
    refine r_lload C 2 (dall tdX6_comeTo 26 rfl) rfl ?_
    exact r_lret C hR (dall tdX6_comeTo 27 rfl) (by subst h; exact ⟨rfl, rfl⟩)
  · have h := (if_neg c1).symm.trans h
    have ok := ok.2 c1
    refine r_lload C 2 (dall tdX6_comeTo 11 rfl) rfl ?_
    refine r_lload C 3 (dall tdX6_comeTo 12 rfl) rfl ?_
    refine r_lif_eq (tgt := 48) C (dall tdX6_comeTo 13 rfl) (dall tdX6_comeTo 14 rfl) (by decide) (fun c2 => ?_) (fun c2 => ?_)
    · have h := (if_pos c2).symm.trans h
      have ok := ok.1 c2
      refine r_lload C 2 (dall tdX6_comeTo 26 rfl) rfl ?_
      exact r_lret C hR (dall tdX6_comeTo 27 rfl) (by subst h; exact ⟨rfl, rfl⟩)
    · have h := (if_neg c2).symm.trans h
      have ok := ok.2 c2
      refine r_lload C 2 (dall tdX6_comeTo 15 rfl) rfl ?_
      refine r_lstore (lv' := [(7, .long v.1), (2, .long a2_), (4, .int a4_), (5, .long v.1), (9, .int v.2.2)]) C (dall tdX6_comeTo 16 rfl) (by decide) rfl ?_
      refine r_lload C 3 (dall tdX6_comeTo 17 rfl) rfl ?_
      refine r_lload C 3 (dall tdX6_comeTo 18 rfl) rfl ?_
      refine r_s0L (as := [.long v.1]) C (zX6_beside v.1 ) ms_X6_beside km_X6_372 (by decide) (by decide) ⟨Nat.le_refl _, Nat.le_refl _⟩ rfl rfl (Nat.le_of_ble_eq_true rfl) (dall tdX6_comeTo 19 rfl) ?_
      refine r_lload_n C 1 (dall tdX6_comeTo 20 rfl) rfl ?_
      refine r_land C (dall tdX6_comeTo 21 rfl) ?_
      refine r_lor C (dall tdX6_comeTo 22 rfl) ?_
      refine r_lstore (lv' := [(5, .long (v.1 ||| ((fX6_beside v.1) &&& a2_))), (7, .long v.1), (2, .long a2_), (4, .int a4_), (9, .int v.2.2)]) C (dall tdX6_comeTo 23 rfl) (by decide) rfl ?_
      refine r_iinc (v := v.2.2 + 1) (lv' := [(9, .int (v.2.2 + 1)), (5, .long (v.1 ||| ((fX6_beside v.1) &&& a2_))), (7, .long v.1), (2, .long a2_), (4, .int a4_)]) C 4 (dall tdX6_comeTo 24 rfl) rfl rfl (by decide) rfl ?_
      refine r_goto (tgt := 11) C (dall tdX6_comeTo 25 rfl) (by decide) ?_
      refine r_pick [3, 4, 1, 2, 0] rfl ?_
      exact hk11 (v.1 ||| ((fX6_beside v.1) &&& a2_), v.1, v.2.2 + 1) ok h
set_option maxHeartbeats 4000000 in
set_option maxRecDepth 100000 in
theorem lX6_comeTo_11 {X : CX} {tys : List (ClassId × FieldType)} {D : va_G} {A : Nat → Prop} {res : Int64} (a2_ : Int64) (a4_ : Int32) (C : Cx X cX6_comeTo RX6 10 D tys A 1 0 0) (hR : Rt X (some .long) D tys A 0 0 (eL ([]) res))  (n : Nat) (v : Int64 × Int64 × Int32) (ok : lpOk (kX6_comeTo_11 a2_ a4_ ) n v) (h : lp 0 (bX6_comeTo_11 a2_ a4_ ) n v = res) : At X D A 10 0 0 11 [(2, .long a2_), (4, .int a4_), (5, .long v.1), (7, .long v.2.1), (9, .int v.2.2)] [] (([] : va_W)) :=
  lp_rule (fun v rr_ => rr_ = res → At X D A 10 0 0 11 [(2, .long a2_), (4, .int a4_), (5, .long v.1), (7, .long v.2.1), (9, .int v.2.2)] [] (([] : va_W))) (fun kR kO hk v ok h => wX6_comeTo_11 a2_ a4_ C hR  kR kO hk v ok h) n v ok h
def pX6_comeTo_0  (a0_ : Int64) (a2_ : Int64) (a4_ : Int32) : Int64 := lp 0 (bX6_comeTo_11 a2_ a4_ ) fu (a0_ &&& a2_, 0, 0)
def oX6_comeTo_0  (a0_ : Int64) (a2_ : Int64) (a4_ : Int32) : Prop := lpOk (kX6_comeTo_11 a2_ a4_ ) fu (a0_ &&& a2_, 0, 0)
set_option maxHeartbeats 4000000 in
set_option maxRecDepth 100000 in
theorem wX6_comeTo_0 {X : CX} {tys : List (ClassId × FieldType)} {D : va_G} {A : Nat → Prop} {res : Int64} (a0_ : Int64) (a2_ : Int64) (a4_ : Int32) (C : Cx X cX6_comeTo RX6 10 D tys A 1 0 0) (hR : Rt X (some .long) D tys A 0 0 (eL ([]) res))  (ok : oX6_comeTo_0  a0_ a2_ a4_) (h : pX6_comeTo_0  a0_ a2_ a4_ = res) : At X D A 10 0 0 0 [(0, .long a0_), (2, .long a2_), (4, .int a4_)] [] (([] : va_W)) := by
  unfold pX6_comeTo_0 at h
  unfold oX6_comeTo_0 at ok
  refine r_lload_n C 0 (dall tdX6_comeTo 0 rfl) rfl ?_
  refine r_lload_n C 1 (dall tdX6_comeTo 1 rfl) rfl ?_
  refine r_land C (dall tdX6_comeTo 2 rfl) ?_
  refine r_lstore (lv' := [(5, .long (a0_ &&& a2_)), (0, .long a0_), (2, .long a2_), (4, .int a4_)]) C (dall tdX6_comeTo 3 rfl) (by decide) rfl ?_
  refine r_lconst (v := 0) C (dall tdX6_comeTo 4 rfl) (by decide) ?_
  refine r_lstore (lv' := [(7, .long 0), (5, .long (a0_ &&& a2_)), (0, .long a0_), (2, .long a2_), (4, .int a4_)]) C (dall tdX6_comeTo 5 rfl) (by decide) rfl ?_
  refine r_iconst (v := 0) C (dall tdX6_comeTo 6 rfl) (by decide) ?_
  refine r_istore (lv' := [(9, .int 0), (7, .long 0), (5, .long (a0_ &&& a2_)), (0, .long a0_), (2, .long a2_), (4, .int a4_)]) C (dall tdX6_comeTo 7 rfl) (by decide) rfl ?_
  refine r_pick [4, 5, 2, 1, 0] rfl ?_
  exact lX6_comeTo_11 a2_ a4_ C hR  fu _ ok h
def fX6_comeTo (a0_ : Int64) (a2_ : Int64) (a4_ : Int32) : Int64 := pX6_comeTo_0  a0_ a2_ a4_
def gX6_comeTo (a0_ : Int64) (a2_ : Int64) (a4_ : Int32) : Prop := oX6_comeTo_0  a0_ a2_ a4_
set_option maxRecDepth 100000 in
theorem zX6_comeTo  {D : va_G} (a0_ : Int64) (a2_ : Int64) (a4_ : Int32) (ok : gX6_comeTo a0_ a2_ a4_)  {tys : List (ClassId × FieldType)} : Con yX6_comeTo cX6_comeTo 10 (some .long) 1 0 0 D tys [.long a0_, .long a2_, .int a4_] ([]) (eL ([]) (fX6_comeTo a0_ a2_ a4_)) :=
  Con.of (own := RX6) (by decide +kernel) rfl (Nat.le_of_ble_eq_true rfl) (Nat.zero_le _) (fun X A C hR _ => (wX6_comeTo_0 a0_ a2_ a4_ C hR  ok rfl))
theorem ms_X6_comeTo : MS_ yX6_comeTo cX6_comeTo 10 (some .long) 3 := ⟨ks_X6_comeTo, kn_X6, kc_X6_comeTo, by decide +kernel⟩
def tbX6_partAt : List (Nat × Instr × Nat) := [(0, .iload_n 1, 1), (1, .bipush 8, 2), (3, .irem, 1), (4, .istore_n 2, 1), (5, .iload_n 1, 1), (6, .bipush 8, 2), (8, .idiv, 1), (9, .istore_n 3, 1), (10, .iload_n 0, 1), (11, .ifCond .eq 8, 3), (14, .iload_n 0, 1), (15, .iconst 4, 1), (16, .if_icmp .ne 7, 3), (19, .iconst 0, 1), (20, .goto 13, 3), (23, .iload_n 0, 1), (24, .iconst 3, 1), (25, .if_icmp .ne 7, 3), (28, .iconst 2, 1), (29, .goto 4, 3), (32, .iconst 1, 1), (33, .istore 4, 2), (35, .iload_n 0, 1), (36, .iconst 2, 1), (37, .if_icmp .eq 8, 3), (40, .iload_n 0, 1), (41, .iconst 5, 1), (42, .if_icmp .ne 7, 3), (45, .iconst 1, 1), (46, .goto 13, 3), (49, .iload_n 0, 1), (50, .iconst 4, 1), (51, .if_icmp .ne 7, 3), (54, .iconst 2, 1), (55, .goto 4, 3), (58, .iconst 0, 1), (59, .istore 5, 2), (61, .iload_n 2, 1), (62, .iload 4, 2), (64, .iadd, 1), (65, .bipush 8, 2), (67, .if_icmp .ge 12, 3), (70, .iload_n 3, 1), (71, .iload 5, 2), (73, .iadd, 1), (74, .bipush 8, 2), (76, .if_icmp .lt 5, 3), (79, .lconst 0, 1), (80, .lreturn, 1), (81, .iload_n 0, 1), (82, .ifCond .ne 7, 3), (85, .lconst 1, 1), (86, .goto 50, 3), (89, .iload_n 0, 1), (90, .iconst 1, 1), (91, .if_icmp .ne 9, 3), (94, .ldc2_w 84, 3), (97, .goto 39, 3), (100, .iload_n 0, 1), (101, .iconst 2, 1), (102, .if_icmp .ne 9, 3), (105, .ldc2_w 383, 3), (108, .goto 28, 3), (111, .iload_n 0, 1), (112, .iconst 3, 1), (113, .if_icmp .ne 9, 3), (116, .ldc2_w 385, 3), (119, .goto 17, 3), (122, .iload_n 0, 1), (123, .iconst 4, 1), (124, .if_icmp .ne 9, 3), (127, .ldc2_w 387, 3), (130, .goto 6, 3), (133, .ldc2_w 389, 3), (136, .lstore 6, 2), (138, .lload 6, 2), (140, .iload_n 1, 1), (141, .lshl, 1), (142, .lreturn, 1)]
theorem tdX6_partAt : tbX6_partAt.all (fun q => decide (decode cX6_partAt q.1 = .ok q.2)) = true := by decide +kernel
def pX6_partAt_136  (a1_ : Int32) (b0_ : Int64) : Int64 := jshl b0_ a1_
set_option maxHeartbeats 4000000 in
set_option maxRecDepth 100000 in
theorem wX6_partAt_136 {X : CX} {tys : List (ClassId × FieldType)} {D : va_G} {A : Nat → Prop} {res : Int64} (a1_ : Int32) (b0_ : Int64) (C : Cx X cX6_partAt RX6 8 D tys A 0 0 0) (hR : Rt X (some .long) D tys A 0 0 (eL ([]) res))  (h : pX6_partAt_136  a1_ b0_ = res) : At X D A 8 0 0 136 [(1, .int a1_)] [.long b0_] (([] : va_W)) := by
  unfold pX6_partAt_136 at h
  refine r_lstore (lv' := [(6, .long b0_), (1, .int a1_)]) C (dall tdX6_partAt 74 rfl) (by decide) rfl ?_
  refine r_lload C 0 (dall tdX6_partAt 75 rfl) rfl ?_
  refine r_iload_n C 1 (dall tdX6_partAt 76 rfl) rfl ?_
  refine r_lshl C (dall tdX6_partAt 77 rfl) ?_
  exact r_lret C hR (dall tdX6_partAt 78 rfl) (by subst h; exact ⟨rfl, rfl⟩)
def pX6_partAt_59  (a0_ : Int32) (a1_ : Int32) (a2_ : Int32) (a3_ : Int32) (a4_ : Int32) (b0_ : Int32) : Int64 := if 8 ≤ (a2_ + a4_) then 0 else if (a3_ + b0_) < 8 then if a0_ = 0 then pX6_partAt_136  a1_ 1 else if a0_ = 1 then pX6_partAt_136  a1_ (3) else if a0_ = 2 then pX6_partAt_136  a1_ (515) else if a0_ = 3 then pX6_partAt_136  a1_ (7) else if a0_ = 4 then pX6_partAt_136  a1_ (65793) else pX6_partAt_136  a1_ (771) else 0
set_option maxHeartbeats 4000000 in
set_option maxRecDepth 100000 in
theorem wX6_partAt_59 {X : CX} {tys : List (ClassId × FieldType)} {D : va_G} {A : Nat → Prop} {res : Int64} (a0_ : Int32) (a1_ : Int32) (a2_ : Int32) (a3_ : Int32) (a4_ : Int32) (b0_ : Int32) (C : Cx X cX6_partAt RX6 8 D tys A 0 0 0) (hR : Rt X (some .long) D tys A 0 0 (eL ([]) res))  (h : pX6_partAt_59  a0_ a1_ a2_ a3_ a4_ b0_ = res) : At X D A 8 0 0 59 [(0, .int a0_), (1, .int a1_), (2, .int a2_), (3, .int a3_), (4, .int a4_)] [.int b0_] (([] : va_W)) := by
  unfold pX6_partAt_59 at h
  refine r_istore (lv' := [(5, .int b0_), (0, .int a0_), (1, .int a1_), (2, .int a2_), (3, .int a3_), (4, .int a4_)]) C (dall tdX6_partAt 36 rfl) (by decide) rfl ?_
  refine r_iload_n C 3 (dall tdX6_partAt 37 rfl) rfl ?_
  refine r_iload C 5 (dall tdX6_partAt 38 rfl) rfl ?_
  refine r_iadd C (dall tdX6_partAt 39 rfl) ?_
  refine r_bipush (v := 8) C (dall tdX6_partAt 40 rfl) (by decide) ?_
  refine r_icmp_ge (tgt := 79) C (dall tdX6_partAt 41 rfl) (by decide) (fun c1 => ?_) (fun c1 => ?_)
  · have h := (if_pos c1).symm.trans h
    refine r_lconst (v := 0) C (dall tdX6_partAt 47 rfl) (by decide) ?_
    exact r_lret C hR (dall tdX6_partAt 48 rfl) (by subst h; exact ⟨rfl, rfl⟩)
  · have h := (if_neg c1).symm.trans h
    refine r_iload_n C 4 (dall tdX6_partAt 42 rfl) rfl ?_
    refine r_iload C 0 (dall tdX6_partAt 43 rfl) rfl ?_
    refine r_iadd C (dall tdX6_partAt 44 rfl) ?_
    refine r_bipush (v := 8) C (dall tdX6_partAt 45 rfl) (by decide) ?_
    refine r_icmp_lt (tgt := 81) C (dall tdX6_partAt 46 rfl) (by decide) (fun c2 => ?_) (fun c2 => ?_)
    · have h := (if_pos c2).symm.trans h
      refine r_iload_n C 1 (dall tdX6_partAt 49 rfl) rfl ?_
      refine r_if_ne (tgt := 89) C (dall tdX6_partAt 50 rfl) (by decide) (fun c3 => ?_) (fun c3 => ?_)
      · have h := (if_neg c3).symm.trans h
        refine r_iload_n C 1 (dall tdX6_partAt 53 rfl) rfl ?_
        refine r_iconst (v := 1) C (dall tdX6_partAt 54 rfl) (by decide) ?_
        refine r_icmp_ne (tgt := 100) C (dall tdX6_partAt 55 rfl) (by decide) (fun c4 => ?_) (fun c4 => ?_)
        · have h := (if_neg c4).symm.trans h
          refine r_iload_n C 1 (dall tdX6_partAt 58 rfl) rfl ?_
          refine r_iconst (v := 2) C (dall tdX6_partAt 59 rfl) (by decide) ?_
          refine r_icmp_ne (tgt := 111) C (dall tdX6_partAt 60 rfl) (by decide) (fun c5 => ?_) (fun c5 => ?_)
          · have h := (if_neg c5).symm.trans h
            refine r_iload_n C 1 (dall tdX6_partAt 63 rfl) rfl ?_
            refine r_iconst (v := 3) C (dall tdX6_partAt 64 rfl) (by decide) ?_
            refine r_icmp_ne (tgt := 122) C (dall tdX6_partAt 65 rfl) (by decide) (fun c6 => ?_) (fun c6 => ?_)
            · have h := (if_neg c6).symm.trans h
              refine r_iload_n C 1 (dall tdX6_partAt 68 rfl) rfl ?_
              refine r_iconst (v := 4) C (dall tdX6_partAt 69 rfl) (by decide) ?_
              refine r_icmp_ne (tgt := 133) C (dall tdX6_partAt 70 rfl) (by decide) (fun c7 => ?_) (fun c7 => ?_)
              · have h := (if_neg c7).symm.trans h
                refine r_ldc2 C kk_X6_389 (dall tdX6_partAt 73 rfl) ?_
                refine r_pick [2] rfl ?_
                exact wX6_partAt_136 a1_ (771) C hR  h
              · have h := (if_pos c7).symm.trans h
                refine r_ldc2 C kk_X6_387 (dall tdX6_partAt 71 rfl) ?_
                refine r_goto (tgt := 136) C (dall tdX6_partAt 72 rfl) (by decide) ?_
                refine r_pick [2] rfl ?_
                exact wX6_partAt_136 a1_ (65793) C hR  h
            · have h := (if_pos c6).symm.trans h
              refine r_ldc2 C kk_X6_385 (dall tdX6_partAt 66 rfl) ?_
              refine r_goto (tgt := 136) C (dall tdX6_partAt 67 rfl) (by decide) ?_
              refine r_pick [2] rfl ?_
              exact wX6_partAt_136 a1_ (7) C hR  h
          · have h := (if_pos c5).symm.trans h
            refine r_ldc2 C kk_X6_383 (dall tdX6_partAt 61 rfl) ?_
            refine r_goto (tgt := 136) C (dall tdX6_partAt 62 rfl) (by decide) ?_
            refine r_pick [2] rfl ?_
            exact wX6_partAt_136 a1_ (515) C hR  h
        · have h := (if_pos c4).symm.trans h
          refine r_ldc2 C kk_X6_84 (dall tdX6_partAt 56 rfl) ?_
          refine r_goto (tgt := 136) C (dall tdX6_partAt 57 rfl) (by decide) ?_
          refine r_pick [2] rfl ?_
          exact wX6_partAt_136 a1_ (3) C hR  h
      · have h := (if_pos c3).symm.trans h
        refine r_lconst (v := 1) C (dall tdX6_partAt 51 rfl) (by decide) ?_
        refine r_goto (tgt := 136) C (dall tdX6_partAt 52 rfl) (by decide) ?_
        refine r_pick [2] rfl ?_
        exact wX6_partAt_136 a1_ 1 C hR  h
    · have h := (if_neg c2).symm.trans h
      refine r_lconst (v := 0) C (dall tdX6_partAt 47 rfl) (by decide) ?_
      exact r_lret C hR (dall tdX6_partAt 48 rfl) (by subst h; exact ⟨rfl, rfl⟩)
def pX6_partAt_45  (a0_ : Int32) (a1_ : Int32) (a2_ : Int32) (a3_ : Int32) (a4_ : Int32) : Int64 := pX6_partAt_59  a0_ a1_ a2_ a3_ a4_ 1
set_option maxHeartbeats 4000000 in
set_option maxRecDepth 100000 in
theorem wX6_partAt_45 {X : CX} {tys : List (ClassId × FieldType)} {D : va_G} {A : Nat → Prop} {res : Int64} (a0_ : Int32) (a1_ : Int32) (a2_ : Int32) (a3_ : Int32) (a4_ : Int32) (C : Cx X cX6_partAt RX6 8 D tys A 0 0 0) (hR : Rt X (some .long) D tys A 0 0 (eL ([]) res))  (h : pX6_partAt_45  a0_ a1_ a2_ a3_ a4_ = res) : At X D A 8 0 0 45 [(0, .int a0_), (1, .int a1_), (2, .int a2_), (3, .int a3_), (4, .int a4_)] [] (([] : va_W)) := by
  unfold pX6_partAt_45 at h
  refine r_iconst (v := 1) C (dall tdX6_partAt 28 rfl) (by decide) ?_
  refine r_goto (tgt := 59) C (dall tdX6_partAt 29 rfl) (by decide) ?_
  exact wX6_partAt_59 a0_ a1_ a2_ a3_ a4_ 1 C hR  h
def pX6_partAt_33  (a0_ : Int32) (a1_ : Int32) (a2_ : Int32) (a3_ : Int32) (b0_ : Int32) : Int64 := if a0_ = 2 then pX6_partAt_45  a0_ a1_ a2_ a3_ b0_ else if a0_ = 5 then pX6_partAt_45  a0_ a1_ a2_ a3_ b0_ else if a0_ = 4 then pX6_partAt_59  a0_ a1_ a2_ a3_ b0_ 2 else pX6_partAt_59  a0_ a1_ a2_ a3_ b0_ 0
set_option maxHeartbeats 4000000 in
set_option maxRecDepth 100000 in
theorem wX6_partAt_33 {X : CX} {tys : List (ClassId × FieldType)} {D : va_G} {A : Nat → Prop} {res : Int64} (a0_ : Int32) (a1_ : Int32) (a2_ : Int32) (a3_ : Int32) (b0_ : Int32) (C : Cx X cX6_partAt RX6 8 D tys A 0 0 0) (hR : Rt X (some .long) D tys A 0 0 (eL ([]) res))  (h : pX6_partAt_33  a0_ a1_ a2_ a3_ b0_ = res) : At X D A 8 0 0 33 [(0, .int a0_), (1, .int a1_), (2, .int a2_), (3, .int a3_)] [.int b0_] (([] : va_W)) := by
  unfold pX6_partAt_33 at h
  refine r_istore (lv' := [(4, .int b0_), (0, .int a0_), (1, .int a1_), (2, .int a2_), (3, .int a3_)]) C (dall tdX6_partAt 21 rfl) (by decide) rfl ?_
  refine r_iload_n C 1 (dall tdX6_partAt 22 rfl) rfl ?_
  refine r_iconst (v := 2) C (dall tdX6_partAt 23 rfl) (by decide) ?_
  refine r_icmp_eq (tgt := 45) C (dall tdX6_partAt 24 rfl) (by decide) (fun c8 => ?_) (fun c8 => ?_)
  · have h := (if_pos c8).symm.trans h
    refine r_pick [1, 2, 3, 4, 0] rfl ?_
    exact wX6_partAt_45 a0_ a1_ a2_ a3_ b0_ C hR  h
  · have h := (if_neg c8).symm.trans h
    refine r_iload_n C 1 (dall tdX6_partAt 25 rfl) rfl ?_
    refine r_iconst (v := 5) C (dall tdX6_partAt 26 rfl) (by decide) ?_
    refine r_icmp_ne (tgt := 49) C (dall tdX6_partAt 27 rfl) (by decide) (fun c9 => ?_) (fun c9 => ?_)
    · have h := (if_neg c9).symm.trans h
      refine r_iload_n C 1 (dall tdX6_partAt 30 rfl) rfl ?_
      refine r_iconst (v := 4) C (dall tdX6_partAt 31 rfl) (by decide) ?_
      refine r_icmp_ne (tgt := 58) C (dall tdX6_partAt 32 rfl) (by decide) (fun c10 => ?_) (fun c10 => ?_)
      · have h := (if_neg c10).symm.trans h
        refine r_iconst (v := 0) C (dall tdX6_partAt 35 rfl) (by decide) ?_
        refine r_pick [1, 2, 3, 4, 0] rfl ?_
        exact wX6_partAt_59 a0_ a1_ a2_ a3_ b0_ 0 C hR  h
      · have h := (if_pos c10).symm.trans h
        refine r_iconst (v := 2) C (dall tdX6_partAt 33 rfl) (by decide) ?_
        refine r_goto (tgt := 59) C (dall tdX6_partAt 34 rfl) (by decide) ?_
        refine r_pick [1, 2, 3, 4, 0] rfl ?_
        exact wX6_partAt_59 a0_ a1_ a2_ a3_ b0_ 2 C hR  h
    · have h := (if_pos c9).symm.trans h
      refine r_pick [1, 2, 3, 4, 0] rfl ?_
      exact wX6_partAt_45 a0_ a1_ a2_ a3_ b0_ C hR  h
def pX6_partAt_19  (a0_ : Int32) (a1_ : Int32) (a2_ : Int32) (a3_ : Int32) : Int64 := pX6_partAt_33  a0_ a1_ a2_ a3_ 0
set_option maxHeartbeats 4000000 in
set_option maxRecDepth 100000 in
theorem wX6_partAt_19 {X : CX} {tys : List (ClassId × FieldType)} {D : va_G} {A : Nat → Prop} {res : Int64} (a0_ : Int32) (a1_ : Int32) (a2_ : Int32) (a3_ : Int32) (C : Cx X cX6_partAt RX6 8 D tys A 0 0 0) (hR : Rt X (some .long) D tys A 0 0 (eL ([]) res))  (h : pX6_partAt_19  a0_ a1_ a2_ a3_ = res) : At X D A 8 0 0 19 [(0, .int a0_), (1, .int a1_), (2, .int a2_), (3, .int a3_)] [] (([] : va_W)) := by
  unfold pX6_partAt_19 at h
  refine r_iconst (v := 0) C (dall tdX6_partAt 13 rfl) (by decide) ?_
  refine r_goto (tgt := 33) C (dall tdX6_partAt 14 rfl) (by decide) ?_
  exact wX6_partAt_33 a0_ a1_ a2_ a3_ 0 C hR  h
def pX6_partAt_0  (a0_ : Int32) (a1_ : Int32) : Int64 := if a0_ = 0 then pX6_partAt_19  a0_ a1_ (a1_ - a1_ / 8 * 8) (a1_ / 8) else if a0_ = 4 then pX6_partAt_19  a0_ a1_ (a1_ - a1_ / 8 * 8) (a1_ / 8) else if a0_ = 3 then pX6_partAt_33  a0_ a1_ (a1_ - a1_ / 8 * 8) (a1_ / 8) 2 else pX6_partAt_33  a0_ a1_ (a1_ - a1_ / 8 * 8) (a1_ / 8) 1
set_option maxHeartbeats 4000000 in
set_option maxRecDepth 100000 in
theorem wX6_partAt_0 {X : CX} {tys : List (ClassId × FieldType)} {D : va_G} {A : Nat → Prop} {res : Int64} (a0_ : Int32) (a1_ : Int32) (C : Cx X cX6_partAt RX6 8 D tys A 0 0 0) (hR : Rt X (some .long) D tys A 0 0 (eL ([]) res))  (h : pX6_partAt_0  a0_ a1_ = res) : At X D A 8 0 0 0 [(0, .int a0_), (1, .int a1_)] [] (([] : va_W)) := by
  unfold pX6_partAt_0 at h
  refine r_iload_n C 1 (dall tdX6_partAt 0 rfl) rfl ?_
  refine r_bipush (v := 8) C (dall tdX6_partAt 1 rfl) (by decide) ?_
  refine r_irem C (dall tdX6_partAt 2 rfl) (by decide) ?_
  refine r_istore_n (lv' := [(2, .int (a1_ - a1_ / 8 * 8)), (0, .int a0_), (1, .int a1_)]) C (dall tdX6_partAt 3 rfl) (by decide) rfl ?_
  refine r_iload_n C 2 (dall tdX6_partAt 4 rfl) rfl ?_
  refine r_bipush (v := 8) C (dall tdX6_partAt 5 rfl) (by decide) ?_
  refine r_idiv C (dall tdX6_partAt 6 rfl) (by decide) ?_
  refine r_istore_n (lv' := [(3, .int (a1_ / 8)), (2, .int (a1_ - a1_ / 8 * 8)), (0, .int a0_), (1, .int a1_)]) C (dall tdX6_partAt 7 rfl) (by decide) rfl ?_
  refine r_iload_n C 2 (dall tdX6_partAt 8 rfl) rfl ?_
  refine r_if_eq (tgt := 19) C (dall tdX6_partAt 9 rfl) (by decide) (fun c11 => ?_) (fun c11 => ?_)
  · have h := (if_pos c11).symm.trans h
    refine r_pick [2, 3, 1, 0] rfl ?_
    exact wX6_partAt_19 a0_ a1_ (a1_ - a1_ / 8 * 8) (a1_ / 8) C hR  h
  · have h := (if_neg c11).symm.trans h
    refine r_iload_n C 2 (dall tdX6_partAt 10 rfl) rfl ?_
    refine r_iconst (v := 4) C (dall tdX6_partAt 11 rfl) (by decide) ?_
    refine r_icmp_ne (tgt := 23) C (dall tdX6_partAt 12 rfl) (by decide) (fun c12 => ?_) (fun c12 => ?_)
    · have h := (if_neg c12).symm.trans h
      refine r_iload_n C 2 (dall tdX6_partAt 15 rfl) rfl ?_
      refine r_iconst (v := 3) C (dall tdX6_partAt 16 rfl) (by decide) ?_
      refine r_icmp_ne (tgt := 32) C (dall tdX6_partAt 17 rfl) (by decide) (fun c13 => ?_) (fun c13 => ?_)
      · have h := (if_neg c13).symm.trans h
        refine r_iconst (v := 1) C (dall tdX6_partAt 20 rfl) (by decide) ?_
        refine r_pick [2, 3, 1, 0] rfl ?_
        exact wX6_partAt_33 a0_ a1_ (a1_ - a1_ / 8 * 8) (a1_ / 8) 1 C hR  h
      · have h := (if_pos c13).symm.trans h
        refine r_iconst (v := 2) C (dall tdX6_partAt 18 rfl) (by decide) ?_
        refine r_goto (tgt := 33) C (dall tdX6_partAt 19 rfl) (by decide) ?_
        refine r_pick [2, 3, 1, 0] rfl ?_
        exact wX6_partAt_33 a0_ a1_ (a1_ - a1_ / 8 * 8) (a1_ / 8) 2 C hR  h
    · have h := (if_pos c12).symm.trans h
      refine r_pick [2, 3, 1, 0] rfl ?_
      exact wX6_partAt_19 a0_ a1_ (a1_ - a1_ / 8 * 8) (a1_ / 8) C hR  h
def fX6_partAt (a0_ : Int32) (a1_ : Int32) : Int64 := pX6_partAt_0  a0_ a1_
set_option maxRecDepth 100000 in
theorem zX6_partAt  {D : va_G} (a0_ : Int32) (a1_ : Int32)  {tys : List (ClassId × FieldType)} : Con yX6_partAt cX6_partAt 8 (some .long) 0 0 0 D tys [.int a0_, .int a1_] ([]) (eL ([]) (fX6_partAt a0_ a1_)) :=
  Con.of (own := RX6) (by decide +kernel) rfl (Nat.le_of_ble_eq_true rfl) (Nat.zero_le _) (fun X A C hR _ => (wX6_partAt_0 a0_ a1_ C hR  rfl))
theorem ms_X6_partAt : MS_ yX6_partAt cX6_partAt 8 (some .long) 2 := ⟨ks_X6_partAt, kn_X6, kc_X6_partAt, by decide +kernel⟩
def tbX6_can : List (Nat × Instr × Nat) := [(0, .lload_n 0, 1), (1, .lconst 0, 1), (2, .lcmp, 1), (3, .ifCond .eq 26, 3), (6, .lload_n 0, 1), (7, .lload_n 2, 1), (8, .land, 1), (9, .lconst 0, 1), (10, .lcmp, 1), (11, .ifCond .ne 18, 3), (14, .lload_n 0, 1), (15, .invokestatic 372, 3), (18, .lload_n 2, 1), (19, .land, 1), (20, .lconst 0, 1), (21, .lcmp, 1), (22, .ifCond .eq 7, 3), (25, .iconst 1, 1), (26, .goto 4, 3), (29, .iconst 0, 1), (30, .ireturn, 1)]
theorem tdX6_can : tbX6_can.all (fun q => decide (decode cX6_can q.1 = .ok q.2)) = true := by decide +kernel
def pX6_can_0  (a0_ : Int64) (a2_ : Int64) : Int32 := if a0_ = 0 then 0 else if (a0_ &&& a2_) = 0 then if ((fX6_beside a0_) &&& a2_) = 0 then 0 else 1 else 0
set_option maxHeartbeats 4000000 in
set_option maxRecDepth 100000 in
theorem wX6_can_0 {X : CX} {tys : List (ClassId × FieldType)} {D : va_G} {A : Nat → Prop} {res : Int32} (a0_ : Int64) (a2_ : Int64) (C : Cx X cX6_can RX6 4 D tys A 1 0 0) (hR : Rt X (some .boolean) D tys A 0 0 (eI ([]) res))  (h : pX6_can_0  a0_ a2_ = res) : At X D A 4 0 0 0 [(0, .long a0_), (2, .long a2_)] [] (([] : va_W)) := by
  unfold pX6_can_0 at h
  refine r_lload_n C 0 (dall tdX6_can 0 rfl) rfl ?_
  refine r_lconst (v := 0) C (dall tdX6_can 1 rfl) (by decide) ?_
  refine r_lif_eq (tgt := 29) C (dall tdX6_can 2 rfl) (dall tdX6_can 3 rfl) (by decide) (fun c1 => ?_) (fun c1 => ?_)
  · have h := (if_pos c1).symm.trans h
    refine r_iconst (v := 0) C (dall tdX6_can 19 rfl) (by decide) ?_
    exact r_zret C (by decide) hR (dall tdX6_can 20 rfl) (by subst h; exact ⟨rfl, rfl⟩)
  · have h := (if_neg c1).symm.trans h
    refine r_lload_n C 0 (dall tdX6_can 4 rfl) rfl ?_
    refine r_lload_n C 1 (dall tdX6_can 5 rfl) rfl ?_
    refine r_land C (dall tdX6_can 6 rfl) ?_
    refine r_lconst (v := 0) C (dall tdX6_can 7 rfl) (by decide) ?_
    refine r_lif_ne (tgt := 29) C (dall tdX6_can 8 rfl) (dall tdX6_can 9 rfl) (by decide) (fun c2 => ?_) (fun c2 => ?_)
    · have h := (if_neg c2).symm.trans h
      refine r_iconst (v := 0) C (dall tdX6_can 19 rfl) (by decide) ?_
      exact r_zret C (by decide) hR (dall tdX6_can 20 rfl) (by subst h; exact ⟨rfl, rfl⟩)
    · have h := (if_pos c2).symm.trans h
      refine r_lload_n C 0 (dall tdX6_can 10 rfl) rfl ?_
      refine r_s0L (as := [.long a0_]) C (zX6_beside a0_ ) ms_X6_beside km_X6_372 (by decide) (by decide) ⟨Nat.le_refl _, Nat.le_refl _⟩ rfl rfl (Nat.le_of_ble_eq_true rfl) (dall tdX6_can 11 rfl) ?_
      refine r_lload_n C 1 (dall tdX6_can 12 rfl) rfl ?_
      refine r_land C (dall tdX6_can 13 rfl) ?_
      refine r_lconst (v := 0) C (dall tdX6_can 14 rfl) (by decide) ?_
      refine r_lif_eq (tgt := 29) C (dall tdX6_can 15 rfl) (dall tdX6_can 16 rfl) (by decide) (fun c3 => ?_) (fun c3 => ?_)
      · have h := (if_pos c3).symm.trans h
        refine r_iconst (v := 0) C (dall tdX6_can 19 rfl) (by decide) ?_
        exact r_zret C (by decide) hR (dall tdX6_can 20 rfl) (by subst h; exact ⟨rfl, rfl⟩)
      · have h := (if_neg c3).symm.trans h
        refine r_iconst (v := 1) C (dall tdX6_can 17 rfl) (by decide) ?_
        refine r_goto (tgt := 30) C (dall tdX6_can 18 rfl) (by decide) ?_
        exact r_zret C (by decide) hR (dall tdX6_can 20 rfl) (by subst h; exact ⟨rfl, rfl⟩)
def fX6_can (a0_ : Int64) (a2_ : Int64) : Int32 := pX6_can_0  a0_ a2_
set_option maxRecDepth 100000 in
theorem zX6_can  {D : va_G} (a0_ : Int64) (a2_ : Int64)  {tys : List (ClassId × FieldType)} : Con yX6_can cX6_can 4 (some .boolean) 1 0 0 D tys [.long a0_, .long a2_] ([]) (eI ([]) (fX6_can a0_ a2_)) :=
  Con.of (own := RX6) (by decide +kernel) rfl (Nat.le_of_ble_eq_true rfl) (Nat.zero_le _) (fun X A C hR _ => (wX6_can_0 a0_ a2_ C hR  rfl))
theorem ms_X6_can : MS_ yX6_can cX6_can 4 (some .boolean) 2 := ⟨ks_X6_can, kn_X6, kc_X6_can, by decide +kernel⟩
def tbX6_byOne : List (Nat × Instr × Nat) := [(0, .iconst 0, 1), (1, .istore_n 3, 1), (2, .iload_n 3, 1), (3, .sipush 384, 3), (6, .if_icmp .ge 42, 3), (9, .iload_n 3, 1), (10, .bipush 64, 2), (12, .idiv, 1), (13, .iload_n 3, 1), (14, .bipush 64, 2), (16, .irem, 1), (17, .invokestatic 391, 3), (20, .lstore 4, 2), (22, .lload 4, 2), (24, .iload_n 0, 1), (25, .invokestatic 97, 3), (28, .ifCond .eq 14, 3), (31, .lload 4, 2), (33, .lload_n 1, 1), (34, .invokestatic 395, 3), (37, .ifCond .eq 5, 3), (40, .iconst 1, 1), (41, .ireturn, 1), (42, .iinc 3 1, 3), (45, .goto (-43), 3), (48, .iconst 0, 1), (49, .ireturn, 1)]
theorem tdX6_byOne : tbX6_byOne.all (fun q => decide (decode cX6_byOne q.1 = .ok q.2)) = true := by decide +kernel
def pX6_byOne_42 (kR2 : Int32 → Int32) (a0_ : Int32) (a1_ : Int64) (a3_ : Int32) : Int32 := kR2 (a3_ + 1)
def oX6_byOne_42 (kO2 : Int32 → Prop) (a0_ : Int32) (a1_ : Int64) (a3_ : Int32) : Prop := kO2 (a3_ + 1)
set_option maxHeartbeats 4000000 in
set_option maxRecDepth 100000 in
theorem wX6_byOne_42 {X : CX} {tys : List (ClassId × FieldType)} {D : va_G} {A : Nat → Prop} {res : Int32} (a0_ : Int32) (a1_ : Int64) (a3_ : Int32) (C : Cx X cX6_byOne RX6 6 D tys A 2 0 0) (hR : Rt X (some .boolean) D tys A 0 0 (eI ([]) res)) (kR2 : Int32 → Int32) (kO2 : Int32 → Prop) (hk2 : ∀ z, kO2 z → kR2 z = res → At X D A 6 0 0 2 [(0, .int a0_), (1, .long a1_), (3, .int z)] [] (([] : va_W))) (ok : oX6_byOne_42 kO2 a0_ a1_ a3_) (h : pX6_byOne_42 kR2 a0_ a1_ a3_ = res) : At X D A 6 0 0 42 [(0, .int a0_), (1, .long a1_), (3, .int a3_)] [] (([] : va_W)) := by
  unfold pX6_byOne_42 at h
  unfold oX6_byOne_42 at ok
  refine r_iinc (v := a3_ + 1) (lv' := [(3, .int (a3_ + 1)), (0, .int a0_), (1, .long a1_)]) C 2 (dall tdX6_byOne 23 rfl) rfl rfl (by decide) rfl ?_
  refine r_goto (tgt := 2) C (dall tdX6_byOne 24 rfl) (by decide) ?_
  refine r_pick [1, 2, 0] rfl ?_
  exact hk2 (a3_ + 1) ok h
def bX6_byOne_2 (a0_ : Int32) (a1_ : Int64)  (kR2 : Int32 → Int32) (v : Int32) : Int32 := if 384 ≤ v then 0 else if (fX6_has (fX6_partAt (v / 64) (v - v / 64 * 64)) a0_) = 0 then pX6_byOne_42 kR2 a0_ a1_ v else if (fX6_can (fX6_partAt (v / 64) (v - v / 64 * 64)) a1_) = 0 then pX6_byOne_42 kR2 a0_ a1_ v else 1
def kX6_byOne_2 (a0_ : Int32) (a1_ : Int64)  (kO2 : Int32 → Prop) (v : Int32) : Prop := (384 ≤ v → True) ∧ (¬ (384 ≤ v) → ((fX6_has (fX6_partAt (v / 64) (v - v / 64 * 64)) a0_) = 0 → oX6_byOne_42 kO2 a0_ a1_ v) ∧ (¬ ((fX6_has (fX6_partAt (v / 64) (v - v / 64 * 64)) a0_) = 0) → ((fX6_can (fX6_partAt (v / 64) (v - v / 64 * 64)) a1_) = 0 → oX6_byOne_42 kO2 a0_ a1_ v) ∧ (¬ ((fX6_can (fX6_partAt (v / 64) (v - v / 64 * 64)) a1_) = 0) → True)))
set_option maxHeartbeats 4000000 in
set_option maxRecDepth 100000 in
theorem wX6_byOne_2 {X : CX} {tys : List (ClassId × FieldType)} {D : va_G} {A : Nat → Prop} {res : Int32} (a0_ : Int32) (a1_ : Int64) (C : Cx X cX6_byOne RX6 6 D tys A 2 0 0) (hR : Rt X (some .boolean) D tys A 0 0 (eI ([]) res)) (kR2 : Int32 → Int32) (kO2 : Int32 → Prop) (hk2 : ∀ z, kO2 z → kR2 z = res → At X D A 6 0 0 2 [(0, .int a0_), (1, .long a1_), (3, .int z)] [] (([] : va_W))) (v : Int32) (ok : kX6_byOne_2 a0_ a1_ kO2 v) (h : bX6_byOne_2 a0_ a1_ kR2 v = res) : At X D A 6 0 0 2 [(0, .int a0_), (1, .long a1_), (3, .int v)] [] (([] : va_W)) := by
  unfold bX6_byOne_2 at h
  unfold kX6_byOne_2 at ok
  refine r_iload_n C 2 (dall tdX6_byOne 2 rfl) rfl ?_
  refine r_sipush (v := 384) C (dall tdX6_byOne 3 rfl) (by decide) ?_
  refine r_icmp_ge (tgt := 48) C (dall tdX6_byOne 4 rfl) (by decide) (fun c1 => ?_) (fun c1 => ?_)
  · have h := (if_pos c1).symm.trans h
    have ok := ok.1 c1
    refine r_iconst (v := 0) C (dall tdX6_byOne 25 rfl) (by decide) ?_
    exact r_zret C (by decide) hR (dall tdX6_byOne 26 rfl) (by subst h; exact ⟨rfl, rfl⟩)
  · have h := (if_neg c1).symm.trans h
    have ok := ok.2 c1
    refine r_iload_n C 2 (dall tdX6_byOne 5 rfl) rfl ?_
    refine r_bipush (v := 64) C (dall tdX6_byOne 6 rfl) (by decide) ?_
    refine r_idiv C (dall tdX6_byOne 7 rfl) (by decide) ?_
    refine r_iload_n C 2 (dall tdX6_byOne 8 rfl) rfl ?_
    refine r_bipush (v := 64) C (dall tdX6_byOne 9 rfl) (by decide) ?_
    refine r_irem C (dall tdX6_byOne 10 rfl) (by decide) ?_
    refine r_s0L (as := [.int (v / 64), .int (v - v / 64 * 64)]) C (zX6_partAt (v / 64) (v - v / 64 * 64) ) ms_X6_partAt km_X6_391 (by decide) (by decide) ⟨Nat.le_refl _, Nat.le_refl _⟩ rfl rfl (Nat.le_of_ble_eq_true rfl) (dall tdX6_byOne 11 rfl) ?_
    refine r_lstore (lv' := [(4, .long (fX6_partAt (v / 64) (v - v / 64 * 64))), (0, .int a0_), (1, .long a1_), (3, .int v)]) C (dall tdX6_byOne 12 rfl) (by decide) rfl ?_
    refine r_lload C 0 (dall tdX6_byOne 13 rfl) rfl ?_
    refine r_iload_n C 1 (dall tdX6_byOne 14 rfl) rfl ?_
    refine r_s0I (as := [.long (fX6_partAt (v / 64) (v - v / 64 * 64)), .int a0_]) C (zX6_has (fX6_partAt (v / 64) (v - v / 64 * 64)) a0_ ) ms_X6_has km_X6_97 (by decide) (by decide) ⟨Nat.le_refl _, Nat.le_refl _⟩ rfl rfl (Nat.le_of_ble_eq_true rfl) (dall tdX6_byOne 15 rfl) ?_
    refine r_if_eq (tgt := 42) C (dall tdX6_byOne 16 rfl) (by decide) (fun c2 => ?_) (fun c2 => ?_)
    · have h := (if_pos c2).symm.trans h
      have ok := ok.1 c2
      refine r_pick [1, 2, 3] rfl ?_
      exact wX6_byOne_42 a0_ a1_ v C hR kR2 kO2 hk2 ok h
    · have h := (if_neg c2).symm.trans h
      have ok := ok.2 c2
      refine r_lload C 0 (dall tdX6_byOne 17 rfl) rfl ?_
      refine r_lload_n C 2 (dall tdX6_byOne 18 rfl) rfl ?_
      refine r_s0I (as := [.long (fX6_partAt (v / 64) (v - v / 64 * 64)), .long a1_]) C (zX6_can (fX6_partAt (v / 64) (v - v / 64 * 64)) a1_ ) ms_X6_can km_X6_395 (by decide) (by decide) ⟨Nat.le_refl _, Nat.le_refl _⟩ rfl rfl (Nat.le_of_ble_eq_true rfl) (dall tdX6_byOne 19 rfl) ?_
      refine r_if_eq (tgt := 42) C (dall tdX6_byOne 20 rfl) (by decide) (fun c3 => ?_) (fun c3 => ?_)
      · have h := (if_pos c3).symm.trans h
        have ok := ok.1 c3
        refine r_pick [1, 2, 3] rfl ?_
        exact wX6_byOne_42 a0_ a1_ v C hR kR2 kO2 hk2 ok h
      · have h := (if_neg c3).symm.trans h
        have ok := ok.2 c3
        refine r_iconst (v := 1) C (dall tdX6_byOne 21 rfl) (by decide) ?_
        exact r_zret C (by decide) hR (dall tdX6_byOne 22 rfl) (by subst h; exact ⟨rfl, rfl⟩)
set_option maxHeartbeats 4000000 in
set_option maxRecDepth 100000 in
theorem lX6_byOne_2 {X : CX} {tys : List (ClassId × FieldType)} {D : va_G} {A : Nat → Prop} {res : Int32} (a0_ : Int32) (a1_ : Int64) (C : Cx X cX6_byOne RX6 6 D tys A 2 0 0) (hR : Rt X (some .boolean) D tys A 0 0 (eI ([]) res))  (n : Nat) (v : Int32) (ok : lpOk (kX6_byOne_2 a0_ a1_ ) n v) (h : lp 0 (bX6_byOne_2 a0_ a1_ ) n v = res) : At X D A 6 0 0 2 [(0, .int a0_), (1, .long a1_), (3, .int v)] [] (([] : va_W)) :=
  lp_rule (fun v rr_ => rr_ = res → At X D A 6 0 0 2 [(0, .int a0_), (1, .long a1_), (3, .int v)] [] (([] : va_W))) (fun kR kO hk v ok h => wX6_byOne_2 a0_ a1_ C hR  kR kO hk v ok h) n v ok h
def pX6_byOne_0  (a0_ : Int32) (a1_ : Int64) : Int32 := lp 0 (bX6_byOne_2 a0_ a1_ ) fu 0
def oX6_byOne_0  (a0_ : Int32) (a1_ : Int64) : Prop := lpOk (kX6_byOne_2 a0_ a1_ ) fu 0
set_option maxHeartbeats 4000000 in
set_option maxRecDepth 100000 in
theorem wX6_byOne_0 {X : CX} {tys : List (ClassId × FieldType)} {D : va_G} {A : Nat → Prop} {res : Int32} (a0_ : Int32) (a1_ : Int64) (C : Cx X cX6_byOne RX6 6 D tys A 2 0 0) (hR : Rt X (some .boolean) D tys A 0 0 (eI ([]) res))  (ok : oX6_byOne_0  a0_ a1_) (h : pX6_byOne_0  a0_ a1_ = res) : At X D A 6 0 0 0 [(0, .int a0_), (1, .long a1_)] [] (([] : va_W)) := by
  unfold pX6_byOne_0 at h
  unfold oX6_byOne_0 at ok
  refine r_iconst (v := 0) C (dall tdX6_byOne 0 rfl) (by decide) ?_
  refine r_istore_n (lv' := [(3, .int 0), (0, .int a0_), (1, .long a1_)]) C (dall tdX6_byOne 1 rfl) (by decide) rfl ?_
  refine r_pick [1, 2, 0] rfl ?_
  exact lX6_byOne_2 a0_ a1_ C hR  fu _ ok h
def fX6_byOne (a0_ : Int32) (a1_ : Int64) : Int32 := pX6_byOne_0  a0_ a1_
def gX6_byOne (a0_ : Int32) (a1_ : Int64) : Prop := oX6_byOne_0  a0_ a1_
set_option maxRecDepth 100000 in
theorem zX6_byOne  {D : va_G} (a0_ : Int32) (a1_ : Int64) (ok : gX6_byOne a0_ a1_)  {tys : List (ClassId × FieldType)} : Con yX6_byOne cX6_byOne 6 (some .boolean) 2 0 0 D tys [.int a0_, .long a1_] ([]) (eI ([]) (fX6_byOne a0_ a1_)) :=
  Con.of (own := RX6) (by decide +kernel) rfl (Nat.le_of_ble_eq_true rfl) (Nat.zero_le _) (fun X A C hR _ => (wX6_byOne_0 a0_ a1_ C hR  ok rfl))
theorem ms_X6_byOne : MS_ yX6_byOne cX6_byOne 6 (some .boolean) 2 := ⟨ks_X6_byOne, kn_X6, kc_X6_byOne, by decide +kernel⟩
def tbX6_byTwo : List (Nat × Instr × Nat) := [(0, .iconst 0, 1), (1, .istore_n 3, 1), (2, .iload_n 3, 1), (3, .sipush 384, 3), (6, .if_icmp .ge 44, 3), (9, .iload_n 3, 1), (10, .bipush 64, 2), (12, .idiv, 1), (13, .iload_n 3, 1), (14, .bipush 64, 2), (16, .irem, 1), (17, .invokestatic 391, 3), (20, .lstore 4, 2), (22, .lload 4, 2), (24, .lload_n 1, 1), (25, .invokestatic 395, 3), (28, .ifCond .eq 16, 3), (31, .iload_n 0, 1), (32, .lload_n 1, 1), (33, .lload 4, 2), (35, .lor, 1), (36, .invokestatic 415, 3), (39, .ifCond .eq 5, 3), (42, .iconst 1, 1), (43, .ireturn, 1), (44, .iinc 3 1, 3), (47, .goto (-45), 3), (50, .iconst 0, 1), (51, .ireturn, 1)]
theorem tdX6_byTwo : tbX6_byTwo.all (fun q => decide (decode cX6_byTwo q.1 = .ok q.2)) = true := by decide +kernel
def pX6_byTwo_44 (kR2 : Int32 → Int32) (a0_ : Int32) (a1_ : Int64) (a3_ : Int32) : Int32 := kR2 (a3_ + 1)
def oX6_byTwo_44 (kO2 : Int32 → Prop) (a0_ : Int32) (a1_ : Int64) (a3_ : Int32) : Prop := kO2 (a3_ + 1)
set_option maxHeartbeats 4000000 in
set_option maxRecDepth 100000 in
theorem wX6_byTwo_44 {X : CX} {tys : List (ClassId × FieldType)} {D : va_G} {A : Nat → Prop} {res : Int32} (a0_ : Int32) (a1_ : Int64) (a3_ : Int32) (C : Cx X cX6_byTwo RX6 6 D tys A 3 0 0) (hR : Rt X (some .boolean) D tys A 0 0 (eI ([]) res)) (kR2 : Int32 → Int32) (kO2 : Int32 → Prop) (hk2 : ∀ z, kO2 z → kR2 z = res → At X D A 6 0 0 2 [(0, .int a0_), (1, .long a1_), (3, .int z)] [] (([] : va_W))) (ok : oX6_byTwo_44 kO2 a0_ a1_ a3_) (h : pX6_byTwo_44 kR2 a0_ a1_ a3_ = res) : At X D A 6 0 0 44 [(0, .int a0_), (1, .long a1_), (3, .int a3_)] [] (([] : va_W)) := by
  unfold pX6_byTwo_44 at h
  unfold oX6_byTwo_44 at ok
  refine r_iinc (v := a3_ + 1) (lv' := [(3, .int (a3_ + 1)), (0, .int a0_), (1, .long a1_)]) C 2 (dall tdX6_byTwo 25 rfl) rfl rfl (by decide) rfl ?_
  refine r_goto (tgt := 2) C (dall tdX6_byTwo 26 rfl) (by decide) ?_
  refine r_pick [1, 2, 0] rfl ?_
  exact hk2 (a3_ + 1) ok h
def bX6_byTwo_2 (a0_ : Int32) (a1_ : Int64)  (kR2 : Int32 → Int32) (v : Int32) : Int32 := if 384 ≤ v then 0 else if (fX6_can (fX6_partAt (v / 64) (v - v / 64 * 64)) a1_) = 0 then pX6_byTwo_44 kR2 a0_ a1_ v else if (fX6_byOne a0_ (a1_ ||| (fX6_partAt (v / 64) (v - v / 64 * 64)))) = 0 then pX6_byTwo_44 kR2 a0_ a1_ v else 1
def kX6_byTwo_2 (a0_ : Int32) (a1_ : Int64)  (kO2 : Int32 → Prop) (v : Int32) : Prop := (384 ≤ v → True) ∧ (¬ (384 ≤ v) → ((fX6_can (fX6_partAt (v / 64) (v - v / 64 * 64)) a1_) = 0 → oX6_byTwo_44 kO2 a0_ a1_ v) ∧ (¬ ((fX6_can (fX6_partAt (v / 64) (v - v / 64 * 64)) a1_) = 0) → (gX6_byOne a0_ (a1_ ||| (fX6_partAt (v / 64) (v - v / 64 * 64)))) ∧ (((fX6_byOne a0_ (a1_ ||| (fX6_partAt (v / 64) (v - v / 64 * 64)))) = 0 → oX6_byTwo_44 kO2 a0_ a1_ v) ∧ (¬ ((fX6_byOne a0_ (a1_ ||| (fX6_partAt (v / 64) (v - v / 64 * 64)))) = 0) → True))))
set_option maxHeartbeats 4000000 in
set_option maxRecDepth 100000 in
theorem wX6_byTwo_2 {X : CX} {tys : List (ClassId × FieldType)} {D : va_G} {A : Nat → Prop} {res : Int32} (a0_ : Int32) (a1_ : Int64) (C : Cx X cX6_byTwo RX6 6 D tys A 3 0 0) (hR : Rt X (some .boolean) D tys A 0 0 (eI ([]) res)) (kR2 : Int32 → Int32) (kO2 : Int32 → Prop) (hk2 : ∀ z, kO2 z → kR2 z = res → At X D A 6 0 0 2 [(0, .int a0_), (1, .long a1_), (3, .int z)] [] (([] : va_W))) (v : Int32) (ok : kX6_byTwo_2 a0_ a1_ kO2 v) (h : bX6_byTwo_2 a0_ a1_ kR2 v = res) : At X D A 6 0 0 2 [(0, .int a0_), (1, .long a1_), (3, .int v)] [] (([] : va_W)) := by
  unfold bX6_byTwo_2 at h
  unfold kX6_byTwo_2 at ok
  refine r_iload_n C 2 (dall tdX6_byTwo 2 rfl) rfl ?_
  refine r_sipush (v := 384) C (dall tdX6_byTwo 3 rfl) (by decide) ?_
  refine r_icmp_ge (tgt := 50) C (dall tdX6_byTwo 4 rfl) (by decide) (fun c1 => ?_) (fun c1 => ?_)
  · have h := (if_pos c1).symm.trans h
    have ok := ok.1 c1
    refine r_iconst (v := 0) C (dall tdX6_byTwo 27 rfl) (by decide) ?_
    exact r_zret C (by decide) hR (dall tdX6_byTwo 28 rfl) (by subst h; exact ⟨rfl, rfl⟩)
  · have h := (if_neg c1).symm.trans h
    have ok := ok.2 c1
    refine r_iload_n C 2 (dall tdX6_byTwo 5 rfl) rfl ?_
    refine r_bipush (v := 64) C (dall tdX6_byTwo 6 rfl) (by decide) ?_
    refine r_idiv C (dall tdX6_byTwo 7 rfl) (by decide) ?_
    refine r_iload_n C 2 (dall tdX6_byTwo 8 rfl) rfl ?_
    refine r_bipush (v := 64) C (dall tdX6_byTwo 9 rfl) (by decide) ?_
    refine r_irem C (dall tdX6_byTwo 10 rfl) (by decide) ?_
    refine r_s0L (as := [.int (v / 64), .int (v - v / 64 * 64)]) C (zX6_partAt (v / 64) (v - v / 64 * 64) ) ms_X6_partAt km_X6_391 (by decide) (by decide) ⟨Nat.le_refl _, Nat.le_refl _⟩ rfl rfl (Nat.le_of_ble_eq_true rfl) (dall tdX6_byTwo 11 rfl) ?_
    refine r_lstore (lv' := [(4, .long (fX6_partAt (v / 64) (v - v / 64 * 64))), (0, .int a0_), (1, .long a1_), (3, .int v)]) C (dall tdX6_byTwo 12 rfl) (by decide) rfl ?_
    refine r_lload C 0 (dall tdX6_byTwo 13 rfl) rfl ?_
    refine r_lload_n C 2 (dall tdX6_byTwo 14 rfl) rfl ?_
    refine r_s0I (as := [.long (fX6_partAt (v / 64) (v - v / 64 * 64)), .long a1_]) C (zX6_can (fX6_partAt (v / 64) (v - v / 64 * 64)) a1_ ) ms_X6_can km_X6_395 (by decide) (by decide) ⟨Nat.le_refl _, Nat.le_refl _⟩ rfl rfl (Nat.le_of_ble_eq_true rfl) (dall tdX6_byTwo 15 rfl) ?_
    refine r_if_eq (tgt := 44) C (dall tdX6_byTwo 16 rfl) (by decide) (fun c2 => ?_) (fun c2 => ?_)
    · have h := (if_pos c2).symm.trans h
      have ok := ok.1 c2
      refine r_pick [1, 2, 3] rfl ?_
      exact wX6_byTwo_44 a0_ a1_ v C hR kR2 kO2 hk2 ok h
    · have h := (if_neg c2).symm.trans h
      have ok := ok.2 c2
      refine r_iload_n C 1 (dall tdX6_byTwo 17 rfl) rfl ?_
      refine r_lload_n C 2 (dall tdX6_byTwo 18 rfl) rfl ?_
      refine r_lload C 0 (dall tdX6_byTwo 19 rfl) rfl ?_
      refine r_lor C (dall tdX6_byTwo 20 rfl) ?_
      obtain ⟨o3, ok⟩ := ok
      refine r_s0I (as := [.int a0_, .long (a1_ ||| (fX6_partAt (v / 64) (v - v / 64 * 64)))]) C (zX6_byOne a0_ (a1_ ||| (fX6_partAt (v / 64) (v - v / 64 * 64))) o3) ms_X6_byOne km_X6_415 (by decide) (by decide) ⟨Nat.le_refl _, Nat.le_refl _⟩ rfl rfl (Nat.le_of_ble_eq_true rfl) (dall tdX6_byTwo 21 rfl) ?_
      refine r_if_eq (tgt := 44) C (dall tdX6_byTwo 22 rfl) (by decide) (fun c4 => ?_) (fun c4 => ?_)
      · have h := (if_pos c4).symm.trans h
        have ok := ok.1 c4
        refine r_pick [1, 2, 3] rfl ?_
        exact wX6_byTwo_44 a0_ a1_ v C hR kR2 kO2 hk2 ok h
      · have h := (if_neg c4).symm.trans h
        have ok := ok.2 c4
        refine r_iconst (v := 1) C (dall tdX6_byTwo 23 rfl) (by decide) ?_
        exact r_zret C (by decide) hR (dall tdX6_byTwo 24 rfl) (by subst h; exact ⟨rfl, rfl⟩)
set_option maxHeartbeats 4000000 in
set_option maxRecDepth 100000 in
theorem lX6_byTwo_2 {X : CX} {tys : List (ClassId × FieldType)} {D : va_G} {A : Nat → Prop} {res : Int32} (a0_ : Int32) (a1_ : Int64) (C : Cx X cX6_byTwo RX6 6 D tys A 3 0 0) (hR : Rt X (some .boolean) D tys A 0 0 (eI ([]) res))  (n : Nat) (v : Int32) (ok : lpOk (kX6_byTwo_2 a0_ a1_ ) n v) (h : lp 0 (bX6_byTwo_2 a0_ a1_ ) n v = res) : At X D A 6 0 0 2 [(0, .int a0_), (1, .long a1_), (3, .int v)] [] (([] : va_W)) :=
  lp_rule (fun v rr_ => rr_ = res → At X D A 6 0 0 2 [(0, .int a0_), (1, .long a1_), (3, .int v)] [] (([] : va_W))) (fun kR kO hk v ok h => wX6_byTwo_2 a0_ a1_ C hR  kR kO hk v ok h) n v ok h
def pX6_byTwo_0  (a0_ : Int32) (a1_ : Int64) : Int32 := lp 0 (bX6_byTwo_2 a0_ a1_ ) fu 0
def oX6_byTwo_0  (a0_ : Int32) (a1_ : Int64) : Prop := lpOk (kX6_byTwo_2 a0_ a1_ ) fu 0
set_option maxHeartbeats 4000000 in
set_option maxRecDepth 100000 in
theorem wX6_byTwo_0 {X : CX} {tys : List (ClassId × FieldType)} {D : va_G} {A : Nat → Prop} {res : Int32} (a0_ : Int32) (a1_ : Int64) (C : Cx X cX6_byTwo RX6 6 D tys A 3 0 0) (hR : Rt X (some .boolean) D tys A 0 0 (eI ([]) res))  (ok : oX6_byTwo_0  a0_ a1_) (h : pX6_byTwo_0  a0_ a1_ = res) : At X D A 6 0 0 0 [(0, .int a0_), (1, .long a1_)] [] (([] : va_W)) := by
  unfold pX6_byTwo_0 at h
  unfold oX6_byTwo_0 at ok
  refine r_iconst (v := 0) C (dall tdX6_byTwo 0 rfl) (by decide) ?_
  refine r_istore_n (lv' := [(3, .int 0), (0, .int a0_), (1, .long a1_)]) C (dall tdX6_byTwo 1 rfl) (by decide) rfl ?_
  refine r_pick [1, 2, 0] rfl ?_
  exact lX6_byTwo_2 a0_ a1_ C hR  fu _ ok h
def fX6_byTwo (a0_ : Int32) (a1_ : Int64) : Int32 := pX6_byTwo_0  a0_ a1_
def gX6_byTwo (a0_ : Int32) (a1_ : Int64) : Prop := oX6_byTwo_0  a0_ a1_
set_option maxRecDepth 100000 in
theorem zX6_byTwo  {D : va_G} (a0_ : Int32) (a1_ : Int64) (ok : gX6_byTwo a0_ a1_)  {tys : List (ClassId × FieldType)} : Con yX6_byTwo cX6_byTwo 6 (some .boolean) 3 0 0 D tys [.int a0_, .long a1_] ([]) (eI ([]) (fX6_byTwo a0_ a1_)) :=
  Con.of (own := RX6) (by decide +kernel) rfl (Nat.le_of_ble_eq_true rfl) (Nat.zero_le _) (fun X A C hR _ => (wX6_byTwo_0 a0_ a1_ C hR  ok rfl))
theorem ms_X6_byTwo : MS_ yX6_byTwo cX6_byTwo 6 (some .boolean) 2 := ⟨ks_X6_byTwo, kn_X6, kc_X6_byTwo, by decide +kernel⟩
def tbX6_lowest : List (Nat × Instr × Nat) := [(0, .lload_n 0, 1), (1, .lstore 5, 2), (3, .lload_n 2, 1), (4, .lstore 7, 2), (6, .lload 7, 2), (8, .lconst 0, 1), (9, .lcmp, 1), (10, .ifCond .eq 21, 3), (13, .lload 5, 2), (15, .lload 7, 2), (17, .lrem, 1), (18, .lstore 9, 2), (20, .lload 7, 2), (22, .lstore 5, 2), (24, .lload 9, 2), (26, .lstore 7, 2), (28, .goto (-22), 3), (31, .iload 4, 2), (33, .ifCond .ne 10, 3), (36, .lload_n 0, 1), (37, .lload 5, 2), (39, .ldiv, 1), (40, .goto 7, 3), (43, .lload_n 2, 1), (44, .lload 5, 2), (46, .ldiv, 1), (47, .lreturn, 1)]
theorem tdX6_lowest : tbX6_lowest.all (fun q => decide (decode cX6_lowest q.1 = .ok q.2)) = true := by decide +kernel
def bX6_lowest_6 (a0_ : Int64) (a2_ : Int64) (a4_ : Int32)  (kR6 : Int64 × Int64 → Int64) (v : Int64 × Int64) : Int64 := if v.2 = 0 then if a4_ = 0 then a0_ / v.1 else a2_ / v.1 else kR6 (v.2, v.1 - v.1 / v.2 * v.2)
def kX6_lowest_6 (a0_ : Int64) (a2_ : Int64) (a4_ : Int32)  (kO6 : Int64 × Int64 → Prop) (v : Int64 × Int64) : Prop := (v.2 = 0 → (a4_ = 0 → ¬ v.1 = 0) ∧ (¬ (a4_ = 0) → ¬ v.1 = 0)) ∧ (¬ (v.2 = 0) → (¬ v.2 = 0) ∧ (kO6 (v.2, v.1 - v.1 / v.2 * v.2)))
set_option maxHeartbeats 4000000 in
set_option maxRecDepth 100000 in
theorem wX6_lowest_6 {X : CX} {tys : List (ClassId × FieldType)} {D : va_G} {A : Nat → Prop} {res : Int64} (a0_ : Int64) (a2_ : Int64) (a4_ : Int32) (C : Cx X cX6_lowest RX6 11 D tys A 0 0 0) (hR : Rt X (some .long) D tys A 0 0 (eL ([]) res)) (kR6 : Int64 × Int64 → Int64) (kO6 : Int64 × Int64 → Prop) (hk6 : ∀ z, kO6 z → kR6 z = res → At X D A 11 0 0 6 [(0, .long a0_), (2, .long a2_), (4, .int a4_), (5, .long z.1), (7, .long z.2)] [] (([] : va_W))) (v : Int64 × Int64) (ok : kX6_lowest_6 a0_ a2_ a4_ kO6 v) (h : bX6_lowest_6 a0_ a2_ a4_ kR6 v = res) : At X D A 11 0 0 6 [(0, .long a0_), (2, .long a2_), (4, .int a4_), (5, .long v.1), (7, .long v.2)] [] (([] : va_W)) := by
  unfold bX6_lowest_6 at h
  unfold kX6_lowest_6 at ok
  refine r_lload C 4 (dall tdX6_lowest 4 rfl) rfl ?_
  refine r_lconst (v := 0) C (dall tdX6_lowest 5 rfl) (by decide) ?_
  refine r_lif_eq (tgt := 31) C (dall tdX6_lowest 6 rfl) (dall tdX6_lowest 7 rfl) (by decide) (fun c1 => ?_) (fun c1 => ?_)
  · have h := (if_pos c1).symm.trans h
    have ok := ok.1 c1
    refine r_iload C 2 (dall tdX6_lowest 17 rfl) rfl ?_
    refine r_if_ne (tgt := 43) C (dall tdX6_lowest 18 rfl) (by decide) (fun c2 => ?_) (fun c2 => ?_)
    · have h := (if_neg c2).symm.trans h
      have ok := ok.2 c2
      refine r_lload_n C 1 (dall tdX6_lowest 23 rfl) rfl ?_
      refine r_lload C 3 (dall tdX6_lowest 24 rfl) rfl ?_
      have o3 := ok
      refine r_ldiv C (dall tdX6_lowest 25 rfl) o3 ?_
      exact r_lret C hR (dall tdX6_lowest 26 rfl) (by subst h; exact ⟨rfl, rfl⟩)
    · have h := (if_pos c2).symm.trans h
      have ok := ok.1 c2
      refine r_lload_n C 0 (dall tdX6_lowest 19 rfl) rfl ?_
      refine r_lload C 3 (dall tdX6_lowest 20 rfl) rfl ?_
      have o4 := ok
      refine r_ldiv C (dall tdX6_lowest 21 rfl) o4 ?_
      refine r_goto (tgt := 47) C (dall tdX6_lowest 22 rfl) (by decide) ?_
      exact r_lret C hR (dall tdX6_lowest 26 rfl) (by subst h; exact ⟨rfl, rfl⟩)
  · have h := (if_neg c1).symm.trans h
    have ok := ok.2 c1
    refine r_lload C 3 (dall tdX6_lowest 8 rfl) rfl ?_
    refine r_lload C 4 (dall tdX6_lowest 9 rfl) rfl ?_
    obtain ⟨o5, ok⟩ := ok
    refine r_lrem C (dall tdX6_lowest 10 rfl) o5 ?_
    refine r_lstore (lv' := [(9, .long (v.1 - v.1 / v.2 * v.2)), (0, .long a0_), (2, .long a2_), (4, .int a4_), (5, .long v.1), (7, .long v.2)]) C (dall tdX6_lowest 11 rfl) (by decide) rfl ?_
    refine r_lload C 5 (dall tdX6_lowest 12 rfl) rfl ?_
    refine r_lstore (lv' := [(5, .long v.2), (9, .long (v.1 - v.1 / v.2 * v.2)), (0, .long a0_), (2, .long a2_), (4, .int a4_), (7, .long v.2)]) C (dall tdX6_lowest 13 rfl) (by decide) rfl ?_
    refine r_lload C 1 (dall tdX6_lowest 14 rfl) rfl ?_
    refine r_lstore (lv' := [(7, .long (v.1 - v.1 / v.2 * v.2)), (5, .long v.2), (9, .long (v.1 - v.1 / v.2 * v.2)), (0, .long a0_), (2, .long a2_), (4, .int a4_)]) C (dall tdX6_lowest 15 rfl) (by decide) rfl ?_
    refine r_goto (tgt := 6) C (dall tdX6_lowest 16 rfl) (by decide) ?_
    refine r_pick [3, 4, 5, 1, 0] rfl ?_
    exact hk6 (v.2, v.1 - v.1 / v.2 * v.2) ok h
set_option maxHeartbeats 4000000 in
set_option maxRecDepth 100000 in
theorem lX6_lowest_6 {X : CX} {tys : List (ClassId × FieldType)} {D : va_G} {A : Nat → Prop} {res : Int64} (a0_ : Int64) (a2_ : Int64) (a4_ : Int32) (C : Cx X cX6_lowest RX6 11 D tys A 0 0 0) (hR : Rt X (some .long) D tys A 0 0 (eL ([]) res))  (n : Nat) (v : Int64 × Int64) (ok : lpOk (kX6_lowest_6 a0_ a2_ a4_ ) n v) (h : lp 0 (bX6_lowest_6 a0_ a2_ a4_ ) n v = res) : At X D A 11 0 0 6 [(0, .long a0_), (2, .long a2_), (4, .int a4_), (5, .long v.1), (7, .long v.2)] [] (([] : va_W)) :=
  lp_rule (fun v rr_ => rr_ = res → At X D A 11 0 0 6 [(0, .long a0_), (2, .long a2_), (4, .int a4_), (5, .long v.1), (7, .long v.2)] [] (([] : va_W))) (fun kR kO hk v ok h => wX6_lowest_6 a0_ a2_ a4_ C hR  kR kO hk v ok h) n v ok h
def pX6_lowest_0  (a0_ : Int64) (a2_ : Int64) (a4_ : Int32) : Int64 := lp 0 (bX6_lowest_6 a0_ a2_ a4_ ) fu (a0_, a2_)
def oX6_lowest_0  (a0_ : Int64) (a2_ : Int64) (a4_ : Int32) : Prop := lpOk (kX6_lowest_6 a0_ a2_ a4_ ) fu (a0_, a2_)
set_option maxHeartbeats 4000000 in
set_option maxRecDepth 100000 in
theorem wX6_lowest_0 {X : CX} {tys : List (ClassId × FieldType)} {D : va_G} {A : Nat → Prop} {res : Int64} (a0_ : Int64) (a2_ : Int64) (a4_ : Int32) (C : Cx X cX6_lowest RX6 11 D tys A 0 0 0) (hR : Rt X (some .long) D tys A 0 0 (eL ([]) res))  (ok : oX6_lowest_0  a0_ a2_ a4_) (h : pX6_lowest_0  a0_ a2_ a4_ = res) : At X D A 11 0 0 0 [(0, .long a0_), (2, .long a2_), (4, .int a4_)] [] (([] : va_W)) := by
  unfold pX6_lowest_0 at h
  unfold oX6_lowest_0 at ok
  refine r_lload_n C 0 (dall tdX6_lowest 0 rfl) rfl ?_
  refine r_lstore (lv' := [(5, .long a0_), (0, .long a0_), (2, .long a2_), (4, .int a4_)]) C (dall tdX6_lowest 1 rfl) (by decide) rfl ?_
  refine r_lload_n C 2 (dall tdX6_lowest 2 rfl) rfl ?_
  refine r_lstore (lv' := [(7, .long a2_), (5, .long a0_), (0, .long a0_), (2, .long a2_), (4, .int a4_)]) C (dall tdX6_lowest 3 rfl) (by decide) rfl ?_
  refine r_pick [2, 3, 4, 1, 0] rfl ?_
  exact lX6_lowest_6 a0_ a2_ a4_ C hR  fu _ ok h
def fX6_lowest (a0_ : Int64) (a2_ : Int64) (a4_ : Int32) : Int64 := pX6_lowest_0  a0_ a2_ a4_
def gX6_lowest (a0_ : Int64) (a2_ : Int64) (a4_ : Int32) : Prop := oX6_lowest_0  a0_ a2_ a4_
set_option maxRecDepth 100000 in
theorem zX6_lowest  {D : va_G} (a0_ : Int64) (a2_ : Int64) (a4_ : Int32) (ok : gX6_lowest a0_ a2_ a4_)  {tys : List (ClassId × FieldType)} : Con yX6_lowest cX6_lowest 11 (some .long) 0 0 0 D tys [.long a0_, .long a2_, .int a4_] ([]) (eL ([]) (fX6_lowest a0_ a2_ a4_)) :=
  Con.of (own := RX6) (by decide +kernel) rfl (Nat.le_of_ble_eq_true rfl) (Nat.zero_le _) (fun X A C hR _ => (wX6_lowest_0 a0_ a2_ a4_ C hR  ok rfl))
theorem ms_X6_lowest : MS_ yX6_lowest cX6_lowest 11 (some .long) 3 := ⟨ks_X6_lowest, kn_X6, kc_X6_lowest, by decide +kernel⟩
def tbX6_isSheet : List (Nat × Instr × Nat) := [(0, .iload_n 0, 1), (1, .i2l, 1), (2, .lconst 0, 1), (3, .ldc2_w 84, 3), (6, .invokestatic 74, 3), (9, .ireturn, 1)]
theorem tdX6_isSheet : tbX6_isSheet.all (fun q => decide (decode cX6_isSheet q.1 = .ok q.2)) = true := by decide +kernel
def pX6_isSheet_0  (a0_ : Int32) : Int32 := fX6_in a0_.toInt64 0 (3)
def oX6_isSheet_0  (a0_ : Int32) : Prop := narrow .boolean (.int (fX6_in a0_.toInt64 0 (3))) = .int (fX6_in a0_.toInt64 0 (3))
set_option maxHeartbeats 4000000 in
set_option maxRecDepth 100000 in
theorem wX6_isSheet_0 {X : CX} {tys : List (ClassId × FieldType)} {D : va_G} {A : Nat → Prop} {res : Int32} (a0_ : Int32) (C : Cx X cX6_isSheet RX6 1 D tys A 1 0 0) (hR : Rt X (some .boolean) D tys A 0 0 (eI ([]) res))  (ok : oX6_isSheet_0  a0_) (h : pX6_isSheet_0  a0_ = res) : At X D A 1 0 0 0 [(0, .int a0_)] [] (([] : va_W)) := by
  unfold pX6_isSheet_0 at h
  unfold oX6_isSheet_0 at ok
  refine r_iload_n C 0 (dall tdX6_isSheet 0 rfl) rfl ?_
  refine r_i2l C (dall tdX6_isSheet 1 rfl) ?_
  refine r_lconst (v := 0) C (dall tdX6_isSheet 2 rfl) (by decide) ?_
  refine r_ldc2 C kk_X6_84 (dall tdX6_isSheet 3 rfl) ?_
  refine r_s0I (as := [.long a0_.toInt64, .long 0, .long (3)]) C (zX6_in a0_.toInt64 0 (3) ) ms_X6_in km_X6_74 (by decide) (by decide) ⟨Nat.le_refl _, Nat.le_refl _⟩ rfl rfl (Nat.le_of_ble_eq_true rfl) (dall tdX6_isSheet 4 rfl) ?_
  have o1 := ok
  exact r_zret C o1 hR (dall tdX6_isSheet 5 rfl) (by subst h; exact ⟨rfl, rfl⟩)
def fX6_isSheet (a0_ : Int32) : Int32 := pX6_isSheet_0  a0_
def gX6_isSheet (a0_ : Int32) : Prop := oX6_isSheet_0  a0_
set_option maxRecDepth 100000 in
theorem zX6_isSheet  {D : va_G} (a0_ : Int32) (ok : gX6_isSheet a0_)  {tys : List (ClassId × FieldType)} : Con yX6_isSheet cX6_isSheet 1 (some .boolean) 1 0 0 D tys [.int a0_] ([]) (eI ([]) (fX6_isSheet a0_)) :=
  Con.of (own := RX6) (by decide +kernel) rfl (Nat.le_of_ble_eq_true rfl) (Nat.zero_le _) (fun X A C hR _ => (wX6_isSheet_0 a0_ C hR  ok rfl))
theorem ms_X6_isSheet : MS_ yX6_isSheet cX6_isSheet 1 (some .boolean) 1 := ⟨ks_X6_isSheet, kn_X6, kc_X6_isSheet, by decide +kernel⟩
def tbX6_over : List (Nat × Instr × Nat) := [(0, .iload_n 0, 1), (1, .ifCond .ne 7, 3), (4, .iconst (-1), 1), (5, .goto 22, 3), (8, .iload_n 0, 1), (9, .iconst 3, 1), (10, .if_icmp .ne 7, 3), (13, .iconst 1, 1), (14, .goto 13, 3), (17, .iload_n 0, 1), (18, .iconst 4, 1), (19, .if_icmp .ne 7, 3), (22, .iconst 2, 1), (23, .goto 4, 3), (26, .iconst 0, 1), (27, .ireturn, 1)]
theorem tdX6_over : tbX6_over.all (fun q => decide (decode cX6_over q.1 = .ok q.2)) = true := by decide +kernel
def pX6_over_0  (a0_ : Int32) : Int32 := if a0_ = 0 then (-1) else if a0_ = 3 then 1 else if a0_ = 4 then 2 else 0
set_option maxHeartbeats 4000000 in
set_option maxRecDepth 100000 in
theorem wX6_over_0 {X : CX} {tys : List (ClassId × FieldType)} {D : va_G} {A : Nat → Prop} {res : Int32} (a0_ : Int32) (C : Cx X cX6_over RX6 1 D tys A 0 0 0) (hR : Rt X (some .int) D tys A 0 0 (eI ([]) res))  (h : pX6_over_0  a0_ = res) : At X D A 1 0 0 0 [(0, .int a0_)] [] (([] : va_W)) := by
  unfold pX6_over_0 at h
  refine r_iload_n C 0 (dall tdX6_over 0 rfl) rfl ?_
  refine r_if_ne (tgt := 8) C (dall tdX6_over 1 rfl) (by decide) (fun c1 => ?_) (fun c1 => ?_)
  · have h := (if_neg c1).symm.trans h
    refine r_iload_n C 0 (dall tdX6_over 4 rfl) rfl ?_
    refine r_iconst (v := 3) C (dall tdX6_over 5 rfl) (by decide) ?_
    refine r_icmp_ne (tgt := 17) C (dall tdX6_over 6 rfl) (by decide) (fun c2 => ?_) (fun c2 => ?_)
    · have h := (if_neg c2).symm.trans h
      refine r_iload_n C 0 (dall tdX6_over 9 rfl) rfl ?_
      refine r_iconst (v := 4) C (dall tdX6_over 10 rfl) (by decide) ?_
      refine r_icmp_ne (tgt := 26) C (dall tdX6_over 11 rfl) (by decide) (fun c3 => ?_) (fun c3 => ?_)
      · have h := (if_neg c3).symm.trans h
        refine r_iconst (v := 0) C (dall tdX6_over 14 rfl) (by decide) ?_
        exact r_iret C hR (dall tdX6_over 15 rfl) (by subst h; exact ⟨rfl, rfl⟩)
      · have h := (if_pos c3).symm.trans h
        refine r_iconst (v := 2) C (dall tdX6_over 12 rfl) (by decide) ?_
        refine r_goto (tgt := 27) C (dall tdX6_over 13 rfl) (by decide) ?_
        exact r_iret C hR (dall tdX6_over 15 rfl) (by subst h; exact ⟨rfl, rfl⟩)
    · have h := (if_pos c2).symm.trans h
      refine r_iconst (v := 1) C (dall tdX6_over 7 rfl) (by decide) ?_
      refine r_goto (tgt := 27) C (dall tdX6_over 8 rfl) (by decide) ?_
      exact r_iret C hR (dall tdX6_over 15 rfl) (by subst h; exact ⟨rfl, rfl⟩)
  · have h := (if_pos c1).symm.trans h
    refine r_iconst (v := -1) C (dall tdX6_over 2 rfl) (by decide) ?_
    refine r_goto (tgt := 27) C (dall tdX6_over 3 rfl) (by decide) ?_
    exact r_iret C hR (dall tdX6_over 15 rfl) (by subst h; exact ⟨rfl, rfl⟩)
def fX6_over (a0_ : Int32) : Int32 := pX6_over_0  a0_
set_option maxRecDepth 100000 in
theorem zX6_over  {D : va_G} (a0_ : Int32)  {tys : List (ClassId × FieldType)} : Con yX6_over cX6_over 1 (some .int) 0 0 0 D tys [.int a0_] ([]) (eI ([]) (fX6_over a0_)) :=
  Con.of (own := RX6) (by decide +kernel) rfl (Nat.le_of_ble_eq_true rfl) (Nat.zero_le _) (fun X A C hR _ => (wX6_over_0 a0_ C hR  rfl))
theorem ms_X6_over : MS_ yX6_over cX6_over 1 (some .int) 1 := ⟨ks_X6_over, kn_X6, kc_X6_over, by decide +kernel⟩

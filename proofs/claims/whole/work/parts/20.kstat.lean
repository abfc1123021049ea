def tbJ13_bitCount_95d88 : List (Nat × Instr × Nat) := [(0, .lload_n 0, 1), (1, .lload_n 0, 1), (2, .iconst 1, 1), (3, .lushr, 1), (4, .ldc2_w 314, 3), (7, .land, 1), (8, .lsub, 1), (9, .lstore_n 0, 1), (10, .lload_n 0, 1), (11, .ldc2_w 316, 3), (14, .land, 1), (15, .lload_n 0, 1), (16, .iconst 2, 1), (17, .lushr, 1), (18, .ldc2_w 316, 3), (21, .land, 1), (22, .ladd, 1), (23, .lstore_n 0, 1), (24, .lload_n 0, 1), (25, .lload_n 0, 1), (26, .iconst 4, 1), (27, .lushr, 1), (28, .ladd, 1), (29, .ldc2_w 318, 3), (32, .land, 1), (33, .lstore_n 0, 1), (34, .lload_n 0, 1), (35, .lload_n 0, 1), (36, .bipush 8, 2), (38, .lushr, 1), (39, .ladd, 1), (40, .lstore_n 0, 1), (41, .lload_n 0, 1), (42, .lload_n 0, 1), (43, .bipush 16, 2), (45, .lushr, 1), (46, .ladd, 1), (47, .lstore_n 0, 1), (48, .lload_n 0, 1), (49, .lload_n 0, 1), (50, .bipush 32, 2), (52, .lushr, 1), (53, .ladd, 1), (54, .lstore_n 0, 1), (55, .lload_n 0, 1), (56, .l2i, 1), (57, .bipush 127, 2), (59, .iand, 1), (60, .ireturn, 1)]
theorem tdJ13_bitCount_95d88 : tbJ13_bitCount_95d88.all (fun q => decide (decode cJ13_bitCount_95d88 q.1 = .ok q.2)) = true := by decide +kernel
def pJ13_bitCount_95d88_0  (a0_ : Int64) : Int32 := (((((((((a0_ - ((jushr a0_ 1) &&& (6148914691236517205))) &&& (3689348814741910323)) + ((jushr (a0_ - ((jushr a0_ 1) &&& (6148914691236517205))) 2) &&& (3689348814741910323))) + (jushr (((a0_ - ((jushr a0_ 1) &&& (6148914691236517205))) &&& (3689348814741910323)) + ((jushr (a0_ - ((jushr a0_ 1) &&& (6148914691236517205))) 2) &&& (3689348814741910323))) 4)) &&& (1085102592571150095)) + (jushr (((((a0_ - ((jushr a0_ 1) &&& (6148914691236517205))) &&& (3689348814741910323)) + ((jushr (a0_ - ((jushr a0_ 1) &&& (6148914691236517205))) 2) &&& (3689348814741910323))) + (jushr (((a0_ - ((jushr a0_ 1) &&& (6148914691236517205))) &&& (3689348814741910323)) + ((jushr (a0_ - ((jushr a0_ 1) &&& (6148914691236517205))) 2) &&& (3689348814741910323))) 4)) &&& (1085102592571150095)) 8)) + (jushr ((((((a0_ - ((jushr a0_ 1) &&& (6148914691236517205))) &&& (3689348814741910323)) + ((jushr (a0_ - ((jushr a0_ 1) &&& (6148914691236517205))) 2) &&& (3689348814741910323))) + (jushr (((a0_ - ((jushr a0_ 1) &&& (6148914691236517205))) &&& (3689348814741910323)) + ((jushr (a0_ - ((jushr a0_ 1) &&& (6148914691236517205))) 2) &&& (3689348814741910323))) 4)) &&& (1085102592571150095)) + (jushr (((((a0_ - ((jushr a0_ 1) &&& (6148914691236517205))) &&& (3689348814741910323)) + ((jushr (a0_ - ((jushr a0_ 1) &&& (6148914691236517205))) 2) &&& (3689348814741910323))) + (jushr (((a0_ - ((jushr a0_ 1) &&& (6148914691236517205))) &&& (3689348814741910323)) + ((jushr (a0_ - ((jushr a0_ 1) &&& (6148914691236517205))) 2) &&& (3689348814741910323))) 4)) &&& (1085102592571150095)) 8)) 16)) + (jushr (((((((a0_ - ((jushr a0_ 1) &&& (6148914691236517205))) &&& (3689348814741910323)) + ((jushr (a0_ - ((jushr a0_ 1) &&& (6148914691236517205))) 2) &&& (3689348814741910323))) + (jushr (((a0_ - ((jushr a0_ 1) &&& (6148914691236517205))) &&& (3689348814741910323)) + ((jushr (a0_ - ((jushr a0_ 1) &&& (6148914691236517205))) 2) &&& (3689348814741910323))) 4)) &&& (1085102592571150095)) + (jushr (((((a0_ - ((jushr a0_ 1) &&& (6148914691236517205))) &&& (3689348814741910323)) + ((jushr (a0_ - ((jushr a0_ 1) &&& (6148914691236517205))) 2) &&& (3689348814741910323))) + (jushr (((a0_ - ((jushr a0_ 1) &&& (6148914691236517205))) &&& (3689348814741910323)) + ((jushr (a0_ - ((jushr a0_ 1) &&& (6148914691236517205))) 2) &&& (3689348814741910323))) 4)) &&& (1085102592571150095)) 8)) + (jushr ((((((a0_ - ((jushr a0_ 1) &&& (6148914691236517205))) &&& (3689348814741910323)) + ((jushr (a0_ - ((jushr a0_ 1) &&& (6148914691236517205))) 2) &&& (3689348814741910323))) + (jushr (((a0_ - ((jushr a0_ 1) &&& (6148914691236517205))) &&& (3689348814741910323)) + ((jushr (a0_ - ((jushr a0_ 1) &&& (6148914691236517205))) 2) &&& (3689348814741910323))) 4)) &&& (1085102592571150095)) + (jushr (((((a0_ - ((jushr a0_ 1) &&& (6148914691236517205))) &&& (3689348814741910323)) + ((jushr (a0_ - ((jushr a0_ 1) &&& (6148914691236517205))) 2) &&& (3689348814741910323))) + (jushr (((a0_ - ((jushr a0_ 1) &&& (6148914691236517205))) &&& (3689348814741910323)) + ((jushr (a0_ - ((jushr a0_ 1) &&& (6148914691236517205))) 2) &&& (3689348814741910323))) 4)) &&& (1085102592571150095)) 8)) 16)) 32)).toInt32) &&& 127
set_option maxHeartbeats 4000000 in
set_option maxRecDepth 100000 in
theorem wJ13_bitCount_95d88_0 {X : CX} {tys : List (ClassId × FieldType)} {D : va_G} {A : Nat → Prop} {res : Int32} (a0_ : Int64) (C : Cx X cJ13_bitCount_95d88 RJ13 2 D tys A 0 0 0) (hR : Rt X (some .int) D tys A 0 0 (eI ([]) res))  (h : pJ13_bitCount_95d88_0  a0_ = res) : At X D A 2 0 0 0 [(0, .long a0_)] [] (([] : va_W)) := by
  unfold pJ13_bitCount_95d88_0 at h
  refine r_lload_n C 0 (dall tdJ13_bitCount_95d88 0 rfl) rfl ?_
  refine r_lload_n C 0 (dall tdJ13_bitCount_95d88 1 rfl) rfl ?_
  refine r_iconst (v := 1) C (dall tdJ13_bitCount_95d88 2 rfl) (by decide) ?_
  refine r_lushr C (dall tdJ13_bitCount_95d88 3 rfl) ?_
  refine r_ldc2 C kk_J13_314 (dall tdJ13_bitCount_95d88 4 rfl) ?_
  refine r_land C (dall tdJ13_bitCount_95d88 5 rfl) ?_
  refine r_lsub C (dall tdJ13_bitCount_95d88 6 rfl) ?_
  refine r_lstore_n (lv' := [(0, .long (a0_ - ((jushr a0_ 1) &&& (6148914691236517205))))]) C (dall tdJ13_bitCount_95d88 7 rfl) (by decide) rfl ?_
  refine r_lload_n C 0 (dall tdJ13_bitCount_95d88 8 rfl) rfl ?_
  refine r_ldc2 C kk_J13_316 (dall tdJ13_bitCount_95d88 9 rfl) ?_
  refine r_land C (dall tdJ13_bitCount_95d88 10 rfl) ?_
  refine r_lload_n C 0 (dall tdJ13_bitCount_95d88 11 rfl) rfl ?_
  refine r_iconst (v := 2) C (dall tdJ13_bitCount_95d88 12 rfl) (by decide) ?_
  refine r_lushr C (dall tdJ13_bitCount_95d88 13 rfl) ?_
  refine r_ldc2 C kk_J13_316 (dall tdJ13_bitCount_95d88 14 rfl) ?_
  refine r_land C (dall tdJ13_bitCount_95d88 15 rfl) ?_
  refine r_ladd C (dall tdJ13_bitCount_95d88 16 rfl) ?_
  refine r_lstore_n (lv' := [(0, .long (((a0_ - ((jushr a0_ 1) &&& (6148914691236517205))) &&& (3689348814741910323)) + ((jushr (a0_ - ((jushr a0_ 1) &&& (6148914691236517205))) 2) &&& (3689348814741910323))))]) C (dall tdJ13_bitCount_95d88 17 rfl) (by decide) rfl ?_
  refine r_lload_n C 0 (dall tdJ13_bitCount_95d88 18 rfl) rfl ?_
  refine r_lload_n C 0 (dall tdJ13_bitCount_95d88 19 rfl) rfl ?_
  refine r_iconst (v := 4) C (dall tdJ13_bitCount_95d88 20 rfl) (by decide) ?_
  refine r_lushr C (dall tdJ13_bitCount_95d88 21 rfl) ?_
  refine r_ladd C (dall tdJ13_bitCount_95d88 22 rfl) ?_
  refine r_ldc2 C kk_J13_318 (dall tdJ13_bitCount_95d88 23 rfl) ?_
  refine r_land C (dall tdJ13_bitCount_95d88 24 rfl) ?_
  refine r_lstore_n (lv' := [(0, .long (((((a0_ - ((jushr a0_ 1) &&& (6148914691236517205))) &&& (3689348814741910323)) + ((jushr (a0_ - ((jushr a0_ 1) &&& (6148914691236517205))) 2) &&& (3689348814741910323))) + (jushr (((a0_ - ((jushr a0_ 1) &&& (6148914691236517205))) &&& (3689348814741910323)) + ((jushr (a0_ - ((jushr a0_ 1) &&& (6148914691236517205))) 2) &&& (3689348814741910323))) 4)) &&& (1085102592571150095)))]) C (dall tdJ13_bitCount_95d88 25 rfl) (by decide) rfl ?_
  refine r_lload_n C 0 (dall tdJ13_bitCount_95d88 26 rfl) rfl ?_
  refine r_lload_n C 0 (dall tdJ13_bitCount_95d88 27 rfl) rfl ?_
  refine r_bipush (v := 8) C (dall tdJ13_bitCount_95d88 28 rfl) (by decide) ?_
  refine r_lushr C (dall tdJ13_bitCount_95d88 29 rfl) ?_
  refine r_ladd C (dall tdJ13_bitCount_95d88 30 rfl) ?_
  refine r_lstore_n (lv' := [(0, .long ((((((a0_ - ((jushr a0_ 1) &&& (6148914691236517205))) &&& (3689348814741910323)) + ((jushr (a0_ - ((jushr a0_ 1) &&& (6148914691236517205))) 2) &&& (3689348814741910323))) + (jushr (((a0_ - ((jushr a0_ 1) &&& (6148914691236517205))) &&& (3689348814741910323)) + ((jushr (a0_ - ((jushr a0_ 1) &&& (6148914691236517205))) 2) &&& (3689348814741910323))) 4)) &&& (1085102592571150095)) + (jushr (((((a0_ - ((jushr a0_ 1) &&& (6148914691236517205))) &&& (3689348814741910323)) + ((jushr (a0_ - ((jushr a0_ 1) &&& (6148914691236517205))) 2) &&& (3689348814741910323))) + (jushr (((a0_ - ((jushr a0_ 1) &&& (6148914691236517205))) &&& (3689348814741910323)) + ((jushr (a0_ - ((jushr a0_ 1) &&& (6148914691236517205))) 2) &&& (3689348814741910323))) 4)) &&& (1085102592571150095)) 8)))]) C (dall tdJ13_bitCount_95d88 31 rfl) (by decide) rfl ?_
  refine r_lload_n C 0 (dall tdJ13_bitCount_95d88 32 rfl) rfl ?_
  refine r_lload_n C 0 (dall tdJ13_bitCount_95d88 33 rfl) rfl ?_
  refine r_bipush (v := 16) C (dall tdJ13_bitCount_95d88 34 rfl) (by decide) ?_
  refine r_lushr C (dall tdJ13_bitCount_95d88 35 rfl) ?_
  refine r_ladd C (dall tdJ13_bitCount_95d88 36 rfl) ?_
  refine r_lstore_n (lv' := [(0, .long (((((((a0_ - ((jushr a0_ 1) &&& (6148914691236517205))) &&& (3689348814741910323)) + ((jushr (a0_ - ((jushr a0_ 1) &&& (6148914691236517205))) 2) &&& (3689348814741910323))) + (jushr (((a0_ - ((jushr a0_ 1) &&& (6148914691236517205))) &&& (3689348814741910323)) + ((jushr (a0_ - ((jushr a0_ 1) &&& (6148914691236517205))) 2) &&& (3689348814741910323))) 4)) &&& (1085102592571150095)) + (jushr (((((a0_ - ((jushr a0_ 1) &&& (6148914691236517205))) &&& (3689348814741910323)) + ((jushr (a0_ - ((jushr a0_ 1) &&& (6148914691236517205))) 2) &&& (3689348814741910323))) + (jushr (((a0_ - ((jushr a0_ 1) &&& (6148914691236517205))) &&& (3689348814741910323)) + ((jushr (a0_ - ((jushr a0_ 1) &&& (6148914691236517205))) 2) &&& (3689348814741910323))) 4)) &&& (1085102592571150095)) 8)) + (jushr ((((((a0_ - ((jushr a0_ 1) &&& (6148914691236517205))) &&& (3689348814741910323)) + ((jushr (a0_ - ((jushr a0_ 1) &&& (6148914691236517205))) 2) &&& (3689348814741910323))) + (jushr (((a0_ - ((jushr a0_ 1) &&& (6148914691236517205))) &&& (3689348814741910323)) + ((jushr (a0_ - ((jushr a0_ 1) &&& (6148914691236517205))) 2) &&& (3689348814741910323))) 4)) &&& (1085102592571150095)) + (jushr (((((a0_ - ((jushr a0_ 1) &&& (6148914691236517205))) &&& (3689348814741910323)) + ((jushr (a0_ - ((jushr a0_ 1) &&& (6148914691236517205))) 2) &&& (3689348814741910323))) + (jushr (((a0_ - ((jushr a0_ 1) &&& (6148914691236517205))) &&& (3689348814741910323)) + ((jushr (a0_ - ((jushr a0_ 1) &&& (6148914691236517205))) 2) &&& (3689348814741910323))) 4)) &&& (1085102592571150095)) 8)) 16)))]) C (dall tdJ13_bitCount_95d88 37 rfl) (by decide) rfl ?_
  refine r_lload_n C 0 (dall tdJ13_bitCount_95d88 38 rfl) rfl ?_
  refine r_lload_n C 0 (dall tdJ13_bitCount_95d88 39 rfl) rfl ?_
  refine r_bipush (v := 32) C (dall tdJ13_bitCount_95d88 40 rfl) (by decide) ?_
  refine r_lushr C (dall tdJ13_bitCount_95d88 41 rfl) ?_
  refine r_ladd C (dall tdJ13_bitCount_95d88 42 rfl) ?_
  refine r_lstore_n (lv' := [(0, .long ((((((((a0_ - ((jushr a0_ 1) &&& (6148914691236517205))) &&& (3689348814741910323)) + ((jushr (a0_ - ((jushr a0_ 1) &&& (6148914691236517205))) 2) &&& (3689348814741910323))) + (jushr (((a0_ - ((jushr a0_ 1) &&& (6148914691236517205))) &&& (3689348814741910323)) + ((jushr (a0_ - ((jushr a0_ 1) &&& (6148914691236517205))) 2) &&& (3689348814741910323))) 4)) &&& (1085102592571150095)) + (jushr (((((a0_ - ((jushr a0_ 1) &&& (6148914691236517205))) &&& (3689348814741910323)) + ((jushr (a0_ - ((jushr a0_ 1) &&& (6148914691236517205))) 2) &&& (3689348814741910323))) + (jushr (((a0_ - ((jushr a0_ 1) &&& (6148914691236517205))) &&& (3689348814741910323)) + ((jushr (a0_ - ((jushr a0_ 1) &&& (6148914691236517205))) 2) &&& (3689348814741910323))) 4)) &&& (1085102592571150095)) 8)) + (jushr ((((((a0_ - ((jushr a0_ 1) &&& (6148914691236517205))) &&& (3689348814741910323)) + ((jushr (a0_ - ((jushr a0_ 1) &&& (6148914691236517205))) 2) &&& (3689348814741910323))) + (jushr (((a0_ - ((jushr a0_ 1) &&& (6148914691236517205))) &&& (3689348814741910323)) + ((jushr (a0_ - ((jushr a0_ 1) &&& (6148914691236517205))) 2) &&& (3689348814741910323))) 4)) &&& (1085102592571150095)) + (jushr (((((a0_ - ((jushr a0_ 1) &&& (6148914691236517205))) &&& (3689348814741910323)) + ((jushr (a0_ - ((jushr a0_ 1) &&& (6148914691236517205))) 2) &&& (3689348814741910323))) + (jushr (((a0_ - ((jushr a0_ 1) &&& (6148914691236517205))) &&& (3689348814741910323)) + ((jushr (a0_ - ((jushr a0_ 1) &&& (6148914691236517205))) 2) &&& (3689348814741910323))) 4)) &&& (1085102592571150095)) 8)) 16)) + (jushr (((((((a0_ - ((jushr a0_ 1) &&& (6148914691236517205))) &&& (3689348814741910323)) + ((jushr (a0_ - ((jushr a0_ 1) &&& (6148914691236517205))) 2) &&& (3689348814741910323))) + (jushr (((a0_ - ((jushr a0_ 1) &&& (6148914691236517205))) &&& (3689348814741910323)) + ((jushr (a0_ - ((jushr a0_ 1) &&& (6148914691236517205))) 2) &&& (3689348814741910323))) 4)) &&& (1085102592571150095)) + (jushr (((((a0_ - ((jushr a0_ 1) &&& (6148914691236517205))) &&& (3689348814741910323)) + ((jushr (a0_ - ((jushr a0_ 1) &&& (6148914691236517205))) 2) &&& (3689348814741910323))) + (jushr (((a0_ - ((jushr a0_ 1) &&& (6148914691236517205))) &&& (3689348814741910323)) + ((jushr (a0_ - ((jushr a0_ 1) &&& (6148914691236517205))) 2) &&& (3689348814741910323))) 4)) &&& (1085102592571150095)) 8)) + (jushr ((((((a0_ - ((jushr a0_ 1) &&& (6148914691236517205))) &&& (3689348814741910323)) + ((jushr (a0_ - ((jushr a0_ 1) &&& (6148914691236517205))) 2) &&& (3689348814741910323))) + (jushr (((a0_ - ((jushr a0_ 1) &&& (6148914691236517205))) &&& (3689348814741910323)) + ((jushr (a0_ - ((jushr a0_ 1) &&& (6148914691236517205))) 2) &&& (3689348814741910323))) 4)) &&& (1085102592571150095)) + (jushr (((((a0_ - ((jushr a0_ 1) &&& (6148914691236517205))) &&& (3689348814741910323)) + ((jushr (a0_ - ((jushr a0_ 1) &&& (6148914691236517205))) 2) &&& (3689348814741910323))) + (jushr (((a0_ - ((jushr a0_ 1) &&& (6148914691236517205))) &&& (3689348814741910323)) + ((jushr (a0_ - ((jushr a0_ 1) &&& (6148914691236517205))) 2) &&& (3689348814741910323))) 4)) &&& (1085102592571150095)) 8)) 16)) 32)))]) C (dall tdJ13_bitCount_95d88 43 rfl) (by decide) rfl ?_
  refine r_lload_n C 0 (dall tdJ13_bitCount_95d88 44 rfl) rfl ?_
  refine r_l2i C (dall tdJ13_bitCount_95d88 45 rfl) ?_
  refine r_bipush (v := 127) C (dall tdJ13_bitCount_95d88 46 rfl) (by decide) ?_
  refine r_iand C (dall tdJ13_bitCount_95d88 47 rfl) ?_
  exact r_iret C hR (dall tdJ13_bitCount_95d88 48 rfl) (by subst h; exact ⟨rfl, rfl⟩)
def fJ13_bitCount_95d88 (a0_ : Int64) : Int32 := pJ13_bitCount_95d88_0  a0_
set_option maxRecDepth 100000 in
theorem zJ13_bitCount_95d88  {D : va_G} (a0_ : Int64)  {tys : List (ClassId × FieldType)} : Con yJ13_bitCount_95d88 cJ13_bitCount_95d88 2 (some .int) 0 0 0 D tys [.long a0_] ([]) (eI ([]) (fJ13_bitCount_95d88 a0_)) :=
  Con.of (own := RJ13) (by decide +kernel) rfl (Nat.le_of_ble_eq_true rfl) (Nat.zero_le _) (fun X A C hR _ => (wJ13_bitCount_95d88_0 a0_ C hR  rfl))
theorem ms_J13_bitCount_95d88 : MS_ yJ13_bitCount_95d88 cJ13_bitCount_95d88 2 (some .int) 1 := ⟨ks_J13_bitCount_95d88, kn_J13, kc_J13_bitCount_95d88, by decide +kernel⟩
def tbJ6_numberOfLeadingZeros_0f7a4 : List (Nat × Instr × Nat) := [(0, .iload_n 0, 1), (1, .ifCond .gt 14, 3), (4, .iload_n 0, 1), (5, .ifCond .ne 8, 3), (8, .bipush 32, 2), (10, .goto 4, 3), (13, .iconst 0, 1), (14, .ireturn, 1), (15, .bipush 31, 2), (17, .istore_n 1, 1), (18, .iload_n 0, 1), (19, .ldc_w 264, 3), (22, .if_icmp .lt 11, 3), (25, .iinc 1 (-16), 3), (28, .iload_n 0, 1), (29, .bipush 16, 2), (31, .iushr, 1), (32, .istore_n 0, 1), (33, .iload_n 0, 1), (34, .sipush 256, 3), (37, .if_icmp .lt 11, 3), (40, .iinc 1 (-8), 3), (43, .iload_n 0, 1), (44, .bipush 8, 2), (46, .iushr, 1), (47, .istore_n 0, 1), (48, .iload_n 0, 1), (49, .bipush 16, 2), (51, .if_icmp .lt 10, 3), (54, .iinc 1 (-4), 3), (57, .iload_n 0, 1), (58, .iconst 4, 1), (59, .iushr, 1), (60, .istore_n 0, 1), (61, .iload_n 0, 1), (62, .iconst 4, 1), (63, .if_icmp .lt 10, 3), (66, .iinc 1 (-2), 3), (69, .iload_n 0, 1), (70, .iconst 2, 1), (71, .iushr, 1), (72, .istore_n 0, 1), (73, .iload_n 1, 1), (74, .iload_n 0, 1), (75, .iconst 1, 1), (76, .iushr, 1), (77, .isub, 1), (78, .ireturn, 1)]
theorem tdJ6_numberOfLeadingZeros_0f7a4 : tbJ6_numberOfLeadingZeros_0f7a4.all (fun q => decide (decode cJ6_numberOfLeadingZeros_0f7a4 q.1 = .ok q.2)) = true := by decide +kernel
def pJ6_numberOfLeadingZeros_0f7a4_73  (a0_ : Int32) (a1_ : Int32) : Int32 := a1_ - (jiushr a0_ 1)
set_option maxHeartbeats 4000000 in
set_option maxRecDepth 100000 in
theorem wJ6_numberOfLeadingZeros_0f7a4_73 {X : CX} {tys : List (ClassId × FieldType)} {D : va_G} {A : Nat → Prop} {res : Int32} (a0_ : Int32) (a1_ : Int32) (C : Cx X cJ6_numberOfLeadingZeros_0f7a4 RJ6 2 D tys A 0 0 0) (hR : Rt X (some .int) D tys A 0 0 (eI ([]) res))  (h : pJ6_numberOfLeadingZeros_0f7a4_73  a0_ a1_ = res) : At X D A 2 0 0 73 [(0, .int a0_), (1, .int a1_)] [] (([] : va_W)) := by
  unfold pJ6_numberOfLeadingZeros_0f7a4_73 at h
  refine r_iload_n C 1 (dall tdJ6_numberOfLeadingZeros_0f7a4 42 rfl) rfl ?_
  refine r_iload_n C 0 (dall tdJ6_numberOfLeadingZeros_0f7a4 43 rfl) rfl ?_
  refine r_iconst (v := 1) C (dall tdJ6_numberOfLeadingZeros_0f7a4 44 rfl) (by decide) ?_
  refine r_iushr C (dall tdJ6_numberOfLeadingZeros_0f7a4 45 rfl) ?_
  refine r_isub C (dall tdJ6_numberOfLeadingZeros_0f7a4 46 rfl) ?_
  exact r_iret C hR (dall tdJ6_numberOfLeadingZeros_0f7a4 47 rfl) (by subst h; exact ⟨rfl, rfl⟩)
def pJ6_numberOfLeadingZeros_0f7a4_61  (a0_ : Int32) (a1_ : Int32) : Int32 := if a0_ < 4 then pJ6_numberOfLeadingZeros_0f7a4_73  a0_ a1_ else pJ6_numberOfLeadingZeros_0f7a4_73  (jiushr a0_ 2) (a1_ + (-2))
set_option maxHeartbeats 4000000 in
set_option maxRecDepth 100000 in
theorem wJ6_numberOfLeadingZeros_0f7a4_61 {X : CX} {tys : List (ClassId × FieldType)} {D : va_G} {A : Nat → Prop} {res : Int32} (a0_ : Int32) (a1_ : Int32) (C : Cx X cJ6_numberOfLeadingZeros_0f7a4 RJ6 2 D tys A 0 0 0) (hR : Rt X (some .int) D tys A 0 0 (eI ([]) res))  (h : pJ6_numberOfLeadingZeros_0f7a4_61  a0_ a1_ = res) : At X D A 2 0 0 61 [(0, .int a0_), (1, .int a1_)] [] (([] : va_W)) := by
  unfold pJ6_numberOfLeadingZeros_0f7a4_61 at h
  refine r_iload_n C 0 (dall tdJ6_numberOfLeadingZeros_0f7a4 34 rfl) rfl ?_
  refine r_iconst (v := 4) C (dall tdJ6_numberOfLeadingZeros_0f7a4 35 rfl) (by decide) ?_
  refine r_icmp_lt (tgt := 73) C (dall tdJ6_numberOfLeadingZeros_0f7a4 36 rfl) (by decide) (fun c1 => ?_) (fun c1 => ?_)
  · have h := (if_pos c1).symm.trans h
    exact wJ6_numberOfLeadingZeros_0f7a4_73 a0_ a1_ C hR  h
  · have h := (if_neg c1).symm.trans h
    refine r_iinc (v := a1_ + (-2)) (lv' := [(1, .int (a1_ + (-2))), (0, .int a0_)]) C 1 (dall tdJ6_numberOfLeadingZeros_0f7a4 37 rfl) rfl rfl (by decide) rfl ?_
    refine r_iload_n C 1 (dall tdJ6_numberOfLeadingZeros_0f7a4 38 rfl) rfl ?_
    refine r_iconst (v := 2) C (dall tdJ6_numberOfLeadingZeros_0f7a4 39 rfl) (by decide) ?_
    refine r_iushr C (dall tdJ6_numberOfLeadingZeros_0f7a4 40 rfl) ?_
    refine r_istore_n (lv' := [(0, .int (jiushr a0_ 2)), (1, .int (a1_ + (-2)))]) C (dall tdJ6_numberOfLeadingZeros_0f7a4 41 rfl) (by decide) rfl ?_
    exact wJ6_numberOfLeadingZeros_0f7a4_73 (jiushr a0_ 2) (a1_ + (-2)) C hR  h
def pJ6_numberOfLeadingZeros_0f7a4_48  (a0_ : Int32) (a1_ : Int32) : Int32 := if a0_ < 16 then pJ6_numberOfLeadingZeros_0f7a4_61  a0_ a1_ else pJ6_numberOfLeadingZeros_0f7a4_61  (jiushr a0_ 4) (a1_ + (-4))
set_option maxHeartbeats 4000000 in
set_option maxRecDepth 100000 in
theorem wJ6_numberOfLeadingZeros_0f7a4_48 {X : CX} {tys : List (ClassId × FieldType)} {D : va_G} {A : Nat → Prop} {res : Int32} (a0_ : Int32) (a1_ : Int32) (C : Cx X cJ6_numberOfLeadingZeros_0f7a4 RJ6 2 D tys A 0 0 0) (hR : Rt X (some .int) D tys A 0 0 (eI ([]) res))  (h : pJ6_numberOfLeadingZeros_0f7a4_48  a0_ a1_ = res) : At X D A 2 0 0 48 [(0, .int a0_), (1, .int a1_)] [] (([] : va_W)) := by
  unfold pJ6_numberOfLeadingZeros_0f7a4_48 at h
  refine r_iload_n C 0 (dall tdJ6_numberOfLeadingZeros_0f7a4 26 rfl) rfl ?_
  refine r_bipush (v := 16) C (dall tdJ6_numberOfLeadingZeros_0f7a4 27 rfl) (by decide) ?_
  refine r_icmp_lt (tgt := 61) C (dall tdJ6_numberOfLeadingZeros_0f7a4 28 rfl) (by decide) (fun c2 => ?_) (fun c2 => ?_)
  · have h := (if_pos c2).symm.trans h
    exact wJ6_numberOfLeadingZeros_0f7a4_61 a0_ a1_ C hR  h
  · have h := (if_neg c2).symm.trans h
    refine r_iinc (v := a1_ + (-4)) (lv' := [(1, .int (a1_ + (-4))), (0, .int a0_)]) C 1 (dall tdJ6_numberOfLeadingZeros_0f7a4 29 rfl) rfl rfl (by decide) rfl ?_
    refine r_iload_n C 1 (dall tdJ6_numberOfLeadingZeros_0f7a4 30 rfl) rfl ?_
    refine r_iconst (v := 4) C (dall tdJ6_numberOfLeadingZeros_0f7a4 31 rfl) (by decide) ?_
    refine r_iushr C (dall tdJ6_numberOfLeadingZeros_0f7a4 32 rfl) ?_
    refine r_istore_n (lv' := [(0, .int (jiushr a0_ 4)), (1, .int (a1_ + (-4)))]) C (dall tdJ6_numberOfLeadingZeros_0f7a4 33 rfl) (by decide) rfl ?_
    exact wJ6_numberOfLeadingZeros_0f7a4_61 (jiushr a0_ 4) (a1_ + (-4)) C hR  h
def pJ6_numberOfLeadingZeros_0f7a4_33  (a0_ : Int32) (a1_ : Int32) : Int32 := if a0_ < 256 then pJ6_numberOfLeadingZeros_0f7a4_48  a0_ a1_ else pJ6_numberOfLeadingZeros_0f7a4_48  (jiushr a0_ 8) (a1_ + (-8))
set_option maxHeartbeats 4000000 in
set_option maxRecDepth 100000 in
theorem wJ6_numberOfLeadingZeros_0f7a4_33 {X : CX} {tys : List (ClassId × FieldType)} {D : va_G} {A : Nat → Prop} {res : Int32} (a0_ : Int32) (a1_ : Int32) (C : Cx X cJ6_numberOfLeadingZeros_0f7a4 RJ6 2 D tys A 0 0 0) (hR : Rt X (some .int) D tys A 0 0 (eI ([]) res))  (h : pJ6_numberOfLeadingZeros_0f7a4_33  a0_ a1_ = res) : At X D A 2 0 0 33 [(0, .int a0_), (1, .int a1_)] [] (([] : va_W)) := by
  unfold pJ6_numberOfLeadingZeros_0f7a4_33 at h
  refine r_iload_n C 0 (dall tdJ6_numberOfLeadingZeros_0f7a4 18 rfl) rfl ?_
  refine r_sipush (v := 256) C (dall tdJ6_numberOfLeadingZeros_0f7a4 19 rfl) (by decide) ?_
  refine r_icmp_lt (tgt := 48) C (dall tdJ6_numberOfLeadingZeros_0f7a4 20 rfl) (by decide) (fun c3 => ?_) (fun c3 => ?_)
  · have h := (if_pos c3).symm.trans h
    exact wJ6_numberOfLeadingZeros_0f7a4_48 a0_ a1_ C hR  h
  · have h := (if_neg c3).symm.trans h
    refine r_iinc (v := a1_ + (-8)) (lv' := [(1, .int (a1_ + (-8))), (0, .int a0_)]) C 1 (dall tdJ6_numberOfLeadingZeros_0f7a4 21 rfl) rfl rfl (by decide) rfl ?_
    refine r_iload_n C 1 (dall tdJ6_numberOfLeadingZeros_0f7a4 22 rfl) rfl ?_
    refine r_bipush (v := 8) C (dall tdJ6_numberOfLeadingZeros_0f7a4 23 rfl) (by decide) ?_
    refine r_iushr C (dall tdJ6_numberOfLeadingZeros_0f7a4 24 rfl) ?_
    refine r_istore_n (lv' := [(0, .int (jiushr a0_ 8)), (1, .int (a1_ + (-8)))]) C (dall tdJ6_numberOfLeadingZeros_0f7a4 25 rfl) (by decide) rfl ?_
    exact wJ6_numberOfLeadingZeros_0f7a4_48 (jiushr a0_ 8) (a1_ + (-8)) C hR  h
def pJ6_numberOfLeadingZeros_0f7a4_0  (a0_ : Int32) : Int32 := if 0 < a0_ then if a0_ < (65536) then pJ6_numberOfLeadingZeros_0f7a4_33  a0_ 31 else pJ6_numberOfLeadingZeros_0f7a4_33  (jiushr a0_ 16) (31 + (-16)) else if a0_ = 0 then 32 else 0
set_option maxHeartbeats 4000000 in
set_option maxRecDepth 100000 in
theorem wJ6_numberOfLeadingZeros_0f7a4_0 {X : CX} {tys : List (ClassId × FieldType)} {D : va_G} {A : Nat → Prop} {res : Int32} (a0_ : Int32) (C : Cx X cJ6_numberOfLeadingZeros_0f7a4 RJ6 2 D tys A 0 0 0) (hR : Rt X (some .int) D tys A 0 0 (eI ([]) res))  (h : pJ6_numberOfLeadingZeros_0f7a4_0  a0_ = res) : At X D A 2 0 0 0 [(0, .int a0_)] [] (([] : va_W)) := by
  unfold pJ6_numberOfLeadingZeros_0f7a4_0 at h
  refine r_iload_n C 0 (dall tdJ6_numberOfLeadingZeros_0f7a4 0 rfl) rfl ?_
  refine r_if_gt (tgt := 15) C (dall tdJ6_numberOfLeadingZeros_0f7a4 1 rfl) (by decide) (fun c4 => ?_) (fun c4 => ?_)
  · have h := (if_pos c4).symm.trans h
    refine r_bipush (v := 31) C (dall tdJ6_numberOfLeadingZeros_0f7a4 8 rfl) (by decide) ?_
    refine r_istore_n (lv' := [(1, .int 31), (0, .int a0_)]) C (dall tdJ6_numberOfLeadingZeros_0f7a4 9 rfl) (by decide) rfl ?_
    refine r_iload_n C 1 (dall tdJ6_numberOfLeadingZeros_0f7a4 10 rfl) rfl ?_
    refine r_ldcw C kk_J6_264 (dall tdJ6_numberOfLeadingZeros_0f7a4 11 rfl) ?_
    refine r_icmp_lt (tgt := 33) C (dall tdJ6_numberOfLeadingZeros_0f7a4 12 rfl) (by decide) (fun c5 => ?_) (fun c5 => ?_)
    · have h := (if_pos c5).symm.trans h
      refine r_pick [1, 0] rfl ?_
      exact wJ6_numberOfLeadingZeros_0f7a4_33 a0_ 31 C hR  h
    · have h := (if_neg c5).symm.trans h
      refine r_iinc (v := 31 + (-16)) (lv' := [(1, .int (31 + (-16))), (0, .int a0_)]) C 0 (dall tdJ6_numberOfLeadingZeros_0f7a4 13 rfl) rfl rfl (by decide) rfl ?_
      refine r_iload_n C 1 (dall tdJ6_numberOfLeadingZeros_0f7a4 14 rfl) rfl ?_
      refine r_bipush (v := 16) C (dall tdJ6_numberOfLeadingZeros_0f7a4 15 rfl) (by decide) ?_
      refine r_iushr C (dall tdJ6_numberOfLeadingZeros_0f7a4 16 rfl) ?_
      refine r_istore_n (lv' := [(0, .int (jiushr a0_ 16)), (1, .int (31 + (-16)))]) C (dall tdJ6_numberOfLeadingZeros_0f7a4 17 rfl) (by decide) rfl ?_
      exact wJ6_numberOfLeadingZeros_0f7a4_33 (jiushr a0_ 16) (31 + (-16)) C hR  h
  · have h := (if_neg c4).symm.trans h
    refine r_iload_n C 0 (dall tdJ6_numberOfLeadingZeros_0f7a4 2 rfl) rfl ?_
    refine r_if_ne (tgt := 13) C (dall tdJ6_numberOfLeadingZeros_0f7a4 3 rfl) (by decide) (fun c6 => ?_) (fun c6 => ?_)
    · have h := (if_neg c6).symm.trans h
      refine r_iconst (v := 0) C (dall tdJ6_numberOfLeadingZeros_0f7a4 6 rfl) (by decide) ?_
      exact r_iret C hR (dall tdJ6_numberOfLeadingZeros_0f7a4 7 rfl) (by subst h; exact ⟨rfl, rfl⟩)
    · have h := (if_pos c6).symm.trans h
      refine r_bipush (v := 32) C (dall tdJ6_numberOfLeadingZeros_0f7a4 4 rfl) (by decide) ?_
      refine r_goto (tgt := 14) C (dall tdJ6_numberOfLeadingZeros_0f7a4 5 rfl) (by decide) ?_
      exact r_iret C hR (dall tdJ6_numberOfLeadingZeros_0f7a4 7 rfl) (by subst h; exact ⟨rfl, rfl⟩)
def fJ6_numberOfLeadingZeros_0f7a4 (a0_ : Int32) : Int32 := pJ6_numberOfLeadingZeros_0f7a4_0  a0_
set_option maxRecDepth 100000 in
theorem zJ6_numberOfLeadingZeros_0f7a4  {D : va_G} (a0_ : Int32)  {tys : List (ClassId × FieldType)} : Con yJ6_numberOfLeadingZeros_0f7a4 cJ6_numberOfLeadingZeros_0f7a4 2 (some .int) 0 0 0 D tys [.int a0_] ([]) (eI ([]) (fJ6_numberOfLeadingZeros_0f7a4 a0_)) :=
  Con.of (own := RJ6) (by decide +kernel) rfl (Nat.le_of_ble_eq_true rfl) (Nat.zero_le _) (fun X A C hR _ => (wJ6_numberOfLeadingZeros_0f7a4_0 a0_ C hR  rfl))
theorem ms_J6_numberOfLeadingZeros_0f7a4 : MS_ yJ6_numberOfLeadingZeros_0f7a4 cJ6_numberOfLeadingZeros_0f7a4 2 (some .int) 1 := ⟨ks_J6_numberOfLeadingZeros_0f7a4, kn_J6, kc_J6_numberOfLeadingZeros_0f7a4, by decide +kernel⟩
def tbJ13_numberOfLeadingZeros_95d88 : List (Nat × Instr × Nat) := [(0, .lload_n 0, 1), (1, .bipush 32, 2), (3, .lushr, 1), (4, .l2i, 1), (5, .istore_n 2, 1), (6, .iload_n 2, 1), (7, .ifCond .ne 14, 3), (10, .bipush 32, 2), (12, .lload_n 0, 1), (13, .l2i, 1), (14, .invokestatic 308, 3), (17, .iadd, 1), (18, .goto 7, 3), (21, .iload_n 2, 1), (22, .invokestatic 308, 3), (25, .ireturn, 1)]
theorem tdJ13_numberOfLeadingZeros_95d88 : tbJ13_numberOfLeadingZeros_95d88.all (fun q => decide (decode cJ13_numberOfLeadingZeros_95d88 q.1 = .ok q.2)) = true := by decide +kernel
def pJ13_numberOfLeadingZeros_95d88_0  (a0_ : Int64) : Int32 := if ((jushr a0_ 32).toInt32) = 0 then 32 + (fJ6_numberOfLeadingZeros_0f7a4 a0_.toInt32) else fJ6_numberOfLeadingZeros_0f7a4 ((jushr a0_ 32).toInt32)
set_option maxHeartbeats 4000000 in
set_option maxRecDepth 100000 in
theorem wJ13_numberOfLeadingZeros_95d88_0 {X : CX} {tys : List (ClassId × FieldType)} {D : va_G} {A : Nat → Prop} {res : Int32} (a0_ : Int64) (C : Cx X cJ13_numberOfLeadingZeros_95d88 RJ13 3 D tys A 1 0 0) (hR : Rt X (some .int) D tys A 0 0 (eI ([]) res))  (h : pJ13_numberOfLeadingZeros_95d88_0  a0_ = res) : At X D A 3 0 0 0 [(0, .long a0_)] [] (([] : va_W)) := by
  unfold pJ13_numberOfLeadingZeros_95d88_0 at h
  refine r_lload_n C 0 (dall tdJ13_numberOfLeadingZeros_95d88 0 rfl) rfl ?_
  refine r_bipush (v := 32) C (dall tdJ13_numberOfLeadingZeros_95d88 1 rfl) (by decide) ?_
  refine r_lushr C (dall tdJ13_numberOfLeadingZeros_95d88 2 rfl) ?_
  refine r_l2i C (dall tdJ13_numberOfLeadingZeros_95d88 3 rfl) ?_
  refine r_istore_n (lv' := [(2, .int ((jushr a0_ 32).toInt32)), (0, .long a0_)]) C (dall tdJ13_numberOfLeadingZeros_95d88 4 rfl) (by decide) rfl ?_
  refine r_iload_n C 0 (dall tdJ13_numberOfLeadingZeros_95d88 5 rfl) rfl ?_
  refine r_if_ne (tgt := 21) C (dall tdJ13_numberOfLeadingZeros_95d88 6 rfl) (by decide) (fun c1 => ?_) (fun c1 => ?_)
  · have h := (if_neg c1).symm.trans h
    refine r_iload_n C 0 (dall tdJ13_numberOfLeadingZeros_95d88 13 rfl) rfl ?_
    refine r_s0I (as := [.int ((jushr a0_ 32).toInt32)]) C (zJ6_numberOfLeadingZeros_0f7a4 ((jushr a0_ 32).toInt32) ) ms_J6_numberOfLeadingZeros_0f7a4 km_J13_308 (by decide) (by decide) ⟨Nat.le_refl _, Nat.le_refl _⟩ rfl rfl (Nat.le_of_ble_eq_true rfl) (dall tdJ13_numberOfLeadingZeros_95d88 14 rfl) ?_
    exact r_iret C hR (dall tdJ13_numberOfLeadingZeros_95d88 15 rfl) (by subst h; exact ⟨rfl, rfl⟩)
  · have h := (if_pos c1).symm.trans h
    refine r_bipush (v := 32) C (dall tdJ13_numberOfLeadingZeros_95d88 7 rfl) (by decide) ?_
    refine r_lload_n C 1 (dall tdJ13_numberOfLeadingZeros_95d88 8 rfl) rfl ?_
    refine r_l2i C (dall tdJ13_numberOfLeadingZeros_95d88 9 rfl) ?_
    refine r_s0I (as := [.int a0_.toInt32]) C (zJ6_numberOfLeadingZeros_0f7a4 a0_.toInt32 ) ms_J6_numberOfLeadingZeros_0f7a4 km_J13_308 (by decide) (by decide) ⟨Nat.le_refl _, Nat.le_refl _⟩ rfl rfl (Nat.le_of_ble_eq_true rfl) (dall tdJ13_numberOfLeadingZeros_95d88 10 rfl) ?_
    refine r_iadd C (dall tdJ13_numberOfLeadingZeros_95d88 11 rfl) ?_
    refine r_goto (tgt := 25) C (dall tdJ13_numberOfLeadingZeros_95d88 12 rfl) (by decide) ?_
    exact r_iret C hR (dall tdJ13_numberOfLeadingZeros_95d88 15 rfl) (by subst h; exact ⟨rfl, rfl⟩)
def fJ13_numberOfLeadingZeros_95d88 (a0_ : Int64) : Int32 := pJ13_numberOfLeadingZeros_95d88_0  a0_
set_option maxRecDepth 100000 in
theorem zJ13_numberOfLeadingZeros_95d88  {D : va_G} (a0_ : Int64)  {tys : List (ClassId × FieldType)} : Con yJ13_numberOfLeadingZeros_95d88 cJ13_numberOfLeadingZeros_95d88 3 (some .int) 1 0 0 D tys [.long a0_] ([]) (eI ([]) (fJ13_numberOfLeadingZeros_95d88 a0_)) :=
  Con.of (own := RJ13) (by decide +kernel) rfl (Nat.le_of_ble_eq_true rfl) (Nat.zero_le _) (fun X A C hR _ => (wJ13_numberOfLeadingZeros_95d88_0 a0_ C hR  rfl))
theorem ms_J13_numberOfLeadingZeros_95d88 : MS_ yJ13_numberOfLeadingZeros_95d88 cJ13_numberOfLeadingZeros_95d88 3 (some .int) 1 := ⟨ks_J13_numberOfLeadingZeros_95d88, kn_J13, kc_J13_numberOfLeadingZeros_95d88, by decide +kernel⟩
def tbX0_isName : List (Nat × Instr × Nat) := [(0, .iload_n 0, 1), (1, .bipush 6, 2), (3, .if_icmp .lt 13, 3), (6, .iload_n 0, 1), (7, .bipush 12, 2), (9, .if_icmp .ge 7, 3), (12, .iconst 1, 1), (13, .goto 4, 3), (16, .iconst 0, 1), (17, .ireturn, 1)]
theorem tdX0_isName : tbX0_isName.all (fun q => decide (decode cX0_isName q.1 = .ok q.2)) = true := by decide +kernel
def pX0_isName_0  (a0_ : Int32) : Int32 := if a0_ < 6 then 0 else if 12 ≤ a0_ then 0 else 1
set_option maxHeartbeats 4000000 in
set_option maxRecDepth 100000 in
theorem wX0_isName_0 {X : CX} {tys : List (ClassId × FieldType)} {D : va_G} {A : Nat → Prop} {res : Int32} (a0_ : Int32) (C : Cx X cX0_isName RX0 1 D tys A 0 0 0) (hR : Rt X (some .boolean) D tys A 0 0 (eI ([]) res))  (h : pX0_isName_0  a0_ = res) : At X D A 1 0 0 0 [(0, .int a0_)] [] (([] : va_W)) := by
  unfold pX0_isName_0 at h
  refine r_iload_n C 0 (dall tdX0_isName 0 rfl) rfl ?_
  refine r_bipush (v := 6) C (dall tdX0_isName 1 rfl) (by decide) ?_
  refine r_icmp_lt (tgt := 16) C (dall tdX0_isName 2 rfl) (by decide) (fun c1 => ?_) (fun c1 => ?_)
  · have h := (if_pos c1).symm.trans h
    refine r_iconst (v := 0) C (dall tdX0_isName 8 rfl) (by decide) ?_
    exact r_zret C (by decide) hR (dall tdX0_isName 9 rfl) (by subst h; exact ⟨rfl, rfl⟩)
  · have h := (if_neg c1).symm.trans h
    refine r_iload_n C 0 (dall tdX0_isName 3 rfl) rfl ?_
    refine r_bipush (v := 12) C (dall tdX0_isName 4 rfl) (by decide) ?_
    refine r_icmp_ge (tgt := 16) C (dall tdX0_isName 5 rfl) (by decide) (fun c2 => ?_) (fun c2 => ?_)
    · have h := (if_pos c2).symm.trans h
      refine r_iconst (v := 0) C (dall tdX0_isName 8 rfl) (by decide) ?_
      exact r_zret C (by decide) hR (dall tdX0_isName 9 rfl) (by subst h; exact ⟨rfl, rfl⟩)
    · have h := (if_neg c2).symm.trans h
      refine r_iconst (v := 1) C (dall tdX0_isName 6 rfl) (by decide) ?_
      refine r_goto (tgt := 17) C (dall tdX0_isName 7 rfl) (by decide) ?_
      exact r_zret C (by decide) hR (dall tdX0_isName 9 rfl) (by subst h; exact ⟨rfl, rfl⟩)
def fX0_isName (a0_ : Int32) : Int32 := pX0_isName_0  a0_
set_option maxRecDepth 100000 in
theorem zX0_isName  {D : va_G} (a0_ : Int32)  {tys : List (ClassId × FieldType)} : Con yX0_isName cX0_isName 1 (some .boolean) 0 0 0 D tys [.int a0_] ([]) (eI ([]) (fX0_isName a0_)) :=
  Con.of (own := RX0) (by decide +kernel) rfl (Nat.le_of_ble_eq_true rfl) (Nat.zero_le _) (fun X A C hR _ => (wX0_isName_0 a0_ C hR  rfl))
theorem ms_X0_isName : MS_ yX0_isName cX0_isName 1 (some .boolean) 1 := ⟨ks_X0_isName, kn_X0, kc_X0_isName, by decide +kernel⟩
def tbX0_isBlank : List (Nat × Instr × Nat) := [(0, .iload_n 0, 1), (1, .bipush 32, 2), (3, .if_icmp .eq 9, 3), (6, .iload_n 0, 1), (7, .bipush 10, 2), (9, .if_icmp .ne 7, 3), (12, .iconst 1, 1), (13, .goto 4, 3), (16, .iconst 0, 1), (17, .ireturn, 1)]
theorem tdX0_isBlank : tbX0_isBlank.all (fun q => decide (decode cX0_isBlank q.1 = .ok q.2)) = true := by decide +kernel
def pX0_isBlank_12   : Int32 := 1
set_option maxHeartbeats 4000000 in
set_option maxRecDepth 100000 in
theorem wX0_isBlank_12 {X : CX} {tys : List (ClassId × FieldType)} {D : va_G} {A : Nat → Prop} {res : Int32}  (C : Cx X cX0_isBlank RX0 1 D tys A 0 0 0) (hR : Rt X (some .boolean) D tys A 0 0 (eI ([]) res))  (h : pX0_isBlank_12   = res) : At X D A 1 0 0 12 [] [] (([] : va_W)) := by
  unfold pX0_isBlank_12 at h
  refine r_iconst (v := 1) C (dall tdX0_isBlank 6 rfl) (by decide) ?_
  refine r_goto (tgt := 17) C (dall tdX0_isBlank 7 rfl) (by decide) ?_
  exact r_zret C (by decide) hR (dall tdX0_isBlank 9 rfl) (by subst h; exact ⟨rfl, rfl⟩)
def pX0_isBlank_0  (a0_ : Int32) : Int32 := if a0_ = 32 then pX0_isBlank_12   else if a0_ = 10 then pX0_isBlank_12   else 0
set_option maxHeartbeats 4000000 in
set_option maxRecDepth 100000 in
theorem wX0_isBlank_0 {X : CX} {tys : List (ClassId × FieldType)} {D : va_G} {A : Nat → Prop} {res : Int32} (a0_ : Int32) (C : Cx X cX0_isBlank RX0 1 D tys A 0 0 0) (hR : Rt X (some .boolean) D tys A 0 0 (eI ([]) res))  (h : pX0_isBlank_0  a0_ = res) : At X D A 1 0 0 0 [(0, .int a0_)] [] (([] : va_W)) := by
  unfold pX0_isBlank_0 at h
  refine r_iload_n C 0 (dall tdX0_isBlank 0 rfl) rfl ?_
  refine r_bipush (v := 32) C (dall tdX0_isBlank 1 rfl) (by decide) ?_
  refine r_icmp_eq (tgt := 12) C (dall tdX0_isBlank 2 rfl) (by decide) (fun c1 => ?_) (fun c1 => ?_)
  · have h := (if_pos c1).symm.trans h
    refine r_pick [] rfl ?_
    exact wX0_isBlank_12  C hR  h
  · have h := (if_neg c1).symm.trans h
    refine r_iload_n C 0 (dall tdX0_isBlank 3 rfl) rfl ?_
    refine r_bipush (v := 10) C (dall tdX0_isBlank 4 rfl) (by decide) ?_
    refine r_icmp_ne (tgt := 16) C (dall tdX0_isBlank 5 rfl) (by decide) (fun c2 => ?_) (fun c2 => ?_)
    · have h := (if_neg c2).symm.trans h
      refine r_iconst (v := 0) C (dall tdX0_isBlank 8 rfl) (by decide) ?_
      exact r_zret C (by decide) hR (dall tdX0_isBlank 9 rfl) (by subst h; exact ⟨rfl, rfl⟩)
    · have h := (if_pos c2).symm.trans h
      refine r_pick [] rfl ?_
      exact wX0_isBlank_12  C hR  h
def fX0_isBlank (a0_ : Int32) : Int32 := pX0_isBlank_0  a0_
set_option maxRecDepth 100000 in
theorem zX0_isBlank  {D : va_G} (a0_ : Int32)  {tys : List (ClassId × FieldType)} : Con yX0_isBlank cX0_isBlank 1 (some .boolean) 0 0 0 D tys [.int a0_] ([]) (eI ([]) (fX0_isBlank a0_)) :=
  Con.of (own := RX0) (by decide +kernel) rfl (Nat.le_of_ble_eq_true rfl) (Nat.zero_le _) (fun X A C hR _ => (wX0_isBlank_0 a0_ C hR  rfl))
theorem ms_X0_isBlank : MS_ yX0_isBlank cX0_isBlank 1 (some .boolean) 1 := ⟨ks_X0_isBlank, kn_X0, kc_X0_isBlank, by decide +kernel⟩
def tbX0_isLetter : List (Nat × Instr × Nat) := [(0, .iload_n 0, 1), (1, .bipush 97, 2), (3, .if_icmp .lt 13, 3), (6, .iload_n 0, 1), (7, .bipush 122, 2), (9, .if_icmp .gt 7, 3), (12, .iconst 1, 1), (13, .goto 4, 3), (16, .iconst 0, 1), (17, .ireturn, 1)]
theorem tdX0_isLetter : tbX0_isLetter.all (fun q => decide (decode cX0_isLetter q.1 = .ok q.2)) = true := by decide +kernel
def pX0_isLetter_0  (a0_ : Int32) : Int32 := if a0_ < 97 then 0 else if 122 < a0_ then 0 else 1
set_option maxHeartbeats 4000000 in
set_option maxRecDepth 100000 in
theorem wX0_isLetter_0 {X : CX} {tys : List (ClassId × FieldType)} {D : va_G} {A : Nat → Prop} {res : Int32} (a0_ : Int32) (C : Cx X cX0_isLetter RX0 1 D tys A 0 0 0) (hR : Rt X (some .boolean) D tys A 0 0 (eI ([]) res))  (h : pX0_isLetter_0  a0_ = res) : At X D A 1 0 0 0 [(0, .int a0_)] [] (([] : va_W)) := by
  unfold pX0_isLetter_0 at h
  refine r_iload_n C 0 (dall tdX0_isLetter 0 rfl) rfl ?_
  refine r_bipush (v := 97) C (dall tdX0_isLetter 1 rfl) (by decide) ?_
  refine r_icmp_lt (tgt := 16) C (dall tdX0_isLetter 2 rfl) (by decide) (fun c1 => ?_) (fun c1 => ?_)
  · have h := (if_pos c1).symm.trans h
    refine r_iconst (v := 0) C (dall tdX0_isLetter 8 rfl) (by decide) ?_
    exact r_zret C (by decide) hR (dall tdX0_isLetter 9 rfl) (by subst h; exact ⟨rfl, rfl⟩)
  · have h := (if_neg c1).symm.trans h
    refine r_iload_n C 0 (dall tdX0_isLetter 3 rfl) rfl ?_
    refine r_bipush (v := 122) C (dall tdX0_isLetter 4 rfl) (by decide) ?_
    refine r_icmp_gt (tgt := 16) C (dall tdX0_isLetter 5 rfl) (by decide) (fun c2 => ?_) (fun c2 => ?_)
    · have h := (if_pos c2).symm.trans h
      refine r_iconst (v := 0) C (dall tdX0_isLetter 8 rfl) (by decide) ?_
      exact r_zret C (by decide) hR (dall tdX0_isLetter 9 rfl) (by subst h; exact ⟨rfl, rfl⟩)
    · have h := (if_neg c2).symm.trans h
      refine r_iconst (v := 1) C (dall tdX0_isLetter 6 rfl) (by decide) ?_
      refine r_goto (tgt := 17) C (dall tdX0_isLetter 7 rfl) (by decide) ?_
      exact r_zret C (by decide) hR (dall tdX0_isLetter 9 rfl) (by subst h; exact ⟨rfl, rfl⟩)
def fX0_isLetter (a0_ : Int32) : Int32 := pX0_isLetter_0  a0_
set_option maxRecDepth 100000 in
theorem zX0_isLetter  {D : va_G} (a0_ : Int32)  {tys : List (ClassId × FieldType)} : Con yX0_isLetter cX0_isLetter 1 (some .boolean) 0 0 0 D tys [.int a0_] ([]) (eI ([]) (fX0_isLetter a0_)) :=
  Con.of (own := RX0) (by decide +kernel) rfl (Nat.le_of_ble_eq_true rfl) (Nat.zero_le _) (fun X A C hR _ => (wX0_isLetter_0 a0_ C hR  rfl))
theorem ms_X0_isLetter : MS_ yX0_isLetter cX0_isLetter 1 (some .boolean) 1 := ⟨ks_X0_isLetter, kn_X0, kc_X0_isLetter, by decide +kernel⟩
def tbX0_isDigit : List (Nat × Instr × Nat) := [(0, .iload_n 0, 1), (1, .bipush 48, 2), (3, .if_icmp .lt 13, 3), (6, .iload_n 0, 1), (7, .bipush 57, 2), (9, .if_icmp .gt 7, 3), (12, .iconst 1, 1), (13, .goto 4, 3), (16, .iconst 0, 1), (17, .ireturn, 1)]
theorem tdX0_isDigit : tbX0_isDigit.all (fun q => decide (decode cX0_isDigit q.1 = .ok q.2)) = true := by decide +kernel
def pX0_isDigit_0  (a0_ : Int32) : Int32 := if a0_ < 48 then 0 else if 57 < a0_ then 0 else 1
set_option maxHeartbeats 4000000 in
set_option maxRecDepth 100000 in
theorem wX0_isDigit_0 {X : CX} {tys : List (ClassId × FieldType)} {D : va_G} {A : Nat → Prop} {res : Int32} (a0_ : Int32) (C : Cx X cX0_isDigit RX0 1 D tys A 0 0 0) (hR : Rt X (some .boolean) D tys A 0 0 (eI ([]) res))  (h : pX0_isDigit_0  a0_ = res) : At X D A 1 0 0 0 [(0, .int a0_)] [] (([] : va_W)) := by
  unfold pX0_isDigit_0 at h
  refine r_iload_n C 0 (dall tdX0_isDigit 0 rfl) rfl ?_
  refine r_bipush (v := 48) C (dall tdX0_isDigit 1 rfl) (by decide) ?_
  refine r_icmp_lt (tgt := 16) C (dall tdX0_isDigit 2 rfl) (by decide) (fun c1 => ?_) (fun c1 => ?_)
  · have h := (if_pos c1).symm.trans h
    refine r_iconst (v := 0) C (dall tdX0_isDigit 8 rfl) (by decide) ?_
    exact r_zret C (by decide) hR (dall tdX0_isDigit 9 rfl) (by subst h; exact ⟨rfl, rfl⟩)
  · have h := (if_neg c1).symm.trans h
    refine r_iload_n C 0 (dall tdX0_isDigit 3 rfl) rfl ?_
    refine r_bipush (v := 57) C (dall tdX0_isDigit 4 rfl) (by decide) ?_
    refine r_icmp_gt (tgt := 16) C (dall tdX0_isDigit 5 rfl) (by decide) (fun c2 => ?_) (fun c2 => ?_)
    · have h := (if_pos c2).symm.trans h
      refine r_iconst (v := 0) C (dall tdX0_isDigit 8 rfl) (by decide) ?_
      exact r_zret C (by decide) hR (dall tdX0_isDigit 9 rfl) (by subst h; exact ⟨rfl, rfl⟩)
    · have h := (if_neg c2).symm.trans h
      refine r_iconst (v := 1) C (dall tdX0_isDigit 6 rfl) (by decide) ?_
      refine r_goto (tgt := 17) C (dall tdX0_isDigit 7 rfl) (by decide) ?_
      exact r_zret C (by decide) hR (dall tdX0_isDigit 9 rfl) (by subst h; exact ⟨rfl, rfl⟩)
def fX0_isDigit (a0_ : Int32) : Int32 := pX0_isDigit_0  a0_
set_option maxRecDepth 100000 in
theorem zX0_isDigit  {D : va_G} (a0_ : Int32)  {tys : List (ClassId × FieldType)} : Con yX0_isDigit cX0_isDigit 1 (some .boolean) 0 0 0 D tys [.int a0_] ([]) (eI ([]) (fX0_isDigit a0_)) :=
  Con.of (own := RX0) (by decide +kernel) rfl (Nat.le_of_ble_eq_true rfl) (Nat.zero_le _) (fun X A C hR _ => (wX0_isDigit_0 a0_ C hR  rfl))
theorem ms_X0_isDigit : MS_ yX0_isDigit cX0_isDigit 1 (some .boolean) 1 := ⟨ks_X0_isDigit, kn_X0, kc_X0_isDigit, by decide +kernel⟩
def tbX2_joined : List (Nat × Instr × Nat) := [(0, .iload_n 0, 1), (1, .tableswitch 141 3 19 #[83, 97, 141, 141, 141, 141, 141, 141, 141, 141, 141, 141, 133, 137, 141, 111, 122], 83), (84, .iload_n 1, 1), (85, .ifCond .ne 7, 3), (88, .iload_n 2, 1), (89, .ifCond .eq 7, 3), (92, .iconst 1, 1), (93, .goto 4, 3), (96, .iconst 0, 1), (97, .ireturn, 1), (98, .iload_n 1, 1), (99, .ifCond .eq 11, 3), (102, .iload_n 2, 1), (103, .ifCond .eq 7, 3), (106, .iconst 1, 1), (107, .goto 4, 3), (110, .iconst 0, 1), (111, .ireturn, 1), (112, .iload_n 1, 1), (113, .iload_n 2, 1), (114, .if_icmp .ge 7, 3), (117, .iconst 1, 1), (118, .goto 4, 3), (121, .iconst 0, 1), (122, .ireturn, 1), (123, .iload_n 1, 1), (124, .iload_n 2, 1), (125, .if_icmp .ne 7, 3), (128, .iconst 1, 1), (129, .goto 4, 3), (132, .iconst 0, 1), (133, .ireturn, 1), (134, .iload_n 1, 1), (135, .iload_n 2, 1), (136, .iadd, 1), (137, .ireturn, 1), (138, .iload_n 1, 1), (139, .iload_n 2, 1), (140, .isub, 1), (141, .ireturn, 1), (142, .iload_n 1, 1), (143, .iload_n 2, 1), (144, .imul, 1), (145, .ireturn, 1)]
theorem tdX2_joined : tbX2_joined.all (fun q => decide (decode cX2_joined q.1 = .ok q.2)) = true := by decide +kernel
def pX2_joined_92   : Int32 := 1
set_option maxHeartbeats 4000000 in
set_option maxRecDepth 100000 in
theorem wX2_joined_92 {X : CX} {tys : List (ClassId × FieldType)} {D : va_G} {A : Nat → Prop} {res : Int32}  (C : Cx X cX2_joined RX2 3 D tys A 0 0 0) (hR : Rt X (some .int) D tys A 0 0 (eI ([]) res))  (h : pX2_joined_92   = res) : At X D A 3 0 0 92 [] [] (([] : va_W)) := by
  unfold pX2_joined_92 at h
  refine r_iconst (v := 1) C (dall tdX2_joined 6 rfl) (by decide) ?_
  refine r_goto (tgt := 97) C (dall tdX2_joined 7 rfl) (by decide) ?_
  exact r_iret C hR (dall tdX2_joined 9 rfl) (by subst h; exact ⟨rfl, rfl⟩)
def pX2_joined_0  (a0_ : Int32) (a1_ : Int32) (a2_ : Int32) : Int32 := if a0_ = 3 then if a1_ = 0 then if a2_ = 0 then 0 else pX2_joined_92   else pX2_joined_92   else if a0_ = 4 then if a1_ = 0 then 0 else if a2_ = 0 then 0 else 1 else if a0_ = 5 then a1_ * a2_ else if a0_ = 6 then a1_ * a2_ else if a0_ = 7 then a1_ * a2_ else if a0_ = 8 then a1_ * a2_ else if a0_ = 9 then a1_ * a2_ else if a0_ = 10 then a1_ * a2_ else if a0_ = 11 then a1_ * a2_ else if a0_ = 12 then a1_ * a2_ else if a0_ = 13 then a1_ * a2_ else if a0_ = 14 then a1_ * a2_ else if a0_ = 15 then a1_ + a2_ else if a0_ = 16 then a1_ - a2_ else if a0_ = 17 then a1_ * a2_ else if a0_ = 18 then if a2_ ≤ a1_ then 0 else 1 else if a0_ = 19 then if a1_ = a2_ then 1 else 0 else a1_ * a2_
set_option maxHeartbeats 4000000 in
set_option maxRecDepth 100000 in
theorem wX2_joined_0 {X : CX} {tys : List (ClassId × FieldType)} {D : va_G} {A : Nat → Prop} {res : Int32} (a0_ : Int32) (a1_ : Int32) (a2_ : Int32) (C : Cx X cX2_joined RX2 3 D tys A 0 0 0) (hR : Rt X (some .int) D tys A 0 0 (eI ([]) res))  (h : pX2_joined_0  a0_ a1_ a2_ = res) : At X D A 3 0 0 0 [(0, .int a0_), (1, .int a1_), (2, .int a2_)] [] (([] : va_W)) := by
  unfold pX2_joined_0 at h
  refine r_iload_n C 0 (dall tdX2_joined 0 rfl) rfl ?_
  by_cases e1_0 : a0_ = 3
  · have h := (if_pos e1_0).symm.trans h
    refine r_tsIn (off := 83) (tgt := 84) C 3 (dall tdX2_joined 1 rfl) e1_0 (by decide) (by decide) (by decide) (by decide) ?_
    refine r_iload_n C 1 (dall tdX2_joined 2 rfl) rfl ?_
    refine r_if_ne (tgt := 92) C (dall tdX2_joined 3 rfl) (by decide) (fun c1 => ?_) (fun c1 => ?_)
    · have h := (if_neg c1).symm.trans h
      refine r_pick [] rfl ?_
      exact wX2_joined_92  C hR  h
    · have h := (if_pos c1).symm.trans h
      refine r_iload_n C 2 (dall tdX2_joined 4 rfl) rfl ?_
      refine r_if_eq (tgt := 96) C (dall tdX2_joined 5 rfl) (by decide) (fun c2 => ?_) (fun c2 => ?_)
      · have h := (if_pos c2).symm.trans h
        refine r_iconst (v := 0) C (dall tdX2_joined 8 rfl) (by decide) ?_
        exact r_iret C hR (dall tdX2_joined 9 rfl) (by subst h; exact ⟨rfl, rfl⟩)
      · have h := (if_neg c2).symm.trans h
        refine r_pick [] rfl ?_
        exact wX2_joined_92  C hR  h
  · have h := (if_neg e1_0).symm.trans h
    by_cases e1_1 : a0_ = 4
    · have h := (if_pos e1_1).symm.trans h
      refine r_tsIn (off := 97) (tgt := 98) C 4 (dall tdX2_joined 1 rfl) e1_1 (by decide) (by decide) (by decide) (by decide) ?_
      refine r_iload_n C 1 (dall tdX2_joined 10 rfl) rfl ?_
      refine r_if_eq (tgt := 110) C (dall tdX2_joined 11 rfl) (by decide) (fun c3 => ?_) (fun c3 => ?_)
      · have h := (if_pos c3).symm.trans h
        refine r_iconst (v := 0) C (dall tdX2_joined 16 rfl) (by decide) ?_
        exact r_iret C hR (dall tdX2_joined 17 rfl) (by subst h; exact ⟨rfl, rfl⟩)
      · have h := (if_neg c3).symm.trans h
        refine r_iload_n C 2 (dall tdX2_joined 12 rfl) rfl ?_
        refine r_if_eq (tgt := 110) C (dall tdX2_joined 13 rfl) (by decide) (fun c4 => ?_) (fun c4 => ?_)
        · have h := (if_pos c4).symm.trans h
          refine r_iconst (v := 0) C (dall tdX2_joined 16 rfl) (by decide) ?_
          exact r_iret C hR (dall tdX2_joined 17 rfl) (by subst h; exact ⟨rfl, rfl⟩)
        · have h := (if_neg c4).symm.trans h
          refine r_iconst (v := 1) C (dall tdX2_joined 14 rfl) (by decide) ?_
          refine r_goto (tgt := 111) C (dall tdX2_joined 15 rfl) (by decide) ?_
          exact r_iret C hR (dall tdX2_joined 17 rfl) (by subst h; exact ⟨rfl, rfl⟩)
    · have h := (if_neg e1_1).symm.trans h
      by_cases e1_2 : a0_ = 5
      · have h := (if_pos e1_2).symm.trans h
        refine r_tsIn (off := 141) (tgt := 142) C 5 (dall tdX2_joined 1 rfl) e1_2 (by decide) (by decide) (by decide) (by decide) ?_
        refine r_iload_n C 1 (dall tdX2_joined 40 rfl) rfl ?_
        refine r_iload_n C 2 (dall tdX2_joined 41 rfl) rfl ?_
        refine r_imul C (dall tdX2_joined 42 rfl) ?_
        exact r_iret C hR (dall tdX2_joined 43 rfl) (by subst h; exact ⟨rfl, rfl⟩)
      · have h := (if_neg e1_2).symm.trans h
        by_cases e1_3 : a0_ = 6
        · have h := (if_pos e1_3).symm.trans h
          refine r_tsIn (off := 141) (tgt := 142) C 6 (dall tdX2_joined 1 rfl) e1_3 (by decide) (by decide) (by decide) (by decide) ?_
          refine r_iload_n C 1 (dall tdX2_joined 40 rfl) rfl ?_
          refine r_iload_n C 2 (dall tdX2_joined 41 rfl) rfl ?_
          refine r_imul C (dall tdX2_joined 42 rfl) ?_
          exact r_iret C hR (dall tdX2_joined 43 rfl) (by subst h; exact ⟨rfl, rfl⟩)
        · have h := (if_neg e1_3).symm.trans h
          by_cases e1_4 : a0_ = 7
          · have h := (if_pos e1_4).symm.trans h
            refine r_tsIn (off := 141) (tgt := 142) C 7 (dall tdX2_joined 1 rfl) e1_4 (by decide) (by decide) (by decide) (by decide) ?_
            refine r_iload_n C 1 (dall tdX2_joined 40 rfl) rfl ?_
            refine r_iload_n C 2 (dall tdX2_joined 41 rfl) rfl ?_
            refine r_imul C (dall tdX2_joined 42 rfl) ?_
            exact r_iret C hR (dall tdX2_joined 43 rfl) (by subst h; exact ⟨rfl, rfl⟩)
          · have h := (if_neg e1_4).symm.trans h
            by_cases e1_5 : a0_ = 8
            · have h := (if_pos e1_5).symm.trans h
              refine r_tsIn (off := 141) (tgt := 142) C 8 (dall tdX2_joined 1 rfl) e1_5 (by decide) (by decide) (by decide) (by decide) ?_
              refine r_iload_n C 1 (dall tdX2_joined 40 rfl) rfl ?_
              refine r_iload_n C 2 (dall tdX2_joined 41 rfl) rfl ?_
              refine r_imul C (dall tdX2_joined 42 rfl) ?_
              exact r_iret C hR (dall tdX2_joined 43 rfl) (by subst h; exact ⟨rfl, rfl⟩)
            · have h := (if_neg e1_5).symm.trans h
              by_cases e1_6 : a0_ = 9
              · have h := (if_pos e1_6).symm.trans h
                refine r_tsIn (off := 141) (tgt := 142) C 9 (dall tdX2_joined 1 rfl) e1_6 (by decide) (by decide) (by decide) (by decide) ?_
                refine r_iload_n C 1 (dall tdX2_joined 40 rfl) rfl ?_
                refine r_iload_n C 2 (dall tdX2_joined 41 rfl) rfl ?_
                refine r_imul C (dall tdX2_joined 42 rfl) ?_
                exact r_iret C hR (dall tdX2_joined 43 rfl) (by subst h; exact ⟨rfl, rfl⟩)
              · have h := (if_neg e1_6).symm.trans h
                by_cases e1_7 : a0_ = 10
                · have h := (if_pos e1_7).symm.trans h
                  refine r_tsIn (off := 141) (tgt := 142) C 10 (dall tdX2_joined 1 rfl) e1_7 (by decide) (by decide) (by decide) (by decide) ?_
                  refine r_iload_n C 1 (dall tdX2_joined 40 rfl) rfl ?_
                  refine r_iload_n C 2 (dall tdX2_joined 41 rfl) rfl ?_
                  refine r_imul C (dall tdX2_joined 42 rfl) ?_
                  exact r_iret C hR (dall tdX2_joined 43 rfl) (by subst h; exact ⟨rfl, rfl⟩)
                · have h := (if_neg e1_7).symm.trans h
                  by_cases e1_8 : a0_ = 11
                  · have h := (if_pos e1_8).symm.trans h
                    refine r_tsIn (off := 141) (tgt := 142) C 11 (dall tdX2_joined 1 rfl) e1_8 (by decide) (by decide) (by decide) (by decide) ?_
                    refine r_iload_n C 1 (dall tdX2_joined 40 rfl) rfl ?_
                    refine r_iload_n C 2 (dall tdX2_joined 41 rfl) rfl ?_
                    refine r_imul C (dall tdX2_joined 42 rfl) ?_
                    exact r_iret C hR (dall tdX2_joined 43 rfl) (by subst h; exact ⟨rfl, rfl⟩)
                  · have h := (if_neg e1_8).symm.trans h
                    by_cases e1_9 : a0_ = 12
                    · have h := (if_pos e1_9).symm.trans h
                      refine r_tsIn (off := 141) (tgt := 142) C 12 (dall tdX2_joined 1 rfl) e1_9 (by decide) (by decide) (by decide) (by decide) ?_
                      refine r_iload_n C 1 (dall tdX2_joined 40 rfl) rfl ?_
                      refine r_iload_n C 2 (dall tdX2_joined 41 rfl) rfl ?_
                      refine r_imul C (dall tdX2_joined 42 rfl) ?_
                      exact r_iret C hR (dall tdX2_joined 43 rfl) (by subst h; exact ⟨rfl, rfl⟩)
                    · have h := (if_neg e1_9).symm.trans h
                      by_cases e1_10 : a0_ = 13
                      · have h := (if_pos e1_10).symm.trans h
                        refine r_tsIn (off := 141) (tgt := 142) C 13 (dall tdX2_joined 1 rfl) e1_10 (by decide) (by decide) (by decide) (by decide) ?_
                        refine r_iload_n C 1 (dall tdX2_joined 40 rfl) rfl ?_
                        refine r_iload_n C 2 (dall tdX2_joined 41 rfl) rfl ?_
                        refine r_imul C (dall tdX2_joined 42 rfl) ?_
                        exact r_iret C hR (dall tdX2_joined 43 rfl) (by subst h; exact ⟨rfl, rfl⟩)
                      · have h := (if_neg e1_10).symm.trans h
                        by_cases e1_11 : a0_ = 14
                        · have h := (if_pos e1_11).symm.trans h
                          refine r_tsIn (off := 141) (tgt := 142) C 14 (dall tdX2_joined 1 rfl) e1_11 (by decide) (by decide) (by decide) (by decide) ?_
                          refine r_iload_n C 1 (dall tdX2_joined 40 rfl) rfl ?_
                          refine r_iload_n C 2 (dall tdX2_joined 41 rfl) rfl ?_
                          refine r_imul C (dall tdX2_joined 42 rfl) ?_
                          exact r_iret C hR (dall tdX2_joined 43 rfl) (by subst h; exact ⟨rfl, rfl⟩)
                        · have h := (if_neg e1_11).symm.trans h
                          by_cases e1_12 : a0_ = 15
                          · have h := (if_pos e1_12).symm.trans h
                            refine r_tsIn (off := 133) (tgt := 134) C 15 (dall tdX2_joined 1 rfl) e1_12 (by decide) (by decide) (by decide) (by decide) ?_
                            refine r_iload_n C 1 (dall tdX2_joined 32 rfl) rfl ?_
                            refine r_iload_n C 2 (dall tdX2_joined 33 rfl) rfl ?_
                            refine r_iadd C (dall tdX2_joined 34 rfl) ?_
                            exact r_iret C hR (dall tdX2_joined 35 rfl) (by subst h; exact ⟨rfl, rfl⟩)
                          · have h := (if_neg e1_12).symm.trans h
                            by_cases e1_13 : a0_ = 16
                            · have h := (if_pos e1_13).symm.trans h
                              refine r_tsIn (off := 137) (tgt := 138) C 16 (dall tdX2_joined 1 rfl) e1_13 (by decide) (by decide) (by decide) (by decide) ?_
                              refine r_iload_n C 1 (dall tdX2_joined 36 rfl) rfl ?_
                              refine r_iload_n C 2 (dall tdX2_joined 37 rfl) rfl ?_
                              refine r_isub C (dall tdX2_joined 38 rfl) ?_
                              exact r_iret C hR (dall tdX2_joined 39 rfl) (by subst h; exact ⟨rfl, rfl⟩)
                            · have h := (if_neg e1_13).symm.trans h
                              by_cases e1_14 : a0_ = 17
                              · have h := (if_pos e1_14).symm.trans h
                                refine r_tsIn (off := 141) (tgt := 142) C 17 (dall tdX2_joined 1 rfl) e1_14 (by decide) (by decide) (by decide) (by decide) ?_
                                refine r_iload_n C 1 (dall tdX2_joined 40 rfl) rfl ?_
                                refine r_iload_n C 2 (dall tdX2_joined 41 rfl) rfl ?_
                                refine r_imul C (dall tdX2_joined 42 rfl) ?_
                                exact r_iret C hR (dall tdX2_joined 43 rfl) (by subst h; exact ⟨rfl, rfl⟩)
                              · have h := (if_neg e1_14).symm.trans h
                                by_cases e1_15 : a0_ = 18
                                · have h := (if_pos e1_15).symm.trans h
                                  refine r_tsIn (off := 111) (tgt := 112) C 18 (dall tdX2_joined 1 rfl) e1_15 (by decide) (by decide) (by decide) (by decide) ?_
                                  refine r_iload_n C 1 (dall tdX2_joined 18 rfl) rfl ?_
                                  refine r_iload_n C 2 (dall tdX2_joined 19 rfl) rfl ?_
                                  refine r_icmp_ge (tgt := 121) C (dall tdX2_joined 20 rfl) (by decide) (fun c5 => ?_) (fun c5 => ?_)
                                  · have h := (if_pos c5).symm.trans h
                                    refine r_iconst (v := 0) C (dall tdX2_joined 23 rfl) (by decide) ?_
                                    exact r_iret C hR (dall tdX2_joined 24 rfl) (by subst h; exact ⟨rfl, rfl⟩)
                                  · have h := (if_neg c5).symm.trans h
                                    refine r_iconst (v := 1) C (dall tdX2_joined 21 rfl) (by decide) ?_
                                    refine r_goto (tgt := 122) C (dall tdX2_joined 22 rfl) (by decide) ?_
                                    exact r_iret C hR (dall tdX2_joined 24 rfl) (by subst h; exact ⟨rfl, rfl⟩)
                                · have h := (if_neg e1_15).symm.trans h
                                  by_cases e1_16 : a0_ = 19
                                  · have h := (if_pos e1_16).symm.trans h
                                    refine r_tsIn (off := 122) (tgt := 123) C 19 (dall tdX2_joined 1 rfl) e1_16 (by decide) (by decide) (by decide) (by decide) ?_
                                    refine r_iload_n C 1 (dall tdX2_joined 25 rfl) rfl ?_
                                    refine r_iload_n C 2 (dall tdX2_joined 26 rfl) rfl ?_
                                    refine r_icmp_ne (tgt := 132) C (dall tdX2_joined 27 rfl) (by decide) (fun c6 => ?_) (fun c6 => ?_)
                                    · have h := (if_neg c6).symm.trans h
                                      refine r_iconst (v := 0) C (dall tdX2_joined 30 rfl) (by decide) ?_
                                      exact r_iret C hR (dall tdX2_joined 31 rfl) (by subst h; exact ⟨rfl, rfl⟩)
                                    · have h := (if_pos c6).symm.trans h
                                      refine r_iconst (v := 1) C (dall tdX2_joined 28 rfl) (by decide) ?_
                                      refine r_goto (tgt := 133) C (dall tdX2_joined 29 rfl) (by decide) ?_
                                      exact r_iret C hR (dall tdX2_joined 31 rfl) (by subst h; exact ⟨rfl, rfl⟩)
                                  · have h := (if_neg e1_16).symm.trans h
                                    refine r_tsOut (tgt := 142) C (dall tdX2_joined 1 rfl) (by have n0 := ne_toInt e1_0; rw [show (3 : Int32).toInt = 3 from by decide] at n0; have n1 := ne_toInt e1_1; rw [show (4 : Int32).toInt = 4 from by decide] at n1; have n2 := ne_toInt e1_2; rw [show (5 : Int32).toInt = 5 from by decide] at n2; have n3 := ne_toInt e1_3; rw [show (6 : Int32).toInt = 6 from by decide] at n3; have n4 := ne_toInt e1_4; rw [show (7 : Int32).toInt = 7 from by decide] at n4; have n5 := ne_toInt e1_5; rw [show (8 : Int32).toInt = 8 from by decide] at n5; have n6 := ne_toInt e1_6; rw [show (9 : Int32).toInt = 9 from by decide] at n6; have n7 := ne_toInt e1_7; rw [show (10 : Int32).toInt = 10 from by decide] at n7; have n8 := ne_toInt e1_8; rw [show (11 : Int32).toInt = 11 from by decide] at n8; have n9 := ne_toInt e1_9; rw [show (12 : Int32).toInt = 12 from by decide] at n9; have n10 := ne_toInt e1_10; rw [show (13 : Int32).toInt = 13 from by decide] at n10; have n11 := ne_toInt e1_11; rw [show (14 : Int32).toInt = 14 from by decide] at n11; have n12 := ne_toInt e1_12; rw [show (15 : Int32).toInt = 15 from by decide] at n12; have n13 := ne_toInt e1_13; rw [show (16 : Int32).toInt = 16 from by decide] at n13; have n14 := ne_toInt e1_14; rw [show (17 : Int32).toInt = 17 from by decide] at n14; have n15 := ne_toInt e1_15; rw [show (18 : Int32).toInt = 18 from by decide] at n15; have n16 := ne_toInt e1_16; rw [show (19 : Int32).toInt = 19 from by decide] at n16; omega) (by decide) ?_
                                    refine r_iload_n C 1 (dall tdX2_joined 40 rfl) rfl ?_
                                    refine r_iload_n C 2 (dall tdX2_joined 41 rfl) rfl ?_
                                    refine r_imul C (dall tdX2_joined 42 rfl) ?_
                                    exact r_iret C hR (dall tdX2_joined 43 rfl) (by subst h; exact ⟨rfl, rfl⟩)
def fX2_joined (a0_ : Int32) (a1_ : Int32) (a2_ : Int32) : Int32 := pX2_joined_0  a0_ a1_ a2_
set_option maxRecDepth 100000 in
theorem zX2_joined  {D : va_G} (a0_ : Int32) (a1_ : Int32) (a2_ : Int32)  {tys : List (ClassId × FieldType)} : Con yX2_joined cX2_joined 3 (some .int) 0 0 0 D tys [.int a0_, .int a1_, .int a2_] ([]) (eI ([]) (fX2_joined a0_ a1_ a2_)) :=
  Con.of (own := RX2) (by decide +kernel) rfl (Nat.le_of_ble_eq_true rfl) (Nat.zero_le _) (fun X A C hR _ => (wX2_joined_0 a0_ a1_ a2_ C hR  rfl))
theorem ms_X2_joined : MS_ yX2_joined cX2_joined 3 (some .int) 3 := ⟨ks_X2_joined, kn_X2, kc_X2_joined, by decide +kernel⟩
def tbX3_has : List (Nat × Instr × Nat) := [(0, .lload_n 0, 1), (1, .iload_n 2, 1), (2, .lushr, 1), (3, .lconst 1, 1), (4, .land, 1), (5, .lconst 0, 1), (6, .lcmp, 1), (7, .ifCond .eq 7, 3), (10, .iconst 1, 1), (11, .goto 4, 3), (14, .iconst 0, 1), (15, .ireturn, 1)]
theorem tdX3_has : tbX3_has.all (fun q => decide (decode cX3_has q.1 = .ok q.2)) = true := by decide +kernel
def pX3_has_0  (a0_ : Int64) (a2_ : Int32) : Int32 := if ((jushr a0_ a2_) &&& 1) = 0 then 0 else 1
set_option maxHeartbeats 4000000 in
set_option maxRecDepth 100000 in
theorem wX3_has_0 {X : CX} {tys : List (ClassId × FieldType)} {D : va_G} {A : Nat → Prop} {res : Int32} (a0_ : Int64) (a2_ : Int32) (C : Cx X cX3_has RX3 3 D tys A 0 0 0) (hR : Rt X (some .boolean) D tys A 0 0 (eI ([]) res))  (h : pX3_has_0  a0_ a2_ = res) : At X D A 3 0 0 0 [(0, .long a0_), (2, .int a2_)] [] (([] : va_W)) := by
  unfold pX3_has_0 at h
  refine r_lload_n C 0 (dall tdX3_has 0 rfl) rfl ?_
  refine r_iload_n C 1 (dall tdX3_has 1 rfl) rfl ?_
  refine r_lushr C (dall tdX3_has 2 rfl) ?_
  refine r_lconst (v := 1) C (dall tdX3_has 3 rfl) (by decide) ?_
  refine r_land C (dall tdX3_has 4 rfl) ?_
  refine r_lconst (v := 0) C (dall tdX3_has 5 rfl) (by decide) ?_
  refine r_lif_eq (tgt := 14) C (dall tdX3_has 6 rfl) (dall tdX3_has 7 rfl) (by decide) (fun c1 => ?_) (fun c1 => ?_)
  · have h := (if_pos c1).symm.trans h
    refine r_iconst (v := 0) C (dall tdX3_has 10 rfl) (by decide) ?_
    exact r_zret C (by decide) hR (dall tdX3_has 11 rfl) (by subst h; exact ⟨rfl, rfl⟩)
  · have h := (if_neg c1).symm.trans h
    refine r_iconst (v := 1) C (dall tdX3_has 8 rfl) (by decide) ?_
    refine r_goto (tgt := 15) C (dall tdX3_has 9 rfl) (by decide) ?_
    exact r_zret C (by decide) hR (dall tdX3_has 11 rfl) (by subst h; exact ⟨rfl, rfl⟩)
def fX3_has (a0_ : Int64) (a2_ : Int32) : Int32 := pX3_has_0  a0_ a2_
set_option maxRecDepth 100000 in
theorem zX3_has  {D : va_G} (a0_ : Int64) (a2_ : Int32)  {tys : List (ClassId × FieldType)} : Con yX3_has cX3_has 3 (some .boolean) 0 0 0 D tys [.long a0_, .int a2_] ([]) (eI ([]) (fX3_has a0_ a2_)) :=
  Con.of (own := RX3) (by decide +kernel) rfl (Nat.le_of_ble_eq_true rfl) (Nat.zero_le _) (fun X A C hR _ => (wX3_has_0 a0_ a2_ C hR  rfl))
theorem ms_X3_has : MS_ yX3_has cX3_has 3 (some .boolean) 2 := ⟨ks_X3_has, kn_X3, kc_X3_has, by decide +kernel⟩
def tbX3_beside : List (Nat × Instr × Nat) := [(0, .lload_n 0, 1), (1, .bipush 8, 2), (3, .lshl, 1), (4, .lload_n 0, 1), (5, .bipush 8, 2), (7, .lushr, 1), (8, .lor, 1), (9, .lload_n 0, 1), (10, .ldc2_w 11, 3), (13, .land, 1), (14, .iconst 1, 1), (15, .lshl, 1), (16, .lor, 1), (17, .lload_n 0, 1), (18, .ldc2_w 13, 3), (21, .land, 1), (22, .iconst 1, 1), (23, .lushr, 1), (24, .lor, 1), (25, .lreturn, 1)]
theorem tdX3_beside : tbX3_beside.all (fun q => decide (decode cX3_beside q.1 = .ok q.2)) = true := by decide +kernel
def pX3_beside_0  (a0_ : Int64) : Int64 := (((jshl a0_ 8) ||| (jushr a0_ 8)) ||| (jshl (a0_ &&& (9187201950435737471)) 1)) ||| (jushr (a0_ &&& (-72340172838076674)) 1)
set_option maxHeartbeats 4000000 in
set_option maxRecDepth 100000 in
theorem wX3_beside_0 {X : CX} {tys : List (ClassId × FieldType)} {D : va_G} {A : Nat → Prop} {res : Int64} (a0_ : Int64) (C : Cx X cX3_beside RX3 2 D tys A 0 0 0) (hR : Rt X (some .long) D tys A 0 0 (eL ([]) res))  (h : pX3_beside_0  a0_ = res) : At X D A 2 0 0 0 [(0, .long a0_)] [] (([] : va_W)) := by
  unfold pX3_beside_0 at h
  refine r_lload_n C 0 (dall tdX3_beside 0 rfl) rfl ?_
  refine r_bipush (v := 8) C (dall tdX3_beside 1 rfl) (by decide) ?_
  refine r_lshl C (dall tdX3_beside 2 rfl) ?_
  refine r_lload_n C 0 (dall tdX3_beside 3 rfl) rfl ?_
  refine r_bipush (v := 8) C (dall tdX3_beside 4 rfl) (by decide) ?_
  refine r_lushr C (dall tdX3_beside 5 rfl) ?_
  refine r_lor C (dall tdX3_beside 6 rfl) ?_
  refine r_lload_n C 0 (dall tdX3_beside 7 rfl) rfl ?_
  refine r_ldc2 C kk_X3_11 (dall tdX3_beside 8 rfl) ?_
  refine r_land C (dall tdX3_beside 9 rfl) ?_
  refine r_iconst (v := 1) C (dall tdX3_beside 10 rfl) (by decide) ?_
  refine r_lshl C (dall tdX3_beside 11 rfl) ?_
  refine r_lor C (dall tdX3_beside 12 rfl) ?_
  refine r_lload_n C 0 (dall tdX3_beside 13 rfl) rfl ?_
  refine r_ldc2 C kk_X3_13 (dall tdX3_beside 14 rfl) ?_
  refine r_land C (dall tdX3_beside 15 rfl) ?_
  refine r_iconst (v := 1) C (dall tdX3_beside 16 rfl) (by decide) ?_
  refine r_lushr C (dall tdX3_beside 17 rfl) ?_
  refine r_lor C (dall tdX3_beside 18 rfl) ?_
  exact r_lret C hR (dall tdX3_beside 19 rfl) (by subst h; exact ⟨rfl, rfl⟩)
def fX3_beside (a0_ : Int64) : Int64 := pX3_beside_0  a0_
set_option maxRecDepth 100000 in
theorem zX3_beside  {D : va_G} (a0_ : Int64)  {tys : List (ClassId × FieldType)} : Con yX3_beside cX3_beside 2 (some .long) 0 0 0 D tys [.long a0_] ([]) (eL ([]) (fX3_beside a0_)) :=
  Con.of (own := RX3) (by decide +kernel) rfl (Nat.le_of_ble_eq_true rfl) (Nat.zero_le _) (fun X A C hR _ => (wX3_beside_0 a0_ C hR  rfl))
theorem ms_X3_beside : MS_ yX3_beside cX3_beside 2 (some .long) 1 := ⟨ks_X3_beside, kn_X3, kc_X3_beside, by decide +kernel⟩
def tbX3_held : List (Nat × Instr × Nat) := [(0, .lload_n 0, 1), (1, .lstore 4, 2), (3, .iconst 0, 1), (4, .istore 6, 2), (6, .iload 6, 2), (8, .bipush 64, 2), (10, .if_icmp .ge 36, 3), (13, .lload 4, 2), (15, .lload 4, 2), (17, .invokestatic 15, 3), (20, .lload_n 2, 1), (21, .land, 1), (22, .lor, 1), (23, .lstore 7, 2), (25, .lload 7, 2), (27, .lload 4, 2), (29, .lcmp, 1), (30, .ifCond .ne 6, 3), (33, .lload 4, 2), (35, .lreturn, 1), (36, .lload 7, 2), (38, .lstore 4, 2), (40, .iinc 6 1, 3), (43, .goto (-37), 3), (46, .lload 4, 2), (48, .lreturn, 1)]
theorem tdX3_held : tbX3_held.all (fun q => decide (decode cX3_held q.1 = .ok q.2)) = true := by decide +kernel
def bX3_held_6 (a2_ : Int64)  (kR6 : Int64 × Int32 → Int64) (v : Int64 × Int32) : Int64 := if 64 ≤ v.2 then v.1 else if (v.1 ||| ((fX3_beside v.1) &&& a2_)) = v.1 then v.1 else kR6 (v.1 ||| ((fX3_beside v.1) &&& a2_), v.2 + 1)
def kX3_held_6 (a2_ : Int64)  (kO6 : Int64 × Int32 → Prop) (v : Int64 × Int32) : Prop := (64 ≤ v.2 → True) ∧ (¬ (64 ≤ v.2) → ((v.1 ||| ((fX3_beside v.1) &&& a2_)) = v.1 → True) ∧ (¬ ((v.1 ||| ((fX3_beside v.1) &&& a2_)) = v.1) → kO6 (v.1 ||| ((fX3_beside v.1) &&& a2_), v.2 + 1)))
set_option maxHeartbeats 4000000 in
set_option maxRecDepth 100000 in
theorem wX3_held_6 {X : CX} {tys : List (ClassId × FieldType)} {D : va_G} {A : Nat → Prop} {res : Int64} (a2_ : Int64) (C : Cx X cX3_held RX3 9 D tys A 1 0 0) (hR : Rt X (some .long) D tys A 0 0 (eL ([]) res)) (kR6 : Int64 × Int32 → Int64) (kO6 : Int64 × Int32 → Prop) (hk6 : ∀ z, kO6 z → kR6 z = res → At X D A 9 0 0 6 [(2, .long a2_), (4, .long z.1), (6, .int z.2)] [] (([] : va_W))) (v : Int64 × Int32) (ok : kX3_held_6 a2_ kO6 v) (h : bX3_held_6 a2_ kR6 v = res) : At X D A 9 0 0 6 [(2, .long a2_), (4, .long v.1), (6, .int v.2)] [] (([] : va_W)) := by
  unfold bX3_held_6 at h
  unfold kX3_held_6 at ok
  refine r_iload C 2 (dall tdX3_held 4 rfl) rfl ?_
  refine r_bipush (v := 64) C (dall tdX3_held 5 rfl) (by decide) ?_
  refine r_icmp_ge (tgt := 46) C (dall tdX3_held 6 rfl) (by decide) (fun c1 => ?_) (fun c1 => ?_)
  · have h := (if_pos c1).symm.trans h
    have ok := ok.1 c1
    refine r_lload C 1 (dall tdX3_held 24 rfl) rfl ?_
    exact r_lret C hR (dall tdX3_held 25 rfl) (by subst h; exact ⟨rfl, rfl⟩)
  · have h := (if_neg c1).symm.trans h
    have ok := ok.2 c1
    refine r_lload C 1 (dall tdX3_held 7 rfl) rfl ?_
    refine r_lload C 1 (dall tdX3_held 8 rfl) rfl ?_
    refine r_s0L (as := [.long v.1]) C (zX3_beside v.1 ) ms_X3_beside km_X3_15 (by decide) (by decide) ⟨Nat.le_refl _, Nat.le_refl _⟩ rfl rfl (Nat.le_of_ble_eq_true rfl) (dall tdX3_held 9 rfl) ?_
    refine r_lload_n C 0 (dall tdX3_held 10 rfl) rfl ?_
    refine r_land C (dall tdX3_held 11 rfl) ?_
    refine r_lor C (dall tdX3_held 12 rfl) ?_
    refine r_lstore (lv' := [(7, .long (v.1 ||| ((fX3_beside v.1) &&& a2_))), (2, .long a2_), (4, .long v.1), (6, .int v.2)]) C (dall tdX3_held 13 rfl) (by decide) rfl ?_
    refine r_lload C 0 (dall tdX3_held 14 rfl) rfl ?_
    refine r_lload C 2 (dall tdX3_held 15 rfl) rfl ?_
    refine r_lif_ne (tgt := 36) C (dall tdX3_held 16 rfl) (dall tdX3_held 17 rfl) (by decide) (fun c2 => ?_) (fun c2 => ?_)
    · have h := (if_neg c2).symm.trans h
      have ok := ok.2 c2
      refine r_lload C 0 (dall tdX3_held 20 rfl) rfl ?_
      refine r_lstore (lv' := [(4, .long (v.1 ||| ((fX3_beside v.1) &&& a2_))), (7, .long (v.1 ||| ((fX3_beside v.1) &&& a2_))), (2, .long a2_), (6, .int v.2)]) C (dall tdX3_held 21 rfl) (by decide) rfl ?_
      refine r_iinc (v := v.2 + 1) (lv' := [(6, .int (v.2 + 1)), (4, .long (v.1 ||| ((fX3_beside v.1) &&& a2_))), (7, .long (v.1 ||| ((fX3_beside v.1) &&& a2_))), (2, .long a2_)]) C 3 (dall tdX3_held 22 rfl) rfl rfl (by decide) rfl ?_
      refine r_goto (tgt := 6) C (dall tdX3_held 23 rfl) (by decide) ?_
      refine r_pick [3, 1, 0] rfl ?_
      exact hk6 (v.1 ||| ((fX3_beside v.1) &&& a2_), v.2 + 1) ok h
    · have h := (if_pos c2).symm.trans h
      have ok := ok.1 c2
      refine r_lload C 2 (dall tdX3_held 18 rfl) rfl ?_
      exact r_lret C hR (dall tdX3_held 19 rfl) (by subst h; exact ⟨rfl, rfl⟩)
set_option maxHeartbeats 4000000 in
set_option maxRecDepth 100000 in
theorem lX3_held_6 {X : CX} {tys : List (ClassId × FieldType)} {D : va_G} {A : Nat → Prop} {res : Int64} (a2_ : Int64) (C : Cx X cX3_held RX3 9 D tys A 1 0 0) (hR : Rt X (some .long) D tys A 0 0 (eL ([]) res))  (n : Nat) (v : Int64 × Int32) (ok : lpOk (kX3_held_6 a2_ ) n v) (h : lp 0 (bX3_held_6 a2_ ) n v = res) : At X D A 9 0 0 6 [(2, .long a2_), (4, .long v.1), (6, .int v.2)] [] (([] : va_W)) :=
  lp_rule (fun v rr_ => rr_ = res → At X D A 9 0 0 6 [(2, .long a2_), (4, .long v.1), (6, .int v.2)] [] (([] : va_W))) (fun kR kO hk v ok h => wX3_held_6 a2_ C hR  kR kO hk v ok h) n v ok h
def pX3_held_0  (a0_ : Int64) (a2_ : Int64) : Int64 := lp 0 (bX3_held_6 a2_ ) fu (a0_, 0)
def oX3_held_0  (a0_ : Int64) (a2_ : Int64) : Prop := lpOk (kX3_held_6 a2_ ) fu (a0_, 0)
set_option maxHeartbeats 4000000 in
set_option maxRecDepth 100000 in
theorem wX3_held_0 {X : CX} {tys : List (ClassId × FieldType)} {D : va_G} {A : Nat → Prop} {res : Int64} (a0_ : Int64) (a2_ : Int64) (C : Cx X cX3_held RX3 9 D tys A 1 0 0) (hR : Rt X (some .long) D tys A 0 0 (eL ([]) res))  (ok : oX3_held_0  a0_ a2_) (h : pX3_held_0  a0_ a2_ = res) : At X D A 9 0 0 0 [(0, .long a0_), (2, .long a2_)] [] (([] : va_W)) := by
  unfold pX3_held_0 at h
  unfold oX3_held_0 at ok
  refine r_lload_n C 0 (dall tdX3_held 0 rfl) rfl ?_
  refine r_lstore (lv' := [(4, .long a0_), (0, .long a0_), (2, .long a2_)]) C (dall tdX3_held 1 rfl) (by decide) rfl ?_
  refine r_iconst (v := 0) C (dall tdX3_held 2 rfl) (by decide) ?_
  refine r_istore (lv' := [(6, .int 0), (4, .long a0_), (0, .long a0_), (2, .long a2_)]) C (dall tdX3_held 3 rfl) (by decide) rfl ?_
  refine r_pick [3, 1, 0] rfl ?_
  exact lX3_held_6 a2_ C hR  fu _ ok h
def fX3_held (a0_ : Int64) (a2_ : Int64) : Int64 := pX3_held_0  a0_ a2_
def gX3_held (a0_ : Int64) (a2_ : Int64) : Prop := oX3_held_0  a0_ a2_
set_option maxRecDepth 100000 in
theorem zX3_held  {D : va_G} (a0_ : Int64) (a2_ : Int64) (ok : gX3_held a0_ a2_)  {tys : List (ClassId × FieldType)} : Con yX3_held cX3_held 9 (some .long) 1 0 0 D tys [.long a0_, .long a2_] ([]) (eL ([]) (fX3_held a0_ a2_)) :=
  Con.of (own := RX3) (by decide +kernel) rfl (Nat.le_of_ble_eq_true rfl) (Nat.zero_le _) (fun X A C hR _ => (wX3_held_0 a0_ a2_ C hR  ok rfl))
theorem ms_X3_held : MS_ yX3_held cX3_held 9 (some .long) 2 := ⟨ks_X3_held, kn_X3, kc_X3_held, by decide +kernel⟩
def tbX3_cellsOf : List (Nat × Instr × Nat) := [(0, .lconst 0, 1), (1, .lstore_n 2, 1), (2, .iconst 0, 1), (3, .istore 4, 2), (5, .iload 4, 2), (7, .iconst 4, 1), (8, .if_icmp .ge 26, 3), (11, .lload_n 2, 1), (12, .lconst 1, 1), (13, .iload_n 1, 1), (14, .getstatic 19, 3), (17, .iconst 4, 1), (18, .iload_n 0, 1), (19, .imul, 1), (20, .iload 4, 2), (22, .iadd, 1), (23, .iaload, 1), (24, .iadd, 1), (25, .lshl, 1), (26, .lor, 1), (27, .lstore_n 2, 1), (28, .iinc 4 1, 3), (31, .goto (-26), 3), (34, .lload_n 2, 1), (35, .lreturn, 1)]
theorem tdX3_cellsOf : tbX3_cellsOf.all (fun q => decide (decode cX3_cellsOf q.1 = .ok q.2)) = true := by decide +kernel
def bX3_cellsOf_5 (a0_ : Int32) (a1_ : Int32)  (kR5 : Int64 × Int32 → Int64) (v : Int64 × Int32) : Int64 := if 4 ≤ v.2 then v.1 else kR5 (v.1 ||| (jshl 1 (a1_ + (tOFF ((4 * a0_) + v.2).toNatClampNeg))), v.2 + 1)
def kX3_cellsOf_5 (a0_ : Int32) (a1_ : Int32)  (kO5 : Int64 × Int32 → Prop) (v : Int64 × Int32) : Prop := (4 ≤ v.2 → True) ∧ (¬ (4 ≤ v.2) → (vp_in ((4 * a0_) + v.2) 24) ∧ (kO5 (v.1 ||| (jshl 1 (a1_ + (tOFF ((4 * a0_) + v.2).toNatClampNeg))), v.2 + 1)))
set_option maxHeartbeats 4000000 in
set_option maxRecDepth 100000 in
theorem wX3_cellsOf_5 {X : CX} {tys : List (ClassId × FieldType)} {D : va_G} {A : Nat → Prop} {res : Int64} (a0_ : Int32) (a1_ : Int32) (C : Cx X cX3_cellsOf RX3 5 D tys A 0 0 0) (hR : Rt X (some .long) D tys A 0 0 (eL ([]) res)) (kR5 : Int64 × Int32 → Int64) (kO5 : Int64 × Int32 → Prop) (hk5 : ∀ z, kO5 z → kR5 z = res → At X D A 5 0 0 5 [(0, .int a0_), (1, .int a1_), (2, .long z.1), (4, .int z.2)] [] (([] : va_W))) (v : Int64 × Int32) (ok : kX3_cellsOf_5 a0_ a1_ kO5 v) (h : bX3_cellsOf_5 a0_ a1_ kR5 v = res) : At X D A 5 0 0 5 [(0, .int a0_), (1, .int a1_), (2, .long v.1), (4, .int v.2)] [] (([] : va_W)) := by
  unfold bX3_cellsOf_5 at h
  unfold kX3_cellsOf_5 at ok
  refine r_iload C 3 (dall tdX3_cellsOf 4 rfl) rfl ?_
  refine r_iconst (v := 4) C (dall tdX3_cellsOf 5 rfl) (by decide) ?_
  refine r_icmp_ge (tgt := 34) C (dall tdX3_cellsOf 6 rfl) (by decide) (fun c1 => ?_) (fun c1 => ?_)
  · have h := (if_pos c1).symm.trans h
    have ok := ok.1 c1
    refine r_lload_n C 2 (dall tdX3_cellsOf 23 rfl) rfl ?_
    exact r_lret C hR (dall tdX3_cellsOf 24 rfl) (by subst h; exact ⟨rfl, rfl⟩)
  · have h := (if_neg c1).symm.trans h
    have ok := ok.2 c1
    refine r_lload_n C 2 (dall tdX3_cellsOf 7 rfl) rfl ?_
    refine r_lconst (v := 1) C (dall tdX3_cellsOf 8 rfl) (by decide) ?_
    refine r_iload_n C 1 (dall tdX3_cellsOf 9 rfl) rfl ?_
    refine rg_OFFSETS C kf_X3_19 (dall tdX3_cellsOf 10 rfl) ?_
    refine r_iconst (v := 4) C (dall tdX3_cellsOf 11 rfl) (by decide) ?_
    refine r_iload_n C 0 (dall tdX3_cellsOf 12 rfl) rfl ?_
    refine r_imul C (dall tdX3_cellsOf 13 rfl) ?_
    refine r_iload C 3 (dall tdX3_cellsOf 14 rfl) rfl ?_
    refine r_iadd C (dall tdX3_cellsOf 15 rfl) ?_
    obtain ⟨o2, ok⟩ := ok
    refine rs_OFFSETS C o2 (dall tdX3_cellsOf 16 rfl) ?_
    refine r_iadd C (dall tdX3_cellsOf 17 rfl) ?_
    refine r_lshl C (dall tdX3_cellsOf 18 rfl) ?_
    refine r_lor C (dall tdX3_cellsOf 19 rfl) ?_
    refine r_lstore_n (lv' := [(2, .long (v.1 ||| (jshl 1 (a1_ + (tOFF ((4 * a0_) + v.2).toNatClampNeg))))), (0, .int a0_), (1, .int a1_), (4, .int v.2)]) C (dall tdX3_cellsOf 20 rfl) (by decide) rfl ?_
    refine r_iinc (v := v.2 + 1) (lv' := [(4, .int (v.2 + 1)), (2, .long (v.1 ||| (jshl 1 (a1_ + (tOFF ((4 * a0_) + v.2).toNatClampNeg))))), (0, .int a0_), (1, .int a1_)]) C 3 (dall tdX3_cellsOf 21 rfl) rfl rfl (by decide) rfl ?_
    refine r_goto (tgt := 5) C (dall tdX3_cellsOf 22 rfl) (by decide) ?_
    refine r_pick [2, 3, 1, 0] rfl ?_
    exact hk5 (v.1 ||| (jshl 1 (a1_ + (tOFF ((4 * a0_) + v.2).toNatClampNeg))), v.2 + 1) ok h
set_option maxHeartbeats 4000000 in
set_option maxRecDepth 100000 in
theorem lX3_cellsOf_5 {X : CX} {tys : List (ClassId × FieldType)} {D : va_G} {A : Nat → Prop} {res : Int64} (a0_ : Int32) (a1_ : Int32) (C : Cx X cX3_cellsOf RX3 5 D tys A 0 0 0) (hR : Rt X (some .long) D tys A 0 0 (eL ([]) res))  (n : Nat) (v : Int64 × Int32) (ok : lpOk (kX3_cellsOf_5 a0_ a1_ ) n v) (h : lp 0 (bX3_cellsOf_5 a0_ a1_ ) n v = res) : At X D A 5 0 0 5 [(0, .int a0_), (1, .int a1_), (2, .long v.1), (4, .int v.2)] [] (([] : va_W)) :=
  lp_rule (fun v rr_ => rr_ = res → At X D A 5 0 0 5 [(0, .int a0_), (1, .int a1_), (2, .long v.1), (4, .int v.2)] [] (([] : va_W))) (fun kR kO hk v ok h => wX3_cellsOf_5 a0_ a1_ C hR  kR kO hk v ok h) n v ok h
def pX3_cellsOf_0  (a0_ : Int32) (a1_ : Int32) : Int64 := lp 0 (bX3_cellsOf_5 a0_ a1_ ) fu (0, 0)
def oX3_cellsOf_0  (a0_ : Int32) (a1_ : Int32) : Prop := lpOk (kX3_cellsOf_5 a0_ a1_ ) fu (0, 0)
set_option maxHeartbeats 4000000 in
set_option maxRecDepth 100000 in
theorem wX3_cellsOf_0 {X : CX} {tys : List (ClassId × FieldType)} {D : va_G} {A : Nat → Prop} {res : Int64} (a0_ : Int32) (a1_ : Int32) (C : Cx X cX3_cellsOf RX3 5 D tys A 0 0 0) (hR : Rt X (some .long) D tys A 0 0 (eL ([]) res))  (ok : oX3_cellsOf_0  a0_ a1_) (h : pX3_cellsOf_0  a0_ a1_ = res) : At X D A 5 0 0 0 [(0, .int a0_), (1, .int a1_)] [] (([] : va_W)) := by
  unfold pX3_cellsOf_0 at h
  unfold oX3_cellsOf_0 at ok
  refine r_lconst (v := 0) C (dall tdX3_cellsOf 0 rfl) (by decide) ?_
  refine r_lstore_n (lv' := [(2, .long 0), (0, .int a0_), (1, .int a1_)]) C (dall tdX3_cellsOf 1 rfl) (by decide) rfl ?_
  refine r_iconst (v := 0) C (dall tdX3_cellsOf 2 rfl) (by decide) ?_
  refine r_istore (lv' := [(4, .int 0), (2, .long 0), (0, .int a0_), (1, .int a1_)]) C (dall tdX3_cellsOf 3 rfl) (by decide) rfl ?_
  refine r_pick [2, 3, 1, 0] rfl ?_
  exact lX3_cellsOf_5 a0_ a1_ C hR  fu _ ok h
def fX3_cellsOf (a0_ : Int32) (a1_ : Int32) : Int64 := pX3_cellsOf_0  a0_ a1_
def gX3_cellsOf (a0_ : Int32) (a1_ : Int32) : Prop := oX3_cellsOf_0  a0_ a1_
set_option maxRecDepth 100000 in
theorem zX3_cellsOf  {D : va_G} (a0_ : Int32) (a1_ : Int32) (ok : gX3_cellsOf a0_ a1_)  {tys : List (ClassId × FieldType)} : Con yX3_cellsOf cX3_cellsOf 5 (some .long) 0 0 0 D tys [.int a0_, .int a1_] ([]) (eL ([]) (fX3_cellsOf a0_ a1_)) :=
  Con.of (own := RX3) (by decide +kernel) rfl (Nat.le_of_ble_eq_true rfl) (Nat.zero_le _) (fun X A C hR _ => (wX3_cellsOf_0 a0_ a1_ C hR  ok rfl))
theorem ms_X3_cellsOf : MS_ yX3_cellsOf cX3_cellsOf 5 (some .long) 2 := ⟨ks_X3_cellsOf, kn_X3, kc_X3_cellsOf, by decide +kernel⟩
def tbX3_touching : List (Nat × Instr × Nat) := [(0, .lconst 0, 1), (1, .lstore_n 3, 1), (2, .iconst 0, 1), (3, .istore 5, 2), (5, .iload 5, 2), (7, .iconst 4, 1), (8, .if_icmp .ge 24, 3), (11, .lload_n 3, 1), (12, .lload_n 1, 1), (13, .getstatic 19, 3), (16, .iconst 4, 1), (17, .iload_n 0, 1), (18, .imul, 1), (19, .iload 5, 2), (21, .iadd, 1), (22, .iaload, 1), (23, .lushr, 1), (24, .lor, 1), (25, .lstore_n 3, 1), (26, .iinc 5 1, 3), (29, .goto (-24), 3), (32, .lload_n 3, 1), (33, .lreturn, 1)]
theorem tdX3_touching : tbX3_touching.all (fun q => decide (decode cX3_touching q.1 = .ok q.2)) = true := by decide +kernel
def bX3_touching_5 (a0_ : Int32) (a1_ : Int64)  (kR5 : Int64 × Int32 → Int64) (v : Int64 × Int32) : Int64 := if 4 ≤ v.2 then v.1 else kR5 (v.1 ||| (jushr a1_ (tOFF ((4 * a0_) + v.2).toNatClampNeg)), v.2 + 1)
def kX3_touching_5 (a0_ : Int32) (a1_ : Int64)  (kO5 : Int64 × Int32 → Prop) (v : Int64 × Int32) : Prop := (4 ≤ v.2 → True) ∧ (¬ (4 ≤ v.2) → (vp_in ((4 * a0_) + v.2) 24) ∧ (kO5 (v.1 ||| (jushr a1_ (tOFF ((4 * a0_) + v.2).toNatClampNeg)), v.2 + 1)))
set_option maxHeartbeats 4000000 in
set_option maxRecDepth 100000 in
theorem wX3_touching_5 {X : CX} {tys : List (ClassId × FieldType)} {D : va_G} {A : Nat → Prop} {res : Int64} (a0_ : Int32) (a1_ : Int64) (C : Cx X cX3_touching RX3 6 D tys A 0 0 0) (hR : Rt X (some .long) D tys A 0 0 (eL ([]) res)) (kR5 : Int64 × Int32 → Int64) (kO5 : Int64 × Int32 → Prop) (hk5 : ∀ z, kO5 z → kR5 z = res → At X D A 6 0 0 5 [(0, .int a0_), (1, .long a1_), (3, .long z.1), (5, .int z.2)] [] (([] : va_W))) (v : Int64 × Int32) (ok : kX3_touching_5 a0_ a1_ kO5 v) (h : bX3_touching_5 a0_ a1_ kR5 v = res) : At X D A 6 0 0 5 [(0, .int a0_), (1, .long a1_), (3, .long v.1), (5, .int v.2)] [] (([] : va_W)) := by
  unfold bX3_touching_5 at h
  unfold kX3_touching_5 at ok
  refine r_iload C 3 (dall tdX3_touching 4 rfl) rfl ?_
  refine r_iconst (v := 4) C (dall tdX3_touching 5 rfl) (by decide) ?_
  refine r_icmp_ge (tgt := 32) C (dall tdX3_touching 6 rfl) (by decide) (fun c1 => ?_) (fun c1 => ?_)
  · have h := (if_pos c1).symm.trans h
    have ok := ok.1 c1
    refine r_lload_n C 2 (dall tdX3_touching 21 rfl) rfl ?_
    exact r_lret C hR (dall tdX3_touching 22 rfl) (by subst h; exact ⟨rfl, rfl⟩)
  · have h := (if_neg c1).symm.trans h
    have ok := ok.2 c1
    refine r_lload_n C 2 (dall tdX3_touching 7 rfl) rfl ?_
    refine r_lload_n C 1 (dall tdX3_touching 8 rfl) rfl ?_
    refine rg_OFFSETS C kf_X3_19 (dall tdX3_touching 9 rfl) ?_
    refine r_iconst (v := 4) C (dall tdX3_touching 10 rfl) (by decide) ?_
    refine r_iload_n C 0 (dall tdX3_touching 11 rfl) rfl ?_
    refine r_imul C (dall tdX3_touching 12 rfl) ?_
    refine r_iload C 3 (dall tdX3_touching 13 rfl) rfl ?_
    refine r_iadd C (dall tdX3_touching 14 rfl) ?_
    obtain ⟨o2, ok⟩ := ok
    refine rs_OFFSETS C o2 (dall tdX3_touching 15 rfl) ?_
    refine r_lushr C (dall tdX3_touching 16 rfl) ?_
    refine r_lor C (dall tdX3_touching 17 rfl) ?_
    refine r_lstore_n (lv' := [(3, .long (v.1 ||| (jushr a1_ (tOFF ((4 * a0_) + v.2).toNatClampNeg)))), (0, .int a0_), (1, .long a1_), (5, .int v.2)]) C (dall tdX3_touching 18 rfl) (by decide) rfl ?_
    refine r_iinc (v := v.2 + 1) (lv' := [(5, .int (v.2 + 1)), (3, .long (v.1 ||| (jushr a1_ (tOFF ((4 * a0_) + v.2).toNatClampNeg)))), (0, .int a0_), (1, .long a1_)]) C 3 (dall tdX3_touching 19 rfl) rfl rfl (by decide) rfl ?_
    refine r_goto (tgt := 5) C (dall tdX3_touching 20 rfl) (by decide) ?_
    refine r_pick [2, 3, 1, 0] rfl ?_
    exact hk5 (v.1 ||| (jushr a1_ (tOFF ((4 * a0_) + v.2).toNatClampNeg)), v.2 + 1) ok h
set_option maxHeartbeats 4000000 in
set_option maxRecDepth 100000 in
theorem lX3_touching_5 {X : CX} {tys : List (ClassId × FieldType)} {D : va_G} {A : Nat → Prop} {res : Int64} (a0_ : Int32) (a1_ : Int64) (C : Cx X cX3_touching RX3 6 D tys A 0 0 0) (hR : Rt X (some .long) D tys A 0 0 (eL ([]) res))  (n : Nat) (v : Int64 × Int32) (ok : lpOk (kX3_touching_5 a0_ a1_ ) n v) (h : lp 0 (bX3_touching_5 a0_ a1_ ) n v = res) : At X D A 6 0 0 5 [(0, .int a0_), (1, .long a1_), (3, .long v.1), (5, .int v.2)] [] (([] : va_W)) :=
  lp_rule (fun v rr_ => rr_ = res → At X D A 6 0 0 5 [(0, .int a0_), (1, .long a1_), (3, .long v.1), (5, .int v.2)] [] (([] : va_W))) (fun kR kO hk v ok h => wX3_touching_5 a0_ a1_ C hR  kR kO hk v ok h) n v ok h
def pX3_touching_0  (a0_ : Int32) (a1_ : Int64) : Int64 := lp 0 (bX3_touching_5 a0_ a1_ ) fu (0, 0)
def oX3_touching_0  (a0_ : Int32) (a1_ : Int64) : Prop := lpOk (kX3_touching_5 a0_ a1_ ) fu (0, 0)
set_option maxHeartbeats 4000000 in
set_option maxRecDepth 100000 in
theorem wX3_touching_0 {X : CX} {tys : List (ClassId × FieldType)} {D : va_G} {A : Nat → Prop} {res : Int64} (a0_ : Int32) (a1_ : Int64) (C : Cx X cX3_touching RX3 6 D tys A 0 0 0) (hR : Rt X (some .long) D tys A 0 0 (eL ([]) res))  (ok : oX3_touching_0  a0_ a1_) (h : pX3_touching_0  a0_ a1_ = res) : At X D A 6 0 0 0 [(0, .int a0_), (1, .long a1_)] [] (([] : va_W)) := by
  unfold pX3_touching_0 at h
  unfold oX3_touching_0 at ok
  refine r_lconst (v := 0) C (dall tdX3_touching 0 rfl) (by decide) ?_
  refine r_lstore_n (lv' := [(3, .long 0), (0, .int a0_), (1, .long a1_)]) C (dall tdX3_touching 1 rfl) (by decide) rfl ?_
  refine r_iconst (v := 0) C (dall tdX3_touching 2 rfl) (by decide) ?_
  refine r_istore (lv' := [(5, .int 0), (3, .long 0), (0, .int a0_), (1, .long a1_)]) C (dall tdX3_touching 3 rfl) (by decide) rfl ?_
  refine r_pick [2, 3, 1, 0] rfl ?_
  exact lX3_touching_5 a0_ a1_ C hR  fu _ ok h
def fX3_touching (a0_ : Int32) (a1_ : Int64) : Int64 := pX3_touching_0  a0_ a1_
def gX3_touching (a0_ : Int32) (a1_ : Int64) : Prop := oX3_touching_0  a0_ a1_
set_option maxRecDepth 100000 in
theorem zX3_touching  {D : va_G} (a0_ : Int32) (a1_ : Int64) (ok : gX3_touching a0_ a1_)  {tys : List (ClassId × FieldType)} : Con yX3_touching cX3_touching 6 (some .long) 0 0 0 D tys [.int a0_, .long a1_] ([]) (eL ([]) (fX3_touching a0_ a1_)) :=
  Con.of (own := RX3) (by decide +kernel) rfl (Nat.le_of_ble_eq_true rfl) (Nat.zero_le _) (fun X A C hR _ => (wX3_touching_0 a0_ a1_ C hR  ok rfl))
theorem ms_X3_touching : MS_ yX3_touching cX3_touching 6 (some .long) 2 := ⟨ks_X3_touching, kn_X3, kc_X3_touching, by decide +kernel⟩
def tbX3_places : List (Nat × Instr × Nat) := [(0, .getstatic 23, 3), (3, .iload_n 0, 1), (4, .laload, 1), (5, .iload_n 0, 1), (6, .lload_n 1, 1), (7, .invokestatic 15, 3), (10, .invokestatic 27, 3), (13, .land, 1), (14, .iload_n 0, 1), (15, .lload_n 1, 1), (16, .invokestatic 27, 3), (19, .ldc2_w 31, 3), (22, .lxor, 1), (23, .land, 1), (24, .lreturn, 1)]
theorem tdX3_places : tbX3_places.all (fun q => decide (decode cX3_places q.1 = .ok q.2)) = true := by decide +kernel
def pX3_places_0  (a0_ : Int32) (a1_ : Int64) : Int64 := ((tWALL a0_.toNatClampNeg) &&& (fX3_touching a0_ (fX3_beside a1_))) &&& ((fX3_touching a0_ a1_) ^^^ (-1))
def oX3_places_0  (a0_ : Int32) (a1_ : Int64) : Prop := (vp_in a0_ 6) ∧ ((gX3_touching a0_ (fX3_beside a1_)) ∧ (gX3_touching a0_ a1_))
set_option maxHeartbeats 4000000 in
set_option maxRecDepth 100000 in
theorem wX3_places_0 {X : CX} {tys : List (ClassId × FieldType)} {D : va_G} {A : Nat → Prop} {res : Int64} (a0_ : Int32) (a1_ : Int64) (C : Cx X cX3_places RX3 3 D tys A 1 0 0) (hR : Rt X (some .long) D tys A 0 0 (eL ([]) res))  (ok : oX3_places_0  a0_ a1_) (h : pX3_places_0  a0_ a1_ = res) : At X D A 3 0 0 0 [(0, .int a0_), (1, .long a1_)] [] (([] : va_W)) := by
  unfold pX3_places_0 at h
  unfold oX3_places_0 at ok
  refine rg_ON_WALL C kf_X3_23 (dall tdX3_places 0 rfl) ?_
  refine r_iload_n C 0 (dall tdX3_places 1 rfl) rfl ?_
  obtain ⟨o1, ok⟩ := ok
  refine rs_ON_WALL C o1 (dall tdX3_places 2 rfl) ?_
  refine r_iload_n C 0 (dall tdX3_places 3 rfl) rfl ?_
  refine r_lload_n C 1 (dall tdX3_places 4 rfl) rfl ?_
  refine r_s0L (as := [.long a1_]) C (zX3_beside a1_ ) ms_X3_beside km_X3_15 (by decide) (by decide) ⟨Nat.le_refl _, Nat.le_refl _⟩ rfl rfl (Nat.le_of_ble_eq_true rfl) (dall tdX3_places 5 rfl) ?_
  obtain ⟨o2, ok⟩ := ok
  refine r_s0L (as := [.int a0_, .long (fX3_beside a1_)]) C (zX3_touching a0_ (fX3_beside a1_) o2) ms_X3_touching km_X3_27 (by decide) (by decide) ⟨Nat.le_refl _, Nat.le_refl _⟩ rfl rfl (Nat.le_of_ble_eq_true rfl) (dall tdX3_places 6 rfl) ?_
  refine r_land C (dall tdX3_places 7 rfl) ?_
  refine r_iload_n C 0 (dall tdX3_places 8 rfl) rfl ?_
  refine r_lload_n C 1 (dall tdX3_places 9 rfl) rfl ?_
  have o3 := ok
  refine r_s0L (as := [.int a0_, .long a1_]) C (zX3_touching a0_ a1_ o3) ms_X3_touching km_X3_27 (by decide) (by decide) ⟨Nat.le_refl _, Nat.le_refl _⟩ rfl rfl (Nat.le_of_ble_eq_true rfl) (dall tdX3_places 10 rfl) ?_
  refine r_ldc2 C kk_X3_31 (dall tdX3_places 11 rfl) ?_
  refine r_lxor C (dall tdX3_places 12 rfl) ?_
  refine r_land C (dall tdX3_places 13 rfl) ?_
  exact r_lret C hR (dall tdX3_places 14 rfl) (by subst h; exact ⟨rfl, rfl⟩)
def fX3_places (a0_ : Int32) (a1_ : Int64) : Int64 := pX3_places_0  a0_ a1_
def gX3_places (a0_ : Int32) (a1_ : Int64) : Prop := oX3_places_0  a0_ a1_
set_option maxRecDepth 100000 in
theorem zX3_places  {D : va_G} (a0_ : Int32) (a1_ : Int64) (ok : gX3_places a0_ a1_)  {tys : List (ClassId × FieldType)} : Con yX3_places cX3_places 3 (some .long) 1 0 0 D tys [.int a0_, .long a1_] ([]) (eL ([]) (fX3_places a0_ a1_)) :=
  Con.of (own := RX3) (by decide +kernel) rfl (Nat.le_of_ble_eq_true rfl) (Nat.zero_le _) (fun X A C hR _ => (wX3_places_0 a0_ a1_ C hR  ok rfl))
theorem ms_X3_places : MS_ yX3_places cX3_places 3 (some .long) 2 := ⟨ks_X3_places, kn_X3, kc_X3_places, by decide +kernel⟩
def tbX3_reachedByOne : List (Nat × Instr × Nat) := [(0, .iconst 0, 1), (1, .istore_n 3, 1), (2, .iload_n 3, 1), (3, .getstatic 19, 3), (6, .arraylength, 1), (7, .if_icmp .ge 40, 3), (10, .iload_n 2, 1), (11, .getstatic 19, 3), (14, .iload_n 3, 1), (15, .iaload, 1), (16, .isub, 1), (17, .istore 4, 2), (19, .iload 4, 2), (21, .ifCond .lt 20, 3), (24, .iload_n 3, 1), (25, .iconst 4, 1), (26, .idiv, 1), (27, .lload_n 0, 1), (28, .invokestatic 33, 3), (31, .iload 4, 2), (33, .invokestatic 36, 3), (36, .ifCond .eq 5, 3), (39, .iconst 1, 1), (40, .ireturn, 1), (41, .iinc 3 1, 3), (44, .goto (-42), 3), (47, .iconst 0, 1), (48, .ireturn, 1)]
theorem tdX3_reachedByOne : tbX3_reachedByOne.all (fun q => decide (decode cX3_reachedByOne q.1 = .ok q.2)) = true := by decide +kernel
def pX3_reachedByOne_41 (kR2 : Int32 → Int32) (a0_ : Int64) (a2_ : Int32) (a3_ : Int32) : Int32 := kR2 (a3_ + 1)
def oX3_reachedByOne_41 (kO2 : Int32 → Prop) (a0_ : Int64) (a2_ : Int32) (a3_ : Int32) : Prop := kO2 (a3_ + 1)
set_option maxHeartbeats 4000000 in
set_option maxRecDepth 100000 in
theorem wX3_reachedByOne_41 {X : CX} {tys : List (ClassId × FieldType)} {D : va_G} {A : Nat → Prop} {res : Int32} (a0_ : Int64) (a2_ : Int32) (a3_ : Int32) (C : Cx X cX3_reachedByOne RX3 5 D tys A 2 0 0) (hR : Rt X (some .boolean) D tys A 0 0 (eI ([]) res)) (kR2 : Int32 → Int32) (kO2 : Int32 → Prop) (hk2 : ∀ z, kO2 z → kR2 z = res → At X D A 5 0 0 2 [(0, .long a0_), (2, .int a2_), (3, .int z)] [] (([] : va_W))) (ok : oX3_reachedByOne_41 kO2 a0_ a2_ a3_) (h : pX3_reachedByOne_41 kR2 a0_ a2_ a3_ = res) : At X D A 5 0 0 41 [(0, .long a0_), (2, .int a2_), (3, .int a3_)] [] (([] : va_W)) := by
  unfold pX3_reachedByOne_41 at h
  unfold oX3_reachedByOne_41 at ok
  refine r_iinc (v := a3_ + 1) (lv' := [(3, .int (a3_ + 1)), (0, .long a0_), (2, .int a2_)]) C 2 (dall tdX3_reachedByOne 24 rfl) rfl rfl (by decide) rfl ?_
  refine r_goto (tgt := 2) C (dall tdX3_reachedByOne 25 rfl) (by decide) ?_
  refine r_pick [1, 2, 0] rfl ?_
  exact hk2 (a3_ + 1) ok h
def bX3_reachedByOne_2 (a0_ : Int64) (a2_ : Int32)  (kR2 : Int32 → Int32) (v : Int32) : Int32 := if 24 ≤ v then 0 else if (a2_ - (tOFF v.toNatClampNeg)) < 0 then pX3_reachedByOne_41 kR2 a0_ a2_ v else if (fX3_has (fX3_places (v / 4) a0_) (a2_ - (tOFF v.toNatClampNeg))) = 0 then pX3_reachedByOne_41 kR2 a0_ a2_ v else 1
def kX3_reachedByOne_2 (a0_ : Int64) (a2_ : Int32)  (kO2 : Int32 → Prop) (v : Int32) : Prop := (24 ≤ v → True) ∧ (¬ (24 ≤ v) → (vp_in v 24) ∧ (((a2_ - (tOFF v.toNatClampNeg)) < 0 → oX3_reachedByOne_41 kO2 a0_ a2_ v) ∧ (¬ ((a2_ - (tOFF v.toNatClampNeg)) < 0) → (gX3_places (v / 4) a0_) ∧ (((fX3_has (fX3_places (v / 4) a0_) (a2_ - (tOFF v.toNatClampNeg))) = 0 → oX3_reachedByOne_41 kO2 a0_ a2_ v) ∧ (¬ ((fX3_has (fX3_places (v / 4) a0_) (a2_ - (tOFF v.toNatClampNeg))) = 0) → True)))))
set_option maxHeartbeats 4000000 in
set_option maxRecDepth 100000 in
theorem wX3_reachedByOne_2 {X : CX} {tys : List (ClassId × FieldType)} {D : va_G} {A : Nat → Prop} {res : Int32} (a0_ : Int64) (a2_ : Int32) (C : Cx X cX3_reachedByOne RX3 5 D tys A 2 0 0) (hR : Rt X (some .boolean) D tys A 0 0 (eI ([]) res)) (kR2 : Int32 → Int32) (kO2 : Int32 → Prop) (hk2 : ∀ z, kO2 z → kR2 z = res → At X D A 5 0 0 2 [(0, .long a0_), (2, .int a2_), (3, .int z)] [] (([] : va_W))) (v : Int32) (ok : kX3_reachedByOne_2 a0_ a2_ kO2 v) (h : bX3_reachedByOne_2 a0_ a2_ kR2 v = res) : At X D A 5 0 0 2 [(0, .long a0_), (2, .int a2_), (3, .int v)] [] (([] : va_W)) := by
  unfold bX3_reachedByOne_2 at h
  unfold kX3_reachedByOne_2 at ok
  refine r_iload_n C 2 (dall tdX3_reachedByOne 2 rfl) rfl ?_
  refine rg_OFFSETS C kf_X3_19 (dall tdX3_reachedByOne 3 rfl) ?_
  refine rl_OFFSETS C (dall tdX3_reachedByOne 4 rfl) ?_
  refine r_icmp_ge (tgt := 47) C (dall tdX3_reachedByOne 5 rfl) (by decide) (fun c1 => ?_) (fun c1 => ?_)
  · have h := (if_pos c1).symm.trans h
    have ok := ok.1 c1
    refine r_iconst (v := 0) C (dall tdX3_reachedByOne 26 rfl) (by decide) ?_
    exact r_zret C (by decide) hR (dall tdX3_reachedByOne 27 rfl) (by subst h; exact ⟨rfl, rfl⟩)
  · have h := (if_neg c1).symm.trans h
    have ok := ok.2 c1
    refine r_iload_n C 1 (dall tdX3_reachedByOne 6 rfl) rfl ?_
    refine rg_OFFSETS C kf_X3_19 (dall tdX3_reachedByOne 7 rfl) ?_
    refine r_iload_n C 2 (dall tdX3_reachedByOne 8 rfl) rfl ?_
    obtain ⟨o2, ok⟩ := ok
    refine rs_OFFSETS C o2 (dall tdX3_reachedByOne 9 rfl) ?_
    refine r_isub C (dall tdX3_reachedByOne 10 rfl) ?_
    refine r_istore (lv' := [(4, .int (a2_ - (tOFF v.toNatClampNeg))), (0, .long a0_), (2, .int a2_), (3, .int v)]) C (dall tdX3_reachedByOne 11 rfl) (by decide) rfl ?_
    refine r_iload C 0 (dall tdX3_reachedByOne 12 rfl) rfl ?_
    refine r_if_lt (tgt := 41) C (dall tdX3_reachedByOne 13 rfl) (by decide) (fun c3 => ?_) (fun c3 => ?_)
    · have h := (if_pos c3).symm.trans h
      have ok := ok.1 c3
      refine r_pick [1, 2, 3] rfl ?_
      exact wX3_reachedByOne_41 a0_ a2_ v C hR kR2 kO2 hk2 ok h
    · have h := (if_neg c3).symm.trans h
      have ok := ok.2 c3
      refine r_iload_n C 3 (dall tdX3_reachedByOne 14 rfl) rfl ?_
      refine r_iconst (v := 4) C (dall tdX3_reachedByOne 15 rfl) (by decide) ?_
      refine r_idiv C (dall tdX3_reachedByOne 16 rfl) (by decide) ?_
      refine r_lload_n C 1 (dall tdX3_reachedByOne 17 rfl) rfl ?_
      obtain ⟨o4, ok⟩ := ok
      refine r_s0L (as := [.int (v / 4), .long a0_]) C (zX3_places (v / 4) a0_ o4) ms_X3_places km_X3_33 (by decide) (by decide) ⟨Nat.le_refl _, Nat.le_refl _⟩ rfl rfl (Nat.le_of_ble_eq_true rfl) (dall tdX3_reachedByOne 18 rfl) ?_
      refine r_iload C 0 (dall tdX3_reachedByOne 19 rfl) rfl ?_
      refine r_s0I (as := [.long (fX3_places (v / 4) a0_), .int (a2_ - (tOFF v.toNatClampNeg))]) C (zX3_has (fX3_places (v / 4) a0_) (a2_ - (tOFF v.toNatClampNeg)) ) ms_X3_has km_X3_36 (by decide) (by decide) ⟨Nat.le_refl _, Nat.le_refl _⟩ rfl rfl (Nat.le_of_ble_eq_true rfl) (dall tdX3_reachedByOne 20 rfl) ?_
      refine r_if_eq (tgt := 41) C (dall tdX3_reachedByOne 21 rfl) (by decide) (fun c5 => ?_) (fun c5 => ?_)
      · have h := (if_pos c5).symm.trans h
        have ok := ok.1 c5
        refine r_pick [1, 2, 3] rfl ?_
        exact wX3_reachedByOne_41 a0_ a2_ v C hR kR2 kO2 hk2 ok h
      · have h := (if_neg c5).symm.trans h
        have ok := ok.2 c5
        refine r_iconst (v := 1) C (dall tdX3_reachedByOne 22 rfl) (by decide) ?_
        exact r_zret C (by decide) hR (dall tdX3_reachedByOne 23 rfl) (by subst h; exact ⟨rfl, rfl⟩)
set_option maxHeartbeats 4000000 in
set_option maxRecDepth 100000 in
theorem lX3_reachedByOne_2 {X : CX} {tys : List (ClassId × FieldType)} {D : va_G} {A : Nat → Prop} {res : Int32} (a0_ : Int64) (a2_ : Int32) (C : Cx X cX3_reachedByOne RX3 5 D tys A 2 0 0) (hR : Rt X (some .boolean) D tys A 0 0 (eI ([]) res))  (n : Nat) (v : Int32) (ok : lpOk (kX3_reachedByOne_2 a0_ a2_ ) n v) (h : lp 0 (bX3_reachedByOne_2 a0_ a2_ ) n v = res) : At X D A 5 0 0 2 [(0, .long a0_), (2, .int a2_), (3, .int v)] [] (([] : va_W)) :=
  lp_rule (fun v rr_ => rr_ = res → At X D A 5 0 0 2 [(0, .long a0_), (2, .int a2_), (3, .int v)] [] (([] : va_W))) (fun kR kO hk v ok h => wX3_reachedByOne_2 a0_ a2_ C hR  kR kO hk v ok h) n v ok h
def pX3_reachedByOne_0  (a0_ : Int64) (a2_ : Int32) : Int32 := lp 0 (bX3_reachedByOne_2 a0_ a2_ ) fu 0
def oX3_reachedByOne_0  (a0_ : Int64) (a2_ : Int32) : Prop := lpOk (kX3_reachedByOne_2 a0_ a2_ ) fu 0
set_option maxHeartbeats 4000000 in
set_option maxRecDepth 100000 in
theorem wX3_reachedByOne_0 {X : CX} {tys : List (ClassId × FieldType)} {D : va_G} {A : Nat → Prop} {res : Int32} (a0_ : Int64) (a2_ : Int32) (C : Cx X cX3_reachedByOne RX3 5 D tys A 2 0 0) (hR : Rt X (some .boolean) D tys A 0 0 (eI ([]) res))  (ok : oX3_reachedByOne_0  a0_ a2_) (h : pX3_reachedByOne_0  a0_ a2_ = res) : At X D A 5 0 0 0 [(0, .long a0_), (2, .int a2_)] [] (([] : va_W)) := by
  unfold pX3_reachedByOne_0 at h
  unfold oX3_reachedByOne_0 at ok
  refine r_iconst (v := 0) C (dall tdX3_reachedByOne 0 rfl) (by decide) ?_
  refine r_istore_n (lv' := [(3, .int 0), (0, .long a0_), (2, .int a2_)]) C (dall tdX3_reachedByOne 1 rfl) (by decide) rfl ?_
  refine r_pick [1, 2, 0] rfl ?_
  exact lX3_reachedByOne_2 a0_ a2_ C hR  fu _ ok h
def fX3_reachedByOne (a0_ : Int64) (a2_ : Int32) : Int32 := pX3_reachedByOne_0  a0_ a2_
def gX3_reachedByOne (a0_ : Int64) (a2_ : Int32) : Prop := oX3_reachedByOne_0  a0_ a2_
set_option maxRecDepth 100000 in
theorem zX3_reachedByOne  {D : va_G} (a0_ : Int64) (a2_ : Int32) (ok : gX3_reachedByOne a0_ a2_)  {tys : List (ClassId × FieldType)} : Con yX3_reachedByOne cX3_reachedByOne 5 (some .boolean) 2 0 0 D tys [.long a0_, .int a2_] ([]) (eI ([]) (fX3_reachedByOne a0_ a2_)) :=
  Con.of (own := RX3) (by decide +kernel) rfl (Nat.le_of_ble_eq_true rfl) (Nat.zero_le _) (fun X A C hR _ => (wX3_reachedByOne_0 a0_ a2_ C hR  ok rfl))
theorem ms_X3_reachedByOne : MS_ yX3_reachedByOne cX3_reachedByOne 5 (some .boolean) 2 := ⟨ks_X3_reachedByOne, kn_X3, kc_X3_reachedByOne, by decide +kernel⟩
def tbX3_isMadeRoom : List (Nat × Instr × Nat) := [(0, .lload_n 2, 1), (1, .lload_n 0, 1), (2, .land, 1), (3, .lconst 0, 1), (4, .lcmp, 1), (5, .ifCond .eq 5, 3), (8, .iconst 0, 1), (9, .ireturn, 1), (10, .lload_n 2, 1), (11, .invokestatic 15, 3), (14, .lstore 4, 2), (16, .iconst 0, 1), (17, .istore 6, 2), (19, .iload 6, 2), (21, .bipush 6, 2), (23, .if_icmp .ge 41, 3), (26, .iload 6, 2), (28, .lload_n 0, 1), (29, .invokestatic 33, 3), (32, .iload 6, 2), (34, .lload 4, 2), (36, .invokestatic 27, 3), (39, .land, 1), (40, .iload 6, 2), (42, .lload_n 2, 1), (43, .invokestatic 27, 3), (46, .ldc2_w 31, 3), (49, .lxor, 1), (50, .land, 1), (51, .lconst 0, 1), (52, .lcmp, 1), (53, .ifCond .eq 5, 3), (56, .iconst 1, 1), (57, .ireturn, 1), (58, .iinc 6 1, 3), (61, .goto (-42), 3), (64, .iconst 0, 1), (65, .ireturn, 1)]
theorem tdX3_isMadeRoom : tbX3_isMadeRoom.all (fun q => decide (decode cX3_isMadeRoom q.1 = .ok q.2)) = true := by decide +kernel
def bX3_isMadeRoom_19 (a0_ : Int64) (a2_ : Int64) (a4_ : Int64)  (kR19 : Int32 → Int32) (v : Int32) : Int32 := if 6 ≤ v then 0 else if (((fX3_places v a0_) &&& (fX3_touching v a4_)) &&& ((fX3_touching v a2_) ^^^ (-1))) = 0 then kR19 (v + 1) else 1
def kX3_isMadeRoom_19 (a0_ : Int64) (a2_ : Int64) (a4_ : Int64)  (kO19 : Int32 → Prop) (v : Int32) : Prop := (6 ≤ v → True) ∧ (¬ (6 ≤ v) → (gX3_places v a0_) ∧ ((gX3_touching v a4_) ∧ ((gX3_touching v a2_) ∧ (((((fX3_places v a0_) &&& (fX3_touching v a4_)) &&& ((fX3_touching v a2_) ^^^ (-1))) = 0 → kO19 (v + 1)) ∧ (¬ ((((fX3_places v a0_) &&& (fX3_touching v a4_)) &&& ((fX3_touching v a2_) ^^^ (-1))) = 0) → True)))))
set_option maxHeartbeats 4000000 in
set_option maxRecDepth 100000 in
theorem wX3_isMadeRoom_19 {X : CX} {tys : List (ClassId × FieldType)} {D : va_G} {A : Nat → Prop} {res : Int32} (a0_ : Int64) (a2_ : Int64) (a4_ : Int64) (C : Cx X cX3_isMadeRoom RX3 7 D tys A 2 0 0) (hR : Rt X (some .boolean) D tys A 0 0 (eI ([]) res)) (kR19 : Int32 → Int32) (kO19 : Int32 → Prop) (hk19 : ∀ z, kO19 z → kR19 z = res → At X D A 7 0 0 19 [(0, .long a0_), (2, .long a2_), (4, .long a4_), (6, .int z)] [] (([] : va_W))) (v : Int32) (ok : kX3_isMadeRoom_19 a0_ a2_ a4_ kO19 v) (h : bX3_isMadeRoom_19 a0_ a2_ a4_ kR19 v = res) : At X D A 7 0 0 19 [(0, .long a0_), (2, .long a2_), (4, .long a4_), (6, .int v)] [] (([] : va_W)) := by
  unfold bX3_isMadeRoom_19 at h
  unfold kX3_isMadeRoom_19 at ok
  refine r_iload C 3 (dall tdX3_isMadeRoom 13 rfl) rfl ?_
  refine r_bipush (v := 6) C (dall tdX3_isMadeRoom 14 rfl) (by decide) ?_
  refine r_icmp_ge (tgt := 64) C (dall tdX3_isMadeRoom 15 rfl) (by decide) (fun c1 => ?_) (fun c1 => ?_)
  · have h := (if_pos c1).symm.trans h
    have ok := ok.1 c1
    refine r_iconst (v := 0) C (dall tdX3_isMadeRoom 36 rfl) (by decide) ?_
    exact r_zret C (by decide) hR (dall tdX3_isMadeRoom 37 rfl) (by subst h; exact ⟨rfl, rfl⟩)
  · have h := (if_neg c1).symm.trans h
    have ok := ok.2 c1
    refine r_iload C 3 (dall tdX3_isMadeRoom 16 rfl) rfl ?_
    refine r_lload_n C 0 (dall tdX3_isMadeRoom 17 rfl) rfl ?_
    obtain ⟨o2, ok⟩ := ok
    refine r_s0L (as := [.int v, .long a0_]) C (zX3_places v a0_ o2) ms_X3_places km_X3_33 (by decide) (by decide) ⟨Nat.le_refl _, Nat.le_refl _⟩ rfl rfl (Nat.le_of_ble_eq_true rfl) (dall tdX3_isMadeRoom 18 rfl) ?_
    refine r_iload C 3 (dall tdX3_isMadeRoom 19 rfl) rfl ?_
    refine r_lload C 2 (dall tdX3_isMadeRoom 20 rfl) rfl ?_
    obtain ⟨o3, ok⟩ := ok
    refine r_s0L (as := [.int v, .long a4_]) C (zX3_touching v a4_ o3) ms_X3_touching km_X3_27 (by decide) (by decide) ⟨Nat.le_refl _, Nat.le_refl _⟩ rfl rfl (Nat.le_of_ble_eq_true rfl) (dall tdX3_isMadeRoom 21 rfl) ?_
    refine r_land C (dall tdX3_isMadeRoom 22 rfl) ?_
    refine r_iload C 3 (dall tdX3_isMadeRoom 23 rfl) rfl ?_
    refine r_lload_n C 1 (dall tdX3_isMadeRoom 24 rfl) rfl ?_
    obtain ⟨o4, ok⟩ := ok
    refine r_s0L (as := [.int v, .long a2_]) C (zX3_touching v a2_ o4) ms_X3_touching km_X3_27 (by decide) (by decide) ⟨Nat.le_refl _, Nat.le_refl _⟩ rfl rfl (Nat.le_of_ble_eq_true rfl) (dall tdX3_isMadeRoom 25 rfl) ?_
    refine r_ldc2 C kk_X3_31 (dall tdX3_isMadeRoom 26 rfl) ?_
    refine r_lxor C (dall tdX3_isMadeRoom 27 rfl) ?_
    refine r_land C (dall tdX3_isMadeRoom 28 rfl) ?_
    refine r_lconst (v := 0) C (dall tdX3_isMadeRoom 29 rfl) (by decide) ?_
    refine r_lif_eq (tgt := 58) C (dall tdX3_isMadeRoom 30 rfl) (dall tdX3_isMadeRoom 31 rfl) (by decide) (fun c5 => ?_) (fun c5 => ?_)
    · have h := (if_pos c5).symm.trans h
      have ok := ok.1 c5
      refine r_iinc (v := v + 1) (lv' := [(6, .int (v + 1)), (0, .long a0_), (2, .long a2_), (4, .long a4_)]) C 3 (dall tdX3_isMadeRoom 34 rfl) rfl rfl (by decide) rfl ?_
      refine r_goto (tgt := 19) C (dall tdX3_isMadeRoom 35 rfl) (by decide) ?_
      refine r_pick [1, 2, 3, 0] rfl ?_
      exact hk19 (v + 1) ok h
    · have h := (if_neg c5).symm.trans h
      have ok := ok.2 c5
      refine r_iconst (v := 1) C (dall tdX3_isMadeRoom 32 rfl) (by decide) ?_
      exact r_zret C (by decide) hR (dall tdX3_isMadeRoom 33 rfl) (by subst h; exact ⟨rfl, rfl⟩)
set_option maxHeartbeats 4000000 in
set_option maxRecDepth 100000 in
theorem lX3_isMadeRoom_19 {X : CX} {tys : List (ClassId × FieldType)} {D : va_G} {A : Nat → Prop} {res : Int32} (a0_ : Int64) (a2_ : Int64) (a4_ : Int64) (C : Cx X cX3_isMadeRoom RX3 7 D tys A 2 0 0) (hR : Rt X (some .boolean) D tys A 0 0 (eI ([]) res))  (n : Nat) (v : Int32) (ok : lpOk (kX3_isMadeRoom_19 a0_ a2_ a4_ ) n v) (h : lp 0 (bX3_isMadeRoom_19 a0_ a2_ a4_ ) n v = res) : At X D A 7 0 0 19 [(0, .long a0_), (2, .long a2_), (4, .long a4_), (6, .int v)] [] (([] : va_W)) :=
  lp_rule (fun v rr_ => rr_ = res → At X D A 7 0 0 19 [(0, .long a0_), (2, .long a2_), (4, .long a4_), (6, .int v)] [] (([] : va_W))) (fun kR kO hk v ok h => wX3_isMadeRoom_19 a0_ a2_ a4_ C hR  kR kO hk v ok h) n v ok h
def pX3_isMadeRoom_0  (a0_ : Int64) (a2_ : Int64) : Int32 := if (a2_ &&& a0_) = 0 then lp 0 (bX3_isMadeRoom_19 a0_ a2_ (fX3_beside a2_) ) fu 0 else 0
def oX3_isMadeRoom_0  (a0_ : Int64) (a2_ : Int64) : Prop := ((a2_ &&& a0_) = 0 → lpOk (kX3_isMadeRoom_19 a0_ a2_ (fX3_beside a2_) ) fu 0) ∧ (¬ ((a2_ &&& a0_) = 0) → True)
set_option maxHeartbeats 4000000 in
set_option maxRecDepth 100000 in
theorem wX3_isMadeRoom_0 {X : CX} {tys : List (ClassId × FieldType)} {D : va_G} {A : Nat → Prop} {res : Int32} (a0_ : Int64) (a2_ : Int64) (C : Cx X cX3_isMadeRoom RX3 7 D tys A 2 0 0) (hR : Rt X (some .boolean) D tys A 0 0 (eI ([]) res))  (ok : oX3_isMadeRoom_0  a0_ a2_) (h : pX3_isMadeRoom_0  a0_ a2_ = res) : At X D A 7 0 0 0 [(0, .long a0_), (2, .long a2_)] [] (([] : va_W)) := by
  unfold pX3_isMadeRoom_0 at h
  unfold oX3_isMadeRoom_0 at ok
  refine r_lload_n C 1 (dall tdX3_isMadeRoom 0 rfl) rfl ?_
  refine r_lload_n C 0 (dall tdX3_isMadeRoom 1 rfl) rfl ?_
  refine r_land C (dall tdX3_isMadeRoom 2 rfl) ?_
  refine r_lconst (v := 0) C (dall tdX3_isMadeRoom 3 rfl) (by decide) ?_
  refine r_lif_eq (tgt := 10) C (dall tdX3_isMadeRoom 4 rfl) (dall tdX3_isMadeRoom 5 rfl) (by decide) (fun c6 => ?_) (fun c6 => ?_)
  · have h := (if_pos c6).symm.trans h
    have ok := ok.1 c6
    refine r_lload_n C 1 (dall tdX3_isMadeRoom 8 rfl) rfl ?_
    refine r_s0L (as := [.long a2_]) C (zX3_beside a2_ ) ms_X3_beside km_X3_15 (by decide) (by decide) ⟨Nat.le_refl _, Nat.le_refl _⟩ rfl rfl (Nat.le_of_ble_eq_true rfl) (dall tdX3_isMadeRoom 9 rfl) ?_
    refine r_lstore (lv' := [(4, .long (fX3_beside a2_)), (0, .long a0_), (2, .long a2_)]) C (dall tdX3_isMadeRoom 10 rfl) (by decide) rfl ?_
    refine r_iconst (v := 0) C (dall tdX3_isMadeRoom 11 rfl) (by decide) ?_
    refine r_istore (lv' := [(6, .int 0), (4, .long (fX3_beside a2_)), (0, .long a0_), (2, .long a2_)]) C (dall tdX3_isMadeRoom 12 rfl) (by decide) rfl ?_
    refine r_pick [2, 3, 1, 0] rfl ?_
    exact lX3_isMadeRoom_19 a0_ a2_ (fX3_beside a2_) C hR  fu _ ok h
  · have h := (if_neg c6).symm.trans h
    have ok := ok.2 c6
    refine r_iconst (v := 0) C (dall tdX3_isMadeRoom 6 rfl) (by decide) ?_
    exact r_zret C (by decide) hR (dall tdX3_isMadeRoom 7 rfl) (by subst h; exact ⟨rfl, rfl⟩)
def fX3_isMadeRoom (a0_ : Int64) (a2_ : Int64) : Int32 := pX3_isMadeRoom_0  a0_ a2_
def gX3_isMadeRoom (a0_ : Int64) (a2_ : Int64) : Prop := oX3_isMadeRoom_0  a0_ a2_
set_option maxRecDepth 100000 in
theorem zX3_isMadeRoom  {D : va_G} (a0_ : Int64) (a2_ : Int64) (ok : gX3_isMadeRoom a0_ a2_)  {tys : List (ClassId × FieldType)} : Con yX3_isMadeRoom cX3_isMadeRoom 7 (some .boolean) 2 0 0 D tys [.long a0_, .long a2_] ([]) (eI ([]) (fX3_isMadeRoom a0_ a2_)) :=
  Con.of (own := RX3) (by decide +kernel) rfl (Nat.le_of_ble_eq_true rfl) (Nat.zero_le _) (fun X A C hR _ => (wX3_isMadeRoom_0 a0_ a2_ C hR  ok rfl))
theorem ms_X3_isMadeRoom : MS_ yX3_isMadeRoom cX3_isMadeRoom 7 (some .boolean) 2 := ⟨ks_X3_isMadeRoom, kn_X3, kc_X3_isMadeRoom, by decide +kernel⟩
def tbX3_reachedByTwo : List (Nat × Instr × Nat) := [(0, .iconst 0, 1), (1, .istore_n 3, 1), (2, .iload_n 3, 1), (3, .getstatic 19, 3), (6, .arraylength, 1), (7, .if_icmp .ge 58, 3), (10, .iload_n 3, 1), (11, .iconst 4, 1), (12, .idiv, 1), (13, .istore 4, 2), (15, .iload_n 2, 1), (16, .getstatic 19, 3), (19, .iload_n 3, 1), (20, .iaload, 1), (21, .isub, 1), (22, .istore 5, 2), (24, .iload 5, 2), (26, .ifCond .lt 33, 3), (29, .getstatic 23, 3), (32, .iload 4, 2), (34, .laload, 1), (35, .iload 5, 2), (37, .invokestatic 36, 3), (40, .ifCond .eq 19, 3), (43, .lload_n 0, 1), (44, .iload 4, 2), (46, .iload 5, 2), (48, .invokestatic 40, 3), (51, .invokestatic 44, 3), (54, .ifCond .eq 5, 3), (57, .iconst 1, 1), (58, .ireturn, 1), (59, .iinc 3 1, 3), (62, .goto (-60), 3), (65, .iconst 0, 1), (66, .ireturn, 1)]
theorem tdX3_reachedByTwo : tbX3_reachedByTwo.all (fun q => decide (decode cX3_reachedByTwo q.1 = .ok q.2)) = true := by decide +kernel
def pX3_reachedByTwo_59 (kR2 : Int32 → Int32) (a0_ : Int64) (a2_ : Int32) (a3_ : Int32) : Int32 := kR2 (a3_ + 1)
def oX3_reachedByTwo_59 (kO2 : Int32 → Prop) (a0_ : Int64) (a2_ : Int32) (a3_ : Int32) : Prop := kO2 (a3_ + 1)
set_option maxHeartbeats 4000000 in
set_option maxRecDepth 100000 in
theorem wX3_reachedByTwo_59 {X : CX} {tys : List (ClassId × FieldType)} {D : va_G} {A : Nat → Prop} {res : Int32} (a0_ : Int64) (a2_ : Int32) (a3_ : Int32) (C : Cx X cX3_reachedByTwo RX3 6 D tys A 3 0 0) (hR : Rt X (some .boolean) D tys A 0 0 (eI ([]) res)) (kR2 : Int32 → Int32) (kO2 : Int32 → Prop) (hk2 : ∀ z, kO2 z → kR2 z = res → At X D A 6 0 0 2 [(0, .long a0_), (2, .int a2_), (3, .int z)] [] (([] : va_W))) (ok : oX3_reachedByTwo_59 kO2 a0_ a2_ a3_) (h : pX3_reachedByTwo_59 kR2 a0_ a2_ a3_ = res) : At X D A 6 0 0 59 [(0, .long a0_), (2, .int a2_), (3, .int a3_)] [] (([] : va_W)) := by
  unfold pX3_reachedByTwo_59 at h
  unfold oX3_reachedByTwo_59 at ok
  refine r_iinc (v := a3_ + 1) (lv' := [(3, .int (a3_ + 1)), (0, .long a0_), (2, .int a2_)]) C 2 (dall tdX3_reachedByTwo 32 rfl) rfl rfl (by decide) rfl ?_
  refine r_goto (tgt := 2) C (dall tdX3_reachedByTwo 33 rfl) (by decide) ?_
  refine r_pick [1, 2, 0] rfl ?_
  exact hk2 (a3_ + 1) ok h
def bX3_reachedByTwo_2 (a0_ : Int64) (a2_ : Int32)  (kR2 : Int32 → Int32) (v : Int32) : Int32 := if 24 ≤ v then 0 else if (a2_ - (tOFF v.toNatClampNeg)) < 0 then pX3_reachedByTwo_59 kR2 a0_ a2_ v else if (fX3_has (tWALL (v / 4).toNatClampNeg) (a2_ - (tOFF v.toNatClampNeg))) = 0 then pX3_reachedByTwo_59 kR2 a0_ a2_ v else if (fX3_isMadeRoom a0_ (fX3_cellsOf (v / 4) (a2_ - (tOFF v.toNatClampNeg)))) = 0 then pX3_reachedByTwo_59 kR2 a0_ a2_ v else 1
def kX3_reachedByTwo_2 (a0_ : Int64) (a2_ : Int32)  (kO2 : Int32 → Prop) (v : Int32) : Prop := (24 ≤ v → True) ∧ (¬ (24 ≤ v) → (vp_in v 24) ∧ (((a2_ - (tOFF v.toNatClampNeg)) < 0 → oX3_reachedByTwo_59 kO2 a0_ a2_ v) ∧ (¬ ((a2_ - (tOFF v.toNatClampNeg)) < 0) → (vp_in (v / 4) 6) ∧ (((fX3_has (tWALL (v / 4).toNatClampNeg) (a2_ - (tOFF v.toNatClampNeg))) = 0 → oX3_reachedByTwo_59 kO2 a0_ a2_ v) ∧ (¬ ((fX3_has (tWALL (v / 4).toNatClampNeg) (a2_ - (tOFF v.toNatClampNeg))) = 0) → (gX3_cellsOf (v / 4) (a2_ - (tOFF v.toNatClampNeg))) ∧ ((gX3_isMadeRoom a0_ (fX3_cellsOf (v / 4) (a2_ - (tOFF v.toNatClampNeg)))) ∧ (((fX3_isMadeRoom a0_ (fX3_cellsOf (v / 4) (a2_ - (tOFF v.toNatClampNeg)))) = 0 → oX3_reachedByTwo_59 kO2 a0_ a2_ v) ∧ (¬ ((fX3_isMadeRoom a0_ (fX3_cellsOf (v / 4) (a2_ - (tOFF v.toNatClampNeg)))) = 0) → True))))))))
set_option maxHeartbeats 4000000 in
set_option maxRecDepth 100000 in
theorem wX3_reachedByTwo_2 {X : CX} {tys : List (ClassId × FieldType)} {D : va_G} {A : Nat → Prop} {res : Int32} (a0_ : Int64) (a2_ : Int32) (C : Cx X cX3_reachedByTwo RX3 6 D tys A 3 0 0) (hR : Rt X (some .boolean) D tys A 0 0 (eI ([]) res)) (kR2 : Int32 → Int32) (kO2 : Int32 → Prop) (hk2 : ∀ z, kO2 z → kR2 z = res → At X D A 6 0 0 2 [(0, .long a0_), (2, .int a2_), (3, .int z)] [] (([] : va_W))) (v : Int32) (ok : kX3_reachedByTwo_2 a0_ a2_ kO2 v) (h : bX3_reachedByTwo_2 a0_ a2_ kR2 v = res) : At X D A 6 0 0 2 [(0, .long a0_), (2, .int a2_), (3, .int v)] [] (([] : va_W)) := by
  unfold bX3_reachedByTwo_2 at h
  unfold kX3_reachedByTwo_2 at ok
  refine r_iload_n C 2 (dall tdX3_reachedByTwo 2 rfl) rfl ?_
  refine rg_OFFSETS C kf_X3_19 (dall tdX3_reachedByTwo 3 rfl) ?_
  refine rl_OFFSETS C (dall tdX3_reachedByTwo 4 rfl) ?_
  refine r_icmp_ge (tgt := 65) C (dall tdX3_reachedByTwo 5 rfl) (by decide) (fun c1 => ?_) (fun c1 => ?_)
  · have h := (if_pos c1).symm.trans h
    have ok := ok.1 c1
    refine r_iconst (v := 0) C (dall tdX3_reachedByTwo 34 rfl) (by decide) ?_
    exact r_zret C (by decide) hR (dall tdX3_reachedByTwo 35 rfl) (by subst h; exact ⟨rfl, rfl⟩)
  · have h := (if_neg c1).symm.trans h
    have ok := ok.2 c1
    refine r_iload_n C 2 (dall tdX3_reachedByTwo 6 rfl) rfl ?_
    refine r_iconst (v := 4) C (dall tdX3_reachedByTwo 7 rfl) (by decide) ?_
    refine r_idiv C (dall tdX3_reachedByTwo 8 rfl) (by decide) ?_
    refine r_istore (lv' := [(4, .int (v / 4)), (0, .long a0_), (2, .int a2_), (3, .int v)]) C (dall tdX3_reachedByTwo 9 rfl) (by decide) rfl ?_
    refine r_iload_n C 2 (dall tdX3_reachedByTwo 10 rfl) rfl ?_
    refine rg_OFFSETS C kf_X3_19 (dall tdX3_reachedByTwo 11 rfl) ?_
    refine r_iload_n C 3 (dall tdX3_reachedByTwo 12 rfl) rfl ?_
    obtain ⟨o2, ok⟩ := ok
    refine rs_OFFSETS C o2 (dall tdX3_reachedByTwo 13 rfl) ?_
    refine r_isub C (dall tdX3_reachedByTwo 14 rfl) ?_
    refine r_istore (lv' := [(5, .int (a2_ - (tOFF v.toNatClampNeg))), (4, .int (v / 4)), (0, .long a0_), (2, .int a2_), (3, .int v)]) C (dall tdX3_reachedByTwo 15 rfl) (by decide) rfl ?_
    refine r_iload C 0 (dall tdX3_reachedByTwo 16 rfl) rfl ?_
    refine r_if_lt (tgt := 59) C (dall tdX3_reachedByTwo 17 rfl) (by decide) (fun c3 => ?_) (fun c3 => ?_)
    · have h := (if_pos c3).symm.trans h
      have ok := ok.1 c3
      refine r_pick [2, 3, 4] rfl ?_
      exact wX3_reachedByTwo_59 a0_ a2_ v C hR kR2 kO2 hk2 ok h
    · have h := (if_neg c3).symm.trans h
      have ok := ok.2 c3
      refine rg_ON_WALL C kf_X3_23 (dall tdX3_reachedByTwo 18 rfl) ?_
      refine r_iload C 1 (dall tdX3_reachedByTwo 19 rfl) rfl ?_
      obtain ⟨o4, ok⟩ := ok
      refine rs_ON_WALL C o4 (dall tdX3_reachedByTwo 20 rfl) ?_
      refine r_iload C 0 (dall tdX3_reachedByTwo 21 rfl) rfl ?_
      refine r_s0I (as := [.long (tWALL (v / 4).toNatClampNeg), .int (a2_ - (tOFF v.toNatClampNeg))]) C (zX3_has (tWALL (v / 4).toNatClampNeg) (a2_ - (tOFF v.toNatClampNeg)) ) ms_X3_has km_X3_36 (by decide) (by decide) ⟨Nat.le_refl _, Nat.le_refl _⟩ rfl rfl (Nat.le_of_ble_eq_true rfl) (dall tdX3_reachedByTwo 22 rfl) ?_
      refine r_if_eq (tgt := 59) C (dall tdX3_reachedByTwo 23 rfl) (by decide) (fun c5 => ?_) (fun c5 => ?_)
      · have h := (if_pos c5).symm.trans h
        have ok := ok.1 c5
        refine r_pick [2, 3, 4] rfl ?_
        exact wX3_reachedByTwo_59 a0_ a2_ v C hR kR2 kO2 hk2 ok h
      · have h := (if_neg c5).symm.trans h
        have ok := ok.2 c5
        refine r_lload_n C 2 (dall tdX3_reachedByTwo 24 rfl) rfl ?_
        refine r_iload C 1 (dall tdX3_reachedByTwo 25 rfl) rfl ?_
        refine r_iload C 0 (dall tdX3_reachedByTwo 26 rfl) rfl ?_
        obtain ⟨o6, ok⟩ := ok
        refine r_s0L (as := [.int (v / 4), .int (a2_ - (tOFF v.toNatClampNeg))]) C (zX3_cellsOf (v / 4) (a2_ - (tOFF v.toNatClampNeg)) o6) ms_X3_cellsOf km_X3_40 (by decide) (by decide) ⟨Nat.le_refl _, Nat.le_refl _⟩ rfl rfl (Nat.le_of_ble_eq_true rfl) (dall tdX3_reachedByTwo 27 rfl) ?_
        obtain ⟨o7, ok⟩ := ok
        refine r_s0I (as := [.long a0_, .long (fX3_cellsOf (v / 4) (a2_ - (tOFF v.toNatClampNeg)))]) C (zX3_isMadeRoom a0_ (fX3_cellsOf (v / 4) (a2_ - (tOFF v.toNatClampNeg))) o7) ms_X3_isMadeRoom km_X3_44 (by decide) (by decide) ⟨Nat.le_refl _, Nat.le_refl _⟩ rfl rfl (Nat.le_of_ble_eq_true rfl) (dall tdX3_reachedByTwo 28 rfl) ?_
        refine r_if_eq (tgt := 59) C (dall tdX3_reachedByTwo 29 rfl) (by decide) (fun c8 => ?_) (fun c8 => ?_)
        · have h := (if_pos c8).symm.trans h
          have ok := ok.1 c8
          refine r_pick [2, 3, 4] rfl ?_
          exact wX3_reachedByTwo_59 a0_ a2_ v C hR kR2 kO2 hk2 ok h
        · have h := (if_neg c8).symm.trans h
          have ok := ok.2 c8
          refine r_iconst (v := 1) C (dall tdX3_reachedByTwo 30 rfl) (by decide) ?_
          exact r_zret C (by decide) hR (dall tdX3_reachedByTwo 31 rfl) (by subst h; exact ⟨rfl, rfl⟩)
set_option maxHeartbeats 4000000 in
set_option maxRecDepth 100000 in
theorem lX3_reachedByTwo_2 {X : CX} {tys : List (ClassId × FieldType)} {D : va_G} {A : Nat → Prop} {res : Int32} (a0_ : Int64) (a2_ : Int32) (C : Cx X cX3_reachedByTwo RX3 6 D tys A 3 0 0) (hR : Rt X (some .boolean) D tys A 0 0 (eI ([]) res))  (n : Nat) (v : Int32) (ok : lpOk (kX3_reachedByTwo_2 a0_ a2_ ) n v) (h : lp 0 (bX3_reachedByTwo_2 a0_ a2_ ) n v = res) : At X D A 6 0 0 2 [(0, .long a0_), (2, .int a2_), (3, .int v)] [] (([] : va_W)) :=
  lp_rule (fun v rr_ => rr_ = res → At X D A 6 0 0 2 [(0, .long a0_), (2, .int a2_), (3, .int v)] [] (([] : va_W))) (fun kR kO hk v ok h => wX3_reachedByTwo_2 a0_ a2_ C hR  kR kO hk v ok h) n v ok h
def pX3_reachedByTwo_0  (a0_ : Int64) (a2_ : Int32) : Int32 := lp 0 (bX3_reachedByTwo_2 a0_ a2_ ) fu 0
def oX3_reachedByTwo_0  (a0_ : Int64) (a2_ : Int32) : Prop := lpOk (kX3_reachedByTwo_2 a0_ a2_ ) fu 0
set_option maxHeartbeats 4000000 in
set_option maxRecDepth 100000 in
theorem wX3_reachedByTwo_0 {X : CX} {tys : List (ClassId × FieldType)} {D : va_G} {A : Nat → Prop} {res : Int32} (a0_ : Int64) (a2_ : Int32) (C : Cx X cX3_reachedByTwo RX3 6 D tys A 3 0 0) (hR : Rt X (some .boolean) D tys A 0 0 (eI ([]) res))  (ok : oX3_reachedByTwo_0  a0_ a2_) (h : pX3_reachedByTwo_0  a0_ a2_ = res) : At X D A 6 0 0 0 [(0, .long a0_), (2, .int a2_)] [] (([] : va_W)) := by
  unfold pX3_reachedByTwo_0 at h
  unfold oX3_reachedByTwo_0 at ok
  refine r_iconst (v := 0) C (dall tdX3_reachedByTwo 0 rfl) (by decide) ?_
  refine r_istore_n (lv' := [(3, .int 0), (0, .long a0_), (2, .int a2_)]) C (dall tdX3_reachedByTwo 1 rfl) (by decide) rfl ?_
  refine r_pick [1, 2, 0] rfl ?_
  exact lX3_reachedByTwo_2 a0_ a2_ C hR  fu _ ok h
def fX3_reachedByTwo (a0_ : Int64) (a2_ : Int32) : Int32 := pX3_reachedByTwo_0  a0_ a2_
def gX3_reachedByTwo (a0_ : Int64) (a2_ : Int32) : Prop := oX3_reachedByTwo_0  a0_ a2_
set_option maxRecDepth 100000 in
theorem zX3_reachedByTwo  {D : va_G} (a0_ : Int64) (a2_ : Int32) (ok : gX3_reachedByTwo a0_ a2_)  {tys : List (ClassId × FieldType)} : Con yX3_reachedByTwo cX3_reachedByTwo 6 (some .boolean) 3 0 0 D tys [.long a0_, .int a2_] ([]) (eI ([]) (fX3_reachedByTwo a0_ a2_)) :=
  Con.of (own := RX3) (by decide +kernel) rfl (Nat.le_of_ble_eq_true rfl) (Nat.zero_le _) (fun X A C hR _ => (wX3_reachedByTwo_0 a0_ a2_ C hR  ok rfl))
theorem ms_X3_reachedByTwo : MS_ yX3_reachedByTwo cX3_reachedByTwo 6 (some .boolean) 2 := ⟨ks_X3_reachedByTwo, kn_X3, kc_X3_reachedByTwo, by decide +kernel⟩
def tbX5_within : List (Nat × Instr × Nat) := [(0, .iload_n 0, 1), (1, .ifCond .lt 12, 3), (4, .iload_n 0, 1), (5, .iload_n 1, 1), (6, .if_icmp .gt 7, 3), (9, .iconst 1, 1), (10, .goto 4, 3), (13, .iconst 0, 1), (14, .ireturn, 1)]
theorem tdX5_within : tbX5_within.all (fun q => decide (decode cX5_within q.1 = .ok q.2)) = true := by decide +kernel
def pX5_within_0  (a0_ : Int32) (a1_ : Int32) : Int32 := if a0_ < 0 then 0 else if a1_ < a0_ then 0 else 1
set_option maxHeartbeats 4000000 in
set_option maxRecDepth 100000 in
theorem wX5_within_0 {X : CX} {tys : List (ClassId × FieldType)} {D : va_G} {A : Nat → Prop} {res : Int32} (a0_ : Int32) (a1_ : Int32) (C : Cx X cX5_within RX5 2 D tys A 0 0 0) (hR : Rt X (some .boolean) D tys A 0 0 (eI ([]) res))  (h : pX5_within_0  a0_ a1_ = res) : At X D A 2 0 0 0 [(0, .int a0_), (1, .int a1_)] [] (([] : va_W)) := by
  unfold pX5_within_0 at h
  refine r_iload_n C 0 (dall tdX5_within 0 rfl) rfl ?_
  refine r_if_lt (tgt := 13) C (dall tdX5_within 1 rfl) (by decide) (fun c1 => ?_) (fun c1 => ?_)
  · have h := (if_pos c1).symm.trans h
    refine r_iconst (v := 0) C (dall tdX5_within 7 rfl) (by decide) ?_
    exact r_zret C (by decide) hR (dall tdX5_within 8 rfl) (by subst h; exact ⟨rfl, rfl⟩)
  · have h := (if_neg c1).symm.trans h
    refine r_iload_n C 0 (dall tdX5_within 2 rfl) rfl ?_
    refine r_iload_n C 1 (dall tdX5_within 3 rfl) rfl ?_
    refine r_icmp_gt (tgt := 13) C (dall tdX5_within 4 rfl) (by decide) (fun c2 => ?_) (fun c2 => ?_)
    · have h := (if_pos c2).symm.trans h
      refine r_iconst (v := 0) C (dall tdX5_within 7 rfl) (by decide) ?_
      exact r_zret C (by decide) hR (dall tdX5_within 8 rfl) (by subst h; exact ⟨rfl, rfl⟩)
    · have h := (if_neg c2).symm.trans h
      refine r_iconst (v := 1) C (dall tdX5_within 5 rfl) (by decide) ?_
      refine r_goto (tgt := 14) C (dall tdX5_within 6 rfl) (by decide) ?_
      exact r_zret C (by decide) hR (dall tdX5_within 8 rfl) (by subst h; exact ⟨rfl, rfl⟩)
def fX5_within (a0_ : Int32) (a1_ : Int32) : Int32 := pX5_within_0  a0_ a1_
set_option maxRecDepth 100000 in
theorem zX5_within  {D : va_G} (a0_ : Int32) (a1_ : Int32)  {tys : List (ClassId × FieldType)} : Con yX5_within cX5_within 2 (some .boolean) 0 0 0 D tys [.int a0_, .int a1_] ([]) (eI ([]) (fX5_within a0_ a1_)) :=
  Con.of (own := RX5) (by decide +kernel) rfl (Nat.le_of_ble_eq_true rfl) (Nat.zero_le _) (fun X A C hR _ => (wX5_within_0 a0_ a1_ C hR  rfl))
theorem ms_X5_within : MS_ yX5_within cX5_within 2 (some .boolean) 2 := ⟨ks_X5_within, kn_X5, kc_X5_within, by decide +kernel⟩
def tbX5_isCell : List (Nat × Instr × Nat) := [(0, .iload_n 0, 1), (1, .bipush 63, 2), (3, .invokestatic 74, 3), (6, .ireturn, 1)]
theorem tdX5_isCell : tbX5_isCell.all (fun q => decide (decode cX5_isCell q.1 = .ok q.2)) = true := by decide +kernel
def pX5_isCell_0  (a0_ : Int32) : Int32 := fX5_within a0_ 63
def oX5_isCell_0  (a0_ : Int32) : Prop := narrow .boolean (.int (fX5_within a0_ 63)) = .int (fX5_within a0_ 63)
set_option maxHeartbeats 4000000 in
set_option maxRecDepth 100000 in
theorem wX5_isCell_0 {X : CX} {tys : List (ClassId × FieldType)} {D : va_G} {A : Nat → Prop} {res : Int32} (a0_ : Int32) (C : Cx X cX5_isCell RX5 1 D tys A 1 0 0) (hR : Rt X (some .boolean) D tys A 0 0 (eI ([]) res))  (ok : oX5_isCell_0  a0_) (h : pX5_isCell_0  a0_ = res) : At X D A 1 0 0 0 [(0, .int a0_)] [] (([] : va_W)) := by
  unfold pX5_isCell_0 at h
  unfold oX5_isCell_0 at ok
  refine r_iload_n C 0 (dall tdX5_isCell 0 rfl) rfl ?_
  refine r_bipush (v := 63) C (dall tdX5_isCell 1 rfl) (by decide) ?_
  refine r_s0I (as := [.int a0_, .int 63]) C (zX5_within a0_ 63 ) ms_X5_within km_X5_74 (by decide) (by decide) ⟨Nat.le_refl _, Nat.le_refl _⟩ rfl rfl (Nat.le_of_ble_eq_true rfl) (dall tdX5_isCell 2 rfl) ?_
  have o1 := ok
  exact r_zret C o1 hR (dall tdX5_isCell 3 rfl) (by subst h; exact ⟨rfl, rfl⟩)
def fX5_isCell (a0_ : Int32) : Int32 := pX5_isCell_0  a0_
def gX5_isCell (a0_ : Int32) : Prop := oX5_isCell_0  a0_
set_option maxRecDepth 100000 in
theorem zX5_isCell  {D : va_G} (a0_ : Int32) (ok : gX5_isCell a0_)  {tys : List (ClassId × FieldType)} : Con yX5_isCell cX5_isCell 1 (some .boolean) 1 0 0 D tys [.int a0_] ([]) (eI ([]) (fX5_isCell a0_)) :=
  Con.of (own := RX5) (by decide +kernel) rfl (Nat.le_of_ble_eq_true rfl) (Nat.zero_le _) (fun X A C hR _ => (wX5_isCell_0 a0_ C hR  ok rfl))
theorem ms_X5_isCell : MS_ yX5_isCell cX5_isCell 1 (some .boolean) 1 := ⟨ks_X5_isCell, kn_X5, kc_X5_isCell, by decide +kernel⟩
def tbX5_isKind : List (Nat × Instr × Nat) := [(0, .iload_n 0, 1), (1, .iconst 5, 1), (2, .invokestatic 74, 3), (5, .ireturn, 1)]
theorem tdX5_isKind : tbX5_isKind.all (fun q => decide (decode cX5_isKind q.1 = .ok q.2)) = true := by decide +kernel
def pX5_isKind_0  (a0_ : Int32) : Int32 := fX5_within a0_ 5
def oX5_isKind_0  (a0_ : Int32) : Prop := narrow .boolean (.int (fX5_within a0_ 5)) = .int (fX5_within a0_ 5)
set_option maxHeartbeats 4000000 in
set_option maxRecDepth 100000 in
theorem wX5_isKind_0 {X : CX} {tys : List (ClassId × FieldType)} {D : va_G} {A : Nat → Prop} {res : Int32} (a0_ : Int32) (C : Cx X cX5_isKind RX5 1 D tys A 1 0 0) (hR : Rt X (some .boolean) D tys A 0 0 (eI ([]) res))  (ok : oX5_isKind_0  a0_) (h : pX5_isKind_0  a0_ = res) : At X D A 1 0 0 0 [(0, .int a0_)] [] (([] : va_W)) := by
  unfold pX5_isKind_0 at h
  unfold oX5_isKind_0 at ok
  refine r_iload_n C 0 (dall tdX5_isKind 0 rfl) rfl ?_
  refine r_iconst (v := 5) C (dall tdX5_isKind 1 rfl) (by decide) ?_
  refine r_s0I (as := [.int a0_, .int 5]) C (zX5_within a0_ 5 ) ms_X5_within km_X5_74 (by decide) (by decide) ⟨Nat.le_refl _, Nat.le_refl _⟩ rfl rfl (Nat.le_of_ble_eq_true rfl) (dall tdX5_isKind 2 rfl) ?_
  have o1 := ok
  exact r_zret C o1 hR (dall tdX5_isKind 3 rfl) (by subst h; exact ⟨rfl, rfl⟩)
def fX5_isKind (a0_ : Int32) : Int32 := pX5_isKind_0  a0_
def gX5_isKind (a0_ : Int32) : Prop := oX5_isKind_0  a0_
set_option maxRecDepth 100000 in
theorem zX5_isKind  {D : va_G} (a0_ : Int32) (ok : gX5_isKind a0_)  {tys : List (ClassId × FieldType)} : Con yX5_isKind cX5_isKind 1 (some .boolean) 1 0 0 D tys [.int a0_] ([]) (eI ([]) (fX5_isKind a0_)) :=
  Con.of (own := RX5) (by decide +kernel) rfl (Nat.le_of_ble_eq_true rfl) (Nat.zero_le _) (fun X A C hR _ => (wX5_isKind_0 a0_ C hR  ok rfl))
theorem ms_X5_isKind : MS_ yX5_isKind cX5_isKind 1 (some .boolean) 1 := ⟨ks_X5_isKind, kn_X5, kc_X5_isKind, by decide +kernel⟩
def tbX5_isPart : List (Nat × Instr × Nat) := [(0, .iload_n 0, 1), (1, .iconst 5, 1), (2, .invokestatic 74, 3), (5, .ireturn, 1)]
theorem tdX5_isPart : tbX5_isPart.all (fun q => decide (decode cX5_isPart q.1 = .ok q.2)) = true := by decide +kernel
def pX5_isPart_0  (a0_ : Int32) : Int32 := fX5_within a0_ 5
def oX5_isPart_0  (a0_ : Int32) : Prop := narrow .boolean (.int (fX5_within a0_ 5)) = .int (fX5_within a0_ 5)
set_option maxHeartbeats 4000000 in
set_option maxRecDepth 100000 in
theorem wX5_isPart_0 {X : CX} {tys : List (ClassId × FieldType)} {D : va_G} {A : Nat → Prop} {res : Int32} (a0_ : Int32) (C : Cx X cX5_isPart RX5 1 D tys A 1 0 0) (hR : Rt X (some .boolean) D tys A 0 0 (eI ([]) res))  (ok : oX5_isPart_0  a0_) (h : pX5_isPart_0  a0_ = res) : At X D A 1 0 0 0 [(0, .int a0_)] [] (([] : va_W)) := by
  unfold pX5_isPart_0 at h
  unfold oX5_isPart_0 at ok
  refine r_iload_n C 0 (dall tdX5_isPart 0 rfl) rfl ?_
  refine r_iconst (v := 5) C (dall tdX5_isPart 1 rfl) (by decide) ?_
  refine r_s0I (as := [.int a0_, .int 5]) C (zX5_within a0_ 5 ) ms_X5_within km_X5_74 (by decide) (by decide) ⟨Nat.le_refl _, Nat.le_refl _⟩ rfl rfl (Nat.le_of_ble_eq_true rfl) (dall tdX5_isPart 2 rfl) ?_
  have o1 := ok
  exact r_zret C o1 hR (dall tdX5_isPart 3 rfl) (by subst h; exact ⟨rfl, rfl⟩)
def fX5_isPart (a0_ : Int32) : Int32 := pX5_isPart_0  a0_
def gX5_isPart (a0_ : Int32) : Prop := oX5_isPart_0  a0_
set_option maxRecDepth 100000 in
theorem zX5_isPart  {D : va_G} (a0_ : Int32) (ok : gX5_isPart a0_)  {tys : List (ClassId × FieldType)} : Con yX5_isPart cX5_isPart 1 (some .boolean) 1 0 0 D tys [.int a0_] ([]) (eI ([]) (fX5_isPart a0_)) :=
  Con.of (own := RX5) (by decide +kernel) rfl (Nat.le_of_ble_eq_true rfl) (Nat.zero_le _) (fun X A C hR _ => (wX5_isPart_0 a0_ C hR  ok rfl))
theorem ms_X5_isPart : MS_ yX5_isPart cX5_isPart 1 (some .boolean) 1 := ⟨ks_X5_isPart, kn_X5, kc_X5_isPart, by decide +kernel⟩
def tbX5_isSheet : List (Nat × Instr × Nat) := [(0, .iload_n 0, 1), (1, .iconst 3, 1), (2, .invokestatic 74, 3), (5, .ireturn, 1)]
theorem tdX5_isSheet : tbX5_isSheet.all (fun q => decide (decode cX5_isSheet q.1 = .ok q.2)) = true := by decide +kernel
def pX5_isSheet_0  (a0_ : Int32) : Int32 := fX5_within a0_ 3
def oX5_isSheet_0  (a0_ : Int32) : Prop := narrow .boolean (.int (fX5_within a0_ 3)) = .int (fX5_within a0_ 3)
set_option maxHeartbeats 4000000 in
set_option maxRecDepth 100000 in
theorem wX5_isSheet_0 {X : CX} {tys : List (ClassId × FieldType)} {D : va_G} {A : Nat → Prop} {res : Int32} (a0_ : Int32) (C : Cx X cX5_isSheet RX5 1 D tys A 1 0 0) (hR : Rt X (some .boolean) D tys A 0 0 (eI ([]) res))  (ok : oX5_isSheet_0  a0_) (h : pX5_isSheet_0  a0_ = res) : At X D A 1 0 0 0 [(0, .int a0_)] [] (([] : va_W)) := by
  unfold pX5_isSheet_0 at h
  unfold oX5_isSheet_0 at ok
  refine r_iload_n C 0 (dall tdX5_isSheet 0 rfl) rfl ?_
  refine r_iconst (v := 3) C (dall tdX5_isSheet 1 rfl) (by decide) ?_
  refine r_s0I (as := [.int a0_, .int 3]) C (zX5_within a0_ 3 ) ms_X5_within km_X5_74 (by decide) (by decide) ⟨Nat.le_refl _, Nat.le_refl _⟩ rfl rfl (Nat.le_of_ble_eq_true rfl) (dall tdX5_isSheet 2 rfl) ?_
  have o1 := ok
  exact r_zret C o1 hR (dall tdX5_isSheet 3 rfl) (by subst h; exact ⟨rfl, rfl⟩)
def fX5_isSheet (a0_ : Int32) : Int32 := pX5_isSheet_0  a0_
def gX5_isSheet (a0_ : Int32) : Prop := oX5_isSheet_0  a0_
set_option maxRecDepth 100000 in
theorem zX5_isSheet  {D : va_G} (a0_ : Int32) (ok : gX5_isSheet a0_)  {tys : List (ClassId × FieldType)} : Con yX5_isSheet cX5_isSheet 1 (some .boolean) 1 0 0 D tys [.int a0_] ([]) (eI ([]) (fX5_isSheet a0_)) :=
  Con.of (own := RX5) (by decide +kernel) rfl (Nat.le_of_ble_eq_true rfl) (Nat.zero_le _) (fun X A C hR _ => (wX5_isSheet_0 a0_ C hR  ok rfl))
theorem ms_X5_isSheet : MS_ yX5_isSheet cX5_isSheet 1 (some .boolean) 1 := ⟨ks_X5_isSheet, kn_X5, kc_X5_isSheet, by decide +kernel⟩
def tbX5_isUnder : List (Nat × Instr × Nat) := [(0, .iload_n 0, 1), (1, .istore_n 2, 1), (2, .iconst 0, 1), (3, .istore_n 3, 1), (4, .iload_n 3, 1), (5, .bipush 6, 2), (7, .if_icmp .ge 29, 3), (10, .iload_n 2, 1), (11, .invokestatic 70, 3), (14, .ifCond .eq 22, 3), (17, .iload_n 2, 1), (18, .iload_n 1, 1), (19, .if_icmp .ne 5, 3), (22, .iconst 1, 1), (23, .ireturn, 1), (24, .getstatic 249, 3), (27, .iload_n 2, 1), (28, .iaload, 1), (29, .istore_n 2, 1), (30, .iinc 3 1, 3), (33, .goto (-29), 3), (36, .iconst 0, 1), (37, .ireturn, 1)]
theorem tdX5_isUnder : tbX5_isUnder.all (fun q => decide (decode cX5_isUnder q.1 = .ok q.2)) = true := by decide +kernel
def bX5_isUnder_4 (a1_ : Int32)  (kR4 : Int32 × Int32 → Int32) (v : Int32 × Int32) : Int32 := if 6 ≤ v.2 then 0 else if (fX5_isKind v.1) = 0 then 0 else if v.1 = a1_ then 1 else kR4 (tKIND v.1.toNatClampNeg, v.2 + 1)
def kX5_isUnder_4 (a1_ : Int32)  (kO4 : Int32 × Int32 → Prop) (v : Int32 × Int32) : Prop := (6 ≤ v.2 → True) ∧ (¬ (6 ≤ v.2) → (gX5_isKind v.1) ∧ (((fX5_isKind v.1) = 0 → True) ∧ (¬ ((fX5_isKind v.1) = 0) → (v.1 = a1_ → True) ∧ (¬ (v.1 = a1_) → (vp_in v.1 6) ∧ (kO4 (tKIND v.1.toNatClampNeg, v.2 + 1))))))
set_option maxHeartbeats 4000000 in
set_option maxRecDepth 100000 in
theorem wX5_isUnder_4 {X : CX} {tys : List (ClassId × FieldType)} {D : va_G} {A : Nat → Prop} {res : Int32} (a1_ : Int32) (C : Cx X cX5_isUnder RX5 4 D tys A 2 0 0) (hR : Rt X (some .boolean) D tys A 0 0 (eI ([]) res)) (kR4 : Int32 × Int32 → Int32) (kO4 : Int32 × Int32 → Prop) (hk4 : ∀ z, kO4 z → kR4 z = res → At X D A 4 0 0 4 [(1, .int a1_), (2, .int z.1), (3, .int z.2)] [] (([] : va_W))) (v : Int32 × Int32) (ok : kX5_isUnder_4 a1_ kO4 v) (h : bX5_isUnder_4 a1_ kR4 v = res) : At X D A 4 0 0 4 [(1, .int a1_), (2, .int v.1), (3, .int v.2)] [] (([] : va_W)) := by
  unfold bX5_isUnder_4 at h
  unfold kX5_isUnder_4 at ok
  refine r_iload_n C 2 (dall tdX5_isUnder 4 rfl) rfl ?_
  refine r_bipush (v := 6) C (dall tdX5_isUnder 5 rfl) (by decide) ?_
  refine r_icmp_ge (tgt := 36) C (dall tdX5_isUnder 6 rfl) (by decide) (fun c1 => ?_) (fun c1 => ?_)
  · have h := (if_pos c1).symm.trans h
    have ok := ok.1 c1
    refine r_iconst (v := 0) C (dall tdX5_isUnder 21 rfl) (by decide) ?_
    exact r_zret C (by decide) hR (dall tdX5_isUnder 22 rfl) (by subst h; exact ⟨rfl, rfl⟩)
  · have h := (if_neg c1).symm.trans h
    have ok := ok.2 c1
    refine r_iload_n C 1 (dall tdX5_isUnder 7 rfl) rfl ?_
    obtain ⟨o2, ok⟩ := ok
    refine r_s0I (as := [.int v.1]) C (zX5_isKind v.1 o2) ms_X5_isKind km_X5_70 (by decide) (by decide) ⟨Nat.le_refl _, Nat.le_refl _⟩ rfl rfl (Nat.le_of_ble_eq_true rfl) (dall tdX5_isUnder 8 rfl) ?_
    refine r_if_eq (tgt := 36) C (dall tdX5_isUnder 9 rfl) (by decide) (fun c3 => ?_) (fun c3 => ?_)
    · have h := (if_pos c3).symm.trans h
      have ok := ok.1 c3
      refine r_iconst (v := 0) C (dall tdX5_isUnder 21 rfl) (by decide) ?_
      exact r_zret C (by decide) hR (dall tdX5_isUnder 22 rfl) (by subst h; exact ⟨rfl, rfl⟩)
    · have h := (if_neg c3).symm.trans h
      have ok := ok.2 c3
      refine r_iload_n C 1 (dall tdX5_isUnder 10 rfl) rfl ?_
      refine r_iload_n C 0 (dall tdX5_isUnder 11 rfl) rfl ?_
      refine r_icmp_ne (tgt := 24) C (dall tdX5_isUnder 12 rfl) (by decide) (fun c4 => ?_) (fun c4 => ?_)
      · have h := (if_neg c4).symm.trans h
        have ok := ok.2 c4
        refine rg_KIND_ABOVE C kf_X5_249 (dall tdX5_isUnder 15 rfl) ?_
        refine r_iload_n C 1 (dall tdX5_isUnder 16 rfl) rfl ?_
        obtain ⟨o5, ok⟩ := ok
        refine rs_KIND_ABOVE C o5 (dall tdX5_isUnder 17 rfl) ?_
        refine r_istore_n (lv' := [(2, .int (tKIND v.1.toNatClampNeg)), (1, .int a1_), (3, .int v.2)]) C (dall tdX5_isUnder 18 rfl) (by decide) rfl ?_
        refine r_iinc (v := v.2 + 1) (lv' := [(3, .int (v.2 + 1)), (2, .int (tKIND v.1.toNatClampNeg)), (1, .int a1_)]) C 2 (dall tdX5_isUnder 19 rfl) rfl rfl (by decide) rfl ?_
        refine r_goto (tgt := 4) C (dall tdX5_isUnder 20 rfl) (by decide) ?_
        refine r_pick [2, 1, 0] rfl ?_
        exact hk4 (tKIND v.1.toNatClampNeg, v.2 + 1) ok h
      · have h := (if_pos c4).symm.trans h
        have ok := ok.1 c4
        refine r_iconst (v := 1) C (dall tdX5_isUnder 13 rfl) (by decide) ?_
        exact r_zret C (by decide) hR (dall tdX5_isUnder 14 rfl) (by subst h; exact ⟨rfl, rfl⟩)
set_option maxHeartbeats 4000000 in
set_option maxRecDepth 100000 in
theorem lX5_isUnder_4 {X : CX} {tys : List (ClassId × FieldType)} {D : va_G} {A : Nat → Prop} {res : Int32} (a1_ : Int32) (C : Cx X cX5_isUnder RX5 4 D tys A 2 0 0) (hR : Rt X (some .boolean) D tys A 0 0 (eI ([]) res))  (n : Nat) (v : Int32 × Int32) (ok : lpOk (kX5_isUnder_4 a1_ ) n v) (h : lp 0 (bX5_isUnder_4 a1_ ) n v = res) : At X D A 4 0 0 4 [(1, .int a1_), (2, .int v.1), (3, .int v.2)] [] (([] : va_W)) :=
  lp_rule (fun v rr_ => rr_ = res → At X D A 4 0 0 4 [(1, .int a1_), (2, .int v.1), (3, .int v.2)] [] (([] : va_W))) (fun kR kO hk v ok h => wX5_isUnder_4 a1_ C hR  kR kO hk v ok h) n v ok h
def pX5_isUnder_0  (a0_ : Int32) (a1_ : Int32) : Int32 := lp 0 (bX5_isUnder_4 a1_ ) fu (a0_, 0)
def oX5_isUnder_0  (a0_ : Int32) (a1_ : Int32) : Prop := lpOk (kX5_isUnder_4 a1_ ) fu (a0_, 0)
set_option maxHeartbeats 4000000 in
set_option maxRecDepth 100000 in
theorem wX5_isUnder_0 {X : CX} {tys : List (ClassId × FieldType)} {D : va_G} {A : Nat → Prop} {res : Int32} (a0_ : Int32) (a1_ : Int32) (C : Cx X cX5_isUnder RX5 4 D tys A 2 0 0) (hR : Rt X (some .boolean) D tys A 0 0 (eI ([]) res))  (ok : oX5_isUnder_0  a0_ a1_) (h : pX5_isUnder_0  a0_ a1_ = res) : At X D A 4 0 0 0 [(0, .int a0_), (1, .int a1_)] [] (([] : va_W)) := by
  unfold pX5_isUnder_0 at h
  unfold oX5_isUnder_0 at ok
  refine r_iload_n C 0 (dall tdX5_isUnder 0 rfl) rfl ?_
  refine r_istore_n (lv' := [(2, .int a0_), (0, .int a0_), (1, .int a1_)]) C (dall tdX5_isUnder 1 rfl) (by decide) rfl ?_
  refine r_iconst (v := 0) C (dall tdX5_isUnder 2 rfl) (by decide) ?_
  refine r_istore_n (lv' := [(3, .int 0), (2, .int a0_), (0, .int a0_), (1, .int a1_)]) C (dall tdX5_isUnder 3 rfl) (by decide) rfl ?_
  refine r_pick [3, 1, 0] rfl ?_
  exact lX5_isUnder_4 a1_ C hR  fu _ ok h
def fX5_isUnder (a0_ : Int32) (a1_ : Int32) : Int32 := pX5_isUnder_0  a0_ a1_
def gX5_isUnder (a0_ : Int32) (a1_ : Int32) : Prop := oX5_isUnder_0  a0_ a1_
set_option maxRecDepth 100000 in
theorem zX5_isUnder  {D : va_G} (a0_ : Int32) (a1_ : Int32) (ok : gX5_isUnder a0_ a1_)  {tys : List (ClassId × FieldType)} : Con yX5_isUnder cX5_isUnder 4 (some .boolean) 2 0 0 D tys [.int a0_, .int a1_] ([]) (eI ([]) (fX5_isUnder a0_ a1_)) :=
  Con.of (own := RX5) (by decide +kernel) rfl (Nat.le_of_ble_eq_true rfl) (Nat.zero_le _) (fun X A C hR _ => (wX5_isUnder_0 a0_ a1_ C hR  ok rfl))
theorem ms_X5_isUnder : MS_ yX5_isUnder cX5_isUnder 4 (some .boolean) 2 := ⟨ks_X5_isUnder, kn_X5, kc_X5_isUnder, by decide +kernel⟩
def tbX5_lowest : List (Nat × Instr × Nat) := [(0, .iload_n 2, 1), (1, .ifCond .ne 7, 3), (4, .iload_n 0, 1), (5, .goto 4, 3), (8, .iload_n 1, 1), (9, .istore_n 3, 1), (10, .iload_n 1, 1), (11, .istore 4, 2), (13, .iload 4, 2), (15, .iconst 1, 1), (16, .if_icmp .le 28, 3), (19, .iload_n 0, 1), (20, .iload 4, 2), (22, .irem, 1), (23, .ifCond .ne 15, 3), (26, .iload_n 1, 1), (27, .iload 4, 2), (29, .irem, 1), (30, .ifCond .ne 8, 3), (33, .iload_n 3, 1), (34, .iload 4, 2), (36, .idiv, 1), (37, .ireturn, 1), (38, .iinc 4 (-1), 3), (41, .goto (-28), 3), (44, .iload_n 3, 1), (45, .ireturn, 1)]
theorem tdX5_lowest : tbX5_lowest.all (fun q => decide (decode cX5_lowest q.1 = .ok q.2)) = true := by decide +kernel
def pX5_lowest_38 (kR13 : Int32 → Int32) (a0_ : Int32) (a1_ : Int32) (a3_ : Int32) (a4_ : Int32) : Int32 := kR13 (a4_ + (-1))
def oX5_lowest_38 (kO13 : Int32 → Prop) (a0_ : Int32) (a1_ : Int32) (a3_ : Int32) (a4_ : Int32) : Prop := kO13 (a4_ + (-1))
set_option maxHeartbeats 4000000 in
set_option maxRecDepth 100000 in
theorem wX5_lowest_38 {X : CX} {tys : List (ClassId × FieldType)} {D : va_G} {A : Nat → Prop} {res : Int32} (a0_ : Int32) (a1_ : Int32) (a3_ : Int32) (a4_ : Int32) (C : Cx X cX5_lowest RX5 5 D tys A 0 0 0) (hR : Rt X (some .int) D tys A 0 0 (eI ([]) res)) (kR13 : Int32 → Int32) (kO13 : Int32 → Prop) (hk13 : ∀ z, kO13 z → kR13 z = res → At X D A 5 0 0 13 [(0, .int a0_), (1, .int a1_), (3, .int a3_), (4, .int z)] [] (([] : va_W))) (ok : oX5_lowest_38 kO13 a0_ a1_ a3_ a4_) (h : pX5_lowest_38 kR13 a0_ a1_ a3_ a4_ = res) : At X D A 5 0 0 38 [(0, .int a0_), (1, .int a1_), (3, .int a3_), (4, .int a4_)] [] (([] : va_W)) := by
  unfold pX5_lowest_38 at h
  unfold oX5_lowest_38 at ok
  refine r_iinc (v := a4_ + (-1)) (lv' := [(4, .int (a4_ + (-1))), (0, .int a0_), (1, .int a1_), (3, .int a3_)]) C 3 (dall tdX5_lowest 23 rfl) rfl rfl (by decide) rfl ?_
  refine r_goto (tgt := 13) C (dall tdX5_lowest 24 rfl) (by decide) ?_
  refine r_pick [1, 2, 3, 0] rfl ?_
  exact hk13 (a4_ + (-1)) ok h
def bX5_lowest_13 (a0_ : Int32) (a1_ : Int32) (a3_ : Int32)  (kR13 : Int32 → Int32) (v : Int32) : Int32 := if v ≤ 1 then a3_ else if (a0_ - a0_ / v * v) = 0 then if (a1_ - a1_ / v * v) = 0 then a3_ / v else pX5_lowest_38 kR13 a0_ a1_ a3_ v else pX5_lowest_38 kR13 a0_ a1_ a3_ v
def kX5_lowest_13 (a0_ : Int32) (a1_ : Int32) (a3_ : Int32)  (kO13 : Int32 → Prop) (v : Int32) : Prop := (v ≤ 1 → True) ∧ (¬ (v ≤ 1) → (¬ v = 0) ∧ (((a0_ - a0_ / v * v) = 0 → (¬ v = 0) ∧ (((a1_ - a1_ / v * v) = 0 → ¬ v = 0) ∧ (¬ ((a1_ - a1_ / v * v) = 0) → oX5_lowest_38 kO13 a0_ a1_ a3_ v))) ∧ (¬ ((a0_ - a0_ / v * v) = 0) → oX5_lowest_38 kO13 a0_ a1_ a3_ v)))
set_option maxHeartbeats 4000000 in
set_option maxRecDepth 100000 in
theorem wX5_lowest_13 {X : CX} {tys : List (ClassId × FieldType)} {D : va_G} {A : Nat → Prop} {res : Int32} (a0_ : Int32) (a1_ : Int32) (a3_ : Int32) (C : Cx X cX5_lowest RX5 5 D tys A 0 0 0) (hR : Rt X (some .int) D tys A 0 0 (eI ([]) res)) (kR13 : Int32 → Int32) (kO13 : Int32 → Prop) (hk13 : ∀ z, kO13 z → kR13 z = res → At X D A 5 0 0 13 [(0, .int a0_), (1, .int a1_), (3, .int a3_), (4, .int z)] [] (([] : va_W))) (v : Int32) (ok : kX5_lowest_13 a0_ a1_ a3_ kO13 v) (h : bX5_lowest_13 a0_ a1_ a3_ kR13 v = res) : At X D A 5 0 0 13 [(0, .int a0_), (1, .int a1_), (3, .int a3_), (4, .int v)] [] (([] : va_W)) := by
  unfold bX5_lowest_13 at h
  unfold kX5_lowest_13 at ok
  refine r_iload C 3 (dall tdX5_lowest 8 rfl) rfl ?_
  refine r_iconst (v := 1) C (dall tdX5_lowest 9 rfl) (by decide) ?_
  refine r_icmp_le (tgt := 44) C (dall tdX5_lowest 10 rfl) (by decide) (fun c1 => ?_) (fun c1 => ?_)
  · have h := (if_pos c1).symm.trans h
    have ok := ok.1 c1
    refine r_iload_n C 2 (dall tdX5_lowest 25 rfl) rfl ?_
    exact r_iret C hR (dall tdX5_lowest 26 rfl) (by subst h; exact ⟨rfl, rfl⟩)
  · have h := (if_neg c1).symm.trans h
    have ok := ok.2 c1
    refine r_iload_n C 0 (dall tdX5_lowest 11 rfl) rfl ?_
    refine r_iload C 3 (dall tdX5_lowest 12 rfl) rfl ?_
    obtain ⟨o2, ok⟩ := ok
    refine r_irem C (dall tdX5_lowest 13 rfl) o2 ?_
    refine r_if_ne (tgt := 38) C (dall tdX5_lowest 14 rfl) (by decide) (fun c3 => ?_) (fun c3 => ?_)
    · have h := (if_neg c3).symm.trans h
      have ok := ok.2 c3
      exact wX5_lowest_38 a0_ a1_ a3_ v C hR kR13 kO13 hk13 ok h
    · have h := (if_pos c3).symm.trans h
      have ok := ok.1 c3
      refine r_iload_n C 1 (dall tdX5_lowest 15 rfl) rfl ?_
      refine r_iload C 3 (dall tdX5_lowest 16 rfl) rfl ?_
      obtain ⟨o4, ok⟩ := ok
      refine r_irem C (dall tdX5_lowest 17 rfl) o4 ?_
      refine r_if_ne (tgt := 38) C (dall tdX5_lowest 18 rfl) (by decide) (fun c5 => ?_) (fun c5 => ?_)
      · have h := (if_neg c5).symm.trans h
        have ok := ok.2 c5
        exact wX5_lowest_38 a0_ a1_ a3_ v C hR kR13 kO13 hk13 ok h
      · have h := (if_pos c5).symm.trans h
        have ok := ok.1 c5
        refine r_iload_n C 2 (dall tdX5_lowest 19 rfl) rfl ?_
        refine r_iload C 3 (dall tdX5_lowest 20 rfl) rfl ?_
        have o6 := ok
        refine r_idiv C (dall tdX5_lowest 21 rfl) o6 ?_
        exact r_iret C hR (dall tdX5_lowest 22 rfl) (by subst h; exact ⟨rfl, rfl⟩)
set_option maxHeartbeats 4000000 in
set_option maxRecDepth 100000 in
theorem lX5_lowest_13 {X : CX} {tys : List (ClassId × FieldType)} {D : va_G} {A : Nat → Prop} {res : Int32} (a0_ : Int32) (a1_ : Int32) (a3_ : Int32) (C : Cx X cX5_lowest RX5 5 D tys A 0 0 0) (hR : Rt X (some .int) D tys A 0 0 (eI ([]) res))  (n : Nat) (v : Int32) (ok : lpOk (kX5_lowest_13 a0_ a1_ a3_ ) n v) (h : lp 0 (bX5_lowest_13 a0_ a1_ a3_ ) n v = res) : At X D A 5 0 0 13 [(0, .int a0_), (1, .int a1_), (3, .int a3_), (4, .int v)] [] (([] : va_W)) :=
  lp_rule (fun v rr_ => rr_ = res → At X D A 5 0 0 13 [(0, .int a0_), (1, .int a1_), (3, .int a3_), (4, .int v)] [] (([] : va_W))) (fun kR kO hk v ok h => wX5_lowest_13 a0_ a1_ a3_ C hR  kR kO hk v ok h) n v ok h
def pX5_lowest_9  (a0_ : Int32) (a1_ : Int32) (b0_ : Int32) : Int32 := lp 0 (bX5_lowest_13 a0_ a1_ b0_ ) fu a1_
def oX5_lowest_9  (a0_ : Int32) (a1_ : Int32) (b0_ : Int32) : Prop := lpOk (kX5_lowest_13 a0_ a1_ b0_ ) fu a1_
set_option maxHeartbeats 4000000 in
set_option maxRecDepth 100000 in
theorem wX5_lowest_9 {X : CX} {tys : List (ClassId × FieldType)} {D : va_G} {A : Nat → Prop} {res : Int32} (a0_ : Int32) (a1_ : Int32) (b0_ : Int32) (C : Cx X cX5_lowest RX5 5 D tys A 0 0 0) (hR : Rt X (some .int) D tys A 0 0 (eI ([]) res))  (ok : oX5_lowest_9  a0_ a1_ b0_) (h : pX5_lowest_9  a0_ a1_ b0_ = res) : At X D A 5 0 0 9 [(0, .int a0_), (1, .int a1_)] [.int b0_] (([] : va_W)) := by
  unfold pX5_lowest_9 at h
  unfold oX5_lowest_9 at ok
  refine r_istore_n (lv' := [(3, .int b0_), (0, .int a0_), (1, .int a1_)]) C (dall tdX5_lowest 5 rfl) (by decide) rfl ?_
  refine r_iload_n C 2 (dall tdX5_lowest 6 rfl) rfl ?_
  refine r_istore (lv' := [(4, .int a1_), (3, .int b0_), (0, .int a0_), (1, .int a1_)]) C (dall tdX5_lowest 7 rfl) (by decide) rfl ?_
  refine r_pick [2, 3, 1, 0] rfl ?_
  exact lX5_lowest_13 a0_ a1_ b0_ C hR  fu _ ok h
def pX5_lowest_0  (a0_ : Int32) (a1_ : Int32) (a2_ : Int32) : Int32 := if a2_ = 0 then pX5_lowest_9  a0_ a1_ a0_ else pX5_lowest_9  a0_ a1_ a1_
def oX5_lowest_0  (a0_ : Int32) (a1_ : Int32) (a2_ : Int32) : Prop := (a2_ = 0 → oX5_lowest_9  a0_ a1_ a0_) ∧ (¬ (a2_ = 0) → oX5_lowest_9  a0_ a1_ a1_)
set_option maxHeartbeats 4000000 in
set_option maxRecDepth 100000 in
theorem wX5_lowest_0 {X : CX} {tys : List (ClassId × FieldType)} {D : va_G} {A : Nat → Prop} {res : Int32} (a0_ : Int32) (a1_ : Int32) (a2_ : Int32) (C : Cx X cX5_lowest RX5 5 D tys A 0 0 0) (hR : Rt X (some .int) D tys A 0 0 (eI ([]) res))  (ok : oX5_lowest_0  a0_ a1_ a2_) (h : pX5_lowest_0  a0_ a1_ a2_ = res) : At X D A 5 0 0 0 [(0, .int a0_), (1, .int a1_), (2, .int a2_)] [] (([] : va_W)) := by
  unfold pX5_lowest_0 at h
  unfold oX5_lowest_0 at ok
  refine r_iload_n C 2 (dall tdX5_lowest 0 rfl) rfl ?_
  refine r_if_ne (tgt := 8) C (dall tdX5_lowest 1 rfl) (by decide) (fun c7 => ?_) (fun c7 => ?_)
  · have h := (if_neg c7).symm.trans h
    have ok := ok.2 c7
    refine r_iload_n C 1 (dall tdX5_lowest 4 rfl) rfl ?_
    refine r_pick [0, 1] rfl ?_
    exact wX5_lowest_9 a0_ a1_ a1_ C hR  ok h
  · have h := (if_pos c7).symm.trans h
    have ok := ok.1 c7
    refine r_iload_n C 0 (dall tdX5_lowest 2 rfl) rfl ?_
    refine r_goto (tgt := 9) C (dall tdX5_lowest 3 rfl) (by decide) ?_
    refine r_pick [0, 1] rfl ?_
    exact wX5_lowest_9 a0_ a1_ a0_ C hR  ok h
def fX5_lowest (a0_ : Int32) (a1_ : Int32) (a2_ : Int32) : Int32 := pX5_lowest_0  a0_ a1_ a2_
def gX5_lowest (a0_ : Int32) (a1_ : Int32) (a2_ : Int32) : Prop := oX5_lowest_0  a0_ a1_ a2_
set_option maxRecDepth 100000 in
theorem zX5_lowest  {D : va_G} (a0_ : Int32) (a1_ : Int32) (a2_ : Int32) (ok : gX5_lowest a0_ a1_ a2_)  {tys : List (ClassId × FieldType)} : Con yX5_lowest cX5_lowest 5 (some .int) 0 0 0 D tys [.int a0_, .int a1_, .int a2_] ([]) (eI ([]) (fX5_lowest a0_ a1_ a2_)) :=
  Con.of (own := RX5) (by decide +kernel) rfl (Nat.le_of_ble_eq_true rfl) (Nat.zero_le _) (fun X A C hR _ => (wX5_lowest_0 a0_ a1_ a2_ C hR  ok rfl))
theorem ms_X5_lowest : MS_ yX5_lowest cX5_lowest 5 (some .int) 3 := ⟨ks_X5_lowest, kn_X5, kc_X5_lowest, by decide +kernel⟩

def tbJ3_checkIndex_8e157 : List (Nat × Instr × Nat) := [(0, .iload_n 0, 1), (1, .ifCond .lt 8, 3), (4, .iload_n 0, 1), (5, .iload_n 1, 1), (6, .if_icmp .lt 10, 3), (9, .aload_n 2, 1), (10, .iload_n 0, 1), (11, .iload_n 1, 1), (12, .invokestatic 95, 3), (15, .athrow, 1), (16, .iload_n 0, 1), (17, .ireturn, 1)]
theorem tdJ3_checkIndex_8e157 : tbJ3_checkIndex_8e157.all (fun q => decide (decode cJ3_checkIndex_8e157 q.1 = .ok q.2)) = true := by decide +kernel
def tbJ0_checkIndex_df160 : List (Nat × Instr × Nat) := [(0, .iload_n 0, 1), (1, .iload_n 1, 1), (2, .getstatic 1053, 3), (5, .invokestatic 1059, 3), (8, .pop, 1), (9, .return_, 1)]
theorem tdJ0_checkIndex_df160 : tbJ0_checkIndex_df160.all (fun q => decide (decode cJ0_checkIndex_df160 q.1 = .ok q.2)) = true := by decide +kernel
theorem zJ3_checkIndex_8e157 (i n : Int32) (v : Value) (hv : v.category = 1) (h1 : ¬ i < 0) (h2 : i < n) {D : va_G} {tys : List (ClassId × FieldType)} : Con yJ3_checkIndex_8e157 cJ3_checkIndex_8e157 3 (some .int) 0 0 0 D tys [.int i, .int n, v] [] (eI [] i) := by
  refine Con.of (own := RJ3) (by decide +kernel) rfl (by have e : lg_sl [.int i, .int n, v] = [.val (.int i), .val (.int n), .val v] := (by unfold lg_sl; simp only [List.flatMap_cons, List.flatMap_nil, hv]; rfl); rw [e]; exact Nat.le_refl 3) (Nat.zero_le _) (fun X A C hR _ => ?_)
  refine r_pick (lv' := [(0, .int i), (1, .int n)]) [0, 1] rfl ?_
  refine r_iload_n C 0 (dall tdJ3_checkIndex_8e157 0 rfl) rfl ?_
  refine r_if_lt (tgt := 9) C (dall tdJ3_checkIndex_8e157 1 rfl) (by decide) (fun c => absurd c h1) (fun _ => ?_)
  refine r_iload_n C 0 (dall tdJ3_checkIndex_8e157 2 rfl) rfl ?_
  refine r_iload_n C 1 (dall tdJ3_checkIndex_8e157 3 rfl) rfl ?_
  refine r_icmp_lt (tgt := 16) C (dall tdJ3_checkIndex_8e157 4 rfl) (by decide) (fun _ => ?_) (fun c => absurd h2 c)
  refine r_iload_n C 0 (dall tdJ3_checkIndex_8e157 10 rfl) rfl ?_
  exact r_iret C hR (dall tdJ3_checkIndex_8e157 11 rfl) ⟨rfl, rfl⟩
theorem ms_J3_checkIndex_8e157 : MS_ yJ3_checkIndex_8e157 cJ3_checkIndex_8e157 3 (some .int) 3 := ⟨ks_J3_checkIndex_8e157, kn_J3, kc_J3_checkIndex_8e157, by decide +kernel⟩
def gJ0_checkIndex_df160 (i n : Int32) : Prop := ¬ i < 0 ∧ i < n
theorem zJ0_checkIndex_df160 (i n : Int32) (ok : gJ0_checkIndex_df160 i n) {D : va_G} {tys : List (ClassId × FieldType)} : Con yJ0_checkIndex_df160 cJ0_checkIndex_df160 2 none 1 0 0 D tys [.int i, .int n] [] (eV []) := by
  refine Con.of (own := RJ0) (by decide +kernel) rfl (Nat.le_of_ble_eq_true rfl) (Nat.zero_le _) (fun X A C hR _ => ?_)
  refine r_iload_n C 0 (dall tdJ0_checkIndex_df160 0 rfl) rfl ?_
  refine r_iload_n C 1 (dall tdJ0_checkIndex_df160 1 rfl) rfl ?_
  refine rg_SIOOBE C kf_J0_1053 (dall tdJ0_checkIndex_df160 2 rfl) (fun v hv => ?_)
  refine r_s0I (as := [.int i, .int n, v]) C (zJ3_checkIndex_8e157 i n v hv ok.1 ok.2) ms_J3_checkIndex_8e157 km_J0_1059 (by decide) (by decide) ⟨Nat.le_refl _, Nat.le_refl _⟩ rfl rfl (Nat.le_of_ble_eq_true rfl) (dall tdJ0_checkIndex_df160 3 rfl) ?_
  refine r_pop C (dall tdJ0_checkIndex_df160 4 rfl) rfl ?_
  exact r_vret C hR (dall tdJ0_checkIndex_df160 5 rfl) ⟨rfl, rfl⟩
theorem ms_J0_checkIndex_df160 : MS_ yJ0_checkIndex_df160 cJ0_checkIndex_df160 2 none 2 := ⟨ks_J0_checkIndex_df160, kn_J0, kc_J0_checkIndex_df160, by decide +kernel⟩
def tbJ1_canEncode_9a6ad : List (Nat × Instr × Nat) := [(0, .iload_n 0, 1), (1, .ifCond .lt 14, 3), (4, .iload_n 0, 1), (5, .sipush 255, 3), (8, .if_icmp .gt 7, 3), (11, .iconst 1, 1), (12, .goto 4, 3), (15, .iconst 0, 1), (16, .ireturn, 1)]
theorem tdJ1_canEncode_9a6ad : tbJ1_canEncode_9a6ad.all (fun q => decide (decode cJ1_canEncode_9a6ad q.1 = .ok q.2)) = true := by decide +kernel
def pJ1_canEncode_9a6ad_0  (a0_ : Int32) : Int32 := if a0_ < 0 then 0 else if 255 < a0_ then 0 else 1
set_option maxHeartbeats 4000000 in
set_option maxRecDepth 100000 in
theorem wJ1_canEncode_9a6ad_0 {X : CX} {tys : List (ClassId × FieldType)} {D : va_G} {A : Nat → Prop} {res : Int32} (a0_ : Int32) (C : Cx X cJ1_canEncode_9a6ad RJ1 1 D tys A 0 0 0) (hR : Rt X (some .boolean) D tys A 0 0 (eI ([]) res))  (h : pJ1_canEncode_9a6ad_0  a0_ = res) : At X D A 1 0 0 0 [(0, .int a0_)] [] (([] : va_W)) := by
  unfold pJ1_canEncode_9a6ad_0 at h
  refine r_iload_n C 0 (dall tdJ1_canEncode_9a6ad 0 rfl) rfl ?_
  refine r_if_lt (tgt := 15) C (dall tdJ1_canEncode_9a6ad 1 rfl) (by decide) (fun c1 => ?_) (fun c1 => ?_)
  · have h := (if_pos c1).symm.trans h
    refine r_iconst (v := 0) C (dall tdJ1_canEncode_9a6ad 7 rfl) (by decide) ?_
    exact r_zret C (by decide) hR (dall tdJ1_canEncode_9a6ad 8 rfl) (by subst h; exact ⟨rfl, rfl⟩)
  · have h := (if_neg c1).symm.trans h
    refine r_iload_n C 0 (dall tdJ1_canEncode_9a6ad 2 rfl) rfl ?_
    refine r_sipush (v := 255) C (dall tdJ1_canEncode_9a6ad 3 rfl) (by decide) ?_
    refine r_icmp_gt (tgt := 15) C (dall tdJ1_canEncode_9a6ad 4 rfl) (by decide) (fun c2 => ?_) (fun c2 => ?_)
    · have h := (if_pos c2).symm.trans h
      refine r_iconst (v := 0) C (dall tdJ1_canEncode_9a6ad 7 rfl) (by decide) ?_
      exact r_zret C (by decide) hR (dall tdJ1_canEncode_9a6ad 8 rfl) (by subst h; exact ⟨rfl, rfl⟩)
    · have h := (if_neg c2).symm.trans h
      refine r_iconst (v := 1) C (dall tdJ1_canEncode_9a6ad 5 rfl) (by decide) ?_
      refine r_goto (tgt := 16) C (dall tdJ1_canEncode_9a6ad 6 rfl) (by decide) ?_
      exact r_zret C (by decide) hR (dall tdJ1_canEncode_9a6ad 8 rfl) (by subst h; exact ⟨rfl, rfl⟩)
def fJ1_canEncode_9a6ad (a0_ : Int32) : Int32 := pJ1_canEncode_9a6ad_0  a0_
set_option maxRecDepth 100000 in
theorem zJ1_canEncode_9a6ad  {D : va_G} (a0_ : Int32)  {tys : List (ClassId × FieldType)} : Con yJ1_canEncode_9a6ad cJ1_canEncode_9a6ad 1 (some .boolean) 0 0 0 D tys [.int a0_] ([]) (eI ([]) (fJ1_canEncode_9a6ad a0_)) :=
  Con.of (own := RJ1) (by decide +kernel) rfl (Nat.le_of_ble_eq_true rfl) (Nat.zero_le _) (fun X A C hR _ => (wJ1_canEncode_9a6ad_0 a0_ C hR  rfl))
theorem ms_J1_canEncode_9a6ad : MS_ yJ1_canEncode_9a6ad cJ1_canEncode_9a6ad 1 (some .boolean) 1 := ⟨ks_J1_canEncode_9a6ad, kn_J1, kc_J1_canEncode_9a6ad, by decide +kernel⟩
def tbJ0_isLatin1_aae02 : List (Nat × Instr × Nat) := [(0, .getstatic 38, 3), (3, .ifCond .eq 14, 3), (6, .aload_n 0, 1), (7, .getfield 15, 3), (10, .ifCond .ne 7, 3), (13, .iconst 1, 1), (14, .goto 4, 3), (17, .iconst 0, 1), (18, .ireturn, 1)]
theorem tdJ0_isLatin1_aae02 : tbJ0_isLatin1_aae02.all (fun q => decide (decode cJ0_isLatin1_aae02 q.1 = .ok q.2)) = true := by decide +kernel
def pJ0_isLatin1_aae02_s0_0   : Int32 := if (1 : Int32) = 0 then 0 else if (0 : Int32) = 0 then 1 else 0
set_option maxHeartbeats 4000000 in
set_option maxRecDepth 100000 in
theorem wJ0_isLatin1_aae02_s0_0 {X : CX} {tys : List (ClassId × FieldType)} {D : va_G} {A : Nat → Prop} {res : Int32}  (C : Cx X cJ0_isLatin1_aae02 RJ0 1 D tys A 0 0 0) (hR : Rt X (some .boolean) D tys A 0 0 (eI ([]) res))  (h : pJ0_isLatin1_aae02_s0_0   = res) : At X D A 1 0 0 0 [(0, .ref (D.2 101 0))] [] (([] : va_W)) := by
  unfold pJ0_isLatin1_aae02_s0_0 at h
  refine rg_COMPACT C kf_J0_38 (dall tdJ0_isLatin1_aae02 0 rfl) ?_
  refine r_if_eq (tgt := 17) C (dall tdJ0_isLatin1_aae02 1 rfl) (by decide) (fun c1 => ?_) (fun c1 => ?_)
  · have h := (if_pos c1).symm.trans h
    refine r_iconst (v := 0) C (dall tdJ0_isLatin1_aae02 7 rfl) (by decide) ?_
    exact r_zret C (by decide) hR (dall tdJ0_isLatin1_aae02 8 rfl) (by subst h; exact ⟨rfl, rfl⟩)
  · have h := (if_neg c1).symm.trans h
    refine r_aload_n C 0 (dall tdJ0_isLatin1_aae02 2 rfl) rfl ?_
    refine r_strC C 0 (by decide) kf_J0_15 (dall tdJ0_isLatin1_aae02 3 rfl) ?_
    refine r_if_ne (tgt := 17) C (dall tdJ0_isLatin1_aae02 4 rfl) (by decide) (fun c2 => ?_) (fun c2 => ?_)
    · have h := (if_neg c2).symm.trans h
      refine r_iconst (v := 0) C (dall tdJ0_isLatin1_aae02 7 rfl) (by decide) ?_
      exact r_zret C (by decide) hR (dall tdJ0_isLatin1_aae02 8 rfl) (by subst h; exact ⟨rfl, rfl⟩)
    · have h := (if_pos c2).symm.trans h
      refine r_iconst (v := 1) C (dall tdJ0_isLatin1_aae02 5 rfl) (by decide) ?_
      refine r_goto (tgt := 18) C (dall tdJ0_isLatin1_aae02 6 rfl) (by decide) ?_
      exact r_zret C (by decide) hR (dall tdJ0_isLatin1_aae02 8 rfl) (by subst h; exact ⟨rfl, rfl⟩)
def fJ0_isLatin1_aae02_s0  : Int32 := pJ0_isLatin1_aae02_s0_0  
set_option maxRecDepth 100000 in
theorem zJ0_isLatin1_aae02_s0  {D : va_G}   {tys : List (ClassId × FieldType)} : Con yJ0_isLatin1_aae02 cJ0_isLatin1_aae02 1 (some .boolean) 0 0 0 D tys [.ref (D.2 101 0)] ([]) (eI ([]) (fJ0_isLatin1_aae02_s0 )) :=
  Con.of (own := RJ0) (by decide +kernel) rfl (Nat.le_of_ble_eq_true rfl) (Nat.zero_le _) (fun X A C hR _ => (wJ0_isLatin1_aae02_s0_0  C hR  rfl))
theorem mv_J0_isLatin1_aae02_s0 : MV yJ0_isLatin1_aae02 cJ0_isLatin1_aae02 1 (some .boolean) RJ0 0 := ⟨ki_J0_isLatin1_aae02, kv_J0_isLatin1_aae02, kn_J0, kc_J0_isLatin1_aae02, by decide +kernel⟩
def tbJ1_charAt_3b067 : List (Nat × Instr × Nat) := [(0, .iload_n 1, 1), (1, .aload_n 0, 1), (2, .arraylength, 1), (3, .invokestatic 9, 3), (6, .aload_n 0, 1), (7, .iload_n 1, 1), (8, .baload, 1), (9, .sipush 255, 3), (12, .iand, 1), (13, .i2c, 1), (14, .ireturn, 1)]
theorem tdJ1_charAt_3b067 : tbJ1_charAt_3b067.all (fun q => decide (decode cJ1_charAt_3b067 q.1 = .ok q.2)) = true := by decide +kernel
def pJ1_charAt_3b067_s0_0  (a1_ : Int32) : Int32 := ((((bytS.getD 0 []).getD a1_.toNatClampNeg 0) &&& 255).toUInt32 % 65536).toInt32
def oJ1_charAt_3b067_s0_0  (a1_ : Int32) : Prop := (gJ0_checkIndex_df160 a1_ (Int32.ofNat (lenS.getD 0 0))) ∧ ((vp_in a1_ (lenS.getD 0 0)) ∧ (narrow .char (.int (((((bytS.getD 0 []).getD a1_.toNatClampNeg 0) &&& 255).toUInt32 % 65536).toInt32)) = .int (((((bytS.getD 0 []).getD a1_.toNatClampNeg 0) &&& 255).toUInt32 % 65536).toInt32)))
set_option maxHeartbeats 4000000 in
set_option maxRecDepth 100000 in
theorem wJ1_charAt_3b067_s0_0 {X : CX} {tys : List (ClassId × FieldType)} {D : va_G} {A : Nat → Prop} {res : Int32} (a1_ : Int32) (C : Cx X cJ1_charAt_3b067 RJ1 2 D tys A 2 0 0) (hR : Rt X (some .char) D tys A 0 0 (eI ([]) res))  (ok : oJ1_charAt_3b067_s0_0  a1_) (h : pJ1_charAt_3b067_s0_0  a1_ = res) : At X D A 2 0 0 0 [(0, .ref (D.2 102 0)), (1, .int a1_)] [] (([] : va_W)) := by
  unfold pJ1_charAt_3b067_s0_0 at h
  unfold oJ1_charAt_3b067_s0_0 at ok
  refine r_iload_n C 1 (dall tdJ1_charAt_3b067 0 rfl) rfl ?_
  refine r_aload_n C 0 (dall tdJ1_charAt_3b067 1 rfl) rfl ?_
  refine r_strN C 0 (by decide) (dall tdJ1_charAt_3b067 2 rfl) ?_
  obtain ⟨o1, ok⟩ := ok
  refine r_s0V (as := [.int a1_, .int (Int32.ofNat (lenS.getD 0 0))]) C (zJ0_checkIndex_df160 a1_ (Int32.ofNat (lenS.getD 0 0)) o1) ms_J0_checkIndex_df160 km_J1_9 (by decide) (by decide) ⟨Nat.le_refl _, Nat.le_refl _⟩ rfl rfl (Nat.le_of_ble_eq_true rfl) (dall tdJ1_charAt_3b067 3 rfl) ?_
  refine r_aload_n C 0 (dall tdJ1_charAt_3b067 4 rfl) rfl ?_
  refine r_iload_n C 1 (dall tdJ1_charAt_3b067 5 rfl) rfl ?_
  obtain ⟨o2, ok⟩ := ok
  refine r_strB C 0 (by decide) o2 (dall tdJ1_charAt_3b067 6 rfl) ?_
  refine r_sipush (v := 255) C (dall tdJ1_charAt_3b067 7 rfl) (by decide) ?_
  refine r_iand C (dall tdJ1_charAt_3b067 8 rfl) ?_
  refine r_i2c C (dall tdJ1_charAt_3b067 9 rfl) ?_
  have o3 := ok
  exact r_zret C o3 hR (dall tdJ1_charAt_3b067 10 rfl) (by subst h; exact ⟨rfl, rfl⟩)
def fJ1_charAt_3b067_s0 (a1_ : Int32) : Int32 := pJ1_charAt_3b067_s0_0  a1_
def gJ1_charAt_3b067_s0 (a1_ : Int32) : Prop := oJ1_charAt_3b067_s0_0  a1_
set_option maxRecDepth 100000 in
theorem zJ1_charAt_3b067_s0  {D : va_G} (a1_ : Int32) (ok : gJ1_charAt_3b067_s0 a1_)  {tys : List (ClassId × FieldType)} : Con yJ1_charAt_3b067 cJ1_charAt_3b067 2 (some .char) 2 0 0 D tys [.ref (D.2 102 0), .int a1_] ([]) (eI ([]) (fJ1_charAt_3b067_s0 a1_)) :=
  Con.of (own := RJ1) (by decide +kernel) rfl (Nat.le_of_ble_eq_true rfl) (Nat.zero_le _) (fun X A C hR _ => (wJ1_charAt_3b067_s0_0 a1_ C hR  ok rfl))
theorem ms_J1_charAt_3b067_s0 : MS_ yJ1_charAt_3b067 cJ1_charAt_3b067 2 (some .char) 2 := ⟨ks_J1_charAt_3b067, kn_J1, kc_J1_charAt_3b067, by decide +kernel⟩
def tbJ0_charAt_5068e : List (Nat × Instr × Nat) := [(0, .aload_n 0, 1), (1, .invokevirtual 492, 3), (4, .ifCond .eq 12, 3), (7, .aload_n 0, 1), (8, .getfield 9, 3), (11, .iload_n 1, 1), (12, .invokestatic 495, 3), (15, .ireturn, 1), (16, .aload_n 0, 1), (17, .getfield 9, 3), (20, .iload_n 1, 1), (21, .invokestatic 498, 3), (24, .ireturn, 1)]
theorem tdJ0_charAt_5068e : tbJ0_charAt_5068e.all (fun q => decide (decode cJ0_charAt_5068e q.1 = .ok q.2)) = true := by decide +kernel
def pJ0_charAt_5068e_s0_0  (a1_ : Int32) : Int32 := if fJ0_isLatin1_aae02_s0 = 0 then 0 else fJ1_charAt_3b067_s0 a1_
def oJ0_charAt_5068e_s0_0  (a1_ : Int32) : Prop := (fJ0_isLatin1_aae02_s0 = 0 → False) ∧ (¬ (fJ0_isLatin1_aae02_s0 = 0) → (gJ1_charAt_3b067_s0 a1_) ∧ (narrow .char (.int (fJ1_charAt_3b067_s0 a1_)) = .int (fJ1_charAt_3b067_s0 a1_)))
set_option maxHeartbeats 4000000 in
set_option maxRecDepth 100000 in
theorem wJ0_charAt_5068e_s0_0 {X : CX} {tys : List (ClassId × FieldType)} {D : va_G} {A : Nat → Prop} {res : Int32} (a1_ : Int32) (C : Cx X cJ0_charAt_5068e RJ0 2 D tys A 3 0 0) (hR : Rt X (some .char) D tys A 0 0 (eI ([]) res))  (ok : oJ0_charAt_5068e_s0_0  a1_) (h : pJ0_charAt_5068e_s0_0  a1_ = res) : At X D A 2 0 0 0 [(0, .ref (D.2 101 0)), (1, .int a1_)] [] (([] : va_W)) := by
  unfold pJ0_charAt_5068e_s0_0 at h
  unfold oJ0_charAt_5068e_s0_0 at ok
  refine r_aload_n C 0 (dall tdJ0_charAt_5068e 0 rfl) rfl ?_
  refine r_strI (as := []) C 0 (by decide) (zJ0_isLatin1_aae02_s0  ) mv_J0_isLatin1_aae02_s0 km_J0_492 (by decide) (by decide) ⟨Nat.le_refl _, Nat.le_refl _⟩ rfl rfl (Nat.le_of_ble_eq_true rfl) (dall tdJ0_charAt_5068e 1 rfl) ?_
  refine r_if_eq (tgt := 16) C (dall tdJ0_charAt_5068e 2 rfl) (by decide) (fun c1 => ?_) (fun c1 => ?_)
  · have h := (if_pos c1).symm.trans h
    have ok := ok.1 c1
    refine r_aload_n C 0 (dall tdJ0_charAt_5068e 8 rfl) rfl ?_
    refine r_strV C 0 (by decide) kf_J0_9 (dall tdJ0_charAt_5068e 9 rfl) ?_
    refine r_iload_n C 1 (dall tdJ0_charAt_5068e 10 rfl) rfl ?_
    exact ok.elim
  · have h := (if_neg c1).symm.trans h
    have ok := ok.2 c1
    refine r_aload_n C 0 (dall tdJ0_charAt_5068e 3 rfl) rfl ?_
    refine r_strV C 0 (by decide) kf_J0_9 (dall tdJ0_charAt_5068e 4 rfl) ?_
    refine r_iload_n C 1 (dall tdJ0_charAt_5068e 5 rfl) rfl ?_
    obtain ⟨o2, ok⟩ := ok
    refine r_s0I (as := [.ref (D.2 102 0), .int a1_]) C (zJ1_charAt_3b067_s0 a1_ o2) ms_J1_charAt_3b067_s0 km_J0_495 (by decide) (by decide) ⟨Nat.le_refl _, Nat.le_refl _⟩ rfl rfl (Nat.le_of_ble_eq_true rfl) (dall tdJ0_charAt_5068e 6 rfl) ?_
    have o3 := ok
    exact r_zret C o3 hR (dall tdJ0_charAt_5068e 7 rfl) (by subst h; exact ⟨rfl, rfl⟩)
def fJ0_charAt_5068e_s0 (a1_ : Int32) : Int32 := pJ0_charAt_5068e_s0_0  a1_
def gJ0_charAt_5068e_s0 (a1_ : Int32) : Prop := oJ0_charAt_5068e_s0_0  a1_
set_option maxRecDepth 100000 in
theorem zJ0_charAt_5068e_s0  {D : va_G} (a1_ : Int32) (ok : gJ0_charAt_5068e_s0 a1_)  {tys : List (ClassId × FieldType)} : Con yJ0_charAt_5068e cJ0_charAt_5068e 2 (some .char) 3 0 0 D tys [.ref (D.2 101 0), .int a1_] ([]) (eI ([]) (fJ0_charAt_5068e_s0 a1_)) :=
  Con.of (own := RJ0) (by decide +kernel) rfl (Nat.le_of_ble_eq_true rfl) (Nat.zero_le _) (fun X A C hR _ => (wJ0_charAt_5068e_s0_0 a1_ C hR  ok rfl))
theorem mv_J0_charAt_5068e_s0 : MV yJ0_charAt_5068e cJ0_charAt_5068e 2 (some .char) RJ0 1 := ⟨ki_J0_charAt_5068e, kv_J0_charAt_5068e, kn_J0, kc_J0_charAt_5068e, by decide +kernel⟩
def pJ0_isLatin1_aae02_s1_0   : Int32 := if (1 : Int32) = 0 then 0 else if (0 : Int32) = 0 then 1 else 0
set_option maxHeartbeats 4000000 in
set_option maxRecDepth 100000 in
theorem wJ0_isLatin1_aae02_s1_0 {X : CX} {tys : List (ClassId × FieldType)} {D : va_G} {A : Nat → Prop} {res : Int32}  (C : Cx X cJ0_isLatin1_aae02 RJ0 1 D tys A 0 0 0) (hR : Rt X (some .boolean) D tys A 0 0 (eI ([]) res))  (h : pJ0_isLatin1_aae02_s1_0   = res) : At X D A 1 0 0 0 [(0, .ref (D.2 101 1))] [] (([] : va_W)) := by
  unfold pJ0_isLatin1_aae02_s1_0 at h
  refine rg_COMPACT C kf_J0_38 (dall tdJ0_isLatin1_aae02 0 rfl) ?_
  refine r_if_eq (tgt := 17) C (dall tdJ0_isLatin1_aae02 1 rfl) (by decide) (fun c1 => ?_) (fun c1 => ?_)
  · have h := (if_pos c1).symm.trans h
    refine r_iconst (v := 0) C (dall tdJ0_isLatin1_aae02 7 rfl) (by decide) ?_
    exact r_zret C (by decide) hR (dall tdJ0_isLatin1_aae02 8 rfl) (by subst h; exact ⟨rfl, rfl⟩)
  · have h := (if_neg c1).symm.trans h
    refine r_aload_n C 0 (dall tdJ0_isLatin1_aae02 2 rfl) rfl ?_
    refine r_strC C 1 (by decide) kf_J0_15 (dall tdJ0_isLatin1_aae02 3 rfl) ?_
    refine r_if_ne (tgt := 17) C (dall tdJ0_isLatin1_aae02 4 rfl) (by decide) (fun c2 => ?_) (fun c2 => ?_)
    · have h := (if_neg c2).symm.trans h
      refine r_iconst (v := 0) C (dall tdJ0_isLatin1_aae02 7 rfl) (by decide) ?_
      exact r_zret C (by decide) hR (dall tdJ0_isLatin1_aae02 8 rfl) (by subst h; exact ⟨rfl, rfl⟩)
    · have h := (if_pos c2).symm.trans h
      refine r_iconst (v := 1) C (dall tdJ0_isLatin1_aae02 5 rfl) (by decide) ?_
      refine r_goto (tgt := 18) C (dall tdJ0_isLatin1_aae02 6 rfl) (by decide) ?_
      exact r_zret C (by decide) hR (dall tdJ0_isLatin1_aae02 8 rfl) (by subst h; exact ⟨rfl, rfl⟩)
def fJ0_isLatin1_aae02_s1  : Int32 := pJ0_isLatin1_aae02_s1_0  
set_option maxRecDepth 100000 in
theorem zJ0_isLatin1_aae02_s1  {D : va_G}   {tys : List (ClassId × FieldType)} : Con yJ0_isLatin1_aae02 cJ0_isLatin1_aae02 1 (some .boolean) 0 0 0 D tys [.ref (D.2 101 1)] ([]) (eI ([]) (fJ0_isLatin1_aae02_s1 )) :=
  Con.of (own := RJ0) (by decide +kernel) rfl (Nat.le_of_ble_eq_true rfl) (Nat.zero_le _) (fun X A C hR _ => (wJ0_isLatin1_aae02_s1_0  C hR  rfl))
theorem mv_J0_isLatin1_aae02_s1 : MV yJ0_isLatin1_aae02 cJ0_isLatin1_aae02 1 (some .boolean) RJ0 0 := ⟨ki_J0_isLatin1_aae02, kv_J0_isLatin1_aae02, kn_J0, kc_J0_isLatin1_aae02, by decide +kernel⟩
def tbJ0_coder_7d493 : List (Nat × Instr × Nat) := [(0, .getstatic 38, 3), (3, .ifCond .eq 10, 3), (6, .aload_n 0, 1), (7, .getfield 15, 3), (10, .goto 4, 3), (13, .iconst 1, 1), (14, .ireturn, 1)]
theorem tdJ0_coder_7d493 : tbJ0_coder_7d493.all (fun q => decide (decode cJ0_coder_7d493 q.1 = .ok q.2)) = true := by decide +kernel
def pJ0_coder_7d493_s1_0   : Int32 := if (1 : Int32) = 0 then 1 else 0
set_option maxHeartbeats 4000000 in
set_option maxRecDepth 100000 in
theorem wJ0_coder_7d493_s1_0 {X : CX} {tys : List (ClassId × FieldType)} {D : va_G} {A : Nat → Prop} {res : Int32}  (C : Cx X cJ0_coder_7d493 RJ0 1 D tys A 0 0 0) (hR : Rt X (some .byte) D tys A 0 0 (eI ([]) res))  (h : pJ0_coder_7d493_s1_0   = res) : At X D A 1 0 0 0 [(0, .ref (D.2 101 1))] [] (([] : va_W)) := by
  unfold pJ0_coder_7d493_s1_0 at h
  refine rg_COMPACT C kf_J0_38 (dall tdJ0_coder_7d493 0 rfl) ?_
  refine r_if_eq (tgt := 13) C (dall tdJ0_coder_7d493 1 rfl) (by decide) (fun c1 => ?_) (fun c1 => ?_)
  · have h := (if_pos c1).symm.trans h
    refine r_iconst (v := 1) C (dall tdJ0_coder_7d493 5 rfl) (by decide) ?_
    exact r_zret C (by decide) hR (dall tdJ0_coder_7d493 6 rfl) (by subst h; exact ⟨rfl, rfl⟩)
  · have h := (if_neg c1).symm.trans h
    refine r_aload_n C 0 (dall tdJ0_coder_7d493 2 rfl) rfl ?_
    refine r_strC C 1 (by decide) kf_J0_15 (dall tdJ0_coder_7d493 3 rfl) ?_
    refine r_goto (tgt := 14) C (dall tdJ0_coder_7d493 4 rfl) (by decide) ?_
    exact r_zret C (by decide) hR (dall tdJ0_coder_7d493 6 rfl) (by subst h; exact ⟨rfl, rfl⟩)
def fJ0_coder_7d493_s1  : Int32 := pJ0_coder_7d493_s1_0  
set_option maxRecDepth 100000 in
theorem zJ0_coder_7d493_s1  {D : va_G}   {tys : List (ClassId × FieldType)} : Con yJ0_coder_7d493 cJ0_coder_7d493 1 (some .byte) 0 0 0 D tys [.ref (D.2 101 1)] ([]) (eI ([]) (fJ0_coder_7d493_s1 )) :=
  Con.of (own := RJ0) (by decide +kernel) rfl (Nat.le_of_ble_eq_true rfl) (Nat.zero_le _) (fun X A C hR _ => (wJ0_coder_7d493_s1_0  C hR  rfl))
theorem mv_J0_coder_7d493_s1 : MV yJ0_coder_7d493 cJ0_coder_7d493 1 (some .byte) RJ0 0 := ⟨ki_J0_coder_7d493, kv_J0_coder_7d493, kn_J0, kc_J0_coder_7d493, by decide +kernel⟩
def tbJ0_length_8abf5 : List (Nat × Instr × Nat) := [(0, .aload_n 0, 1), (1, .getfield 9, 3), (4, .arraylength, 1), (5, .aload_n 0, 1), (6, .invokevirtual 335, 3), (9, .ishr, 1), (10, .ireturn, 1)]
theorem tdJ0_length_8abf5 : tbJ0_length_8abf5.all (fun q => decide (decode cJ0_length_8abf5 q.1 = .ok q.2)) = true := by decide +kernel
def pJ0_length_8abf5_s1_0   : Int32 := (Int32.ofNat (lenS.getD 1 0)) >>> (fJ0_coder_7d493_s1 &&& 31)
set_option maxHeartbeats 4000000 in
set_option maxRecDepth 100000 in
theorem wJ0_length_8abf5_s1_0 {X : CX} {tys : List (ClassId × FieldType)} {D : va_G} {A : Nat → Prop} {res : Int32}  (C : Cx X cJ0_length_8abf5 RJ0 1 D tys A 1 0 0) (hR : Rt X (some .int) D tys A 0 0 (eI ([]) res))  (h : pJ0_length_8abf5_s1_0   = res) : At X D A 1 0 0 0 [(0, .ref (D.2 101 1))] [] (([] : va_W)) := by
  unfold pJ0_length_8abf5_s1_0 at h
  refine r_aload_n C 0 (dall tdJ0_length_8abf5 0 rfl) rfl ?_
  refine r_strV C 1 (by decide) kf_J0_9 (dall tdJ0_length_8abf5 1 rfl) ?_
  refine r_strN C 1 (by decide) (dall tdJ0_length_8abf5 2 rfl) ?_
  refine r_aload_n C 0 (dall tdJ0_length_8abf5 3 rfl) rfl ?_
  refine r_strI (as := []) C 1 (by decide) (zJ0_coder_7d493_s1  ) mv_J0_coder_7d493_s1 km_J0_335 (by decide) (by decide) ⟨Nat.le_refl _, Nat.le_refl _⟩ rfl rfl (Nat.le_of_ble_eq_true rfl) (dall tdJ0_length_8abf5 4 rfl) ?_
  refine r_ishr C (dall tdJ0_length_8abf5 5 rfl) ?_
  exact r_iret C hR (dall tdJ0_length_8abf5 6 rfl) (by subst h; exact ⟨rfl, rfl⟩)
def fJ0_length_8abf5_s1  : Int32 := pJ0_length_8abf5_s1_0  
set_option maxRecDepth 100000 in
theorem zJ0_length_8abf5_s1  {D : va_G}   {tys : List (ClassId × FieldType)} : Con yJ0_length_8abf5 cJ0_length_8abf5 1 (some .int) 1 0 0 D tys [.ref (D.2 101 1)] ([]) (eI ([]) (fJ0_length_8abf5_s1 )) :=
  Con.of (own := RJ0) (by decide +kernel) rfl (Nat.le_of_ble_eq_true rfl) (Nat.zero_le _) (fun X A C hR _ => (wJ0_length_8abf5_s1_0  C hR  rfl))
theorem mv_J0_length_8abf5_s1 : MV yJ0_length_8abf5 cJ0_length_8abf5 1 (some .int) RJ0 0 := ⟨ki_J0_length_8abf5, kv_J0_length_8abf5, kn_J0, kc_J0_length_8abf5, by decide +kernel⟩
def tbJ1_indexOfChar_4cfef : List (Nat × Instr × Nat) := [(0, .iload_n 1, 1), (1, .i2b, 1), (2, .istore 4, 2), (4, .iload_n 2, 1), (5, .istore 5, 2), (7, .iload 5, 2), (9, .iload_n 3, 1), (10, .if_icmp .ge 21, 3), (13, .aload_n 0, 1), (14, .iload 5, 2), (16, .baload, 1), (17, .iload 4, 2), (19, .if_icmp .ne 6, 3), (22, .iload 5, 2), (24, .ireturn, 1), (25, .iinc 5 1, 3), (28, .goto (-21), 3), (31, .iconst (-1), 1), (32, .ireturn, 1)]
theorem tdJ1_indexOfChar_4cfef : tbJ1_indexOfChar_4cfef.all (fun q => decide (decode cJ1_indexOfChar_4cfef q.1 = .ok q.2)) = true := by decide +kernel
def bJ1_indexOfChar_4cfef_s1_7 (a3_ : Int32) (a4_ : Int32)  (kR7 : Int32 → Int32) (v : Int32) : Int32 := if a3_ ≤ v then (-1) else if ((bytS.getD 1 []).getD v.toNatClampNeg 0) = a4_ then v else kR7 (v + 1)
def kJ1_indexOfChar_4cfef_s1_7 (a3_ : Int32) (a4_ : Int32)  (kO7 : Int32 → Prop) (v : Int32) : Prop := (a3_ ≤ v → True) ∧ (¬ (a3_ ≤ v) → (vp_in v (lenS.getD 1 0)) ∧ ((((bytS.getD 1 []).getD v.toNatClampNeg 0) = a4_ → True) ∧ (¬ (((bytS.getD 1 []).getD v.toNatClampNeg 0) = a4_) → kO7 (v + 1))))
set_option maxHeartbeats 4000000 in
set_option maxRecDepth 100000 in
theorem wJ1_indexOfChar_4cfef_s1_7 {X : CX} {tys : List (ClassId × FieldType)} {D : va_G} {A : Nat → Prop} {res : Int32} (a3_ : Int32) (a4_ : Int32) (C : Cx X cJ1_indexOfChar_4cfef RJ1 6 D tys A 0 0 0) (hR : Rt X (some .int) D tys A 0 0 (eI ([]) res)) (kR7 : Int32 → Int32) (kO7 : Int32 → Prop) (hk7 : ∀ z, kO7 z → kR7 z = res → At X D A 6 0 0 7 [(0, .ref (D.2 102 1)), (3, .int a3_), (4, .int a4_), (5, .int z)] [] (([] : va_W))) (v : Int32) (ok : kJ1_indexOfChar_4cfef_s1_7 a3_ a4_ kO7 v) (h : bJ1_indexOfChar_4cfef_s1_7 a3_ a4_ kR7 v = res) : At X D A 6 0 0 7 [(0, .ref (D.2 102 1)), (3, .int a3_), (4, .int a4_), (5, .int v)] [] (([] : va_W)) := by
  unfold bJ1_indexOfChar_4cfef_s1_7 at h
  unfold kJ1_indexOfChar_4cfef_s1_7 at ok
  refine r_iload C 3 (dall tdJ1_indexOfChar_4cfef 5 rfl) rfl ?_
  refine r_iload_n C 1 (dall tdJ1_indexOfChar_4cfef 6 rfl) rfl ?_
  refine r_icmp_ge (tgt := 31) C (dall tdJ1_indexOfChar_4cfef 7 rfl) (by decide) (fun c1 => ?_) (fun c1 => ?_)
  · have h := (if_pos c1).symm.trans h
    have ok := ok.1 c1
    refine r_iconst (v := -1) C (dall tdJ1_indexOfChar_4cfef 17 rfl) (by decide) ?_
    exact r_iret C hR (dall tdJ1_indexOfChar_4cfef 18 rfl) (by subst h; exact ⟨rfl, rfl⟩)
  · have h := (if_neg c1).symm.trans h
    have ok := ok.2 c1
    refine r_aload_n C 0 (dall tdJ1_indexOfChar_4cfef 8 rfl) rfl ?_
    refine r_iload C 3 (dall tdJ1_indexOfChar_4cfef 9 rfl) rfl ?_
    obtain ⟨o2, ok⟩ := ok
    refine r_strB C 1 (by decide) o2 (dall tdJ1_indexOfChar_4cfef 10 rfl) ?_
    refine r_iload C 2 (dall tdJ1_indexOfChar_4cfef 11 rfl) rfl ?_
    refine r_icmp_ne (tgt := 25) C (dall tdJ1_indexOfChar_4cfef 12 rfl) (by decide) (fun c3 => ?_) (fun c3 => ?_)
    · have h := (if_neg c3).symm.trans h
      have ok := ok.2 c3
      refine r_iinc (v := v + 1) (lv' := [(5, .int (v + 1)), (0, .ref (D.2 102 1)), (3, .int a3_), (4, .int a4_)]) C 3 (dall tdJ1_indexOfChar_4cfef 15 rfl) rfl rfl (by decide) rfl ?_
      refine r_goto (tgt := 7) C (dall tdJ1_indexOfChar_4cfef 16 rfl) (by decide) ?_
      refine r_pick [1, 2, 3, 0] rfl ?_
      exact hk7 (v + 1) ok h
    · have h := (if_pos c3).symm.trans h
      have ok := ok.1 c3
      refine r_iload C 3 (dall tdJ1_indexOfChar_4cfef 13 rfl) rfl ?_
      exact r_iret C hR (dall tdJ1_indexOfChar_4cfef 14 rfl) (by subst h; exact ⟨rfl, rfl⟩)
set_option maxHeartbeats 4000000 in
set_option maxRecDepth 100000 in
theorem lJ1_indexOfChar_4cfef_s1_7 {X : CX} {tys : List (ClassId × FieldType)} {D : va_G} {A : Nat → Prop} {res : Int32} (a3_ : Int32) (a4_ : Int32) (C : Cx X cJ1_indexOfChar_4cfef RJ1 6 D tys A 0 0 0) (hR : Rt X (some .int) D tys A 0 0 (eI ([]) res))  (n : Nat) (v : Int32) (ok : lpOk (kJ1_indexOfChar_4cfef_s1_7 a3_ a4_ ) n v) (h : lp 0 (bJ1_indexOfChar_4cfef_s1_7 a3_ a4_ ) n v = res) : At X D A 6 0 0 7 [(0, .ref (D.2 102 1)), (3, .int a3_), (4, .int a4_), (5, .int v)] [] (([] : va_W)) :=
  lp_rule (fun v rr_ => rr_ = res → At X D A 6 0 0 7 [(0, .ref (D.2 102 1)), (3, .int a3_), (4, .int a4_), (5, .int v)] [] (([] : va_W))) (fun kR kO hk v ok h => wJ1_indexOfChar_4cfef_s1_7 a3_ a4_ C hR  kR kO hk v ok h) n v ok h
def pJ1_indexOfChar_4cfef_s1_0  (a1_ : Int32) (a2_ : Int32) (a3_ : Int32) : Int32 := lp 0 (bJ1_indexOfChar_4cfef_s1_7 a3_ a1_.toInt8.toInt32 ) fu a2_
def oJ1_indexOfChar_4cfef_s1_0  (a1_ : Int32) (a2_ : Int32) (a3_ : Int32) : Prop := lpOk (kJ1_indexOfChar_4cfef_s1_7 a3_ a1_.toInt8.toInt32 ) fu a2_
set_option maxHeartbeats 4000000 in
set_option maxRecDepth 100000 in
theorem wJ1_indexOfChar_4cfef_s1_0 {X : CX} {tys : List (ClassId × FieldType)} {D : va_G} {A : Nat → Prop} {res : Int32} (a1_ : Int32) (a2_ : Int32) (a3_ : Int32) (C : Cx X cJ1_indexOfChar_4cfef RJ1 6 D tys A 0 0 0) (hR : Rt X (some .int) D tys A 0 0 (eI ([]) res))  (ok : oJ1_indexOfChar_4cfef_s1_0  a1_ a2_ a3_) (h : pJ1_indexOfChar_4cfef_s1_0  a1_ a2_ a3_ = res) : At X D A 6 0 0 0 [(0, .ref (D.2 102 1)), (1, .int a1_), (2, .int a2_), (3, .int a3_)] [] (([] : va_W)) := by
  unfold pJ1_indexOfChar_4cfef_s1_0 at h
  unfold oJ1_indexOfChar_4cfef_s1_0 at ok
  refine r_iload_n C 1 (dall tdJ1_indexOfChar_4cfef 0 rfl) rfl ?_
  refine r_i2b C (dall tdJ1_indexOfChar_4cfef 1 rfl) ?_
  refine r_istore (lv' := [(4, .int a1_.toInt8.toInt32), (0, .ref (D.2 102 1)), (1, .int a1_), (2, .int a2_), (3, .int a3_)]) C (dall tdJ1_indexOfChar_4cfef 2 rfl) (by decide) rfl ?_
  refine r_iload_n C 3 (dall tdJ1_indexOfChar_4cfef 3 rfl) rfl ?_
  refine r_istore (lv' := [(5, .int a2_), (4, .int a1_.toInt8.toInt32), (0, .ref (D.2 102 1)), (1, .int a1_), (2, .int a2_), (3, .int a3_)]) C (dall tdJ1_indexOfChar_4cfef 4 rfl) (by decide) rfl ?_
  refine r_pick [2, 5, 1, 0] rfl ?_
  exact lJ1_indexOfChar_4cfef_s1_7 a3_ a1_.toInt8.toInt32 C hR  fu _ ok h
def fJ1_indexOfChar_4cfef_s1 (a1_ : Int32) (a2_ : Int32) (a3_ : Int32) : Int32 := pJ1_indexOfChar_4cfef_s1_0  a1_ a2_ a3_
def gJ1_indexOfChar_4cfef_s1 (a1_ : Int32) (a2_ : Int32) (a3_ : Int32) : Prop := oJ1_indexOfChar_4cfef_s1_0  a1_ a2_ a3_
set_option maxRecDepth 100000 in
theorem zJ1_indexOfChar_4cfef_s1  {D : va_G} (a1_ : Int32) (a2_ : Int32) (a3_ : Int32) (ok : gJ1_indexOfChar_4cfef_s1 a1_ a2_ a3_)  {tys : List (ClassId × FieldType)} : Con yJ1_indexOfChar_4cfef cJ1_indexOfChar_4cfef 6 (some .int) 0 0 0 D tys [.ref (D.2 102 1), .int a1_, .int a2_, .int a3_] ([]) (eI ([]) (fJ1_indexOfChar_4cfef_s1 a1_ a2_ a3_)) :=
  Con.of (own := RJ1) (by decide +kernel) rfl (Nat.le_of_ble_eq_true rfl) (Nat.zero_le _) (fun X A C hR _ => (wJ1_indexOfChar_4cfef_s1_0 a1_ a2_ a3_ C hR  ok rfl))
theorem ms_J1_indexOfChar_4cfef_s1 : MS_ yJ1_indexOfChar_4cfef cJ1_indexOfChar_4cfef 6 (some .int) 4 := ⟨ks_J1_indexOfChar_4cfef, kn_J1, kc_J1_indexOfChar_4cfef, by decide +kernel⟩
def tbJ1_indexOf_4cfef : List (Nat × Instr × Nat) := [(0, .iload_n 1, 1), (1, .invokestatic 88, 3), (4, .ifCond .ne 5, 3), (7, .iconst (-1), 1), (8, .ireturn, 1), (9, .iload_n 2, 1), (10, .iconst 0, 1), (11, .invokestatic 92, 3), (14, .istore_n 2, 1), (15, .iload_n 3, 1), (16, .aload_n 0, 1), (17, .arraylength, 1), (18, .invokestatic 38, 3), (21, .istore_n 3, 1), (22, .iload_n 2, 1), (23, .iload_n 3, 1), (24, .if_icmp .lt 5, 3), (27, .iconst (-1), 1), (28, .ireturn, 1), (29, .aload_n 0, 1), (30, .iload_n 1, 1), (31, .iload_n 2, 1), (32, .iload_n 3, 1), (33, .invokestatic 95, 3), (36, .ireturn, 1)]
theorem tdJ1_indexOf_4cfef : tbJ1_indexOf_4cfef.all (fun q => decide (decode cJ1_indexOf_4cfef q.1 = .ok q.2)) = true := by decide +kernel
def pJ1_indexOf_4cfef_s1_0  (a1_ : Int32) (a2_ : Int32) (a3_ : Int32) : Int32 := if (fJ1_canEncode_9a6ad a1_) = 0 then (-1) else if (jmax a2_ 0) < (jmin a3_ (Int32.ofNat (lenS.getD 1 0))) then fJ1_indexOfChar_4cfef_s1 a1_ (jmax a2_ 0) (jmin a3_ (Int32.ofNat (lenS.getD 1 0))) else (-1)
def oJ1_indexOf_4cfef_s1_0  (a1_ : Int32) (a2_ : Int32) (a3_ : Int32) : Prop := ((fJ1_canEncode_9a6ad a1_) = 0 → True) ∧ (¬ ((fJ1_canEncode_9a6ad a1_) = 0) → ((jmax a2_ 0) < (jmin a3_ (Int32.ofNat (lenS.getD 1 0))) → gJ1_indexOfChar_4cfef_s1 a1_ (jmax a2_ 0) (jmin a3_ (Int32.ofNat (lenS.getD 1 0)))) ∧ (¬ ((jmax a2_ 0) < (jmin a3_ (Int32.ofNat (lenS.getD 1 0)))) → True))
set_option maxHeartbeats 4000000 in
set_option maxRecDepth 100000 in
theorem wJ1_indexOf_4cfef_s1_0 {X : CX} {tys : List (ClassId × FieldType)} {D : va_G} {A : Nat → Prop} {res : Int32} (a1_ : Int32) (a2_ : Int32) (a3_ : Int32) (C : Cx X cJ1_indexOf_4cfef RJ1 4 D tys A 1 0 0) (hR : Rt X (some .int) D tys A 0 0 (eI ([]) res))  (ok : oJ1_indexOf_4cfef_s1_0  a1_ a2_ a3_) (h : pJ1_indexOf_4cfef_s1_0  a1_ a2_ a3_ = res) : At X D A 4 0 0 0 [(0, .ref (D.2 102 1)), (1, .int a1_), (2, .int a2_), (3, .int a3_)] [] (([] : va_W)) := by
  unfold pJ1_indexOf_4cfef_s1_0 at h
  unfold oJ1_indexOf_4cfef_s1_0 at ok
  refine r_iload_n C 1 (dall tdJ1_indexOf_4cfef 0 rfl) rfl ?_
  refine r_s0I (as := [.int a1_]) C (zJ1_canEncode_9a6ad a1_ ) ms_J1_canEncode_9a6ad km_J1_88 (by decide) (by decide) ⟨Nat.le_refl _, Nat.le_refl _⟩ rfl rfl (Nat.le_of_ble_eq_true rfl) (dall tdJ1_indexOf_4cfef 1 rfl) ?_
  refine r_if_ne (tgt := 9) C (dall tdJ1_indexOf_4cfef 2 rfl) (by decide) (fun c1 => ?_) (fun c1 => ?_)
  · have h := (if_neg c1).symm.trans h
    have ok := ok.2 c1
    refine r_iload_n C 2 (dall tdJ1_indexOf_4cfef 5 rfl) rfl ?_
    refine r_iconst (v := 0) C (dall tdJ1_indexOf_4cfef 6 rfl) (by decide) ?_
    refine r_mmax C km_J1_92 (dall tdJ1_indexOf_4cfef 7 rfl) (by decide) (Nat.le_of_ble_eq_true rfl) ⟨Nat.le_refl _, Nat.le_refl _⟩ ?_
    refine r_istore_n (lv' := [(2, .int (jmax a2_ 0)), (0, .ref (D.2 102 1)), (1, .int a1_), (3, .int a3_)]) C (dall tdJ1_indexOf_4cfef 8 rfl) (by decide) rfl ?_
    refine r_iload_n C 3 (dall tdJ1_indexOf_4cfef 9 rfl) rfl ?_
    refine r_aload_n C 1 (dall tdJ1_indexOf_4cfef 10 rfl) rfl ?_
    refine r_strN C 1 (by decide) (dall tdJ1_indexOf_4cfef 11 rfl) ?_
    refine r_mmin C km_J1_38 (dall tdJ1_indexOf_4cfef 12 rfl) (by decide) (Nat.le_of_ble_eq_true rfl) ⟨Nat.le_refl _, Nat.le_refl _⟩ ?_
    refine r_istore_n (lv' := [(3, .int (jmin a3_ (Int32.ofNat (lenS.getD 1 0)))), (2, .int (jmax a2_ 0)), (0, .ref (D.2 102 1)), (1, .int a1_)]) C (dall tdJ1_indexOf_4cfef 13 rfl) (by decide) rfl ?_
    refine r_iload_n C 1 (dall tdJ1_indexOf_4cfef 14 rfl) rfl ?_
    refine r_iload_n C 0 (dall tdJ1_indexOf_4cfef 15 rfl) rfl ?_
    refine r_icmp_lt (tgt := 29) C (dall tdJ1_indexOf_4cfef 16 rfl) (by decide) (fun c2 => ?_) (fun c2 => ?_)
    · have h := (if_pos c2).symm.trans h
      have ok := ok.1 c2
      refine r_aload_n C 2 (dall tdJ1_indexOf_4cfef 19 rfl) rfl ?_
      refine r_iload_n C 3 (dall tdJ1_indexOf_4cfef 20 rfl) rfl ?_
      refine r_iload_n C 1 (dall tdJ1_indexOf_4cfef 21 rfl) rfl ?_
      refine r_iload_n C 0 (dall tdJ1_indexOf_4cfef 22 rfl) rfl ?_
      have o3 := ok
      refine r_s0I (as := [.ref (D.2 102 1), .int a1_, .int (jmax a2_ 0), .int (jmin a3_ (Int32.ofNat (lenS.getD 1 0)))]) C (zJ1_indexOfChar_4cfef_s1 a1_ (jmax a2_ 0) (jmin a3_ (Int32.ofNat (lenS.getD 1 0))) o3) ms_J1_indexOfChar_4cfef_s1 km_J1_95 (by decide) (by decide) ⟨Nat.le_refl _, Nat.le_refl _⟩ rfl rfl (Nat.le_of_ble_eq_true rfl) (dall tdJ1_indexOf_4cfef 23 rfl) ?_
      exact r_iret C hR (dall tdJ1_indexOf_4cfef 24 rfl) (by subst h; exact ⟨rfl, rfl⟩)
    · have h := (if_neg c2).symm.trans h
      have ok := ok.2 c2
      refine r_iconst (v := -1) C (dall tdJ1_indexOf_4cfef 17 rfl) (by decide) ?_
      exact r_iret C hR (dall tdJ1_indexOf_4cfef 18 rfl) (by subst h; exact ⟨rfl, rfl⟩)
  · have h := (if_pos c1).symm.trans h
    have ok := ok.1 c1
    refine r_iconst (v := -1) C (dall tdJ1_indexOf_4cfef 3 rfl) (by decide) ?_
    exact r_iret C hR (dall tdJ1_indexOf_4cfef 4 rfl) (by subst h; exact ⟨rfl, rfl⟩)
def fJ1_indexOf_4cfef_s1 (a1_ : Int32) (a2_ : Int32) (a3_ : Int32) : Int32 := pJ1_indexOf_4cfef_s1_0  a1_ a2_ a3_
def gJ1_indexOf_4cfef_s1 (a1_ : Int32) (a2_ : Int32) (a3_ : Int32) : Prop := oJ1_indexOf_4cfef_s1_0  a1_ a2_ a3_
set_option maxRecDepth 100000 in
theorem zJ1_indexOf_4cfef_s1  {D : va_G} (a1_ : Int32) (a2_ : Int32) (a3_ : Int32) (ok : gJ1_indexOf_4cfef_s1 a1_ a2_ a3_)  {tys : List (ClassId × FieldType)} : Con yJ1_indexOf_4cfef cJ1_indexOf_4cfef 4 (some .int) 1 0 0 D tys [.ref (D.2 102 1), .int a1_, .int a2_, .int a3_] ([]) (eI ([]) (fJ1_indexOf_4cfef_s1 a1_ a2_ a3_)) :=
  Con.of (own := RJ1) (by decide +kernel) rfl (Nat.le_of_ble_eq_true rfl) (Nat.zero_le _) (fun X A C hR _ => (wJ1_indexOf_4cfef_s1_0 a1_ a2_ a3_ C hR  ok rfl))
theorem ms_J1_indexOf_4cfef_s1 : MS_ yJ1_indexOf_4cfef cJ1_indexOf_4cfef 4 (some .int) 4 := ⟨ks_J1_indexOf_4cfef, kn_J1, kc_J1_indexOf_4cfef, by decide +kernel⟩
def tbJ0_indexOf_7cf53 : List (Nat × Instr × Nat) := [(0, .aload_n 0, 1), (1, .invokevirtual 492, 3), (4, .ifCond .eq 19, 3), (7, .aload_n 0, 1), (8, .getfield 9, 3), (11, .iload_n 1, 1), (12, .iload_n 2, 1), (13, .aload_n 0, 1), (14, .invokevirtual 505, 3), (17, .invokestatic 637, 3), (20, .goto 16, 3), (23, .aload_n 0, 1), (24, .getfield 9, 3), (27, .iload_n 1, 1), (28, .iload_n 2, 1), (29, .aload_n 0, 1), (30, .invokevirtual 505, 3), (33, .invokestatic 640, 3), (36, .ireturn, 1)]
theorem tdJ0_indexOf_7cf53 : tbJ0_indexOf_7cf53.all (fun q => decide (decode cJ0_indexOf_7cf53 q.1 = .ok q.2)) = true := by decide +kernel
def pJ0_indexOf_7cf53_s1_0  (a1_ : Int32) (a2_ : Int32) : Int32 := if fJ0_isLatin1_aae02_s1 = 0 then 0 else fJ1_indexOf_4cfef_s1 a1_ a2_ fJ0_length_8abf5_s1
def oJ0_indexOf_7cf53_s1_0  (a1_ : Int32) (a2_ : Int32) : Prop := (fJ0_isLatin1_aae02_s1 = 0 → False) ∧ (¬ (fJ0_isLatin1_aae02_s1 = 0) → gJ1_indexOf_4cfef_s1 a1_ a2_ fJ0_length_8abf5_s1)
set_option maxHeartbeats 4000000 in
set_option maxRecDepth 100000 in
theorem wJ0_indexOf_7cf53_s1_0 {X : CX} {tys : List (ClassId × FieldType)} {D : va_G} {A : Nat → Prop} {res : Int32} (a1_ : Int32) (a2_ : Int32) (C : Cx X cJ0_indexOf_7cf53 RJ0 3 D tys A 2 0 0) (hR : Rt X (some .int) D tys A 0 0 (eI ([]) res))  (ok : oJ0_indexOf_7cf53_s1_0  a1_ a2_) (h : pJ0_indexOf_7cf53_s1_0  a1_ a2_ = res) : At X D A 3 0 0 0 [(0, .ref (D.2 101 1)), (1, .int a1_), (2, .int a2_)] [] (([] : va_W)) := by
  unfold pJ0_indexOf_7cf53_s1_0 at h
  unfold oJ0_indexOf_7cf53_s1_0 at ok
  refine r_aload_n C 0 (dall tdJ0_indexOf_7cf53 0 rfl) rfl ?_
  refine r_strI (as := []) C 1 (by decide) (zJ0_isLatin1_aae02_s1  ) mv_J0_isLatin1_aae02_s1 km_J0_492 (by decide) (by decide) ⟨Nat.le_refl _, Nat.le_refl _⟩ rfl rfl (Nat.le_of_ble_eq_true rfl) (dall tdJ0_indexOf_7cf53 1 rfl) ?_
  refine r_if_eq (tgt := 23) C (dall tdJ0_indexOf_7cf53 2 rfl) (by decide) (fun c1 => ?_) (fun c1 => ?_)
  · have h := (if_pos c1).symm.trans h
    have ok := ok.1 c1
    refine r_aload_n C 0 (dall tdJ0_indexOf_7cf53 11 rfl) rfl ?_
    refine r_strV C 1 (by decide) kf_J0_9 (dall tdJ0_indexOf_7cf53 12 rfl) ?_
    refine r_iload_n C 1 (dall tdJ0_indexOf_7cf53 13 rfl) rfl ?_
    refine r_iload_n C 2 (dall tdJ0_indexOf_7cf53 14 rfl) rfl ?_
    refine r_aload_n C 0 (dall tdJ0_indexOf_7cf53 15 rfl) rfl ?_
    refine r_strI (as := []) C 1 (by decide) (zJ0_length_8abf5_s1  ) mv_J0_length_8abf5_s1 km_J0_505 (by decide) (by decide) ⟨Nat.le_refl _, Nat.le_refl _⟩ rfl rfl (Nat.le_of_ble_eq_true rfl) (dall tdJ0_indexOf_7cf53 16 rfl) ?_
    exact ok.elim
  · have h := (if_neg c1).symm.trans h
    have ok := ok.2 c1
    refine r_aload_n C 0 (dall tdJ0_indexOf_7cf53 3 rfl) rfl ?_
    refine r_strV C 1 (by decide) kf_J0_9 (dall tdJ0_indexOf_7cf53 4 rfl) ?_
    refine r_iload_n C 1 (dall tdJ0_indexOf_7cf53 5 rfl) rfl ?_
    refine r_iload_n C 2 (dall tdJ0_indexOf_7cf53 6 rfl) rfl ?_
    refine r_aload_n C 0 (dall tdJ0_indexOf_7cf53 7 rfl) rfl ?_
    refine r_strI (as := []) C 1 (by decide) (zJ0_length_8abf5_s1  ) mv_J0_length_8abf5_s1 km_J0_505 (by decide) (by decide) ⟨Nat.le_refl _, Nat.le_refl _⟩ rfl rfl (Nat.le_of_ble_eq_true rfl) (dall tdJ0_indexOf_7cf53 8 rfl) ?_
    have o2 := ok
    refine r_s0I (as := [.ref (D.2 102 1), .int a1_, .int a2_, .int fJ0_length_8abf5_s1]) C (zJ1_indexOf_4cfef_s1 a1_ a2_ fJ0_length_8abf5_s1 o2) ms_J1_indexOf_4cfef_s1 km_J0_637 (by decide) (by decide) ⟨Nat.le_refl _, Nat.le_refl _⟩ rfl rfl (Nat.le_of_ble_eq_true rfl) (dall tdJ0_indexOf_7cf53 9 rfl) ?_
    refine r_goto (tgt := 36) C (dall tdJ0_indexOf_7cf53 10 rfl) (by decide) ?_
    exact r_iret C hR (dall tdJ0_indexOf_7cf53 18 rfl) (by subst h; exact ⟨rfl, rfl⟩)
def fJ0_indexOf_7cf53_s1 (a1_ : Int32) (a2_ : Int32) : Int32 := pJ0_indexOf_7cf53_s1_0  a1_ a2_
def gJ0_indexOf_7cf53_s1 (a1_ : Int32) (a2_ : Int32) : Prop := oJ0_indexOf_7cf53_s1_0  a1_ a2_
set_option maxRecDepth 100000 in
theorem zJ0_indexOf_7cf53_s1  {D : va_G} (a1_ : Int32) (a2_ : Int32) (ok : gJ0_indexOf_7cf53_s1 a1_ a2_)  {tys : List (ClassId × FieldType)} : Con yJ0_indexOf_7cf53 cJ0_indexOf_7cf53 3 (some .int) 2 0 0 D tys [.ref (D.2 101 1), .int a1_, .int a2_] ([]) (eI ([]) (fJ0_indexOf_7cf53_s1 a1_ a2_)) :=
  Con.of (own := RJ0) (by decide +kernel) rfl (Nat.le_of_ble_eq_true rfl) (Nat.zero_le _) (fun X A C hR _ => (wJ0_indexOf_7cf53_s1_0 a1_ a2_ C hR  ok rfl))
theorem mv_J0_indexOf_7cf53_s1 : MV yJ0_indexOf_7cf53 cJ0_indexOf_7cf53 3 (some .int) RJ0 2 := ⟨ki_J0_indexOf_7cf53, kv_J0_indexOf_7cf53, kn_J0, kc_J0_indexOf_7cf53, by decide +kernel⟩
def tbJ0_indexOf_0f7a4 : List (Nat × Instr × Nat) := [(0, .aload_n 0, 1), (1, .iload_n 1, 1), (2, .iconst 0, 1), (3, .invokevirtual 633, 3), (6, .ireturn, 1)]
theorem tdJ0_indexOf_0f7a4 : tbJ0_indexOf_0f7a4.all (fun q => decide (decode cJ0_indexOf_0f7a4 q.1 = .ok q.2)) = true := by decide +kernel
def pJ0_indexOf_0f7a4_s1_0  (a1_ : Int32) : Int32 := fJ0_indexOf_7cf53_s1 a1_ 0
def oJ0_indexOf_0f7a4_s1_0  (a1_ : Int32) : Prop := gJ0_indexOf_7cf53_s1 a1_ 0
set_option maxHeartbeats 4000000 in
set_option maxRecDepth 100000 in
theorem wJ0_indexOf_0f7a4_s1_0 {X : CX} {tys : List (ClassId × FieldType)} {D : va_G} {A : Nat → Prop} {res : Int32} (a1_ : Int32) (C : Cx X cJ0_indexOf_0f7a4 RJ0 2 D tys A 3 0 0) (hR : Rt X (some .int) D tys A 0 0 (eI ([]) res))  (ok : oJ0_indexOf_0f7a4_s1_0  a1_) (h : pJ0_indexOf_0f7a4_s1_0  a1_ = res) : At X D A 2 0 0 0 [(0, .ref (D.2 101 1)), (1, .int a1_)] [] (([] : va_W)) := by
  unfold pJ0_indexOf_0f7a4_s1_0 at h
  unfold oJ0_indexOf_0f7a4_s1_0 at ok
  refine r_aload_n C 0 (dall tdJ0_indexOf_0f7a4 0 rfl) rfl ?_
  refine r_iload_n C 1 (dall tdJ0_indexOf_0f7a4 1 rfl) rfl ?_
  refine r_iconst (v := 0) C (dall tdJ0_indexOf_0f7a4 2 rfl) (by decide) ?_
  have o1 := ok
  refine r_strI (as := [.int a1_, .int 0]) C 1 (by decide) (zJ0_indexOf_7cf53_s1 a1_ 0 o1) mv_J0_indexOf_7cf53_s1 km_J0_633 (by decide) (by decide) ⟨Nat.le_refl _, Nat.le_refl _⟩ rfl rfl (Nat.le_of_ble_eq_true rfl) (dall tdJ0_indexOf_0f7a4 3 rfl) ?_
  exact r_iret C hR (dall tdJ0_indexOf_0f7a4 4 rfl) (by subst h; exact ⟨rfl, rfl⟩)
def fJ0_indexOf_0f7a4_s1 (a1_ : Int32) : Int32 := pJ0_indexOf_0f7a4_s1_0  a1_
def gJ0_indexOf_0f7a4_s1 (a1_ : Int32) : Prop := oJ0_indexOf_0f7a4_s1_0  a1_
set_option maxRecDepth 100000 in
theorem zJ0_indexOf_0f7a4_s1  {D : va_G} (a1_ : Int32) (ok : gJ0_indexOf_0f7a4_s1 a1_)  {tys : List (ClassId × FieldType)} : Con yJ0_indexOf_0f7a4 cJ0_indexOf_0f7a4 2 (some .int) 3 0 0 D tys [.ref (D.2 101 1), .int a1_] ([]) (eI ([]) (fJ0_indexOf_0f7a4_s1 a1_)) :=
  Con.of (own := RJ0) (by decide +kernel) rfl (Nat.le_of_ble_eq_true rfl) (Nat.zero_le _) (fun X A C hR _ => (wJ0_indexOf_0f7a4_s1_0 a1_ C hR  ok rfl))
theorem mv_J0_indexOf_0f7a4_s1 : MV yJ0_indexOf_0f7a4 cJ0_indexOf_0f7a4 2 (some .int) RJ0 1 := ⟨ki_J0_indexOf_0f7a4, kv_J0_indexOf_0f7a4, kn_J0, kc_J0_indexOf_0f7a4, by decide +kernel⟩

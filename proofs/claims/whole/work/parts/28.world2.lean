/-- the worlds of a text's reading within the world of a World -/
abbrev tq (t : (Nat × Nat × Nat) × (Nat × (Nat → Int32) × (Nat → Int32))) (q : Nat → Nat) : Nat → Nat := fun k => if k = 0 then t.1.2.1 else if k = 1 then t.1.2.2 else if k = 2 then t.1.1 else if k = 3 then q 10 else q 11
def tρ (t : (Nat × Nat × Nat) × (Nat × (Nat → Int32) × (Nat → Int32))) (σ : OS) : OS := (fun _ => 0, fun _ => 0, fun k => if k = 0 then t.2.2.1 else if k = 1 then t.2.2.2 else σ.2.2.1 10, fun _ _ => 0)
def tσ (σ : OS) : OS := (fun _ => 0, fun _ => 0, fun _ => σ.2.2.1 11, fun _ _ => 0)
section Txt
variable {X : CX} {cc : ByteArray} {nL : Nat} {D : va_G} {A : Nat → Prop} {lev cM sM kc ks pc : Nat} {lv : List (Nat × Value)} {st : List Value} {cy : Nat → ClassId} {q : Nat → Nat} {τ : TX} {j : Nat} {σ : OS}
theorem r_txt {own : String} (C : Cx X cc own nL D (gty cy) A lev cM sM) {i : Int32} (h1 : vp_in i 6) (h2 : i.toNatClampNeg = j) (h3 : j < τ.length) (hdg : decode cc pc = .ok (.aaload, 1)) (k : At X D A nL kc ks (pc + 1) lv (.ref (tAt τ j).1.1 :: st) (wX4 cy q (tw cy (q 9) τ) σ)) : At X D A nL kc ks pc lv (.int i :: .ref (q 9) :: st) (wX4 cy q (tw cy (q 9) τ) σ) := by
  refine r_aald C 7 4 rfl rfl h1 hdg ?_
  subst h2
  have e : va_rf ((τ[i.toNatClampNeg]?).map (fun t => t.1.1)) = .ref (tAt τ i.toNatClampNeg).1.1 := by
    unfold tAt
    rw [List.getElem?_eq_getElem h3]
    rfl
  rw [e]
  exact k
theorem tw_c0 (h : j < τ.length) : (wX4 cy q (tw cy (q 9) τ) σ)[3 * j + 8]? = some ((tAt τ j).1.1, .inr (2, [.ref (tAt τ j).1.2.1, .ref (tAt τ j).1.2.2])) := tw_at cy (q 9) (r := 0) h (by decide)
theorem tw_c1 (h : j < τ.length) : (wX4 cy q (tw cy (q 9) τ) σ)[3 * j + 9]? = some ((tAt τ j).1.2.1, .inl (cy 0, (tAt τ j).2.1, .inl (tAt τ j).2.2.1)) := tw_at cy (q 9) (r := 1) h (by decide)
theorem tw_c2 (h : j < τ.length) : (wX4 cy q (tw cy (q 9) τ) σ)[3 * j + 10]? = some ((tAt τ j).1.2.2, .inl (cy 0, 3, .inl (tAt τ j).2.2.2)) := tw_at cy (q 9) (r := 2) h (by decide)
set_option maxHeartbeats 2000000 in
theorem r_tval (C : Cx X cc RX4 nL D (gty cy) A lev cM sM) {pt : Int32} (hj : j < τ.length) (ok : gX2_value (tAt τ j).2.1 (tρ (tAt τ j) σ) (tσ σ) pt) (hlev : 1 + 1 ≤ lev) (hcap : kc ≤ cM ∧ ks ≤ sM) (hW : (st.map fun v => v.category).sum ≤ 8) (hdg : decode cc pc = .ok (.invokevirtual 126, 3))
    (k : At X D A nL kc ks (pc + 3) lv (.int (fX2_value (tAt τ j).2.1 (tρ (tAt τ j) σ) (tσ σ) pt).1 :: st) (wX4 cy q (tw cy (q 9) τ) (oAr σ 11 ((fX2_value (tAt τ j).2.1 (tρ (tAt τ j) σ) (tσ σ) pt).2.2.2.1 4)))) :
    At X D A nL kc ks pc lv (.ref (q 11) :: .ref (q 10) :: .int pt :: .ref (tAt τ j).1.1 :: st) (wX4 cy q (tw cy (q 9) τ) σ) := by
  refine r_callW (b := (tAt τ j).1.1) (as := [.int pt, .ref (q 10), .ref (q 11)]) (q0 := 0) C (zX2_value cy (tq (tAt τ j) q) (tAt τ j).2.1 (tρ (tAt τ j) σ) (tσ σ) pt ok) mv_X2_value km_X4_126 hlev (by decide) hcap rfl rfl [3 * j + 8, 3 * j + 9, 3 * j + 10, 5, 6] ?_ ?_ rfl rfl hW hdg ?_
  · simp only [List.map_cons, List.map_nil, tw_c0 hj, tw_c1 hj, tw_c2 hj]
    rfl
  · simp only [va_nd]
    simp
  · intro v w hp
    obtain ⟨rfl, rfl⟩ := hp
    refine ⟨wX4 cy q (tw cy (q 9) τ) (oAr σ 11 ((fX2_value (tAt τ j).2.1 (tρ (tAt τ j) σ) (tσ σ) pt).2.2.2.1 4)), ⟨rfl, ?_⟩, k⟩
    intro i c hi
    by_cases h6 : i = 6
    · subst h6
      refine Or.inl ⟨by simp, ?_⟩
      have e := Option.some.inj hi
      rw [← e]
      exact List.mem_of_getElem? (i := 4) rfl
    · have hs : (wX4 cy q (tw cy (q 9) τ) σ)[i]? = some c := by
        rw [← hi]
        match i, h6 with
        | 0, _ => rfl
        | 1, _ => rfl
        | 2, _ => rfl
        | 3, _ => rfl
        | 4, _ => rfl
        | 5, _ => rfl
        | n + 7, _ => rfl
      by_cases h : i ∈ [3 * j + 8, 3 * j + 9, 3 * j + 10, 5, 6]
      · refine Or.inl ⟨h, ?_⟩
        simp only [List.mem_cons, List.not_mem_nil, or_false] at h
        rcases h with rfl | rfl | rfl | rfl | rfl
        · rw [tw_c0 hj] at hs; rw [← Option.some.inj hs]; exact List.mem_of_getElem? (i := 0) rfl
        · rw [tw_c1 hj] at hs; rw [← Option.some.inj hs]; exact List.mem_of_getElem? (i := 1) rfl
        · rw [tw_c2 hj] at hs; rw [← Option.some.inj hs]; exact List.mem_of_getElem? (i := 2) rfl
        · have e := Option.some.inj (show some _ = some c from hs); rw [← e]; exact List.mem_of_getElem? (i := 3) rfl
        · exact absurd rfl h6
      · exact Or.inr ⟨h, hs⟩
end Txt
def tbX4_tell : List (Nat × Instr × Nat) := [(0, .aload_n 0, 1), (1, .getfield 39, 3), (4, .aload_n 0, 1), (5, .getfield 53, 3), (8, .aaload, 1), (9, .astore_n 3, 1), (10, .aload_n 3, 1), (11, .ifnonnull 5, 3), (14, .iconst 0, 1), (15, .ireturn, 1), (16, .aload_n 0, 1), (17, .getfield 33, 3), (20, .iconst 0, 1), (21, .aload_n 0, 1), (22, .getfield 18, 3), (25, .iload_n 1, 1), (26, .iaload, 1), (27, .iastore, 1), (28, .aload_n 0, 1), (29, .getfield 33, 3), (32, .iconst 1, 1), (33, .aload_n 0, 1), (34, .getfield 15, 3), (37, .iload_n 1, 1), (38, .iaload, 1), (39, .iastore, 1), (40, .aload_n 0, 1), (41, .getfield 33, 3), (44, .iconst 2, 1), (45, .aload_n 0, 1), (46, .getfield 47, 3), (49, .iastore, 1), (50, .aload_n 0, 1), (51, .getfield 33, 3), (54, .iconst 3, 1), (55, .aload_n 0, 1), (56, .getfield 21, 3), (59, .iload_n 1, 1), (60, .laload, 1), (61, .invokestatic 60, 3), (64, .iastore, 1), (65, .aload_n 0, 1), (66, .getfield 33, 3), (69, .iconst 4, 1), (70, .aload_n 0, 1), (71, .getfield 21, 3), (74, .iload_n 1, 1), (75, .laload, 1), (76, .lconst 0, 1), (77, .lcmp, 1), (78, .ifCond .ne 7, 3), (81, .iconst 0, 1), (82, .goto 11, 3), (85, .aload_n 0, 1), (86, .iload_n 1, 1), (87, .invokevirtual 107, 3), (90, .bipush 8, 2), (92, .idiv, 1), (93, .iastore, 1), (94, .aload_n 0, 1), (95, .getfield 33, 3), (98, .iconst 5, 1), (99, .aload_n 0, 1), (100, .getfield 50, 3), (103, .bipush 100, 2), (105, .irem, 1), (106, .iastore, 1), (107, .aload_n 3, 1), (108, .iload_n 2, 1), (109, .aload_n 0, 1), (110, .getfield 33, 3), (113, .aload_n 0, 1), (114, .getfield 36, 3), (117, .invokevirtual 126, 3), (120, .istore 4, 2), (122, .iload_n 2, 1), (123, .iconst 2, 1), (124, .if_icmp .ne 9, 3), (127, .sipush 999, 3), (130, .goto 5, 3), (133, .bipush 99, 2), (135, .istore 5, 2), (137, .iconst 0, 1), (138, .iload 5, 2), (140, .iload 4, 2), (142, .invokestatic 101, 3), (145, .invokestatic 94, 3), (148, .ireturn, 1)]
theorem tdX4_tell : tbX4_tell.all (fun q => decide (decode cX4_tell q.1 = .ok q.2)) = true := by decide +kernel
def pX4_tell_135 (τ : TX) (j : Nat)  (σ : OS) (a4_ : Int32) (b0_ : Int32) : Int32 × OS := (jmax 0 (jmin b0_ a4_), σ)
set_option maxHeartbeats 4000000 in
set_option maxRecDepth 100000 in
theorem wX4_tell_135 {X : CX} {cy : Nat → ClassId} {q : Nat → Nat} {τ : TX} {j : Nat} {D : va_G} {A : Nat → Prop} {res : Int32 × OS} (σ : OS) (a4_ : Int32) (b0_ : Int32) (C : Cx X cX4_tell RX4 6 D (gty cy) A 3 0 0) (hR : Rt X (some .int) D (gty cy) A 0 0 (eI (wX4 cy q (tw cy (q 9) τ) res.2) res.1))  (h : pX4_tell_135 τ j  σ a4_ b0_ = res) : At X D A 6 0 0 135 [(4, .int a4_)] [.int b0_] (wX4 cy q (tw cy (q 9) τ) σ) := by
  unfold pX4_tell_135 at h
  refine r_istore (lv' := [(5, .int b0_), (4, .int a4_)]) C (dall tdX4_tell 81 rfl) (by decide) rfl ?_
  refine r_iconst (v := 0) C (dall tdX4_tell 82 rfl) (by decide) ?_
  refine r_iload C 0 (dall tdX4_tell 83 rfl) rfl ?_
  refine r_iload C 1 (dall tdX4_tell 84 rfl) rfl ?_
  refine r_mmin C km_X4_101 (dall tdX4_tell 85 rfl) (by decide) (Nat.le_of_ble_eq_true rfl) ⟨Nat.le_refl _, Nat.le_refl _⟩ ?_
  refine r_mmax C km_X4_94 (dall tdX4_tell 86 rfl) (by decide) (Nat.le_of_ble_eq_true rfl) ⟨Nat.le_refl _, Nat.le_refl _⟩ ?_
  exact r_iret C hR (dall tdX4_tell 87 rfl) (by subst h; exact ⟨rfl, rfl⟩)
def pX4_tell_120 (τ : TX) (j : Nat)  (σ : OS) (a2_ : Int32) (b0_ : Int32) : Int32 × OS := if a2_ = 2 then pX4_tell_135 τ j  σ b0_ 999 else pX4_tell_135 τ j  σ b0_ 99
set_option maxHeartbeats 4000000 in
set_option maxRecDepth 100000 in
theorem wX4_tell_120 {X : CX} {cy : Nat → ClassId} {q : Nat → Nat} {τ : TX} {j : Nat} {D : va_G} {A : Nat → Prop} {res : Int32 × OS} (σ : OS) (a2_ : Int32) (b0_ : Int32) (C : Cx X cX4_tell RX4 6 D (gty cy) A 3 0 0) (hR : Rt X (some .int) D (gty cy) A 0 0 (eI (wX4 cy q (tw cy (q 9) τ) res.2) res.1))  (h : pX4_tell_120 τ j  σ a2_ b0_ = res) : At X D A 6 0 0 120 [(2, .int a2_)] [.int b0_] (wX4 cy q (tw cy (q 9) τ) σ) := by
  unfold pX4_tell_120 at h
  refine r_istore (lv' := [(4, .int b0_), (2, .int a2_)]) C (dall tdX4_tell 74 rfl) (by decide) rfl ?_
  refine r_iload_n C 1 (dall tdX4_tell 75 rfl) rfl ?_
  refine r_iconst (v := 2) C (dall tdX4_tell 76 rfl) (by decide) ?_
  refine r_icmp_ne (tgt := 133) C (dall tdX4_tell 77 rfl) (by decide) (fun c1 => ?_) (fun c1 => ?_)
  · have h := (if_neg c1).symm.trans h
    refine r_bipush (v := 99) C (dall tdX4_tell 80 rfl) (by decide) ?_
    refine r_pick [0] rfl ?_
    exact wX4_tell_135 σ b0_ 99 C hR  h
  · have h := (if_pos c1).symm.trans h
    refine r_sipush (v := 999) C (dall tdX4_tell 78 rfl) (by decide) ?_
    refine r_goto (tgt := 135) C (dall tdX4_tell 79 rfl) (by decide) ?_
    refine r_pick [0] rfl ?_
    exact wX4_tell_135 σ b0_ 999 C hR  h
def pX4_tell_93 (τ : TX) (j : Nat)  (σ : OS) (a2_ : Int32) (b0_ : Int32) (b1_ : Int32) : Int32 × OS := pX4_tell_120 τ j  (oAr (oS (oS σ 10 b1_.toNatClampNeg b0_) 10 ((5 : Int32).toNatClampNeg) (((oS σ 10 b1_.toNatClampNeg b0_).1 6) - ((oS σ 10 b1_.toNatClampNeg b0_).1 6) / 100 * 100)) 11 ((fX2_value (tAt τ j).2.1 (tρ (tAt τ j) (oS (oS σ 10 b1_.toNatClampNeg b0_) 10 ((5 : Int32).toNatClampNeg) (((oS σ 10 b1_.toNatClampNeg b0_).1 6) - ((oS σ 10 b1_.toNatClampNeg b0_).1 6) / 100 * 100))) (tσ (oS (oS σ 10 b1_.toNatClampNeg b0_) 10 ((5 : Int32).toNatClampNeg) (((oS σ 10 b1_.toNatClampNeg b0_).1 6) - ((oS σ 10 b1_.toNatClampNeg b0_).1 6) / 100 * 100))) a2_).2.2.2.1 4)) a2_ ((fX2_value (tAt τ j).2.1 (tρ (tAt τ j) (oS (oS σ 10 b1_.toNatClampNeg b0_) 10 ((5 : Int32).toNatClampNeg) (((oS σ 10 b1_.toNatClampNeg b0_).1 6) - ((oS σ 10 b1_.toNatClampNeg b0_).1 6) / 100 * 100))) (tσ (oS (oS σ 10 b1_.toNatClampNeg b0_) 10 ((5 : Int32).toNatClampNeg) (((oS σ 10 b1_.toNatClampNeg b0_).1 6) - ((oS σ 10 b1_.toNatClampNeg b0_).1 6) / 100 * 100))) a2_).1)
def oX4_tell_93 (τ : TX) (j : Nat)  (σ : OS) (a2_ : Int32) (b0_ : Int32) (b1_ : Int32) : Prop := (vp_in b1_ 6) ∧ ((vp_in 5 6) ∧ ((j < τ.length) ∧ (gX2_value (tAt τ j).2.1 (tρ (tAt τ j) (oS (oS σ 10 b1_.toNatClampNeg b0_) 10 ((5 : Int32).toNatClampNeg) (((oS σ 10 b1_.toNatClampNeg b0_).1 6) - ((oS σ 10 b1_.toNatClampNeg b0_).1 6) / 100 * 100))) (tσ (oS (oS σ 10 b1_.toNatClampNeg b0_) 10 ((5 : Int32).toNatClampNeg) (((oS σ 10 b1_.toNatClampNeg b0_).1 6) - ((oS σ 10 b1_.toNatClampNeg b0_).1 6) / 100 * 100))) a2_)))
set_option maxHeartbeats 4000000 in
set_option maxRecDepth 100000 in
theorem wX4_tell_93 {X : CX} {cy : Nat → ClassId} {q : Nat → Nat} {τ : TX} {j : Nat} {D : va_G} {A : Nat → Prop} {res : Int32 × OS} (σ : OS) (a2_ : Int32) (b0_ : Int32) (b1_ : Int32) (C : Cx X cX4_tell RX4 6 D (gty cy) A 3 0 0) (hR : Rt X (some .int) D (gty cy) A 0 0 (eI (wX4 cy q (tw cy (q 9) τ) res.2) res.1))  (ok : oX4_tell_93 τ j  σ a2_ b0_ b1_) (h : pX4_tell_93 τ j  σ a2_ b0_ b1_ = res) : At X D A 6 0 0 93 [(0, .ref (q 12)), (2, .int a2_), (3, .ref ((tAt τ j).1.1))] [.int b0_, .int b1_, .ref (q 10)] (wX4 cy q (tw cy (q 9) τ) σ) := by
  unfold pX4_tell_93 at h
  unfold oX4_tell_93 at ok
  obtain ⟨o2, ok⟩ := ok
  refine r_iast C 5 0 rfl rfl o2 (pa_X4_this_10 cy q (tw cy (q 9) τ) σ b1_.toNatClampNeg b0_) (dall tdX4_tell 58 rfl) ?_
  refine r_aload_n C 0 (dall tdX4_tell 59 rfl) rfl ?_
  refine r_get C 0 kw_X4 rfl rfl (by decide) kf_X4_33 rfl rfl (dall tdX4_tell 60 rfl) ?_
  refine r_iconst (v := 5) C (dall tdX4_tell 61 rfl) (by decide) ?_
  refine r_aload_n C 0 (dall tdX4_tell 62 rfl) rfl ?_
  refine r_get C 0 kw_X4 rfl rfl (by decide) kf_X4_50 rfl rfl (dall tdX4_tell 63 rfl) ?_
  refine r_bipush (v := 100) C (dall tdX4_tell 64 rfl) (by decide) ?_
  refine r_irem C (dall tdX4_tell 65 rfl) (by decide) ?_
  obtain ⟨o3, ok⟩ := ok
  refine r_iast C 5 0 rfl rfl o3 (pa_X4_this_10 cy q (tw cy (q 9) τ) (oS σ 10 b1_.toNatClampNeg b0_) ((5 : Int32).toNatClampNeg) (((oS σ 10 b1_.toNatClampNeg b0_).1 6) - ((oS σ 10 b1_.toNatClampNeg b0_).1 6) / 100 * 100)) (dall tdX4_tell 66 rfl) ?_
  refine r_aload_n C 2 (dall tdX4_tell 67 rfl) rfl ?_
  refine r_iload_n C 1 (dall tdX4_tell 68 rfl) rfl ?_
  refine r_aload_n C 0 (dall tdX4_tell 69 rfl) rfl ?_
  refine r_get C 0 kw_X4 rfl rfl (by decide) kf_X4_33 rfl rfl (dall tdX4_tell 70 rfl) ?_
  refine r_aload_n C 0 (dall tdX4_tell 71 rfl) rfl ?_
  refine r_get C 0 kw_X4 rfl rfl (by decide) kf_X4_36 rfl rfl (dall tdX4_tell 72 rfl) ?_
  obtain ⟨o4, ok⟩ := ok
  have o5 := ok
  refine r_tval C o4 o5 (by decide) ⟨Nat.le_refl _, Nat.le_refl _⟩ (Nat.le_of_ble_eq_true rfl) (dall tdX4_tell 73 rfl) ?_
  refine r_pick [1] rfl ?_
  exact wX4_tell_120 (oAr (oS (oS σ 10 b1_.toNatClampNeg b0_) 10 ((5 : Int32).toNatClampNeg) (((oS σ 10 b1_.toNatClampNeg b0_).1 6) - ((oS σ 10 b1_.toNatClampNeg b0_).1 6) / 100 * 100)) 11 ((fX2_value (tAt τ j).2.1 (tρ (tAt τ j) (oS (oS σ 10 b1_.toNatClampNeg b0_) 10 ((5 : Int32).toNatClampNeg) (((oS σ 10 b1_.toNatClampNeg b0_).1 6) - ((oS σ 10 b1_.toNatClampNeg b0_).1 6) / 100 * 100))) (tσ (oS (oS σ 10 b1_.toNatClampNeg b0_) 10 ((5 : Int32).toNatClampNeg) (((oS σ 10 b1_.toNatClampNeg b0_).1 6) - ((oS σ 10 b1_.toNatClampNeg b0_).1 6) / 100 * 100))) a2_).2.2.2.1 4)) a2_ ((fX2_value (tAt τ j).2.1 (tρ (tAt τ j) (oS (oS σ 10 b1_.toNatClampNeg b0_) 10 ((5 : Int32).toNatClampNeg) (((oS σ 10 b1_.toNatClampNeg b0_).1 6) - ((oS σ 10 b1_.toNatClampNeg b0_).1 6) / 100 * 100))) (tσ (oS (oS σ 10 b1_.toNatClampNeg b0_) 10 ((5 : Int32).toNatClampNeg) (((oS σ 10 b1_.toNatClampNeg b0_).1 6) - ((oS σ 10 b1_.toNatClampNeg b0_).1 6) / 100 * 100))) a2_).1) C hR  h
def pX4_tell_0 (τ : TX) (j : Nat)  (σ : OS) (a1_ : Int32) (a2_ : Int32) : Int32 × OS := if ((oS (oS (oS (oS σ 10 ((0 : Int32).toNatClampNeg) (σ.2.2.1 2 a1_.toNatClampNeg)) 10 ((1 : Int32).toNatClampNeg) ((oS σ 10 ((0 : Int32).toNatClampNeg) (σ.2.2.1 2 a1_.toNatClampNeg)).2.2.1 1 a1_.toNatClampNeg)) 10 ((2 : Int32).toNatClampNeg) ((oS (oS σ 10 ((0 : Int32).toNatClampNeg) (σ.2.2.1 2 a1_.toNatClampNeg)) 10 ((1 : Int32).toNatClampNeg) ((oS σ 10 ((0 : Int32).toNatClampNeg) (σ.2.2.1 2 a1_.toNatClampNeg)).2.2.1 1 a1_.toNatClampNeg)).1 5)) 10 ((3 : Int32).toNatClampNeg) (fJ13_bitCount_95d88 ((oS (oS (oS σ 10 ((0 : Int32).toNatClampNeg) (σ.2.2.1 2 a1_.toNatClampNeg)) 10 ((1 : Int32).toNatClampNeg) ((oS σ 10 ((0 : Int32).toNatClampNeg) (σ.2.2.1 2 a1_.toNatClampNeg)).2.2.1 1 a1_.toNatClampNeg)) 10 ((2 : Int32).toNatClampNeg) ((oS (oS σ 10 ((0 : Int32).toNatClampNeg) (σ.2.2.1 2 a1_.toNatClampNeg)) 10 ((1 : Int32).toNatClampNeg) ((oS σ 10 ((0 : Int32).toNatClampNeg) (σ.2.2.1 2 a1_.toNatClampNeg)).2.2.1 1 a1_.toNatClampNeg)).1 5)).2.2.2 3 a1_.toNatClampNeg))).2.2.2 3 a1_.toNatClampNeg) = 0 then pX4_tell_93 τ j  (oS (oS (oS (oS σ 10 ((0 : Int32).toNatClampNeg) (σ.2.2.1 2 a1_.toNatClampNeg)) 10 ((1 : Int32).toNatClampNeg) ((oS σ 10 ((0 : Int32).toNatClampNeg) (σ.2.2.1 2 a1_.toNatClampNeg)).2.2.1 1 a1_.toNatClampNeg)) 10 ((2 : Int32).toNatClampNeg) ((oS (oS σ 10 ((0 : Int32).toNatClampNeg) (σ.2.2.1 2 a1_.toNatClampNeg)) 10 ((1 : Int32).toNatClampNeg) ((oS σ 10 ((0 : Int32).toNatClampNeg) (σ.2.2.1 2 a1_.toNatClampNeg)).2.2.1 1 a1_.toNatClampNeg)).1 5)) 10 ((3 : Int32).toNatClampNeg) (fJ13_bitCount_95d88 ((oS (oS (oS σ 10 ((0 : Int32).toNatClampNeg) (σ.2.2.1 2 a1_.toNatClampNeg)) 10 ((1 : Int32).toNatClampNeg) ((oS σ 10 ((0 : Int32).toNatClampNeg) (σ.2.2.1 2 a1_.toNatClampNeg)).2.2.1 1 a1_.toNatClampNeg)) 10 ((2 : Int32).toNatClampNeg) ((oS (oS σ 10 ((0 : Int32).toNatClampNeg) (σ.2.2.1 2 a1_.toNatClampNeg)) 10 ((1 : Int32).toNatClampNeg) ((oS σ 10 ((0 : Int32).toNatClampNeg) (σ.2.2.1 2 a1_.toNatClampNeg)).2.2.1 1 a1_.toNatClampNeg)).1 5)).2.2.2 3 a1_.toNatClampNeg))) a2_ 0 4 else pX4_tell_93 τ j  (oS (oS (oS (oS σ 10 ((0 : Int32).toNatClampNeg) (σ.2.2.1 2 a1_.toNatClampNeg)) 10 ((1 : Int32).toNatClampNeg) ((oS σ 10 ((0 : Int32).toNatClampNeg) (σ.2.2.1 2 a1_.toNatClampNeg)).2.2.1 1 a1_.toNatClampNeg)) 10 ((2 : Int32).toNatClampNeg) ((oS (oS σ 10 ((0 : Int32).toNatClampNeg) (σ.2.2.1 2 a1_.toNatClampNeg)) 10 ((1 : Int32).toNatClampNeg) ((oS σ 10 ((0 : Int32).toNatClampNeg) (σ.2.2.1 2 a1_.toNatClampNeg)).2.2.1 1 a1_.toNatClampNeg)).1 5)) 10 ((3 : Int32).toNatClampNeg) (fJ13_bitCount_95d88 ((oS (oS (oS σ 10 ((0 : Int32).toNatClampNeg) (σ.2.2.1 2 a1_.toNatClampNeg)) 10 ((1 : Int32).toNatClampNeg) ((oS σ 10 ((0 : Int32).toNatClampNeg) (σ.2.2.1 2 a1_.toNatClampNeg)).2.2.1 1 a1_.toNatClampNeg)) 10 ((2 : Int32).toNatClampNeg) ((oS (oS σ 10 ((0 : Int32).toNatClampNeg) (σ.2.2.1 2 a1_.toNatClampNeg)) 10 ((1 : Int32).toNatClampNeg) ((oS σ 10 ((0 : Int32).toNatClampNeg) (σ.2.2.1 2 a1_.toNatClampNeg)).2.2.1 1 a1_.toNatClampNeg)).1 5)).2.2.2 3 a1_.toNatClampNeg))) a2_ ((fX4_highestCell (oS (oS (oS (oS σ 10 ((0 : Int32).toNatClampNeg) (σ.2.2.1 2 a1_.toNatClampNeg)) 10 ((1 : Int32).toNatClampNeg) ((oS σ 10 ((0 : Int32).toNatClampNeg) (σ.2.2.1 2 a1_.toNatClampNeg)).2.2.1 1 a1_.toNatClampNeg)) 10 ((2 : Int32).toNatClampNeg) ((oS (oS σ 10 ((0 : Int32).toNatClampNeg) (σ.2.2.1 2 a1_.toNatClampNeg)) 10 ((1 : Int32).toNatClampNeg) ((oS σ 10 ((0 : Int32).toNatClampNeg) (σ.2.2.1 2 a1_.toNatClampNeg)).2.2.1 1 a1_.toNatClampNeg)).1 5)) 10 ((3 : Int32).toNatClampNeg) (fJ13_bitCount_95d88 ((oS (oS (oS σ 10 ((0 : Int32).toNatClampNeg) (σ.2.2.1 2 a1_.toNatClampNeg)) 10 ((1 : Int32).toNatClampNeg) ((oS σ 10 ((0 : Int32).toNatClampNeg) (σ.2.2.1 2 a1_.toNatClampNeg)).2.2.1 1 a1_.toNatClampNeg)) 10 ((2 : Int32).toNatClampNeg) ((oS (oS σ 10 ((0 : Int32).toNatClampNeg) (σ.2.2.1 2 a1_.toNatClampNeg)) 10 ((1 : Int32).toNatClampNeg) ((oS σ 10 ((0 : Int32).toNatClampNeg) (σ.2.2.1 2 a1_.toNatClampNeg)).2.2.1 1 a1_.toNatClampNeg)).1 5)).2.2.2 3 a1_.toNatClampNeg))) a1_) / 8) 4
def oX4_tell_0 (τ : TX) (j : Nat)  (σ : OS) (a1_ : Int32) (a2_ : Int32) : Prop := (vp_in (σ.1 7) 6) ∧ (((σ.1 7).toNatClampNeg = j) ∧ ((j < τ.length) ∧ ((vp_in a1_ 5) ∧ ((vp_in 0 6) ∧ ((vp_in a1_ 5) ∧ ((vp_in 1 6) ∧ ((vp_in 2 6) ∧ ((vp_in a1_ 5) ∧ ((vp_in 3 6) ∧ ((vp_in a1_ 5) ∧ ((((oS (oS (oS (oS σ 10 ((0 : Int32).toNatClampNeg) (σ.2.2.1 2 a1_.toNatClampNeg)) 10 ((1 : Int32).toNatClampNeg) ((oS σ 10 ((0 : Int32).toNatClampNeg) (σ.2.2.1 2 a1_.toNatClampNeg)).2.2.1 1 a1_.toNatClampNeg)) 10 ((2 : Int32).toNatClampNeg) ((oS (oS σ 10 ((0 : Int32).toNatClampNeg) (σ.2.2.1 2 a1_.toNatClampNeg)) 10 ((1 : Int32).toNatClampNeg) ((oS σ 10 ((0 : Int32).toNatClampNeg) (σ.2.2.1 2 a1_.toNatClampNeg)).2.2.1 1 a1_.toNatClampNeg)).1 5)) 10 ((3 : Int32).toNatClampNeg) (fJ13_bitCount_95d88 ((oS (oS (oS σ 10 ((0 : Int32).toNatClampNeg) (σ.2.2.1 2 a1_.toNatClampNeg)) 10 ((1 : Int32).toNatClampNeg) ((oS σ 10 ((0 : Int32).toNatClampNeg) (σ.2.2.1 2 a1_.toNatClampNeg)).2.2.1 1 a1_.toNatClampNeg)) 10 ((2 : Int32).toNatClampNeg) ((oS (oS σ 10 ((0 : Int32).toNatClampNeg) (σ.2.2.1 2 a1_.toNatClampNeg)) 10 ((1 : Int32).toNatClampNeg) ((oS σ 10 ((0 : Int32).toNatClampNeg) (σ.2.2.1 2 a1_.toNatClampNeg)).2.2.1 1 a1_.toNatClampNeg)).1 5)).2.2.2 3 a1_.toNatClampNeg))).2.2.2 3 a1_.toNatClampNeg) = 0 → oX4_tell_93 τ j  (oS (oS (oS (oS σ 10 ((0 : Int32).toNatClampNeg) (σ.2.2.1 2 a1_.toNatClampNeg)) 10 ((1 : Int32).toNatClampNeg) ((oS σ 10 ((0 : Int32).toNatClampNeg) (σ.2.2.1 2 a1_.toNatClampNeg)).2.2.1 1 a1_.toNatClampNeg)) 10 ((2 : Int32).toNatClampNeg) ((oS (oS σ 10 ((0 : Int32).toNatClampNeg) (σ.2.2.1 2 a1_.toNatClampNeg)) 10 ((1 : Int32).toNatClampNeg) ((oS σ 10 ((0 : Int32).toNatClampNeg) (σ.2.2.1 2 a1_.toNatClampNeg)).2.2.1 1 a1_.toNatClampNeg)).1 5)) 10 ((3 : Int32).toNatClampNeg) (fJ13_bitCount_95d88 ((oS (oS (oS σ 10 ((0 : Int32).toNatClampNeg) (σ.2.2.1 2 a1_.toNatClampNeg)) 10 ((1 : Int32).toNatClampNeg) ((oS σ 10 ((0 : Int32).toNatClampNeg) (σ.2.2.1 2 a1_.toNatClampNeg)).2.2.1 1 a1_.toNatClampNeg)) 10 ((2 : Int32).toNatClampNeg) ((oS (oS σ 10 ((0 : Int32).toNatClampNeg) (σ.2.2.1 2 a1_.toNatClampNeg)) 10 ((1 : Int32).toNatClampNeg) ((oS σ 10 ((0 : Int32).toNatClampNeg) (σ.2.2.1 2 a1_.toNatClampNeg)).2.2.1 1 a1_.toNatClampNeg)).1 5)).2.2.2 3 a1_.toNatClampNeg))) a2_ 0 4) ∧ (¬ (((oS (oS (oS (oS σ 10 ((0 : Int32).toNatClampNeg) (σ.2.2.1 2 a1_.toNatClampNeg)) 10 ((1 : Int32).toNatClampNeg) ((oS σ 10 ((0 : Int32).toNatClampNeg) (σ.2.2.1 2 a1_.toNatClampNeg)).2.2.1 1 a1_.toNatClampNeg)) 10 ((2 : Int32).toNatClampNeg) ((oS (oS σ 10 ((0 : Int32).toNatClampNeg) (σ.2.2.1 2 a1_.toNatClampNeg)) 10 ((1 : Int32).toNatClampNeg) ((oS σ 10 ((0 : Int32).toNatClampNeg) (σ.2.2.1 2 a1_.toNatClampNeg)).2.2.1 1 a1_.toNatClampNeg)).1 5)) 10 ((3 : Int32).toNatClampNeg) (fJ13_bitCount_95d88 ((oS (oS (oS σ 10 ((0 : Int32).toNatClampNeg) (σ.2.2.1 2 a1_.toNatClampNeg)) 10 ((1 : Int32).toNatClampNeg) ((oS σ 10 ((0 : Int32).toNatClampNeg) (σ.2.2.1 2 a1_.toNatClampNeg)).2.2.1 1 a1_.toNatClampNeg)) 10 ((2 : Int32).toNatClampNeg) ((oS (oS σ 10 ((0 : Int32).toNatClampNeg) (σ.2.2.1 2 a1_.toNatClampNeg)) 10 ((1 : Int32).toNatClampNeg) ((oS σ 10 ((0 : Int32).toNatClampNeg) (σ.2.2.1 2 a1_.toNatClampNeg)).2.2.1 1 a1_.toNatClampNeg)).1 5)).2.2.2 3 a1_.toNatClampNeg))).2.2.2 3 a1_.toNatClampNeg) = 0) → (gX4_highestCell (oS (oS (oS (oS σ 10 ((0 : Int32).toNatClampNeg) (σ.2.2.1 2 a1_.toNatClampNeg)) 10 ((1 : Int32).toNatClampNeg) ((oS σ 10 ((0 : Int32).toNatClampNeg) (σ.2.2.1 2 a1_.toNatClampNeg)).2.2.1 1 a1_.toNatClampNeg)) 10 ((2 : Int32).toNatClampNeg) ((oS (oS σ 10 ((0 : Int32).toNatClampNeg) (σ.2.2.1 2 a1_.toNatClampNeg)) 10 ((1 : Int32).toNatClampNeg) ((oS σ 10 ((0 : Int32).toNatClampNeg) (σ.2.2.1 2 a1_.toNatClampNeg)).2.2.1 1 a1_.toNatClampNeg)).1 5)) 10 ((3 : Int32).toNatClampNeg) (fJ13_bitCount_95d88 ((oS (oS (oS σ 10 ((0 : Int32).toNatClampNeg) (σ.2.2.1 2 a1_.toNatClampNeg)) 10 ((1 : Int32).toNatClampNeg) ((oS σ 10 ((0 : Int32).toNatClampNeg) (σ.2.2.1 2 a1_.toNatClampNeg)).2.2.1 1 a1_.toNatClampNeg)) 10 ((2 : Int32).toNatClampNeg) ((oS (oS σ 10 ((0 : Int32).toNatClampNeg) (σ.2.2.1 2 a1_.toNatClampNeg)) 10 ((1 : Int32).toNatClampNeg) ((oS σ 10 ((0 : Int32).toNatClampNeg) (σ.2.2.1 2 a1_.toNatClampNeg)).2.2.1 1 a1_.toNatClampNeg)).1 5)).2.2.2 3 a1_.toNatClampNeg))) a1_) ∧ (oX4_tell_93 τ j  (oS (oS (oS (oS σ 10 ((0 : Int32).toNatClampNeg) (σ.2.2.1 2 a1_.toNatClampNeg)) 10 ((1 : Int32).toNatClampNeg) ((oS σ 10 ((0 : Int32).toNatClampNeg) (σ.2.2.1 2 a1_.toNatClampNeg)).2.2.1 1 a1_.toNatClampNeg)) 10 ((2 : Int32).toNatClampNeg) ((oS (oS σ 10 ((0 : Int32).toNatClampNeg) (σ.2.2.1 2 a1_.toNatClampNeg)) 10 ((1 : Int32).toNatClampNeg) ((oS σ 10 ((0 : Int32).toNatClampNeg) (σ.2.2.1 2 a1_.toNatClampNeg)).2.2.1 1 a1_.toNatClampNeg)).1 5)) 10 ((3 : Int32).toNatClampNeg) (fJ13_bitCount_95d88 ((oS (oS (oS σ 10 ((0 : Int32).toNatClampNeg) (σ.2.2.1 2 a1_.toNatClampNeg)) 10 ((1 : Int32).toNatClampNeg) ((oS σ 10 ((0 : Int32).toNatClampNeg) (σ.2.2.1 2 a1_.toNatClampNeg)).2.2.1 1 a1_.toNatClampNeg)) 10 ((2 : Int32).toNatClampNeg) ((oS (oS σ 10 ((0 : Int32).toNatClampNeg) (σ.2.2.1 2 a1_.toNatClampNeg)) 10 ((1 : Int32).toNatClampNeg) ((oS σ 10 ((0 : Int32).toNatClampNeg) (σ.2.2.1 2 a1_.toNatClampNeg)).2.2.1 1 a1_.toNatClampNeg)).1 5)).2.2.2 3 a1_.toNatClampNeg))) a2_ ((fX4_highestCell (oS (oS (oS (oS σ 10 ((0 : Int32).toNatClampNeg) (σ.2.2.1 2 a1_.toNatClampNeg)) 10 ((1 : Int32).toNatClampNeg) ((oS σ 10 ((0 : Int32).toNatClampNeg) (σ.2.2.1 2 a1_.toNatClampNeg)).2.2.1 1 a1_.toNatClampNeg)) 10 ((2 : Int32).toNatClampNeg) ((oS (oS σ 10 ((0 : Int32).toNatClampNeg) (σ.2.2.1 2 a1_.toNatClampNeg)) 10 ((1 : Int32).toNatClampNeg) ((oS σ 10 ((0 : Int32).toNatClampNeg) (σ.2.2.1 2 a1_.toNatClampNeg)).2.2.1 1 a1_.toNatClampNeg)).1 5)) 10 ((3 : Int32).toNatClampNeg) (fJ13_bitCount_95d88 ((oS (oS (oS σ 10 ((0 : Int32).toNatClampNeg) (σ.2.2.1 2 a1_.toNatClampNeg)) 10 ((1 : Int32).toNatClampNeg) ((oS σ 10 ((0 : Int32).toNatClampNeg) (σ.2.2.1 2 a1_.toNatClampNeg)).2.2.1 1 a1_.toNatClampNeg)) 10 ((2 : Int32).toNatClampNeg) ((oS (oS σ 10 ((0 : Int32).toNatClampNeg) (σ.2.2.1 2 a1_.toNatClampNeg)) 10 ((1 : Int32).toNatClampNeg) ((oS σ 10 ((0 : Int32).toNatClampNeg) (σ.2.2.1 2 a1_.toNatClampNeg)).2.2.1 1 a1_.toNatClampNeg)).1 5)).2.2.2 3 a1_.toNatClampNeg))) a1_) / 8) 4)))))))))))))
set_option maxHeartbeats 4000000 in
set_option maxRecDepth 100000 in
theorem wX4_tell_0 {X : CX} {cy : Nat → ClassId} {q : Nat → Nat} {τ : TX} {j : Nat} {D : va_G} {A : Nat → Prop} {res : Int32 × OS} (σ : OS) (a1_ : Int32) (a2_ : Int32) (C : Cx X cX4_tell RX4 6 D (gty cy) A 3 0 0) (hR : Rt X (some .int) D (gty cy) A 0 0 (eI (wX4 cy q (tw cy (q 9) τ) res.2) res.1))  (ok : oX4_tell_0 τ j  σ a1_ a2_) (h : pX4_tell_0 τ j  σ a1_ a2_ = res) : At X D A 6 0 0 0 [(0, .ref (q 12)), (1, .int a1_), (2, .int a2_)] [] (wX4 cy q (tw cy (q 9) τ) σ) := by
  unfold pX4_tell_0 at h
  unfold oX4_tell_0 at ok
  refine r_aload_n C 0 (dall tdX4_tell 0 rfl) rfl ?_
  refine r_get C 0 kw_X4 rfl rfl (by decide) kf_X4_39 rfl rfl (dall tdX4_tell 1 rfl) ?_
  refine r_aload_n C 0 (dall tdX4_tell 2 rfl) rfl ?_
  refine r_get C 0 kw_X4 rfl rfl (by decide) kf_X4_53 rfl rfl (dall tdX4_tell 3 rfl) ?_
  obtain ⟨o6, ok⟩ := ok
  obtain ⟨o7, ok⟩ := ok
  obtain ⟨o8, ok⟩ := ok
  refine r_txt C o6 o7 o8 (dall tdX4_tell 4 rfl) ?_
  refine r_astore_n (lv' := [(3, .ref ((tAt τ j).1.1)), (0, .ref (q 12)), (1, .int a1_), (2, .int a2_)]) C (dall tdX4_tell 5 rfl) (by decide) rfl ?_
  refine r_aload_n C 0 (dall tdX4_tell 6 rfl) rfl ?_
  refine r_ifnonnull (tgt := 16) C (dall tdX4_tell 7 rfl) (by decide) ?_
  refine r_aload_n C 1 (dall tdX4_tell 10 rfl) rfl ?_
  refine r_get C 0 kw_X4 rfl rfl (by decide) kf_X4_33 rfl rfl (dall tdX4_tell 11 rfl) ?_
  refine r_iconst (v := 0) C (dall tdX4_tell 12 rfl) (by decide) ?_
  refine r_aload_n C 1 (dall tdX4_tell 13 rfl) rfl ?_
  refine r_get C 0 kw_X4 rfl rfl (by decide) kf_X4_18 rfl rfl (dall tdX4_tell 14 rfl) ?_
  refine r_iload_n C 2 (dall tdX4_tell 15 rfl) rfl ?_
  obtain ⟨o9, ok⟩ := ok
  refine r_iald C 3 0 rfl rfl o9 (dall tdX4_tell 16 rfl) ?_
  obtain ⟨o10, ok⟩ := ok
  refine r_iast C 5 0 rfl rfl o10 (pa_X4_this_10 cy q (tw cy (q 9) τ) σ ((0 : Int32).toNatClampNeg) (σ.2.2.1 2 a1_.toNatClampNeg)) (dall tdX4_tell 17 rfl) ?_
  refine r_aload_n C 1 (dall tdX4_tell 18 rfl) rfl ?_
  refine r_get C 0 kw_X4 rfl rfl (by decide) kf_X4_33 rfl rfl (dall tdX4_tell 19 rfl) ?_
  refine r_iconst (v := 1) C (dall tdX4_tell 20 rfl) (by decide) ?_
  refine r_aload_n C 1 (dall tdX4_tell 21 rfl) rfl ?_
  refine r_get C 0 kw_X4 rfl rfl (by decide) kf_X4_15 rfl rfl (dall tdX4_tell 22 rfl) ?_
  refine r_iload_n C 2 (dall tdX4_tell 23 rfl) rfl ?_
  obtain ⟨o11, ok⟩ := ok
  refine r_iald C 2 0 rfl rfl o11 (dall tdX4_tell 24 rfl) ?_
  obtain ⟨o12, ok⟩ := ok
  refine r_iast C 5 0 rfl rfl o12 (pa_X4_this_10 cy q (tw cy (q 9) τ) (oS σ 10 ((0 : Int32).toNatClampNeg) (σ.2.2.1 2 a1_.toNatClampNeg)) ((1 : Int32).toNatClampNeg) ((oS σ 10 ((0 : Int32).toNatClampNeg) (σ.2.2.1 2 a1_.toNatClampNeg)).2.2.1 1 a1_.toNatClampNeg)) (dall tdX4_tell 25 rfl) ?_
  refine r_aload_n C 1 (dall tdX4_tell 26 rfl) rfl ?_
  refine r_get C 0 kw_X4 rfl rfl (by decide) kf_X4_33 rfl rfl (dall tdX4_tell 27 rfl) ?_
  refine r_iconst (v := 2) C (dall tdX4_tell 28 rfl) (by decide) ?_
  refine r_aload_n C 1 (dall tdX4_tell 29 rfl) rfl ?_
  refine r_get C 0 kw_X4 rfl rfl (by decide) kf_X4_47 rfl rfl (dall tdX4_tell 30 rfl) ?_
  obtain ⟨o13, ok⟩ := ok
  refine r_iast C 5 0 rfl rfl o13 (pa_X4_this_10 cy q (tw cy (q 9) τ) (oS (oS σ 10 ((0 : Int32).toNatClampNeg) (σ.2.2.1 2 a1_.toNatClampNeg)) 10 ((1 : Int32).toNatClampNeg) ((oS σ 10 ((0 : Int32).toNatClampNeg) (σ.2.2.1 2 a1_.toNatClampNeg)).2.2.1 1 a1_.toNatClampNeg)) ((2 : Int32).toNatClampNeg) ((oS (oS σ 10 ((0 : Int32).toNatClampNeg) (σ.2.2.1 2 a1_.toNatClampNeg)) 10 ((1 : Int32).toNatClampNeg) ((oS σ 10 ((0 : Int32).toNatClampNeg) (σ.2.2.1 2 a1_.toNatClampNeg)).2.2.1 1 a1_.toNatClampNeg)).1 5)) (dall tdX4_tell 31 rfl) ?_
  refine r_aload_n C 1 (dall tdX4_tell 32 rfl) rfl ?_
  refine r_get C 0 kw_X4 rfl rfl (by decide) kf_X4_33 rfl rfl (dall tdX4_tell 33 rfl) ?_
  refine r_iconst (v := 3) C (dall tdX4_tell 34 rfl) (by decide) ?_
  refine r_aload_n C 1 (dall tdX4_tell 35 rfl) rfl ?_
  refine r_get C 0 kw_X4 rfl rfl (by decide) kf_X4_21 rfl rfl (dall tdX4_tell 36 rfl) ?_
  refine r_iload_n C 2 (dall tdX4_tell 37 rfl) rfl ?_
  obtain ⟨o14, ok⟩ := ok
  refine r_lald C 4 1 rfl rfl o14 (dall tdX4_tell 38 rfl) ?_
  refine r_s0I (as := [.long ((oS (oS (oS σ 10 ((0 : Int32).toNatClampNeg) (σ.2.2.1 2 a1_.toNatClampNeg)) 10 ((1 : Int32).toNatClampNeg) ((oS σ 10 ((0 : Int32).toNatClampNeg) (σ.2.2.1 2 a1_.toNatClampNeg)).2.2.1 1 a1_.toNatClampNeg)) 10 ((2 : Int32).toNatClampNeg) ((oS (oS σ 10 ((0 : Int32).toNatClampNeg) (σ.2.2.1 2 a1_.toNatClampNeg)) 10 ((1 : Int32).toNatClampNeg) ((oS σ 10 ((0 : Int32).toNatClampNeg) (σ.2.2.1 2 a1_.toNatClampNeg)).2.2.1 1 a1_.toNatClampNeg)).1 5)).2.2.2 3 a1_.toNatClampNeg)]) C (zJ13_bitCount_95d88 ((oS (oS (oS σ 10 ((0 : Int32).toNatClampNeg) (σ.2.2.1 2 a1_.toNatClampNeg)) 10 ((1 : Int32).toNatClampNeg) ((oS σ 10 ((0 : Int32).toNatClampNeg) (σ.2.2.1 2 a1_.toNatClampNeg)).2.2.1 1 a1_.toNatClampNeg)) 10 ((2 : Int32).toNatClampNeg) ((oS (oS σ 10 ((0 : Int32).toNatClampNeg) (σ.2.2.1 2 a1_.toNatClampNeg)) 10 ((1 : Int32).toNatClampNeg) ((oS σ 10 ((0 : Int32).toNatClampNeg) (σ.2.2.1 2 a1_.toNatClampNeg)).2.2.1 1 a1_.toNatClampNeg)).1 5)).2.2.2 3 a1_.toNatClampNeg) ) ms_J13_bitCount_95d88 km_X4_60 (by decide) (by decide) ⟨Nat.le_refl _, Nat.le_refl _⟩ rfl rfl (Nat.le_of_ble_eq_true rfl) (dall tdX4_tell 39 rfl) ?_
  obtain ⟨o15, ok⟩ := ok
  refine r_iast C 5 0 rfl rfl o15 (pa_X4_this_10 cy q (tw cy (q 9) τ) (oS (oS (oS σ 10 ((0 : Int32).toNatClampNeg) (σ.2.2.1 2 a1_.toNatClampNeg)) 10 ((1 : Int32).toNatClampNeg) ((oS σ 10 ((0 : Int32).toNatClampNeg) (σ.2.2.1 2 a1_.toNatClampNeg)).2.2.1 1 a1_.toNatClampNeg)) 10 ((2 : Int32).toNatClampNeg) ((oS (oS σ 10 ((0 : Int32).toNatClampNeg) (σ.2.2.1 2 a1_.toNatClampNeg)) 10 ((1 : Int32).toNatClampNeg) ((oS σ 10 ((0 : Int32).toNatClampNeg) (σ.2.2.1 2 a1_.toNatClampNeg)).2.2.1 1 a1_.toNatClampNeg)).1 5)) ((3 : Int32).toNatClampNeg) (fJ13_bitCount_95d88 ((oS (oS (oS σ 10 ((0 : Int32).toNatClampNeg) (σ.2.2.1 2 a1_.toNatClampNeg)) 10 ((1 : Int32).toNatClampNeg) ((oS σ 10 ((0 : Int32).toNatClampNeg) (σ.2.2.1 2 a1_.toNatClampNeg)).2.2.1 1 a1_.toNatClampNeg)) 10 ((2 : Int32).toNatClampNeg) ((oS (oS σ 10 ((0 : Int32).toNatClampNeg) (σ.2.2.1 2 a1_.toNatClampNeg)) 10 ((1 : Int32).toNatClampNeg) ((oS σ 10 ((0 : Int32).toNatClampNeg) (σ.2.2.1 2 a1_.toNatClampNeg)).2.2.1 1 a1_.toNatClampNeg)).1 5)).2.2.2 3 a1_.toNatClampNeg))) (dall tdX4_tell 40 rfl) ?_
  refine r_aload_n C 1 (dall tdX4_tell 41 rfl) rfl ?_
  refine r_get C 0 kw_X4 rfl rfl (by decide) kf_X4_33 rfl rfl (dall tdX4_tell 42 rfl) ?_
  refine r_iconst (v := 4) C (dall tdX4_tell 43 rfl) (by decide) ?_
  refine r_aload_n C 1 (dall tdX4_tell 44 rfl) rfl ?_
  refine r_get C 0 kw_X4 rfl rfl (by decide) kf_X4_21 rfl rfl (dall tdX4_tell 45 rfl) ?_
  refine r_iload_n C 2 (dall tdX4_tell 46 rfl) rfl ?_
  obtain ⟨o16, ok⟩ := ok
  refine r_lald C 4 1 rfl rfl o16 (dall tdX4_tell 47 rfl) ?_
  refine r_lconst (v := 0) C (dall tdX4_tell 48 rfl) (by decide) ?_
  refine r_lif_ne (tgt := 85) C (dall tdX4_tell 49 rfl) (dall tdX4_tell 50 rfl) (by decide) (fun c17 => ?_) (fun c17 => ?_)
  · have h := (if_neg c17).symm.trans h
    have ok := ok.2 c17
    refine r_aload_n C 1 (dall tdX4_tell 53 rfl) rfl ?_
    refine r_iload_n C 2 (dall tdX4_tell 54 rfl) rfl ?_
    obtain ⟨o18, ok⟩ := ok
    refine r_vI (as := [.int a1_]) C (zX4_highestCell cy q (tw cy (q 9) τ) (oS (oS (oS (oS σ 10 ((0 : Int32).toNatClampNeg) (σ.2.2.1 2 a1_.toNatClampNeg)) 10 ((1 : Int32).toNatClampNeg) ((oS σ 10 ((0 : Int32).toNatClampNeg) (σ.2.2.1 2 a1_.toNatClampNeg)).2.2.1 1 a1_.toNatClampNeg)) 10 ((2 : Int32).toNatClampNeg) ((oS (oS σ 10 ((0 : Int32).toNatClampNeg) (σ.2.2.1 2 a1_.toNatClampNeg)) 10 ((1 : Int32).toNatClampNeg) ((oS σ 10 ((0 : Int32).toNatClampNeg) (σ.2.2.1 2 a1_.toNatClampNeg)).2.2.1 1 a1_.toNatClampNeg)).1 5)) 10 ((3 : Int32).toNatClampNeg) (fJ13_bitCount_95d88 ((oS (oS (oS σ 10 ((0 : Int32).toNatClampNeg) (σ.2.2.1 2 a1_.toNatClampNeg)) 10 ((1 : Int32).toNatClampNeg) ((oS σ 10 ((0 : Int32).toNatClampNeg) (σ.2.2.1 2 a1_.toNatClampNeg)).2.2.1 1 a1_.toNatClampNeg)) 10 ((2 : Int32).toNatClampNeg) ((oS (oS σ 10 ((0 : Int32).toNatClampNeg) (σ.2.2.1 2 a1_.toNatClampNeg)) 10 ((1 : Int32).toNatClampNeg) ((oS σ 10 ((0 : Int32).toNatClampNeg) (σ.2.2.1 2 a1_.toNatClampNeg)).2.2.1 1 a1_.toNatClampNeg)).1 5)).2.2.2 3 a1_.toNatClampNeg))) a1_ o18) mv_X4_highestCell km_X4_107 (by decide) (by decide) ⟨Nat.le_refl _, Nat.le_refl _⟩ rfl rfl rfl rfl (Nat.le_of_ble_eq_true rfl) (dall tdX4_tell 55 rfl) ?_
    refine r_bipush (v := 8) C (dall tdX4_tell 56 rfl) (by decide) ?_
    refine r_idiv C (dall tdX4_tell 57 rfl) (by decide) ?_
    refine r_pick [1, 3, 0] rfl ?_
    exact wX4_tell_93 (oS (oS (oS (oS σ 10 ((0 : Int32).toNatClampNeg) (σ.2.2.1 2 a1_.toNatClampNeg)) 10 ((1 : Int32).toNatClampNeg) ((oS σ 10 ((0 : Int32).toNatClampNeg) (σ.2.2.1 2 a1_.toNatClampNeg)).2.2.1 1 a1_.toNatClampNeg)) 10 ((2 : Int32).toNatClampNeg) ((oS (oS σ 10 ((0 : Int32).toNatClampNeg) (σ.2.2.1 2 a1_.toNatClampNeg)) 10 ((1 : Int32).toNatClampNeg) ((oS σ 10 ((0 : Int32).toNatClampNeg) (σ.2.2.1 2 a1_.toNatClampNeg)).2.2.1 1 a1_.toNatClampNeg)).1 5)) 10 ((3 : Int32).toNatClampNeg) (fJ13_bitCount_95d88 ((oS (oS (oS σ 10 ((0 : Int32).toNatClampNeg) (σ.2.2.1 2 a1_.toNatClampNeg)) 10 ((1 : Int32).toNatClampNeg) ((oS σ 10 ((0 : Int32).toNatClampNeg) (σ.2.2.1 2 a1_.toNatClampNeg)).2.2.1 1 a1_.toNatClampNeg)) 10 ((2 : Int32).toNatClampNeg) ((oS (oS σ 10 ((0 : Int32).toNatClampNeg) (σ.2.2.1 2 a1_.toNatClampNeg)) 10 ((1 : Int32).toNatClampNeg) ((oS σ 10 ((0 : Int32).toNatClampNeg) (σ.2.2.1 2 a1_.toNatClampNeg)).2.2.1 1 a1_.toNatClampNeg)).1 5)).2.2.2 3 a1_.toNatClampNeg))) a2_ ((fX4_highestCell (oS (oS (oS (oS σ 10 ((0 : Int32).toNatClampNeg) (σ.2.2.1 2 a1_.toNatClampNeg)) 10 ((1 : Int32).toNatClampNeg) ((oS σ 10 ((0 : Int32).toNatClampNeg) (σ.2.2.1 2 a1_.toNatClampNeg)).2.2.1 1 a1_.toNatClampNeg)) 10 ((2 : Int32).toNatClampNeg) ((oS (oS σ 10 ((0 : Int32).toNatClampNeg) (σ.2.2.1 2 a1_.toNatClampNeg)) 10 ((1 : Int32).toNatClampNeg) ((oS σ 10 ((0 : Int32).toNatClampNeg) (σ.2.2.1 2 a1_.toNatClampNeg)).2.2.1 1 a1_.toNatClampNeg)).1 5)) 10 ((3 : Int32).toNatClampNeg) (fJ13_bitCount_95d88 ((oS (oS (oS σ 10 ((0 : Int32).toNatClampNeg) (σ.2.2.1 2 a1_.toNatClampNeg)) 10 ((1 : Int32).toNatClampNeg) ((oS σ 10 ((0 : Int32).toNatClampNeg) (σ.2.2.1 2 a1_.toNatClampNeg)).2.2.1 1 a1_.toNatClampNeg)) 10 ((2 : Int32).toNatClampNeg) ((oS (oS σ 10 ((0 : Int32).toNatClampNeg) (σ.2.2.1 2 a1_.toNatClampNeg)) 10 ((1 : Int32).toNatClampNeg) ((oS σ 10 ((0 : Int32).toNatClampNeg) (σ.2.2.1 2 a1_.toNatClampNeg)).2.2.1 1 a1_.toNatClampNeg)).1 5)).2.2.2 3 a1_.toNatClampNeg))) a1_) / 8) 4 C hR  ok h
  · have h := (if_pos c17).symm.trans h
    have ok := ok.1 c17
    refine r_iconst (v := 0) C (dall tdX4_tell 51 rfl) (by decide) ?_
    refine r_goto (tgt := 93) C (dall tdX4_tell 52 rfl) (by decide) ?_
    refine r_pick [1, 3, 0] rfl ?_
    exact wX4_tell_93 (oS (oS (oS (oS σ 10 ((0 : Int32).toNatClampNeg) (σ.2.2.1 2 a1_.toNatClampNeg)) 10 ((1 : Int32).toNatClampNeg) ((oS σ 10 ((0 : Int32).toNatClampNeg) (σ.2.2.1 2 a1_.toNatClampNeg)).2.2.1 1 a1_.toNatClampNeg)) 10 ((2 : Int32).toNatClampNeg) ((oS (oS σ 10 ((0 : Int32).toNatClampNeg) (σ.2.2.1 2 a1_.toNatClampNeg)) 10 ((1 : Int32).toNatClampNeg) ((oS σ 10 ((0 : Int32).toNatClampNeg) (σ.2.2.1 2 a1_.toNatClampNeg)).2.2.1 1 a1_.toNatClampNeg)).1 5)) 10 ((3 : Int32).toNatClampNeg) (fJ13_bitCount_95d88 ((oS (oS (oS σ 10 ((0 : Int32).toNatClampNeg) (σ.2.2.1 2 a1_.toNatClampNeg)) 10 ((1 : Int32).toNatClampNeg) ((oS σ 10 ((0 : Int32).toNatClampNeg) (σ.2.2.1 2 a1_.toNatClampNeg)).2.2.1 1 a1_.toNatClampNeg)) 10 ((2 : Int32).toNatClampNeg) ((oS (oS σ 10 ((0 : Int32).toNatClampNeg) (σ.2.2.1 2 a1_.toNatClampNeg)) 10 ((1 : Int32).toNatClampNeg) ((oS σ 10 ((0 : Int32).toNatClampNeg) (σ.2.2.1 2 a1_.toNatClampNeg)).2.2.1 1 a1_.toNatClampNeg)).1 5)).2.2.2 3 a1_.toNatClampNeg))) a2_ 0 4 C hR  ok h
def fX4_tell (τ : TX) (j : Nat) (σ : OS) (a1_ : Int32) (a2_ : Int32) : Int32 × OS := pX4_tell_0 τ j  σ a1_ a2_
def gX4_tell (τ : TX) (j : Nat) (σ : OS) (a1_ : Int32) (a2_ : Int32) : Prop := oX4_tell_0 τ j  σ a1_ a2_
set_option maxRecDepth 100000 in
theorem zX4_tell (cy : Nat → ClassId) (q : Nat → Nat) (τ : TX) (j : Nat)  {D : va_G} (σ : OS) (a1_ : Int32) (a2_ : Int32) (ok : gX4_tell τ j σ a1_ a2_)  : Con yX4_tell cX4_tell 6 (some .int) 3 0 0 D (gty cy) [.ref (q 12), .int a1_, .int a2_] (wX4 cy q (tw cy (q 9) τ) σ) (eI (wX4 cy q (tw cy (q 9) τ) (fX4_tell τ j σ a1_ a2_).2) (fX4_tell τ j σ a1_ a2_).1) :=
  Con.of (own := RX4) (by decide +kernel) rfl (Nat.le_of_ble_eq_true rfl) (Nat.zero_le _) (fun X A C hR _ => (wX4_tell_0 σ a1_ a2_ C hR  ok rfl))
theorem mv_X4_tell : MV yX4_tell cX4_tell 6 (some .int) RX4 2 := ⟨ki_X4_tell, kv_X4_tell, kn_X4, kc_X4_tell, by decide +kernel⟩
def tbX4_holds : List (Nat × Instr × Nat) := [(0, .aload_n 0, 1), (1, .iload_n 1, 1), (2, .iconst 0, 1), (3, .invokevirtual 121, 3), (6, .istore_n 2, 1), (7, .aload_n 0, 1), (8, .getfield 47, 3), (11, .bipush 10, 2), (13, .if_icmp .ge 9, 3), (16, .iload_n 2, 1), (17, .iconst 4, 1), (18, .iadd, 1), (19, .goto 4, 3), (22, .iload_n 2, 1), (23, .istore_n 3, 1), (24, .iload_n 2, 1), (25, .istore 4, 2), (27, .aload_n 0, 1), (28, .getfield 9, 3), (31, .iload_n 1, 1), (32, .iaload, 1), (33, .tableswitch 92 1 5 #[35, 41, 49, 64, 85], 35), (68, .iload_n 3, 1), (69, .istore 4, 2), (71, .goto 54, 3), (74, .iconst 2, 1), (75, .iload_n 2, 1), (76, .imul, 1), (77, .istore 4, 2), (79, .goto 46, 3), (82, .iload_n 3, 1), (83, .aload_n 0, 1), (84, .getfield 15, 3), (87, .iload_n 1, 1), (88, .iaload, 1), (89, .invokestatic 94, 3), (92, .istore 4, 2), (94, .goto 31, 3), (97, .aload_n 0, 1), (98, .getfield 18, 3), (101, .iload_n 1, 1), (102, .iaload, 1), (103, .ifCond .ne 7, 3), (106, .iconst 0, 1), (107, .goto 6, 3), (110, .iconst 2, 1), (111, .iload_n 2, 1), (112, .imul, 1), (113, .istore 4, 2), (115, .goto 10, 3), (118, .bipush 64, 2), (120, .istore 4, 2), (122, .goto 3, 3), (125, .bipush 64, 2), (127, .iload 4, 2), (129, .invokestatic 101, 3), (132, .ireturn, 1)]
theorem tdX4_holds : tbX4_holds.all (fun q => decide (decode cX4_holds q.1 = .ok q.2)) = true := by decide +kernel
def pX4_holds_125 (τ : TX)  (σ : OS) (a4_ : Int32) : Int32 × OS := (jmin 64 a4_, σ)
set_option maxHeartbeats 4000000 in
set_option maxRecDepth 100000 in
theorem wX4_holds_125 {X : CX} {cy : Nat → ClassId} {q : Nat → Nat} {τ : TX} {D : va_G} {A : Nat → Prop} {res : Int32 × OS} (σ : OS) (a4_ : Int32) (C : Cx X cX4_holds RX4 5 D (gty cy) A 4 0 0) (hR : Rt X (some .int) D (gty cy) A 0 0 (eI (wX4 cy q (tw cy (q 9) τ) res.2) res.1))  (h : pX4_holds_125 τ  σ a4_ = res) : At X D A 5 0 0 125 [(4, .int a4_)] [] (wX4 cy q (tw cy (q 9) τ) σ) := by
  unfold pX4_holds_125 at h
  refine r_bipush (v := 64) C (dall tdX4_holds 53 rfl) (by decide) ?_
  refine r_iload C 0 (dall tdX4_holds 54 rfl) rfl ?_
  refine r_mmin C km_X4_101 (dall tdX4_holds 55 rfl) (by decide) (Nat.le_of_ble_eq_true rfl) ⟨Nat.le_refl _, Nat.le_refl _⟩ ?_
  exact r_iret C hR (dall tdX4_holds 56 rfl) (by subst h; exact ⟨rfl, rfl⟩)
def pX4_holds_113 (τ : TX)  (σ : OS) (b0_ : Int32) : Int32 × OS := pX4_holds_125 τ  σ b0_
set_option maxHeartbeats 4000000 in
set_option maxRecDepth 100000 in
theorem wX4_holds_113 {X : CX} {cy : Nat → ClassId} {q : Nat → Nat} {τ : TX} {D : va_G} {A : Nat → Prop} {res : Int32 × OS} (σ : OS) (b0_ : Int32) (C : Cx X cX4_holds RX4 5 D (gty cy) A 4 0 0) (hR : Rt X (some .int) D (gty cy) A 0 0 (eI (wX4 cy q (tw cy (q 9) τ) res.2) res.1))  (h : pX4_holds_113 τ  σ b0_ = res) : At X D A 5 0 0 113 [] [.int b0_] (wX4 cy q (tw cy (q 9) τ) σ) := by
  unfold pX4_holds_113 at h
  refine r_istore (lv' := [(4, .int b0_)]) C (dall tdX4_holds 48 rfl) (by decide) rfl ?_
  refine r_goto (tgt := 125) C (dall tdX4_holds 49 rfl) (by decide) ?_
  exact wX4_holds_125 σ b0_ C hR  h
def pX4_holds_23 (τ : TX)  (σ : OS) (a1_ : Int32) (a2_ : Int32) (b0_ : Int32) : Int32 × OS := if (σ.2.2.1 0 a1_.toNatClampNeg) = 1 then pX4_holds_125 τ  σ b0_ else if (σ.2.2.1 0 a1_.toNatClampNeg) = 2 then pX4_holds_125 τ  σ (2 * a2_) else if (σ.2.2.1 0 a1_.toNatClampNeg) = 3 then pX4_holds_125 τ  σ (jmax b0_ (σ.2.2.1 1 a1_.toNatClampNeg)) else if (σ.2.2.1 0 a1_.toNatClampNeg) = 4 then if (σ.2.2.1 2 a1_.toNatClampNeg) = 0 then pX4_holds_113 τ  σ 0 else pX4_holds_113 τ  σ (2 * a2_) else if (σ.2.2.1 0 a1_.toNatClampNeg) = 5 then pX4_holds_125 τ  σ 64 else pX4_holds_125 τ  σ a2_
def oX4_holds_23 (τ : TX)  (σ : OS) (a1_ : Int32) (a2_ : Int32) (b0_ : Int32) : Prop := (vp_in a1_ 5) ∧ (((σ.2.2.1 0 a1_.toNatClampNeg) = 1 → True) ∧ (¬ (σ.2.2.1 0 a1_.toNatClampNeg) = 1 → ((σ.2.2.1 0 a1_.toNatClampNeg) = 2 → True) ∧ (¬ (σ.2.2.1 0 a1_.toNatClampNeg) = 2 → ((σ.2.2.1 0 a1_.toNatClampNeg) = 3 → vp_in a1_ 5) ∧ (¬ (σ.2.2.1 0 a1_.toNatClampNeg) = 3 → ((σ.2.2.1 0 a1_.toNatClampNeg) = 4 → vp_in a1_ 5) ∧ (¬ (σ.2.2.1 0 a1_.toNatClampNeg) = 4 → True)))))
set_option maxHeartbeats 4000000 in
set_option maxRecDepth 100000 in
theorem wX4_holds_23 {X : CX} {cy : Nat → ClassId} {q : Nat → Nat} {τ : TX} {D : va_G} {A : Nat → Prop} {res : Int32 × OS} (σ : OS) (a1_ : Int32) (a2_ : Int32) (b0_ : Int32) (C : Cx X cX4_holds RX4 5 D (gty cy) A 4 0 0) (hR : Rt X (some .int) D (gty cy) A 0 0 (eI (wX4 cy q (tw cy (q 9) τ) res.2) res.1))  (ok : oX4_holds_23 τ  σ a1_ a2_ b0_) (h : pX4_holds_23 τ  σ a1_ a2_ b0_ = res) : At X D A 5 0 0 23 [(0, .ref (q 12)), (1, .int a1_), (2, .int a2_)] [.int b0_] (wX4 cy q (tw cy (q 9) τ) σ) := by
  unfold pX4_holds_23 at h
  unfold oX4_holds_23 at ok
  refine r_istore_n (lv' := [(3, .int b0_), (0, .ref (q 12)), (1, .int a1_), (2, .int a2_)]) C (dall tdX4_holds 14 rfl) (by decide) rfl ?_
  refine r_iload_n C 3 (dall tdX4_holds 15 rfl) rfl ?_
  refine r_istore (lv' := [(4, .int a2_), (3, .int b0_), (0, .ref (q 12)), (1, .int a1_), (2, .int a2_)]) C (dall tdX4_holds 16 rfl) (by decide) rfl ?_
  refine r_aload_n C 2 (dall tdX4_holds 17 rfl) rfl ?_
  refine r_get C 0 kw_X4 rfl rfl (by decide) kf_X4_9 rfl rfl (dall tdX4_holds 18 rfl) ?_
  refine r_iload_n C 3 (dall tdX4_holds 19 rfl) rfl ?_
  obtain ⟨o1, ok⟩ := ok
  refine r_iald C 1 0 rfl rfl o1 (dall tdX4_holds 20 rfl) ?_
  by_cases e33_0 : (σ.2.2.1 0 a1_.toNatClampNeg) = 1
  · have h := (if_pos e33_0).symm.trans h
    have ok := ok.1 e33_0
    refine r_tsIn (off := 35) (tgt := 68) C 1 (dall tdX4_holds 21 rfl) e33_0 (by decide) (by decide) (by decide) (by decide) ?_
    refine r_iload_n C 1 (dall tdX4_holds 22 rfl) rfl ?_
    refine r_istore (lv' := [(4, .int b0_), (3, .int b0_), (0, .ref (q 12)), (1, .int a1_), (2, .int a2_)]) C (dall tdX4_holds 23 rfl) (by decide) rfl ?_
    refine r_goto (tgt := 125) C (dall tdX4_holds 24 rfl) (by decide) ?_
    refine r_pick [0] rfl ?_
    exact wX4_holds_125 σ b0_ C hR  h
  · have h := (if_neg e33_0).symm.trans h
    have ok := ok.2 e33_0
    by_cases e33_1 : (σ.2.2.1 0 a1_.toNatClampNeg) = 2
    · have h := (if_pos e33_1).symm.trans h
      have ok := ok.1 e33_1
      refine r_tsIn (off := 41) (tgt := 74) C 2 (dall tdX4_holds 21 rfl) e33_1 (by decide) (by decide) (by decide) (by decide) ?_
      refine r_iconst (v := 2) C (dall tdX4_holds 25 rfl) (by decide) ?_
      refine r_iload_n C 4 (dall tdX4_holds 26 rfl) rfl ?_
      refine r_imul C (dall tdX4_holds 27 rfl) ?_
      refine r_istore (lv' := [(4, .int (2 * a2_)), (3, .int b0_), (0, .ref (q 12)), (1, .int a1_), (2, .int a2_)]) C (dall tdX4_holds 28 rfl) (by decide) rfl ?_
      refine r_goto (tgt := 125) C (dall tdX4_holds 29 rfl) (by decide) ?_
      refine r_pick [0] rfl ?_
      exact wX4_holds_125 σ (2 * a2_) C hR  h
    · have h := (if_neg e33_1).symm.trans h
      have ok := ok.2 e33_1
      by_cases e33_2 : (σ.2.2.1 0 a1_.toNatClampNeg) = 3
      · have h := (if_pos e33_2).symm.trans h
        have ok := ok.1 e33_2
        refine r_tsIn (off := 49) (tgt := 82) C 3 (dall tdX4_holds 21 rfl) e33_2 (by decide) (by decide) (by decide) (by decide) ?_
        refine r_iload_n C 1 (dall tdX4_holds 30 rfl) rfl ?_
        refine r_aload_n C 2 (dall tdX4_holds 31 rfl) rfl ?_
        refine r_get C 0 kw_X4 rfl rfl (by decide) kf_X4_15 rfl rfl (dall tdX4_holds 32 rfl) ?_
        refine r_iload_n C 3 (dall tdX4_holds 33 rfl) rfl ?_
        have o2 := ok
        refine r_iald C 2 0 rfl rfl o2 (dall tdX4_holds 34 rfl) ?_
        refine r_mmax C km_X4_94 (dall tdX4_holds 35 rfl) (by decide) (Nat.le_of_ble_eq_true rfl) ⟨Nat.le_refl _, Nat.le_refl _⟩ ?_
        refine r_istore (lv' := [(4, .int (jmax b0_ (σ.2.2.1 1 a1_.toNatClampNeg))), (3, .int b0_), (0, .ref (q 12)), (1, .int a1_), (2, .int a2_)]) C (dall tdX4_holds 36 rfl) (by decide) rfl ?_
        refine r_goto (tgt := 125) C (dall tdX4_holds 37 rfl) (by decide) ?_
        refine r_pick [0] rfl ?_
        exact wX4_holds_125 σ (jmax b0_ (σ.2.2.1 1 a1_.toNatClampNeg)) C hR  h
      · have h := (if_neg e33_2).symm.trans h
        have ok := ok.2 e33_2
        by_cases e33_3 : (σ.2.2.1 0 a1_.toNatClampNeg) = 4
        · have h := (if_pos e33_3).symm.trans h
          have ok := ok.1 e33_3
          refine r_tsIn (off := 64) (tgt := 97) C 4 (dall tdX4_holds 21 rfl) e33_3 (by decide) (by decide) (by decide) (by decide) ?_
          refine r_aload_n C 2 (dall tdX4_holds 38 rfl) rfl ?_
          refine r_get C 0 kw_X4 rfl rfl (by decide) kf_X4_18 rfl rfl (dall tdX4_holds 39 rfl) ?_
          refine r_iload_n C 3 (dall tdX4_holds 40 rfl) rfl ?_
          have o3 := ok
          refine r_iald C 3 0 rfl rfl o3 (dall tdX4_holds 41 rfl) ?_
          refine r_if_ne (tgt := 110) C (dall tdX4_holds 42 rfl) (by decide) (fun c4 => ?_) (fun c4 => ?_)
          · have h := (if_neg c4).symm.trans h
            refine r_iconst (v := 2) C (dall tdX4_holds 45 rfl) (by decide) ?_
            refine r_iload_n C 4 (dall tdX4_holds 46 rfl) rfl ?_
            refine r_imul C (dall tdX4_holds 47 rfl) ?_
            refine r_pick [] rfl ?_
            exact wX4_holds_113 σ (2 * a2_) C hR  h
          · have h := (if_pos c4).symm.trans h
            refine r_iconst (v := 0) C (dall tdX4_holds 43 rfl) (by decide) ?_
            refine r_goto (tgt := 113) C (dall tdX4_holds 44 rfl) (by decide) ?_
            refine r_pick [] rfl ?_
            exact wX4_holds_113 σ 0 C hR  h
        · have h := (if_neg e33_3).symm.trans h
          have ok := ok.2 e33_3
          by_cases e33_4 : (σ.2.2.1 0 a1_.toNatClampNeg) = 5
          · have h := (if_pos e33_4).symm.trans h
            refine r_tsIn (off := 85) (tgt := 118) C 5 (dall tdX4_holds 21 rfl) e33_4 (by decide) (by decide) (by decide) (by decide) ?_
            refine r_bipush (v := 64) C (dall tdX4_holds 50 rfl) (by decide) ?_
            refine r_istore (lv' := [(4, .int 64), (3, .int b0_), (0, .ref (q 12)), (1, .int a1_), (2, .int a2_)]) C (dall tdX4_holds 51 rfl) (by decide) rfl ?_
            refine r_goto (tgt := 125) C (dall tdX4_holds 52 rfl) (by decide) ?_
            refine r_pick [0] rfl ?_
            exact wX4_holds_125 σ 64 C hR  h
          · have h := (if_neg e33_4).symm.trans h
            refine r_tsOut (tgt := 125) C (dall tdX4_holds 21 rfl) (by have n0 := ne_toInt e33_0; rw [show (1 : Int32).toInt = 1 from by decide] at n0; have n1 := ne_toInt e33_1; rw [show (2 : Int32).toInt = 2 from by decide] at n1; have n2 := ne_toInt e33_2; rw [show (3 : Int32).toInt = 3 from by decide] at n2; have n3 := ne_toInt e33_3; rw [show (4 : Int32).toInt = 4 from by decide] at n3; have n4 := ne_toInt e33_4; rw [show (5 : Int32).toInt = 5 from by decide] at n4; omega) (by decide) ?_
            refine r_pick [0] rfl ?_
            exact wX4_holds_125 σ a2_ C hR  h
def pX4_holds_6 (τ : TX)  (σ : OS) (a1_ : Int32) (b0_ : Int32) : Int32 × OS := if 10 ≤ (σ.1 5) then pX4_holds_23 τ  σ a1_ b0_ b0_ else pX4_holds_23 τ  σ a1_ b0_ (b0_ + 4)
def oX4_holds_6 (τ : TX)  (σ : OS) (a1_ : Int32) (b0_ : Int32) : Prop := (10 ≤ (σ.1 5) → oX4_holds_23 τ  σ a1_ b0_ b0_) ∧ (¬ (10 ≤ (σ.1 5)) → oX4_holds_23 τ  σ a1_ b0_ (b0_ + 4))
set_option maxHeartbeats 4000000 in
set_option maxRecDepth 100000 in
theorem wX4_holds_6 {X : CX} {cy : Nat → ClassId} {q : Nat → Nat} {τ : TX} {D : va_G} {A : Nat → Prop} {res : Int32 × OS} (σ : OS) (a1_ : Int32) (b0_ : Int32) (C : Cx X cX4_holds RX4 5 D (gty cy) A 4 0 0) (hR : Rt X (some .int) D (gty cy) A 0 0 (eI (wX4 cy q (tw cy (q 9) τ) res.2) res.1))  (ok : oX4_holds_6 τ  σ a1_ b0_) (h : pX4_holds_6 τ  σ a1_ b0_ = res) : At X D A 5 0 0 6 [(0, .ref (q 12)), (1, .int a1_)] [.int b0_] (wX4 cy q (tw cy (q 9) τ) σ) := by
  unfold pX4_holds_6 at h
  unfold oX4_holds_6 at ok
  refine r_istore_n (lv' := [(2, .int b0_), (0, .ref (q 12)), (1, .int a1_)]) C (dall tdX4_holds 4 rfl) (by decide) rfl ?_
  refine r_aload_n C 1 (dall tdX4_holds 5 rfl) rfl ?_
  refine r_get C 0 kw_X4 rfl rfl (by decide) kf_X4_47 rfl rfl (dall tdX4_holds 6 rfl) ?_
  refine r_bipush (v := 10) C (dall tdX4_holds 7 rfl) (by decide) ?_
  refine r_icmp_ge (tgt := 22) C (dall tdX4_holds 8 rfl) (by decide) (fun c5 => ?_) (fun c5 => ?_)
  · have h := (if_pos c5).symm.trans h
    have ok := ok.1 c5
    refine r_iload_n C 0 (dall tdX4_holds 13 rfl) rfl ?_
    refine r_pick [1, 2, 0] rfl ?_
    exact wX4_holds_23 σ a1_ b0_ b0_ C hR  ok h
  · have h := (if_neg c5).symm.trans h
    have ok := ok.2 c5
    refine r_iload_n C 0 (dall tdX4_holds 9 rfl) rfl ?_
    refine r_iconst (v := 4) C (dall tdX4_holds 10 rfl) (by decide) ?_
    refine r_iadd C (dall tdX4_holds 11 rfl) ?_
    refine r_goto (tgt := 23) C (dall tdX4_holds 12 rfl) (by decide) ?_
    refine r_pick [1, 2, 0] rfl ?_
    exact wX4_holds_23 σ a1_ b0_ (b0_ + 4) C hR  ok h
def pX4_holds_0 (τ : TX)  (σ : OS) (a1_ : Int32) : Int32 × OS := pX4_holds_6 τ  ((fX4_tell τ (σ.1 7).toNatClampNeg σ a1_ 0).2) a1_ ((fX4_tell τ (σ.1 7).toNatClampNeg σ a1_ 0).1)
def oX4_holds_0 (τ : TX)  (σ : OS) (a1_ : Int32) : Prop := (gX4_tell τ (σ.1 7).toNatClampNeg σ a1_ 0) ∧ (oX4_holds_6 τ  ((fX4_tell τ (σ.1 7).toNatClampNeg σ a1_ 0).2) a1_ ((fX4_tell τ (σ.1 7).toNatClampNeg σ a1_ 0).1))
set_option maxHeartbeats 4000000 in
set_option maxRecDepth 100000 in
theorem wX4_holds_0 {X : CX} {cy : Nat → ClassId} {q : Nat → Nat} {τ : TX} {D : va_G} {A : Nat → Prop} {res : Int32 × OS} (σ : OS) (a1_ : Int32) (C : Cx X cX4_holds RX4 5 D (gty cy) A 4 0 0) (hR : Rt X (some .int) D (gty cy) A 0 0 (eI (wX4 cy q (tw cy (q 9) τ) res.2) res.1))  (ok : oX4_holds_0 τ  σ a1_) (h : pX4_holds_0 τ  σ a1_ = res) : At X D A 5 0 0 0 [(0, .ref (q 12)), (1, .int a1_)] [] (wX4 cy q (tw cy (q 9) τ) σ) := by
  unfold pX4_holds_0 at h
  unfold oX4_holds_0 at ok
  refine r_aload_n C 0 (dall tdX4_holds 0 rfl) rfl ?_
  refine r_iload_n C 1 (dall tdX4_holds 1 rfl) rfl ?_
  refine r_iconst (v := 0) C (dall tdX4_holds 2 rfl) (by decide) ?_
  obtain ⟨o6, ok⟩ := ok
  refine r_vI (as := [.int a1_, .int 0]) C (zX4_tell cy q τ (σ.1 7).toNatClampNeg σ a1_ 0 o6) mv_X4_tell km_X4_121 (by decide) (by decide) ⟨Nat.le_refl _, Nat.le_refl _⟩ rfl rfl rfl rfl (Nat.le_of_ble_eq_true rfl) (dall tdX4_holds 3 rfl) ?_
  exact wX4_holds_6 ((fX4_tell τ (σ.1 7).toNatClampNeg σ a1_ 0).2) a1_ ((fX4_tell τ (σ.1 7).toNatClampNeg σ a1_ 0).1) C hR  ok h
def fX4_holds (τ : TX) (σ : OS) (a1_ : Int32) : Int32 × OS := pX4_holds_0 τ  σ a1_
def gX4_holds (τ : TX) (σ : OS) (a1_ : Int32) : Prop := oX4_holds_0 τ  σ a1_
set_option maxRecDepth 100000 in
theorem zX4_holds (cy : Nat → ClassId) (q : Nat → Nat) (τ : TX)  {D : va_G} (σ : OS) (a1_ : Int32) (ok : gX4_holds τ σ a1_)  : Con yX4_holds cX4_holds 5 (some .int) 4 0 0 D (gty cy) [.ref (q 12), .int a1_] (wX4 cy q (tw cy (q 9) τ) σ) (eI (wX4 cy q (tw cy (q 9) τ) (fX4_holds τ σ a1_).2) (fX4_holds τ σ a1_).1) :=
  Con.of (own := RX4) (by decide +kernel) rfl (Nat.le_of_ble_eq_true rfl) (Nat.zero_le _) (fun X A C hR _ => (wX4_holds_0 σ a1_ C hR  ok rfl))
theorem mv_X4_holds : MV yX4_holds cX4_holds 5 (some .int) RX4 1 := ⟨ki_X4_holds, kv_X4_holds, kn_X4, kc_X4_holds, by decide +kernel⟩
def tbX4_fades : List (Nat × Instr × Nat) := [(0, .aload_n 0, 1), (1, .iload_n 1, 1), (2, .iconst 1, 1), (3, .invokevirtual 121, 3), (6, .istore_n 2, 1), (7, .aload_n 0, 1), (8, .getfield 15, 3), (11, .iload_n 1, 1), (12, .iaload, 1), (13, .ifCond .ne 7, 3), (16, .iconst 0, 1), (17, .goto 4, 3), (20, .iload_n 2, 1), (21, .istore_n 3, 1), (22, .iload_n 2, 1), (23, .istore 4, 2), (25, .aload_n 0, 1), (26, .getfield 9, 3), (29, .iload_n 1, 1), (30, .iaload, 1), (31, .tableswitch 83 1 5 #[33, 39, 47, 55, 77], 33), (64, .iload_n 3, 1), (65, .istore 4, 2), (67, .goto 47, 3), (70, .iload_n 2, 1), (71, .iconst 2, 1), (72, .idiv, 1), (73, .istore 4, 2), (75, .goto 39, 3), (78, .iload_n 3, 1), (79, .iconst 1, 1), (80, .iadd, 1), (81, .istore 4, 2), (83, .goto 31, 3), (86, .aload_n 0, 1), (87, .getfield 47, 3), (90, .iconst 2, 1), (91, .irem, 1), (92, .iconst 1, 1), (93, .if_icmp .ne 9, 3), (96, .iload_n 2, 1), (97, .iconst 2, 1), (98, .idiv, 1), (99, .goto 4, 3), (102, .iconst 0, 1), (103, .istore 4, 2), (105, .goto 9, 3), (108, .iconst 0, 1), (109, .istore 4, 2), (111, .goto 3, 3), (114, .bipush 99, 2), (116, .iload 4, 2), (118, .invokestatic 101, 3), (121, .ireturn, 1)]
theorem tdX4_fades : tbX4_fades.all (fun q => decide (decode cX4_fades q.1 = .ok q.2)) = true := by decide +kernel
def pX4_fades_114 (τ : TX)  (σ : OS) (a4_ : Int32) : Int32 × OS := (jmin 99 a4_, σ)
set_option maxHeartbeats 4000000 in
set_option maxRecDepth 100000 in
theorem wX4_fades_114 {X : CX} {cy : Nat → ClassId} {q : Nat → Nat} {τ : TX} {D : va_G} {A : Nat → Prop} {res : Int32 × OS} (σ : OS) (a4_ : Int32) (C : Cx X cX4_fades RX4 5 D (gty cy) A 4 0 0) (hR : Rt X (some .int) D (gty cy) A 0 0 (eI (wX4 cy q (tw cy (q 9) τ) res.2) res.1))  (h : pX4_fades_114 τ  σ a4_ = res) : At X D A 5 0 0 114 [(4, .int a4_)] [] (wX4 cy q (tw cy (q 9) τ) σ) := by
  unfold pX4_fades_114 at h
  refine r_bipush (v := 99) C (dall tdX4_fades 50 rfl) (by decide) ?_
  refine r_iload C 0 (dall tdX4_fades 51 rfl) rfl ?_
  refine r_mmin C km_X4_101 (dall tdX4_fades 52 rfl) (by decide) (Nat.le_of_ble_eq_true rfl) ⟨Nat.le_refl _, Nat.le_refl _⟩ ?_
  exact r_iret C hR (dall tdX4_fades 53 rfl) (by subst h; exact ⟨rfl, rfl⟩)
def pX4_fades_103 (τ : TX)  (σ : OS) (b0_ : Int32) : Int32 × OS := pX4_fades_114 τ  σ b0_
set_option maxHeartbeats 4000000 in
set_option maxRecDepth 100000 in
theorem wX4_fades_103 {X : CX} {cy : Nat → ClassId} {q : Nat → Nat} {τ : TX} {D : va_G} {A : Nat → Prop} {res : Int32 × OS} (σ : OS) (b0_ : Int32) (C : Cx X cX4_fades RX4 5 D (gty cy) A 4 0 0) (hR : Rt X (some .int) D (gty cy) A 0 0 (eI (wX4 cy q (tw cy (q 9) τ) res.2) res.1))  (h : pX4_fades_103 τ  σ b0_ = res) : At X D A 5 0 0 103 [] [.int b0_] (wX4 cy q (tw cy (q 9) τ) σ) := by
  unfold pX4_fades_103 at h
  refine r_istore (lv' := [(4, .int b0_)]) C (dall tdX4_fades 45 rfl) (by decide) rfl ?_
  refine r_goto (tgt := 114) C (dall tdX4_fades 46 rfl) (by decide) ?_
  exact wX4_fades_114 σ b0_ C hR  h
def pX4_fades_21 (τ : TX)  (σ : OS) (a1_ : Int32) (a2_ : Int32) (b0_ : Int32) : Int32 × OS := if (σ.2.2.1 0 a1_.toNatClampNeg) = 1 then pX4_fades_114 τ  σ b0_ else if (σ.2.2.1 0 a1_.toNatClampNeg) = 2 then pX4_fades_114 τ  σ (a2_ / 2) else if (σ.2.2.1 0 a1_.toNatClampNeg) = 3 then pX4_fades_114 τ  σ (b0_ + 1) else if (σ.2.2.1 0 a1_.toNatClampNeg) = 4 then if ((σ.1 5) - (σ.1 5) / 2 * 2) = 1 then pX4_fades_103 τ  σ (a2_ / 2) else pX4_fades_103 τ  σ 0 else if (σ.2.2.1 0 a1_.toNatClampNeg) = 5 then pX4_fades_114 τ  σ 0 else pX4_fades_114 τ  σ a2_
def oX4_fades_21 (τ : TX)  (σ : OS) (a1_ : Int32) (a2_ : Int32) (b0_ : Int32) : Prop := vp_in a1_ 5
set_option maxHeartbeats 4000000 in
set_option maxRecDepth 100000 in
theorem wX4_fades_21 {X : CX} {cy : Nat → ClassId} {q : Nat → Nat} {τ : TX} {D : va_G} {A : Nat → Prop} {res : Int32 × OS} (σ : OS) (a1_ : Int32) (a2_ : Int32) (b0_ : Int32) (C : Cx X cX4_fades RX4 5 D (gty cy) A 4 0 0) (hR : Rt X (some .int) D (gty cy) A 0 0 (eI (wX4 cy q (tw cy (q 9) τ) res.2) res.1))  (ok : oX4_fades_21 τ  σ a1_ a2_ b0_) (h : pX4_fades_21 τ  σ a1_ a2_ b0_ = res) : At X D A 5 0 0 21 [(0, .ref (q 12)), (1, .int a1_), (2, .int a2_)] [.int b0_] (wX4 cy q (tw cy (q 9) τ) σ) := by
  unfold pX4_fades_21 at h
  unfold oX4_fades_21 at ok
  refine r_istore_n (lv' := [(3, .int b0_), (0, .ref (q 12)), (1, .int a1_), (2, .int a2_)]) C (dall tdX4_fades 13 rfl) (by decide) rfl ?_
  refine r_iload_n C 3 (dall tdX4_fades 14 rfl) rfl ?_
  refine r_istore (lv' := [(4, .int a2_), (3, .int b0_), (0, .ref (q 12)), (1, .int a1_), (2, .int a2_)]) C (dall tdX4_fades 15 rfl) (by decide) rfl ?_
  refine r_aload_n C 2 (dall tdX4_fades 16 rfl) rfl ?_
  refine r_get C 0 kw_X4 rfl rfl (by decide) kf_X4_9 rfl rfl (dall tdX4_fades 17 rfl) ?_
  refine r_iload_n C 3 (dall tdX4_fades 18 rfl) rfl ?_
  have o1 := ok
  refine r_iald C 1 0 rfl rfl o1 (dall tdX4_fades 19 rfl) ?_
  by_cases e31_0 : (σ.2.2.1 0 a1_.toNatClampNeg) = 1
  · have h := (if_pos e31_0).symm.trans h
    refine r_tsIn (off := 33) (tgt := 64) C 1 (dall tdX4_fades 20 rfl) e31_0 (by decide) (by decide) (by decide) (by decide) ?_
    refine r_iload_n C 1 (dall tdX4_fades 21 rfl) rfl ?_
    refine r_istore (lv' := [(4, .int b0_), (3, .int b0_), (0, .ref (q 12)), (1, .int a1_), (2, .int a2_)]) C (dall tdX4_fades 22 rfl) (by decide) rfl ?_
    refine r_goto (tgt := 114) C (dall tdX4_fades 23 rfl) (by decide) ?_
    refine r_pick [0] rfl ?_
    exact wX4_fades_114 σ b0_ C hR  h
  · have h := (if_neg e31_0).symm.trans h
    by_cases e31_1 : (σ.2.2.1 0 a1_.toNatClampNeg) = 2
    · have h := (if_pos e31_1).symm.trans h
      refine r_tsIn (off := 39) (tgt := 70) C 2 (dall tdX4_fades 20 rfl) e31_1 (by decide) (by decide) (by decide) (by decide) ?_
      refine r_iload_n C 4 (dall tdX4_fades 24 rfl) rfl ?_
      refine r_iconst (v := 2) C (dall tdX4_fades 25 rfl) (by decide) ?_
      refine r_idiv C (dall tdX4_fades 26 rfl) (by decide) ?_
      refine r_istore (lv' := [(4, .int (a2_ / 2)), (3, .int b0_), (0, .ref (q 12)), (1, .int a1_), (2, .int a2_)]) C (dall tdX4_fades 27 rfl) (by decide) rfl ?_
      refine r_goto (tgt := 114) C (dall tdX4_fades 28 rfl) (by decide) ?_
      refine r_pick [0] rfl ?_
      exact wX4_fades_114 σ (a2_ / 2) C hR  h
    · have h := (if_neg e31_1).symm.trans h
      by_cases e31_2 : (σ.2.2.1 0 a1_.toNatClampNeg) = 3
      · have h := (if_pos e31_2).symm.trans h
        refine r_tsIn (off := 47) (tgt := 78) C 3 (dall tdX4_fades 20 rfl) e31_2 (by decide) (by decide) (by decide) (by decide) ?_
        refine r_iload_n C 1 (dall tdX4_fades 29 rfl) rfl ?_
        refine r_iconst (v := 1) C (dall tdX4_fades 30 rfl) (by decide) ?_
        refine r_iadd C (dall tdX4_fades 31 rfl) ?_
        refine r_istore (lv' := [(4, .int (b0_ + 1)), (3, .int b0_), (0, .ref (q 12)), (1, .int a1_), (2, .int a2_)]) C (dall tdX4_fades 32 rfl) (by decide) rfl ?_
        refine r_goto (tgt := 114) C (dall tdX4_fades 33 rfl) (by decide) ?_
        refine r_pick [0] rfl ?_
        exact wX4_fades_114 σ (b0_ + 1) C hR  h
      · have h := (if_neg e31_2).symm.trans h
        by_cases e31_3 : (σ.2.2.1 0 a1_.toNatClampNeg) = 4
        · have h := (if_pos e31_3).symm.trans h
          refine r_tsIn (off := 55) (tgt := 86) C 4 (dall tdX4_fades 20 rfl) e31_3 (by decide) (by decide) (by decide) (by decide) ?_
          refine r_aload_n C 2 (dall tdX4_fades 34 rfl) rfl ?_
          refine r_get C 0 kw_X4 rfl rfl (by decide) kf_X4_47 rfl rfl (dall tdX4_fades 35 rfl) ?_
          refine r_iconst (v := 2) C (dall tdX4_fades 36 rfl) (by decide) ?_
          refine r_irem C (dall tdX4_fades 37 rfl) (by decide) ?_
          refine r_iconst (v := 1) C (dall tdX4_fades 38 rfl) (by decide) ?_
          refine r_icmp_ne (tgt := 102) C (dall tdX4_fades 39 rfl) (by decide) (fun c2 => ?_) (fun c2 => ?_)
          · have h := (if_neg c2).symm.trans h
            refine r_iconst (v := 0) C (dall tdX4_fades 44 rfl) (by decide) ?_
            refine r_pick [] rfl ?_
            exact wX4_fades_103 σ 0 C hR  h
          · have h := (if_pos c2).symm.trans h
            refine r_iload_n C 4 (dall tdX4_fades 40 rfl) rfl ?_
            refine r_iconst (v := 2) C (dall tdX4_fades 41 rfl) (by decide) ?_
            refine r_idiv C (dall tdX4_fades 42 rfl) (by decide) ?_
            refine r_goto (tgt := 103) C (dall tdX4_fades 43 rfl) (by decide) ?_
            refine r_pick [] rfl ?_
            exact wX4_fades_103 σ (a2_ / 2) C hR  h
        · have h := (if_neg e31_3).symm.trans h
          by_cases e31_4 : (σ.2.2.1 0 a1_.toNatClampNeg) = 5
          · have h := (if_pos e31_4).symm.trans h
            refine r_tsIn (off := 77) (tgt := 108) C 5 (dall tdX4_fades 20 rfl) e31_4 (by decide) (by decide) (by decide) (by decide) ?_
            refine r_iconst (v := 0) C (dall tdX4_fades 47 rfl) (by decide) ?_
            refine r_istore (lv' := [(4, .int 0), (3, .int b0_), (0, .ref (q 12)), (1, .int a1_), (2, .int a2_)]) C (dall tdX4_fades 48 rfl) (by decide) rfl ?_
            refine r_goto (tgt := 114) C (dall tdX4_fades 49 rfl) (by decide) ?_
            refine r_pick [0] rfl ?_
            exact wX4_fades_114 σ 0 C hR  h
          · have h := (if_neg e31_4).symm.trans h
            refine r_tsOut (tgt := 114) C (dall tdX4_fades 20 rfl) (by have n0 := ne_toInt e31_0; rw [show (1 : Int32).toInt = 1 from by decide] at n0; have n1 := ne_toInt e31_1; rw [show (2 : Int32).toInt = 2 from by decide] at n1; have n2 := ne_toInt e31_2; rw [show (3 : Int32).toInt = 3 from by decide] at n2; have n3 := ne_toInt e31_3; rw [show (4 : Int32).toInt = 4 from by decide] at n3; have n4 := ne_toInt e31_4; rw [show (5 : Int32).toInt = 5 from by decide] at n4; omega) (by decide) ?_
            refine r_pick [0] rfl ?_
            exact wX4_fades_114 σ a2_ C hR  h
def pX4_fades_6 (τ : TX)  (σ : OS) (a1_ : Int32) (b0_ : Int32) : Int32 × OS := if (σ.2.2.1 1 a1_.toNatClampNeg) = 0 then pX4_fades_21 τ  σ a1_ b0_ 0 else pX4_fades_21 τ  σ a1_ b0_ b0_
def oX4_fades_6 (τ : TX)  (σ : OS) (a1_ : Int32) (b0_ : Int32) : Prop := (vp_in a1_ 5) ∧ (((σ.2.2.1 1 a1_.toNatClampNeg) = 0 → oX4_fades_21 τ  σ a1_ b0_ 0) ∧ (¬ ((σ.2.2.1 1 a1_.toNatClampNeg) = 0) → oX4_fades_21 τ  σ a1_ b0_ b0_))
set_option maxHeartbeats 4000000 in
set_option maxRecDepth 100000 in
theorem wX4_fades_6 {X : CX} {cy : Nat → ClassId} {q : Nat → Nat} {τ : TX} {D : va_G} {A : Nat → Prop} {res : Int32 × OS} (σ : OS) (a1_ : Int32) (b0_ : Int32) (C : Cx X cX4_fades RX4 5 D (gty cy) A 4 0 0) (hR : Rt X (some .int) D (gty cy) A 0 0 (eI (wX4 cy q (tw cy (q 9) τ) res.2) res.1))  (ok : oX4_fades_6 τ  σ a1_ b0_) (h : pX4_fades_6 τ  σ a1_ b0_ = res) : At X D A 5 0 0 6 [(0, .ref (q 12)), (1, .int a1_)] [.int b0_] (wX4 cy q (tw cy (q 9) τ) σ) := by
  unfold pX4_fades_6 at h
  unfold oX4_fades_6 at ok
  refine r_istore_n (lv' := [(2, .int b0_), (0, .ref (q 12)), (1, .int a1_)]) C (dall tdX4_fades 4 rfl) (by decide) rfl ?_
  refine r_aload_n C 1 (dall tdX4_fades 5 rfl) rfl ?_
  refine r_get C 0 kw_X4 rfl rfl (by decide) kf_X4_15 rfl rfl (dall tdX4_fades 6 rfl) ?_
  refine r_iload_n C 2 (dall tdX4_fades 7 rfl) rfl ?_
  obtain ⟨o3, ok⟩ := ok
  refine r_iald C 2 0 rfl rfl o3 (dall tdX4_fades 8 rfl) ?_
  refine r_if_ne (tgt := 20) C (dall tdX4_fades 9 rfl) (by decide) (fun c4 => ?_) (fun c4 => ?_)
  · have h := (if_neg c4).symm.trans h
    have ok := ok.2 c4
    refine r_iload_n C 0 (dall tdX4_fades 12 rfl) rfl ?_
    refine r_pick [1, 2, 0] rfl ?_
    exact wX4_fades_21 σ a1_ b0_ b0_ C hR  ok h
  · have h := (if_pos c4).symm.trans h
    have ok := ok.1 c4
    refine r_iconst (v := 0) C (dall tdX4_fades 10 rfl) (by decide) ?_
    refine r_goto (tgt := 21) C (dall tdX4_fades 11 rfl) (by decide) ?_
    refine r_pick [1, 2, 0] rfl ?_
    exact wX4_fades_21 σ a1_ b0_ 0 C hR  ok h
def pX4_fades_0 (τ : TX)  (σ : OS) (a1_ : Int32) : Int32 × OS := pX4_fades_6 τ  ((fX4_tell τ (σ.1 7).toNatClampNeg σ a1_ 1).2) a1_ ((fX4_tell τ (σ.1 7).toNatClampNeg σ a1_ 1).1)
def oX4_fades_0 (τ : TX)  (σ : OS) (a1_ : Int32) : Prop := (gX4_tell τ (σ.1 7).toNatClampNeg σ a1_ 1) ∧ (oX4_fades_6 τ  ((fX4_tell τ (σ.1 7).toNatClampNeg σ a1_ 1).2) a1_ ((fX4_tell τ (σ.1 7).toNatClampNeg σ a1_ 1).1))
set_option maxHeartbeats 4000000 in
set_option maxRecDepth 100000 in
theorem wX4_fades_0 {X : CX} {cy : Nat → ClassId} {q : Nat → Nat} {τ : TX} {D : va_G} {A : Nat → Prop} {res : Int32 × OS} (σ : OS) (a1_ : Int32) (C : Cx X cX4_fades RX4 5 D (gty cy) A 4 0 0) (hR : Rt X (some .int) D (gty cy) A 0 0 (eI (wX4 cy q (tw cy (q 9) τ) res.2) res.1))  (ok : oX4_fades_0 τ  σ a1_) (h : pX4_fades_0 τ  σ a1_ = res) : At X D A 5 0 0 0 [(0, .ref (q 12)), (1, .int a1_)] [] (wX4 cy q (tw cy (q 9) τ) σ) := by
  unfold pX4_fades_0 at h
  unfold oX4_fades_0 at ok
  refine r_aload_n C 0 (dall tdX4_fades 0 rfl) rfl ?_
  refine r_iload_n C 1 (dall tdX4_fades 1 rfl) rfl ?_
  refine r_iconst (v := 1) C (dall tdX4_fades 2 rfl) (by decide) ?_
  obtain ⟨o5, ok⟩ := ok
  refine r_vI (as := [.int a1_, .int 1]) C (zX4_tell cy q τ (σ.1 7).toNatClampNeg σ a1_ 1 o5) mv_X4_tell km_X4_121 (by decide) (by decide) ⟨Nat.le_refl _, Nat.le_refl _⟩ rfl rfl rfl rfl (Nat.le_of_ble_eq_true rfl) (dall tdX4_fades 3 rfl) ?_
  exact wX4_fades_6 ((fX4_tell τ (σ.1 7).toNatClampNeg σ a1_ 1).2) a1_ ((fX4_tell τ (σ.1 7).toNatClampNeg σ a1_ 1).1) C hR  ok h
def fX4_fades (τ : TX) (σ : OS) (a1_ : Int32) : Int32 × OS := pX4_fades_0 τ  σ a1_
def gX4_fades (τ : TX) (σ : OS) (a1_ : Int32) : Prop := oX4_fades_0 τ  σ a1_
set_option maxRecDepth 100000 in
theorem zX4_fades (cy : Nat → ClassId) (q : Nat → Nat) (τ : TX)  {D : va_G} (σ : OS) (a1_ : Int32) (ok : gX4_fades τ σ a1_)  : Con yX4_fades cX4_fades 5 (some .int) 4 0 0 D (gty cy) [.ref (q 12), .int a1_] (wX4 cy q (tw cy (q 9) τ) σ) (eI (wX4 cy q (tw cy (q 9) τ) (fX4_fades τ σ a1_).2) (fX4_fades τ σ a1_).1) :=
  Con.of (own := RX4) (by decide +kernel) rfl (Nat.le_of_ble_eq_true rfl) (Nat.zero_le _) (fun X A C hR _ => (wX4_fades_0 σ a1_ C hR  ok rfl))
theorem mv_X4_fades : MV yX4_fades cX4_fades 5 (some .int) RX4 1 := ⟨ki_X4_fades, kv_X4_fades, kn_X4, kc_X4_fades, by decide +kernel⟩
def tbX4_costs : List (Nat × Instr × Nat) := [(0, .aload_n 0, 1), (1, .iload_n 1, 1), (2, .iconst 2, 1), (3, .invokevirtual 121, 3), (6, .istore_n 2, 1), (7, .iload_n 2, 1), (8, .aload_n 0, 1), (9, .getfield 15, 3), (12, .iload_n 1, 1), (13, .iaload, 1), (14, .iadd, 1), (15, .istore_n 3, 1), (16, .iload_n 2, 1), (17, .istore 4, 2), (19, .aload_n 0, 1), (20, .getfield 9, 3), (23, .iload_n 1, 1), (24, .iaload, 1), (25, .tableswitch 63 1 5 #[35, 43, 35, 49, 57], 35), (60, .iload_n 2, 1), (61, .iconst 2, 1), (62, .idiv, 1), (63, .istore 4, 2), (65, .goto 23, 3), (68, .iload_n 3, 1), (69, .istore 4, 2), (71, .goto 17, 3), (74, .iconst 2, 1), (75, .iload_n 3, 1), (76, .imul, 1), (77, .istore 4, 2), (79, .goto 9, 3), (82, .iconst 0, 1), (83, .istore 4, 2), (85, .goto 3, 3), (88, .sipush 999, 3), (91, .iload 4, 2), (93, .invokestatic 101, 3), (96, .ireturn, 1)]
theorem tdX4_costs : tbX4_costs.all (fun q => decide (decode cX4_costs q.1 = .ok q.2)) = true := by decide +kernel
def pX4_costs_88 (τ : TX)  (σ : OS) (a4_ : Int32) : Int32 × OS := (jmin 999 a4_, σ)
set_option maxHeartbeats 4000000 in
set_option maxRecDepth 100000 in
theorem wX4_costs_88 {X : CX} {cy : Nat → ClassId} {q : Nat → Nat} {τ : TX} {D : va_G} {A : Nat → Prop} {res : Int32 × OS} (σ : OS) (a4_ : Int32) (C : Cx X cX4_costs RX4 5 D (gty cy) A 4 0 0) (hR : Rt X (some .int) D (gty cy) A 0 0 (eI (wX4 cy q (tw cy (q 9) τ) res.2) res.1))  (h : pX4_costs_88 τ  σ a4_ = res) : At X D A 5 0 0 88 [(4, .int a4_)] [] (wX4 cy q (tw cy (q 9) τ) σ) := by
  unfold pX4_costs_88 at h
  refine r_sipush (v := 999) C (dall tdX4_costs 35 rfl) (by decide) ?_
  refine r_iload C 0 (dall tdX4_costs 36 rfl) rfl ?_
  refine r_mmin C km_X4_101 (dall tdX4_costs 37 rfl) (by decide) (Nat.le_of_ble_eq_true rfl) ⟨Nat.le_refl _, Nat.le_refl _⟩ ?_
  exact r_iret C hR (dall tdX4_costs 38 rfl) (by subst h; exact ⟨rfl, rfl⟩)
def pX4_costs_60 (τ : TX)  (σ : OS) (a2_ : Int32) : Int32 × OS := pX4_costs_88 τ  σ (a2_ / 2)
set_option maxHeartbeats 4000000 in
set_option maxRecDepth 100000 in
theorem wX4_costs_60 {X : CX} {cy : Nat → ClassId} {q : Nat → Nat} {τ : TX} {D : va_G} {A : Nat → Prop} {res : Int32 × OS} (σ : OS) (a2_ : Int32) (C : Cx X cX4_costs RX4 5 D (gty cy) A 4 0 0) (hR : Rt X (some .int) D (gty cy) A 0 0 (eI (wX4 cy q (tw cy (q 9) τ) res.2) res.1))  (h : pX4_costs_60 τ  σ a2_ = res) : At X D A 5 0 0 60 [(2, .int a2_)] [] (wX4 cy q (tw cy (q 9) τ) σ) := by
  unfold pX4_costs_60 at h
  refine r_iload_n C 0 (dall tdX4_costs 19 rfl) rfl ?_
  refine r_iconst (v := 2) C (dall tdX4_costs 20 rfl) (by decide) ?_
  refine r_idiv C (dall tdX4_costs 21 rfl) (by decide) ?_
  refine r_istore (lv' := [(4, .int (a2_ / 2)), (2, .int a2_)]) C (dall tdX4_costs 22 rfl) (by decide) rfl ?_
  refine r_goto (tgt := 88) C (dall tdX4_costs 23 rfl) (by decide) ?_
  refine r_pick [0] rfl ?_
  exact wX4_costs_88 σ (a2_ / 2) C hR  h
def pX4_costs_6 (τ : TX)  (σ : OS) (a1_ : Int32) (b0_ : Int32) : Int32 × OS := if (σ.2.2.1 0 a1_.toNatClampNeg) = 1 then pX4_costs_60 τ  σ b0_ else if (σ.2.2.1 0 a1_.toNatClampNeg) = 2 then pX4_costs_88 τ  σ (b0_ + (σ.2.2.1 1 a1_.toNatClampNeg)) else if (σ.2.2.1 0 a1_.toNatClampNeg) = 3 then pX4_costs_60 τ  σ b0_ else if (σ.2.2.1 0 a1_.toNatClampNeg) = 4 then pX4_costs_88 τ  σ (2 * (b0_ + (σ.2.2.1 1 a1_.toNatClampNeg))) else if (σ.2.2.1 0 a1_.toNatClampNeg) = 5 then pX4_costs_88 τ  σ 0 else pX4_costs_88 τ  σ b0_
def oX4_costs_6 (τ : TX)  (σ : OS) (a1_ : Int32) (b0_ : Int32) : Prop := (vp_in a1_ 5) ∧ (vp_in a1_ 5)
set_option maxHeartbeats 4000000 in
set_option maxRecDepth 100000 in
theorem wX4_costs_6 {X : CX} {cy : Nat → ClassId} {q : Nat → Nat} {τ : TX} {D : va_G} {A : Nat → Prop} {res : Int32 × OS} (σ : OS) (a1_ : Int32) (b0_ : Int32) (C : Cx X cX4_costs RX4 5 D (gty cy) A 4 0 0) (hR : Rt X (some .int) D (gty cy) A 0 0 (eI (wX4 cy q (tw cy (q 9) τ) res.2) res.1))  (ok : oX4_costs_6 τ  σ a1_ b0_) (h : pX4_costs_6 τ  σ a1_ b0_ = res) : At X D A 5 0 0 6 [(0, .ref (q 12)), (1, .int a1_)] [.int b0_] (wX4 cy q (tw cy (q 9) τ) σ) := by
  unfold pX4_costs_6 at h
  unfold oX4_costs_6 at ok
  refine r_istore_n (lv' := [(2, .int b0_), (0, .ref (q 12)), (1, .int a1_)]) C (dall tdX4_costs 4 rfl) (by decide) rfl ?_
  refine r_iload_n C 0 (dall tdX4_costs 5 rfl) rfl ?_
  refine r_aload_n C 1 (dall tdX4_costs 6 rfl) rfl ?_
  refine r_get C 0 kw_X4 rfl rfl (by decide) kf_X4_15 rfl rfl (dall tdX4_costs 7 rfl) ?_
  refine r_iload_n C 2 (dall tdX4_costs 8 rfl) rfl ?_
  obtain ⟨o1, ok⟩ := ok
  refine r_iald C 2 0 rfl rfl o1 (dall tdX4_costs 9 rfl) ?_
  refine r_iadd C (dall tdX4_costs 10 rfl) ?_
  refine r_istore_n (lv' := [(3, .int (b0_ + (σ.2.2.1 1 a1_.toNatClampNeg))), (2, .int b0_), (0, .ref (q 12)), (1, .int a1_)]) C (dall tdX4_costs 11 rfl) (by decide) rfl ?_
  refine r_iload_n C 1 (dall tdX4_costs 12 rfl) rfl ?_
  refine r_istore (lv' := [(4, .int b0_), (3, .int (b0_ + (σ.2.2.1 1 a1_.toNatClampNeg))), (2, .int b0_), (0, .ref (q 12)), (1, .int a1_)]) C (dall tdX4_costs 13 rfl) (by decide) rfl ?_
  refine r_aload_n C 3 (dall tdX4_costs 14 rfl) rfl ?_
  refine r_get C 0 kw_X4 rfl rfl (by decide) kf_X4_9 rfl rfl (dall tdX4_costs 15 rfl) ?_
  refine r_iload_n C 4 (dall tdX4_costs 16 rfl) rfl ?_
  have o2 := ok
  refine r_iald C 1 0 rfl rfl o2 (dall tdX4_costs 17 rfl) ?_
  by_cases e25_0 : (σ.2.2.1 0 a1_.toNatClampNeg) = 1
  · have h := (if_pos e25_0).symm.trans h
    refine r_tsIn (off := 35) (tgt := 60) C 1 (dall tdX4_costs 18 rfl) e25_0 (by decide) (by decide) (by decide) (by decide) ?_
    refine r_pick [2] rfl ?_
    exact wX4_costs_60 σ b0_ C hR  h
  · have h := (if_neg e25_0).symm.trans h
    by_cases e25_1 : (σ.2.2.1 0 a1_.toNatClampNeg) = 2
    · have h := (if_pos e25_1).symm.trans h
      refine r_tsIn (off := 43) (tgt := 68) C 2 (dall tdX4_costs 18 rfl) e25_1 (by decide) (by decide) (by decide) (by decide) ?_
      refine r_iload_n C 1 (dall tdX4_costs 24 rfl) rfl ?_
      refine r_istore (lv' := [(4, .int (b0_ + (σ.2.2.1 1 a1_.toNatClampNeg))), (3, .int (b0_ + (σ.2.2.1 1 a1_.toNatClampNeg))), (2, .int b0_), (0, .ref (q 12)), (1, .int a1_)]) C (dall tdX4_costs 25 rfl) (by decide) rfl ?_
      refine r_goto (tgt := 88) C (dall tdX4_costs 26 rfl) (by decide) ?_
      refine r_pick [0] rfl ?_
      exact wX4_costs_88 σ (b0_ + (σ.2.2.1 1 a1_.toNatClampNeg)) C hR  h
    · have h := (if_neg e25_1).symm.trans h
      by_cases e25_2 : (σ.2.2.1 0 a1_.toNatClampNeg) = 3
      · have h := (if_pos e25_2).symm.trans h
        refine r_tsIn (off := 35) (tgt := 60) C 3 (dall tdX4_costs 18 rfl) e25_2 (by decide) (by decide) (by decide) (by decide) ?_
        refine r_pick [2] rfl ?_
        exact wX4_costs_60 σ b0_ C hR  h
      · have h := (if_neg e25_2).symm.trans h
        by_cases e25_3 : (σ.2.2.1 0 a1_.toNatClampNeg) = 4
        · have h := (if_pos e25_3).symm.trans h
          refine r_tsIn (off := 49) (tgt := 74) C 4 (dall tdX4_costs 18 rfl) e25_3 (by decide) (by decide) (by decide) (by decide) ?_
          refine r_iconst (v := 2) C (dall tdX4_costs 27 rfl) (by decide) ?_
          refine r_iload_n C 1 (dall tdX4_costs 28 rfl) rfl ?_
          refine r_imul C (dall tdX4_costs 29 rfl) ?_
          refine r_istore (lv' := [(4, .int (2 * (b0_ + (σ.2.2.1 1 a1_.toNatClampNeg)))), (3, .int (b0_ + (σ.2.2.1 1 a1_.toNatClampNeg))), (2, .int b0_), (0, .ref (q 12)), (1, .int a1_)]) C (dall tdX4_costs 30 rfl) (by decide) rfl ?_
          refine r_goto (tgt := 88) C (dall tdX4_costs 31 rfl) (by decide) ?_
          refine r_pick [0] rfl ?_
          exact wX4_costs_88 σ (2 * (b0_ + (σ.2.2.1 1 a1_.toNatClampNeg))) C hR  h
        · have h := (if_neg e25_3).symm.trans h
          by_cases e25_4 : (σ.2.2.1 0 a1_.toNatClampNeg) = 5
          · have h := (if_pos e25_4).symm.trans h
            refine r_tsIn (off := 57) (tgt := 82) C 5 (dall tdX4_costs 18 rfl) e25_4 (by decide) (by decide) (by decide) (by decide) ?_
            refine r_iconst (v := 0) C (dall tdX4_costs 32 rfl) (by decide) ?_
            refine r_istore (lv' := [(4, .int 0), (3, .int (b0_ + (σ.2.2.1 1 a1_.toNatClampNeg))), (2, .int b0_), (0, .ref (q 12)), (1, .int a1_)]) C (dall tdX4_costs 33 rfl) (by decide) rfl ?_
            refine r_goto (tgt := 88) C (dall tdX4_costs 34 rfl) (by decide) ?_
            refine r_pick [0] rfl ?_
            exact wX4_costs_88 σ 0 C hR  h
          · have h := (if_neg e25_4).symm.trans h
            refine r_tsOut (tgt := 88) C (dall tdX4_costs 18 rfl) (by have n0 := ne_toInt e25_0; rw [show (1 : Int32).toInt = 1 from by decide] at n0; have n1 := ne_toInt e25_1; rw [show (2 : Int32).toInt = 2 from by decide] at n1; have n2 := ne_toInt e25_2; rw [show (3 : Int32).toInt = 3 from by decide] at n2; have n3 := ne_toInt e25_3; rw [show (4 : Int32).toInt = 4 from by decide] at n3; have n4 := ne_toInt e25_4; rw [show (5 : Int32).toInt = 5 from by decide] at n4; omega) (by decide) ?_
            refine r_pick [0] rfl ?_
            exact wX4_costs_88 σ b0_ C hR  h
def pX4_costs_0 (τ : TX)  (σ : OS) (a1_ : Int32) : Int32 × OS := pX4_costs_6 τ  ((fX4_tell τ (σ.1 7).toNatClampNeg σ a1_ 2).2) a1_ ((fX4_tell τ (σ.1 7).toNatClampNeg σ a1_ 2).1)
def oX4_costs_0 (τ : TX)  (σ : OS) (a1_ : Int32) : Prop := (gX4_tell τ (σ.1 7).toNatClampNeg σ a1_ 2) ∧ (oX4_costs_6 τ  ((fX4_tell τ (σ.1 7).toNatClampNeg σ a1_ 2).2) a1_ ((fX4_tell τ (σ.1 7).toNatClampNeg σ a1_ 2).1))
set_option maxHeartbeats 4000000 in
set_option maxRecDepth 100000 in
theorem wX4_costs_0 {X : CX} {cy : Nat → ClassId} {q : Nat → Nat} {τ : TX} {D : va_G} {A : Nat → Prop} {res : Int32 × OS} (σ : OS) (a1_ : Int32) (C : Cx X cX4_costs RX4 5 D (gty cy) A 4 0 0) (hR : Rt X (some .int) D (gty cy) A 0 0 (eI (wX4 cy q (tw cy (q 9) τ) res.2) res.1))  (ok : oX4_costs_0 τ  σ a1_) (h : pX4_costs_0 τ  σ a1_ = res) : At X D A 5 0 0 0 [(0, .ref (q 12)), (1, .int a1_)] [] (wX4 cy q (tw cy (q 9) τ) σ) := by
  unfold pX4_costs_0 at h
  unfold oX4_costs_0 at ok
  refine r_aload_n C 0 (dall tdX4_costs 0 rfl) rfl ?_
  refine r_iload_n C 1 (dall tdX4_costs 1 rfl) rfl ?_
  refine r_iconst (v := 2) C (dall tdX4_costs 2 rfl) (by decide) ?_
  obtain ⟨o3, ok⟩ := ok
  refine r_vI (as := [.int a1_, .int 2]) C (zX4_tell cy q τ (σ.1 7).toNatClampNeg σ a1_ 2 o3) mv_X4_tell km_X4_121 (by decide) (by decide) ⟨Nat.le_refl _, Nat.le_refl _⟩ rfl rfl rfl rfl (Nat.le_of_ble_eq_true rfl) (dall tdX4_costs 3 rfl) ?_
  exact wX4_costs_6 ((fX4_tell τ (σ.1 7).toNatClampNeg σ a1_ 2).2) a1_ ((fX4_tell τ (σ.1 7).toNatClampNeg σ a1_ 2).1) C hR  ok h
def fX4_costs (τ : TX) (σ : OS) (a1_ : Int32) : Int32 × OS := pX4_costs_0 τ  σ a1_
def gX4_costs (τ : TX) (σ : OS) (a1_ : Int32) : Prop := oX4_costs_0 τ  σ a1_
set_option maxRecDepth 100000 in
theorem zX4_costs (cy : Nat → ClassId) (q : Nat → Nat) (τ : TX)  {D : va_G} (σ : OS) (a1_ : Int32) (ok : gX4_costs τ σ a1_)  : Con yX4_costs cX4_costs 5 (some .int) 4 0 0 D (gty cy) [.ref (q 12), .int a1_] (wX4 cy q (tw cy (q 9) τ) σ) (eI (wX4 cy q (tw cy (q 9) τ) (fX4_costs τ σ a1_).2) (fX4_costs τ σ a1_).1) :=
  Con.of (own := RX4) (by decide +kernel) rfl (Nat.le_of_ble_eq_true rfl) (Nat.zero_le _) (fun X A C hR _ => (wX4_costs_0 σ a1_ C hR  ok rfl))
theorem mv_X4_costs : MV yX4_costs cX4_costs 5 (some .int) RX4 1 := ⟨ki_X4_costs, kv_X4_costs, kn_X4, kc_X4_costs, by decide +kernel⟩
def tbX4_passYear : List (Nat × Instr × Nat) := [(0, .iconst 0, 1), (1, .istore_n 1, 1), (2, .iload_n 1, 1), (3, .aload_n 0, 1), (4, .getfield 43, 3), (7, .if_icmp .ge 110, 3), (10, .aload_n 0, 1), (11, .iload_n 1, 1), (12, .invokevirtual 87, 3), (15, .istore_n 2, 1), (16, .aload_n 0, 1), (17, .iload_n 1, 1), (18, .invokevirtual 91, 3), (21, .istore_n 3, 1), (22, .aload_n 0, 1), (23, .getfield 18, 3), (26, .iload_n 1, 1), (27, .iconst 0, 1), (28, .aload_n 0, 1), (29, .getfield 18, 3), (32, .iload_n 1, 1), (33, .iaload, 1), (34, .iload_n 2, 1), (35, .isub, 1), (36, .invokestatic 94, 3), (39, .iastore, 1), (40, .aload_n 0, 1), (41, .ldc 100, 2), (43, .aload_n 0, 1), (44, .getfield 50, 3), (47, .iload_n 3, 1), (48, .iadd, 1), (49, .invokestatic 101, 3), (52, .putfield 50, 3), (55, .iconst 0, 1), (56, .istore 4, 2), (58, .iload 4, 2), (60, .bipush 64, 2), (62, .if_icmp .ge 49, 3), (65, .aload_n 0, 1), (66, .getfield 21, 3), (69, .iload_n 1, 1), (70, .laload, 1), (71, .lconst 0, 1), (72, .lcmp, 1), (73, .ifCond .eq 38, 3), (76, .aload_n 0, 1), (77, .getfield 21, 3), (80, .iload_n 1, 1), (81, .laload, 1), (82, .invokestatic 60, 3), (85, .aload_n 0, 1), (86, .iload_n 1, 1), (87, .invokevirtual 104, 3), (90, .if_icmp .gt 6, 3), (93, .goto 18, 3), (96, .aload_n 0, 1), (97, .aload_n 0, 1), (98, .iload_n 1, 1), (99, .invokevirtual 107, 3), (102, .invokevirtual 110, 3), (105, .iinc 4 1, 3), (108, .goto (-50), 3), (111, .iinc 1 1, 3), (114, .goto (-112), 3), (117, .aload_n 0, 1), (118, .dup, 1), (119, .getfield 47, 3), (122, .iconst 1, 1), (123, .iadd, 1), (124, .putfield 47, 3), (127, .return_, 1)]
theorem tdX4_passYear : tbX4_passYear.all (fun q => decide (decode cX4_passYear q.1 = .ok q.2)) = true := by decide +kernel
def pX4_passYear_111 (τ : TX) (kR2 : OS × Int32 → OS) (σ : OS) (a1_ : Int32) : OS := kR2 (σ, a1_ + 1)
def oX4_passYear_111 (τ : TX) (kO2 : OS × Int32 → Prop) (σ : OS) (a1_ : Int32) : Prop := kO2 (σ, a1_ + 1)
set_option maxHeartbeats 4000000 in
set_option maxRecDepth 100000 in
theorem wX4_passYear_111 {X : CX} {cy : Nat → ClassId} {q : Nat → Nat} {τ : TX} {D : va_G} {A : Nat → Prop} {res : OS} (σ : OS) (a1_ : Int32) (C : Cx X cX4_passYear RX4 5 D (gty cy) A 5 0 0) (hR : Rt X none D (gty cy) A 0 0 (eV (wX4 cy q (tw cy (q 9) τ) res))) (kR2 : OS × Int32 → OS) (kO2 : OS × Int32 → Prop) (hk2 : ∀ z, kO2 z → kR2 z = res → At X D A 5 0 0 2 [(0, .ref (q 12)), (1, .int z.2)] [] (wX4 cy q (tw cy (q 9) τ) z.1)) (ok : oX4_passYear_111 τ kO2 σ a1_) (h : pX4_passYear_111 τ kR2 σ a1_ = res) : At X D A 5 0 0 111 [(0, .ref (q 12)), (1, .int a1_)] [] (wX4 cy q (tw cy (q 9) τ) σ) := by
  unfold pX4_passYear_111 at h
  unfold oX4_passYear_111 at ok
  refine r_iinc (v := a1_ + 1) (lv' := [(1, .int (a1_ + 1)), (0, .ref (q 12))]) C 1 (dall tdX4_passYear 63 rfl) rfl rfl (by decide) rfl ?_
  refine r_goto (tgt := 2) C (dall tdX4_passYear 64 rfl) (by decide) ?_
  refine r_pick [1, 0] rfl ?_
  exact hk2 (σ, a1_ + 1) ok h
def pX4_passYear_105 (τ : TX) (kR2 : OS × Int32 → OS) (kR58 : OS × Int32 → OS) (σ : OS) (a1_ : Int32) (a4_ : Int32) : OS := kR58 (σ, a4_ + 1)
def oX4_passYear_105 (τ : TX) (kO2 : OS × Int32 → Prop) (kO58 : OS × Int32 → Prop) (σ : OS) (a1_ : Int32) (a4_ : Int32) : Prop := kO58 (σ, a4_ + 1)
set_option maxHeartbeats 4000000 in
set_option maxRecDepth 100000 in
theorem wX4_passYear_105 {X : CX} {cy : Nat → ClassId} {q : Nat → Nat} {τ : TX} {D : va_G} {A : Nat → Prop} {res : OS} (σ : OS) (a1_ : Int32) (a4_ : Int32) (C : Cx X cX4_passYear RX4 5 D (gty cy) A 5 0 0) (hR : Rt X none D (gty cy) A 0 0 (eV (wX4 cy q (tw cy (q 9) τ) res))) (kR2 : OS × Int32 → OS) (kO2 : OS × Int32 → Prop) (hk2 : ∀ z, kO2 z → kR2 z = res → At X D A 5 0 0 2 [(0, .ref (q 12)), (1, .int z.2)] [] (wX4 cy q (tw cy (q 9) τ) z.1)) (kR58 : OS × Int32 → OS) (kO58 : OS × Int32 → Prop) (hk58 : ∀ z, kO58 z → kR58 z = res → At X D A 5 0 0 58 [(0, .ref (q 12)), (1, .int a1_), (4, .int z.2)] [] (wX4 cy q (tw cy (q 9) τ) z.1)) (ok : oX4_passYear_105 τ kO2 kO58 σ a1_ a4_) (h : pX4_passYear_105 τ kR2 kR58 σ a1_ a4_ = res) : At X D A 5 0 0 105 [(0, .ref (q 12)), (1, .int a1_), (4, .int a4_)] [] (wX4 cy q (tw cy (q 9) τ) σ) := by
  unfold pX4_passYear_105 at h
  unfold oX4_passYear_105 at ok
  refine r_iinc (v := a4_ + 1) (lv' := [(4, .int (a4_ + 1)), (0, .ref (q 12)), (1, .int a1_)]) C 2 (dall tdX4_passYear 61 rfl) rfl rfl (by decide) rfl ?_
  refine r_goto (tgt := 58) C (dall tdX4_passYear 62 rfl) (by decide) ?_
  refine r_pick [1, 2, 0] rfl ?_
  exact hk58 (σ, a4_ + 1) ok h
def pX4_passYear_90 (τ : TX) (kR2 : OS × Int32 → OS) (kR58 : OS × Int32 → OS) (σ : OS) (a1_ : Int32) (a4_ : Int32) (b0_ : Int32) (b1_ : Int32) : OS := if b0_ < b1_ then pX4_passYear_105 τ kR2 kR58 (fX4_dropCell σ (fX4_highestCell σ a1_)) a1_ a4_ else pX4_passYear_111 τ kR2 σ a1_
def oX4_passYear_90 (τ : TX) (kO2 : OS × Int32 → Prop) (kO58 : OS × Int32 → Prop) (σ : OS) (a1_ : Int32) (a4_ : Int32) (b0_ : Int32) (b1_ : Int32) : Prop := (b0_ < b1_ → (gX4_highestCell σ a1_) ∧ ((gX4_dropCell σ (fX4_highestCell σ a1_)) ∧ (oX4_passYear_105 τ kO2 kO58 (fX4_dropCell σ (fX4_highestCell σ a1_)) a1_ a4_))) ∧ (¬ (b0_ < b1_) → oX4_passYear_111 τ kO2 σ a1_)
set_option maxHeartbeats 4000000 in
set_option maxRecDepth 100000 in
theorem wX4_passYear_90 {X : CX} {cy : Nat → ClassId} {q : Nat → Nat} {τ : TX} {D : va_G} {A : Nat → Prop} {res : OS} (σ : OS) (a1_ : Int32) (a4_ : Int32) (b0_ : Int32) (b1_ : Int32) (C : Cx X cX4_passYear RX4 5 D (gty cy) A 5 0 0) (hR : Rt X none D (gty cy) A 0 0 (eV (wX4 cy q (tw cy (q 9) τ) res))) (kR2 : OS × Int32 → OS) (kO2 : OS × Int32 → Prop) (hk2 : ∀ z, kO2 z → kR2 z = res → At X D A 5 0 0 2 [(0, .ref (q 12)), (1, .int z.2)] [] (wX4 cy q (tw cy (q 9) τ) z.1)) (kR58 : OS × Int32 → OS) (kO58 : OS × Int32 → Prop) (hk58 : ∀ z, kO58 z → kR58 z = res → At X D A 5 0 0 58 [(0, .ref (q 12)), (1, .int a1_), (4, .int z.2)] [] (wX4 cy q (tw cy (q 9) τ) z.1)) (ok : oX4_passYear_90 τ kO2 kO58 σ a1_ a4_ b0_ b1_) (h : pX4_passYear_90 τ kR2 kR58 σ a1_ a4_ b0_ b1_ = res) : At X D A 5 0 0 90 [(0, .ref (q 12)), (1, .int a1_), (4, .int a4_)] [.int b0_, .int b1_] (wX4 cy q (tw cy (q 9) τ) σ) := by
  unfold pX4_passYear_90 at h
  unfold oX4_passYear_90 at ok
  refine r_icmp_gt (tgt := 96) C (dall tdX4_passYear 54 rfl) (by decide) (fun c1 => ?_) (fun c1 => ?_)
  · have h := (if_pos c1).symm.trans h
    have ok := ok.1 c1
    refine r_aload_n C 0 (dall tdX4_passYear 56 rfl) rfl ?_
    refine r_aload_n C 0 (dall tdX4_passYear 57 rfl) rfl ?_
    refine r_iload_n C 1 (dall tdX4_passYear 58 rfl) rfl ?_
    obtain ⟨o2, ok⟩ := ok
    refine r_vI (as := [.int a1_]) C (zX4_highestCell cy q (tw cy (q 9) τ) σ a1_ o2) mv_X4_highestCell km_X4_107 (by decide) (by decide) ⟨Nat.le_refl _, Nat.le_refl _⟩ rfl rfl rfl rfl (Nat.le_of_ble_eq_true rfl) (dall tdX4_passYear 59 rfl) ?_
    obtain ⟨o3, ok⟩ := ok
    refine r_vV (as := [.int (fX4_highestCell σ a1_)]) C (zX4_dropCell cy q (tw cy (q 9) τ) σ (fX4_highestCell σ a1_) o3) mv_X4_dropCell km_X4_110 (by decide) (by decide) ⟨Nat.le_refl _, Nat.le_refl _⟩ rfl rfl rfl rfl (Nat.le_of_ble_eq_true rfl) (dall tdX4_passYear 60 rfl) ?_
    exact wX4_passYear_105 (fX4_dropCell σ (fX4_highestCell σ a1_)) a1_ a4_ C hR kR2 kO2 hk2 kR58 kO58 hk58 ok h
  · have h := (if_neg c1).symm.trans h
    have ok := ok.2 c1
    refine r_goto (tgt := 111) C (dall tdX4_passYear 55 rfl) (by decide) ?_
    refine r_pick [0, 1] rfl ?_
    exact wX4_passYear_111 σ a1_ C hR kR2 kO2 hk2 ok h
def bX4_passYear_58 (τ : TX) (a1_ : Int32) (kR2 : OS × Int32 → OS) (kR58 : OS × Int32 → OS) (v : OS × Int32) : OS := if 64 ≤ v.2 then pX4_passYear_111 τ kR2 v.1 a1_ else if (v.1.2.2.2 3 a1_.toNatClampNeg) = 0 then pX4_passYear_111 τ kR2 v.1 a1_ else pX4_passYear_90 τ kR2 kR58 ((fX4_holds τ v.1 a1_).2) a1_ v.2 ((fX4_holds τ v.1 a1_).1) (fJ13_bitCount_95d88 (v.1.2.2.2 3 a1_.toNatClampNeg))
def kX4_passYear_58 (τ : TX) (a1_ : Int32) (kO2 : OS × Int32 → Prop) (kO58 : OS × Int32 → Prop) (v : OS × Int32) : Prop := (64 ≤ v.2 → oX4_passYear_111 τ kO2 v.1 a1_) ∧ (¬ (64 ≤ v.2) → (vp_in a1_ 5) ∧ (((v.1.2.2.2 3 a1_.toNatClampNeg) = 0 → oX4_passYear_111 τ kO2 v.1 a1_) ∧ (¬ ((v.1.2.2.2 3 a1_.toNatClampNeg) = 0) → (vp_in a1_ 5) ∧ ((gX4_holds τ v.1 a1_) ∧ (oX4_passYear_90 τ kO2 kO58 ((fX4_holds τ v.1 a1_).2) a1_ v.2 ((fX4_holds τ v.1 a1_).1) (fJ13_bitCount_95d88 (v.1.2.2.2 3 a1_.toNatClampNeg)))))))
set_option maxHeartbeats 4000000 in
set_option maxRecDepth 100000 in
theorem wX4_passYear_58 {X : CX} {cy : Nat → ClassId} {q : Nat → Nat} {τ : TX} {D : va_G} {A : Nat → Prop} {res : OS} (a1_ : Int32) (C : Cx X cX4_passYear RX4 5 D (gty cy) A 5 0 0) (hR : Rt X none D (gty cy) A 0 0 (eV (wX4 cy q (tw cy (q 9) τ) res))) (kR2 : OS × Int32 → OS) (kO2 : OS × Int32 → Prop) (hk2 : ∀ z, kO2 z → kR2 z = res → At X D A 5 0 0 2 [(0, .ref (q 12)), (1, .int z.2)] [] (wX4 cy q (tw cy (q 9) τ) z.1)) (kR58 : OS × Int32 → OS) (kO58 : OS × Int32 → Prop) (hk58 : ∀ z, kO58 z → kR58 z = res → At X D A 5 0 0 58 [(0, .ref (q 12)), (1, .int a1_), (4, .int z.2)] [] (wX4 cy q (tw cy (q 9) τ) z.1)) (v : OS × Int32) (ok : kX4_passYear_58 τ a1_ kO2 kO58 v) (h : bX4_passYear_58 τ a1_ kR2 kR58 v = res) : At X D A 5 0 0 58 [(0, .ref (q 12)), (1, .int a1_), (4, .int v.2)] [] (wX4 cy q (tw cy (q 9) τ) v.1) := by
  unfold bX4_passYear_58 at h
  unfold kX4_passYear_58 at ok
  refine r_iload C 2 (dall tdX4_passYear 36 rfl) rfl ?_
  refine r_bipush (v := 64) C (dall tdX4_passYear 37 rfl) (by decide) ?_
  refine r_icmp_ge (tgt := 111) C (dall tdX4_passYear 38 rfl) (by decide) (fun c4 => ?_) (fun c4 => ?_)
  · have h := (if_pos c4).symm.trans h
    have ok := ok.1 c4
    refine r_pick [0, 1] rfl ?_
    exact wX4_passYear_111 v.1 a1_ C hR kR2 kO2 hk2 ok h
  · have h := (if_neg c4).symm.trans h
    have ok := ok.2 c4
    refine r_aload_n C 0 (dall tdX4_passYear 39 rfl) rfl ?_
    refine r_get C 0 kw_X4 rfl rfl (by decide) kf_X4_21 rfl rfl (dall tdX4_passYear 40 rfl) ?_
    refine r_iload_n C 1 (dall tdX4_passYear 41 rfl) rfl ?_
    obtain ⟨o5, ok⟩ := ok
    refine r_lald C 4 1 rfl rfl o5 (dall tdX4_passYear 42 rfl) ?_
    refine r_lconst (v := 0) C (dall tdX4_passYear 43 rfl) (by decide) ?_
    refine r_lif_eq (tgt := 111) C (dall tdX4_passYear 44 rfl) (dall tdX4_passYear 45 rfl) (by decide) (fun c6 => ?_) (fun c6 => ?_)
    · have h := (if_pos c6).symm.trans h
      have ok := ok.1 c6
      refine r_pick [0, 1] rfl ?_
      exact wX4_passYear_111 v.1 a1_ C hR kR2 kO2 hk2 ok h
    · have h := (if_neg c6).symm.trans h
      have ok := ok.2 c6
      refine r_aload_n C 0 (dall tdX4_passYear 46 rfl) rfl ?_
      refine r_get C 0 kw_X4 rfl rfl (by decide) kf_X4_21 rfl rfl (dall tdX4_passYear 47 rfl) ?_
      refine r_iload_n C 1 (dall tdX4_passYear 48 rfl) rfl ?_
      obtain ⟨o7, ok⟩ := ok
      refine r_lald C 4 1 rfl rfl o7 (dall tdX4_passYear 49 rfl) ?_
      refine r_s0I (as := [.long (v.1.2.2.2 3 a1_.toNatClampNeg)]) C (zJ13_bitCount_95d88 (v.1.2.2.2 3 a1_.toNatClampNeg) ) ms_J13_bitCount_95d88 km_X4_60 (by decide) (by decide) ⟨Nat.le_refl _, Nat.le_refl _⟩ rfl rfl (Nat.le_of_ble_eq_true rfl) (dall tdX4_passYear 50 rfl) ?_
      refine r_aload_n C 0 (dall tdX4_passYear 51 rfl) rfl ?_
      refine r_iload_n C 1 (dall tdX4_passYear 52 rfl) rfl ?_
      obtain ⟨o8, ok⟩ := ok
      refine r_vI (as := [.int a1_]) C (zX4_holds cy q τ v.1 a1_ o8) mv_X4_holds km_X4_104 (by decide) (by decide) ⟨Nat.le_refl _, Nat.le_refl _⟩ rfl rfl rfl rfl (Nat.le_of_ble_eq_true rfl) (dall tdX4_passYear 53 rfl) ?_
      exact wX4_passYear_90 ((fX4_holds τ v.1 a1_).2) a1_ v.2 ((fX4_holds τ v.1 a1_).1) (fJ13_bitCount_95d88 (v.1.2.2.2 3 a1_.toNatClampNeg)) C hR kR2 kO2 hk2 kR58 kO58 hk58 ok h
set_option maxHeartbeats 4000000 in
set_option maxRecDepth 100000 in
theorem lX4_passYear_58 {X : CX} {cy : Nat → ClassId} {q : Nat → Nat} {τ : TX} {D : va_G} {A : Nat → Prop} {res : OS} (a1_ : Int32) (C : Cx X cX4_passYear RX4 5 D (gty cy) A 5 0 0) (hR : Rt X none D (gty cy) A 0 0 (eV (wX4 cy q (tw cy (q 9) τ) res))) (kR2 : OS × Int32 → OS) (kO2 : OS × Int32 → Prop) (hk2 : ∀ z, kO2 z → kR2 z = res → At X D A 5 0 0 2 [(0, .ref (q 12)), (1, .int z.2)] [] (wX4 cy q (tw cy (q 9) τ) z.1)) (n : Nat) (v : OS × Int32) (ok : lpOk (kX4_passYear_58 τ a1_ kO2) n v) (h : lp o0 (bX4_passYear_58 τ a1_ kR2) n v = res) : At X D A 5 0 0 58 [(0, .ref (q 12)), (1, .int a1_), (4, .int v.2)] [] (wX4 cy q (tw cy (q 9) τ) v.1) :=
  lp_rule (fun v rr_ => rr_ = res → At X D A 5 0 0 58 [(0, .ref (q 12)), (1, .int a1_), (4, .int v.2)] [] (wX4 cy q (tw cy (q 9) τ) v.1)) (fun kR kO hk v ok h => wX4_passYear_58 a1_ C hR kR2 kO2 hk2 kR kO hk v ok h) n v ok h
def pX4_passYear_21 (τ : TX) (kR2 : OS × Int32 → OS) (σ : OS) (a1_ : Int32) (a2_ : Int32) (b0_ : Int32) : OS := lp o0 (bX4_passYear_58 τ a1_ kR2) fu (oI (oS σ 2 a1_.toNatClampNeg (jmax 0 ((σ.2.2.1 2 a1_.toNatClampNeg) - a2_))) 6 (jmin (99999) (((oS σ 2 a1_.toNatClampNeg (jmax 0 ((σ.2.2.1 2 a1_.toNatClampNeg) - a2_))).1 6) + b0_)), 0)
def oX4_passYear_21 (τ : TX) (kO2 : OS × Int32 → Prop) (σ : OS) (a1_ : Int32) (a2_ : Int32) (b0_ : Int32) : Prop := (vp_in a1_ 5) ∧ ((vp_in a1_ 5) ∧ (lpOk (kX4_passYear_58 τ a1_ kO2) fu (oI (oS σ 2 a1_.toNatClampNeg (jmax 0 ((σ.2.2.1 2 a1_.toNatClampNeg) - a2_))) 6 (jmin (99999) (((oS σ 2 a1_.toNatClampNeg (jmax 0 ((σ.2.2.1 2 a1_.toNatClampNeg) - a2_))).1 6) + b0_)), 0)))
set_option maxHeartbeats 4000000 in
set_option maxRecDepth 100000 in
theorem wX4_passYear_21 {X : CX} {cy : Nat → ClassId} {q : Nat → Nat} {τ : TX} {D : va_G} {A : Nat → Prop} {res : OS} (σ : OS) (a1_ : Int32) (a2_ : Int32) (b0_ : Int32) (C : Cx X cX4_passYear RX4 5 D (gty cy) A 5 0 0) (hR : Rt X none D (gty cy) A 0 0 (eV (wX4 cy q (tw cy (q 9) τ) res))) (kR2 : OS × Int32 → OS) (kO2 : OS × Int32 → Prop) (hk2 : ∀ z, kO2 z → kR2 z = res → At X D A 5 0 0 2 [(0, .ref (q 12)), (1, .int z.2)] [] (wX4 cy q (tw cy (q 9) τ) z.1)) (ok : oX4_passYear_21 τ kO2 σ a1_ a2_ b0_) (h : pX4_passYear_21 τ kR2 σ a1_ a2_ b0_ = res) : At X D A 5 0 0 21 [(0, .ref (q 12)), (1, .int a1_), (2, .int a2_)] [.int b0_] (wX4 cy q (tw cy (q 9) τ) σ) := by
  unfold pX4_passYear_21 at h
  unfold oX4_passYear_21 at ok
  refine r_istore_n (lv' := [(3, .int b0_), (0, .ref (q 12)), (1, .int a1_), (2, .int a2_)]) C (dall tdX4_passYear 13 rfl) (by decide) rfl ?_
  refine r_aload_n C 1 (dall tdX4_passYear 14 rfl) rfl ?_
  refine r_get C 0 kw_X4 rfl rfl (by decide) kf_X4_18 rfl rfl (dall tdX4_passYear 15 rfl) ?_
  refine r_iload_n C 2 (dall tdX4_passYear 16 rfl) rfl ?_
  refine r_iconst (v := 0) C (dall tdX4_passYear 17 rfl) (by decide) ?_
  refine r_aload_n C 1 (dall tdX4_passYear 18 rfl) rfl ?_
  refine r_get C 0 kw_X4 rfl rfl (by decide) kf_X4_18 rfl rfl (dall tdX4_passYear 19 rfl) ?_
  refine r_iload_n C 2 (dall tdX4_passYear 20 rfl) rfl ?_
  obtain ⟨o9, ok⟩ := ok
  refine r_iald C 3 0 rfl rfl o9 (dall tdX4_passYear 21 rfl) ?_
  refine r_iload_n C 3 (dall tdX4_passYear 22 rfl) rfl ?_
  refine r_isub C (dall tdX4_passYear 23 rfl) ?_
  refine r_mmax C km_X4_94 (dall tdX4_passYear 24 rfl) (by decide) (Nat.le_of_ble_eq_true rfl) ⟨Nat.le_refl _, Nat.le_refl _⟩ ?_
  obtain ⟨o10, ok⟩ := ok
  refine r_iast C 3 0 rfl rfl o10 (pa_X4_this_2 cy q (tw cy (q 9) τ) σ a1_.toNatClampNeg (jmax 0 ((σ.2.2.1 2 a1_.toNatClampNeg) - a2_))) (dall tdX4_passYear 25 rfl) ?_
  refine r_aload_n C 1 (dall tdX4_passYear 26 rfl) rfl ?_
  refine r_ldc C kk_X4_100 (dall tdX4_passYear 27 rfl) ?_
  refine r_aload_n C 1 (dall tdX4_passYear 28 rfl) rfl ?_
  refine r_get C 0 kw_X4 rfl rfl (by decide) kf_X4_50 rfl rfl (dall tdX4_passYear 29 rfl) ?_
  refine r_iload_n C 0 (dall tdX4_passYear 30 rfl) rfl ?_
  refine r_iadd C (dall tdX4_passYear 31 rfl) ?_
  refine r_mmin C km_X4_101 (dall tdX4_passYear 32 rfl) (by decide) (Nat.le_of_ble_eq_true rfl) ⟨Nat.le_refl _, Nat.le_refl _⟩ ?_
  refine r_put C 0 kw_X4 tyX4_ok nmX4 rfl rfl (by decide) kf_X4_50 rfl rfl rfl rfl rfl (Nat.le_of_ble_eq_true rfl) (pu_X4_this_6 cy q (tw cy (q 9) τ) (oS σ 2 a1_.toNatClampNeg (jmax 0 ((σ.2.2.1 2 a1_.toNatClampNeg) - a2_))) (jmin (99999) (((oS σ 2 a1_.toNatClampNeg (jmax 0 ((σ.2.2.1 2 a1_.toNatClampNeg) - a2_))).1 6) + b0_))) (dall tdX4_passYear 33 rfl) ?_
  refine r_iconst (v := 0) C (dall tdX4_passYear 34 rfl) (by decide) ?_
  refine r_istore (lv' := [(4, .int 0), (3, .int b0_), (0, .ref (q 12)), (1, .int a1_), (2, .int a2_)]) C (dall tdX4_passYear 35 rfl) (by decide) rfl ?_
  refine r_pick [2, 3, 0] rfl ?_
  exact lX4_passYear_58 a1_ C hR kR2 kO2 hk2 fu _ ok h
def pX4_passYear_15 (τ : TX) (kR2 : OS × Int32 → OS) (σ : OS) (a1_ : Int32) (b0_ : Int32) : OS := pX4_passYear_21 τ kR2 ((fX4_costs τ σ a1_).2) a1_ b0_ ((fX4_costs τ σ a1_).1)
def oX4_passYear_15 (τ : TX) (kO2 : OS × Int32 → Prop) (σ : OS) (a1_ : Int32) (b0_ : Int32) : Prop := (gX4_costs τ σ a1_) ∧ (oX4_passYear_21 τ kO2 ((fX4_costs τ σ a1_).2) a1_ b0_ ((fX4_costs τ σ a1_).1))
set_option maxHeartbeats 4000000 in
set_option maxRecDepth 100000 in
theorem wX4_passYear_15 {X : CX} {cy : Nat → ClassId} {q : Nat → Nat} {τ : TX} {D : va_G} {A : Nat → Prop} {res : OS} (σ : OS) (a1_ : Int32) (b0_ : Int32) (C : Cx X cX4_passYear RX4 5 D (gty cy) A 5 0 0) (hR : Rt X none D (gty cy) A 0 0 (eV (wX4 cy q (tw cy (q 9) τ) res))) (kR2 : OS × Int32 → OS) (kO2 : OS × Int32 → Prop) (hk2 : ∀ z, kO2 z → kR2 z = res → At X D A 5 0 0 2 [(0, .ref (q 12)), (1, .int z.2)] [] (wX4 cy q (tw cy (q 9) τ) z.1)) (ok : oX4_passYear_15 τ kO2 σ a1_ b0_) (h : pX4_passYear_15 τ kR2 σ a1_ b0_ = res) : At X D A 5 0 0 15 [(0, .ref (q 12)), (1, .int a1_)] [.int b0_] (wX4 cy q (tw cy (q 9) τ) σ) := by
  unfold pX4_passYear_15 at h
  unfold oX4_passYear_15 at ok
  refine r_istore_n (lv' := [(2, .int b0_), (0, .ref (q 12)), (1, .int a1_)]) C (dall tdX4_passYear 9 rfl) (by decide) rfl ?_
  refine r_aload_n C 1 (dall tdX4_passYear 10 rfl) rfl ?_
  refine r_iload_n C 2 (dall tdX4_passYear 11 rfl) rfl ?_
  obtain ⟨o11, ok⟩ := ok
  refine r_vI (as := [.int a1_]) C (zX4_costs cy q τ σ a1_ o11) mv_X4_costs km_X4_91 (by decide) (by decide) ⟨Nat.le_refl _, Nat.le_refl _⟩ rfl rfl rfl rfl (Nat.le_of_ble_eq_true rfl) (dall tdX4_passYear 12 rfl) ?_
  refine r_pick [1, 2, 0] rfl ?_
  exact wX4_passYear_21 ((fX4_costs τ σ a1_).2) a1_ b0_ ((fX4_costs τ σ a1_).1) C hR kR2 kO2 hk2 ok h
def bX4_passYear_2 (τ : TX)   (kR2 : OS × Int32 → OS) (v : OS × Int32) : OS := if (v.1.1 4) ≤ v.2 then oI v.1 5 ((v.1.1 5) + 1) else pX4_passYear_15 τ kR2 ((fX4_fades τ v.1 v.2).2) v.2 ((fX4_fades τ v.1 v.2).1)
def kX4_passYear_2 (τ : TX)   (kO2 : OS × Int32 → Prop) (v : OS × Int32) : Prop := ((v.1.1 4) ≤ v.2 → True) ∧ (¬ ((v.1.1 4) ≤ v.2) → (gX4_fades τ v.1 v.2) ∧ (oX4_passYear_15 τ kO2 ((fX4_fades τ v.1 v.2).2) v.2 ((fX4_fades τ v.1 v.2).1)))
set_option maxHeartbeats 4000000 in
set_option maxRecDepth 100000 in
theorem wX4_passYear_2 {X : CX} {cy : Nat → ClassId} {q : Nat → Nat} {τ : TX} {D : va_G} {A : Nat → Prop} {res : OS}  (C : Cx X cX4_passYear RX4 5 D (gty cy) A 5 0 0) (hR : Rt X none D (gty cy) A 0 0 (eV (wX4 cy q (tw cy (q 9) τ) res))) (kR2 : OS × Int32 → OS) (kO2 : OS × Int32 → Prop) (hk2 : ∀ z, kO2 z → kR2 z = res → At X D A 5 0 0 2 [(0, .ref (q 12)), (1, .int z.2)] [] (wX4 cy q (tw cy (q 9) τ) z.1)) (v : OS × Int32) (ok : kX4_passYear_2 τ  kO2 v) (h : bX4_passYear_2 τ  kR2 v = res) : At X D A 5 0 0 2 [(0, .ref (q 12)), (1, .int v.2)] [] (wX4 cy q (tw cy (q 9) τ) v.1) := by
  unfold bX4_passYear_2 at h
  unfold kX4_passYear_2 at ok
  refine r_iload_n C 1 (dall tdX4_passYear 2 rfl) rfl ?_
  refine r_aload_n C 0 (dall tdX4_passYear 3 rfl) rfl ?_
  refine r_get C 0 kw_X4 rfl rfl (by decide) kf_X4_43 rfl rfl (dall tdX4_passYear 4 rfl) ?_
  refine r_icmp_ge (tgt := 117) C (dall tdX4_passYear 5 rfl) (by decide) (fun c12 => ?_) (fun c12 => ?_)
  · have h := (if_pos c12).symm.trans h
    have ok := ok.1 c12
    refine r_aload_n C 0 (dall tdX4_passYear 65 rfl) rfl ?_
    refine r_dup C (dall tdX4_passYear 66 rfl) rfl ?_
    refine r_get C 0 kw_X4 rfl rfl (by decide) kf_X4_47 rfl rfl (dall tdX4_passYear 67 rfl) ?_
    refine r_iconst (v := 1) C (dall tdX4_passYear 68 rfl) (by decide) ?_
    refine r_iadd C (dall tdX4_passYear 69 rfl) ?_
    refine r_put C 0 kw_X4 tyX4_ok nmX4 rfl rfl (by decide) kf_X4_47 rfl rfl rfl rfl rfl (Nat.le_of_ble_eq_true rfl) (pu_X4_this_5 cy q (tw cy (q 9) τ) v.1 ((v.1.1 5) + 1)) (dall tdX4_passYear 70 rfl) ?_
    exact r_vret C hR (dall tdX4_passYear 71 rfl) (by subst h; exact ⟨rfl, rfl⟩)
  · have h := (if_neg c12).symm.trans h
    have ok := ok.2 c12
    refine r_aload_n C 0 (dall tdX4_passYear 6 rfl) rfl ?_
    refine r_iload_n C 1 (dall tdX4_passYear 7 rfl) rfl ?_
    obtain ⟨o13, ok⟩ := ok
    refine r_vI (as := [.int v.2]) C (zX4_fades cy q τ v.1 v.2 o13) mv_X4_fades km_X4_87 (by decide) (by decide) ⟨Nat.le_refl _, Nat.le_refl _⟩ rfl rfl rfl rfl (Nat.le_of_ble_eq_true rfl) (dall tdX4_passYear 8 rfl) ?_
    exact wX4_passYear_15 ((fX4_fades τ v.1 v.2).2) v.2 ((fX4_fades τ v.1 v.2).1) C hR kR2 kO2 hk2 ok h
set_option maxHeartbeats 4000000 in
set_option maxRecDepth 100000 in
theorem lX4_passYear_2 {X : CX} {cy : Nat → ClassId} {q : Nat → Nat} {τ : TX} {D : va_G} {A : Nat → Prop} {res : OS}  (C : Cx X cX4_passYear RX4 5 D (gty cy) A 5 0 0) (hR : Rt X none D (gty cy) A 0 0 (eV (wX4 cy q (tw cy (q 9) τ) res)))  (n : Nat) (v : OS × Int32) (ok : lpOk (kX4_passYear_2 τ  ) n v) (h : lp o0 (bX4_passYear_2 τ  ) n v = res) : At X D A 5 0 0 2 [(0, .ref (q 12)), (1, .int v.2)] [] (wX4 cy q (tw cy (q 9) τ) v.1) :=
  lp_rule (fun v rr_ => rr_ = res → At X D A 5 0 0 2 [(0, .ref (q 12)), (1, .int v.2)] [] (wX4 cy q (tw cy (q 9) τ) v.1)) (fun kR kO hk v ok h => wX4_passYear_2  C hR  kR kO hk v ok h) n v ok h
def pX4_passYear_0 (τ : TX)  (σ : OS) : OS := lp o0 (bX4_passYear_2 τ  ) fu (σ, 0)
def oX4_passYear_0 (τ : TX)  (σ : OS) : Prop := lpOk (kX4_passYear_2 τ  ) fu (σ, 0)
set_option maxHeartbeats 4000000 in
set_option maxRecDepth 100000 in
theorem wX4_passYear_0 {X : CX} {cy : Nat → ClassId} {q : Nat → Nat} {τ : TX} {D : va_G} {A : Nat → Prop} {res : OS} (σ : OS) (C : Cx X cX4_passYear RX4 5 D (gty cy) A 5 0 0) (hR : Rt X none D (gty cy) A 0 0 (eV (wX4 cy q (tw cy (q 9) τ) res)))  (ok : oX4_passYear_0 τ  σ) (h : pX4_passYear_0 τ  σ = res) : At X D A 5 0 0 0 [(0, .ref (q 12))] [] (wX4 cy q (tw cy (q 9) τ) σ) := by
  unfold pX4_passYear_0 at h
  unfold oX4_passYear_0 at ok
  refine r_iconst (v := 0) C (dall tdX4_passYear 0 rfl) (by decide) ?_
  refine r_istore_n (lv' := [(1, .int 0), (0, .ref (q 12))]) C (dall tdX4_passYear 1 rfl) (by decide) rfl ?_
  refine r_pick [1, 0] rfl ?_
  exact lX4_passYear_2  C hR  fu _ ok h
def fX4_passYear (τ : TX) (σ : OS) : OS := pX4_passYear_0 τ  σ
def gX4_passYear (τ : TX) (σ : OS) : Prop := oX4_passYear_0 τ  σ
set_option maxRecDepth 100000 in
theorem zX4_passYear (cy : Nat → ClassId) (q : Nat → Nat) (τ : TX)  {D : va_G} (σ : OS) (ok : gX4_passYear τ σ )  : Con yX4_passYear cX4_passYear 5 none 5 0 0 D (gty cy) [.ref (q 12)] (wX4 cy q (tw cy (q 9) τ) σ) (eV (wX4 cy q (tw cy (q 9) τ) (fX4_passYear τ σ ))) :=
  Con.of (own := RX4) (by decide +kernel) rfl (Nat.le_of_ble_eq_true rfl) (Nat.zero_le _) (fun X A C hR _ => (wX4_passYear_0 σ C hR  ok rfl))
theorem mv_X4_passYear : MV yX4_passYear cX4_passYear 5 none RX4 0 := ⟨ki_X4_passYear, kv_X4_passYear, kn_X4, kc_X4_passYear, by decide +kernel⟩
def tbX4_countBehind : List (Nat × Instr × Nat) := [(0, .aload_n 0, 1), (1, .invokevirtual 114, 3), (4, .istore_n 3, 1), (5, .iconst 0, 1), (6, .istore 4, 2), (8, .iload 4, 2), (10, .iload_n 1, 1), (11, .if_icmp .ge 23, 3), (14, .iload_n 3, 1), (15, .iload_n 2, 1), (16, .if_icmp .le 18, 3), (19, .aload_n 0, 1), (20, .invokevirtual 118, 3), (23, .aload_n 0, 1), (24, .invokevirtual 114, 3), (27, .istore_n 3, 1), (28, .iinc 4 1, 3), (31, .goto (-23), 3), (34, .iload_n 3, 1), (35, .ireturn, 1)]
theorem tdX4_countBehind : tbX4_countBehind.all (fun q => decide (decode cX4_countBehind q.1 = .ok q.2)) = true := by decide +kernel
def pX4_countBehind_23 (τ : TX) (kR8 : OS × Int32 × Int32 → Int32 × OS) (σ : OS) (a1_ : Int32) (a2_ : Int32) (a4_ : Int32) : Int32 × OS := kR8 (σ, fX4_countUp σ , a4_ + 1)
def oX4_countBehind_23 (τ : TX) (kO8 : OS × Int32 × Int32 → Prop) (σ : OS) (a1_ : Int32) (a2_ : Int32) (a4_ : Int32) : Prop := (gX4_countUp σ ) ∧ (kO8 (σ, fX4_countUp σ , a4_ + 1))
set_option maxHeartbeats 4000000 in
set_option maxRecDepth 100000 in
theorem wX4_countBehind_23 {X : CX} {cy : Nat → ClassId} {q : Nat → Nat} {τ : TX} {D : va_G} {A : Nat → Prop} {res : Int32 × OS} (σ : OS) (a1_ : Int32) (a2_ : Int32) (a4_ : Int32) (C : Cx X cX4_countBehind RX4 5 D (gty cy) A 6 0 0) (hR : Rt X (some .int) D (gty cy) A 0 0 (eI (wX4 cy q (tw cy (q 9) τ) res.2) res.1)) (kR8 : OS × Int32 × Int32 → Int32 × OS) (kO8 : OS × Int32 × Int32 → Prop) (hk8 : ∀ z, kO8 z → kR8 z = res → At X D A 5 0 0 8 [(0, .ref (q 12)), (1, .int a1_), (2, .int a2_), (3, .int z.2.1), (4, .int z.2.2)] [] (wX4 cy q (tw cy (q 9) τ) z.1)) (ok : oX4_countBehind_23 τ kO8 σ a1_ a2_ a4_) (h : pX4_countBehind_23 τ kR8 σ a1_ a2_ a4_ = res) : At X D A 5 0 0 23 [(0, .ref (q 12)), (1, .int a1_), (2, .int a2_), (4, .int a4_)] [] (wX4 cy q (tw cy (q 9) τ) σ) := by
  unfold pX4_countBehind_23 at h
  unfold oX4_countBehind_23 at ok
  refine r_aload_n C 0 (dall tdX4_countBehind 13 rfl) rfl ?_
  obtain ⟨o1, ok⟩ := ok
  refine r_vI (as := []) C (zX4_countUp cy q (tw cy (q 9) τ) σ  o1) mv_X4_countUp km_X4_114 (by decide) (by decide) ⟨Nat.le_refl _, Nat.le_refl _⟩ rfl rfl rfl rfl (Nat.le_of_ble_eq_true rfl) (dall tdX4_countBehind 14 rfl) ?_
  refine r_istore_n (lv' := [(3, .int (fX4_countUp σ)), (0, .ref (q 12)), (1, .int a1_), (2, .int a2_), (4, .int a4_)]) C (dall tdX4_countBehind 15 rfl) (by decide) rfl ?_
  refine r_iinc (v := a4_ + 1) (lv' := [(4, .int (a4_ + 1)), (3, .int (fX4_countUp σ)), (0, .ref (q 12)), (1, .int a1_), (2, .int a2_)]) C 4 (dall tdX4_countBehind 16 rfl) rfl rfl (by decide) rfl ?_
  refine r_goto (tgt := 8) C (dall tdX4_countBehind 17 rfl) (by decide) ?_
  refine r_pick [2, 3, 4, 1, 0] rfl ?_
  exact hk8 (σ, fX4_countUp σ , a4_ + 1) ok h
def bX4_countBehind_8 (τ : TX) (a1_ : Int32) (a2_ : Int32)  (kR8 : OS × Int32 × Int32 → Int32 × OS) (v : OS × Int32 × Int32) : Int32 × OS := if a1_ ≤ v.2.2 then (v.2.1, v.1) else if v.2.1 ≤ a2_ then (v.2.1, v.1) else pX4_countBehind_23 τ kR8 (fX4_passYear τ v.1) a1_ a2_ v.2.2
def kX4_countBehind_8 (τ : TX) (a1_ : Int32) (a2_ : Int32)  (kO8 : OS × Int32 × Int32 → Prop) (v : OS × Int32 × Int32) : Prop := (a1_ ≤ v.2.2 → True) ∧ (¬ (a1_ ≤ v.2.2) → (v.2.1 ≤ a2_ → True) ∧ (¬ (v.2.1 ≤ a2_) → (gX4_passYear τ v.1 ) ∧ (oX4_countBehind_23 τ kO8 (fX4_passYear τ v.1) a1_ a2_ v.2.2)))
set_option maxHeartbeats 4000000 in
set_option maxRecDepth 100000 in
theorem wX4_countBehind_8 {X : CX} {cy : Nat → ClassId} {q : Nat → Nat} {τ : TX} {D : va_G} {A : Nat → Prop} {res : Int32 × OS} (a1_ : Int32) (a2_ : Int32) (C : Cx X cX4_countBehind RX4 5 D (gty cy) A 6 0 0) (hR : Rt X (some .int) D (gty cy) A 0 0 (eI (wX4 cy q (tw cy (q 9) τ) res.2) res.1)) (kR8 : OS × Int32 × Int32 → Int32 × OS) (kO8 : OS × Int32 × Int32 → Prop) (hk8 : ∀ z, kO8 z → kR8 z = res → At X D A 5 0 0 8 [(0, .ref (q 12)), (1, .int a1_), (2, .int a2_), (3, .int z.2.1), (4, .int z.2.2)] [] (wX4 cy q (tw cy (q 9) τ) z.1)) (v : OS × Int32 × Int32) (ok : kX4_countBehind_8 τ a1_ a2_ kO8 v) (h : bX4_countBehind_8 τ a1_ a2_ kR8 v = res) : At X D A 5 0 0 8 [(0, .ref (q 12)), (1, .int a1_), (2, .int a2_), (3, .int v.2.1), (4, .int v.2.2)] [] (wX4 cy q (tw cy (q 9) τ) v.1) := by
  unfold bX4_countBehind_8 at h
  unfold kX4_countBehind_8 at ok
  refine r_iload C 4 (dall tdX4_countBehind 5 rfl) rfl ?_
  refine r_iload_n C 1 (dall tdX4_countBehind 6 rfl) rfl ?_
  refine r_icmp_ge (tgt := 34) C (dall tdX4_countBehind 7 rfl) (by decide) (fun c2 => ?_) (fun c2 => ?_)
  · have h := (if_pos c2).symm.trans h
    have ok := ok.1 c2
    refine r_iload_n C 3 (dall tdX4_countBehind 18 rfl) rfl ?_
    exact r_iret C hR (dall tdX4_countBehind 19 rfl) (by subst h; exact ⟨rfl, rfl⟩)
  · have h := (if_neg c2).symm.trans h
    have ok := ok.2 c2
    refine r_iload_n C 3 (dall tdX4_countBehind 8 rfl) rfl ?_
    refine r_iload_n C 2 (dall tdX4_countBehind 9 rfl) rfl ?_
    refine r_icmp_le (tgt := 34) C (dall tdX4_countBehind 10 rfl) (by decide) (fun c3 => ?_) (fun c3 => ?_)
    · have h := (if_pos c3).symm.trans h
      have ok := ok.1 c3
      refine r_iload_n C 3 (dall tdX4_countBehind 18 rfl) rfl ?_
      exact r_iret C hR (dall tdX4_countBehind 19 rfl) (by subst h; exact ⟨rfl, rfl⟩)
    · have h := (if_neg c3).symm.trans h
      have ok := ok.2 c3
      refine r_aload_n C 0 (dall tdX4_countBehind 11 rfl) rfl ?_
      obtain ⟨o4, ok⟩ := ok
      refine r_vV (as := []) C (zX4_passYear cy q τ v.1  o4) mv_X4_passYear km_X4_118 (by decide) (by decide) ⟨Nat.le_refl _, Nat.le_refl _⟩ rfl rfl rfl rfl (Nat.le_of_ble_eq_true rfl) (dall tdX4_countBehind 12 rfl) ?_
      refine r_pick [0, 1, 2, 4] rfl ?_
      exact wX4_countBehind_23 (fX4_passYear τ v.1) a1_ a2_ v.2.2 C hR kR8 kO8 hk8 ok h
set_option maxHeartbeats 4000000 in
set_option maxRecDepth 100000 in
theorem lX4_countBehind_8 {X : CX} {cy : Nat → ClassId} {q : Nat → Nat} {τ : TX} {D : va_G} {A : Nat → Prop} {res : Int32 × OS} (a1_ : Int32) (a2_ : Int32) (C : Cx X cX4_countBehind RX4 5 D (gty cy) A 6 0 0) (hR : Rt X (some .int) D (gty cy) A 0 0 (eI (wX4 cy q (tw cy (q 9) τ) res.2) res.1))  (n : Nat) (v : OS × Int32 × Int32) (ok : lpOk (kX4_countBehind_8 τ a1_ a2_ ) n v) (h : lp (0, o0) (bX4_countBehind_8 τ a1_ a2_ ) n v = res) : At X D A 5 0 0 8 [(0, .ref (q 12)), (1, .int a1_), (2, .int a2_), (3, .int v.2.1), (4, .int v.2.2)] [] (wX4 cy q (tw cy (q 9) τ) v.1) :=
  lp_rule (fun v rr_ => rr_ = res → At X D A 5 0 0 8 [(0, .ref (q 12)), (1, .int a1_), (2, .int a2_), (3, .int v.2.1), (4, .int v.2.2)] [] (wX4 cy q (tw cy (q 9) τ) v.1)) (fun kR kO hk v ok h => wX4_countBehind_8 a1_ a2_ C hR  kR kO hk v ok h) n v ok h
def pX4_countBehind_0 (τ : TX)  (σ : OS) (a1_ : Int32) (a2_ : Int32) : Int32 × OS := lp (0, o0) (bX4_countBehind_8 τ a1_ a2_ ) fu (σ, fX4_countUp σ , 0)
def oX4_countBehind_0 (τ : TX)  (σ : OS) (a1_ : Int32) (a2_ : Int32) : Prop := (gX4_countUp σ ) ∧ (lpOk (kX4_countBehind_8 τ a1_ a2_ ) fu (σ, fX4_countUp σ , 0))
set_option maxHeartbeats 4000000 in
set_option maxRecDepth 100000 in
theorem wX4_countBehind_0 {X : CX} {cy : Nat → ClassId} {q : Nat → Nat} {τ : TX} {D : va_G} {A : Nat → Prop} {res : Int32 × OS} (σ : OS) (a1_ : Int32) (a2_ : Int32) (C : Cx X cX4_countBehind RX4 5 D (gty cy) A 6 0 0) (hR : Rt X (some .int) D (gty cy) A 0 0 (eI (wX4 cy q (tw cy (q 9) τ) res.2) res.1))  (ok : oX4_countBehind_0 τ  σ a1_ a2_) (h : pX4_countBehind_0 τ  σ a1_ a2_ = res) : At X D A 5 0 0 0 [(0, .ref (q 12)), (1, .int a1_), (2, .int a2_)] [] (wX4 cy q (tw cy (q 9) τ) σ) := by
  unfold pX4_countBehind_0 at h
  unfold oX4_countBehind_0 at ok
  refine r_aload_n C 0 (dall tdX4_countBehind 0 rfl) rfl ?_
  obtain ⟨o5, ok⟩ := ok
  refine r_vI (as := []) C (zX4_countUp cy q (tw cy (q 9) τ) σ  o5) mv_X4_countUp km_X4_114 (by decide) (by decide) ⟨Nat.le_refl _, Nat.le_refl _⟩ rfl rfl rfl rfl (Nat.le_of_ble_eq_true rfl) (dall tdX4_countBehind 1 rfl) ?_
  refine r_istore_n (lv' := [(3, .int (fX4_countUp σ)), (0, .ref (q 12)), (1, .int a1_), (2, .int a2_)]) C (dall tdX4_countBehind 2 rfl) (by decide) rfl ?_
  refine r_iconst (v := 0) C (dall tdX4_countBehind 3 rfl) (by decide) ?_
  refine r_istore (lv' := [(4, .int 0), (3, .int (fX4_countUp σ)), (0, .ref (q 12)), (1, .int a1_), (2, .int a2_)]) C (dall tdX4_countBehind 4 rfl) (by decide) rfl ?_
  refine r_pick [2, 3, 4, 1, 0] rfl ?_
  exact lX4_countBehind_8 a1_ a2_ C hR  fu _ ok h
def fX4_countBehind (τ : TX) (σ : OS) (a1_ : Int32) (a2_ : Int32) : Int32 × OS := pX4_countBehind_0 τ  σ a1_ a2_
def gX4_countBehind (τ : TX) (σ : OS) (a1_ : Int32) (a2_ : Int32) : Prop := oX4_countBehind_0 τ  σ a1_ a2_
set_option maxRecDepth 100000 in
theorem zX4_countBehind (cy : Nat → ClassId) (q : Nat → Nat) (τ : TX)  {D : va_G} (σ : OS) (a1_ : Int32) (a2_ : Int32) (ok : gX4_countBehind τ σ a1_ a2_)  : Con yX4_countBehind cX4_countBehind 5 (some .int) 6 0 0 D (gty cy) [.ref (q 12), .int a1_, .int a2_] (wX4 cy q (tw cy (q 9) τ) σ) (eI (wX4 cy q (tw cy (q 9) τ) (fX4_countBehind τ σ a1_ a2_).2) (fX4_countBehind τ σ a1_ a2_).1) :=
  Con.of (own := RX4) (by decide +kernel) rfl (Nat.le_of_ble_eq_true rfl) (Nat.zero_le _) (fun X A C hR _ => (wX4_countBehind_0 σ a1_ a2_ C hR  ok rfl))
theorem mv_X4_countBehind : MV yX4_countBehind cX4_countBehind 5 (some .int) RX4 2 := ⟨ki_X4_countBehind, kv_X4_countBehind, kn_X4, kc_X4_countBehind, by decide +kernel⟩

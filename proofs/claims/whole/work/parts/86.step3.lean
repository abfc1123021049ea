section
/-! steps: what changes the world, further -/
theorem WR.put {N m y : Nat} {w σ : OS} (h : WR N m y w σ) {p : Nat} (hp : p < m) {x : Int64} (hP : PI m (σ.2.1 9) (vp_updL (σ.2.2.2 11) p x)) : WR N m y (oT w 3 p x) (oT σ 11 p x) := by
  obtain ⟨a1, a2, a3, a4, a5, a6, a7, a8, a9⟩ := h
  refine ⟨a1, a2, a3, a4, a5, a6, fun r hr => a7 r hr, fun r hr => ?_, ?_⟩
  · rw [oT_row, oT_row]
    by_cases e : r = p
    · subst e; rw [uL_s, uL_s]
    · rw [uL_n _ _ e, uL_n _ _ e]; exact a8 r hr
  · rw [oT_row]; exact hP
theorem ps_raise : PS_raise Rel := by
  intro τ ξ σ x z v h
  obtain ⟨m, y, hy, hw⟩ := h.1
  obtain ⟨s1, s2, s3, s4, s5, s6, s7, s8⟩ := hw.sets
  obtain ⟨g, ho⟩ := onec (τ := τ) hw.1 hw.2.1.1 hw.2.1.2 x
  unfold gX5_raise oX5_raise_0 fX5_raise pX5_raise_0 gX6_raise oX6_raise_0 fX6_raise pX6_raise_0
  have gp : gX5_isPart z := wi_nb _ _
  rcases ho with ⟨o1, o2⟩ | ⟨o1, o2, p, hp, rfl⟩
  · simp only [↓reduceIte, not_true_eq_false, not_false_eq_true, false_implies, true_implies, implies_true, true_and, and_true, and_self, eq_self, Bool.false_eq_true, g, o1, o2]
    exact h
  · have pc : (nI p).toNatClampNeg = p := nI_clamp (by have := hw.1; omega)
    have vp5 : vp_in (nI p) 5 := vp_in_nI (by have := hw.1; omega) (by decide)
    rcases wic z (m := 5) (by decide) with ⟨a, b⟩ | ⟨a, b, j, hj, rfl⟩
    · have a : fX5_isPart z = 0 := a
      have b : fX6_in z.toInt64 0 5 = 0 := b
      simp only [↓reduceIte, not_true_eq_false, not_false_eq_true, false_implies, true_implies, implies_true, true_and, and_true, and_self, eq_self, Bool.false_eq_true, g, o1, o2, one_ne, gp, a, b]
      exact h
    · have a : fX5_isPart (nI j) = 1 := a
      have b : fX6_in (nI j).toInt64 0 5 = 1 := b
      have hj6 : j < 6 := by omega
      obtain ⟨g1, g2, ⟨a', b'⟩ | ⟨a', b', c, hc, rfl⟩⟩ := cellc v
      · simp only [↓reduceIte, not_true_eq_false, not_false_eq_true, false_implies, true_implies, implies_true, true_and, and_true, and_self, eq_self, Bool.false_eq_true, g, o1, o2, one_ne, gp, a, b, g1, g2, a', b']
        exact h
      · rw [s7, s8, has_can _ hj6 hc, pc]
        have hPI : tb (fX3_places (nI j) (σ.2.1 9 ||| uni (σ.2.2.2 11) m)) c = true → PI m (σ.2.1 9) (vp_updL (σ.2.2.2 11) p (σ.2.2.2 11 p ||| fX3_cellsOf (nI j) (nI c))) := fun e => up_PI hw.2.2.2.2.2.2.2.2 hj6 hc hp e
        by_cases e : fX6_can (fX6_partAt (nI j) (nI c)) (σ.2.1 9 ||| uni (σ.2.2.2 11) m) = 0
        · simp only [↓reduceIte, not_true_eq_false, not_false_eq_true, false_implies, true_implies, implies_true, true_and, and_true, and_self, eq_self, Bool.false_eq_true, g, o1, o2, one_ne, gp, a, b, g1, g2, a', b', s3, s4, e, places_g _ hj6]
          exact h
        · have ec := part_cells hj6 hc e
          have et : tb (fX3_places (nI j) (σ.2.1 9 ||| uni (σ.2.2.2 11) m)) c = true := by
            rw [can_eq _ hj6 hc] at e
            exact Classical.byContradiction (fun q => e (if_neg q))
          have hW := hw.put hp (hPI et)
          rw [ec, hw.2.2.2.2.2.2.2.1 p hp]
          have k1 : (xN ξ (oT ξ.2.1 3 p (σ.2.2.2 11 p ||| fX3_cellsOf (nI j) (nI c)))).2.1.2.2.2 3 p = σ.2.2.2 11 p ||| fX3_cellsOf (nI j) (nI c) := by
            show (oT ξ.2.1 3 p (σ.2.2.2 11 p ||| fX3_cellsOf (nI j) (nI c))).2.2.2 3 p = _
            rw [oT_row, uL_s]
          have k2 : (oT σ 11 p (σ.2.2.2 11 p ||| fX3_cellsOf (nI j) (nI c))).2.2.2 11 p = σ.2.2.2 11 p ||| fX3_cellsOf (nI j) (nI c) := by rw [oT_row, uL_s]
          rw [k1, k2, bitCount_eq, (bitsOf_eq _).1]
          rw [ec] at e
          simp only [↓reduceIte, not_true_eq_false, not_false_eq_true, false_implies, true_implies, implies_true, true_and, and_true, and_self, eq_self, Bool.false_eq_true, g, o1, o2, one_ne, gp, a, b, g1, g2, a', b', s3, s4, e, places_g _ hj6, vp5, (cellsOf_un (a := c) hj6).2, (bitsOf_eq _).2]
          exact h.world ⟨m, y, hy, hW⟩ ⟨rfl, rfl, fun _ _ _ => rfl, rfl, fun _ _ => rfl, oT_n _ _ _ (by decide)⟩ rfl rfl
theorem cnt_diff {a b c : Nat} (h : c + b = a) : nI a - nI b = nI c := by rw [pk_sub (by omega)]; congr 1; omega
theorem ps_fell : PS_fell Rel := by
  intro τ ξ σ x h
  obtain ⟨m, y, hy, hw⟩ := h.1
  obtain ⟨s1, s2, s3, s4, s5, s6, s7, s8⟩ := hw.sets
  unfold gX5_fell oX5_fell_0 fX5_fell pX5_fell_0 oX5_fell_43 pX5_fell_43 gX6_fell oX6_fell_0 fX6_fell pX6_fell_0 pX6_fell_26
  obtain ⟨g1, g2, ⟨a, b⟩ | ⟨a, b, c, hc, rfl⟩⟩ := cellc x
  · simp only [↓reduceIte, not_true_eq_false, not_false_eq_true, false_implies, true_implies, implies_true, true_and, and_true, and_self, eq_self, Bool.false_eq_true, g1, g2, a, b]
    exact h
  · obtain ⟨c1, c2⟩ := cu4_eq hw.1 hw.2.1.1
    obtain ⟨d1, d2, d3, d4, d5, d6, d7, d8⟩ := drop_fell hw hc
    have e1 : (xN ξ (fX4_dropCell ξ.2.1 (nI c))).2.1 = fX4_dropCell ξ.2.1 (nI c) := rfl
    obtain ⟨c3, c4⟩ := cu4_eq d3.1 d3.2.1.1
    rw [s5, s6, e1, c2, c4, uni_cong hw.2.2.2.2.2.2.2.1, uni_cong d3.2.2.2.2.2.2.2.1]
    simp only [has3 _ hc, has6 _ hc, if10]
    by_cases e : tb (uni (σ.2.2.2 11) m) c = true
    · have d8 := d8 ((uni_tb _ _ _).mp e)
      simp only [↓reduceIte, not_true_eq_false, not_false_eq_true, false_implies, true_implies, implies_true, true_and, and_true, and_self, eq_self, Bool.false_eq_true, g1, g2, a, b, one_ne, s1, s2, e, c1, c3, d1, d2, d7, cnt_diff d8]
      exact h.world ⟨m, y, hy, d3⟩ d4.yf.of rfl rfl
    · simp only [↓reduceIte, not_true_eq_false, not_false_eq_true, false_implies, true_implies, implies_true, true_and, and_true, and_self, eq_self, Bool.false_eq_true, g1, g2, a, b, one_ne, s1, s2, e]
      exact h
theorem ps_year : PS_year Rel := by
  intro τ ξ σ h
  obtain ⟨m, y, hy, hw⟩ := h.1
  unfold gX5_year oX5_year_0 fX5_year pX5_year_0 oX5_year_31 pX5_year_31 gX6_year oX6_year_0 fX6_year pX6_year_0 pX6_year_19
  rw [hw.2.2.1.1, hw.2.2.1.2]
  by_cases e : y = 999
  · subst e
    have c1 : ¬ nI 999 < 999 := by decide
    have c2 : nI 999 = 999 := rfl
    simp only [↓reduceIte, not_true_eq_false, not_false_eq_true, false_implies, true_implies, implies_true, true_and, and_true, and_self, eq_self, Bool.false_eq_true, c1, eq_true c2]
    exact h
  · have c1 : nI y < 999 := nI_lt (b := 999) (by omega) (by decide)
    have c2 : ¬ nI y = 999 := nI_ne (b := 999) e (by omega) (by decide)
    obtain ⟨p1, p2, p3, p4, p5, c, p6, p7⟩ := pass_sim hw h.2.1 (by omega)
    obtain ⟨u1, u2⟩ := cu4_eq hw.1 hw.2.1.1
    have e1 : (xN ξ (fX4_passYear τ ξ.2.1)).2.1 = fX4_passYear τ ξ.2.1 := rfl
    obtain ⟨u3, u4⟩ := cu4_eq p3.1 p3.2.1.1
    rw [e1, u2, u4, uni_cong hw.2.2.2.2.2.2.2.1, uni_cong p3.2.2.2.2.2.2.2.1, p6]
    simp only [↓reduceIte, not_true_eq_false, not_false_eq_true, false_implies, true_implies, implies_true, true_and, and_true, and_self, eq_self, Bool.false_eq_true, c1, c2, u1, u3, p1, p2, cnt_diff p7]
    exact h.world ⟨m, y + 1, by omega, p3⟩ p5.of rfl rfl
theorem ps_run : PS_run Rel := by
  intro τ ξ σ x n z h
  obtain ⟨m, y, hy, hw⟩ := h.1
  obtain ⟨g, ho⟩ := onec (τ := τ) hw.1 hw.2.1.1 hw.2.1.2 x
  unfold gX5_run oX5_run_0 fX5_run pX5_run_0 oX5_run_33 pX5_run_33 gX6_run oX6_run_0 fX6_run pX6_run_0 oX6_run_39 pX6_run_39 oX6_run_44 pX6_run_44 oX6_run_97 pX6_run_97 pX6_run_103
  rcases ho with ⟨o1, o2⟩ | ⟨o1, o2, p, hp, rfl⟩
  · simp only [↓reduceIte, not_true_eq_false, not_false_eq_true, false_implies, true_implies, implies_true, true_and, and_true, and_self, eq_self, Bool.false_eq_true, g, o1, o2]
    exact h
  · rcases wic n (m := 40) (by decide) with ⟨a, b⟩ | ⟨a, b, j, hj, rfl⟩
    · have a : fX5_within n 40 = 0 := a
      have b : fX6_in n.toInt64 0 40 = 0 := b
      simp only [↓reduceIte, not_true_eq_false, not_false_eq_true, false_implies, true_implies, implies_true, true_and, and_true, and_self, eq_self, Bool.false_eq_true, g, o1, o2, one_ne, a, b]
      exact h
    · have a : fX5_within (nI j) 40 = 1 := a
      have b : fX6_in (nI j).toInt64 0 40 = 1 := b
      rcases wic z (m := 3) (by decide) with ⟨a', b'⟩ | ⟨a', b', k, hk, rfl⟩
      · have a' : fX5_within z 3 = 0 := a'
        have b' : fX6_in z.toInt64 0 3 = 0 := b'
        simp only [↓reduceIte, not_true_eq_false, not_false_eq_true, false_implies, true_implies, implies_true, true_and, and_true, and_self, eq_self, Bool.false_eq_true, g, o1, o2, one_ne, a, b, a', b']
        exact h
      · have a' : fX5_within (nI k) 3 = 1 := a'
        have b' : fX6_in (nI k).toInt64 0 3 = 1 := b'
        have m5 := hw.1
        have pc : (nI p).toNatClampNeg = p := nI_clamp (by omega)
        have vp5 : vp_in (nI p) 5 := vp_in_nI (by omega) (by decide)
        obtain ⟨t1, t2, t3, t4, t5, t6, t7, t8, t9⟩ := three (p := p) (by omega)
        obtain ⟨k1, k2, k3, k4, k5, w', k6, k7⟩ := think_sim hj hy hw h.2.1
        rw [k6]
        have e1 : (xT ξ w').2.2.1 = w' := rfl
        rw [e1, pc, t5]
        generalize fX6_go (fX6_laysAside σ) (nI j) = s at *
        obtain ⟨u1, u2⟩ := cu4_eq k7.1 k7.2.1.1
        obtain ⟨u3, u4⟩ := putAll_eq k7.1 k7.2.1.2
        obtain ⟨q, -, q1, q2⟩ := k7.2.2.2.1
        obtain ⟨_, _, f, -, -, -, -, -, ⟨f1, f2⟩⟩ := k7.2.2.2.2.2.2.1 p hp
        rw [u2, u4, uni_cong k7.2.2.2.2.2.2.2.1, k7.2.2.2.2.2.2.2.1 p hp, bitCount_eq, (bitsOf_eq _).1, (bitsOf_eq _).1, q1, q2, f1, f2]
        rcases (by omega : k = 0 ∨ k = 1 ∨ k = 2 ∨ k = 3) with rfl | rfl | rfl | rfl
        all_goals
          simp only [↓reduceIte, not_true_eq_false, not_false_eq_true, false_implies, true_implies, implies_true, true_and, and_true, and_self, eq_self, Bool.false_eq_true, g, o1, o2, one_ne, a, b, a', b', k1, k2, k3, k4, kne_0_1, kne_0_2, kne_0_3, kne_0_4, kne_0_5, kne_0_6, kne_1_0, kne_1_2, kne_1_3, kne_1_4, kne_1_5, kne_1_6, kne_2_0, kne_2_1, kne_2_3, kne_2_4, kne_2_5, kne_2_6, kne_3_0, kne_3_1, kne_3_2, kne_3_4, kne_3_5, kne_3_6, kne_4_0, kne_4_1, kne_4_2, kne_4_3, kne_4_5, kne_4_6, kne_5_0, kne_5_1, kne_5_2, kne_5_3, kne_5_4, kne_5_6, kne_6_0, kne_6_1, kne_6_2, kne_6_3, kne_6_4, kne_6_5, keq_0, keq_1, keq_2, keq_3, keq_4, keq_5, keq_6, u1, u3, (bitsOf_eq _).2, vp5, t8]
          exact h.zf k5 w'
theorem ps_later : PS_later Rel := by
  intro τ ξ σ n h
  obtain ⟨m, y, hy, hw⟩ := h.1
  unfold gX5_later oX5_later_0 fX5_later pX5_later_0 oX5_later_18 pX5_later_18 gX6_later oX6_later_0 fX6_later pX6_later_0 oX6_later_20 pX6_later_20 oX6_later_25 pX6_later_25 pX6_later_34
  rcases wic n (m := 40) (by decide) with ⟨a, b⟩ | ⟨a, b, j, hj, rfl⟩
  · have a : fX5_within n 40 = 0 := a
    have b : fX6_in n.toInt64 0 40 = 0 := b
    simp only [↓reduceIte, not_true_eq_false, not_false_eq_true, false_implies, true_implies, implies_true, true_and, and_true, and_self, eq_self, Bool.false_eq_true, a, b]
    exact h
  · have a : fX5_within (nI j) 40 = 1 := a
    have b : fX6_in (nI j).toInt64 0 40 = 1 := b
    obtain ⟨k1, k2, k3, k4, k5, w', k6, k7⟩ := think_sim hj hy hw h.2.1
    rw [k6]
    have e1 : (xT ξ w').2.2.1 = w' := rfl
    rw [e1]
    obtain ⟨s1, s2, s3, s4, s5, s6, s7, s8⟩ := k7.sets
    rw [s7, s8]
    simp only [↓reduceIte, not_true_eq_false, not_false_eq_true, false_implies, true_implies, implies_true, true_and, and_true, and_self, eq_self, Bool.false_eq_true, a, b, one_ne, k1, k2, k3, k4, s3, s4]
    exact h.zf k5 w'
theorem Rel.wf {τ : TX} {ξ : XS} {σ σ' : OS} (h : Rel τ ξ σ) {w : OS} (hw : WF ξ.2.1 w) (hx : XF σ σ') : Rel τ (xN ξ w) σ' := by
  obtain ⟨m, y, hy, hr⟩ := h.1
  exact h.world ⟨m, y, hy, hr.move hw hx⟩ hx.zf.of rfl rfl
theorem ps_told : PS_told Rel := by
  intro τ ξ σ x z h
  obtain ⟨m, y, hy, hw⟩ := h.1
  obtain ⟨g, ho⟩ := onec (τ := τ) hw.1 hw.2.1.1 hw.2.1.2 x
  unfold gX5_told oX5_told_0 fX5_told pX5_told_0 pX5_told_53 gX5_toldOfOne oX5_toldOfOne_0 fX5_toldOfOne pX5_toldOfOne_0 pX5_toldOfOne_82 pX5_toldOfOne_91 pX5_toldOfOne_100 gX6_told oX6_told_0 fX6_told pX6_told_0 oX6_told_43 pX6_told_43 pX6_told_88 pX6_told_101 pX6_told_109
  have m5 := hw.1
  rcases wic z (m := 8) (by decide) with ⟨a, b⟩ | ⟨a, b, j, hj, rfl⟩
  · have b : fX6_in z.toInt64 0 8 = 0 := b
    have a : fX5_within z (nI 8) = 0 := a
    have ne : ∀ j, j ≤ 8 → ¬ z = nI j := fun j hj e => by rw [e, wi_in hj (by decide)] at a; exact one_ne a
    have n0 : ¬ z = 0 := ne 0 (by decide)
    have n1 : ¬ z = 1 := ne 1 (by decide)
    have n2 : ¬ z = 2 := ne 2 (by decide)
    have n3 : ¬ z = 3 := ne 3 (by decide)
    have n4 : ¬ z = 4 := ne 4 (by decide)
    have n5 : ¬ z = 5 := ne 5 (by decide)
    have n6 : ¬ z = 6 := ne 6 (by decide)
    have n7 : ¬ z = 7 := ne 7 (by decide)
    have n8 : ¬ z = 8 := ne 8 (by decide)
    rcases ho with ⟨o1, o2⟩ | ⟨o1, o2, -⟩
    · simp only [↓reduceIte, not_true_eq_false, not_false_eq_true, false_implies, true_implies, implies_true, true_and, and_true, and_self, eq_self, Bool.false_eq_true, b, n0, n8, o1, o2]
      exact h
    · simp only [↓reduceIte, not_true_eq_false, not_false_eq_true, false_implies, true_implies, implies_true, true_and, and_true, and_self, eq_self, Bool.false_eq_true, b, n0, n1, n2, n3, n4, n5, n6, n7, n8, o1, o2, one_ne]
      exact h
  · have b : fX6_in (nI j).toInt64 0 8 = 1 := b
    rcases (by omega : j = 0 ∨ j = 8 ∨ (1 ≤ j ∧ j ≤ 7)) with rfl | rfl | hj7
    · have d1 : nI 0 = 0 := rfl
      have d2 : nI 0 ≤ 0 := by decide
      have d3 : ¬ (4 : Int32) ≤ nI 0 := by decide
      simp only [↓reduceIte, not_true_eq_false, not_false_eq_true, false_implies, true_implies, implies_true, true_and, and_true, and_self, eq_self, Bool.false_eq_true, b, one_ne, eq_true d1, d2, d3, hw.2.2.1.1, hw.2.2.1.2]
      exact h
    · have d1 : ¬ nI 8 = 0 := by decide
      have d2 : ¬ nI 8 ≤ 0 := by decide
      have d3 : (4 : Int32) ≤ nI 8 := by decide
      have d4 : (7 : Int32) ≤ nI 8 := by decide
      have d5 : ¬ nI 8 = 7 := by decide
      have d6 : nI 8 = 8 := rfl
      obtain ⟨g1, g2, ⟨a', b'⟩ | ⟨a', b', c, hc, rfl⟩⟩ := cellc x
      · simp only [↓reduceIte, not_true_eq_false, not_false_eq_true, false_implies, true_implies, implies_true, true_and, and_true, and_self, eq_self, Bool.false_eq_true, b, one_ne, d1, d2, eq_true d6, g1, g2, a', b']
        exact h
      · obtain ⟨w1, w2⟩ := whose_eq hw.1 hw.2.1.1 hc
        obtain ⟨w3, w4⟩ := whoseIs_eq hw.1 hw.2.1.2 hc
        rw [hw.2.2.2.2.2.1] at w2
        have e := WHO.un (U := ξ.2.1.2.2.2 3) (V := σ.2.2.2 11) (hw.2.2.2.2.2.2.2.2.cong hw.2.2.2.2.2.2.2.1).1 (fun p hp => (hw.2.2.2.2.2.2.2.1 p hp).symm) hc w2 w4
        simp only [↓reduceIte, not_true_eq_false, not_false_eq_true, false_implies, true_implies, implies_true, true_and, and_true, and_self, eq_self, Bool.false_eq_true, b, one_ne, d1, d2, d3, d4, d5, eq_true d6, g1, g2, a', b', w1, w3, e]
        exact h
    · have d1 : ¬ nI j = 0 := nI_ne (b := 0) (by omega) (by omega) (by decide)
      have d2 : ¬ nI j ≤ 0 := nI_nle (by omega) (by omega)
      have d8 : ¬ nI j = 8 := nI_ne (b := 8) (by omega) (by omega) (by decide)
      rcases ho with ⟨o1, o2⟩ | ⟨o1, o2, p, hp, rfl⟩
      · simp only [↓reduceIte, not_true_eq_false, not_false_eq_true, false_implies, true_implies, implies_true, true_and, and_true, and_self, eq_self, Bool.false_eq_true, b, one_ne, d1, d2, d8, g, o1, o2]
        exact h
      · have pc : (nI p).toNatClampNeg = p := nI_clamp (by omega)
        have vp5 : vp_in (nI p) 5 := vp_in_nI (by omega) (by decide)
        obtain ⟨t1, t2, t3, t4, t5, t6, t7, t8, t9⟩ := three (p := p) (by omega)
        obtain ⟨k, u, f, hk, hu, hf, ⟨b1, b1'⟩, ⟨b2, b2'⟩, ⟨b3, b3'⟩⟩ := hw.2.2.2.2.2.2.1 p hp
        simp only [↓reduceIte, not_true_eq_false, not_false_eq_true, false_implies, true_implies, implies_true, true_and, and_true, and_self, eq_self, Bool.false_eq_true, b, one_ne, d1, d2, d8, g, o1, o2, pc]
        rcases (by omega : j = 1 ∨ j = 2 ∨ j = 3 ∨ j = 4 ∨ j = 5 ∨ j = 6 ∨ j = 7) with rfl | rfl | rfl | rfl | rfl | rfl | rfl
        · have e1 : 3 * nI p + nI 1 - 1 = nI (3 * p) := by rw [t1, nI_add, show (1 : Int32) = nI 1 from rfl, pk_sub (by omega)]; rfl
          have d3 : ¬ (4 : Int32) ≤ nI 1 := by decide
          simp only [↓reduceIte, not_true_eq_false, not_false_eq_true, false_implies, true_implies, implies_true, true_and, and_true, and_self, eq_self, Bool.false_eq_true, kne_0_1, kne_0_2, kne_0_3, kne_0_4, kne_0_5, kne_0_6, kne_1_0, kne_1_2, kne_1_3, kne_1_4, kne_1_5, kne_1_6, kne_2_0, kne_2_1, kne_2_3, kne_2_4, kne_2_5, kne_2_6, kne_3_0, kne_3_1, kne_3_2, kne_3_4, kne_3_5, kne_3_6, kne_4_0, kne_4_1, kne_4_2, kne_4_3, kne_4_5, kne_4_6, kne_5_0, kne_5_1, kne_5_2, kne_5_3, kne_5_4, kne_5_6, kne_6_0, kne_6_1, kne_6_2, kne_6_3, kne_6_4, kne_6_5, keq_0, keq_1, keq_2, keq_3, keq_4, keq_5, keq_6, d3, e1, nI_clamp (show 3 * p < 2 ^ 31 by omega), vp_in_nI (show 3 * p < 15 by omega) (by decide), vp5, b2, b2']
          exact h
        · have e1 : 3 * nI p + nI 2 - 1 = nI (3 * p + 1) := by rw [t1, nI_add, show (1 : Int32) = nI 1 from rfl, pk_sub (by omega)]; rfl
          have d3 : ¬ (4 : Int32) ≤ nI 2 := by decide
          simp only [↓reduceIte, not_true_eq_false, not_false_eq_true, false_implies, true_implies, implies_true, true_and, and_true, and_self, eq_self, Bool.false_eq_true, kne_0_1, kne_0_2, kne_0_3, kne_0_4, kne_0_5, kne_0_6, kne_1_0, kne_1_2, kne_1_3, kne_1_4, kne_1_5, kne_1_6, kne_2_0, kne_2_1, kne_2_3, kne_2_4, kne_2_5, kne_2_6, kne_3_0, kne_3_1, kne_3_2, kne_3_4, kne_3_5, kne_3_6, kne_4_0, kne_4_1, kne_4_2, kne_4_3, kne_4_5, kne_4_6, kne_5_0, kne_5_1, kne_5_2, kne_5_3, kne_5_4, kne_5_6, kne_6_0, kne_6_1, kne_6_2, kne_6_3, kne_6_4, kne_6_5, keq_0, keq_1, keq_2, keq_3, keq_4, keq_5, keq_6, d3, e1, nI_clamp (show 3 * p + 1 < 2 ^ 31 by omega), vp_in_nI (show 3 * p + 1 < 15 by omega) (by decide), vp5, b3, b3']
          exact h
        · have e1 : 3 * nI p + nI 3 - 1 = nI (3 * p + 2) := by rw [t1, nI_add, show (1 : Int32) = nI 1 from rfl, pk_sub (by omega)]; rfl
          have d3 : ¬ (4 : Int32) ≤ nI 3 := by decide
          simp only [↓reduceIte, not_true_eq_false, not_false_eq_true, false_implies, true_implies, implies_true, true_and, and_true, and_self, eq_self, Bool.false_eq_true, kne_0_1, kne_0_2, kne_0_3, kne_0_4, kne_0_5, kne_0_6, kne_1_0, kne_1_2, kne_1_3, kne_1_4, kne_1_5, kne_1_6, kne_2_0, kne_2_1, kne_2_3, kne_2_4, kne_2_5, kne_2_6, kne_3_0, kne_3_1, kne_3_2, kne_3_4, kne_3_5, kne_3_6, kne_4_0, kne_4_1, kne_4_2, kne_4_3, kne_4_5, kne_4_6, kne_5_0, kne_5_1, kne_5_2, kne_5_3, kne_5_4, kne_5_6, kne_6_0, kne_6_1, kne_6_2, kne_6_3, kne_6_4, kne_6_5, keq_0, keq_1, keq_2, keq_3, keq_4, keq_5, keq_6, d3, e1, nI_clamp (show 3 * p + 2 < 2 ^ 31 by omega), vp_in_nI (show 3 * p + 2 < 15 by omega) (by decide), vp5, b1, b1']
          exact h
        · obtain ⟨q1, q2, q3, q4, v, -, q5, q6⟩ := holds_eq hw h.2.1 hp
          have d3 : (4 : Int32) ≤ nI 4 := by decide
          have d4 : ¬ (7 : Int32) ≤ nI 4 := by decide
          simp only [↓reduceIte, not_true_eq_false, not_false_eq_true, false_implies, true_implies, implies_true, true_and, and_true, and_self, eq_self, Bool.false_eq_true, kne_0_1, kne_0_2, kne_0_3, kne_0_4, kne_0_5, kne_0_6, kne_1_0, kne_1_2, kne_1_3, kne_1_4, kne_1_5, kne_1_6, kne_2_0, kne_2_1, kne_2_3, kne_2_4, kne_2_5, kne_2_6, kne_3_0, kne_3_1, kne_3_2, kne_3_4, kne_3_5, kne_3_6, kne_4_0, kne_4_1, kne_4_2, kne_4_3, kne_4_5, kne_4_6, kne_5_0, kne_5_1, kne_5_2, kne_5_3, kne_5_4, kne_5_6, kne_6_0, kne_6_1, kne_6_2, kne_6_3, kne_6_4, kne_6_5, keq_0, keq_1, keq_2, keq_3, keq_4, keq_5, keq_6, d3, d4, q1, q2, q5, q6]
          exact h.wf q3 q4
        · obtain ⟨q1, q2, q3, q4, v, -, q5, q6⟩ := fades_eq hw h.2.1 (by omega) hp
          have d3 : (4 : Int32) ≤ nI 5 := by decide
          have d4 : ¬ (7 : Int32) ≤ nI 5 := by decide
          simp only [↓reduceIte, not_true_eq_false, not_false_eq_true, false_implies, true_implies, implies_true, true_and, and_true, and_self, eq_self, Bool.false_eq_true, kne_0_1, kne_0_2, kne_0_3, kne_0_4, kne_0_5, kne_0_6, kne_1_0, kne_1_2, kne_1_3, kne_1_4, kne_1_5, kne_1_6, kne_2_0, kne_2_1, kne_2_3, kne_2_4, kne_2_5, kne_2_6, kne_3_0, kne_3_1, kne_3_2, kne_3_4, kne_3_5, kne_3_6, kne_4_0, kne_4_1, kne_4_2, kne_4_3, kne_4_5, kne_4_6, kne_5_0, kne_5_1, kne_5_2, kne_5_3, kne_5_4, kne_5_6, kne_6_0, kne_6_1, kne_6_2, kne_6_3, kne_6_4, kne_6_5, keq_0, keq_1, keq_2, keq_3, keq_4, keq_5, keq_6, d3, d4, q1, q2, q5, q6]
          exact h.wf q3 q4
        · obtain ⟨q1, q2, q3, q4, v, -, q5, q6⟩ := costs_eq hw h.2.1 hp
          have d3 : (4 : Int32) ≤ nI 6 := by decide
          have d4 : ¬ (7 : Int32) ≤ nI 6 := by decide
          simp only [↓reduceIte, not_true_eq_false, not_false_eq_true, false_implies, true_implies, implies_true, true_and, and_true, and_self, eq_self, Bool.false_eq_true, kne_0_1, kne_0_2, kne_0_3, kne_0_4, kne_0_5, kne_0_6, kne_1_0, kne_1_2, kne_1_3, kne_1_4, kne_1_5, kne_1_6, kne_2_0, kne_2_1, kne_2_3, kne_2_4, kne_2_5, kne_2_6, kne_3_0, kne_3_1, kne_3_2, kne_3_4, kne_3_5, kne_3_6, kne_4_0, kne_4_1, kne_4_2, kne_4_3, kne_4_5, kne_4_6, kne_5_0, kne_5_1, kne_5_2, kne_5_3, kne_5_4, kne_5_6, kne_6_0, kne_6_1, kne_6_2, kne_6_3, kne_6_4, kne_6_5, keq_0, keq_1, keq_2, keq_3, keq_4, keq_5, keq_6, d3, d4, q1, q2, q5, q6]
          exact h.wf q3 q4
        · have d3 : (4 : Int32) ≤ nI 7 := by decide
          have d4 : (7 : Int32) ≤ nI 7 := by decide
          have d7 : nI 7 = 7 := rfl
          have z1 : ¬ nI 7 = 1 := by decide
          have z2 : ¬ nI 7 = 2 := by decide
          have z3 : ¬ nI 7 = 3 := by decide
          have z4 : ¬ nI 7 = 4 := by decide
          have z5 : ¬ nI 7 = 5 := by decide
          have z6 : ¬ nI 7 = 6 := by decide
          simp only [↓reduceIte, not_true_eq_false, not_false_eq_true, false_implies, true_implies, implies_true, true_and, and_true, and_self, eq_self, Bool.false_eq_true, z1, z2, z3, z4, z5, z6, d3, d4, eq_true d7, vp5, (bitsOf_eq _).2, (bitsOf_eq _).1, bitCount_eq, hw.2.2.2.2.2.2.2.1 p hp]
          exact h
end

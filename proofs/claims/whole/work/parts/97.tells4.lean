section
theorem lN6 : lN 6 = 6 := rfl
theorem ps_tells : PS_tells Rel := by
  intro τ ξ σ x v t h
  obtain ⟨m, y, hy, hw⟩ := h.1
  have m5 := hw.1
  obtain ⟨g1, g2, hsx⟩ := shc x
  obtain ⟨g, ho⟩ := onec (τ := τ) hw.1 hw.2.1.1 hw.2.1.2 v
  unfold gX5_tells oX5_tells_0 fX5_tells pX5_tells_0 gX6_tells oX6_tells_0 fX6_tells pX6_tells_0
  rcases hsx with ⟨a, b⟩ | ⟨a, b, s, hs, rfl, sc, vs⟩
  · simp only [↓reduceIte, not_true_eq_false, not_false_eq_true, false_implies, true_implies, implies_true, true_and, and_true, and_self, eq_self, Bool.false_eq_true, g1, g2, a, b]
    exact h
  · simp only [sc]
    rcases ho with ⟨o1, o2⟩ | ⟨o1, o2, p, hp, rfl⟩
    · simp only [↓reduceIte, not_true_eq_false, not_false_eq_true, false_implies, true_implies, implies_true, true_and, and_true, and_self, eq_self, Bool.false_eq_true, g1, g2, a, b, one_ne, g, o1, o2]
      exact h
    · rcases wic t (m := 6) (by decide) with ⟨c, e⟩ | ⟨c, e, j, hj, rfl⟩
      · have c : fX5_within t 6 = 0 := c
        have e : fX6_in t.toInt64 0 6 = 0 := e
        simp only [↓reduceIte, not_true_eq_false, not_false_eq_true, false_implies, true_implies, implies_true, true_and, and_true, and_self, eq_self, Bool.false_eq_true, g1, g2, a, b, one_ne, g, o1, o2, c, e]
        exact h
      · have c : fX5_within (nI j) 6 = 1 := c
        have e : fX6_in (nI j).toInt64 0 6 = 1 := e
        rcases miss_eq (h.2.2.2.2.2 s hs) with ⟨mi, i2⟩ | ⟨mi, i2⟩
        · simp only [↓reduceIte, not_true_eq_false, not_false_eq_true, false_implies, true_implies, implies_true, true_and, and_true, and_self, eq_self, Bool.false_eq_true, g1, g2, a, b, one_ne, g, o1, o2, c, e, vs, hs, mi, i2]
          exact h
        · rcases h.2.2.2.2.2 s hs with ⟨-, e2⟩ | ⟨k, z, hk, hz, i1, -, i3, i4, i5, i6⟩
          · rw [i2] at e2
            exact absurd e2 one_ne
          · by_cases z20 : z ≤ 20
            · have c20 : nI z ≤ 20 := nI_le (b := 20) z20 (by decide)
              have pc : (nI p).toNatClampNeg = p := nI_clamp (by omega)
              have vp5 : vp_in (nI p) 5 := vp_in_nI (by omega) (by decide)
              have sup : ∀ w0, gX4_become (xT ξ w0).2.1 (xT ξ w0).2.2.1 ∧ WR τ.length m y (oB4 w0 (fX4_become ξ.2.1 w0)) σ := fun w0 => by
                obtain ⟨b1, b2⟩ := become_eq ξ.2.1 w0
                exact ⟨b1, hw.lk b2⟩
              have n34 : ¬ (3 : Int32) = 4 := by decide
              have n14 : ¬ (1 : Int32) = 4 := by decide
              have n13 : ¬ (1 : Int32) = 3 := by decide
              have n24 : ¬ (2 : Int32) = 4 := by decide
              have n23 : ¬ (2 : Int32) = 3 := by decide
              have n21 : ¬ (2 : Int32) = 1 := by decide
              rcases (by omega : j = 0 ∨ j = 1 ∨ j = 2 ∨ j = 3 ∨ j = 4 ∨ j = 5 ∨ j = 6) with rfl | rfl | rfl | rfl | rfl | rfl | rfl
              · -- the first year otherwise
                obtain ⟨b1, b2⟩ := become_eq ξ.2.1 ξ.2.2.1
                obtain ⟨f1, f2, w', f3⟩ := first_c hy hs z20 hp (hw.lk b2) h.2.1 ξ i4 i6
                obtain ⟨r1, r2, r3⟩ := first_r hy hs z20 hp hw h.2.1 i5
                unfold oX5_tells_74 pX5_tells_74 pX5_tells_81 oX6_tells_66 pX6_tells_66 pX6_tells_76 pX6_tells_84
                simp only [↓reduceIte, not_true_eq_false, not_false_eq_true, false_implies, true_implies, implies_true, true_and, and_true, and_self, eq_self, Bool.false_eq_true, g1, g2, a, b, one_ne, g, o1, o2, c, e, vs, hs, mi, i2, i4, i5, c20, kne_0_1, kne_0_2, kne_0_3, kne_0_4, kne_0_5, kne_0_6, kne_1_0, kne_1_2, kne_1_3, kne_1_4, kne_1_5, kne_1_6, kne_2_0, kne_2_1, kne_2_3, kne_2_4, kne_2_5, kne_2_6, kne_3_0, kne_3_1, kne_3_2, kne_3_4, kne_3_5, kne_3_6, kne_4_0, kne_4_1, kne_4_2, kne_4_3, kne_4_5, kne_4_6, kne_5_0, kne_5_1, kne_5_2, kne_5_3, kne_5_4, kne_5_6, kne_6_0, kne_6_1, kne_6_2, kne_6_3, kne_6_4, kne_6_5, keq_0, keq_1, keq_2, keq_3, keq_4, keq_5, keq_6, b1, f1, f2, f3, r1, r2]
                exact h.zf r3 w'
              · -- kinds
                obtain ⟨t1, t2, -, -⟩ := told_4 hw hp (j := 3) (by decide) (by decide)
                have t1 : gX6_told σ (nI p) 3 := t1
                have t2 : fX6_told σ (nI p) 3 = (σ.2.2.1 10 (3 * p + 3 - 1), σ) := t2
                obtain ⟨R, w', σ', L1, L2, M1, M2, M3⟩ := tells_row (j := 3) (n := 6) (a3 := nI 1) hy hw h.2.1 hs z20 hp (by decide) (by decide) i4 i6 i5 (by decide) (by decide) (fun w0 v hv => by
                  unfold gX5_suppose oX5_suppose_0 fX5_suppose pX5_suppose_0 oX5_suppose_11 pX5_suppose_11
                  simp only [↓reduceIte, not_true_eq_false, not_false_eq_true, false_implies, true_implies, implies_true, true_and, and_true, and_self, eq_self, Bool.false_eq_true, kne_0_1, kne_0_2, kne_0_3, kne_0_4, kne_0_5, kne_0_6, kne_1_0, kne_1_2, kne_1_3, kne_1_4, kne_1_5, kne_1_6, kne_2_0, kne_2_1, kne_2_3, kne_2_4, kne_2_5, kne_2_6, kne_3_0, kne_3_1, kne_3_2, kne_3_4, kne_3_5, kne_3_6, kne_4_0, kne_4_1, kne_4_2, kne_4_3, kne_4_5, kne_4_6, kne_5_0, kne_5_1, kne_5_2, kne_5_3, kne_5_4, kne_5_6, kne_6_0, kne_6_1, kne_6_2, kne_6_3, kne_6_4, kne_6_5, keq_0, keq_1, keq_2, keq_3, keq_4, keq_5, keq_6, (sup w0).1, pc, vp5]
                  exact ⟨_, rfl, (sup w0).2.kind hp (by omega)⟩) (by
                  unfold fX5_suppositions pX5_suppositions_0
                  simp only [↓reduceIte, not_true_eq_false, not_false_eq_true, false_implies, true_implies, implies_true, true_and, and_true, and_self, eq_self, Bool.false_eq_true, kne_0_1, kne_0_2, kne_0_3, kne_0_4, kne_0_5, kne_0_6, kne_1_0, kne_1_2, kne_1_3, kne_1_4, kne_1_5, kne_1_6, kne_2_0, kne_2_1, kne_2_3, kne_2_4, kne_2_5, kne_2_6, kne_3_0, kne_3_1, kne_3_2, kne_3_4, kne_3_5, kne_3_6, kne_4_0, kne_4_1, kne_4_2, kne_4_3, kne_4_5, kne_4_6, kne_5_0, kne_5_1, kne_5_2, kne_5_3, kne_5_4, kne_5_6, kne_6_0, kne_6_1, kne_6_2, kne_6_3, kne_6_4, kne_6_5, keq_0, keq_1, keq_2, keq_3, keq_4, keq_5, keq_6]
                  rfl) (fun _ _ => by decide)
                have M1 : oX6_tells_175 σ (nI s) (nI p) (nI 1) 3 (σ.2.2.1 10 (3 * p + 3 - 1)) 5 := M1
                have M2 : pX6_tells_175 σ (nI s) (nI p) (nI 1) 3 (σ.2.2.1 10 (3 * p + 3 - 1)) 5 = (R, σ') := M2
                unfold pX5_tells_90 oX6_tells_113 pX6_tells_113 oX6_tells_135 pX6_tells_135
                simp only [↓reduceIte, not_true_eq_false, not_false_eq_true, false_implies, true_implies, implies_true, true_and, and_true, and_self, eq_self, Bool.false_eq_true, g1, g2, a, b, one_ne, g, o1, o2, c, e, vs, hs, mi, i2, i4, i5, c20, kne_0_1, kne_0_2, kne_0_3, kne_0_4, kne_0_5, kne_0_6, kne_1_0, kne_1_2, kne_1_3, kne_1_4, kne_1_5, kne_1_6, kne_2_0, kne_2_1, kne_2_3, kne_2_4, kne_2_5, kne_2_6, kne_3_0, kne_3_1, kne_3_2, kne_3_4, kne_3_5, kne_3_6, kne_4_0, kne_4_1, kne_4_2, kne_4_3, kne_4_5, kne_4_6, kne_5_0, kne_5_1, kne_5_2, kne_5_3, kne_5_4, kne_5_6, kne_6_0, kne_6_1, kne_6_2, kne_6_3, kne_6_4, kne_6_5, keq_0, keq_1, keq_2, keq_3, keq_4, keq_5, keq_6, L1, L2, t1, t2, n34, M1, M2]
                exact h.zf M3 w'
              · -- numbers
                obtain ⟨t1, t2, -, -⟩ := told_4 hw hp (j := 1) (by decide) (by decide)
                have t1 : gX6_told σ (nI p) 1 := t1
                have t2 : fX6_told σ (nI p) 1 = (σ.2.2.1 10 (3 * p + 1 - 1), σ) := t2
                obtain ⟨R, w', σ', L1, L2, M1, M2, M3⟩ := tells_row (j := 1) (n := 10) (a3 := nI 2) hy hw h.2.1 hs z20 hp (by decide) (by decide) i4 i6 i5 (by decide) (by decide) (fun w0 v hv => by
                  unfold gX5_suppose oX5_suppose_0 fX5_suppose pX5_suppose_0 oX5_suppose_11 pX5_suppose_11
                  simp only [↓reduceIte, not_true_eq_false, not_false_eq_true, false_implies, true_implies, implies_true, true_and, and_true, and_self, eq_self, Bool.false_eq_true, kne_0_1, kne_0_2, kne_0_3, kne_0_4, kne_0_5, kne_0_6, kne_1_0, kne_1_2, kne_1_3, kne_1_4, kne_1_5, kne_1_6, kne_2_0, kne_2_1, kne_2_3, kne_2_4, kne_2_5, kne_2_6, kne_3_0, kne_3_1, kne_3_2, kne_3_4, kne_3_5, kne_3_6, kne_4_0, kne_4_1, kne_4_2, kne_4_3, kne_4_5, kne_4_6, kne_5_0, kne_5_1, kne_5_2, kne_5_3, kne_5_4, kne_5_6, kne_6_0, kne_6_1, kne_6_2, kne_6_3, kne_6_4, kne_6_5, keq_0, keq_1, keq_2, keq_3, keq_4, keq_5, keq_6, (sup w0).1, pc, vp5]
                  exact ⟨_, rfl, (sup w0).2.numb hp (by omega)⟩) (by
                  unfold fX5_suppositions pX5_suppositions_0
                  simp only [↓reduceIte, not_true_eq_false, not_false_eq_true, false_implies, true_implies, implies_true, true_and, and_true, and_self, eq_self, Bool.false_eq_true, kne_0_1, kne_0_2, kne_0_3, kne_0_4, kne_0_5, kne_0_6, kne_1_0, kne_1_2, kne_1_3, kne_1_4, kne_1_5, kne_1_6, kne_2_0, kne_2_1, kne_2_3, kne_2_4, kne_2_5, kne_2_6, kne_3_0, kne_3_1, kne_3_2, kne_3_4, kne_3_5, kne_3_6, kne_4_0, kne_4_1, kne_4_2, kne_4_3, kne_4_5, kne_4_6, kne_5_0, kne_5_1, kne_5_2, kne_5_3, kne_5_4, kne_5_6, kne_6_0, kne_6_1, kne_6_2, kne_6_3, kne_6_4, kne_6_5, keq_0, keq_1, keq_2, keq_3, keq_4, keq_5, keq_6]
                  rfl) (fun _ _ => by decide)
                have M1 : oX6_tells_175 σ (nI s) (nI p) (nI 2) 1 (σ.2.2.1 10 (3 * p + 1 - 1)) 9 := M1
                have M2 : pX6_tells_175 σ (nI s) (nI p) (nI 2) 1 (σ.2.2.1 10 (3 * p + 1 - 1)) 9 = (R, σ') := M2
                unfold pX5_tells_90 oX6_tells_113 pX6_tells_113 oX6_tells_135 pX6_tells_135
                simp only [↓reduceIte, not_true_eq_false, not_false_eq_true, false_implies, true_implies, implies_true, true_and, and_true, and_self, eq_self, Bool.false_eq_true, g1, g2, a, b, one_ne, g, o1, o2, c, e, vs, hs, mi, i2, i4, i5, c20, kne_0_1, kne_0_2, kne_0_3, kne_0_4, kne_0_5, kne_0_6, kne_1_0, kne_1_2, kne_1_3, kne_1_4, kne_1_5, kne_1_6, kne_2_0, kne_2_1, kne_2_3, kne_2_4, kne_2_5, kne_2_6, kne_3_0, kne_3_1, kne_3_2, kne_3_4, kne_3_5, kne_3_6, kne_4_0, kne_4_1, kne_4_2, kne_4_3, kne_4_5, kne_4_6, kne_5_0, kne_5_1, kne_5_2, kne_5_3, kne_5_4, kne_5_6, kne_6_0, kne_6_1, kne_6_2, kne_6_3, kne_6_4, kne_6_5, keq_0, keq_1, keq_2, keq_3, keq_4, keq_5, keq_6, L1, L2, t1, t2, n14, n13, M1, M2]
                exact h.zf M3 w'
              · -- firmness, how many
                obtain ⟨t1, t2, -, -⟩ := told_4 hw hp (j := 2) (by decide) (by decide)
                have t1 : gX6_told σ (nI p) 2 := t1
                have t2 : fX6_told σ (nI p) 2 = (σ.2.2.1 10 (3 * p + 2 - 1), σ) := t2
                obtain ⟨R, w', σ', L1, L2, M1, M2, M3⟩ := tells_row (j := 2) (n := 100) (a3 := nI 3) hy hw h.2.1 hs z20 hp (by decide) (by decide) i4 i6 i5 (by decide) (by decide) (fun w0 v hv => by
                  unfold gX5_suppose oX5_suppose_0 fX5_suppose pX5_suppose_0 oX5_suppose_11 pX5_suppose_11 oX5_suppose_74 pX5_suppose_74
                  simp only [↓reduceIte, not_true_eq_false, not_false_eq_true, false_implies, true_implies, implies_true, true_and, and_true, and_self, eq_self, Bool.false_eq_true, kne_0_1, kne_0_2, kne_0_3, kne_0_4, kne_0_5, kne_0_6, kne_1_0, kne_1_2, kne_1_3, kne_1_4, kne_1_5, kne_1_6, kne_2_0, kne_2_1, kne_2_3, kne_2_4, kne_2_5, kne_2_6, kne_3_0, kne_3_1, kne_3_2, kne_3_4, kne_3_5, kne_3_6, kne_4_0, kne_4_1, kne_4_2, kne_4_3, kne_4_5, kne_4_6, kne_5_0, kne_5_1, kne_5_2, kne_5_3, kne_5_4, kne_5_6, kne_6_0, kne_6_1, kne_6_2, kne_6_3, kne_6_4, kne_6_5, keq_0, keq_1, keq_2, keq_3, keq_4, keq_5, keq_6, (sup w0).1, pc, vp5]
                  exact ⟨_, rfl, (sup w0).2.firm hp (by omega)⟩) (by
                  unfold fX5_suppositions pX5_suppositions_0
                  simp only [↓reduceIte, not_true_eq_false, not_false_eq_true, false_implies, true_implies, implies_true, true_and, and_true, and_self, eq_self, Bool.false_eq_true, kne_0_1, kne_0_2, kne_0_3, kne_0_4, kne_0_5, kne_0_6, kne_1_0, kne_1_2, kne_1_3, kne_1_4, kne_1_5, kne_1_6, kne_2_0, kne_2_1, kne_2_3, kne_2_4, kne_2_5, kne_2_6, kne_3_0, kne_3_1, kne_3_2, kne_3_4, kne_3_5, kne_3_6, kne_4_0, kne_4_1, kne_4_2, kne_4_3, kne_4_5, kne_4_6, kne_5_0, kne_5_1, kne_5_2, kne_5_3, kne_5_4, kne_5_6, kne_6_0, kne_6_1, kne_6_2, kne_6_3, kne_6_4, kne_6_5, keq_0, keq_1, keq_2, keq_3, keq_4, keq_5, keq_6]
                  rfl) (fun q _ => absurd rfl q)
                have M1 : oX6_tells_175 σ (nI s) (nI p) (nI 3) 2 (σ.2.2.1 10 (3 * p + 2 - 1)) 99 := M1
                have M2 : pX6_tells_175 σ (nI s) (nI p) (nI 3) 2 (σ.2.2.1 10 (3 * p + 2 - 1)) 99 = (R, σ') := M2
                unfold pX5_tells_90 oX6_tells_113 pX6_tells_113 oX6_tells_135 pX6_tells_135
                simp only [↓reduceIte, not_true_eq_false, not_false_eq_true, false_implies, true_implies, implies_true, true_and, and_true, and_self, eq_self, Bool.false_eq_true, g1, g2, a, b, one_ne, g, o1, o2, c, e, vs, hs, mi, i2, i4, i5, c20, kne_0_1, kne_0_2, kne_0_3, kne_0_4, kne_0_5, kne_0_6, kne_1_0, kne_1_2, kne_1_3, kne_1_4, kne_1_5, kne_1_6, kne_2_0, kne_2_1, kne_2_3, kne_2_4, kne_2_5, kne_2_6, kne_3_0, kne_3_1, kne_3_2, kne_3_4, kne_3_5, kne_3_6, kne_4_0, kne_4_1, kne_4_2, kne_4_3, kne_4_5, kne_4_6, kne_5_0, kne_5_1, kne_5_2, kne_5_3, kne_5_4, kne_5_6, kne_6_0, kne_6_1, kne_6_2, kne_6_3, kne_6_4, kne_6_5, keq_0, keq_1, keq_2, keq_3, keq_4, keq_5, keq_6, L1, L2, t1, t2, n24, n23, n21, M1, M2]
                exact h.zf M3 w'
              · -- firmness, the least
                obtain ⟨t1, t2, -, -⟩ := told_4 hw hp (j := 2) (by decide) (by decide)
                have t1 : gX6_told σ (nI p) 2 := t1
                have t2 : fX6_told σ (nI p) 2 = (σ.2.2.1 10 (3 * p + 2 - 1), σ) := t2
                obtain ⟨R, w', σ', L1, L2, M1, M2, M3⟩ := tells_row (j := 2) (n := 100) (a3 := nI 4) hy hw h.2.1 hs z20 hp (by decide) (by decide) i4 i6 i5 (by decide) (by decide) (fun w0 v hv => by
                  unfold gX5_suppose oX5_suppose_0 fX5_suppose pX5_suppose_0 oX5_suppose_11 pX5_suppose_11 oX5_suppose_74 pX5_suppose_74
                  simp only [↓reduceIte, not_true_eq_false, not_false_eq_true, false_implies, true_implies, implies_true, true_and, and_true, and_self, eq_self, Bool.false_eq_true, kne_0_1, kne_0_2, kne_0_3, kne_0_4, kne_0_5, kne_0_6, kne_1_0, kne_1_2, kne_1_3, kne_1_4, kne_1_5, kne_1_6, kne_2_0, kne_2_1, kne_2_3, kne_2_4, kne_2_5, kne_2_6, kne_3_0, kne_3_1, kne_3_2, kne_3_4, kne_3_5, kne_3_6, kne_4_0, kne_4_1, kne_4_2, kne_4_3, kne_4_5, kne_4_6, kne_5_0, kne_5_1, kne_5_2, kne_5_3, kne_5_4, kne_5_6, kne_6_0, kne_6_1, kne_6_2, kne_6_3, kne_6_4, kne_6_5, keq_0, keq_1, keq_2, keq_3, keq_4, keq_5, keq_6, (sup w0).1, pc, vp5]
                  exact ⟨_, rfl, (sup w0).2.firm hp (by omega)⟩) (by
                  unfold fX5_suppositions pX5_suppositions_0
                  simp only [↓reduceIte, not_true_eq_false, not_false_eq_true, false_implies, true_implies, implies_true, true_and, and_true, and_self, eq_self, Bool.false_eq_true, kne_0_1, kne_0_2, kne_0_3, kne_0_4, kne_0_5, kne_0_6, kne_1_0, kne_1_2, kne_1_3, kne_1_4, kne_1_5, kne_1_6, kne_2_0, kne_2_1, kne_2_3, kne_2_4, kne_2_5, kne_2_6, kne_3_0, kne_3_1, kne_3_2, kne_3_4, kne_3_5, kne_3_6, kne_4_0, kne_4_1, kne_4_2, kne_4_3, kne_4_5, kne_4_6, kne_5_0, kne_5_1, kne_5_2, kne_5_3, kne_5_4, kne_5_6, kne_6_0, kne_6_1, kne_6_2, kne_6_3, kne_6_4, kne_6_5, keq_0, keq_1, keq_2, keq_3, keq_4, keq_5, keq_6]
                  rfl) (fun _ q => absurd rfl q)
                have M1 : oX6_tells_175 σ (nI s) (nI p) (nI 4) 2 (σ.2.2.1 10 (3 * p + 2 - 1)) 99 := M1
                have M2 : pX6_tells_175 σ (nI s) (nI p) (nI 4) 2 (σ.2.2.1 10 (3 * p + 2 - 1)) 99 = (R, σ') := M2
                unfold pX5_tells_90 oX6_tells_113 pX6_tells_113 oX6_tells_135 pX6_tells_135
                simp only [↓reduceIte, not_true_eq_false, not_false_eq_true, false_implies, true_implies, implies_true, true_and, and_true, and_self, eq_self, Bool.false_eq_true, g1, g2, a, b, one_ne, g, o1, o2, c, e, vs, hs, mi, i2, i4, i5, c20, kne_0_1, kne_0_2, kne_0_3, kne_0_4, kne_0_5, kne_0_6, kne_1_0, kne_1_2, kne_1_3, kne_1_4, kne_1_5, kne_1_6, kne_2_0, kne_2_1, kne_2_3, kne_2_4, kne_2_5, kne_2_6, kne_3_0, kne_3_1, kne_3_2, kne_3_4, kne_3_5, kne_3_6, kne_4_0, kne_4_1, kne_4_2, kne_4_3, kne_4_5, kne_4_6, kne_5_0, kne_5_1, kne_5_2, kne_5_3, kne_5_4, kne_5_6, kne_6_0, kne_6_1, kne_6_2, kne_6_3, kne_6_4, kne_6_5, keq_0, keq_1, keq_2, keq_3, keq_4, keq_5, keq_6, L1, L2, t1, t2, n24, n23, n21, M1, M2]
                exact h.zf M3 w'
              · -- rules
                have hT := h.2.1
                have le6 := hT.1
                have el : ∀ σ' v, fX6_lays σ' 4 (nI p) v = oI σ' 4 v := fun σ' v => (lay_rule σ' _ v).2
                obtain ⟨R, w', σ', L1, L2, M1, M2, M3⟩ := tells_go (a4 := 4) (n := τ.length) (a3 := nI 5) (b := σ.1 4) (ξ := ξ) (σ := σ) hy hs z20 hp (by omega) (by decide) i4 i6 i5 (fun v => by
                  rw [el]
                  exact ⟨rfl, rfl, hT.move (oI_n _ _ (by decide)) rfl rfl⟩) (fun w0 v hv => by
                  rw [el]
                  unfold gX5_suppose oX5_suppose_0 fX5_suppose pX5_suppose_0 oX5_suppose_11 pX5_suppose_11
                  simp only [↓reduceIte, not_true_eq_false, not_false_eq_true, false_implies, true_implies, implies_true, true_and, and_true, and_self, eq_self, Bool.false_eq_true, kne_0_1, kne_0_2, kne_0_3, kne_0_4, kne_0_5, kne_0_6, kne_1_0, kne_1_2, kne_1_3, kne_1_4, kne_1_5, kne_1_6, kne_2_0, kne_2_1, kne_2_3, kne_2_4, kne_2_5, kne_2_6, kne_3_0, kne_3_1, kne_3_2, kne_3_4, kne_3_5, kne_3_6, kne_4_0, kne_4_1, kne_4_2, kne_4_3, kne_4_5, kne_4_6, kne_5_0, kne_5_1, kne_5_2, kne_5_3, kne_5_4, kne_5_6, kne_6_0, kne_6_1, kne_6_2, kne_6_3, kne_6_4, kne_6_5, keq_0, keq_1, keq_2, keq_3, keq_4, keq_5, keq_6, (sup w0).1, pc, vp5]
                  exact ⟨_, rfl, (sup w0).2.rule hv⟩) (fun σ' v => (lay_rule σ' _ v).1) (fun x v σ' => by
                  rw [el, el, el]
                  exact zf_rule v) (by rw [el]; exact zf_rule_id) (by
                  unfold fX5_suppositions pX5_suppositions_0
                  simp only [↓reduceIte, not_true_eq_false, not_false_eq_true, false_implies, true_implies, implies_true, true_and, and_true, and_self, eq_self, Bool.false_eq_true, kne_0_1, kne_0_2, kne_0_3, kne_0_4, kne_0_5, kne_0_6, kne_1_0, kne_1_2, kne_1_3, kne_1_4, kne_1_5, kne_1_6, kne_2_0, kne_2_1, kne_2_3, kne_2_4, kne_2_5, kne_2_6, kne_3_0, kne_3_1, kne_3_2, kne_3_4, kne_3_5, kne_3_6, kne_4_0, kne_4_1, kne_4_2, kne_4_3, kne_4_5, kne_4_6, kne_5_0, kne_5_1, kne_5_2, kne_5_3, kne_5_4, kne_5_6, kne_6_0, kne_6_1, kne_6_2, kne_6_3, kne_6_4, kne_6_5, keq_0, keq_1, keq_2, keq_3, keq_4, keq_5, keq_6]
                  exact h.2.2.1) (fun _ _ => by omega)
                have e3 : σ.1 3 - 1 = nI τ.length + -1 := by rw [hT.2.1]; exact Int32.sub_eq_add_neg _ _
                rw [← e3] at M1 M2
                unfold pX5_tells_90 oX6_tells_113 pX6_tells_113 oX6_tells_135 pX6_tells_135
                simp only [↓reduceIte, not_true_eq_false, not_false_eq_true, false_implies, true_implies, implies_true, true_and, and_true, and_self, eq_self, Bool.false_eq_true, g1, g2, a, b, one_ne, g, o1, o2, c, e, vs, hs, mi, i2, i4, i5, c20, kne_0_1, kne_0_2, kne_0_3, kne_0_4, kne_0_5, kne_0_6, kne_1_0, kne_1_2, kne_1_3, kne_1_4, kne_1_5, kne_1_6, kne_2_0, kne_2_1, kne_2_3, kne_2_4, kne_2_5, kne_2_6, kne_3_0, kne_3_1, kne_3_2, kne_3_4, kne_3_5, kne_3_6, kne_4_0, kne_4_1, kne_4_2, kne_4_3, kne_4_5, kne_4_6, kne_5_0, kne_5_1, kne_5_2, kne_5_3, kne_5_4, kne_5_6, kne_6_0, kne_6_1, kne_6_2, kne_6_3, kne_6_4, kne_6_5, keq_0, keq_1, keq_2, keq_3, keq_4, keq_5, keq_6, L1, L2, M1, M2]
                exact h.zf M3 w'
              · -- which ones
                obtain ⟨R, w', σ', L1, L2, M1, M2, M3⟩ := like_go hy hs z20 (nI p) hw h.2.1 i4 i6 i5
                unfold pX5_tells_90 oX6_tells_66 pX6_tells_66 pX6_tells_76 pX6_tells_84
                simp only [↓reduceIte, not_true_eq_false, not_false_eq_true, false_implies, true_implies, implies_true, true_and, and_true, and_self, eq_self, Bool.false_eq_true, g1, g2, a, b, one_ne, g, o1, o2, c, e, vs, hs, mi, i2, i4, i5, c20, kne_0_1, kne_0_2, kne_0_3, kne_0_4, kne_0_5, kne_0_6, kne_1_0, kne_1_2, kne_1_3, kne_1_4, kne_1_5, kne_1_6, kne_2_0, kne_2_1, kne_2_3, kne_2_4, kne_2_5, kne_2_6, kne_3_0, kne_3_1, kne_3_2, kne_3_4, kne_3_5, kne_3_6, kne_4_0, kne_4_1, kne_4_2, kne_4_3, kne_4_5, kne_4_6, kne_5_0, kne_5_1, kne_5_2, kne_5_3, kne_5_4, kne_5_6, kne_6_0, kne_6_1, kne_6_2, kne_6_3, kne_6_4, kne_6_5, keq_0, keq_1, keq_2, keq_3, keq_4, keq_5, keq_6, L1, L2, M1, M2]
                exact h.zf M3 w'
            · have c20 : ¬ nI z ≤ 20 := nI_ge (a := 20) (by omega) (by omega)
              simp only [↓reduceIte, not_true_eq_false, not_false_eq_true, false_implies, true_implies, implies_true, true_and, and_true, and_self, eq_self, Bool.false_eq_true, g1, g2, a, b, one_ne, g, o1, o2, c, e, vs, hs, mi, i2, i4, i5, c20]
              exact h
end

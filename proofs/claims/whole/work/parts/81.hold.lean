section
/-! HOLDS, FADES, COSTS, side by side -/
theorem holds_eq {τ : TX} {m y : Nat} {w σ : OS} (h : WR τ.length m y w σ) (hT : TXR τ σ) {p : Nat} (hp : p < m) : gX4_holds τ w (nI p) ∧ gX6_holdsOf σ (nI p) ∧ WF w (fX4_holds τ w (nI p)).2 ∧ XF σ (fX6_holdsOf σ (nI p)).2 ∧ ∃ x, x ≤ 64 ∧ (fX4_holds τ w (nI p)).1 = nI x ∧ (fX6_holdsOf σ (nI p)).1 = nI x := by
  obtain ⟨g1, g2, wf, xf, x, -, hx, e1, e2⟩ := tell_says h hT hp (i := 0) (by decide)
  have hx := hx (by decide)
  have h' := h.move wf xf
  obtain ⟨k, u, f, hk, hu, hf, ⟨b1, b1'⟩, ⟨b2, b2'⟩, ⟨b3, b3'⟩⟩ := h.2.2.2.2.2.2.1 p hp
  have pc : (nI p).toNatClampNeg = p := nI_clamp (by have := h.1; omega)
  have vp5 : vp_in (nI p) 5 := vp_in_nI (by have := h.1; omega) (by decide)
  obtain ⟨t1, t2, t3, t4, t5, t6, t7, t8, t9⟩ := three (p := p) (by have := h.1; omega)
  have r0 : ∀ w', WF w w' → w'.2.2.1 0 p = nI k ∧ w'.2.2.1 1 p = nI u ∧ w'.2.2.1 2 p = nI f ∧ w'.1 5 = nI y := fun w' hw => ⟨by rw [hw.2.2.1 0 (by decide) (by decide)]; exact b1, by rw [hw.2.2.1 1 (by decide) (by decide)]; exact b2, by rw [hw.2.2.1 2 (by decide) (by decide)]; exact b3, by rw [hw.1]; exact h.2.2.1.1⟩
  have s0 : ∀ s', XF σ s' → s'.2.2.1 10 (3 * p) = nI u ∧ s'.1 7 = nI y := fun s' hs => ⟨by rw [hs.2.2]; exact b2', (hs.1 7 (by omega)).trans h.2.2.1.2⟩
  have g2 : gX6_says σ 0 (nI p) := g2
  have g1 : gX4_tell τ (w.1 7).toNatClampNeg w (nI p) 0 := g1
  have wf : WF w (fX4_tell τ (w.1 7).toNatClampNeg w (nI p) 0).2 := wf
  have xf : XF σ (fX6_says σ 0 (nI p)).2 := xf
  have e1 : (fX4_tell τ (w.1 7).toNatClampNeg w (nI p) 0).1 = nI x := e1
  have e2 : (fX6_says σ 0 (nI p)).1 = nI x := e2
  unfold gX4_holds oX4_holds_0 fX4_holds pX4_holds_0 gX6_holdsOf oX6_holdsOf_0 fX6_holdsOf pX6_holdsOf_0 oX6_holdsOf_46 pX6_holdsOf_46
  simp only [e1, e2, t5, t6, b1', b3']
  generalize (fX4_tell τ (w.1 7).toNatClampNeg w (nI p) 0).2 = w' at *
  generalize (fX6_says σ 0 (nI p)).2 = s' at *
  obtain ⟨c1, c2, c3, c4⟩ := r0 w' wf
  obtain ⟨d1, d2⟩ := s0 s' xf
  unfold oX4_holds_6 pX4_holds_6 oX4_holds_23 pX4_holds_23 pX4_holds_113 pX4_holds_125 pX6_holdsOf_34 oX6_holdsOf_52 pX6_holdsOf_52 oX6_holdsOf_69 pX6_holdsOf_69 pX6_holdsOf_103 pX6_holdsOf_135 pX6_holdsOf_142
  simp only [c4, d2, pc, c1, c2, c3, t4, d1, add4_n, two_n]
  have J : ∀ b, b < 2 ^ 31 → jmin 64 (nI b) = nI (min 64 b) := fun b hb => jmin_n (a := 64) (by decide) hb
  have W : ∀ b, b < 2 ^ 31 → fX6_within (nI b) 0 64 = nI (min b 64) := fun b hb => win_n (M := 64) hb (by decide)
  have ST : ∀ b, b ≤ 103 → (if nI u ≤ nI (min b 64) then nI (min b 64) else nI u) = nI (max (min b 64) u) := by
    intro b hb
    by_cases c : u ≤ min b 64
    · rw [if_pos (nI_le c (by omega)), Nat.max_eq_left c]
    · rw [if_neg (nI_ge (by omega) (by omega)), Nat.max_eq_right (by omega)]
  have key : ∀ b, b ≤ 103 →
      (let A : Int32 × OS := if nI k = 1 then (jmin 64 (nI b), w') else if nI k = 2 then (jmin 64 (nI (2 * x)), w') else if nI k = 3 then (jmin 64 (jmax (nI b) (nI u)), w') else if nI k = 4 then (if nI f = 0 then (jmin 64 0, w') else (jmin 64 (nI (2 * x)), w')) else if nI k = 5 then (jmin 64 64, w') else (jmin 64 (nI x), w')
       let C : Int32 → Int32 × OS := fun z => if nI k = 1 then (fX6_within (fX6_within (nI b) 0 64) 0 64, s') else if nI k = 3 then (fX6_within z 0 64, s') else if nI k = 2 then (fX6_within (nI (2 * x)) 0 64, s') else if nI k = 4 then (fX6_within (nI (2 * x)) 0 64, s') else (fX6_within (nI x) 0 64, s')
       let E : Int32 × OS := if nI k = 5 then (if nI k = 5 then (64, σ) else (0, σ)) else if nI k = 4 then (if nI f = 0 then (if nI k = 5 then (64, σ) else (0, σ)) else (if nI u ≤ fX6_within (nI b) 0 64 then C (fX6_within (nI b) 0 64) else C (nI u))) else (if nI u ≤ fX6_within (nI b) 0 64 then C (fX6_within (nI b) 0 64) else C (nI u))
       WF w A.2 ∧ XF σ E.2 ∧ ∃ z, z ≤ 64 ∧ A.1 = nI z ∧ E.1 = nI z) := by
    intro b hb
    have hk6 : k = 0 ∨ k = 1 ∨ k = 2 ∨ k = 3 ∨ k = 4 ∨ k = 5 := by omega
    rw [W b (by omega)]
    have W2 : fX6_within (nI (min b 64)) 0 64 = nI (min b 64) := by rw [W _ (by omega)]; congr 1; omega
    have j0 : jmin 64 0 = 0 := by decide
    have j64 : jmin 64 64 = 64 := by decide
    rcases hk6 with rfl | rfl | rfl | rfl | rfl | rfl
    · simp only [↓reduceIte, not_true_eq_false, not_false_eq_true, false_implies, true_implies, implies_true, true_and, and_true, and_self, eq_self, Bool.false_eq_true, kne_0_1, kne_0_2, kne_0_3, kne_0_4, kne_0_5, kne_0_6, kne_1_0, kne_1_2, kne_1_3, kne_1_4, kne_1_5, kne_1_6, kne_2_0, kne_2_1, kne_2_3, kne_2_4, kne_2_5, kne_2_6, kne_3_0, kne_3_1, kne_3_2, kne_3_4, kne_3_5, kne_3_6, kne_4_0, kne_4_1, kne_4_2, kne_4_3, kne_4_5, kne_4_6, kne_5_0, kne_5_1, kne_5_2, kne_5_3, kne_5_4, kne_5_6, kne_6_0, kne_6_1, kne_6_2, kne_6_3, kne_6_4, kne_6_5, keq_0, keq_1, keq_2, keq_3, keq_4, keq_5, keq_6, ite_self, J x (by omega), W x (by omega)]
      exact ⟨wf, xf, min x 64, by omega, by congr 1; omega, rfl⟩
    · simp only [↓reduceIte, not_true_eq_false, not_false_eq_true, false_implies, true_implies, implies_true, true_and, and_true, and_self, eq_self, Bool.false_eq_true, kne_0_1, kne_0_2, kne_0_3, kne_0_4, kne_0_5, kne_0_6, kne_1_0, kne_1_2, kne_1_3, kne_1_4, kne_1_5, kne_1_6, kne_2_0, kne_2_1, kne_2_3, kne_2_4, kne_2_5, kne_2_6, kne_3_0, kne_3_1, kne_3_2, kne_3_4, kne_3_5, kne_3_6, kne_4_0, kne_4_1, kne_4_2, kne_4_3, kne_4_5, kne_4_6, kne_5_0, kne_5_1, kne_5_2, kne_5_3, kne_5_4, kne_5_6, kne_6_0, kne_6_1, kne_6_2, kne_6_3, kne_6_4, kne_6_5, keq_0, keq_1, keq_2, keq_3, keq_4, keq_5, keq_6, ite_self, J b (by omega), W2]
      exact ⟨wf, xf, min b 64, by omega, by congr 1; omega, rfl⟩
    · simp only [↓reduceIte, not_true_eq_false, not_false_eq_true, false_implies, true_implies, implies_true, true_and, and_true, and_self, eq_self, Bool.false_eq_true, kne_0_1, kne_0_2, kne_0_3, kne_0_4, kne_0_5, kne_0_6, kne_1_0, kne_1_2, kne_1_3, kne_1_4, kne_1_5, kne_1_6, kne_2_0, kne_2_1, kne_2_3, kne_2_4, kne_2_5, kne_2_6, kne_3_0, kne_3_1, kne_3_2, kne_3_4, kne_3_5, kne_3_6, kne_4_0, kne_4_1, kne_4_2, kne_4_3, kne_4_5, kne_4_6, kne_5_0, kne_5_1, kne_5_2, kne_5_3, kne_5_4, kne_5_6, kne_6_0, kne_6_1, kne_6_2, kne_6_3, kne_6_4, kne_6_5, keq_0, keq_1, keq_2, keq_3, keq_4, keq_5, keq_6, ite_self, J (2 * x) (by omega), W (2 * x) (by omega)]
      exact ⟨wf, xf, min (2 * x) 64, by omega, by congr 1; omega, rfl⟩
    · simp only [↓reduceIte, not_true_eq_false, not_false_eq_true, false_implies, true_implies, implies_true, true_and, and_true, and_self, eq_self, Bool.false_eq_true, kne_0_1, kne_0_2, kne_0_3, kne_0_4, kne_0_5, kne_0_6, kne_1_0, kne_1_2, kne_1_3, kne_1_4, kne_1_5, kne_1_6, kne_2_0, kne_2_1, kne_2_3, kne_2_4, kne_2_5, kne_2_6, kne_3_0, kne_3_1, kne_3_2, kne_3_4, kne_3_5, kne_3_6, kne_4_0, kne_4_1, kne_4_2, kne_4_3, kne_4_5, kne_4_6, kne_5_0, kne_5_1, kne_5_2, kne_5_3, kne_5_4, kne_5_6, kne_6_0, kne_6_1, kne_6_2, kne_6_3, kne_6_4, kne_6_5, keq_0, keq_1, keq_2, keq_3, keq_4, keq_5, keq_6, jmax_n (show b < 2 ^ 31 by omega) (show u < 2 ^ 31 by omega), J (max b u) (by omega)]
      refine ⟨wf, by split <;> exact xf, min (max b u) 64, by omega, by congr 1; omega, ?_⟩
      by_cases c : u ≤ min b 64
      · rw [if_pos (nI_le c (by omega)), W2]
        show nI _ = nI _
        congr 1; omega
      · rw [if_neg (nI_ge (by omega) (by omega)), W u (by omega)]
        show nI _ = nI _
        congr 1; omega
    · by_cases c : nI f = 0
      · simp only [↓reduceIte, not_true_eq_false, not_false_eq_true, false_implies, true_implies, implies_true, true_and, and_true, and_self, eq_self, Bool.false_eq_true, kne_0_1, kne_0_2, kne_0_3, kne_0_4, kne_0_5, kne_0_6, kne_1_0, kne_1_2, kne_1_3, kne_1_4, kne_1_5, kne_1_6, kne_2_0, kne_2_1, kne_2_3, kne_2_4, kne_2_5, kne_2_6, kne_3_0, kne_3_1, kne_3_2, kne_3_4, kne_3_5, kne_3_6, kne_4_0, kne_4_1, kne_4_2, kne_4_3, kne_4_5, kne_4_6, kne_5_0, kne_5_1, kne_5_2, kne_5_3, kne_5_4, kne_5_6, kne_6_0, kne_6_1, kne_6_2, kne_6_3, kne_6_4, kne_6_5, keq_0, keq_1, keq_2, keq_3, keq_4, keq_5, keq_6, c, j0]
        exact ⟨wf, XF.rfl' σ, 0, by omega, rfl⟩
      · simp only [↓reduceIte, not_true_eq_false, not_false_eq_true, false_implies, true_implies, implies_true, true_and, and_true, and_self, eq_self, Bool.false_eq_true, kne_0_1, kne_0_2, kne_0_3, kne_0_4, kne_0_5, kne_0_6, kne_1_0, kne_1_2, kne_1_3, kne_1_4, kne_1_5, kne_1_6, kne_2_0, kne_2_1, kne_2_3, kne_2_4, kne_2_5, kne_2_6, kne_3_0, kne_3_1, kne_3_2, kne_3_4, kne_3_5, kne_3_6, kne_4_0, kne_4_1, kne_4_2, kne_4_3, kne_4_5, kne_4_6, kne_5_0, kne_5_1, kne_5_2, kne_5_3, kne_5_4, kne_5_6, kne_6_0, kne_6_1, kne_6_2, kne_6_3, kne_6_4, kne_6_5, keq_0, keq_1, keq_2, keq_3, keq_4, keq_5, keq_6, c, ite_self, J (2 * x) (by omega), W (2 * x) (by omega)]
        exact ⟨wf, xf, min (2 * x) 64, by omega, by congr 1; omega, rfl⟩
    · simp only [↓reduceIte, not_true_eq_false, not_false_eq_true, false_implies, true_implies, implies_true, true_and, and_true, and_self, eq_self, Bool.false_eq_true, kne_0_1, kne_0_2, kne_0_3, kne_0_4, kne_0_5, kne_0_6, kne_1_0, kne_1_2, kne_1_3, kne_1_4, kne_1_5, kne_1_6, kne_2_0, kne_2_1, kne_2_3, kne_2_4, kne_2_5, kne_2_6, kne_3_0, kne_3_1, kne_3_2, kne_3_4, kne_3_5, kne_3_6, kne_4_0, kne_4_1, kne_4_2, kne_4_3, kne_4_5, kne_4_6, kne_5_0, kne_5_1, kne_5_2, kne_5_3, kne_5_4, kne_5_6, kne_6_0, kne_6_1, kne_6_2, kne_6_3, kne_6_4, kne_6_5, keq_0, keq_1, keq_2, keq_3, keq_4, keq_5, keq_6, j64]
      exact ⟨wf, XF.rfl' σ, 64, by omega, rfl⟩
  by_cases cy : (10 : Int32) ≤ nI y
  · simp only [↓reduceIte, not_true_eq_false, not_false_eq_true, false_implies, true_implies, implies_true, true_and, and_true, and_self, eq_self, Bool.false_eq_true, cy, vp5, g1, g2, t7, t8, t9]
    exact key x (by omega)
  · simp only [↓reduceIte, not_true_eq_false, not_false_eq_true, false_implies, true_implies, implies_true, true_and, and_true, and_self, eq_self, Bool.false_eq_true, cy, vp5, g1, g2, t7, t8, t9]
    exact key (x + 4) (by omega)
theorem fades_eq {τ : TX} {m y : Nat} {w σ : OS} (h : WR τ.length m y w σ) (hT : TXR τ σ) (hy : y < 2 ^ 30) {p : Nat} (hp : p < m) : gX4_fades τ w (nI p) ∧ gX6_fadesOf σ (nI p) ∧ WF w (fX4_fades τ w (nI p)).2 ∧ XF σ (fX6_fadesOf σ (nI p)).2 ∧ ∃ x, x ≤ 99 ∧ (fX4_fades τ w (nI p)).1 = nI x ∧ (fX6_fadesOf σ (nI p)).1 = nI x := by
  obtain ⟨g1, g2, wf, xf, x, -, hx, e1, e2⟩ := tell_says h hT hp (i := 1) (by decide)
  have hx := hx (by decide)
  obtain ⟨k, u, f, hk, hu, hf, ⟨b1, b1'⟩, ⟨b2, b2'⟩, ⟨b3, b3'⟩⟩ := h.2.2.2.2.2.2.1 p hp
  have pc : (nI p).toNatClampNeg = p := nI_clamp (by have := h.1; omega)
  have vp5 : vp_in (nI p) 5 := vp_in_nI (by have := h.1; omega) (by decide)
  obtain ⟨t1, t2, t3, t4, t5, t6, t7, t8, t9⟩ := three (p := p) (by have := h.1; omega)
  have y7 : σ.1 7 = nI y := h.2.2.1.2
  have r0 : ∀ w', WF w w' → w'.2.2.1 0 p = nI k ∧ w'.2.2.1 1 p = nI u ∧ w'.2.2.1 2 p = nI f ∧ w'.1 5 = nI y := fun w' hw => ⟨by rw [hw.2.2.1 0 (by decide) (by decide)]; exact b1, by rw [hw.2.2.1 1 (by decide) (by decide)]; exact b2, by rw [hw.2.2.1 2 (by decide) (by decide)]; exact b3, by rw [hw.1]; exact h.2.2.1.1⟩
  have s0 : ∀ s', XF σ s' → s'.2.2.1 10 (3 * p) = nI u := fun s' hs => by rw [hs.2.2]; exact b2'
  have g2 : gX6_says σ 1 (nI p) := g2
  have g1 : gX4_tell τ (w.1 7).toNatClampNeg w (nI p) 1 := g1
  have wf : WF w (fX4_tell τ (w.1 7).toNatClampNeg w (nI p) 1).2 := wf
  have xf : XF σ (fX6_says σ 1 (nI p)).2 := xf
  have e1 : (fX4_tell τ (w.1 7).toNatClampNeg w (nI p) 1).1 = nI x := e1
  have e2 : (fX6_says σ 1 (nI p)).1 = nI x := e2
  unfold gX4_fades oX4_fades_0 fX4_fades pX4_fades_0 gX6_fadesOf oX6_fadesOf_0 fX6_fadesOf pX6_fadesOf_0 oX6_fadesOf_32 pX6_fadesOf_32
  simp only [e1, e2, t6, b1', y7]
  generalize (fX4_tell τ (w.1 7).toNatClampNeg w (nI p) 1).2 = w' at *
  generalize (fX6_says σ 1 (nI p)).2 = s' at *
  obtain ⟨c1, c2, c3, c4⟩ := r0 w' wf
  have d1 := s0 s' xf
  unfold oX4_fades_6 pX4_fades_6 oX4_fades_21 pX4_fades_21 pX4_fades_103 pX4_fades_114 oX6_fadesOf_38 pX6_fadesOf_38 pX6_fadesOf_55 pX6_fadesOf_89 pX6_fadesOf_96
  simp only [c4, pc, c1, c2, t4, d1, half_n (show x < 2 ^ 31 by omega), odd_n (show y < 2 ^ 31 by omega)]
  have J : ∀ b, b < 2 ^ 31 → jmin 99 (nI b) = nI (min 99 b) := fun b hb => jmin_n (a := 99) (by decide) hb
  have W : ∀ b, b < 2 ^ 31 → fX6_within (nI b) 0 99 = nI (min b 99) := fun b hb => win_n (M := 99) hb (by decide)
  have key : ∀ b, b ≤ 99 →
      (let A : Int32 × OS := if nI k = 1 then (jmin 99 (nI b), w') else if nI k = 2 then (jmin 99 (nI (x / 2)), w') else if nI k = 3 then (jmin 99 (nI b + 1), w') else if nI k = 4 then (if nI (y % 2) = 1 then (jmin 99 (nI (x / 2)), w') else (jmin 99 0, w')) else if nI k = 5 then (jmin 99 0, w') else (jmin 99 (nI x), w')
       let C : Int32 × OS := if nI k = 1 then (fX6_within (nI b) 0 99, s') else if nI k = 3 then (fX6_within (nI b + 1) 0 99, s') else if nI k = 2 then (fX6_within (nI (x / 2)) 0 99, s') else if nI k = 4 then (fX6_within (nI (x / 2)) 0 99, s') else (fX6_within (nI x) 0 99, s')
       let E : Int32 × OS := if nI k = 5 then (0, σ) else if nI k = 4 then (if nI (y % 2) = 0 then (0, σ) else C) else C
       WF w A.2 ∧ XF σ E.2 ∧ ∃ z, z ≤ 99 ∧ A.1 = nI z ∧ E.1 = nI z) := by
    intro b hb
    have hk6 : k = 0 ∨ k = 1 ∨ k = 2 ∨ k = 3 ∨ k = 4 ∨ k = 5 := by omega
    have j0 : jmin 99 0 = 0 := by decide
    rcases hk6 with rfl | rfl | rfl | rfl | rfl | rfl
    · simp only [↓reduceIte, not_true_eq_false, not_false_eq_true, false_implies, true_implies, implies_true, true_and, and_true, and_self, eq_self, Bool.false_eq_true, kne_0_1, kne_0_2, kne_0_3, kne_0_4, kne_0_5, kne_0_6, kne_1_0, kne_1_2, kne_1_3, kne_1_4, kne_1_5, kne_1_6, kne_2_0, kne_2_1, kne_2_3, kne_2_4, kne_2_5, kne_2_6, kne_3_0, kne_3_1, kne_3_2, kne_3_4, kne_3_5, kne_3_6, kne_4_0, kne_4_1, kne_4_2, kne_4_3, kne_4_5, kne_4_6, kne_5_0, kne_5_1, kne_5_2, kne_5_3, kne_5_4, kne_5_6, kne_6_0, kne_6_1, kne_6_2, kne_6_3, kne_6_4, kne_6_5, keq_0, keq_1, keq_2, keq_3, keq_4, keq_5, keq_6, J x (by omega), W x (by omega)]
      exact ⟨wf, xf, min x 99, by omega, by congr 1; omega, rfl⟩
    · simp only [↓reduceIte, not_true_eq_false, not_false_eq_true, false_implies, true_implies, implies_true, true_and, and_true, and_self, eq_self, Bool.false_eq_true, kne_0_1, kne_0_2, kne_0_3, kne_0_4, kne_0_5, kne_0_6, kne_1_0, kne_1_2, kne_1_3, kne_1_4, kne_1_5, kne_1_6, kne_2_0, kne_2_1, kne_2_3, kne_2_4, kne_2_5, kne_2_6, kne_3_0, kne_3_1, kne_3_2, kne_3_4, kne_3_5, kne_3_6, kne_4_0, kne_4_1, kne_4_2, kne_4_3, kne_4_5, kne_4_6, kne_5_0, kne_5_1, kne_5_2, kne_5_3, kne_5_4, kne_5_6, kne_6_0, kne_6_1, kne_6_2, kne_6_3, kne_6_4, kne_6_5, keq_0, keq_1, keq_2, keq_3, keq_4, keq_5, keq_6, J b (by omega), W b (by omega)]
      exact ⟨wf, xf, min b 99, by omega, by congr 1; omega, rfl⟩
    · simp only [↓reduceIte, not_true_eq_false, not_false_eq_true, false_implies, true_implies, implies_true, true_and, and_true, and_self, eq_self, Bool.false_eq_true, kne_0_1, kne_0_2, kne_0_3, kne_0_4, kne_0_5, kne_0_6, kne_1_0, kne_1_2, kne_1_3, kne_1_4, kne_1_5, kne_1_6, kne_2_0, kne_2_1, kne_2_3, kne_2_4, kne_2_5, kne_2_6, kne_3_0, kne_3_1, kne_3_2, kne_3_4, kne_3_5, kne_3_6, kne_4_0, kne_4_1, kne_4_2, kne_4_3, kne_4_5, kne_4_6, kne_5_0, kne_5_1, kne_5_2, kne_5_3, kne_5_4, kne_5_6, kne_6_0, kne_6_1, kne_6_2, kne_6_3, kne_6_4, kne_6_5, keq_0, keq_1, keq_2, keq_3, keq_4, keq_5, keq_6, J (x / 2) (by omega), W (x / 2) (by omega)]
      exact ⟨wf, xf, min (x / 2) 99, by omega, by congr 1; omega, rfl⟩
    · simp only [↓reduceIte, not_true_eq_false, not_false_eq_true, false_implies, true_implies, implies_true, true_and, and_true, and_self, eq_self, Bool.false_eq_true, kne_0_1, kne_0_2, kne_0_3, kne_0_4, kne_0_5, kne_0_6, kne_1_0, kne_1_2, kne_1_3, kne_1_4, kne_1_5, kne_1_6, kne_2_0, kne_2_1, kne_2_3, kne_2_4, kne_2_5, kne_2_6, kne_3_0, kne_3_1, kne_3_2, kne_3_4, kne_3_5, kne_3_6, kne_4_0, kne_4_1, kne_4_2, kne_4_3, kne_4_5, kne_4_6, kne_5_0, kne_5_1, kne_5_2, kne_5_3, kne_5_4, kne_5_6, kne_6_0, kne_6_1, kne_6_2, kne_6_3, kne_6_4, kne_6_5, keq_0, keq_1, keq_2, keq_3, keq_4, keq_5, keq_6, nI_1, J (b + 1) (by omega), W (b + 1) (by omega)]
      exact ⟨wf, xf, min (b + 1) 99, by omega, by congr 1; omega, rfl⟩
    · rcases (by omega : y % 2 = 0 ∨ y % 2 = 1) with c | c
      · rw [c]
        simp only [↓reduceIte, not_true_eq_false, not_false_eq_true, false_implies, true_implies, implies_true, true_and, and_true, and_self, eq_self, Bool.false_eq_true, kne_0_1, kne_0_2, kne_0_3, kne_0_4, kne_0_5, kne_0_6, kne_1_0, kne_1_2, kne_1_3, kne_1_4, kne_1_5, kne_1_6, kne_2_0, kne_2_1, kne_2_3, kne_2_4, kne_2_5, kne_2_6, kne_3_0, kne_3_1, kne_3_2, kne_3_4, kne_3_5, kne_3_6, kne_4_0, kne_4_1, kne_4_2, kne_4_3, kne_4_5, kne_4_6, kne_5_0, kne_5_1, kne_5_2, kne_5_3, kne_5_4, kne_5_6, kne_6_0, kne_6_1, kne_6_2, kne_6_3, kne_6_4, kne_6_5, keq_0, keq_1, keq_2, keq_3, keq_4, keq_5, keq_6, j0]
        exact ⟨wf, XF.rfl' σ, 0, by omega, rfl⟩
      · rw [c]
        simp only [↓reduceIte, not_true_eq_false, not_false_eq_true, false_implies, true_implies, implies_true, true_and, and_true, and_self, eq_self, Bool.false_eq_true, kne_0_1, kne_0_2, kne_0_3, kne_0_4, kne_0_5, kne_0_6, kne_1_0, kne_1_2, kne_1_3, kne_1_4, kne_1_5, kne_1_6, kne_2_0, kne_2_1, kne_2_3, kne_2_4, kne_2_5, kne_2_6, kne_3_0, kne_3_1, kne_3_2, kne_3_4, kne_3_5, kne_3_6, kne_4_0, kne_4_1, kne_4_2, kne_4_3, kne_4_5, kne_4_6, kne_5_0, kne_5_1, kne_5_2, kne_5_3, kne_5_4, kne_5_6, kne_6_0, kne_6_1, kne_6_2, kne_6_3, kne_6_4, kne_6_5, keq_0, keq_1, keq_2, keq_3, keq_4, keq_5, keq_6, J (x / 2) (by omega), W (x / 2) (by omega)]
        exact ⟨wf, xf, min (x / 2) 99, by omega, by congr 1; omega, rfl⟩
    · simp only [↓reduceIte, not_true_eq_false, not_false_eq_true, false_implies, true_implies, implies_true, true_and, and_true, and_self, eq_self, Bool.false_eq_true, kne_0_1, kne_0_2, kne_0_3, kne_0_4, kne_0_5, kne_0_6, kne_1_0, kne_1_2, kne_1_3, kne_1_4, kne_1_5, kne_1_6, kne_2_0, kne_2_1, kne_2_3, kne_2_4, kne_2_5, kne_2_6, kne_3_0, kne_3_1, kne_3_2, kne_3_4, kne_3_5, kne_3_6, kne_4_0, kne_4_1, kne_4_2, kne_4_3, kne_4_5, kne_4_6, kne_5_0, kne_5_1, kne_5_2, kne_5_3, kne_5_4, kne_5_6, kne_6_0, kne_6_1, kne_6_2, kne_6_3, kne_6_4, kne_6_5, keq_0, keq_1, keq_2, keq_3, keq_4, keq_5, keq_6, j0]
      exact ⟨wf, XF.rfl' σ, 0, by omega, rfl⟩
  by_cases cu : nI u = 0
  · simp only [↓reduceIte, not_true_eq_false, not_false_eq_true, false_implies, true_implies, implies_true, true_and, and_true, and_self, eq_self, Bool.false_eq_true, cu, vp5, g1, g2, t7, t9]
    exact key 0 (by omega)
  · simp only [↓reduceIte, not_true_eq_false, not_false_eq_true, false_implies, true_implies, implies_true, true_and, and_true, and_self, eq_self, Bool.false_eq_true, cu, vp5, g1, g2, t7, t9]
    exact key x hx
theorem costs_eq {τ : TX} {m y : Nat} {w σ : OS} (h : WR τ.length m y w σ) (hT : TXR τ σ) {p : Nat} (hp : p < m) : gX4_costs τ w (nI p) ∧ gX6_costsOf σ (nI p) ∧ WF w (fX4_costs τ w (nI p)).2 ∧ XF σ (fX6_costsOf σ (nI p)).2 ∧ ∃ x, x ≤ 999 ∧ (fX4_costs τ w (nI p)).1 = nI x ∧ (fX6_costsOf σ (nI p)).1 = nI x := by
  obtain ⟨g1, g2, wf, xf, x, hx, -, e1, e2⟩ := tell_says h hT hp (i := 2) (by decide)
  obtain ⟨k, u, f, hk, hu, hf, ⟨b1, b1'⟩, ⟨b2, b2'⟩, ⟨b3, b3'⟩⟩ := h.2.2.2.2.2.2.1 p hp
  have pc : (nI p).toNatClampNeg = p := nI_clamp (by have := h.1; omega)
  have vp5 : vp_in (nI p) 5 := vp_in_nI (by have := h.1; omega) (by decide)
  obtain ⟨t1, t2, t3, t4, t5, t6, t7, t8, t9⟩ := three (p := p) (by have := h.1; omega)
  have r0 : ∀ w', WF w w' → w'.2.2.1 0 p = nI k ∧ w'.2.2.1 1 p = nI u := fun w' hw => ⟨by rw [hw.2.2.1 0 (by decide) (by decide)]; exact b1, by rw [hw.2.2.1 1 (by decide) (by decide)]; exact b2⟩
  have s0 : ∀ s', XF σ s' → s'.2.2.1 10 (3 * p) = nI u := fun s' hs => by rw [hs.2.2]; exact b2'
  have g2 : gX6_says σ 2 (nI p) := g2
  have g1 : gX4_tell τ (w.1 7).toNatClampNeg w (nI p) 2 := g1
  have wf : WF w (fX4_tell τ (w.1 7).toNatClampNeg w (nI p) 2).2 := wf
  have xf : XF σ (fX6_says σ 2 (nI p)).2 := xf
  have e1 : (fX4_tell τ (w.1 7).toNatClampNeg w (nI p) 2).1 = nI x := e1
  have e2 : (fX6_says σ 2 (nI p)).1 = nI x := e2
  unfold gX4_costs oX4_costs_0 fX4_costs pX4_costs_0 gX6_costsOf oX6_costsOf_0 fX6_costsOf pX6_costsOf_0
  simp only [e1, e2, t6, b1']
  generalize (fX4_tell τ (w.1 7).toNatClampNeg w (nI p) 2).2 = w' at *
  generalize (fX6_says σ 2 (nI p)).2 = s' at *
  obtain ⟨c1, c2⟩ := r0 w' wf
  have d1 := s0 s' xf
  unfold oX4_costs_6 pX4_costs_6 pX4_costs_60 pX4_costs_88 oX6_costsOf_24 pX6_costsOf_24 pX6_costsOf_54 pX6_costsOf_83
  simp only [pc, c1, c2, t4, d1, half_n (show x < 2 ^ 31 by omega), nI_add, two_n]
  have J : ∀ b, b < 2 ^ 31 → jmin 999 (nI b) = nI (min 999 b) := fun b hb => jmin_n (a := 999) (by decide) hb
  have W : ∀ b, b < 2 ^ 31 → fX6_within (nI b) 0 999 = nI (min b 999) := fun b hb => win_n (M := 999) hb (by decide)
  have hk6 : k = 0 ∨ k = 1 ∨ k = 2 ∨ k = 3 ∨ k = 4 ∨ k = 5 := by omega
  have j0 : jmin 999 0 = 0 := by decide
  rcases hk6 with rfl | rfl | rfl | rfl | rfl | rfl
  · simp only [↓reduceIte, not_true_eq_false, not_false_eq_true, false_implies, true_implies, implies_true, true_and, and_true, and_self, eq_self, Bool.false_eq_true, kne_0_1, kne_0_2, kne_0_3, kne_0_4, kne_0_5, kne_0_6, kne_1_0, kne_1_2, kne_1_3, kne_1_4, kne_1_5, kne_1_6, kne_2_0, kne_2_1, kne_2_3, kne_2_4, kne_2_5, kne_2_6, kne_3_0, kne_3_1, kne_3_2, kne_3_4, kne_3_5, kne_3_6, kne_4_0, kne_4_1, kne_4_2, kne_4_3, kne_4_5, kne_4_6, kne_5_0, kne_5_1, kne_5_2, kne_5_3, kne_5_4, kne_5_6, kne_6_0, kne_6_1, kne_6_2, kne_6_3, kne_6_4, kne_6_5, keq_0, keq_1, keq_2, keq_3, keq_4, keq_5, keq_6, vp5, g1, g2, t7, t9, J x (by omega), W x (by omega)]
    exact ⟨wf, xf, min x 999, by omega, by congr 1; omega, rfl⟩
  · simp only [↓reduceIte, not_true_eq_false, not_false_eq_true, false_implies, true_implies, implies_true, true_and, and_true, and_self, eq_self, Bool.false_eq_true, kne_0_1, kne_0_2, kne_0_3, kne_0_4, kne_0_5, kne_0_6, kne_1_0, kne_1_2, kne_1_3, kne_1_4, kne_1_5, kne_1_6, kne_2_0, kne_2_1, kne_2_3, kne_2_4, kne_2_5, kne_2_6, kne_3_0, kne_3_1, kne_3_2, kne_3_4, kne_3_5, kne_3_6, kne_4_0, kne_4_1, kne_4_2, kne_4_3, kne_4_5, kne_4_6, kne_5_0, kne_5_1, kne_5_2, kne_5_3, kne_5_4, kne_5_6, kne_6_0, kne_6_1, kne_6_2, kne_6_3, kne_6_4, kne_6_5, keq_0, keq_1, keq_2, keq_3, keq_4, keq_5, keq_6, vp5, g1, g2, t7, t9, J (x / 2) (by omega), W (x / 2) (by omega)]
    exact ⟨wf, xf, min (x / 2) 999, by omega, by congr 1; omega, rfl⟩
  · simp only [↓reduceIte, not_true_eq_false, not_false_eq_true, false_implies, true_implies, implies_true, true_and, and_true, and_self, eq_self, Bool.false_eq_true, kne_0_1, kne_0_2, kne_0_3, kne_0_4, kne_0_5, kne_0_6, kne_1_0, kne_1_2, kne_1_3, kne_1_4, kne_1_5, kne_1_6, kne_2_0, kne_2_1, kne_2_3, kne_2_4, kne_2_5, kne_2_6, kne_3_0, kne_3_1, kne_3_2, kne_3_4, kne_3_5, kne_3_6, kne_4_0, kne_4_1, kne_4_2, kne_4_3, kne_4_5, kne_4_6, kne_5_0, kne_5_1, kne_5_2, kne_5_3, kne_5_4, kne_5_6, kne_6_0, kne_6_1, kne_6_2, kne_6_3, kne_6_4, kne_6_5, keq_0, keq_1, keq_2, keq_3, keq_4, keq_5, keq_6, vp5, g1, g2, t7, t9, J (x + u) (by omega), W (x + u) (by omega), W (min (x + u) 999) (by omega)]
    exact ⟨wf, xf, min (x + u) 999, by omega, by congr 1; omega, by congr 1; omega⟩
  · simp only [↓reduceIte, not_true_eq_false, not_false_eq_true, false_implies, true_implies, implies_true, true_and, and_true, and_self, eq_self, Bool.false_eq_true, kne_0_1, kne_0_2, kne_0_3, kne_0_4, kne_0_5, kne_0_6, kne_1_0, kne_1_2, kne_1_3, kne_1_4, kne_1_5, kne_1_6, kne_2_0, kne_2_1, kne_2_3, kne_2_4, kne_2_5, kne_2_6, kne_3_0, kne_3_1, kne_3_2, kne_3_4, kne_3_5, kne_3_6, kne_4_0, kne_4_1, kne_4_2, kne_4_3, kne_4_5, kne_4_6, kne_5_0, kne_5_1, kne_5_2, kne_5_3, kne_5_4, kne_5_6, kne_6_0, kne_6_1, kne_6_2, kne_6_3, kne_6_4, kne_6_5, keq_0, keq_1, keq_2, keq_3, keq_4, keq_5, keq_6, vp5, g1, g2, t7, t9, J (x / 2) (by omega), W (x / 2) (by omega)]
    exact ⟨wf, xf, min (x / 2) 999, by omega, by congr 1; omega, rfl⟩
  · simp only [↓reduceIte, not_true_eq_false, not_false_eq_true, false_implies, true_implies, implies_true, true_and, and_true, and_self, eq_self, Bool.false_eq_true, kne_0_1, kne_0_2, kne_0_3, kne_0_4, kne_0_5, kne_0_6, kne_1_0, kne_1_2, kne_1_3, kne_1_4, kne_1_5, kne_1_6, kne_2_0, kne_2_1, kne_2_3, kne_2_4, kne_2_5, kne_2_6, kne_3_0, kne_3_1, kne_3_2, kne_3_4, kne_3_5, kne_3_6, kne_4_0, kne_4_1, kne_4_2, kne_4_3, kne_4_5, kne_4_6, kne_5_0, kne_5_1, kne_5_2, kne_5_3, kne_5_4, kne_5_6, kne_6_0, kne_6_1, kne_6_2, kne_6_3, kne_6_4, kne_6_5, keq_0, keq_1, keq_2, keq_3, keq_4, keq_5, keq_6, vp5, g1, g2, t7, t9, J (2 * (x + u)) (by omega), W (x + u) (by omega), two_n, W (2 * min (x + u) 999) (by omega)]
    exact ⟨wf, xf, min (2 * (x + u)) 999, by omega, by congr 1; omega, by congr 1; omega⟩
  · simp only [↓reduceIte, not_true_eq_false, not_false_eq_true, false_implies, true_implies, implies_true, true_and, and_true, and_self, eq_self, Bool.false_eq_true, kne_0_1, kne_0_2, kne_0_3, kne_0_4, kne_0_5, kne_0_6, kne_1_0, kne_1_2, kne_1_3, kne_1_4, kne_1_5, kne_1_6, kne_2_0, kne_2_1, kne_2_3, kne_2_4, kne_2_5, kne_2_6, kne_3_0, kne_3_1, kne_3_2, kne_3_4, kne_3_5, kne_3_6, kne_4_0, kne_4_1, kne_4_2, kne_4_3, kne_4_5, kne_4_6, kne_5_0, kne_5_1, kne_5_2, kne_5_3, kne_5_4, kne_5_6, kne_6_0, kne_6_1, kne_6_2, kne_6_3, kne_6_4, kne_6_5, keq_0, keq_1, keq_2, keq_3, keq_4, keq_5, keq_6, vp5, g1, t9, j0]
    exact ⟨wf, XF.rfl' σ, 0, by omega, rfl⟩
end

section
/-! steps: the image, sheets -/
/-- the reference's world as far as it is asked -/
theorem WR.ref {N m y : Nat} {w σ r : OS} (h : WR N m y w σ) (h12 : r.1 12 = σ.1 12) (h7 : r.1 7 = σ.1 7) (h8 : r.1 8 = σ.1 8) (h4 : r.1 4 = σ.1 4) (h9 : r.2.1 9 = σ.2.1 9) (hr : ∀ i, i < 15 → r.2.2.1 10 i = σ.2.2.1 10 i) (hp : ∀ p, p < 5 → r.2.2.2 11 p = σ.2.2.2 11 p) : WR N m y w r := by
  obtain ⟨a1, a2, a3, a4, a5, a6, a7, a8, a9⟩ := h
  refine ⟨a1, by rw [h12]; exact a2, by rw [h7]; exact a3, by rw [h8]; exact a4, by rw [h4]; exact a5, by rw [h9]; exact a6, fun p hp' => ?_, fun p hp' => by rw [hp p (by omega)]; exact a8 p hp', by rw [h9]; exact a9.cong (fun p hp' => hp p (by omega))⟩
  unfold RW
  rw [hr _ (by omega), hr _ (by omega), hr _ (by omega)]
  exact a7 p hp'
/-- the image made -/
def IF (σ r : OS) : Prop := (∀ j, ¬ (32 ≤ j ∧ j ≤ 35) → r.1 j = σ.1 j) ∧ (r.1 32 = σ.1 12 ∧ r.1 33 = σ.1 7 ∧ r.1 34 = σ.1 8 ∧ r.1 35 = σ.1 4) ∧ (∀ j, ¬ j = 36 → r.2.1 j = σ.2.1 j) ∧ r.2.1 36 = σ.2.1 9 ∧ (∀ k, ¬ k = 30 → r.2.2.1 k = σ.2.2.1 k) ∧ (∀ k, ¬ k = 31 → r.2.2.2 k = σ.2.2.2 k) ∧ (∀ i, i < 15 → r.2.2.1 30 i = σ.2.2.1 10 i) ∧ ∀ p, p < 5 → r.2.2.2 31 p = σ.2.2.2 11 p
theorem image_eq (σ : OS) : gX6_image σ ∧ (fX6_image σ).1 = σ.1 12 ∧ IF σ (fX6_image σ).2 := by
  have I2 : ∀ r : OS, r.1 = σ.1 → r.2.1 = σ.2.1 → (∀ k, ¬ k = 30 → r.2.2.1 k = σ.2.2.1 k) → (∀ k, ¬ k = 31 → r.2.2.2 k = σ.2.2.2 k) → (∀ i, i < 15 → r.2.2.1 30 i = σ.2.2.1 10 i) → lpOk kX6_image_28 fu (r, 0) ∧ ((lp (0, o0) bX6_image_28 fu (r, 0)).1 = σ.1 12 ∧ IF σ (lp (0, o0) bX6_image_28 fu (r, 0)).2) := by
    intro r0 h1 h2 h3 h4 h5
    refine lp_one (d := ((0 : Int32), o0)) (body := bX6_image_28) (ok := kX6_image_28) (fun k v => ∃ t r, v = (r, nI t) ∧ t + k = 5 ∧ r.1 = σ.1 ∧ r.2.1 = σ.2.1 ∧ (∀ k, ¬ k = 30 → r.2.2.1 k = σ.2.2.1 k) ∧ (∀ k, ¬ k = 31 → r.2.2.2 k = σ.2.2.2 k) ∧ (∀ i, i < 15 → r.2.2.1 30 i = σ.2.2.1 10 i) ∧ ∀ p, p < t → r.2.2.2 31 p = σ.2.2.2 11 p) (fun r => r.1 = σ.1 12 ∧ IF σ r.2) ?_ fu 5 (r0, 0) ⟨0, r0, rfl, by omega, h1, h2, h3, h4, h5, fun p hp => by omega⟩ (by decide)
    rintro k v ⟨t, r, rfl, ht, h1, h2, h3, h4, h5, h6⟩ kR kO hk
    unfold bX6_image_28 kX6_image_28
    simp only [nI_clamp (show t < 2 ^ 31 by omega), nI_1]
    by_cases e0 : t < 5
    · have c1 : ¬ (5 : Int32) ≤ nI t := nI_ge (b := 5) e0 (by decide)
      simp only [↓reduceIte, not_true_eq_false, not_false_eq_true, false_implies, true_implies, implies_true, true_and, and_true, and_self, eq_self, Bool.false_eq_true, c1, vp_in_nI (show t < 5 by omega) (by decide)]
      refine hk (k - 1) _ (by omega) ⟨t + 1, _, rfl, by omega, h1, h2, h3, fun k hk => (oT_n _ _ _ hk).trans (h4 k hk), h5, fun p hp => ?_⟩
      rw [oT_row]
      by_cases e : p = t
      · subst e
        rw [uL_s, h4 11 (by decide)]
      · rw [uL_n _ _ e]
        exact h6 p (by omega)
    · have c1 : (5 : Int32) ≤ nI t := nI_le (a := 5) (by omega) (by omega)
      simp only [↓reduceIte, not_true_eq_false, not_false_eq_true, false_implies, true_implies, implies_true, true_and, and_true, and_self, eq_self, Bool.false_eq_true, c1]
      have e : ∀ X : OS, X = oL (oI (oI (oI (oI r 32 (r.1 12)) 33 (r.1 7)) 34 (r.1 8)) 35 (r.1 4)) 36 (r.2.1 9) → X.1 12 = σ.1 12 ∧ IF σ X := by
        rintro X rfl
        have j12 : (oL (oI (oI (oI (oI r 32 (r.1 12)) 33 (r.1 7)) 34 (r.1 8)) 35 (r.1 4)) 36 (r.2.1 9)).1 12 = r.1 12 := rfl
        refine ⟨j12.trans (by rw [h1]), fun j hj => ?_, ⟨?_, ?_, ?_, ?_⟩, fun j hj => ?_, ?_, h3, h4, h5, fun p hp => h6 p (by omega)⟩
        · show (oI (oI (oI (oI r 32 (r.1 12)) 33 (r.1 7)) 34 (r.1 8)) 35 (r.1 4)).1 j = _
          rw [oI_n _ _ (by omega), oI_n _ _ (by omega), oI_n _ _ (by omega), oI_n _ _ (by omega), h1]
        · show r.1 12 = _; rw [h1]
        · show r.1 7 = _; rw [h1]
        · show r.1 8 = _; rw [h1]
        · show r.1 4 = _; rw [h1]
        · show va_up r.2.1 36 (r.2.1 9) j = _
          rw [up_n _ _ hj, h2]
        · show r.2.1 9 = _; rw [h2]
      exact e _ rfl
  refine lp_one (d := ((0 : Int32), o0)) (body := bX6_image_2) (ok := kX6_image_2) (fun k v => ∃ t r, v = (r, nI t) ∧ t + k = 15 ∧ r.1 = σ.1 ∧ r.2.1 = σ.2.1 ∧ (∀ k, ¬ k = 30 → r.2.2.1 k = σ.2.2.1 k) ∧ (∀ k, ¬ k = 31 → r.2.2.2 k = σ.2.2.2 k) ∧ (∀ i, i < t → r.2.2.1 30 i = σ.2.2.1 10 i)) (fun r => r.1 = σ.1 12 ∧ IF σ r.2) ?_ fu 15 (σ, 0) ⟨0, σ, rfl, by omega, rfl, rfl, fun _ _ => rfl, fun _ _ => rfl, fun i hi => by omega⟩ (by decide)
  rintro k v ⟨t, r, rfl, ht, h1, h2, h3, h4, h5⟩ kR kO hk
  unfold bX6_image_2 kX6_image_2
  simp only [nI_clamp (show t < 2 ^ 31 by omega), nI_1]
  by_cases e0 : t < 15
  · have c1 : ¬ (15 : Int32) ≤ nI t := nI_ge (b := 15) e0 (by decide)
    simp only [↓reduceIte, not_true_eq_false, not_false_eq_true, false_implies, true_implies, implies_true, true_and, and_true, and_self, eq_self, Bool.false_eq_true, c1, vp_in_nI (show t < 15 by omega) (by decide)]
    refine hk (k - 1) _ (by omega) ⟨t + 1, _, rfl, by omega, h1, h2, fun k hk => (up_n _ _ hk).trans (h3 k hk), h4, fun i hi => ?_⟩
    rw [oS_row]
    by_cases e : i = t
    · subst e
      rw [ud_s, h3 10 (by decide)]
    · rw [ud_n _ _ e]
      exact h5 i (by omega)
  · have c1 : (15 : Int32) ≤ nI t := nI_le (a := 15) (by omega) (by omega)
    have := I2 r h1 h2 h3 h4 (fun i hi => h5 i (by omega))
    simp only [↓reduceIte, not_true_eq_false, not_false_eq_true, false_implies, true_implies, implies_true, true_and, and_true, and_self, eq_self, Bool.false_eq_true, c1, this.1]
    exact this.2
theorem ps_image : PS_image Rel := by
  intro τ ξ σ h
  obtain ⟨m, y, hy, hw⟩ := h.1
  obtain ⟨g1, e1, i1, i2, i3, i4, i5, i6, i7, i8⟩ := image_eq σ
  obtain ⟨b1, b2⟩ := become_eq ξ.2.1 ξ.2.2.2.1
  refine ⟨b1, g1, ?_, ?_⟩
  · show ξ.2.1.1 4 = _
    rw [e1, hw.2.1.1, hw.2.1.2]
  · generalize (fX6_image σ).2 = r at *
    have W1 : WR τ.length m y ξ.2.1 r := hw.ref (i1 12 (by omega)) (i1 7 (by omega)) (i1 8 (by omega)) (i1 4 (by omega)) (i3 9 (by decide)) (fun i _ => by rw [i5 10 (by decide)]) (fun p _ => by rw [i6 11 (by decide)])
    have W2 : WR τ.length m y (oB4 ξ.2.2.2.1 (fX4_become ξ.2.1 ξ.2.2.2.1)) (kep r) := (hw.ref (r := kep r) i2.1 i2.2.1 i2.2.2.1 i2.2.2.2 i4 i7 i8).lk b2
    obtain ⟨-, hT, hc, hP, hK, hS⟩ := h
    refine ⟨⟨m, y, hy, W1⟩, hT.move (i1 3 (by omega)) (i5 1 (by decide)) (i5 2 (by decide)), hc, ?_, Or.inr ⟨rfl, m, y, hy, W2⟩, fun s hs => (hS s hs).move (i5 37 (by decide)) (i5 38 (by decide)) (i5 39 (by decide)) (i5 40 (by decide))⟩
    show TP ξ.2.2.2.2.1 r
    unfold TP
    rw [i1 6 (by omega), i5 5 (by decide)]
    exact hP
/-- the image laid back -/
theorem ibk_eq (σ : OS) (hne : ¬ σ.1 32 = -1) : gX6_back σ ∧ (fX6_back σ).1 = σ.1 32 ∧ OF σ (fX6_back σ).2 ∧ ((fX6_back σ).2.1 12 = σ.1 32 ∧ (fX6_back σ).2.1 7 = σ.1 33 ∧ (fX6_back σ).2.1 8 = σ.1 34 ∧ (fX6_back σ).2.1 4 = σ.1 35) ∧ (fX6_back σ).2.2.1 9 = σ.2.1 36 ∧ (∀ i, i < 15 → (fX6_back σ).2.2.2.1 10 i = σ.2.2.1 30 i) ∧ ∀ p, p < 5 → (fX6_back σ).2.2.2.2 11 p = σ.2.2.2 31 p := by
  unfold gX6_back oX6_back_0 fX6_back pX6_back_0
  rw [if_neg hne]
  have I2 : ∀ r : OS, r.1 = σ.1 → r.2.1 = σ.2.1 → (∀ k, ¬ k = 10 → r.2.2.1 k = σ.2.2.1 k) → (∀ k, ¬ k = 11 → r.2.2.2 k = σ.2.2.2 k) → (∀ i, i < 15 → r.2.2.1 10 i = σ.2.2.1 30 i) → lpOk kX6_back_39 fu (r, 0) ∧ ((lp (0, o0) bX6_back_39 fu (r, 0)).1 = σ.1 32 ∧ OF σ (lp (0, o0) bX6_back_39 fu (r, 0)).2 ∧ ((lp (0, o0) bX6_back_39 fu (r, 0)).2.1 12 = σ.1 32 ∧ (lp (0, o0) bX6_back_39 fu (r, 0)).2.1 7 = σ.1 33 ∧ (lp (0, o0) bX6_back_39 fu (r, 0)).2.1 8 = σ.1 34 ∧ (lp (0, o0) bX6_back_39 fu (r, 0)).2.1 4 = σ.1 35) ∧ (lp (0, o0) bX6_back_39 fu (r, 0)).2.2.1 9 = σ.2.1 36 ∧ (∀ i, i < 15 → (lp (0, o0) bX6_back_39 fu (r, 0)).2.2.2.1 10 i = σ.2.2.1 30 i) ∧ ∀ p, p < 5 → (lp (0, o0) bX6_back_39 fu (r, 0)).2.2.2.2 11 p = σ.2.2.2 31 p) := by
    intro r0 h1 h2 h3 h4 h5
    refine lp_one (d := ((0 : Int32), o0)) (body := bX6_back_39) (ok := kX6_back_39) (fun k v => ∃ t r, v = (r, nI t) ∧ t + k = 5 ∧ r.1 = σ.1 ∧ r.2.1 = σ.2.1 ∧ (∀ k, ¬ k = 10 → r.2.2.1 k = σ.2.2.1 k) ∧ (∀ k, ¬ k = 11 → r.2.2.2 k = σ.2.2.2 k) ∧ (∀ i, i < 15 → r.2.2.1 10 i = σ.2.2.1 30 i) ∧ ∀ p, p < t → r.2.2.2 11 p = σ.2.2.2 31 p) (fun r => r.1 = σ.1 32 ∧ OF σ r.2 ∧ (r.2.1 12 = σ.1 32 ∧ r.2.1 7 = σ.1 33 ∧ r.2.1 8 = σ.1 34 ∧ r.2.1 4 = σ.1 35) ∧ r.2.2.1 9 = σ.2.1 36 ∧ (∀ i, i < 15 → r.2.2.2.1 10 i = σ.2.2.1 30 i) ∧ ∀ p, p < 5 → r.2.2.2.2 11 p = σ.2.2.2 31 p) ?_ fu 5 (r0, 0) ⟨0, r0, rfl, by omega, h1, h2, h3, h4, h5, fun p hp => by omega⟩ (by decide)
    rintro k v ⟨t, r, rfl, ht, h1, h2, h3, h4, h5, h6⟩ kR kO hk
    unfold bX6_back_39 kX6_back_39
    simp only [nI_clamp (show t < 2 ^ 31 by omega), nI_1]
    by_cases e0 : t < 5
    · have c1 : ¬ (5 : Int32) ≤ nI t := nI_ge (b := 5) e0 (by decide)
      simp only [↓reduceIte, not_true_eq_false, not_false_eq_true, false_implies, true_implies, implies_true, true_and, and_true, and_self, eq_self, Bool.false_eq_true, c1, vp_in_nI (show t < 5 by omega) (by decide)]
      refine hk (k - 1) _ (by omega) ⟨t + 1, _, rfl, by omega, h1, h2, h3, fun k hk => (oT_n _ _ _ hk).trans (h4 k hk), h5, fun p hp => ?_⟩
      rw [oT_row]
      by_cases e : p = t
      · subst e
        rw [uL_s, h4 31 (by decide)]
      · rw [uL_n _ _ e]
        exact h6 p (by omega)
    · have c1 : (5 : Int32) ≤ nI t := nI_le (a := 5) (by omega) (by omega)
      simp only [↓reduceIte, not_true_eq_false, not_false_eq_true, false_implies, true_implies, implies_true, true_and, and_true, and_self, eq_self, Bool.false_eq_true, c1]
      have e : ∀ X : OS, X = oL (oI (oI (oI (oI r 12 (r.1 32)) 7 (r.1 33)) 8 (r.1 34)) 4 (r.1 35)) 9 (r.2.1 36) → X.1 12 = σ.1 32 ∧ OF σ X ∧ (X.1 12 = σ.1 32 ∧ X.1 7 = σ.1 33 ∧ X.1 8 = σ.1 34 ∧ X.1 4 = σ.1 35) ∧ X.2.1 9 = σ.2.1 36 ∧ (∀ i, i < 15 → X.2.2.1 10 i = σ.2.2.1 30 i) ∧ ∀ p, p < 5 → X.2.2.2 11 p = σ.2.2.2 31 p := by
        rintro X rfl
        have j12 : r.1 32 = σ.1 32 := by rw [h1]
        refine ⟨j12, ⟨by rw [← h1]; rfl, by rw [← h1]; rfl, fun j a b => ?_, ?_, fun k hk => h3 k (by omega), h4 31 (by decide)⟩, ⟨j12, ?_, ?_, ?_⟩, ?_, h5, fun p hp => h6 p (by omega)⟩
        · show (oI (oI (oI (oI r 12 (r.1 32)) 7 (r.1 33)) 8 (r.1 34)) 4 (r.1 35)).1 j = _
          rw [oI_n _ _ (by omega), oI_n _ _ (by omega), oI_n _ _ (by omega), oI_n _ _ (by omega), h1]
        · show r.2.1 36 = _; rw [h2]
        · show r.1 33 = _; rw [h1]
        · show r.1 34 = _; rw [h1]
        · show r.1 35 = _; rw [h1]
        · show r.2.1 36 = _; rw [h2]
      exact e _ rfl
  have L := lp_one (d := ((0 : Int32), o0)) (body := bX6_back_13) (ok := kX6_back_13) (fun k v => ∃ t r, v = (r, nI t) ∧ t + k = 15 ∧ r.1 = σ.1 ∧ r.2.1 = σ.2.1 ∧ (∀ k, ¬ k = 10 → r.2.2.1 k = σ.2.2.1 k) ∧ (∀ k, ¬ k = 11 → r.2.2.2 k = σ.2.2.2 k) ∧ (∀ i, i < t → r.2.2.1 10 i = σ.2.2.1 30 i)) (fun r => r.1 = σ.1 32 ∧ OF σ r.2 ∧ (r.2.1 12 = σ.1 32 ∧ r.2.1 7 = σ.1 33 ∧ r.2.1 8 = σ.1 34 ∧ r.2.1 4 = σ.1 35) ∧ r.2.2.1 9 = σ.2.1 36 ∧ (∀ i, i < 15 → r.2.2.2.1 10 i = σ.2.2.1 30 i) ∧ ∀ p, p < 5 → r.2.2.2.2 11 p = σ.2.2.2 31 p) (by
    rintro k v ⟨t, r, rfl, ht, h1, h2, h3, h4, h5⟩ kR kO hk
    unfold bX6_back_13 kX6_back_13
    simp only [nI_clamp (show t < 2 ^ 31 by omega), nI_1]
    by_cases e0 : t < 15
    · have c1 : ¬ (15 : Int32) ≤ nI t := nI_ge (b := 15) e0 (by decide)
      simp only [↓reduceIte, not_true_eq_false, not_false_eq_true, false_implies, true_implies, implies_true, true_and, and_true, and_self, eq_self, Bool.false_eq_true, c1, vp_in_nI (show t < 15 by omega) (by decide)]
      refine hk (k - 1) _ (by omega) ⟨t + 1, _, rfl, by omega, h1, h2, fun k hk => (up_n _ _ hk).trans (h3 k hk), h4, fun i hi => ?_⟩
      rw [oS_row]
      by_cases e : i = t
      · subst e
        rw [ud_s, h3 30 (by decide)]
      · rw [ud_n _ _ e]
        exact h5 i (by omega)
    · have c1 : (15 : Int32) ≤ nI t := nI_le (a := 15) (by omega) (by omega)
      have := I2 r h1 h2 h3 h4 (fun i hi => h5 i (by omega))
      simp only [↓reduceIte, not_true_eq_false, not_false_eq_true, false_implies, true_implies, implies_true, true_and, and_true, and_self, eq_self, Bool.false_eq_true, c1, this.1]
      exact this.2) fu 15 (σ, 0) ⟨0, σ, rfl, by omega, rfl, rfl, fun _ _ => rfl, fun _ _ => rfl, fun i hi => by omega⟩ (by decide)
  exact ⟨⟨fun h => absurd h hne, fun _ => L.1⟩, L.2⟩
theorem ps_back : PS_back Rel := by
  intro τ ξ σ h
  obtain ⟨h1, h2, h3, h4, hK, h6⟩ := id h
  unfold gX5_back oX5_back_0 fX5_back pX5_back_0 pX5_back_21
  rcases hK with ⟨k1, k2⟩ | ⟨k1, m, y, hy, hw⟩
  · unfold gX6_back oX6_back_0 fX6_back pX6_back_0
    simp only [↓reduceIte, not_true_eq_false, not_false_eq_true, false_implies, true_implies, implies_true, true_and, and_true, and_self, eq_self, Bool.false_eq_true, k1, k2]
    exact h
  · have e12 : σ.1 32 = nI m := hw.2.1.2
    have hne : ¬ σ.1 32 = -1 := by rw [e12]; exact nI_ne_m1 (by have := hw.1; omega)
    obtain ⟨g1, e1, o1, ⟨q1, q2, q3, q4⟩, q5, q6, q7⟩ := ibk_eq σ hne
    obtain ⟨b1, b2⟩ := become_eq ξ.2.2.2.1 ξ.2.1
    have W : WR τ.length m y (oB4 ξ.2.1 (fX4_become ξ.2.2.2.1 ξ.2.1)) (fX6_back σ).2 := (hw.lk b2).ref q1 q2 q3 q4 q5 q6 q7
    have W4 : (xN ξ (oB4 ξ.2.1 (fX4_become ξ.2.2.2.1 ξ.2.1))).2.1.1 4 = nI m := W.2.1.1
    simp only [↓reduceIte, not_true_eq_false, not_false_eq_true, false_implies, true_implies, implies_true, true_and, and_true, and_self, eq_self, Bool.false_eq_true, k1, one_ne, b1, g1, W4, e1, e12]
    exact h.world ⟨m, y, hy, W⟩ o1 rfl rfl
/-- sheets -/
theorem shc (x : Int32) : gX5_isSheet x ∧ gX6_isSheet x ∧ ((fX5_isSheet x = 0 ∧ fX6_isSheet x = 0) ∨ (fX5_isSheet x = 1 ∧ fX6_isSheet x = 1 ∧ ∃ s, s < 4 ∧ x = nI s ∧ x.toNatClampNeg = s ∧ vp_in x 4)) := by
  refine ⟨wi_nb _ _, in_nb _ _ _, ?_⟩
  rcases wic x (m := 3) (by decide) with ⟨a, b⟩ | ⟨a, b, j, hj, rfl⟩
  · exact Or.inl ⟨a, b⟩
  · exact Or.inr ⟨a, b, j, by omega, rfl, nI_clamp (by omega), vp_in_nI (by omega) (by decide)⟩
theorem Rel.sheet {τ : TX} {ξ : XS} {σ σ' : OS} (h : Rel τ ξ σ) {s : Nat} {x : OS} (hx : SHR x s σ') (h1 : σ'.1 = σ.1) (h2 : σ'.2.1 = σ.2.1) (h3 : ∀ k, ¬ (37 ≤ k ∧ k ≤ 40) → σ'.2.2.1 k = σ.2.2.1 k) (h4 : σ'.2.2.2 = σ.2.2.2) (ho : ∀ r, r < 4 → ¬ r = s → SHR (ξ.2.2.2.2.2 r) r σ') : Rel τ (xS ξ s x) σ' := by
  obtain ⟨⟨m, y, hy, hw⟩, b, c, d, e, f⟩ := h
  refine ⟨⟨m, y, hy, hw.ref (by rw [h1]) (by rw [h1]) (by rw [h1]) (by rw [h1]) (by rw [h2]) (fun i _ => by rw [h3 10 (by omega)]) (fun p _ => by rw [h4])⟩, b.move (by rw [h1]) (h3 1 (by omega)) (h3 2 (by omega)), c, ?_, ?_, fun r hr => ?_⟩
  · show TP ξ.2.2.2.2.1 σ'
    unfold TP
    rw [h1, h3 5 (by omega)]
    exact d
  · have e1 : KR τ.length (xS ξ s x) σ' = KR τ.length ξ σ' := rfl
    rw [e1]
    unfold KR
    rw [kep_eq (fun j _ _ => by rw [h1]) (by rw [h2]) (h3 30 (by omega)) (by rw [h4]), h1]
    exact e
  · show SHR (va_up ξ.2.2.2.2.2 s x r) r σ'
    by_cases q : r = s
    · subst q; rw [up_s]; exact hx
    · rw [up_n _ _ q]; exact ho r hr q
theorem fill_eq (x : OS) : gJ7_fill_53178 x 0 ∧ ∀ i, i < 40 → (fJ7_fill_53178 x 0).2.2.1 0 i = 0 := by
  unfold gJ7_fill_53178 oJ7_fill_53178_0 fJ7_fill_53178 pJ7_fill_53178_0
  refine lp_one (d := o0) (body := bJ7_fill_53178_5 0 40) (ok := kJ7_fill_53178_5 0 40) (fun k v => ∃ t r, v = (r, nI t) ∧ t + k = 40 ∧ ∀ i, i < t → r.2.2.1 0 i = 0) (fun r => ∀ i, i < 40 → r.2.2.1 0 i = 0) ?_ fu 40 (x, 0) ⟨0, x, rfl, by omega, fun i hi => by omega⟩ (by decide)
  rintro k v ⟨t, r, rfl, ht, hr⟩ kR kO hk
  unfold bJ7_fill_53178_5 kJ7_fill_53178_5
  simp only [nI_clamp (show t < 2 ^ 31 by omega), nI_1]
  by_cases e0 : t < 40
  · have c1 : ¬ (40 : Int32) ≤ nI t := nI_ge (b := 40) e0 (by decide)
    simp only [↓reduceIte, not_true_eq_false, not_false_eq_true, false_implies, true_implies, implies_true, true_and, and_true, and_self, eq_self, Bool.false_eq_true, c1, vp_in_nI e0 (by decide)]
    refine hk (k - 1) _ (by omega) ⟨t + 1, _, rfl, by omega, fun i hi => ?_⟩
    rw [oS_row]
    by_cases e : i = t
    · subst e; exact ud_s _ _ _
    · rw [ud_n _ _ e]; exact hr i (by omega)
  · have c1 : (40 : Int32) ≤ nI t := nI_le (a := 40) (by omega) (by omega)
    simp only [↓reduceIte, not_true_eq_false, not_false_eq_true, false_implies, true_implies, implies_true, true_and, and_true, and_self, eq_self, Bool.false_eq_true, c1]
    exact fun i hi => hr i (by omega)
theorem sbe_eq (x : OS) (a b : Int32) : gX1_become x a b ∧ (fX1_become x a b).1 1 = a ∧ (fX1_become x a b).1 2 = b ∧ ∀ i, i < 40 → (fX1_become x a b).2.2.1 0 i = 0 := by
  obtain ⟨g, e⟩ := fill_eq (oI (oI x 1 a) 2 b)
  unfold gX1_become oX1_become_0 fX1_become pX1_become_0 pX1_become_18
  generalize (fJ7_fill_53178 (oI (oI x 1 a) 2 b) 0).2.2.1 0 = row at *
  exact ⟨g, rfl, rfl, e⟩
end

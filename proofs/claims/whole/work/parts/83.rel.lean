section
/-! the relation of both; years in thought, laid back -/
def LK (w r : OS) : Prop := (r.1 4 = w.1 4 ∧ r.1 5 = w.1 5 ∧ r.1 6 = w.1 6 ∧ r.1 7 = w.1 7) ∧ r.2.1 8 = w.2.1 8 ∧ ∀ p, p < 5 → r.2.2.1 0 p = w.2.2.1 0 p ∧ r.2.2.1 1 p = w.2.2.1 1 p ∧ r.2.2.1 2 p = w.2.2.1 2 p ∧ r.2.2.2 3 p = w.2.2.2 3 p
theorem WR.lk {N m y : Nat} {w σ r : OS} (h : WR N m y w σ) (k : LK w r) : WR N m y r σ := by
  obtain ⟨a1, a2, a3, a4, a5, a6, a7, a8, a9⟩ := h
  obtain ⟨⟨k4, k5, k6, k7⟩, k8, kr⟩ := k
  refine ⟨a1, by rw [k4]; exact a2, by rw [k5]; exact a3, by rw [k6]; exact a4, by rw [k7]; exact a5, by rw [k8]; exact a6, fun p hp => ?_, fun p hp => by rw [(kr p (by omega)).2.2.2]; exact a8 p hp, a9⟩
  unfold RW
  rw [(kr p (by omega)).1, (kr p (by omega)).2.1, (kr p (by omega)).2.2.1]
  exact a7 p hp
theorem become_eq (w o : OS) : gX4_become w o ∧ LK w (oB4 o (fX4_become w o)) := by
  have L := lp_one (d := o0) (body := bX4_become_2 w) (ok := kX4_become_2 w) (fun k v => ∃ t r, v = (r, nI t) ∧ t + k = 5 ∧ ∀ p, p < t → r.2.2.1 0 p = w.2.2.1 0 p ∧ r.2.2.1 1 p = w.2.2.1 1 p ∧ r.2.2.1 2 p = w.2.2.1 2 p ∧ r.2.2.2 3 p = w.2.2.2 3 p) (fun r => LK w r) (by
    rintro k v ⟨t, r, rfl, ht, hr⟩ kR kO hk
    unfold bX4_become_2 kX4_become_2
    simp only [nI_clamp (show t < 2 ^ 31 by omega), nI_1]
    by_cases e0 : t < 5
    · have c1 : ¬ (5 : Int32) ≤ nI t := nI_ge (b := 5) e0 (by decide)
      simp only [↓reduceIte, not_true_eq_false, not_false_eq_true, false_implies, true_implies, implies_true, true_and, and_true, and_self, eq_self, Bool.false_eq_true, c1, vp_in_nI (show t < 5 by omega) (by decide)]
      refine hk (k - 1) _ (by omega) ⟨t + 1, _, rfl, by omega, fun p hp => ?_⟩
      have e0' : (oT (oS (oS (oS r 0 t (w.2.2.1 0 t)) 1 t (w.2.2.1 1 t)) 2 t (w.2.2.1 2 t)) 3 t (w.2.2.2 3 t)).2.2.1 0 = upd (r.2.2.1 0) t (w.2.2.1 0 t) := rfl
      have e1' : (oT (oS (oS (oS r 0 t (w.2.2.1 0 t)) 1 t (w.2.2.1 1 t)) 2 t (w.2.2.1 2 t)) 3 t (w.2.2.2 3 t)).2.2.1 1 = upd (r.2.2.1 1) t (w.2.2.1 1 t) := rfl
      have e2' : (oT (oS (oS (oS r 0 t (w.2.2.1 0 t)) 1 t (w.2.2.1 1 t)) 2 t (w.2.2.1 2 t)) 3 t (w.2.2.2 3 t)).2.2.1 2 = upd (r.2.2.1 2) t (w.2.2.1 2 t) := rfl
      have e3' : (oT (oS (oS (oS r 0 t (w.2.2.1 0 t)) 1 t (w.2.2.1 1 t)) 2 t (w.2.2.1 2 t)) 3 t (w.2.2.2 3 t)).2.2.2 3 = vp_updL (r.2.2.2 3) t (w.2.2.2 3 t) := rfl
      rw [e0', e1', e2', e3']
      by_cases e : p = t
      · subst e
        exact ⟨ud_s _ _ _, ud_s _ _ _, ud_s _ _ _, uL_s _ _ _⟩
      · have := hr p (by omega)
        exact ⟨(ud_n _ _ e).trans this.1, (ud_n _ _ e).trans this.2.1, (ud_n _ _ e).trans this.2.2.1, (uL_n _ _ e).trans this.2.2.2⟩
    · have c1 : (5 : Int32) ≤ nI t := nI_le (a := 5) (by omega) (by omega)
      simp only [↓reduceIte, not_true_eq_false, not_false_eq_true, false_implies, true_implies, implies_true, true_and, and_true, and_self, eq_self, Bool.false_eq_true, c1]
      exact ⟨⟨rfl, rfl, rfl, rfl⟩, rfl, fun p hp => hr p (by omega)⟩) fu 5 (o, 0) ⟨0, o, rfl, by omega, fun p hp => by omega⟩ (by decide)
  exact ⟨L.1, L.2⟩
/-- laid aside -/
def AF (σ r : OS) : Prop := r.1 = σ.1 ∧ r.2.1 = σ.2.1 ∧ (∀ k, ¬ k = 28 → r.2.2.1 k = σ.2.2.1 k) ∧ (∀ k, ¬ k = 29 → r.2.2.2 k = σ.2.2.2 k) ∧ (∀ i, i < 15 → r.2.2.1 28 i = σ.2.2.1 10 i) ∧ r.2.2.1 28 15 = σ.1 7 ∧ r.2.2.1 28 16 = σ.1 8 ∧ ∀ p, p < 5 → r.2.2.2 29 p = σ.2.2.2 11 p
theorem aside_eq (σ : OS) : gX6_laysAside σ ∧ AF σ (fX6_laysAside σ) := by
  have v15 : vp_in 15 17 := vp_in_nI (n := 15) (by decide) (by decide)
  have v16 : vp_in 16 17 := vp_in_nI (n := 16) (by decide) (by decide)
  have I2 : ∀ r : OS, r.1 = σ.1 → r.2.1 = σ.2.1 → (∀ k, ¬ k = 28 → r.2.2.1 k = σ.2.2.1 k) → (∀ k, ¬ k = 29 → r.2.2.2 k = σ.2.2.2 k) → (∀ i, i < 15 → r.2.2.1 28 i = σ.2.2.1 10 i) → lpOk kX6_laysAside_28 fu (r, 0) ∧ AF σ (lp o0 bX6_laysAside_28 fu (r, 0)) := by
    intro r0 h1 h2 h3 h4 h5
    refine lp_one (d := o0) (body := bX6_laysAside_28) (ok := kX6_laysAside_28) (fun k v => ∃ t r, v = (r, nI t) ∧ t + k = 5 ∧ r.1 = σ.1 ∧ r.2.1 = σ.2.1 ∧ (∀ k, ¬ k = 28 → r.2.2.1 k = σ.2.2.1 k) ∧ (∀ k, ¬ k = 29 → r.2.2.2 k = σ.2.2.2 k) ∧ (∀ i, i < 15 → r.2.2.1 28 i = σ.2.2.1 10 i) ∧ ∀ p, p < t → r.2.2.2 29 p = σ.2.2.2 11 p) (fun r => AF σ r) ?_ fu 5 (r0, 0) ⟨0, r0, rfl, by omega, h1, h2, h3, h4, h5, fun p hp => by omega⟩ (by decide)
    rintro k v ⟨t, r, rfl, ht, h1, h2, h3, h4, h5, h6⟩ kR kO hk
    unfold bX6_laysAside_28 kX6_laysAside_28
    simp only [nI_clamp (show t < 2 ^ 31 by omega), nI_1]
    by_cases e0 : t < 5
    · have c1 : ¬ (5 : Int32) ≤ nI t := nI_ge (b := 5) e0 (by decide)
      simp only [↓reduceIte, not_true_eq_false, not_false_eq_true, false_implies, true_implies, implies_true, true_and, and_true, and_self, eq_self, Bool.false_eq_true, c1, vp_in_nI (show t < 5 by omega) (by decide)]
      refine hk (k - 1) _ (by omega) ⟨t + 1, _, rfl, by omega, h1, h2, h3, fun k hk => (oT_n _ _ _ hk).trans (h4 k hk), h5, fun p hp => ?_⟩
      rw [oT_row]
      by_cases e : p = t
      · subst e
        rw [uL_s, h4 11 (by decide)]
      · rw [uL_n _ _ e]
        exact h6 p (by omega)
    · have c1 : (5 : Int32) ≤ nI t := nI_le (a := 5) (by omega) (by omega)
      simp only [↓reduceIte, not_true_eq_false, not_false_eq_true, false_implies, true_implies, implies_true, true_and, and_true, and_self, eq_self, Bool.false_eq_true, c1, v15, v16]
      have er : (oS (oS r 28 (15 : Int32).toNatClampNeg (r.1 7)) 28 (16 : Int32).toNatClampNeg ((oS r 28 (15 : Int32).toNatClampNeg (r.1 7)).1 8)).2.2.1 28 = upd (upd (r.2.2.1 28) 15 (r.1 7)) 16 (r.1 8) := rfl
      refine ⟨h1, h2, fun k hk => ?_, h4, fun i hi => ?_, ?_, ?_, fun p hp => h6 p (by omega)⟩
      · exact ((up_n _ _ hk).trans (up_n _ _ hk)).trans (h3 k hk)
      · rw [er, ud_n _ _ (by omega), ud_n _ _ (by omega)]; exact h5 i hi
      · rw [er, ud_n _ _ (by decide), ud_s, h1]
      · rw [er, ud_s, h1]
  refine lp_one (d := o0) (body := bX6_laysAside_2) (ok := kX6_laysAside_2) (fun k v => ∃ t r, v = (r, nI t) ∧ t + k = 15 ∧ r.1 = σ.1 ∧ r.2.1 = σ.2.1 ∧ (∀ k, ¬ k = 28 → r.2.2.1 k = σ.2.2.1 k) ∧ (∀ k, ¬ k = 29 → r.2.2.2 k = σ.2.2.2 k) ∧ (∀ i, i < t → r.2.2.1 28 i = σ.2.2.1 10 i)) (fun r => AF σ r) ?_ fu 15 (σ, 0) ⟨0, σ, rfl, by omega, rfl, rfl, fun _ _ => rfl, fun _ _ => rfl, fun i hi => by omega⟩ (by decide)
  rintro k v ⟨t, r, rfl, ht, h1, h2, h3, h4, h5⟩ kR kO hk
  unfold bX6_laysAside_2 kX6_laysAside_2
  simp only [nI_clamp (show t < 2 ^ 31 by omega), nI_1]
  by_cases e0 : t < 15
  · have c1 : ¬ (15 : Int32) ≤ nI t := nI_ge (b := 15) e0 (by decide)
    simp only [↓reduceIte, not_true_eq_false, not_false_eq_true, false_implies, true_implies, implies_true, true_and, and_true, and_self, eq_self, Bool.false_eq_true, c1, vp_in_nI (show t < 15 by omega) (by decide), vp_in_nI (show t < 17 by omega) (by decide)]
    refine hk (k - 1) _ (by omega) ⟨t + 1, _, rfl, by omega, h1, h2, fun k hk => (up_n _ _ hk).trans (h3 k hk), h4, fun i hi => ?_⟩
    rw [oS_row]
    by_cases e : i = t
    · subst e
      rw [ud_s, h3 10 (by decide)]
    · rw [ud_n _ _ e]
      exact h5 i (by omega)
  · have c1 : (15 : Int32) ≤ nI t := nI_le (a := 15) (by omega) (by omega)
    have := I2 r h1 h2 h3 h4 (fun i hi => h5 i (by omega))
    simp only [↓reduceIte, not_true_eq_false, not_false_eq_true, false_implies, true_implies, implies_true, true_and, and_true, and_self, eq_self, Bool.false_eq_true, c1, this.1]
    exact this.2
/-- laid back: all but what is asked nowhere -/
def ZF (σ r : OS) : Prop := (∀ j, ¬ (13 ≤ j ∧ j ≤ 27) → r.1 j = σ.1 j) ∧ (∀ j, ¬ j = 24 → r.2.1 j = σ.2.1 j) ∧ (∀ k, ¬ k = 10 → ¬ k = 28 → r.2.2.1 k = σ.2.2.1 k) ∧ (∀ k, ¬ k = 11 → ¬ k = 29 → r.2.2.2 k = σ.2.2.2 k) ∧ (∀ i, i < 15 → r.2.2.1 10 i = σ.2.2.1 10 i) ∧ ∀ p, p < 5 → r.2.2.2 11 p = σ.2.2.2 11 p
theorem back_eq {σ s r : OS} (ha : AF σ s) (hy : YF s r) : gX6_laysBack r ∧ ZF σ (fX6_laysBack r) := by
  have v15 : vp_in 15 17 := vp_in_nI (n := 15) (by decide) (by decide)
  have v16 : vp_in 16 17 := vp_in_nI (n := 16) (by decide) (by decide)
  obtain ⟨a1, a2, a3, a4, a5, a6, a7, a8⟩ := ha
  have r28 : r.2.2.1 28 = s.2.2.1 28 := hy.2.2.1 28 (by decide)
  have r29 : r.2.2.2 29 = s.2.2.2 29 := hy.2.2.2 29 (by decide)
  have I2 : ∀ u : OS, u.1 = r.1 → u.2.1 = r.2.1 → (∀ k, ¬ k = 10 → u.2.2.1 k = r.2.2.1 k) → (∀ k, ¬ k = 11 → u.2.2.2 k = r.2.2.2 k) → (∀ i, i < 15 → u.2.2.1 10 i = σ.2.2.1 10 i) → lpOk kX6_laysBack_28 fu (u, 0) ∧ ZF σ (lp o0 bX6_laysBack_28 fu (u, 0)) := by
    intro u0 h1 h2 h3 h4 h5
    refine lp_one (d := o0) (body := bX6_laysBack_28) (ok := kX6_laysBack_28) (fun k v => ∃ t u, v = (u, nI t) ∧ t + k = 5 ∧ u.1 = r.1 ∧ u.2.1 = r.2.1 ∧ (∀ k, ¬ k = 10 → u.2.2.1 k = r.2.2.1 k) ∧ (∀ k, ¬ k = 11 → u.2.2.2 k = r.2.2.2 k) ∧ (∀ i, i < 15 → u.2.2.1 10 i = σ.2.2.1 10 i) ∧ ∀ p, p < t → u.2.2.2 11 p = σ.2.2.2 11 p) (fun r => ZF σ r) ?_ fu 5 (u0, 0) ⟨0, u0, rfl, by omega, h1, h2, h3, h4, h5, fun p hp => by omega⟩ (by decide)
    rintro k v ⟨t, u, rfl, ht, h1, h2, h3, h4, h5, h6⟩ kR kO hk
    unfold bX6_laysBack_28 kX6_laysBack_28
    simp only [nI_clamp (show t < 2 ^ 31 by omega), nI_1]
    by_cases e0 : t < 5
    · have c1 : ¬ (5 : Int32) ≤ nI t := nI_ge (b := 5) e0 (by decide)
      simp only [↓reduceIte, not_true_eq_false, not_false_eq_true, false_implies, true_implies, implies_true, true_and, and_true, and_self, eq_self, Bool.false_eq_true, c1, vp_in_nI (show t < 5 by omega) (by decide)]
      refine hk (k - 1) _ (by omega) ⟨t + 1, _, rfl, by omega, h1, h2, h3, fun k hk => (oT_n _ _ _ hk).trans (h4 k hk), h5, fun p hp => ?_⟩
      rw [oT_row]
      by_cases e : p = t
      · subst e
        rw [uL_s, h4 29 (by decide), r29, a8 p e0]
      · rw [uL_n _ _ e]
        exact h6 p (by omega)
    · have c1 : (5 : Int32) ≤ nI t := nI_le (a := 5) (by omega) (by omega)
      simp only [↓reduceIte, not_true_eq_false, not_false_eq_true, false_implies, true_implies, implies_true, true_and, and_true, and_self, eq_self, Bool.false_eq_true, c1, v15, v16]
      have e15 : u.2.2.1 28 (15 : Int32).toNatClampNeg = σ.1 7 := by rw [h3 28 (by decide), r28]; exact a6
      have e16 : (oI u 7 (u.2.2.1 28 (15 : Int32).toNatClampNeg)).2.2.1 28 (16 : Int32).toNatClampNeg = σ.1 8 := by
        show u.2.2.1 28 16 = _
        rw [h3 28 (by decide), r28]; exact a7
      rw [e16, e15]
      refine ⟨fun j hj => ?_, fun j hj => ?_, fun k h10 h28 => ?_, fun k h11 h29 => ?_, h5, fun p hp => h6 p (by omega)⟩
      · by_cases e8 : j = 8
        · subst e8; exact oI_s _ _ _
        · rw [oI_n _ _ e8]
          by_cases e7 : j = 7
          · subst e7; exact oI_s _ _ _
          · rw [oI_n _ _ e7, h1, hy.1 j e7 e8 hj, a1]
      · show u.2.1 j = _
        rw [h2, hy.2.1 j hj, a2]
      · exact (h3 k h10).trans ((hy.2.2.1 k h10).trans (a3 k h28))
      · exact (h4 k h11).trans ((hy.2.2.2 k h11).trans (a4 k h29))
  refine lp_one (d := o0) (body := bX6_laysBack_2) (ok := kX6_laysBack_2) (fun k v => ∃ t u, v = (u, nI t) ∧ t + k = 15 ∧ u.1 = r.1 ∧ u.2.1 = r.2.1 ∧ (∀ k, ¬ k = 10 → u.2.2.1 k = r.2.2.1 k) ∧ (∀ k, ¬ k = 11 → u.2.2.2 k = r.2.2.2 k) ∧ (∀ i, i < t → u.2.2.1 10 i = σ.2.2.1 10 i)) (fun r => ZF σ r) ?_ fu 15 (r, 0) ⟨0, r, rfl, by omega, rfl, rfl, fun _ _ => rfl, fun _ _ => rfl, fun i hi => by omega⟩ (by decide)
  rintro k v ⟨t, u, rfl, ht, h1, h2, h3, h4, h5⟩ kR kO hk
  unfold bX6_laysBack_2 kX6_laysBack_2
  simp only [nI_clamp (show t < 2 ^ 31 by omega), nI_1]
  by_cases e0 : t < 15
  · have c1 : ¬ (15 : Int32) ≤ nI t := nI_ge (b := 15) e0 (by decide)
    simp only [↓reduceIte, not_true_eq_false, not_false_eq_true, false_implies, true_implies, implies_true, true_and, and_true, and_self, eq_self, Bool.false_eq_true, c1, vp_in_nI (show t < 15 by omega) (by decide), vp_in_nI (show t < 17 by omega) (by decide)]
    refine hk (k - 1) _ (by omega) ⟨t + 1, _, rfl, by omega, h1, h2, fun k hk => (up_n _ _ hk).trans (h3 k hk), h4, fun i hi => ?_⟩
    rw [oS_row]
    by_cases e : i = t
    · subst e
      rw [ud_s, h3 28 (by decide), r28, a5 i (by omega)]
    · rw [ud_n _ _ e]
      exact h5 i (by omega)
  · have c1 : (15 : Int32) ≤ nI t := nI_le (a := 15) (by omega) (by omega)
    have := I2 u h1 h2 h3 h4 (fun i hi => h5 i (by omega))
    simp only [↓reduceIte, not_true_eq_false, not_false_eq_true, false_implies, true_implies, implies_true, true_and, and_true, and_self, eq_self, Bool.false_eq_true, c1, this.1]
    exact this.2
theorem ZF.tr {σ r s : OS} (h : ZF σ r) (k : ZF r s) : ZF σ s := ⟨fun j a => (k.1 j a).trans (h.1 j a), fun j a => (k.2.1 j a).trans (h.2.1 j a), fun j a b => (k.2.2.1 j a b).trans (h.2.2.1 j a b), fun j a b => (k.2.2.2.1 j a b).trans (h.2.2.2.1 j a b), fun j a => (k.2.2.2.2.1 j a).trans (h.2.2.2.2.1 j a), fun j a => (k.2.2.2.2.2 j a).trans (h.2.2.2.2.2 j a)⟩
theorem ZF.rfl' (σ : OS) : ZF σ σ := ⟨fun _ _ => rfl, fun _ _ => rfl, fun _ _ _ => rfl, fun _ _ _ => rfl, fun _ _ => rfl, fun _ _ => rfl⟩
theorem XF.zf {σ r : OS} (h : XF σ r) : ZF σ r := ⟨h.1, h.2.1, fun k _ _ => by rw [h.2.2], fun k _ _ => by rw [h.2.2], fun i _ => by rw [h.2.2], fun i _ => by rw [h.2.2]⟩
theorem WR.zf {N m y : Nat} {w σ r : OS} (h : WR N m y w σ) (k : ZF σ r) : WR N m y w r := by
  obtain ⟨a1, a2, a3, a4, a5, a6, a7, a8, a9⟩ := h
  obtain ⟨k1, k2, k3, k4, k5, k6⟩ := k
  refine ⟨a1, by rw [k1 12 (by omega)]; exact a2, by rw [k1 7 (by omega)]; exact a3, by rw [k1 8 (by omega)]; exact a4, by rw [k1 4 (by omega)]; exact a5, by rw [k2 9 (by omega)]; exact a6, fun p hp => ?_, fun p hp => by rw [k6 p (by omega)]; exact a8 p hp, by rw [k2 9 (by omega)]; exact a9.cong (fun p hp => k6 p (by omega))⟩
  unfold RW
  rw [k5 _ (by omega), k5 _ (by omega), k5 _ (by omega)]
  exact a7 p hp
theorem WR.af {N m y : Nat} {w σ r : OS} (h : WR N m y w σ) (k : AF σ r) : WR N m y w r := by
  obtain ⟨a1, a2, a3, a4, a5, a6, a7, a8, a9⟩ := h
  obtain ⟨k1, k2, k3, k4, -⟩ := k
  refine ⟨a1, by rw [k1]; exact a2, by rw [k1]; exact a3, by rw [k1]; exact a4, by rw [k1]; exact a5, by rw [k2]; exact a6, fun p hp => ?_, fun p hp => by rw [k4 11 (by decide)]; exact a8 p hp, by rw [k2, k4 11 (by decide)]; exact a9⟩
  exact (a7 p hp).move rfl rfl rfl (k3 10 (by decide))
theorem TXR.af {τ : TX} {σ r : OS} (h : TXR τ σ) (k : AF σ r) : TXR τ r := h.move (by rw [k.1]) (k.2.2.1 1 (by decide)) (k.2.2.1 2 (by decide))
theorem TXR.zf {τ : TX} {σ r : OS} (h : TXR τ σ) (k : ZF σ r) : TXR τ r := h.move (k.1 3 (by omega)) (k.2.2.1 1 (by decide) (by decide)) (k.2.2.1 2 (by decide) (by decide))
/-- years one behind the other -/
theorem go_sim {τ : TX} {m y n : Nat} (hn : n ≤ 40) (hy : y < 2 ^ 19) (ξ : XS) {w σ : OS} (h : WR τ.length m y w σ) (hT : TXR τ σ) :
    lpOk (kX5_think_13 τ (nI n)) fu (xT ξ w, 0) ∧ gX6_go σ (nI n) ∧ ∃ w', lp xs0 (bX5_think_13 τ (nI n)) fu (xT ξ w, 0) = xT ξ w' ∧ WR τ.length m (y + n) w' (fX6_go σ (nI n)) ∧ TXR τ (fX6_go σ (nI n)) ∧ YF σ (fX6_go σ (nI n)) := by
  refine lp_two (d := xs0) (body := bX5_think_13 τ (nI n)) (ok := kX5_think_13 τ (nI n)) (d' := o0) (body' := bX6_go_2 (nI n)) (ok' := kX6_go_2 (nI n))
    (fun k x z => ∃ (w' σ' : OS) (t : Nat), x = (xT ξ w', nI t) ∧ z = (σ', nI t) ∧ t + k = n ∧ WR τ.length m (y + t) w' σ' ∧ TXR τ σ' ∧ YF σ σ')
    (fun r s => ∃ w', r = xT ξ w' ∧ WR τ.length m (y + n) w' s ∧ TXR τ s ∧ YF σ s) ?_ fu fu n (xT ξ w, 0) (σ, 0) ⟨w, σ, 0, rfl, rfl, by omega, h, hT, YF.rfl' σ⟩ (by show n < 1000; omega) (by show n < 1000; omega)
  clear h hT
  rintro k x z ⟨w', σ', t, rfl, rfl, htk, h, hT, hY⟩ kR kO kR' kO' hk
  unfold bX5_think_13 kX5_think_13 bX6_go_2 kX6_go_2 oX5_think_25 pX5_think_25 oX6_go_11 pX6_go_11
  simp only [nI_1]
  by_cases e0 : t < n
  · have c1 : ¬ nI n ≤ nI t := nI_ge e0 (by omega)
    obtain ⟨p1, p2, p3, p4, p5, -⟩ := pass_sim h hT (by omega)
    have p1 : gX4_passYear τ (xT ξ w').2.2.1 := p1
    have K := hk (k - 1) (xT ξ (fX4_passYear τ w'), nI (t + 1)) ((fX6_passes σ').2, nI (t + 1)) (by omega) ⟨_, _, t + 1, rfl, rfl, by omega, p3, p4, hY.tr p5⟩
    simp only [↓reduceIte, not_true_eq_false, not_false_eq_true, false_implies, true_implies, implies_true, true_and, and_true, and_self, eq_self, Bool.false_eq_true, c1, p1, p2]
    exact K
  · have c1 : nI n ≤ nI t := nI_le (by omega) (by omega)
    simp only [↓reduceIte, not_true_eq_false, not_false_eq_true, false_implies, true_implies, implies_true, true_and, and_true, and_self, eq_self, Bool.false_eq_true, c1]
    exact ⟨w', rfl, by rw [show n = t by omega]; exact h, hT, hY⟩
theorem think_sim {τ : TX} {m y n : Nat} (hn : n ≤ 40) (hy : y ≤ 999) {ξ : XS} {σ : OS} (h : WR τ.length m y ξ.2.1 σ) (hT : TXR τ σ) :
    gX5_think τ ξ (nI n) ∧ gX6_laysAside σ ∧ gX6_go (fX6_laysAside σ) (nI n) ∧ gX6_laysBack (fX6_go (fX6_laysAside σ) (nI n)) ∧ ZF σ (fX6_laysBack (fX6_go (fX6_laysAside σ) (nI n))) ∧ ∃ w', fX5_think τ ξ (nI n) = xT ξ w' ∧ WR τ.length m (y + n) w' (fX6_go (fX6_laysAside σ) (nI n)) := by
  obtain ⟨g1, a1⟩ := aside_eq σ
  obtain ⟨b1, b2⟩ := become_eq ξ.2.1 ξ.2.2.1
  obtain ⟨c1, c2, w', c3, c4, c5, c6⟩ := go_sim hn (by omega) ξ ((h.af a1).lk b2) (hT.af a1)
  obtain ⟨d1, d2⟩ := back_eq a1 c6
  exact ⟨⟨b1, c1⟩, g1, c2, d1, d2, w', c3, c4⟩
/-- sheets, the image, the tape -/
def SHR (x : OS) (s : Nat) (σ : OS) : Prop := (x.1 1 = -1 ∧ σ.2.2.1 37 s = 0) ∨ ∃ k z, k ≤ 2 ∧ z ≤ 40 ∧ x.1 1 = nI k ∧ σ.2.2.1 37 s = 1 ∧ σ.2.2.1 38 s = nI k ∧ x.1 2 = nI z ∧ σ.2.2.1 39 s = nI z ∧ ∀ i, i < z → x.2.2.1 0 i = σ.2.2.1 40 (40 * s + i)
def kep (σ : OS) : OS := (fun j => if j = 12 then σ.1 32 else if j = 7 then σ.1 33 else if j = 8 then σ.1 34 else σ.1 35, fun _ => σ.2.1 36, fun _ => σ.2.2.1 30, fun _ => σ.2.2.2 31)
def KR (N : Nat) (ξ : XS) (σ : OS) : Prop := (ξ.1.1 7 = 0 ∧ σ.1 32 = -1) ∨ (ξ.1.1 7 = 1 ∧ ∃ m y, y ≤ 999 ∧ WR N m y ξ.2.2.2.1 (kep σ))
def TP (ρ σ : OS) : Prop := ∃ (n : Nat) (B : Nat → Nat), n ≤ 160 ∧ (∀ i, B i < 256) ∧ Rst n B ρ ∧ σ.1 6 = nI n ∧ ∀ i, i < n → σ.2.2.1 5 i = nI (B i)
def Rel (τ : TX) (ξ : XS) (σ : OS) : Prop := (∃ m y, y ≤ 999 ∧ WR τ.length m y ξ.2.1 σ) ∧ TXR τ σ ∧ ξ.1.1 6 = nI τ.length ∧ TP ξ.2.2.2.2.1 σ ∧ KR τ.length ξ σ ∧ ∀ s, s < 4 → SHR (ξ.2.2.2.2.2 s) s σ
theorem SHR.move {x : OS} {s : Nat} {σ σ' : OS} (h : SHR x s σ) (h1 : σ'.2.2.1 37 = σ.2.2.1 37) (h2 : σ'.2.2.1 38 = σ.2.2.1 38) (h3 : σ'.2.2.1 39 = σ.2.2.1 39) (h4 : σ'.2.2.1 40 = σ.2.2.1 40) : SHR x s σ' := by unfold SHR; rw [h1, h2, h3, h4]; exact h
theorem kep_eq {σ σ' : OS} (h1 : ∀ j, 32 ≤ j → j ≤ 35 → σ'.1 j = σ.1 j) (h2 : σ'.2.1 36 = σ.2.1 36) (h3 : σ'.2.2.1 30 = σ.2.2.1 30) (h4 : σ'.2.2.2 31 = σ.2.2.2 31) : kep σ' = kep σ := by
  unfold kep
  rw [h1 32 (by omega) (by omega), h1 33 (by omega) (by omega), h1 34 (by omega) (by omega), h1 35 (by omega) (by omega), h2, h3, h4]
/-- what the relation asks of the reference, but for its world -/
def OF (σ r : OS) : Prop := r.1 3 = σ.1 3 ∧ r.1 6 = σ.1 6 ∧ (∀ j, 32 ≤ j → j ≤ 35 → r.1 j = σ.1 j) ∧ r.2.1 36 = σ.2.1 36 ∧ (∀ k, k = 1 ∨ k = 2 ∨ k = 5 ∨ k = 30 ∨ (37 ≤ k ∧ k ≤ 40) → r.2.2.1 k = σ.2.2.1 k) ∧ r.2.2.2 31 = σ.2.2.2 31
theorem OF.rfl' (σ : OS) : OF σ σ := ⟨rfl, rfl, fun _ _ _ => rfl, rfl, fun _ _ => rfl, rfl⟩
theorem YF.of {σ r : OS} (h : YF σ r) : OF σ r := ⟨h.1 3 (by omega) (by omega) (by omega), h.1 6 (by omega) (by omega) (by omega), fun j a b => h.1 j (by omega) (by omega) (by omega), h.2.1 36 (by omega), fun k hk => h.2.2.1 k (by omega), h.2.2.2 31 (by omega)⟩
theorem ZF.of {σ r : OS} (h : ZF σ r) : OF σ r := ⟨h.1 3 (by omega), h.1 6 (by omega), fun j a b => h.1 j (by omega), h.2.1 36 (by omega), fun k hk => h.2.2.1 k (by omega) (by omega), h.2.2.2.1 31 (by omega) (by omega)⟩
/-- the relation again, where the worlds are so again and all else is as it was -/
theorem Rel.world {τ : TX} {ξ ξ' : XS} {σ σ' : OS} (h : Rel τ ξ σ) (hw : ∃ m y, y ≤ 999 ∧ WR τ.length m y ξ'.2.1 σ') (ho : OF σ σ') (h1 : ξ'.1 = ξ.1) (h2 : ξ'.2.2.2 = ξ.2.2.2) : Rel τ ξ' σ' := by
  obtain ⟨-, b, c, d, e, f⟩ := h
  obtain ⟨o1, o2, o3, o4, o5, o6⟩ := ho
  refine ⟨hw, b.move o1 (o5 1 (by omega)) (o5 2 (by omega)), by rw [h1]; exact c, ?_, ?_, fun s hs => ?_⟩
  · rw [h2]
    unfold TP
    rw [o2, o5 5 (by omega)]
    exact d
  · unfold KR
    rw [h1, h2, kep_eq o3 o4 (o5 30 (by omega)) o6, o3 32 (by omega) (by omega)]
    exact e
  · rw [h2]
    exact (f s hs).move (o5 37 (by omega)) (o5 38 (by omega)) (o5 39 (by omega)) (o5 40 (by omega))
theorem Rel.zf {τ : TX} {ξ : XS} {σ σ' : OS} (h : Rel τ ξ σ) (k : ZF σ σ') (w : OS) : Rel τ (xT ξ w) σ' := by
  obtain ⟨m, y, hy, hw⟩ := h.1
  exact h.world ⟨m, y, hy, hw.zf k⟩ k.of rfl rfl
theorem Rel.zf' {τ : TX} {ξ : XS} {σ σ' : OS} (h : Rel τ ξ σ) (k : ZF σ σ') : Rel τ ξ σ' := h.zf k ξ.2.2.1
end

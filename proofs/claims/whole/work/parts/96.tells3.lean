section
/-! steps: tells -/
theorem like_go {τ : TX} {m y s z : Nat} (hy : y ≤ 999) (hs : s < 4) (hz : z ≤ 20) (a2 : Int32) {ξ : XS} {σ : OS} (h : WR τ.length m y ξ.2.1 σ) (hT : TXR τ σ) (hx : (ξ.2.2.2.2.2 s).1 2 = nI z) (hx0 : ∀ i, i < z → (ξ.2.2.2.2.2 s).2.2.1 0 i = σ.2.2.1 40 (40 * s + i)) (hs39 : σ.2.2.1 39 s = nI z) : ∃ R w' σ', gX5_supposedTold τ s ξ a2 (nI 6) ∧ fX5_supposedTold τ s ξ a2 (nI 6) = (R, xT ξ w') ∧ gX6_likeSet σ (nI s) ∧ fX6_likeSet σ (nI s) = (R, σ') ∧ ZF σ σ' := by
  have m5 := h.1
  let P : Nat → Bool := fun t => decide (FO σ s t z = -1)
  have hP : ∀ t, (P t = true ↔ FO σ s t z = -1) := fun v => decide_eq_true_iff
  generalize P = P' at *
  have hsn : fX5_suppositions τ ξ (nI 6) = nI m := by
    unfold fX5_suppositions pX5_suppositions_0
    simp only [↓reduceIte, not_true_eq_false, not_false_eq_true, false_implies, true_implies, implies_true, true_and, and_true, and_self, eq_self, Bool.false_eq_true, kne_0_1, kne_0_2, kne_0_3, kne_0_4, kne_0_5, kne_0_6, kne_1_0, kne_1_2, kne_1_3, kne_1_4, kne_1_5, kne_1_6, kne_2_0, kne_2_1, kne_2_3, kne_2_4, kne_2_5, kne_2_6, kne_3_0, kne_3_1, kne_3_2, kne_3_4, kne_3_5, kne_3_6, kne_4_0, kne_4_1, kne_4_2, kne_4_3, kne_4_5, kne_4_6, kne_5_0, kne_5_1, kne_5_2, kne_5_3, kne_5_4, kne_5_6, kne_6_0, kne_6_1, kne_6_2, kne_6_3, kne_6_4, kne_6_5, keq_0, keq_1, keq_2, keq_3, keq_4, keq_5, keq_6]
    exact h.2.1.1
  have L : lpOk (kX5_supposedTold_16 τ s a2 (nI 6) (nI m)) fu (xT ξ ξ.2.2.1, 0, 0, 0) ∧ (lp (0, xs0) (bX5_supposedTold_16 τ s a2 (nI 6) (nI m)) fu (xT ξ ξ.2.2.1, 0, 0, 0)).1 = tB P' m ∧ ∃ w', (lp (0, xs0) (bX5_supposedTold_16 τ s a2 (nI 6) (nI m)) fu (xT ξ ξ.2.2.1, 0, 0, 0)).2 = xT ξ w' := by
    refine lp_one (d := ((0 : Int32), xs0)) (body := bX5_supposedTold_16 τ s a2 (nI 6) (nI m)) (ok := kX5_supposedTold_16 τ s a2 (nI 6) (nI m)) (fun k v => ∃ t w' x, v = (xT ξ w', tB P' t, x, nI t) ∧ t + k = m) (fun r => r.1 = tB P' m ∧ ∃ w', r.2 = xT ξ w') ?_ fu m (xT ξ ξ.2.2.1, 0, 0, 0) ⟨0, ξ.2.2.1, 0, rfl, by omega⟩ (by show m < 1000; omega)
    rintro k v ⟨t, w', x, rfl, htk⟩ kR kO hk
    unfold bX5_supposedTold_16 kX5_supposedTold_16 oX5_supposedTold_31 pX5_supposedTold_31 oX5_supposedTold_45 pX5_supposedTold_45 oX5_supposedTold_48 pX5_supposedTold_48 oX5_supposedTold_72 pX5_supposedTold_72
    simp only [nI_1]
    by_cases e0 : t < m
    · have c1 : ¬ nI m ≤ nI t := nI_ge e0 (by omega)
      obtain ⟨b1, b2⟩ := become_eq ξ.2.1 w'
      have W1 := h.lk b2
      have gs : gX5_suppose τ (xT ξ w') (nI 6) a2 (nI t) := by
        unfold gX5_suppose oX5_suppose_0 oX5_suppose_11
        simp only [↓reduceIte, not_true_eq_false, not_false_eq_true, false_implies, true_implies, implies_true, true_and, and_true, and_self, eq_self, Bool.false_eq_true, kne_0_1, kne_0_2, kne_0_3, kne_0_4, kne_0_5, kne_0_6, kne_1_0, kne_1_2, kne_1_3, kne_1_4, kne_1_5, kne_1_6, kne_2_0, kne_2_1, kne_2_3, kne_2_4, kne_2_5, kne_2_6, kne_3_0, kne_3_1, kne_3_2, kne_3_4, kne_3_5, kne_3_6, kne_4_0, kne_4_1, kne_4_2, kne_4_3, kne_4_5, kne_4_6, kne_5_0, kne_5_1, kne_5_2, kne_5_3, kne_5_4, kne_5_6, kne_6_0, kne_6_1, kne_6_2, kne_6_3, kne_6_4, kne_6_5, keq_0, keq_1, keq_2, keq_3, keq_4, keq_5, keq_6]
        exact b1
      have es : fX5_suppose τ (xT ξ w') (nI 6) a2 (nI t) = xT ξ (oB4 w' (fX4_become ξ.2.1 w')) := by
        unfold fX5_suppose pX5_suppose_0 pX5_suppose_11
        simp only [↓reduceIte, not_true_eq_false, not_false_eq_true, false_implies, true_implies, implies_true, true_and, and_true, and_self, eq_self, Bool.false_eq_true, kne_0_1, kne_0_2, kne_0_3, kne_0_4, kne_0_5, kne_0_6, kne_1_0, kne_1_2, kne_1_3, kne_1_4, kne_1_5, kne_1_6, kne_2_0, kne_2_1, kne_2_3, kne_2_4, kne_2_5, kne_2_6, kne_3_0, kne_3_1, kne_3_2, kne_3_4, kne_3_5, kne_3_6, kne_4_0, kne_4_1, kne_4_2, kne_4_3, kne_4_5, kne_4_6, kne_5_0, kne_5_1, kne_5_2, kne_5_3, kne_5_4, kne_5_6, kne_6_0, kne_6_1, kne_6_2, kne_6_3, kne_6_4, kne_6_5, keq_0, keq_1, keq_2, keq_3, keq_4, keq_5, keq_6]
        rfl
      generalize oB4 w' (fX4_become ξ.2.1 w') = w1 at *
      obtain ⟨g2, e2, w2, e3⟩ := first_c hy hs hz e0 W1 hT ξ hx hx0
      rw [es, e2, e3]
      by_cases c2 : FO σ s t z = -1
      · have hp1 := (hP t).mpr c2
        have K := hk (k - 1) (xT ξ w2, tB P' t ||| (1 <<< (nI t &&& 31)), x + 1, nI (t + 1)) (by omega) ⟨t + 1, w2, _, by rw [tB_t hp1], by omega⟩
        simp only [↓reduceIte, not_true_eq_false, not_false_eq_true, false_implies, true_implies, implies_true, true_and, and_true, and_self, eq_self, Bool.false_eq_true, c1, gs, kne_0_1, kne_0_2, kne_0_3, kne_0_4, kne_0_5, kne_0_6, kne_1_0, kne_1_2, kne_1_3, kne_1_4, kne_1_5, kne_1_6, kne_2_0, kne_2_1, kne_2_3, kne_2_4, kne_2_5, kne_2_6, kne_3_0, kne_3_1, kne_3_2, kne_3_4, kne_3_5, kne_3_6, kne_4_0, kne_4_1, kne_4_2, kne_4_3, kne_4_5, kne_4_6, kne_5_0, kne_5_1, kne_5_2, kne_5_3, kne_5_4, kne_5_6, kne_6_0, kne_6_1, kne_6_2, kne_6_3, kne_6_4, kne_6_5, keq_0, keq_1, keq_2, keq_3, keq_4, keq_5, keq_6, g2, c2]
        exact K
      · have hp1 : ¬ P' t = true := fun q => c2 ((hP t).mp q)
        have K := hk (k - 1) (xT ξ w2, tB P' t, x, nI (t + 1)) (by omega) ⟨t + 1, w2, _, by rw [tB_f hp1], by omega⟩
        simp only [↓reduceIte, not_true_eq_false, not_false_eq_true, false_implies, true_implies, implies_true, true_and, and_true, and_self, eq_self, Bool.false_eq_true, c1, gs, kne_0_1, kne_0_2, kne_0_3, kne_0_4, kne_0_5, kne_0_6, kne_1_0, kne_1_2, kne_1_3, kne_1_4, kne_1_5, kne_1_6, kne_2_0, kne_2_1, kne_2_3, kne_2_4, kne_2_5, kne_2_6, kne_3_0, kne_3_1, kne_3_2, kne_3_4, kne_3_5, kne_3_6, kne_4_0, kne_4_1, kne_4_2, kne_4_3, kne_4_5, kne_4_6, kne_5_0, kne_5_1, kne_5_2, kne_5_3, kne_5_4, kne_5_6, kne_6_0, kne_6_1, kne_6_2, kne_6_3, kne_6_4, kne_6_5, keq_0, keq_1, keq_2, keq_3, keq_4, keq_5, keq_6, g2, c2]
        exact K
    · have c1 : nI m ≤ nI t := nI_le (by omega) (by omega)
      obtain rfl : t = m := by omega
      simp only [↓reduceIte, not_true_eq_false, not_false_eq_true, false_implies, true_implies, implies_true, true_and, and_true, and_self, eq_self, Bool.false_eq_true, c1, kne_0_1, kne_0_2, kne_0_3, kne_0_4, kne_0_5, kne_0_6, kne_1_0, kne_1_2, kne_1_3, kne_1_4, kne_1_5, kne_1_6, kne_2_0, kne_2_1, kne_2_3, kne_2_4, kne_2_5, kne_2_6, kne_3_0, kne_3_1, kne_3_2, kne_3_4, kne_3_5, kne_3_6, kne_4_0, kne_4_1, kne_4_2, kne_4_3, kne_4_5, kne_4_6, kne_5_0, kne_5_1, kne_5_2, kne_5_3, kne_5_4, kne_5_6, kne_6_0, kne_6_1, kne_6_2, kne_6_3, kne_6_4, kne_6_5, keq_0, keq_1, keq_2, keq_3, keq_4, keq_5, keq_6]
      exact ⟨_, rfl⟩
  have M : lpOk (kX6_likeSet_4 (nI s)) fu (σ, 0, 0) ∧ (lp (0, o0) (bX6_likeSet_4 (nI s)) fu (σ, 0, 0)).1 = tB P' m ∧ ZF σ (lp (0, o0) (bX6_likeSet_4 (nI s)) fu (σ, 0, 0)).2 := by
    refine lp_one (d := ((0 : Int32), o0)) (body := bX6_likeSet_4 (nI s)) (ok := kX6_likeSet_4 (nI s)) (fun k v => ∃ t σ', v = (σ', tB P' t, nI t) ∧ t + k = m ∧ ZF σ σ') (fun r => r.1 = tB P' m ∧ ZF σ r.2) ?_ fu m (σ, 0, 0) ⟨0, σ, rfl, by omega, ZF.rfl' σ⟩ (by show m < 1000; omega)
    rintro k v ⟨t, σ', rfl, htk, hZ⟩ kR kO hk
    unfold bX6_likeSet_4 kX6_likeSet_4 oX6_likeSet_19 pX6_likeSet_19 oX6_likeSet_28 pX6_likeSet_28
    have e12 : σ'.1 12 = nI m := (hZ.1 12 (by omega)).trans h.2.1.2
    simp only [nI_1, e12]
    by_cases e0 : t < m
    · have c1 : ¬ nI m ≤ nI t := nI_ge e0 (by omega)
      obtain ⟨g2, e2, z2⟩ := first_r hy hs hz e0 (h.zf hZ) (hT.zf hZ) (by rw [hZ.2.2.1 39 (by decide) (by decide)]; exact hs39)
      have e2' := FO_same (s := s) hy h hT (h.zf hZ) (hT.zf hZ) e0 hz (fun i _ => by rw [hZ.2.2.1 40 (by decide) (by decide)])
      rw [← e2'] at e2
      have Z2 := hZ.tr z2
      clear e2' z2
      generalize fX6_firstOther σ' (nI s) (nI t) = rr at *
      obtain ⟨r1, r2⟩ := rr
      have e2 : r1 = FO σ s t z := e2
      have Z2 : ZF σ r2 := Z2
      by_cases c2 : FO σ s t z = -1
      · have hp1 := (hP t).mpr c2
        rw [c2] at e2
        have K := hk (k - 1) (r2, tB P' t ||| (1 <<< (nI t &&& 31)), nI (t + 1)) (by omega) ⟨t + 1, r2, by rw [tB_t hp1], by omega, Z2⟩
        simp only [↓reduceIte, not_true_eq_false, not_false_eq_true, false_implies, true_implies, implies_true, true_and, and_true, and_self, eq_self, Bool.false_eq_true, c1, g2, e2]
        exact K
      · have hp1 : ¬ P' t = true := fun q => c2 ((hP t).mp q)
        have n1 : ¬ r1 = -1 := by rw [e2]; exact c2
        have K := hk (k - 1) (r2, tB P' t, nI (t + 1)) (by omega) ⟨t + 1, r2, by rw [tB_f hp1], by omega, Z2⟩
        have s0 : (0 : Int32) <<< (nI t &&& 31) = 0 := Int32.zero_shiftLeft
        simp only [↓reduceIte, not_true_eq_false, not_false_eq_true, false_implies, true_implies, implies_true, true_and, and_true, and_self, eq_self, Bool.false_eq_true, c1, g2, n1, s0, Int32.or_zero]
        exact K
    · have c1 : nI m ≤ nI t := nI_le (by omega) (by omega)
      obtain rfl : t = m := by omega
      simp only [↓reduceIte, not_true_eq_false, not_false_eq_true, false_implies, true_implies, implies_true, true_and, and_true, and_self, eq_self, Bool.false_eq_true, c1]
      exact hZ
  have eξ : xT ξ ξ.2.2.1 = ξ := rfl
  rw [eξ] at L
  obtain ⟨L1, L2, w', L3⟩ := L
  obtain ⟨M1, M2, M3⟩ := M
  unfold gX5_supposedTold oX5_supposedTold_0 fX5_supposedTold pX5_supposedTold_0 gX6_likeSet oX6_likeSet_0 fX6_likeSet pX6_likeSet_0
  rw [hsn]
  generalize lp (0, xs0) (bX5_supposedTold_16 τ s a2 (nI 6) (nI m)) fu (ξ, 0, 0, 0) = u at *
  generalize lp (0, o0) (bX6_likeSet_4 (nI s)) fu (σ, 0, 0) = u' at *
  obtain ⟨u1, u2⟩ := u
  obtain ⟨u3, u4⟩ := u'
  have L2 : u1 = tB P' m := L2
  have L3 : u2 = xT ξ w' := L3
  have M2 : u3 = tB P' m := M2
  exact ⟨tB P' m, w', u4, L1, by rw [L2, L3], M1, by rw [M2], M3⟩
theorem lay_row {N m y : Nat} {w σ : OS} (hw : WR N m y w σ) {p : Nat} (hp : p < m) {j : Nat} (hj : 1 ≤ j) (hj3 : j ≤ 3) (σ' : OS) (v : Int32) : gX6_lays σ' (nI j) (nI p) v ∧ fX6_lays σ' (nI j) (nI p) v = oS σ' 10 (3 * p + j - 1) v := by
  obtain ⟨-, -, t3, t4⟩ := told_4 hw hp hj hj3
  have d4 : ¬ (4 : Int32) ≤ nI j := nI_ge (a := j) (b := 4) (by omega) (by decide)
  have d0 : ¬ nI j = 0 := nI_ne (b := 0) (by omega) (by omega) (by decide)
  unfold gX6_lays oX6_lays_0 fX6_lays pX6_lays_0
  simp only [↓reduceIte, not_true_eq_false, not_false_eq_true, false_implies, true_implies, implies_true, true_and, and_true, and_self, eq_self, Bool.false_eq_true, d0, d4, t3, t4]
theorem lay_rule (σ' : OS) (x v : Int32) : gX6_lays σ' 4 x v ∧ fX6_lays σ' 4 x v = oI σ' 4 v := by
  have d4 : (4 : Int32) ≤ 4 := by decide
  have d0 : ¬ (4 : Int32) = 0 := by decide
  unfold gX6_lays oX6_lays_0 fX6_lays pX6_lays_0
  simp only [↓reduceIte, not_true_eq_false, not_false_eq_true, false_implies, true_implies, implies_true, true_and, and_true, and_self, eq_self, Bool.false_eq_true, d0, d4]
theorem tells_row {τ : TX} {ξ : XS} {σ : OS} {m y s p z n j : Nat} (hy : y ≤ 999) (hw : WR τ.length m y ξ.2.1 σ) (hT : TXR τ σ) (hs : s < 4) (hz : z ≤ 20) (hp : p < m) (hn : n ≤ 100) {a3 : Int32} (h6 : ¬ a3 = 6) (hx : (ξ.2.2.2.2.2 s).1 2 = nI z) (hx0 : ∀ i, i < z → (ξ.2.2.2.2.2 s).2.2.1 0 i = σ.2.2.1 40 (40 * s + i)) (hs39 : σ.2.2.1 39 s = nI z) (hj : 1 ≤ j) (hj3 : j ≤ 3) (hS : ∀ w0 v, v < n → gX5_suppose τ (xT ξ w0) a3 (nI p) (nI v) ∧ ∃ w1, fX5_suppose τ (xT ξ w0) a3 (nI p) (nI v) = xT ξ w1 ∧ WR τ.length m y w1 (oS σ 10 (3 * p + j - 1) (nI v))) (hsn : fX5_suppositions τ ξ a3 = nI n) (hn10 : ¬ a3 = 3 → ¬ a3 = 4 → n ≤ 10) : ∃ R w' σ', gX5_supposedTold τ s ξ (nI p) a3 ∧ fX5_supposedTold τ s ξ (nI p) a3 = (R, xT ξ w') ∧ oX6_tells_175 σ (nI s) (nI p) a3 (nI j) (σ.2.2.1 10 (3 * p + j - 1)) (nI n + -1) ∧ pX6_tells_175 σ (nI s) (nI p) a3 (nI j) (σ.2.2.1 10 (3 * p + j - 1)) (nI n + -1) = (R, σ') ∧ ZF σ σ' := by
  have e : ∀ σ' v, fX6_lays σ' (nI j) (nI p) v = oS σ' 10 (3 * p + j - 1) v := fun σ' v => (lay_row hw hp hj hj3 σ' v).2
  refine tells_go (a4 := nI j) hy hs hz hp hn h6 hx hx0 hs39 (fun v => ?_) (fun w0 v hv => ?_) (fun σ' v => (lay_row hw hp hj hj3 σ' v).1) (fun x v σ' => ?_) ?_ hsn hn10
  · rw [e]
    exact ⟨oS_n _ _ _ (by decide), oS_n _ _ _ (by decide), hT.move rfl (oS_n _ _ _ (by decide)) (oS_n _ _ _ (by decide))⟩
  · rw [e]
    exact hS w0 v hv
  · rw [e, e, e]
    exact zf_row v
  · rw [e]
    exact zf_row_id
end

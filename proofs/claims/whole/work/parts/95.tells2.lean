section
/-! steps: tells, one supposed after the other -/
theorem sup_c {τ : TX} {m y s p z n : Nat} (hy : y ≤ 999) (hs : s < 4) (hz : z ≤ 20) (hp : p < m) (hn : n ≤ 100) {ξ : XS} {a3 R : Int32} (h6 : ¬ a3 = 6) (hx : (ξ.2.2.2.2.2 s).1 2 = nI z) {A : Nat → OS} {P : Nat → Bool} (hP : ∀ v, v < n → (P v = true ↔ FO (A v) s p z = -1)) (hA : ∀ v, v < n → TXR τ (A v) ∧ ∀ i, i < z → (ξ.2.2.2.2.2 s).2.2.1 0 i = (A v).2.2.1 40 (40 * s + i)) (hS : ∀ w0 v, v < n → gX5_suppose τ (xT ξ w0) a3 (nI p) (nI v) ∧ ∃ w1, fX5_suppose τ (xT ξ w0) a3 (nI p) (nI v) = xT ξ w1 ∧ WR τ.length m y w1 (A v)) (hR4 : a3 = 4 → R = fo P n 0) (hR3 : a3 = 3 → R = nI (tC P n)) (hRb : ¬ a3 = 3 → ¬ a3 = 4 → R = tB P n) (w : OS) : lpOk (kX5_supposedTold_16 τ s (nI p) a3 (nI n)) fu (xT ξ w, 0, 0, 0) ∧ (lp (0, xs0) (bX5_supposedTold_16 τ s (nI p) a3 (nI n)) fu (xT ξ w, 0, 0, 0)).1 = R ∧ ∃ w', (lp (0, xs0) (bX5_supposedTold_16 τ s (nI p) a3 (nI n)) fu (xT ξ w, 0, 0, 0)).2 = xT ξ w' := by
  refine lp_one (d := ((0 : Int32), xs0)) (body := bX5_supposedTold_16 τ s (nI p) a3 (nI n)) (ok := kX5_supposedTold_16 τ s (nI p) a3 (nI n)) (fun k v => ∃ t w', v = (xT ξ w', tB P t, nI (tC P t), nI t) ∧ t + k = n ∧ (a3 = 4 → R = fo P k t)) (fun r => r.1 = R ∧ ∃ w', r.2 = xT ξ w') ?_ fu n (xT ξ w, 0, 0, 0) ⟨0, w, rfl, by omega, hR4⟩ (by show n < 1000; omega)
  rintro k v ⟨t, w', rfl, htk, hF⟩ kR kO hk
  unfold bX5_supposedTold_16 kX5_supposedTold_16 oX5_supposedTold_31 pX5_supposedTold_31 oX5_supposedTold_45 pX5_supposedTold_45 oX5_supposedTold_48 pX5_supposedTold_48 oX5_supposedTold_72 pX5_supposedTold_72
  simp only [nI_1]
  by_cases e0 : t < n
  · have c1 : ¬ nI n ≤ nI t := nI_ge e0 (by omega)
    obtain ⟨k', rfl⟩ : ∃ k', k = k' + 1 := ⟨k - 1, by omega⟩
    obtain ⟨g1, w1, e1, W1⟩ := hS w' t e0
    obtain ⟨T1, hc1⟩ := hA t e0
    obtain ⟨g2, e2, w2, e3⟩ := first_c hy hs hz hp W1 T1 ξ hx hc1
    rw [e1, e2, e3]
    by_cases c2 : FO (A t) s p z = -1
    · have hp1 := (hP t e0).mpr c2
      by_cases c4 : a3 = 4
      · simp only [↓reduceIte, not_true_eq_false, not_false_eq_true, false_implies, true_implies, implies_true, true_and, and_true, and_self, eq_self, Bool.false_eq_true, c1, g1, h6, g2, c2]
        rw [if_pos c4]
        exact ⟨fun n4 => absurd c4 n4, (hF c4).trans (fo_t hp1) |>.symm, _, rfl⟩
      · have K := hk k' (xT ξ w2, tB P t ||| (1 <<< (nI t &&& 31)), nI (tC P t + 1), nI (t + 1)) (by omega) ⟨t + 1, w2, by rw [tB_t hp1, tC_t hp1], by omega, fun q => absurd q c4⟩
        simp only [↓reduceIte, not_true_eq_false, not_false_eq_true, false_implies, true_implies, implies_true, true_and, and_true, and_self, eq_self, Bool.false_eq_true, c1, g1, h6, g2, c2, c4]
        exact K
    · have hp1 : ¬ P t = true := fun q => c2 ((hP t e0).mp q)
      have K := hk k' (xT ξ w2, tB P t, nI (tC P t), nI (t + 1)) (by omega) ⟨t + 1, w2, by rw [tB_f hp1, tC_f hp1], by omega, fun q => by rw [hF q, fo_f hp1]⟩
      simp only [↓reduceIte, not_true_eq_false, not_false_eq_true, false_implies, true_implies, implies_true, true_and, and_true, and_self, eq_self, Bool.false_eq_true, c1, g1, h6, g2, c2]
      exact K
  · have c1 : nI n ≤ nI t := nI_le (by omega) (by omega)
    obtain rfl : k = 0 := by omega
    obtain rfl : t = n := by omega
    by_cases c4 : a3 = 4
    · have : R = -1 := hF c4
      simp only [↓reduceIte, not_true_eq_false, not_false_eq_true, false_implies, true_implies, implies_true, true_and, and_true, and_self, eq_self, Bool.false_eq_true, c1, c4]
      exact ⟨this.symm, _, rfl⟩
    · by_cases c3 : a3 = 3
      · have := hR3 c3
        have n34 : ¬ (3 : Int32) = 4 := by decide
        simp only [↓reduceIte, not_true_eq_false, not_false_eq_true, false_implies, true_implies, implies_true, true_and, and_true, and_self, eq_self, Bool.false_eq_true, c1, c3, n34]
        exact ⟨this.symm, _, rfl⟩
      · have := hRb c3 c4
        simp only [↓reduceIte, not_true_eq_false, not_false_eq_true, false_implies, true_implies, implies_true, true_and, and_true, and_self, eq_self, Bool.false_eq_true, c1, c3, c4]
        exact ⟨this.symm, _, rfl⟩
theorem nI_m1 (v : Nat) : nI (v + 1) + -1 = nI v := by
  rw [← nI_1, Int32.add_assoc, show (1 : Int32) + -1 = 0 by decide, Int32.add_zero]
theorem sup_r {τ : TX} {m y s p z n : Nat} (hy : y ≤ 999) (hs : s < 4) (hz : z ≤ 20) (hp : p < m) (hn : n ≤ 100) {σ : OS} {a3 a4 b R : Int32} (h39 : ∀ v, (fX6_lays σ a4 (nI p) v).2.2.1 39 s = nI z) (h40 : ∀ v, (fX6_lays σ a4 (nI p) v).2.2.1 40 = σ.2.2.1 40) {P : Nat → Bool} (hP : ∀ v, v < n → (P v = true ↔ FO (fX6_lays σ a4 (nI p) (nI v)) s p z = -1)) (hA : ∀ v, v < n → TXR τ (fX6_lays σ a4 (nI p) (nI v)) ∧ ∃ w1, WR τ.length m y w1 (fX6_lays σ a4 (nI p) (nI v))) (l1 : ∀ σ' v, gX6_lays σ' a4 (nI p) v) (l2 : ∀ x v σ', ZF (fX6_lays σ a4 (nI p) x) σ' → ZF (fX6_lays σ a4 (nI p) v) (fX6_lays σ' a4 (nI p) v)) (l3 : ZF σ (fX6_lays σ a4 (nI p) b)) (l3' : ZF (fX6_lays σ a4 (nI p) b) σ) (hR4 : a3 = 4 → R = fo P n 0) (hR3 : a3 = 3 → R = nI (tC P n)) (hRb : ¬ a3 = 3 → ¬ a3 = 4 → R = tB P n ∧ n ≤ 10) : lpOk (kX6_tells_190 (nI s) (nI p) a3 a4 b) fu (σ, 0, 0, -1, nI n + -1) ∧ (lp (0, o0) (bX6_tells_190 (nI s) (nI p) a3 a4 b) fu (σ, 0, 0, -1, nI n + -1)).1 = R ∧ ZF σ (lp (0, o0) (bX6_tells_190 (nI s) (nI p) a3 a4 b) fu (σ, 0, 0, -1, nI n + -1)).2 := by
  refine lp_one (d := ((0 : Int32), o0)) (body := bX6_tells_190 (nI s) (nI p) a3 a4 b) (ok := kX6_tells_190 (nI s) (nI p) a3 a4 b) (fun t v => ∃ σ' a7 x x0, v = (σ', a7, nI x, fo P (n - t) t, nI t + -1) ∧ t ≤ n ∧ ZF (fX6_lays σ a4 (nI p) x0) σ' ∧ x + tC P t = tC P n ∧ (n ≤ 10 → a7 ||| tB P t = tB P n)) (fun r => r.1 = R ∧ ZF σ r.2) ?_ fu n (σ, 0, 0, -1, nI n + -1) ⟨σ, 0, 0, b, by rw [Nat.sub_self]; rfl, Nat.le_refl _, l3', by omega, fun _ => Int32.zero_or⟩ (by show n < 1000; omega)
  rintro t v ⟨σ', a7, x, x0, rfl, htn, hZ, hC, hB⟩ kR kO hk
  unfold bX6_tells_190 kX6_tells_190 oX6_tells_204 pX6_tells_204 oX6_tells_210 pX6_tells_210 oX6_tells_231 pX6_tells_231 oX6_tells_241 pX6_tells_241 pX6_tells_256
  cases t with
  | zero =>
    have c0 : nI 0 + -1 < 0 := by decide
    have Z1 := l3.tr (l2 x0 b σ' hZ)
    have g1 := l1 σ' b
    generalize fX6_lays σ' a4 (nI p) b = s9 at *
    by_cases c3 : a3 = 3
    · have q := hR3 c3
      have hC : x = tC P n := hC
      simp only [↓reduceIte, not_true_eq_false, not_false_eq_true, false_implies, true_implies, implies_true, true_and, and_true, and_self, eq_self, Bool.false_eq_true, c0, c3, g1]
      exact ⟨by rw [q, hC], Z1⟩
    · by_cases c4 : a3 = 4
      · have q := hR4 c4
        have n43 : ¬ (4 : Int32) = 3 := by decide
        simp only [↓reduceIte, not_true_eq_false, not_false_eq_true, false_implies, true_implies, implies_true, true_and, and_true, and_self, eq_self, Bool.false_eq_true, c0, c4, n43, g1]
        exact ⟨by rw [q, Nat.sub_zero], Z1⟩
      · obtain ⟨q, n10⟩ := hRb c3 c4
        have q2 : a7 = tB P n := by rw [← hB n10]; exact Int32.or_zero.symm
        simp only [↓reduceIte, not_true_eq_false, not_false_eq_true, false_implies, true_implies, implies_true, true_and, and_true, and_self, eq_self, Bool.false_eq_true, c0, c3, c4, g1]
        exact ⟨by rw [q, q2], Z1⟩
  | succ v =>
    have c0 : ¬ nI v < 0 := nI_pos (by omega)
    have hv : v < n := by omega
    rw [nI_m1]
    have Zn := l2 x0 (nI v) σ' hZ
    obtain ⟨T1, w1, W1⟩ := hA v hv
    have g1 := l1 σ' (nI v)
    have h39 := h39 (nI v)
    have hPv := hP v hv
    have s39 : (fX6_lays σ' a4 (nI p) (nI v)).2.2.1 39 s = nI z := by rw [Zn.2.2.1 39 (by decide) (by decide)]; exact h39
    obtain ⟨g2, e2, z2⟩ := first_r hy hs hz hp (W1.zf Zn) (T1.zf Zn) s39
    have e2' := FO_same (s := s) hy W1 T1 (W1.zf Zn) (T1.zf Zn) hp hz (fun i _ => by rw [Zn.2.2.1 40 (by decide) (by decide)])
    rw [← e2'] at e2
    have Z2 := Zn.tr z2
    clear e2' z2 s39
    generalize fX6_firstOther (fX6_lays σ' a4 (nI p) (nI v)) (nI s) (nI p) = rr at *
    obtain ⟨r1, r2⟩ := rr
    have e2 : r1 = FO (fX6_lays σ a4 (nI p) (nI v)) s p z := e2
    have Z2 : ZF (fX6_lays σ a4 (nI p) (nI v)) r2 := Z2
    have en : n - v = (n - (v + 1)) + 1 := by omega
    by_cases c2 : FO (fX6_lays σ a4 (nI p) (nI v)) s p z = -1
    · have hp1 := hPv.mpr c2
      rw [c2] at e2
      rw [tC_t hp1] at hC
      by_cases c10 : (10 : Int32) ≤ nI v
      · have hn10 : ¬ n ≤ 10 := fun q => nI_ge (b := 10) (show v < 10 by omega) (by decide) c10
        have K := hk v (r2, a7 ||| 0, nI (x + 1), nI v, nI v + -1) (by omega) ⟨r2, a7 ||| 0, x + 1, nI v, by rw [en, fo_t hp1], by omega, Z2, by omega, fun q => absurd q hn10⟩
        simp only [↓reduceIte, not_true_eq_false, not_false_eq_true, false_implies, true_implies, implies_true, true_and, and_true, and_self, eq_self, Bool.false_eq_true, c0, g1, g2, e2, c10, nI_1]
        exact K
      · have K := hk v (r2, a7 ||| (1 <<< (nI v &&& 31)), nI (x + 1), nI v, nI v + -1) (by omega) ⟨r2, a7 ||| (1 <<< (nI v &&& 31)), x + 1, nI v, by rw [en, fo_t hp1], by omega, Z2, by omega, fun q => by
          rw [← hB q, tB_t hp1, Int32.or_assoc]
          congr 1
          exact Int32.or_comm _ _⟩
        simp only [↓reduceIte, not_true_eq_false, not_false_eq_true, false_implies, true_implies, implies_true, true_and, and_true, and_self, eq_self, Bool.false_eq_true, c0, g1, g2, e2, c10, nI_1]
        exact K
    · have hp1 : ¬ P v = true := fun q => c2 (hPv.mp q)
      rw [tC_f hp1] at hC
      have n1 : ¬ r1 = -1 := by rw [e2]; exact c2
      have K := hk v (r2, a7, nI x, fo P (n - (v + 1)) (v + 1), nI v + -1) (by omega) ⟨r2, a7, x, nI v, by rw [en, fo_f hp1], by omega, Z2, hC, fun q => by rw [← hB q, tB_f hp1]⟩
      simp only [↓reduceIte, not_true_eq_false, not_false_eq_true, false_implies, true_implies, implies_true, true_and, and_true, and_self, eq_self, Bool.false_eq_true, c0, g1, g2, n1]
      exact K
theorem zf_row {σ σ' : OS} {i : Nat} {x : Int32} (v : Int32) (h : ZF (oS σ 10 i x) σ') : ZF (oS σ 10 i v) (oS σ' 10 i v) := by
  refine ⟨h.1, h.2.1, fun k a b => ?_, h.2.2.2.1, fun j hj => ?_, h.2.2.2.2.2⟩
  · have := h.2.2.1 k a b
    rw [oS_n _ _ _ a] at this ⊢
    rw [oS_n _ _ _ a]
    exact this
  · have := h.2.2.2.2.1 j hj
    rw [oS_row] at this ⊢
    rw [oS_row]
    by_cases e : j = i
    · subst e; rw [ud_s, ud_s]
    · rw [ud_n _ _ e] at this ⊢
      rw [ud_n _ _ e]
      exact this
theorem zf_row_id {σ : OS} {i : Nat} : ZF σ (oS σ 10 i (σ.2.2.1 10 i)) ∧ ZF (oS σ 10 i (σ.2.2.1 10 i)) σ := by
  have e : ∀ j, (oS σ 10 i (σ.2.2.1 10 i)).2.2.1 10 j = σ.2.2.1 10 j := fun j => by
    rw [oS_row]
    by_cases e : j = i
    · subst e; rw [ud_s]
    · rw [ud_n _ _ e]
  exact ⟨⟨fun _ _ => rfl, fun _ _ => rfl, fun k a _ => oS_n _ _ _ a, fun _ _ _ => rfl, fun j _ => e j, fun _ _ => rfl⟩, ⟨fun _ _ => rfl, fun _ _ => rfl, fun k a _ => (oS_n _ _ _ a).symm, fun _ _ _ => rfl, fun j _ => (e j).symm, fun _ _ => rfl⟩⟩
theorem zf_rule {σ σ' : OS} {x : Int32} (v : Int32) (h : ZF (oI σ 4 x) σ') : ZF (oI σ 4 v) (oI σ' 4 v) := by
  refine ⟨fun j hj => ?_, h.2⟩
  by_cases e : j = 4
  · subst e
    exact (up_s σ'.1 4 v).trans (up_s σ.1 4 v).symm
  · have := h.1 j hj
    rw [oI_n _ _ e] at this ⊢
    rw [oI_n _ _ e]
    exact this
theorem zf_rule_id {σ : OS} : ZF σ (oI σ 4 (σ.1 4)) ∧ ZF (oI σ 4 (σ.1 4)) σ := by
  have e : ∀ j, (oI σ 4 (σ.1 4)).1 j = σ.1 j := fun j => by
    by_cases e : j = 4
    · subst e; exact up_s σ.1 4 (σ.1 4)
    · rw [oI_n _ _ e]
  exact ⟨⟨fun j _ => e j, (ZF.rfl' σ).2⟩, ⟨fun j _ => (e j).symm, (ZF.rfl' σ).2⟩⟩
theorem WR.rule {N m y : Nat} {w σ : OS} (h : WR N m y w σ) {r : Nat} (hr : r < N) : WR N m y (oI w 7 (nI r)) (oI σ 4 (nI r)) := by
  obtain ⟨h1, h2, h3, ⟨q, hq, a, b⟩, h5, h6, h7, h8, h9⟩ := h
  refine ⟨h1, ⟨(oI_n _ _ (by decide)).trans h2.1, (oI_n _ _ (by decide)).trans h2.2⟩, ⟨(oI_n _ _ (by decide)).trans h3.1, (oI_n _ _ (by decide)).trans h3.2⟩, ⟨q, hq, (oI_n _ _ (by decide)).trans a, (oI_n _ _ (by decide)).trans b⟩, ⟨r, hr, up_s w.1 7 (nI r), up_s σ.1 4 (nI r)⟩, h6, h7, h8, h9⟩
theorem tells_go {τ : TX} {m y s p z n : Nat} (hy : y ≤ 999) (hs : s < 4) (hz : z ≤ 20) (hp : p < m) (hn : n ≤ 100) {ξ : XS} {σ : OS} {a3 a4 b : Int32} (h6 : ¬ a3 = 6) (hx : (ξ.2.2.2.2.2 s).1 2 = nI z) (hx0 : ∀ i, i < z → (ξ.2.2.2.2.2 s).2.2.1 0 i = σ.2.2.1 40 (40 * s + i)) (hs39 : σ.2.2.1 39 s = nI z) (hk : ∀ v, (fX6_lays σ a4 (nI p) v).2.2.1 39 = σ.2.2.1 39 ∧ (fX6_lays σ a4 (nI p) v).2.2.1 40 = σ.2.2.1 40 ∧ TXR τ (fX6_lays σ a4 (nI p) v)) (hS : ∀ w0 v, v < n → gX5_suppose τ (xT ξ w0) a3 (nI p) (nI v) ∧ ∃ w1, fX5_suppose τ (xT ξ w0) a3 (nI p) (nI v) = xT ξ w1 ∧ WR τ.length m y w1 (fX6_lays σ a4 (nI p) (nI v))) (l1 : ∀ σ' v, gX6_lays σ' a4 (nI p) v) (l2 : ∀ x v σ', ZF (fX6_lays σ a4 (nI p) x) σ' → ZF (fX6_lays σ a4 (nI p) v) (fX6_lays σ' a4 (nI p) v)) (l3 : ZF σ (fX6_lays σ a4 (nI p) b) ∧ ZF (fX6_lays σ a4 (nI p) b) σ) (hsn : fX5_suppositions τ ξ a3 = nI n) (hn10 : ¬ a3 = 3 → ¬ a3 = 4 → n ≤ 10) : ∃ R w' σ', gX5_supposedTold τ s ξ (nI p) a3 ∧ fX5_supposedTold τ s ξ (nI p) a3 = (R, xT ξ w') ∧ oX6_tells_175 σ (nI s) (nI p) a3 a4 b (nI n + -1) ∧ pX6_tells_175 σ (nI s) (nI p) a3 a4 b (nI n + -1) = (R, σ') ∧ ZF σ σ' := by
  let P : Nat → Bool := fun v => decide (FO (fX6_lays σ a4 (nI p) (nI v)) s p z = -1)
  have hP : ∀ v, v < n → (P v = true ↔ FO (fX6_lays σ a4 (nI p) (nI v)) s p z = -1) := fun v _ => decide_eq_true_iff
  let R : Int32 := if a3 = 4 then fo P n 0 else if a3 = 3 then nI (tC P n) else tB P n
  have hR4 : a3 = 4 → R = fo P n 0 := fun q => if_pos q
  have n34 : ¬ (3 : Int32) = 4 := by decide
  have hR3 : a3 = 3 → R = nI (tC P n) := fun q => (if_neg (by rw [q]; exact n34)).trans (if_pos q)
  have hRb : ¬ a3 = 3 → ¬ a3 = 4 → R = tB P n := fun q r => (if_neg r).trans (if_neg q)
  generalize R = R' at *
  generalize P = P' at *
  have L := sup_c hy hs hz hp hn h6 hx hP (fun v hv => ⟨(hk (nI v)).2.2, fun i hi => by rw [(hk (nI v)).2.1]; exact hx0 i hi⟩) hS hR4 hR3 hRb ξ.2.2.1
  have M := sup_r hy hs hz hp hn (fun v => by rw [(hk v).1]; exact hs39) (fun v => (hk v).2.1) hP (fun v hv => ⟨(hk (nI v)).2.2, by obtain ⟨-, w1, -, q⟩ := hS ξ.2.2.1 v hv; exact ⟨w1, q⟩⟩) l1 l2 l3.1 l3.2 hR4 hR3 (fun q r => ⟨hRb q r, hn10 q r⟩)
  have eξ : xT ξ ξ.2.2.1 = ξ := rfl
  rw [eξ] at L
  obtain ⟨L1, L2, w', L3⟩ := L
  obtain ⟨M1, M2, M3⟩ := M
  unfold gX5_supposedTold oX5_supposedTold_0 fX5_supposedTold pX5_supposedTold_0 oX6_tells_175 pX6_tells_175
  rw [hsn]
  generalize lp (0, xs0) (bX5_supposedTold_16 τ s (nI p) a3 (nI n)) fu (ξ, 0, 0, 0) = u at *
  generalize lp (0, o0) (bX6_tells_190 (nI s) (nI p) a3 a4 b) fu (σ, 0, 0, -1, nI n + -1) = u' at *
  obtain ⟨u1, u2⟩ := u
  obtain ⟨u3, u4⟩ := u'
  have L2 : u1 = R' := L2
  have L3 : u2 = xT ξ w' := L3
  have M2 : u3 = R' := M2
  exact ⟨R', w', u4, L1, by rw [L2, L3], M1, by rw [M2], M3⟩
end

section
/-! steps: tells, the parts -/
def fo (P : Nat → Bool) : Nat → Nat → Int32
  | 0, _ => -1
  | k + 1, t => if P t = true then nI t else fo P k (t + 1)
def tC (P : Nat → Bool) : Nat → Nat
  | 0 => 0
  | t + 1 => if P t = true then tC P t + 1 else tC P t
def tB (P : Nat → Bool) : Nat → Int32
  | 0 => 0
  | t + 1 => if P t = true then tB P t ||| (1 <<< (nI t &&& 31)) else tB P t
theorem fo_t {P : Nat → Bool} {k t : Nat} (h : P t = true) : fo P (k + 1) t = nI t := if_pos h
theorem fo_f {P : Nat → Bool} {k t : Nat} (h : ¬ P t = true) : fo P (k + 1) t = fo P k (t + 1) := if_neg h
theorem tC_t {P : Nat → Bool} {t : Nat} (h : P t = true) : tC P (t + 1) = tC P t + 1 := if_pos h
theorem tC_f {P : Nat → Bool} {t : Nat} (h : ¬ P t = true) : tC P (t + 1) = tC P t := if_neg h
theorem tB_t {P : Nat → Bool} {t : Nat} (h : P t = true) : tB P (t + 1) = tB P t ||| (1 <<< (nI t &&& 31)) := if_pos h
theorem tB_f {P : Nat → Bool} {t : Nat} (h : ¬ P t = true) : tB P (t + 1) = tB P t := if_neg h
theorem fo_cong {P Q : Nat → Bool} {n : Nat} (h : ∀ t, t < n → P t = Q t) : ∀ k t, t + k ≤ n → fo P k t = fo Q k t
  | 0, _, _ => rfl
  | k + 1, t, ht => by
    have e := h t (by omega)
    by_cases c : P t = true
    · rw [fo_t c, fo_t (e ▸ c)]
    · rw [fo_f c, fo_f (e ▸ c), fo_cong h k (t + 1) (by omega)]
def mm (σ : OS) (s p t : Nat) : Bool := !(decide (nI (pcn ((pit σ (t + 1)).2.2.2 11 p)) = σ.2.2.1 40 (40 * s + t)))
theorem mm_t {σ : OS} {s p t : Nat} {a b : Int32} (h : ¬ a = b) (ha : a = nI (pcn ((pit σ (t + 1)).2.2.2 11 p))) (hb : b = σ.2.2.1 40 (40 * s + t)) : mm σ s p t = true := by
  unfold mm
  rw [← ha, ← hb, decide_eq_false h]
  rfl
theorem mm_f {σ : OS} {s p t : Nat} {a b : Int32} (h : a = b) (ha : a = nI (pcn ((pit σ (t + 1)).2.2.2 11 p))) (hb : b = σ.2.2.1 40 (40 * s + t)) : ¬ mm σ s p t = true := by
  unfold mm
  rw [← ha, ← hb, decide_eq_true h]
  exact Bool.false_ne_true
def FO (σ : OS) (s p z : Nat) : Int32 := fo (mm σ s p) z 0
theorem FO_same {τ : TX} {m y : Nat} (hy : y ≤ 999) {w σ σ' : OS} (h : WR τ.length m y w σ) (hT : TXR τ σ) (h' : WR τ.length m y w σ') (hT' : TXR τ σ') {s p z : Nat} (hp : p < m) (hz : z ≤ 20) (h40 : ∀ i, i < z → σ'.2.2.1 40 (40 * s + i) = σ.2.2.1 40 (40 * s + i)) : FO σ s p z = FO σ' s p z := by
  refine fo_cong (n := z) (fun t ht => ?_) z 0 (by omega)
  obtain ⟨w', a, -, -, b, -⟩ := pit_two hy h hT h' hT' (t + 1) (by omega)
  unfold mm
  rw [← a.2.2.2.2.2.2.2.1 p hp, ← b.2.2.2.2.2.2.2.1 p hp, h40 t ht]
theorem first_c {τ : TX} {m y s p z : Nat} (hy : y ≤ 999) (hs : s < 4) (hz : z ≤ 20) (hp : p < m) {w σ : OS} (h : WR τ.length m y w σ) (hT : TXR τ σ) (ξ : XS) (hx : (ξ.2.2.2.2.2 s).1 2 = nI z) (hc : ∀ i, i < z → (ξ.2.2.2.2.2 s).2.2.1 0 i = σ.2.2.1 40 (40 * s + i)) : gX5_firstOtherwise τ s (xT ξ w) (nI p) ∧ (fX5_firstOtherwise τ s (xT ξ w) (nI p)).1 = FO σ s p z ∧ ∃ w', (fX5_firstOtherwise τ s (xT ξ w) (nI p)).2 = xT ξ w' := by
  have m5 := h.1
  have pc : (nI p).toNatClampNeg = p := nI_clamp (by omega)
  have vp5 : vp_in (nI p) 5 := vp_in_nI (by omega) (by decide)
  unfold gX5_firstOtherwise oX5_firstOtherwise_0 fX5_firstOtherwise pX5_firstOtherwise_0
  refine lp_one (d := ((0 : Int32), xs0)) (body := bX5_firstOtherwise_2 τ s (nI p)) (ok := kX5_firstOtherwise_2 τ s (nI p)) (fun k v => ∃ t w', v = (xT ξ w', nI t) ∧ t + k = z ∧ WR τ.length m (y + t) w' (pit σ t) ∧ TXR τ (pit σ t) ∧ FO σ s p z = fo (mm σ s p) k t) (fun r => r.1 = FO σ s p z ∧ ∃ w', r.2 = xT ξ w') ?_ fu z (xT ξ w, 0) ⟨0, w, rfl, by omega, h, hT, rfl⟩ (by show z < 1000; omega)
  rintro k v ⟨t, w', rfl, htk, hW, hT', hF⟩ kR kO hk
  unfold bX5_firstOtherwise_2 kX5_firstOtherwise_2 oX5_firstOtherwise_17 pX5_firstOtherwise_17
  have ex : ∀ u, (xT ξ u).2.2.1 = u := fun _ => rfl
  have ey : ∀ u, (xT ξ u).2.2.2.2.2 s = ξ.2.2.2.2.2 s := fun _ => rfl
  have ez : ∀ u v, xT (xT ξ u) v = xT ξ v := fun _ _ => rfl
  simp only [ex, ey, ez, hx, nI_1, pc]
  by_cases e0 : t < z
  · have c1 : ¬ nI z ≤ nI t := nI_ge e0 (by omega)
    obtain ⟨p1, p2, p3, p4, p5, -⟩ := pass_sim hW hT' (by omega)
    have e8 := p3.2.2.2.2.2.2.2.1 p hp
    have tc : (nI t).toNatClampNeg = t := nI_clamp (by omega)
    have v40 : vp_in (nI t) 40 := vp_in_nI (by omega) (by decide)
    rw [e8, bitCount_eq, tc, hc t e0]
    obtain ⟨k', rfl⟩ : ∃ k', k = k' + 1 := ⟨k - 1, by omega⟩
    by_cases c2 : nI (pcn ((fX6_passes (pit σ t)).2.2.2.2 11 p)) = σ.2.2.1 40 (40 * s + t)
    · have hm := mm_f (σ := σ) (s := s) (p := p) (t := t) c2 rfl rfl
      have K := hk k' (xT ξ (fX4_passYear τ w'), nI (t + 1)) (by omega) ⟨t + 1, _, rfl, by omega, p3, p4, by rw [hF, fo_f hm]⟩
      simp only [↓reduceIte, not_true_eq_false, not_false_eq_true, false_implies, true_implies, implies_true, true_and, and_true, and_self, eq_self, Bool.false_eq_true, c1, p1, vp5, hs, v40, c2]
      exact K
    · have hm := mm_t (σ := σ) (s := s) (p := p) (t := t) c2 rfl rfl
      simp only [↓reduceIte, not_true_eq_false, not_false_eq_true, false_implies, true_implies, implies_true, true_and, and_true, and_self, eq_self, Bool.false_eq_true, c1, p1, vp5, hs, v40, c2]
      exact ⟨by rw [hF, fo_t hm], _, rfl⟩
  · have c1 : nI z ≤ nI t := nI_le (by omega) (by omega)
    obtain rfl : k = 0 := by omega
    simp only [↓reduceIte, not_true_eq_false, not_false_eq_true, false_implies, true_implies, implies_true, true_and, and_true, and_self, eq_self, Bool.false_eq_true, c1, hs]
    exact ⟨by rw [hF]; rfl, _, rfl⟩
theorem first_r {τ : TX} {m y s p z : Nat} (hy : y ≤ 999) (hs : s < 4) (hz : z ≤ 20) (hp : p < m) {w σ : OS} (h : WR τ.length m y w σ) (hT : TXR τ σ) (h39 : σ.2.2.1 39 s = nI z) : gX6_firstOther σ (nI s) (nI p) ∧ (fX6_firstOther σ (nI s) (nI p)).1 = FO σ s p z ∧ ZF σ (fX6_firstOther σ (nI s) (nI p)).2 := by
  have m5 := h.1
  have pc : (nI p).toNatClampNeg = p := nI_clamp (by omega)
  have vp5 : vp_in (nI p) 5 := vp_in_nI (by omega) (by decide)
  have sc : (nI s).toNatClampNeg = s := nI_clamp (by omega)
  have vs4 : vp_in (nI s) 4 := vp_in_nI (by omega) (by decide)
  unfold gX6_firstOther oX6_firstOther_0 fX6_firstOther pX6_firstOther_0 oX6_firstOther_4 pX6_firstOther_4
  obtain ⟨g1, a1⟩ := aside_eq σ
  have W0 := h.af a1
  have T0 := hT.af a1
  generalize fX6_laysAside σ = s0 at *
  have L := lp_one (d := ((0 : Int32), o0)) (body := bX6_firstOther_9 (nI s) (nI p)) (ok := kX6_firstOther_9 (nI s) (nI p)) (fun k v => ∃ t a, v = (pit s0 t, a, nI t) ∧ t + k = z ∧ ((a = -1 ∧ FO σ s p z = fo (mm σ s p) k t) ∨ (FO σ s p z = a ∧ ¬ a = -1))) (fun r => r.1 = FO σ s p z ∧ ZF σ r.2) (by
    rintro k v ⟨t, a, rfl, htk, hF⟩ kR kO hk
    obtain ⟨w', -, -, -, d, e⟩ := pit_two hy h hT W0 T0 t (by omega)
    obtain ⟨-, -, -, cY⟩ := pit_ch hy W0 T0 (t := t) (by omega)
    obtain ⟨k1, k2⟩ := back_eq a1 cY
    have e39 : (pit s0 t).2.2.1 39 s = nI z := by rw [cY.2.2.1 39 (by decide), a1.2.2.1 39 (by decide), h39]
    unfold bX6_firstOther_9 kX6_firstOther_9 oX6_firstOther_29 pX6_firstOther_29 oX6_firstOther_60 pX6_firstOther_60 oX6_firstOther_67 pX6_firstOther_67 pX6_firstOther_71
    simp only [nI_1, pc, sc, e39]
    by_cases e0 : t < z
    · have c1 : ¬ nI z ≤ nI t := nI_ge e0 (by omega)
      rcases hF with ⟨rfl, hF⟩ | ⟨hF, ne⟩
      · obtain ⟨-, p2, -, -, -, -⟩ := pass_sim d e (by omega)
        obtain ⟨w2, a2, -, -, d2, -⟩ := pit_two hy h hT W0 T0 (t + 1) (by omega)
        obtain ⟨-, -, -, cY2⟩ := pit_ch hy W0 T0 (t := t + 1) (by omega)
        have e8 : (pit s0 (t + 1)).2.2.2 11 p = (pit σ (t + 1)).2.2.2 11 p := (d2.2.2.2.2.2.2.2.1 p hp).symm.trans (a2.2.2.2.2.2.2.2.1 p hp)
        have e40 : (pit s0 (t + 1)).2.2.1 40 = σ.2.2.1 40 := by rw [cY2.2.2.1 40 (by decide), a1.2.2.1 40 (by decide)]
        obtain ⟨f1, f2, f3⟩ := forty hs (show t < 40 by omega)
        have es : (fX6_passes (pit s0 t)).2 = pit s0 (t + 1) := rfl
        obtain ⟨b1, b2⟩ := bitsOf_eq ((pit σ (t + 1)).2.2.2 11 p)
        rw [es, e8, e40, b1, f2]
        obtain ⟨k', rfl⟩ : ∃ k', k = k' + 1 := ⟨k - 1, by omega⟩
        generalize hN : nI (pcn ((pit σ (t + 1)).2.2.2 11 p)) = N0 at *
        by_cases c2 : N0 = σ.2.2.1 40 (40 * s + t)
        · have hm := mm_f (σ := σ) (s := s) (p := p) (t := t) c2 hN.symm rfl
          have K := hk k' (pit s0 (t + 1), -1, nI (t + 1)) (by omega) ⟨t + 1, -1, rfl, by omega, Or.inl ⟨rfl, by rw [hF, fo_f hm]⟩⟩
          simp only [↓reduceIte, not_true_eq_false, not_false_eq_true, false_implies, true_implies, implies_true, true_and, and_true, and_self, eq_self, Bool.false_eq_true, c1, vs4, p2, vp5, f3, b2, c2]
          exact K
        · have hm := mm_t (σ := σ) (s := s) (p := p) (t := t) c2 hN.symm rfl
          have K := hk k' (pit s0 (t + 1), nI t, nI (t + 1)) (by omega) ⟨t + 1, nI t, rfl, by omega, Or.inr ⟨by rw [hF, fo_t hm], nI_ne_m1 (by omega)⟩⟩
          simp only [↓reduceIte, not_true_eq_false, not_false_eq_true, false_implies, true_implies, implies_true, true_and, and_true, and_self, eq_self, Bool.false_eq_true, c1, vs4, p2, vp5, f3, b2, c2]
          exact K
      · generalize fX6_laysBack (pit s0 t) = s9 at *
        simp only [↓reduceIte, not_true_eq_false, not_false_eq_true, false_implies, true_implies, implies_true, true_and, and_true, and_self, eq_self, Bool.false_eq_true, c1, vs4, k1, ne]
        exact ⟨hF.symm, k2⟩
    · have c1 : nI z ≤ nI t := nI_le (by omega) (by omega)
      obtain rfl : k = 0 := by omega
      have ea : a = FO σ s p z := by
        rcases hF with ⟨rfl, hF⟩ | ⟨hF, -⟩
        · rw [hF]; rfl
        · exact hF.symm
      generalize fX6_laysBack (pit s0 t) = s9 at *
      simp only [↓reduceIte, not_true_eq_false, not_false_eq_true, false_implies, true_implies, implies_true, true_and, and_true, and_self, eq_self, Bool.false_eq_true, c1, vs4, k1]
      exact ⟨ea, k2⟩) fu z (s0, -1, 0) ⟨0, -1, rfl, by omega, Or.inl ⟨rfl, rfl⟩⟩ (by show z < 1000; omega)
  exact ⟨⟨g1, L.1⟩, L.2⟩
end

section
/-! steps: add -/
def pit (σ : OS) : Nat → OS
  | 0 => σ
  | t + 1 => (fX6_passes (pit σ t)).2
def ct (m : Nat) (σ : OS) (t : Nat) : Nat := pcn (uni ((pit σ t).2.2.2 11) m)
theorem pit_two {τ : TX} {m y : Nat} (hy : y ≤ 999) {w σ σ' : OS} (h : WR τ.length m y w σ) (hT : TXR τ σ) (h' : WR τ.length m y w σ') (hT' : TXR τ σ') : ∀ t, t ≤ 40 → ∃ w', WR τ.length m (y + t) w' (pit σ t) ∧ TXR τ (pit σ t) ∧ YF σ (pit σ t) ∧ WR τ.length m (y + t) w' (pit σ' t) ∧ TXR τ (pit σ' t)
  | 0, _ => ⟨w, h, hT, YF.rfl' σ, h', hT'⟩
  | t + 1, ht => by
    obtain ⟨w', a1, a2, a3, a4, a5⟩ := pit_two hy h hT h' hT' t (by omega)
    obtain ⟨p1, p2, p3, p4, p5, -⟩ := pass_sim a1 a2 (by omega)
    obtain ⟨q1, q2, q3, q4, q5, -⟩ := pass_sim a4 a5 (by omega)
    exact ⟨_, p3, p4, a3.tr p5, q3, q4⟩
theorem pit_ch {τ : TX} {m y : Nat} (hy : y ≤ 999) {w σ : OS} (h : WR τ.length m y w σ) (hT : TXR τ σ) {t : Nat} (ht : t ≤ 40) : ∃ w', WR τ.length m (y + t) w' (pit σ t) ∧ TXR τ (pit σ t) ∧ YF σ (pit σ t) := by
  obtain ⟨w', a, b, c, -⟩ := pit_two hy h hT h hT t ht
  exact ⟨w', a, b, c⟩
theorem ct_same {τ : TX} {m y : Nat} (hy : y ≤ 999) {w σ σ' : OS} (h : WR τ.length m y w σ) (hT : TXR τ σ) (h' : WR τ.length m y w σ') (hT' : TXR τ σ') {t : Nat} (ht : t ≤ 40) : ct m σ t = ct m σ' t := by
  obtain ⟨w', a, -, -, b, -⟩ := pit_two hy h hT h' hT' t ht
  unfold ct
  rw [uni_cong (fun p hp => (a.2.2.2.2.2.2.2.1 p hp).symm.trans (b.2.2.2.2.2.2.2.1 p hp))]
theorem ct_down {τ : TX} {m y : Nat} (hy : y ≤ 999) {w σ : OS} (h : WR τ.length m y w σ) (hT : TXR τ σ) (t : Nat) : ∀ k, t + k ≤ 40 → ct m σ (t + k) ≤ ct m σ t
  | 0, _ => Nat.le_refl _
  | k + 1, hk => by
    obtain ⟨w', a, b, -⟩ := pit_ch hy h hT (t := t + k) (by omega)
    obtain ⟨-, -, -, -, -, c, -, e⟩ := pass_sim a b (by omega)
    have ih := ct_down hy h hT t k (by omega)
    unfold ct at ih ⊢
    show pcn (uni ((fX6_passes (pit σ (t + k))).2.2.2.2 11) m) ≤ _
    omega
theorem go_pit {τ : TX} {m y n : Nat} (hn : n ≤ 40) (hy : y ≤ 999) {w σ : OS} (h : WR τ.length m y w σ) (hT : TXR τ σ) : fX6_go σ (nI n) = pit σ n ∧ gX6_go σ (nI n) := by
  refine lp_run (d := o0) (body := bX6_go_2 (nI n)) (ok := kX6_go_2 (nI n)) (fun k v r => ∃ t, v = (pit σ t, nI t) ∧ t + k = n ∧ r = pit σ n) ?_ fu n (σ, 0) _ ⟨0, rfl, by omega, rfl⟩ (by show n < 1000; omega)
  rintro k v r ⟨t, rfl, htk, rfl⟩ kR kO hk
  unfold bX6_go_2 kX6_go_2 oX6_go_11 pX6_go_11
  simp only [nI_1]
  by_cases e0 : t < n
  · have c1 : ¬ nI n ≤ nI t := nI_ge e0 (by omega)
    obtain ⟨w', a, b, -⟩ := pit_ch hy h hT (t := t) (by omega)
    obtain ⟨-, p2, -⟩ := pass_sim a b (by omega)
    have K := hk (k - 1) (pit σ (t + 1), nI (t + 1)) _ (by omega) ⟨t + 1, rfl, by omega, rfl⟩
    simp only [↓reduceIte, not_true_eq_false, not_false_eq_true, false_implies, true_implies, implies_true, true_and, and_true, and_self, eq_self, Bool.false_eq_true, c1, p2]
    exact K
  · have c1 : nI n ≤ nI t := nI_le (by omega) (by omega)
    simp only [↓reduceIte, not_true_eq_false, not_false_eq_true, false_implies, true_implies, implies_true, true_and, and_true, and_self, eq_self, Bool.false_eq_true, c1]
    rw [show t = n by omega]
theorem cb_eq {τ : TX} {m y n : Nat} (hn : n ≤ 40) (hy : y ≤ 999) {w σ : OS} (h : WR τ.length m y w σ) (hT : TXR τ σ) (fl : Int32) : gX4_countBehind τ w (nI n) fl ∧ ∃ r, (fX4_countBehind τ w (nI n) fl).1 = nI r ∧ r ≤ 64 ∧ (r = ct m σ n ∨ (nI r ≤ fl ∧ ct m σ n ≤ r)) := by
  obtain ⟨u1, u2⟩ := cu4_eq h.1 h.2.1.1
  unfold gX4_countBehind oX4_countBehind_0 fX4_countBehind pX4_countBehind_0
  rw [u2, uni_cong h.2.2.2.2.2.2.2.1]
  have L := lp_one (d := ((0 : Int32), o0)) (body := bX4_countBehind_8 τ (nI n) fl) (ok := kX4_countBehind_8 τ (nI n) fl) (fun k v => ∃ t w', v = (w', nI (ct m σ t), nI t) ∧ t + k = n ∧ WR τ.length m (y + t) w' (pit σ t) ∧ TXR τ (pit σ t)) (fun x => ∃ r, x.1 = nI r ∧ r ≤ 64 ∧ (r = ct m σ n ∨ (nI r ≤ fl ∧ ct m σ n ≤ r))) (by
    rintro k v ⟨t, w', rfl, htk, hW, hT'⟩ kR kO hk
    unfold bX4_countBehind_8 kX4_countBehind_8 oX4_countBehind_23 pX4_countBehind_23
    simp only [nI_1]
    have le := pcn_le (uni ((pit σ t).2.2.2 11) m)
    by_cases e0 : t < n
    · have c1 : ¬ nI n ≤ nI t := nI_ge e0 (by omega)
      by_cases c2 : nI (ct m σ t) ≤ fl
      · simp only [↓reduceIte, not_true_eq_false, not_false_eq_true, false_implies, true_implies, implies_true, true_and, and_true, and_self, eq_self, Bool.false_eq_true, c1, c2]
        have := ct_down hy h hT t (n - t) (by omega)
        rw [show t + (n - t) = n by omega] at this
        exact ⟨ct m σ t, rfl, le, Or.inr ⟨c2, this⟩⟩
      · obtain ⟨p1, p2, p3, p4, p5, -⟩ := pass_sim hW hT' (by omega)
        obtain ⟨v1, v2⟩ := cu4_eq p3.1 p3.2.1.1
        have ev : fX4_countUp (fX4_passYear τ w') = nI (ct m σ (t + 1)) := by rw [v2, uni_cong p3.2.2.2.2.2.2.2.1]; rfl
        have K := hk (k - 1) (fX4_passYear τ w', nI (ct m σ (t + 1)), nI (t + 1)) (by omega) ⟨t + 1, _, rfl, by omega, p3, p4⟩
        simp only [↓reduceIte, not_true_eq_false, not_false_eq_true, false_implies, true_implies, implies_true, true_and, and_true, and_self, eq_self, Bool.false_eq_true, c1, c2, p1, v1, ev]
        exact K
    · have c1 : nI n ≤ nI t := nI_le (by omega) (by omega)
      simp only [↓reduceIte, not_true_eq_false, not_false_eq_true, false_implies, true_implies, implies_true, true_and, and_true, and_self, eq_self, Bool.false_eq_true, c1]
      exact ⟨ct m σ t, rfl, le, Or.inl (by rw [show t = n by omega])⟩) fu n (w, nI (pcn (uni (σ.2.2.2 11) m)), 0) ⟨0, w, rfl, by omega, h, hT⟩ (by show n < 1000; omega)
  exact ⟨⟨u1, L.1⟩, L.2⟩
theorem row11_of (σ : OS) (p : Nat) (x : Int64) : YF σ (oT σ 11 p x) := ⟨fun _ _ _ _ => rfl, fun _ _ => rfl, fun _ _ => rfl, fun k hk => oT_n _ _ _ hk⟩
theorem pb_eq {τ : TX} {m y n : Nat} (hn : n ≤ 40) (hy : y ≤ 999) {w σ : OS} (h : WR τ.length m y w σ) (hT : TXR τ σ) {p : Nat} (hp : p < m) {C : Int64} (hP : PI m (σ.2.1 9) (vp_updL (σ.2.2.2 11) p (σ.2.2.2 11 p ||| C))) : gX6_putBehind σ (nI p) C (nI n) ∧ (fX6_putBehind σ (nI p) C (nI n)).1 = nI (ct m (oT σ 11 p (σ.2.2.2 11 p ||| C)) n) ∧ ZF σ (fX6_putBehind σ (nI p) C (nI n)).2 := by
  have m5 := h.1
  have pc : (nI p).toNatClampNeg = p := nI_clamp (by omega)
  have vp5 : vp_in (nI p) 5 := vp_in_nI (by omega) (by decide)
  unfold gX6_putBehind oX6_putBehind_0 fX6_putBehind pX6_putBehind_0 oX6_putBehind_4 pX6_putBehind_4 oX6_putBehind_20 pX6_putBehind_20 pX6_putBehind_33
  obtain ⟨g1, a1⟩ := aside_eq σ
  rw [pc]
  generalize fX6_laysAside σ = s0 at *
  have e11 : s0.2.2.2 11 = σ.2.2.2 11 := a1.2.2.2.1 11 (by decide)
  have e9 : s0.2.1 9 = σ.2.1 9 := by rw [a1.2.1]
  rw [e11]
  generalize hX : σ.2.2.2 11 p ||| C = X at *
  have W0 := h.put hp hP
  have W1 : WR τ.length m y (oT w 3 p X) (oT s0 11 p X) := (h.af a1).put hp (by rw [e9, e11]; exact hP)
  have T0 : TXR τ (oT σ 11 p X) := hT.yf (row11_of _ _ _)
  have T1 : TXR τ (oT s0 11 p X) := (hT.af a1).yf (row11_of _ _ _)
  have y1 := row11_of s0 p X
  have same := ct_same hy W0 T0 W1 T1 (t := n) (by omega)
  generalize oT s0 11 p X = s1 at *
  obtain ⟨e, g2⟩ := go_pit hn hy W1 T1
  obtain ⟨w', c1, c2, c3⟩ := pit_ch hy W1 T1 (t := n) (by omega)
  obtain ⟨s1', s2⟩ := putAll_eq c1.1 c1.2.1.2
  obtain ⟨k1, k2⟩ := back_eq a1 (y1.tr c3)
  have hct : ct m s1 n = pcn (uni ((pit s1 n).2.2.2 11) m) := rfl
  rw [hct] at same
  rw [e, s2]
  generalize uni ((pit s1 n).2.2.2 11) m = Z at *
  generalize pit s1 n = s3 at *
  obtain ⟨b1, b2⟩ := bitsOf_eq Z
  rw [b1, same]
  generalize nI (pcn Z) = N0 at *
  refine And.intro ?_ (And.intro ?_ ?_)
  · exact And.intro g1 (And.intro vp5 (And.intro vp5 (And.intro g2 (And.intro s1' (And.intro b2 k1)))))
  · rfl
  · generalize fX6_laysBack s3 = s4 at *
    dsimp only
    exact k2
end

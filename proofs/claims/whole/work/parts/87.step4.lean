section
/-! steps: regrets, set, the image -/
theorem PI.new {m : Nat} {h : Int64} {U : Nat → Int64} (d : PI m h U) : PI (m + 1) h (vp_updL U m 0) := by
  have eU : ∀ p, p < m → vp_updL U m 0 p = U p := fun p hp => uL_n _ _ (by omega)
  have e0 : vp_updL U m 0 m = 0 := uL_s _ _ _
  have eu : uni (vp_updL U m 0) (m + 1) = uni U m := by
    show uni (vp_updL U m 0) m ||| vp_updL U m 0 m = _
    rw [uni_cong eU, e0]
    exact tb_ext (fun i _ => by rw [tb_or, tb_0, Bool.or_false])
  refine ⟨⟨fun p q i hp hq hne hi e1 e2 => ?_, fun p i hp hi e => ?_⟩, fun p hp i hi e => ?_⟩
  · by_cases c1 : p = m
    · subst c1; rw [e0, tb_0] at e1; cases e1
    · by_cases c2 : q = m
      · subst c2; rw [e0, tb_0] at e2; cases e2
      · rw [eU p (by omega)] at e1
        rw [eU q (by omega)] at e2
        exact d.1.1 p q i (by omega) (by omega) hne hi e1 e2
  · by_cases c1 : p = m
    · subst c1; rw [e0, tb_0] at e; cases e
    · rw [eU p (by omega)] at e
      exact d.1.2 p i (by omega) hi e
  · rw [eu]
    by_cases c1 : p = m
    · subst c1; rw [e0, tb_0] at e; cases e
    · rw [eU p (by omega)] at e
      exact d.2 p (by omega) i hi e
/-- a regret more -/
def N5 (w : OS) (m k u f : Nat) : OS := oI (oT (oS (oS (oS w 0 m (nI k)) 1 m (nI u)) 2 m (nI f)) 3 m 0) 4 (nI (m + 1))
def M5 (σ : OS) (m k u f : Nat) : OS := oI (oT (oS (oS (oS σ 10 (3 * m) (nI u)) 10 (3 * m + 1) (nI f)) 10 (3 * m + 2) (nI k)) 11 m 0) 12 (nI (m + 1))
theorem WR.new {N m y : Nat} {w σ : OS} (h : WR N m y w σ) (hm : m < 5) {k u f : Nat} (hk : k ≤ 5) (hu : u ≤ 9) (hf : f ≤ 99) : WR N (m + 1) y (N5 w m k u f) (M5 σ m k u f) := by
  obtain ⟨a1, a2, a3, a4, a5, a6, a7, a8, a9⟩ := h
  have r0 : (N5 w m k u f).2.2.1 0 = upd (w.2.2.1 0) m (nI k) := rfl
  have r1 : (N5 w m k u f).2.2.1 1 = upd (w.2.2.1 1) m (nI u) := rfl
  have r2 : (N5 w m k u f).2.2.1 2 = upd (w.2.2.1 2) m (nI f) := rfl
  have r3 : (N5 w m k u f).2.2.2 3 = vp_updL (w.2.2.2 3) m 0 := rfl
  have q0 : (M5 σ m k u f).2.2.1 10 = upd (upd (upd (σ.2.2.1 10) (3 * m) (nI u)) (3 * m + 1) (nI f)) (3 * m + 2) (nI k) := by
    show (oS (oS (oS σ 10 (3 * m) (nI u)) 10 (3 * m + 1) (nI f)) 10 (3 * m + 2) (nI k)).2.2.1 10 = _
    rw [oS_row, oS_row, oS_row]
  have q1 : (M5 σ m k u f).2.2.2 11 = vp_updL (σ.2.2.2 11) m 0 := rfl
  refine ⟨by omega, ⟨rfl, rfl⟩, a3, a4, a5, a6, fun p hp => ?_, fun p hp => ?_, ?_⟩
  · unfold RW
    rw [r0, r1, r2, q0]
    by_cases e : p = m
    · subst e
      refine ⟨k, u, f, hk, hu, hf, ⟨ud_s _ _ _, ud_s _ _ _⟩, ⟨ud_s _ _ _, ?_⟩, ⟨ud_s _ _ _, ?_⟩⟩
      · rw [ud_n _ _ (by omega), ud_n _ _ (by omega), ud_s]
      · rw [ud_n _ _ (by omega), ud_s]
    · obtain ⟨k', u', f', b0, b1, b2, b3, b4, b5⟩ := a7 p (by omega)
      refine ⟨k', u', f', b0, b1, b2, ⟨(ud_n _ _ e).trans b3.1, ?_⟩, ⟨(ud_n _ _ e).trans b4.1, ?_⟩, ⟨(ud_n _ _ e).trans b5.1, ?_⟩⟩
      · rw [ud_n _ _ (by omega), ud_n _ _ (by omega), ud_n _ _ (by omega)]; exact b3.2
      · rw [ud_n _ _ (by omega), ud_n _ _ (by omega), ud_n _ _ (by omega)]; exact b4.2
      · rw [ud_n _ _ (by omega), ud_n _ _ (by omega), ud_n _ _ (by omega)]; exact b5.2
  · rw [r3, q1]
    by_cases e : p = m
    · subst e; rw [uL_s, uL_s]
    · rw [uL_n _ _ e, uL_n _ _ e]; exact a8 p (by omega)
  · rw [q1]; exact a9.new
theorem regret_eq {τ : TX} {ξ : XS} {σ : OS} (h : Rel τ ξ σ) (x z v : Int32) : gX5_regret τ ξ x z v ∧ gX6_regret σ x z v ∧ (fX5_regret τ ξ x z v).1 = (fX6_regret σ x z v).1 ∧ Rel τ (fX5_regret τ ξ x z v).2 (fX6_regret σ x z v).2 ∧ (fX5_regret τ ξ x z v).2.2.2 = ξ.2.2 ∧ ∀ k, ¬ k = 10 → (fX6_regret σ x z v).2.2.2.1 k = σ.2.2.1 k := by
  obtain ⟨m, y, hy, hw⟩ := h.1
  have m5 := hw.1
  unfold gX5_regret oX5_regret_0 fX5_regret pX5_regret_0 gX6_regret oX6_regret_0 fX6_regret pX6_regret_0
  have gk : gX5_isKind x := wi_nb _ _
  rcases wic x (m := 5) (by decide) with ⟨a, b⟩ | ⟨a, b, k, hk, rfl⟩
  · have a : fX5_isKind x = 0 := a
    have b : fX6_in x.toInt64 0 5 = 0 := b
    simp only [↓reduceIte, not_true_eq_false, not_false_eq_true, false_implies, true_implies, implies_true, true_and, and_true, and_self, eq_self, Bool.false_eq_true, gk, a, b]
    exact h
  · have a : fX5_isKind (nI k) = 1 := a
    have b : fX6_in (nI k).toInt64 0 5 = 1 := b
    rcases wic z (m := 9) (by decide) with ⟨a', b'⟩ | ⟨a', b', u, hu, rfl⟩
    · have a' : fX5_within z 9 = 0 := a'
      have b' : fX6_in z.toInt64 0 9 = 0 := b'
      simp only [↓reduceIte, not_true_eq_false, not_false_eq_true, false_implies, true_implies, implies_true, true_and, and_true, and_self, eq_self, Bool.false_eq_true, gk, a, b, one_ne, a', b']
      exact h
    · have a' : fX5_within (nI u) 9 = 1 := a'
      have b' : fX6_in (nI u).toInt64 0 9 = 1 := b'
      rcases wic v (m := 99) (by decide) with ⟨a2, b2⟩ | ⟨a2, b2, f, hf, rfl⟩
      · have a2 : fX5_within v 99 = 0 := a2
        have b2 : fX6_in v.toInt64 0 99 = 0 := b2
        simp only [↓reduceIte, not_true_eq_false, not_false_eq_true, false_implies, true_implies, implies_true, true_and, and_true, and_self, eq_self, Bool.false_eq_true, gk, a, b, one_ne, a', b', a2, b2]
        exact h
      · have a2 : fX5_within (nI f) 99 = 1 := a2
        have b2 : fX6_in (nI f).toInt64 0 99 = 1 := b2
        by_cases c : m < 5
        · have c1 : nI m < 5 := nI_lt (b := 5) c (by decide)
          have c2 : ¬ nI m = 5 := nI_ne (b := 5) (by omega) (by omega) (by decide)
          have vm : vp_in (nI m) 5 := vp_in_nI c (by decide)
          have mc : (nI m).toNatClampNeg = m := nI_clamp (by omega)
          obtain ⟨t1, t2, t3, t4, t5, t6, t7, t8, t9⟩ := three c
          have kA : ∀ z, (oS σ 10 (3 * m) z).1 12 = nI m := fun _ => hw.2.1.2
          have kB : ∀ z z', (oS (oS σ 10 (3 * m) z) 10 (3 * m + 1) z').1 12 = nI m := fun _ _ => hw.2.1.2
          have kC : ∀ z z' z'', (oS (oS (oS σ 10 (3 * m) z) 10 (3 * m + 1) z') 10 (3 * m + 2) z'').1 12 = nI m := fun _ _ _ => hw.2.1.2
          have kD : ∀ z z' z'', (oT (oS (oS (oS σ 10 (3 * m) z) 10 (3 * m + 1) z') 10 (3 * m + 2) z'') 11 m 0).1 12 = nI m := fun _ _ _ => hw.2.1.2
          have p1 : nI (m + 1) - 1 = nI m := nI_pred m
          rw [hw.2.1.1, hw.2.1.2]
          simp only [t4, t5, t6, mc, kA, kB, kC, kD, nI_1, oI_s, p1]
          simp only [↓reduceIte, not_true_eq_false, not_false_eq_true, false_implies, true_implies, implies_true, true_and, and_true, and_self, eq_self, Bool.false_eq_true, gk, a, b, one_ne, a', b', a2, b2, c1, c2, vm, t7, t8, t9]
          refine ⟨?_, rfl, fun k hk => ?_⟩
          · exact h.world ⟨m + 1, y, hy, hw.new c hk hu hf⟩ ⟨rfl, rfl, fun j a b => oI_n _ _ (by omega), rfl, fun k hk => (up_n _ _ (by omega)).trans ((up_n _ _ (by omega)).trans (up_n _ _ (by omega))), oT_n _ _ _ (by decide)⟩ rfl rfl
          · exact (up_n _ _ hk).trans ((up_n _ _ hk).trans (up_n _ _ hk))
        · have em : m = 5 := by omega
          subst em
          have c1 : ¬ nI 5 < 5 := by decide
          have c2 : nI 5 = 5 := rfl
          rw [hw.2.1.1, hw.2.1.2]
          simp only [↓reduceIte, not_true_eq_false, not_false_eq_true, false_implies, true_implies, implies_true, true_and, and_true, and_self, eq_self, Bool.false_eq_true, gk, a, b, one_ne, a', b', a2, b2, c1, eq_true c2]
          exact h
theorem ps_regret : PS_regret Rel := fun τ ξ σ x z v h => by
  obtain ⟨a, b, c, d, -⟩ := regret_eq h x z v
  exact ⟨a, b, c, d⟩
theorem DJ.house {m : Nat} {U : Nat → Int64} {h h' : Int64} (d : DJ m U h) (hs : ∀ p i, p < m → i < 64 → tb (U p) i = true → tb h' i = true → tb h i = true) : DJ m U h' := ⟨d.1, fun p i hp hi e e2 => d.2 p i hp hi e (hs p i hp hi e e2)⟩
theorem house_eq (h : Int64) {c v : Nat} (hc : c < 64) (hv : v ≤ 1) : (h &&& (jshl 1 (nI c) ^^^ (-1))) ||| jshl (nI v).toInt64 (nI c) = if v = 1 then h ||| jshl 1 (nI c) else h &&& (jshl 1 (nI c) ^^^ (-1)) := by
  rcases (by omega : v = 0 ∨ v = 1) with rfl | rfl
  · rw [if_neg (by decide)]
    refine tb_ext (fun i hi => ?_)
    rw [tb_or, show (nI 0).toInt64 = 0 from rfl, tb_shl 0 hc hi, tb_0]
    simp
  · rw [if_pos rfl]
    refine tb_ext (fun i hi => ?_)
    rw [tb_or, tb_or, tb_and, tb_not _ hi, show (nI 1).toInt64 = 1 from rfl, tb_bit hc hi]
    by_cases e : i = c <;> simp [e]
theorem WR.year {N m y : Nat} {w σ : OS} (h : WR N m y w σ) (y' : Nat) : WR N m y' (oI w 5 (nI y')) (oI σ 7 (nI y')) := by
  obtain ⟨a1, a2, a3, a4, a5, a6, a7, a8, a9⟩ := h
  exact ⟨a1, a2, ⟨rfl, rfl⟩, a4, a5, a6, a7, a8, a9⟩
theorem WR.numb {N m y : Nat} {w σ : OS} (h : WR N m y w σ) {p u : Nat} (hp : p < m) (hu : u ≤ 9) : WR N m y (oS w 1 p (nI u)) (oS σ 10 (3 * p) (nI u)) := by
  obtain ⟨a1, a2, a3, a4, a5, a6, a7, a8, a9⟩ := h
  refine ⟨a1, a2, a3, a4, a5, a6, fun r hr => ?_, a8, a9⟩
  obtain ⟨k, u', f, b0, b1, b2, b3, b4, b5⟩ := a7 r hr
  unfold RW
  rw [show (oS w 1 p (nI u)).2.2.1 0 = w.2.2.1 0 from rfl, show (oS w 1 p (nI u)).2.2.1 2 = w.2.2.1 2 from rfl, oS_row, oS_row]
  by_cases e : r = p
  · subst e
    exact ⟨k, u, f, b0, hu, b2, ⟨b3.1, (ud_n _ _ (by omega)).trans b3.2⟩, ⟨ud_s _ _ _, ud_s _ _ _⟩, ⟨b5.1, (ud_n _ _ (by omega)).trans b5.2⟩⟩
  · exact ⟨k, u', f, b0, b1, b2, ⟨b3.1, (ud_n _ _ (by omega)).trans b3.2⟩, ⟨(ud_n _ _ e).trans b4.1, (ud_n _ _ (by omega)).trans b4.2⟩, ⟨b5.1, (ud_n _ _ (by omega)).trans b5.2⟩⟩
theorem WR.firm {N m y : Nat} {w σ : OS} (h : WR N m y w σ) {p f : Nat} (hp : p < m) (hf : f ≤ 99) : WR N m y (oS w 2 p (nI f)) (oS σ 10 (3 * p + 1) (nI f)) := by
  obtain ⟨a1, a2, a3, a4, a5, a6, a7, a8, a9⟩ := h
  refine ⟨a1, a2, a3, a4, a5, a6, fun r hr => ?_, a8, a9⟩
  obtain ⟨k, u, f', b0, b1, b2, b3, b4, b5⟩ := a7 r hr
  unfold RW
  rw [show (oS w 2 p (nI f)).2.2.1 0 = w.2.2.1 0 from rfl, show (oS w 2 p (nI f)).2.2.1 1 = w.2.2.1 1 from rfl, oS_row, oS_row]
  by_cases e : r = p
  · subst e
    exact ⟨k, u, f, b0, b1, hf, ⟨b3.1, (ud_n _ _ (by omega)).trans b3.2⟩, ⟨b4.1, (ud_n _ _ (by omega)).trans b4.2⟩, ⟨ud_s _ _ _, ud_s _ _ _⟩⟩
  · exact ⟨k, u, f', b0, b1, b2, ⟨b3.1, (ud_n _ _ (by omega)).trans b3.2⟩, ⟨b4.1, (ud_n _ _ (by omega)).trans b4.2⟩, ⟨(ud_n _ _ e).trans b5.1, (ud_n _ _ (by omega)).trans b5.2⟩⟩
theorem WR.kind {N m y : Nat} {w σ : OS} (h : WR N m y w σ) {p k : Nat} (hp : p < m) (hk : k ≤ 5) : WR N m y (oS w 0 p (nI k)) (oS σ 10 (3 * p + 2) (nI k)) := by
  obtain ⟨a1, a2, a3, a4, a5, a6, a7, a8, a9⟩ := h
  refine ⟨a1, a2, a3, a4, a5, a6, fun r hr => ?_, a8, a9⟩
  obtain ⟨k', u, f, b0, b1, b2, b3, b4, b5⟩ := a7 r hr
  unfold RW
  rw [show (oS w 0 p (nI k)).2.2.1 1 = w.2.2.1 1 from rfl, show (oS w 0 p (nI k)).2.2.1 2 = w.2.2.1 2 from rfl, oS_row, oS_row]
  by_cases e : r = p
  · subst e
    exact ⟨k, u, f, hk, b1, b2, ⟨ud_s _ _ _, ud_s _ _ _⟩, ⟨b4.1, (ud_n _ _ (by omega)).trans b4.2⟩, ⟨b5.1, (ud_n _ _ (by omega)).trans b5.2⟩⟩
  · exact ⟨k', u, f, b0, b1, b2, ⟨(ud_n _ _ e).trans b3.1, (ud_n _ _ (by omega)).trans b3.2⟩, ⟨b4.1, (ud_n _ _ (by omega)).trans b4.2⟩, ⟨b5.1, (ud_n _ _ (by omega)).trans b5.2⟩⟩
theorem row_of (σ : OS) (i : Nat) (x : Int32) : OF σ (oS σ 10 i x) := ⟨rfl, rfl, fun _ _ _ => rfl, rfl, fun k hk => up_n _ _ (by omega), rfl⟩
/-- what the reference tells of one: year, number, firm, kind -/
theorem told_4 {N m y : Nat} {w σ : OS} (hw : WR N m y w σ) {p : Nat} (hp : p < m) {j : Nat} (hj : 1 ≤ j) (hj3 : j ≤ 3) : gX6_told σ (nI p) (nI j) ∧ fX6_told σ (nI p) (nI j) = (σ.2.2.1 10 (3 * p + j - 1), σ) ∧ (3 * nI p + nI j - 1).toNatClampNeg = 3 * p + j - 1 ∧ vp_in (3 * nI p + nI j - 1) 15 := by
  have m5 := hw.1
  have b : fX6_in (nI j).toInt64 0 8 = 1 := by
    have e : fX6_in (nI j).toInt64 0 8 = fX5_within (nI j) (nI 8) := in_w (nI j) (m := 8) (by decide)
    rw [e]; exact wi_in (by omega) (by decide)
  have o2 : fX6_isOne σ (nI p) = 1 := by
    unfold fX6_isOne pX6_isOne_0
    rw [hw.2.1.2]
    rcases lessc (nI p) (show m ≤ 100 by omega) with ⟨c, -⟩ | ⟨-, e, -⟩
    · exact absurd c (fun c => c.elim (fun c => nI_pos (by omega) c) (fun c => nI_ge hp (by omega) c))
    · exact e
  have g : gX6_isOne σ (nI p) := in_nb _ _ _
  have d1 : ¬ nI j = 0 := nI_ne (b := 0) (by omega) (by omega) (by decide)
  have d2 : ¬ nI j ≤ 0 := nI_nle (by omega) (by omega)
  have d8 : ¬ nI j = 8 := nI_ne (b := 8) (by omega) (by omega) (by decide)
  have d4 : ¬ (4 : Int32) ≤ nI j := nI_ge (b := 4) (by omega) (by decide)
  have t1 : 3 * nI p + nI j - 1 = nI (3 * p + j - 1) := by
    rw [show (3 : Int32) = nI 3 from rfl, nI_mul, nI_add, show (1 : Int32) = nI 1 from rfl, pk_sub (by omega)]
  have cl : (nI (3 * p + j - 1)).toNatClampNeg = 3 * p + j - 1 := nI_clamp (by omega)
  have vp : vp_in (nI (3 * p + j - 1)) 15 := vp_in_nI (by omega) (by decide)
  unfold gX6_told oX6_told_0 fX6_told pX6_told_0 oX6_told_43 pX6_told_43
  simp only [↓reduceIte, not_true_eq_false, not_false_eq_true, false_implies, true_implies, implies_true, true_and, and_true, and_self, eq_self, Bool.false_eq_true, b, one_ne, d1, d2, d8, d4, g, o2, t1, cl, vp]
theorem told_0 {N m y : Nat} {w σ : OS} (hw : WR N m y w σ) (x : Int32) : gX6_told σ x 0 ∧ fX6_told σ x 0 = (nI y, σ) := by
  have b : fX6_in (0 : Int32).toInt64 0 8 = 1 := by decide
  have d2 : (0 : Int32) ≤ 0 := by decide
  have d3 : ¬ (4 : Int32) ≤ 0 := by decide
  unfold gX6_told oX6_told_0 fX6_told pX6_told_0 oX6_told_43 pX6_told_43
  simp only [↓reduceIte, not_true_eq_false, not_false_eq_true, false_implies, true_implies, implies_true, true_and, and_true, and_self, eq_self, Bool.false_eq_true, b, one_ne, d2, d3, hw.2.2.1.2]
theorem ps_set : PS_set Rel := by
  intro τ ξ σ x z v h
  obtain ⟨m, y, hy, hw⟩ := h.1
  have m5 := hw.1
  obtain ⟨s1, s2, s3, s4, s5, s6, s7, s8⟩ := hw.sets
  obtain ⟨g, ho⟩ := onec (τ := τ) hw.1 hw.2.1.1 hw.2.1.2 z
  unfold gX5_set oX5_set_0 fX5_set pX5_set_0 pX5_set_37 pX5_set_53 pX5_set_69 pX5_set_76 gX6_set oX6_set_0 fX6_set pX6_set_0 oX6_set_39 pX6_set_39
  rcases wic x (m := 3) (by decide) with ⟨a, b⟩ | ⟨a, b, j, hj, rfl⟩
  · have b : fX6_in x.toInt64 0 3 = 0 := b
    have a : fX5_within x (nI 3) = 0 := a
    have ne : ∀ j, j ≤ 3 → ¬ x = nI j := fun j hj e => by rw [e, wi_in hj (by decide)] at a; exact one_ne a
    have n0 : ¬ x = 0 := ne 0 (by decide)
    have n1 : ¬ x = 1 := ne 1 (by decide)
    have n2 : ¬ x = 2 := ne 2 (by decide)
    have n3 : ¬ x = 3 := ne 3 (by decide)
    simp only [↓reduceIte, not_true_eq_false, not_false_eq_true, false_implies, true_implies, implies_true, true_and, and_true, and_self, eq_self, Bool.false_eq_true, b, n0, n1, n2, n3]
    exact h
  · have b : fX6_in (nI j).toInt64 0 3 = 1 := b
    rcases (by omega : j = 0 ∨ j = 1 ∨ j = 2 ∨ j = 3) with rfl | rfl | rfl | rfl
    · -- the year
      have mo : (fX6_mostOf (nI 0)).toInt64 = lN 999 := by decide
      unfold fX5_changeYear pX5_changeYear_0
      rcases wic v (m := 999) (by decide) with ⟨a1, b1⟩ | ⟨a1, b1, u, hu, rfl⟩
      · have a1 : fX5_within v 999 = 0 := a1
        simp only [↓reduceIte, not_true_eq_false, not_false_eq_true, false_implies, true_implies, implies_true, true_and, and_true, and_self, eq_self, Bool.false_eq_true, b, one_ne, kne_0_1, kne_0_2, kne_0_3, kne_0_4, kne_0_5, kne_0_6, kne_1_0, kne_1_2, kne_1_3, kne_1_4, kne_1_5, kne_1_6, kne_2_0, kne_2_1, kne_2_3, kne_2_4, kne_2_5, kne_2_6, kne_3_0, kne_3_1, kne_3_2, kne_3_4, kne_3_5, kne_3_6, kne_4_0, kne_4_1, kne_4_2, kne_4_3, kne_4_5, kne_4_6, kne_5_0, kne_5_1, kne_5_2, kne_5_3, kne_5_4, kne_5_6, kne_6_0, kne_6_1, kne_6_2, kne_6_3, kne_6_4, kne_6_5, keq_0, keq_1, keq_2, keq_3, keq_4, keq_5, keq_6, mo, b1, a1]
        exact h
      · have a1 : fX5_within (nI u) 999 = 1 := a1
        obtain ⟨t1, t2⟩ := told_0 hw z
        have t1 : gX6_told σ z (nI 0) := t1
        have t2 : fX6_told σ z (nI 0) = (nI y, σ) := t2
        unfold oX6_set_76 pX6_set_76 oX6_set_106 pX6_set_106 pX6_set_149 gX6_lays oX6_lays_0 fX6_lays pX6_lays_0
        simp only [↓reduceIte, not_true_eq_false, not_false_eq_true, false_implies, true_implies, implies_true, true_and, and_true, and_self, eq_self, Bool.false_eq_true, b, one_ne, kne_0_1, kne_0_2, kne_0_3, kne_0_4, kne_0_5, kne_0_6, kne_1_0, kne_1_2, kne_1_3, kne_1_4, kne_1_5, kne_1_6, kne_2_0, kne_2_1, kne_2_3, kne_2_4, kne_2_5, kne_2_6, kne_3_0, kne_3_1, kne_3_2, kne_3_4, kne_3_5, kne_3_6, kne_4_0, kne_4_1, kne_4_2, kne_4_3, kne_4_5, kne_4_6, kne_5_0, kne_5_1, kne_5_2, kne_5_3, kne_5_4, kne_5_6, kne_6_0, kne_6_1, kne_6_2, kne_6_3, kne_6_4, kne_6_5, keq_0, keq_1, keq_2, keq_3, keq_4, keq_5, keq_6, mo, b1, a1, t1, t2, hw.2.2.1.1]
        exact h.world ⟨m, u, hu, hw.year u⟩ ⟨rfl, rfl, fun j a b => oI_n _ _ (by omega), rfl, fun _ _ => rfl, rfl⟩ rfl rfl
    · -- a number
      have mo : (fX6_mostOf (nI 1)).toInt64 = lN 9 := by decide
      unfold gX5_changeOfOne_n1 oX5_changeOfOne_n1_0 fX5_changeOfOne_n1 pX5_changeOfOne_n1_0
      rcases ho with ⟨o1, o2⟩ | ⟨o1, o2, p, hp, rfl⟩
      · simp only [↓reduceIte, not_true_eq_false, not_false_eq_true, false_implies, true_implies, implies_true, true_and, and_true, and_self, eq_self, Bool.false_eq_true, b, one_ne, kne_0_1, kne_0_2, kne_0_3, kne_0_4, kne_0_5, kne_0_6, kne_1_0, kne_1_2, kne_1_3, kne_1_4, kne_1_5, kne_1_6, kne_2_0, kne_2_1, kne_2_3, kne_2_4, kne_2_5, kne_2_6, kne_3_0, kne_3_1, kne_3_2, kne_3_4, kne_3_5, kne_3_6, kne_4_0, kne_4_1, kne_4_2, kne_4_3, kne_4_5, kne_4_6, kne_5_0, kne_5_1, kne_5_2, kne_5_3, kne_5_4, kne_5_6, kne_6_0, kne_6_1, kne_6_2, kne_6_3, kne_6_4, kne_6_5, keq_0, keq_1, keq_2, keq_3, keq_4, keq_5, keq_6, mo, o1, o2, g, ite_self, implies_true]
        exact h
      · rcases wic v (m := 9) (by decide) with ⟨a1, b1⟩ | ⟨a1, b1, u, hu, rfl⟩
        · have a1 : fX5_within v 9 = 0 := a1
          simp only [↓reduceIte, not_true_eq_false, not_false_eq_true, false_implies, true_implies, implies_true, true_and, and_true, and_self, eq_self, Bool.false_eq_true, b, one_ne, kne_0_1, kne_0_2, kne_0_3, kne_0_4, kne_0_5, kne_0_6, kne_1_0, kne_1_2, kne_1_3, kne_1_4, kne_1_5, kne_1_6, kne_2_0, kne_2_1, kne_2_3, kne_2_4, kne_2_5, kne_2_6, kne_3_0, kne_3_1, kne_3_2, kne_3_4, kne_3_5, kne_3_6, kne_4_0, kne_4_1, kne_4_2, kne_4_3, kne_4_5, kne_4_6, kne_5_0, kne_5_1, kne_5_2, kne_5_3, kne_5_4, kne_5_6, kne_6_0, kne_6_1, kne_6_2, kne_6_3, kne_6_4, kne_6_5, keq_0, keq_1, keq_2, keq_3, keq_4, keq_5, keq_6, mo, b1, a1, o1, o2]
          exact h
        · have a1 : fX5_within (nI u) 9 = 1 := a1
          obtain ⟨t1, t2, t3, t4⟩ := told_4 hw hp (j := 1) (by decide) (by decide)
          have pc : (nI p).toNatClampNeg = p := nI_clamp (by omega)
          have vp5 : vp_in (nI p) 5 := vp_in_nI (by omega) (by decide)
          obtain ⟨_, u0, _, -, -, -, -, ⟨b2, b2'⟩, -⟩ := hw.2.2.2.2.2.2.1 p hp
          have d4 : ¬ (4 : Int32) ≤ nI 1 := by decide
          unfold oX6_set_76 pX6_set_76 oX6_set_106 pX6_set_106 pX6_set_149 gX6_lays oX6_lays_0 fX6_lays pX6_lays_0
          have b2' : σ.2.2.1 10 (3 * p + 1 - 1) = nI u0 := b2'
          simp only [↓reduceIte, not_true_eq_false, not_false_eq_true, false_implies, true_implies, implies_true, true_and, and_true, and_self, eq_self, Bool.false_eq_true, b, one_ne, kne_0_1, kne_0_2, kne_0_3, kne_0_4, kne_0_5, kne_0_6, kne_1_0, kne_1_2, kne_1_3, kne_1_4, kne_1_5, kne_1_6, kne_2_0, kne_2_1, kne_2_3, kne_2_4, kne_2_5, kne_2_6, kne_3_0, kne_3_1, kne_3_2, kne_3_4, kne_3_5, kne_3_6, kne_4_0, kne_4_1, kne_4_2, kne_4_3, kne_4_5, kne_4_6, kne_5_0, kne_5_1, kne_5_2, kne_5_3, kne_5_4, kne_5_6, kne_6_0, kne_6_1, kne_6_2, kne_6_3, kne_6_4, kne_6_5, keq_0, keq_1, keq_2, keq_3, keq_4, keq_5, keq_6, mo, b1, a1, o1, o2, g, t1, t2, t3, t4, pc, vp5, d4, b2, b2']
          exact h.world ⟨m, y, hy, hw.numb hp hu⟩ (row_of σ _ _) rfl rfl
    · -- firmness
      have mo : (fX6_mostOf (nI 2)).toInt64 = lN 99 := by decide
      unfold gX5_changeOfOne_n2 oX5_changeOfOne_n2_0 fX5_changeOfOne_n2 pX5_changeOfOne_n2_0
      rcases ho with ⟨o1, o2⟩ | ⟨o1, o2, p, hp, rfl⟩
      · simp only [↓reduceIte, not_true_eq_false, not_false_eq_true, false_implies, true_implies, implies_true, true_and, and_true, and_self, eq_self, Bool.false_eq_true, b, one_ne, kne_0_1, kne_0_2, kne_0_3, kne_0_4, kne_0_5, kne_0_6, kne_1_0, kne_1_2, kne_1_3, kne_1_4, kne_1_5, kne_1_6, kne_2_0, kne_2_1, kne_2_3, kne_2_4, kne_2_5, kne_2_6, kne_3_0, kne_3_1, kne_3_2, kne_3_4, kne_3_5, kne_3_6, kne_4_0, kne_4_1, kne_4_2, kne_4_3, kne_4_5, kne_4_6, kne_5_0, kne_5_1, kne_5_2, kne_5_3, kne_5_4, kne_5_6, kne_6_0, kne_6_1, kne_6_2, kne_6_3, kne_6_4, kne_6_5, keq_0, keq_1, keq_2, keq_3, keq_4, keq_5, keq_6, mo, o1, o2, g, ite_self, implies_true]
        exact h
      · rcases wic v (m := 99) (by decide) with ⟨a1, b1⟩ | ⟨a1, b1, u, hu, rfl⟩
        · have a1 : fX5_within v 99 = 0 := a1
          simp only [↓reduceIte, not_true_eq_false, not_false_eq_true, false_implies, true_implies, implies_true, true_and, and_true, and_self, eq_self, Bool.false_eq_true, b, one_ne, kne_0_1, kne_0_2, kne_0_3, kne_0_4, kne_0_5, kne_0_6, kne_1_0, kne_1_2, kne_1_3, kne_1_4, kne_1_5, kne_1_6, kne_2_0, kne_2_1, kne_2_3, kne_2_4, kne_2_5, kne_2_6, kne_3_0, kne_3_1, kne_3_2, kne_3_4, kne_3_5, kne_3_6, kne_4_0, kne_4_1, kne_4_2, kne_4_3, kne_4_5, kne_4_6, kne_5_0, kne_5_1, kne_5_2, kne_5_3, kne_5_4, kne_5_6, kne_6_0, kne_6_1, kne_6_2, kne_6_3, kne_6_4, kne_6_5, keq_0, keq_1, keq_2, keq_3, keq_4, keq_5, keq_6, mo, b1, a1, o1, o2]
          exact h
        · have a1 : fX5_within (nI u) 99 = 1 := a1
          obtain ⟨t1, t2, t3, t4⟩ := told_4 hw hp (j := 2) (by decide) (by decide)
          have pc : (nI p).toNatClampNeg = p := nI_clamp (by omega)
          have vp5 : vp_in (nI p) 5 := vp_in_nI (by omega) (by decide)
          obtain ⟨_, _, u0, -, -, -, -, -, ⟨b2, b2'⟩⟩ := hw.2.2.2.2.2.2.1 p hp
          have d4 : ¬ (4 : Int32) ≤ nI 2 := by decide
          unfold oX6_set_76 pX6_set_76 oX6_set_106 pX6_set_106 pX6_set_149 gX6_lays oX6_lays_0 fX6_lays pX6_lays_0
          have b2' : σ.2.2.1 10 (3 * p + 2 - 1) = nI u0 := b2'
          simp only [↓reduceIte, not_true_eq_false, not_false_eq_true, false_implies, true_implies, implies_true, true_and, and_true, and_self, eq_self, Bool.false_eq_true, b, one_ne, kne_0_1, kne_0_2, kne_0_3, kne_0_4, kne_0_5, kne_0_6, kne_1_0, kne_1_2, kne_1_3, kne_1_4, kne_1_5, kne_1_6, kne_2_0, kne_2_1, kne_2_3, kne_2_4, kne_2_5, kne_2_6, kne_3_0, kne_3_1, kne_3_2, kne_3_4, kne_3_5, kne_3_6, kne_4_0, kne_4_1, kne_4_2, kne_4_3, kne_4_5, kne_4_6, kne_5_0, kne_5_1, kne_5_2, kne_5_3, kne_5_4, kne_5_6, kne_6_0, kne_6_1, kne_6_2, kne_6_3, kne_6_4, kne_6_5, keq_0, keq_1, keq_2, keq_3, keq_4, keq_5, keq_6, mo, b1, a1, o1, o2, g, t1, t2, t3, t4, pc, vp5, d4, b2, b2']
          exact h.world ⟨m, y, hy, hw.firm hp hu⟩ (row_of σ _ _) rfl rfl
    · -- the house
      have mo : (fX6_mostOf (nI 3)).toInt64 = lN 1 := by decide
      unfold gX5_changeHouse oX5_changeHouse_0 fX5_changeHouse pX5_changeHouse_0
      obtain ⟨g1, g2, ⟨a', b'⟩ | ⟨a', b', c, hc, rfl⟩⟩ := cellc z
      · simp only [↓reduceIte, not_true_eq_false, not_false_eq_true, false_implies, true_implies, implies_true, true_and, and_true, and_self, eq_self, Bool.false_eq_true, b, one_ne, kne_0_1, kne_0_2, kne_0_3, kne_0_4, kne_0_5, kne_0_6, kne_1_0, kne_1_2, kne_1_3, kne_1_4, kne_1_5, kne_1_6, kne_2_0, kne_2_1, kne_2_3, kne_2_4, kne_2_5, kne_2_6, kne_3_0, kne_3_1, kne_3_2, kne_3_4, kne_3_5, kne_3_6, kne_4_0, kne_4_1, kne_4_2, kne_4_3, kne_4_5, kne_4_6, kne_5_0, kne_5_1, kne_5_2, kne_5_3, kne_5_4, kne_5_6, kne_6_0, kne_6_1, kne_6_2, kne_6_3, kne_6_4, kne_6_5, keq_0, keq_1, keq_2, keq_3, keq_4, keq_5, keq_6, mo, g1, g2, a', b', ite_self, implies_true]
        exact h
      · rcases wic v (m := 1) (by decide) with ⟨a1, b1⟩ | ⟨a1, b1, u, hu, rfl⟩
        · have a1 : fX5_within v 1 = 0 := a1
          simp only [↓reduceIte, not_true_eq_false, not_false_eq_true, false_implies, true_implies, implies_true, true_and, and_true, and_self, eq_self, Bool.false_eq_true, b, one_ne, kne_0_1, kne_0_2, kne_0_3, kne_0_4, kne_0_5, kne_0_6, kne_1_0, kne_1_2, kne_1_3, kne_1_4, kne_1_5, kne_1_6, kne_2_0, kne_2_1, kne_2_3, kne_2_4, kne_2_5, kne_2_6, kne_3_0, kne_3_1, kne_3_2, kne_3_4, kne_3_5, kne_3_6, kne_4_0, kne_4_1, kne_4_2, kne_4_3, kne_4_5, kne_4_6, kne_5_0, kne_5_1, kne_5_2, kne_5_3, kne_5_4, kne_5_6, kne_6_0, kne_6_1, kne_6_2, kne_6_3, kne_6_4, kne_6_5, keq_0, keq_1, keq_2, keq_3, keq_4, keq_5, keq_6, mo, b1, a1, g1, g2, a', b']
          exact h
        · have a1 : fX5_within (nI u) 1 = 1 := a1
          rw [s5, s6]
          unfold oX6_set_76 pX6_set_76 oX6_set_106 pX6_set_106 pX6_set_138 pX6_set_149 oX5_changeHouse_51 pX5_changeHouse_51 oX5_changeHouse_93 pX5_changeHouse_93 pX5_changeHouse_103
          simp only [has3 _ hc, has6 _ hc, if10, hw.2.2.2.2.2.1]
          by_cases e : tb (uni (σ.2.2.2 11) m) c = true
          · simp only [↓reduceIte, not_true_eq_false, not_false_eq_true, false_implies, true_implies, implies_true, true_and, and_true, and_self, eq_self, Bool.false_eq_true, b, one_ne, kne_0_1, kne_0_2, kne_0_3, kne_0_4, kne_0_5, kne_0_6, kne_1_0, kne_1_2, kne_1_3, kne_1_4, kne_1_5, kne_1_6, kne_2_0, kne_2_1, kne_2_3, kne_2_4, kne_2_5, kne_2_6, kne_3_0, kne_3_1, kne_3_2, kne_3_4, kne_3_5, kne_3_6, kne_4_0, kne_4_1, kne_4_2, kne_4_3, kne_4_5, kne_4_6, kne_5_0, kne_5_1, kne_5_2, kne_5_3, kne_5_4, kne_5_6, kne_6_0, kne_6_1, kne_6_2, kne_6_3, kne_6_4, kne_6_5, keq_0, keq_1, keq_2, keq_3, keq_4, keq_5, keq_6, mo, b1, a1, g1, g2, a', b', s1, s2, e]
            exact h
          · rw [house_eq _ hc hu]
            generalize hH : (if u = 1 then σ.2.1 9 ||| jshl 1 (nI c) else σ.2.1 9 &&& (jshl 1 (nI c) ^^^ (-1))) = H
            have key : gX4_dropLoose (oL ξ.2.1 8 H) ∧ gX6_falls (oL σ 9 H) ∧ Rel τ (xN ξ (fX4_dropLoose (oL ξ.2.1 8 H))) (fX6_falls (oL σ 9 H)).2 := by
              obtain ⟨d1, d2, d3⟩ := dropLoose_eq (w := oL ξ.2.1 8 H) hw.1 hw.2.1.1
              obtain ⟨f1, f2, f3, f4⟩ := falls_eq (w := oL σ 9 H) hw.1 hw.2.1.2
              have k8 : (oL ξ.2.1 8 H).2.1 8 = H := oL_s _ _ _
              have k9 : (oL σ 9 H).2.1 9 = H := oL_s _ _ _
              have dj : DJ m (σ.2.2.2 11) H := hw.2.2.2.2.2.2.2.2.1.house (fun p i hp hi e1 e2 => by
                have ne : ¬ i = c := fun g => e (by rw [← g, uni_tb]; exact ⟨p, hp, e1⟩)
                rw [← hH] at e2
                by_cases c1 : u = 1
                · rw [if_pos c1, tb_or, tb_bit hc hi] at e2
                  simpa [ne] using e2
                · rw [if_neg c1, tb_and, Bool.and_eq_true] at e2
                  exact e2.1)
              have W0 : ∀ w', UF (oL ξ.2.1 8 H) w' → ∀ s', VF (oL σ 9 H) s' → (∀ p, p < m → w'.2.2.2 3 p = dl H m (σ.2.2.2 11) p) → (∀ p, p < m → s'.2.2.2 11 p = dl H m (σ.2.2.2 11) p) → WR τ.length m y w' s' := by
                intro w' hu' s' hv' e1 e2
                obtain ⟨a1, a2, a3, a4, a5, a6, a7, a8, a9⟩ := hw
                refine ⟨a1, by rw [hu'.1, hv'.1]; exact a2, by rw [hu'.1, hv'.1]; exact a3, by rw [hu'.1, hv'.1]; exact a4, by rw [hu'.1, hv'.1]; exact a5, by rw [hu'.2.1, hv'.2.1, k8, k9], fun p hp => ?_, fun p hp => (e1 p hp).trans (e2 p hp).symm, by rw [hv'.2.1, k9]; exact (dl_PI dj).cong e2⟩
                exact (a7 p hp).move (by rw [hu'.2.2]; rfl) (by rw [hu'.2.2]; rfl) (by rw [hu'.2.2]; rfl) (by rw [hv'.2.2.1]; rfl)
              rw [k8] at d3
              rw [k9] at f3
              have W1 := W0 _ d2 _ f2 (fun p hp => (d3 p hp).trans (dl_cong _ hw.2.2.2.2.2.2.2.1 hp)) f3
              refine ⟨d1, f1, h.world ⟨m, y, hy, W1⟩ ?_ rfl rfl⟩
              exact ⟨by rw [f2.1]; rfl, by rw [f2.1]; rfl, fun j _ _ => by rw [f2.1]; rfl, by rw [f2.2.1]; exact up_n σ.2.1 (k := 9) (j := 36) H (by decide), fun k _ => by rw [f2.2.2.1]; rfl, (f2.2.2.2 31 (by decide)).trans rfl⟩
            have kx : ∀ T, (xN ξ (oL ξ.2.1 8 T)).2.1 = oL ξ.2.1 8 T := fun _ => rfl
            have ky : ∀ T U, xN (xN ξ T) U = xN ξ U := fun _ _ => rfl
            simp only [kx, ky]
            by_cases c1 : u = 1
            · rw [if_pos c1] at hH
              rw [hH]
              have n1 : nI u = 1 := by rw [c1]; rfl
              by_cases t : tb (σ.2.1 9) c = true
              · simp only [↓reduceIte, not_true_eq_false, not_false_eq_true, false_implies, true_implies, implies_true, true_and, and_true, and_self, eq_self, Bool.false_eq_true, b, one_ne, kne_0_1, kne_0_2, kne_0_3, kne_0_4, kne_0_5, kne_0_6, kne_1_0, kne_1_2, kne_1_3, kne_1_4, kne_1_5, kne_1_6, kne_2_0, kne_2_1, kne_2_3, kne_2_4, kne_2_5, kne_2_6, kne_3_0, kne_3_1, kne_3_2, kne_3_4, kne_3_5, kne_3_6, kne_4_0, kne_4_1, kne_4_2, kne_4_3, kne_4_5, kne_4_6, kne_5_0, kne_5_1, kne_5_2, kne_5_3, kne_5_4, kne_5_6, kne_6_0, kne_6_1, kne_6_2, kne_6_3, kne_6_4, kne_6_5, keq_0, keq_1, keq_2, keq_3, keq_4, keq_5, keq_6, mo, b1, a1, g1, g2, a', b', s1, s2, e, t, eq_true n1, key.1, key.2.1]
                exact key.2.2
              · simp only [↓reduceIte, not_true_eq_false, not_false_eq_true, false_implies, true_implies, implies_true, true_and, and_true, and_self, eq_self, Bool.false_eq_true, b, one_ne, kne_0_1, kne_0_2, kne_0_3, kne_0_4, kne_0_5, kne_0_6, kne_1_0, kne_1_2, kne_1_3, kne_1_4, kne_1_5, kne_1_6, kne_2_0, kne_2_1, kne_2_3, kne_2_4, kne_2_5, kne_2_6, kne_3_0, kne_3_1, kne_3_2, kne_3_4, kne_3_5, kne_3_6, kne_4_0, kne_4_1, kne_4_2, kne_4_3, kne_4_5, kne_4_6, kne_5_0, kne_5_1, kne_5_2, kne_5_3, kne_5_4, kne_5_6, kne_6_0, kne_6_1, kne_6_2, kne_6_3, kne_6_4, kne_6_5, keq_0, keq_1, keq_2, keq_3, keq_4, keq_5, keq_6, mo, b1, a1, g1, g2, a', b', s1, s2, e, t, eq_true n1, key.1, key.2.1]
                exact key.2.2
            · rw [if_neg c1] at hH
              rw [hH]
              have n1 : ¬ nI u = 1 := nI_ne (b := 1) c1 (by omega) (by decide)
              by_cases t : tb (σ.2.1 9) c = true
              · simp only [↓reduceIte, not_true_eq_false, not_false_eq_true, false_implies, true_implies, implies_true, true_and, and_true, and_self, eq_self, Bool.false_eq_true, b, one_ne, kne_0_1, kne_0_2, kne_0_3, kne_0_4, kne_0_5, kne_0_6, kne_1_0, kne_1_2, kne_1_3, kne_1_4, kne_1_5, kne_1_6, kne_2_0, kne_2_1, kne_2_3, kne_2_4, kne_2_5, kne_2_6, kne_3_0, kne_3_1, kne_3_2, kne_3_4, kne_3_5, kne_3_6, kne_4_0, kne_4_1, kne_4_2, kne_4_3, kne_4_5, kne_4_6, kne_5_0, kne_5_1, kne_5_2, kne_5_3, kne_5_4, kne_5_6, kne_6_0, kne_6_1, kne_6_2, kne_6_3, kne_6_4, kne_6_5, keq_0, keq_1, keq_2, keq_3, keq_4, keq_5, keq_6, mo, b1, a1, g1, g2, a', b', s1, s2, e, t, n1, key.1, key.2.1]
                exact key.2.2
              · simp only [↓reduceIte, not_true_eq_false, not_false_eq_true, false_implies, true_implies, implies_true, true_and, and_true, and_self, eq_self, Bool.false_eq_true, b, one_ne, kne_0_1, kne_0_2, kne_0_3, kne_0_4, kne_0_5, kne_0_6, kne_1_0, kne_1_2, kne_1_3, kne_1_4, kne_1_5, kne_1_6, kne_2_0, kne_2_1, kne_2_3, kne_2_4, kne_2_5, kne_2_6, kne_3_0, kne_3_1, kne_3_2, kne_3_4, kne_3_5, kne_3_6, kne_4_0, kne_4_1, kne_4_2, kne_4_3, kne_4_5, kne_4_6, kne_5_0, kne_5_1, kne_5_2, kne_5_3, kne_5_4, kne_5_6, kne_6_0, kne_6_1, kne_6_2, kne_6_3, kne_6_4, kne_6_5, keq_0, keq_1, keq_2, keq_3, keq_4, keq_5, keq_6, mo, b1, a1, g1, g2, a', b', s1, s2, e, t, n1, key.1, key.2.1]
                exact key.2.2
end

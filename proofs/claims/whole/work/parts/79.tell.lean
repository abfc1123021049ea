section
/-! what the rule tells, side by side -/
def RW (p : Nat) (w σ : OS) : Prop := ∃ k u f, k ≤ 5 ∧ u ≤ 9 ∧ f ≤ 99 ∧ (w.2.2.1 0 p = nI k ∧ σ.2.2.1 10 (3 * p + 2) = nI k) ∧ (w.2.2.1 1 p = nI u ∧ σ.2.2.1 10 (3 * p) = nI u) ∧ (w.2.2.1 2 p = nI f ∧ σ.2.2.1 10 (3 * p + 1) = nI f)
def WR (N m y : Nat) (w σ : OS) : Prop := m ≤ 5 ∧ (w.1 4 = nI m ∧ σ.1 12 = nI m) ∧ (w.1 5 = nI y ∧ σ.1 7 = nI y) ∧ (∃ q, q ≤ 99999 ∧ w.1 6 = nI q ∧ σ.1 8 = nI q) ∧ (∃ r, r < N ∧ w.1 7 = nI r ∧ σ.1 4 = nI r) ∧ w.2.1 8 = σ.2.1 9 ∧ (∀ p, p < m → RW p w σ) ∧ (∀ p, p < m → w.2.2.2 3 p = σ.2.2.2 11 p) ∧ PI m (σ.2.1 9) (σ.2.2.2 11)
/-- a text that was read -/
def TM (t : Nat × (Nat → Int32) × (Nat → Int32)) (r : OS) : Prop := r.1 4 = nI t.1 ∧ (∀ i, i < t.1 → t.2.1 i = r.2.2.1 2 i) ∧ ∀ j, j < 3 → t.2.2 j = r.2.2.1 3 j
def TXR (τ : TX) (σ : OS) : Prop := τ.length ≤ 6 ∧ σ.1 3 = nI τ.length ∧ ∀ j, j < τ.length → ∃ (n : Nat) (B : Nat → Nat) (ρ : OS), n ≤ 160 ∧ (∀ i, B i < 256) ∧ Rst n B ρ ∧ σ.2.2.1 2 j = nI n ∧ (∀ i, i < n → σ.2.2.1 1 (160 * j + i) = nI (B i)) ∧ (fX0_read ρ).1 = -1 ∧ (tAt τ j).2.1 < 160 ∧ TM (tAt τ j).2 (fX0_read ρ).2
theorem TV.cong {N N' c c' e e' v : Nat → Int32} {nc : Nat} (h : TV N c e nc v) (hN : ∀ j, j < 6 → N' j = N j) (hc : ∀ i, i < nc → c' i = c i) (he : ∀ j, j < 3 → e' j = e j) : TV N' c' e' nc v := by
  obtain ⟨c0, c1, h01, h1n, e0, e1, e2, v0, v1, v2⟩ := h
  exact ⟨c0, c1, h01, h1n, (he 0 (by decide)).trans e0, (he 1 (by decide)).trans e1, (he 2 (by decide)).trans e2, (v0.cong (fun j _ h => hc j (by omega))).nm hN, (v1.cong (fun j _ h => hc j (by omega))).nm hN, (v2.cong (fun j _ h => hc j (by omega))).nm hN⟩
/-- both read the same of a text -/
theorem text_says {τ : TX} {σ : OS} (hT : TXR τ σ) {j : Nat} (hj : j < τ.length) {s : OS} (hs : s.2.2 = σ.2.2) : ∃ (v : Nat → Int32) (r : OS), (∀ w, gX6_read s (nI j) w ∧ fX6_read s (nI j) w = (pick3 v w, r)) ∧ QF s r ∧ (tAt τ j).2.1 < 160 ∧ ∀ N, (∀ i, i < 6 → N i = nms s i) → TV N (tAt τ j).2.2.1 (tAt τ j).2.2.2 (tAt τ j).2.1 v := by
  obtain ⟨hl, _, hx⟩ := hT
  obtain ⟨n, B, ρ, hn, hB, hR, h2, h1, hr, hc, t1, t2, t3⟩ := hx j hj
  obtain ⟨_, _, v, r, hv, hq, hcase⟩ := read_sim hn hB (t := j) (by omega) (σ := s) hR (by rw [hs]; exact h2) (by rw [hs]; exact h1)
  refine ⟨v, r, hv, hq, hc, fun N hN => ?_⟩
  rcases hcase with ⟨_, _, nc, hnc, e4, tv⟩ | ⟨p, hp, e, _⟩
  · have en : nc = (tAt τ j).2.1 := (nI_eq (by omega) (by omega)).mp (e4.symm.trans t1)
    subst en
    exact tv.cong hN t2 t3
  · rw [hr] at e
    exact absurd e.symm (nI_ne_m1 (by omega))
theorem jclamp (v : Int32) {M : Nat} (hM : M < 2 ^ 31) : jmax 0 (jmin (nI M) v) = fX6_within v 0 (nI M) ∧ ∃ x, x ≤ M ∧ fX6_within v 0 (nI M) = nI x := by
  have z0 : (0 : Int32).toInt = 0 := by decide
  have zM := nI_toInt hM
  unfold jmax jmin fX6_within pX6_within_0
  by_cases c0 : (0 : Int32) ≤ v
  · by_cases c1 : v ≤ nI M
    · obtain ⟨x, hx, rfl⟩ := nI_of2 zM (show ¬ v < 0 by rw [i32_lt]; rw [i32_le] at c0; omega) c1
      rw [if_pos c0, if_pos c1]
      refine ⟨?_, x, hx, rfl⟩
      have zx := nI_toInt (show x < 2 ^ 31 by omega)
      by_cases c2 : nI x < nI M
      · rw [if_pos c2]
        by_cases c3 : (0 : Int32) < nI x
        · rw [if_pos c3]
        · rw [if_neg c3]
          rw [i32_lt] at c3
          have : x = 0 := by omega
          subst this
          rfl
      · rw [if_neg c2]
        rw [i32_lt] at c2
        have : x = M := by omega
        subst this
        by_cases c3 : (0 : Int32) < nI x
        · rw [if_pos c3]
        · rw [if_neg c3]
          rw [i32_lt] at c3
          have : x = 0 := by omega
          subst this
          rfl
    · rw [if_pos c0, if_neg c1]
      refine ⟨?_, M, Nat.le_refl _, rfl⟩
      have c2 : ¬ v < nI M := by rw [i32_lt]; rw [i32_le] at c1; omega
      rw [if_neg c2]
      by_cases c3 : (0 : Int32) < nI M
      · rw [if_pos c3]
      · rw [if_neg c3]
        rw [i32_lt] at c3
        have : M = 0 := by omega
        subst this
        rfl
  · rw [if_neg c0]
    refine ⟨?_, 0, Nat.zero_le _, rfl⟩
    have c2 : v < nI M := by rw [i32_lt]; rw [i32_le] at c0; omega
    have c3 : ¬ (0 : Int32) < v := by rw [i32_lt]; rw [i32_le] at c0; omega
    rw [if_pos c2, if_neg c3]
/-- what telling leaves of a world, saying of the reference -/
def WF (w r : OS) : Prop := r.1 = w.1 ∧ r.2.1 = w.2.1 ∧ (∀ k, ¬ k = 10 → ¬ k = 11 → r.2.2.1 k = w.2.2.1 k) ∧ r.2.2.2 = w.2.2.2
def XF (σ r : OS) : Prop := (∀ j, ¬ (13 ≤ j ∧ j ≤ 27) → r.1 j = σ.1 j) ∧ (∀ j, ¬ j = 24 → r.2.1 j = σ.2.1 j) ∧ r.2.2 = σ.2.2
theorem QF.xf {σ r : OS} (h : QF σ r) : XF σ r := ⟨fun j hj => h.1 j (by omega), h.2⟩
theorem XF.tr {σ r s : OS} (h : XF σ r) (k : XF r s) : XF σ s := ⟨fun j a => (k.1 j a).trans (h.1 j a), fun j a => (k.2.1 j a).trans (h.2.1 j a), k.2.2.trans h.2.2⟩
theorem XF.rfl' (σ : OS) : XF σ σ := ⟨fun _ _ => rfl, fun _ _ => rfl, rfl⟩
theorem XF.put {σ r : OS} (h : XF σ r) {j : Nat} (hj : 13 ≤ j ∧ j ≤ 27) (x : Int32) : XF σ (oI r j x) := ⟨fun i hi => by rw [oI_n _ _ (by omega)]; exact h.1 i hi, h.2⟩
theorem WF.rfl' (w : OS) : WF w w := ⟨rfl, rfl, fun _ _ _ => rfl, rfl⟩
theorem WF.tr {w r s : OS} (h : WF w r) (k : WF r s) : WF w s := ⟨k.1.trans h.1, k.2.1.trans h.2.1, fun j a b => (k.2.2.1 j a b).trans (h.2.2.1 j a b), k.2.2.2.trans h.2.2.2⟩
theorem WF.oS {w r : OS} (h : WF w r) (i : Nat) (x : Int32) : WF w (oS r 10 i x) := ⟨h.1, h.2.1, fun k a b => (up_n _ _ a).trans (h.2.2.1 k a b), h.2.2.2⟩
theorem WF.oAr {w r : OS} (h : WF w r) (f : Nat → Int32) : WF w (oAr r 11 f) := ⟨h.1, h.2.1, fun k a b => (up_n _ _ b).trans (h.2.2.1 k a b), h.2.2.2⟩
theorem RW.move {p : Nat} {w σ w' σ' : OS} (h : RW p w σ) (h0 : w'.2.2.1 0 = w.2.2.1 0) (h1 : w'.2.2.1 1 = w.2.2.1 1) (h2 : w'.2.2.1 2 = w.2.2.1 2) (h3 : σ'.2.2.1 10 = σ.2.2.1 10) : RW p w' σ' := by unfold RW; rw [h0, h1, h2, h3]; exact h
theorem WR.move {N m y : Nat} {w σ w' σ' : OS} (h : WR N m y w σ) (hw : WF w w') (hx : XF σ σ') : WR N m y w' σ' := by
  obtain ⟨a1, a2, a3, a4, a5, a6, a7, a8, a9⟩ := h
  refine ⟨a1, ?_, ?_, ?_, ?_, ?_, ?_, ?_, ?_⟩
  · rw [hw.1, hx.1 12 (by omega)]; exact a2
  · rw [hw.1, hx.1 7 (by omega)]; exact a3
  · rw [hw.1, hx.1 8 (by omega)]; exact a4
  · rw [hw.1, hx.1 4 (by omega)]; exact a5
  · rw [hw.2.1, hx.2.1 9 (by omega)]; exact a6
  · exact fun p hp => (a7 p hp).move (hw.2.2.1 0 (by decide) (by decide)) (hw.2.2.1 1 (by decide) (by decide)) (hw.2.2.1 2 (by decide) (by decide)) (by rw [hx.2.2])
  · rw [hw.2.2.2, hx.2.2]; exact a8
  · rw [hx.2.1 9 (by omega), hx.2.2]; exact a9
theorem TXR.move {τ : TX} {σ σ' : OS} (h : TXR τ σ) (h3 : σ'.1 3 = σ.1 3) (h1 : σ'.2.2.1 1 = σ.2.2.1 1) (h2 : σ'.2.2.1 2 = σ.2.2.1 2) : TXR τ σ' := by unfold TXR; rw [h3, h1, h2]; exact h
theorem TXR.xf {τ : TX} {σ σ' : OS} (h : TXR τ σ) (hx : XF σ σ') : TXR τ σ' := h.move (hx.1 3 (by omega)) (by rw [hx.2.2]) (by rw [hx.2.2])
theorem rem100 {q : Nat} (hq : q < 2 ^ 31) : nI q - nI q / 100 * 100 = nI (q % 100) := pk_rem (d := 100) hq (by decide) (by decide)
theorem three {p : Nat} (hp : p < 5) : 3 * nI p = nI (3 * p) ∧ 3 * nI p + 1 = nI (3 * p + 1) ∧ 3 * nI p + 2 = nI (3 * p + 2) ∧ (3 * nI p).toNatClampNeg = 3 * p ∧ (3 * nI p + 1).toNatClampNeg = 3 * p + 1 ∧ (3 * nI p + 2).toNatClampNeg = 3 * p + 2 ∧ vp_in (3 * nI p) 15 ∧ vp_in (3 * nI p + 1) 15 ∧ vp_in (3 * nI p + 2) 15 := by
  have e : 3 * nI p = nI (3 * p) := by rw [show (3 : Int32) = nI 3 from rfl, nI_mul]
  have e1 : 3 * nI p + 1 = nI (3 * p + 1) := by rw [e, nI_1]
  have e2 : 3 * nI p + 2 = nI (3 * p + 2) := by rw [e, show (2 : Int32) = nI 2 from rfl, nI_add]
  refine ⟨e, e1, e2, ?_, ?_, ?_, ?_, ?_, ?_⟩
  · rw [e, nI_clamp (by omega)]
  · rw [e1, nI_clamp (by omega)]
  · rw [e2, nI_clamp (by omega)]
  · rw [e]; exact vp_in_nI (by omega) (by decide)
  · rw [e1]; exact vp_in_nI (by omega) (by decide)
  · rw [e2]; exact vp_in_nI (by omega) (by decide)
/-- the class's names, the reference's -/
def W4 (w : OS) (p : Nat) (z : Int32) : OS := oS (oS (oS (oS (oS (oS w 10 0 (w.2.2.1 2 p)) 10 1 (w.2.2.1 1 p)) 10 2 (w.1 5)) 10 3 (fJ13_bitCount_95d88 (w.2.2.2 3 p))) 10 4 z) 10 5 (w.1 6 - w.1 6 / 100 * 100)
def S6 (σ : OS) (p : Nat) (z : Int32) : OS := oI (oI (oI (oI (oI (oI σ 13 (σ.2.2.1 10 (3 * p + 1))) 14 (σ.2.2.1 10 (3 * p))) 15 (σ.1 7)) 16 (fX6_bitsOf (σ.2.2.2 11 p))) 17 z) 18 (σ.1 8 - σ.1 8 / 100 * 100)
theorem W4_wf (w : OS) (p : Nat) (z : Int32) : WF w (W4 w p z) := (((((((WF.rfl' w).oS _ _).oS _ _).oS _ _).oS _ _).oS _ _).oS _ _)
theorem S6_xf (σ : OS) (p : Nat) (z : Int32) : XF σ (S6 σ p z) := ((((((XF.rfl' σ).put (j := 13) (by omega) _).put (j := 14) (by omega) _).put (j := 15) (by omega) _).put (j := 16) (by omega) _).put (j := 17) (by omega) _).put (j := 18) (by omega) _
theorem W4_row (w : OS) (p : Nat) (z : Int32) : (W4 w p z).2.2.1 10 = upd (upd (upd (upd (upd (upd (w.2.2.1 10) 0 (w.2.2.1 2 p)) 1 (w.2.2.1 1 p)) 2 (w.1 5)) 3 (fJ13_bitCount_95d88 (w.2.2.2 3 p))) 4 z) 5 (w.1 6 - w.1 6 / 100 * 100) := by
  unfold W4
  rw [oS_row, oS_row, oS_row, oS_row, oS_row, oS_row]
theorem tell_says {τ : TX} {m y : Nat} {w σ : OS} (h : WR τ.length m y w σ) (hT : TXR τ σ) {p : Nat} (hp : p < m) {i : Nat} (hi : i < 3) :
    gX4_tell τ (w.1 7).toNatClampNeg w (nI p) (nI i) ∧ gX6_says σ (nI i) (nI p) ∧ WF w (fX4_tell τ (w.1 7).toNatClampNeg w (nI p) (nI i)).2 ∧ XF σ (fX6_says σ (nI i) (nI p)).2 ∧ ∃ x, x ≤ 999 ∧ (¬ i = 2 → x ≤ 99) ∧ (fX4_tell τ (w.1 7).toNatClampNeg w (nI p) (nI i)).1 = nI x ∧ (fX6_says σ (nI i) (nI p)).1 = nI x := by
  obtain ⟨a1, a2, a3, ⟨q, hq, a4, a4'⟩, ⟨r, hr, a5, a5'⟩, a6, a7, a8, a9⟩ := id h
  obtain ⟨k, u, f, hk, hu, hf, ⟨b1, b1'⟩, ⟨b2, b2'⟩, ⟨b3, b3'⟩⟩ := a7 p hp
  have pc : (nI p).toNatClampNeg = p := nI_clamp (by omega)
  obtain ⟨t1, t2, t3, t4, t5, t6, t7, t8, t9⟩ := three (p := p) (by omega)
  have rc : (nI r).toNatClampNeg = r := nI_clamp (by have := hT.1; omega)
  have vp5 : vp_in (nI p) 5 := vp_in_nI (by omega) (by decide)
  -- the row's height
  obtain ⟨z, hz1, hz2, gg⟩ : ∃ z : Int32, (w.2.2.2 3 p = 0 → z = 0) ∧ (¬ w.2.2.2 3 p = 0 → z = (63 - fJ13_numberOfLeadingZeros_95d88 (w.2.2.2 3 p)) / 8 ∧ z = fX6_greatest (w.2.2.2 3 p) / 8) ∧ (¬ w.2.2.2 3 p = 0 → gX6_greatest (w.2.2.2 3 p)) := by
    by_cases c : w.2.2.2 3 p = 0
    · exact ⟨0, fun _ => rfl, fun h => absurd c h, fun h => absurd c h⟩
    · obtain ⟨g, hg⟩ := top_ex c
      exact ⟨_, fun h => absurd h c, fun _ => ⟨by rw [hi_eq hg], by rw [(gr_eq hg).1]⟩, fun _ => (gr_eq hg).2⟩
  have e8 := a8 p hp
  -- the reference
  obtain ⟨v, s, hv, hqf, hnc, htv⟩ := text_says hT hr (s := S6 σ p z) (S6_xf σ p z).2.2
  have ev : v i = pick3 v (nI i) := by
    unfold pick3
    match i, hi with
    | 0, _ => rfl
    | 1, _ => rw [if_neg (show ¬ nI 1 = 0 by decide)]; rfl
    | 2, _ => rw [if_neg (show ¬ nI 2 = 0 by decide), if_neg (show ¬ nI 2 = 1 by decide)]
  have rd := hv (nI i)
  have rule : (S6 σ p z).1 4 = nI r := ((S6_xf σ p z).1 4 (by omega)).trans a5'
  have s75 : pX6_says_75 (oI (oI (oI (oI σ 13 (σ.2.2.1 10 (3 * p + 1))) 14 (σ.2.2.1 10 (3 * p))) 15 (σ.1 7)) 16 (fX6_bitsOf (σ.2.2.2 11 p))) (nI i) z = pX6_says_98 s (nI i) (v i) ∧ oX6_says_75 (oI (oI (oI (oI σ 13 (σ.2.2.1 10 (3 * p + 1))) 14 (σ.2.2.1 10 (3 * p))) 15 (σ.1 7)) 16 (fX6_bitsOf (σ.2.2.2 11 p))) (nI i) z := by
    have e : pX6_says_75 (oI (oI (oI (oI σ 13 (σ.2.2.1 10 (3 * p + 1))) 14 (σ.2.2.1 10 (3 * p))) 15 (σ.1 7)) 16 (fX6_bitsOf (σ.2.2.2 11 p))) (nI i) z = pX6_says_98 (fX6_read (S6 σ p z) ((S6 σ p z).1 4) (nI i)).2 (nI i) (fX6_read (S6 σ p z) ((S6 σ p z).1 4) (nI i)).1 := rfl
    have o : oX6_says_75 (oI (oI (oI (oI σ 13 (σ.2.2.1 10 (3 * p + 1))) 14 (σ.2.2.1 10 (3 * p))) 15 (σ.1 7)) 16 (fX6_bitsOf (σ.2.2.2 11 p))) (nI i) z = gX6_read (S6 σ p z) ((S6 σ p z).1 4) (nI i) := rfl
    rw [e, o, rule, rd.2, ev]
    exact ⟨rfl, rd.1⟩
  have says : gX6_says σ (nI i) (nI p) ∧ fX6_says σ (nI i) (nI p) = pX6_says_98 s (nI i) (v i) := by
    unfold gX6_says oX6_says_0 fX6_says pX6_says_0
    simp only [t4, t5, pc, oI_2]
    have k7 : (oI (oI σ 13 (σ.2.2.1 10 (3 * p + 1))) 14 (σ.2.2.1 10 (3 * p))).1 7 = σ.1 7 := rfl
    rw [k7]
    by_cases c : σ.2.2.2 11 p = 0
    · have ez : z = 0 := hz1 (by rw [e8]; exact c)
      rw [ez] at s75
      simp only [↓reduceIte, not_true_eq_false, not_false_eq_true, false_implies, true_implies, implies_true, true_and, and_true, and_self, eq_self, Bool.false_eq_true, c, t7, t8, vp5, (bitsOf_eq _).2] at s75 ⊢
      exact ⟨s75.2, s75.1⟩
    · have c' : ¬ w.2.2.2 3 p = 0 := by rw [e8]; exact c
      have ez := (hz2 c').2
      have gz := gg c'
      rw [e8] at ez gz
      rw [← ez]
      simp only [↓reduceIte, not_true_eq_false, not_false_eq_true, false_implies, true_implies, implies_true, true_and, and_true, and_self, eq_self, Bool.false_eq_true, c, t7, t8, vp5, (bitsOf_eq _).2, s75.2, gz]
      exact s75.1
  -- the class
  have names : ∀ j, j < 6 → (W4 w p z).2.2.1 10 j = nms (S6 σ p z) j := by
    intro j hj
    rw [W4_row]
    match j, hj with
    | 0, _ => exact b3.trans b3'.symm
    | 1, _ => exact b2.trans b2'.symm
    | 2, _ => exact a3.1.trans a3.2.symm
    | 3, _ =>
      show fJ13_bitCount_95d88 (w.2.2.2 3 p) = fX6_bitsOf (σ.2.2.2 11 p)
      rw [bitCount_eq, (bitsOf_eq _).1, e8]
    | 4, _ => rfl
    | 5, _ =>
      show w.1 6 - w.1 6 / 100 * 100 = σ.1 8 - σ.1 8 / 100 * 100
      rw [a4, a4']
    | j + 6, h => exact absurd h (by omega)
  have tv := htv _ names
  have val := value_eq (nc := (tAt τ r).2.1) (ρ := tρ (tAt τ r) (W4 w p z)) (σ := tσ (W4 w p z)) (by omega) tv hi
  obtain ⟨val1, val2⟩ := val
  have t93 : pX4_tell_93 τ r (oS (oS (oS (oS w 10 0 (w.2.2.1 2 p)) 10 1 (w.2.2.1 1 p)) 10 2 (w.1 5)) 10 3 (fJ13_bitCount_95d88 (w.2.2.2 3 p))) (nI i) z 4 = pX4_tell_120 τ r (oAr (W4 w p z) 11 ((fX2_value (tAt τ r).2.1 (tρ (tAt τ r) (W4 w p z)) (tσ (W4 w p z)) (nI i)).2.2.2.1 4)) (nI i) (v i) ∧ oX4_tell_93 τ r (oS (oS (oS (oS w 10 0 (w.2.2.1 2 p)) 10 1 (w.2.2.1 1 p)) 10 2 (w.1 5)) 10 3 (fJ13_bitCount_95d88 (w.2.2.2 3 p))) (nI i) z 4 := by
    rw [← val2]
    exact ⟨rfl, vp_in_nI (n := 4) (by decide) (by decide), vp_in_nI (n := 5) (by decide) (by decide), hr, val1⟩
  have tell : gX4_tell τ r w (nI p) (nI i) ∧ fX4_tell τ r w (nI p) (nI i) = pX4_tell_120 τ r (oAr (W4 w p z) 11 ((fX2_value (tAt τ r).2.1 (tρ (tAt τ r) (W4 w p z)) (tσ (W4 w p z)) (nI i)).2.2.2.1 4)) (nI i) (v i) := by
    have vr : vp_in (w.1 7) 6 := by rw [a5]; exact vp_in_nI (by have := hT.1; omega) (by decide)
    have er : (w.1 7).toNatClampNeg = r := by rw [a5, rc]
    have n0 : (0 : Int32).toNatClampNeg = 0 := rfl
    have n1 : (1 : Int32).toNatClampNeg = 1 := rfl
    have n2 : (2 : Int32).toNatClampNeg = 2 := rfl
    have n3 : (3 : Int32).toNatClampNeg = 3 := rfl
    have f : fX4_tell τ r w (nI p) (nI i) = if w.2.2.2 3 p = 0 then pX4_tell_93 τ r (oS (oS (oS (oS w 10 0 (w.2.2.1 2 p)) 10 1 (w.2.2.1 1 p)) 10 2 (w.1 5)) 10 3 (fJ13_bitCount_95d88 (w.2.2.2 3 p))) (nI i) 0 4 else pX4_tell_93 τ r (oS (oS (oS (oS w 10 0 (w.2.2.1 2 p)) 10 1 (w.2.2.1 1 p)) 10 2 (w.1 5)) 10 3 (fJ13_bitCount_95d88 (w.2.2.2 3 p))) (nI i) ((63 - fJ13_numberOfLeadingZeros_95d88 (w.2.2.2 3 p)) / 8) 4 := by
      unfold fX4_tell pX4_tell_0 fX4_highestCell pX4_highestCell_0
      rw [pc, n0, n1, n2, n3]
      rfl
    have g : gX4_tell τ r w (nI p) (nI i) = (vp_in (w.1 7) 6 ∧ (w.1 7).toNatClampNeg = r ∧ r < τ.length ∧ vp_in (nI p) 5 ∧ vp_in 0 6 ∧ vp_in (nI p) 5 ∧ vp_in 1 6 ∧ vp_in 2 6 ∧ vp_in (nI p) 5 ∧ vp_in 3 6 ∧ vp_in (nI p) 5 ∧ (w.2.2.2 3 p = 0 → oX4_tell_93 τ r (oS (oS (oS (oS w 10 0 (w.2.2.1 2 p)) 10 1 (w.2.2.1 1 p)) 10 2 (w.1 5)) 10 3 (fJ13_bitCount_95d88 (w.2.2.2 3 p))) (nI i) 0 4) ∧ (¬ w.2.2.2 3 p = 0 → vp_in (nI p) 5 ∧ oX4_tell_93 τ r (oS (oS (oS (oS w 10 0 (w.2.2.1 2 p)) 10 1 (w.2.2.1 1 p)) 10 2 (w.1 5)) 10 3 (fJ13_bitCount_95d88 (w.2.2.2 3 p))) (nI i) ((63 - fJ13_numberOfLeadingZeros_95d88 (w.2.2.2 3 p)) / 8) 4)) := by
      unfold gX4_tell oX4_tell_0 gX4_highestCell oX4_highestCell_0 fX4_highestCell pX4_highestCell_0
      rw [pc, n0, n1, n2, n3]
      rfl
    rw [f, g]
    refine ⟨⟨vr, er, hr, vp5, vp_in_nI (n := 0) (by decide) (by decide), vp5, vp_in_nI (n := 1) (by decide) (by decide), vp_in_nI (n := 2) (by decide) (by decide), vp5, vp_in_nI (n := 3) (by decide) (by decide), vp5, fun c => ?_, fun c => ⟨vp5, ?_⟩⟩, ?_⟩
    · have ez := hz1 c
      rw [ez] at t93
      exact t93.2
    · rw [← (hz2 c).1]; exact t93.2
    · by_cases c : w.2.2.2 3 p = 0
      · rw [if_pos c, ← hz1 c]; exact t93.1
      · rw [if_neg c, ← (hz2 c).1]; exact t93.1
  rw [a5, rc, says.2, tell.2]
  unfold pX6_says_98 pX6_says_112 pX4_tell_120 pX4_tell_135
  have wf := (W4_wf w p z).oAr ((fX2_value (tAt τ r).2.1 (tρ (tAt τ r) (W4 w p z)) (tσ (W4 w p z)) (nI i)).2.2.2.1 4)
  have xf := (S6_xf σ p z).tr hqf.xf
  obtain ⟨j1, x1, hx1, j1'⟩ := jclamp (v i) (M := 999) (by decide)
  obtain ⟨j2, x2, hx2, j2'⟩ := jclamp (v i) (M := 99) (by decide)
  by_cases c : nI i = 2
  · rw [if_pos c, if_pos c]
    exact ⟨tell.1, says.1, wf, xf, x1, hx1, fun h => absurd ((nI_eq (a := i) (b := 2) (by omega) (by decide)).mp c) h, j1.trans j1', j1'⟩
  · rw [if_neg c, if_neg c]
    exact ⟨tell.1, says.1, wf, xf, x2, by omega, fun _ => hx2, j2.trans j2', j2'⟩
end

section
/-! steps: text; and the start -/
theorem WR.mono {N M m y : Nat} {w σ : OS} (h : WR N m y w σ) (hM : N ≤ M) : WR M m y w σ := by
  obtain ⟨h1, h2, h3, h4, ⟨r, hr, a⟩, h6⟩ := h
  exact ⟨h1, h2, h3, h4, ⟨r, by omega, a⟩, h6⟩
theorem KR.mono {N M : Nat} {ξ : XS} {σ : OS} (h : KR N ξ σ) (hM : N ≤ M) : KR M ξ σ := by
  rcases h with h | ⟨a, m, y, hy, w⟩
  · exact Or.inl h
  · exact Or.inr ⟨a, m, y, hy, w.mono hM⟩
def r1 (σ : OS) (R : Nat → Int32) : OS := (σ.1, σ.2.1, va_up σ.2.2.1 1 R, σ.2.2.2)
theorem r1_s (σ : OS) (R : Nat → Int32) : (r1 σ R).2.2.1 1 = R := up_s σ.2.2.1 1 R
theorem r1_n (σ : OS) (R : Nat → Int32) {k : Nat} (h : ¬ k = 1) : (r1 σ R).2.2.1 k = σ.2.2.1 k := up_n σ.2.2.1 R h
theorem up_up {α : Type} (f : Nat → α) (k : Nat) (a b : α) : va_up (va_up f k a) k b = va_up f k b := by
  funext j
  by_cases e : j = k
  · subst e; rw [up_s, up_s]
  · rw [up_n _ _ e, up_n _ _ e, up_n _ _ e]
theorem oS_r1 (σ : OS) (R : Nat → Int32) (i : Nat) (x : Int32) : oS (r1 σ R) 1 i x = r1 σ (upd R i x) := by
  show (σ.1, σ.2.1, va_up (va_up σ.2.2.1 1 R) 1 (upd (va_up σ.2.2.1 1 R 1) i x), σ.2.2.2) = (σ.1, σ.2.1, va_up σ.2.2.1 1 (upd R i x), σ.2.2.2)
  rw [up_s, up_up]
theorem r1_id (σ : OS) : r1 σ (σ.2.2.1 1) = σ := by
  have : va_up σ.2.2.1 1 (σ.2.2.1 1) = σ.2.2.1 := by
    funext j
    by_cases e : j = 1
    · subst e; rw [up_s]
    · rw [up_n _ _ e]
  show (σ.1, σ.2.1, va_up σ.2.2.1 1 (σ.2.2.1 1), σ.2.2.2) = σ
  rw [this]
/-- the state in which a new text is read -/
def S2 (σ : OS) (R : Nat → Int32) (L n : Nat) : OS := oI (oS (r1 σ R) 2 L (nI n)) 6 0
/-- what the tape is copied to, and read there -/
theorem text_r {σ : OS} {L n : Nat} {B : Nat → Nat} (hL : L < 6) (hn : n ≤ 160) (h3 : σ.1 3 = nI L) (h6 : σ.1 6 = nI n) (h5 : ∀ i, i < n → σ.2.2.1 5 i = nI (B i)) (Q : Int32 × OS → Prop) (hQ : ∀ R, (∀ i, i < n → R (160 * L + i) = nI (B i)) → (∀ i, i < 160 * L → R i = σ.2.2.1 1 i) → gX6_read (S2 σ R L n) (nI L) 0 ∧ Q (pX6_text_76 (fX6_read (S2 σ R L n) (nI L) 0).2 (fX6_read (S2 σ R L n) (nI L) 0).1)) : lpOk kX6_text_14 fu (σ, 0) ∧ Q (lp (0, o0) bX6_text_14 fu (σ, 0)) := by
  refine lp_one (d := ((0 : Int32), o0)) (body := bX6_text_14) (ok := kX6_text_14) (fun k v => ∃ t R, v = (r1 σ R, nI t) ∧ t + k = n ∧ (∀ i, i < t → R (160 * L + i) = nI (B i)) ∧ ∀ i, i < 160 * L → R i = σ.2.2.1 1 i) Q ?_ fu n (σ, 0) ⟨0, σ.2.2.1 1, by rw [r1_id]; rfl, by omega, fun i hi => absurd hi (by omega), fun _ _ => rfl⟩ (by show n < 1000; omega)
  rintro k v ⟨t, R, rfl, htk, hR, hR0⟩ kR kO hk
  unfold bX6_text_14 kX6_text_14
  have e3 : (r1 σ R).1 3 = nI L := h3
  have e6 : (r1 σ R).1 6 = nI n := h6
  have Lc : (nI L).toNatClampNeg = L := nI_clamp (by omega)
  have vL : vp_in (nI L) 6 := vp_in_nI (by omega) (by decide)
  simp only [e3, e6, Lc, nI_1]
  by_cases e0 : t < n
  · have c1 : ¬ nI n ≤ nI t := nI_ge e0 (by omega)
    have tc : (nI t).toNatClampNeg = t := nI_clamp (by omega)
    have vt : vp_in (nI t) 160 := vp_in_nI (by omega) (by decide)
    have e160 : 160 * nI L + nI t = nI (160 * L + t) := by rw [show (160 : Int32) = nI 160 from rfl, nI_mul, nI_add]
    have ac : (nI (160 * L + t)).toNatClampNeg = 160 * L + t := nI_clamp (by omega)
    have va : vp_in (nI (160 * L + t)) 960 := vp_in_nI (by omega) (by decide)
    have r5 : (r1 σ R).2.2.1 5 t = nI (B t) := by rw [r1_n _ _ (by decide)]; exact h5 t e0
    have K := hk (k - 1) (r1 σ (upd R (160 * L + t) (nI (B t))), nI (t + 1)) (by omega) ⟨t + 1, _, rfl, by omega, fun i hi => by
      by_cases e : i = t
      · subst e; rw [ud_s]
      · rw [ud_n _ _ (by omega)]; exact hR i (by omega), fun i hi => by
      rw [ud_n _ _ (by omega)]; exact hR0 i hi⟩
    simp only [↓reduceIte, not_true_eq_false, not_false_eq_true, false_implies, true_implies, implies_true, true_and, and_true, and_self, eq_self, Bool.false_eq_true, c1, vt, e160, ac, va, tc, r5, oS_r1]
    exact K
  · have c1 : nI n ≤ nI t := nI_le (by omega) (by omega)
    obtain rfl : t = n := by omega
    have eS : oI (oS (r1 σ R) 2 L (nI t)) 6 0 = S2 σ R L t := rfl
    have e3' : (S2 σ R L t).1 3 = nI L := (oI_n _ _ (by decide)).trans h3
    obtain ⟨q1, q2⟩ := hQ R hR hR0
    simp only [↓reduceIte, not_true_eq_false, not_false_eq_true, false_implies, true_implies, implies_true, true_and, and_true, and_self, eq_self, Bool.false_eq_true, c1, eS, e3', vL, q1]
    exact q2
theorem TXR.more {τ : TX} {σ r : OS} (h : TXR τ σ) (h3 : r.1 3 = σ.1 3) (h1 : ∀ i, i < 160 * τ.length → r.2.2.1 1 i = σ.2.2.1 1 i) (h2 : ∀ j, j < τ.length → r.2.2.1 2 j = σ.2.2.1 2 j) : TXR τ r := by
  refine ⟨h.1, h3.trans h.2.1, fun j hj => ?_⟩
  obtain ⟨n, B, ρ, hn, hB, hR, k2, k1, kk⟩ := h.2.2 j hj
  exact ⟨n, B, ρ, hn, hB, hR, (h2 j hj).trans k2, fun i hi => (h1 _ (by omega)).trans (k1 i hi), kk⟩
theorem tAt_old {τ : TX} {x : (Nat × Nat × Nat) × (Nat × (Nat → Int32) × (Nat → Int32))} {j : Nat} (hj : j < τ.length) : tAt (τ ++ [x]) j = tAt τ j := by
  unfold tAt
  rw [List.getElem?_append_left hj]
theorem tAt_new {τ : TX} {x : (Nat × Nat × Nat) × (Nat × (Nat → Int32) × (Nat → Int32))} : tAt (τ ++ [x]) τ.length = x := by
  unfold tAt
  rw [List.getElem?_append_right (Nat.le_refl _), Nat.sub_self]
  rfl
theorem mtx_TM {s : OS} {nc : Nat} (e4 : s.1 4 = nI nc) (hnc : nc < 160) : (mtx s).1 = nc ∧ TM (mtx s) s := by
  have e : (s.1 4).toNatClampNeg = nc := by rw [e4]; exact nI_clamp (by omega)
  have hml : (mtx s).1 = nc := e
  refine ⟨hml, by rw [e4, hml], fun i hi => ?_, fun j _ => rfl⟩
  rw [hml] at hi
  show va_cpy (s.2.2.1 2) (fun _ => 0) 0 0 (s.1 4).toNatClampNeg i = _
  rw [e]
  unfold va_cpy
  rw [if_pos (by omega), Nat.zero_add, Nat.sub_zero]
theorem TXR.new {τ : TX} {r ρ : OS} {X : Nat × (Nat → Int32) × (Nat → Int32)} {n : Nat} {B : Nat → Nat} (a : Nat × Nat × Nat) (T1 : TXR τ r) (c6 : τ.length < 6) (hn : n ≤ 160) (hB : ∀ i, B i < 256) (hR : Rst n B ρ) (h2 : r.2.2.1 2 τ.length = nI n) (h1 : ∀ i, i < n → r.2.2.1 1 (160 * τ.length + i) = nI (B i)) (e1 : (fX0_read ρ).1 = -1) (hX : X.1 < 160) (TN : TM X (fX0_read ρ).2) : TXR (τ ++ [(a, X)]) (oI r 3 (nI (τ.length + 1))) := by
  have len : (τ ++ [(a, X)]).length = τ.length + 1 := by simp
  refine ⟨by rw [len]; omega, by rw [len]; exact up_s r.1 3 _, fun j hj => ?_⟩
  rw [len] at hj
  by_cases e : j < τ.length
  · rw [tAt_old e]
    exact T1.2.2 j e
  · obtain rfl : j = τ.length := by omega
    rw [tAt_new]
    exact ⟨n, B, ρ, hn, hB, hR, h2, h1, e1, hX, TN⟩
theorem TP.none {ρ σ : OS} (h0 : ρ.1 0 = 0) (h6 : σ.1 6 = 0) : TP ρ σ := ⟨0, fun _ => 0, by decide, fun _ => show 0 < 256 by decide, ⟨h0, fun i hi => absurd hi (by omega)⟩, h6, fun i hi => absurd hi (by omega)⟩
theorem ps_text : PS_text Rel := by
  intro τ ξ σ h
  obtain ⟨m, y, hy, hw⟩ := h.1
  obtain ⟨-, hT, hc, ⟨n, B, hn, hB, hR, t6, t5⟩, hK, hS⟩ := id h
  have le6 := hT.1
  unfold gX5_text tX5_text fX5_text gX6_text oX6_text_0 fX6_text pX6_text_0
  rw [hc, hT.2.1]
  by_cases c6 : τ.length < 6
  · have c1 : nI τ.length < 6 := (nI_lt c6 (by decide) : nI τ.length < nI 6)
    have c2 : ¬ nI τ.length = 6 := nI_ne (b := 6) (by omega) (by omega) (by decide)
    have Lc : (nI τ.length).toNatClampNeg = τ.length := nI_clamp (by omega)
    have vL : vp_in (nI τ.length) 6 := vp_in_nI (by omega) (by decide)
    have key := text_r c6 hn hT.2.1 t6 t5 (fun u => gX0_read ξ.2.2.2.2.1 ∧ (((fX0_read ξ.2.2.2.2.1).1 = -1 ∧ (¬ (fX0_read ξ.2.2.2.2.1).2.1 4 < 0 ∧ (fX0_read ξ.2.2.2.2.1).2.1 4 < 160) ∧ u.1 = nI τ.length ∧ ∀ ta ca ea : Nat, Rel (τ ++ [((ta, ca, ea), mtx (fX0_read ξ.2.2.2.2.1).2)]) (xX (xR ξ (fX0_read ξ.2.2.2.2.1).2) (oI ξ.1 6 (nI (τ.length + 1)))) u.2) ∨ (¬ (fX0_read ξ.2.2.2.2.1).1 = -1 ∧ u.1 = (-100) - (fX0_read ξ.2.2.2.2.1).1 ∧ Rel τ (xR ξ (fX0_read ξ.2.2.2.2.1).2) u.2))) (fun R hR1 hR0 => by
      have row1 : (S2 σ R τ.length n).2.2.1 1 = R := (oS_n _ _ _ (by decide)).trans (r1_s σ R)
      have row2 : (S2 σ R τ.length n).2.2.1 2 = upd (σ.2.2.1 2) τ.length (nI n) := (oS_row _ _ _ _).trans (by rw [r1_n _ _ (by decide)])
      have rows : ∀ k, ¬ k = 1 → ¬ k = 2 → (S2 σ R τ.length n).2.2.1 k = σ.2.2.1 k := fun k a b => (oS_n _ _ _ b).trans (r1_n _ _ a)
      have i6 : (S2 σ R τ.length n).1 6 = 0 := up_s σ.1 6 0
      have is : ∀ j, ¬ j = 6 → (S2 σ R τ.length n).1 j = σ.1 j := fun j hj => oI_n _ _ hj
      have l1 : (S2 σ R τ.length n).2.1 = σ.2.1 := rfl
      have l2 : (S2 σ R τ.length n).2.2.2 = σ.2.2.2 := rfl
      generalize S2 σ R τ.length n = σ2 at *
      obtain ⟨g1, z0, v, r, hv, hq, hcase⟩ := read_sim hn hB c6 (σ := σ2) hR (by rw [row2, ud_s]) (by rw [row1]; exact hR1)
      obtain ⟨g2, e2⟩ := hv 0
      rw [e2]
      refine ⟨g2, g1, ?_⟩
      have q3 : r.1 3 = nI τ.length := by rw [hq.1 3 (by omega), is 3 (by decide)]; exact hT.2.1
      have W1 : WR τ.length m y ξ.2.1 r := hw.ref (by rw [hq.1 12 (by omega), is 12 (by decide)]) (by rw [hq.1 7 (by omega), is 7 (by decide)]) (by rw [hq.1 8 (by omega), is 8 (by decide)]) (by rw [hq.1 4 (by omega), is 4 (by decide)]) (by rw [hq.2.1 9 (by decide), l1]) (fun i _ => by rw [hq.2.2, rows 10 (by decide) (by decide)]) (fun p _ => by rw [hq.2.2, l2])
      have T1 : TXR τ r := hT.more (by rw [q3, hT.2.1]) (fun i hi => by rw [hq.2.2, row1]; exact hR0 i hi) (fun j hj => by rw [hq.2.2, row2, ud_n _ _ (by omega)])
      have kp : kep r = kep σ := kep_eq (fun j a b => by rw [hq.1 j (by omega), is j (by omega)]) (by rw [hq.2.1 36 (by decide), l1]) (by rw [hq.2.2, rows 30 (by decide) (by decide)]) (by rw [hq.2.2, l2])
      have r32 : r.1 32 = σ.1 32 := by rw [hq.1 32 (by omega), is 32 (by decide)]
      have K1 : ∀ ξ' : XS, ξ'.1.1 7 = ξ.1.1 7 → ξ'.2.2.2.1 = ξ.2.2.2.1 → ∀ r', r'.1 32 = r.1 32 → kep r' = kep r → KR τ.length ξ' r' := fun ξ' a b r' c d => by
        unfold KR
        rw [a, b, c, d, kp, r32]
        exact hK
      have S1 : ∀ s, s < 4 → SHR (ξ.2.2.2.2.2 s) s r := fun s hs => (hS s hs).move (by rw [hq.2.2, rows 37 (by decide) (by decide)]) (by rw [hq.2.2, rows 38 (by decide) (by decide)]) (by rw [hq.2.2, rows 39 (by decide) (by decide)]) (by rw [hq.2.2, rows 40 (by decide) (by decide)])
      have P1 : ∀ r' : OS, r'.1 6 = r.1 6 → TP (fX0_read ξ.2.2.2.2.1).2 r' := fun r' e => TP.none z0 (by rw [e, hq.1 6 (by omega), i6])
      have newT : ∀ (a : Nat × Nat × Nat) (X : Nat × (Nat → Int32) × (Nat → Int32)), (fX0_read ξ.2.2.2.2.1).1 = -1 → X.1 < 160 → TM X (fX0_read ξ.2.2.2.2.1).2 → TXR (τ ++ [(a, X)]) (oI r 3 (nI (τ.length + 1))) := fun a X q1 q2 q3 => T1.new a c6 hn hB hR (by rw [hq.2.2, row2, ud_s]) (fun i hi => by rw [hq.2.2, row1]; exact hR1 i hi) q1 q2 q3
      generalize fX0_read ξ.2.2.2.2.1 = rd at *
      obtain ⟨rd1, rd2⟩ := rd
      rcases hcase with ⟨e1, e26, nc, hnc, e4, -⟩ | ⟨p, hp, e1, e26, e27⟩
      · refine Or.inl ⟨e1, ⟨by rw [e4]; exact nI_pos (by omega), by rw [e4]; exact (nI_lt hnc (by decide) : nI nc < nI 160)⟩, ?_⟩
        unfold pX6_text_76
        simp only [↓reduceIte, not_true_eq_false, not_false_eq_true, false_implies, true_implies, implies_true, true_and, and_true, and_self, eq_self, Bool.false_eq_true, e26, q3, nI_1]
        have ea : (oI r 3 (nI (τ.length + 1))).1 3 - 1 = nI τ.length := by
          rw [show (oI r 3 (nI (τ.length + 1))).1 3 = nI (τ.length + 1) from up_s r.1 3 _]
          exact (Int32.sub_eq_add_neg _ _).trans (nI_m1 τ.length)
        refine ⟨ea, fun ta ca ea => ?_⟩
        obtain ⟨hml, TN⟩ := mtx_TM e4 hnc
        have NT := newT (ta, ca, ea) _ e1 (by rw [hml]; exact hnc) TN
        generalize mtx rd2 = X at *
        have len : (τ ++ [((ta, ca, ea), X)]).length = τ.length + 1 := by simp
        refine ⟨⟨m, y, hy, ?_⟩, ?_, ?_, ?_, ?_, ?_⟩
        · rw [len]
          exact (W1.ref (r := oI r 3 (nI (τ.length + 1))) (oI_n _ _ (by decide)) (oI_n _ _ (by decide)) (oI_n _ _ (by decide)) (oI_n _ _ (by decide)) rfl (fun _ _ => rfl) (fun _ _ => rfl)).mono (by omega)
        · exact NT
        · rw [len]
          exact up_s ξ.1.1 6 _
        · exact P1 _ (oI_n _ _ (by decide))
        · rw [len]
          exact (K1 (xX (xR ξ rd2) (oI ξ.1 6 (nI (τ.length + 1)))) (oI_n ξ.1 (k := 6) (j := 7) _ (by decide)) rfl (oI r 3 (nI (τ.length + 1))) (oI_n r (k := 3) (j := 32) _ (by decide)) (kep_eq (fun j a b => oI_n r (k := 3) (j := j) _ (by omega)) rfl rfl rfl)).mono (by omega)
        · exact S1
      · have ne : ¬ rd1 = -1 := by rw [show rd1 = nI p from e1]; exact nI_ne_m1 (by omega)
        refine Or.inr ⟨ne, ?_⟩
        unfold pX6_text_76
        have e1 : rd1 = nI p := e1
        simp only [↓reduceIte, not_true_eq_false, not_false_eq_true, false_implies, true_implies, implies_true, true_and, and_true, and_self, eq_self, Bool.false_eq_true, e26, one_ne, e27, e1]
        exact ⟨⟨m, y, hy, W1⟩, T1, hc, P1 r rfl, K1 _ rfl rfl r rfl rfl, S1⟩)
    obtain ⟨k1, k2, k3⟩ := key
    generalize lp (0, o0) bX6_text_14 fu (σ, 0) = u at *
    generalize fX0_read ξ.2.2.2.2.1 = rd at *
    obtain ⟨rd1, rd2⟩ := rd
    obtain ⟨u1, u2⟩ := u
    rcases k3 with ⟨e1, ⟨e2, e3⟩, e4, e5⟩ | ⟨e1, e4, e5⟩
    · have e1 : rd1 = -1 := e1
      have e4 : u1 = nI τ.length := e4
      simp only [↓reduceIte, not_true_eq_false, not_false_eq_true, false_implies, true_implies, implies_true, true_and, and_true, and_self, eq_self, Bool.false_eq_true, c1, c2, e1, k1, k2, e2, e3, vL, Lc, e4, nI_1]
      exact e5
    · have e1 : ¬ rd1 = -1 := e1
      have e4 : u1 = -100 - rd1 := e4
      simp only [↓reduceIte, not_true_eq_false, not_false_eq_true, false_implies, true_implies, implies_true, true_and, and_true, and_self, eq_self, Bool.false_eq_true, c1, c2, e1, k1, k2, e4, Bool.false_eq_true]
      exact fun _ _ _ => e5
  · have el : τ.length = 6 := by omega
    have c1 : ¬ nI τ.length < 6 := by rw [el]; decide
    have c2 : nI τ.length = 6 := by rw [el]; rfl
    simp only [↓reduceIte, not_true_eq_false, not_false_eq_true, false_implies, true_implies, implies_true, true_and, and_true, and_self, eq_self, Bool.false_eq_true, c1, eq_true c2]
    exact fun _ _ _ => h
end

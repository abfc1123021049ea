section
theorem next_eq {n : Nat} {B : Nat → Nat} (hn : n ≤ 160) (hB : ∀ i, B i < 256) {f : Nat} (hf : f ≤ 800) {σ : OS} (hS : Sst n B f σ) {h : Nat} (h21 : σ.1 21 = nI h) (hh : h ≤ n) : gX6_next σ ∧ NX n B (runN (fun i => isBl (B i)) n h) σ (fX6_next σ) := by
  unfold gX6_next fX6_next
  generalize hA : runN (fun i => isBl (B i)) n h = a
  refine lp_one (d := o0) (body := bX6_next_0) (ok := kX6_next_0) (fun m v => ∃ z, v = oI σ 21 (nI z) ∧ z + m = n ∧ runN (fun i => isBl (B i)) n z = a) (fun r => NX n B a σ r) ?_ fu (n - h) σ ⟨h, (oI_id σ 21 h21).symm, by omega, hA⟩ (by show n - h < 1000; omega)
  rintro m v ⟨z, rfl, hm, hr⟩ kR kO hk
  have f1 : SF σ (oI σ 21 (nI z)) := (SF.rfl' σ).put (j := 21) (by omega) _
  have f2 : SF σ (oI (oI σ 21 (nI z)) 23 (nI z)) := f1.put (j := 23) (by omega) _
  obtain ⟨g1, e1⟩ := byteAt_eq (hS.sf f1) hn hf (i := z) (by omega)
  obtain ⟨g2, e2⟩ := byteAt_eq (hS.sf f2) hn hf (i := z) (by omega)
  have q21 : (oI (oI σ 21 (nI z)) 23 (nI z)).1 21 = nI z := by rw [oI_n _ _ (by decide), oI_s]
  unfold bX6_next_0 kX6_next_0
  simp only [oI_s, q21, g1, e1, g2, e2]
  by_cases hz : z < n
  · simp only [hz, if_true]
    have hb := by_bl (B z) (hB z)
    cases e : isBl (B z) with
    | true =>
      have e3 : runN (fun i => isBl (B i)) n z = runN (fun i => isBl (B i)) n (z + 1) := runN_yes hz e
      have st : oX6_next_26 kO (oI σ 21 (nI z)) ∧ NX n B a σ (pX6_next_26 kR (oI σ 21 (nI z))) := by
        unfold oX6_next_26 pX6_next_26
        rw [oI_s, oI_oI, nI_1]
        exact hk (m - 1) _ (by omega) ⟨z + 1, rfl, by omega, e3 ▸ hr⟩
      by_cases h32 : nI (B z) = 32
      · simp only [↓reduceIte, not_true_eq_false, not_false_eq_true, false_implies, true_implies, implies_true, true_and, and_true, and_self, eq_self, Bool.false_eq_true, eq_true h32]
        exact st
      · have h10 := (hb.2.mpr e).resolve_left h32
        simp only [↓reduceIte, not_true_eq_false, not_false_eq_true, false_implies, true_implies, implies_true, true_and, and_true, and_self, eq_self, Bool.false_eq_true, h32, eq_true h10]
        exact st
    | false =>
      have h32 : ¬ nI (B z) = 32 := fun h => by have := hb.2.mp (Or.inl h); rw [e] at this; cases this
      have h10 : ¬ nI (B z) = 10 := fun h => by have := hb.2.mp (Or.inr h); rw [e] at this; cases this
      have hza : z = a := (runN_no (P := fun i => isBl (B i)) e).symm.trans hr
      subst hza
      have p0 : (0 : Int32) ≤ nI (B z) := nI_pos' (by have := hB z; omega)
      simp only [h32, h10, p0, (by_le _ (hB z)).2, (by_di _ (hB z)).2]
      cases eL : isLe (B z) with
      | true =>
        have f4 := (f2.put (j := 22) (by omega) 4).put (j := 22) (by omega) 1
        obtain ⟨g, er⟩ := nx100 hn hB hf (hS.sf f4) (a := z) (by rw [oI_n _ _ (by decide), oI_n _ _ (by decide)]; exact q21) (by omega)
        simp only [↓reduceIte, not_true_eq_false, not_false_eq_true, false_implies, true_implies, implies_true, true_and, and_true, and_self, eq_self, Bool.false_eq_true, one_ne, g, er]
        refine ⟨f4.put (by omega) _, ?_, 1, _, ?_, oI_s _ _ _, Or.inr (Or.inl ⟨hz, eL, rfl, rfl⟩)⟩
        · rw [oI_n _ _ (by decide), oI_n _ _ (by decide), oI_n _ _ (by decide), oI_s]
        · rw [oI_n _ _ (by decide), oI_s]; rfl
      | false =>
        cases eD : isDi (B z) with
        | true =>
          have f4 := ((f2.put (j := 22) (by omega) 4).put (j := 22) (by omega) 2).putL 0
          obtain ⟨g, r1, r2, r3, r4⟩ := nx160 hn hB hf (hS.sf f4) (a := z) (by rw [oL_1, oI_n _ _ (by decide), oI_n _ _ (by decide)]; exact q21) (oL_s _ _ _) (by omega)
          simp only [↓reduceIte, not_true_eq_false, not_false_eq_true, false_implies, true_implies, implies_true, true_and, and_true, and_self, eq_self, Bool.false_eq_true, one_ne, g]
          generalize lp o0 bX6_next_160 fu (oL (oI (oI (oI (oI σ 21 (nI z)) 23 (nI z)) 22 4) 22 2) 24 0, 0) = r at r1 r2 r3 r4
          generalize hE : runN (fun i => isDi (B i)) n z = E at r3 r4
          refine ⟨f4.trans r1, ?_, if E ≤ z + 4 then 2 else 4, E, ?_, r3, Or.inr (Or.inr (Or.inl ⟨hz, eL, eD, hE.symm, ?_⟩))⟩
          · rw [r2, oL_1, oI_n _ _ (by decide), oI_n _ _ (by decide), oI_s]
          · by_cases c : E ≤ z + 4
            · rw [if_pos c] at r4 ⊢; exact r4.1
            · rw [if_neg c] at r4 ⊢; exact r4
          · by_cases c : E ≤ z + 4
            · rw [if_pos c] at r4 ⊢; rw [if_pos c]; exact ⟨rfl, r4.2⟩
            · rw [if_neg c]; rw [if_neg c]
        | false =>
          simp only [↓reduceIte, not_true_eq_false, not_false_eq_true, false_implies, true_implies, implies_true, true_and, and_true, and_self, eq_self, Bool.false_eq_true]
          simp only [if_or2, or_assoc]
          have hs := sg_or (B z) (hB z)
          by_cases c : sgi (B z) < 8
          · rw [if_pos (hs.mp c)]
            unfold pX6_next_300
            refine ⟨((f2.put (by omega) _).put (by omega) _).putL _ |>.put (by omega) _, ?_, 3, z + 1, ?_, ?_, Or.inr (Or.inr (Or.inr ⟨hz, eL, eD, ?_⟩))⟩
            · rw [oI_n _ _ (by decide), oL_1, oI_n _ _ (by decide), oI_n _ _ (by decide), oI_s]
            · rw [oI_n _ _ (by decide), oL_1, oI_s]; rfl
            · rw [oI_s, oL_1, oI_n _ _ (by decide), oI_n _ _ (by decide), q21, nI_1]
            · rw [if_pos c]
              exact ⟨rfl, rfl, (oL_s _ _ _).trans (nI_l (by have := hB z; omega))⟩
          · rw [if_neg (fun h => c (hs.mpr h))]
            refine ⟨f2.put (by omega) _, ?_, 4, z, ?_, ?_, Or.inr (Or.inr (Or.inr ⟨hz, eL, eD, ?_⟩))⟩
            · rw [oI_n _ _ (by decide), oI_s]
            · rw [oI_s]; rfl
            · rw [oI_n _ _ (by decide)]; exact q21
            · rw [if_neg c]
  · have hzn : z = n := by omega
    subst hzn
    have hza : z = a := (runN_end _ (Nat.le_refl _)).symm.trans hr
    subst hza
    have p32 : ¬ (-1 : Int32) = 32 := by decide
    have p10 : ¬ (-1 : Int32) = 10 := by decide
    have p0 : ¬ (0 : Int32) ≤ -1 := by decide
    simp only [↓reduceIte, not_true_eq_false, not_false_eq_true, false_implies, true_implies, implies_true, true_and, and_true, and_self, eq_self, Bool.false_eq_true, hz, p32, p10, p0]
    refine ⟨((f2.put (by omega) _).put (by omega) _).put (by omega) _, ?_, 0, z, ?_, ?_, Or.inl ⟨rfl, rfl, rfl⟩⟩
    · rw [oI_s, oI_n _ _ (by decide), oI_n _ _ (by decide), oI_n _ _ (by decide), oI_n _ _ (by decide)]; exact hS.1
    · rw [oI_n _ _ (by decide), oI_s]; rfl
    · rw [oI_n _ _ (by decide), oI_n _ _ (by decide), oI_n _ _ (by decide), q21]
end

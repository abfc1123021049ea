section
/-! reading: a step of the class's reader, a step of the reference -/
theorem if_or2 {α : Type} {P Q : Prop} [Decidable P] [Decidable Q] (X Y : α) : (if P then X else if Q then X else Y) = if P ∨ Q then X else Y := by
  by_cases hP : P <;> by_cases hQ : Q <;> simp [hP, hQ]
/-- what of the reader's state a step leaves -/
def RF (ρ r : OS) : Prop := (∀ j, ¬ j = 5 → ¬ j = 6 → ¬ j = 7 → ¬ j = 8 → r.1 j = ρ.1 j) ∧ r.2 = ρ.2
/-- a token by its first byte's place, its number in the class, its end -/
def CT (n : Nat) (B : Nat → Nat) (a k e : Nat) : Prop :=
  (a = n ∧ k = 21 ∧ e = n) ∨ (a < n ∧ isLe (B a) = true ∧ e = runN (fun i => isLe (B i)) n a ∧ ((k < 12 ∧ SP B a e k) ∨ (k = 22 ∧ ∀ w, w < 12 → ¬ SP B a e w))) ∨
  (a < n ∧ isLe (B a) = false ∧ isDi (B a) = true ∧ e = runN (fun i => isDi (B i)) n a ∧ (if e ≤ a + 4 then k = 20 else k = 22)) ∨
  (a < n ∧ isLe (B a) = false ∧ isDi (B a) = false ∧ e = a + 1 ∧ (if sgi (B a) < 8 then k = 12 + sgi (B a) else k = 22))
def SX (n : Nat) (B : Nat → Nat) (a : Nat) (ρ r : OS) : Prop :=
  RF ρ r ∧ r.1 7 = nI a ∧ ∃ k e, r.1 6 = nI k ∧ r.1 5 = nI e ∧ CT n B a k e ∧ (k = 20 → r.1 8 = nI (dvl B a (e - a) 0))
theorem RF.put {ρ r : OS} (h : RF ρ r) {j : Nat} (hj : j = 5 ∨ j = 6 ∨ j = 7 ∨ j = 8) (x : Int32) : RF ρ (oI r j x) := by
  refine ⟨fun i h5 h6 h7 h8 => ?_, h.2⟩
  rw [oI_n _ _ (by omega)]
  exact h.1 i h5 h6 h7 h8
theorem RF.rfl' (ρ : OS) : RF ρ ρ := ⟨fun _ _ _ _ _ => rfl, rfl⟩
theorem step60 {n : Nat} {B : Nat → Nat} (hn : n ≤ 160) (hB : ∀ i, B i < 256) {ρ : OS} (hR : Rst n B ρ) {a : Nat} (h5 : ρ.1 5 = nI a) (ha : a ≤ n) : oX0_step_60 ρ ∧ SX n B a ρ (pX0_step_60 ρ) := by
  have hR2 : Rst n B (oI ρ 7 (nI a)) := hR.oI (by decide) _
  have q5 : (oI ρ 7 (nI a)).1 5 = nI a := (oI_n _ _ (by decide)).trans h5
  unfold oX0_step_60 pX0_step_60
  simp only [h5, q5, hR2.1]
  by_cases hh : a < n
  · have c1 : nI a < nI n := nI_lt hh (by omega)
    have vin : vp_in (nI a) 160 := vp_in_nI (by omega) (by omega)
    have e1 : (oI ρ 7 (nI a)).2.2.1 1 (nI a).toNatClampNeg = nI (B a) := by rw [nI_clamp (n := a) (by omega)]; exact hR2.2 a hh
    simp only [c1, e1, (by_le _ (hB a)).1, (by_di _ (hB a)).1, by_sg _ (hB a), vin]
    cases eL : isLe (B a) with
    | true =>
      obtain ⟨hg, tok, ht, hW⟩ := wordTok hn hB hR2 (oI_s _ _ _) q5 ha
      simp only [↓reduceIte, not_true_eq_false, not_false_eq_true, false_implies, true_implies, implies_true, true_and, and_true, and_self, eq_self, Bool.false_eq_true, one_ne, hg, ht]
      unfold pX0_step_108
      have key : ∀ k, tok = nI k → CT n B a k (runN (fun i => isLe (B i)) n a) → ¬ k = 20 → SX n B a ρ (oI (oI (oI ρ 7 (nI a)) 5 (nI (runN (fun i => isLe (B i)) n a))) 6 tok) := by
        intro k hk hc h20
        refine ⟨((RF.rfl' ρ).put (by omega) _).put (by omega) _ |>.put (by omega) _, ?_, k, _, ?_, ?_, hc, fun h => absurd h h20⟩
        · rw [oI_n _ _ (by decide), oI_n _ _ (by decide), oI_s]
        · rw [oI_s, hk]
        · rw [oI_n _ _ (by decide), oI_s]
      rcases hW with ⟨w, hw, hsp, rfl⟩ | ⟨hno, rfl⟩
      · exact key w rfl (Or.inr (Or.inl ⟨hh, eL, rfl, Or.inl ⟨hw, hsp⟩⟩)) (by omega)
      · exact key 22 rfl (Or.inr (Or.inl ⟨hh, eL, rfl, Or.inr ⟨rfl, hno⟩⟩)) (by omega)
    | false =>
      cases eD : isDi (B a) with
      | true =>
        obtain ⟨hg, ht⟩ := numTok hn hB hR2 (oI_s _ _ _) q5 ha
        simp only [↓reduceIte, not_true_eq_false, not_false_eq_true, false_implies, true_implies, implies_true, true_and, and_true, and_self, eq_self, Bool.false_eq_true, one_ne, hg, ht]
        unfold pX0_step_134
        generalize hE : runN (fun i => isDi (B i)) n a = E
        refine ⟨((RF.rfl' ρ).put (by omega) _).put (by omega) _ |>.put (by omega) _ |>.put (by omega) _, ?_, if E ≤ a + 4 then 20 else 22, E, ?_, ?_, Or.inr (Or.inr (Or.inl ⟨hh, eL, eD, hE.symm, ?_⟩)), fun _ => ?_⟩
        · rw [oI_n _ _ (by decide), oI_n _ _ (by decide), oI_n _ _ (by decide), oI_s]
        · rw [oI_s]; split <;> rfl
        · rw [oI_n _ _ (by decide), oI_n _ _ (by decide), oI_s]
        · split <;> rfl
        · rw [oI_n _ _ (by decide), oI_s]
      | false =>
        have hg := ix_g (((nI (B a)).toUInt32 % 65536).toInt32)
        have key : ∀ (t : Int32) (k : Nat), t = nI k → ¬ k = 20 → (if sgi (B a) < 8 then k = 12 + sgi (B a) else k = 22) → SX n B a ρ (pX0_step_170 (oI ρ 7 (nI a)) t) := by
          intro t k hk h20 hc
          unfold pX0_step_170
          refine ⟨((RF.rfl' ρ).put (by omega) _).put (by omega) _ |>.put (by omega) _, ?_, k, a + 1, ?_, ?_, Or.inr (Or.inr (Or.inr ⟨hh, eL, eD, rfl, hc⟩)), fun h => absurd h h20⟩
          · rw [oI_n _ _ (by decide), oI_n _ _ (by decide), oI_s]
          · rw [oI_n _ _ (by decide), oI_s, hk]
          · rw [oI_s, oI_n _ _ (by decide), q5, nI_1]
        by_cases hs : sgi (B a) < 8
        · have c2 : (0 : Int32) ≤ nI (sgi (B a)) := nI_pos' (by omega)
          simp only [↓reduceIte, not_true_eq_false, not_false_eq_true, false_implies, true_implies, implies_true, true_and, and_true, and_self, eq_self, Bool.false_eq_true, one_ne, hg, hs, c2]
          exact key _ (12 + sgi (B a)) (nI_add 12 _) (by omega) (by rw [if_pos hs])
        · have c2 : ¬ (0 : Int32) ≤ -1 := by decide
          simp only [↓reduceIte, not_true_eq_false, not_false_eq_true, false_implies, true_implies, implies_true, true_and, and_true, and_self, eq_self, Bool.false_eq_true, one_ne, hg, hs, c2]
          exact key _ 22 rfl (by omega) (by rw [if_neg hs])
  · have c1 : ¬ nI a < nI n := nI_nlt (by omega) (by omega)
    simp only [↓reduceIte, not_true_eq_false, not_false_eq_true, false_implies, true_implies, implies_true, true_and, and_true, and_self, eq_self, Bool.false_eq_true, c1]
    refine ⟨((RF.rfl' ρ).put (by omega) _).put (by omega) _, ?_, 21, n, ?_, ?_, Or.inl ⟨by omega, rfl, rfl⟩, fun h => absurd h (by decide)⟩
    · rw [oI_n _ _ (by decide), oI_s]
    · rw [oI_s]; rfl
    · rw [oI_n _ _ (by decide), q5, show a = n by omega]
theorem step_eq {n : Nat} {B : Nat → Nat} (hn : n ≤ 160) (hB : ∀ i, B i < 256) {ρ : OS} (hR : Rst n B ρ) {h : Nat} (h5 : ρ.1 5 = nI h) (h10 : ρ.1 10 = -1) (hh : h ≤ n) : gX0_step ρ ∧ SX n B (runN (fun i => isBl (B i)) n h) ρ (fX0_step ρ) := by
  unfold gX0_step fX0_step oX0_step_0 pX0_step_0
  simp only [↓reduceIte, not_true_eq_false, not_false_eq_true, false_implies, true_implies, implies_true, true_and, and_true, and_self, eq_self, Bool.false_eq_true, h10]
  have up : ∀ z r a, SX n B a (oI ρ 5 (nI z)) r → SX n B a ρ r := by
    rintro z r a ⟨f1, f2, f3⟩
    exact ⟨⟨fun j h5 h6 h7 h8 => (f1.1 j h5 h6 h7 h8).trans (oI_n _ _ h5), f1.2⟩, f2, f3⟩
  refine lp_one (d := o0) (body := bX0_step_11) (ok := kX0_step_11) (fun m v => ∃ z t, v = (oI ρ 5 (nI z), nI t) ∧ z + m = n ∧ t ≤ z ∧ runN (fun i => isBl (B i)) n z = runN (fun i => isBl (B i)) n h) (fun r => SX n B (runN (fun i => isBl (B i)) n h) ρ r) ?_ fu (n - h) (ρ, 0) ⟨h, 0, by rw [oI_id ρ 5 h5]; rfl, by omega, by omega, rfl⟩ (by show n - h < 1000; omega)
  rintro m v ⟨z, t, rfl, hm, htz, hr⟩ kR kO hk
  have hR2 : Rst n B (oI ρ 5 (nI z)) := hR.oI (by decide) _
  have fin : runN (fun i => isBl (B i)) n z = z → oX0_step_60 (oI ρ 5 (nI z)) ∧ SX n B (runN (fun i => isBl (B i)) n h) ρ (pX0_step_60 (oI ρ 5 (nI z))) := by
    intro e
    obtain ⟨g1, g2⟩ := step60 hn hB hR2 (oI_s ρ 5 (nI z)) (by omega)
    rw [← hr, e]
    exact ⟨g1, up z _ _ g2⟩
  unfold bX0_step_11 kX0_step_11
  simp only [oI_s, hR2.1, oI_oI, nI_1]
  by_cases hz : z < n
  · have c1 : ¬ (160 : Int32) ≤ nI t := nI_ge (b := 160) (by omega) (by omega)
    have c2 : ¬ nI n ≤ nI z := nI_ge hz (by omega)
    have vin : vp_in (nI z) 160 := vp_in_nI (by omega) (by omega)
    have e1 : (oI ρ 5 (nI z)).2.2.1 1 (nI z).toNatClampNeg = nI (B z) := by rw [nI_clamp (n := z) (by omega)]; exact hR2.2 z hz
    simp only [e1, (by_bl _ (hB z)).1]
    cases e : isBl (B z) with
    | false =>
      obtain ⟨g1, g2⟩ := fin (runN_no e)
      simp only [↓reduceIte, not_true_eq_false, not_false_eq_true, false_implies, true_implies, implies_true, true_and, and_true, and_self, eq_self, Bool.false_eq_true, c1, c2, vin, g1]
      exact g2
    | true =>
      have e2 : runN (fun i => isBl (B i)) n z = runN (fun i => isBl (B i)) n (z + 1) := runN_yes hz e
      have := hk (m - 1) (oI ρ 5 (nI (z + 1)), nI (t + 1)) (by omega) ⟨z + 1, t + 1, rfl, by omega, by omega, e2 ▸ hr⟩
      simp only [↓reduceIte, not_true_eq_false, not_false_eq_true, false_implies, true_implies, implies_true, true_and, and_true, and_self, eq_self, Bool.false_eq_true, c1, c2, vin, one_ne]
      exact this
  · have c2 : nI n ≤ nI z := nI_le (by omega) (by omega)
    obtain ⟨g1, g2⟩ := fin (runN_end _ (by omega))
    simp only [↓reduceIte, not_true_eq_false, not_false_eq_true, false_implies, true_implies, implies_true, true_and, and_true, and_self, eq_self, Bool.false_eq_true, c2, g1, ite_self]
    exact g2
/-- what of the reference's state a step leaves -/
def SF (σ r : OS) : Prop := (∀ j, ¬ j = 21 → ¬ j = 22 → ¬ j = 23 → r.1 j = σ.1 j) ∧ (∀ j, ¬ j = 24 → r.2.1 j = σ.2.1 j) ∧ r.2.2 = σ.2.2
def MT (n : Nat) (B : Nat → Nat) (a kd e : Nat) (w : Int64) : Prop :=
  (a = n ∧ kd = 0 ∧ e = n) ∨ (a < n ∧ isLe (B a) = true ∧ e = runN (fun i => isLe (B i)) n a ∧ kd = 1) ∨
  (a < n ∧ isLe (B a) = false ∧ isDi (B a) = true ∧ e = runN (fun i => isDi (B i)) n a ∧ (if e ≤ a + 4 then kd = 2 ∧ w = lN (dvl B a (e - a) 0) else kd = 4)) ∨
  (a < n ∧ isLe (B a) = false ∧ isDi (B a) = false ∧ (if sgi (B a) < 8 then kd = 3 ∧ e = a + 1 ∧ w = lN (B a) else kd = 4))
def NX (n : Nat) (B : Nat → Nat) (a : Nat) (σ r : OS) : Prop := SF σ r ∧ r.1 23 = nI a ∧ ∃ kd e, r.1 22 = nI kd ∧ r.1 21 = nI e ∧ MT n B a kd e (r.2.1 24)
theorem SF.rfl' (σ : OS) : SF σ σ := ⟨fun _ _ _ _ => rfl, fun _ _ => rfl, rfl⟩
theorem SF.put {σ r : OS} (h : SF σ r) {j : Nat} (hj : j = 21 ∨ j = 22 ∨ j = 23) (x : Int32) : SF σ (oI r j x) := by
  refine ⟨fun i h5 h6 h7 => ?_, h.2⟩
  rw [oI_n _ _ (by omega)]
  exact h.1 i h5 h6 h7
theorem SF.putL {σ r : OS} (h : SF σ r) (x : Int64) : SF σ (oL r 24 x) := ⟨h.1, fun i hi => (up_n _ _ hi).trans (h.2.1 i hi), h.2.2⟩
theorem SF.trans {σ r s : OS} (h : SF σ r) (k : SF r s) : SF σ s := ⟨fun j a b c => (k.1 j a b c).trans (h.1 j a b c), fun j a => (k.2.1 j a).trans (h.2.1 j a), k.2.2.trans h.2.2⟩
theorem Sst.sf {n : Nat} {B : Nat → Nat} {f : Nat} {σ r : OS} (h : Sst n B f σ) (k : SF σ r) : Sst n B f r :=
  ⟨(k.1 20 (by decide) (by decide) (by decide)).trans h.1, (k.1 19 (by decide) (by decide) (by decide)).trans h.2.1, fun i hi => by rw [k.2.2]; exact h.2.2 i hi⟩
theorem oL_1 (σ : OS) (k : Nat) (x : Int64) : (oL σ k x).1 = σ.1 := rfl
theorem oL_s (σ : OS) (k : Nat) (x : Int64) : (oL σ k x).2.1 k = x := up_s _ _ _
/-- letters -/
theorem nx100 {n : Nat} {B : Nat → Nat} (hn : n ≤ 160) (hB : ∀ i, B i < 256) {f : Nat} (hf : f ≤ 800) {σ : OS} (hS : Sst n B f σ) {a : Nat} (h21 : σ.1 21 = nI a) (ha : a ≤ n) : lpOk kX6_next_100 fu σ ∧ lp o0 bX6_next_100 fu σ = oI σ 21 (nI (runN (fun i => isLe (B i)) n a)) := by
  refine lp_one (d := o0) (body := bX6_next_100) (ok := kX6_next_100) (fun m v => ∃ z, v = oI σ 21 (nI z) ∧ z + m = n ∧ runN (fun i => isLe (B i)) n z = runN (fun i => isLe (B i)) n a) (fun r => r = oI σ 21 (nI (runN (fun i => isLe (B i)) n a))) ?_ fu (n - a) σ ⟨a, (oI_id σ 21 h21).symm, by omega, rfl⟩ (by show n - a < 1000; omega)
  rintro m v ⟨z, rfl, hm, hr⟩ kR kO hk
  obtain ⟨g, e⟩ := byteAt_eq (hS.sf ((SF.rfl' σ).put (j := 21) (by omega) (nI z))) hn hf (i := z) (by omega)
  unfold bX6_next_100 kX6_next_100
  simp only [oI_s, oI_oI, nI_1, g, e]
  by_cases hz : z < n
  · simp only [hz, if_true, (by_le _ (hB z)).2]
    cases e : isLe (B z) with
    | false =>
      simp only [↓reduceIte, not_true_eq_false, not_false_eq_true, false_implies, true_implies, implies_true, true_and, and_true, and_self, eq_self, Bool.false_eq_true]
      rw [← hr, runN_no (P := fun i => isLe (B i)) e]
    | true =>
      have e2 : runN (fun i => isLe (B i)) n z = runN (fun i => isLe (B i)) n (z + 1) := runN_yes hz e
      simp only [↓reduceIte, not_true_eq_false, not_false_eq_true, false_implies, true_implies, implies_true, true_and, and_true, and_self, eq_self, Bool.false_eq_true, one_ne]
      exact hk (m - 1) _ (by omega) ⟨z + 1, rfl, by omega, e2 ▸ hr⟩
  · have q : fX6_in (-1 : Int32).toInt64 97 122 = 0 := by decide
    simp only [↓reduceIte, not_true_eq_false, not_false_eq_true, false_implies, true_implies, implies_true, true_and, and_true, and_self, eq_self, Bool.false_eq_true, hz, q]
    rw [← hr, runN_end _ (by omega)]
/-- digits -/
theorem nx160 {n : Nat} {B : Nat → Nat} (hn : n ≤ 160) (hB : ∀ i, B i < 256) {f : Nat} (hf : f ≤ 800) {σ : OS} (hS : Sst n B f σ) {a : Nat} (h21 : σ.1 21 = nI a) (h24 : σ.2.1 24 = 0) (ha : a ≤ n) : lpOk kX6_next_160 fu (σ, 0) ∧ SF σ (lp o0 bX6_next_160 fu (σ, 0)) ∧ (lp o0 bX6_next_160 fu (σ, 0)).1 23 = σ.1 23 ∧ (lp o0 bX6_next_160 fu (σ, 0)).1 21 = nI (runN (fun i => isDi (B i)) n a) ∧ (if runN (fun i => isDi (B i)) n a ≤ a + 4 then (lp o0 bX6_next_160 fu (σ, 0)).1 22 = 2 ∧ (lp o0 bX6_next_160 fu (σ, 0)).2.1 24 = lN (dvl B a (runN (fun i => isDi (B i)) n a - a) 0) else (lp o0 bX6_next_160 fu (σ, 0)).1 22 = 4) := by
  have hrun := runN_b (fun i => isDi (B i)) n _ a rfl ha
  generalize hE : runN (fun i => isDi (B i)) n a = E at hrun ⊢
  refine lp_one (d := o0) (body := bX6_next_160) (ok := kX6_next_160) (fun m v => ∃ z s, v = (s, nI (z - a)) ∧ SF σ s ∧ s.1 23 = σ.1 23 ∧ s.1 21 = nI z ∧ z + m = n ∧ a ≤ z ∧ z ≤ E ∧ runN (fun i => isDi (B i)) n z = E ∧ (z ≤ a + 4 → ∃ acc, s.2.1 24 = lN acc ∧ dvl B z (E - z) acc = dvl B a (E - a) 0)) (fun r => SF σ r ∧ r.1 23 = σ.1 23 ∧ r.1 21 = nI E ∧ (if E ≤ a + 4 then r.1 22 = 2 ∧ r.2.1 24 = lN (dvl B a (E - a) 0) else r.1 22 = 4)) ?_ fu (n - a) (σ, 0) ⟨a, σ, by rw [Nat.sub_self]; rfl, SF.rfl' σ, rfl, h21, by omega, by omega, by omega, hE, fun _ => ⟨0, h24, rfl⟩⟩ (by show n - a < 1000; omega)
  rintro m v ⟨z, s, rfl, hs, s23, s21, hm, haz, hzE, hr, hacc⟩ kR kO hk
  obtain ⟨g, e⟩ := byteAt_eq (hS.sf hs) hn hf (i := z) (by omega)
  have fin : z = E → (SF σ (if nI (z - a) ≤ 4 then pX6_next_246 s 2 else pX6_next_246 s 4) ∧ (if nI (z - a) ≤ 4 then pX6_next_246 s 2 else pX6_next_246 s 4).1 23 = σ.1 23 ∧ (if nI (z - a) ≤ 4 then pX6_next_246 s 2 else pX6_next_246 s 4).1 21 = nI E ∧ (if E ≤ a + 4 then (if nI (z - a) ≤ 4 then pX6_next_246 s 2 else pX6_next_246 s 4).1 22 = 2 ∧ (if nI (z - a) ≤ 4 then pX6_next_246 s 2 else pX6_next_246 s 4).2.1 24 = lN (dvl B a (E - a) 0) else (if nI (z - a) ≤ 4 then pX6_next_246 s 2 else pX6_next_246 s 4).1 22 = 4)) := by
    intro hzE'
    subst hzE'
    unfold pX6_next_246
    by_cases c : z ≤ a + 4
    · have c4 : nI (z - a) ≤ 4 := nI_le (b := 4) (by omega) (by omega)
      rw [if_pos c4, if_pos c]
      obtain ⟨acc, h1, h2⟩ := hacc c
      refine ⟨hs.put (by omega) _, by rw [oI_n _ _ (by decide)]; exact s23, by rw [oI_n _ _ (by decide)]; exact s21, oI_s _ _ _, ?_⟩
      rw [Nat.sub_self] at h2
      rw [← h2]
      exact h1
    · have c4 : ¬ nI (z - a) ≤ 4 := nI_ge (a := 4) (by omega) (by omega)
      rw [if_neg c4, if_neg c]
      exact ⟨hs.put (by omega) _, by rw [oI_n _ _ (by decide)]; exact s23, by rw [oI_n _ _ (by decide)]; exact s21, oI_s _ _ _⟩
  unfold bX6_next_160 kX6_next_160
  simp only [s21, g, e]
  by_cases hz : z < n
  · simp only [hz, if_true, (by_di _ (hB z)).2]
    cases e : isDi (B z) with
    | false =>
      simp only [↓reduceIte, not_true_eq_false, not_false_eq_true, false_implies, true_implies, implies_true, true_and, and_true, and_self, eq_self, Bool.false_eq_true]
      exact fin ((runN_no (P := fun i => isDi (B i)) e).symm.trans hr)
    | true =>
      have e2 : runN (fun i => isDi (B i)) n z = runN (fun i => isDi (B i)) n (z + 1) := runN_yes hz e
      have hE2 : z + 1 ≤ E := by
        have := (runN_b (fun i => isDi (B i)) n _ (z + 1) rfl (by omega)).1
        rw [← e2, hr] at this
        exact this
      have hb : 48 ≤ B z := by unfold isDi at e; simp at e; omega
      have go : ∀ x, (z + 1 ≤ a + 4 → ∃ acc, x = lN acc ∧ dvl B (z + 1) (E - (z + 1)) acc = dvl B a (E - a) 0) → oX6_next_216 kO s (nI (z - a)) x ∧ (SF σ (pX6_next_216 kR s (nI (z - a)) x) ∧ (pX6_next_216 kR s (nI (z - a)) x).1 23 = σ.1 23 ∧ (pX6_next_216 kR s (nI (z - a)) x).1 21 = nI E ∧ (if E ≤ a + 4 then (pX6_next_216 kR s (nI (z - a)) x).1 22 = 2 ∧ (pX6_next_216 kR s (nI (z - a)) x).2.1 24 = lN (dvl B a (E - a) 0) else (pX6_next_216 kR s (nI (z - a)) x).1 22 = 4)) := by
        intro x hx
        unfold oX6_next_216 pX6_next_216
        refine hk (m - 1) _ (by omega) ⟨z + 1, oI (oL s 24 x) 21 (nI (z + 1)), ?_, (hs.putL x).put (by omega) _, ?_, oI_s _ _ _, by omega, by omega, hE2, e2 ▸ hr, ?_⟩
        · rw [oL_1, s21, nI_1, nI_1, show z + 1 - a = z - a + 1 by omega]
        · rw [oI_n _ _ (by decide)]; exact s23
        · intro h4
          obtain ⟨acc, h1, h2⟩ := hx h4
          exact ⟨acc, (oL_s s 24 x).trans h1, h2⟩
      by_cases c : 4 ≤ z - a
      · have c4 : (4 : Int32) ≤ nI (z - a) := nI_le (a := 4) (by omega) (by omega)
        simp only [↓reduceIte, not_true_eq_false, not_false_eq_true, false_implies, true_implies, implies_true, true_and, and_true, and_self, eq_self, Bool.false_eq_true, one_ne, c4]
        exact go _ (fun h => absurd h (by omega))
      · have c4 : ¬ (4 : Int32) ≤ nI (z - a) := nI_ge (b := 4) (by omega) (by omega)
        simp only [↓reduceIte, not_true_eq_false, not_false_eq_true, false_implies, true_implies, implies_true, true_and, and_true, and_self, eq_self, Bool.false_eq_true, one_ne, c4]
        refine go _ (fun h => ?_)
        obtain ⟨acc, h1, h2⟩ := hacc (by omega)
        refine ⟨10 * acc + B z - 48, ?_, ?_⟩
        · rw [h1, nI_l (by have := hB z; omega), show (10 : Int64) = lN 10 from rfl, show (48 : Int64) = lN 48 from rfl, lN_mul, lN_add, lN_sub (by omega)]
        · rw [← h2, show E - z = (E - (z + 1)) + 1 by omega]; rfl
  · have q : fX6_in (-1 : Int32).toInt64 48 57 = 0 := by decide
    simp only [↓reduceIte, not_true_eq_false, not_false_eq_true, false_implies, true_implies, implies_true, true_and, and_true, and_self, eq_self, Bool.false_eq_true, hz, q]
    exact fin (by rw [runN_end _ (by omega)] at hr; exact hr)
end

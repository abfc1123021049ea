/-! the class's step -/
theorem nch : ∀ j, j < 72 → narrow .char (.int (((((bytS.getD 0 []).getD j 0) &&& 255).toUInt32 % 65536).toInt32)) = .int (((((bytS.getD 0 []).getD j 0) &&& 255).toUInt32 % 65536).toInt32) := by decide +kernel
theorem ch_g {w i : Nat} (hw : w < 12) (hi : i < 6) : gJ0_charAt_5068e_s0 (6 * nI w + nI i) := by
  have e : (6 * nI w + nI i) = nI (6 * w + i) := by rw [show (6 : Int32) = nI 6 from rfl, nI_mul, nI_add]
  have hj : 6 * w + i < 72 := by omega
  rw [e]
  have l1 : ¬ fJ0_isLatin1_aae02_s0 = 0 := by decide
  have hc : (nI (6 * w + i)).toNatClampNeg = 6 * w + i := nI_clamp (by omega)
  have hn := nch (6 * w + i) hj
  have v1 : vp_in (nI (6 * w + i)) 72 := vp_in_nI hj (by decide)
  refine ⟨fun h => absurd h l1, fun _ => ⟨⟨⟨nI_pos (by omega), nI_lt (b := 72) hj (by decide)⟩, v1, ?_⟩, ?_⟩⟩
  · rw [hc]; exact hn
  · unfold fJ1_charAt_3b067_s0 pJ1_charAt_3b067_s0_0
    rw [hc]; exact hn
theorem ix_g (a : Int32) : gJ0_indexOf_0f7a4_s1 a := by
  have l1 : ¬ fJ0_isLatin1_aae02_s1 = 0 := by decide
  refine ⟨fun h => absurd h l1, fun _ => ⟨fun _ => trivial, fun _ => ⟨fun _ => ?_, fun _ => trivial⟩⟩⟩
  have e1 : jmax 0 0 = nI 0 := by decide
  have e2 : jmin fJ0_length_8abf5_s1 (Int32.ofNat (lenS.getD 1 0)) = nI 8 := by decide
  rw [e1, e2]
  refine (lp_one (R := Int32) (d := 0) (body := fun _ _ => 0) (ok := kJ1_indexOfChar_4cfef_s1_7 (nI 8) a.toInt8.toInt32) (fun m v => ∃ t, v = nI t ∧ t + m = 8) (fun _ => True) ?_ fu 8 (nI 0) ⟨0, rfl, rfl⟩ (by decide)).1
  rintro m v ⟨t, rfl, htm⟩ kR kO hk
  refine ⟨?_, trivial⟩
  unfold kJ1_indexOfChar_4cfef_s1_7
  cases m with
  | zero => exact ⟨fun _ => trivial, fun h => absurd (nI_le (by omega) (by omega)) h⟩
  | succ m => exact ⟨fun _ => trivial, fun _ => ⟨(vp_in_nI (by omega) (by decide) : vp_in (nI t) 8), fun _ => trivial, fun _ => by rw [nI_1]; exact (hk m (nI (t + 1)) (by omega) ⟨t + 1, rfl, by omega⟩).1⟩⟩
theorem oI_oI (σ : OS) (k : Nat) (a b : Int32) : oI (oI σ k a) k b = oI σ k b := by
  unfold oI
  congr 1
  funext j
  unfold va_up
  by_cases h : j = k <;> simp [h]
theorem oI_id (σ : OS) (k : Nat) {a : Int32} (h : σ.1 k = a) : oI σ k a = σ := by
  unfold oI
  have : va_up σ.1 k a = σ.1 := by
    funext j
    unfold va_up
    by_cases e : j = k
    · rw [if_pos e, e, h]
    · rw [if_neg e]
  rw [this]
theorem oI_s (σ : OS) (k : Nat) (a : Int32) : (oI σ k a).1 k = a := up_s _ _ _
theorem oI_n (σ : OS) {k j : Nat} (a : Int32) (h : ¬ j = k) : (oI σ k a).1 j = σ.1 j := up_n _ _ h
theorem oI_2 (σ : OS) (k : Nat) (a : Int32) : (oI σ k a).2 = σ.2 := rfl
theorem Rst.oI {n : Nat} {B : Nat → Nat} {ρ : OS} (h : Rst n B ρ) {k : Nat} (hk : ¬ 0 = k) (a : Int32) : Rst n B (oI ρ k a) := ⟨(oI_n ρ a hk).trans h.1, h.2⟩
theorem spells_eq {n : Nat} {B : Nat → Nat} (hn : n ≤ 160) (hB : ∀ i, B i < 256) {ρ : OS} (hR : Rst n B ρ) {a e w : Nat} (hae : a ≤ e) (hen : e ≤ n) (hw : w < 12) (hl : ∀ i, a ≤ i → i < e → isLe (B i) = true) : gX0_spells ρ (nI w) (nI a) (nI e) ∧ ((fX0_spells ρ (nI w) (nI a) (nI e) = 1 ∧ SP B a e w) ∨ (fX0_spells ρ (nI w) (nI a) (nI e) = 0 ∧ ¬ SP B a e w)) := by
  unfold gX0_spells oX0_spells_0 fX0_spells pX0_spells_0
  rw [pk_sub hae]
  by_cases h6 : e - a ≤ 6
  · have c6 : nI (e - a) ≤ 6 := nI_le (b := 6) h6 (by omega)
    rw [if_pos c6]
    have base := lp_one (d := (0 : Int32)) (body := bX0_spells_13 ρ (nI w) (nI a) (nI e)) (ok := kX0_spells_13 ρ (nI w) (nI a) (nI e)) (fun m v => ∃ t, v = nI t ∧ t + m = 6 ∧ ∀ i, i < t → wd w i = if a + i < e then B (a + i) else 0) (fun r => (r = 1 ∧ SP B a e w) ∨ (r = 0 ∧ ¬ SP B a e w)) (by
      rintro m v ⟨t, rfl, htm, hok⟩ kR kO hk
      unfold bX0_spells_13 kX0_spells_13 pX0_spells_42 oX0_spells_42
      cases m with
      | zero =>
        have c : (6 : Int32) ≤ nI t := nI_le (a := 6) (by omega) (by omega)
        exact ⟨⟨fun _ => trivial, fun h => absurd c h⟩, Or.inl ⟨if_pos c, by omega, fun i hi => hok i (by omega)⟩⟩
      | succ m =>
        have c : ¬ (6 : Int32) ≤ nI t := nI_ge (b := 6) (by omega) (by omega)
        have ht : t < 6 := by omega
        rw [if_neg c, nI_add, ch_at w hw t ht, nI_1]
        have hgo : (wd w t = if a + t < e then B (a + t) else 0) → kO (nI (t + 1)) ∧ ((kR (nI (t + 1)) = 1 ∧ SP B a e w) ∨ (kR (nI (t + 1)) = 0 ∧ ¬ SP B a e w)) := fun g => hk m _ (by omega) ⟨t + 1, rfl, by omega, fun i hi => by
          by_cases e2 : i = t
          · rw [e2]; exact g
          · exact hok i (by omega)⟩
        have hno : ¬ (wd w t = if a + t < e then B (a + t) else 0) → ¬ SP B a e w := fun g h => g (h.2 t ht)
        by_cases hlt : a + t < e
        · have c2 : ¬ nI e ≤ nI (a + t) := nI_ge hlt (by omega)
          rw [if_pos hlt] at hgo hno
          rw [if_neg c2, nI_clamp (by omega), hR.2 (a + t) (by omega)]
          have hle := hl (a + t) (by omega) hlt
          have q : nI (B (a + t)) = nI (if wd w t = 0 then 32 else wd w t) ↔ wd w t = B (a + t) := by
            have hb := hB (a + t)
            have hw2 : wd w t < 256 ∧ (wd w t = 0 ∨ isLe (wd w t) = true) := ⟨by
              have := wd_le w hw t (by omega)
              unfold isLe at this
              simp at this
              omega, wd_le w hw t (by omega)⟩
            unfold isLe at hle
            simp at hle
            by_cases z : wd w t = 0
            · rw [if_pos z, nI_inj256 hb (by decide)]; omega
            · rw [if_neg z, nI_inj256 hb hw2.1]; omega
          refine ⟨⟨fun h => absurd h c, fun _ => ⟨fun h => absurd h c2, fun _ => ⟨vp_in_nI (by omega) (by omega), ch_g hw ht, fun g => (hgo (q.mp g)).1, fun _ => trivial⟩⟩⟩, ?_⟩
          by_cases g : nI (B (a + t)) = nI (if wd w t = 0 then 32 else wd w t)
          · rw [if_pos g]; exact (hgo (q.mp g)).2
          · rw [if_neg g]; exact Or.inr ⟨rfl, hno (fun g2 => g (q.mpr g2))⟩
        · have c2 : nI e ≤ nI (a + t) := nI_le (by omega) (by omega)
          rw [if_neg hlt] at hgo hno
          rw [if_pos c2]
          have q : (32 : Int32) = nI (if wd w t = 0 then 32 else wd w t) ↔ wd w t = 0 := by
            by_cases z : wd w t = 0
            · rw [if_pos z]; exact ⟨fun _ => z, fun _ => rfl⟩
            · rw [if_neg z]
              have := wd_le w hw t (by omega)
              unfold isLe at this
              simp at this
              rw [show (32 : Int32) = nI 32 from rfl, nI_inj256 (by decide) (by omega)]
              omega
          refine ⟨⟨fun h => absurd h c, fun _ => ⟨fun _ => ⟨ch_g hw ht, fun g => (hgo (q.mp g)).1, fun _ => trivial⟩, fun h => absurd c2 h⟩⟩, ?_⟩
          by_cases g : (32 : Int32) = nI (if wd w t = 0 then 32 else wd w t)
          · rw [if_pos g]; exact (hgo (q.mp g)).2
          · rw [if_neg g]; exact Or.inr ⟨rfl, hno (fun g2 => g (q.mpr g2))⟩) fu 6 0 ⟨0, rfl, rfl, fun i hi => by omega⟩ (by decide)
    exact ⟨⟨fun _ => base.1, fun h => absurd c6 h⟩, base.2⟩
  · have c6 : ¬ nI (e - a) ≤ 6 := nI_ge (a := 6) (by omega) (by omega)
    rw [if_neg c6]
    exact ⟨⟨fun h => absurd h c6, fun _ => trivial⟩, Or.inr ⟨rfl, fun h => by have := h.1; omega⟩⟩
/-- the word's token -/
def WT (B : Nat → Nat) (a e : Nat) (tok : Int32) : Prop := (∃ w, w < 12 ∧ SP B a e w ∧ tok = nI w) ∨ ((∀ w, w < 12 → ¬ SP B a e w) ∧ tok = 22)
theorem word51 {n : Nat} {B : Nat → Nat} (hn : n ≤ 160) (hB : ∀ i, B i < 256) {ρ : OS} (hR : Rst n B ρ) {a e : Nat} (h7 : ρ.1 7 = nI a) (h5 : ρ.1 5 = nI e) (hae : a ≤ e) (hen : e ≤ n) (hl : ∀ i, a ≤ i → i < e → isLe (B i) = true) : oX0_wordToken_51 ρ ∧ ∃ tok, pX0_wordToken_51 ρ = (tok, ρ) ∧ WT B a e tok := by
  refine lp_one (d := ((0 : Int32), o0)) (body := bX0_wordToken_53 ρ) (ok := kX0_wordToken_53 ρ) (fun m v => ∃ t, v = nI t ∧ t + m = 12 ∧ ∀ w, w < t → ¬ SP B a e w) (fun r => ∃ tok, r = (tok, ρ) ∧ WT B a e tok) ?_ fu 12 0 ⟨0, rfl, rfl, fun i hi => by omega⟩ (by decide)
  rintro m v ⟨t, rfl, htm, hok⟩ kR kO hk
  unfold bX0_wordToken_53 kX0_wordToken_53
  rw [h7, h5]
  cases m with
  | zero =>
    have c : (12 : Int32) ≤ nI t := nI_le (a := 12) (by omega) (by omega)
    rw [if_pos c]
    exact ⟨⟨fun _ => trivial, fun h => absurd c h⟩, 22, rfl, Or.inr ⟨fun w hw => hok w (by omega), rfl⟩⟩
  | succ m =>
    have c : ¬ (12 : Int32) ≤ nI t := nI_ge (b := 12) (by omega) (by omega)
    obtain ⟨hg, hs⟩ := spells_eq hn hB hR hae hen (w := t) (by omega) hl
    rw [if_neg c, nI_1]
    rcases hs with ⟨s1, s2⟩ | ⟨s1, s2⟩
    · rw [s1, if_neg (by decide)]
      exact ⟨⟨fun h => absurd h c, fun _ => ⟨hg, fun h => absurd h (by decide), fun _ => trivial⟩⟩, nI t, rfl, Or.inl ⟨t, by omega, s2, rfl⟩⟩
    · rw [s1, if_pos rfl]
      have := hk m (nI (t + 1)) (by omega) ⟨t + 1, rfl, by omega, fun i hi => by
        by_cases e2 : i = t
        · rw [e2]; exact s2
        · exact hok i (by omega)⟩
      exact ⟨⟨fun h => absurd h c, fun _ => ⟨hg, fun _ => this.1, fun h => absurd rfl h⟩⟩, this.2⟩
theorem wordTok {n : Nat} {B : Nat → Nat} (hn : n ≤ 160) (hB : ∀ i, B i < 256) {ρ : OS} (hR : Rst n B ρ) {a : Nat} (h7 : ρ.1 7 = nI a) (h5 : ρ.1 5 = nI a) (ha : a ≤ n) : gX0_wordToken ρ ∧ ∃ tok, fX0_wordToken ρ = (tok, oI ρ 5 (nI (runN (fun i => isLe (B i)) n a))) ∧ WT B a (runN (fun i => isLe (B i)) n a) tok := by
  have hrun := runN_b (fun i => isLe (B i)) n _ a rfl ha
  refine lp_one (d := ((0 : Int32), o0)) (body := bX0_wordToken_2) (ok := kX0_wordToken_2) (fun m v => ∃ h t, v = (oI ρ 5 (nI h), nI t) ∧ h + m = n ∧ t ≤ h ∧ a ≤ h ∧ runN (fun i => isLe (B i)) n h = runN (fun i => isLe (B i)) n a) (fun r => ∃ tok, r = (tok, oI ρ 5 (nI (runN (fun i => isLe (B i)) n a))) ∧ WT B a (runN (fun i => isLe (B i)) n a) tok) ?_ fu (n - a) (ρ, 0) ⟨a, 0, by rw [oI_id ρ 5 h5]; rfl, by omega, by omega, by omega, rfl⟩ (by show n - a < 1000; omega)
  rintro m v ⟨h, t, rfl, hm, hth, hah, hr⟩ kR kO hk
  have hR2 : ∀ z, Rst n B (oI ρ 5 (nI z)) := fun z => hR.oI (by decide) _
  have fin : h = runN (fun i => isLe (B i)) n a → oX0_wordToken_51 (oI ρ 5 (nI h)) ∧ ∃ tok, pX0_wordToken_51 (oI ρ 5 (nI h)) = (tok, oI ρ 5 (nI (runN (fun i => isLe (B i)) n a))) ∧ WT B a (runN (fun i => isLe (B i)) n a) tok := by
    intro e
    rw [← e]
    exact word51 hn hB (hR2 h) (by rw [oI_n _ _ (by decide)]; exact h7) (oI_s _ _ _) hah (by omega) (fun i h1 h2 => hrun.2.2.1 i h1 (by omega))
  unfold bX0_wordToken_2 kX0_wordToken_2
  simp only [oI_s, (hR2 h).1, oI_oI, nI_1]
  by_cases hh : h < n
  · have c1 : ¬ (160 : Int32) ≤ nI t := nI_ge (b := 160) (by omega) (by omega)
    have c2 : ¬ nI n ≤ nI h := nI_ge hh (by omega)
    rw [if_neg c1, if_neg c2, nI_clamp (n := h) (by omega), (hR2 h).2 h hh, (by_le _ (hB h)).1]
    have vin : vp_in (nI h) 160 := vp_in_nI (by omega) (by omega)
    cases e : isLe (B h) with
    | false =>
      have e2 : runN (fun i => isLe (B i)) n h = h := runN_no e
      have := fin (e2 ▸ hr)
      exact ⟨⟨fun h => absurd h c1, fun _ => ⟨fun h => absurd h c2, fun _ => ⟨vin, fun _ => this.1, fun h => absurd rfl h⟩⟩⟩, this.2⟩
    | true =>
      have e2 : runN (fun i => isLe (B i)) n h = runN (fun i => isLe (B i)) n (h + 1) := runN_yes hh e
      have := hk (m - 1) (oI ρ 5 (nI (h + 1)), nI (t + 1)) (by omega) ⟨h + 1, t + 1, rfl, by omega, by omega, by omega, e2 ▸ hr⟩
      exact ⟨⟨fun h => absurd h c1, fun _ => ⟨fun h => absurd h c2, fun _ => ⟨vin, fun h => absurd h (by decide), fun _ => this.1⟩⟩⟩, this.2⟩
  · have c2 : nI n ≤ nI h := nI_le (by omega) (by omega)
    have e2 : runN (fun i => isLe (B i)) n h = h := runN_end _ (by omega)
    have := fin (e2 ▸ hr)
    rw [if_pos c2, ite_self]
    exact ⟨⟨fun _ => this.1, fun _ => ⟨fun _ => this.1, fun h => absurd c2 h⟩⟩, this.2⟩
/-- digits' worth -/
def dvl (B : Nat → Nat) : Nat → Nat → Nat → Nat
  | _, 0, acc => acc
  | h, m + 1, acc => dvl B (h + 1) m (10 * acc + B h - 48)
theorem numTok {n : Nat} {B : Nat → Nat} (hn : n ≤ 160) (hB : ∀ i, B i < 256) {ρ : OS} (hR : Rst n B ρ) {a : Nat} (h7 : ρ.1 7 = nI a) (h5 : ρ.1 5 = nI a) (ha : a ≤ n) : gX0_numberToken ρ ∧ fX0_numberToken ρ = (if runN (fun i => isDi (B i)) n a ≤ a + 4 then 20 else 22, oI (oI ρ 5 (nI (runN (fun i => isDi (B i)) n a))) 8 (nI (dvl B a (runN (fun i => isDi (B i)) n a - a) 0))) := by
  have hrun := runN_b (fun i => isDi (B i)) n _ a rfl ha
  generalize hE : runN (fun i => isDi (B i)) n a = E at hrun ⊢
  refine lp_one (d := ((0 : Int32), o0)) (body := bX0_numberToken_4) (ok := kX0_numberToken_4) (fun m v => ∃ h t acc, v = (oI ρ 5 (nI h), nI acc, nI t) ∧ h + m = n ∧ t ≤ h ∧ a ≤ h ∧ h ≤ E ∧ runN (fun i => isDi (B i)) n h = E ∧ dvl B h (E - h) acc = dvl B a (E - a) 0) (fun r => r = (if E ≤ a + 4 then 20 else 22, oI (oI ρ 5 (nI E)) 8 (nI (dvl B a (E - a) 0)))) ?_ fu (n - a) (ρ, 0, 0) ⟨a, 0, 0, by rw [oI_id ρ 5 h5]; rfl, by omega, by omega, by omega, by omega, hE, rfl⟩ (by show n - a < 1000; omega)
  rintro m v ⟨h, t, acc, rfl, hm, hth, hah, hhE, hr, hd⟩ kR kO hk
  have hR2 : ∀ z, Rst n B (oI ρ 5 (nI z)) := fun z => hR.oI (by decide) _
  have fin : h = E → pX0_numberToken_71 (oI ρ 5 (nI h)) (nI acc) = (if E ≤ a + 4 then 20 else 22, oI (oI ρ 5 (nI E)) 8 (nI (dvl B a (E - a) 0))) := by
    intro e
    subst e
    rw [Nat.sub_self] at hd
    rw [← show acc = dvl B a (h - a) 0 from hd]
    unfold pX0_numberToken_71
    simp only [oI_n _ _ (show ¬ 5 = 8 by decide), oI_n _ _ (show ¬ 7 = 8 by decide), oI_n _ _ (show ¬ 7 = 5 by decide), oI_s, h7, pk_sub hah]
    by_cases g : h ≤ a + 4
    · have c : nI (h - a) ≤ 4 := nI_le (b := 4) (by omega) (by omega)
      rw [if_pos c, if_pos g]
    · have c : ¬ nI (h - a) ≤ 4 := nI_ge (a := 4) (by omega) (by omega)
      rw [if_neg c, if_neg g]
  unfold bX0_numberToken_4 kX0_numberToken_4
  simp only [oI_s, (hR2 h).1, oI_oI, nI_1]
  by_cases hh : h < n
  · have c1 : ¬ (160 : Int32) ≤ nI t := nI_ge (b := 160) (by omega) (by omega)
    have c2 : ¬ nI n ≤ nI h := nI_ge hh (by omega)
    rw [if_neg c1, if_neg c2, nI_clamp (n := h) (by omega), (hR2 h).2 h hh, (by_di _ (hB h)).1]
    have vin : vp_in (nI h) 160 := vp_in_nI (by omega) (by omega)
    cases e : isDi (B h) with
    | false =>
      have e2 : runN (fun i => isDi (B i)) n h = h := runN_no e
      have := fin (e2 ▸ hr)
      exact ⟨⟨fun _ => trivial, fun _ => ⟨fun _ => trivial, fun _ => ⟨vin, fun _ => trivial, fun h => absurd rfl h⟩⟩⟩, this⟩
    | true =>
      have e2 : runN (fun i => isDi (B i)) n h = runN (fun i => isDi (B i)) n (h + 1) := runN_yes hh e
      have hE2 : h + 1 ≤ E := by
        have := (runN_b (fun i => isDi (B i)) n _ (h + 1) rfl (by omega)).1
        rw [← e2, hr] at this
        exact this
      have hb : 48 ≤ B h := by unfold isDi at e; simp at e; omega
      have ew : ((10 : Int32) * nI acc + nI (B h)) - 48 = nI (10 * acc + B h - 48) := by
        rw [show (10 : Int32) = nI 10 from rfl, show (48 : Int32) = nI 48 from rfl, nI_mul, nI_add, pk_sub (by omega)]
      rw [ew]
      have := hk (m - 1) (oI ρ 5 (nI (h + 1)), nI (10 * acc + B h - 48), nI (t + 1)) (by omega) ⟨h + 1, t + 1, _, rfl, by omega, by omega, by omega, hE2, e2 ▸ hr, by rw [← hd, show E - h = (E - (h + 1)) + 1 by omega]; rfl⟩
      exact ⟨⟨fun _ => trivial, fun _ => ⟨fun _ => trivial, fun _ => ⟨vin, fun h => absurd h (by decide), fun _ => ⟨vin, this.1⟩⟩⟩⟩, this.2⟩
  · have c2 : nI n ≤ nI h := nI_le (by omega) (by omega)
    have e2 : runN (fun i => isDi (B i)) n h = h := runN_end _ (by omega)
    have := fin (e2 ▸ hr)
    rw [if_pos c2, ite_self]
    exact ⟨⟨fun _ => trivial, fun _ => ⟨fun _ => trivial, fun h => absurd c2 h⟩⟩, this⟩

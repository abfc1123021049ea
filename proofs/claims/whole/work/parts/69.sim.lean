section
/-! reading side by side: the class's reader ρ, the reference σ -/
def pl (ρ : OS) : Nat := (ρ.1 7).toNatClampNeg
def cs (ρ : OS) : Nat := (ρ.1 4).toNatClampNeg
def tk (ρ : OS) : Nat := (ρ.1 6).toNatClampNeg
def fW (σ : OS) (w : Nat) : Int32 := fX6_isWord σ (nI (wd w 0)) (nI (wd w 1)) (nI (wd w 2)) (nI (wd w 3)) (nI (wd w 4)) (nI (wd w 5)) (nI (wd w 6)) (nI (wd w 7))
def gW (σ : OS) (w : Nat) : Prop := gX6_isWord σ (nI (wd w 0)) (nI (wd w 1)) (nI (wd w 2)) (nI (wd w 3)) (nI (wd w 4)) (nI (wd w 5)) (nI (wd w 6)) (nI (wd w 7))
/-- what the reference sees of the token -/
def TKF (ρ σ : OS) : Prop := ρ.1 6 = nI (tk ρ) ∧ tk ρ ≤ 22 ∧ (∀ s, s < 8 → fX6_isSign σ (nI (sgl.getD s 0)) = if tk ρ = 12 + s then 1 else 0) ∧ (∀ w, w < 12 → gW σ w ∧ fW σ w = if tk ρ = w then 1 else 0)
def GTK (ρ σ : OS) : Prop := (σ.1 22 = 2 ↔ tk ρ = 20) ∧ (tk ρ = 20 → ρ.1 8 = (σ.2.1 24).toInt32 ∧ ¬ ρ.1 8 < 0) ∧ (σ.1 22 = 0 ↔ tk ρ = 21) ∧ (tk ρ < 12 → σ.1 22 = 1) ∧ (σ.1 22 = 1 → tk ρ < 12 ∨ tk ρ = 22) ∧ (∀ s, s < 8 → tk ρ = 12 + s → σ.2.1 24 = lN (sgl.getD s 0))
def Good (n lev : Nat) (ρ σ : OS) : Prop := ρ.1 10 = -1 ∧ σ.1 26 = 0 ∧ ρ.1 7 = nI (pl ρ) ∧ σ.1 23 = nI (pl ρ) ∧ pl ρ ≤ n ∧ ρ.1 9 = nI lev ∧ σ.1 25 = nI lev ∧ (tk ρ < 22 → ∃ e, ρ.1 5 = nI e ∧ σ.1 21 = nI e ∧ (tk ρ < 21 → pl ρ < e) ∧ e ≤ n) ∧ GTK ρ σ
def Bad (n : Nat) (ρ σ : OS) : Prop := tk ρ = 22 ∧ σ.1 26 = 1 ∧ ∃ p, p ≤ n ∧ ρ.1 10 = nI p ∧ σ.1 27 = nI p
def Base (n : Nat) (B : Nat → Nat) (f : Nat) (ρ σ : OS) : Prop := Rst n B ρ ∧ Sst n B f σ ∧ ρ.1 4 = nI (cs ρ) ∧ cs ρ ≤ 160 ∧ TKF ρ σ
def Sim (n : Nat) (B : Nat → Nat) (f lev : Nat) (ρ σ : OS) : Prop := Base n B f ρ σ ∧ (Bad n ρ σ ∨ Good n lev ρ σ)
/-- what reading leaves of the reference -/
def PF (σ r : OS) : Prop := (∀ j, ¬ (21 ≤ j ∧ j ≤ 27) → r.1 j = σ.1 j) ∧ (∀ j, ¬ j = 24 → r.2.1 j = σ.2.1 j) ∧ r.2.2 = σ.2.2
theorem PF.rfl' (σ : OS) : PF σ σ := ⟨fun _ _ => rfl, fun _ _ => rfl, rfl⟩
theorem PF.trans {σ r s : OS} (h : PF σ r) (k : PF r s) : PF σ s := ⟨fun j a => (k.1 j a).trans (h.1 j a), fun j a => (k.2.1 j a).trans (h.2.1 j a), k.2.2.trans h.2.2⟩
theorem SF.pf {σ r : OS} (h : SF σ r) : PF σ r := ⟨fun j hj => h.1 j (by omega) (by omega) (by omega), h.2⟩
theorem PF.put {σ r : OS} (h : PF σ r) {j : Nat} (hj : 21 ≤ j ∧ j ≤ 27) (x : Int32) : PF σ (oI r j x) := ⟨fun i hi => by rw [oI_n _ _ (by omega)]; exact h.1 i hi, h.2⟩
theorem nI_ne_m1 {p : Nat} (h : p < 2 ^ 31) : ¬ nI p = -1 := fun e => nI_pos h (by rw [e]; decide)
/-- the letters of a word -/
theorem let_eq {n : Nat} {B : Nat → Nat} (hn : n ≤ 160) (hB : ∀ i, B i < 256) {f : Nat} (hf : f ≤ 800) {σ : OS} (hS : Sst n B f σ) {a e : Nat} (h23 : σ.1 23 = nI a) (h21 : σ.1 21 = nI e) (he : e ≤ n) (hae : a ≤ e) {i l : Nat} (hi : i < 8) (hl : l < 256) : gX6_isLetter σ (nI i) (nI l) ∧ fX6_isLetter σ (nI i) (nI l) = if (if a + i < e then B (a + i) else 0) = l then 1 else 0 := by
  unfold gX6_isLetter fX6_isLetter oX6_isLetter_0 pX6_isLetter_0
  simp only [h23, h21, nI_add]
  by_cases c : a + i < e
  · have c1 : ¬ nI e ≤ nI (a + i) := nI_ge c (by omega)
    obtain ⟨g, q⟩ := byteAt_eq hS hn hf (i := a + i) (by omega)
    have c2 : a + i < n := by omega
    simp only [↓reduceIte, not_true_eq_false, not_false_eq_true, false_implies, true_implies, implies_true, true_and, and_true, and_self, eq_self, Bool.false_eq_true, c1, c, c2, g, q, nI_inj256 (hB (a + i)) hl]
  · have c1 : nI e ≤ nI (a + i) := nI_le (by omega) (by omega)
    have q : (nI l = 0) = (0 = l) := by rw [show (0 : Int32) = nI 0 from rfl, nI_inj256 hl (by decide)]; exact propext eq_comm
    simp only [↓reduceIte, not_true_eq_false, not_false_eq_true, false_implies, true_implies, implies_true, true_and, and_true, and_self, eq_self, Bool.false_eq_true, c1, c, q]
theorem wd_256 : ∀ w, w < 12 → ∀ i, i < 8 → wd w i < 256 := by decide +kernel
theorem if10 {P : Prop} [Decidable P] : ((if P then (1 : Int32) else 0) = 0) = ¬ P := by by_cases h : P <;> simp [h]
theorem word_eq {n : Nat} {B : Nat → Nat} (hn : n ≤ 160) (hB : ∀ i, B i < 256) {f : Nat} (hf : f ≤ 800) {σ : OS} (hS : Sst n B f σ) {a e : Nat} (h26 : σ.1 26 = 0) (h22 : σ.1 22 = 1) (h23 : σ.1 23 = nI a) (h21 : σ.1 21 = nI e) (he : e ≤ n) (hae : a ≤ e) (hl : ∀ i, a ≤ i → i < e → isLe (B i) = true) {w : Nat} (hw : w < 12) : gW σ w ∧ ((fW σ w = 1 ∧ SP B a e w) ∨ (fW σ w = 0 ∧ ¬ SP B a e w)) := by
  have L : ∀ i, i < 8 → gX6_isLetter σ (nI i) (nI (wd w i)) ∧ fX6_isLetter σ (nI i) (nI (wd w i)) = if (if a + i < e then B (a + i) else 0) = wd w i then 1 else 0 := fun i hi => let_eq hn hB hf hS h23 h21 he hae hi (wd_256 w hw i hi)
  have L0 := L 0 (by decide)
  have L1 := L 1 (by decide)
  have L2 := L 2 (by decide)
  have L3 := L 3 (by decide)
  have L4 := L 4 (by decide)
  have L5 := L 5 (by decide)
  have L6 := L 6 (by decide)
  have L7 := L 7 (by decide)
  rw [show nI 0 = (0 : Int32) from rfl] at L0
  rw [show nI 1 = (1 : Int32) from rfl] at L1
  rw [show nI 2 = (2 : Int32) from rfl] at L2
  rw [show nI 3 = (3 : Int32) from rfl] at L3
  rw [show nI 4 = (4 : Int32) from rfl] at L4
  rw [show nI 5 = (5 : Int32) from rfl] at L5
  rw [show nI 6 = (6 : Int32) from rfl] at L6
  rw [show nI 7 = (7 : Int32) from rfl] at L7
  have w67 := wd_67 w hw
  unfold gW fW gX6_isWord fX6_isWord oX6_isWord_0 pX6_isWord_0
  simp only [h26, h22, L0.1, L1.1, L2.1, L3.1, L4.1, L5.1, L6.1, L7.1, L0.2, L1.2, L2.2, L3.2, L4.2, L5.2, L6.2, L7.2, if10]
  refine ⟨by simp only [↓reduceIte, not_true_eq_false, not_false_eq_true, false_implies, true_implies, implies_true, true_and, and_true, and_self, eq_self, Bool.false_eq_true], ?_⟩
  rw [h23, h21, show nI a + 8 = nI (a + 8) from nI_add a 8]
  by_cases c8 : a + 8 < e
  · have c : nI (a + 8) < nI e := nI_lt c8 (by omega)
    simp only [↓reduceIte, not_true_eq_false, not_false_eq_true, false_implies, true_implies, implies_true, true_and, and_true, and_self, eq_self, Bool.false_eq_true, c]
    exact Or.inr (fun h => by have := h.1; omega)
  · have c : ¬ nI (a + 8) < nI e := nI_nlt (by omega) (by omega)
    simp only [↓reduceIte, not_true_eq_false, not_false_eq_true, false_implies, true_implies, implies_true, true_and, and_true, and_self, eq_self, Bool.false_eq_true, c]
    by_cases hsp : SP B a e w
    · left
      refine ⟨?_, hsp⟩
      have s := hsp.2
      have e6 : ¬ a + 6 < e := by have := hsp.1; omega
      have e7 : ¬ a + 7 < e := by have := hsp.1; omega
      rw [← s 0 (by decide), ← s 1 (by decide), ← s 2 (by decide), ← s 3 (by decide), ← s 4 (by decide), ← s 5 (by decide), w67.1, w67.2]
      simp only [↓reduceIte, not_true_eq_false, not_false_eq_true, false_implies, true_implies, implies_true, true_and, and_true, and_self, eq_self, Bool.false_eq_true, e6, e7]
    · right
      refine ⟨?_, hsp⟩
      by_cases k0 : (if a + 0 < e then B (a + 0) else 0) = wd w 0
      · by_cases k1 : (if a + 1 < e then B (a + 1) else 0) = wd w 1
        · by_cases k2 : (if a + 2 < e then B (a + 2) else 0) = wd w 2
          · by_cases k3 : (if a + 3 < e then B (a + 3) else 0) = wd w 3
            · by_cases k4 : (if a + 4 < e then B (a + 4) else 0) = wd w 4
              · by_cases k5 : (if a + 5 < e then B (a + 5) else 0) = wd w 5
                · have k6 : ¬ (if a + 6 < e then B (a + 6) else 0) = wd w 6 := by
                    intro h6
                    apply hsp
                    have c6 : ¬ a + 6 < e := by
                      intro c6
                      rw [if_pos c6, w67.1] at h6
                      have := hl (a + 6) (by omega) c6
                      rw [h6] at this
                      exact absurd this (by decide)
                    refine ⟨by omega, fun i hi => ?_⟩
                    match i, hi with
                    | 0, _ => exact k0.symm
                    | 1, _ => exact k1.symm
                    | 2, _ => exact k2.symm
                    | 3, _ => exact k3.symm
                    | 4, _ => exact k4.symm
                    | 5, _ => exact k5.symm
                    | i + 6, h => exact absurd h (by omega)
                  rw [if_neg (fun h => h k0), if_neg (fun h => h k1), if_neg (fun h => h k2), if_neg (fun h => h k3), if_neg (fun h => h k4), if_neg (fun h => h k5), if_pos k6]
                · rw [if_neg (fun h => h k0), if_neg (fun h => h k1), if_neg (fun h => h k2), if_neg (fun h => h k3), if_neg (fun h => h k4), if_pos k5]
              · rw [if_neg (fun h => h k0), if_neg (fun h => h k1), if_neg (fun h => h k2), if_neg (fun h => h k3), if_pos k4]
            · rw [if_neg (fun h => h k0), if_neg (fun h => h k1), if_neg (fun h => h k2), if_pos k3]
          · rw [if_neg (fun h => h k0), if_neg (fun h => h k1), if_pos k2]
        · rw [if_neg (fun h => h k0), if_pos k1]
      · rw [if_pos k0]
/-- no word where the token is none -/
theorem word_no {σ : OS} (h : ¬ (σ.1 26 = 0 ∧ σ.1 22 = 1)) (w : Nat) : gW σ w ∧ fW σ w = 0 := by
  unfold gW fW gX6_isWord fX6_isWord oX6_isWord_0 pX6_isWord_0
  by_cases h1 : σ.1 26 = 0
  · have h2 : ¬ σ.1 22 = 1 := fun h2 => h ⟨h1, h2⟩
    simp only [↓reduceIte, not_true_eq_false, not_false_eq_true, false_implies, true_implies, implies_true, true_and, and_true, and_self, eq_self, Bool.false_eq_true, h1, h2]
  · simp only [↓reduceIte, not_true_eq_false, not_false_eq_true, false_implies, true_implies, implies_true, true_and, and_true, and_self, eq_self, Bool.false_eq_true, h1]
theorem sign_no {σ : OS} (h : ¬ (σ.1 26 = 0 ∧ σ.1 22 = 3)) (x : Int32) : fX6_isSign σ x = 0 := by
  unfold fX6_isSign pX6_isSign_0
  by_cases h1 : σ.1 26 = 0
  · have h2 : ¬ σ.1 22 = 3 := fun h2 => h ⟨h1, h2⟩
    simp only [↓reduceIte, not_true_eq_false, not_false_eq_true, false_implies, true_implies, implies_true, true_and, and_true, and_self, eq_self, Bool.false_eq_true, h1, h2]
  · simp only [↓reduceIte, not_true_eq_false, not_false_eq_true, false_implies, true_implies, implies_true, true_and, and_true, and_self, eq_self, Bool.false_eq_true, h1]
theorem sign_is {σ : OS} (h1 : σ.1 26 = 0) (h2 : σ.1 22 = 3) {b : Nat} (h3 : σ.2.1 24 = lN b) (hb : b < 256) {c : Nat} (hc : c < 256) : fX6_isSign σ (nI c) = if b = c then 1 else 0 := by
  unfold fX6_isSign pX6_isSign_0
  simp only [↓reduceIte, not_true_eq_false, not_false_eq_true, false_implies, true_implies, implies_true, true_and, and_true, and_self, eq_self, Bool.false_eq_true, h1, h2, h3, nI_l (show c < 2 ^ 31 by omega), lN_eq (show b < 2 ^ 31 by omega) (show c < 2 ^ 31 by omega)]
theorem sgl_256 : ∀ s, s < 8 → sgl.getD s 0 < 256 := by decide
theorem nI_ne {a b : Nat} (h : ¬ a = b) (ha : a < 2 ^ 31) (hb : b < 2 ^ 31) : ¬ nI a = nI b := fun e => h ((nI_eq ha hb).mp e)
theorem dvl_lt {B : Nat → Nat} (hB : ∀ i, B i < 256) (h : Nat) : ∀ m, m ≤ 4 → dvl B h m 0 < 2 ^ 31
  | 0, _ => by show 0 < _; decide
  | 1, _ => by show 10 * 0 + B h - 48 < _; have := hB h; omega
  | 2, _ => by show 10 * (10 * 0 + B h - 48) + B (h + 1) - 48 < _; have := hB h; have := hB (h + 1); omega
  | 3, _ => by show 10 * (10 * (10 * 0 + B h - 48) + B (h + 1) - 48) + B (h + 1 + 1) - 48 < _; have := hB h; have := hB (h + 1); have := hB (h + 1 + 1); omega
  | 4, _ => by show 10 * (10 * (10 * (10 * 0 + B h - 48) + B (h + 1) - 48) + B (h + 1 + 1) - 48) + B (h + 1 + 1 + 1) - 48 < _; have := hB h; have := hB (h + 1); have := hB (h + 1 + 1); have := hB (h + 1 + 1 + 1); omega
  | m + 5, h => absurd h (by omega)
theorem runN_lt {P : Nat → Bool} {n a : Nat} (ha : a < n) (e : P a = true) : a < runN P n a ∧ runN P n a ≤ n := by
  rw [runN_yes ha e]
  have := runN_b P n _ (a + 1) rfl (by omega)
  omega
/-- one token further, side by side -/
theorem adv {n : Nat} {B : Nat → Nat} (hn : n ≤ 160) (hB : ∀ i, B i < 256) {f : Nat} (hf : f ≤ 800) {lev : Nat} {ρ σ : OS} (hR : Rst n B ρ) (hS : Sst n B f σ) (h4 : ρ.1 4 = nI (cs ρ)) (hc : cs ρ ≤ 160) (h10 : ρ.1 10 = -1) (h26 : σ.1 26 = 0) (h9 : ρ.1 9 = nI lev) (h25 : σ.1 25 = nI lev) {h : Nat} (h5 : ρ.1 5 = nI h) (h21 : σ.1 21 = nI h) (hh : h ≤ n) :
    gX0_step ρ ∧ gX6_next σ ∧ Base n B f (fX0_step ρ) (fX6_next σ) ∧ Good n lev (fX0_step ρ) (fX6_next σ) ∧ h ≤ pl (fX0_step ρ) ∧ RF ρ (fX0_step ρ) ∧ SF σ (fX6_next σ) := by
  obtain ⟨g1, rf, r7, k, e, r6, r5, ct, r8⟩ := step_eq hn hB hR h5 h10 hh
  obtain ⟨g2, sf, s23, kd, e', s22, s21, mt⟩ := next_eq hn hB hf hS h21 hh
  have hrun := runN_b (fun i => isBl (B i)) n _ h rfl hh
  generalize runN (fun i => isBl (B i)) n h = a at *
  generalize fX0_step ρ = r at *
  generalize fX6_next σ = s at *
  have hRr : Rst n B r := ⟨(rf.1 0 (by decide) (by decide) (by decide) (by decide)).trans hR.1, fun i hi => by rw [rf.2]; exact hR.2 i hi⟩
  have hSs : Sst n B f s := hS.sf sf
  have c4 : r.1 4 = ρ.1 4 := rf.1 4 (by decide) (by decide) (by decide) (by decide)
  have cc : cs r = cs ρ := by unfold cs; rw [c4]
  have pa : pl r = a := by unfold pl; rw [r7, nI_clamp (by omega)]
  have q26 : s.1 26 = 0 := (sf.1 26 (by decide) (by decide) (by decide)).trans h26
  have fin : k ≤ 22 → TKF r s → (k < 22 → ∃ z, r.1 5 = nI z ∧ s.1 21 = nI z ∧ (k < 21 → a < z) ∧ z ≤ n) → GTK r s → Base n B f r s ∧ Good n lev r s := by
    intro hk hT hx hG
    refine ⟨⟨hRr, hSs, by rw [cc, c4]; exact h4, by rw [cc]; exact hc, hT⟩, (rf.1 10 (by decide) (by decide) (by decide) (by decide)).trans h10, q26, by rw [pa]; exact r7, by rw [pa]; exact s23, by omega, (rf.1 9 (by decide) (by decide) (by decide) (by decide)).trans h9, (sf.1 25 (by decide) (by decide) (by decide)).trans h25, ?_, hG⟩
    have tk' : tk r = k := by unfold tk; rw [r6, nI_clamp (by omega)]
    rw [tk', pa]; exact hx
  refine ⟨g1, g2, ?_⟩
  have hk22 : k ≤ 22 := by
    rcases ct with ⟨_, h, _⟩ | ⟨_, _, _, ⟨h, _⟩ | ⟨h, _⟩⟩ | ⟨_, _, _, _, h⟩ | ⟨_, _, _, _, h⟩
    · omega
    · omega
    · omega
    · split at h <;> omega
    · split at h <;> omega
  have tk' : tk r = k := by unfold tk; rw [r6, nI_clamp (by omega)]
  have key : TKF r s ∧ (k < 22 → ∃ z, r.1 5 = nI z ∧ s.1 21 = nI z ∧ (k < 21 → a < z) ∧ z ≤ n) ∧ GTK r s := by
    unfold TKF GTK
    rw [tk']
    rcases ct with ⟨ha, hk, he⟩ | ⟨ha, hL, he, hk⟩ | ⟨ha, hL, hD, he, hk⟩ | ⟨ha, hL, hD, he, hk⟩
    · -- the end
      have hkd : kd = 0 ∧ e' = n := by
        rcases mt with ⟨_, h, h2⟩ | ⟨h, _⟩ | ⟨h, _⟩ | ⟨h, _⟩
        · exact ⟨h, h2⟩
        · omega
        · omega
        · omega
      obtain ⟨hkd, he'⟩ := hkd
      subst hkd hk
      rw [s22]
      refine ⟨⟨r6, by decide, fun t ht => ?_, fun w hw => ?_⟩, fun _ => ⟨n, by rw [r5, he], by rw [s21, he'], fun h => absurd h (by decide), Nat.le_refl n⟩, ?_⟩
      · rw [sign_no (by rw [s22]; exact fun h => absurd h.2 (by decide)), if_neg (by omega)]
      · rw [if_neg (by omega)]; exact word_no (by rw [s22]; exact fun h => absurd h.2 (by decide)) w
      · exact ⟨⟨fun h => absurd h (by decide), fun h => absurd h (by decide)⟩, fun h => absurd h (by decide), ⟨fun _ => rfl, fun _ => rfl⟩, fun h => absurd h (by decide), fun h => absurd h (by decide), fun t ht h => absurd h (by omega)⟩
    · -- a word
      have hm : kd = 1 ∧ e' = e := by
        rcases mt with ⟨h, _⟩ | ⟨_, _, h1, h2⟩ | ⟨_, h, _⟩ | ⟨_, h, _⟩
        · omega
        · exact ⟨h2, h1.trans he.symm⟩
        · rw [hL] at h; cases h
        · rw [hL] at h; cases h
      obtain ⟨rfl, rfl⟩ := hm
      have hrl := runN_lt (P := fun i => isLe (B i)) ha hL
      have hrb := (runN_b (fun i => isLe (B i)) n _ a rfl (by omega)).2.2.1
      rw [← he] at hrl hrb
      have hW : ∀ w, w < 12 → gW s w ∧ ((fW s w = 1 ∧ SP B a e' w) ∨ (fW s w = 0 ∧ ¬ SP B a e' w)) := fun w hw => word_eq hn hB hf hSs q26 s22 s23 s21 hrl.2 (by omega) hrb hw
      rw [s22]
      refine ⟨⟨r6, hk22, fun t ht => ?_, fun w hw => ?_⟩, fun _ => ⟨e', r5, s21, fun _ => hrl.1, hrl.2⟩, ?_⟩
      · rw [sign_no (by rw [s22]; exact fun h => absurd h.2 (by decide)), if_neg (by omega)]
      · refine ⟨(hW w hw).1, ?_⟩
        rcases (hW w hw).2 with ⟨h1, h2⟩ | ⟨h1, h2⟩
        · rw [h1]
          rcases hk with ⟨hk, hs⟩ | ⟨hk, hs⟩
          · rw [if_pos (SP_uniq hk hw hs h2)]
          · exact absurd h2 (hs w hw)
        · rw [h1]
          rcases hk with ⟨hk, hs⟩ | ⟨hk, hs⟩
          · rw [if_neg (fun (e : k = w) => h2 (by rw [← e]; exact hs))]
          · rw [if_neg (by omega)]
      · exact ⟨⟨fun h => absurd h (by decide), fun h => by omega⟩, fun h => by omega, ⟨fun h => absurd h (by decide), fun h => by omega⟩, fun _ => rfl, fun _ => by omega, fun t ht h => by omega⟩
    · -- a number
      have hm : e' = e ∧ (if e ≤ a + 4 then kd = 2 ∧ s.2.1 24 = lN (dvl B a (e - a) 0) else kd = 4) := by
        rcases mt with ⟨h, _⟩ | ⟨_, h, _⟩ | ⟨_, _, _, h1, h2⟩ | ⟨_, _, h, _⟩
        · omega
        · rw [hL] at h; cases h
        · have : e' = e := h1.trans he.symm
          subst this
          exact ⟨rfl, h2⟩
        · rw [hD] at h; cases h
      obtain ⟨rfl, hm⟩ := hm
      have hrl := runN_lt (P := fun i => isDi (B i)) ha hD
      rw [← he] at hrl
      by_cases c : e' ≤ a + 4
      · rw [if_pos c] at hk hm
        obtain ⟨rfl, hw⟩ := hm
        subst hk
        rw [s22]
        refine ⟨⟨r6, by decide, fun t ht => ?_, fun w hw => ?_⟩, fun _ => ⟨e', r5, s21, fun _ => hrl.1, hrl.2⟩, ?_⟩
        · rw [sign_no (by rw [s22]; exact fun h => absurd h.2 (by decide)), if_neg (by omega)]
        · rw [if_neg (by omega)]; exact word_no (by rw [s22]; exact fun h => absurd h.2 (by decide)) w
        · refine ⟨⟨fun _ => rfl, fun _ => rfl⟩, fun _ => ⟨?_, ?_⟩, ⟨fun h => absurd h (by decide), fun h => absurd h (by decide)⟩, fun h => absurd h (by decide), fun h => absurd h (by decide), fun t ht h => absurd h (by omega)⟩
          · rw [r8 rfl, hw, lN_i]
          · rw [r8 rfl]; exact nI_pos (dvl_lt hB a _ (by omega))
      · rw [if_neg c] at hk hm
        subst hk hm
        rw [s22]
        refine ⟨⟨r6, by decide, fun t ht => ?_, fun w hw => ?_⟩, fun h => absurd h (by decide), ?_⟩
        · rw [sign_no (by rw [s22]; exact fun h => absurd h.2 (by decide)), if_neg (by omega)]
        · rw [if_neg (by omega)]; exact word_no (by rw [s22]; exact fun h => absurd h.2 (by decide)) w
        · exact ⟨⟨fun h => absurd h (by decide), fun h => absurd h (by decide)⟩, fun h => absurd h (by decide), ⟨fun h => absurd h (by decide), fun h => absurd h (by decide)⟩, fun h => absurd h (by decide), fun h => absurd h (by decide), fun t ht h => absurd h (by omega)⟩
    · -- a sign
      have hm : (if sgi (B a) < 8 then kd = 3 ∧ e' = a + 1 ∧ s.2.1 24 = lN (B a) else kd = 4) := by
        rcases mt with ⟨h, _⟩ | ⟨_, h, _⟩ | ⟨_, _, h, _⟩ | ⟨_, _, _, h⟩
        · omega
        · rw [hL] at h; cases h
        · rw [hD] at h; cases h
        · exact h
      by_cases c : sgi (B a) < 8
      · rw [if_pos c] at hk hm
        obtain ⟨rfl, rfl, hw⟩ := hm
        have hbs := sg_get (B a) (hB a) c
        rw [s22]
        refine ⟨⟨r6, hk22, fun t ht => ?_, fun w hw => ?_⟩, fun _ => ⟨a + 1, by rw [r5, he], s21, fun _ => by omega, by omega⟩, ?_⟩
        · rw [sign_is q26 s22 hw (hB a) (sgl_256 t ht)]
          by_cases c2 : sgi (B a) = t
          · rw [if_pos (by rw [← hbs, c2]), if_pos (by omega)]
          · rw [if_neg (fun h => c2 (by rw [h]; exact sg_list t ht)), if_neg (by omega)]
        · rw [if_neg (by omega)]; exact word_no (by rw [s22]; exact fun h => absurd h.2 (by decide)) w
        · refine ⟨⟨fun h => absurd h (by decide), fun h => by omega⟩, fun h => by omega, ⟨fun h => absurd h (by decide), fun h => by omega⟩, fun h => by omega, fun h => absurd h (by decide), fun t ht h => ?_⟩
          rw [hw, ← show sgi (B a) = t by omega, hbs]
      · rw [if_neg c] at hk hm
        subst hk hm
        rw [s22]
        refine ⟨⟨r6, by decide, fun t ht => ?_, fun w hw => ?_⟩, fun h => absurd h (by decide), ?_⟩
        · rw [sign_no (by rw [s22]; exact fun h => absurd h.2 (by decide)), if_neg (by omega)]
        · rw [if_neg (by omega)]; exact word_no (by rw [s22]; exact fun h => absurd h.2 (by decide)) w
        · exact ⟨⟨fun h => absurd h (by decide), fun h => absurd h (by decide)⟩, fun h => absurd h (by decide), ⟨fun h => absurd h (by decide), fun h => absurd h (by decide)⟩, fun h => absurd h (by decide), fun h => absurd h (by decide), fun t ht h => absurd h (by omega)⟩
  obtain ⟨b1, b2⟩ := fin hk22 key.1 key.2.1 key.2.2
  exact ⟨b1, b2, by omega, rf, sf⟩
end

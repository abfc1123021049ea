section
/-! the grammar, side by side: ONE -/
def wO (σ : OS) : Int32 × OS := if σ.1 26 = 0 then if σ.1 22 = 1 then if (fX6_name σ).2.1 26 = 0 then ((fX6_name σ).1, fX6_next (fX6_name σ).2) else ((fX6_name σ).1, (fX6_name σ).2) else (0, fX6_fail σ) else (0, fX6_fail σ)
def xO (σ : OS) : Prop := (σ.1 26 = 0 → (σ.1 22 = 1 → gX6_name σ ∧ (((fX6_name σ).2.1 26 = 0 → gX6_next (fX6_name σ).2) ∧ (¬ (fX6_name σ).2.1 26 = 0 → True))) ∧ (¬ σ.1 22 = 1 → True)) ∧ (¬ σ.1 26 = 0 → True)
def aO (M P : OS → Int32 × OS) (σ : OS) : Int32 × OS := if fX6_isSign σ 45 = 0 then if fX6_isSign σ 40 = 0 then if σ.1 26 = 0 then if σ.1 22 = 2 then ((σ.2.1 24).toInt32, fX6_next σ) else wO σ else wO σ else P σ else M σ
def hO (HM HP : OS → Prop) (σ : OS) : Prop := (fX6_isSign σ 45 = 0 → (fX6_isSign σ 40 = 0 → (σ.1 26 = 0 → (σ.1 22 = 2 → gX6_next σ) ∧ (¬ σ.1 22 = 2 → xO σ)) ∧ (¬ σ.1 26 = 0 → xO σ)) ∧ (¬ fX6_isSign σ 40 = 0 → HP σ)) ∧ (¬ fX6_isSign σ 45 = 0 → HM σ)
def rO (σ : OS) (v : Int32) : Int32 × OS := if (oI σ 25 (σ.1 25 - 1)).1 26 = 0 then (v, fX6_next (oI σ 25 (σ.1 25 - 1))) else (v, oI σ 25 (σ.1 25 - 1))
def qO (v : Int32) (σ : OS) : Int32 × OS := if fX6_isSign σ 41 = 0 then rO (fX6_fail σ) v else rO σ v
def pO (A : OS → Int32 × OS) (σ : OS) : Int32 × OS := if (fX6_opens σ).1 = 0 then (0, (fX6_opens σ).2) else qO (A (fX6_opens σ).2).1 (A (fX6_opens σ).2).2
def mO (A : OS → Int32 × OS) (σ : OS) : Int32 × OS := if (fX6_opens σ).1 = 0 then (0, (fX6_opens σ).2) else (-(A (fX6_opens σ).2).1, oI (A (fX6_opens σ).2).2 25 ((A (fX6_opens σ).2).2.1 25 - 1))
def rP (σ : OS) : Prop := ((oI σ 25 (σ.1 25 - 1)).1 26 = 0 → gX6_next (oI σ 25 (σ.1 25 - 1))) ∧ (¬ (oI σ 25 (σ.1 25 - 1)).1 26 = 0 → True)
def qP (σ : OS) : Prop := (fX6_isSign σ 41 = 0 → rP (fX6_fail σ)) ∧ (¬ fX6_isSign σ 41 = 0 → rP σ)
def pP (H : OS → Prop) (A : OS → Int32 × OS) (σ : OS) : Prop := gX6_opens σ ∧ (((fX6_opens σ).1 = 0 → True) ∧ (¬ (fX6_opens σ).1 = 0 → H (fX6_opens σ).2 ∧ qP (A (fX6_opens σ).2).2))
/-- the names -/
theorem name_is {n : Nat} (hn : n ≤ 160) {B : Nat → Nat} {f lev : Nat} {ρ σ : OS} (hs : Sim n B f lev ρ σ) : gX6_name σ ∧ ((6 ≤ tk ρ ∧ tk ρ < 12 ∧ fX6_name σ = (nms σ (tk ρ - 6), σ)) ∨ (¬ (6 ≤ tk ρ ∧ tk ρ < 12) ∧ fX6_name σ = (0, fX6_fail σ))) := by
  have hT := hs.1.2.2.2.2
  obtain ⟨g6, e6⟩ : gX6_isWord σ 102 105 114 109 0 0 0 0 ∧ fX6_isWord σ 102 105 114 109 0 0 0 0 = if tk ρ = 6 then 1 else 0 := hT.2.2.2 6 (by decide)
  obtain ⟨g7, e7⟩ : gX6_isWord σ 110 117 109 98 101 114 0 0 ∧ fX6_isWord σ 110 117 109 98 101 114 0 0 = if tk ρ = 7 then 1 else 0 := hT.2.2.2 7 (by decide)
  obtain ⟨g8, e8⟩ : gX6_isWord σ 121 101 97 114 0 0 0 0 ∧ fX6_isWord σ 121 101 97 114 0 0 0 0 = if tk ρ = 8 then 1 else 0 := hT.2.2.2 8 (by decide)
  obtain ⟨g9, e9⟩ : gX6_isWord σ 112 97 114 116 115 0 0 0 ∧ fX6_isWord σ 112 97 114 116 115 0 0 0 = if tk ρ = 9 then 1 else 0 := hT.2.2.2 9 (by decide)
  obtain ⟨ga, ea⟩ : gX6_isWord σ 104 105 103 104 0 0 0 0 ∧ fX6_isWord σ 104 105 103 104 0 0 0 0 = if tk ρ = 10 then 1 else 0 := hT.2.2.2 10 (by decide)
  obtain ⟨gb, eb⟩ : gX6_isWord σ 112 97 105 100 0 0 0 0 ∧ fX6_isWord σ 112 97 105 100 0 0 0 0 = if tk ρ = 11 then 1 else 0 := hT.2.2.2 11 (by decide)
  unfold gX6_name oX6_name_0 fX6_name pX6_name_0 pX6_name_151
  refine ⟨by simp only [↓reduceIte, not_true_eq_false, not_false_eq_true, false_implies, true_implies, implies_true, true_and, and_true, and_self, eq_self, Bool.false_eq_true, g6, g7, g8, g9, ga, gb], ?_⟩
  rw [e6, e7, e8, e9, ea, eb]
  by_cases c6 : tk ρ = 6
  · left; simp only [↓reduceIte, not_true_eq_false, not_false_eq_true, false_implies, true_implies, implies_true, true_and, and_true, and_self, eq_self, Bool.false_eq_true, c6, one_ne]; exact ⟨by decide, by decide, rfl⟩
  · by_cases c7 : tk ρ = 7
    · left; simp only [↓reduceIte, not_true_eq_false, not_false_eq_true, false_implies, true_implies, implies_true, true_and, and_true, and_self, eq_self, Bool.false_eq_true, c7, one_ne, show ¬ (7 = 6) by decide]; exact ⟨by decide, by decide, rfl⟩
    · by_cases c8 : tk ρ = 8
      · left; simp only [↓reduceIte, not_true_eq_false, not_false_eq_true, false_implies, true_implies, implies_true, true_and, and_true, and_self, eq_self, Bool.false_eq_true, c8, one_ne, show ¬ (8 = 6) by decide, show ¬ (8 = 7) by decide]; exact ⟨by decide, by decide, rfl⟩
      · by_cases c9 : tk ρ = 9
        · left; simp only [↓reduceIte, not_true_eq_false, not_false_eq_true, false_implies, true_implies, implies_true, true_and, and_true, and_self, eq_self, Bool.false_eq_true, c9, one_ne, show ¬ (9 = 6) by decide, show ¬ (9 = 7) by decide, show ¬ (9 = 8) by decide]; exact ⟨by decide, by decide, rfl⟩
        · by_cases ca : tk ρ = 10
          · left; simp only [↓reduceIte, not_true_eq_false, not_false_eq_true, false_implies, true_implies, implies_true, true_and, and_true, and_self, eq_self, Bool.false_eq_true, ca, one_ne, show ¬ (10 = 6) by decide, show ¬ (10 = 7) by decide, show ¬ (10 = 8) by decide, show ¬ (10 = 9) by decide]; exact ⟨by decide, by decide, rfl⟩
          · by_cases cb : tk ρ = 11
            · left; simp only [↓reduceIte, not_true_eq_false, not_false_eq_true, false_implies, true_implies, implies_true, true_and, and_true, and_self, eq_self, Bool.false_eq_true, cb, one_ne, show ¬ (11 = 6) by decide, show ¬ (11 = 7) by decide, show ¬ (11 = 8) by decide, show ¬ (11 = 9) by decide, show ¬ (11 = 10) by decide]; exact ⟨by decide, by decide, rfl⟩
            · right; simp only [↓reduceIte, not_true_eq_false, not_false_eq_true, false_implies, true_implies, implies_true, true_and, and_true, and_self, eq_self, Bool.false_eq_true, c6, c7, c8, c9, ca, cb]; omega
theorem isName_k : ∀ k, k < 23 → fX0_isName (nI k) = if 6 ≤ k ∧ k < 12 then 1 else 0 := by decide +kernel
theorem nm_item : ∀ k, k < 12 → 6 ≤ k → (nI k ^^^ (-1)) < 0 ∧ (nI k ^^^ (-1)) ^^^ (-1) = nI k ∧ (nI k - 6).toNatClampNeg = k - 6 := by decide +kernel
/-- an item written, a token further -/
theorem post_item {n : Nat} {B : Nat → Nat} (hn : n ≤ 160) (hB : ∀ i, B i < 256) {f : Nat} (hf : f ≤ 800) {lev : Nat} {ρ σ : OS} (hs : Sim n B f lev ρ σ) (h0 : ρ.1 10 = -1 → cs ρ ≤ pl ρ) (ht : tk ρ < 21) (x u : Int32) (hx : ∀ st, ex1 (nms σ) x st = u :: st) : gX0_write ρ x ∧ gX0_step (fX0_write ρ x) ∧ gX6_next σ ∧ Post n B f lev ρ σ (fX0_step (fX0_write ρ x)) u (fX6_next σ) := by
  have hG := hs.tok (by omega)
  obtain ⟨w1, w2, w3, w4, w5, w6, w7⟩ := wr_base hs.1 x
  have c0 := h0 hG.1
  obtain ⟨e, -, -, z1, z2⟩ := hG.2.2.2.2.2.2.2.1 (by omega)
  have z1 := z1 ht
  obtain ⟨x1, x2, x3⟩ := wr_at hs.1.2.2.1 (by omega) x
  have etk : tk (fX0_write ρ x) = tk ρ := by
    have a := w2.2.2.2.2.1
    unfold tk
    obtain ⟨_, ⟨c, e⟩ | ⟨c, e⟩⟩ := wr hs.1.2.2.1 hs.1.2.2.2.1 x
    · rw [e]; rfl
    · rw [e]
  obtain ⟨a1, a2, a3, a4, a5, a6, a7⟩ := sim_adv hn hB hf w2 (w4 lev hG) (by omega)
  refine ⟨w1, a1, a2, ⟨a3, Or.inr a4⟩, a7.pf, by rw [a6.2]; exact w3, fun _ => ?_⟩
  rw [a6.cs, x1, a6.2]
  exact ⟨hG, by omega, by omega, x2, Ev.one (fun st => by rw [x3]; exact hx st)⟩
theorem nt_one {n : Nat} {B : Nat → Nat} (hn : n ≤ 160) (hB : ∀ i, B i < 256) {f : Nat} (hf : f ≤ 800) {lev : Nat} {G1 G2 : OS → Prop} {F1 F2 : OS → OS} {HM HP : OS → Prop} {M P : OS → Int32 × OS}
    (hm : ∀ ρ σ, Sim n B f lev ρ σ → (ρ.1 10 = -1 → cs ρ ≤ pl ρ) → tk ρ = 16 → (gX0_opens ρ ∧ oX0_readOne_64 F1 F2 G1 G2 (fX0_opens ρ).2 (fX0_opens ρ).1) ∧ HM σ ∧ Post n B f lev ρ σ (pX0_readOne_64 F1 F2 (fX0_opens ρ).2 (fX0_opens ρ).1) (M σ).1 (M σ).2)
    (hp : ∀ ρ σ, Sim n B f lev ρ σ → (ρ.1 10 = -1 → cs ρ ≤ pl ρ) → tk ρ = 12 → (gX0_opens ρ ∧ oX0_readOne_103 F1 F2 G1 G2 (fX0_opens ρ).2 (fX0_opens ρ).1) ∧ HP σ ∧ Post n B f lev ρ σ (pX0_readOne_103 F1 F2 (fX0_opens ρ).2 (fX0_opens ρ).1) (P σ).1 (P σ).2) :
    NT n B f lev (gX0_readOne F1 F2 G1 G2) (fX0_readOne F1 F2) (hO HM HP) (aO M P) := by
  intro ρ σ hs h0
  have hT := hs.1.2.2.2.2
  have e1 : fX6_isSign σ 45 = if tk ρ = 16 then 1 else 0 := hT.2.2.1 4 (by decide)
  have e2 : fX6_isSign σ 40 = if tk ρ = 12 then 1 else 0 := hT.2.2.1 0 (by decide)
  have en : fX0_isName (ρ.1 6) = if 6 ≤ tk ρ ∧ tk ρ < 12 then 1 else 0 := by rw [hT.1]; exact isName_k _ (by have := hT.2.1; omega)
  unfold gX0_readOne oX0_readOne_0 fX0_readOne pX0_readOne_0 hO aO
  by_cases c16 : tk ρ = 16
  · obtain ⟨m1, m2, m3⟩ := hm ρ σ hs h0 c16
    have d1 : ρ.1 6 = 16 := by rw [hT.1, c16]; rfl
    rw [if_pos c16] at e1
    rw [if_neg (by omega)] at en
    rw [d1] at en
    have d2 : ¬ (16 : Int32) = 20 := by decide
    simp only [↓reduceIte, not_true_eq_false, not_false_eq_true, false_implies, true_implies, implies_true, true_and, and_true, and_self, eq_self, Bool.false_eq_true, d1, d2, en, e1, one_ne, m1, m2]
    exact m3
  · rw [if_neg c16] at e1
    have d16 : ¬ ρ.1 6 = 16 := tk_ne hT.1 hT.2.1 (k := 16) (by decide) c16
    by_cases c12 : tk ρ = 12
    · obtain ⟨m1, m2, m3⟩ := hp ρ σ hs h0 c12
      have d1 : ρ.1 6 = 12 := by rw [hT.1, c12]; rfl
      rw [if_pos c12] at e2
      rw [if_neg (by omega)] at en
      rw [d1] at en
      have d2 : ¬ (12 : Int32) = 20 := by decide
      have d3 : ¬ (12 : Int32) = 16 := by decide
      simp only [↓reduceIte, not_true_eq_false, not_false_eq_true, false_implies, true_implies, implies_true, true_and, and_true, and_self, eq_self, Bool.false_eq_true, d1, d2, d3, en, e1, e2, one_ne, m1, m2]
      exact m3
    · rw [if_neg c12] at e2
      have d12 : ¬ ρ.1 6 = 12 := tk_ne hT.1 hT.2.1 (k := 12) (by decide) c12
      by_cases c20 : tk ρ = 20
      · have hG := hs.tok (by omega)
        have d20 : ρ.1 6 = 20 := by rw [hT.1, c20]; rfl
        have k22 : σ.1 22 = 2 := hG.2.2.2.2.2.2.2.2.1.mpr c20
        obtain ⟨v1, v2⟩ := hG.2.2.2.2.2.2.2.2.2.1 c20
        obtain ⟨p1, p2, p3, p4⟩ := post_item hn hB hf hs h0 (by omega) (ρ.1 8) ((σ.2.1 24).toInt32) (fun st => by unfold ex1; rw [if_neg v2, v1])
        unfold oX0_readOne_17 pX0_readOne_17 pX0_readOne_21 pX0_readOne_133
        simp only [↓reduceIte, not_true_eq_false, not_false_eq_true, false_implies, true_implies, implies_true, true_and, and_true, and_self, eq_self, Bool.false_eq_true, d20, e1, e2, hG.2.1, k22, p1, p2, p3]
        exact p4
      · have d20 : ¬ ρ.1 6 = 20 := tk_ne hT.1 hT.2.1 (k := 20) (by decide) c20
        by_cases cn : 6 ≤ tk ρ ∧ tk ρ < 12
        · have hG := hs.tok (by omega)
          rw [if_pos cn] at en
          have k22 : σ.1 22 = 1 := hG.2.2.2.2.2.2.2.2.2.2.2.1 cn.2
          have k2 : ¬ (1 : Int32) = 2 := by decide
          obtain ⟨gn, ⟨_, _, nm⟩ | ⟨q, _⟩⟩ := name_is hn hs
          · obtain ⟨i1, i2, i3⟩ := nm_item (tk ρ) cn.2 cn.1
            obtain ⟨p1, p2, p3, p4⟩ := post_item hn hB hf hs h0 (by omega) (ρ.1 6 ^^^ (-1)) (nms σ (tk ρ - 6)) (fun st => by
              unfold ex1
              rw [hT.1, if_pos i1, i2, isName_k _ (by omega), if_pos cn, if_neg one_ne, i3])
            unfold oX0_readOne_44 pX0_readOne_44 pX0_readOne_48 pX0_readOne_133 wO xO
            simp only [↓reduceIte, not_true_eq_false, not_false_eq_true, false_implies, true_implies, implies_true, true_and, and_true, and_self, eq_self, Bool.false_eq_true, d20, en, one_ne, e1, e2, hG.2.1, k22, k2, gn, nm, p1, p2, p3]
            exact p4
          · exact absurd cn q
        · rw [if_neg cn] at en
          obtain ⟨b1, b2, b3, b4⟩ := rfs hn hs
          unfold pX0_readOne_133
          simp only [↓reduceIte, not_true_eq_false, not_false_eq_true, false_implies, true_implies, implies_true, true_and, and_true, and_self, eq_self, Bool.false_eq_true, d20, en, d16, d12, e1, e2]
          have key : xO σ ∧ wO σ = (0, fX6_fail σ) := by
            unfold xO wO
            by_cases k26 : σ.1 26 = 0
            · by_cases k22 : σ.1 22 = 1
              · obtain ⟨gn, ⟨q1, q2, _⟩ | ⟨_, nm⟩⟩ := name_is hn hs
                · exact absurd ⟨q1, q2⟩ cn
                · have k1 : ¬ (fX6_fail σ).1 26 = 0 := by
                    rw [b2.2.1]; exact one_ne
                  simp only [↓reduceIte, not_true_eq_false, not_false_eq_true, false_implies, true_implies, implies_true, true_and, and_true, and_self, eq_self, Bool.false_eq_true, k26, k22, gn, nm, k1]
              · simp only [↓reduceIte, not_true_eq_false, not_false_eq_true, false_implies, true_implies, implies_true, true_and, and_true, and_self, eq_self, Bool.false_eq_true, k26, k22]
            · simp only [↓reduceIte, not_true_eq_false, not_false_eq_true, false_implies, true_implies, implies_true, true_and, and_true, and_self, eq_self, Bool.false_eq_true, k26]
          have fin : Post n B f lev ρ σ (fX0_refuse ρ) 0 (fX6_fail σ) := Post.bad hn b1 b2 b3 (by rw [b4])
          by_cases k26 : σ.1 26 = 0
          · by_cases k22 : σ.1 22 = 2
            · have hG : Good n lev ρ σ := hs.2.resolve_left (fun b => by have := b.2.1; rw [k26] at this; exact absurd this (by decide))
              exact absurd (hG.2.2.2.2.2.2.2.2.1.mp k22) c20
            · simp only [↓reduceIte, not_true_eq_false, not_false_eq_true, false_implies, true_implies, implies_true, true_and, and_true, and_self, eq_self, Bool.false_eq_true, k26, k22, key.1, key.2]
              exact fin
          · simp only [↓reduceIte, not_true_eq_false, not_false_eq_true, false_implies, true_implies, implies_true, true_and, and_true, and_self, eq_self, Bool.false_eq_true, k26, key.1, key.2]
            exact fin
theorem one_up {n : Nat} {B : Nat → Nat} (hn : n ≤ 160) (hB : ∀ i, B i < 256) {f : Nat} (hf : f ≤ 800) {lev : Nat} (hl : lev < 5) {G1 G2 : OS → Prop} {F1 F2 : OS → OS} {H1 H2 : OS → Prop} {A1 A2 : OS → Int32 × OS} (h1 : NT n B f (lev + 1) G1 F1 H1 A1) (h2 : NT n B f (lev + 1) G2 F2 H2 A2) : NT n B f lev (gX0_readOne F1 F2 G1 G2) (fX0_readOne F1 F2) (hO (kN H1) (pP H2 A2)) (aO (mO A1) (pO A2)) := by
  refine nt_one hn hB hf (fun ρ σ hs h0 ht => ?_) (fun ρ σ hs h0 ht => ?_)
  · obtain ⟨a1, a2, a3, a4, b1, b2, b3, b4⟩ := post_unw hn hB hf hl h1 hs h0 (by omega) (-24) (-(A1 (fX6_opens σ).2).1) (fun st => (ex1_u (by decide) _ st).2 (by decide))
    unfold oX0_readOne_64 pX0_readOne_64 oX0_readOne_71 pX0_readOne_71 pX0_readOne_87 pX0_readOne_133 kN mO
    simp only [↓reduceIte, not_true_eq_false, not_false_eq_true, false_implies, true_implies, implies_true, true_and, and_true, and_self, eq_self, Bool.false_eq_true, a3, a4, one_ne, a1, a2, b1, b2, b3]
    exact b4
  · obtain ⟨a1, a2, a3, a4, b1, b2, s1, p1, r3, hg1⟩ := post_un hn hB hf hl h2 hs h0 (by omega)
    unfold oX0_readOne_103 pX0_readOne_103 oX0_readOne_110 pX0_readOne_110 pX0_readOne_126 pX0_readOne_133 pP pO qP qO rP rO
    simp only [↓reduceIte, not_true_eq_false, not_false_eq_true, false_implies, true_implies, implies_true, true_and, and_true, and_self, eq_self, Bool.false_eq_true, a3, a4, one_ne, a1, a2, b1, b2]
    have c0 := h0 (hs.tok (by omega)).1
    generalize hq : A2 (fX6_opens σ).2 = q at *
    generalize hr : oI (F2 (fX0_opens ρ).2) 9 ((F2 (fX0_opens ρ).2).1 9 - 1) = r at *
    have e10 : (F2 (fX0_opens ρ).2).1 10 = r.1 10 := by rw [← hr]; rfl
    have ecs : cs (F2 (fX0_opens ρ).2) = cs r := by rw [← hr]; rfl
    have epl : pl (F2 (fX0_opens ρ).2) = pl r := by rw [← hr]; rfl
    have e2 : (F2 (fX0_opens ρ).2).2 = r.2 := by rw [← hr]; rfl
    rw [e10, ecs, epl, e2] at hg1
    rw [e2] at r3
    have es : fX6_isSign q.2 41 = if tk r = 13 then 1 else 0 := s1.1.2.2.2.2.2.2.1 1 (by decide)
    obtain ⟨x1, x2⟩ := exp_sim hn hB hf s1 (k := 13) (by decide)
    have x1 : gX0_expect r 13 := x1
    rcases x2 with ⟨y0, y1, y2, y3, y4, y5, y6, y7, y8, y9⟩ | ⟨y0, y1, y2, y3, y4⟩
    · rw [if_pos y0] at es
      simp only [↓reduceIte, not_true_eq_false, not_false_eq_true, false_implies, true_implies, implies_true, true_and, and_true, and_self, eq_self, Bool.false_eq_true, es, one_ne, x1, y2, y1]
      refine ⟨⟨y3, Or.inr y5⟩, p1.trans y9, ?_, fun _ => ?_⟩
      · show (fX0_expect r (nI 13)).2.2.1 3 = _
        rw [y8]; exact r3
      · obtain ⟨g1, g2, g3, g4, g5⟩ := hg1 y4.1
        have t1 : cs (fX0_expect r 13) = cs r := y7
        have t2 : pl r < pl (fX0_expect r 13) := y6
        have t3 : (fX0_expect r 13).2 = r.2 := y8
        rw [t1, t3]
        exact ⟨g1, g2, by omega, g4, g5⟩
    · rw [if_neg y0] at es
      have f1 : fX6_fail (oI q.2 25 (q.2.1 25 - 1)) = oI (fX6_fail q.2) 25 ((fX6_fail q.2).1 25 - 1) := by rw [fail_lv, fail_25]
      rw [f1] at y1 y2 y3
      have k1 : ¬ (oI (fX6_fail q.2) 25 ((fX6_fail q.2).1 25 - 1)).1 26 = 0 := by rw [y2.2.1]; exact one_ne
      simp only [↓reduceIte, not_true_eq_false, not_false_eq_true, false_implies, true_implies, implies_true, true_and, and_true, and_self, eq_self, Bool.false_eq_true, es, k1, x1]
      refine Post.bad hn y1 y2 (p1.trans y3) ?_
      show (fX0_expect r (nI 13)).2.2.1 3 = _
      rw [y4]; exact r3
theorem one_5 {n : Nat} {B : Nat → Nat} (hn : n ≤ 160) (hB : ∀ i, B i < 256) {f : Nat} (hf : f ≤ 800) {G1 G2 : OS → Prop} {F1 F2 : OS → OS} : NT n B f 5 (gX0_readOne F1 F2 G1 G2) (fX0_readOne F1 F2) (hO gX6_opens gX6_opens) (aO (fun σ => (0, (fX6_opens σ).2)) (fun σ => (0, (fX6_opens σ).2))) := by
  refine nt_one hn hB hf (fun ρ σ hs h0 ht => ?_) (fun ρ σ hs h0 ht => ?_)
  · obtain ⟨a1, a2, a3, a4⟩ := opens_no (hs.tok (by omega))
    obtain ⟨b1, b2, b3, b4⟩ := rfs hn hs
    unfold oX0_readOne_64 pX0_readOne_64 pX0_readOne_133
    simp only [↓reduceIte, not_true_eq_false, not_false_eq_true, false_implies, true_implies, implies_true, true_and, and_true, and_self, eq_self, Bool.false_eq_true, a3, a4, a1, a2]
    exact Post.bad hn b1 b2 b3 (by rw [b4])
  · obtain ⟨a1, a2, a3, a4⟩ := opens_no (hs.tok (by omega))
    obtain ⟨b1, b2, b3, b4⟩ := rfs hn hs
    unfold oX0_readOne_103 pX0_readOne_103 pX0_readOne_133
    simp only [↓reduceIte, not_true_eq_false, not_false_eq_true, false_implies, true_implies, implies_true, true_and, and_true, and_self, eq_self, Bool.false_eq_true, a3, a4, a1, a2]
    exact Post.bad hn b1 b2 b3 (by rw [b4])
end

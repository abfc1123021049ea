section
/-! the grammar, side by side: what opens -/
theorem oI_comm (σ : OS) {a b : Nat} (h : ¬ a = b) (x y : Int32) : oI (oI σ a x) b y = oI (oI σ b y) a x := by
  unfold oI
  have e : va_up (va_up σ.1 a x) b y = va_up (va_up σ.1 b y) a x := by
    funext j
    unfold va_up
    by_cases h1 : j = b
    · subst h1
      rw [if_pos rfl, if_neg (fun e => h e.symm), if_pos rfl]
    · rw [if_neg h1]
      by_cases h2 : j = a
      · rw [if_pos h2, if_pos h2]
      · rw [if_neg h2, if_neg h2, if_neg h1]
  exact Prod.ext e rfl
theorem lv_base {n : Nat} {B : Nat → Nat} {f : Nat} {ρ σ : OS} (hb : Base n B f ρ σ) (x y : Int32) : Base n B f (oI ρ 9 x) (oI σ 25 y) := ⟨⟨hb.1.1, hb.1.2⟩, ⟨hb.2.1.1, hb.2.1.2.1, hb.2.1.2.2⟩, hb.2.2.1, hb.2.2.2.1, ⟨hb.2.2.2.2.1, hb.2.2.2.2.2.1, hb.2.2.2.2.2.2.1, hb.2.2.2.2.2.2.2⟩⟩
theorem lv_good {n lev : Nat} {ρ σ : OS} (hg : Good n lev ρ σ) (l : Nat) : Good n l (oI ρ 9 (nI l)) (oI σ 25 (nI l)) := ⟨hg.1, hg.2.1, hg.2.2.1, hg.2.2.2.1, hg.2.2.2.2.1, oI_s _ _ _, oI_s _ _ _, hg.2.2.2.2.2.2.2.1, hg.2.2.2.2.2.2.2.2⟩
theorem lv_bad {n : Nat} {ρ σ : OS} (hg : Bad n ρ σ) (x y : Int32) : Bad n (oI ρ 9 x) (oI σ 25 y) := ⟨hg.1, hg.2.1, hg.2.2⟩
theorem opens_up {n : Nat} {B : Nat → Nat} (hn : n ≤ 160) (hB : ∀ i, B i < 256) {f : Nat} (hf : f ≤ 800) {lev : Nat} (hl : lev < 5) {ρ σ : OS} (hb : Base n B f ρ σ) (hg : Good n lev ρ σ) (ht : tk ρ < 21) : gX0_opens ρ ∧ gX6_opens σ ∧ (fX0_opens ρ).1 = 1 ∧ (fX6_opens σ).1 = 1 ∧ Base n B f (fX0_opens ρ).2 (fX6_opens σ).2 ∧ Good n (lev + 1) (fX0_opens ρ).2 (fX6_opens σ).2 ∧ pl ρ < pl (fX0_opens ρ).2 ∧ cs (fX0_opens ρ).2 = cs ρ ∧ (fX0_opens ρ).2.2 = ρ.2 ∧ PF σ (fX6_opens σ).2 := by
  have h9 := hg.2.2.2.2.2.1
  have h25 := hg.2.2.2.2.2.2.1
  have c1 : nI lev < 5 := nI_lt (b := 5) hl (by decide)
  have c2 : ¬ nI lev = 5 := nI_ne (b := 5) (by omega) (by omega) (by decide)
  have e1 : fX0_opens ρ = (1, fX0_step (oI ρ 9 (nI (lev + 1)))) := by
    unfold fX0_opens pX0_opens_0 pX0_opens_28
    rw [h9, nI_1, if_pos c1]
  have e2 : fX6_opens σ = (1, fX6_next (oI σ 25 (nI (lev + 1)))) := by
    unfold fX6_opens pX6_opens_0 pX6_opens_28
    rw [h25, nI_1, if_neg c2]
  obtain ⟨a1, a2, a3, a4, a5, a6, a7⟩ := sim_adv hn hB hf (lv_base hb (nI (lev + 1)) (nI (lev + 1))) (lv_good hg (lev + 1)) ht
  have g1 : gX0_opens ρ := by
    unfold gX0_opens oX0_opens_0
    rw [h9, nI_1]
    exact ⟨fun _ => a1, fun _ => trivial⟩
  have g2 : gX6_opens σ := by
    unfold gX6_opens oX6_opens_0
    rw [h25, nI_1]
    exact ⟨fun _ => trivial, fun _ => a2⟩
  rw [e1, e2]
  exact ⟨g1, g2, rfl, rfl, a3, a4, a5, a6.cs, a6.2, ((PF.rfl' σ).put (j := 25) (by omega) _).trans a7.pf⟩
theorem opens_no {n : Nat} {ρ σ : OS} (hg : Good n 5 ρ σ) : gX0_opens ρ ∧ gX6_opens σ ∧ fX0_opens ρ = (0, fX0_refuse ρ) ∧ fX6_opens σ = (0, fX6_fail σ) := by
  have h9 : ρ.1 9 = 5 := hg.2.2.2.2.2.1
  have h25 : σ.1 25 = 5 := hg.2.2.2.2.2.2.1
  have c : ¬ (5 : Int32) < 5 := by decide
  unfold gX0_opens oX0_opens_0 gX6_opens oX6_opens_0 fX0_opens pX0_opens_0 pX0_opens_12 fX6_opens pX6_opens_0 pX6_opens_12
  simp only [↓reduceIte, not_true_eq_false, not_false_eq_true, false_implies, true_implies, implies_true, true_and, and_true, and_self, eq_self, Bool.false_eq_true, h9, h25, c]
/-- a part that is open, read, and closed again -/
theorem post_un {n : Nat} {B : Nat → Nat} (hn : n ≤ 160) (hB : ∀ i, B i < 256) {f : Nat} (hf : f ≤ 800) {lev : Nat} (hl : lev < 5) {G1 : OS → Prop} {F1 : OS → OS} {H : OS → Prop} {A : OS → Int32 × OS} (h : NT n B f (lev + 1) G1 F1 H A) {ρ σ : OS} (hs : Sim n B f lev ρ σ) (h0 : ρ.1 10 = -1 → cs ρ ≤ pl ρ) (ht : tk ρ < 21) :
    gX0_opens ρ ∧ gX6_opens σ ∧ (fX0_opens ρ).1 = 1 ∧ (fX6_opens σ).1 = 1 ∧ G1 (fX0_opens ρ).2 ∧ H (fX6_opens σ).2 ∧
    Sim n B f lev (oI (F1 (fX0_opens ρ).2) 9 ((F1 (fX0_opens ρ).2).1 9 - 1)) (oI (A (fX6_opens σ).2).2 25 ((A (fX6_opens σ).2).2.1 25 - 1)) ∧ PF σ (oI (A (fX6_opens σ).2).2 25 ((A (fX6_opens σ).2).2.1 25 - 1)) ∧ (F1 (fX0_opens ρ).2).2.2.1 3 = ρ.2.2.1 3 ∧
    ((F1 (fX0_opens ρ).2).1 10 = -1 → Good n lev ρ σ ∧ cs ρ < cs (F1 (fX0_opens ρ).2) ∧ cs (F1 (fX0_opens ρ).2) + 1 + pl ρ ≤ cs ρ + pl (F1 (fX0_opens ρ).2) ∧ (∀ i, i < cs ρ → (F1 (fX0_opens ρ).2).2.2.1 2 i = ρ.2.2.1 2 i) ∧ Ev (nms σ) ((F1 (fX0_opens ρ).2).2.2.1 2) (cs ρ) (cs (F1 (fX0_opens ρ).2)) (A (fX6_opens σ).2).1) := by
  have hG := hs.tok (by omega)
  obtain ⟨a1, a2, a3, a4, a5, a6, a7, a8, a9, a10⟩ := opens_up hn hB hf hl hs.1 hG ht
  have c0 := h0 hG.1
  generalize fX0_opens ρ = O at *
  generalize fX6_opens σ = Q at *
  obtain ⟨b1, b2, s1, p1, r3, hg1⟩ := h O.2 Q.2 ⟨a5, Or.inr a6⟩ (fun _ => by omega)
  refine ⟨a1, a2, a3, a4, b1, b2, ⟨lv_base s1.1 _ _, s1.2.elim (fun b => Or.inl (lv_bad b _ _)) (fun g => Or.inr ?_)⟩, (a10.trans p1).put (by omega) _, by rw [r3, a9], fun h10 => ?_⟩
  · have e1 := g.2.2.2.2.2.1
    have e2 := g.2.2.2.2.2.2.1
    have e3 : nI (lev + 1) - 1 = nI lev := pk_sub (a := lev + 1) (b := 1) (by omega)
    rw [e1, e2, e3]
    exact lv_good g lev
  · obtain ⟨g1, g2, g3, g4, g5⟩ := hg1 h10
    rw [a8] at g2 g3 g4 g5
    exact ⟨hG, g2, by omega, fun i hi => (g4 i hi).trans (by rw [a9]), g5.nm (fun j hj => (a10.nm j hj).symm)⟩
/-- then an item behind it -/
theorem post_unw {n : Nat} {B : Nat → Nat} (hn : n ≤ 160) (hB : ∀ i, B i < 256) {f : Nat} (hf : f ≤ 800) {lev : Nat} (hl : lev < 5) {G1 : OS → Prop} {F1 : OS → OS} {H : OS → Prop} {A : OS → Int32 × OS} (h : NT n B f (lev + 1) G1 F1 H A) {ρ σ : OS} (hs : Sim n B f lev ρ σ) (h0 : ρ.1 10 = -1 → cs ρ ≤ pl ρ) (ht : tk ρ < 21) (x u : Int32) (hx : ∀ st, ex1 (nms σ) x ((A (fX6_opens σ).2).1 :: st) = u :: st) :
    gX0_opens ρ ∧ gX6_opens σ ∧ (fX0_opens ρ).1 = 1 ∧ (fX6_opens σ).1 = 1 ∧ G1 (fX0_opens ρ).2 ∧ H (fX6_opens σ).2 ∧ gX0_write (oI (F1 (fX0_opens ρ).2) 9 ((F1 (fX0_opens ρ).2).1 9 - 1)) x ∧
    Post n B f lev ρ σ (fX0_write (oI (F1 (fX0_opens ρ).2) 9 ((F1 (fX0_opens ρ).2).1 9 - 1)) x) u (oI (A (fX6_opens σ).2).2 25 ((A (fX6_opens σ).2).2.1 25 - 1)) := by
  obtain ⟨a1, a2, a3, a4, b1, b2, s1, p1, r3, hg1⟩ := post_un hn hB hf hl h hs h0 ht
  have c0 := h0 (hs.tok (by omega)).1
  generalize hr : oI (F1 (fX0_opens ρ).2) 9 ((F1 (fX0_opens ρ).2).1 9 - 1) = r at *
  have e10 : (F1 (fX0_opens ρ).2).1 10 = r.1 10 := by rw [← hr]; rfl
  have ecs : cs (F1 (fX0_opens ρ).2) = cs r := by rw [← hr]; rfl
  have epl : pl (F1 (fX0_opens ρ).2) = pl r := by rw [← hr]; rfl
  have e2 : (F1 (fX0_opens ρ).2).2 = r.2 := by rw [← hr]; rfl
  rw [e10, ecs, epl, e2] at hg1
  rw [e2] at r3
  obtain ⟨w1, w2, w3, w4, w5, w6, w7⟩ := wr_base s1.1 x
  refine ⟨a1, a2, a3, a4, b1, b2, w1, ⟨w2, s1.2.elim (fun b => Or.inl (w5 b)) (fun g => Or.inr (w4 lev g))⟩, p1, w3.trans r3, fun h10 => ?_⟩
  rw [w6] at h10
  obtain ⟨g1, g2, g3, g4, g5⟩ := hg1 h10
  have hrn := (s1.good hn h10).2.2.2.2.1
  obtain ⟨x1, x2, x3⟩ := wr_at s1.1.2.2.1 (by omega) x
  refine ⟨g1, by omega, by rw [w7]; omega, fun i hi => (x2 i (by omega)).trans (g4 i hi), ?_⟩
  rw [x1]
  refine Ev.un (by omega) (g5.cong (fun j _ h2 => x2 j h2)) (fun st => ?_)
  rw [x3]; exact hx st
/-- one token that must stand there -/
theorem exp_sim {n : Nat} {B : Nat → Nat} (hn : n ≤ 160) (hB : ∀ i, B i < 256) {f : Nat} (hf : f ≤ 800) {lev : Nat} {ρ σ : OS} (hs : Sim n B f lev ρ σ) {k : Nat} (hk : k < 21) : gX0_expect ρ (nI k) ∧ ((tk ρ = k ∧ gX6_next σ ∧ σ.1 26 = 0 ∧ Base n B f (fX0_expect ρ (nI k)) (fX6_next σ) ∧ Good n lev ρ σ ∧ Good n lev (fX0_expect ρ (nI k)) (fX6_next σ) ∧ pl ρ < pl (fX0_expect ρ (nI k)) ∧ cs (fX0_expect ρ (nI k)) = cs ρ ∧ (fX0_expect ρ (nI k)).2 = ρ.2 ∧ PF σ (fX6_next σ)) ∨ (¬ tk ρ = k ∧ Base n B f (fX0_expect ρ (nI k)) (fX6_fail σ) ∧ Bad n (fX0_expect ρ (nI k)) (fX6_fail σ) ∧ PF σ (fX6_fail σ) ∧ (fX0_expect ρ (nI k)).2 = ρ.2)) := by
  have hT := hs.1.2.2.2.2
  unfold gX0_expect oX0_expect_0 fX0_expect pX0_expect_0 pX0_expect_12 pX0_expect_19
  by_cases c : tk ρ = k
  · have e6 : ρ.1 6 = nI k := by rw [hT.1, c]
    have hG := hs.tok (by omega)
    obtain ⟨a1, a2, a3, a4, a5, a6, a7⟩ := sim_adv hn hB hf hs.1 hG (by omega)
    simp only [↓reduceIte, not_true_eq_false, not_false_eq_true, false_implies, true_implies, implies_true, true_and, and_true, and_self, eq_self, Bool.false_eq_true, e6, a1]
    exact Or.inl ⟨c, a2, hG.2.1, a3, hG, a4, a5, a6.cs, a6.2, a7.pf⟩
  · have e6 : ¬ ρ.1 6 = nI k := tk_ne hT.1 hT.2.1 (by omega) c
    obtain ⟨b1, b2, b3, b4⟩ := rfs hn hs
    simp only [↓reduceIte, not_true_eq_false, not_false_eq_true, false_implies, true_implies, implies_true, true_and, and_true, and_self, eq_self, Bool.false_eq_true, e6]
    exact Or.inr ⟨c, b1, b2, b3, b4⟩
theorem fail_lv (s : OS) (x : Int32) : fX6_fail (oI s 25 x) = oI (fX6_fail s) 25 x := by
  unfold fX6_fail pX6_fail_0
  have e : (oI s 25 x).1 26 = s.1 26 := rfl
  rw [e]
  by_cases c : s.1 26 = 0
  · rw [if_pos c, if_pos c]
    show oI (oI (oI s 25 x) 26 1) 27 (s.1 23) = oI (oI (oI s 26 1) 27 (s.1 23)) 25 x
    rw [oI_comm s (a := 25) (b := 26) (by decide), oI_comm (oI s 26 1) (a := 25) (b := 27) (by decide)]
  · rw [if_neg c, if_neg c]
theorem fail_25 (s : OS) : (fX6_fail s).1 25 = s.1 25 := by
  unfold fX6_fail pX6_fail_0
  by_cases c : s.1 26 = 0
  · rw [if_pos c]; rfl
  · rw [if_neg c]
/-- not -/
def cN (A : OS → Int32 × OS) (σ : OS) (v b : Int32) : Int32 × OS := if b = 0 then if v = (A (fX6_next σ)).1 then (1, (A (fX6_next σ)).2) else (0, (A (fX6_next σ)).2) else if (A (fX6_next σ)).1 ≤ v then (0, (A (fX6_next σ)).2) else (1, (A (fX6_next σ)).2)
def eN (A : OS → Int32 × OS) (σ : OS) (v : Int32) : Int32 × OS := if σ.2.1 24 = 60 then cN A σ v 1 else cN A σ v 0
def fN (A : OS → Int32 × OS) (v : Int32) (σ : OS) : Int32 × OS := if fX6_isSign σ 60 = 0 then if fX6_isSign σ 61 = 0 then (v, σ) else eN A σ v else eN A σ v
def jN (H : OS → Prop) (σ : OS) : Prop := (σ.2.1 24 = 60 → gX6_next σ ∧ H (fX6_next σ)) ∧ (¬ σ.2.1 24 = 60 → gX6_next σ ∧ H (fX6_next σ))
def hF (H : OS → Prop) (σ : OS) : Prop := (fX6_isSign σ 60 = 0 → (fX6_isSign σ 61 = 0 → True) ∧ (¬ fX6_isSign σ 61 = 0 → jN H σ)) ∧ (¬ fX6_isSign σ 60 = 0 → jN H σ)
def aN (M : OS → Int32 × OS) (A : OS → Int32 × OS) (σ : OS) : Int32 × OS := if fX6_isWord σ 110 111 116 0 0 0 0 0 = 0 then fN A (A σ).1 (A σ).2 else M σ
def hN (HM : OS → Prop) (H : OS → Prop) (A : OS → Int32 × OS) (σ : OS) : Prop := gX6_isWord σ 110 111 116 0 0 0 0 0 ∧ ((fX6_isWord σ 110 111 116 0 0 0 0 0 = 0 → H σ ∧ hF H (A σ).2) ∧ (¬ fX6_isWord σ 110 111 116 0 0 0 0 0 = 0 → HM σ))
def mN (A1 : OS → Int32 × OS) (σ : OS) : Int32 × OS := if (fX6_opens σ).1 = 0 then (0, (fX6_opens σ).2) else if (A1 (fX6_opens σ).2).1 = 0 then (1, oI (A1 (fX6_opens σ).2).2 25 ((A1 (fX6_opens σ).2).2.1 25 - 1)) else (0, oI (A1 (fX6_opens σ).2).2 25 ((A1 (fX6_opens σ).2).2.1 25 - 1))
def kN (H1 : OS → Prop) (σ : OS) : Prop := gX6_opens σ ∧ (((fX6_opens σ).1 = 0 → True) ∧ (¬ (fX6_opens σ).1 = 0 → H1 (fX6_opens σ).2))
theorem nt_not {n : Nat} {B : Nat → Nat} (hn : n ≤ 160) (hB : ∀ i, B i < 256) {f : Nat} (hf : f ≤ 800) {lev : Nat} {G1 G2 : OS → Prop} {F1 F2 : OS → OS} {HM H : OS → Prop} {M A : OS → Int32 × OS} (h : NT n B f lev G2 F2 H A)
    (hm : ∀ ρ σ, Sim n B f lev ρ σ → (ρ.1 10 = -1 → cs ρ ≤ pl ρ) → tk ρ = 5 → (gX0_opens ρ ∧ oX0_readNot_12 F1 F2 G1 G2 (fX0_opens ρ).2 (fX0_opens ρ).1) ∧ HM σ ∧ Post n B f lev ρ σ (pX0_readNot_12 F1 F2 (fX0_opens ρ).2 (fX0_opens ρ).1) (M σ).1 (M σ).2) :
    NT n B f lev (gX0_readNot F1 F2 G1 G2) (fX0_readNot F1 F2) (hN HM H A) (aN M A) := by
  intro ρ σ hs h0
  have hT := hs.1.2.2.2.2
  obtain ⟨g, e⟩ : gX6_isWord σ 110 111 116 0 0 0 0 0 ∧ fX6_isWord σ 110 111 116 0 0 0 0 0 = if tk ρ = 5 then 1 else 0 := hT.2.2.2 5 (by decide)
  unfold gX0_readNot oX0_readNot_0 fX0_readNot pX0_readNot_0 hN aN
  by_cases c : tk ρ = 5
  · obtain ⟨m1, m2, m3⟩ := hm ρ σ hs h0 c
    have e6 : ρ.1 6 = 5 := by rw [hT.1, c]; rfl
    rw [if_pos c] at e
    simp only [↓reduceIte, not_true_eq_false, not_false_eq_true, false_implies, true_implies, implies_true, true_and, and_true, and_self, eq_self, Bool.false_eq_true, e6, e, one_ne, g, m1, m2]
    exact m3
  · have e6 : ¬ ρ.1 6 = 5 := tk_ne hT.1 hT.2.1 (k := 5) (by decide) c
    rw [if_neg c] at e
    obtain ⟨a1, a2, a3⟩ := h ρ σ hs h0
    simp only [↓reduceIte, not_true_eq_false, not_false_eq_true, false_implies, true_implies, implies_true, true_and, and_true, and_self, eq_self, Bool.false_eq_true, e6, e, g, a1, a2]
    unfold hF fN
    generalize hr : F2 ρ = r at *
    generalize hq : A σ = q at *
    have hT2 := a3.1.1.2.2.2.2
    have e1 : fX6_isSign q.2 60 = if tk r = 18 then 1 else 0 := hT2.2.2.1 6 (by decide)
    have e2 : fX6_isSign q.2 61 = if tk r = 19 then 1 else 0 := hT2.2.2.1 7 (by decide)
    unfold oX0_readNot_40 pX0_readNot_40 oX0_readNot_58 pX0_readNot_58 oX0_readNot_67 pX0_readNot_67 oX0_readNot_71 pX0_readNot_71 pX0_readNot_78
    by_cases d1 : tk r = 18
    · have d6 : r.1 6 = 18 := by rw [hT2.1, d1]; rfl
      rw [if_pos d1] at e1
      have hG := a3.1.tok (by omega)
      have w : q.2.2.1 24 = 60 := hG.2.2.2.2.2.2.2.2.2.2.2.2.2 6 (by decide) d1
      obtain ⟨p1, p2, p3, p4, p5, p6, p7⟩ := post_bin hn hB hf h a3 h0 (by omega) (18 ^^^ (-1)) (if (A (fX6_next q.2)).1 ≤ q.1 then 0 else 1) (fun st => ex1_j (tkn := 18) (by decide) (by decide) (by decide) (by decide) (by decide) _ _ st)
      simp only [↓reduceIte, not_true_eq_false, not_false_eq_true, false_implies, true_implies, implies_true, true_and, and_true, and_self, eq_self, Bool.false_eq_true, d6, e1, one_ne, p1, p3, p5]
      unfold jN eN cN
      simp only [↓reduceIte, not_true_eq_false, not_false_eq_true, false_implies, true_implies, implies_true, true_and, and_true, and_self, eq_self, Bool.false_eq_true, w, one_ne, p2, p4]
      by_cases c2 : (A (fX6_next q.2)).1 ≤ q.1
      · simp only [↓reduceIte, not_true_eq_false, not_false_eq_true, false_implies, true_implies, implies_true, true_and, and_true, and_self, eq_self, Bool.false_eq_true, c2] at p6 ⊢
        exact p6
      · simp only [↓reduceIte, not_true_eq_false, not_false_eq_true, false_implies, true_implies, implies_true, true_and, and_true, and_self, eq_self, Bool.false_eq_true, c2] at p6 ⊢
        exact p6
    · have d6 : ¬ r.1 6 = 18 := tk_ne hT2.1 hT2.2.1 (k := 18) (by decide) d1
      rw [if_neg d1] at e1
      by_cases d2 : tk r = 19
      · have d7 : r.1 6 = 19 := by rw [hT2.1, d2]; rfl
        have d8 : ¬ (19 : Int32) = 18 := by decide
        rw [if_pos d2] at e2
        have hG := a3.1.tok (by omega)
        have w : q.2.2.1 24 = 61 := hG.2.2.2.2.2.2.2.2.2.2.2.2.2 7 (by decide) d2
        have w2 : ¬ (61 : Int64) = 60 := by decide
        obtain ⟨p1, p2, p3, p4, p5, p6, p7⟩ := post_bin hn hB hf h a3 h0 (by omega) (19 ^^^ (-1)) (if q.1 = (A (fX6_next q.2)).1 then 1 else 0) (fun st => ex1_j (tkn := 19) (by decide) (by decide) (by decide) (by decide) (by decide) _ _ st)
        simp only [↓reduceIte, not_true_eq_false, not_false_eq_true, false_implies, true_implies, implies_true, true_and, and_true, and_self, eq_self, Bool.false_eq_true, d7, d8, e1, e2, one_ne, p1, p3, p5]
        unfold jN eN cN
        simp only [↓reduceIte, not_true_eq_false, not_false_eq_true, false_implies, true_implies, implies_true, true_and, and_true, and_self, eq_self, Bool.false_eq_true, w, w2, p2, p4]
        by_cases c2 : q.1 = (A (fX6_next q.2)).1
        · simp only [↓reduceIte, not_true_eq_false, not_false_eq_true, false_implies, true_implies, implies_true, true_and, and_true, and_self, eq_self, Bool.false_eq_true, eq_true c2] at p6 ⊢
          exact p6
        · simp only [↓reduceIte, not_true_eq_false, not_false_eq_true, false_implies, true_implies, implies_true, true_and, and_true, and_self, eq_self, Bool.false_eq_true, c2] at p6 ⊢
          exact p6
      · have d7 : ¬ r.1 6 = 19 := tk_ne hT2.1 hT2.2.1 (k := 19) (by decide) d2
        rw [if_neg d2] at e2
        simp only [↓reduceIte, not_true_eq_false, not_false_eq_true, false_implies, true_implies, implies_true, true_and, and_true, and_self, eq_self, Bool.false_eq_true, d6, d7, e1, e2]
        exact a3
theorem not_up {n : Nat} {B : Nat → Nat} (hn : n ≤ 160) (hB : ∀ i, B i < 256) {f : Nat} (hf : f ≤ 800) {lev : Nat} (hl : lev < 5) {G1 G2 : OS → Prop} {F1 F2 : OS → OS} {H1 H : OS → Prop} {A1 A : OS → Int32 × OS} (h1 : NT n B f (lev + 1) G1 F1 H1 A1) (h : NT n B f lev G2 F2 H A) : NT n B f lev (gX0_readNot F1 F2 G1 G2) (fX0_readNot F1 F2) (hN (kN H1) H A) (aN (mN A1) A) := by
  refine nt_not hn hB hf h (fun ρ σ hs h0 ht => ?_)
  obtain ⟨a1, a2, a3, a4, b1, b2, b3, b4⟩ := post_unw hn hB hf hl h1 hs h0 (by omega) (-6) (if (A1 (fX6_opens σ).2).1 = 0 then 1 else 0) (fun st => (ex1_u (by decide) _ st).1 (by decide))
  unfold oX0_readNot_12 pX0_readNot_12 oX0_readNot_19 pX0_readNot_19 pX0_readNot_35 kN mN
  simp only [↓reduceIte, not_true_eq_false, not_false_eq_true, false_implies, true_implies, implies_true, true_and, and_true, and_self, eq_self, Bool.false_eq_true, a3, a4, one_ne, a1, a2, b1, b2, b3]
  by_cases c2 : (A1 (fX6_opens σ).2).1 = 0
  · simp only [↓reduceIte, not_true_eq_false, not_false_eq_true, false_implies, true_implies, implies_true, true_and, and_true, and_self, eq_self, Bool.false_eq_true, c2] at b4 ⊢
    exact b4
  · simp only [↓reduceIte, not_true_eq_false, not_false_eq_true, false_implies, true_implies, implies_true, true_and, and_true, and_self, eq_self, Bool.false_eq_true, c2] at b4 ⊢
    exact b4
theorem not_5 {n : Nat} {B : Nat → Nat} (hn : n ≤ 160) (hB : ∀ i, B i < 256) {f : Nat} (hf : f ≤ 800) {G1 G2 : OS → Prop} {F1 F2 : OS → OS} {H : OS → Prop} {A : OS → Int32 × OS} (h : NT n B f 5 G2 F2 H A) : NT n B f 5 (gX0_readNot F1 F2 G1 G2) (fX0_readNot F1 F2) (hN gX6_opens H A) (aN (fun σ => (0, (fX6_opens σ).2)) A) := by
  refine nt_not hn hB hf h (fun ρ σ hs h0 ht => ?_)
  obtain ⟨a1, a2, a3, a4⟩ := opens_no (hs.tok (by omega))
  obtain ⟨b1, b2, b3, b4⟩ := rfs hn hs
  unfold oX0_readNot_12 pX0_readNot_12 pX0_readNot_35
  simp only [↓reduceIte, not_true_eq_false, not_false_eq_true, false_implies, true_implies, implies_true, true_and, and_true, and_self, eq_self, Bool.false_eq_true, a3, a4, a1, a2]
  exact Post.bad hn b1 b2 b3 (by rw [b4])
end

section
/-! a text read whole, side by side -/
theorem lp_fu {V R : Type} (d : R) (body : (V → R) → V → R) (v : V) : lp d body fu v = body (lp d body 999) v := rfl
theorem lp_s {V R : Type} (d : R) (body : (V → R) → V → R) (k : Nat) (v : V) : lp d body (k + 1) v = body (lp d body k) v := rfl
theorem lpOk_fu {V : Type} (ok : (V → Prop) → V → Prop) {v : V} (h : ok (lpOk ok 999) v) : lpOk ok fu v := h
theorem lpOk_s {V : Type} (ok : (V → Prop) → V → Prop) {k : Nat} {v : V} (h : ok (lpOk ok k) v) : lpOk ok (k + 1) v := h
theorem bad_fail {σ : OS} (h : ¬ σ.1 26 = 0) : fX6_fail σ = σ := by unfold fX6_fail pX6_fail_0; rw [if_neg h]
theorem bad_sign {σ : OS} (h : ¬ σ.1 26 = 0) (c : Int32) : fX6_isSign σ c = 0 := sign_no (fun g => h g.1) c
theorem bad_word {σ : OS} (h : ¬ σ.1 26 = 0) (w : Nat) : fW σ w = 0 := (word_no (fun g => h g.1) w).2
theorem bad_one {σ : OS} (h : ¬ σ.1 26 = 0) (M P : OS → Int32 × OS) : aO M P σ = (0, σ) := by
  unfold aO wO
  simp only [↓reduceIte, not_true_eq_false, not_false_eq_true, false_implies, true_implies, implies_true, true_and, and_true, and_self, eq_self, Bool.false_eq_true, bad_sign h, h, bad_fail h]
theorem bad_T {σ : OS} (h : ¬ σ.1 26 = 0) {A : OS → Int32 × OS} (hA : A σ = (0, σ)) : lp (0, o0) (bT A) fu ((A σ).2, (A σ).1) = (0, σ) := by
  rw [hA]
  refine (lp_fu _ _ _).trans ?_
  unfold bT
  simp only [↓reduceIte, not_true_eq_false, not_false_eq_true, false_implies, true_implies, implies_true, true_and, and_true, and_self, eq_self, Bool.false_eq_true, bad_sign h]
theorem bad_S {σ : OS} (h : ¬ σ.1 26 = 0) {A : OS → Int32 × OS} (hA : A σ = (0, σ)) : lp (0, o0) (bS A) fu ((A σ).2, (A σ).1) = (0, σ) := by
  rw [hA]
  refine (lp_fu _ _ _).trans ?_
  unfold bS
  simp only [↓reduceIte, not_true_eq_false, not_false_eq_true, false_implies, true_implies, implies_true, true_and, and_true, and_self, eq_self, Bool.false_eq_true, bad_sign h]
theorem bad_N {σ : OS} (h : ¬ σ.1 26 = 0) {M A : OS → Int32 × OS} (hA : A σ = (0, σ)) : aN M A σ = (0, σ) := by
  have e : fX6_isWord σ 110 111 116 0 0 0 0 0 = 0 := bad_word h 5
  unfold aN fN
  simp only [↓reduceIte, not_true_eq_false, not_false_eq_true, false_implies, true_implies, implies_true, true_and, and_true, and_self, eq_self, Bool.false_eq_true, e, hA, bad_sign h]
theorem bad_B {σ : OS} (h : ¬ σ.1 26 = 0) {A : OS → Int32 × OS} (hA : A σ = (0, σ)) : lp (0, o0) (bB A) fu ((A σ).2, (A σ).1) = (0, σ) := by
  have e : fX6_isWord σ 97 110 100 0 0 0 0 0 = 0 := bad_word h 4
  rw [hA]
  refine (lp_fu _ _ _).trans ?_
  unfold bB
  simp only [↓reduceIte, not_true_eq_false, not_false_eq_true, false_implies, true_implies, implies_true, true_and, and_true, and_self, eq_self, Bool.false_eq_true, e]
theorem bad_E {σ : OS} (h : ¬ σ.1 26 = 0) {A : OS → Int32 × OS} (hA : A σ = (0, σ)) : lp (0, o0) (bE A) fu ((A σ).2, (A σ).1) = (0, σ) := by
  have e : fX6_isWord σ 111 114 0 0 0 0 0 0 = 0 := bad_word h 3
  rw [hA]
  refine (lp_fu _ _ _).trans ?_
  unfold bE
  simp only [↓reduceIte, not_true_eq_false, not_false_eq_true, false_implies, true_implies, implies_true, true_and, and_true, and_self, eq_self, Bool.false_eq_true, e]
theorem bad_either {σ : OS} (h : ¬ σ.1 26 = 0) : fX6_either0 σ = (0, σ) := by
  have o : fX6_atom0 σ = (0, σ) := bad_one h (mO fX6_atom1) (pO fX6_either1)
  have t : fX6_term0 σ = (0, σ) := bad_T (A := fX6_atom0) h o
  have s : fX6_added0 σ = (0, σ) := bad_S (A := fX6_term0) h t
  have m : fX6_not0 σ = (0, σ) := bad_N (M := mN fX6_not1) (A := fX6_added0) h s
  have b : fX6_both0 σ = (0, σ) := bad_B (A := fX6_not0) h m
  exact bad_E (A := fX6_both0) h b
/-- one of the three parts -/
def P3 (ρ : OS) (j : Nat) : OS := fX0_expect (fX0_readEither_ (fX0_expect ρ (nI j))) 14
def P4 (ρ : OS) (j : Nat) : OS := oS (P3 ρ j) 3 j ((P3 ρ j).1 4)
theorem P4_base {n : Nat} {B : Nat → Nat} {f : Nat} {r σ : OS} (hb : Base n B f r σ) (j : Nat) (x : Int32) : Base n B f (oS r 3 j x) σ := ⟨⟨hb.1.1, hb.1.2⟩, hb.2.1, hb.2.2.1, hb.2.2.2.1, hb.2.2.2.2⟩
theorem P4_good {n lev : Nat} {r σ : OS} (h : Good n lev r σ) (j : Nat) (x : Int32) : Good n lev (oS r 3 j x) σ := h
theorem P4_bad {n : Nat} {r σ : OS} (h : Bad n r σ) (j : Nat) (x : Int32) : Bad n (oS r 3 j x) σ := h
theorem part_sim {n : Nat} {B : Nat → Nat} (hn : n ≤ 160) (hB : ∀ i, B i < 256) {f : Nat} (hf : f ≤ 800) {j : Nat} (hj : j < 3) {ρ σ : OS} (hs : Sim n B f 0 ρ σ) (h0 : ρ.1 10 = -1 → cs ρ ≤ pl ρ) :
    gX0_expect ρ (nI j) ∧ gX0_readEither_ (fX0_expect ρ (nI j)) ∧ gX0_expect (fX0_readEither_ (fX0_expect ρ (nI j))) 14 ∧ gX6_part σ (fW σ j) ∧ (¬ σ.1 26 = 0 → fX6_part σ (fW σ j) = (0, σ)) ∧
    Sim n B f 0 (P4 ρ j) (fX6_part σ (fW σ j)).2 ∧ PF σ (fX6_part σ (fW σ j)).2 ∧
    ((P4 ρ j).1 10 = -1 → Good n 0 ρ σ ∧ cs ρ ≤ cs (P4 ρ j) ∧ cs (P4 ρ j) + 2 + pl ρ ≤ cs ρ + pl (P4 ρ j) ∧ (∀ i, i < cs ρ → (P4 ρ j).2.2.1 2 i = ρ.2.2.1 2 i) ∧ (∀ i, ¬ i = j → (P4 ρ j).2.2.1 3 i = ρ.2.2.1 3 i) ∧ (P4 ρ j).2.2.1 3 j = nI (cs (P4 ρ j)) ∧ Ev (nms σ) ((P4 ρ j).2.2.1 2) (cs ρ) (cs (P4 ρ j)) (fX6_part σ (fW σ j)).1) := by
  have hT := hs.1.2.2.2.2
  have ew := (hT.2.2.2 j (by omega)).2
  obtain ⟨g1, cse⟩ := exp_sim hn hB hf hs (k := j) (by omega)
  have L := (lv_0 (f := f) hn hB hf).2.2
  have hbad : ¬ σ.1 26 = 0 → fX6_part σ (fW σ j) = (0, σ) := by
    intro h26
    rw [bad_word h26]
    unfold fX6_part pX6_part_0 pX6_part_8 pX6_part_19 pX6_part_34 pX6_part_48 pX6_part_59
    simp only [↓reduceIte, not_true_eq_false, not_false_eq_true, false_implies, true_implies, implies_true, true_and, and_true, and_self, eq_self, Bool.false_eq_true, bad_fail h26, h26, bad_sign h26]
  rcases cse with ⟨y0, y1, y2, y3, y4, y5, y6, y7, y8, y9⟩ | ⟨y0, y1, y2, y3, y4⟩
  · rw [if_pos y0] at ew
    have c0 := h0 y4.1
    obtain ⟨b1, b2, s1, p1, r3, hg⟩ := L (fX0_expect ρ (nI j)) (fX6_next σ) ⟨y3, Or.inr y5⟩ (fun _ => by omega)
    have b1 : gX0_readEither_ (fX0_expect ρ (nI j)) := b1
    unfold P4 P3
    have eR : (rdF 6).2.2 (fX0_expect ρ (nI j)) = fX0_readEither_ (fX0_expect ρ (nI j)) := rfl
    rw [eR] at s1 r3 hg
    generalize hP2 : fX0_readEither_ (fX0_expect ρ (nI j)) = r at *
    have es : fX6_isSign (fX6_either0 (fX6_next σ)).2 59 = if tk r = 14 then 1 else 0 := s1.1.2.2.2.2.2.2.1 2 (by decide)
    obtain ⟨x1, x2⟩ := exp_sim hn hB hf s1 (k := 14) (by decide)
    have x1 : gX0_expect r 14 := x1
    refine ⟨g1, b1, x1, ?_⟩
    rw [ew] at hbad ⊢
    have n26 : (fX6_next σ).1 26 = 0 := y5.2.1
    generalize hq : fX6_either0 (fX6_next σ) = q at *
    rcases x2 with ⟨z0, z1, z2, z3, z4, z5, z6, z7, z8, z9⟩ | ⟨z0, z1, z2, z3, z4⟩
    · rw [if_pos z0] at es
      have eP : fX6_part σ 1 = (q.1, fX6_next q.2) := by
        unfold fX6_part pX6_part_0 pX6_part_8 pX6_part_19 pX6_part_34 pX6_part_48 pX6_part_59
        simp only [↓reduceIte, not_true_eq_false, not_false_eq_true, false_implies, true_implies, implies_true, true_and, and_true, and_self, eq_self, Bool.false_eq_true, one_ne, y2, n26, hq, es, z2]
      have gP : gX6_part σ 1 := by
        unfold gX6_part oX6_part_0 oX6_part_8 oX6_part_19 oX6_part_34 oX6_part_48
        simp only [↓reduceIte, not_true_eq_false, not_false_eq_true, false_implies, true_implies, implies_true, true_and, and_true, and_self, eq_self, Bool.false_eq_true, one_ne, y2, n26, hq, es, z2, y1, b2, z1]
      rw [eP] at hbad ⊢
      have z3 : Base n B f (fX0_expect r 14) (fX6_next q.2) := z3
      have z5 : Good n 0 (fX0_expect r 14) (fX6_next q.2) := z5
      have z6 : pl r < pl (fX0_expect r 14) := z6
      have z7 : cs (fX0_expect r 14) = cs r := z7
      have z8 : (fX0_expect r 14).2 = r.2 := z8
      refine ⟨gP, hbad, ⟨P4_base z3 _ _, Or.inr (P4_good z5 _ _)⟩, (y9.trans p1).trans z9, fun _ => ?_⟩
      obtain ⟨g1, g2, g3, g4, g5⟩ := hg z4.1
      rw [y7] at g2 g3 g4 g5
      have t1 : cs (oS (fX0_expect r 14) 3 j ((fX0_expect r 14).1 4)) = cs r := z7
      have t2 : pl (oS (fX0_expect r 14) 3 j ((fX0_expect r 14).1 4)) = pl (fX0_expect r 14) := rfl
      have t3 : (oS (fX0_expect r 14) 3 j ((fX0_expect r 14).1 4)).2.2.1 2 = r.2.2.1 2 := by
        show (fX0_expect r 14).2.2.1 2 = _
        rw [z8]
      rw [t1, t2, t3]
      refine ⟨y4, by omega, by omega, fun i hi => (g4 i hi).trans (by rw [y8]), fun i hi => ?_, ?_, g5.nm (fun i hi => (y9.nm i hi).symm)⟩
      · show (va_up (fX0_expect r 14).2.2.1 3 (upd ((fX0_expect r 14).2.2.1 3) j ((fX0_expect r 14).1 4))) 3 i = _
        rw [up_s, ud_n _ _ hi, z8, r3, y8]
      · show (va_up (fX0_expect r 14).2.2.1 3 (upd ((fX0_expect r 14).2.2.1 3) j ((fX0_expect r 14).1 4))) 3 j = _
        rw [up_s, ud_s, z3.2.2.1, z7]
    · rw [if_neg z0] at es
      have k1 : ¬ (fX6_fail q.2).1 26 = 0 := by rw [z2.2.1]; exact one_ne
      have eP : fX6_part σ 1 = (q.1, fX6_fail q.2) := by
        unfold fX6_part pX6_part_0 pX6_part_8 pX6_part_19 pX6_part_34 pX6_part_48 pX6_part_59
        simp only [↓reduceIte, not_true_eq_false, not_false_eq_true, false_implies, true_implies, implies_true, true_and, and_true, and_self, eq_self, Bool.false_eq_true, one_ne, y2, n26, hq, es, k1]
      have gP : gX6_part σ 1 := by
        unfold gX6_part oX6_part_0 oX6_part_8 oX6_part_19 oX6_part_34 oX6_part_48
        simp only [↓reduceIte, not_true_eq_false, not_false_eq_true, false_implies, true_implies, implies_true, true_and, and_true, and_self, eq_self, Bool.false_eq_true, one_ne, y2, n26, hq, es, k1, y1, b2]
      rw [eP] at hbad ⊢
      have z1 : Base n B f (fX0_expect r 14) (fX6_fail q.2) := z1
      have z2 : Bad n (fX0_expect r 14) (fX6_fail q.2) := z2
      exact ⟨gP, hbad, ⟨P4_base z1 _ _, Or.inl (P4_bad z2 _ _)⟩, (y9.trans p1).trans z3, fun h10 => absurd h10 (z2.no hn)⟩
  · rw [if_neg y0] at ew
    have k26 : ¬ (fX6_fail σ).1 26 = 0 := by rw [y2.2.1]; exact one_ne
    obtain ⟨b1, b2, s1, p1, r3, hg⟩ := L (fX0_expect ρ (nI j)) (fX6_fail σ) ⟨y1, Or.inl y2⟩ (fun h => absurd h (y2.no hn))
    have b1 : gX0_readEither_ (fX0_expect ρ (nI j)) := b1
    rw [bad_either k26] at s1 p1
    unfold P4 P3
    have eR : (rdF 6).2.2 (fX0_expect ρ (nI j)) = fX0_readEither_ (fX0_expect ρ (nI j)) := rfl
    rw [eR] at s1 r3 hg
    generalize hP2 : fX0_readEither_ (fX0_expect ρ (nI j)) = r at *
    have s1 : Sim n B f 0 r (fX6_fail σ) := s1
    have hB2 : Bad n r (fX6_fail σ) := s1.2.resolve_right (fun g => k26 g.2.1)
    obtain ⟨x1, x2⟩ := exp_sim hn hB hf s1 (k := 14) (by decide)
    have x1 : gX0_expect r 14 := x1
    rcases x2 with ⟨z0, _⟩ | ⟨z0, z1, z2, z3, z4⟩
    · have := hB2.1; omega
    · rw [bad_fail k26] at z1 z2
      have z1 : Base n B f (fX0_expect r 14) (fX6_fail σ) := z1
      have z2 : Bad n (fX0_expect r 14) (fX6_fail σ) := z2
      have eP : fX6_part σ 0 = (0, fX6_fail σ) := by
        unfold fX6_part pX6_part_0 pX6_part_8 pX6_part_19 pX6_part_34 pX6_part_48 pX6_part_59
        simp only [↓reduceIte, not_true_eq_false, not_false_eq_true, false_implies, true_implies, implies_true, true_and, and_true, and_self, eq_self, Bool.false_eq_true, k26, bad_sign k26, bad_fail k26]
      have gP : gX6_part σ 0 := by
        unfold gX6_part oX6_part_0 oX6_part_8 oX6_part_19 oX6_part_34 oX6_part_48
        simp only [↓reduceIte, not_true_eq_false, not_false_eq_true, false_implies, true_implies, implies_true, true_and, and_true, and_self, eq_self, Bool.false_eq_true, k26, bad_sign k26, bad_fail k26]
      rw [ew] at hbad ⊢
      refine ⟨g1, b1, x1, gP, hbad, ?_⟩
      rw [eP]
      exact ⟨⟨P4_base z1 _ _, Or.inl (P4_bad z2 _ _)⟩, y3, fun h10 => absurd h10 (z2.no hn)⟩
theorem read_turn (kR : OS × Int32 → Int32 × OS) (kO : OS × Int32 → Prop) {ρ : OS} {j : Nat} (hj : j < 3) (g1 : gX0_expect ρ (nI j)) (g2 : gX0_readEither_ (fX0_expect ρ (nI j))) (g3 : gX0_expect (fX0_readEither_ (fX0_expect ρ (nI j))) 14) (hk : kO (P4 ρ j, nI (j + 1))) : kX0_read_26 kO (ρ, nI j) ∧ bX0_read_26 kR (ρ, nI j) = kR (P4 ρ j, nI (j + 1)) := by
  have c : ¬ (3 : Int32) ≤ nI j := nI_ge (b := 3) hj (by decide)
  have e : (0 : Int32) + nI j = nI j := by rw [show (0 : Int32) = nI 0 from rfl, nI_add, Nat.zero_add]
  unfold kX0_read_26 bX0_read_26 oX0_read_38 pX0_read_38 oX0_read_42 pX0_read_42 oX0_read_48 pX0_read_48
  simp only [↓reduceIte, not_true_eq_false, not_false_eq_true, false_implies, true_implies, implies_true, true_and, and_true, and_self, eq_self, Bool.false_eq_true, c, e, nI_clamp (show j < 2 ^ 31 by omega), nI_1, g1, g2, g3]
  exact ⟨⟨vp_in_nI hj (by decide), hk⟩, rfl⟩
/-- what reading a text leaves of the reference -/
def QF (σ r : OS) : Prop := (∀ j, ¬ (19 ≤ j ∧ j ≤ 27) → r.1 j = σ.1 j) ∧ (∀ j, ¬ j = 24 → r.2.1 j = σ.2.1 j) ∧ r.2.2 = σ.2.2
theorem PF.qf {σ r : OS} (h : PF σ r) : QF σ r := ⟨fun j hj => h.1 j (by omega), h.2⟩
theorem QF.trans {σ r s : OS} (h : QF σ r) (k : QF r s) : QF σ s := ⟨fun j a => (k.1 j a).trans (h.1 j a), fun j a => (k.2.1 j a).trans (h.2.1 j a), k.2.2.trans h.2.2⟩
theorem QF.put {σ r : OS} (h : QF σ r) {j : Nat} (hj : 19 ≤ j ∧ j ≤ 27) (x : Int32) : QF σ (oI r j x) := ⟨fun i hi => by rw [oI_n _ _ (by omega)]; exact h.1 i hi, h.2⟩
theorem QF.rfl' (σ : OS) : QF σ σ := ⟨fun _ _ => rfl, fun _ _ => rfl, rfl⟩
/-- a text as it was read: its size, its items, its three ends, what these say -/
def TV (N c e : Nat → Int32) (nc : Nat) (v : Nat → Int32) : Prop := ∃ c0 c1, c0 ≤ c1 ∧ c1 ≤ nc ∧ e 0 = nI c0 ∧ e 1 = nI c1 ∧ e 2 = nI nc ∧ Ev N c 0 c0 (v 0) ∧ Ev N c c0 c1 (v 1) ∧ Ev N c c1 nc (v 2)
def pick3 (v : Nat → Int32) (w : Int32) : Int32 := if w = 0 then v 0 else if w = 1 then v 1 else v 2
theorem read_sim {n : Nat} {B : Nat → Nat} (hn : n ≤ 160) (hB : ∀ i, B i < 256) {t : Nat} (ht : t < 6) {ρ σ : OS} (hR : Rst n B ρ) (h2 : σ.2.2.1 2 t = nI n) (h1 : ∀ i, i < n → σ.2.2.1 1 (160 * t + i) = nI (B i)) :
    gX0_read ρ ∧ (fX0_read ρ).2.1 0 = 0 ∧ ∃ (v : Nat → Int32) (s : OS), (∀ w, gX6_read σ (nI t) w ∧ fX6_read σ (nI t) w = (pick3 v w, s)) ∧ QF σ s ∧
      (((fX0_read ρ).1 = -1 ∧ s.1 26 = 0 ∧ ∃ nc, nc < 160 ∧ (fX0_read ρ).2.1 4 = nI nc ∧ TV (nms σ) ((fX0_read ρ).2.2.2.1 2) ((fX0_read ρ).2.2.2.1 3) nc v) ∨
       (∃ p, p ≤ n ∧ (fX0_read ρ).1 = nI p ∧ s.1 26 = 1 ∧ s.1 27 = nI p)) := by
  have e160 : 160 * nI t = nI (160 * t) := by rw [show (160 : Int32) = nI 160 from rfl, nI_mul]
  -- the start
  generalize hρ0 : oI (oI (oI (oI ρ 4 0) 5 0) 9 0) 10 (-1) = ρ0
  generalize hσ0 : oI (oI (oI (oI (oI σ 19 (nI (160 * t))) 20 (nI n)) 21 0) 25 0) 26 0 = σ0
  have q0 : QF σ σ0 := by
    rw [← hσ0]
    exact (((((QF.rfl' σ).put (j := 19) (by omega) _).put (j := 20) (by omega) _).put (j := 21) (by omega) _).put (j := 25) (by omega) _).put (j := 26) (by omega) _
  obtain ⟨a1, a2, a3, a4, a5, a6, a7⟩ := adv (lev := 0) (h := 0) (ρ := ρ0) (σ := σ0) (f := 160 * t) hn hB (by omega) (by rw [← hρ0]; exact ⟨hR.1, hR.2⟩) (by rw [← hσ0]; exact ⟨rfl, rfl, h1⟩) (by rw [← hρ0]; rfl) (by rw [← hρ0]; exact Nat.zero_le _) (by rw [← hρ0]; rfl) (by rw [← hσ0]; rfl) (by rw [← hρ0]; rfl) (by rw [← hσ0]; rfl) (by rw [← hρ0]; rfl) (by rw [← hσ0]; rfl) (Nat.zero_le _)
  have cs0 : cs (fX0_step ρ0) = 0 := by rw [a6.cs, ← hρ0]; rfl
  obtain ⟨b1, b2, b3, b4, b5, b6, b7, b8⟩ := part_sim hn hB (by omega) (j := 0) (by decide) ⟨a3, Or.inr a4⟩ (fun _ => by omega)
  generalize hρ1 : fX0_step ρ0 = ρ1 at *
  generalize hσ1 : fX6_next σ0 = σ1 at *
  obtain ⟨c1, c2, c3, c4, c5, c6, c7, c8⟩ := part_sim hn hB (by omega) (j := 1) (by decide) b6 (fun h10 => by have := b8 h10; omega)
  generalize hX1 : fX6_part σ1 (fW σ1 0) = X1 at *
  generalize hρ2 : P4 ρ1 0 = ρ2 at *
  obtain ⟨d1, d2, d3, d4, d5, d6, d7, d8⟩ := part_sim hn hB (by omega) (j := 2) (by decide) c6 (fun h10 => by
    have := c8 h10
    have := b8 this.1.1
    omega)
  generalize hX2 : fX6_part X1.2 (fW X1.2 1) = X2 at *
  generalize hρ3 : P4 ρ2 1 = ρ3 at *
  generalize hX3 : fX6_part X2.2 (fW X2.2 2) = X3 at *
  generalize hρ4 : P4 ρ3 2 = ρ4 at *
  -- the class's last token
  have hT := d6.1.2.2.2.2
  have last : gX0_expect ρ4 21 ∧ (fX0_expect ρ4 21).2 = ρ4.2 ∧ cs (fX0_expect ρ4 21) = cs ρ4 ∧ (fX0_expect ρ4 21).1 4 = ρ4.1 4 ∧ ((tk ρ4 = 21 ∧ (fX0_expect ρ4 21).1 10 = -1 ∧ Good n 0 ρ4 X3.2) ∨ (¬ tk ρ4 = 21 ∧ Bad n (fX0_expect ρ4 21) (fX6_fail X3.2) ∧ PF X3.2 (fX6_fail X3.2))) := by
    unfold gX0_expect oX0_expect_0 fX0_expect pX0_expect_0 pX0_expect_12 pX0_expect_19
    by_cases c : tk ρ4 = 21
    · have e6 : ρ4.1 6 = 21 := by rw [hT.1, c]; rfl
      have hG := d6.tok (by omega)
      obtain ⟨e, h5, h21, z1, z2⟩ := hG.2.2.2.2.2.2.2.1 (by omega)
      obtain ⟨g1, rf, _⟩ := step_eq hn hB d6.1.1 h5 hG.1 z2
      simp only [↓reduceIte, not_true_eq_false, not_false_eq_true, false_implies, true_implies, implies_true, true_and, and_true, and_self, eq_self, Bool.false_eq_true, e6, g1]
      exact ⟨rf.2, rf.cs, rf.1 4 (by decide) (by decide) (by decide) (by decide), Or.inl ⟨c, (rf.1 10 (by decide) (by decide) (by decide) (by decide)).trans hG.1, hG⟩⟩
    · have e6 : ¬ ρ4.1 6 = 21 := tk_ne hT.1 hT.2.1 (k := 21) (by decide) c
      obtain ⟨x1, x2, x3, x4⟩ := rfs hn d6
      have x5 : (fX0_refuse ρ4).1 4 = ρ4.1 4 := by
        unfold fX0_refuse pX0_refuse_0 pX0_refuse_16
        by_cases z : ρ4.1 10 = -1
        · rw [if_pos z]; rfl
        · rw [if_neg z]; rfl
      simp only [↓reduceIte, not_true_eq_false, not_false_eq_true, false_implies, true_implies, implies_true, true_and, and_true, and_self, eq_self, Bool.false_eq_true, e6]
      exact ⟨x4, by unfold cs; rw [x5], x5, Or.inr ⟨c, x2, x3⟩⟩
  obtain ⟨l1, l2, l3, l4, l5⟩ := last
  -- the class's reading
  have eC : fX0_read ρ = ((fX0_expect ρ4 21).1 10, oI (fX0_expect ρ4 21) 0 0) := by
    unfold fX0_read pX0_read_0
    rw [hρ0, hρ1]
    unfold pX0_read_24
    refine (lp_fu _ _ _).trans ?_
    refine ((read_turn (lp (0, o0) bX0_read_26 999) (fun _ => True) (j := 0) (by decide) b1 b2 b3 trivial).2).trans ?_
    rw [hρ2]
    refine (lp_s _ _ 998 _).trans ?_
    refine ((read_turn (lp (0, o0) bX0_read_26 998) (fun _ => True) (j := 1) (by decide) c1 c2 c3 trivial).2).trans ?_
    rw [hρ3]
    refine (lp_s _ _ 997 _).trans ?_
    refine ((read_turn (lp (0, o0) bX0_read_26 997) (fun _ => True) (j := 2) (by decide) d1 d2 d3 trivial).2).trans ?_
    rw [hρ4]
    refine (lp_s _ _ 996 _).trans ?_
    unfold bX0_read_26 pX0_read_70
    rw [if_pos (show (3 : Int32) ≤ nI (2 + 1) by decide)]
    rfl
  have gC : gX0_read ρ := by
    unfold gX0_read oX0_read_0
    rw [hρ0, hρ1]
    refine ⟨a1, ?_⟩
    unfold oX0_read_24
    refine lpOk_fu _ ?_
    refine (read_turn (fun _ => (0, o0)) (lpOk kX0_read_26 999) (j := 0) (by decide) b1 b2 b3 ?_).1
    rw [hρ2]
    refine lpOk_s (k := 998) _ ?_
    refine (read_turn (fun _ => (0, o0)) (lpOk kX0_read_26 998) (j := 1) (by decide) c1 c2 c3 ?_).1
    rw [hρ3]
    refine lpOk_s (k := 997) _ ?_
    refine (read_turn (fun _ => (0, o0)) (lpOk kX0_read_26 997) (j := 2) (by decide) d1 d2 d3 ?_).1
    rw [hρ4]
    refine lpOk_s (k := 996) _ ?_
    exact ⟨fun _ => l1, fun h => absurd (show (3 : Int32) ≤ nI (2 + 1) by decide) h⟩
  -- the reference's reading
  have e10 : fX6_part σ1 (fX6_isWord σ1 104 111 108 100 115 0 0 0) = X1 := hX1
  have e11 : fX6_part X1.2 (fX6_isWord X1.2 102 97 100 101 115 0 0 0) = X2 := hX2
  have e12 : fX6_part X2.2 (fX6_isWord X2.2 99 111 115 116 115 0 0 0) = X3 := hX3
  have k0 : gX6_isWord σ1 104 111 108 100 115 0 0 0 := (a3.2.2.2.2.2.2.2 0 (by decide)).1
  have k1 : gX6_isWord X1.2 102 97 100 101 115 0 0 0 := (b6.1.2.2.2.2.2.2.2 1 (by decide)).1
  have k2 : gX6_isWord X2.2 99 111 115 116 115 0 0 0 := (c6.1.2.2.2.2.2.2.2 2 (by decide)).1
  have m0 : gX6_part σ1 (fX6_isWord σ1 104 111 108 100 115 0 0 0) := b4
  have m1 : gX6_part X1.2 (fX6_isWord X1.2 102 97 100 101 115 0 0 0) := c4
  have m2 : gX6_part X2.2 (fX6_isWord X2.2 99 111 115 116 115 0 0 0) := d4
  have eR : ∀ w, gX6_read σ (nI t) w ∧ fX6_read σ (nI t) w = pX6_read_126 X3.2 w X1.1 X2.1 X3.1 := by
    intro w
    have es : oI (oI (oI (oI (oI σ 19 (160 * nI t)) 20 ((oI σ 19 (160 * nI t)).2.2.1 2 (nI t).toNatClampNeg)) 21 0) 25 0) 26 0 = σ0 := by
      rw [← hσ0, e160, nI_clamp (by omega)]
      show oI (oI (oI (oI (oI σ 19 (nI (160 * t))) 20 (σ.2.2.1 2 t)) 21 0) 25 0) 26 0 = _
      rw [h2]
    have f2 : pX6_read_92 X2.2 w X1.1 X2.1 = pX6_read_126 X3.2 w X1.1 X2.1 X3.1 ∧ oX6_read_92 X2.2 w X1.1 X2.1 := by
      unfold pX6_read_92 oX6_read_92
      rw [e12]
      by_cases z : X2.2.1 26 = 0
      · rw [if_pos z]; exact ⟨rfl, fun _ => ⟨k2, m2⟩, fun h => absurd z h⟩
      · rw [if_neg z, d5 z]; exact ⟨rfl, fun h => absurd h z, fun _ => trivial⟩
    have f1 : pX6_read_59 X1.2 w X1.1 = pX6_read_126 X3.2 w X1.1 X2.1 X3.1 ∧ oX6_read_59 X1.2 w X1.1 := by
      unfold pX6_read_59 oX6_read_59
      rw [e11]
      by_cases z : X1.2.1 26 = 0
      · rw [if_pos z]; exact ⟨f2.1, fun _ => ⟨k1, m1, f2.2⟩, fun h => absurd z h⟩
      · have e := c5 z
        have e1 : X2.1 = 0 := by rw [e]
        have e2 : X2.2 = X1.2 := by rw [e]
        rw [e1, e2] at f2
        rw [if_neg z, e1]
        exact ⟨f2.1, fun h => absurd h z, fun _ => f2.2⟩
    unfold gX6_read oX6_read_0 fX6_read pX6_read_0 pX6_read_38 oX6_read_38
    rw [es, hσ1, e10]
    exact ⟨⟨vp_in_nI ht (by decide), a2, k0, m0, f1.2⟩, f1.1⟩
  refine ⟨gC, by rw [eC]; rfl, ?_⟩
  rw [eC]
  have qX : QF σ X3.2 := q0.trans (a7.pf.qf.trans (b7.qf.trans (c7.qf.trans d7.qf)))
  have fin : ∀ s, (∀ w, pX6_read_126 X3.2 w X1.1 X2.1 X3.1 = pX6_read_146 s w X1.1 X2.1 X3.1) → ∀ w, gX6_read σ (nI t) w ∧ fX6_read σ (nI t) w = (pick3 (fun i => if i = 0 then X1.1 else if i = 1 then X2.1 else X3.1) w, s) := by
    intro s hs w
    refine ⟨(eR w).1, ?_⟩
    rw [(eR w).2, hs w]
    unfold pX6_read_146 pick3
    by_cases w0 : w = 0
    · rw [if_pos w0, if_pos w0]; rfl
    · rw [if_neg w0, if_neg w0]
      by_cases w1 : w = 1
      · rw [if_pos w1, if_pos w1]; rfl
      · rw [if_neg w1, if_neg w1]; rfl
  rcases l5 with ⟨t21, f10, hG⟩ | ⟨t21, hBd, hPf⟩
  · have s22 : X3.2.1 22 = 0 := hG.2.2.2.2.2.2.2.2.2.2.1.mpr t21
    refine ⟨_, X3.2, fin X3.2 (fun w => by unfold pX6_read_126; simp only [↓reduceIte, not_true_eq_false, not_false_eq_true, false_implies, true_implies, implies_true, true_and, and_true, and_self, eq_self, Bool.false_eq_true, hG.2.1, s22]), qX, Or.inl ⟨f10, hG.2.1, cs ρ4, ?_⟩⟩
    obtain ⟨u1, u2, u3, u4, u5, u6, u7⟩ := d8 hG.1
    obtain ⟨w1, w2, w3, w4, w5, w6, w7⟩ := c8 u1.1
    obtain ⟨y1, y2, y3, y4, y5, y6, y7⟩ := b8 w1.1
    have hpl := hG.2.2.2.2.1
    refine ⟨by omega, ?_, ?_⟩
    · show (fX0_expect ρ4 21).1 4 = _
      rw [l4]; exact d6.1.2.2.1
    · show TV (nms σ) ((fX0_expect ρ4 21).2.2.1 2) ((fX0_expect ρ4 21).2.2.1 3) (cs ρ4) _
      rw [l2]
      have N0 : ∀ j, j < 6 → nms σ j = nms σ1 j := fun j hj => ((q0.trans a7.pf.qf).1 (13 + j) (by omega)).symm
      have N1 : ∀ j, j < 6 → nms σ j = nms X1.2 j := fun j hj => (N0 j hj).trans (b7.nm j hj).symm
      have N2 : ∀ j, j < 6 → nms σ j = nms X2.2 j := fun j hj => (N1 j hj).trans (c7.nm j hj).symm
      rw [cs0] at y7
      refine ⟨cs ρ2, cs ρ3, by omega, by omega, ?_, ?_, u6, ?_, ?_, ?_⟩
      · rw [u5 0 (by decide), w5 0 (by decide)]; exact y6
      · rw [u5 1 (by decide)]; exact w6
      · exact (y7.cong (fun i _ hi => (u4 i (by omega)).trans (w4 i hi))).nm N0
      · exact (w7.cong (fun i _ hi => u4 i hi)).nm N1
      · exact u7.nm N2
  · obtain ⟨_, f26, p, hp, p1, p2⟩ := hBd
    refine ⟨_, fX6_fail X3.2, fin (fX6_fail X3.2) (fun w => ?_), qX.trans hPf.qf, Or.inr ⟨p, hp, p1, f26, p2⟩⟩
    unfold pX6_read_126
    by_cases z : X3.2.1 26 = 0
    · have hG : Good n 0 ρ4 X3.2 := d6.2.resolve_left (fun b => by have := b.2.1; rw [z] at this; exact absurd this (by decide))
      have s22 : ¬ X3.2.1 22 = 0 := fun h => t21 (hG.2.2.2.2.2.2.2.2.2.2.1.mp h)
      simp only [↓reduceIte, not_true_eq_false, not_false_eq_true, false_implies, true_implies, implies_true, true_and, and_true, and_self, eq_self, Bool.false_eq_true, z, s22]
    · rw [bad_fail z]
      simp only [↓reduceIte, not_true_eq_false, not_false_eq_true, false_implies, true_implies, implies_true, true_and, and_true, and_self, eq_self, Bool.false_eq_true, z]
end

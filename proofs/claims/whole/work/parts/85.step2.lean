section
/-! steps: what changes the world -/
theorem ps_count : PS_count Rel := by
  intro τ ξ σ x h
  obtain ⟨m, y, hy, hw⟩ := h.1
  obtain ⟨s1, s2, s3, s4, s5, s6, s7, s8⟩ := hw.sets
  obtain ⟨c1, c2⟩ := cu4_eq hw.1 hw.2.1.1
  obtain ⟨q, hq, q1, q2⟩ := hw.2.2.2.1
  obtain ⟨r, hr, r1, r2⟩ := hw.2.2.2.2.1
  obtain ⟨n, B, hn, hB, hR, t1, t2⟩ := h.2.2.2.1
  unfold gX5_count oX5_count_0 fX5_count pX5_count_0 gX6_count oX6_count_0 fX6_count pX6_count_0
  rw [s6, c2, uni_cong hw.2.2.2.2.2.2.2.1, hw.2.1.1, hw.2.1.2, q1, q2, r1, r2, h.2.2.1, h.2.1.2.1, hR.1, t1, (bitsOf_eq _).1]
  rcases wic x (m := 5) (by decide) with ⟨a, b⟩ | ⟨a, b, j, hj, rfl⟩
  · have b : fX6_in x.toInt64 0 5 = 0 := b
    have a : fX5_within x (nI 5) = 0 := a
    have ne : ∀ j, j ≤ 5 → ¬ x = nI j := fun j hj e => by rw [e, wi_in hj (by decide)] at a; exact one_ne a
    have n0 : ¬ x = 0 := ne 0 (by decide)
    have n1 : ¬ x = 1 := ne 1 (by decide)
    have n2 : ¬ x = 2 := ne 2 (by decide)
    have n3 : ¬ x = 3 := ne 3 (by decide)
    have n4 : ¬ x = 4 := ne 4 (by decide)
    have n5 : ¬ x = 5 := ne 5 (by decide)
    simp only [↓reduceIte, not_true_eq_false, not_false_eq_true, false_implies, true_implies, implies_true, true_and, and_true, and_self, eq_self, Bool.false_eq_true, b, n0, n1, n2, n3, n4, n5]
    exact h
  · have b : fX6_in (nI j).toInt64 0 5 = 1 := b
    rcases (by omega : j = 0 ∨ j = 1 ∨ j = 2 ∨ j = 3 ∨ j = 4 ∨ j = 5) with rfl | rfl | rfl | rfl | rfl | rfl
    all_goals
      simp only [↓reduceIte, not_true_eq_false, not_false_eq_true, false_implies, true_implies, implies_true, true_and, and_true, and_self, eq_self, Bool.false_eq_true, b, one_ne, kne_0_1, kne_0_2, kne_0_3, kne_0_4, kne_0_5, kne_0_6, kne_1_0, kne_1_2, kne_1_3, kne_1_4, kne_1_5, kne_1_6, kne_2_0, kne_2_1, kne_2_3, kne_2_4, kne_2_5, kne_2_6, kne_3_0, kne_3_1, kne_3_2, kne_3_4, kne_3_5, kne_3_6, kne_4_0, kne_4_1, kne_4_2, kne_4_3, kne_4_5, kne_4_6, kne_5_0, kne_5_1, kne_5_2, kne_5_3, kne_5_4, kne_5_6, kne_6_0, kne_6_1, kne_6_2, kne_6_3, kne_6_4, kne_6_5, keq_0, keq_1, keq_2, keq_3, keq_4, keq_5, keq_6, c1, s2, (bitsOf_eq _).2]
      exact h
theorem taken_k : ∀ k, k < 6 → ∀ j, j < 6 → gX5_isUnder (nI k) (nI j) ∧ (fX5_isUnder (nI k) (nI j) = 0 ∨ fX5_isUnder (nI k) (nI j) = 1) := by
  intro k hk j hj
  refine lp_one (d := (0 : Int32)) (body := bX5_isUnder_4 (nI j)) (ok := kX5_isUnder_4 (nI j)) (fun n v => ∃ t z, v = (z, nI t) ∧ t + n = 6) (fun r => r = 0 ∨ r = 1) ?_ fu 6 (nI k, 0) ⟨0, _, rfl, by omega⟩ (by decide)
  rintro n v ⟨t, z, rfl, ht⟩ kR kO hh
  unfold bX5_isUnder_4 kX5_isUnder_4
  simp only [nI_1]
  have gk : gX5_isKind z := wi_nb _ _
  by_cases e0 : t < 6
  · have c1 : ¬ (6 : Int32) ≤ nI t := nI_ge (b := 6) e0 (by decide)
    rcases wi_cases z (m := 5) (by decide) with a | ⟨a, i, hi, rfl⟩
    · have a : fX5_isKind z = 0 := a
      simp only [↓reduceIte, not_true_eq_false, not_false_eq_true, false_implies, true_implies, implies_true, true_and, and_true, and_self, eq_self, Bool.false_eq_true, c1, gk, a]
      exact Or.inl trivial
    · have a : fX5_isKind (nI i) = 1 := a
      have vi : vp_in (nI i) 6 := vp_in_nI (by omega) (by decide)
      by_cases e : nI i = nI j
      · simp only [↓reduceIte, not_true_eq_false, not_false_eq_true, false_implies, true_implies, implies_true, true_and, and_true, and_self, eq_self, Bool.false_eq_true, c1, gk, a, one_ne, eq_true e]
        exact Or.inr trivial
      · simp only [↓reduceIte, not_true_eq_false, not_false_eq_true, false_implies, true_implies, implies_true, true_and, and_true, and_self, eq_self, Bool.false_eq_true, c1, gk, a, one_ne, e, vi]
        exact hh (n - 1) _ (by omega) ⟨t + 1, _, rfl, by omega⟩
  · have c1 : (6 : Int32) ≤ nI t := nI_le (a := 6) (by omega) (by omega)
    simp only [↓reduceIte, not_true_eq_false, not_false_eq_true, false_implies, true_implies, implies_true, true_and, and_true, and_self, eq_self, Bool.false_eq_true, c1]
    exact Or.inl trivial
/-- the way up from a kind -/
def upk (k : Nat) : Option Nat := if k = 0 then none else if k = 3 then some 1 else if k = 4 then some 2 else some 0
theorem under_k : ∀ k, k < 6 → ∀ j, j < 6 → (fX5_isUnder (nI k) (nI j) = 1 ↔ (k = j ∨ (j = 0) ∨ (k = 3 ∧ j = 1) ∨ (k = 4 ∧ j = 2))) := by decide +kernel
theorem ps_taken : PS_taken Rel := by
  intro τ ξ σ x z h
  obtain ⟨m, y, hy, hw⟩ := h.1
  obtain ⟨g, ho⟩ := onec (τ := τ) hw.1 hw.2.1.1 hw.2.1.2 x
  have gk : gX5_isKind z := wi_nb _ _
  unfold gX5_taken oX5_taken_0 fX5_taken pX5_taken_0 gX6_taken oX6_taken_0 fX6_taken pX6_taken_0
  rcases wic z (m := 5) (by decide) with ⟨a, b⟩ | ⟨a, b, j, hj, rfl⟩
  · have a : fX5_isKind z = 0 := a
    have b : fX6_in z.toInt64 0 5 = 0 := b
    simp only [↓reduceIte, not_true_eq_false, not_false_eq_true, false_implies, true_implies, implies_true, true_and, and_true, and_self, eq_self, Bool.false_eq_true, gk, a, b]
    exact h
  · have a : fX5_isKind (nI j) = 1 := a
    have b : fX6_in (nI j).toInt64 0 5 = 1 := b
    rcases ho with ⟨o1, o2⟩ | ⟨o1, o2, p, hp, rfl⟩
    · simp only [↓reduceIte, not_true_eq_false, not_false_eq_true, false_implies, true_implies, implies_true, true_and, and_true, and_self, eq_self, Bool.false_eq_true, gk, a, b, one_ne, g, o1, o2]
      exact h
    · have m5 := hw.1
      have pc : (nI p).toNatClampNeg = p := nI_clamp (by omega)
      have vp5 : vp_in (nI p) 5 := vp_in_nI (by omega) (by decide)
      obtain ⟨t1, t2, t3, t4, t5, t6, t7, t8, t9⟩ := three (p := p) (by omega)
      obtain ⟨k, u, f, hk, hu, hf, ⟨b1, b1'⟩, ⟨b2, b2'⟩, -⟩ := hw.2.2.2.2.2.2.1 p hp
      rw [pc, t6, b1, b1', b2]
      obtain ⟨gu, hu01⟩ := taken_k k (by omega) j (by omega)
      have hun := under_k k (by omega) j (by omega)
      have fin : ∀ i, i < 6 → i = j → oX6_taken_55 σ (nI p) (nI j) (nI i) ∧ pX6_taken_55 σ (nI p) (nI j) (nI i) = nI u := by
        intro i hi e
        subst e
        unfold oX6_taken_55 pX6_taken_55
        simp only [↓reduceIte, not_true_eq_false, not_false_eq_true, false_implies, true_implies, implies_true, true_and, and_true, and_self, eq_self, Bool.false_eq_true, t7, t4, b2']
      have stp1 : ∀ i, i < 6 → ¬ i = j → ∀ (kR : Int32 → Int32) (kO : Int32 → Prop), kO (fX6_over (nI i)) → kX6_taken_37 σ (nI p) (nI j) kO (nI i) ∧ bX6_taken_37 σ (nI p) (nI j) kR (nI i) = kR (fX6_over (nI i)) := by
        intro i hi e kR kO hO
        unfold kX6_taken_37 bX6_taken_37
        have n1 : ¬ nI i = -1 := nI_ne_m1 (by omega)
        have n2 : ¬ nI i = nI j := nI_ne e (by omega) (by omega)
        simp only [↓reduceIte, not_true_eq_false, not_false_eq_true, false_implies, true_implies, implies_true, true_and, and_true, and_self, eq_self, Bool.false_eq_true, n1, n2]
        exact hO
      have stp2 : ∀ (kR : Int32 → Int32) (kO : Int32 → Prop), kX6_taken_37 σ (nI p) (nI j) kO (nI j) ∧ bX6_taken_37 σ (nI p) (nI j) kR (nI j) = nI u := by
        intro kR kO
        obtain ⟨f1, f2⟩ := fin j (by omega) rfl
        unfold kX6_taken_37 bX6_taken_37
        have n1 : ¬ nI j = -1 := nI_ne_m1 (by omega)
        simp only [↓reduceIte, not_true_eq_false, not_false_eq_true, false_implies, true_implies, implies_true, true_and, and_true, and_self, eq_self, Bool.false_eq_true, n1, f1, f2]
      have stp3 : ∀ (kR : Int32 → Int32) (kO : Int32 → Prop), kX6_taken_37 σ (nI p) (nI j) kO (-1) ∧ bX6_taken_37 σ (nI p) (nI j) kR (-1) = -13 := by
        intro kR kO
        have n1 : ¬ (-1 : Int32) = nI j := fun e => nI_ne_m1 (show j < 2 ^ 31 by omega) e.symm
        unfold kX6_taken_37 bX6_taken_37 oX6_taken_55 pX6_taken_55
        simp only [↓reduceIte, not_true_eq_false, not_false_eq_true, false_implies, true_implies, implies_true, true_and, and_true, and_self, eq_self, Bool.false_eq_true, n1]
      -- from 0, from 1 or 2, from 3 or 4
      have A0 : ∀ n, lpOk (kX6_taken_37 σ (nI p) (nI j)) (n + 2) (nI 0) ∧ lp 0 (bX6_taken_37 σ (nI p) (nI j)) (n + 2) (nI 0) = if j = 0 then nI u else -13 := by
        intro n
        by_cases e : j = 0
        · subst e
          rw [if_pos rfl]
          exact stp2 _ _
        · rw [if_neg e]
          have z3 := stp3 (lp 0 (bX6_taken_37 σ (nI p) (nI j)) n) (lpOk (kX6_taken_37 σ (nI p) (nI j)) n)
          obtain ⟨q1, q2⟩ := stp1 0 (by decide) (fun g => e g.symm) (lp 0 (bX6_taken_37 σ (nI p) (nI j)) (n + 1)) (lpOk (kX6_taken_37 σ (nI p) (nI j)) (n + 1)) z3.1
          exact ⟨q1, q2.trans z3.2⟩
      have A1 : ∀ i, (i = 1 ∨ i = 2 ∨ i = 5) → ∀ n, lpOk (kX6_taken_37 σ (nI p) (nI j)) (n + 3) (nI i) ∧ lp 0 (bX6_taken_37 σ (nI p) (nI j)) (n + 3) (nI i) = if i = j ∨ j = 0 then nI u else -13 := by
        intro i hi n
        by_cases e : i = j
        · subst e
          rw [if_pos (Or.inl rfl)]
          exact stp2 _ _
        · have ov : fX6_over (nI i) = nI 0 := by rcases hi with rfl | rfl | rfl <;> decide
          have z3 := A0 n
          obtain ⟨q1, q2⟩ := stp1 i (by omega) e (lp 0 (bX6_taken_37 σ (nI p) (nI j)) (n + 2)) (lpOk (kX6_taken_37 σ (nI p) (nI j)) (n + 2)) (by rw [ov]; exact z3.1)
          rw [ov] at q2
          refine ⟨q1, (q2.trans z3.2).trans ?_⟩
          by_cases e0 : j = 0
          · rw [if_pos e0, if_pos (Or.inr e0)]
          · rw [if_neg e0, if_neg (fun g => g.elim e e0)]
      have A2 : ∀ i v, ((i = 3 ∧ v = 1) ∨ (i = 4 ∧ v = 2)) → ∀ n, lpOk (kX6_taken_37 σ (nI p) (nI j)) (n + 4) (nI i) ∧ lp 0 (bX6_taken_37 σ (nI p) (nI j)) (n + 4) (nI i) = if i = j ∨ v = j ∨ j = 0 then nI u else -13 := by
        intro i v hi n
        by_cases e : i = j
        · subst e
          rw [if_pos (Or.inl rfl)]
          exact stp2 _ _
        · have ov : fX6_over (nI i) = nI v := by rcases hi with ⟨rfl, rfl⟩ | ⟨rfl, rfl⟩ <;> decide
          have z3 := A1 v (by omega) n
          obtain ⟨q1, q2⟩ := stp1 i (by omega) e (lp 0 (bX6_taken_37 σ (nI p) (nI j)) (n + 3)) (lpOk (kX6_taken_37 σ (nI p) (nI j)) (n + 3)) (by rw [ov]; exact z3.1)
          rw [ov] at q2
          refine ⟨q1, (q2.trans z3.2).trans ?_⟩
          by_cases e0 : v = j ∨ j = 0
          · rw [if_pos e0, if_pos (Or.inr e0)]
          · rw [if_neg e0, if_neg (fun g => g.elim e e0)]
      have all : lpOk (kX6_taken_37 σ (nI p) (nI j)) fu (nI k) ∧ lp 0 (bX6_taken_37 σ (nI p) (nI j)) fu (nI k) = if fX5_isUnder (nI k) (nI j) = 0 then -13 else nI u := by
        have done : ∀ P : Prop, [Decidable P] → (P ↔ (k = j ∨ (j = 0) ∨ (k = 3 ∧ j = 1) ∨ (k = 4 ∧ j = 2))) → (if P then nI u else (-13 : Int32)) = if fX5_isUnder (nI k) (nI j) = 0 then -13 else nI u := by
          intro P _ hP
          by_cases e : P
          · rw [if_pos e, hun.mpr (hP.mp e), if_neg one_ne]
          · rw [if_neg e, if_pos (hu01.resolve_right (fun g => e (hP.mpr (hun.mp g))))]
        rcases (by omega : k = 0 ∨ k = 1 ∨ k = 2 ∨ k = 3 ∨ k = 4 ∨ k = 5) with rfl | rfl | rfl | rfl | rfl | rfl
        · exact ⟨(A0 998).1, (A0 998).2.trans (done _ (by omega))⟩
        · exact ⟨(A1 1 (by omega) 997).1, (A1 1 (by omega) 997).2.trans (done _ (by omega))⟩
        · exact ⟨(A1 2 (by omega) 997).1, (A1 2 (by omega) 997).2.trans (done _ (by omega))⟩
        · exact ⟨(A2 3 1 (by omega) 996).1, (A2 3 1 (by omega) 996).2.trans (done _ (by omega))⟩
        · exact ⟨(A2 4 2 (by omega) 996).1, (A2 4 2 (by omega) 996).2.trans (done _ (by omega))⟩
        · exact ⟨(A1 5 (by omega) 997).1, (A1 5 (by omega) 997).2.trans (done _ (by omega))⟩
      simp only [↓reduceIte, not_true_eq_false, not_false_eq_true, false_implies, true_implies, implies_true, true_and, and_true, and_self, eq_self, Bool.false_eq_true, gk, a, b, one_ne, g, o1, o2, vp5, t9, gu, all.1, all.2]
      exact h
theorem ps_force : PS_force Rel := by
  intro τ ξ σ x h
  obtain ⟨m, y, hy, hw⟩ := h.1
  refine ⟨trivial, trivial, ?_⟩
  unfold fX5_force pX5_force_0 fX6_force pX6_force_0
  rw [h.2.2.1, h.2.1.2.1]
  rcases lessc x (m := τ.length) (by have := h.2.1.1; omega) with ⟨c, e⟩ | ⟨⟨c1, c2⟩, e, p, hp, rfl⟩
  · by_cases c0 : x < 0
    · simp only [↓reduceIte, not_true_eq_false, not_false_eq_true, false_implies, true_implies, implies_true, true_and, and_true, and_self, eq_self, Bool.false_eq_true, c0, e]
      exact h
    · have c1 : ¬ x < nI τ.length := by
        have := c.resolve_left c0
        rw [i32_le] at this
        rw [i32_lt]; omega
      simp only [↓reduceIte, not_true_eq_false, not_false_eq_true, false_implies, true_implies, implies_true, true_and, and_true, and_self, eq_self, Bool.false_eq_true, c0, c1, e]
      exact h
  · have c3 : nI p < nI τ.length := nI_lt hp (by have := h.2.1.1; omega)
    obtain ⟨r, hr, r1, r2⟩ := hw.2.2.2.2.1
    simp only [↓reduceIte, not_true_eq_false, not_false_eq_true, false_implies, true_implies, implies_true, true_and, and_true, and_self, eq_self, Bool.false_eq_true, c1, c3, e, one_ne, r1, r2]
    refine h.world ⟨m, y, hy, ?_⟩ ⟨rfl, rfl, fun j a b => oI_n _ _ (by omega), rfl, fun _ _ => rfl, rfl⟩ rfl rfl
    obtain ⟨a1, a2, a3, a4, a5, a6, a7, a8, a9⟩ := hw
    exact ⟨a1, a2, a3, a4, ⟨p, hp, rfl, rfl⟩, a6, a7, a8, a9⟩
theorem ps_feed : PS_feed Rel := by
  intro τ ξ σ x h
  obtain ⟨n, B, hn, hB, hR, t1, t2⟩ := h.2.2.2.1
  unfold gX5_feed oX5_feed_0 fX5_feed pX5_feed_0 pX5_feed_31 gX6_feed oX6_feed_0 fX6_feed pX6_feed_0 fX0_hasRoom pX0_hasRoom_0 gX0_take oX0_take_0 fX0_take pX0_take_0
  rcases wic x (m := 255) (by decide) with ⟨a, b⟩ | ⟨a, b, j, hj, rfl⟩
  · have a : fX5_within x 255 = 0 := a
    have b : fX6_in x.toInt64 0 255 = 0 := b
    simp only [↓reduceIte, not_true_eq_false, not_false_eq_true, false_implies, true_implies, implies_true, true_and, and_true, and_self, eq_self, Bool.false_eq_true, a, b]
    exact h
  · have a : fX5_within (nI j) 255 = 1 := a
    have b : fX6_in (nI j).toInt64 0 255 = 1 := b
    rw [hR.1, t1]
    by_cases c : n < 160
    · have c1 : ¬ (160 : Int32) ≤ nI n := nI_ge (b := 160) c (by decide)
      have c2 : ¬ nI n = 160 := nI_ne (b := 160) (by omega) (by omega) (by decide)
      have nc : (nI n).toNatClampNeg = n := nI_clamp (by omega)
      have vn : vp_in (nI n) 160 := vp_in_nI c (by decide)
      have k0 : ∀ z, (oS ξ.2.2.2.2.1 1 n z).1 0 = nI n := fun _ => hR.1
      have k6 : ∀ z, (oS σ 5 n z).1 6 = nI n := fun _ => t1
      simp only [↓reduceIte, not_true_eq_false, not_false_eq_true, false_implies, true_implies, implies_true, true_and, and_true, and_self, eq_self, Bool.false_eq_true, a, b, one_ne, c1, c2, nc, vn, k0, k6, nI_1, oI_s]
      have hw := h.1
      have F : OF σ (oI (oS σ 5 n (nI j)) 6 (nI (n + 1))) → True := fun _ => trivial
      obtain ⟨-, hT, hc, -, hK, hS⟩ := id h
      refine ⟨?_, hT, hc, ?_, hK, hS⟩
      · obtain ⟨m, y, hy, w⟩ := hw
        exact ⟨m, y, hy, w⟩
      · refine ⟨n + 1, fun i => if i = n then j else B i, by omega, fun i => ?_, ⟨oI_s _ _ _, fun i hi => ?_⟩, oI_s _ _ _, fun i hi => ?_⟩
        · show (if i = n then j else B i) < 256
          split
          · omega
          · exact hB i
        · show (oS ξ.2.2.2.2.1 1 n (nI j)).2.2.1 1 i = nI (if i = n then j else B i)
          rw [oS_row]
          by_cases e : i = n
          · subst e; rw [ud_s, if_pos rfl]
          · rw [ud_n _ _ e, if_neg e]; exact hR.2 i (by omega)
        · show (oS σ 5 n (nI j)).2.2.1 5 i = nI (if i = n then j else B i)
          rw [oS_row]
          by_cases e : i = n
          · subst e; rw [ud_s, if_pos rfl]
          · rw [ud_n _ _ e, if_neg e]; exact t2 i (by omega)
    · have en : n = 160 := by omega
      subst en
      have c1 : (160 : Int32) ≤ nI 160 := by decide
      have c2 : nI 160 = 160 := rfl
      simp only [↓reduceIte, not_true_eq_false, not_false_eq_true, false_implies, true_implies, implies_true, true_and, and_true, and_self, eq_self, Bool.false_eq_true, a, b, one_ne, c1, eq_true c2]
      exact h
end

section
/-! steps: sheets -/
theorem SHR.other {x : OS} {r : Nat} {σ σ' : OS} (h : SHR x r σ) (h1 : σ'.2.2.1 37 r = σ.2.2.1 37 r) (h2 : σ'.2.2.1 38 r = σ.2.2.1 38 r) (h3 : σ'.2.2.1 39 r = σ.2.2.1 39 r) (h4 : ∀ i, i < 40 → σ'.2.2.1 40 (40 * r + i) = σ.2.2.1 40 (40 * r + i)) : SHR x r σ' := by
  unfold SHR
  rw [h1, h2, h3]
  rcases h with h | ⟨k, z, a1, a2, a3, a4, a5, a6, a7, a8⟩
  · exact Or.inl h
  · exact Or.inr ⟨k, z, a1, a2, a3, a4, a5, a6, a7, fun i hi => (a8 i hi).trans (h4 i (by omega)).symm⟩
theorem forty {s i : Nat} (hs : s < 4) (hi : i < 40) : 40 * nI s + nI i = nI (40 * s + i) ∧ (40 * nI s + nI i).toNatClampNeg = 40 * s + i ∧ vp_in (40 * nI s + nI i) 160 := by
  have e : 40 * nI s + nI i = nI (40 * s + i) := by rw [show (40 : Int32) = nI 40 from rfl, nI_mul, nI_add]
  refine ⟨e, ?_, ?_⟩
  · rw [e, nI_clamp (by omega)]
  · rw [e]; exact vp_in_nI (by omega) (by decide)
theorem sortc (x : Int32) : (x < -1 ∧ fX6_in x.toInt64 (-1) 2 = 0) ∨ (x = -1 ∧ fX6_in x.toInt64 (-1) 2 = 1) ∨ (∃ k, k ≤ 2 ∧ x = nI k ∧ fX6_in x.toInt64 (-1) 2 = 1) ∨ (¬ x < -1 ∧ ¬ x < 3 ∧ fX6_in x.toInt64 (-1) 2 = 0) := by
  have m1 : (-1 : Int32).toInt = -1 := by decide
  have m2 : (-1 : Int64).toInt = -1 := by decide
  have t2 : (2 : Int64).toInt = 2 := by decide
  have t3 : (3 : Int32).toInt = 3 := by decide
  have z0 : (0 : Int32).toInt = 0 := by decide
  unfold fX6_in pX6_in_0
  by_cases c0 : x < -1
  · left
    refine ⟨c0, if_pos ?_⟩
    rw [i64_lt, Int32.toInt_toInt64, m2]
    rw [i32_lt, m1] at c0
    omega
  · have d0 : ¬ x.toInt64 < -1 := by
      rw [i64_lt, Int32.toInt_toInt64, m2]
      rw [i32_lt, m1] at c0
      omega
    rw [if_neg d0]
    by_cases c1 : x < 3
    · have d1 : ¬ (2 : Int64) < x.toInt64 := by
        rw [i64_lt, Int32.toInt_toInt64, t2]
        rw [i32_lt, t3] at c1
        omega
      rw [if_neg d1]
      by_cases c2 : x = -1
      · exact Or.inr (Or.inl ⟨c2, rfl⟩)
      · have hx0 : ¬ x < 0 := fun h => by
          apply c2
          apply Int32.toInt_inj.mp
          rw [i32_lt] at h c0
          omega
        obtain ⟨j, hj, rfl⟩ := nI_of hx0
        have : ¬ 3 ≤ j := fun g => nI_nlt (b := 3) g hj c1
        exact Or.inr (Or.inr (Or.inl ⟨j, by omega, rfl, rfl⟩))
    · right; right; right
      refine ⟨c0, c1, if_pos ?_⟩
      rw [i64_lt, Int32.toInt_toInt64, t2]
      rw [i32_lt, t3] at c1
      omega
/-- the reference's sheet made -/
def S3 (σ : OS) (s : Nat) (b k z : Int32) : OS := oS (oS (oS σ 37 s b) 38 s k) 39 s z
theorem S3_rows (σ : OS) (s : Nat) (b k z : Int32) : (S3 σ s b k z).2.2.1 37 = upd (σ.2.2.1 37) s b ∧ (S3 σ s b k z).2.2.1 38 = upd (σ.2.2.1 38) s k ∧ (S3 σ s b k z).2.2.1 39 = upd (σ.2.2.1 39) s z ∧ ∀ j, ¬ (37 ≤ j ∧ j ≤ 39) → (S3 σ s b k z).2.2.1 j = σ.2.2.1 j := ⟨rfl, rfl, rfl, fun j hj => (up_n _ _ (by omega)).trans ((up_n _ _ (by omega)).trans (up_n _ _ (by omega)))⟩
theorem mkS_eq {σ : OS} {s k z : Nat} (hs : s < 4) (hk : k ≤ 2) (hz : z ≤ 40) : gX6_sheet σ (nI s) (nI k) (nI z) ∧ (fX6_sheet σ (nI s) (nI k) (nI z)).1 = 1 ∧ (fX6_sheet σ (nI s) (nI k) (nI z)).2.1 = σ.1 ∧ (fX6_sheet σ (nI s) (nI k) (nI z)).2.2.1 = σ.2.1 ∧ (fX6_sheet σ (nI s) (nI k) (nI z)).2.2.2.2 = σ.2.2.2 ∧ (∀ j, ¬ j = 40 → (fX6_sheet σ (nI s) (nI k) (nI z)).2.2.2.1 j = (S3 σ s 1 (nI k) (nI z)).2.2.1 j) ∧ ∀ j, (fX6_sheet σ (nI s) (nI k) (nI z)).2.2.2.1 40 j = if 40 * s ≤ j ∧ j < 40 * s + z then 0 else σ.2.2.1 40 j := by
  have sc : (nI s).toNatClampNeg = s := nI_clamp (by omega)
  have vs : vp_in (nI s) 4 := vp_in_nI hs (by decide)
  have gs : gX6_isSheet (nI s) := in_nb _ _ _
  have es : fX6_isSheet (nI s) = 1 := by
    have e : fX6_isSheet (nI s) = fX5_within (nI s) (nI 3) := in_w (nI s) (m := 3) (by decide)
    rw [e]; exact wi_in (by omega) (by decide)
  have so : fX6_in (nI k).toInt64 (-1) 2 = 1 := by
    rcases sortc (nI k) with ⟨c, -⟩ | ⟨c, -⟩ | ⟨_, _, _, e⟩ | ⟨-, c, -⟩
    · exact absurd c (by rcases (by omega : k = 0 ∨ k = 1 ∨ k = 2) with rfl | rfl | rfl <;> decide)
    · exact absurd c (nI_ne_m1 (by omega))
    · exact e
    · exact absurd (nI_lt (b := 3) (show k < 3 by omega) (by decide)) c
  have n0 : ¬ nI k < 0 := nI_pos (by omega)
  have z4 : nI z ≤ 40 := nI_le (b := 40) hz (by decide)
  have z0 : (0 : Int32) ≤ nI z := nI_pos' (by omega)
  have nb : vp_nar .boolean 1 = 1 := by decide
  unfold gX6_sheet oX6_sheet_0 fX6_sheet pX6_sheet_0 oX6_sheet_34 pX6_sheet_34 oX6_sheet_45 pX6_sheet_45 oX6_sheet_59 pX6_sheet_59
  simp only [↓reduceIte, not_true_eq_false, not_false_eq_true, false_implies, true_implies, implies_true, true_and, and_true, and_self, eq_self, Bool.false_eq_true, gs, es, one_ne, so, n0, z4, z0, sc, vs, nb]
  have L := lp_one (d := ((0 : Int32), o0)) (body := bX6_sheet_77 (nI s) (nI k) (nI z)) (ok := kX6_sheet_77 (nI s) (nI k) (nI z)) (fun q v => ∃ t r, v = (r, nI t) ∧ t + q = z ∧ r.1 = σ.1 ∧ r.2.1 = σ.2.1 ∧ r.2.2.2 = σ.2.2.2 ∧ (∀ j, ¬ j = 40 → r.2.2.1 j = (S3 σ s 1 (nI k) (nI z)).2.2.1 j) ∧ ∀ j, r.2.2.1 40 j = if 40 * s ≤ j ∧ j < 40 * s + t then 0 else σ.2.2.1 40 j) (fun r => r.1 = 1 ∧ r.2.1 = σ.1 ∧ r.2.2.1 = σ.2.1 ∧ r.2.2.2.2 = σ.2.2.2 ∧ (∀ j, ¬ j = 40 → r.2.2.2.1 j = (S3 σ s 1 (nI k) (nI z)).2.2.1 j) ∧ ∀ j, r.2.2.2.1 40 j = if 40 * s ≤ j ∧ j < 40 * s + z then 0 else σ.2.2.1 40 j) (by
    rintro q v ⟨t, r, rfl, ht, h1, h2, h3, h4, h5⟩ kR kO hk'
    unfold bX6_sheet_77 kX6_sheet_77
    simp only [nI_1]
    by_cases e0 : t < z
    · have c1 : ¬ nI z ≤ nI t := nI_ge e0 (by omega)
      obtain ⟨f1, f2, f3⟩ := forty hs (show t < 40 by omega)
      simp only [↓reduceIte, not_true_eq_false, not_false_eq_true, false_implies, true_implies, implies_true, true_and, and_true, and_self, eq_self, Bool.false_eq_true, c1, n0, f2, f3]
      refine hk' (q - 1) _ (by omega) ⟨t + 1, _, rfl, by omega, h1, h2, h3, fun j hj => (up_n _ _ hj).trans (h4 j hj), fun j => ?_⟩
      rw [oS_row]
      by_cases e : j = 40 * s + t
      · subst e; rw [ud_s, if_pos (by omega)]
      · rw [ud_n _ _ e, h5 j]
        by_cases e2 : 40 * s ≤ j ∧ j < 40 * s + t
        · rw [if_pos e2, if_pos (by omega)]
        · rw [if_neg e2, if_neg (by omega)]
    · have c1 : nI z ≤ nI t := nI_le (by omega) (by omega)
      simp only [↓reduceIte, not_true_eq_false, not_false_eq_true, false_implies, true_implies, implies_true, true_and, and_true, and_self, eq_self, Bool.false_eq_true, c1]
      rw [show z = t by omega] at h4 ⊢
      exact ⟨h1, h2, h3, h4, h5⟩) fu z (S3 σ s 1 (nI k) (nI z), 0) ⟨0, _, rfl, by omega, rfl, rfl, rfl, fun _ _ => rfl, fun j => by rw [if_neg (by omega), (S3_rows σ s 1 (nI k) (nI z)).2.2.2 40 (by omega)]⟩ (by show z < 1000; omega)
  exact ⟨L.1, L.2⟩
theorem ps_sheet : PS_sheet Rel := by
  intro τ ξ σ x k n h
  have hS := h.2.2.2.2.2
  obtain ⟨g1, g2, ⟨a, b⟩ | ⟨a, b, s, hs, rfl, sc, vs⟩⟩ := shc x
  · unfold gX5_sheet oX5_sheet_0 fX5_sheet pX5_sheet_0 gX6_sheet oX6_sheet_0 fX6_sheet pX6_sheet_0
    simp only [↓reduceIte, not_true_eq_false, not_false_eq_true, false_implies, true_implies, implies_true, true_and, and_true, and_self, eq_self, Bool.false_eq_true, g1, g2, a, b]
    exact h
  · rw [sc]
    rcases sortc k with ⟨c, e⟩ | ⟨rfl, e⟩ | ⟨j, hj, rfl, e⟩ | ⟨c, c2, e⟩
    · unfold gX5_sheet oX5_sheet_0 fX5_sheet pX5_sheet_0 gX6_sheet oX6_sheet_0 fX6_sheet pX6_sheet_0
      simp only [↓reduceIte, not_true_eq_false, not_false_eq_true, false_implies, true_implies, implies_true, true_and, and_true, and_self, eq_self, Bool.false_eq_true, g1, g2, a, b, one_ne, c, e]
      exact h
    · have c : ¬ (-1 : Int32) < -1 := by decide
      have c3 : (-1 : Int32) < 3 := by decide
      have c4 : (-1 : Int32) < 0 := by decide
      have nb : vp_nar .boolean 0 = 0 := by decide
      obtain ⟨q1, q2, q3, q4⟩ := sbe_eq (ξ.2.2.2.2.2 s) (-1) 0
      have R : lpOk (kX6_sheet_77 (nI s) (-1) n) fu (S3 σ s 0 (-1) n, 0) ∧ lp (0, o0) (bX6_sheet_77 (nI s) (-1) n) fu (S3 σ s 0 (-1) n, 0) = (1, S3 σ s 0 (-1) n) := by
        refine ⟨lpOk_fu _ ?_, (lp_fu _ _ _).trans ?_⟩
        · unfold kX6_sheet_77
          simp only [↓reduceIte, not_true_eq_false, not_false_eq_true, false_implies, true_implies, implies_true, true_and, and_true, and_self, eq_self, Bool.false_eq_true, c4]
        · unfold bX6_sheet_77
          simp only [↓reduceIte, not_true_eq_false, not_false_eq_true, false_implies, true_implies, implies_true, true_and, and_true, and_self, eq_self, Bool.false_eq_true, c4, ite_self]
      unfold gX5_sheet oX5_sheet_0 fX5_sheet pX5_sheet_0 pX5_sheet_36 gX6_sheet oX6_sheet_0 fX6_sheet pX6_sheet_0 oX6_sheet_34 pX6_sheet_34 oX6_sheet_45 pX6_sheet_45 oX6_sheet_59 pX6_sheet_59
      have R1 : lpOk (kX6_sheet_77 (nI s) (-1) n) fu (oS (oS (oS σ 37 s 0) 38 s (-1)) 39 s n, 0) := R.1
      have R2 : lp (0, o0) (bX6_sheet_77 (nI s) (-1) n) fu (oS (oS (oS σ 37 s 0) 38 s (-1)) 39 s n, 0) = (1, S3 σ s 0 (-1) n) := R.2
      simp only [↓reduceIte, not_true_eq_false, not_false_eq_true, false_implies, true_implies, implies_true, true_and, and_true, and_self, eq_self, Bool.false_eq_true, g1, g2, a, b, one_ne, c, c3, c4, e, vs, sc, hs, q1, nb, R1, R2]
      obtain ⟨r1, r2, r3, r4⟩ := S3_rows σ s 0 (-1) n
      refine h.sheet (Or.inl ⟨q2, by rw [r1, ud_s]⟩) rfl rfl (fun k hk => r4 k (by omega)) rfl (fun r hr hne => (hS r hr).other (by rw [r1, ud_n _ _ hne]) (by rw [r2, ud_n _ _ hne]) (by rw [r3, ud_n _ _ hne]) (fun i _ => by rw [r4 40 (by omega)]))
    · have c : ¬ nI j < -1 := fun g => by
        have m1 : (-1 : Int32).toInt = -1 := by decide
        rw [i32_lt, m1, nI_toInt (show j < 2 ^ 31 by omega)] at g
        omega
      have c3 : nI j < 3 := nI_lt (b := 3) (by omega) (by decide)
      have c4 : ¬ nI j < 0 := nI_pos (by omega)
      have c5 : ¬ nI j = -1 := nI_ne_m1 (by omega)
      by_cases d1 : n ≤ 40
      · by_cases d2 : (0 : Int32) ≤ n
        · have t40 : (40 : Int32).toInt = (40 : Nat) := by decide
          have d3 : ¬ n < 0 := by rw [i32_lt]; rw [i32_le] at d2; omega
          obtain ⟨z, hz, rfl⟩ := nI_of2 t40 d3 d1
          obtain ⟨q1, q2, q3, q4⟩ := sbe_eq (ξ.2.2.2.2.2 s) (nI j) (nI z)
          obtain ⟨m1, m2, m3, m4, m5, m6, m7⟩ := mkS_eq (σ := σ) hs hj hz
          obtain ⟨r1, r2, r3, r4⟩ := S3_rows σ s 1 (nI j) (nI z)
          unfold gX5_sheet oX5_sheet_0 fX5_sheet pX5_sheet_0 pX5_sheet_65
          simp only [↓reduceIte, not_true_eq_false, not_false_eq_true, false_implies, true_implies, implies_true, true_and, and_true, and_self, eq_self, Bool.false_eq_true, g1, a, one_ne, c, c3, c5, d1, d2, vs, sc, hs, q1, m1, m2]
          generalize fX6_sheet σ (nI s) (nI j) (nI z) = R at *
          refine h.sheet (Or.inr ⟨j, z, hj, hz, q2, ?_, ?_, q3, ?_, fun i hi => ?_⟩) m3 m4 (fun k hk => (m6 k (by omega)).trans (r4 k (by omega))) m5 (fun r hr hne => (hS r hr).other ?_ ?_ ?_ (fun i hi => ?_))
          · rw [m6 37 (by decide), r1, ud_s]
          · rw [m6 38 (by decide), r2, ud_s]
          · rw [m6 39 (by decide), r3, ud_s]
          · rw [q4 i (by omega), m7, if_pos (by omega)]
          · rw [m6 37 (by decide), r1, ud_n _ _ hne]
          · rw [m6 38 (by decide), r2, ud_n _ _ hne]
          · rw [m6 39 (by decide), r3, ud_n _ _ hne]
          · rw [m7, if_neg (by omega)]
        · unfold gX5_sheet oX5_sheet_0 fX5_sheet pX5_sheet_0 gX6_sheet oX6_sheet_0 fX6_sheet pX6_sheet_0 oX6_sheet_34 pX6_sheet_34
          simp only [↓reduceIte, not_true_eq_false, not_false_eq_true, false_implies, true_implies, implies_true, true_and, and_true, and_self, eq_self, Bool.false_eq_true, g1, g2, a, b, one_ne, c, c3, c4, c5, e, d1, d2]
          exact h
      · unfold gX5_sheet oX5_sheet_0 fX5_sheet pX5_sheet_0 gX6_sheet oX6_sheet_0 fX6_sheet pX6_sheet_0
        simp only [↓reduceIte, not_true_eq_false, not_false_eq_true, false_implies, true_implies, implies_true, true_and, and_true, and_self, eq_self, Bool.false_eq_true, g1, g2, a, b, one_ne, c, c3, c4, c5, e, d1]
        exact h
    · unfold gX5_sheet oX5_sheet_0 fX5_sheet pX5_sheet_0 gX6_sheet oX6_sheet_0 fX6_sheet pX6_sheet_0
      simp only [↓reduceIte, not_true_eq_false, not_false_eq_true, false_implies, true_implies, implies_true, true_and, and_true, and_self, eq_self, Bool.false_eq_true, g1, g2, a, b, one_ne, c, c2, e]
      exact h
/-- an item cut to its sort -/
def cut (k : Nat) (v : Int32) : Int32 := if k = 0 then v.toInt8.toInt32 else if k = 1 then v.toInt16.toInt32 else v
theorem sput_eq {x : OS} {k i : Nat} (hk : k ≤ 2) (h1 : x.1 1 = nI k) (hi : i < 40) (v : Int32) : gX1_put x (nI i) v ∧ fX1_put x (nI i) v = oS x 0 i (cut k v) := by
  have ic : (nI i).toNatClampNeg = i := nI_clamp (by omega)
  have vi : vp_in (nI i) 40 := vp_in_nI hi (by decide)
  unfold gX1_put oX1_put_0 fX1_put pX1_put_0 oX1_put_31 pX1_put_31 cut
  rw [h1, ic]
  rcases (by omega : k = 0 ∨ k = 1 ∨ k = 2) with rfl | rfl | rfl
  · simp only [↓reduceIte, not_true_eq_false, not_false_eq_true, false_implies, true_implies, implies_true, true_and, and_true, and_self, eq_self, Bool.false_eq_true, kne_0_1, kne_0_2, kne_0_3, kne_0_4, kne_0_5, kne_0_6, kne_1_0, kne_1_2, kne_1_3, kne_1_4, kne_1_5, kne_1_6, kne_2_0, kne_2_1, kne_2_3, kne_2_4, kne_2_5, kne_2_6, kne_3_0, kne_3_1, kne_3_2, kne_3_4, kne_3_5, kne_3_6, kne_4_0, kne_4_1, kne_4_2, kne_4_3, kne_4_5, kne_4_6, kne_5_0, kne_5_1, kne_5_2, kne_5_3, kne_5_4, kne_5_6, kne_6_0, kne_6_1, kne_6_2, kne_6_3, kne_6_4, kne_6_5, keq_0, keq_1, keq_2, keq_3, keq_4, keq_5, keq_6, vi]
  · simp only [↓reduceIte, not_true_eq_false, not_false_eq_true, false_implies, true_implies, implies_true, true_and, and_true, and_self, eq_self, Bool.false_eq_true, kne_0_1, kne_0_2, kne_0_3, kne_0_4, kne_0_5, kne_0_6, kne_1_0, kne_1_2, kne_1_3, kne_1_4, kne_1_5, kne_1_6, kne_2_0, kne_2_1, kne_2_3, kne_2_4, kne_2_5, kne_2_6, kne_3_0, kne_3_1, kne_3_2, kne_3_4, kne_3_5, kne_3_6, kne_4_0, kne_4_1, kne_4_2, kne_4_3, kne_4_5, kne_4_6, kne_5_0, kne_5_1, kne_5_2, kne_5_3, kne_5_4, kne_5_6, kne_6_0, kne_6_1, kne_6_2, kne_6_3, kne_6_4, kne_6_5, keq_0, keq_1, keq_2, keq_3, keq_4, keq_5, keq_6, vi, show ¬ (1 = 0) by decide]
  · simp only [↓reduceIte, not_true_eq_false, not_false_eq_true, false_implies, true_implies, implies_true, true_and, and_true, and_self, eq_self, Bool.false_eq_true, kne_0_1, kne_0_2, kne_0_3, kne_0_4, kne_0_5, kne_0_6, kne_1_0, kne_1_2, kne_1_3, kne_1_4, kne_1_5, kne_1_6, kne_2_0, kne_2_1, kne_2_3, kne_2_4, kne_2_5, kne_2_6, kne_3_0, kne_3_1, kne_3_2, kne_3_4, kne_3_5, kne_3_6, kne_4_0, kne_4_1, kne_4_2, kne_4_3, kne_4_5, kne_4_6, kne_5_0, kne_5_1, kne_5_2, kne_5_3, kne_5_4, kne_5_6, kne_6_0, kne_6_1, kne_6_2, kne_6_3, kne_6_4, kne_6_5, keq_0, keq_1, keq_2, keq_3, keq_4, keq_5, keq_6, vi, show ¬ (2 = 0) by decide, show ¬ (2 = 1) by decide]
theorem miss_eq {x : OS} {s : Nat} {σ : OS} (h : SHR x s σ) : (fX1_isMissing x = 1 ∧ σ.2.2.1 37 s = 0) ∨ (fX1_isMissing x = 0 ∧ σ.2.2.1 37 s = 1) := by
  unfold fX1_isMissing pX1_isMissing_0
  rcases h with ⟨a, b⟩ | ⟨k, z, a1, a2, a3, a4, -⟩
  · exact Or.inl ⟨if_pos a, b⟩
  · exact Or.inr ⟨if_neg (by rw [a3]; exact nI_ne_m1 (by omega)), a4⟩
theorem ps_cell : PS_cell Rel := by
  intro τ ξ σ x n v h
  have hS := h.2.2.2.2.2
  unfold gX5_cell oX5_cell_0 fX5_cell pX5_cell_0 pX5_cell_52 gX6_cell oX6_cell_0 fX6_cell pX6_cell_0
  obtain ⟨g1, g2, ⟨a, b⟩ | ⟨a, b, s, hs, rfl, sc, vs⟩⟩ := shc x
  · simp only [↓reduceIte, not_true_eq_false, not_false_eq_true, false_implies, true_implies, implies_true, true_and, and_true, and_self, eq_self, Bool.false_eq_true, g1, g2, a, b]
    exact h
  · rw [sc]
    rcases hS s hs with ⟨k1, k2⟩ | ⟨k, z, hk, hz, k1, k2, k3, k4, k5, k6⟩
    · have mi : fX1_isMissing (ξ.2.2.2.2.2 s) = 1 := if_pos k1
      simp only [↓reduceIte, not_true_eq_false, not_false_eq_true, false_implies, true_implies, implies_true, true_and, and_true, and_self, eq_self, Bool.false_eq_true, g1, g2, a, b, one_ne, vs, hs, mi, k2]
      exact h
    · have mi : fX1_isMissing (ξ.2.2.2.2.2 s) = 0 := if_neg (by rw [k1]; exact nI_ne_m1 (by omega))
      rw [k4, k5, k2, k3]
      rcases lessc n (show z ≤ 100 by omega) with ⟨c, e⟩ | ⟨⟨c1, c2⟩, e, i, hi, rfl⟩
      · by_cases c0 : n < 0
        · simp only [↓reduceIte, not_true_eq_false, not_false_eq_true, false_implies, true_implies, implies_true, true_and, and_true, and_self, eq_self, Bool.false_eq_true, g1, g2, a, b, one_ne, vs, hs, mi, c0, e]
          exact h
        · have c1 : ¬ n < nI z := by
            have := c.resolve_left c0
            rw [i32_le] at this
            rw [i32_lt]; omega
          simp only [↓reduceIte, not_true_eq_false, not_false_eq_true, false_implies, true_implies, implies_true, true_and, and_true, and_self, eq_self, Bool.false_eq_true, g1, g2, a, b, one_ne, vs, hs, mi, c0, c1, e]
          exact h
      · have c3 : nI i < nI z := nI_lt hi (by omega)
        obtain ⟨p1, p2⟩ := sput_eq hk k1 (show i < 40 by omega) v
        obtain ⟨f1, f2, f3⟩ := forty hs (show i < 40 by omega)
        have fin : Rel τ (xS ξ s (oS (ξ.2.2.2.2.2 s) 0 i (cut k v))) (oS σ 40 (40 * s + i) (cut k v)) := by
          have r40 : (oS σ 40 (40 * s + i) (cut k v)).2.2.1 40 = upd (σ.2.2.1 40) (40 * s + i) (cut k v) := oS_row _ _ _ _
          refine h.sheet (Or.inr ⟨k, z, hk, hz, k1, k2, k3, k4, k5, fun j hj => ?_⟩) rfl rfl (fun j hj => up_n _ _ (by omega)) rfl (fun r hr hne => (hS r hr).other rfl rfl rfl (fun j hj => ?_))
          · rw [oS_row, r40]
            by_cases q : j = i
            · subst q; rw [ud_s, ud_s]
            · rw [ud_n _ _ q, ud_n _ _ (by omega)]; exact k6 j hj
          · rw [r40, ud_n _ _ (by omega)]
        unfold oX6_cell_83 pX6_cell_83
        simp only [↓reduceIte, not_true_eq_false, not_false_eq_true, false_implies, true_implies, implies_true, true_and, and_true, and_self, eq_self, Bool.false_eq_true, g1, g2, a, b, one_ne, vs, hs, mi, c1, c3, e, p1, p2, f2, f3]
        unfold cut at fin ⊢
        rcases (by omega : k = 0 ∨ k = 1 ∨ k = 2) with rfl | rfl | rfl
        · simp only [↓reduceIte, not_true_eq_false, not_false_eq_true, false_implies, true_implies, implies_true, true_and, and_true, and_self, eq_self, Bool.false_eq_true, kne_0_1, kne_0_2, kne_0_3, kne_0_4, kne_0_5, kne_0_6, kne_1_0, kne_1_2, kne_1_3, kne_1_4, kne_1_5, kne_1_6, kne_2_0, kne_2_1, kne_2_3, kne_2_4, kne_2_5, kne_2_6, kne_3_0, kne_3_1, kne_3_2, kne_3_4, kne_3_5, kne_3_6, kne_4_0, kne_4_1, kne_4_2, kne_4_3, kne_4_5, kne_4_6, kne_5_0, kne_5_1, kne_5_2, kne_5_3, kne_5_4, kne_5_6, kne_6_0, kne_6_1, kne_6_2, kne_6_3, kne_6_4, kne_6_5, keq_0, keq_1, keq_2, keq_3, keq_4, keq_5, keq_6] at fin ⊢
          exact fin
        · simp only [↓reduceIte, not_true_eq_false, not_false_eq_true, false_implies, true_implies, implies_true, true_and, and_true, and_self, eq_self, Bool.false_eq_true, kne_0_1, kne_0_2, kne_0_3, kne_0_4, kne_0_5, kne_0_6, kne_1_0, kne_1_2, kne_1_3, kne_1_4, kne_1_5, kne_1_6, kne_2_0, kne_2_1, kne_2_3, kne_2_4, kne_2_5, kne_2_6, kne_3_0, kne_3_1, kne_3_2, kne_3_4, kne_3_5, kne_3_6, kne_4_0, kne_4_1, kne_4_2, kne_4_3, kne_4_5, kne_4_6, kne_5_0, kne_5_1, kne_5_2, kne_5_3, kne_5_4, kne_5_6, kne_6_0, kne_6_1, kne_6_2, kne_6_3, kne_6_4, kne_6_5, keq_0, keq_1, keq_2, keq_3, keq_4, keq_5, keq_6, show ¬ (1 = 0) by decide] at fin ⊢
          exact fin
        · simp only [↓reduceIte, not_true_eq_false, not_false_eq_true, false_implies, true_implies, implies_true, true_and, and_true, and_self, eq_self, Bool.false_eq_true, kne_0_1, kne_0_2, kne_0_3, kne_0_4, kne_0_5, kne_0_6, kne_1_0, kne_1_2, kne_1_3, kne_1_4, kne_1_5, kne_1_6, kne_2_0, kne_2_1, kne_2_3, kne_2_4, kne_2_5, kne_2_6, kne_3_0, kne_3_1, kne_3_2, kne_3_4, kne_3_5, kne_3_6, kne_4_0, kne_4_1, kne_4_2, kne_4_3, kne_4_5, kne_4_6, kne_5_0, kne_5_1, kne_5_2, kne_5_3, kne_5_4, kne_5_6, kne_6_0, kne_6_1, kne_6_2, kne_6_3, kne_6_4, kne_6_5, keq_0, keq_1, keq_2, keq_3, keq_4, keq_5, keq_6, show ¬ (2 = 0) by decide, show ¬ (2 = 1) by decide] at fin ⊢
          exact fin
end

section
/-! steps: what only asks -/
theorem wic (x : Int32) {m : Nat} (hm : m < 2 ^ 31) : (fX5_within x (nI m) = 0 ∧ fX6_in x.toInt64 0 (lN m) = 0) ∨ (fX5_within x (nI m) = 1 ∧ fX6_in x.toInt64 0 (lN m) = 1 ∧ ∃ j, j ≤ m ∧ x = nI j) := by
  rw [in_w x hm]
  rcases wi_cases x hm with h | ⟨h, j, hj, e⟩
  · exact Or.inl ⟨h, h⟩
  · exact Or.inr ⟨h, h, j, hj, e⟩
theorem lessc (x : Int32) {m : Nat} (hm : m ≤ 100) : ((x < 0 ∨ nI m ≤ x) ∧ fX6_in x.toInt64 0 ((nI m - 1).toInt64) = 0) ∨ ((¬ x < 0 ∧ ¬ nI m ≤ x) ∧ fX6_in x.toInt64 0 ((nI m - 1).toInt64) = 1 ∧ ∃ p, p < m ∧ x = nI p) := by
  have z0 : (0 : Int32).toInt = 0 := by decide
  have y0 : (0 : Int64).toInt = 0 := by decide
  have e1 : (nI m - 1).toInt = (m : Int) - 1 := pk_sub_toInt (b := 1) (by omega) (by decide)
  have em := nI_toInt (show m < 2 ^ 31 by omega)
  unfold fX6_in pX6_in_0
  by_cases c0 : x < 0
  · left
    refine ⟨Or.inl c0, if_pos ?_⟩
    rw [i64_lt, Int32.toInt_toInt64, y0]
    rw [i32_lt] at c0
    omega
  · have d0 : ¬ x.toInt64 < 0 := by
      rw [i64_lt, Int32.toInt_toInt64, y0]
      rw [i32_lt] at c0
      omega
    rw [if_neg d0]
    by_cases c1 : nI m ≤ x
    · left
      refine ⟨Or.inr c1, if_pos ?_⟩
      rw [i64_lt, Int32.toInt_toInt64, Int32.toInt_toInt64, e1]
      rw [i32_le, em] at c1
      omega
    · right
      refine ⟨⟨c0, c1⟩, if_neg ?_, ?_⟩
      · rw [i64_lt, Int32.toInt_toInt64, Int32.toInt_toInt64, e1]
        rw [i32_le, em] at c1
        omega
      · obtain ⟨j, hj, rfl⟩ := nI_of c0
        exact ⟨j, Classical.byContradiction (fun h => c1 (nI_le (by omega) hj)), rfl⟩
theorem onec {τ : TX} {ξ : XS} {σ : OS} {m : Nat} (hm : m ≤ 5) (h4 : ξ.2.1.1 4 = nI m) (h12 : σ.1 12 = nI m) (x : Int32) : gX6_isOne σ x ∧ ((fX5_isOne τ ξ x = 0 ∧ fX6_isOne σ x = 0) ∨ (fX5_isOne τ ξ x = 1 ∧ fX6_isOne σ x = 1 ∧ ∃ p, p < m ∧ x = nI p)) := by
  refine ⟨in_nb _ _ _, ?_⟩
  unfold fX5_isOne pX5_isOne_0 fX6_isOne pX6_isOne_0
  rw [h4, h12]
  rcases lessc x (show m ≤ 100 by omega) with ⟨h, e⟩ | ⟨⟨h1, h2⟩, e, p⟩
  · left
    refine ⟨?_, e⟩
    by_cases c : x < 0
    · rw [if_pos c]
    · rw [if_neg c, if_pos (h.resolve_left c)]
  · right
    exact ⟨by rw [if_neg h1, if_neg h2], e, p⟩
theorem cellc (x : Int32) : gX5_isCell x ∧ gX6_isCell x ∧ ((fX5_isCell x = 0 ∧ fX6_isCell x = 0) ∨ (fX5_isCell x = 1 ∧ fX6_isCell x = 1 ∧ ∃ c, c < 64 ∧ x = nI c)) := by
  refine ⟨wi_nb _ _, in_nb _ _ _, ?_⟩
  rcases wic x (m := 63) (by decide) with ⟨a, b⟩ | ⟨a, b, j, hj, e⟩
  · exact Or.inl ⟨a, b⟩
  · exact Or.inr ⟨a, b, j, by omega, e⟩
theorem PI.uni_h {m : Nat} {h : Int64} {U : Nat → Int64} (d : PI m h U) {c : Nat} (hc : c < 64) (e : tb (uni U m) c = true) : ¬ tb h c = true := by
  obtain ⟨p, hp, e⟩ := (uni_tb U c m).mp e
  exact d.1.2 p c hp hc e
theorem WR.sets {N m y : Nat} {w σ : OS} (h : WR N m y w σ) : gX4_allUp w ∧ gX6_putAll σ ∧ gX4_stands w ∧ gX6_stands σ ∧ fX4_allUp w = uni (σ.2.2.2 11) m ∧ fX6_putAll σ = uni (σ.2.2.2 11) m ∧ fX4_stands w = σ.2.1 9 ||| uni (σ.2.2.2 11) m ∧ fX6_stands σ = σ.2.1 9 ||| uni (σ.2.2.2 11) m := by
  obtain ⟨a1, b1⟩ := allUp_eq h.1 h.2.1.1
  obtain ⟨a2, b2⟩ := putAll_eq h.1 h.2.1.2
  obtain ⟨a3, b3⟩ := st4_eq h.1 h.2.1.1
  obtain ⟨a4, b4⟩ := st6_eq h.1 h.2.1.2
  have e := uni_cong h.2.2.2.2.2.2.2.1
  exact ⟨a1, a2, a3, a4, by rw [b1, e], b2, by rw [b3, e, h.2.2.2.2.2.1], b4⟩
theorem ps_wall : PS_wall Rel := by
  intro τ ξ σ x h
  obtain ⟨m, y, hy, hw⟩ := h.1
  obtain ⟨s1, s2, s3, s4, s5, s6, s7, s8⟩ := hw.sets
  obtain ⟨g, ho⟩ := onec (τ := τ) hw.1 hw.2.1.1 hw.2.1.2 x
  unfold gX5_wall oX5_wall_0 fX5_wall pX5_wall_0 gX6_wall oX6_wall_0 fX6_wall pX6_wall_0 oX6_wall_23 pX6_wall_23
  by_cases c1 : x = -1
  · simp only [↓reduceIte, not_true_eq_false, not_false_eq_true, false_implies, true_implies, implies_true, true_and, and_true, and_self, eq_self, Bool.false_eq_true, c1, hw.2.2.2.2.2.1]
    exact h
  · by_cases c2 : x = -2
    · have c3 : ¬ (-2 : Int32) = -1 := by decide
      simp only [↓reduceIte, not_true_eq_false, not_false_eq_true, false_implies, true_implies, implies_true, true_and, and_true, and_self, eq_self, Bool.false_eq_true, c2, c3, s3, s4, s7, s8]
      exact h
    · rcases ho with ⟨o1, o2⟩ | ⟨o1, o2, p, hp, rfl⟩
      · simp only [↓reduceIte, not_true_eq_false, not_false_eq_true, false_implies, true_implies, implies_true, true_and, and_true, and_self, eq_self, Bool.false_eq_true, c1, c2, g, o1, o2]
        exact h
      · have pc : (nI p).toNatClampNeg = p := nI_clamp (by have := hw.1; omega)
        have vp5 : vp_in (nI p) 5 := vp_in_nI (by have := hw.1; omega) (by decide)
        simp only [↓reduceIte, not_true_eq_false, not_false_eq_true, false_implies, true_implies, implies_true, true_and, and_true, and_self, eq_self, Bool.false_eq_true, c1, c2, g, o1, o2, one_ne, vp5, pc, hw.2.2.2.2.2.2.2.1 p hp]
        exact h
theorem ps_room : PS_room Rel := by
  intro τ ξ σ x h
  obtain ⟨m, y, hy, hw⟩ := h.1
  obtain ⟨s1, s2, s3, s4, s5, s6, s7, s8⟩ := hw.sets
  unfold gX5_room oX5_room_0 fX5_room pX5_room_0 gX6_room oX6_room_0 fX6_room pX6_room_0
  have gp : gX5_isPart x := wi_nb _ _
  rcases wic x (m := 5) (by decide) with ⟨a, b⟩ | ⟨a, b, j, hj, rfl⟩
  · have a : fX5_isPart x = 0 := a
    have b : fX6_in x.toInt64 0 5 = 0 := b
    simp only [↓reduceIte, not_true_eq_false, not_false_eq_true, false_implies, true_implies, implies_true, true_and, and_true, and_self, eq_self, Bool.false_eq_true, gp, a, b]
    exact h
  · have a : fX5_isPart (nI j) = 1 := a
    have b : fX6_in (nI j).toInt64 0 5 = 1 := b
    obtain ⟨r1, r2⟩ := room_eq σ (σ.2.1 9 ||| uni (σ.2.2.2 11) m) (show j < 6 by omega)
    simp only [↓reduceIte, not_true_eq_false, not_false_eq_true, false_implies, true_implies, implies_true, true_and, and_true, and_self, eq_self, Bool.false_eq_true, gp, a, b, one_ne, s3, s4, s7, s8, r1, r2, places_g _ (show j < 6 by omega)]
    exact h
theorem ps_reach : PS_reach Rel := by
  intro τ ξ σ x h
  obtain ⟨m, y, hy, hw⟩ := h.1
  obtain ⟨s1, s2, s3, s4, s5, s6, s7, s8⟩ := hw.sets
  unfold gX5_reach oX5_reach_0 fX5_reach pX5_reach_0 gX6_reach oX6_reach_0 fX6_reach pX6_reach_0
  obtain ⟨g1, g2, ⟨a, b⟩ | ⟨a, b, c, hc, rfl⟩⟩ := cellc x
  · simp only [↓reduceIte, not_true_eq_false, not_false_eq_true, false_implies, true_implies, implies_true, true_and, and_true, and_self, eq_self, Bool.false_eq_true, g1, g2, a, b]
    exact h
  · rw [s7, s8]
    generalize σ.2.1 9 ||| uni (σ.2.2.2 11) m = o at *
    have k1 := (one3_eq hc o).1
    have k2 := (byOne_eq hc o).1
    have k3 := (two3_eq hc o).1
    have k4 := (byTwo_eq hc o).1
    obtain ⟨e1, hcase⟩ := reach1 hc o
    simp only [has3 _ hc, has6 _ hc, if10]
    by_cases t : tb o c = true
    · simp only [↓reduceIte, not_true_eq_false, not_false_eq_true, false_implies, true_implies, implies_true, true_and, and_true, and_self, eq_self, Bool.false_eq_true, g1, g2, a, b, one_ne, s3, s4, t]
      exact h
    · rcases hcase with ⟨z, hn⟩ | z
      · obtain ⟨e2, -⟩ := reach2 hc hn
        rw [z] at e1
        simp only [↓reduceIte, not_true_eq_false, not_false_eq_true, false_implies, true_implies, implies_true, true_and, and_true, and_self, eq_self, Bool.false_eq_true, g1, g2, a, b, one_ne, s3, s4, t, k1, k2, k3, k4, e1, z, e2]
        exact h
      · rw [z] at e1
        simp only [↓reduceIte, not_true_eq_false, not_false_eq_true, false_implies, true_implies, implies_true, true_and, and_true, and_self, eq_self, Bool.false_eq_true, g1, g2, a, b, one_ne, s3, s4, t, k1, k2, e1, z]
        exact h
theorem ps_round : PS_round Rel := by
  intro τ ξ σ x n h
  obtain ⟨m, y, hy, hw⟩ := h.1
  obtain ⟨s1, s2, s3, s4, s5, s6, s7, s8⟩ := hw.sets
  unfold gX5_round oX5_round_0 fX5_round pX5_round_0 gX6_round oX6_round_0 fX6_round pX6_round_0
  obtain ⟨g1, g2, ⟨a, b⟩ | ⟨a, b, c, hc, rfl⟩⟩ := cellc x
  · simp only [↓reduceIte, not_true_eq_false, not_false_eq_true, false_implies, true_implies, implies_true, true_and, and_true, and_self, eq_self, Bool.false_eq_true, g1, g2, a, b]
    exact h
  · rcases wic n (m := 63) (by decide) with ⟨a', b'⟩ | ⟨a', b', j, hj, rfl⟩
    · have a' : fX5_within n 63 = 0 := a'
      have b' : fX6_in n.toInt64 0 63 = 0 := b'
      simp only [↓reduceIte, not_true_eq_false, not_false_eq_true, false_implies, true_implies, implies_true, true_and, and_true, and_self, eq_self, Bool.false_eq_true, g1, g2, a, b, a', b', one_ne]
      exact h
    · have a' : fX5_within (nI j) 63 = 1 := a'
      have b' : fX6_in (nI j).toInt64 0 63 = 1 := b'
      rw [s7, s8]
      generalize σ.2.1 9 ||| uni (σ.2.2.2 11) m = o at *
      obtain ⟨e1, g3⟩ := come_eq (jshl 1 (nI c)) o (N := j) (by omega)
      have L := lp_run (d := (0 : Int64)) (body := bX5_round_38 τ ξ (nI j) o) (ok := kX5_round_38 τ ξ (nI j) o) (fun k v r => ∃ t z, v = (z, nI t) ∧ t + k = j ∧ r = stN o k z) (by
        rintro k v r ⟨t, z, rfl, htk, rfl⟩ kR kO hk
        unfold bX5_round_38 kX5_round_38
        simp only [nI_1]
        cases k with
        | zero =>
          have c1 : nI j ≤ nI t := nI_le (by omega) (by omega)
          simp only [↓reduceIte, not_true_eq_false, not_false_eq_true, false_implies, true_implies, implies_true, true_and, and_true, and_self, eq_self, Bool.false_eq_true, c1]
          rfl
        | succ k =>
          have c1 : ¬ nI j ≤ nI t := nI_ge (by omega) (by omega)
          simp only [↓reduceIte, not_true_eq_false, not_false_eq_true, false_implies, true_implies, implies_true, true_and, and_true, and_self, eq_self, Bool.false_eq_true, c1]
          exact hk k (stp o z, nI (t + 1)) _ (by omega) ⟨t + 1, _, rfl, by omega, rfl⟩) fu j (jshl 1 (nI c) &&& o, 0) _ ⟨0, _, rfl, by omega, rfl⟩ (by show j < 1000; omega)
      simp only [↓reduceIte, not_true_eq_false, not_false_eq_true, false_implies, true_implies, implies_true, true_and, and_true, and_self, eq_self, Bool.false_eq_true, g1, g2, a, b, a', b', one_ne, s3, s4, L.1, L.2, e1, g3]
      exact h
theorem ps_walk : PS_walk Rel := by
  intro τ ξ σ x z h
  obtain ⟨m, y, hy, hw⟩ := h.1
  obtain ⟨s1, s2, s3, s4, s5, s6, s7, s8⟩ := hw.sets
  unfold gX5_walk oX5_walk_0 fX5_walk pX5_walk_0 gX6_walk oX6_walk_0 fX6_walk pX6_walk_0
  obtain ⟨g1, g2, ⟨a, b⟩ | ⟨a, b, c, hc, rfl⟩⟩ := cellc x
  · simp only [↓reduceIte, not_true_eq_false, not_false_eq_true, false_implies, true_implies, implies_true, true_and, and_true, and_self, eq_self, Bool.false_eq_true, g1, g2, a, b]
    exact h
  · obtain ⟨g1', g2', ⟨a', b'⟩ | ⟨a', b', d, hd, rfl⟩⟩ := cellc z
    · simp only [↓reduceIte, not_true_eq_false, not_false_eq_true, false_implies, true_implies, implies_true, true_and, and_true, and_self, eq_self, Bool.false_eq_true, g1, g2, a, b, g1', g2', a', b', one_ne]
      exact h
    · rw [s7, s8]
      generalize σ.2.1 9 ||| uni (σ.2.2.2 11) m = o at *
      have L := lp_two (d := (0 : Int32)) (body := bX5_walk_35 τ ξ (nI d) o) (ok := kX5_walk_35 τ ξ (nI d) o) (d' := (0 : Int32)) (body' := bX6_walk_25 σ (nI c) (nI d) o) (ok' := kX6_walk_25 σ (nI c) (nI d) o) (fun k v v' => ∃ t, v = (stN o t (jshl 1 (nI c) &&& o), nI t) ∧ v' = nI t ∧ t + k = 64) (fun r s => r = s) (by
        rintro k v v' ⟨t, rfl, rfl, htk⟩ kR kO kR' kO' hk
        unfold bX5_walk_35 kX5_walk_35 bX6_walk_25 kX6_walk_25 pX6_walk_54
        obtain ⟨e1, g3⟩ := come_eq (jshl 1 (nI c)) o (N := t) (by omega)
        simp only [nI_1, e1, g3, has3 _ hd, has6 _ hd, if10]
        cases k with
        | zero =>
          have c1 : (64 : Int32) ≤ nI t := nI_le (a := 64) (by omega) (by omega)
          have c2 : nI t = 64 := by rw [show t = 64 by omega]; rfl
          simp only [↓reduceIte, not_true_eq_false, not_false_eq_true, false_implies, true_implies, implies_true, true_and, and_true, and_self, eq_self, Bool.false_eq_true, c1, c2, Int32.le_refl]
        | succ k =>
          have c1 : ¬ (64 : Int32) ≤ nI t := nI_ge (b := 64) (by omega) (by decide)
          have c2 : ¬ nI t = 64 := nI_ne (b := 64) (by omega) (by omega) (by decide)
          by_cases q : tb (stN o t (jshl 1 (nI c) &&& o)) d = true
          · simp only [↓reduceIte, not_true_eq_false, not_false_eq_true, false_implies, true_implies, implies_true, true_and, and_true, and_self, eq_self, Bool.false_eq_true, c1, c2, q]
          · simp only [↓reduceIte, not_true_eq_false, not_false_eq_true, false_implies, true_implies, implies_true, true_and, and_true, and_self, eq_self, Bool.false_eq_true, c1, q]
            exact hk k (stp o (stN o t (jshl 1 (nI c) &&& o)), nI (t + 1)) (nI (t + 1)) (by omega) ⟨t + 1, by rw [stN_succ], rfl, by omega⟩) fu fu 64 (jshl 1 (nI c) &&& o, 0) 0 ⟨0, rfl, rfl, by omega⟩ (by decide) (by decide)
      simp only [↓reduceIte, not_true_eq_false, not_false_eq_true, false_implies, true_implies, implies_true, true_and, and_true, and_self, eq_self, Bool.false_eq_true, g1, g2, a, b, g1', g2', a', b', one_ne, s3, s4, L.1, L.2.1, L.2.2]
      exact h
theorem ps_key : PS_key Rel := by
  intro τ ξ σ x h
  obtain ⟨m, y, hy, hw⟩ := h.1
  obtain ⟨s1, s2, s3, s4, s5, s6, s7, s8⟩ := hw.sets
  have d := hw.2.2.2.2.2.2.2.2
  unfold gX5_key oX5_key_0 fX5_key pX5_key_0 gX6_key oX6_key_0 fX6_key pX6_key_0
  rcases wic x (m := 1) (by decide) with ⟨a, b⟩ | ⟨a, b, -⟩
  · have a : fX5_within x 1 = 0 := a
    have b : fX6_in x.toInt64 0 1 = 0 := b
    simp only [↓reduceIte, not_true_eq_false, not_false_eq_true, false_implies, true_implies, implies_true, true_and, and_true, and_self, eq_self, Bool.false_eq_true, a, b]
    exact h
  · have a : fX5_within x 1 = 1 := a
    have b : fX6_in x.toInt64 0 1 = 1 := b
    rw [s5, s6]
    have L := lp_two (d := (0 : Int32)) (body := bX5_key_28 τ ξ x (uni (σ.2.2.2 11) m)) (ok := kX5_key_28 τ ξ x (uni (σ.2.2.2 11) m)) (d' := (0 : Int32)) (body' := bX6_key_26 σ x (uni (σ.2.2.2 11) m)) (ok' := kX6_key_26 σ x (uni (σ.2.2.2 11) m)) (fun k v v' => v = v' ∧ ∃ (q r : Int32) (t : Nat), v = (q, r, nI t) ∧ t + k = 64) (fun r s => r = s) (by
      rintro k v v' ⟨rfl, q, r, t, rfl, htk⟩ kR kO kR' kO' hk
      unfold bX5_key_28 kX5_key_28 bX6_key_26 kX6_key_26 oX5_key_70 pX5_key_70 oX6_key_96 pX6_key_96
      cases k with
      | zero =>
        have c1 : (64 : Int32) ≤ nI t := nI_le (a := 64) (by omega) (by omega)
        simp only [↓reduceIte, not_true_eq_false, not_false_eq_true, false_implies, true_implies, implies_true, true_and, and_true, and_self, eq_self, Bool.false_eq_true, c1]
      | succ k =>
        have c1 : ¬ (64 : Int32) ≤ nI t := nI_ge (b := 64) (by omega) (by decide)
        have ht : t < 64 := by omega
        simp only [nI_1, has3 _ ht, has6 _ ht, if10]
        by_cases e : tb (uni (σ.2.2.2 11) m) t = true
        · have nh := d.uni_h ht e
          have er : (σ.2.1 9 ||| uni (σ.2.2.2 11) m) &&& (jshl 1 (nI t) ^^^ (-1)) = σ.2.1 9 ||| (uni (σ.2.2.2 11) m &&& (jshl 1 (nI t) ^^^ (-1))) := by
            refine tb_ext (fun i hi => ?_)
            rw [tb_and, tb_or, tb_or, tb_and, tb_not _ hi, tb_bit ht hi]
            by_cases g : i = t
            · subst g; rw [bfF.mpr nh]; simp
            · simp [g]
          obtain ⟨h1, h2⟩ := held_eq (σ.2.1 9) (σ.2.1 9 ||| (uni (σ.2.2.2 11) m &&& (jshl 1 (nI t) ^^^ (-1))))
          obtain ⟨e1, g3⟩ := come_eq (σ.2.1 9) (σ.2.1 9 ||| (uni (σ.2.2.2 11) m &&& (jshl 1 (nI t) ^^^ (-1)))) (N := 64) (by decide)
          rw [and_sub (sub_h _ _)] at e1
          have e1 : fX6_comeTo (σ.2.1 9) (σ.2.1 9 ||| (uni (σ.2.2.2 11) m &&& (jshl 1 (nI t) ^^^ (-1)))) 64 = _ := e1
          have g3 : gX6_comeTo (σ.2.1 9) (σ.2.1 9 ||| (uni (σ.2.2.2 11) m &&& (jshl 1 (nI t) ^^^ (-1)))) 64 := g3
          have eF : fX4_fallWithout ξ.2.1 (nI t) = fX6_bitsOf ((uni (σ.2.2.2 11) m &&& (jshl 1 (nI t) ^^^ (-1))) &&& (stN (σ.2.1 9 ||| (uni (σ.2.2.2 11) m &&& (jshl 1 (nI t) ^^^ (-1)))) 64 (σ.2.1 9) ^^^ (-1))) := by
            unfold fX4_fallWithout pX4_fallWithout_0
            rw [s7, er, hw.2.2.2.2.2.1, h1, bitCount_eq, (bitsOf_eq _).1]
            congr 2
            refine tb_ext (fun i hi => ?_)
            rw [tb_and, tb_and, tb_not _ hi, tb_or]
            cases e9 : tb (σ.2.1 9) i with
            | false => rfl
            | true => rw [sub_stN _ _ _ i hi e9]; simp
          have gF : gX4_fallWithout ξ.2.1 (nI t) := by
            unfold gX4_fallWithout oX4_fallWithout_0
            rw [s7, er, hw.2.2.2.2.2.1]
            exact ⟨s3, h2⟩
          rw [e1, ← eF]
          by_cases c2 : fX4_fallWithout ξ.2.1 (nI t) ≤ r
          · simp only [↓reduceIte, not_true_eq_false, not_false_eq_true, false_implies, true_implies, implies_true, true_and, and_true, and_self, eq_self, Bool.false_eq_true, c1, e, gF, g3, (bitsOf_eq _).2, c2]
            exact hk k _ _ (by omega) ⟨rfl, q, r, t + 1, rfl, by omega⟩
          · simp only [↓reduceIte, not_true_eq_false, not_false_eq_true, false_implies, true_implies, implies_true, true_and, and_true, and_self, eq_self, Bool.false_eq_true, c1, e, gF, g3, (bitsOf_eq _).2, c2]
            exact hk k _ _ (by omega) ⟨rfl, nI t, _, t + 1, rfl, by omega⟩
        · simp only [↓reduceIte, not_true_eq_false, not_false_eq_true, false_implies, true_implies, implies_true, true_and, and_true, and_self, eq_self, Bool.false_eq_true, c1, e]
          exact hk k _ _ (by omega) ⟨rfl, q, r, t + 1, rfl, by omega⟩) fu fu 64 (-1, -1, 0) (-1, -1, 0) ⟨rfl, -1, -1, 0, rfl, by omega⟩ (by decide) (by decide)
    simp only [↓reduceIte, not_true_eq_false, not_false_eq_true, false_implies, true_implies, implies_true, true_and, and_true, and_self, eq_self, Bool.false_eq_true, a, b, one_ne, s1, s2, L.1, L.2.1, L.2.2]
    exact h
theorem ps_share : PS_share Rel := by
  intro τ ξ σ x z h
  obtain ⟨m, y, hy, hw⟩ := h.1
  obtain ⟨s1, s2, s3, s4, s5, s6, s7, s8⟩ := hw.sets
  obtain ⟨g, ho⟩ := onec (τ := τ) hw.1 hw.2.1.1 hw.2.1.2 x
  unfold gX5_share oX5_share_0 fX5_share pX5_share_0 gX6_share oX6_share_0 fX6_share pX6_share_0
  rcases ho with ⟨o1, o2⟩ | ⟨o1, o2, p, hp, rfl⟩
  · simp only [↓reduceIte, not_true_eq_false, not_false_eq_true, false_implies, true_implies, implies_true, true_and, and_true, and_self, eq_self, Bool.false_eq_true, g, o1, o2, s3]
    exact h
  · have pc : (nI p).toNatClampNeg = p := nI_clamp (by have := hw.1; omega)
    have vp5 : vp_in (nI p) 5 := vp_in_nI (by have := hw.1; omega) (by decide)
    rcases wic z (m := 1) (by decide) with ⟨a, b⟩ | ⟨a, b, -⟩
    · have a : fX5_within z 1 = 0 := a
      have b : fX6_in z.toInt64 0 1 = 0 := b
      simp only [↓reduceIte, not_true_eq_false, not_false_eq_true, false_implies, true_implies, implies_true, true_and, and_true, and_self, eq_self, Bool.false_eq_true, g, o1, o2, one_ne, a, b, s3]
      exact h
    · have a : fX5_within z 1 = 1 := a
      have b : fX6_in z.toInt64 0 1 = 1 := b
      rw [s7, s8, pc, hw.2.2.2.2.2.2.2.1 p hp]
      generalize σ.2.1 9 ||| uni (σ.2.2.2 11) m = o at *
      simp only [bitCount_eq, (bitsOf_eq _).1]
      have hl1 := pcn_le (σ.2.2.2 11 p)
      have hl2 := pcn_le o
      rw [nI_l (show pcn (σ.2.2.2 11 p) < 2 ^ 31 by omega), nI_l (show pcn o < 2 ^ 31 by omega)]
      by_cases c : o = 0
      · have c0 : nI (pcn 0) = 0 := by rw [pcn_0]; rfl
        simp only [↓reduceIte, not_true_eq_false, not_false_eq_true, false_implies, true_implies, implies_true, true_and, and_true, and_self, eq_self, Bool.false_eq_true, g, o1, o2, one_ne, a, b, s3, s4, c0, c]
        exact h
      · have c0 : ¬ nI (pcn o) = 0 := fun e => c (pcn_z ((nI_z (by omega)).mp e))
        have cp : 0 < pcn o := Nat.pos_of_ne_zero (fun e => c (pcn_z e))
        obtain ⟨l1, l2, l3⟩ := low_eq (a := pcn (σ.2.2.2 11 p)) (b := pcn o) (by omega) cp (by omega) z
        simp only [↓reduceIte, not_true_eq_false, not_false_eq_true, false_implies, true_implies, implies_true, true_and, and_true, and_self, eq_self, Bool.false_eq_true, g, o1, o2, one_ne, a, b, s3, s4, c0, c, vp5, (bitsOf_eq _).2, l1, l2, l3]
        exact h
end

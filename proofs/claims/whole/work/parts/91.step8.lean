section
/-! steps: storms, films -/
theorem ui_of (x : Int32) : ∃ n, n < 2 ^ 32 ∧ x = nI n := ⟨x.toBitVec.toNat, x.toBitVec.isLt, Int32.toBitVec_inj.mp (by show _ = BitVec.ofNat 32 _; simp)⟩
theorem cell_z (x : Int32) : ∃ c, c < 64 ∧ jiushr x 9 - jiushr x 9 / 64 * 64 = nI c := by
  obtain ⟨n, hn, rfl⟩ := ui_of x
  have e : jiushr (nI n) 9 = nI (n / 2 ^ 9) := ji_shr (k := 9) hn (by decide)
  rw [e]
  exact ⟨n / 2 ^ 9 % 64, Nat.mod_lt _ (by decide), pk_rem (d := 64) (by omega) (by decide) (by decide)⟩
theorem drop_none {N m y : Nat} {w σ : OS} (h : WR N m y w σ) {c : Nat} (hc : c < 64) (hn : ¬ tb (uni (σ.2.2.2 11) m) c = true) : gX4_dropCell w (nI c) ∧ WR N m y (fX4_dropCell w (nI c)) σ := by
  obtain ⟨d1, d2, d3⟩ := dropCell_eq h.1 h.2.1.1 c
  refine ⟨d1, h.drop d2 ⟨rfl, rfl, rfl, fun _ _ => rfl⟩ (V := σ.2.2.2 11) (fun p hp => ?_) (fun _ _ => rfl) h.2.2.2.2.2.2.2.2⟩
  rw [d3 p hp, h.2.2.2.2.2.1]
  have e : ∀ q, q < m → dc c (w.2.2.2 3) q = σ.2.2.2 11 q := fun q hq => by
    rw [← h.2.2.2.2.2.2.2.1 q hq]
    refine dc_id hc (fun g => hn ?_)
    rw [h.2.2.2.2.2.2.2.1 q hq] at g
    exact (uni_tb _ _ _).mpr ⟨q, hq, g⟩
  rw [dl_cong _ e hp]
  exact dl_id h.2.2.2.2.2.2.2.2.2 hp
theorem draw_sim {τ : TX} {m y n : Nat} (hn : n ≤ 40) (hy : y ≤ 999) {ξ : XS} {σ : OS} (h : WR τ.length m y ξ.2.1 σ) (hT : TXR τ σ) (seed : Int32) :
    gX5_countDrawn τ ξ seed (nI n) ∧ gX6_putDrawn σ seed (nI n) ∧ (fX5_countDrawn τ ξ seed (nI n)).1 = (fX6_putDrawn σ seed (nI n)).1 ∧ (∃ w', (fX5_countDrawn τ ξ seed (nI n)).2 = xT ξ w') ∧ ZF σ (fX6_putDrawn σ seed (nI n)).2 := by
  obtain ⟨g1, a1⟩ := aside_eq σ
  obtain ⟨b1, b2⟩ := become_eq ξ.2.1 ξ.2.2.1
  have L := lp_two (d := ((0 : Int32), xs0)) (body := bX5_countDrawn_16 τ (nI n)) (ok := kX5_countDrawn_16 τ (nI n)) (d' := ((0 : Int32), o0)) (body' := bX6_putDrawn_9 (nI n)) (ok' := kX6_putDrawn_9 (nI n))
    (fun k x v => ∃ (w' σ' : OS) (z : Int32) (t : Nat), x = (xT ξ w', z, nI t) ∧ v = (σ', z, nI t) ∧ t + k = n ∧ WR τ.length m (y + t) w' σ' ∧ TXR τ σ' ∧ YF (fX6_laysAside σ) σ')
    (fun r s => r.1 = s.1 ∧ (∃ w', r.2 = xT ξ w') ∧ ZF σ s.2) (by
    rintro k x v ⟨w', σ', z, t, rfl, rfl, htk, hw, hT', hY⟩ kR kO kR' kO' hk
    have e1 : ∀ u, (xT ξ u).2.2.1 = u := fun _ => rfl
    have e2 : ∀ u v, xT (xT ξ u) v = xT ξ v := fun _ _ => rfl
    unfold bX5_countDrawn_16 kX5_countDrawn_16 bX6_putDrawn_9 kX6_putDrawn_9 oX5_countDrawn_46 pX5_countDrawn_46 oX5_countDrawn_53 pX5_countDrawn_53 oX6_putDrawn_53 pX6_putDrawn_53 oX6_putDrawn_52 pX6_putDrawn_52 oX6_putDrawn_53 pX6_putDrawn_53 oX6_putDrawn_57 pX6_putDrawn_57 pX6_putDrawn_77
    simp only [e1, e2, nI_1]
    obtain ⟨s1, s2, s3, s4, s5, s6, s7, s8⟩ := hw.sets
    by_cases e0 : t < n
    · have c1 : ¬ nI n ≤ nI t := nI_ge e0 (by omega)
      obtain ⟨c, hc, ec⟩ := cell_z (z * 1103515245 + 12345)
      rw [ec, s6, has6 _ hc]
      by_cases e : tb (uni (σ'.2.2.2 11) m) c = true
      · obtain ⟨d1, d2, d3, d4, d5, d6, d7, d8⟩ := drop_fell hw hc
        obtain ⟨p1, p2, p3, p4, p5, -⟩ := pass_sim d3 (hT'.yf d4.yf) (by omega)
        have K := hk (k - 1) (xT ξ (fX4_passYear τ (fX4_dropCell w' (nI c))), z * 1103515245 + 12345, nI (t + 1)) ((fX6_passes (fX6_felled σ' (nI c)).2).2, z * 1103515245 + 12345, nI (t + 1)) (by omega) ⟨_, _, _, t + 1, rfl, rfl, by omega, p3, p4, (hY.tr d4.yf).tr p5⟩
        simp only [↓reduceIte, not_true_eq_false, not_false_eq_true, false_implies, true_implies, implies_true, true_and, and_true, and_self, eq_self, Bool.false_eq_true, c1, e, one_ne, s2, d1, d2, p1, p2, K.1, K.2.1]
        exact K.2.2
      · obtain ⟨d1, d3⟩ := drop_none hw hc e
        obtain ⟨p1, p2, p3, p4, p5, -⟩ := pass_sim d3 hT' (by omega)
        have K := hk (k - 1) (xT ξ (fX4_passYear τ (fX4_dropCell w' (nI c))), z * 1103515245 + 12345, nI (t + 1)) ((fX6_passes σ').2, z * 1103515245 + 12345, nI (t + 1)) (by omega) ⟨_, _, _, t + 1, rfl, rfl, by omega, p3, p4, hY.tr p5⟩
        simp only [↓reduceIte, not_true_eq_false, not_false_eq_true, false_implies, true_implies, implies_true, true_and, and_true, and_self, eq_self, Bool.false_eq_true, c1, e, s2, d1, p1, p2, K.1, K.2.1]
        exact K.2.2
    · have c1 : nI n ≤ nI t := nI_le (by omega) (by omega)
      obtain ⟨u1, u2⟩ := cu4_eq hw.1 hw.2.1.1
      obtain ⟨k1, k2⟩ := back_eq a1 hY
      simp only [↓reduceIte, not_true_eq_false, not_false_eq_true, false_implies, true_implies, implies_true, true_and, and_true, and_self, eq_self, Bool.false_eq_true, c1, u1, u2, s2, s6, (bitsOf_eq _).1, (bitsOf_eq _).2, k1, uni_cong hw.2.2.2.2.2.2.2.1]
      exact ⟨⟨w', rfl⟩, k2⟩) fu fu n (xT ξ (oB4 ξ.2.2.1 (fX4_become ξ.2.1 ξ.2.2.1)), seed, 0) (fX6_laysAside σ, seed, 0) ⟨_, _, seed, 0, rfl, rfl, by omega, (h.af a1).lk b2, hT.af a1, YF.rfl' _⟩ (by show n < 1000; omega) (by show n < 1000; omega)
  exact ⟨⟨b1, L.1⟩, ⟨g1, L.2.1⟩, L.2.2⟩
theorem ps_drawn : PS_drawn Rel := by
  intro τ ξ σ seed n h
  obtain ⟨m, y, hy, hw⟩ := h.1
  unfold gX5_drawn oX5_drawn_0 fX5_drawn pX5_drawn_0 pX5_drawn_15 gX6_drawn oX6_drawn_0 fX6_drawn pX6_drawn_0 pX6_drawn_18
  rcases wic n (m := 40) (by decide) with ⟨a, b⟩ | ⟨a, b, j, hj, rfl⟩
  · have a : fX5_within n 40 = 0 := a
    have b : fX6_in n.toInt64 0 40 = 0 := b
    simp only [↓reduceIte, not_true_eq_false, not_false_eq_true, false_implies, true_implies, implies_true, true_and, and_true, and_self, eq_self, Bool.false_eq_true, a, b]
    exact h
  · have a : fX5_within (nI j) 40 = 1 := a
    have b : fX6_in (nI j).toInt64 0 40 = 1 := b
    obtain ⟨d1, d2, d3, ⟨w', d4⟩, d5⟩ := draw_sim hj hy hw h.2.1 seed
    simp only [↓reduceIte, not_true_eq_false, not_false_eq_true, false_implies, true_implies, implies_true, true_and, and_true, and_self, eq_self, Bool.false_eq_true, a, b, one_ne, d1, d2, d3, d4]
    exact h.zf d5 w'
theorem in1 (x : Int32) {M : Nat} (hM : M < 2 ^ 31) : ((x < 1 ∨ nI M < x) ∧ fX6_in x.toInt64 1 (lN M) = 0) ∨ ((¬ x < 1 ∧ ¬ nI M < x) ∧ fX6_in x.toInt64 1 (lN M) = 1 ∧ ∃ j, 1 ≤ j ∧ j ≤ M ∧ x = nI j) := by
  have z1 : (1 : Int32).toInt = 1 := by decide
  have y1 : (1 : Int64).toInt = 1 := by decide
  have z0 : (0 : Int32).toInt = 0 := by decide
  have eM := nI_toInt hM
  have eL := lN_toInt hM
  unfold fX6_in pX6_in_0
  by_cases c0 : x < 1
  · left
    refine ⟨Or.inl c0, if_pos ?_⟩
    rw [i64_lt, Int32.toInt_toInt64, y1]
    rw [i32_lt, z1] at c0
    omega
  · have d0 : ¬ x.toInt64 < 1 := by
      rw [i64_lt, Int32.toInt_toInt64, y1]
      rw [i32_lt, z1] at c0
      omega
    rw [if_neg d0]
    by_cases c1 : nI M < x
    · left
      refine ⟨Or.inr c1, if_pos ?_⟩
      rw [i64_lt, Int32.toInt_toInt64, eL]
      rw [i32_lt, eM] at c1
      omega
    · right
      have c0' := c0
      rw [i32_lt, z1] at c0'
      have c1' := c1
      rw [i32_lt, eM] at c1'
      refine ⟨⟨c0, c1⟩, if_neg ?_, ?_⟩
      · rw [i64_lt, Int32.toInt_toInt64, eL]
        omega
      · obtain ⟨j, hj, rfl⟩ := nI_of (show ¬ x < 0 by rw [i32_lt]; omega)
        have ej := nI_toInt hj
        exact ⟨j, by omega, by omega, rfl⟩
theorem ps_chance : PS_chance Rel := by
  intro τ ξ σ seed n k p h
  unfold gX5_chance oX5_chance_0 fX5_chance pX5_chance_0 gX6_chance oX6_chance_0 fX6_chance pX6_chance_0
  rcases in1 n (M := 20) (by decide) with ⟨c, e⟩ | ⟨⟨c1, c2⟩, e, j, hj1, hj, rfl⟩
  · have e : fX6_in n.toInt64 1 20 = 0 := e
    have c : n < 1 ∨ 20 < n := c
    by_cases c0 : n < 1
    · simp only [↓reduceIte, not_true_eq_false, not_false_eq_true, false_implies, true_implies, implies_true, true_and, and_true, and_self, eq_self, Bool.false_eq_true, c0, e]
      exact h
    · simp only [↓reduceIte, not_true_eq_false, not_false_eq_true, false_implies, true_implies, implies_true, true_and, and_true, and_self, eq_self, Bool.false_eq_true, c0, c.resolve_left c0, e]
      exact h
  · have e : fX6_in (nI j).toInt64 1 20 = 1 := e
    have c2 : ¬ 20 < nI j := c2
    rcases wic k (m := 64) (by decide) with ⟨a, b⟩ | ⟨a, b, -⟩
    · have a : fX5_within k 64 = 0 := a
      have b : fX6_in k.toInt64 0 64 = 0 := b
      simp only [↓reduceIte, not_true_eq_false, not_false_eq_true, false_implies, true_implies, implies_true, true_and, and_true, and_self, eq_self, Bool.false_eq_true, c1, c2, e, one_ne, a, b]
      exact h
    · have a : fX5_within k 64 = 1 := a
      have b : fX6_in k.toInt64 0 64 = 1 := b
      rcases wic p (m := 1) (by decide) with ⟨a', b'⟩ | ⟨a', b', -⟩
      · have a' : fX5_within p 1 = 0 := a'
        have b' : fX6_in p.toInt64 0 1 = 0 := b'
        simp only [↓reduceIte, not_true_eq_false, not_false_eq_true, false_implies, true_implies, implies_true, true_and, and_true, and_self, eq_self, Bool.false_eq_true, c1, c2, e, one_ne, a, b, a', b']
        exact h
      · have a' : fX5_within p 1 = 1 := a'
        have b' : fX6_in p.toInt64 0 1 = 1 := b'
        have L := lp_two (d := ((0 : Int64), xs0)) (body := bX5_chance_39 τ seed (nI j) k p) (ok := kX5_chance_39 τ seed (nI j) k p) (d' := ((0 : Int64), o0)) (body' := bX6_chance_45 seed (nI j) k p) (ok' := kX6_chance_45 seed (nI j) k p)
          (fun q x v => ∃ (ξ' : XS) (σ' : OS) (f t : Nat), x = (ξ', nI f, nI t) ∧ v = (σ', lN f, nI t) ∧ t + q = j ∧ f ≤ t ∧ Rel τ ξ' σ')
          (fun r s => r.1 = s.1 ∧ Rel τ r.2 s.2) (by
          rintro q x v ⟨ξ', σ', f, t, rfl, rfl, htq, hft, hR⟩ kR kO kR' kO' hk
          obtain ⟨m, y, hy, hw⟩ := hR.1
          unfold bX5_chance_39 kX5_chance_39 bX6_chance_45 kX6_chance_45 oX5_chance_55 pX5_chance_55 oX5_chance_62 pX5_chance_62 oX6_chance_63 pX6_chance_63 oX6_chance_72 pX6_chance_72
          have e0l : lN f + 0 = lN f := lN_add f 0
          simp only [nI_1, lN_1, e0l]
          by_cases e0 : t < j
          · have d0 : ¬ nI j ≤ nI t := nI_ge e0 (by omega)
            obtain ⟨d1, d2, d3, ⟨w', d4⟩, d5⟩ := draw_sim (n := 10) (by decide) hy hw hR.2.1 (seed + nI t)
            have d1 : gX5_countDrawn τ ξ' (seed + nI t) 10 := d1
            have d2 : gX6_putDrawn σ' (seed + nI t) 10 := d2
            have d3 : (fX5_countDrawn τ ξ' (seed + nI t) 10).1 = (fX6_putDrawn σ' (seed + nI t) 10).1 := d3
            have d4 : (fX5_countDrawn τ ξ' (seed + nI t) 10).2 = xT ξ' w' := d4
            have d5 : ZF σ' (fX6_putDrawn σ' (seed + nI t) 10).2 := d5
            rw [d3, d4]
            by_cases lt : (fX6_putDrawn σ' (seed + nI t) 10).1 < k
            · have K := hk (q - 1) (xT ξ' w', nI f, nI (t + 1)) ((fX6_putDrawn σ' (seed + nI t) 10).2, lN f, nI (t + 1)) (by omega) ⟨_, _, f, t + 1, rfl, rfl, by omega, by omega, hR.zf d5 w'⟩
              simp only [↓reduceIte, not_true_eq_false, not_false_eq_true, false_implies, true_implies, implies_true, true_and, and_true, and_self, eq_self, Bool.false_eq_true, d0, d1, d2, lt]
              exact K
            · have K := hk (q - 1) (xT ξ' w', nI (f + 1), nI (t + 1)) ((fX6_putDrawn σ' (seed + nI t) 10).2, lN (f + 1), nI (t + 1)) (by omega) ⟨_, _, f + 1, t + 1, rfl, rfl, by omega, by omega, hR.zf d5 w'⟩
              simp only [↓reduceIte, not_true_eq_false, not_false_eq_true, false_implies, true_implies, implies_true, true_and, and_true, and_self, eq_self, Bool.false_eq_true, d0, d1, d2, lt]
              exact K
          · have d0 : nI j ≤ nI t := nI_le (by omega) (by omega)
            obtain ⟨l1, l2, l3⟩ := low_eq (a := f) (b := j) (by omega) (by omega) (by omega) p
            rw [nI_l (show j < 2 ^ 31 by omega)]
            simp only [↓reduceIte, not_true_eq_false, not_false_eq_true, false_implies, true_implies, implies_true, true_and, and_true, and_self, eq_self, Bool.false_eq_true, d0, l1, l2, l3]
            exact hR) fu fu j (ξ, 0, 0) (σ, 0, 0) ⟨ξ, σ, 0, 0, rfl, rfl, by omega, by omega, h⟩ (by show j < 1000; omega) (by show j < 1000; omega)
        simp only [↓reduceIte, not_true_eq_false, not_false_eq_true, false_implies, true_implies, implies_true, true_and, and_true, and_self, eq_self, Bool.false_eq_true, c1, c2, e, one_ne, a, b, a', b', L.1, L.2.1]
        exact L.2.2
theorem oS_n (s : OS) {k j : Nat} (i : Nat) (x : Int32) (h : ¬ j = k) : (oS s k i x).2.2.1 j = s.2.2.1 j := up_n _ _ h
/-- another row of items -/
def r40 (σ : OS) (R : Nat → Int32) : OS := (σ.1, σ.2.1, va_up σ.2.2.1 40 R, σ.2.2.2)
theorem r40_s (σ : OS) (R : Nat → Int32) : (r40 σ R).2.2.1 40 = R := up_s σ.2.2.1 40 R
theorem r40_n (σ : OS) (R : Nat → Int32) {k : Nat} (h : ¬ k = 40) : (r40 σ R).2.2.1 k = σ.2.2.1 k := up_n σ.2.2.1 R h
theorem AF.r40 {σ s : OS} (h : AF σ s) (R : Nat → Int32) : AF (r40 σ R) (r40 s R) := by
  obtain ⟨a1, a2, a3, a4, a5, a6, a7, a8⟩ := h
  refine ⟨a1, a2, fun k hk => ?_, a4, fun i hi => a5 i hi, a6, a7, a8⟩
  show va_up s.2.2.1 40 R k = va_up σ.2.2.1 40 R k
  by_cases e : k = 40
  · subst e; rw [up_s, up_s]
  · rw [up_n _ _ e, up_n _ _ e]; exact a3 k hk
theorem Rel.sheets {τ : TX} {ξ ξ' : XS} {σ σ' : OS} (h : Rel τ ξ σ) (hx : ξ'.1 = ξ.1 ∧ ξ'.2.1 = ξ.2.1 ∧ ξ'.2.2.2.1 = ξ.2.2.2.1 ∧ ξ'.2.2.2.2.1 = ξ.2.2.2.2.1) (h1 : σ'.1 = σ.1) (h2 : σ'.2.1 = σ.2.1) (h3 : ∀ k, ¬ (37 ≤ k ∧ k ≤ 40) → σ'.2.2.1 k = σ.2.2.1 k) (h4 : σ'.2.2.2 = σ.2.2.2) (ho : ∀ r, r < 4 → SHR (ξ'.2.2.2.2.2 r) r σ') : Rel τ ξ' σ' := by
  obtain ⟨⟨m, y, hy, hw⟩, b, c, d, e, f⟩ := h
  obtain ⟨x1, x2, x3, x4⟩ := hx
  refine ⟨⟨m, y, hy, ?_⟩, b.move (by rw [h1]) (h3 1 (by omega)) (h3 2 (by omega)), by rw [x1]; exact c, ?_, ?_, ho⟩
  · rw [x2]
    exact hw.ref (by rw [h1]) (by rw [h1]) (by rw [h1]) (by rw [h1]) (by rw [h2]) (fun i _ => by rw [h3 10 (by omega)]) (fun p _ => by rw [h4])
  · rw [x4]
    unfold TP
    rw [h1, h3 5 (by omega)]
    exact d
  · unfold KR
    rw [x1, x3, kep_eq (fun j _ _ => by rw [h1]) (by rw [h2]) (h3 30 (by omega)) (by rw [h4]), h1]
    exact e
theorem cut0 : ∀ c, c ≤ 64 → cut 0 (nI c) = nI c := by
  have h : ((List.range 65).all fun c => decide (cut 0 (nI c) = nI c)) = true := by decide +kernel
  exact fun c hc => of_decide_eq_true (List.all_eq_true.mp h c (List.mem_range.mpr (by omega)))
theorem ps_film : PS_film Rel := by
  intro τ ξ σ x p n h
  obtain ⟨m, y, hy, hw⟩ := h.1
  obtain ⟨g, ho⟩ := onec (τ := τ) hw.1 hw.2.1.1 hw.2.1.2 p
  unfold gX5_film oX5_film_0 fX5_film pX5_film_0 oX5_film_42 pX5_film_42 oX5_film_53 pX5_film_53 gX6_film oX6_film_0 fX6_film pX6_film_0 oX6_film_37 pX6_film_37 oX6_film_42 pX6_film_42
  obtain ⟨g1, g2, ⟨a, b⟩ | ⟨a, b, s, hs, rfl, sc, vs⟩⟩ := shc x
  · simp only [↓reduceIte, not_true_eq_false, not_false_eq_true, false_implies, true_implies, implies_true, true_and, and_true, and_self, eq_self, Bool.false_eq_true, g1, g2, a, b]
    exact h
  · rw [sc]
    rcases ho with ⟨o1, o2⟩ | ⟨o1, o2, p, hp, rfl⟩
    · simp only [↓reduceIte, not_true_eq_false, not_false_eq_true, false_implies, true_implies, implies_true, true_and, and_true, and_self, eq_self, Bool.false_eq_true, g1, g2, a, b, one_ne, g, o1, o2]
      exact h
    · rcases wic n (m := 20) (by decide) with ⟨a1, b1⟩ | ⟨a1, b1, z, hz, rfl⟩
      · have a1 : fX5_within n 20 = 0 := a1
        have b1 : fX6_in n.toInt64 0 20 = 0 := b1
        simp only [↓reduceIte, not_true_eq_false, not_false_eq_true, false_implies, true_implies, implies_true, true_and, and_true, and_self, eq_self, Bool.false_eq_true, g1, g2, a, b, one_ne, g, o1, o2, a1, b1]
        exact h
      · have a1 : fX5_within (nI z) 20 = 1 := a1
        have b1 : fX6_in (nI z).toInt64 0 20 = 1 := b1
        have m5 := hw.1
        have pc : (nI p).toNatClampNeg = p := nI_clamp (by omega)
        have vp5 : vp_in (nI p) 5 := vp_in_nI (by omega) (by decide)
        obtain ⟨q1, q2, q3, q4⟩ := sbe_eq (ξ.2.2.2.2.2 s) 0 (nI z)
        obtain ⟨m1, m2, m3, m4, m5', m6, m7⟩ := mkS_eq (σ := σ) hs (k := 0) (by decide) (show z ≤ 40 by omega)
        have m1 : gX6_sheet σ (nI s) 0 (nI z) := m1
        have m3 : (fX6_sheet σ (nI s) 0 (nI z)).2.1 = σ.1 := m3
        have m4 : (fX6_sheet σ (nI s) 0 (nI z)).2.2.1 = σ.2.1 := m4
        have m5' : (fX6_sheet σ (nI s) 0 (nI z)).2.2.2.2 = σ.2.2.2 := m5'
        have m6 : ∀ j, ¬ j = 40 → (fX6_sheet σ (nI s) 0 (nI z)).2.2.2.1 j = (S3 σ s 1 (nI 0) (nI z)).2.2.1 j := m6
        have m7 : ∀ j, (fX6_sheet σ (nI s) 0 (nI z)).2.2.2.1 40 j = if 40 * s ≤ j ∧ j < 40 * s + z then 0 else σ.2.2.1 40 j := m7
        obtain ⟨r1, r2, r3, r4⟩ := S3_rows σ s 1 (nI 0) (nI z)
        generalize hσ1 : (fX6_sheet σ (nI s) 0 (nI z)).2 = σ1 at *
        obtain ⟨ga, af⟩ := aside_eq σ1
        obtain ⟨gb, lk⟩ := become_eq ξ.2.1 ξ.2.2.1
        have W1 : WR τ.length m y ξ.2.1 σ1 := hw.ref (by rw [m3]) (by rw [m3]) (by rw [m3]) (by rw [m3]) (by rw [m4]) (fun i _ => by rw [m6 10 (by decide), r4 10 (by omega)]) (fun p _ => by rw [m5'])
        have T1 : TXR τ σ1 := h.2.1.move (by rw [m3]) (by rw [m6 1 (by decide), r4 1 (by omega)]) (by rw [m6 2 (by decide), r4 2 (by omega)])
        have e5 : (xS ξ s (fX1_become (ξ.2.2.2.2.2 s) 0 (nI z))).2.2.1 = ξ.2.2.1 := rfl
        have e6 : (xS ξ s (fX1_become (ξ.2.2.2.2.2 s) 0 (nI z))).2.1 = ξ.2.1 := rfl
        simp only [e5, e6]
        clear e5 e6
        generalize fX1_become (ξ.2.2.2.2.2 s) 0 (nI z) = X0 at *
        generalize oB4 ξ.2.2.1 (fX4_become ξ.2.1 ξ.2.2.1) = w0 at *
        generalize fX6_laysAside σ1 = σ2 at *
        have L := lp_two (d := ((0 : Int32), xs0)) (body := bX5_film_56 τ s (nI p) (nI z)) (ok := kX5_film_56 τ s (nI p) (nI z)) (d' := ((0 : Int32), o0)) (body' := bX6_film_45 (nI s) (nI p) (nI z)) (ok' := kX6_film_45 (nI s) (nI p) (nI z))
          (fun k x v => ∃ (ξ' : XS) (σ' : OS) (t : Nat), x = (ξ', nI t) ∧ v = (σ', nI t) ∧ t + k = z ∧ (ξ'.1 = ξ.1 ∧ ξ'.2.1 = ξ.2.1 ∧ ξ'.2.2.2.1 = ξ.2.2.2.1 ∧ ξ'.2.2.2.2.1 = ξ.2.2.2.2.1) ∧ (∀ r, ¬ r = s → ξ'.2.2.2.2.2 r = ξ.2.2.2.2.2 r) ∧ WR τ.length m (y + t) ξ'.2.2.1 σ' ∧ TXR τ σ' ∧ YF (r40 σ2 (σ'.2.2.1 40)) σ' ∧ ((ξ'.2.2.2.2.2 s).1 1 = nI 0 ∧ (ξ'.2.2.2.2.2 s).1 2 = nI z ∧ ∀ i, i < z → (ξ'.2.2.2.2.2 s).2.2.1 0 i = σ'.2.2.1 40 (40 * s + i)) ∧ ∀ j, ¬ (40 * s ≤ j ∧ j < 40 * s + 40) → σ'.2.2.1 40 j = σ.2.2.1 40 j)
          (fun r u => r.1 = u.1 ∧ Rel τ r.2 u.2) (by
          rintro k x v ⟨ξ', σ', t, rfl, rfl, htk, hx, hxs, hW, hTx, hY, ⟨i1, i2, i3⟩, hj⟩ kR kO kR' kO' hk
          unfold bX5_film_56 kX5_film_56 bX6_film_45 kX6_film_45 oX5_film_69 pX5_film_69 oX5_film_88 pX5_film_88 oX6_film_55 pX6_film_55 pX6_film_87
          simp only [nI_1, pc]
          by_cases e0 : t < z
          · have c1 : ¬ nI z ≤ nI t := nI_ge e0 (by omega)
            obtain ⟨p1, p2, p3, p4, p5, -⟩ := pass_sim hW hTx (by omega)
            obtain ⟨f1, f2, f3⟩ := forty hs (show t < 40 by omega)
            have e8 := p3.2.2.2.2.2.2.2.1 p hp
            have hle := pcn_le ((fX6_passes σ').2.2.2.2 11 p)
            have ex : ∀ u, (xT ξ' u).2.2.1 = u := fun _ => rfl
            have ey : ∀ u, (xT ξ' u).2.2.2.2.2 s = ξ'.2.2.2.2.2 s := fun _ => rfl
            obtain ⟨u1, u2⟩ := sput_eq (x := ξ'.2.2.2.2.2 s) (k := 0) (i := t) (by decide) i1 (by omega) (nI (pcn ((fX6_passes σ').2.2.2.2 11 p)))
            rw [cut0 _ hle] at u2
            simp only [ex, ey]
            rw [e8, bitCount_eq, (bitsOf_eq _).1, u2]
            have row : (oS (fX6_passes σ').2 40 (40 * s + t) (nI (pcn ((fX6_passes σ').2.2.2.2 11 p)))).2.2.1 40 = upd ((fX6_passes σ').2.2.2.1 40) (40 * s + t) (nI (pcn ((fX6_passes σ').2.2.2.2 11 p))) := oS_row _ _ _ _
            have row40 : (fX6_passes σ').2.2.2.1 40 = σ'.2.2.1 40 := p5.2.2.1 40 (by decide)
            rw [row40] at row
            have K := hk (k - 1) (xS (xT ξ' (fX4_passYear τ ξ'.2.2.1)) s (oS (ξ'.2.2.2.2.2 s) 0 t (nI (pcn ((fX6_passes σ').2.2.2.2 11 p)))), nI (t + 1)) (oS (fX6_passes σ').2 40 (40 * s + t) (nI (pcn ((fX6_passes σ').2.2.2.2 11 p))), nI (t + 1)) (by omega) ⟨_, _, t + 1, rfl, rfl, by omega, hx, fun r hr => (up_n _ _ hr).trans (hxs r hr), ?_, p4.move rfl (oS_n _ _ _ (by decide)) (oS_n _ _ _ (by decide)), ?_, ⟨?_, ?_, fun i hi => ?_⟩, fun j hj' => ?_⟩
            · simp only [↓reduceIte, not_true_eq_false, not_false_eq_true, false_implies, true_implies, implies_true, true_and, and_true, and_self, eq_self, Bool.false_eq_true, c1, p1, p2, hs, u1, vp5, f2, f3, (bitsOf_eq _).2, K.1, K.2.1]
              exact K.2.2
            · show WR τ.length m (y + t + 1) (fX4_passYear τ ξ'.2.2.1) (oS (fX6_passes σ').2 40 (40 * s + t) (nI (pcn ((fX6_passes σ').2.2.2.2 11 p))))
              exact p3.ref rfl rfl rfl rfl rfl (fun i _ => by rw [oS_n _ _ _ (by decide)]) (fun _ _ => rfl)
            · refine ⟨fun j a b c => (p5.1 j a b c).trans (hY.1 j a b c), fun j a => (p5.2.1 j a).trans (hY.2.1 j a), fun k hk10 => ?_, fun k a => (p5.2.2.2 k a).trans (hY.2.2.2 k a)⟩
              by_cases k40 : k = 40
              · subst k40
                exact (r40_s _ _).symm
              · have q1 : (oS (fX6_passes σ').2 40 (40 * s + t) (nI (pcn ((fX6_passes σ').2.2.2.2 11 p)))).2.2.1 k = (fX6_passes σ').2.2.2.1 k := up_n _ _ k40
                have q2 := hY.2.2.1 k hk10
                have q3 : (r40 σ2 (σ'.2.2.1 40)).2.2.1 k = σ2.2.2.1 k := up_n _ _ k40
                rw [q1, p5.2.2.1 k hk10, q2, q3]
                show _ = va_up _ 40 _ k
                rw [up_n _ _ k40]
            · show (va_up ξ'.2.2.2.2.2 s (oS (ξ'.2.2.2.2.2 s) 0 t (nI (pcn ((fX6_passes σ').2.2.2.2 11 p)))) s).1 1 = _
              rw [up_s]; exact i1
            · show (va_up ξ'.2.2.2.2.2 s (oS (ξ'.2.2.2.2.2 s) 0 t (nI (pcn ((fX6_passes σ').2.2.2.2 11 p)))) s).1 2 = _
              rw [up_s]; exact i2
            · show (va_up ξ'.2.2.2.2.2 s (oS (ξ'.2.2.2.2.2 s) 0 t (nI (pcn ((fX6_passes σ').2.2.2.2 11 p)))) s).2.2.1 0 i = _
              rw [up_s, oS_row, row]
              by_cases q : i = t
              · subst q; rw [ud_s, ud_s]
              · rw [ud_n _ _ q, ud_n _ _ (by omega)]; exact i3 i hi
            · rw [row, ud_n _ _ (by omega)]; exact hj j hj'
          · have c1 : nI z ≤ nI t := nI_le (by omega) (by omega)
            obtain ⟨k1, k2⟩ := back_eq (af.r40 (σ'.2.2.1 40)) hY
            simp only [↓reduceIte, not_true_eq_false, not_false_eq_true, false_implies, true_implies, implies_true, true_and, and_true, and_self, eq_self, Bool.false_eq_true, c1, k1]
            have R1 : Rel τ ξ' (r40 σ1 (σ'.2.2.1 40)) := by
              refine h.sheets hx m3 m4 (fun k hk => ?_) m5' (fun r hr => ?_)
              · rw [r40_n _ _ (by omega), m6 k (by omega), r4 k (by omega)]
              · have k37 : (r40 σ1 (σ'.2.2.1 40)).2.2.1 37 = upd (σ.2.2.1 37) s 1 := by
                  rw [r40_n _ _ (by decide), m6 37 (by decide), r1]
                have k38 : (r40 σ1 (σ'.2.2.1 40)).2.2.1 38 = upd (σ.2.2.1 38) s (nI 0) := by
                  rw [r40_n _ _ (by decide), m6 38 (by decide), r2]
                have k39 : (r40 σ1 (σ'.2.2.1 40)).2.2.1 39 = upd (σ.2.2.1 39) s (nI z) := by
                  rw [r40_n _ _ (by decide), m6 39 (by decide), r3]
                have k40 : (r40 σ1 (σ'.2.2.1 40)).2.2.1 40 = σ'.2.2.1 40 := r40_s _ _
                by_cases q : r = s
                · subst q
                  exact Or.inr ⟨0, z, by decide, by omega, i1, by rw [k37, ud_s], by rw [k38, ud_s], i2, by rw [k39, ud_s], fun i hi => by rw [k40]; exact i3 i hi⟩
                · rw [hxs r q]
                  exact (h.2.2.2.2.2 r hr).other (by rw [k37, ud_n _ _ q]) (by rw [k38, ud_n _ _ q]) (by rw [k39, ud_n _ _ q]) (fun i hi => by rw [k40]; exact hj _ (by omega))
            exact R1.zf' k2) fu fu z (xT (xS ξ s X0) w0, 0) (σ2, 0) ⟨xT (xS ξ s X0) w0, σ2, 0, rfl, rfl, by omega, ⟨rfl, rfl, rfl, rfl⟩, fun r hr => up_n _ _ hr, (W1.af af).lk lk, T1.af af, ⟨fun _ _ _ _ => rfl, fun _ _ => rfl, fun k _ => ?_, fun _ _ => rfl⟩, ⟨?_, ?_, fun i hi => ?_⟩, fun j hj => ?_⟩ (by show z < 1000; omega) (by show z < 1000; omega)
        · simp only [↓reduceIte, not_true_eq_false, not_false_eq_true, false_implies, true_implies, implies_true, true_and, and_true, and_self, eq_self, Bool.false_eq_true, g1, g2, a, b, one_ne, g, o1, o2, a1, b1, vs, hs, q1, gb, m1, ga, L.1, L.2.1]
          exact L.2.2
        · show _ = va_up _ 40 _ k
          by_cases k40 : k = 40
          · subst k40; rw [up_s]
          · rw [up_n _ _ k40]
        · show (va_up ξ.2.2.2.2.2 s _ s).1 1 = _
          rw [up_s]; exact q2
        · show (va_up ξ.2.2.2.2.2 s _ s).1 2 = _
          rw [up_s]; exact q3
        · show (va_up ξ.2.2.2.2.2 s _ s).2.2.1 0 i = _
          rw [up_s, q4 i (by omega), af.2.2.1 40 (by decide), m7, if_pos (by omega)]
        · rw [af.2.2.1 40 (by decide), m7, if_neg (by omega)]
end

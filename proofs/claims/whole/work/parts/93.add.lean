section
/-- which is best, one behind the other -/
def spA (c0 : Nat) (can : Nat → Bool) (V : Nat → Nat) : Nat → Nat × Int32
  | 0 => (c0, -1)
  | k + 1 => if can k = true then (if V k ≤ (spA c0 can V k).1 then spA c0 can V k else (V k, nI (100 * (k / 64) + k % 64))) else spA c0 can V k
theorem spA_le {c0 : Nat} {can : Nat → Bool} {V : Nat → Nat} (h0 : c0 ≤ 64) (hV : ∀ k, V k ≤ 64) : ∀ k, (spA c0 can V k).1 ≤ 64
  | 0 => h0
  | k + 1 => by
    unfold spA
    split
    · split
      · exact spA_le h0 hV k
      · exact hV k
    · exact spA_le h0 hV k
theorem PI.or0 {m : Nat} {h : Int64} {U : Nat → Int64} (d : PI m h U) (p : Nat) : PI m h (vp_updL U p (U p ||| 0)) := d.cong (fun q hq => by
  by_cases e : q = p
  · subst e
    rw [uL_s]
    exact tb_ext (fun i _ => by rw [tb_or, tb_0, Bool.or_false])
  · rw [uL_n _ _ e])
theorem ps_add : PS_add Rel := by
  intro τ ξ σ x n z h
  obtain ⟨m, y, hy, hw⟩ := h.1
  have m5 := hw.1
  obtain ⟨g, ho⟩ := onec (τ := τ) hw.1 hw.2.1.1 hw.2.1.2 x
  unfold gX5_add oX5_add_0 fX5_add pX5_add_0 gX6_add oX6_add_0 fX6_add pX6_add_0
  rcases ho with ⟨o1, o2⟩ | ⟨o1, o2, p, hp, rfl⟩
  · simp only [↓reduceIte, not_true_eq_false, not_false_eq_true, false_implies, true_implies, implies_true, true_and, and_true, and_self, eq_self, Bool.false_eq_true, g, o1, o2]
    exact h
  · rcases in1 n (M := 20) (by decide) with ⟨c, e⟩ | ⟨⟨c1, c2⟩, e, j, hj1, hj, rfl⟩
    · have e : fX6_in n.toInt64 1 20 = 0 := e
      have c : n < 1 ∨ 20 < n := c
      by_cases c0 : n < 1
      · simp only [↓reduceIte, not_true_eq_false, not_false_eq_true, false_implies, true_implies, implies_true, true_and, and_true, and_self, eq_self, Bool.false_eq_true, g, o1, o2, one_ne, c0, e]
        exact h
      · simp only [↓reduceIte, not_true_eq_false, not_false_eq_true, false_implies, true_implies, implies_true, true_and, and_true, and_self, eq_self, Bool.false_eq_true, g, o1, o2, one_ne, c0, c.resolve_left c0, e]
        exact h
    · have e : fX6_in (nI j).toInt64 1 20 = 1 := e
      have c2 : ¬ 20 < nI j := c2
      rcases wic z (m := 1) (by decide) with ⟨a, b⟩ | ⟨a, b, -⟩
      · have a : fX5_within z 1 = 0 := a
        have b : fX6_in z.toInt64 0 1 = 0 := b
        simp only [↓reduceIte, not_true_eq_false, not_false_eq_true, false_implies, true_implies, implies_true, true_and, and_true, and_self, eq_self, Bool.false_eq_true, g, o1, o2, one_ne, c1, c2, e, a, b]
        exact h
      · have a : fX5_within z 1 = 1 := a
        have b : fX6_in z.toInt64 0 1 = 1 := b
        have pc : (nI p).toNatClampNeg = p := nI_clamp (by omega)
        have vp5 : vp_in (nI p) 5 := vp_in_nI (by omega) (by decide)
        -- the candidates
        generalize hO : σ.2.1 9 ||| uni (σ.2.2.2 11) m = O
        let can : Nat → Bool := fun k => tb (fX3_places (nI (k / 64)) O) (k % 64)
        let V : Nat → Nat := fun k => ct m (oT σ 11 p (σ.2.2.2 11 p ||| fX3_cellsOf (nI (k / 64)) (nI (k % 64)))) j
        have V64 : ∀ k, V k ≤ 64 := fun k => pcn_le _
        have hPI : ∀ k, k < 384 → can k = true → PI m (σ.2.1 9) (vp_updL (σ.2.2.2 11) p (σ.2.2.2 11 p ||| fX3_cellsOf (nI (k / 64)) (nI (k % 64)))) := fun k hk hc => up_PI hw.2.2.2.2.2.2.2.2 (by omega) (by omega) hp (by rw [hO]; exact hc)
        have c0le : ct m σ j ≤ 64 := pcn_le _
        generalize hSP : spA (ct m σ j) can V = SP
        have SP0 : SP 0 = (ct m σ j, -1) := by rw [← hSP]; rfl
        have SPs : ∀ k, SP (k + 1) = if can k = true then (if V k ≤ (SP k).1 then SP k else (V k, nI (100 * (k / 64) + k % 64))) else SP k := fun k => by rw [← hSP]; rfl
        have SP64 : ∀ k, (SP k).1 ≤ 64 := fun k => by rw [← hSP]; exact spA_le c0le V64 k
        -- the reference
        obtain ⟨pb1, pb2, pb3⟩ := pb_eq (n := j) (by omega) hy hw h.2.1 hp (hw.2.2.2.2.2.2.2.2.or0 p)
        have ct0 : ct m (oT σ 11 p (σ.2.2.2 11 p ||| 0)) j = ct m σ j := by
          refine (ct_same (σ' := oT σ 11 p (σ.2.2.2 11 p ||| 0)) hy hw h.2.1 (hw.ref rfl rfl rfl rfl rfl (fun _ _ => rfl) (fun q _ => ?_)) (h.2.1.yf (row11_of σ p _)) (t := j) (by omega)).symm
          rw [oT_row]
          by_cases eq : q = p
          · subst eq; rw [uL_s]; exact tb_ext (fun i _ => by rw [tb_or, tb_0, Bool.or_false])
          · rw [uL_n _ _ eq]
        rw [ct0] at pb2
        have hw1 := hw.zf pb3
        obtain ⟨-, -, -, s4, -, -, -, s8⟩ := hw1.sets
        have eO : fX6_stands (fX6_putBehind σ (nI p) 0 (nI j)).2 = O := by
          rw [s8, pb3.2.1 9 (by decide), uni_cong (fun q hq => pb3.2.2.2.2.2 q (by omega)), hO]
        have Lr : lpOk (kX6_add_54 (nI p) (nI j) z O) fu ((fX6_putBehind σ (nI p) 0 (nI j)).2, -1, nI (ct m σ j), 0) ∧ ((lp (0, o0) (bX6_add_54 (nI p) (nI j) z O) fu ((fX6_putBehind σ (nI p) 0 (nI j)).2, -1, nI (ct m σ j), 0)).1 = (if z = 0 then (SP 384).2 else nI (SP 384).1) ∧ ZF σ (lp (0, o0) (bX6_add_54 (nI p) (nI j) z O) fu ((fX6_putBehind σ (nI p) 0 (nI j)).2, -1, nI (ct m σ j), 0)).2) := by
          refine lp_one (d := ((0 : Int32), o0)) (body := bX6_add_54 (nI p) (nI j) z O) (ok := kX6_add_54 (nI p) (nI j) z O) (fun q v => ∃ t σ', v = (σ', (SP t).2, nI (SP t).1, nI t) ∧ t + q = 384 ∧ ZF σ σ') (fun r => r.1 = (if z = 0 then (SP 384).2 else nI (SP 384).1) ∧ ZF σ r.2) ?_ fu 384 _ ⟨0, _, by rw [SP0]; rfl, by omega, pb3⟩ (by decide)
          rintro q v ⟨t, σ', rfl, htq, hZ⟩ kR kO hk
          unfold bX6_add_54 kX6_add_54 oX6_add_95 pX6_add_95 oX6_add_124 pX6_add_124
          simp only [nI_1]
          by_cases e0 : t < 384
          · have d1 : ¬ (384 : Int32) ≤ nI t := nI_ge (b := 384) e0 (by decide)
            obtain ⟨v1, v2⟩ := dm64 t e0
            rw [v2, v1]
            have ht6 : t / 64 < 6 := by omega
            have ht64 : t % 64 < 64 := by omega
            by_cases cc : can t = true
            · have cz : fX6_can (fX6_partAt (nI (t / 64)) (nI (t % 64))) O = 1 := by rw [can_eq O ht6 ht64]; exact if_pos cc
              have ec := part_cells (o := O) ht6 ht64 (by rw [cz]; exact one_ne)
              have hP' : PI m (σ'.2.1 9) (vp_updL (σ'.2.2.2 11) p (σ'.2.2.2 11 p ||| fX3_cellsOf (nI (t / 64)) (nI (t % 64)))) := by
                rw [hZ.2.1 9 (by decide)]
                refine (hPI t e0 cc).cong (fun r hr => ?_)
                by_cases er : r = p
                · subst er; rw [uL_s, uL_s, hZ.2.2.2.2.2 r (by omega)]
                · rw [uL_n _ _ er, uL_n _ _ er, hZ.2.2.2.2.2 r (by omega)]
              obtain ⟨q1, q2, q3⟩ := pb_eq (n := j) (by omega) hy (hw.zf hZ) (h.2.1.zf hZ) hp hP'
              have eV : ct m (oT σ' 11 p (σ'.2.2.2 11 p ||| fX3_cellsOf (nI (t / 64)) (nI (t % 64)))) j = V t := by
                have A := hw.put hp (hPI t e0 cc)
                have B := (hw.zf hZ).put hp hP'
                rw [hZ.2.2.2.2.2 p (by omega)] at B ⊢
                exact ct_same hy B ((h.2.1.zf hZ).yf (row11_of _ _ _)) A (h.2.1.yf (row11_of _ _ _)) (by omega)
              rw [eV] at q2
              rw [ec, q2]
              rw [ec] at cz
              have hS := SPs t
              rw [if_pos cc] at hS
              have e100 : 100 * nI (t / 64) + nI (t % 64) = nI (100 * (t / 64) + t % 64) := by rw [show (100 : Int32) = nI 100 from rfl, nI_mul, nI_add]
              rw [e100]
              by_cases lt : V t ≤ (SP t).1
              · have l1 : nI (V t) ≤ nI (SP t).1 := nI_le lt (by have := SP64 t; omega)
                rw [if_pos lt] at hS
                have K := hk (q - 1) ((fX6_putBehind σ' (nI p) (fX3_cellsOf (nI (t / 64)) (nI (t % 64))) (nI j)).2, (SP t).2, nI (SP t).1, nI (t + 1)) (by omega) ⟨t + 1, _, by rw [hS], by omega, hZ.tr q3⟩
                simp only [↓reduceIte, not_true_eq_false, not_false_eq_true, false_implies, true_implies, implies_true, true_and, and_true, and_self, eq_self, Bool.false_eq_true, d1, cz, one_ne, q1, l1]
                exact K
              · have l1 : ¬ nI (V t) ≤ nI (SP t).1 := nI_ge (by omega) (by have := V64 t; omega)
                rw [if_neg lt] at hS
                have K := hk (q - 1) ((fX6_putBehind σ' (nI p) (fX3_cellsOf (nI (t / 64)) (nI (t % 64))) (nI j)).2, nI (100 * (t / 64) + t % 64), nI (V t), nI (t + 1)) (by omega) ⟨t + 1, _, by rw [hS], by omega, hZ.tr q3⟩
                simp only [↓reduceIte, not_true_eq_false, not_false_eq_true, false_implies, true_implies, implies_true, true_and, and_true, and_self, eq_self, Bool.false_eq_true, d1, cz, one_ne, q1, l1]
                exact K
            · have cz : fX6_can (fX6_partAt (nI (t / 64)) (nI (t % 64))) O = 0 := by rw [can_eq O ht6 ht64]; exact if_neg cc
              have hS := SPs t
              rw [if_neg cc] at hS
              have K := hk (q - 1) (σ', (SP t).2, nI (SP t).1, nI (t + 1)) (by omega) ⟨t + 1, _, by rw [hS], by omega, hZ⟩
              simp only [↓reduceIte, not_true_eq_false, not_false_eq_true, false_implies, true_implies, implies_true, true_and, and_true, and_self, eq_self, Bool.false_eq_true, d1, cz]
              exact K
          · have d1 : (384 : Int32) ≤ nI t := nI_le (a := 384) (by omega) (by omega)
            have et : t = 384 := by omega
            subst et
            by_cases z0 : z = 0
            · simp only [↓reduceIte, not_true_eq_false, not_false_eq_true, false_implies, true_implies, implies_true, true_and, and_true, and_self, eq_self, Bool.false_eq_true, d1, z0]
              exact hZ
            · simp only [↓reduceIte, not_true_eq_false, not_false_eq_true, false_implies, true_implies, implies_true, true_and, and_true, and_self, eq_self, Bool.false_eq_true, d1, z0]
              exact hZ
        -- the class
        obtain ⟨b1, b2⟩ := become_eq ξ.2.1 ξ.2.2.1
        obtain ⟨cb1, r0, cb2, cb3, cb4⟩ := cb_eq (n := j) (by omega) hy (hw.lk b2) h.2.1 (-1)
        have er0 : r0 = ct m σ j := cb4.resolve_right (fun g => by
          have g1 := g.1
          have m1 : (-1 : Int32).toInt = -1 := by decide
          rw [i32_le, m1, nI_toInt (show r0 < 2 ^ 31 by omega)] at g1
          omega)
        rw [er0] at cb2
        obtain ⟨-, -, s3, -, -, -, s7, -⟩ := hw.sets
        rw [hO] at s7
        have Lc : ∀ w0, lpOk (kX5_add_58 τ (nI p) (nI j) z) fu (xT ξ w0, nI (ct m σ j), -1, 0) ∧ ((lp (0, xs0) (bX5_add_58 τ (nI p) (nI j) z) fu (xT ξ w0, nI (ct m σ j), -1, 0)).1 = (if z = 0 then (SP 384).2 else nI (SP 384).1) ∧ ∃ w', (lp (0, xs0) (bX5_add_58 τ (nI p) (nI j) z) fu (xT ξ w0, nI (ct m σ j), -1, 0)).2 = xT ξ w') := by
          intro w0
          refine lp_one (d := ((0 : Int32), xs0)) (body := bX5_add_58 τ (nI p) (nI j) z) (ok := kX5_add_58 τ (nI p) (nI j) z) (fun q v => ∃ t w', v = (xT ξ w', nI (SP (64 * t)).1, (SP (64 * t)).2, nI t) ∧ t + q = 6) (fun r => r.1 = (if z = 0 then (SP 384).2 else nI (SP 384).1) ∧ ∃ w', r.2 = xT ξ w') ?_ fu 6 _ ⟨0, w0, by rw [Nat.mul_zero, SP0]; rfl, by omega⟩ (by decide)
          rintro q v ⟨t, w', rfl, htq⟩ kR kO hk
          unfold bX5_add_58 kX5_add_58
          have ex : ∀ u, (xT ξ u).2.1 = ξ.2.1 := fun _ => rfl
          have ex2 : ∀ u, (xT ξ u).2.2.1 = u := fun _ => rfl
          have ex3 : ∀ u v, xT (xT ξ u) v = xT ξ v := fun _ _ => rfl
          simp only [ex, s7]
          by_cases e0 : t < 6
          · have d1 : ¬ (6 : Int32) ≤ nI t := nI_ge (b := 6) e0 (by decide)
            have pg := places_g O e0
            have inner := lp_one (d := ((0 : Int32), xs0)) (body := bX5_add_82 τ (nI p) (nI j) z (nI t) (fX3_places (nI t) O) kR) (ok := kX5_add_82 τ (nI p) (nI j) z (nI t) (fX3_places (nI t) O) kO) (fun q' v => ∃ c w', v = (xT ξ w', nI (SP (64 * t + c)).1, (SP (64 * t + c)).2, nI c) ∧ c + q' = 64) (fun r => r.1 = (if z = 0 then (SP 384).2 else nI (SP 384).1) ∧ ∃ w', r.2 = xT ξ w') (by
              rintro q' v ⟨c, w', rfl, hcq⟩ kR' kO' hk'
              unfold bX5_add_82 kX5_add_82 oX5_add_110 pX5_add_110 oX5_add_139 pX5_add_139 oX5_add_162 pX5_add_162
              simp only [ex, ex2, ex3, pc, nI_1]
              by_cases f0 : c < 64
              · have d2 : ¬ (64 : Int32) ≤ nI c := nI_ge (b := 64) f0 (by decide)
                have k1 : (64 * t + c) / 64 = t := by omega
                have k2 : (64 * t + c) % 64 = c := by omega
                rw [has3 _ f0]
                have ecan : can (64 * t + c) = tb (fX3_places (nI t) O) c := by show tb (fX3_places (nI ((64 * t + c) / 64)) O) ((64 * t + c) % 64) = _; rw [k1, k2]
                have hS := SPs (64 * t + c)
                rw [k1, k2, ecan] at hS
                by_cases cc : tb (fX3_places (nI t) O) c = true
                · rw [if_pos cc] at hS
                  obtain ⟨b3, b4⟩ := become_eq ξ.2.1 w'
                  have WA := hw.lk b4
                  have hPt := hPI (64 * t + c) (by omega) (by rw [ecan]; exact cc)
                  rw [k1, k2] at hPt
                  have WB := WA.put hp hPt
                  have eup := WA.2.2.2.2.2.2.2.1 p hp
                  rw [eup]
                  obtain ⟨x1, r, x2, x3, x4⟩ := cb_eq (n := j) (by omega) hy WB (h.2.1.yf (row11_of σ p _)) (nI (SP (64 * t + c)).1)
                  have eV : ct m (oT σ 11 p (σ.2.2.2 11 p ||| fX3_cellsOf (nI t) (nI c))) j = V (64 * t + c) := by
                    show _ = ct m (oT σ 11 p (σ.2.2.2 11 p ||| fX3_cellsOf (nI ((64 * t + c) / 64)) (nI ((64 * t + c) % 64)))) j
                    rw [k1, k2]
                  rw [eV] at x4
                  have e100 : 100 * nI t + nI c = nI (100 * t + c) := by rw [show (100 : Int32) = nI 100 from rfl, nI_mul, nI_add]
                  rw [x2, e100]
                  have sl := SP64 (64 * t + c)
                  have vl := V64 (64 * t + c)
                  by_cases lt : r ≤ (SP (64 * t + c)).1
                  · have l1 : nI r ≤ nI (SP (64 * t + c)).1 := nI_le lt (by omega)
                    have lv : V (64 * t + c) ≤ (SP (64 * t + c)).1 := by
                      rcases x4 with rfl | ⟨-, g⟩
                      · exact lt
                      · omega
                    rw [if_pos lv] at hS
                    have K := hk' (q' - 1) (xT ξ (fX4_countBehind τ (oT (oB4 w' (fX4_become ξ.2.1 w')) 3 p (σ.2.2.2 11 p ||| fX3_cellsOf (nI t) (nI c))) (nI j) (nI (SP (64 * t + c)).1)).2, nI (SP (64 * t + c)).1, (SP (64 * t + c)).2, nI (c + 1)) (by omega) ⟨c + 1, _, by rw [← Nat.add_assoc, hS], by omega⟩
                    simp only [↓reduceIte, not_true_eq_false, not_false_eq_true, false_implies, true_implies, implies_true, true_and, and_true, and_self, eq_self, Bool.false_eq_true, d2, cc, one_ne, b3, vp5, (cellsOf_un (a := c) e0).2, x1, l1]
                    exact K
                  · have l1 : ¬ nI r ≤ nI (SP (64 * t + c)).1 := nI_ge (by omega) (by omega)
                    have er : r = V (64 * t + c) := x4.resolve_right (fun g => l1 g.1)
                    rw [er] at lt l1 ⊢
                    rw [if_neg lt] at hS
                    have K := hk' (q' - 1) (xT ξ (fX4_countBehind τ (oT (oB4 w' (fX4_become ξ.2.1 w')) 3 p (σ.2.2.2 11 p ||| fX3_cellsOf (nI t) (nI c))) (nI j) (nI (SP (64 * t + c)).1)).2, nI (V (64 * t + c)), nI (100 * t + c), nI (c + 1)) (by omega) ⟨c + 1, _, by rw [← Nat.add_assoc, hS], by omega⟩
                    simp only [↓reduceIte, not_true_eq_false, not_false_eq_true, false_implies, true_implies, implies_true, true_and, and_true, and_self, eq_self, Bool.false_eq_true, d2, cc, one_ne, b3, vp5, (cellsOf_un (a := c) e0).2, x1, l1]
                    exact K
                · rw [if_neg cc] at hS
                  have K := hk' (q' - 1) (xT ξ w', nI (SP (64 * t + c)).1, (SP (64 * t + c)).2, nI (c + 1)) (by omega) ⟨c + 1, _, by rw [← Nat.add_assoc, hS], by omega⟩
                  simp only [↓reduceIte, not_true_eq_false, not_false_eq_true, false_implies, true_implies, implies_true, true_and, and_true, and_self, eq_self, Bool.false_eq_true, d2, cc]
                  exact K
              · have d2 : (64 : Int32) ≤ nI c := nI_le (a := 64) (by omega) (by omega)
                have ec : c = 64 := by omega
                subst ec
                have K := hk (q - 1) (xT ξ w', nI (SP (64 * t + 64)).1, (SP (64 * t + 64)).2, nI (t + 1)) (by omega) ⟨t + 1, w', by rw [show 64 * (t + 1) = 64 * t + 64 by omega], by omega⟩
                simp only [↓reduceIte, not_true_eq_false, not_false_eq_true, false_implies, true_implies, implies_true, true_and, and_true, and_self, eq_self, Bool.false_eq_true, d2]
                exact K) fu 64 (xT ξ w', nI (SP (64 * t)).1, (SP (64 * t)).2, 0) ⟨0, w', rfl, by omega⟩ (by decide)
            simp only [↓reduceIte, not_true_eq_false, not_false_eq_true, false_implies, true_implies, implies_true, true_and, and_true, and_self, eq_self, Bool.false_eq_true, d1, s3, pg, inner.1]
            exact inner.2
          · have d1 : (6 : Int32) ≤ nI t := nI_le (a := 6) (by omega) (by omega)
            have et : t = 6 := by omega
            subst et
            by_cases z0 : z = 0
            · simp only [↓reduceIte, not_true_eq_false, not_false_eq_true, false_implies, true_implies, implies_true, true_and, and_true, and_self, eq_self, Bool.false_eq_true, d1, z0]
              exact ⟨w', rfl⟩
            · simp only [↓reduceIte, not_true_eq_false, not_false_eq_true, false_implies, true_implies, implies_true, true_and, and_true, and_self, eq_self, Bool.false_eq_true, d1, z0]
              exact ⟨w', rfl⟩
        unfold oX5_add_41 pX5_add_41 oX5_add_50 pX5_add_50 oX6_add_43 pX6_add_43
        have ex2 : ∀ u, (xT ξ u).2.2.1 = u := fun _ => rfl
        have ex3 : ∀ u v, xT (xT ξ u) v = xT ξ v := fun _ _ => rfl
        simp only [ex2, ex3, cb2, pb2, eO]
        obtain ⟨L1, L2, w', L3⟩ := Lc (fX4_countBehind τ (oB4 ξ.2.2.1 (fX4_become ξ.2.1 ξ.2.2.1)) (nI j) (-1)).2
        obtain ⟨R1, R2, R3⟩ := Lr
        simp only [↓reduceIte, not_true_eq_false, not_false_eq_true, false_implies, true_implies, implies_true, true_and, and_true, and_self, eq_self, Bool.false_eq_true, g, o1, o2, one_ne, c1, c2, e, a, b, b1, cb1, pb1, s4, L1, R1, L2, R2, L3]
        exact h.zf R3 w'
end

section
/-! the wall and what is put up on it, side by side -/
theorem oT_row (s : OS) (k i : Nat) (x : Int64) : (oT s k i x).2.2.2 k = vp_updL (s.2.2.2 k) i x := up_s _ _ _
theorem oT_n (s : OS) {k j : Nat} (i : Nat) (x : Int64) (h : ¬ j = k) : (oT s k i x).2.2.2 j = s.2.2.2 j := up_n _ _ h
theorem allUp_eq {w : OS} {m : Nat} (hm : m ≤ 5) (h4 : w.1 4 = nI m) : gX4_allUp w ∧ fX4_allUp w = uni (w.2.2.2 3) m := by
  refine lp_one (d := (0 : Int64)) (body := bX4_allUp_4 w) (ok := kX4_allUp_4 w) (fun k v => ∃ t, v = (uni (w.2.2.2 3) t, nI t) ∧ t + k = m) (fun r => r = uni (w.2.2.2 3) m) ?_ fu m (0, 0) ⟨0, rfl, by omega⟩ (by show m < 1000; omega)
  rintro k v ⟨t, rfl, ht⟩ kR kO hk
  unfold bX4_allUp_4 kX4_allUp_4
  simp only [h4, nI_clamp (show t < 2 ^ 31 by omega), nI_1]
  by_cases c : t < m
  · have c1 : ¬ nI m ≤ nI t := nI_ge c (by omega)
    simp only [↓reduceIte, not_true_eq_false, not_false_eq_true, false_implies, true_implies, implies_true, true_and, and_true, and_self, eq_self, Bool.false_eq_true, c1, vp_in_nI (show t < 5 by omega) (by decide)]
    exact hk (k - 1) _ (by omega) ⟨t + 1, rfl, by omega⟩
  · have c1 : nI m ≤ nI t := nI_le (by omega) (by omega)
    simp only [↓reduceIte, not_true_eq_false, not_false_eq_true, false_implies, true_implies, implies_true, true_and, and_true, and_self, eq_self, Bool.false_eq_true, c1]
    rw [show t = m by omega]
theorem putAll_eq {w : OS} {m : Nat} (hm : m ≤ 5) (h4 : w.1 12 = nI m) : gX6_putAll w ∧ fX6_putAll w = uni (w.2.2.2 11) m := by
  refine lp_one (d := (0 : Int64)) (body := bX6_putAll_4 w) (ok := kX6_putAll_4 w) (fun k v => ∃ t, v = (uni (w.2.2.2 11) t, nI t) ∧ t + k = m) (fun r => r = uni (w.2.2.2 11) m) ?_ fu m (0, 0) ⟨0, rfl, by omega⟩ (by show m < 1000; omega)
  rintro k v ⟨t, rfl, ht⟩ kR kO hk
  unfold bX6_putAll_4 kX6_putAll_4
  simp only [h4, nI_clamp (show t < 2 ^ 31 by omega), nI_1]
  by_cases c : t < m
  · have c1 : ¬ nI m ≤ nI t := nI_ge c (by omega)
    simp only [↓reduceIte, not_true_eq_false, not_false_eq_true, false_implies, true_implies, implies_true, true_and, and_true, and_self, eq_self, Bool.false_eq_true, c1, vp_in_nI (show t < 5 by omega) (by decide)]
    exact hk (k - 1) _ (by omega) ⟨t + 1, rfl, by omega⟩
  · have c1 : nI m ≤ nI t := nI_le (by omega) (by omega)
    simp only [↓reduceIte, not_true_eq_false, not_false_eq_true, false_implies, true_implies, implies_true, true_and, and_true, and_self, eq_self, Bool.false_eq_true, c1]
    rw [show t = m by omega]
theorem st4_eq {w : OS} {m : Nat} (hm : m ≤ 5) (h4 : w.1 4 = nI m) : gX4_stands w ∧ fX4_stands w = w.2.1 8 ||| uni (w.2.2.2 3) m := by
  have := allUp_eq hm h4
  exact ⟨this.1, by unfold fX4_stands pX4_stands_0; rw [this.2]⟩
theorem st6_eq {w : OS} {m : Nat} (hm : m ≤ 5) (h4 : w.1 12 = nI m) : gX6_stands w ∧ fX6_stands w = w.2.1 9 ||| uni (w.2.2.2 11) m := by
  have := putAll_eq hm h4
  exact ⟨this.1, by unfold fX6_stands pX6_stands_0; rw [this.2]⟩
theorem cu4_eq {w : OS} {m : Nat} (hm : m ≤ 5) (h4 : w.1 4 = nI m) : gX4_countUp w ∧ fX4_countUp w = nI (pcn (uni (w.2.2.2 3) m)) := by
  have := allUp_eq hm h4
  exact ⟨this.1, by unfold fX4_countUp pX4_countUp_0; rw [this.2, bitCount_eq]⟩
/-- only what is put up changed -/
def UF (w r : OS) : Prop := r.1 = w.1 ∧ r.2.1 = w.2.1 ∧ r.2.2.1 = w.2.2.1
def VF (w r : OS) : Prop := r.1 = w.1 ∧ r.2.1 = w.2.1 ∧ r.2.2.1 = w.2.2.1 ∧ ∀ k, ¬ k = 11 → r.2.2.2 k = w.2.2.2 k
theorem UF.tr {w r s : OS} (h : UF w r) (k : UF r s) : UF w s := ⟨k.1.trans h.1, k.2.1.trans h.2.1, k.2.2.trans h.2.2⟩
theorem VF.tr {w r s : OS} (h : VF w r) (k : VF r s) : VF w s := ⟨k.1.trans h.1, k.2.1.trans h.2.1, k.2.2.1.trans h.2.2.1, fun j hj => (k.2.2.2 j hj).trans (h.2.2.2 j hj)⟩
theorem UF.oT (w : OS) (i : Nat) (x : Int64) : UF w (oT w 3 i x) := ⟨rfl, rfl, rfl⟩
theorem VF.oT (w : OS) (i : Nat) (x : Int64) : VF w (oT w 11 i x) := ⟨rfl, rfl, rfl, fun _ hk => oT_n w i x hk⟩
theorem dropLoose_eq {w : OS} {m : Nat} (hm : m ≤ 5) (h4 : w.1 4 = nI m) : gX4_dropLoose w ∧ UF w (fX4_dropLoose w) ∧ ∀ p, p < m → (fX4_dropLoose w).2.2.2 3 p = dl (w.2.1 8) m (w.2.2.2 3) p := by
  obtain ⟨g1, e1⟩ := st4_eq hm h4
  obtain ⟨e2, g2⟩ := held_eq (w.2.1 8) (w.2.1 8 ||| uni (w.2.2.2 3) m)
  unfold gX4_dropLoose oX4_dropLoose_0 fX4_dropLoose pX4_dropLoose_0
  rw [e1, e2]
  unfold dl
  generalize stN (w.2.1 8 ||| uni (w.2.2.2 3) m) 64 (w.2.1 8) = K
  have L := lp_one (d := o0) (body := bX4_dropLoose_14 K) (ok := kX4_dropLoose_14 K) (fun k v => ∃ t w', v = (w', nI t) ∧ t + k = m ∧ UF w w' ∧ ∀ p, w'.2.2.2 3 p = if p < t then w.2.2.2 3 p &&& K else w.2.2.2 3 p) (fun r => UF w r ∧ ∀ p, p < m → r.2.2.2 3 p = w.2.2.2 3 p &&& K) (by
    rintro k v ⟨t, w', rfl, ht, hu, hr⟩ kR kO hk
    unfold bX4_dropLoose_14 kX4_dropLoose_14
    have h4' : w'.1 4 = nI m := by rw [hu.1]; exact h4
    simp only [h4', nI_clamp (show t < 2 ^ 31 by omega), nI_1]
    by_cases c : t < m
    · have c1 : ¬ nI m ≤ nI t := nI_ge c (by omega)
      simp only [↓reduceIte, not_true_eq_false, not_false_eq_true, false_implies, true_implies, implies_true, true_and, and_true, and_self, eq_self, Bool.false_eq_true, c1, vp_in_nI (show t < 5 by omega) (by decide)]
      refine hk (k - 1) _ (by omega) ⟨t + 1, _, rfl, by omega, hu.tr (UF.oT _ _ _), fun p => ?_⟩
      rw [oT_row]
      by_cases e : p = t
      · subst e
        rw [uL_s, hr p, if_neg (by omega), if_pos (by omega)]
      · rw [uL_n _ _ e, hr p]
        by_cases e2 : p < t
        · rw [if_pos e2, if_pos (by omega)]
        · rw [if_neg e2, if_neg (by omega)]
    · have c1 : nI m ≤ nI t := nI_le (by omega) (by omega)
      simp only [↓reduceIte, not_true_eq_false, not_false_eq_true, false_implies, true_implies, implies_true, true_and, and_true, and_self, eq_self, Bool.false_eq_true, c1]
      exact ⟨hu, fun p hp => by rw [hr p, if_pos (by omega)]⟩) fu m (w, 0) ⟨0, w, rfl, by omega, ⟨rfl, rfl, rfl⟩, fun p => by rw [if_neg (by omega)]⟩ (by show m < 1000; omega)
  exact ⟨⟨g1, g2, L.1⟩, L.2⟩
theorem and_sub {x y : Int64} (h : sub x y) : x &&& y = x := tb_ext (fun i hi => by
  rw [tb_and]
  cases e : tb x i with
  | false => rfl
  | true => rw [h i hi e]; rfl)
/-- how many fall -/
def fc (h : Int64) (m : Nat) (U : Nat → Int64) : Nat := sm (fun p => pcn (U p &&& (stN (h ||| uni U m) 64 h ^^^ (-1)))) m
theorem falls_eq {w : OS} {m : Nat} (hm : m ≤ 5) (h4 : w.1 12 = nI m) : gX6_falls w ∧ VF w (fX6_falls w).2 ∧ (∀ p, p < m → (fX6_falls w).2.2.2.2 11 p = dl (w.2.1 9) m (w.2.2.2 11) p) ∧ (fX6_falls w).1 = nI (fc (w.2.1 9) m (w.2.2.2 11)) := by
  obtain ⟨g1, e1⟩ := st6_eq hm h4
  obtain ⟨e2, g2⟩ := come_eq (w.2.1 9) (w.2.1 9 ||| uni (w.2.2.2 11) m) (N := 64) (by decide)
  rw [and_sub (sub_h _ _)] at e2
  have e2 : fX6_comeTo (w.2.1 9) (w.2.1 9 ||| uni (w.2.2.2 11) m) 64 = stN (w.2.1 9 ||| uni (w.2.2.2 11) m) 64 (w.2.1 9) := e2
  have g2 : gX6_comeTo (w.2.1 9) (w.2.1 9 ||| uni (w.2.2.2 11) m) 64 := g2
  unfold gX6_falls oX6_falls_0 fX6_falls pX6_falls_0
  rw [e1, e2]
  unfold dl fc
  generalize stN (w.2.1 9 ||| uni (w.2.2.2 11) m) 64 (w.2.1 9) = K
  have L := lp_one (d := ((0 : Int32), o0)) (body := bX6_falls_19 K) (ok := kX6_falls_19 K) (fun k v => ∃ t w', v = (w', nI (sm (fun p => pcn (w.2.2.2 11 p &&& (K ^^^ (-1)))) t), nI t) ∧ t + k = m ∧ VF w w' ∧ ∀ p, w'.2.2.2 11 p = if p < t then w.2.2.2 11 p &&& K else w.2.2.2 11 p) (fun r => VF w r.2 ∧ (∀ p, p < m → r.2.2.2.2 11 p = w.2.2.2 11 p &&& K) ∧ r.1 = nI (sm (fun p => pcn (w.2.2.2 11 p &&& (K ^^^ (-1)))) m)) (by
    rintro k v ⟨t, w', rfl, ht, hu, hr⟩ kR kO hk
    unfold bX6_falls_19 kX6_falls_19
    have h4' : w'.1 12 = nI m := by rw [hu.1]; exact h4
    have er : w'.2.2.2 11 t = w.2.2.2 11 t := by rw [hr t, if_neg (by omega)]
    simp only [h4', nI_clamp (show t < 2 ^ 31 by omega), nI_1, er, (bitsOf_eq _).1, nI_add]
    by_cases c : t < m
    · have c1 : ¬ nI m ≤ nI t := nI_ge c (by omega)
      simp only [↓reduceIte, not_true_eq_false, not_false_eq_true, false_implies, true_implies, implies_true, true_and, and_true, and_self, eq_self, Bool.false_eq_true, c1, vp_in_nI (show t < 5 by omega) (by decide), (bitsOf_eq _).2]
      refine hk (k - 1) _ (by omega) ⟨t + 1, _, rfl, by omega, hu.tr (VF.oT _ _ _), fun p => ?_⟩
      rw [oT_row]
      by_cases e : p = t
      · subst e
        rw [uL_s, if_pos (by omega)]
      · rw [uL_n _ _ e, hr p]
        by_cases e2 : p < t
        · rw [if_pos e2, if_pos (by omega)]
        · rw [if_neg e2, if_neg (by omega)]
    · have c1 : nI m ≤ nI t := nI_le (by omega) (by omega)
      simp only [↓reduceIte, not_true_eq_false, not_false_eq_true, false_implies, true_implies, implies_true, true_and, and_true, and_self, eq_self, Bool.false_eq_true, c1]
      exact ⟨hu, fun p hp => by rw [hr p, if_pos (by omega)], by rw [show t = m by omega]⟩) fu m (w, 0, 0) ⟨0, w, rfl, by omega, ⟨rfl, rfl, rfl, fun _ _ => rfl⟩, fun p => by rw [if_neg (by omega)]⟩ (by show m < 1000; omega)
  exact ⟨⟨g1, g2, L.1⟩, L.2⟩
theorem dropCell_eq {w : OS} {m : Nat} (hm : m ≤ 5) (h4 : w.1 4 = nI m) (c : Nat) : gX4_dropCell w (nI c) ∧ UF w (fX4_dropCell w (nI c)) ∧ ∀ p, p < m → (fX4_dropCell w (nI c)).2.2.2 3 p = dl (w.2.1 8) m (dc c (w.2.2.2 3)) p := by
  refine lp_one (d := o0) (body := bX4_dropCell_2 (nI c)) (ok := kX4_dropCell_2 (nI c)) (fun k v => ∃ t w', v = (w', nI t) ∧ t + k = m ∧ UF w w' ∧ ∀ p, w'.2.2.2 3 p = if p < t then dc c (w.2.2.2 3) p else w.2.2.2 3 p) (fun r => UF w r ∧ ∀ p, p < m → r.2.2.2 3 p = dl (w.2.1 8) m (dc c (w.2.2.2 3)) p) ?_ fu m (w, 0) ⟨0, w, rfl, by omega, ⟨rfl, rfl, rfl⟩, fun p => by rw [if_neg (by omega)]⟩ (by show m < 1000; omega)
  rintro k v ⟨t, w', rfl, ht, hu, hr⟩ kR kO hk
  unfold bX4_dropCell_2 kX4_dropCell_2 pX4_dropCell_36
  have h4' : w'.1 4 = nI m := by rw [hu.1]; exact h4
  simp only [h4', nI_clamp (show t < 2 ^ 31 by omega), nI_1]
  by_cases e0 : t < m
  · have c1 : ¬ nI m ≤ nI t := nI_ge e0 (by omega)
    simp only [↓reduceIte, not_true_eq_false, not_false_eq_true, false_implies, true_implies, implies_true, true_and, and_true, and_self, eq_self, Bool.false_eq_true, c1, vp_in_nI (show t < 5 by omega) (by decide)]
    refine hk (k - 1) _ (by omega) ⟨t + 1, _, rfl, by omega, hu.tr (UF.oT _ _ _), fun p => ?_⟩
    rw [oT_row]
    by_cases e : p = t
    · subst e
      rw [uL_s, hr p, if_neg (by omega), if_pos (by omega)]
      rfl
    · rw [uL_n _ _ e, hr p]
      by_cases e2 : p < t
      · rw [if_pos e2, if_pos (by omega)]
      · rw [if_neg e2, if_neg (by omega)]
  · have c1 : nI m ≤ nI t := nI_le (by omega) (by omega)
    obtain ⟨d1, d2, d3⟩ := dropLoose_eq hm h4'
    simp only [↓reduceIte, not_true_eq_false, not_false_eq_true, false_implies, true_implies, implies_true, true_and, and_true, and_self, eq_self, Bool.false_eq_true, c1, d1]
    refine ⟨hu.tr d2, fun p hp => ?_⟩
    rw [d3 p hp, hu.2.1]
    exact dl_cong _ (fun q hq => by rw [hr q, if_pos (by omega)]) hp
theorem felled_eq {w : OS} {m : Nat} (hm : m ≤ 5) (h4 : w.1 12 = nI m) (c : Nat) : gX6_felled w (nI c) ∧ VF w (fX6_felled w (nI c)).2 ∧ (∀ p, p < m → (fX6_felled w (nI c)).2.2.2.2 11 p = dl (w.2.1 9) m (dc c (w.2.2.2 11)) p) ∧ (fX6_felled w (nI c)).1 = nI (1 + fc (w.2.1 9) m (dc c (w.2.2.2 11))) := by
  refine lp_one (d := ((0 : Int32), o0)) (body := bX6_felled_2 (nI c)) (ok := kX6_felled_2 (nI c)) (fun k v => ∃ t w', v = (w', nI t) ∧ t + k = m ∧ VF w w' ∧ ∀ p, w'.2.2.2 11 p = if p < t then dc c (w.2.2.2 11) p else w.2.2.2 11 p) (fun r => VF w r.2 ∧ (∀ p, p < m → r.2.2.2.2 11 p = dl (w.2.1 9) m (dc c (w.2.2.2 11)) p) ∧ r.1 = nI (1 + fc (w.2.1 9) m (dc c (w.2.2.2 11)))) ?_ fu m (w, 0) ⟨0, w, rfl, by omega, ⟨rfl, rfl, rfl, fun _ _ => rfl⟩, fun p => by rw [if_neg (by omega)]⟩ (by show m < 1000; omega)
  rintro k v ⟨t, w', rfl, ht, hu, hr⟩ kR kO hk
  unfold bX6_felled_2 kX6_felled_2 pX6_felled_37
  have h4' : w'.1 12 = nI m := by rw [hu.1]; exact h4
  simp only [h4', nI_clamp (show t < 2 ^ 31 by omega), nI_1]
  by_cases e0 : t < m
  · have c1 : ¬ nI m ≤ nI t := nI_ge e0 (by omega)
    simp only [↓reduceIte, not_true_eq_false, not_false_eq_true, false_implies, true_implies, implies_true, true_and, and_true, and_self, eq_self, Bool.false_eq_true, c1, vp_in_nI (show t < 5 by omega) (by decide)]
    refine hk (k - 1) _ (by omega) ⟨t + 1, _, rfl, by omega, hu.tr (VF.oT _ _ _), fun p => ?_⟩
    rw [oT_row]
    by_cases e : p = t
    · subst e
      rw [uL_s, hr p, if_neg (by omega), if_pos (by omega)]
      rfl
    · rw [uL_n _ _ e, hr p]
      by_cases e2 : p < t
      · rw [if_pos e2, if_pos (by omega)]
      · rw [if_neg e2, if_neg (by omega)]
  · have c1 : nI m ≤ nI t := nI_le (by omega) (by omega)
    obtain ⟨d1, d2, d3, d4⟩ := falls_eq hm h4'
    have eq : ∀ q, q < m → w'.2.2.2 11 q = dc c (w.2.2.2 11) q := fun q hq => by rw [hr q, if_pos (by omega)]
    simp only [↓reduceIte, not_true_eq_false, not_false_eq_true, false_implies, true_implies, implies_true, true_and, and_true, and_self, eq_self, Bool.false_eq_true, c1, d1]
    refine ⟨hu.tr d2, fun p hp => ?_, ?_⟩
    · rw [d3 p hp, hu.2.1]
      exact dl_cong _ eq hp
    · rw [d4, hu.2.1, show (1 : Int32) = nI 1 from rfl, nI_add]
      congr 2
      unfold fc
      rw [uni_cong eq]
      exact sm_cong (fun p hp => by rw [eq p hp])
/-- how many fell: what was put up less what is -/
theorem fall_cnt {m : Nat} {U : Nat → Int64} {h : Int64} (d : DJ m U h) : fc h m U + pcn (uni (dl h m U) m) = pcn (uni U m) := by
  rw [uni_pcn d, uni_pcn (dl_PI d).1]
  unfold fc dl
  rw [Nat.add_comm, ← sm_add]
  exact sm_cong (fun p _ => pcn_split _ _)
theorem fell_cnt {m : Nat} {U : Nat → Int64} {h : Int64} (d : DJ m U h) {c : Nat} (hc : c < 64) (hu : ∃ p, p < m ∧ tb (U p) c = true) : 1 + fc h m (dc c U) + pcn (uni (dl h m (dc c U)) m) = pcn (uni U m) := by
  have d2 : DJ m (dc c U) h := d.le (fun p _ => dc_sub c hc U p)
  have e := fall_cnt d2
  have e2 := dc_sm hc d.1 hu
  rw [← uni_pcn d2, ← uni_pcn d] at e2
  omega
theorem PI.cong {m : Nat} {U V : Nat → Int64} {h : Int64} (d : PI m h U) (e : ∀ p, p < m → V p = U p) : PI m h V := by
  refine ⟨d.1.le (fun p hp => by rw [e p hp]; exact fun _ _ g => g), fun p hp => ?_⟩
  rw [uni_cong e, e p hp]
  exact d.2 p hp
/-- whose a cell is -/
def WHO (m : Nat) (U : Nat → Int64) (h : Int64) (c : Nat) (r : Int32) : Prop := (∃ p, p < m ∧ tb (U p) c = true ∧ r = nI p) ∨ ((∀ p, p < m → ¬ tb (U p) c = true) ∧ r = if tb h c = true then 9 else -1)
theorem WHO.un {m : Nat} {U V : Nat → Int64} {h : Int64} (d : DJ m U h) (e : ∀ p, p < m → V p = U p) {c : Nat} (hc : c < 64) {r s : Int32} (h1 : WHO m U h c r) (h2 : WHO m V h c s) : r = s := by
  rcases h1 with ⟨p, hp, t1, rfl⟩ | ⟨n1, rfl⟩
  · rcases h2 with ⟨q, hq, t2, rfl⟩ | ⟨n2, rfl⟩
    · rw [e q hq] at t2
      by_cases g : p = q
      · rw [g]
      · exact absurd t2 (d.1 p q c hp hq g hc t1)
    · exact absurd (by rw [e p hp]; exact t1) (n2 p hp)
  · rcases h2 with ⟨q, hq, t2, rfl⟩ | ⟨n2, rfl⟩
    · rw [e q hq] at t2
      exact absurd t2 (n1 q hq)
    · rfl
theorem whose_eq {w : OS} {m : Nat} (hm : m ≤ 5) (h4 : w.1 4 = nI m) {c : Nat} (hc : c < 64) : gX4_whose w (nI c) ∧ WHO m (w.2.2.2 3) (w.2.1 8) c (fX4_whose w (nI c)) := by
  refine lp_one (d := (0 : Int32)) (body := bX4_whose_2 w (nI c)) (ok := kX4_whose_2 w (nI c)) (fun k v => ∃ t, v = nI t ∧ t + k = m ∧ ∀ q, q < t → ¬ tb (w.2.2.2 3 q) c = true) (fun r => WHO m (w.2.2.2 3) (w.2.1 8) c r) ?_ fu m 0 ⟨0, rfl, by omega, fun q hq => by omega⟩ (by show m < 1000; omega)
  rintro k v ⟨t, rfl, ht, hn⟩ kR kO hk
  unfold bX4_whose_2 kX4_whose_2
  simp only [h4, nI_clamp (show t < 2 ^ 31 by omega), nI_1, has3 _ hc, if10]
  by_cases e0 : t < m
  · have c1 : ¬ nI m ≤ nI t := nI_ge e0 (by omega)
    by_cases e : tb (w.2.2.2 3 t) c = true
    · simp only [↓reduceIte, not_true_eq_false, not_false_eq_true, false_implies, true_implies, implies_true, true_and, and_true, and_self, eq_self, Bool.false_eq_true, c1, vp_in_nI (show t < 5 by omega) (by decide), e]
      exact Or.inl ⟨t, e0, e, rfl⟩
    · simp only [↓reduceIte, not_true_eq_false, not_false_eq_true, false_implies, true_implies, implies_true, true_and, and_true, and_self, eq_self, Bool.false_eq_true, c1, vp_in_nI (show t < 5 by omega) (by decide), e]
      refine hk (k - 1) _ (by omega) ⟨t + 1, rfl, by omega, fun q hq => ?_⟩
      by_cases g : q = t
      · rw [g]; exact e
      · exact hn q (by omega)
  · have c1 : nI m ≤ nI t := nI_le (by omega) (by omega)
    simp only [↓reduceIte, not_true_eq_false, not_false_eq_true, false_implies, true_implies, implies_true, true_and, and_true, and_self, eq_self, Bool.false_eq_true, c1]
    refine Or.inr ⟨fun p hp => hn p (by omega), ?_⟩
    by_cases e : tb (w.2.1 8) c = true
    · simp only [↓reduceIte, not_true_eq_false, not_false_eq_true, false_implies, true_implies, implies_true, true_and, and_true, and_self, eq_self, Bool.false_eq_true, e]
    · simp only [↓reduceIte, not_true_eq_false, not_false_eq_true, false_implies, true_implies, implies_true, true_and, and_true, and_self, eq_self, Bool.false_eq_true, e]
theorem whoseIs_eq {w : OS} {m : Nat} (hm : m ≤ 5) (h4 : w.1 12 = nI m) {c : Nat} (hc : c < 64) : gX6_whoseIs w (nI c) ∧ WHO m (w.2.2.2 11) (w.2.1 9) c (fX6_whoseIs w (nI c)) := by
  have L : ∀ f0 : Int32, f0 = (if tb (w.2.1 9) c = true then 9 else -1) → lpOk (kX6_whoseIs_20 w (nI c)) fu (f0, 0) ∧ WHO m (w.2.2.2 11) (w.2.1 9) c (lp 0 (bX6_whoseIs_20 w (nI c)) fu (f0, 0)) := by
    intro f0 hf0
    refine lp_one (d := (0 : Int32)) (body := bX6_whoseIs_20 w (nI c)) (ok := kX6_whoseIs_20 w (nI c)) (fun k v => ∃ t f, v = (f, nI t) ∧ t + k = m ∧ WHO t (w.2.2.2 11) (w.2.1 9) c f) (fun r => WHO m (w.2.2.2 11) (w.2.1 9) c r) ?_ fu m (f0, 0) ⟨0, f0, rfl, by omega, Or.inr ⟨fun p hp => by omega, hf0⟩⟩ (by show m < 1000; omega)
    rintro k v ⟨t, f, rfl, ht, hn⟩ kR kO hk
    unfold bX6_whoseIs_20 kX6_whoseIs_20 oX6_whoseIs_46 pX6_whoseIs_46
    simp only [h4, nI_clamp (show t < 2 ^ 31 by omega), nI_1, has6 _ hc, if10]
    by_cases e0 : t < m
    · have c1 : ¬ nI m ≤ nI t := nI_ge e0 (by omega)
      by_cases e : tb (w.2.2.2 11 t) c = true
      · simp only [↓reduceIte, not_true_eq_false, not_false_eq_true, false_implies, true_implies, implies_true, true_and, and_true, and_self, eq_self, Bool.false_eq_true, c1, vp_in_nI (show t < 5 by omega) (by decide), e]
        exact hk (k - 1) _ (by omega) ⟨t + 1, nI t, rfl, by omega, Or.inl ⟨t, by omega, e, rfl⟩⟩
      · simp only [↓reduceIte, not_true_eq_false, not_false_eq_true, false_implies, true_implies, implies_true, true_and, and_true, and_self, eq_self, Bool.false_eq_true, c1, vp_in_nI (show t < 5 by omega) (by decide), e]
        refine hk (k - 1) _ (by omega) ⟨t + 1, f, rfl, by omega, ?_⟩
        rcases hn with ⟨p, hp, t1, rfl⟩ | ⟨n1, hf⟩
        · exact Or.inl ⟨p, by omega, t1, rfl⟩
        · refine Or.inr ⟨fun p hp => ?_, hf⟩
          by_cases g : p = t
          · rw [g]; exact e
          · exact n1 p (by omega)
    · have c1 : nI m ≤ nI t := nI_le (by omega) (by omega)
      simp only [↓reduceIte, not_true_eq_false, not_false_eq_true, false_implies, true_implies, implies_true, true_and, and_true, and_self, eq_self, Bool.false_eq_true, c1]
      rw [← show t = m by omega]
      exact hn
  unfold gX6_whoseIs oX6_whoseIs_0 fX6_whoseIs pX6_whoseIs_0 oX6_whoseIs_17 pX6_whoseIs_17
  simp only [has6 _ hc, if10]
  by_cases e : tb (w.2.1 9) c = true
  · have := L 9 (by rw [if_pos e])
    simp only [↓reduceIte, not_true_eq_false, not_false_eq_true, false_implies, true_implies, implies_true, true_and, and_true, and_self, eq_self, Bool.false_eq_true, e, this.1]
    exact this.2
  · have := L (-1) (by rw [if_neg e])
    simp only [↓reduceIte, not_true_eq_false, not_false_eq_true, false_implies, true_implies, implies_true, true_and, and_true, and_self, eq_self, Bool.false_eq_true, e, this.1]
    exact this.2
end

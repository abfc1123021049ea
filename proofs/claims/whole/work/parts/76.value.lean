section
/-! a text worked off on the stack -/
def STK (r : Nat → Int32) : List Int32 → Prop
  | [] => True
  | x :: st => r st.length = x ∧ STK r st
theorem STK.upd {r : Nat → Int32} {k : Nat} {x : Int32} : ∀ {st : List Int32}, STK r st → st.length ≤ k → STK (upd r k x) st
  | [], _, _ => trivial
  | y :: st, h, hk => by
    have hk : st.length + 1 ≤ k := hk
    exact ⟨(ud_n r x (by omega)).trans h.1, STK.upd h.2 (by omega)⟩
theorem nmx {x : Int32} (d : ¬ fX0_isName x = 0) : ∃ j, 6 ≤ j ∧ j < 12 ∧ x = nI j := by
  unfold fX0_isName pX0_isName_0 at d
  by_cases c1 : x < 6
  · rw [if_pos c1] at d; exact absurd rfl d
  · by_cases c2 : 12 ≤ x
    · rw [if_neg c1, if_pos c2] at d; exact absurd rfl d
    · have z0 : (0 : Int32).toInt = 0 := by decide
      have z6 : (6 : Int32).toInt = 6 := by decide
      have hx0 : ¬ x < 0 := fun h0 => by
        rw [i32_lt] at h0
        rw [i32_lt] at c1
        omega
      obtain ⟨j, hj, rfl⟩ := nI_of hx0
      have c1' : ¬ j < 6 := fun h => c1 (nI_lt (b := 6) h (by decide))
      have c2' : ¬ 12 ≤ j := fun h => c2 (nI_le (a := 12) h hj)
      exact ⟨j, by omega, by omega, rfl⟩
theorem oS_row (s : OS) (k i : Nat) (x : Int32) : (oS s k i x).2.2.1 k = upd (s.2.2.1 k) i x := up_s _ _ _
theorem value_lp {nc : Nat} (hnc : nc ≤ 160) {ρ σ : OS} {w a e : Nat} (hw : w < 3) (he : ρ.2.2.1 1 w = nI e) (hae : a ≤ e) (hen : e ≤ nc) {v : Int32} (hv : Ev (ρ.2.2.1 3) (ρ.2.2.1 0) a e v) : lpOk (kX2_value_25 nc ρ (nI w)) fu (σ, 0, nI a) ∧ (lp (0, o0) (bX2_value_25 nc ρ (nI w)) fu (σ, 0, nI a)).1 = v := by
  refine lp_one (d := ((0 : Int32), o0)) (body := bX2_value_25 nc ρ (nI w)) (ok := kX2_value_25 nc ρ (nI w)) (fun m x => ∃ (st : List Int32) (i : Nat) (s : OS), x = (s, nI st.length, nI i) ∧ i + m = e ∧ st.length + a ≤ i ∧ STK (s.2.2.1 4) st ∧ exs (ρ.2.2.1 3) (ρ.2.2.1 0) i m st = [v]) (fun r => r.1 = v) ?_ fu (e - a) (σ, 0, nI a) ⟨[], a, σ, rfl, by omega, by simp, trivial, hv []⟩ (by show e - a < 1000; omega)
  rintro m x ⟨st, i, s, rfl, him, hst, hS, hx⟩ kR kO hk
  have hwc : (nI w).toNatClampNeg = w := nI_clamp (by omega)
  have hic : (nI i).toNatClampNeg = i := nI_clamp (by omega)
  have v3 : vp_in (nI w) 3 := vp_in_nI hw (by decide)
  have v0 : vp_in 0 160 := vp_in_nI (n := 0) (by decide) (by decide)
  unfold kX2_value_25 bX2_value_25
  simp only [hwc, hic, he]
  cases m with
  | zero =>
    have hst1 : st = [v] := hx
    have c : nI e ≤ nI i := nI_le (by omega) (by omega)
    simp only [↓reduceIte, not_true_eq_false, not_false_eq_true, false_implies, true_implies, implies_true, true_and, and_true, and_self, eq_self, Bool.false_eq_true, c, v3, v0]
    rw [hst1] at hS
    exact hS.1
  | succ m =>
    have c : ¬ nI e ≤ nI i := nI_ge (by omega) (by omega)
    have c2 : ¬ (160 : Int32) ≤ nI st.length := nI_ge (b := 160) (by omega) (by omega)
    have vi : vp_in (nI i) nc := vp_in_nI (by omega) (by omega)
    have vt : vp_in (nI st.length) 160 := vp_in_nI (by omega) (by omega)
    have tc : (nI st.length).toNatClampNeg = st.length := nI_clamp (by omega)
    have hx : exs (ρ.2.2.1 3) (ρ.2.2.1 0) (i + 1) m (ex1 (ρ.2.2.1 3) (ρ.2.2.1 0 i) st) = [v] := hx
    have go : ∀ (st' : List Int32) (s' : OS), st' = ex1 (ρ.2.2.1 3) (ρ.2.2.1 0 i) st → st'.length + a ≤ i + 1 → STK (s'.2.2.1 4) st' → kO (s', nI st'.length, nI (i + 1)) ∧ (kR (s', nI st'.length, nI (i + 1))).1 = v := by
      intro st' s' h1 h2 h3
      exact hk m _ (by omega) ⟨st', i + 1, s', rfl, by omega, h2, h3, by rw [h1]; exact hx⟩
    unfold ex1 at go
    generalize hit : ρ.2.2.1 0 i = it at *
    simp only [↓reduceIte, not_true_eq_false, not_false_eq_true, false_implies, true_implies, implies_true, true_and, and_true, and_self, eq_self, Bool.false_eq_true, c, c2, v3, vi, vt, tc]
    by_cases c3 : it < 0
    · simp only [↓reduceIte, not_true_eq_false, not_false_eq_true, false_implies, true_implies, implies_true, true_and, and_true, and_self, eq_self, Bool.false_eq_true, c3] at go ⊢
      by_cases c4 : fX0_isName (it ^^^ (-1)) = 0
      · simp only [↓reduceIte, not_true_eq_false, not_false_eq_true, false_implies, true_implies, implies_true, true_and, and_true, and_self, eq_self, Bool.false_eq_true, c4] at go ⊢
        cases st with
        | nil =>
          have go := go [] s rfl (by simp; omega) trivial
          have d1 : nI ([] : List Int32).length < 1 := by decide
          have d2 : nI ([] : List Int32).length < 2 := by decide
          unfold oX2_value_135 pX2_value_135 oX2_value_164 pX2_value_164 oX2_value_194 pX2_value_194
          rw [nI_1]
          by_cases c5 : it ^^^ (-1) = 5
          · have c6 : ¬ (5 : Int32) = 23 := by decide
            simp only [↓reduceIte, not_true_eq_false, not_false_eq_true, false_implies, true_implies, implies_true, true_and, and_true, and_self, eq_self, Bool.false_eq_true, c5, c6, d1, d2]
            exact go
          · by_cases c6 : it ^^^ (-1) = 23
            · have c7 : ¬ (23 : Int32) = 5 := by decide
              simp only [↓reduceIte, not_true_eq_false, not_false_eq_true, false_implies, true_implies, implies_true, true_and, and_true, and_self, eq_self, Bool.false_eq_true, c6, c7, d1, d2]
              exact go
            · simp only [↓reduceIte, not_true_eq_false, not_false_eq_true, false_implies, true_implies, implies_true, true_and, and_true, and_self, eq_self, Bool.false_eq_true, c5, c6, d1, d2]
              exact go
        | cons x t =>
          have hlen : (x :: t).length = t.length + 1 := rfl
          rw [hlen] at hst vt tc ⊢
          have d1 : ¬ nI (t.length + 1) < 1 := nI_nlt (b := 1) (by omega) (by omega)
          have e1 : nI (t.length + 1) - 1 = nI t.length := pk_sub (a := t.length + 1) (b := 1) (by omega)
          have v1 : vp_in (nI t.length) 160 := vp_in_nI (by omega) (by omega)
          have t1 : (nI t.length).toNatClampNeg = t.length := nI_clamp (by omega)
          have hx1 : s.2.2.1 4 t.length = x := hS.1
          unfold oX2_value_135 pX2_value_135 oX2_value_131 pX2_value_131 oX2_value_194 pX2_value_194
          simp only [e1, t1, hx1, nI_1]
          by_cases c5 : it ^^^ (-1) = 5
          · simp only [↓reduceIte, not_true_eq_false, not_false_eq_true, false_implies, true_implies, implies_true, true_and, and_true, and_self, eq_self, Bool.false_eq_true, c5, d1, v1] at go ⊢
            by_cases c7 : x = 0
            · simp only [↓reduceIte, not_true_eq_false, not_false_eq_true, false_implies, true_implies, implies_true, true_and, and_true, and_self, eq_self, Bool.false_eq_true, c7] at go ⊢
              exact go _ (oS s 4 t.length 1) rfl (by show t.length + 1 + a ≤ i + 1; omega) (by rw [oS_row]; exact ⟨ud_s _ _ _, hS.2.upd (Nat.le_refl _)⟩)
            · simp only [↓reduceIte, not_true_eq_false, not_false_eq_true, false_implies, true_implies, implies_true, true_and, and_true, and_self, eq_self, Bool.false_eq_true, c7] at go ⊢
              exact go _ (oS s 4 t.length 0) rfl (by show t.length + 1 + a ≤ i + 1; omega) (by rw [oS_row]; exact ⟨ud_s _ _ _, hS.2.upd (Nat.le_refl _)⟩)
          · by_cases c6 : it ^^^ (-1) = 23
            · have c7 : ¬ (23 : Int32) = 5 := by decide
              simp only [↓reduceIte, not_true_eq_false, not_false_eq_true, false_implies, true_implies, implies_true, true_and, and_true, and_self, eq_self, Bool.false_eq_true, c6, c7, d1, v1] at go ⊢
              exact go _ (oS s 4 t.length (-x)) rfl (by show t.length + 1 + a ≤ i + 1; omega) (by rw [oS_row]; exact ⟨ud_s _ _ _, hS.2.upd (Nat.le_refl _)⟩)
            · simp only [↓reduceIte, not_true_eq_false, not_false_eq_true, false_implies, true_implies, implies_true, true_and, and_true, and_self, eq_self, Bool.false_eq_true, c5, c6] at go ⊢
              unfold oX2_value_164 pX2_value_164 oX2_value_194 pX2_value_194
              rw [nI_1]
              cases t with
              | nil =>
                have d2 : nI (([] : List Int32).length + 1) < 2 := by decide
                simp only [↓reduceIte, not_true_eq_false, not_false_eq_true, false_implies, true_implies, implies_true, true_and, and_true, and_self, eq_self, Bool.false_eq_true, d2]
                exact go [x] s rfl (by show 1 + a ≤ i + 1; omega) hS
              | cons y u =>
                have hlen2 : (y :: u).length = u.length + 1 := rfl
                rw [hlen2] at hst vt tc e1 v1 t1 hx1 ⊢
                have d2 : ¬ nI (u.length + 1 + 1) < 2 := nI_nlt (b := 2) (by omega) (by omega)
                have e2 : nI (u.length + 1 + 1) + (-1) = nI (u.length + 1) := nz_sb (b := u.length + 1 + 1) (k := 1) (by omega)
                have e3 : nI (u.length + 1) - 1 = nI u.length := pk_sub (a := u.length + 1) (b := 1) (by omega)
                have v2 : vp_in (nI u.length) 160 := vp_in_nI (by omega) (by omega)
                have t2 : (nI u.length).toNatClampNeg = u.length := nI_clamp (by omega)
                have hy1 : s.2.2.1 4 u.length = y := hS.2.1
                simp only [↓reduceIte, not_true_eq_false, not_false_eq_true, false_implies, true_implies, implies_true, true_and, and_true, and_self, eq_self, Bool.false_eq_true, d2, e2, e3, t1, t2, hx1, hy1, v1, v2]
                exact go _ (oS s 4 u.length (fX2_joined (it ^^^ (-1)) y x)) rfl (by show u.length + 1 + a ≤ i + 1; omega) (by rw [oS_row]; exact ⟨ud_s _ _ _, hS.2.2.upd (Nat.le_refl _)⟩)
      · obtain ⟨j, j1, j2, ej⟩ := nmx c4
        have e6 : nI j - 6 = nI (j - 6) := pk_sub (a := j) (b := 6) (by omega)
        have v6 : vp_in (nI (j - 6)) 6 := vp_in_nI (by omega) (by omega)
        simp only [↓reduceIte, not_true_eq_false, not_false_eq_true, false_implies, true_implies, implies_true, true_and, and_true, and_self, eq_self, Bool.false_eq_true, c4] at go ⊢
        unfold oX2_value_194 pX2_value_194
        rw [ej, e6] at go ⊢
        simp only [↓reduceIte, not_true_eq_false, not_false_eq_true, false_implies, true_implies, implies_true, true_and, and_true, and_self, eq_self, Bool.false_eq_true, v6, nI_1]
        exact go _ (oS s 4 st.length (ρ.2.2.1 3 (nI (j - 6)).toNatClampNeg)) rfl (by show st.length + 1 + a ≤ i + 1; omega) (by rw [oS_row]; exact ⟨ud_s _ _ _, hS.upd (Nat.le_refl _)⟩)
    · simp only [↓reduceIte, not_true_eq_false, not_false_eq_true, false_implies, true_implies, implies_true, true_and, and_true, and_self, eq_self, Bool.false_eq_true, c3] at go ⊢
      unfold oX2_value_194 pX2_value_194
      simp only [↓reduceIte, not_true_eq_false, not_false_eq_true, false_implies, true_implies, implies_true, true_and, and_true, and_self, eq_self, Bool.false_eq_true, nI_1]
      exact go _ (oS s 4 st.length it) rfl (by show st.length + 1 + a ≤ i + 1; omega) (by rw [oS_row]; exact ⟨ud_s _ _ _, hS.upd (Nat.le_refl _)⟩)
/-- what a part of a text says -/
theorem value_eq {nc : Nat} (hnc : nc ≤ 160) {ρ σ : OS} {v : Nat → Int32} (h : TV (ρ.2.2.1 3) (ρ.2.2.1 0) (ρ.2.2.1 1) nc v) {w : Nat} (hw : w < 3) : gX2_value nc ρ σ (nI w) ∧ (fX2_value nc ρ σ (nI w)).1 = v w := by
  obtain ⟨c0, c1, h01, h1n, e0, e1, e2, v0, v1, v2⟩ := h
  unfold gX2_value oX2_value_0 fX2_value pX2_value_0 oX2_value_19 pX2_value_19
  match w, hw with
  | 0, _ =>
    have L := value_lp hnc (σ := σ) (w := 0) (by decide) e0 (Nat.zero_le _) (by omega) v0
    refine ⟨⟨fun _ => L.1, fun h => absurd rfl h⟩, ?_⟩
    rw [if_pos (show nI 0 = 0 from rfl)]
    exact L.2
  | 1, _ =>
    have L := value_lp hnc (σ := σ) (w := 1) (by decide) e1 h01 h1n v1
    have z : ¬ nI 1 = 0 := by decide
    have e : ρ.2.2.1 1 (nI 1 - 1).toNatClampNeg = nI c0 := e0
    refine ⟨⟨fun h => absurd h z, fun _ => ⟨vp_in_nI (n := 0) (by decide) (by decide), by rw [e]; exact L.1⟩⟩, ?_⟩
    rw [if_neg z, e]
    exact L.2
  | 2, _ =>
    have L := value_lp hnc (σ := σ) (w := 2) (by decide) e2 h1n (Nat.le_refl _) v2
    have z : ¬ nI 2 = 0 := by decide
    have e : ρ.2.2.1 1 (nI 2 - 1).toNatClampNeg = nI c1 := e1
    refine ⟨⟨fun h => absurd h z, fun _ => ⟨vp_in_nI (n := 1) (by decide) (by decide), by rw [e]; exact L.1⟩⟩, ?_⟩
    rw [if_neg z, e]
    exact L.2
end

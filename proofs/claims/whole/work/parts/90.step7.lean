section
/-! steps: copy, bag -/
theorem subI {x n : Int32} (hx : 0 ≤ x.toInt ∧ x.toInt ≤ 100) (hn : 0 ≤ n.toInt) : (x - n).toInt = x.toInt - n.toInt := by
  rw [Int32.toInt_sub]
  have := Int32.toInt_lt n
  unfold Int.bmod
  dsimp only
  split <;> omega
theorem rangec (S : OS) {z : Nat} (hz : z ≤ 40) (h2 : S.1 2 = nI z) (x n : Int32) : (fX1_hasRange S x n = 1 ∧ (¬ n < 0 ∧ ¬ x < 0 ∧ ¬ nI z - n < x) ∧ ∃ a b, n = nI a ∧ x = nI b ∧ b + a ≤ z) ∨ (fX1_hasRange S x n = 0 ∧ (n < 0 ∨ x < 0 ∨ nI z - n < x)) := by
  have z0 : (0 : Int32).toInt = 0 := by decide
  have ez := nI_toInt (show z < 2 ^ 31 by omega)
  unfold fX1_hasRange pX1_hasRange_0
  rw [h2]
  by_cases c1 : n < 0
  · right; exact ⟨if_pos c1, Or.inl c1⟩
  · obtain ⟨a, ha, rfl⟩ := nI_of c1
    have ea := nI_toInt ha
    have es : (nI z - nI a).toInt = (z : Int) - a := by rw [subI (by omega) (by omega), ez, ea]
    rw [if_neg c1]
    by_cases c3 : x < 0
    · right
      refine ⟨?_, Or.inr (Or.inl c3)⟩
      rw [if_pos c3, ite_self]
    · obtain ⟨b, hb, rfl⟩ := nI_of c3
      have eb := nI_toInt hb
      rw [if_neg c3]
      by_cases c4 : nI z - nI a < nI b
      · right
        refine ⟨?_, Or.inr (Or.inr c4)⟩
        rw [if_pos c4, ite_self]
      · left
        have c4' := c4
        rw [i32_lt, es, eb] at c4'
        have c2 : ¬ nI z < nI a := nI_nlt (by omega) (by omega)
        rw [if_neg c2, if_neg c4]
        exact ⟨rfl, ⟨c1, c3, c4⟩, a, b, rfl, rfl, by omega⟩
/-- the reference's copying -/
theorem cpy_loop {σ : OS} {s o i j a : Nat} (hs : s < 4) (ho : o < 4) (hi : i + a ≤ 40) (hj : j + a ≤ 40) (u : Bool) (hu : (u = true ∧ s = o ∧ i < j) ∨ (u = false ∧ (¬ s = o ∨ j ≤ i))) :
    lpOk (kX6_copy_121 (nI s) (nI i) (nI o) (nI j) (nI a) (if u then 1 else 0)) fu (σ, 0) ∧ ((lp (0, o0) (bX6_copy_121 (nI s) (nI i) (nI o) (nI j) (nI a) (if u then 1 else 0)) fu (σ, 0)).1 = nI a ∧ (lp (0, o0) (bX6_copy_121 (nI s) (nI i) (nI o) (nI j) (nI a) (if u then 1 else 0)) fu (σ, 0)).2.1 = σ.1 ∧ (lp (0, o0) (bX6_copy_121 (nI s) (nI i) (nI o) (nI j) (nI a) (if u then 1 else 0)) fu (σ, 0)).2.2.1 = σ.2.1 ∧ (lp (0, o0) (bX6_copy_121 (nI s) (nI i) (nI o) (nI j) (nI a) (if u then 1 else 0)) fu (σ, 0)).2.2.2.2 = σ.2.2.2 ∧ (∀ k, ¬ k = 40 → (lp (0, o0) (bX6_copy_121 (nI s) (nI i) (nI o) (nI j) (nI a) (if u then 1 else 0)) fu (σ, 0)).2.2.2.1 k = σ.2.2.1 k) ∧ ∀ t, (lp (0, o0) (bX6_copy_121 (nI s) (nI i) (nI o) (nI j) (nI a) (if u then 1 else 0)) fu (σ, 0)).2.2.2.1 40 t = if 40 * o + j ≤ t ∧ t < 40 * o + j + a then σ.2.2.1 40 (40 * s + i + (t - (40 * o + j))) else σ.2.2.1 40 t) := by
  refine lp_one (d := ((0 : Int32), o0)) (body := bX6_copy_121 (nI s) (nI i) (nI o) (nI j) (nI a) (if u then 1 else 0)) (ok := kX6_copy_121 (nI s) (nI i) (nI o) (nI j) (nI a) (if u then 1 else 0))
    (fun k v => ∃ t r, v = (r, nI t) ∧ t + k = a ∧ r.1 = σ.1 ∧ r.2.1 = σ.2.1 ∧ r.2.2.2 = σ.2.2.2 ∧ (∀ k, ¬ k = 40 → r.2.2.1 k = σ.2.2.1 k) ∧ ∀ q, r.2.2.1 40 q = if 40 * o + j + (if u then a - t else 0) ≤ q ∧ q < 40 * o + j + (if u then a else t) then σ.2.2.1 40 (40 * s + i + (q - (40 * o + j))) else σ.2.2.1 40 q)
    (fun r => r.1 = nI a ∧ r.2.1 = σ.1 ∧ r.2.2.1 = σ.2.1 ∧ r.2.2.2.2 = σ.2.2.2 ∧ (∀ k, ¬ k = 40 → r.2.2.2.1 k = σ.2.2.1 k) ∧ ∀ t, r.2.2.2.1 40 t = if 40 * o + j ≤ t ∧ t < 40 * o + j + a then σ.2.2.1 40 (40 * s + i + (t - (40 * o + j))) else σ.2.2.1 40 t) ?_ fu a (σ, 0) ⟨0, σ, rfl, by omega, rfl, rfl, rfl, fun _ _ => rfl, fun q => by cases u <;> simp <;> intros <;> omega⟩ (by show a < 1000; omega)
  rintro k v ⟨t, r, rfl, ht, h1, h2, h3, h4, h5⟩ kR kO hk
  unfold bX6_copy_121 kX6_copy_121 oX6_copy_145 pX6_copy_145
  simp only [nI_1]
  by_cases e0 : t < a
  · have c1 : ¬ nI a ≤ nI t := nI_ge e0 (by omega)
    have mul : ∀ x, 40 * nI x = nI (40 * x) := fun x => by rw [show (40 : Int32) = nI 40 from rfl, nI_mul]
    have go : ∀ c, c < a → (u = true → c = a - 1 - t) → (u = false → c = t) → kO (oS r 40 (40 * o + j + c) (r.2.2.1 40 (40 * s + i + c)), nI (t + 1)) ∧ ((kR (oS r 40 (40 * o + j + c) (r.2.2.1 40 (40 * s + i + c)), nI (t + 1))).1 = nI a ∧ (kR (oS r 40 (40 * o + j + c) (r.2.2.1 40 (40 * s + i + c)), nI (t + 1))).2.1 = σ.1 ∧ (kR (oS r 40 (40 * o + j + c) (r.2.2.1 40 (40 * s + i + c)), nI (t + 1))).2.2.1 = σ.2.1 ∧ (kR (oS r 40 (40 * o + j + c) (r.2.2.1 40 (40 * s + i + c)), nI (t + 1))).2.2.2.2 = σ.2.2.2 ∧ (∀ k, ¬ k = 40 → (kR (oS r 40 (40 * o + j + c) (r.2.2.1 40 (40 * s + i + c)), nI (t + 1))).2.2.2.1 k = σ.2.2.1 k) ∧ ∀ q, (kR (oS r 40 (40 * o + j + c) (r.2.2.1 40 (40 * s + i + c)), nI (t + 1))).2.2.2.1 40 q = if 40 * o + j ≤ q ∧ q < 40 * o + j + a then σ.2.2.1 40 (40 * s + i + (q - (40 * o + j))) else σ.2.2.1 40 q) := by
      intro c hc cu cd
      refine hk (k - 1) _ (by omega) ⟨t + 1, _, rfl, by omega, h1, h2, h3, fun k hk => (up_n _ _ hk).trans (h4 k hk), fun q => ?_⟩
      rw [oS_row]
      have rd : r.2.2.1 40 (40 * s + i + c) = σ.2.2.1 40 (40 * s + i + c) := by
        rw [h5]
        refine if_neg ?_
        cases u with
        | true =>
          have hu' := hu.resolve_right (fun g => by cases g.1)
          have := cu rfl
          simp only [if_true]
          omega
        | false =>
          have hu' := (hu.resolve_left (fun g => by cases g.1)).2
          have := cd rfl
          simp only [Bool.false_eq_true, if_false]
          rcases (by omega : s < o ∨ o < s ∨ s = o) with g | g | g
          · omega
          · omega
          · have := hu'.resolve_left (fun f => f g)
            omega
      rw [rd]
      cases u with
      | true =>
        have := cu rfl
        simp only [if_true] at h5 ⊢
        by_cases e : q = 40 * o + j + c
        · subst e
          rw [ud_s, if_pos (by omega)]
          exact congrArg (σ.2.2.1 40) (by omega)
        · rw [ud_n _ _ e, h5 q]
          by_cases g : 40 * o + j + (a - t) ≤ q ∧ q < 40 * o + j + a
          · rw [if_pos g, if_pos (by omega)]
          · rw [if_neg g, if_neg (by omega)]
      | false =>
        have := cd rfl
        simp only [Bool.false_eq_true, if_false, Nat.add_zero] at h5 ⊢
        by_cases e : q = 40 * o + j + c
        · subst e
          rw [ud_s, if_pos (by omega)]
          exact congrArg (σ.2.2.1 40) (by omega)
        · rw [ud_n _ _ e, h5 q]
          by_cases g : 40 * o + j ≤ q ∧ q < 40 * o + j + t
          · rw [if_pos g, if_pos (by omega)]
          · rw [if_neg g, if_neg (by omega)]
    cases u with
    | true =>
      have es : nI a - 1 - nI t = nI (a - 1 - t) := by rw [show (1 : Int32) = nI 1 from rfl, pk_sub (by omega), pk_sub (by omega)]
      have e1 : 40 * nI s + nI i + nI (a - 1 - t) = nI (40 * s + i + (a - 1 - t)) := by rw [mul, nI_add, nI_add]
      have e2 : 40 * nI o + nI j + nI (a - 1 - t) = nI (40 * o + j + (a - 1 - t)) := by rw [mul, nI_add, nI_add]
      simp only [↓reduceIte, not_true_eq_false, not_false_eq_true, false_implies, true_implies, implies_true, true_and, and_true, and_self, eq_self, Bool.false_eq_true, c1, one_ne, es, e1, e2, nI_clamp (show 40 * s + i + (a - 1 - t) < 2 ^ 31 by omega), nI_clamp (show 40 * o + j + (a - 1 - t) < 2 ^ 31 by omega), vp_in_nI (show 40 * s + i + (a - 1 - t) < 160 by omega) (by decide), vp_in_nI (show 40 * o + j + (a - 1 - t) < 160 by omega) (by decide)]
      exact go (a - 1 - t) (by omega) (fun _ => rfl) (fun g => by cases g)
    | false =>
      have e1 : 40 * nI s + nI i + nI t = nI (40 * s + i + t) := by rw [mul, nI_add, nI_add]
      have e2 : 40 * nI o + nI j + nI t = nI (40 * o + j + t) := by rw [mul, nI_add, nI_add]
      simp only [↓reduceIte, not_true_eq_false, not_false_eq_true, false_implies, true_implies, implies_true, true_and, and_true, and_self, eq_self, Bool.false_eq_true, c1, e1, e2, nI_clamp (show 40 * s + i + t < 2 ^ 31 by omega), nI_clamp (show 40 * o + j + t < 2 ^ 31 by omega), vp_in_nI (show 40 * s + i + t < 160 by omega) (by decide), vp_in_nI (show 40 * o + j + t < 160 by omega) (by decide)]
      exact go t e0 (fun g => by cases g) (fun _ => rfl)
  · have c1 : nI a ≤ nI t := nI_le (by omega) (by omega)
    simp only [↓reduceIte, not_true_eq_false, not_false_eq_true, false_implies, true_implies, implies_true, true_and, and_true, and_self, eq_self, Bool.false_eq_true, c1]
    refine ⟨h1, h2, h3, h4, fun q => ?_⟩
    rw [h5 q, show t = a by omega]
    cases u with
    | true => simp only [if_true, Nat.sub_self, Nat.add_zero]
    | false => simp only [Bool.false_eq_true, if_false, Nat.add_zero]
theorem ps_copy : PS_copy Rel := by
  intro τ ξ σ x i w j n h
  have hS := h.2.2.2.2.2
  unfold gX5_copy oX5_copy_0 fX5_copy pX5_copy_0 gX6_copy oX6_copy_0 fX6_copy pX6_copy_0
  obtain ⟨g1, g2, ⟨a, b⟩ | ⟨a, b, s, hs, rfl, sc, vs⟩⟩ := shc x
  · simp only [↓reduceIte, not_true_eq_false, not_false_eq_true, false_implies, true_implies, implies_true, true_and, and_true, and_self, eq_self, Bool.false_eq_true, g1, g2, a, b]
    exact h
  · obtain ⟨g3, g4, ⟨a', b'⟩ | ⟨a', b', o, ho, rfl, oc, vo⟩⟩ := shc w
    · simp only [↓reduceIte, not_true_eq_false, not_false_eq_true, false_implies, true_implies, implies_true, true_and, and_true, and_self, eq_self, Bool.false_eq_true, g1, g2, a, b, one_ne, g3, g4, a', b']
      exact h
    · rw [sc, oc]
      rcases hS s hs with ⟨k1, k2⟩ | ⟨k, z, hk, hz, k1, k2, k3, k4, k5, k6⟩
      · have mi : fX1_isMissing (ξ.2.2.2.2.2 s) = 1 := if_pos k1
        simp only [↓reduceIte, not_true_eq_false, not_false_eq_true, false_implies, true_implies, implies_true, true_and, and_true, and_self, eq_self, Bool.false_eq_true, g1, g2, a, b, one_ne, g3, g4, a', b', vs, vo, hs, ho, mi, k2]
        exact h
      · have mi : fX1_isMissing (ξ.2.2.2.2.2 s) = 0 := if_neg (by rw [k1]; exact nI_ne_m1 (by omega))
        rcases hS o ho with ⟨l1, l2⟩ | ⟨l, y, hl, hy, l1, l2, l3, l4, l5, l6⟩
        · have mo : fX1_isMissing (ξ.2.2.2.2.2 o) = 1 := if_pos l1
          simp only [↓reduceIte, not_true_eq_false, not_false_eq_true, false_implies, true_implies, implies_true, true_and, and_true, and_self, eq_self, Bool.false_eq_true, g1, g2, a, b, one_ne, g3, g4, a', b', vs, vo, hs, ho, mi, k2, mo, l2]
          exact h
        · have mo : fX1_isMissing (ξ.2.2.2.2.2 o) = 0 := if_neg (by rw [l1]; exact nI_ne_m1 (by omega))
          rw [k1, l1, k3, l3, k2, l2, k5, l5]
          by_cases ek : nI k = nI l
          · have r1 := rangec (ξ.2.2.2.2.2 s) hz k4 i n
            have r2 := rangec (ξ.2.2.2.2.2 o) hy l4 j n
            rcases r1 with ⟨q1, ⟨n0, i0, ni⟩, c, d, rfl, rfl, hdc⟩ | ⟨q1, q2⟩
            · rcases r2 with ⟨p1, ⟨-, j0, nj⟩, c', e, ec, rfl, hec⟩ | ⟨p1, p2⟩
              · have ecc : c' = c := by
                  have h1 := (nI_eq (show c < 2 ^ 31 by omega) (show c' < 2 ^ 31 by omega)).mp ec
                  exact h1.symm
                subst ecc
                have jl : nI e ≤ nI y - nI c' := by
                  rw [i32_le]
                  rw [i32_lt] at nj
                  omega
                have cc : (nI c').toNatClampNeg = c' := nI_clamp (by omega)
                have cd : (nI d).toNatClampNeg = d := nI_clamp (by omega)
                have ce : (nI e).toNatClampNeg = e := nI_clamp (by omega)
                have fin : ∀ r : OS, r.1 = σ.1 → r.2.1 = σ.2.1 → r.2.2.2 = σ.2.2.2 → (∀ k, ¬ k = 40 → r.2.2.1 k = σ.2.2.1 k) → (∀ t, r.2.2.1 40 t = if 40 * o + e ≤ t ∧ t < 40 * o + e + c' then σ.2.2.1 40 (40 * s + d + (t - (40 * o + e))) else σ.2.2.1 40 t) → Rel τ (xS ξ o (oAr (ξ.2.2.2.2.2 o) 0 (va_cpy ((ξ.2.2.2.2.2 s).2.2.1 0) ((ξ.2.2.2.2.2 o).2.2.1 0) d e c'))) r := by
                  intro r h1 h2 h3 h4 h5
                  refine h.sheet (Or.inr ⟨l, y, hl, hy, l1, by rw [h4 37 (by decide)]; exact l2, by rw [h4 38 (by decide)]; exact l3, l4, by rw [h4 39 (by decide)]; exact l5, fun t ht => ?_⟩) h1 h2 (fun k hk => h4 k (by omega)) h3 (fun r' hr hne => (hS r' hr).other (by rw [h4 37 (by decide)]) (by rw [h4 38 (by decide)]) (by rw [h4 39 (by decide)]) (fun t ht => ?_))
                  · show va_cpy ((ξ.2.2.2.2.2 s).2.2.1 0) ((ξ.2.2.2.2.2 o).2.2.1 0) d e c' t = _
                    rw [h5]
                    by_cases g : e ≤ t ∧ t < e + c'
                    · rw [pk_cpy_in g.1 g.2, if_pos (by omega), k6 _ (by omega)]
                      exact congrArg (σ.2.2.1 40) (by omega)
                    · rw [pk_cpy_out (by omega), if_neg (by omega), l6 t ht]
                  · rw [h5, if_neg (by omega)]
                have up := cpy_loop (σ := σ) (i := d) (j := e) (a := c') hs ho (by omega) (by omega)
                unfold oX6_copy_115 pX6_copy_115 oX6_copy_116 pX6_copy_116
                by_cases so : s = o
                · have eso : nI s = nI o := by rw [so]
                  by_cases ji : e ≤ d
                  · have cj : nI e ≤ nI d := nI_le ji (by omega)
                    have L := up false (Or.inr ⟨rfl, Or.inr ji⟩)
                    simp only [Bool.false_eq_true, if_false] at L
                    simp only [↓reduceIte, not_true_eq_false, not_false_eq_true, false_implies, true_implies, implies_true, true_and, and_true, and_self, eq_self, Bool.false_eq_true, g1, g2, a, b, one_ne, g3, g4, a', b', vs, vo, hs, ho, mi, mo, eq_true ek, q1, p1, n0, i0, j0, ni, jl, cc, cd, ce, eq_true eso, cj, L.1, L.2.1]
                    exact ⟨⟨by omega, by omega⟩, fin _ L.2.2.1 L.2.2.2.1 L.2.2.2.2.1 L.2.2.2.2.2.1 L.2.2.2.2.2.2⟩
                  · have cj : ¬ nI e ≤ nI d := nI_ge (by omega) (by omega)
                    have L := up true (Or.inl ⟨rfl, so, by omega⟩)
                    simp only [if_true] at L
                    simp only [↓reduceIte, not_true_eq_false, not_false_eq_true, false_implies, true_implies, implies_true, true_and, and_true, and_self, eq_self, Bool.false_eq_true, g1, g2, a, b, one_ne, g3, g4, a', b', vs, vo, hs, ho, mi, mo, eq_true ek, q1, p1, n0, i0, j0, ni, jl, cc, cd, ce, eq_true eso, cj, L.1, L.2.1]
                    exact ⟨⟨by omega, by omega⟩, fin _ L.2.2.1 L.2.2.2.1 L.2.2.2.2.1 L.2.2.2.2.2.1 L.2.2.2.2.2.2⟩
                · have eso : ¬ nI s = nI o := nI_ne so (by omega) (by omega)
                  have L := up false (Or.inr ⟨rfl, Or.inl so⟩)
                  simp only [Bool.false_eq_true, if_false] at L
                  simp only [↓reduceIte, not_true_eq_false, not_false_eq_true, false_implies, true_implies, implies_true, true_and, and_true, and_self, eq_self, Bool.false_eq_true, g1, g2, a, b, one_ne, g3, g4, a', b', vs, vo, hs, ho, mi, mo, eq_true ek, q1, p1, n0, i0, j0, ni, jl, cc, cd, ce, eso, L.1, L.2.1]
                  exact ⟨⟨by omega, by omega⟩, fin _ L.2.2.1 L.2.2.2.1 L.2.2.2.2.1 L.2.2.2.2.2.1 L.2.2.2.2.2.2⟩
              · by_cases j0 : j < 0
                · simp only [↓reduceIte, not_true_eq_false, not_false_eq_true, false_implies, true_implies, implies_true, true_and, and_true, and_self, eq_self, Bool.false_eq_true, g1, g2, a, b, one_ne, g3, g4, a', b', vs, vo, hs, ho, mi, mo, eq_true ek, q1, p1, n0, i0, j0]
                  exact h
                · have jl : ¬ j ≤ nI y - nI c := by
                    have g := (p2.resolve_left n0).resolve_left j0
                    rw [i32_lt] at g
                    rw [i32_le]; omega
                  simp only [↓reduceIte, not_true_eq_false, not_false_eq_true, false_implies, true_implies, implies_true, true_and, and_true, and_self, eq_self, Bool.false_eq_true, g1, g2, a, b, one_ne, g3, g4, a', b', vs, vo, hs, ho, mi, mo, eq_true ek, q1, p1, n0, i0, j0, ni, jl]
                  exact h
            · by_cases n0 : n < 0
              · simp only [↓reduceIte, not_true_eq_false, not_false_eq_true, false_implies, true_implies, implies_true, true_and, and_true, and_self, eq_self, Bool.false_eq_true, g1, g2, a, b, one_ne, g3, g4, a', b', vs, vo, hs, ho, mi, mo, eq_true ek, q1, n0]
                exact h
              · by_cases i0 : i < 0
                · simp only [↓reduceIte, not_true_eq_false, not_false_eq_true, false_implies, true_implies, implies_true, true_and, and_true, and_self, eq_self, Bool.false_eq_true, g1, g2, a, b, one_ne, g3, g4, a', b', vs, vo, hs, ho, mi, mo, eq_true ek, q1, n0, i0]
                  exact h
                · have ni := (q2.resolve_left n0).resolve_left i0
                  by_cases j0 : j < 0
                  · simp only [↓reduceIte, not_true_eq_false, not_false_eq_true, false_implies, true_implies, implies_true, true_and, and_true, and_self, eq_self, Bool.false_eq_true, g1, g2, a, b, one_ne, g3, g4, a', b', vs, vo, hs, ho, mi, mo, eq_true ek, q1, n0, i0, j0]
                    exact h
                  · simp only [↓reduceIte, not_true_eq_false, not_false_eq_true, false_implies, true_implies, implies_true, true_and, and_true, and_self, eq_self, Bool.false_eq_true, g1, g2, a, b, one_ne, g3, g4, a', b', vs, vo, hs, ho, mi, mo, eq_true ek, q1, n0, i0, j0, ni]
                    exact h
          · simp only [↓reduceIte, not_true_eq_false, not_false_eq_true, false_implies, true_implies, implies_true, true_and, and_true, and_self, eq_self, Bool.false_eq_true, g1, g2, a, b, one_ne, g3, g4, a', b', vs, vo, hs, ho, mi, mo, ek]
            exact h
theorem sub2 (z a : Nat) : nI z - nI a - 3 = nI z - nI (a + 3) := by
  rw [← nI_add a 3, Int32.sub_eq_add_neg (nI z - nI a) 3, Int32.sub_eq_add_neg (nI z) (nI a), Int32.sub_eq_add_neg (nI z) (nI a + nI 3), Int32.neg_add, Int32.sub_eq_add_neg (-nI a), Int32.add_assoc]
  rfl
theorem ps_bag : PS_bag Rel := by
  intro τ ξ σ x k f n h
  have hS := h.2.2.2.2.2
  unfold gX5_bag oX5_bag_0 fX5_bag pX5_bag_0 gX6_bag oX6_bag_0 fX6_bag pX6_bag_0 oX6_bag_57 pX6_bag_57
  obtain ⟨g1, g2, ⟨a, b⟩ | ⟨a, b, s, hs, rfl, sc, vs⟩⟩ := shc x
  · simp only [↓reduceIte, not_true_eq_false, not_false_eq_true, false_implies, true_implies, implies_true, true_and, and_true, and_self, eq_self, Bool.false_eq_true, g1, g2, a, b]
    exact h
  · rw [sc]
    rcases wic k (m := 2) (by decide) with ⟨a1, b1⟩ | ⟨a1, b1, k', hk', rfl⟩
    · have a1 : fX5_within k 2 = 0 := a1
      have b1 : fX6_in k.toInt64 0 2 = 0 := b1
      simp only [↓reduceIte, not_true_eq_false, not_false_eq_true, false_implies, true_implies, implies_true, true_and, and_true, and_self, eq_self, Bool.false_eq_true, g1, g2, a, b, one_ne, a1, b1]
      exact h
    · have a1 : fX5_within (nI k') 2 = 1 := a1
      have b1 : fX6_in (nI k').toInt64 0 2 = 1 := b1
      rcases wic n (m := 5) (by decide) with ⟨a2, b2⟩ | ⟨a2, b2, c, hc, rfl⟩
      · have a2 : fX5_within n 5 = 0 := a2
        have b2 : fX6_in n.toInt64 0 5 = 0 := b2
        simp only [↓reduceIte, not_true_eq_false, not_false_eq_true, false_implies, true_implies, implies_true, true_and, and_true, and_self, eq_self, Bool.false_eq_true, g1, g2, a, b, one_ne, a1, b1, a2, b2]
        exact h
      · have a2 : fX5_within (nI c) 5 = 1 := a2
        have b2 : fX6_in (nI c).toInt64 0 5 = 1 := b2
        rcases hS s hs with ⟨k1, k2⟩ | ⟨q, z, hq, hz, k1, k2, k3, k4, k5, k6⟩
        · have mi : fX1_isMissing (ξ.2.2.2.2.2 s) = 1 := if_pos k1
          simp only [↓reduceIte, not_true_eq_false, not_false_eq_true, false_implies, true_implies, implies_true, true_and, and_true, and_self, eq_self, Bool.false_eq_true, g1, g2, a, b, one_ne, a1, b1, a2, b2, vs, hs, mi, k2]
          exact h
        · have mi : fX1_isMissing (ξ.2.2.2.2.2 s) = 0 := if_neg (by rw [k1]; exact nI_ne_m1 (by omega))
          rw [k1, k2, k3]
          by_cases ek : nI q = nI k'
          · have L := lp_two (d := ((0 : Int32), xs0)) (body := bX5_bag_64 τ s f (nI c)) (ok := kX5_bag_64 τ s f (nI c)) (d' := ((0 : Int32), o0)) (body' := bX6_bag_75 (nI s) f (nI c)) (ok' := kX6_bag_75 (nI s) f (nI c))
              (fun m x y => ∃ (ξ' : XS) (σ' : OS) (e t : Nat), x = (ξ', nI e, nI t) ∧ y = (σ', nI e, nI t) ∧ t + m = c ∧ Rel τ ξ' σ' ∧ ξ'.2.2 = ξ.2.2 ∧ ∀ k, ¬ k = 10 → σ'.2.2.1 k = σ.2.2.1 k)
              (fun r s => r.1 = s.1 ∧ Rel τ r.2 s.2) (by
              rintro m x y ⟨ξ', σ', e, t, rfl, rfl, htm, hR, hx, hσ⟩ kR kO kR' kO' hk
              unfold bX5_bag_64 kX5_bag_64 bX6_bag_75 kX6_bag_75 oX5_bag_134 pX5_bag_134 oX5_bag_140 pX5_bag_140 oX6_bag_150 pX6_bag_150 oX6_bag_158 pX6_bag_158
              have e5 : ξ'.2.2.2.2.2 s = ξ.2.2.2.2.2 s := by rw [hx]
              have e39 : σ'.2.2.1 39 s = nI z := by rw [hσ 39 (by decide)]; exact k5
              have e40 : σ'.2.2.1 40 = σ.2.2.1 40 := hσ 40 (by decide)
              have m3 : 3 * nI t = nI (3 * t) := by rw [show (3 : Int32) = nI 3 from rfl, nI_mul]
              simp only [e5, k4, sc, e39, e40, m3, sub2, nI_1]
              by_cases e0 : t < c
              · have c1 : ¬ nI c ≤ nI t := nI_ge e0 (by omega)
                by_cases f0 : f < 0
                · simp only [↓reduceIte, not_true_eq_false, not_false_eq_true, false_implies, true_implies, implies_true, true_and, and_true, and_self, eq_self, Bool.false_eq_true, c1, f0]
                  exact hR
                · by_cases fz : f ≤ nI z - nI (3 * t + 3)
                  · obtain ⟨g, hg, rfl⟩ := nI_of f0
                    have hgz : g + 3 * t + 3 ≤ z := by
                      have es : (nI z - nI (3 * t + 3)).toInt = (z : Int) - ((3 * t + 3 : Nat) : Int) := pk_sub_toInt (by omega) (by omega)
                      rw [i32_le, es, nI_toInt hg] at fz
                      omega
                    have x0 : nI g + nI (3 * t) = nI (g + 3 * t) := nI_add _ _
                    have x1 : nI (g + 3 * t) + 1 = nI (g + 3 * t + 1) := nI_1 _
                    have x2 : nI (g + 3 * t) + 2 = nI (g + 3 * t + 2) := nI_add _ 2
                    have y0 : 40 * nI s + nI g + nI (3 * t) = nI (40 * s + (g + 3 * t)) := by rw [show (40 : Int32) = nI 40 from rfl, nI_mul, nI_add, nI_add]; congr 1; omega
                    have y1 : nI (40 * s + (g + 3 * t)) + 1 = nI (40 * s + (g + 3 * t + 1)) := nI_1 _
                    have y2 : nI (40 * s + (g + 3 * t)) + 2 = nI (40 * s + (g + 3 * t + 2)) := nI_add _ 2
                    simp only [x0, x1, x2, y0, y1, y2, nI_clamp (show g + 3 * t < 2 ^ 31 by omega), nI_clamp (show g + 3 * t + 1 < 2 ^ 31 by omega), nI_clamp (show g + 3 * t + 2 < 2 ^ 31 by omega), nI_clamp (show 40 * s + (g + 3 * t) < 2 ^ 31 by omega), nI_clamp (show 40 * s + (g + 3 * t + 1) < 2 ^ 31 by omega), nI_clamp (show 40 * s + (g + 3 * t + 2) < 2 ^ 31 by omega)]
                    rw [k6 (g + 3 * t) (by omega), k6 (g + 3 * t + 1) (by omega), k6 (g + 3 * t + 2) (by omega)]
                    obtain ⟨r1, r2, r3, r4, r5, r6⟩ := regret_eq hR (σ.2.2.1 40 (40 * s + (g + 3 * t))) (σ.2.2.1 40 (40 * s + (g + 3 * t + 1))) (σ.2.2.1 40 (40 * s + (g + 3 * t + 2)))
                    have p0 : nI e + 0 = nI e := nI_add e 0
                    by_cases neg : (fX6_regret σ' (σ.2.2.1 40 (40 * s + (g + 3 * t))) (σ.2.2.1 40 (40 * s + (g + 3 * t + 1))) (σ.2.2.1 40 (40 * s + (g + 3 * t + 2)))).1 < 0
                    · rw [r3]
                      have K := hk (m - 1) (_, nI e, nI (t + 1)) (_, nI e, nI (t + 1)) (by omega) ⟨_, _, e, t + 1, rfl, rfl, by omega, r4, r5.trans hx, fun k hk => (r6 k hk).trans (hσ k hk)⟩
                      simp only [↓reduceIte, not_true_eq_false, not_false_eq_true, false_implies, true_implies, implies_true, true_and, and_true, and_self, eq_self, Bool.false_eq_true, c1, f0, fz, hs, vs, r1, r2, neg, p0, vp_in_nI (show g + 3 * t < 40 by omega) (by decide), vp_in_nI (show g + 3 * t + 1 < 40 by omega) (by decide), vp_in_nI (show g + 3 * t + 2 < 40 by omega) (by decide), vp_in_nI (show 40 * s + (g + 3 * t) < 160 by omega) (by decide), vp_in_nI (show 40 * s + (g + 3 * t + 1) < 160 by omega) (by decide), vp_in_nI (show 40 * s + (g + 3 * t + 2) < 160 by omega) (by decide)]
                      exact K
                    · rw [r3]
                      have K := hk (m - 1) (_, nI (e + 1), nI (t + 1)) (_, nI (e + 1), nI (t + 1)) (by omega) ⟨_, _, e + 1, t + 1, rfl, rfl, by omega, r4, r5.trans hx, fun k hk => (r6 k hk).trans (hσ k hk)⟩
                      simp only [↓reduceIte, not_true_eq_false, not_false_eq_true, false_implies, true_implies, implies_true, true_and, and_true, and_self, eq_self, Bool.false_eq_true, c1, f0, fz, hs, vs, r1, r2, neg, vp_in_nI (show g + 3 * t < 40 by omega) (by decide), vp_in_nI (show g + 3 * t + 1 < 40 by omega) (by decide), vp_in_nI (show g + 3 * t + 2 < 40 by omega) (by decide), vp_in_nI (show 40 * s + (g + 3 * t) < 160 by omega) (by decide), vp_in_nI (show 40 * s + (g + 3 * t + 1) < 160 by omega) (by decide), vp_in_nI (show 40 * s + (g + 3 * t + 2) < 160 by omega) (by decide)]
                      exact K
                  · simp only [↓reduceIte, not_true_eq_false, not_false_eq_true, false_implies, true_implies, implies_true, true_and, and_true, and_self, eq_self, Bool.false_eq_true, c1, f0, fz, hs, vs]
                    exact hR
              · have c1 : nI c ≤ nI t := nI_le (by omega) (by omega)
                simp only [↓reduceIte, not_true_eq_false, not_false_eq_true, false_implies, true_implies, implies_true, true_and, and_true, and_self, eq_self, Bool.false_eq_true, c1]
                exact hR) fu fu c (ξ, 0, 0) (σ, 0, 0) ⟨ξ, σ, 0, 0, rfl, rfl, by omega, h, rfl, fun _ _ => rfl⟩ (by show c < 1000; omega) (by show c < 1000; omega)
            simp only [↓reduceIte, not_true_eq_false, not_false_eq_true, false_implies, true_implies, implies_true, true_and, and_true, and_self, eq_self, Bool.false_eq_true, g1, g2, a, b, one_ne, a1, b1, a2, b2, vs, hs, mi, eq_true ek, L.1, L.2.1]
            exact L.2.2
          · simp only [↓reduceIte, not_true_eq_false, not_false_eq_true, false_implies, true_implies, implies_true, true_and, and_true, and_self, eq_self, Bool.false_eq_true, g1, g2, a, b, one_ne, a1, b1, a2, b2, vs, hs, mi, ek]
            exact h
end

section
/-! small numbers -/
theorem kne_0_1 : (nI 0 = 1) = False := eq_false (by decide)
theorem kne_0_2 : (nI 0 = 2) = False := eq_false (by decide)
theorem kne_0_3 : (nI 0 = 3) = False := eq_false (by decide)
theorem kne_0_4 : (nI 0 = 4) = False := eq_false (by decide)
theorem kne_0_5 : (nI 0 = 5) = False := eq_false (by decide)
theorem kne_0_6 : (nI 0 = 6) = False := eq_false (by decide)
theorem keq_0 : (nI 0 = 0) = True := eq_true rfl
theorem kne_1_0 : (nI 1 = 0) = False := eq_false (by decide)
theorem kne_1_2 : (nI 1 = 2) = False := eq_false (by decide)
theorem kne_1_3 : (nI 1 = 3) = False := eq_false (by decide)
theorem kne_1_4 : (nI 1 = 4) = False := eq_false (by decide)
theorem kne_1_5 : (nI 1 = 5) = False := eq_false (by decide)
theorem kne_1_6 : (nI 1 = 6) = False := eq_false (by decide)
theorem keq_1 : (nI 1 = 1) = True := eq_true rfl
theorem kne_2_0 : (nI 2 = 0) = False := eq_false (by decide)
theorem kne_2_1 : (nI 2 = 1) = False := eq_false (by decide)
theorem kne_2_3 : (nI 2 = 3) = False := eq_false (by decide)
theorem kne_2_4 : (nI 2 = 4) = False := eq_false (by decide)
theorem kne_2_5 : (nI 2 = 5) = False := eq_false (by decide)
theorem kne_2_6 : (nI 2 = 6) = False := eq_false (by decide)
theorem keq_2 : (nI 2 = 2) = True := eq_true rfl
theorem kne_3_0 : (nI 3 = 0) = False := eq_false (by decide)
theorem kne_3_1 : (nI 3 = 1) = False := eq_false (by decide)
theorem kne_3_2 : (nI 3 = 2) = False := eq_false (by decide)
theorem kne_3_4 : (nI 3 = 4) = False := eq_false (by decide)
theorem kne_3_5 : (nI 3 = 5) = False := eq_false (by decide)
theorem kne_3_6 : (nI 3 = 6) = False := eq_false (by decide)
theorem keq_3 : (nI 3 = 3) = True := eq_true rfl
theorem kne_4_0 : (nI 4 = 0) = False := eq_false (by decide)
theorem kne_4_1 : (nI 4 = 1) = False := eq_false (by decide)
theorem kne_4_2 : (nI 4 = 2) = False := eq_false (by decide)
theorem kne_4_3 : (nI 4 = 3) = False := eq_false (by decide)
theorem kne_4_5 : (nI 4 = 5) = False := eq_false (by decide)
theorem kne_4_6 : (nI 4 = 6) = False := eq_false (by decide)
theorem keq_4 : (nI 4 = 4) = True := eq_true rfl
theorem kne_5_0 : (nI 5 = 0) = False := eq_false (by decide)
theorem kne_5_1 : (nI 5 = 1) = False := eq_false (by decide)
theorem kne_5_2 : (nI 5 = 2) = False := eq_false (by decide)
theorem kne_5_3 : (nI 5 = 3) = False := eq_false (by decide)
theorem kne_5_4 : (nI 5 = 4) = False := eq_false (by decide)
theorem kne_5_6 : (nI 5 = 6) = False := eq_false (by decide)
theorem keq_5 : (nI 5 = 5) = True := eq_true rfl
theorem kne_6_0 : (nI 6 = 0) = False := eq_false (by decide)
theorem kne_6_1 : (nI 6 = 1) = False := eq_false (by decide)
theorem kne_6_2 : (nI 6 = 2) = False := eq_false (by decide)
theorem kne_6_3 : (nI 6 = 3) = False := eq_false (by decide)
theorem kne_6_4 : (nI 6 = 4) = False := eq_false (by decide)
theorem kne_6_5 : (nI 6 = 5) = False := eq_false (by decide)
theorem keq_6 : (nI 6 = 6) = True := eq_true rfl
theorem jmin_n {a b : Nat} (ha : a < 2 ^ 31) (hb : b < 2 ^ 31) : jmin (nI a) (nI b) = nI (min a b) := by
  unfold jmin
  by_cases c : b < a
  · rw [if_pos (nI_lt c ha), Nat.min_eq_right (by omega)]
  · rw [if_neg (nI_nlt (by omega) hb), Nat.min_eq_left (by omega)]
theorem jmax_n {a b : Nat} (ha : a < 2 ^ 31) (hb : b < 2 ^ 31) : jmax (nI a) (nI b) = nI (max a b) := by
  unfold jmax
  by_cases c : a < b
  · rw [if_pos (nI_lt c hb), Nat.max_eq_right (by omega)]
  · rw [if_neg (nI_nlt (by omega) ha), Nat.max_eq_left (by omega)]
theorem win_n {b M : Nat} (hb : b < 2 ^ 31) (hM : M < 2 ^ 31) : fX6_within (nI b) 0 (nI M) = nI (min b M) := by
  unfold fX6_within pX6_within_0
  rw [if_pos (nI_pos' hb)]
  by_cases c : b ≤ M
  · rw [if_pos (nI_le c hM), Nat.min_eq_left c]
  · rw [if_neg (nI_ge (by omega) hb), Nat.min_eq_right (by omega)]
theorem two_n (x : Nat) : 2 * nI x = nI (2 * x) := by rw [show (2 : Int32) = nI 2 from rfl, nI_mul]
theorem add4_n (x : Nat) : nI x + 4 = nI (x + 4) := nI_add x 4
theorem half_n {x : Nat} (hx : x < 2 ^ 31) : nI x / 2 = nI (x / 2) := pk_div (d := 2) hx (by decide) (by decide)
theorem odd_n {x : Nat} (hx : x < 2 ^ 31) : nI x - nI x / 2 * 2 = nI (x % 2) := pk_rem (d := 2) hx (by decide) (by decide)
theorem less_n : ∀ f, f ≤ 99 → ∀ l, l ≤ 99 → jmax 0 (nI f - nI l) = nI (f - l) ∧ fX6_within (nI f - nI l) 0 99 = nI (f - l) := by
  have h : ((List.range 100).all fun f => (List.range 100).all fun l => decide (jmax 0 (nI f - nI l) = nI (f - l) ∧ fX6_within (nI f - nI l) 0 99 = nI (f - l))) = true := by decide +kernel
  intro f hf l hl
  exact of_decide_eq_true (List.all_eq_true.mp (List.all_eq_true.mp h f (List.mem_range.mpr (by omega))) l (List.mem_range.mpr (by omega)))
end

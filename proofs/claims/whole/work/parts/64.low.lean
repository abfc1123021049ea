/-! lowest terms -/
theorem lN_dv {a d : Nat} (ha : a < 2 ^ 31) (h0 : 0 < d) (hd : d < 2 ^ 31) : lN a / lN d = lN (a / d) := by
  apply Int64.toInt_inj.mp
  rw [lg_ldiv_nonneg (by rw [lN_toInt ha]; omega) (by rw [lN_toInt hd]; omega), lN_toInt ha, lN_toInt hd, lN_toInt (Nat.lt_of_le_of_lt (Nat.div_le_self a d) ha)]
  exact (Int.natCast_ediv _ _).symm
theorem lN_rem {a d : Nat} (ha : a < 2 ^ 31) (h0 : 0 < d) (hd : d < 2 ^ 31) : lN a - lN a / lN d * lN d = lN (a % d) := by
  rw [lN_dv ha h0 hd, lN_mul, lN_sub (Nat.div_mul_le_self a d)]
  congr 1
  have := Nat.div_add_mod a d
  rw [Nat.mul_comm] at this
  omega
theorem lN_0 : lN 0 = 0 := rfl
theorem lN_z {n : Nat} (h : n < 2 ^ 31) : lN n = 0 ↔ n = 0 := lN_eq h (by decide)
theorem nI_z {n : Nat} (h : n < 2 ^ 31) : nI n = 0 ↔ n = 0 := nI_eq h (by decide)
theorem low6 {a b : Nat} (ha : a < 900) (hb : 0 < b) (hb2 : b < 900) (part : Int32) : gX6_lowest (lN a) (lN b) part ∧ fX6_lowest (lN a) (lN b) part = if part = 0 then lN (a / Nat.gcd a b) else lN (b / Nat.gcd a b) := by
  have hg : 0 < Nat.gcd a b := Nat.gcd_pos_of_pos_right a hb
  have hgb : Nat.gcd a b ≤ b := Nat.gcd_le_right a hb
  have base := lp_run (d := (0 : Int64)) (body := bX6_lowest_6 (lN a) (lN b) part) (ok := kX6_lowest_6 (lN a) (lN b) part) (fun m v r => ∃ p q, v = (lN p, lN q) ∧ p < 900 ∧ q = m ∧ q < 900 ∧ Nat.gcd p q = Nat.gcd a b ∧ r = if part = 0 then lN (a / Nat.gcd a b) else lN (b / Nat.gcd a b)) (by
    rintro m v r ⟨p, q, rfl, hp, rfl, hq, hgcd, rfl⟩ kR kO hk
    unfold bX6_lowest_6 kX6_lowest_6
    by_cases e : q = 0
    · subst e
      rw [Nat.gcd_zero_right] at hgcd
      have c : lN 0 = 0 := rfl
      have np : ¬ lN p = 0 := fun h => by rw [lN_z (by omega)] at h; omega
      refine ⟨(if_pos c).trans ?_, fun _ => ⟨fun _ => np, fun _ => np⟩, fun h => absurd c h⟩
      show (if part = 0 then lN a / lN p else lN b / lN p) = _
      rw [lN_dv (by omega) (by omega) (by omega), lN_dv (by omega) (by omega) (by omega), hgcd]
    · have c : ¬ lN q = 0 := fun h => e ((lN_z (by omega)).mp h)
      have hm := Nat.mod_lt p (y := q) (by omega)
      have hh := hk (p % q) (lN q, lN (p % q)) _ hm ⟨q, p % q, rfl, hq, rfl, by omega, by rw [← hgcd, Nat.gcd_comm p q, Nat.gcd_rec q p, Nat.gcd_comm], rfl⟩
      rw [← lN_rem (a := p) (d := q) (by omega) (by omega) (by omega)] at hh
      exact ⟨(if_neg c).trans hh.1, fun h => absurd h c, fun _ => ⟨c, hh.2⟩⟩) fu b (lN a, lN b) _ ⟨a, b, rfl, ha, rfl, hb2, rfl, rfl⟩ (by show b < 1000; omega)
  exact ⟨base.2, base.1⟩
theorem low5 {a b : Nat} (ha : a < 900) (hb : 0 < b) (hb2 : b < 900) (part : Int32) : gX5_lowest (nI a) (nI b) part ∧ fX5_lowest (nI a) (nI b) part = if part = 0 then nI (a / Nat.gcd a b) else nI (b / Nat.gcd a b) := by
  have hg : 0 < Nat.gcd a b := Nat.gcd_pos_of_pos_right a hb
  have hgb : Nat.gcd a b ≤ b := Nat.gcd_le_right a hb
  have base : ∀ t : Nat, t < 900 → lp 0 (bX5_lowest_13 (nI a) (nI b) (nI t)) fu (nI b) = nI (t / Nat.gcd a b) ∧ lpOk (kX5_lowest_13 (nI a) (nI b) (nI t)) fu (nI b) := fun t ht => lp_run (d := (0 : Int32)) (body := bX5_lowest_13 (nI a) (nI b) (nI t)) (ok := kX5_lowest_13 (nI a) (nI b) (nI t)) (fun m v r => v = nI m ∧ m < 900 ∧ Nat.gcd a b ≤ m ∧ r = nI (t / Nat.gcd a b)) (by
    rintro m v r ⟨rfl, hm, hgm, rfl⟩ kR kO hk
    unfold bX5_lowest_13 kX5_lowest_13 pX5_lowest_38 oX5_lowest_38
    by_cases e : m ≤ 1
    · have c : nI m ≤ 1 := nI_le (b := 1) e (by omega)
      have e1 : Nat.gcd a b = 1 := by omega
      exact ⟨(if_pos c).trans (by rw [e1, Nat.div_one]), fun _ => trivial, fun h => absurd c h⟩
    · have c : ¬ nI m ≤ 1 := nI_ge (a := 1) (by omega) (by omega)
      have nz : ¬ nI m = 0 := fun h => by rw [nI_z (by omega)] at h; omega
      rw [pk_rem (by omega) (by omega) (by omega), pk_rem (by omega) (by omega) (by omega), pk_div (by omega) (by omega) (by omega), if_neg c]
      have z1 : nI (a % m) = 0 ↔ a % m = 0 := nI_z (by have := Nat.mod_lt a (y := m) (by omega); omega)
      have z2 : nI (b % m) = 0 ↔ b % m = 0 := nI_z (by have := Nat.mod_lt b (y := m) (by omega); omega)
      have step : ¬ (a % m = 0 ∧ b % m = 0) → kR (nI m + (-1)) = nI (t / Nat.gcd a b) ∧ kO (nI m + (-1)) := by
        intro hno
        have e4 : nI m + (-1) = nI (m - 1) := by rw [show m = (m - 1) + 1 by omega, pk_m1]; rfl
        rw [e4]
        refine hk (m - 1) _ _ (by omega) ⟨rfl, by omega, ?_, rfl⟩
        have : ¬ Nat.gcd a b = m := fun g => hno ⟨by rw [← g]; exact Nat.mod_eq_zero_of_dvd (Nat.gcd_dvd_left a b), by rw [← g]; exact Nat.mod_eq_zero_of_dvd (Nat.gcd_dvd_right a b)⟩
        omega
      by_cases h1 : nI (a % m) = 0
      · by_cases h2 : nI (b % m) = 0
        · have hd : m ∣ Nat.gcd a b := Nat.dvd_gcd (Nat.dvd_of_mod_eq_zero (z1.mp h1)) (Nat.dvd_of_mod_eq_zero (z2.mp h2))
          have e5 : Nat.gcd a b = m := Nat.le_antisymm hgm (Nat.le_of_dvd hg hd)
          rw [if_pos h1, if_pos h2, e5]
          exact ⟨rfl, fun h => absurd h c, fun _ => ⟨nz, fun _ => ⟨nz, fun _ => nz, fun h => absurd h2 h⟩, fun h => absurd h1 h⟩⟩
        · rw [if_pos h1, if_neg h2]
          obtain ⟨s1, s2⟩ := step (fun g => h2 (z2.mpr g.2))
          exact ⟨s1, fun h => absurd h c, fun _ => ⟨nz, fun _ => ⟨nz, fun h => absurd h h2, fun _ => s2⟩, fun h => absurd h1 h⟩⟩
      · rw [if_neg h1]
        obtain ⟨s1, s2⟩ := step (fun g => h1 (z1.mpr g.1))
        exact ⟨s1, fun h => absurd h c, fun _ => ⟨nz, fun h => absurd h h1, fun _ => s2⟩⟩) fu b (nI b) _ ⟨rfl, hb2, hgb, rfl⟩ (by show b < 1000; omega)
  unfold gX5_lowest oX5_lowest_0 fX5_lowest pX5_lowest_0 pX5_lowest_9 oX5_lowest_9
  rw [(base a ha).1, (base b hb2).1]
  exact ⟨⟨fun _ => (base a ha).2, fun _ => (base b hb2).2⟩, rfl⟩
theorem low_eq {a b : Nat} (ha : a < 900) (hb : 0 < b) (hb2 : b < 900) (part : Int32) : gX5_lowest (nI a) (nI b) part ∧ gX6_lowest (lN a) (lN b) part ∧ (fX5_lowest (nI a) (nI b) part).toInt64 = fX6_lowest (lN a) (lN b) part := by
  refine ⟨(low5 ha hb hb2 part).1, (low6 ha hb hb2 part).1, ?_⟩
  rw [(low5 ha hb hb2 part).2, (low6 ha hb hb2 part).2]
  split
  · exact nI_l (Nat.lt_of_le_of_lt (Nat.div_le_self _ _) (by omega))
  · exact nI_l (Nat.lt_of_le_of_lt (Nat.div_le_self _ _) (by omega))

theorem sq1 {b n M : Nat} (hb : b < 256) : q1 (0x55 + 256 * M) (b + 256 * n) = q1 0x55 b + 256 * q1 M n := by
  unfold q1
  have e : (b + 256 * n) / 2 = (b / 2 + 128 * (n % 2)) + 256 * (n / 2) := by omega
  rw [e, land256 (by omega) (by decide), by1 b hb _ (by omega)]
  have h1 := (by3 b hb).2.1
  have h2 : (n / 2 &&& M) ≤ n := Nat.le_trans Nat.and_le_left (Nat.div_le_self n 2)
  omega
theorem sq2 {b n M : Nat} (hb : b < 256) : q2 (0x33 + 256 * M) (b + 256 * n) = q2 0x33 b + 256 * q2 M n := by
  unfold q2
  have e : (b + 256 * n) / 4 = (b / 4 + 64 * (n % 4)) + 256 * (n / 4) := by omega
  rw [e, land256 hb (by decide), land256 (by omega) (by decide), by2 b hb _ (by omega)]
  omega
theorem sq3 {b n M : Nat} (hb : b < 69) (hn : n % 16 ≤ 4) : q3 (0x0f + 256 * M) (b + 256 * n) = q3 0x0f b + 256 * q3 M n := by
  unfold q3
  have e : (b + 256 * n) + (b + 256 * n) / 16 = (b + b / 16 + 16 * (n % 16)) + 256 * (n + n / 16) := by omega
  rw [e, land256 (by omega) (by decide), by4 b hb _ (by omega)]

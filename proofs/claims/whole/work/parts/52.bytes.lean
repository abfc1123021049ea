/-! the JDK's bitCount, byte by byte -/
theorem land256 {a m : Nat} (ha : a < 256) (hm : m < 256) (c M : Nat) : (a + 256 * c) &&& (m + 256 * M) = (a &&& m) + 256 * (c &&& M) := by
  have h1 : a &&& m < 256 := Nat.lt_of_le_of_lt Nat.and_le_left ha
  apply Nat.eq_of_testBit_eq
  intro i
  rw [Nat.testBit_and, Nat.add_comm a, Nat.add_comm m, Nat.add_comm (a &&& m), show 256 = 2 ^ 8 from rfl, Nat.testBit_two_pow_mul_add _ ha, Nat.testBit_two_pow_mul_add _ hm, Nat.testBit_two_pow_mul_add _ h1, Nat.testBit_and, Nat.testBit_and]
  split <;> rfl
def q1 (M n : Nat) : Nat := n - ((n / 2) &&& M)
def q2 (M n : Nat) : Nat := (n &&& M) + ((n / 4) &&& M)
def q3 (M n : Nat) : Nat := (n + n / 16) &&& M
theorem by1 : ∀ b, b < 256 → ∀ r, r < 2 → (b / 2 + 128 * r) &&& 0x55 = (b / 2) &&& 0x55 := by decide +kernel
theorem by2 : ∀ b, b < 256 → ∀ r, r < 4 → (b / 4 + 64 * r) &&& 0x33 = (b / 4) &&& 0x33 := by decide +kernel
theorem by3 : ∀ b, b < 256 → (q1 0x55 b < 256 ∧ (b / 2 &&& 0x55) ≤ b ∧ (q2 0x33 (q1 0x55 b) < 69 ∧ q2 0x33 (q1 0x55 b) % 16 ≤ 4) ∧ q3 0x0f (q2 0x33 (q1 0x55 b)) ≤ 8 ∧ q3 0x0f (q2 0x33 (q1 0x55 b)) = cnt b.testBit 8) := by decide +kernel
theorem by4 : ∀ b, b < 69 → ∀ r, r < 16 → (b + b / 16 + 16 * r) &&& 0x0f = (b + b / 16) &&& 0x0f := by decide +kernel

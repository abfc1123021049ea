/-- the masks of so many bytes -/
def mk (m : Nat) : Nat → Nat
  | 0 => 0
  | j + 1 => m + 256 * mk m j
/-- a byte's count in each byte -/
def qs3 : Nat → Nat → Nat
  | 0, _ => 0
  | j + 1, n => cnt (n % 256).testBit 8 + 256 * qs3 j (n / 256)
theorem mk_s (m j : Nat) : mk m (j + 1) = m + 256 * mk m j := rfl
theorem qs3_s (j n : Nat) : qs3 (j + 1) n = cnt (n % 256).testBit 8 + 256 * qs3 j (n / 256) := rfl
theorem q_low : ∀ (j n : Nat), n < 256 ^ j → q2 (mk 0x33 j) (q1 (mk 0x55 j) n) % 16 ≤ 4
  | 0, n, h => by
    have : n = 0 := by simpa using h
    subst this; decide
  | j + 1, n, _ => by
    have e : n = n % 256 + 256 * (n / 256) := by omega
    have hb : n % 256 < 256 := Nat.mod_lt _ (by decide)
    conv => lhs; rw [e]
    rw [mk_s, mk_s, sq1 hb, sq2 (by3 _ hb).1]
    have := (by3 _ hb).2.2.1.2
    omega
theorem q_all : ∀ (j n : Nat), n < 256 ^ j → q3 (mk 0x0f j) (q2 (mk 0x33 j) (q1 (mk 0x55 j) n)) = qs3 j n
  | 0, n, h => by
    have : n = 0 := by simpa using h
    subst this; rfl
  | j + 1, n, h => by
    have e : n = n % 256 + 256 * (n / 256) := by omega
    have hb : n % 256 < 256 := Nat.mod_lt _ (by decide)
    have hd : n / 256 < 256 ^ j := by rw [Nat.pow_succ] at h; omega
    conv => lhs; rw [e]
    rw [mk_s, mk_s, mk_s, qs3_s, sq1 hb, sq2 (by3 _ hb).1, sq3 (by3 _ hb).2.2.1.1 (q_low j _ hd), q_all j _ hd, (by3 _ hb).2.2.2.2]
theorem tb_byte (n i : Nat) : n.testBit (8 + i) = (n / 256).testBit i := by
  rw [show 256 = 2 ^ 8 from rfl, Nat.testBit_div_two_pow, Nat.add_comm]
theorem cnt_low (n : Nat) : cnt n.testBit 8 = cnt (n % 256).testBit 8 := cnt_cong (fun k hk => by
  rw [show 256 = 2 ^ 8 from rfl, Nat.testBit_mod_two_pow]; simp [hk])
theorem cnt_step (n m : Nat) : cnt n.testBit (8 + m) = cnt (n % 256).testBit 8 + cnt (n / 256).testBit m := by
  rw [cnt_split, ← cnt_low]
  congr 1
  exact cnt_cong (fun k _ => tb_byte n k)

/-- the sum of eight bytes' counts, as the JDK adds them -/
theorem dvq {p X m : Nat} (hp : p < m) : (p + m * X) / m = X := by rw [Nat.add_mul_div_left _ _ (by omega), Nat.div_eq_of_lt hp, Nat.zero_add]
theorem sum8 {p0 p1 p2 p3 p4 p5 p6 p7 : Nat} (h0 : p0 ≤ 8) (h1 : p1 ≤ 8) (h2 : p2 ≤ 8) (h3 : p3 ≤ 8) (h4 : p4 ≤ 8) (h5 : p5 ≤ 8) (h6 : p6 ≤ 8) (h7 : p7 ≤ 8) {a3 a4 a5 a6 : Nat} (e3 : a3 = p0 + 256 * (p1 + 256 * (p2 + 256 * (p3 + 256 * (p4 + 256 * (p5 + 256 * (p6 + 256 * (p7 + 256 * 0)))))))) (e4 : a4 = a3 + a3 / 256) (e5 : a5 = a4 + a4 / 65536) (e6 : a6 = a5 + a5 / 4294967296) : a6 % 128 = p0 + (p1 + (p2 + (p3 + (p4 + (p5 + (p6 + p7)))))) := by
  have d3 : a3 / 256 = p1 + 256 * (p2 + 256 * (p3 + 256 * (p4 + 256 * (p5 + 256 * (p6 + 256 * (p7 + 256 * 0)))))) := by rw [e3]; exact dvq (by omega)
  have f4 : a4 = ((p0 + p1) + 256 * (p1 + p2)) + 65536 * ((p2 + p3) + 256 * (p3 + p4) + 65536 * ((p4 + p5) + 256 * (p5 + p6) + 65536 * ((p6 + p7) + 256 * p7))) := by rw [e4, d3, e3]; omega
  have d4 : a4 / 65536 = (p2 + p3) + 256 * (p3 + p4) + 65536 * ((p4 + p5) + 256 * (p5 + p6) + 65536 * ((p6 + p7) + 256 * p7)) := by rw [f4]; exact dvq (by omega)
  have f5 : a5 = ((p0 + p1 + p2 + p3) + 256 * (p1 + p2 + p3 + p4) + 65536 * ((p2 + p3 + p4 + p5) + 256 * (p3 + p4 + p5 + p6))) + 4294967296 * ((p4 + p5 + p6 + p7) + 256 * (p5 + p6 + p7) + 65536 * ((p6 + p7) + 256 * p7)) := by rw [e5, d4, f4]; omega
  have d5 : a5 / 4294967296 = (p4 + p5 + p6 + p7) + 256 * (p5 + p6 + p7) + 65536 * ((p6 + p7) + 256 * p7) := by rw [f5]; exact dvq (by omega)
  have f6 : a6 = (p0 + (p1 + (p2 + (p3 + (p4 + (p5 + (p6 + p7))))))) + 128 * (2 * (p1 + p2 + p3 + p4) + 512 * ((p2 + p3 + p4 + p5) + 256 * (p3 + p4 + p5 + p6)) + 33554432 * ((p4 + p5 + p6 + p7) + 256 * (p5 + p6 + p7) + 65536 * ((p6 + p7) + 256 * p7)) + 2 * (p5 + p6 + p7) + 512 * ((p6 + p7) + 256 * p7)) := by rw [e6, d5, f5]; omega
  rw [f6, Nat.add_mul_mod_self_left, Nat.mod_eq_of_lt (by omega)]
theorem uq_of (x : Int64) : ∃ n, n < 2 ^ 64 ∧ x = lN n := ⟨x.toBitVec.toNat, x.toBitVec.isLt, Int64.toBitVec_inj.mp (by show _ = BitVec.ofNat 64 _; simp)⟩
theorem uq_tn {n : Nat} (h : n < 2 ^ 64) : (lN n).toBitVec.toNat = n := by show (BitVec.ofNat 64 n).toNat = n; rw [BitVec.toNat_ofNat, Nat.mod_eq_of_lt h]
theorem uq_shr {n k : Nat} (hn : n < 2 ^ 64) (hk : k < 64) : jushr (lN n) (nI k) = lN (n / 2 ^ k) := by
  apply tb_ext
  intro i _
  rw [tb_ushr _ hk, tb_nat, tb_nat, uq_tn hn, uq_tn (Nat.lt_of_le_of_lt (Nat.div_le_self n _) hn), Nat.testBit_div_two_pow, Nat.add_comm]
theorem uq_and {a b : Nat} (ha : a < 2 ^ 64) (hb : b < 2 ^ 64) : lN a &&& lN b = lN (a &&& b) := by
  apply tb_ext
  intro i _
  rw [tb_and, tb_nat, tb_nat, tb_nat, uq_tn ha, uq_tn hb, uq_tn (Nat.lt_of_le_of_lt Nat.and_le_left ha), Nat.testBit_and]

theorem uq_of (x : Int64) : ∃ n, n < 2 ^ 64 ∧ x = lN n := ⟨x.toBitVec.toNat, x.toBitVec.isLt, Int64.toBitVec_inj.mp (by show _ = BitVec.ofNat 64 _; simp)⟩
theorem uq_tn {n : Nat} (h : n < 2 ^ 64) : (lN n).toBitVec.toNat = n := by show (BitVec.ofNat 64 n).toNat = n; rw [BitVec.toNat_ofNat, Nat.mod_eq_of_lt h]
theorem uq_shr {n k : Nat} (hn : n < 2 ^ 64) (hk : k < 64) : jushr (lN n) (nI k) = lN (n / 2 ^ k) := by
  apply tb_ext
  intro i _
  rw [tb_ushr _ hk, tb_nat, tb_nat, uq_tn hn, uq_tn (Nat.lt_of_le_of_lt (Nat.div_le_self n _) hn), Nat.testBit_div_two_pow, Nat.add_comm]
theorem uq_and {a b : Nat} (ha : a < 2 ^ 64) (hb : b < 2 ^ 64) : lN a &&& lN b = lN (a &&& b) := by
  apply tb_ext
  intro i _
  rw [tb_and, tb_nat, tb_nat, tb_nat, uq_tn ha, uq_tn hb, uq_tn (Nat.lt_of_le_of_lt Nat.and_le_left ha), Nat.testBit_and]

theorem bc_lt {a b : Nat} (h : a < 2 ^ 64) : a &&& b < 2 ^ 64 := Nat.lt_of_le_of_lt Nat.and_le_left h
theorem bc_dv {a k : Nat} (h : a < 2 ^ 64) : a / 2 ^ k < 2 ^ 64 := Nat.lt_of_le_of_lt (Nat.div_le_self a _) h
theorem bc_1 {n : Nat} (hn : n < 2 ^ 64) : lN n - (jushr (lN n) 1 &&& 6148914691236517205) = lN (q1 (mk 0x55 8) n) := by
  have k1 : jushr (lN n) 1 = lN (n / 2 ^ 1) := uq_shr hn (k := 1) (by decide)
  have k2 : (6148914691236517205 : Int64) = lN (mk 0x55 8) := by decide
  rw [k1, k2, uq_and (bc_dv hn) (by decide), lN_sub (Nat.le_trans Nat.and_le_left (Nat.div_le_self _ _))]
  rfl
theorem bc_2 {n : Nat} (hn : n < 2 ^ 64) : (lN n &&& 3689348814741910323) + (jushr (lN n) 2 &&& 3689348814741910323) = lN (q2 (mk 0x33 8) n) := by
  have k1 : jushr (lN n) 2 = lN (n / 2 ^ 2) := uq_shr hn (k := 2) (by decide)
  have k2 : (3689348814741910323 : Int64) = lN (mk 0x33 8) := by decide
  rw [k1, k2, uq_and hn (by decide), uq_and (bc_dv hn) (by decide), lN_add]
  rfl
theorem bc_3 {n : Nat} (hn : n < 2 ^ 63) : (lN n + jushr (lN n) 4) &&& 1085102592571150095 = lN (q3 (mk 0x0f 8) n) := by
  have k1 : jushr (lN n) 4 = lN (n / 2 ^ 4) := uq_shr (by omega) (k := 4) (by decide)
  have k2 : (1085102592571150095 : Int64) = lN (mk 0x0f 8) := by decide
  have k3 : n / 2 ^ 4 ≤ n := Nat.div_le_self _ _
  rw [k1, k2, lN_add, uq_and (by omega) (by decide)]
  rfl
theorem bc_q1 {n : Nat} (hn : n < 2 ^ 64) : q1 (mk 0x55 8) n < 2 ^ 64 := Nat.lt_of_le_of_lt (Nat.sub_le _ _) hn
theorem bc_q2 (n : Nat) : q2 (mk 0x33 8) n < 2 ^ 63 := by
  have h1 : (n &&& mk 0x33 8) ≤ mk 0x33 8 := Nat.and_le_right
  have h2 : (n / 4 &&& mk 0x33 8) ≤ mk 0x33 8 := Nat.and_le_right
  have h3 : mk 0x33 8 + mk 0x33 8 < 2 ^ 63 := by decide
  unfold q2
  omega
theorem bc_q3 (n : Nat) : q3 (mk 0x0f 8) n < 2 ^ 61 := Nat.lt_of_le_of_lt Nat.and_le_right (by decide)
theorem bc_cnt {n : Nat} (hn : n < 2 ^ 64) : pcn (lN n) = cnt (n % 256).testBit 8 + (cnt (n / 256 % 256).testBit 8 + (cnt (n / 256 / 256 % 256).testBit 8 + (cnt (n / 256 / 256 / 256 % 256).testBit 8 + (cnt (n / 256 / 256 / 256 / 256 % 256).testBit 8 + (cnt (n / 256 / 256 / 256 / 256 / 256 % 256).testBit 8 + (cnt (n / 256 / 256 / 256 / 256 / 256 / 256 % 256).testBit 8 + cnt (n / 256 / 256 / 256 / 256 / 256 / 256 / 256 % 256).testBit 8)))))) := by
  have e : pcn (lN n) = cnt n.testBit (8 + (8 + (8 + (8 + (8 + (8 + (8 + 8))))))) := cnt_cong (fun i _ => by rw [tb_nat, uq_tn hn])
  rw [e, cnt_step, cnt_step, cnt_step, cnt_step, cnt_step, cnt_step, cnt_step, cnt_low (n / 256 / 256 / 256 / 256 / 256 / 256 / 256)]
theorem bc_q8 (n : Nat) : qs3 8 n = cnt (n % 256).testBit 8 + 256 * (cnt (n / 256 % 256).testBit 8 + 256 * (cnt (n / 256 / 256 % 256).testBit 8 + 256 * (cnt (n / 256 / 256 / 256 % 256).testBit 8 + 256 * (cnt (n / 256 / 256 / 256 / 256 % 256).testBit 8 + 256 * (cnt (n / 256 / 256 / 256 / 256 / 256 % 256).testBit 8 + 256 * (cnt (n / 256 / 256 / 256 / 256 / 256 / 256 % 256).testBit 8 + 256 * cnt (n / 256 / 256 / 256 / 256 / 256 / 256 / 256 % 256).testBit 8)))))) := by
  rw [qs3_s, qs3_s, qs3_s, qs3_s, qs3_s, qs3_s, qs3_s, qs3_s, show ∀ m, qs3 0 m = 0 from fun _ => rfl, Nat.mul_zero, Nat.add_zero]
theorem bc_127 (w : Nat) : nI w &&& 127 = nI (w % 128) := by
  have h := pk_and (nI w) (m := 127) 7 (by decide)
  rw [h]
  congr 1
  show (BitVec.ofNat 32 w).toNat % 2 ^ 7 = w % 128
  rw [BitVec.toNat_ofNat]
  omega
theorem bc_sh {z : Nat} (hz : z < 2 ^ 61) (k : Nat) (hk : k < 64) : lN z + jushr (lN z) (nI k) = lN (z + z / 2 ^ k) := by
  rw [uq_shr (by omega) hk, lN_add]
theorem bc_2x {z k : Nat} (hk : 0 < k) (h : z < 2 ^ 61) : z + z / 2 ^ k < 2 ^ 62 := by
  have : z / 2 ^ k ≤ z := Nat.div_le_self _ _
  omega
def bcJ (a : Int64) : Int32 :=
  let a1 := a - (jushr a 1 &&& 6148914691236517205)
  let a2 := (a1 &&& 3689348814741910323) + (jushr a1 2 &&& 3689348814741910323)
  let a3 := (a2 + jushr a2 4) &&& 1085102592571150095
  let a4 := a3 + jushr a3 8
  let a5 := a4 + jushr a4 16
  let a6 := a5 + jushr a5 32
  a6.toInt32 &&& 127
theorem bcJ_eq (a : Int64) : fJ13_bitCount_95d88 a = bcJ a := rfl
theorem bitCount_eq (x : Int64) : fJ13_bitCount_95d88 x = nI (pcn x) := by
  obtain ⟨n, hn, rfl⟩ := uq_of x
  rw [bcJ_eq]
  unfold bcJ
  simp only []
  have hall := q_all 8 n (Nat.lt_of_lt_of_eq hn (by decide))
  rw [bc_1 hn, bc_2 (bc_q1 hn), bc_3 (bc_q2 _), hall]
  have b3 : qs3 8 n < 2 ^ 61 := by rw [← hall]; exact bc_q3 _
  have l : ∀ m : Nat, cnt (m % 256).testBit 8 ≤ 8 := fun m => cnt_le _ 8
  have s4 : lN (qs3 8 n) + jushr (lN (qs3 8 n)) 8 = lN (qs3 8 n + qs3 8 n / 256) := bc_sh b3 8 (by decide)
  have s5 : lN (qs3 8 n + qs3 8 n / 256) + jushr (lN (qs3 8 n + qs3 8 n / 256)) 16 = lN (qs3 8 n + qs3 8 n / 256 + (qs3 8 n + qs3 8 n / 256) / 65536) := by
    have h : jushr (lN (qs3 8 n + qs3 8 n / 256)) 16 = lN ((qs3 8 n + qs3 8 n / 256) / 2 ^ 16) := uq_shr (k := 16) (by have := Nat.div_le_self (qs3 8 n) 256; omega) (by decide)
    rw [h, lN_add]
  rw [s4, s5]
  generalize ha5 : qs3 8 n + qs3 8 n / 256 + (qs3 8 n + qs3 8 n / 256) / 65536 = a5
  have b5 : a5 < 2 ^ 64 := by
    have := Nat.div_le_self (qs3 8 n) 256
    have := Nat.div_le_self (qs3 8 n + qs3 8 n / 256) 65536
    omega
  have h6 : jushr (lN a5) 32 = lN (a5 / 2 ^ 32) := uq_shr (k := 32) b5 (by decide)
  rw [h6, lN_add, lN_i, bc_127, bc_cnt hn]
  congr 1
  exact sum8 (l _) (l _) (l _) (l _) (l _) (l _) (l _) (l _) rfl rfl rfl rfl rfl rfl (bc_q8 n) rfl ha5.symm rfl

/-! how many cells: Kernighan's loop, and the JDK's sums -/
def cnt (p : Nat → Bool) : Nat → Nat
  | 0 => 0
  | n + 1 => cnt p n + (if p n then 1 else 0)
def pcn (x : Int64) : Nat := cnt (tb x) 64
theorem cnt_le (p : Nat → Bool) : ∀ n, cnt p n ≤ n
  | 0 => Nat.le_refl 0
  | n + 1 => by have := cnt_le p n; rw [cnt]; split <;> omega
theorem cnt_cong {p q : Nat → Bool} : ∀ {n : Nat}, (∀ k, k < n → p k = q k) → cnt p n = cnt q n
  | 0, _ => rfl
  | n + 1, h => by rw [cnt, cnt, cnt_cong (fun k hk => h k (by omega)), h n (by omega)]
theorem cnt_zero {p : Nat → Bool} : ∀ {n : Nat}, (∀ k, k < n → p k = false) → cnt p n = 0
  | 0, _ => rfl
  | n + 1, h => by rw [cnt, cnt_zero (fun k hk => h k (by omega)), h n (by omega)]; rfl
theorem cnt_pos {p : Nat → Bool} : ∀ {n k : Nat}, k < n → p k = true → 0 < cnt p n
  | 0, _, h, _ => absurd h (by omega)
  | n + 1, k, h, hp => by
    rw [cnt]
    by_cases e : k = n
    · subst e; rw [hp]; simp
    · have := cnt_pos (n := n) (k := k) (by omega) hp
      omega
theorem cnt_clear {p : Nat → Bool} {k : Nat} (hp : p k = true) : ∀ {n : Nat}, k < n → cnt (fun i => p i && decide (i ≠ k)) n + 1 = cnt p n
  | 0, h => absurd h (by omega)
  | n + 1, h => by
    rw [cnt, cnt]
    by_cases e : k = n
    · subst e
      have c : cnt (fun i => p i && decide (i ≠ k)) k = cnt p k := cnt_cong (fun i hi => by simp; omega)
      rw [c, hp]; simp
    · have ih := cnt_clear hp (n := n) (by omega)
      have e2 : (p n && decide (n ≠ k)) = p n := by simp; omega
      simp only [e2]
      omega
theorem cnt_split (p : Nat → Bool) (a : Nat) : ∀ m, cnt p (a + m) = cnt p a + cnt (fun i => p (a + i)) m
  | 0 => rfl
  | m + 1 => by rw [← Nat.add_assoc, cnt, cnt, cnt_split p a m]; omega
theorem low_bit {n : Nat} (h : 0 < n) : ∃ k m, n = 2 ^ k * (2 * m + 1) := by
  induction n using Nat.strongRecOn with
  | _ n ih =>
    by_cases e : n % 2 = 1
    · exact ⟨0, n / 2, by omega⟩
    · obtain ⟨k, m, hk⟩ := ih (n / 2) (by omega) (by omega)
      refine ⟨k + 1, m, ?_⟩
      rw [Nat.pow_succ, Nat.mul_comm (2 ^ k) 2, Nat.mul_assoc, ← hk]
      omega
theorem clear_bit {n k m : Nat} (h : n = 2 ^ k * (2 * m + 1)) (i : Nat) : (n &&& (n - 1)).testBit i = (n.testBit i && decide (i ≠ k)) ∧ n.testBit k = true := by
  have hp : 0 < 2 ^ k := Nat.two_pow_pos k
  have e1 : n = 2 ^ k * (2 * m + 1) + 0 := by omega
  have e2 : n - 1 = 2 ^ k * (2 * m) + (2 ^ k - 1) := by
    rw [h, Nat.mul_add, Nat.mul_one]
    omega
  have t1 : n.testBit i = if i < k then false else (2 * m + 1).testBit (i - k) := by
    conv => lhs; rw [e1]
    rw [Nat.testBit_two_pow_mul_add _ hp]
    split <;> simp
  have t2 : (n - 1).testBit i = if i < k then true else (2 * m).testBit (i - k) := by
    rw [e2, Nat.testBit_two_pow_mul_add _ (by omega)]
    split
    · next g => rw [Nat.testBit_two_pow_sub_one]; exact decide_eq_true g
    · rfl
  have t3 : n.testBit k = true := by
    rw [e1, Nat.testBit_two_pow_mul_add _ hp, if_neg (by omega), Nat.sub_self, Nat.testBit_zero]
    simp
  refine ⟨?_, t3⟩
  rw [Nat.testBit_and, t1, t2]
  by_cases g : i < k
  · simp [g]
  · rw [if_neg g, if_neg g]
    by_cases g2 : i = k
    · subst g2; simp
    · have e3 : i - k = (i - k - 1) + 1 := by omega
      rw [e3, Nat.testBit_succ, Nat.testBit_succ, show (2 * m + 1) / 2 = m by omega, show (2 * m) / 2 = m by omega]
      simp [g2]
theorem tb_nat (x : Int64) (i : Nat) : tb x i = x.toBitVec.toNat.testBit i := rfl
theorem kern {x : Int64} (h : ¬ x = 0) : ∃ k, k < 64 ∧ tb x k = true ∧ ∀ i, tb (x &&& (x - 1)) i = (tb x i && decide (i ≠ k)) := by
  have hn : 0 < x.toBitVec.toNat := by
    rcases Nat.eq_zero_or_pos x.toBitVec.toNat with e | e
    · exact absurd (Int64.toBitVec_inj.mp (BitVec.eq_of_toNat_eq (by rw [e]; rfl))) h
    · exact e
  obtain ⟨k, m, hk⟩ := low_bit hn
  have hs : (x - 1).toBitVec.toNat = x.toBitVec.toNat - 1 := by
    rw [Int64.toBitVec_sub, BitVec.toNat_sub]
    have : (1 : Int64).toBitVec.toNat = 1 := by decide
    rw [this]
    have := x.toBitVec.isLt
    omega
  refine ⟨k, ?_, (clear_bit hk 0).2, fun i => ?_⟩
  · apply Classical.byContradiction
    intro g
    have := (clear_bit hk 0).2
    rw [← tb_nat, tb_big (by omega)] at this
    cases this
  · rw [tb_nat, Int64.toBitVec_and, BitVec.toNat_and, hs]
    exact (clear_bit hk i).1
theorem bits_lp : ∀ (m n c : Nat) (x : Int64), pcn x = m → m < n → lp 0 bX6_bitsOf_4 n (nI c, x) = nI (c + m) ∧ lpOk kX6_bitsOf_4 n (nI c, x)
  | m, 0, _, _, _, h => absurd h (by omega)
  | 0, n + 1, c, x, hm, _ => by
    have e : x = 0 := Classical.byContradiction (fun g => by
      obtain ⟨k, hk, ht, -⟩ := kern g
      have := cnt_pos (n := 64) hk ht
      unfold pcn at hm
      omega)
    refine ⟨?_, ⟨fun _ => trivial, fun g => absurd e g⟩⟩
    show bX6_bitsOf_4 _ _ = _
    unfold bX6_bitsOf_4
    rw [if_pos (show (nI c, x).2 = 0 from e)]; rfl
  | m + 1, n + 1, c, x, hm, hmn => by
    have e : ¬ x = 0 := fun g => by
      have : pcn x = 0 := cnt_zero (fun i _ => by rw [g, tb_0])
      omega
    obtain ⟨k, hk, ht, hc⟩ := kern e
    have h2 : pcn (x &&& (x - 1)) = m := by
      have e1 : pcn (x &&& (x - 1)) = cnt (fun i => tb x i && decide (i ≠ k)) 64 := cnt_cong (fun i _ => hc i)
      have e2 := cnt_clear ht hk
      unfold pcn at hm
      omega
    have ih := bits_lp m n (c + 1) (x &&& (x - 1)) h2 (by omega)
    refine ⟨?_, ?_⟩
    · show bX6_bitsOf_4 _ _ = _
      unfold bX6_bitsOf_4
      rw [if_neg (show ¬ (nI c, x).2 = 0 from e)]
      show lp 0 bX6_bitsOf_4 n (nI c + 1, x &&& (x - 1)) = _
      rw [nI_1, ih.1]
      congr 1; omega
    · refine ⟨fun g => absurd g e, fun _ => ?_⟩
      show lpOk kX6_bitsOf_4 n (nI c + 1, x &&& (x - 1))
      rw [nI_1]; exact ih.2
theorem pcn_le (x : Int64) : pcn x ≤ 64 := cnt_le _ 64
theorem bitsOf_eq (x : Int64) : fX6_bitsOf x = nI (pcn x) ∧ gX6_bitsOf x := by
  have := bits_lp (pcn x) 1000 0 x rfl (by have := pcn_le x; omega)
  rw [Nat.zero_add] at this
  exact ⟨this.1, this.2⟩
/-! the JDK's bitCount, byte by byte -/
theorem land256 {a m : Nat} (ha : a < 256) (hm : m < 256) (c M : Nat) : (a + 256 * c) &&& (m + 256 * M) = (a &&& m) + 256 * (c &&& M) := by
  have h1 : a &&& m < 256 := Nat.lt_of_le_of_lt Nat.and_le_left ha
  apply Nat.eq_of_testBit_eq
  intro i
  rw [Nat.testBit_and, Nat.add_comm a, Nat.add_comm m, Nat.add_comm (a &&& m), show 256 = 2 ^ 8 from rfl, Nat.testBit_two_pow_mul_add _ ha, Nat.testBit_two_pow_mul_add _ hm, Nat.testBit_two_pow_mul_add _ h1, Nat.testBit_and, Nat.testBit_and]
  split <;> rfl
def q1 (M n : Nat) : Nat := n - ((n / 2) &&& M)
def q2 (M n : Nat) : Nat := (n &&& M) + ((n / 4) &&& M)
def q3 (M n : Nat) : Nat := (n + n / 16) &&& M
theorem by1 : ∀ b, b < 256 → ∀ r, r < 2 → (b / 2 + 128 * r) &&& 0x55 = (b / 2) &&& 0x55 := by decide +kernel
theorem by2 : ∀ b, b < 256 → ∀ r, r < 4 → (b / 4 + 64 * r) &&& 0x33 = (b / 4) &&& 0x33 := by decide +kernel
theorem by3 : ∀ b, b < 256 → (q1 0x55 b < 256 ∧ (b / 2 &&& 0x55) ≤ b ∧ (q2 0x33 (q1 0x55 b) < 69 ∧ q2 0x33 (q1 0x55 b) % 16 ≤ 4) ∧ q3 0x0f (q2 0x33 (q1 0x55 b)) ≤ 8 ∧ q3 0x0f (q2 0x33 (q1 0x55 b)) = cnt b.testBit 8) := by decide +kernel
theorem by4 : ∀ b, b < 69 → ∀ r, r < 16 → (b + b / 16 + 16 * r) &&& 0x0f = (b + b / 16) &&& 0x0f := by decide +kernel
theorem sq1 {b n M : Nat} (hb : b < 256) : q1 (0x55 + 256 * M) (b + 256 * n) = q1 0x55 b + 256 * q1 M n := by
  unfold q1
  have e : (b + 256 * n) / 2 = (b / 2 + 128 * (n % 2)) + 256 * (n / 2) := by omega
  rw [e, land256 (by omega) (by decide), by1 b hb _ (by omega)]
  have h1 := (by3 b hb).2.1
  have h2 : (n / 2 &&& M) ≤ n := Nat.le_trans Nat.and_le_left (Nat.div_le_self n 2)
  omega
theorem sq2 {b n M : Nat} (hb : b < 256) : q2 (0x33 + 256 * M) (b + 256 * n) = q2 0x33 b + 256 * q2 M n := by
  unfold q2
  have e : (b + 256 * n) / 4 = (b / 4 + 64 * (n % 4)) + 256 * (n / 4) := by omega
  rw [e, land256 hb (by decide), land256 (by omega) (by decide), by2 b hb _ (by omega)]
  omega
theorem sq3 {b n M : Nat} (hb : b < 69) (hn : n % 16 ≤ 4) : q3 (0x0f + 256 * M) (b + 256 * n) = q3 0x0f b + 256 * q3 M n := by
  unfold q3
  have e : (b + 256 * n) + (b + 256 * n) / 16 = (b + b / 16 + 16 * (n % 16)) + 256 * (n + n / 16) := by omega
  rw [e, land256 (by omega) (by decide), by4 b hb _ (by omega)]
/-- the masks of so many bytes -/
def mk (m : Nat) : Nat → Nat
  | 0 => 0
  | j + 1 => m + 256 * mk m j
/-- a byte's count in each byte -/
def qs3 : Nat → Nat → Nat
  | 0, _ => 0
  | j + 1, n => cnt (n % 256).testBit 8 + 256 * qs3 j (n / 256)
theorem q_low : ∀ (j n : Nat), n < 256 ^ j → q2 (mk 0x33 j) (q1 (mk 0x55 j) n) % 16 ≤ 4
  | 0, n, h => by
    have : n = 0 := by simpa using h
    subst this; decide
  | j + 1, n, _ => by
    have e : n = n % 256 + 256 * (n / 256) := by omega
    have hb : n % 256 < 256 := Nat.mod_lt _ (by decide)
    conv => lhs; rw [e]
    show q2 (0x33 + 256 * mk 0x33 j) (q1 (0x55 + 256 * mk 0x55 j) _) % 16 ≤ 4
    rw [sq1 hb, sq2 (by3 _ hb).1]
    have := (by3 _ hb).2.2.1.2
    omega
theorem q_all : ∀ (j n : Nat), n < 256 ^ j → q3 (mk 0x0f j) (q2 (mk 0x33 j) (q1 (mk 0x55 j) n)) = qs3 j n
  | 0, n, h => by
    have : n = 0 := by simpa using h
    subst this; rfl
  | j + 1, n, h => by
    have e : n = n % 256 + 256 * (n / 256) := by omega
    have hb : n % 256 < 256 := Nat.mod_lt _ (by decide)
    have hd : n / 256 < 256 ^ j := by rw [Nat.pow_succ] at h; omega
    conv => lhs; rw [e]
    show q3 (0x0f + 256 * mk 0x0f j) (q2 (0x33 + 256 * mk 0x33 j) (q1 (0x55 + 256 * mk 0x55 j) _)) = _
    rw [sq1 hb, sq2 (by3 _ hb).1, sq3 (by3 _ hb).2.2.1.1 (q_low j _ hd), q_all j _ hd, (by3 _ hb).2.2.2.2]
    rfl
theorem tb_byte (n i : Nat) : n.testBit (8 + i) = (n / 256).testBit i := by
  rw [show 256 = 2 ^ 8 from rfl, Nat.testBit_div_two_pow, Nat.add_comm]
theorem cnt_low (n : Nat) : cnt n.testBit 8 = cnt (n % 256).testBit 8 := cnt_cong (fun k hk => by
  rw [show 256 = 2 ^ 8 from rfl, Nat.testBit_mod_two_pow]; simp [hk])
theorem cnt_step (n m : Nat) : cnt n.testBit (8 + m) = cnt (n % 256).testBit 8 + cnt (n / 256).testBit m := by
  rw [cnt_split, ← cnt_low]
  congr 1
  exact cnt_cong (fun k _ => tb_byte n k)

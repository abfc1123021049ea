/-! how many cells: Kernighan's loop, and the JDK's sums -/
def cnt (p : Nat → Bool) : Nat → Nat
  | 0 => 0
  | n + 1 => cnt p n + (if p n then 1 else 0)
def pcn (x : Int64) : Nat := cnt (tb x) 64
theorem cnt_le (p : Nat → Bool) : ∀ n, cnt p n ≤ n
  | 0 => Nat.le_refl 0
  | n + 1 => by have := cnt_le p n; rw [cnt]; split <;> omega
theorem cnt_cong {p q : Nat → Bool} : ∀ {n : Nat}, (∀ k, k < n → p k = q k) → cnt p n = cnt q n
  | 0, _ => rfl
  | n + 1, h => by rw [cnt, cnt, cnt_cong (fun k hk => h k (by omega)), h n (by omega)]
theorem cnt_zero {p : Nat → Bool} : ∀ {n : Nat}, (∀ k, k < n → p k = false) → cnt p n = 0
  | 0, _ => rfl
  | n + 1, h => by rw [cnt, cnt_zero (fun k hk => h k (by omega)), h n (by omega)]; rfl
theorem cnt_pos {p : Nat → Bool} : ∀ {n k : Nat}, k < n → p k = true → 0 < cnt p n
  | 0, _, h, _ => absurd h (by omega)
  | n + 1, k, h, hp => by
    rw [cnt]
    by_cases e : k = n
    · subst e; rw [hp]; simp
    · have := cnt_pos (n := n) (k := k) (by omega) hp
      omega
theorem cnt_clear {p : Nat → Bool} {k : Nat} (hp : p k = true) : ∀ {n : Nat}, k < n → cnt (fun i => p i && decide (i ≠ k)) n + 1 = cnt p n
  | 0, h => absurd h (by omega)
  | n + 1, h => by
    rw [cnt, cnt]
    by_cases e : k = n
    · subst e
      have c : cnt (fun i => p i && decide (i ≠ k)) k = cnt p k := cnt_cong (fun i hi => by simp; omega)
      rw [c, hp]; simp
    · have ih := cnt_clear hp (n := n) (by omega)
      have e2 : (p n && decide (n ≠ k)) = p n := by simp; omega
      simp only [e2]
      omega
theorem cnt_split (p : Nat → Bool) (a : Nat) : ∀ m, cnt p (a + m) = cnt p a + cnt (fun i => p (a + i)) m
  | 0 => rfl
  | m + 1 => by rw [← Nat.add_assoc, cnt, cnt, cnt_split p a m]; omega
theorem low_bit {n : Nat} (h : 0 < n) : ∃ k m, n = 2 ^ k * (2 * m + 1) := by
  induction n using Nat.strongRecOn with
  | _ n ih =>
    by_cases e : n % 2 = 1
    · exact ⟨0, n / 2, by omega⟩
    · obtain ⟨k, m, hk⟩ := ih (n / 2) (by omega) (by omega)
      refine ⟨k + 1, m, ?_⟩
      rw [Nat.pow_succ, Nat.mul_comm (2 ^ k) 2, Nat.mul_assoc, ← hk]
      omega
theorem clear_bit {n k m : Nat} (h : n = 2 ^ k * (2 * m + 1)) (i : Nat) : (n &&& (n - 1)).testBit i = (n.testBit i && decide (i ≠ k)) ∧ n.testBit k = true := by
  have hp : 0 < 2 ^ k := Nat.two_pow_pos k
  have e1 : n = 2 ^ k * (2 * m + 1) + 0 := by omega
  have e2 : n - 1 = 2 ^ k * (2 * m) + (2 ^ k - 1) := by
    rw [h, Nat.mul_add, Nat.mul_one]
    omega
  have t1 : n.testBit i = if i < k then false else (2 * m + 1).testBit (i - k) := by
    conv => lhs; rw [e1]
    rw [Nat.testBit_two_pow_mul_add _ hp]
    split <;> simp
  have t2 : (n - 1).testBit i = if i < k then true else (2 * m).testBit (i - k) := by
    rw [e2, Nat.testBit_two_pow_mul_add _ (by omega)]
    split
    · next g => rw [Nat.testBit_two_pow_sub_one]; exact decide_eq_true g
    · rfl
  have t3 : n.testBit k = true := by
    rw [e1, Nat.testBit_two_pow_mul_add _ hp, if_neg (by omega), Nat.sub_self, Nat.testBit_zero]
    simp
  refine ⟨?_, t3⟩
  rw [Nat.testBit_and, t1, t2]
  by_cases g : i < k
  · simp [g]
  · rw [if_neg g, if_neg g]
    by_cases g2 : i = k
    · subst g2; simp
    · have e3 : i - k = (i - k - 1) + 1 := by omega
      rw [e3, Nat.testBit_succ, Nat.testBit_succ, show (2 * m + 1) / 2 = m by omega, show (2 * m) / 2 = m by omega]
      simp [g2]
theorem tb_nat (x : Int64) (i : Nat) : tb x i = x.toBitVec.toNat.testBit i := rfl
theorem kern {x : Int64} (h : ¬ x = 0) : ∃ k, k < 64 ∧ tb x k = true ∧ ∀ i, tb (x &&& (x - 1)) i = (tb x i && decide (i ≠ k)) := by
  have hn : 0 < x.toBitVec.toNat := by
    rcases Nat.eq_zero_or_pos x.toBitVec.toNat with e | e
    · exact absurd (Int64.toBitVec_inj.mp (BitVec.eq_of_toNat_eq (by rw [e]; rfl))) h
    · exact e
  obtain ⟨k, m, hk⟩ := low_bit hn
  have hs : (x - 1).toBitVec.toNat = x.toBitVec.toNat - 1 := by
    rw [Int64.toBitVec_sub, BitVec.toNat_sub]
    have : (1 : Int64).toBitVec.toNat = 1 := by decide
    rw [this]
    have := x.toBitVec.isLt
    omega
  refine ⟨k, ?_, (clear_bit hk 0).2, fun i => ?_⟩
  · apply Classical.byContradiction
    intro g
    have := (clear_bit hk 0).2
    rw [← tb_nat, tb_big (by omega)] at this
    cases this
  · rw [tb_nat, Int64.toBitVec_and, BitVec.toNat_and, hs]
    exact (clear_bit hk i).1
theorem bits_lp : ∀ (m n c : Nat) (x : Int64), pcn x = m → m < n → lp 0 bX6_bitsOf_4 n (nI c, x) = nI (c + m) ∧ lpOk kX6_bitsOf_4 n (nI c, x)
  | m, 0, _, _, _, h => absurd h (by omega)
  | 0, n + 1, c, x, hm, _ => by
    have e : x = 0 := Classical.byContradiction (fun g => by
      obtain ⟨k, hk, ht, -⟩ := kern g
      have := cnt_pos (n := 64) hk ht
      unfold pcn at hm
      omega)
    refine ⟨?_, ⟨fun _ => trivial, fun g => absurd e g⟩⟩
    show bX6_bitsOf_4 _ _ = _
    unfold bX6_bitsOf_4
    rw [if_pos (show (nI c, x).2 = 0 from e)]; rfl
  | m + 1, n + 1, c, x, hm, hmn => by
    have e : ¬ x = 0 := fun g => by
      have : pcn x = 0 := cnt_zero (fun i _ => by rw [g, tb_0])
      omega
    obtain ⟨k, hk, ht, hc⟩ := kern e
    have h2 : pcn (x &&& (x - 1)) = m := by
      have e1 : pcn (x &&& (x - 1)) = cnt (fun i => tb x i && decide (i ≠ k)) 64 := cnt_cong (fun i _ => hc i)
      have e2 := cnt_clear ht hk
      unfold pcn at hm
      omega
    have ih := bits_lp m n (c + 1) (x &&& (x - 1)) h2 (by omega)
    refine ⟨?_, ?_⟩
    · show bX6_bitsOf_4 _ _ = _
      unfold bX6_bitsOf_4
      rw [if_neg (show ¬ (nI c, x).2 = 0 from e)]
      show lp 0 bX6_bitsOf_4 n (nI c + 1, x &&& (x - 1)) = _
      rw [nI_1, ih.1]
      congr 1; omega
    · refine ⟨fun g => absurd g e, fun _ => ?_⟩
      show lpOk kX6_bitsOf_4 n (nI c + 1, x &&& (x - 1))
      rw [nI_1]; exact ih.2
theorem pcn_le (x : Int64) : pcn x ≤ 64 := cnt_le _ 64
theorem bitsOf_eq (x : Int64) : fX6_bitsOf x = nI (pcn x) ∧ gX6_bitsOf x := by
  have := bits_lp (pcn x) 1000 0 x rfl (by have := pcn_le x; omega)
  rw [Nat.zero_add] at this
  exact ⟨this.1, this.2⟩

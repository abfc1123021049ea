/-! bits of longs -/
theorem ub_c : ∀ k, k < 64 → ((nI k).toInt64 &&& 63) = lN k := by decide +kernel
theorem ub_cu : ∀ k, k < 64 → ((nI k).toInt64.toUInt64 &&& Int64.toUInt64 63) = UInt64.ofNat k := by decide +kernel
theorem ub_sm : ∀ k, k < 64 → ((lN k).toBitVec.smod 64).toNat = k := by decide +kernel
def tb (x : Int64) (i : Nat) : Bool := x.toBitVec.getLsbD i
theorem tb_ext {x y : Int64} (h : ∀ i, i < 64 → tb x i = tb y i) : x = y := Int64.toBitVec_inj.mp (BitVec.eq_of_getLsbD_eq h)
theorem tb_big {x : Int64} {i : Nat} (h : 64 ≤ i) : tb x i = false := BitVec.getLsbD_of_ge _ _ h
theorem tb_or (x y : Int64) (i : Nat) : tb (x ||| y) i = (tb x i || tb y i) := by unfold tb; rw [Int64.toBitVec_or, BitVec.getLsbD_or]
theorem tb_and (x y : Int64) (i : Nat) : tb (x &&& y) i = (tb x i && tb y i) := by unfold tb; rw [Int64.toBitVec_and, BitVec.getLsbD_and]
theorem tb_0 (i : Nat) : tb 0 i = false := by unfold tb; show (0#64).getLsbD i = false; simp
theorem tb_m1 {i : Nat} (hi : i < 64) : tb (-1) i = true := by
  unfold tb
  rw [show (-1 : Int64).toBitVec = BitVec.allOnes 64 from by decide, BitVec.getLsbD_allOnes]
  exact decide_eq_true hi
theorem tb_not (x : Int64) {i : Nat} (hi : i < 64) : tb (x ^^^ (-1)) i = !tb x i := by
  have e : tb (x ^^^ (-1)) i = (tb x i ^^ tb (-1) i) := by unfold tb; rw [Int64.toBitVec_xor, BitVec.getLsbD_xor]
  rw [e, tb_m1 hi, Bool.xor_true]
theorem tb_shl (x : Int64) {k : Nat} (hk : k < 64) {i : Nat} (hi : i < 64) : tb (jshl x (nI k)) i = (decide (k ≤ i) && tb x (i - k)) := by
  unfold tb jshl
  rw [ub_c k hk, Int64.toBitVec_shiftLeft, BitVec.shiftLeft_eq', ub_sm k hk, BitVec.getLsbD_shiftLeft]
  by_cases h : i < k
  · simp [h, Nat.not_le.mpr h]
  · simp [h, hi, Nat.not_lt.mp h]
theorem tb_ushr (x : Int64) {k : Nat} (hk : k < 64) (i : Nat) : tb (jushr x (nI k)) i = tb x (k + i) := by
  unfold tb jushr
  rw [ub_cu k hk]
  have e : (x.toUInt64 >>> UInt64.ofNat k).toInt64.toBitVec = x.toBitVec >>> k := by
    apply BitVec.eq_of_toNat_eq
    show (x.toUInt64 >>> UInt64.ofNat k).toNat = _
    have h1 : (UInt64.ofNat k).toNat = k := by
      show (BitVec.ofNat 64 k).toNat = k
      rw [BitVec.toNat_ofNat, Nat.mod_eq_of_lt (by omega)]
    rw [UInt64.toNat_shiftRight, h1, Nat.mod_eq_of_lt hk, BitVec.toNat_ushiftRight]
    rfl
  rw [e, BitVec.getLsbD_ushiftRight]
theorem tb_shr (x : Int64) {k : Nat} (hk : k < 64) {i : Nat} (hi : k + i < 64) : tb (jshr x (nI k)) i = tb x (k + i) := by
  unfold tb jshr
  rw [ub_c k hk, Int64.toBitVec_shiftRight, BitVec.sshiftRight_eq', ub_sm k hk, BitVec.getLsbD_sshiftRight]
  simp [hi]
  intro h
  omega
theorem tb_1 (i : Nat) : tb 1 i = decide (i = 0) := by
  unfold tb
  show (1#64).getLsbD i = _
  by_cases h : i = 0
  · subst h; rfl
  · simp [h]
/-- a single cell -/
theorem tb_bit {k : Nat} (hk : k < 64) {i : Nat} (hi : i < 64) : tb (jshl 1 (nI k)) i = decide (i = k) := by
  rw [tb_shl 1 hk hi, tb_1]
  by_cases h : i = k
  · subst h; simp
  · simp [h]
    omega
theorem eq0_iff {x : Int64} : x = 0 ↔ ∀ i, i < 64 → tb x i = false :=
  ⟨fun h i _ => by rw [h, tb_0], fun h => tb_ext (fun i hi => by rw [h i hi, tb_0])⟩
theorem ne0_iff {x : Int64} : ¬ x = 0 ↔ ∃ i, i < 64 ∧ tb x i = true := by
  constructor
  · intro h
    apply Classical.byContradiction
    intro h2
    exact h (eq0_iff.mpr (fun i hi => by
      cases e : tb x i with
      | false => rfl
      | true => exact absurd ⟨i, hi, e⟩ h2))
  · rintro ⟨i, hi, e⟩ h
    rw [h, tb_0] at e
    cases e
theorem and1 (x : Int64) : (x &&& 1 = 0 ↔ tb x 0 = false) ∧ (x &&& 1 = 1 ↔ tb x 0 = true) := by
  have e : ∀ i, i < 64 → tb (x &&& 1) i = (decide (i = 0) && tb x 0) := by
    intro i _
    rw [tb_and, tb_1]
    by_cases h : i = 0
    · subst h; simp
    · simp [h]
  constructor
  · constructor
    · intro h
      have := e 0 (by decide)
      rw [h, tb_0] at this
      simpa using this.symm
    · intro h
      refine tb_ext (fun i hi => ?_)
      rw [e i hi, h, tb_0, Bool.and_false]
  · constructor
    · intro h
      have := e 0 (by decide)
      rw [h, tb_1] at this
      simpa using this.symm
    · intro h
      refine tb_ext (fun i hi => ?_)
      rw [e i hi, h, tb_1, Bool.and_true]
/-- both classes' has -/
theorem has6 (x : Int64) {c : Nat} (hc : c < 64) : fX6_has x (nI c) = if tb x c then 1 else 0 := by
  unfold fX6_has pX6_has_0
  have h := (and1 (jshr x (nI c))).2
  rw [tb_shr x hc (i := 0) (by omega), Nat.add_zero] at h
  by_cases e : tb x c = true
  · rw [if_pos (h.mpr e), e]; rfl
  · rw [if_neg (fun g => e (h.mp g))]; simp [e]
theorem has3 (x : Int64) {c : Nat} (hc : c < 64) : fX3_has x (nI c) = if tb x c then 1 else 0 := by
  unfold fX3_has pX3_has_0
  have h := (and1 (jushr x (nI c))).1
  rw [tb_ushr x hc 0, Nat.add_zero] at h
  by_cases e : tb x c = true
  · rw [if_neg (fun g => by rw [h.mp g] at e; cases e), e]; rfl
  · have e2 : tb x c = false := by simpa using e
    rw [if_pos (h.mpr e2), e2]; rfl
/-- beside is one function -/
theorem bs_eq (x : Int64) : fX3_beside x = fX6_beside x := rfl
/-- a step over what stands -/
def stp (o x : Int64) : Int64 := x ||| (fX6_beside x &&& o)
def stN (o : Int64) : Nat → Int64 → Int64
  | 0, x => x
  | n + 1, x => stN o n (stp o x)
theorem stN_fix {o x : Int64} (h : stp o x = x) : ∀ n, stN o n x = x
  | 0 => rfl
  | n + 1 => by rw [stN, h, stN_fix h n]
theorem stN_succ (o : Int64) : ∀ n x, stN o (n + 1) x = stp o (stN o n x)
  | 0, _ => rfl
  | n + 1, x => by rw [stN, stN_succ o n, stN]
theorem beside0 : fX6_beside 0 = 0 := by decide
/-- held: the loop -/
theorem held_lp (o : Int64) : ∀ (m n t : Nat) (x : Int64), m < n → t + m = 64 → lp 0 (bX3_held_6 o) n (x, nI t) = stN o m x ∧ lpOk (kX3_held_6 o) n (x, nI t)
  | m, 0, _, _, h, _ => absurd h (by omega)
  | 0, n + 1, t, x, _, ht => by
    have c : (64 : Int32) ≤ nI t := nI_le (a := 64) (b := t) (by omega) (by omega)
    refine ⟨?_, ?_⟩
    · show bX3_held_6 o _ _ = _
      unfold bX3_held_6
      rw [if_pos c]; rfl
    · show kX3_held_6 o _ _
      exact ⟨fun _ => trivial, fun h => absurd c h⟩
  | m + 1, n + 1, t, x, hmn, ht => by
    have c : ¬ (64 : Int32) ≤ nI t := nI_ge (a := t) (b := 64) (by omega) (by omega)
    have ih := held_lp o m n (t + 1) (stp o x) (by omega) (by omega)
    have e : nI t + 1 = nI (t + 1) := nI_1 t
    refine ⟨?_, ?_⟩
    · show bX3_held_6 o _ _ = _
      unfold bX3_held_6
      rw [if_neg c]
      by_cases hf : stp o x = x
      · rw [if_pos (show (x ||| (fX3_beside x &&& o)) = x from hf), stN_fix hf]
      · rw [if_neg (show ¬ (x ||| (fX3_beside x &&& o)) = x from hf)]
        show lp 0 (bX3_held_6 o) n (stp o x, nI t + 1) = _
        rw [e, ih.1]; rfl
    · show kX3_held_6 o _ _
      refine ⟨fun h => absurd h c, fun _ => ⟨fun _ => trivial, fun _ => ?_⟩⟩
      show lpOk (kX3_held_6 o) n (stp o x, nI t + 1)
      rw [e]; exact ih.2
theorem held_eq (h o : Int64) : fX3_held h o = stN o 64 h ∧ gX3_held h o := by
  have := held_lp o 64 1000 0 h (by omega) (by omega)
  exact ⟨this.1, this.2⟩
/-- comeTo: the loop -/
theorem come_lp (o : Int64) (N : Nat) (hN : N ≤ 64) : ∀ (m n t : Nat) (x l : Int64), m < n → t + m = N → (l = 0 ∨ x = stp o l) → lp 0 (bX6_comeTo_11 o (nI N)) n (x, l, nI t) = stN o m x ∧ lpOk (kX6_comeTo_11 o (nI N)) n (x, l, nI t)
  | m, 0, _, _, _, h, _, _ => absurd h (by omega)
  | 0, n + 1, t, x, l, _, ht, _ => by
    have c : nI N ≤ nI t := nI_le (by omega) (by omega)
    refine ⟨?_, ?_⟩
    · show bX6_comeTo_11 o _ _ _ = _
      unfold bX6_comeTo_11
      rw [if_pos c]; rfl
    · show kX6_comeTo_11 o _ _ _
      exact ⟨fun _ => trivial, fun h => absurd c h⟩
  | m + 1, n + 1, t, x, l, hmn, ht, hl => by
    have c : ¬ nI N ≤ nI t := nI_ge (by omega) (by omega)
    have ih := come_lp o N hN m n (t + 1) (stp o x) x (by omega) (by omega) (Or.inr rfl)
    have e : nI t + 1 = nI (t + 1) := nI_1 t
    refine ⟨?_, ?_⟩
    · show bX6_comeTo_11 o _ _ _ = _
      unfold bX6_comeTo_11
      rw [if_neg c]
      by_cases hf : x = l
      · rw [if_pos (show (x, l, nI t).1 = (x, l, nI t).2.1 from hf)]
        have hfix : stp o x = x := by
          rcases hl with h0 | h0
          · rw [hf, h0]; unfold stp; rw [beside0]; exact tb_ext (fun i hi => by rw [tb_or, tb_and, tb_0]; rfl)
          · rw [hf] at h0 ⊢; exact h0.symm
        rw [stN_fix hfix]
      · rw [if_neg (show ¬ (x, l, nI t).1 = (x, l, nI t).2.1 from hf)]
        show lp 0 (bX6_comeTo_11 o (nI N)) n (stp o x, x, nI t + 1) = _
        rw [e, ih.1]; rfl
    · show kX6_comeTo_11 o _ _ _
      refine ⟨fun h => absurd h c, fun _ => ⟨fun _ => trivial, fun _ => ?_⟩⟩
      show lpOk (kX6_comeTo_11 o (nI N)) n (stp o x, x, nI t + 1)
      rw [e]; exact ih.2
theorem come_eq (f o : Int64) {N : Nat} (hN : N ≤ 64) : fX6_comeTo f o (nI N) = stN o N (f &&& o) ∧ gX6_comeTo f o (nI N) := by
  have := come_lp o N hN N 1000 0 (f &&& o) 0 (by omega) (by omega) (Or.inl rfl)
  exact ⟨this.1, this.2⟩

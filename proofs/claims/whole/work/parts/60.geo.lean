/-! the wall: cells of a part, where it can go -/
theorem nI_mul (a b : Nat) : nI a * nI b = nI (a * b) := (Int32.ofNat_mul a b).symm
theorem bt {b c : Bool} (h : b = true ↔ c = true) : b = c := by cases b <;> cases c <;> simp_all
theorem bfF {b : Bool} : b = false ↔ ¬ b = true := by cases b <;> simp
def offs (j : Nat) : Nat := ([0, 0, 0, 0, 0, 1, 1, 1, 0, 1, 9, 9, 0, 1, 2, 2, 0, 8, 16, 16, 0, 1, 8, 9] : List Nat).getD j 0
theorem tOFF_of : ∀ j, j < 24 → tOFF j = nI (offs j) := by decide +kernel
theorem offs_lt : ∀ j, j < 24 → offs j < 17 := by decide +kernel
theorem onw_lt : ∀ p, p < 6 → ∀ q, q < 4 → ∀ a, a < 64 → tb (tWALL p) a = true → a + offs (4 * p + q) < 64 := by decide +kernel
/-- beside one another -/
def adj (j i : Nat) : Prop := i = j + 8 ∨ j = i + 8 ∨ (i = j + 1 ∧ j % 8 < 7) ∨ (j = i + 1 ∧ i % 8 < 7)
theorem adj_symm {j i : Nat} (h : adj j i) : adj i j := by unfold adj at *; omega
theorem mk_last : ∀ j, j < 64 → tb 9187201950435737471 j = decide (j % 8 < 7) := by decide +kernel
theorem mk_first : ∀ j, j < 64 → tb (-72340172838076674) j = decide (0 < j % 8) := by decide +kernel
theorem bs_iff (x : Int64) {i : Nat} (hi : i < 64) : tb (fX6_beside x) i = true ↔ ∃ j, j < 64 ∧ tb x j = true ∧ adj j i := by
  rw [← bs_eq]
  unfold fX3_beside pX3_beside_0
  have s8 : ∀ y : Int64, tb (jshl y 8) i = (decide (8 ≤ i) && tb y (i - 8)) := fun y => tb_shl y (k := 8) (by decide) hi
  have s1 : ∀ y : Int64, tb (jshl y 1) i = (decide (1 ≤ i) && tb y (i - 1)) := fun y => tb_shl y (k := 1) (by decide) hi
  have r8 : ∀ y : Int64, tb (jushr y 8) i = tb y (8 + i) := fun y => tb_ushr y (k := 8) (by decide) i
  have r1 : ∀ y : Int64, tb (jushr y 1) i = tb y (1 + i) := fun y => tb_ushr y (k := 1) (by decide) i
  rw [tb_or, tb_or, tb_or, s8, s1, r8, r1, tb_and, tb_and]
  simp only [Bool.or_eq_true, Bool.and_eq_true, decide_eq_true_eq]
  constructor
  · rintro (((⟨h, g⟩ | g) | ⟨h, g, g2⟩) | ⟨g, g2⟩)
    · exact ⟨i - 8, by omega, g, by unfold adj; omega⟩
    · have : 8 + i < 64 := Classical.byContradiction (fun e => by rw [tb_big (by omega)] at g; cases g)
      exact ⟨8 + i, this, g, by unfold adj; omega⟩
    · rw [mk_last _ (by omega)] at g2
      have := of_decide_eq_true g2
      exact ⟨i - 1, by omega, g, by unfold adj; omega⟩
    · have hl : 1 + i < 64 := Classical.byContradiction (fun e => by rw [tb_big (by omega)] at g; cases g)
      rw [mk_first _ hl] at g2
      have := of_decide_eq_true g2
      exact ⟨1 + i, hl, g, by unfold adj; omega⟩
  · rintro ⟨j, hj, g, ha⟩
    rcases ha with e | e | ⟨e, e2⟩ | ⟨e, e2⟩
    · left; left; left
      exact ⟨by omega, by rw [show i - 8 = j by omega]; exact g⟩
    · left; left; right
      rw [show 8 + i = j by omega]; exact g
    · left; right
      rw [show i - 1 = j by omega, mk_last j hj]
      exact ⟨by omega, g, by simpa using e2⟩
    · right
      rw [show 1 + i = j by omega, mk_first j hj]
      refine ⟨g, ?_⟩
      simp; omega
/-- so many joined -/
def orF (f : Nat → Int64) : Nat → Nat → Int64 → Int64
  | _, 0, x => x
  | t, m + 1, x => orF f (t + 1) m (x ||| f t)
theorem orF_tb (f : Nat → Int64) (i : Nat) : ∀ (m t : Nat) (x : Int64), tb (orF f t m x) i = true ↔ tb x i = true ∨ ∃ q, t ≤ q ∧ q < t + m ∧ tb (f q) i = true
  | 0, t, x => by
    show tb x i = true ↔ _
    constructor
    · exact Or.inl
    · rintro (h | ⟨q, h1, h2, -⟩)
      · exact h
      · omega
  | m + 1, t, x => by
    show tb (orF f (t + 1) m (x ||| f t)) i = true ↔ _
    rw [orF_tb f i m (t + 1), tb_or, Bool.or_eq_true]
    constructor
    · rintro ((h | h) | ⟨q, h1, h2, h3⟩)
      · exact Or.inl h
      · exact Or.inr ⟨t, by omega, by omega, h⟩
      · exact Or.inr ⟨q, by omega, by omega, h3⟩
    · rintro (h | ⟨q, h1, h2, h3⟩)
      · exact Or.inl (Or.inl h)
      · by_cases e : q = t
        · subst e; exact Or.inl (Or.inr h3)
        · exact Or.inr ⟨q, by omega, by omega, h3⟩
theorem four_t {p t : Nat} (hp : p < 6) (ht : t < 4) : (4 * nI p + nI t) = nI (4 * p + t) ∧ (4 * nI p + nI t).toNatClampNeg = 4 * p + t ∧ vp_in (4 * nI p + nI t) 24 := by
  have e : (4 * nI p + nI t) = nI (4 * p + t) := by rw [show (4 : Int32) = nI 4 from rfl, nI_mul, nI_add]
  exact ⟨e, by rw [e, nI_clamp (by omega)], by rw [e]; exact vp_in_nI (by omega) (by omega)⟩
theorem cellsOf_un {p a : Nat} (hp : p < 6) : fX3_cellsOf (nI p) (nI a) = orF (fun q => jshl 1 (nI (a + offs (4 * p + q)))) 0 4 0 ∧ gX3_cellsOf (nI p) (nI a) := by
  refine lp_run (d := (0 : Int64)) (body := bX3_cellsOf_5 (nI p) (nI a)) (ok := kX3_cellsOf_5 (nI p) (nI a)) (fun m v r => ∃ t x, v = (x, nI t) ∧ t + m = 4 ∧ r = orF (fun q => jshl 1 (nI (a + offs (4 * p + q)))) t m x) ?_ fu 4 (0, 0) _ ⟨0, 0, rfl, rfl, rfl⟩ (by decide)
  rintro m v r ⟨t, x, rfl, htm, rfl⟩ kR kO hk
  unfold bX3_cellsOf_5 kX3_cellsOf_5
  cases m with
  | zero =>
    have c : (4 : Int32) ≤ nI t := nI_le (a := 4) (by omega) (by omega)
    exact ⟨if_pos c, fun _ => trivial, fun h => absurd c h⟩
  | succ m =>
    have c : ¬ (4 : Int32) ≤ nI t := nI_ge (b := 4) (by omega) (by omega)
    obtain ⟨e1, e2, e3⟩ := four_t hp (t := t) (by omega)
    have hh := hk m (x ||| jshl 1 (nI (a + offs (4 * p + t))), nI (t + 1)) (orF (fun q => jshl 1 (nI (a + offs (4 * p + q)))) (t + 1) m (x ||| jshl 1 (nI (a + offs (4 * p + t))))) (by omega) ⟨t + 1, _, rfl, by omega, rfl⟩
    simp only [e2, tOFF_of (4 * p + t) (by omega), nI_add, nI_1]
    exact ⟨(if_neg c).trans hh.1, fun h => absurd h c, fun _ => ⟨e3, hh.2⟩⟩
theorem touch_un {p : Nat} (X : Int64) (hp : p < 6) : fX3_touching (nI p) X = orF (fun q => jushr X (nI (offs (4 * p + q)))) 0 4 0 ∧ gX3_touching (nI p) X := by
  refine lp_run (d := (0 : Int64)) (body := bX3_touching_5 (nI p) X) (ok := kX3_touching_5 (nI p) X) (fun m v r => ∃ t x, v = (x, nI t) ∧ t + m = 4 ∧ r = orF (fun q => jushr X (nI (offs (4 * p + q)))) t m x) ?_ fu 4 (0, 0) _ ⟨0, 0, rfl, rfl, rfl⟩ (by decide)
  rintro m v r ⟨t, x, rfl, htm, rfl⟩ kR kO hk
  unfold bX3_touching_5 kX3_touching_5
  cases m with
  | zero =>
    have c : (4 : Int32) ≤ nI t := nI_le (a := 4) (by omega) (by omega)
    exact ⟨if_pos c, fun _ => trivial, fun h => absurd c h⟩
  | succ m =>
    have c : ¬ (4 : Int32) ≤ nI t := nI_ge (b := 4) (by omega) (by omega)
    obtain ⟨e1, e2, e3⟩ := four_t hp (t := t) (by omega)
    have hh := hk m (x ||| jushr X (nI (offs (4 * p + t))), nI (t + 1)) (orF (fun q => jushr X (nI (offs (4 * p + q)))) (t + 1) m (x ||| jushr X (nI (offs (4 * p + t))))) (by omega) ⟨t + 1, _, rfl, by omega, rfl⟩
    simp only [e2, tOFF_of (4 * p + t) (by omega), nI_1]
    exact ⟨(if_neg c).trans hh.1, fun h => absurd h c, fun _ => ⟨e3, hh.2⟩⟩
/-- the part's cells -/
def cel (p a i : Nat) : Prop := ∃ q, q < 4 ∧ i = a + offs (4 * p + q)
theorem cells_tb {p a i : Nat} (hp : p < 6) (ha : a < 64) (hi : i < 64) (hw : tb (tWALL p) a = true) : tb (fX3_cellsOf (nI p) (nI a)) i = true ↔ cel p a i := by
  rw [(cellsOf_un hp).1, orF_tb]
  constructor
  · rintro (h | ⟨q, -, h2, h3⟩)
    · rw [tb_0] at h; cases h
    · rw [tb_bit (onw_lt p hp q (by omega) a ha hw) hi] at h3
      exact ⟨q, by omega, of_decide_eq_true h3⟩
  · rintro ⟨q, h1, h2⟩
    refine Or.inr ⟨q, by omega, by omega, ?_⟩
    rw [tb_bit (onw_lt p hp q h1 a ha hw) hi]
    exact decide_eq_true h2
theorem touch_tb {p a : Nat} (X : Int64) (hp : p < 6) : tb (fX3_touching (nI p) X) a = true ↔ ∃ i, cel p a i ∧ tb X i = true := by
  rw [(touch_un X hp).1, orF_tb]
  constructor
  · rintro (h | ⟨q, -, h2, h3⟩)
    · rw [tb_0] at h; cases h
    · rw [tb_ushr X (by have := offs_lt (4 * p + q) (by omega); omega)] at h3
      exact ⟨a + offs (4 * p + q), ⟨q, by omega, rfl⟩, by rw [Nat.add_comm]; exact h3⟩
  · rintro ⟨i, ⟨q, h1, h2⟩, h3⟩
    refine Or.inr ⟨q, by omega, by omega, ?_⟩
    rw [tb_ushr X (by have := offs_lt (4 * p + q) (by omega); omega), Nat.add_comm, ← h2]
    exact h3
theorem places_tb {p a : Nat} (S : Int64) (hp : p < 6) (ha : a < 64) : tb (fX3_places (nI p) S) a = true ↔ tb (tWALL p) a = true ∧ (∃ i, cel p a i ∧ tb (fX6_beside S) i = true) ∧ ¬ ∃ i, cel p a i ∧ tb S i = true := by
  unfold fX3_places pX3_places_0
  rw [nI_clamp (by omega), tb_and, tb_and, tb_not _ ha, bs_eq]
  simp only [Bool.and_eq_true, Bool.not_eq_true', bfF, touch_tb _ hp, and_assoc]
theorem places_g {p : Nat} (S : Int64) (hp : p < 6) : gX3_places (nI p) S := ⟨vp_in_nI (by omega) (by omega), (touch_un _ hp).2, (touch_un _ hp).2⟩
set_option maxRecDepth 100000 in
theorem partAt_c : ∀ p, p < 6 → ∀ a, a < 64 → (tb (tWALL p) a = true → fX6_partAt (nI p) (nI a) = fX3_cellsOf (nI p) (nI a)) ∧ (tb (tWALL p) a = false → fX6_partAt (nI p) (nI a) = 0) := by decide +kernel

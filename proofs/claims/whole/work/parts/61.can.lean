/-! where a part can go: both sides -/
theorem cel0 (p a : Nat) (hp : p < 6) : cel p a a := ⟨0, by omega, by
  have : ∀ p, p < 6 → offs (4 * p + 0) = 0 := by decide
  rw [this p hp]; rfl⟩
theorem cel_lt {p a i : Nat} (hp : p < 6) (ha : a < 64) (hw : tb (tWALL p) a = true) (h : cel p a i) : i < 64 := by
  obtain ⟨q, h1, h2⟩ := h
  rw [h2]; exact onw_lt p hp q h1 a ha hw
/-- a set of cells beside what stands, on none of it -/
def canP (c o : Int64) : Prop := (∃ i, i < 64 ∧ tb c i = true) ∧ (∀ i, i < 64 → tb c i = true → ¬ tb o i = true) ∧ ∃ i j, i < 64 ∧ j < 64 ∧ tb c i = true ∧ tb o j = true ∧ adj i j
theorem and0_iff {x y : Int64} : x &&& y = 0 ↔ ∀ i, i < 64 → tb x i = true → ¬ tb y i = true := by
  rw [eq0_iff]
  constructor
  · intro h i hi h1 h2
    have := h i hi
    rw [tb_and, h1, h2] at this
    cases this
  · intro h i hi
    rw [tb_and]
    cases e : tb x i with
    | false => rfl
    | true =>
      have := h i hi e
      rw [Bool.true_and]
      exact bfF.mpr this
theorem can_iff (c o : Int64) : (fX6_can c o = 1 ∧ canP c o) ∨ (fX6_can c o = 0 ∧ ¬ canP c o) := by
  unfold fX6_can pX6_can_0
  by_cases h0 : c = 0
  · right
    refine ⟨if_pos h0, fun h => ?_⟩
    obtain ⟨⟨i, _, h⟩, -⟩ := h
    rw [h0, tb_0] at h; cases h
  · rw [if_neg h0]
    by_cases h1 : c &&& o = 0
    · rw [if_pos h1]
      by_cases h2 : fX6_beside c &&& o = 0
      · right
        refine ⟨if_pos h2, fun h => ?_⟩
        obtain ⟨-, -, i, j, hi, hj, g1, g2, g3⟩ := h
        exact and0_iff.mp h2 j hj ((bs_iff c hj).mpr ⟨i, hi, g1, g3⟩) g2
      · left
        refine ⟨if_neg h2, ne0_iff.mp h0, and0_iff.mp h1, ?_⟩
        obtain ⟨j, hj, g⟩ := ne0_iff.mp h2
        rw [tb_and, Bool.and_eq_true] at g
        obtain ⟨i, hi, g1, g2⟩ := (bs_iff c hj).mp g.1
        exact ⟨i, j, hi, hj, g1, g.2, g2⟩
    · right
      refine ⟨if_neg h1, fun h => h1 (and0_iff.mpr h.2.1)⟩
theorem canP_places {p a : Nat} (o : Int64) (hp : p < 6) (ha : a < 64) : canP (fX6_partAt (nI p) (nI a)) o ↔ tb (fX3_places (nI p) o) a = true := by
  rw [places_tb o hp ha]
  by_cases hw : tb (tWALL p) a = true
  · rw [(partAt_c p hp a ha).1 hw]
    constructor
    · rintro ⟨-, h2, i, j, hi, hj, g1, g2, g3⟩
      refine ⟨hw, ⟨i, (cells_tb hp ha hi hw).mp g1, (bs_iff o hi).mpr ⟨j, hj, g2, adj_symm g3⟩⟩, ?_⟩
      rintro ⟨k, k1, k2⟩
      have hk := cel_lt hp ha hw k1
      exact h2 k hk ((cells_tb hp ha hk hw).mpr k1) k2
    · rintro ⟨-, ⟨i, g1, g2⟩, h3⟩
      have hi := cel_lt hp ha hw g1
      obtain ⟨j, hj, g3, g4⟩ := (bs_iff o hi).mp g2
      refine ⟨⟨a, ha, (cells_tb hp ha ha hw).mpr (cel0 p a hp)⟩, fun k hk k1 k2 => h3 ⟨k, (cells_tb hp ha hk hw).mp k1, k2⟩, i, j, hi, hj, (cells_tb hp ha hi hw).mpr g1, g3, adj_symm g4⟩
  · rw [(partAt_c p hp a ha).2 (bfF.mpr hw)]
    constructor
    · rintro ⟨⟨i, hi, h⟩, -⟩
      rw [tb_0] at h; cases h
    · intro h; exact absurd h.1 hw
theorem places_wall {p a : Nat} {o : Int64} (hp : p < 6) (ha : a < 64) (h : tb (fX3_places (nI p) o) a = true) : tb (tWALL p) a = true := ((places_tb o hp ha).mp h).1
theorem can_eq {p a : Nat} (o : Int64) (hp : p < 6) (ha : a < 64) : fX6_can (fX6_partAt (nI p) (nI a)) o = if tb (fX3_places (nI p) o) a = true then 1 else 0 := by
  rcases can_iff (fX6_partAt (nI p) (nI a)) o with ⟨h1, h2⟩ | ⟨h1, h2⟩
  · rw [h1, if_pos ((canP_places o hp ha).mp h2)]
  · rw [h1, if_neg (fun g => h2 ((canP_places o hp ha).mpr g))]
theorem has_can {p a : Nat} (o : Int64) (hp : p < 6) (ha : a < 64) : fX3_has (fX3_places (nI p) o) (nI a) = fX6_can (fX6_partAt (nI p) (nI a)) o := by rw [can_eq o hp ha, has3 _ ha]
theorem part_cells {p a : Nat} {o : Int64} (hp : p < 6) (ha : a < 64) (h : ¬ fX6_can (fX6_partAt (nI p) (nI a)) o = 0) : fX6_partAt (nI p) (nI a) = fX3_cellsOf (nI p) (nI a) := by
  rw [can_eq o hp ha] at h
  by_cases g : tb (fX3_places (nI p) o) a = true
  · exact (partAt_c p hp a ha).1 (places_wall hp ha g)
  · rw [if_neg g] at h; exact absurd rfl h
/-- room -/
theorem room_eq {p : Nat} (σ : OS) (o : Int64) (hp : p < 6) : lp 0 (bX6_room_27 σ (nI p) o) fu (0, 0) = fX3_places (nI p) o ∧ lpOk (kX6_room_27 σ (nI p) o) fu (0, 0) := by
  have base := lp_run (d := (0 : Int64)) (body := bX6_room_27 σ (nI p) o) (ok := kX6_room_27 σ (nI p) o) (fun m v r => ∃ t x, v = (x, nI t) ∧ t + m = 64 ∧ r = orF (fun c => if tb (fX3_places (nI p) o) c = true then jshl 1 (nI c) else 0) t m x) (by
    rintro m v r ⟨t, x, rfl, htm, rfl⟩ kR kO hk
    unfold bX6_room_27 kX6_room_27
    cases m with
    | zero =>
      have c : (64 : Int32) ≤ nI t := nI_le (a := 64) (by omega) (by omega)
      exact ⟨if_pos c, fun _ => trivial, fun h => absurd c h⟩
    | succ m =>
      have c : ¬ (64 : Int32) ≤ nI t := nI_ge (b := 64) (by omega) (by omega)
      have hh := hk m (x ||| (if tb (fX3_places (nI p) o) t = true then jshl 1 (nI t) else 0), nI (t + 1)) _ (by omega) ⟨t + 1, _, rfl, by omega, rfl⟩
      unfold pX6_room_57 oX6_room_57
      simp only [can_eq o hp (a := t) (by omega), nI_1]
      by_cases g : tb (fX3_places (nI p) o) t = true
      · rw [if_pos g] at hh
        refine ⟨?_, fun h => absurd h c, fun _ => ⟨fun h => ?_, fun _ => hh.2⟩⟩
        · rw [if_neg c, if_neg (by rw [if_pos g]; decide)]
          exact hh.1.trans (by show _ = orF _ (t + 1) m _; simp only [if_pos g])
        · rw [if_pos g] at h; exact absurd h (by decide)
      · rw [if_neg g] at hh
        refine ⟨?_, fun h => absurd h c, fun _ => ⟨fun h => hh.2, fun h => ?_⟩⟩
        · rw [if_neg c, if_pos (by rw [if_neg g])]
          exact hh.1.trans (by show _ = orF _ (t + 1) m _; simp only [if_neg g])
        · rw [if_neg g] at h; exact absurd rfl h) fu 64 (0, 0) _ ⟨0, 0, rfl, rfl, rfl⟩ (by decide)
  refine ⟨base.1.trans ?_, base.2⟩
  apply tb_ext
  intro i hi
  apply bt
  rw [orF_tb]
  constructor
  · rintro (h | ⟨q, -, h2, h3⟩)
    · rw [tb_0] at h; cases h
    · by_cases g : tb (fX3_places (nI p) o) q = true
      · rw [if_pos g, tb_bit (by omega) hi] at h3
        rw [of_decide_eq_true h3]; exact g
      · rw [if_neg g, tb_0] at h3; cases h3
  · intro h
    refine Or.inr ⟨i, by omega, by omega, ?_⟩
    rw [if_pos h, tb_bit hi hi]; exact decide_eq_true rfl

/-! reach: by one part, by two -/
theorem srch {d : Int32} {body : (Int32 → Int32) → Int32 → Int32} {ok : (Int32 → Prop) → Int32 → Prop} (P : Nat → Prop) (N : Nat) (hN : N < 1000) (h : ∀ t, t ≤ N → ∀ (kR : Int32 → Int32) (kO : Int32 → Prop), (t < N → ¬ P t → kO (nI (t + 1))) → ok kO (nI t) ∧ (t = N → body kR (nI t) = 0) ∧ (t < N → P t → body kR (nI t) = 1) ∧ (t < N → ¬ P t → body kR (nI t) = kR (nI (t + 1)))) : lpOk ok fu 0 ∧ ((lp d body fu 0 = 1 ∧ ∃ s, s < N ∧ P s) ∨ (lp d body fu 0 = 0 ∧ ¬ ∃ s, s < N ∧ P s)) := by
  have main : ∀ r : Int32, ((r = 1 ∧ ∃ s, s < N ∧ P s) ∨ (r = 0 ∧ ¬ ∃ s, s < N ∧ P s)) → lp d body fu 0 = r ∧ lpOk ok fu 0 := by
    intro r hr
    refine lp_run (fun m v r => ∃ t, v = nI t ∧ t + m = N ∧ (∀ s, s < t → ¬ P s) ∧ ((r = 1 ∧ ∃ s, s < N ∧ P s) ∨ (r = 0 ∧ ¬ ∃ s, s < N ∧ P s))) ?_ fu N 0 r ⟨0, rfl, by omega, fun s hs => by omega, hr⟩ (by show N < 1000; exact hN)
    rintro m v r ⟨t, rfl, htm, hno, hr⟩ kR kO hk
    obtain ⟨g1, g2, g3, g4⟩ := h t (by omega) kR kO (fun h1 h2 => by
      refine (hk (m - 1) (nI (t + 1)) r (by omega) ⟨t + 1, rfl, by omega, fun s hs => ?_, hr⟩).2
      by_cases e : s = t
      · subst e; exact h2
      · exact hno s (by omega))
    refine ⟨?_, g1⟩
    by_cases e : t = N
    · rw [g2 e]
      rcases hr with ⟨-, s, hs, hp⟩ | ⟨hr, -⟩
      · exact absurd hp (hno s (by omega))
      · exact hr.symm
    · by_cases hp : P t
      · rw [g3 (by omega) hp]
        rcases hr with ⟨hr, -⟩ | ⟨-, hr⟩
        · exact hr.symm
        · exact absurd ⟨t, by omega, hp⟩ hr
      · rw [g4 (by omega) hp]
        exact (hk (m - 1) (nI (t + 1)) r (by omega) ⟨t + 1, rfl, by omega, fun s hs => by
          by_cases e : s = t
          · subst e; exact hp
          · exact hno s (by omega), hr⟩).1
  by_cases g : ∃ s, s < N ∧ P s
  · have := main 1 (Or.inl ⟨rfl, g⟩)
    exact ⟨this.2, Or.inl ⟨this.1, g⟩⟩
  · have := main 0 (Or.inr ⟨rfl, g⟩)
    exact ⟨this.2, Or.inr ⟨this.1, g⟩⟩
theorem dm64 : ∀ t, t < 384 → nI t / 64 = nI (t / 64) ∧ nI t - nI t / 64 * 64 = nI (t % 64) := by decide +kernel
theorem dv4 : ∀ t, t < 24 → nI t / 4 = nI (t / 4) := by decide +kernel
theorem of_sub : ∀ c, c < 64 → ∀ v, v < 24 → (offs v ≤ c → nI c - tOFF v = nI (c - offs v) ∧ ¬ nI c - tOFF v < 0) ∧ (¬ offs v ≤ c → nI c - tOFF v < 0) := by decide +kernel
/-- a part that can go, with the cell -/
def E1 (c : Nat) (o : Int64) : Prop := ∃ p a, p < 6 ∧ a < 64 ∧ cel p a c ∧ tb (fX3_places (nI p) o) a = true
theorem byOne_eq {c : Nat} (hc : c < 64) (o : Int64) : gX6_byOne (nI c) o ∧ ((fX6_byOne (nI c) o = 1 ∧ E1 c o) ∨ (fX6_byOne (nI c) o = 0 ∧ ¬ E1 c o)) := by
  have s := srch (d := 0) (body := bX6_byOne_2 (nI c) o) (ok := kX6_byOne_2 (nI c) o) (fun t => tb (fX6_partAt (nI (t / 64)) (nI (t % 64))) c = true ∧ tb (fX3_places (nI (t / 64)) o) (t % 64) = true) 384 (by decide) (by
    intro t ht kR kO hk
    unfold bX6_byOne_2 kX6_byOne_2
    by_cases e : t = 384
    · subst e
      have c1 : (384 : Int32) ≤ nI 384 := by decide
      exact ⟨⟨fun _ => trivial, fun h => absurd c1 h⟩, fun _ => if_pos c1, fun h => absurd h (by omega), fun h => absurd h (by omega)⟩
    · have ht : t < 384 := by omega
      have c1 : ¬ (384 : Int32) ≤ nI t := nI_ge (b := 384) (by omega) (by omega)
      unfold pX6_byOne_42 oX6_byOne_42
      rw [(dm64 t ht).2, (dm64 t ht).1, has6 _ hc, can_eq o (p := t / 64) (a := t % 64) (by omega) (by omega), nI_1]
      refine ⟨⟨fun h => absurd h c1, fun _ => ⟨fun h => hk ht ?_, fun h => ⟨fun h2 => hk ht ?_, fun _ => trivial⟩⟩⟩, fun h => absurd h e, fun _ hp => ?_, fun _ hp => ?_⟩
      · rintro ⟨h1, -⟩; rw [h1] at h; exact absurd h (by decide)
      · rintro ⟨-, h1⟩; rw [h1] at h2; exact absurd h2 (by decide)
      · rw [if_neg c1, hp.1, hp.2]; rfl
      · rw [if_neg c1]
        by_cases g1 : tb (fX6_partAt (nI (t / 64)) (nI (t % 64))) c = true
        · by_cases g2 : tb (fX3_places (nI (t / 64)) o) (t % 64) = true
          · exact absurd ⟨g1, g2⟩ hp
          · rw [if_neg g2, if_pos rfl]
            split <;> rfl
        · rw [if_neg g1, if_pos rfl])
  refine ⟨s.1, ?_⟩
  have q : (∃ t, t < 384 ∧ tb (fX6_partAt (nI (t / 64)) (nI (t % 64))) c = true ∧ tb (fX3_places (nI (t / 64)) o) (t % 64) = true) ↔ E1 c o := by
    constructor
    · rintro ⟨t, ht, h1, h2⟩
      have hw := places_wall (p := t / 64) (a := t % 64) (by omega) (by omega) h2
      rw [(partAt_c (t / 64) (by omega) (t % 64) (by omega)).1 hw] at h1
      exact ⟨t / 64, t % 64, by omega, by omega, (cells_tb (by omega) (by omega) hc hw).mp h1, h2⟩
    · rintro ⟨p, a, hp, ha, h1, h2⟩
      have hw := places_wall hp ha h2
      refine ⟨64 * p + a, by omega, ?_⟩
      rw [show (64 * p + a) / 64 = p by omega, show (64 * p + a) % 64 = a by omega, (partAt_c p hp a ha).1 hw]
      exact ⟨(cells_tb hp ha hc hw).mpr h1, h2⟩
  rcases s.2 with ⟨h1, h2⟩ | ⟨h1, h2⟩
  · exact Or.inl ⟨h1, q.mp h2⟩
  · exact Or.inr ⟨h1, fun g => h2 (q.mpr g)⟩
theorem cel_v {p a c : Nat} : cel p a c → ∃ v, v < 4 * p + 4 ∧ v / 4 = p ∧ offs v ≤ c ∧ c - offs v = a := by
  rintro ⟨q, hq, e⟩
  exact ⟨4 * p + q, by omega, by omega, by omega, by omega⟩
theorem v_cel {v c : Nat} (h : offs v ≤ c) : cel (v / 4) (c - offs v) c := ⟨v % 4, by omega, by rw [show 4 * (v / 4) + v % 4 = v by omega]; omega⟩
theorem one3_eq {c : Nat} (hc : c < 64) (o : Int64) : gX3_reachedByOne o (nI c) ∧ ((fX3_reachedByOne o (nI c) = 1 ∧ E1 c o) ∨ (fX3_reachedByOne o (nI c) = 0 ∧ ¬ E1 c o)) := by
  have s := srch (d := 0) (body := bX3_reachedByOne_2 o (nI c)) (ok := kX3_reachedByOne_2 o (nI c)) (fun t => offs t ≤ c ∧ tb (fX3_places (nI (t / 4)) o) (c - offs t) = true) 24 (by decide) (by
    intro t ht kR kO hk
    unfold bX3_reachedByOne_2 kX3_reachedByOne_2
    by_cases e : t = 24
    · subst e
      have c1 : (24 : Int32) ≤ nI 24 := by decide
      exact ⟨⟨fun _ => trivial, fun h => absurd c1 h⟩, fun _ => if_pos c1, fun h => absurd h (by omega), fun h => absurd h (by omega)⟩
    · have ht : t < 24 := by omega
      have c1 : ¬ (24 : Int32) ≤ nI t := nI_ge (b := 24) (by omega) (by omega)
      unfold pX3_reachedByOne_41 oX3_reachedByOne_41
      rw [dv4 t ht, nI_1, nI_clamp (n := t) (by omega)]
      by_cases g : offs t ≤ c
      · obtain ⟨g1, g2⟩ := (of_sub c hc t ht).1 g
        rw [g1] at g2 ⊢
        rw [has3 _ (c := c - offs t) (by omega)]
        refine ⟨⟨fun h => absurd h c1, fun _ => ⟨vp_in_nI (by omega) (by omega), fun h => absurd h g2, fun _ => ⟨places_g o (by omega), fun h => hk ht ?_, fun _ => trivial⟩⟩⟩, fun h => absurd h e, fun _ hp => ?_, fun _ hp => ?_⟩
        · rintro ⟨-, h1⟩; rw [h1] at h; exact absurd h (by decide)
        · rw [if_neg c1, if_neg g2, hp.2]; rfl
        · rw [if_neg c1, if_neg g2]
          by_cases g3 : tb (fX3_places (nI (t / 4)) o) (c - offs t) = true
          · exact absurd ⟨g, g3⟩ hp
          · rw [if_neg g3, if_pos rfl]
      · have g2 := (of_sub c hc t ht).2 g
        refine ⟨⟨fun h => absurd h c1, fun _ => ⟨vp_in_nI (by omega) (by omega), fun _ => hk ht (fun h => g h.1), fun h => absurd g2 h⟩⟩, fun h => absurd h e, fun _ hp => absurd hp.1 g, fun _ hp => ?_⟩
        rw [if_neg c1, if_pos g2])
  refine ⟨s.1, ?_⟩
  have q : (∃ t, t < 24 ∧ offs t ≤ c ∧ tb (fX3_places (nI (t / 4)) o) (c - offs t) = true) ↔ E1 c o := by
    constructor
    · rintro ⟨t, ht, h1, h2⟩
      exact ⟨t / 4, c - offs t, by omega, by omega, v_cel h1, h2⟩
    · rintro ⟨p, a, hp, ha, h1, h2⟩
      obtain ⟨v, hv, e1, e2, e3⟩ := cel_v h1
      refine ⟨v, by omega, e2, ?_⟩
      rw [e1, e3]; exact h2
  rcases s.2 with ⟨h1, h2⟩ | ⟨h1, h2⟩
  · exact Or.inl ⟨h1, q.mp h2⟩
  · exact Or.inr ⟨h1, fun g => h2 (q.mpr g)⟩
/-- a part that can go first, beside these cells and on none of them -/
def MR (o C : Int64) : Prop := (∀ i, i < 64 → tb C i = true → ¬ tb o i = true) ∧ ∃ p a, p < 6 ∧ a < 64 ∧ tb (fX3_places (nI p) o) a = true ∧ (∃ i, cel p a i ∧ tb (fX6_beside C) i = true) ∧ ¬ ∃ i, cel p a i ∧ tb C i = true
theorem mr_eq (o C : Int64) : gX3_isMadeRoom o C ∧ ((fX3_isMadeRoom o C = 1 ∧ MR o C) ∨ (fX3_isMadeRoom o C = 0 ∧ ¬ MR o C)) := by
  have s := srch (d := 0) (body := bX3_isMadeRoom_19 o C (fX3_beside C)) (ok := kX3_isMadeRoom_19 o C (fX3_beside C)) (fun p => ∃ a, a < 64 ∧ tb (fX3_places (nI p) o) a = true ∧ (∃ i, cel p a i ∧ tb (fX6_beside C) i = true) ∧ ¬ ∃ i, cel p a i ∧ tb C i = true) 6 (by decide) (by
    intro t ht kR kO hk
    unfold bX3_isMadeRoom_19 kX3_isMadeRoom_19
    by_cases e : t = 6
    · subst e
      have c1 : (6 : Int32) ≤ nI 6 := by decide
      exact ⟨⟨fun _ => trivial, fun h => absurd c1 h⟩, fun _ => if_pos c1, fun h => absurd h (by omega), fun h => absurd h (by omega)⟩
    · have ht : t < 6 := by omega
      have c1 : ¬ (6 : Int32) ≤ nI t := nI_ge (b := 6) (by omega) (by omega)
      rw [nI_1]
      have q : ¬ (((fX3_places (nI t) o) &&& (fX3_touching (nI t) (fX3_beside C))) &&& ((fX3_touching (nI t) C) ^^^ (-1))) = 0 ↔ ∃ a, a < 64 ∧ tb (fX3_places (nI t) o) a = true ∧ (∃ i, cel t a i ∧ tb (fX6_beside C) i = true) ∧ ¬ ∃ i, cel t a i ∧ tb C i = true := by
        rw [ne0_iff]
        constructor
        · rintro ⟨a, ha, h⟩
          rw [tb_and, tb_and, tb_not _ ha, Bool.and_eq_true, Bool.and_eq_true, Bool.not_eq_true', bfF, touch_tb _ ht, touch_tb _ ht, bs_eq] at h
          exact ⟨a, ha, h.1.1, h.1.2, h.2⟩
        · rintro ⟨a, ha, h1, h2, h3⟩
          refine ⟨a, ha, ?_⟩
          rw [tb_and, tb_and, tb_not _ ha, Bool.and_eq_true, Bool.and_eq_true, Bool.not_eq_true', bfF, touch_tb _ ht, touch_tb _ ht, bs_eq]
          exact ⟨⟨h1, h2⟩, h3⟩
      refine ⟨⟨fun h => absurd h c1, fun _ => ⟨places_g o ht, (touch_un _ ht).2, (touch_un _ ht).2, fun h => hk ht (fun g => q.mpr g h), fun _ => trivial⟩⟩, fun h => absurd h e, fun _ hp => ?_, fun _ hp => ?_⟩
      · rw [if_neg c1, if_neg (q.mpr hp)]
      · rw [if_neg c1, if_pos (Classical.byContradiction (fun g => hp (q.mp g)))])
  unfold gX3_isMadeRoom oX3_isMadeRoom_0 fX3_isMadeRoom pX3_isMadeRoom_0
  by_cases h0 : C &&& o = 0
  · rw [if_pos h0]
    refine ⟨⟨fun _ => s.1, fun h => absurd h0 h⟩, ?_⟩
    have h00 := and0_iff.mp h0
    rcases s.2 with ⟨h1, p, hp, a, ha, h2⟩ | ⟨h1, h2⟩
    · exact Or.inl ⟨h1, h00, p, a, hp, ha, h2⟩
    · refine Or.inr ⟨h1, ?_⟩
      rintro ⟨-, p, a, hp, ha, h3⟩
      exact h2 ⟨p, hp, a, ha, h3⟩
  · rw [if_neg h0]
    exact ⟨⟨fun h => absurd h h0, fun _ => trivial⟩, Or.inr ⟨rfl, fun h => h0 (and0_iff.mpr h.1)⟩⟩
/-- a first part and a second one -/
def E2 (c : Nat) (o : Int64) : Prop := ∃ p a, p < 6 ∧ a < 64 ∧ tb (fX3_places (nI p) o) a = true ∧ E1 c (o ||| fX3_cellsOf (nI p) (nI a))
theorem byTwo_eq {c : Nat} (hc : c < 64) (o : Int64) : gX6_byTwo (nI c) o ∧ ((fX6_byTwo (nI c) o = 1 ∧ E2 c o) ∨ (fX6_byTwo (nI c) o = 0 ∧ ¬ E2 c o)) := by
  have s := srch (d := 0) (body := bX6_byTwo_2 (nI c) o) (ok := kX6_byTwo_2 (nI c) o) (fun t => tb (fX3_places (nI (t / 64)) o) (t % 64) = true ∧ E1 c (o ||| fX6_partAt (nI (t / 64)) (nI (t % 64)))) 384 (by decide) (by
    intro t ht kR kO hk
    unfold bX6_byTwo_2 kX6_byTwo_2
    by_cases e : t = 384
    · subst e
      have c1 : (384 : Int32) ≤ nI 384 := by decide
      exact ⟨⟨fun _ => trivial, fun h => absurd c1 h⟩, fun _ => if_pos c1, fun h => absurd h (by omega), fun h => absurd h (by omega)⟩
    · have ht : t < 384 := by omega
      have c1 : ¬ (384 : Int32) ≤ nI t := nI_ge (b := 384) (by omega) (by omega)
      unfold pX6_byTwo_44 oX6_byTwo_44
      rw [(dm64 t ht).2, (dm64 t ht).1, can_eq o (p := t / 64) (a := t % 64) (by omega) (by omega), nI_1]
      obtain ⟨gg, hb⟩ := byOne_eq hc (o ||| fX6_partAt (nI (t / 64)) (nI (t % 64)))
      refine ⟨⟨fun h => absurd h c1, fun _ => ⟨fun h => hk ht ?_, fun h => ⟨gg, fun h2 => hk ht ?_, fun _ => trivial⟩⟩⟩, fun h => absurd h e, fun _ hp => ?_, fun _ hp => ?_⟩
      · rintro ⟨h1, -⟩; rw [h1] at h; exact absurd h (by decide)
      · rintro ⟨-, h1⟩
        rcases hb with ⟨k1, -⟩ | ⟨-, k2⟩
        · rw [k1] at h2; exact absurd h2 (by decide)
        · exact k2 h1
      · rcases hb with ⟨k1, -⟩ | ⟨-, k2⟩
        · rw [if_neg c1, hp.1, k1]; rfl
        · exact absurd hp.2 k2
      · rw [if_neg c1]
        by_cases g1 : tb (fX3_places (nI (t / 64)) o) (t % 64) = true
        · rcases hb with ⟨-, k1⟩ | ⟨k2, -⟩
          · exact absurd ⟨g1, k1⟩ hp
          · rw [if_pos g1, k2, if_neg (by decide), if_pos rfl]
        · rw [if_neg g1, if_pos rfl])
  refine ⟨s.1, ?_⟩
  have q : (∃ t, t < 384 ∧ tb (fX3_places (nI (t / 64)) o) (t % 64) = true ∧ E1 c (o ||| fX6_partAt (nI (t / 64)) (nI (t % 64)))) ↔ E2 c o := by
    constructor
    · rintro ⟨t, ht, h1, h2⟩
      have hw := places_wall (p := t / 64) (a := t % 64) (by omega) (by omega) h1
      rw [(partAt_c (t / 64) (by omega) (t % 64) (by omega)).1 hw] at h2
      exact ⟨t / 64, t % 64, by omega, by omega, h1, h2⟩
    · rintro ⟨p, a, hp, ha, h1, h2⟩
      have hw := places_wall hp ha h1
      refine ⟨64 * p + a, by omega, ?_⟩
      rw [show (64 * p + a) / 64 = p by omega, show (64 * p + a) % 64 = a by omega, (partAt_c p hp a ha).1 hw]
      exact ⟨h1, h2⟩
  rcases s.2 with ⟨h1, h2⟩ | ⟨h1, h2⟩
  · exact Or.inl ⟨h1, q.mp h2⟩
  · exact Or.inr ⟨h1, fun g => h2 (q.mpr g)⟩
def F2 (c : Nat) (o : Int64) : Prop := ∃ p a, p < 6 ∧ a < 64 ∧ cel p a c ∧ tb (tWALL p) a = true ∧ MR o (fX3_cellsOf (nI p) (nI a))
theorem two3_eq {c : Nat} (hc : c < 64) (o : Int64) : gX3_reachedByTwo o (nI c) ∧ ((fX3_reachedByTwo o (nI c) = 1 ∧ F2 c o) ∨ (fX3_reachedByTwo o (nI c) = 0 ∧ ¬ F2 c o)) := by
  have s := srch (d := 0) (body := bX3_reachedByTwo_2 o (nI c)) (ok := kX3_reachedByTwo_2 o (nI c)) (fun t => offs t ≤ c ∧ tb (tWALL (t / 4)) (c - offs t) = true ∧ MR o (fX3_cellsOf (nI (t / 4)) (nI (c - offs t)))) 24 (by decide) (by
    intro t ht kR kO hk
    unfold bX3_reachedByTwo_2 kX3_reachedByTwo_2
    by_cases e : t = 24
    · subst e
      have c1 : (24 : Int32) ≤ nI 24 := by decide
      exact ⟨⟨fun _ => trivial, fun h => absurd c1 h⟩, fun _ => if_pos c1, fun h => absurd h (by omega), fun h => absurd h (by omega)⟩
    · have ht : t < 24 := by omega
      have c1 : ¬ (24 : Int32) ≤ nI t := nI_ge (b := 24) (by omega) (by omega)
      unfold pX3_reachedByTwo_59 oX3_reachedByTwo_59
      rw [dv4 t ht, nI_1, nI_clamp (n := t) (by omega), nI_clamp (n := t / 4) (by omega)]
      by_cases g : offs t ≤ c
      · obtain ⟨g1, g2⟩ := (of_sub c hc t ht).1 g
        rw [g1] at g2 ⊢
        rw [has3 _ (c := c - offs t) (by omega)]
        obtain ⟨gg, hb⟩ := mr_eq o (fX3_cellsOf (nI (t / 4)) (nI (c - offs t)))
        refine ⟨⟨fun h => absurd h c1, fun _ => ⟨vp_in_nI (by omega) (by omega), fun h => absurd h g2, fun _ => ⟨vp_in_nI (by omega) (by omega), fun h => hk ht ?_, fun _ => ⟨(cellsOf_un (by omega)).2, gg, fun h => hk ht ?_, fun _ => trivial⟩⟩⟩⟩, fun h => absurd h e, fun _ hp => ?_, fun _ hp => ?_⟩
        · rintro ⟨-, h1, -⟩; rw [h1] at h; exact absurd h (by decide)
        · rintro ⟨-, -, h1⟩
          rcases hb with ⟨k1, -⟩ | ⟨-, k2⟩
          · rw [k1] at h; exact absurd h (by decide)
          · exact k2 h1
        · rcases hb with ⟨k1, -⟩ | ⟨-, k2⟩
          · rw [if_neg c1, if_neg g2, hp.2.1, k1]; rfl
          · exact absurd hp.2.2 k2
        · rw [if_neg c1, if_neg g2]
          by_cases g3 : tb (tWALL (t / 4)) (c - offs t) = true
          · rcases hb with ⟨-, k1⟩ | ⟨k2, -⟩
            · exact absurd ⟨g, g3, k1⟩ hp
            · rw [if_pos g3, k2, if_neg (by decide), if_pos rfl]
          · rw [if_neg g3, if_pos rfl]
      · have g2 := (of_sub c hc t ht).2 g
        refine ⟨⟨fun h => absurd h c1, fun _ => ⟨vp_in_nI (by omega) (by omega), fun _ => hk ht (fun h => g h.1), fun h => absurd g2 h⟩⟩, fun h => absurd h e, fun _ hp => absurd hp.1 g, fun _ hp => ?_⟩
        rw [if_neg c1, if_pos g2])
  refine ⟨s.1, ?_⟩
  have q : (∃ t, t < 24 ∧ offs t ≤ c ∧ tb (tWALL (t / 4)) (c - offs t) = true ∧ MR o (fX3_cellsOf (nI (t / 4)) (nI (c - offs t)))) ↔ F2 c o := by
    constructor
    · rintro ⟨t, ht, h1, h2, h3⟩
      exact ⟨t / 4, c - offs t, by omega, by omega, v_cel h1, h2, h3⟩
    · rintro ⟨p, a, hp, ha, h1, h2, h3⟩
      obtain ⟨v, hv, e1, e2, e3⟩ := cel_v h1
      refine ⟨v, by omega, e2, ?_⟩
      rw [e1, e3]; exact ⟨h2, h3⟩
  rcases s.2 with ⟨h1, h2⟩ | ⟨h1, h2⟩
  · exact Or.inl ⟨h1, q.mp h2⟩
  · exact Or.inr ⟨h1, fun g => h2 (q.mpr g)⟩
theorem two_iff {c : Nat} {o : Int64} (hn : ¬ E1 c o) : E2 c o ↔ F2 c o := by
  constructor
  · rintro ⟨p, a, hp, ha, h1, p2, a2, hp2, ha2, k1, k2⟩
    have hw := places_wall hp ha h1
    have hw2 := places_wall hp2 ha2 k2
    obtain ⟨-, ⟨j, j1, j2⟩, k3⟩ := (places_tb _ hp2 ha2).mp k2
    have hj := cel_lt hp2 ha2 hw2 j1
    have dj : ∀ i, i < 64 → tb (fX3_cellsOf (nI p2) (nI a2)) i = true → ¬ tb o i = true := fun i hi g1 g2 => k3 ⟨i, (cells_tb hp2 ha2 hi hw2).mp g1, by rw [tb_or, g2]; rfl⟩
    refine ⟨p2, a2, hp2, ha2, k1, hw2, dj, p, a, hp, ha, h1, ?_, ?_⟩
    · obtain ⟨k, hk, g1, g2⟩ := (bs_iff _ hj).mp j2
      rw [tb_or, Bool.or_eq_true] at g1
      rcases g1 with g1 | g1
      · refine absurd ⟨p2, a2, hp2, ha2, k1, (places_tb o hp2 ha2).mpr ⟨hw2, ⟨j, j1, (bs_iff o hj).mpr ⟨k, hk, g1, g2⟩⟩, ?_⟩⟩ hn
        rintro ⟨i, i1, i2⟩
        exact k3 ⟨i, i1, by rw [tb_or, i2]; rfl⟩
      · exact ⟨k, (cells_tb hp ha hk hw).mp g1, (bs_iff _ hk).mpr ⟨j, hj, (cells_tb hp2 ha2 hj hw2).mpr j1, adj_symm g2⟩⟩
    · rintro ⟨i, i1, i2⟩
      have hi := cel_lt hp ha hw i1
      exact k3 ⟨i, (cells_tb hp2 ha2 hi hw2).mp i2, by rw [tb_or, (cells_tb hp ha hi hw).mpr i1, Bool.or_true]⟩
  · rintro ⟨p2, a2, hp2, ha2, k1, hw2, dj, p, a, hp, ha, h1, ⟨i, i1, i2⟩, h3⟩
    have hw := places_wall hp ha h1
    have hi := cel_lt hp ha hw i1
    refine ⟨p, a, hp, ha, h1, p2, a2, hp2, ha2, k1, (places_tb _ hp2 ha2).mpr ⟨hw2, ?_, ?_⟩⟩
    · obtain ⟨j, hj, g1, g2⟩ := (bs_iff _ hi).mp i2
      exact ⟨j, (cells_tb hp2 ha2 hj hw2).mp g1, (bs_iff _ hj).mpr ⟨i, hi, by rw [tb_or, (cells_tb hp ha hi hw).mpr i1, Bool.or_true], adj_symm g2⟩⟩
    · rintro ⟨k, g1, g2⟩
      have hk := cel_lt hp2 ha2 hw2 g1
      rw [tb_or, Bool.or_eq_true] at g2
      rcases g2 with g2 | g2
      · exact dj k hk ((cells_tb hp2 ha2 hk hw2).mpr g1) g2
      · exact h3 ⟨k, (cells_tb hp ha hk hw).mp g2, (cells_tb hp2 ha2 hk hw2).mpr g1⟩
theorem reach1 {c : Nat} (hc : c < 64) (o : Int64) : fX3_reachedByOne o (nI c) = fX6_byOne (nI c) o ∧ (fX6_byOne (nI c) o = 0 ∧ ¬ E1 c o ∨ fX6_byOne (nI c) o = 1) := by
  rcases (one3_eq hc o).2 with ⟨h1, h2⟩ | ⟨h1, h2⟩ <;> rcases (byOne_eq hc o).2 with ⟨g1, g2⟩ | ⟨g1, g2⟩
  · exact ⟨by rw [h1, g1], Or.inr g1⟩
  · exact absurd h2 g2
  · exact absurd g2 h2
  · exact ⟨by rw [h1, g1], Or.inl ⟨g1, g2⟩⟩
theorem reach2 {c : Nat} (hc : c < 64) {o : Int64} (hn : ¬ E1 c o) : fX3_reachedByTwo o (nI c) = fX6_byTwo (nI c) o ∧ (fX6_byTwo (nI c) o = 0 ∨ fX6_byTwo (nI c) o = 1) := by
  have q := two_iff hn
  rcases (two3_eq hc o).2 with ⟨h1, h2⟩ | ⟨h1, h2⟩ <;> rcases (byTwo_eq hc o).2 with ⟨g1, g2⟩ | ⟨g1, g2⟩
  · exact ⟨by rw [h1, g1], Or.inr g1⟩
  · exact absurd (q.mpr h2) g2
  · exact absurd (q.mp g2) h2
  · exact ⟨by rw [h1, g1], Or.inl g1⟩

section
/-! reading side by side: what is written, and what it says -/
/-- an item worked off on a stack -/
def ex1 (N : Nat → Int32) (it : Int32) (st : List Int32) : List Int32 :=
  if it < 0 then
    if fX0_isName (it ^^^ (-1)) = 0 then
      match st with
      | [] => []
      | x :: s => if it ^^^ (-1) = 5 then (if x = 0 then 1 else 0) :: s else if it ^^^ (-1) = 23 then (-x) :: s else
        match s with
        | [] => [x]
        | y :: s' => fX2_joined (it ^^^ (-1)) y x :: s'
    else N ((it ^^^ (-1)) - 6).toNatClampNeg :: st
  else it :: st
def exs (N : Nat → Int32) (c : Nat → Int32) : Nat → Nat → List Int32 → List Int32
  | _, 0, st => st
  | i, m + 1, st => exs N c (i + 1) m (ex1 N (c i) st)
theorem exs_add (N c : Nat → Int32) : ∀ (m k i : Nat) (st : List Int32), exs N c i (m + k) st = exs N c (i + m) k (exs N c i m st)
  | 0, k, i, st => by rw [Nat.zero_add, Nat.add_zero]; rfl
  | m + 1, k, i, st => by
    rw [show m + 1 + k = (m + k) + 1 by omega]
    show exs N c (i + 1) (m + k) _ = exs N c (i + (m + 1)) k (exs N c (i + 1) m _)
    rw [exs_add N c m k (i + 1), show i + 1 + m = i + (m + 1) by omega]
theorem exs_cong {N c c' : Nat → Int32} : ∀ (m i : Nat) (st : List Int32), (∀ j, i ≤ j → j < i + m → c' j = c j) → exs N c' i m st = exs N c i m st
  | 0, _, _, _ => rfl
  | m + 1, i, st, h => by
    show exs N c' (i + 1) m (ex1 N (c' i) st) = exs N c (i + 1) m (ex1 N (c i) st)
    rw [h i (by omega) (by omega)]
    exact exs_cong m (i + 1) _ (fun j h1 h2 => h j (by omega) (by omega))
def Ev (N c : Nat → Int32) (a b : Nat) (v : Int32) : Prop := ∀ st, exs N c a (b - a) st = v :: st
theorem Ev.cong {N c c' : Nat → Int32} {a b : Nat} {v : Int32} (h : Ev N c a b v) (hc : ∀ j, a ≤ j → j < b → c' j = c j) : Ev N c' a b v := fun st => (exs_cong (b - a) a st (fun j h1 h2 => hc j h1 (by omega))).trans (h st)
theorem Ev.one {N c : Nat → Int32} {a : Nat} {v : Int32} (h : ∀ st, ex1 N (c a) st = v :: st) : Ev N c a (a + 1) v := fun st => by
  rw [show a + 1 - a = 1 by omega]; exact h st
theorem Ev.un {N c : Nat → Int32} {a b : Nat} {v u : Int32} (hab : a ≤ b) (h : Ev N c a b v) (hx : ∀ st, ex1 N (c b) (v :: st) = u :: st) : Ev N c a (b + 1) u := fun st => by
  rw [show b + 1 - a = (b - a) + 1 by omega, exs_add, h st, show a + (b - a) = b by omega]; exact hx st
theorem Ev.bin {N c : Nat → Int32} {a b d : Nat} {v w u : Int32} (hab : a ≤ b) (hbd : b ≤ d) (h : Ev N c a b v) (k : Ev N c b d w) (hx : ∀ st, ex1 N (c d) (w :: v :: st) = u :: st) : Ev N c a (d + 1) u := fun st => by
  rw [show d + 1 - a = (b - a) + ((d - b) + 1) by omega, exs_add, h st, show a + (b - a) = b by omega, exs_add, k _, show b + (d - b) = d by omega]; exact hx st
def nms (σ : OS) (j : Nat) : Int32 := σ.1 (13 + j)
/-- names of a text, as far as they are asked -/
theorem ex1_nm {N N' : Nat → Int32} (h : ∀ j, j < 6 → N' j = N j) (it : Int32) (st : List Int32) : ex1 N' it st = ex1 N it st := by
  unfold ex1
  by_cases c : it < 0
  · rw [if_pos c, if_pos c]
    by_cases d : fX0_isName (it ^^^ (-1)) = 0
    · rw [if_pos d, if_pos d]
    · rw [if_neg d, if_neg d]
      congr 1
      apply h
      unfold fX0_isName pX0_isName_0 at d
      by_cases c1 : it ^^^ (-1) < 6
      · rw [if_pos c1] at d; exact absurd rfl d
      · by_cases c2 : 12 ≤ it ^^^ (-1)
        · rw [if_neg c1, if_pos c2] at d; exact absurd rfl d
        · generalize it ^^^ (-1) = x at c1 c2
          have z0 : (0 : Int32).toInt = 0 := by decide
          have z6 : (6 : Int32).toInt = 6 := by decide
          have hx0 : ¬ x < 0 := fun h0 => by
            rw [i32_lt] at h0
            rw [i32_lt] at c1
            omega
          obtain ⟨j, hj, rfl⟩ := nI_of hx0
          have c1' : ¬ j < 6 := fun h => c1 (nI_lt (b := 6) h (by decide))
          have c2' : ¬ 12 ≤ j := fun h => c2 (nI_le (a := 12) h hj)
          rw [show (6 : Int32) = nI 6 from rfl, pk_sub (by omega), nI_clamp (by omega)]
          omega
  · rw [if_neg c, if_neg c]
theorem exs_nm {N N' : Nat → Int32} (h : ∀ j, j < 6 → N' j = N j) (c : Nat → Int32) : ∀ (m i : Nat) (st : List Int32), exs N' c i m st = exs N c i m st
  | 0, _, _ => rfl
  | m + 1, i, st => by
    show exs N' c (i + 1) m (ex1 N' (c i) st) = exs N c (i + 1) m (ex1 N (c i) st)
    rw [ex1_nm h]
    exact exs_nm h c m (i + 1) _
theorem Ev.nm {N N' c : Nat → Int32} {a b : Nat} {v : Int32} (h : Ev N c a b v) (hN : ∀ j, j < 6 → N' j = N j) : Ev N' c a b v := fun st => (exs_nm hN c _ _ st).trans (h st)
theorem PF.nm {σ r : OS} (h : PF σ r) : ∀ j, j < 6 → nms r j = nms σ j := fun j hj => h.1 (13 + j) (by omega)
/-- what a part of a text has made of both -/
def Post (n : Nat) (B : Nat → Nat) (f lev : Nat) (ρ σ r : OS) (v : Int32) (s : OS) : Prop := Sim n B f lev r s ∧ PF σ s ∧ r.2.2.1 3 = ρ.2.2.1 3 ∧ (r.1 10 = -1 → Good n lev ρ σ ∧ cs ρ < cs r ∧ cs r + pl ρ ≤ cs ρ + pl r ∧ (∀ i, i < cs ρ → r.2.2.1 2 i = ρ.2.2.1 2 i) ∧ Ev (nms σ) (r.2.2.1 2) (cs ρ) (cs r) v)
def NT (n : Nat) (B : Nat → Nat) (f lev : Nat) (G : OS → Prop) (F : OS → OS) (H : OS → Prop) (A : OS → Int32 × OS) : Prop := ∀ ρ σ, Sim n B f lev ρ σ → (ρ.1 10 = -1 → cs ρ ≤ pl ρ) → G ρ ∧ H σ ∧ Post n B f lev ρ σ (F ρ) (A σ).1 (A σ).2
theorem Bad.no {n : Nat} (hn : n ≤ 160) {ρ σ : OS} (h : Bad n ρ σ) : ¬ ρ.1 10 = -1 := by
  obtain ⟨_, _, p, hp, h10, _⟩ := h
  rw [h10]
  exact nI_ne_m1 (by omega)
theorem Sim.good {n : Nat} (hn : n ≤ 160) {B : Nat → Nat} {f lev : Nat} {ρ σ : OS} (h : Sim n B f lev ρ σ) (h10 : ρ.1 10 = -1) : Good n lev ρ σ := h.2.resolve_left (fun b => b.no hn h10)
theorem Sim.tok {n : Nat} {B : Nat → Nat} {f lev : Nat} {ρ σ : OS} (h : Sim n B f lev ρ σ) (ht : tk ρ < 22) : Good n lev ρ σ := h.2.resolve_left (fun b => by have := b.1; omega)
theorem Post.bad {n : Nat} (hn : n ≤ 160) {B : Nat → Nat} {f lev : Nat} {ρ σ r s : OS} {v : Int32} (hb : Base n B f r s) (h : Bad n r s) (hp : PF σ s) (h3 : r.2.2.1 3 = ρ.2.2.1 3) : Post n B f lev ρ σ r v s := ⟨⟨hb, Or.inl h⟩, hp, h3, fun h10 => absurd h10 (h.no hn)⟩
theorem sim_adv {n : Nat} {B : Nat → Nat} (hn : n ≤ 160) (hB : ∀ i, B i < 256) {f : Nat} (hf : f ≤ 800) {lev : Nat} {ρ σ : OS} (hb : Base n B f ρ σ) (hg : Good n lev ρ σ) (ht : tk ρ < 21) : gX0_step ρ ∧ gX6_next σ ∧ Base n B f (fX0_step ρ) (fX6_next σ) ∧ Good n lev (fX0_step ρ) (fX6_next σ) ∧ pl ρ < pl (fX0_step ρ) ∧ RF ρ (fX0_step ρ) ∧ SF σ (fX6_next σ) := by
  obtain ⟨e, h5, h21, h1, h2⟩ := hg.2.2.2.2.2.2.2.1 (by omega)
  have h1 := h1 ht
  obtain ⟨g1, g2, g3, g4, g5, g6, g7⟩ := adv hn hB hf hb.1 hb.2.1 hb.2.2.1 hb.2.2.2.1 hg.1 hg.2.1 hg.2.2.2.2.2.1 hg.2.2.2.2.2.2.1 h5 h21 h2
  exact ⟨g1, g2, g3, g4, by omega, g6, g7⟩
theorem RF.cs {ρ r : OS} (h : RF ρ r) : cs r = cs ρ := by
  show (r.1 4).toNatClampNeg = (ρ.1 4).toNatClampNeg
  rw [h.1 4 (by decide) (by decide) (by decide) (by decide)]
/-- writing -/
theorem wr {ρ : OS} (h4 : ρ.1 4 = nI (cs ρ)) (hc : cs ρ ≤ 160) (x : Int32) : gX0_write ρ x ∧ ((cs ρ < 160 ∧ fX0_write ρ x = oI (oS ρ 2 (cs ρ) x) 4 (nI (cs ρ + 1))) ∨ (cs ρ = 160 ∧ fX0_write ρ x = ρ)) := by
  unfold gX0_write fX0_write oX0_write_0 pX0_write_0
  by_cases c : cs ρ < 160
  · have c1 : ¬ (160 : Int32) ≤ ρ.1 4 := by rw [h4]; exact nI_ge (b := 160) c (by decide)
    have vin : vp_in (ρ.1 4) 160 := by rw [h4]; exact vp_in_nI c (by decide)
    simp only [↓reduceIte, not_true_eq_false, not_false_eq_true, false_implies, true_implies, implies_true, true_and, and_true, and_self, eq_self, Bool.false_eq_true, c1, vin]
    refine Or.inl ⟨c, ?_⟩
    show oI (oS ρ 2 (cs ρ) x) 4 (ρ.1 4 + 1) = _
    rw [h4, nI_1]
  · have e : cs ρ = 160 := by omega
    have c1 : (160 : Int32) ≤ ρ.1 4 := by rw [h4, e]; decide
    simp only [↓reduceIte, not_true_eq_false, not_false_eq_true, false_implies, true_implies, implies_true, true_and, and_true, and_self, eq_self, Bool.false_eq_true, c1]
    exact Or.inr e
theorem cs_put (ρ : OS) {c : Nat} (hc : c ≤ 160) : cs (oI ρ 4 (nI c)) = c := by unfold cs; rw [oI_s, nI_clamp (by omega)]
theorem wr_base {n : Nat} {B : Nat → Nat} {f : Nat} {ρ σ : OS} (h : Base n B f ρ σ) (x : Int32) : gX0_write ρ x ∧ Base n B f (fX0_write ρ x) σ ∧ (fX0_write ρ x).2.2.1 3 = ρ.2.2.1 3 ∧ (∀ lev, Good n lev ρ σ → Good n lev (fX0_write ρ x) σ) ∧ (Bad n ρ σ → Bad n (fX0_write ρ x) σ) ∧ (fX0_write ρ x).1 10 = ρ.1 10 ∧ pl (fX0_write ρ x) = pl ρ := by
  obtain ⟨g, h1⟩ := wr h.2.2.1 h.2.2.2.1 x
  refine ⟨g, ?_⟩
  rcases h1 with ⟨c, e⟩ | ⟨c, e⟩
  · rw [e]
    have hc := cs_put (oS ρ 2 (cs ρ) x) (c := cs ρ + 1) (by omega)
    exact ⟨⟨⟨h.1.1, h.1.2⟩, h.2.1, by rw [hc]; rfl, by rw [hc]; omega, h.2.2.2.2⟩, rfl, fun lev hg => hg, fun hb => hb, rfl, rfl⟩
  · rw [e]
    exact ⟨h, rfl, fun _ h => h, fun h => h, rfl, rfl⟩
/-- refusing -/
theorem rfs {n : Nat} (hn : n ≤ 160) {B : Nat → Nat} {f lev : Nat} {ρ σ : OS} (h : Sim n B f lev ρ σ) : Base n B f (fX0_refuse ρ) (fX6_fail σ) ∧ Bad n (fX0_refuse ρ) (fX6_fail σ) ∧ PF σ (fX6_fail σ) ∧ (fX0_refuse ρ).2 = ρ.2 := by
  obtain ⟨hb, hB | hG⟩ := h
  · have e1 : fX0_refuse ρ = ρ := by
      unfold fX0_refuse pX0_refuse_0 pX0_refuse_16
      have h6 : ρ.1 6 = 22 := by rw [hb.2.2.2.2.1, hB.1]; rfl
      have e : oI ρ 6 22 = ρ := oI_id ρ 6 h6
      rw [if_neg (hB.no hn), e]
    have e2 : fX6_fail σ = σ := by
      unfold fX6_fail pX6_fail_0
      rw [if_neg (by rw [hB.2.1]; decide)]
    rw [e1, e2]
    exact ⟨hb, hB, PF.rfl' σ, rfl⟩
  · have e1 : fX0_refuse ρ = oI (oI ρ 10 (ρ.1 7)) 6 22 := by
      unfold fX0_refuse pX0_refuse_0 pX0_refuse_16
      rw [if_pos hG.1]
    have e2 : fX6_fail σ = oI (oI σ 26 1) 27 (σ.1 23) := by
      unfold fX6_fail pX6_fail_0
      rw [if_pos hG.2.1]
      rfl
    rw [e1, e2]
    have t22 : tk (oI (oI ρ 10 (ρ.1 7)) 6 22) = 22 := by unfold tk; rw [oI_s]; rfl
    have n26 : ¬ ((oI (oI σ 26 1) 27 (σ.1 23)).1 26 = 0) := one_ne
    refine ⟨⟨⟨hb.1.1, hb.1.2⟩, ⟨hb.2.1.1, hb.2.1.2.1, hb.2.1.2.2⟩, hb.2.2.1, hb.2.2.2.1, ?_⟩, ⟨t22, rfl, pl ρ, hG.2.2.2.2.1, hG.2.2.1, hG.2.2.2.1⟩, ((PF.rfl' σ).put (by omega) _).put (by omega) _, rfl⟩
    refine ⟨by rw [t22]; rfl, by rw [t22]; decide, fun s hs => ?_, fun w hw => ?_⟩
    · rw [sign_no (fun h => n26 h.1), if_neg (by rw [t22]; omega)]
    · rw [t22, if_neg (by omega)]
      exact word_no (fun h => n26 h.1) w
end

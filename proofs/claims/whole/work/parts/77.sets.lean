section
/-! what is put up: unions, how many, what is held -/
def uni (U : Nat → Int64) : Nat → Int64
  | 0 => 0
  | m + 1 => uni U m ||| U m
theorem uni_tb (U : Nat → Int64) (i : Nat) : ∀ m, tb (uni U m) i = true ↔ ∃ p, p < m ∧ tb (U p) i = true
  | 0 => by
    constructor
    · intro h
      rw [show uni U 0 = 0 from rfl, tb_0] at h
      cases h
    · rintro ⟨p, h, _⟩
      omega
  | m + 1 => by
    rw [show uni U (m + 1) = uni U m ||| U m from rfl, tb_or, Bool.or_eq_true, uni_tb U i m]
    constructor
    · rintro (⟨p, h1, h2⟩ | h)
      · exact ⟨p, by omega, h2⟩
      · exact ⟨m, by omega, h⟩
    · rintro ⟨p, h1, h2⟩
      by_cases e : p = m
      · subst e; exact Or.inr h2
      · exact Or.inl ⟨p, by omega, h2⟩
theorem uni_cong {U V : Nat → Int64} : ∀ {m : Nat}, (∀ p, p < m → U p = V p) → uni U m = uni V m
  | 0, _ => rfl
  | m + 1, h => by
    show uni U m ||| U m = uni V m ||| V m
    rw [uni_cong (fun p hp => h p (by omega)), h m (by omega)]
def sm (f : Nat → Nat) : Nat → Nat
  | 0 => 0
  | m + 1 => sm f m + f m
theorem sm_cong {f g : Nat → Nat} : ∀ {m : Nat}, (∀ p, p < m → f p = g p) → sm f m = sm g m
  | 0, _ => rfl
  | m + 1, h => by
    show sm f m + f m = sm g m + g m
    rw [sm_cong (fun p hp => h p (by omega)), h m (by omega)]
theorem sm_add (f g : Nat → Nat) : ∀ m, sm (fun p => f p + g p) m = sm f m + sm g m
  | 0 => rfl
  | m + 1 => by
    show sm (fun p => f p + g p) m + (f m + g m) = sm f m + f m + (sm g m + g m)
    rw [sm_add f g m]; omega
def DJ (m : Nat) (U : Nat → Int64) (h : Int64) : Prop := (∀ p q i, p < m → q < m → ¬ p = q → i < 64 → tb (U p) i = true → ¬ tb (U q) i = true) ∧ ∀ p i, p < m → i < 64 → tb (U p) i = true → ¬ tb h i = true
theorem cnt_or {p q : Nat → Bool} : ∀ {n : Nat}, (∀ k, k < n → p k = true → ¬ q k = true) → cnt (fun i => p i || q i) n = cnt p n + cnt q n
  | 0, _ => rfl
  | n + 1, h => by
    rw [cnt, cnt, cnt, cnt_or (fun k hk => h k (by omega))]
    have := h n (by omega)
    cases e1 : p n with
    | false => cases q n <;> simp <;> omega
    | true =>
      have e2 : q n = false := bfF.mpr (this e1)
      rw [e2]; simp; omega
theorem pcn_or {x y : Int64} (h : ∀ i, i < 64 → tb x i = true → ¬ tb y i = true) : pcn (x ||| y) = pcn x + pcn y := by
  unfold pcn
  rw [← cnt_or h]
  exact cnt_cong (fun i _ => tb_or x y i)
theorem pcn_split (x k : Int64) : pcn (x &&& k) + pcn (x &&& (k ^^^ (-1))) = pcn x := by
  rw [← pcn_or (fun i hi h1 h2 => ?_)]
  · congr 1
    refine tb_ext (fun i hi => ?_)
    rw [tb_or, tb_and, tb_and, tb_not _ hi]
    cases tb x i <;> cases tb k i <;> rfl
  · rw [tb_and, Bool.and_eq_true] at h1
    rw [tb_and, tb_not _ hi, h1.2] at h2
    simp at h2
theorem uni_pcn' {U : Nat → Int64} : ∀ {m : Nat}, (∀ p q i, p < m → q < m → ¬ p = q → i < 64 → tb (U p) i = true → ¬ tb (U q) i = true) → pcn (uni U m) = sm (fun p => pcn (U p)) m
  | 0, _ => by show pcn 0 = 0; exact cnt_zero (fun i _ => tb_0 i)
  | m + 1, d => by
    show pcn (uni U m ||| U m) = sm (fun p => pcn (U p)) m + pcn (U m)
    rw [pcn_or (fun i hi h1 h2 => ?_), uni_pcn' (fun p q i hp hq => d p q i (by omega) (by omega))]
    obtain ⟨p, hp, h⟩ := (uni_tb U i m).mp h1
    exact d p m i (by omega) (by omega) (by omega) hi h h2
theorem uni_pcn {m : Nat} {U : Nat → Int64} {h : Int64} (d : DJ m U h) : pcn (uni U m) = sm (fun p => pcn (U p)) m := uni_pcn' d.1
def sub (x y : Int64) : Prop := ∀ i, i < 64 → tb x i = true → tb y i = true
theorem sub.tr {x y z : Int64} (h : sub x y) (k : sub y z) : sub x z := fun i hi e => k i hi (h i hi e)
theorem sub_stp (o x : Int64) : sub x (stp o x) := fun i _ e => by unfold stp; rw [tb_or, e]; rfl
theorem stp_iff {o x : Int64} {i : Nat} (hi : i < 64) : tb (stp o x) i = true ↔ tb x i = true ∨ (tb o i = true ∧ ∃ j, j < 64 ∧ tb x j = true ∧ adj j i) := by
  unfold stp
  rw [tb_or, tb_and, Bool.or_eq_true, Bool.and_eq_true, bs_iff x hi]
  constructor
  · rintro (h | ⟨h1, h2⟩)
    · exact Or.inl h
    · exact Or.inr ⟨h2, h1⟩
  · rintro (h | ⟨h1, h2⟩)
    · exact Or.inl h
    · exact Or.inr ⟨h2, h1⟩
theorem stN_le (o x : Int64) (n : Nat) : ∀ k, sub (stN o n x) (stN o (n + k) x)
  | 0 => fun _ _ e => e
  | k + 1 => by
    rw [← Nat.add_assoc, stN_succ]
    exact (stN_le o x n k).tr (sub_stp _ _)
theorem sub_stN (o x : Int64) (n : Nat) : sub x (stN o n x) := by
  have := stN_le o x 0 n
  rw [Nat.zero_add] at this
  exact this
theorem stN_in {o x : Int64} (h : sub x o) : ∀ n, sub (stN o n x) o
  | 0 => h
  | n + 1 => by
    rw [stN_succ]
    intro i hi e
    rcases (stp_iff hi).mp e with e | ⟨e, _⟩
    · exact stN_in h n i hi e
    · exact e
theorem stN_res {o h : Int64} (ho : sub h o) (N : Nat) : ∀ n, n ≤ N → stN (stN o N h) n h = stN o n h
  | 0, _ => rfl
  | n + 1, hn => by
    rw [stN_succ, stN_succ, stN_res ho N n (by omega)]
    refine tb_ext (fun i hi => bt ?_)
    rw [stp_iff hi, stp_iff hi]
    constructor
    · rintro (e | ⟨e, e2⟩)
      · exact Or.inl e
      · exact Or.inr ⟨stN_in ho N i hi e, e2⟩
    · rintro (e | ⟨e, e2⟩)
      · exact Or.inl e
      · refine Or.inr ⟨?_, e2⟩
        have e3 : tb (stN o (n + 1) h) i = true := by rw [stN_succ]; exact (stp_iff hi).mpr (Or.inr ⟨e, e2⟩)
        have e4 := stN_le o h (n + 1) (N - (n + 1)) i hi e3
        rw [show n + 1 + (N - (n + 1)) = N by omega] at e4
        exact e4
theorem stN_mono {o o' x : Int64} (ho : sub o o') : ∀ n, sub (stN o n x) (stN o' n x)
  | 0 => fun _ _ e => e
  | n + 1 => by
    rw [stN_succ, stN_succ]
    intro i hi e
    rw [stp_iff hi] at e ⊢
    rcases e with e | ⟨e, j, hj, e1, e2⟩
    · exact Or.inl (stN_mono ho n i hi e)
    · exact Or.inr ⟨ho i hi e, j, hj, stN_mono ho n j hj e1, e2⟩
theorem pcn_lt {x y : Int64} (h : sub x y) (hne : ¬ x = y) : pcn x < pcn y := by
  have s := pcn_split y x
  have e : y &&& x = x := tb_ext (fun i hi => by
    rw [tb_and]
    cases e : tb x i with
    | false => simp
    | true => rw [h i hi e]; rfl)
  rw [e] at s
  have : 0 < pcn (y &&& (x ^^^ (-1))) := by
    apply Classical.byContradiction
    intro h0
    apply hne
    refine tb_ext (fun i hi => bt ⟨h i hi, fun ey => ?_⟩)
    apply Classical.byContradiction
    intro ex
    apply h0
    refine cnt_pos hi ?_
    rw [tb_and, tb_not _ hi, ey, bfF.mpr ex]; rfl
  omega
theorem cnt_full {p : Nat → Bool} : ∀ {n : Nat}, cnt p n = n → ∀ i, i < n → p i = true
  | 0, _, i, hi => by omega
  | n + 1, h, i, hi => by
    rw [cnt] at h
    have := cnt_le p n
    cases e : p n with
    | false => rw [e] at h; simp at h; omega
    | true =>
      rw [e] at h
      by_cases c : i = n
      · rw [c]; exact e
      · exact cnt_full (n := n) (by simp at h; omega) i (by omega)
theorem fixN (o x : Int64) : ∀ n, stp o (stN o n x) = stN o n x ∨ n ≤ pcn (stN o n x)
  | 0 => Or.inr (Nat.zero_le _)
  | n + 1 => by
    by_cases c : stp o (stN o n x) = stN o n x
    · left
      rw [stN_succ, c, c]
    · rcases fixN o x n with h | h
      · exact absurd h c
      · right
        rw [stN_succ]
        have := pcn_lt (sub_stp o (stN o n x)) (fun e => c e.symm)
        omega
theorem fix64 (o x : Int64) : stp o (stN o 64 x) = stN o 64 x := by
  rcases fixN o x 64 with h | h
  · exact h
  · have e : pcn (stN o 64 x) = 64 := by have := pcn_le (stN o 64 x); omega
    have f := cnt_full e
    refine tb_ext (fun i hi => ?_)
    rw [f i hi]
    exact sub_stp o _ i hi (f i hi)
/-- what falls where nothing holds it -/
def dl (h : Int64) (m : Nat) (U : Nat → Int64) (p : Nat) : Int64 := U p &&& stN (h ||| uni U m) 64 h
def dc (c : Nat) (U : Nat → Int64) (p : Nat) : Int64 := U p &&& (jshl 1 (nI c) ^^^ (-1))
def HD (m : Nat) (U : Nat → Int64) (h : Int64) : Prop := ∀ p, p < m → sub (U p) (stN (h ||| uni U m) 64 h)
def PI (m : Nat) (h : Int64) (U : Nat → Int64) : Prop := DJ m U h ∧ HD m U h
theorem sub_h (h x : Int64) : sub h (h ||| x) := fun i _ e => by rw [tb_or, e]; rfl
theorem DJ.le {m : Nat} {U V : Nat → Int64} {h : Int64} (d : DJ m U h) (s : ∀ p, p < m → sub (V p) (U p)) : DJ m V h := ⟨fun p q i hp hq hne hi e1 e2 => d.1 p q i hp hq hne hi (s p hp i hi e1) (s q hq i hi e2), fun p i hp hi e => d.2 p i hp hi (s p hp i hi e)⟩
theorem dl_sub (h : Int64) (m : Nat) (U : Nat → Int64) (p : Nat) : sub (dl h m U p) (U p) := fun i _ e => by unfold dl at e; rw [tb_and, Bool.and_eq_true] at e; exact e.1
theorem dc_tb (c : Nat) (hc : c < 64) (U : Nat → Int64) (p : Nat) {i : Nat} (hi : i < 64) : tb (dc c U p) i = (tb (U p) i && decide (i ≠ c)) := by
  unfold dc
  rw [tb_and, tb_not _ hi, tb_bit hc hi]
  by_cases e : i = c <;> simp [e]
theorem dc_sub (c : Nat) (hc : c < 64) (U : Nat → Int64) (p : Nat) : sub (dc c U p) (U p) := fun i hi e => by rw [dc_tb c hc U p hi, Bool.and_eq_true] at e; exact e.1
theorem dl_st (h : Int64) (m : Nat) (U : Nat → Int64) : h ||| uni (dl h m U) m = stN (h ||| uni U m) 64 h := by
  refine tb_ext (fun i hi => bt ?_)
  rw [tb_or, Bool.or_eq_true, uni_tb]
  constructor
  · rintro (e | ⟨p, _, e⟩)
    · exact sub_stN _ _ _ i hi e
    · unfold dl at e; rw [tb_and, Bool.and_eq_true] at e; exact e.2
  · intro e
    have e1 := stN_in (sub_h h (uni U m)) 64 i hi e
    rw [tb_or, Bool.or_eq_true, uni_tb] at e1
    rcases e1 with e1 | ⟨p, hp, e1⟩
    · exact Or.inl e1
    · exact Or.inr ⟨p, hp, by unfold dl; rw [tb_and, e1, e]; rfl⟩
theorem dl_PI {m : Nat} {U : Nat → Int64} {h : Int64} (d : DJ m U h) : PI m h (dl h m U) := by
  refine ⟨d.le (fun p _ => dl_sub h m U p), fun p hp i hi e => ?_⟩
  rw [dl_st, stN_res (sub_h h (uni U m)) 64 64 (Nat.le_refl _)]
  unfold dl at e
  rw [tb_and, Bool.and_eq_true] at e
  exact e.2
theorem dl_id {m : Nat} {U : Nat → Int64} {h : Int64} (d : HD m U h) {p : Nat} (hp : p < m) : dl h m U p = U p := by
  refine tb_ext (fun i hi => ?_)
  unfold dl
  rw [tb_and]
  cases e : tb (U p) i with
  | false => rfl
  | true => rw [d p hp i hi e]; rfl
theorem dl_cong {m : Nat} {U V : Nat → Int64} (h : Int64) (e : ∀ p, p < m → U p = V p) {p : Nat} (hp : p < m) : dl h m U p = dl h m V p := by unfold dl; rw [uni_cong e, e p hp]
theorem dc_id {c : Nat} (hc : c < 64) {U : Nat → Int64} {p : Nat} (h : ¬ tb (U p) c = true) : dc c U p = U p := by
  refine tb_ext (fun i hi => ?_)
  rw [dc_tb c hc U p hi]
  by_cases e : i = c
  · subst e; rw [bfF.mpr h]; rfl
  · simp [e]
theorem dc_pcn {c : Nat} (hc : c < 64) {U : Nat → Int64} {p : Nat} (h : tb (U p) c = true) : pcn (dc c U p) + 1 = pcn (U p) := by
  unfold pcn
  rw [← cnt_clear h hc]
  congr 1
  exact cnt_cong (fun i hi => dc_tb c hc U p hi)
theorem dc_sm {c : Nat} (hc : c < 64) {U : Nat → Int64} : ∀ {m : Nat}, (∀ p q i, p < m → q < m → ¬ p = q → i < 64 → tb (U p) i = true → ¬ tb (U q) i = true) → (∃ p, p < m ∧ tb (U p) c = true) → sm (fun p => pcn (dc c U p)) m + 1 = sm (fun p => pcn (U p)) m
  | 0, _, ⟨p, h, _⟩ => by omega
  | m + 1, d, ⟨p, hp, h⟩ => by
    show sm (fun p => pcn (dc c U p)) m + pcn (dc c U m) + 1 = sm (fun p => pcn (U p)) m + pcn (U m)
    by_cases e : p = m
    · subst e
      rw [sm_cong (g := fun q => pcn (U q)) (fun q hq => by rw [dc_id hc (d p q c (by omega) (by omega) (by omega) hc h)])]
      have := dc_pcn hc h
      omega
    · rw [dc_id hc (d p m c (by omega) (by omega) e hc h)]
      have := dc_sm hc (m := m) (fun p q i hp hq => d p q i (by omega) (by omega)) ⟨p, by omega, h⟩
      omega
/-- a part's cells hang together -/
theorem conn_b : ((List.range 6).all fun p => (List.range 64).all fun a => !(tb (tWALL p) a) || ((List.range 4).all fun q => (List.range 4).all fun r => (List.range 4).any fun s => (List.range 4).any fun t =>
    (decide (a + offs (4 * p + q) = a + offs (4 * p + s) ∨ (a + offs (4 * p + s) = a + offs (4 * p + q) + 8 ∨ a + offs (4 * p + q) = a + offs (4 * p + s) + 8 ∨ (a + offs (4 * p + s) = a + offs (4 * p + q) + 1 ∧ (a + offs (4 * p + q)) % 8 < 7) ∨ (a + offs (4 * p + q) = a + offs (4 * p + s) + 1 ∧ (a + offs (4 * p + s)) % 8 < 7)))) &&
    (decide (a + offs (4 * p + s) = a + offs (4 * p + t) ∨ (a + offs (4 * p + t) = a + offs (4 * p + s) + 8 ∨ a + offs (4 * p + s) = a + offs (4 * p + t) + 8 ∨ (a + offs (4 * p + t) = a + offs (4 * p + s) + 1 ∧ (a + offs (4 * p + s)) % 8 < 7) ∨ (a + offs (4 * p + s) = a + offs (4 * p + t) + 1 ∧ (a + offs (4 * p + t)) % 8 < 7)))) &&
    (decide (a + offs (4 * p + t) = a + offs (4 * p + r) ∨ (a + offs (4 * p + r) = a + offs (4 * p + t) + 8 ∨ a + offs (4 * p + t) = a + offs (4 * p + r) + 8 ∨ (a + offs (4 * p + r) = a + offs (4 * p + t) + 1 ∧ (a + offs (4 * p + t)) % 8 < 7) ∨ (a + offs (4 * p + t) = a + offs (4 * p + r) + 1 ∧ (a + offs (4 * p + r)) % 8 < 7)))))) = true := by decide +kernel
theorem conn {p a i j : Nat} (hp : p < 6) (ha : a < 64) (hw : tb (tWALL p) a = true) (h1 : cel p a i) (h2 : cel p a j) : ∃ k l, cel p a k ∧ cel p a l ∧ (i = k ∨ adj i k) ∧ (k = l ∨ adj k l) ∧ (l = j ∨ adj l j) := by
  obtain ⟨q, hq, rfl⟩ := h1
  obtain ⟨r, hr, rfl⟩ := h2
  have b := List.all_eq_true.mp (List.all_eq_true.mp conn_b p (List.mem_range.mpr hp)) a (List.mem_range.mpr ha)
  rw [hw] at b
  simp only [Bool.not_true, Bool.false_or] at b
  have b := List.all_eq_true.mp (List.all_eq_true.mp b q (List.mem_range.mpr hq)) r (List.mem_range.mpr hr)
  obtain ⟨s, hs, b⟩ := List.any_eq_true.mp b
  obtain ⟨t, ht, b⟩ := List.any_eq_true.mp b
  rw [Bool.and_eq_true, Bool.and_eq_true] at b
  have b1 := of_decide_eq_true b.1.1
  have b2 := of_decide_eq_true b.1.2
  have b3 := of_decide_eq_true b.2
  exact ⟨a + offs (4 * p + s), a + offs (4 * p + t), ⟨s, List.mem_range.mp hs, rfl⟩, ⟨t, List.mem_range.mp ht, rfl⟩, b1, b2, b3⟩
/-- a part put up where it can go -/
theorem up_PI {m : Nat} {h : Int64} {U : Nat → Int64} (d : PI m h U) {p a one : Nat} (hp : p < 6) (ha : a < 64) (ho : one < m) (hc : tb (fX3_places (nI p) (h ||| uni U m)) a = true) : PI m h (vp_updL U one (U one ||| fX3_cellsOf (nI p) (nI a))) := by
  have hw := places_wall hp ha hc
  obtain ⟨-, k2, k3⟩ := (canP_places (h ||| uni U m) hp ha).mpr hc
  rw [(partAt_c p hp a ha).1 hw] at k2 k3
  generalize hC : fX3_cellsOf (nI p) (nI a) = C at *
  have nU : ∀ q i, q < m → i < 64 → tb C i = true → ¬ tb (U q) i = true := fun q i hq hi e1 e2 => k2 i hi e1 (by rw [tb_or, Bool.or_eq_true, uni_tb]; exact Or.inr ⟨q, hq, e2⟩)
  have nh : ∀ i, i < 64 → tb C i = true → ¬ tb h i = true := fun i hi e1 e2 => k2 i hi e1 (sub_h h _ i hi e2)
  have tU : ∀ q i, tb (vp_updL U one (U one ||| C) q) i = true ↔ tb (U q) i = true ∨ (q = one ∧ tb C i = true) := by
    intro q i
    by_cases e : q = one
    · subst e
      rw [uL_s, tb_or, Bool.or_eq_true]
      exact ⟨fun g => g.elim Or.inl (fun g => Or.inr ⟨rfl, g⟩), fun g => g.elim Or.inl (fun g => Or.inr g.2)⟩
    · rw [uL_n _ _ e]
      exact ⟨Or.inl, fun g => g.elim id (fun g => absurd g.1 e)⟩
  generalize vp_updL U one (U one ||| C) = V at *
  have oo : sub (h ||| uni U m) (h ||| uni V m) := by
    intro i hi e
    rw [tb_or, Bool.or_eq_true, uni_tb] at e ⊢
    rcases e with e | ⟨q, hq, e⟩
    · exact Or.inl e
    · exact Or.inr ⟨q, hq, (tU q i).mpr (Or.inl e)⟩
  have Co : sub C (h ||| uni V m) := fun i _ e => by rw [tb_or, Bool.or_eq_true, uni_tb]; exact Or.inr ⟨one, ho, (tU one i).mpr (Or.inr ⟨rfl, e⟩)⟩
  have fx := fix64 (h ||| uni V m) h
  have mon := stN_mono (x := h) oo 64
  have own : sub (h ||| uni U m) (stN (h ||| uni V m) 64 h) := by
    intro i hi e
    rw [tb_or, Bool.or_eq_true, uni_tb] at e
    rcases e with e | ⟨q, hq, e⟩
    · exact sub_stN _ _ _ i hi e
    · exact mon i hi (d.2 q hq i hi e)
  generalize hK : stN (h ||| uni V m) 64 h = K at *
  have nb : ∀ i j, i < 64 → j < 64 → tb K i = true → (i = j ∨ adj i j) → tb C j = true → tb K j = true := by
    intro i j hi hj e1 e2 e3
    rcases e2 with rfl | e2
    · exact e1
    · rw [← fx]
      exact (stp_iff hj).mpr (Or.inr ⟨Co j hj e3, i, hi, e1, e2⟩)
  have allC : sub C K := by
    intro j hj ej
    obtain ⟨i0, j0, hi0, hj0, g1, g2, g3⟩ := k3
    have t0 := nb j0 i0 hj0 hi0 (own j0 hj0 g2) (Or.inr (adj_symm g3)) g1
    have cj : cel p a j := (cells_tb hp ha hj hw).mp (by rw [hC]; exact ej)
    have ci : cel p a i0 := (cells_tb hp ha hi0 hw).mp (by rw [hC]; exact g1)
    obtain ⟨k, l, ck, cl, e1, e2, e3⟩ := conn hp ha hw ci cj
    have hk := cel_lt hp ha hw ck
    have hl := cel_lt hp ha hw cl
    have tk' : tb C k = true := by rw [← hC]; exact (cells_tb hp ha hk hw).mpr ck
    have tl' : tb C l = true := by rw [← hC]; exact (cells_tb hp ha hl hw).mpr cl
    exact nb l j hl hj (nb k l hk hl (nb i0 k hi0 hk t0 e1 tk') e2 tl') e3 ej
  refine ⟨⟨fun q r i hq hr hne hi e1 e2 => ?_, fun q i hq hi e1 e2 => ?_⟩, fun q hq i hi e => ?_⟩
  · rcases (tU q i).mp e1 with e1 | ⟨rfl, e1⟩
    · rcases (tU r i).mp e2 with e2 | ⟨rfl, e2⟩
      · exact d.1.1 q r i hq hr hne hi e1 e2
      · exact nU q i hq hi e2 e1
    · rcases (tU r i).mp e2 with e2 | ⟨rfl, e2⟩
      · exact nU r i hr hi e1 e2
      · exact hne rfl
  · rcases (tU q i).mp e1 with e1 | ⟨rfl, e1⟩
    · exact d.1.2 q i hq hi e1 e2
    · exact nh i hi e1 e2
  · rw [hK]
    rcases (tU q i).mp e with e | ⟨rfl, e⟩
    · exact mon i hi (d.2 q hq i hi e)
    · exact allC i hi e
end

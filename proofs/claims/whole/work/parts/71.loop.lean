section
/-! the grammar, side by side: loops -/
theorem wr_at {r : OS} (h4 : r.1 4 = nI (cs r)) (hc : cs r < 160) (x : Int32) : cs (fX0_write r x) = cs r + 1 ∧ (∀ i, i < cs r → (fX0_write r x).2.2.1 2 i = r.2.2.1 2 i) ∧ (fX0_write r x).2.2.1 2 (cs r) = x := by
  obtain ⟨_, ⟨c, e⟩ | ⟨c, e⟩⟩ := wr h4 (by omega) x
  · rw [e]
    refine ⟨cs_put _ (by omega), fun i hi => ?_, ?_⟩
    · show (va_up r.2.2.1 2 (upd (r.2.2.1 2) (cs r) x)) 2 i = _
      rw [up_s, ud_n _ _ (by omega)]
    · show (va_up r.2.2.1 2 (upd (r.2.2.1 2) (cs r) x)) 2 (cs r) = _
      rw [up_s, ud_s]
  · omega
theorem post_bin {n : Nat} {B : Nat → Nat} (hn : n ≤ 160) (hB : ∀ i, B i < 256) {f : Nat} (hf : f ≤ 800) {lev : Nat} {G1 : OS → Prop} {F1 : OS → OS} {H : OS → Prop} {A : OS → Int32 × OS} (h : NT n B f lev G1 F1 H A) {ρ0 σ0 ρ σ : OS} {v : Int32} (hp : Post n B f lev ρ0 σ0 ρ v σ) (h0 : ρ0.1 10 = -1 → cs ρ0 ≤ pl ρ0) (ht : tk ρ < 21) (x u : Int32) (hx : ∀ st, ex1 (nms σ0) x ((A (fX6_next σ)).1 :: v :: st) = u :: st) :
    gX0_step ρ ∧ gX6_next σ ∧ G1 (fX0_step ρ) ∧ H (fX6_next σ) ∧ gX0_write (F1 (fX0_step ρ)) x ∧ Post n B f lev ρ0 σ0 (fX0_write (F1 (fX0_step ρ)) x) u (A (fX6_next σ)).2 ∧ ((fX0_write (F1 (fX0_step ρ)) x).1 10 = -1 → pl ρ < pl (fX0_write (F1 (fX0_step ρ)) x)) := by
  obtain ⟨hs, hpf, h3, hg⟩ := hp
  have hG := hs.tok (by omega)
  obtain ⟨q1, q2, q3, q4, q5⟩ := hg hG.1
  obtain ⟨a1, a2, a3, a4, a5, a6, a7⟩ := sim_adv hn hB hf hs.1 hG ht
  have c0 := h0 q1.1
  obtain ⟨b1, b2, s1, p1, r3, hg1⟩ := h (fX0_step ρ) (fX6_next σ) ⟨a3, Or.inr a4⟩ (fun _ => by rw [a6.cs]; omega)
  obtain ⟨w1, w2, w3, w4, w5, w6, w7⟩ := wr_base s1.1 x
  have ecs := a6.cs
  have e2 := a6.2
  refine ⟨a1, a2, b1, b2, w1, ⟨⟨w2, s1.2.elim (fun b => Or.inl (w5 b)) (fun g => Or.inr (w4 lev g))⟩, hpf.trans (a7.pf.trans p1), w3.trans (r3.trans (by rw [e2]; exact h3)), fun h10 => ?_⟩, fun h10 => ?_⟩
  · rw [w6] at h10
    obtain ⟨g1, g2, g3, g4, g5⟩ := hg1 h10
    have hr := (s1.good hn h10).2.2.2.2.1
    rw [ecs] at g2 g3 g4 g5
    obtain ⟨e1, e2', e3⟩ := wr_at s1.1.2.2.1 (by omega) x
    have k4 : ∀ j, j < cs ρ → (fX0_write (F1 (fX0_step ρ)) x).2.2.1 2 j = ρ.2.2.1 2 j := fun j hj => (e2' j (by omega)).trans ((g4 j hj).trans (by rw [e2]))
    refine ⟨q1, by omega, by rw [w7]; omega, fun i hi => (k4 i (by omega)).trans (q4 i hi), ?_⟩
    rw [e1]
    refine Ev.bin (b := cs ρ) (by omega) (by omega) (q5.cong (fun j _ h2 => k4 j h2)) ((g5.cong (fun j _ h2 => e2' j (by omega))).nm (fun j hj => ((hpf.trans a7.pf).nm j hj).symm)) (fun st => ?_)
    rw [e3]; exact hx st
  · rw [w6] at h10
    obtain ⟨g1, g2, g3, g4, g5⟩ := hg1 h10
    rw [w7]
    rw [ecs] at g2 g3
    omega
theorem nt_loop {n : Nat} {B : Nat → Nat} (hn : n ≤ 160) (hB : ∀ i, B i < 256) {f : Nat} (hf : f ≤ 800) {lev : Nat} {G1 : OS → Prop} {F1 : OS → OS} {H : OS → Prop} {A : OS → Int32 × OS} (h : NT n B f lev G1 F1 H A) (op : Nat → Bool) (hop : ∀ k, op k = true → k < 21) (it : Nat → Int32) (fn : Nat → Int32 → Int32 → Int32) (hx : ∀ k, op k = true → ∀ (N : Nat → Int32) (v w : Int32) (st : List Int32), ex1 N (it k) (w :: v :: st) = fn k v w :: st)
    {bC : (OS × Int32 → OS) → OS × Int32 → OS} {kC : (OS × Int32 → Prop) → OS × Int32 → Prop} {bR : (OS × Int32 → Int32 × OS) → OS × Int32 → Int32 × OS} {kK : (OS × Int32 → Prop) → OS × Int32 → Prop}
    (c0 : ∀ (kR : OS × Int32 → OS) (kO : OS × Int32 → Prop) (ρ : OS) (t : Int32), ρ.1 6 = nI (tk ρ) → tk ρ ≤ 22 → op (tk ρ) = false → bC kR (ρ, t) = ρ ∧ kC kO (ρ, t))
    (c1 : ∀ (kR : OS × Int32 → OS) (kO : OS × Int32 → Prop) (ρ : OS) (t : Nat), ρ.1 6 = nI (tk ρ) → op (tk ρ) = true → t < 160 → gX0_step ρ → G1 (fX0_step ρ) → gX0_write (F1 (fX0_step ρ)) (it (tk ρ)) → kO (fX0_write (F1 (fX0_step ρ)) (it (tk ρ)), nI (t + 1)) → kC kO (ρ, nI t) ∧ bC kR (ρ, nI t) = kR (fX0_write (F1 (fX0_step ρ)) (it (tk ρ)), nI (t + 1)))
    (r0 : ∀ (kR : OS × Int32 → Int32 × OS) (kO : OS × Int32 → Prop) (ρ σ : OS) (v : Int32), TKF ρ σ → op (tk ρ) = false → bR kR (σ, v) = (v, σ) ∧ kK kO (σ, v))
    (r1 : ∀ (kR : OS × Int32 → Int32 × OS) (kO : OS × Int32 → Prop) (ρ σ : OS) (v : Int32), TKF ρ σ → GTK ρ σ → op (tk ρ) = true → gX6_next σ → H (fX6_next σ) → kO ((A (fX6_next σ)).2, fn (tk ρ) v (A (fX6_next σ)).1) → kK kO (σ, v) ∧ bR kR (σ, v) = kR ((A (fX6_next σ)).2, fn (tk ρ) v (A (fX6_next σ)).1)) :
    NT n B f lev (fun ρ => G1 ρ ∧ lpOk kC fu (F1 ρ, 0)) (fun ρ => lp o0 bC fu (F1 ρ, 0)) (fun σ => H σ ∧ lpOk kK fu ((A σ).2, (A σ).1)) (fun σ => lp (0, o0) bR fu ((A σ).2, (A σ).1)) := by
  intro ρ0 σ0 hs h0
  obtain ⟨g1, g2, hp⟩ := h ρ0 σ0 hs h0
  have L := lp_two (d := o0) (body := bC) (ok := kC) (d' := ((0 : Int32), o0)) (body' := bR) (ok' := kK)
    (fun m x y => ∃ t : Nat, x.2 = nI t ∧ Post n B f lev ρ0 σ0 x.1 y.2 y.1 ∧ (x.1.1 10 = -1 → t ≤ pl x.1 ∧ n + 1 - pl x.1 ≤ m))
    (fun r s => Post n B f lev ρ0 σ0 r s.1 s.2) (by
      rintro m ⟨ρ, t'⟩ ⟨σ, v⟩ ⟨t, ht, hp, hb⟩ kR kO kR' kO' hk
      have ht : t' = nI t := ht
      subst ht
      have hp : Post n B f lev ρ0 σ0 ρ v σ := hp
      have hb : ρ.1 10 = -1 → t ≤ pl ρ ∧ n + 1 - pl ρ ≤ m := hb
      have hT := hp.1.1.2.2.2.2
      cases eo : op (tk ρ) with
      | false =>
        obtain ⟨x1, x2⟩ := c0 kR kO ρ (nI t) hT.1 hT.2.1 eo
        obtain ⟨y1, y2⟩ := r0 kR' kO' ρ σ v hT eo
        refine ⟨x2, y2, ?_⟩
        rw [x1, y1]; exact hp
      | true =>
        have h21 := hop _ eo
        have hG := hp.1.tok (by omega)
        obtain ⟨e, -, -, z1, z2⟩ := hG.2.2.2.2.2.2.2.1 (by omega)
        have z1 := z1 h21
        obtain ⟨t1, t2⟩ := hb hG.1
        obtain ⟨p1, p2, p3, p4, p5, p6, p7⟩ := post_bin hn hB hf h hp h0 h21 (it (tk ρ)) (fn (tk ρ) v (A (fX6_next σ)).1) (hx _ eo _ _ _)
        have K := hk (m - 1) (fX0_write (F1 (fX0_step ρ)) (it (tk ρ)), nI (t + 1)) ((A (fX6_next σ)).2, fn (tk ρ) v (A (fX6_next σ)).1) (by omega) ⟨t + 1, rfl, p6, fun h10 => by have := p7 h10; show t + 1 ≤ pl (fX0_write (F1 (fX0_step ρ)) (it (tk ρ))) ∧ n + 1 - pl (fX0_write (F1 (fX0_step ρ)) (it (tk ρ))) ≤ m - 1; omega⟩
        obtain ⟨x1, x2⟩ := c1 kR kO ρ t hT.1 eo (by omega) p1 p3 p5 K.1
        obtain ⟨y1, y2⟩ := r1 kR' kO' ρ σ v hT hG.2.2.2.2.2.2.2.2 eo p2 p4 K.2.1
        refine ⟨x1, y1, ?_⟩
        rw [x2, y2]; exact K.2.2) fu fu (n + 1) (F1 ρ0, 0) ((A σ0).2, (A σ0).1) ⟨0, rfl, hp, fun _ => ⟨Nat.zero_le _, by show n + 1 - pl (F1 ρ0) ≤ n + 1; omega⟩⟩ (by show n + 1 < 1000; omega) (by show n + 1 < 1000; omega)
  exact ⟨⟨g1, L.1⟩, ⟨g2, L.2.1⟩, L.2.2⟩
theorem ex1_j {N : Nat → Int32} {it tkn : Int32} (h1 : it < 0) (h2 : it ^^^ (-1) = tkn) (h3 : fX0_isName tkn = 0) (h4 : ¬ tkn = 5) (h5 : ¬ tkn = 23) (w v : Int32) (st : List Int32) : ex1 N it (w :: v :: st) = fX2_joined tkn v w :: st := by
  unfold ex1
  rw [if_pos h1, h2, if_pos h3]
  show (if tkn = 5 then _ else if tkn = 23 then _ else _) = _
  rw [if_neg h4, if_neg h5]
theorem ex1_u {N : Nat → Int32} {it : Int32} (h1 : it < 0) (v : Int32) (st : List Int32) : (it ^^^ (-1) = 5 → ex1 N it (v :: st) = (if v = 0 then 1 else 0) :: st) ∧ (it ^^^ (-1) = 23 → ex1 N it (v :: st) = (-v) :: st) := by
  unfold ex1
  constructor
  · intro h2
    rw [if_pos h1, h2, if_pos (by decide)]
    show (if (5 : Int32) = 5 then _ else _) = _
    rw [if_pos rfl]
  · intro h2
    rw [if_pos h1, h2, if_pos (by decide)]
    show (if (23 : Int32) = 5 then _ else if (23 : Int32) = 23 then _ else _) = _
    rw [if_neg (by decide), if_pos rfl]
theorem tk_ne {ρ : OS} (h : ρ.1 6 = nI (tk ρ)) (h22 : tk ρ ≤ 22) {k : Nat} (hk : k < 100) (hne : ¬ tk ρ = k) : ¬ ρ.1 6 = nI k := by rw [h]; exact nI_ne hne (by omega) (by omega)
/-- terms -/
def bT (A : OS → Int32 × OS) (kR : OS × Int32 → Int32 × OS) (v : OS × Int32) : Int32 × OS := if fX6_isSign v.1 42 = 0 then (v.2, v.1) else kR ((A (fX6_next v.1)).2, v.2 * (A (fX6_next v.1)).1)
def kT (A : OS → Int32 × OS) (H : OS → Prop) (kO : OS × Int32 → Prop) (v : OS × Int32) : Prop := (fX6_isSign v.1 42 = 0 → True) ∧ (¬ fX6_isSign v.1 42 = 0 → gX6_next v.1 ∧ (H (fX6_next v.1) ∧ kO ((A (fX6_next v.1)).2, v.2 * (A (fX6_next v.1)).1)))
theorem nt_term {n : Nat} {B : Nat → Nat} (hn : n ≤ 160) (hB : ∀ i, B i < 256) {f : Nat} (hf : f ≤ 800) {lev : Nat} {G1 : OS → Prop} {F1 : OS → OS} {H : OS → Prop} {A : OS → Int32 × OS} (h : NT n B f lev G1 F1 H A) : NT n B f lev (gX0_readTerm F1 G1) (fX0_readTerm F1) (fun σ => H σ ∧ lpOk (kT A H) fu ((A σ).2, (A σ).1)) (fun σ => lp (0, o0) (bT A) fu ((A σ).2, (A σ).1)) := by
  refine nt_loop (bC := bX0_readTerm_6 F1) (kC := kX0_readTerm_6 F1 G1) hn hB hf h (fun k => decide (k = 17)) (fun k hk => by have := of_decide_eq_true hk; omega) (fun _ => -18) (fun _ v w => v * w) (fun k _ N v w st => ?_) ?_ ?_ ?_ ?_
  · exact ex1_j (it := -18) (tkn := 17) (by decide) (by decide) (by decide) (by decide) (by decide) w v st
  · intro kR kO ρ t h6 h22 ho
    have hne : ¬ ρ.1 6 = 17 := tk_ne h6 h22 (k := 17) (by decide) (of_decide_eq_false ho)
    unfold bX0_readTerm_6 kX0_readTerm_6
    simp only [↓reduceIte, not_true_eq_false, not_false_eq_true, false_implies, true_implies, implies_true, true_and, and_true, and_self, eq_self, Bool.false_eq_true, hne, ite_self]
  · intro kR kO ρ t h6 ho ht g1 g2 g3 g4
    have e6 : ρ.1 6 = 17 := by rw [h6, of_decide_eq_true ho]; rfl
    have c : ¬ (160 : Int32) ≤ nI t := nI_ge (b := 160) ht (by decide)
    unfold bX0_readTerm_6 kX0_readTerm_6
    simp only [↓reduceIte, not_true_eq_false, not_false_eq_true, false_implies, true_implies, implies_true, true_and, and_true, and_self, eq_self, Bool.false_eq_true, e6, c, g1]
    unfold oX0_readTerm_26 oX0_readTerm_30 oX0_readTerm_36 pX0_readTerm_26 pX0_readTerm_30 pX0_readTerm_36
    rw [nI_1]
    exact ⟨⟨g2, g3, g4⟩, rfl⟩
  · intro kR kO ρ σ v hT ho
    have e : fX6_isSign σ 42 = if tk ρ = 17 then 1 else 0 := hT.2.2.1 5 (by decide)
    rw [if_neg (of_decide_eq_false ho)] at e
    unfold bT kT
    simp only [↓reduceIte, not_true_eq_false, not_false_eq_true, false_implies, true_implies, implies_true, true_and, and_true, and_self, eq_self, Bool.false_eq_true, e]
  · intro kR kO ρ σ v hT hG ho g1 g2 g3
    have e : fX6_isSign σ 42 = if tk ρ = 17 then 1 else 0 := hT.2.2.1 5 (by decide)
    rw [if_pos (of_decide_eq_true ho)] at e
    unfold bT kT
    simp only [↓reduceIte, not_true_eq_false, not_false_eq_true, false_implies, true_implies, implies_true, true_and, and_true, and_self, eq_self, Bool.false_eq_true, e, one_ne, g1, g2]
    exact g3
/-- sums -/
def cS (A : OS → Int32 × OS) (kR : OS × Int32 → Int32 × OS) (σ : OS) (v b : Int32) : Int32 × OS := if b = 0 then kR ((A (fX6_next σ)).2, v - (A (fX6_next σ)).1) else kR ((A (fX6_next σ)).2, v + (A (fX6_next σ)).1)
def eS (A : OS → Int32 × OS) (kR : OS × Int32 → Int32 × OS) (σ : OS) (v : Int32) : Int32 × OS := if σ.2.1 24 = 43 then cS A kR σ v 1 else cS A kR σ v 0
def bS (A : OS → Int32 × OS) (kR : OS × Int32 → Int32 × OS) (v : OS × Int32) : Int32 × OS := if fX6_isSign v.1 43 = 0 then if fX6_isSign v.1 45 = 0 then (v.2, v.1) else eS A kR v.1 v.2 else eS A kR v.1 v.2
def dS (A : OS → Int32 × OS) (H : OS → Prop) (kO : OS × Int32 → Prop) (σ : OS) (v b : Int32) : Prop := gX6_next σ ∧ (H (fX6_next σ) ∧ ((b = 0 → kO ((A (fX6_next σ)).2, v - (A (fX6_next σ)).1)) ∧ (¬ b = 0 → kO ((A (fX6_next σ)).2, v + (A (fX6_next σ)).1))))
def iS (A : OS → Int32 × OS) (H : OS → Prop) (kO : OS × Int32 → Prop) (σ : OS) (v : Int32) : Prop := (σ.2.1 24 = 43 → dS A H kO σ v 1) ∧ (¬ σ.2.1 24 = 43 → dS A H kO σ v 0)
def kS (A : OS → Int32 × OS) (H : OS → Prop) (kO : OS × Int32 → Prop) (v : OS × Int32) : Prop := (fX6_isSign v.1 43 = 0 → (fX6_isSign v.1 45 = 0 → True) ∧ (¬ fX6_isSign v.1 45 = 0 → iS A H kO v.1 v.2)) ∧ (¬ fX6_isSign v.1 43 = 0 → iS A H kO v.1 v.2)
theorem nt_sum {n : Nat} {B : Nat → Nat} (hn : n ≤ 160) (hB : ∀ i, B i < 256) {f : Nat} (hf : f ≤ 800) {lev : Nat} {G1 : OS → Prop} {F1 : OS → OS} {H : OS → Prop} {A : OS → Int32 × OS} (h : NT n B f lev G1 F1 H A) : NT n B f lev (gX0_readSum F1 G1) (fX0_readSum F1) (fun σ => H σ ∧ lpOk (kS A H) fu ((A σ).2, (A σ).1)) (fun σ => lp (0, o0) (bS A) fu ((A σ).2, (A σ).1)) := by
  refine nt_loop (bC := bX0_readSum_6 F1) (kC := kX0_readSum_6 F1 G1) hn hB hf h (fun k => decide (k = 15 ∨ k = 16)) (fun k hk => by have := of_decide_eq_true hk; omega) (fun k => nI k ^^^ (-1)) (fun k v w => if k = 15 then v + w else v - w) (fun k hk N v w st => ?_) ?_ ?_ ?_ ?_
  · rcases of_decide_eq_true hk with rfl | rfl
    · exact ex1_j (tkn := 15) (by decide) (by decide) (by decide) (by decide) (by decide) w v st
    · exact ex1_j (tkn := 16) (by decide) (by decide) (by decide) (by decide) (by decide) w v st
  · intro kR kO ρ t h6 h22 ho
    have ho := of_decide_eq_false ho
    have hne : ¬ ρ.1 6 = 15 := tk_ne h6 h22 (k := 15) (by decide) (fun h => ho (Or.inl h))
    have hne2 : ¬ ρ.1 6 = 16 := tk_ne h6 h22 (k := 16) (by decide) (fun h => ho (Or.inr h))
    unfold bX0_readSum_6 kX0_readSum_6
    simp only [↓reduceIte, not_true_eq_false, not_false_eq_true, false_implies, true_implies, implies_true, true_and, and_true, and_self, eq_self, Bool.false_eq_true, hne, hne2, ite_self]
  · intro kR kO ρ t h6 ho ht g1 g2 g3 g4
    have c : ¬ (160 : Int32) ≤ nI t := nI_ge (b := 160) ht (by decide)
    have key : oX0_readSum_31 F1 G1 kO ρ (nI t) ∧ pX0_readSum_31 F1 kR ρ (nI t) = kR (fX0_write (F1 (fX0_step ρ)) (nI (tk ρ) ^^^ (-1)), nI (t + 1)) := by
      unfold oX0_readSum_31 oX0_readSum_40 oX0_readSum_44 oX0_readSum_51 pX0_readSum_31 pX0_readSum_40 pX0_readSum_44 pX0_readSum_51
      rw [nI_1, h6]
      exact ⟨⟨g1, g2, g3, g4⟩, rfl⟩
    unfold bX0_readSum_6 kX0_readSum_6
    rcases of_decide_eq_true ho with e | e
    · have e6 : ρ.1 6 = 15 := by rw [h6, e]; rfl
      simp only [↓reduceIte, not_true_eq_false, not_false_eq_true, false_implies, true_implies, implies_true, true_and, and_true, and_self, eq_self, Bool.false_eq_true, e6, c]
      exact key
    · have e6 : ρ.1 6 = 16 := by rw [h6, e]; rfl
      have e7 : ¬ (16 : Int32) = 15 := by decide
      simp only [↓reduceIte, not_true_eq_false, not_false_eq_true, false_implies, true_implies, implies_true, true_and, and_true, and_self, eq_self, Bool.false_eq_true, e6, c, e7]
      exact key
  · intro kR kO ρ σ v hT ho
    have ho := of_decide_eq_false ho
    have e : fX6_isSign σ 43 = if tk ρ = 15 then 1 else 0 := hT.2.2.1 3 (by decide)
    have e2 : fX6_isSign σ 45 = if tk ρ = 16 then 1 else 0 := hT.2.2.1 4 (by decide)
    rw [if_neg (fun h => ho (Or.inl h))] at e
    rw [if_neg (fun h => ho (Or.inr h))] at e2
    unfold bS kS
    simp only [↓reduceIte, not_true_eq_false, not_false_eq_true, false_implies, true_implies, implies_true, true_and, and_true, and_self, eq_self, Bool.false_eq_true, e, e2]
  · intro kR kO ρ σ v hT hG ho g1 g2 g3
    have e : fX6_isSign σ 43 = if tk ρ = 15 then 1 else 0 := hT.2.2.1 3 (by decide)
    have e2 : fX6_isSign σ 45 = if tk ρ = 16 then 1 else 0 := hT.2.2.1 4 (by decide)
    unfold bS kS
    rcases of_decide_eq_true ho with c | c
    · rw [if_pos c] at e
      have w : σ.2.1 24 = 43 := hG.2.2.2.2.2 3 (by decide) c
      rw [if_pos c] at g3
      simp only [↓reduceIte, not_true_eq_false, not_false_eq_true, false_implies, true_implies, implies_true, true_and, and_true, and_self, eq_self, Bool.false_eq_true, e, one_ne]
      unfold iS eS dS cS
      rw [if_pos c]
      simp only [↓reduceIte, not_true_eq_false, not_false_eq_true, false_implies, true_implies, implies_true, true_and, and_true, and_self, eq_self, Bool.false_eq_true, w, g1, g2, one_ne]
      exact g3
    · have c15 : ¬ tk ρ = 15 := by omega
      rw [if_neg c15] at e
      rw [if_pos c] at e2
      have w : σ.2.1 24 = 45 := hG.2.2.2.2.2 4 (by decide) c
      have w2 : ¬ (45 : Int64) = 43 := by decide
      rw [if_neg c15] at g3
      simp only [↓reduceIte, not_true_eq_false, not_false_eq_true, false_implies, true_implies, implies_true, true_and, and_true, and_self, eq_self, Bool.false_eq_true, e, e2, one_ne]
      unfold iS eS dS cS
      rw [if_neg c15]
      simp only [↓reduceIte, not_true_eq_false, not_false_eq_true, false_implies, true_implies, implies_true, true_and, and_true, and_self, eq_self, Bool.false_eq_true, w, w2, g1, g2]
      exact g3
/-- both -/
def cB (A : OS → Int32 × OS) (kR : OS × Int32 → Int32 × OS) (σ : OS) (v : Int32) : Int32 × OS := if v = 0 then kR ((A σ).2, 0) else if (A σ).1 = 0 then kR ((A σ).2, 0) else kR ((A σ).2, 1)
def bB (A : OS → Int32 × OS) (kR : OS × Int32 → Int32 × OS) (v : OS × Int32) : Int32 × OS := if fX6_isWord v.1 97 110 100 0 0 0 0 0 = 0 then (v.2, v.1) else cB A kR (fX6_next v.1) v.2
def dB (A : OS → Int32 × OS) (kO : OS × Int32 → Prop) (σ : OS) (v : Int32) : Prop := (v = 0 → kO ((A σ).2, 0)) ∧ (¬ v = 0 → ((A σ).1 = 0 → kO ((A σ).2, 0)) ∧ (¬ (A σ).1 = 0 → kO ((A σ).2, 1)))
def kB (A : OS → Int32 × OS) (H : OS → Prop) (kO : OS × Int32 → Prop) (v : OS × Int32) : Prop := gX6_isWord v.1 97 110 100 0 0 0 0 0 ∧ ((fX6_isWord v.1 97 110 100 0 0 0 0 0 = 0 → True) ∧ (¬ fX6_isWord v.1 97 110 100 0 0 0 0 0 = 0 → gX6_next v.1 ∧ (H (fX6_next v.1) ∧ dB A kO (fX6_next v.1) v.2)))
theorem nt_both {n : Nat} {B : Nat → Nat} (hn : n ≤ 160) (hB : ∀ i, B i < 256) {f : Nat} (hf : f ≤ 800) {lev : Nat} {G1 : OS → Prop} {F1 : OS → OS} {H : OS → Prop} {A : OS → Int32 × OS} (h : NT n B f lev G1 F1 H A) : NT n B f lev (gX0_readBoth F1 G1) (fX0_readBoth F1) (fun σ => H σ ∧ lpOk (kB A H) fu ((A σ).2, (A σ).1)) (fun σ => lp (0, o0) (bB A) fu ((A σ).2, (A σ).1)) := by
  refine nt_loop (bC := bX0_readBoth_6 F1) (kC := kX0_readBoth_6 F1 G1) hn hB hf h (fun k => decide (k = 4)) (fun k hk => by have := of_decide_eq_true hk; omega) (fun _ => -5) (fun _ v w => if v = 0 then 0 else if w = 0 then 0 else 1) (fun k _ N v w st => ?_) ?_ ?_ ?_ ?_
  · exact ex1_j (tkn := 4) (by decide) (by decide) (by decide) (by decide) (by decide) w v st
  · intro kR kO ρ t h6 h22 ho
    have hne : ¬ ρ.1 6 = 4 := tk_ne h6 h22 (k := 4) (by decide) (of_decide_eq_false ho)
    unfold bX0_readBoth_6 kX0_readBoth_6
    simp only [↓reduceIte, not_true_eq_false, not_false_eq_true, false_implies, true_implies, implies_true, true_and, and_true, and_self, eq_self, Bool.false_eq_true, hne, ite_self]
  · intro kR kO ρ t h6 ho ht g1 g2 g3 g4
    have e6 : ρ.1 6 = 4 := by rw [h6, of_decide_eq_true ho]; rfl
    have c : ¬ (160 : Int32) ≤ nI t := nI_ge (b := 160) ht (by decide)
    unfold bX0_readBoth_6 kX0_readBoth_6
    simp only [↓reduceIte, not_true_eq_false, not_false_eq_true, false_implies, true_implies, implies_true, true_and, and_true, and_self, eq_self, Bool.false_eq_true, e6, c, g1]
    unfold oX0_readBoth_25 oX0_readBoth_29 oX0_readBoth_35 pX0_readBoth_25 pX0_readBoth_29 pX0_readBoth_35
    rw [nI_1]
    exact ⟨⟨g2, g3, g4⟩, rfl⟩
  · intro kR kO ρ σ v hT ho
    obtain ⟨g, e⟩ : gX6_isWord σ 97 110 100 0 0 0 0 0 ∧ fX6_isWord σ 97 110 100 0 0 0 0 0 = if tk ρ = 4 then 1 else 0 := hT.2.2.2 4 (by decide)
    rw [if_neg (of_decide_eq_false ho)] at e
    unfold bB kB
    simp only [↓reduceIte, not_true_eq_false, not_false_eq_true, false_implies, true_implies, implies_true, true_and, and_true, and_self, eq_self, Bool.false_eq_true, e, g]
  · intro kR kO ρ σ v hT hG ho g1 g2 g3
    obtain ⟨g, e⟩ : gX6_isWord σ 97 110 100 0 0 0 0 0 ∧ fX6_isWord σ 97 110 100 0 0 0 0 0 = if tk ρ = 4 then 1 else 0 := hT.2.2.2 4 (by decide)
    rw [if_pos (of_decide_eq_true ho)] at e
    unfold bB kB
    simp only [↓reduceIte, not_true_eq_false, not_false_eq_true, false_implies, true_implies, implies_true, true_and, and_true, and_self, eq_self, Bool.false_eq_true, e, g, one_ne, g1, g2]
    unfold dB cB
    by_cases c1 : v = 0
    · simp only [↓reduceIte, not_true_eq_false, not_false_eq_true, false_implies, true_implies, implies_true, true_and, and_true, and_self, eq_self, Bool.false_eq_true, c1] at g3 ⊢
      exact g3
    · by_cases c2 : (A (fX6_next σ)).1 = 0
      · simp only [↓reduceIte, not_true_eq_false, not_false_eq_true, false_implies, true_implies, implies_true, true_and, and_true, and_self, eq_self, Bool.false_eq_true, c1, c2] at g3 ⊢
        exact g3
      · simp only [↓reduceIte, not_true_eq_false, not_false_eq_true, false_implies, true_implies, implies_true, true_and, and_true, and_self, eq_self, Bool.false_eq_true, c1, c2] at g3 ⊢
        exact g3
/-- either -/
def cE (A : OS → Int32 × OS) (kR : OS × Int32 → Int32 × OS) (σ : OS) (v : Int32) : Int32 × OS := if v = 0 then if (A σ).1 = 0 then kR ((A σ).2, 0) else kR ((A σ).2, 1) else kR ((A σ).2, 1)
def bE (A : OS → Int32 × OS) (kR : OS × Int32 → Int32 × OS) (v : OS × Int32) : Int32 × OS := if fX6_isWord v.1 111 114 0 0 0 0 0 0 = 0 then (v.2, v.1) else cE A kR (fX6_next v.1) v.2
def dE (A : OS → Int32 × OS) (kO : OS × Int32 → Prop) (σ : OS) (v : Int32) : Prop := (v = 0 → ((A σ).1 = 0 → kO ((A σ).2, 0)) ∧ (¬ (A σ).1 = 0 → kO ((A σ).2, 1))) ∧ (¬ v = 0 → kO ((A σ).2, 1))
def kE (A : OS → Int32 × OS) (H : OS → Prop) (kO : OS × Int32 → Prop) (v : OS × Int32) : Prop := gX6_isWord v.1 111 114 0 0 0 0 0 0 ∧ ((fX6_isWord v.1 111 114 0 0 0 0 0 0 = 0 → True) ∧ (¬ fX6_isWord v.1 111 114 0 0 0 0 0 0 = 0 → gX6_next v.1 ∧ (H (fX6_next v.1) ∧ dE A kO (fX6_next v.1) v.2)))
theorem nt_either {n : Nat} {B : Nat → Nat} (hn : n ≤ 160) (hB : ∀ i, B i < 256) {f : Nat} (hf : f ≤ 800) {lev : Nat} {G1 : OS → Prop} {F1 : OS → OS} {H : OS → Prop} {A : OS → Int32 × OS} (h : NT n B f lev G1 F1 H A) : NT n B f lev (gX0_readEither F1 G1) (fX0_readEither F1) (fun σ => H σ ∧ lpOk (kE A H) fu ((A σ).2, (A σ).1)) (fun σ => lp (0, o0) (bE A) fu ((A σ).2, (A σ).1)) := by
  refine nt_loop (bC := bX0_readEither_6 F1) (kC := kX0_readEither_6 F1 G1) hn hB hf h (fun k => decide (k = 3)) (fun k hk => by have := of_decide_eq_true hk; omega) (fun _ => -4) (fun _ v w => if v = 0 then if w = 0 then 0 else 1 else 1) (fun k _ N v w st => ?_) ?_ ?_ ?_ ?_
  · exact ex1_j (tkn := 3) (by decide) (by decide) (by decide) (by decide) (by decide) w v st
  · intro kR kO ρ t h6 h22 ho
    have hne : ¬ ρ.1 6 = 3 := tk_ne h6 h22 (k := 3) (by decide) (of_decide_eq_false ho)
    unfold bX0_readEither_6 kX0_readEither_6
    simp only [↓reduceIte, not_true_eq_false, not_false_eq_true, false_implies, true_implies, implies_true, true_and, and_true, and_self, eq_self, Bool.false_eq_true, hne, ite_self]
  · intro kR kO ρ t h6 ho ht g1 g2 g3 g4
    have e6 : ρ.1 6 = 3 := by rw [h6, of_decide_eq_true ho]; rfl
    have c : ¬ (160 : Int32) ≤ nI t := nI_ge (b := 160) ht (by decide)
    unfold bX0_readEither_6 kX0_readEither_6
    simp only [↓reduceIte, not_true_eq_false, not_false_eq_true, false_implies, true_implies, implies_true, true_and, and_true, and_self, eq_self, Bool.false_eq_true, e6, c, g1]
    unfold oX0_readEither_25 oX0_readEither_29 oX0_readEither_35 pX0_readEither_25 pX0_readEither_29 pX0_readEither_35
    rw [nI_1]
    exact ⟨⟨g2, g3, g4⟩, rfl⟩
  · intro kR kO ρ σ v hT ho
    obtain ⟨g, e⟩ : gX6_isWord σ 111 114 0 0 0 0 0 0 ∧ fX6_isWord σ 111 114 0 0 0 0 0 0 = if tk ρ = 3 then 1 else 0 := hT.2.2.2 3 (by decide)
    rw [if_neg (of_decide_eq_false ho)] at e
    unfold bE kE
    simp only [↓reduceIte, not_true_eq_false, not_false_eq_true, false_implies, true_implies, implies_true, true_and, and_true, and_self, eq_self, Bool.false_eq_true, e, g]
  · intro kR kO ρ σ v hT hG ho g1 g2 g3
    obtain ⟨g, e⟩ : gX6_isWord σ 111 114 0 0 0 0 0 0 ∧ fX6_isWord σ 111 114 0 0 0 0 0 0 = if tk ρ = 3 then 1 else 0 := hT.2.2.2 3 (by decide)
    rw [if_pos (of_decide_eq_true ho)] at e
    unfold bE kE
    simp only [↓reduceIte, not_true_eq_false, not_false_eq_true, false_implies, true_implies, implies_true, true_and, and_true, and_self, eq_self, Bool.false_eq_true, e, g, one_ne, g1, g2]
    unfold dE cE
    by_cases c1 : v = 0
    · by_cases c2 : (A (fX6_next σ)).1 = 0
      · simp only [↓reduceIte, not_true_eq_false, not_false_eq_true, false_implies, true_implies, implies_true, true_and, and_true, and_self, eq_self, Bool.false_eq_true, c1, c2] at g3 ⊢
        exact g3
      · simp only [↓reduceIte, not_true_eq_false, not_false_eq_true, false_implies, true_implies, implies_true, true_and, and_true, and_self, eq_self, Bool.false_eq_true, c1, c2] at g3 ⊢
        exact g3
    · simp only [↓reduceIte, not_true_eq_false, not_false_eq_true, false_implies, true_implies, implies_true, true_and, and_true, and_self, eq_self, Bool.false_eq_true, c1] at g3 ⊢
      exact g3
end

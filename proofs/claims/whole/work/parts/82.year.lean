section
/-! A YEAR, side by side -/
def YF (σ r : OS) : Prop := (∀ j, ¬ j = 7 → ¬ j = 8 → ¬ (13 ≤ j ∧ j ≤ 27) → r.1 j = σ.1 j) ∧ (∀ j, ¬ j = 24 → r.2.1 j = σ.2.1 j) ∧ (∀ k, ¬ k = 10 → r.2.2.1 k = σ.2.2.1 k) ∧ (∀ k, ¬ k = 11 → r.2.2.2 k = σ.2.2.2 k)
theorem YF.rfl' (σ : OS) : YF σ σ := ⟨fun _ _ _ _ => rfl, fun _ _ => rfl, fun _ _ => rfl, fun _ _ => rfl⟩
theorem YF.tr {σ r s : OS} (h : YF σ r) (k : YF r s) : YF σ s := ⟨fun j a b c => (k.1 j a b c).trans (h.1 j a b c), fun j a => (k.2.1 j a).trans (h.2.1 j a), fun j a => (k.2.2.1 j a).trans (h.2.2.1 j a), fun j a => (k.2.2.2 j a).trans (h.2.2.2 j a)⟩
theorem XF.yf {σ r : OS} (h : XF σ r) : YF σ r := ⟨fun j _ _ c => h.1 j c, h.2.1, fun k _ => by rw [h.2.2], fun k _ => by rw [h.2.2]⟩
theorem VF.yf {σ r : OS} (h : VF σ r) : YF σ r := ⟨fun j _ _ _ => by rw [h.1], fun j _ => by rw [h.2.1], fun k _ => by rw [h.2.2.1], h.2.2.2⟩
theorem TXR.yf {τ : TX} {σ σ' : OS} (h : TXR τ σ) (hx : YF σ σ') : TXR τ σ' := h.move (hx.1 3 (by decide) (by decide) (by decide)) (hx.2.2.1 1 (by decide)) (hx.2.2.1 2 (by decide))
/-- what is put up changed on both sides alike -/
theorem WR.drop {N m y : Nat} {w σ w' σ' : OS} (h : WR N m y w σ) (hu : UF w w') (hv : VF σ σ') {V : Nat → Int64} (h1 : ∀ p, p < m → w'.2.2.2 3 p = V p) (h2 : ∀ p, p < m → σ'.2.2.2 11 p = V p) (hP : PI m (σ.2.1 9) V) : WR N m y w' σ' := by
  obtain ⟨a1, a2, a3, a4, a5, a6, a7, a8, a9⟩ := h
  refine ⟨a1, ?_, ?_, ?_, ?_, ?_, ?_, fun p hp => (h1 p hp).trans (h2 p hp).symm, ?_⟩
  · rw [hu.1, hv.1]; exact a2
  · rw [hu.1, hv.1]; exact a3
  · rw [hu.1, hv.1]; exact a4
  · rw [hu.1, hv.1]; exact a5
  · rw [hu.2.1, hv.2.1]; exact a6
  · exact fun p hp => (a7 p hp).move (by rw [hu.2.2]) (by rw [hu.2.2]) (by rw [hu.2.2]) (by rw [hv.2.2.1])
  · rw [hv.2.1]; exact hP.cong h2
/-- a cell felled on both sides -/
theorem drop_fell {N m y : Nat} {w σ : OS} (h : WR N m y w σ) {c : Nat} (hc : c < 64) : gX4_dropCell w (nI c) ∧ gX6_felled σ (nI c) ∧ WR N m y (fX4_dropCell w (nI c)) (fX6_felled σ (nI c)).2 ∧ VF σ (fX6_felled σ (nI c)).2 ∧ UF w (fX4_dropCell w (nI c)) ∧ (∀ p, p < m → (fX6_felled σ (nI c)).2.2.2.2 11 p = dl (σ.2.1 9) m (dc c (σ.2.2.2 11)) p) ∧ (fX6_felled σ (nI c)).1 = nI (1 + fc (σ.2.1 9) m (dc c (σ.2.2.2 11))) ∧ ((∃ p, p < m ∧ tb (σ.2.2.2 11 p) c = true) → 1 + fc (σ.2.1 9) m (dc c (σ.2.2.2 11)) + pcn (uni ((fX6_felled σ (nI c)).2.2.2.2 11) m) = pcn (uni (σ.2.2.2 11) m)) := by
  obtain ⟨d1, d2, d3⟩ := dropCell_eq h.1 h.2.1.1 c
  obtain ⟨f1, f2, f3, f4⟩ := felled_eq h.1 h.2.1.2 c
  have d := h.2.2.2.2.2.2.2.2
  have dj : DJ m (dc c (σ.2.2.2 11)) (σ.2.1 9) := d.1.le (fun p _ => dc_sub c hc _ p)
  refine ⟨d1, f1, h.drop d2 f2 (fun p hp => ?_) f3 (dl_PI dj), f2, d2, f3, f4, fun hu => ?_⟩
  · rw [d3 p hp, h.2.2.2.2.2.1]
    exact dl_cong _ (fun q hq => by unfold dc; rw [h.2.2.2.2.2.2.2.1 q hq]) hp
  · rw [uni_cong f3]
    exact fell_cnt d.1 hc hu
theorem pcn_sub {x y : Int64} (h : sub x y) : pcn x ≤ pcn y := by
  by_cases e : x = y
  · rw [e]; exact Nat.le_refl _
  · exact Nat.le_of_lt (pcn_lt h e)
theorem pcn_z {x : Int64} (h : pcn x = 0) : x = 0 := by
  apply Classical.byContradiction
  intro g
  obtain ⟨i, hi, e⟩ := ne0_iff.mp g
  have := cnt_pos (n := 64) hi e
  unfold pcn at h
  omega
theorem pcn_0 : pcn 0 = 0 := cnt_zero (fun i _ => tb_0 i)
theorem fall_loop {τ : TX} {m y p : Nat} (hp : p < m) {σ0 : OS} {tot : Nat} {R R' : Type} (Q : OS → Int32 × OS → Prop) {kR2 : OS × Int32 → OS} {kO2 : OS × Int32 → Prop} {kR4 : OS × Int32 × Int32 → Int32 × OS} {kO4 : OS × Int32 × Int32 → Prop}
    (hk : ∀ w σ c, WR τ.length m y w σ → TXR τ σ → YF σ0 σ → c + pcn (uni (σ.2.2.2 11) m) = tot → kO2 (w, nI (p + 1)) ∧ kO4 (σ, nI c, nI (p + 1)) ∧ Q (kR2 (w, nI (p + 1))) (kR4 (σ, nI c, nI (p + 1))))
    {w σ : OS} {c : Nat} (h : WR τ.length m y w σ) (hT : TXR τ σ) (hY : YF σ0 σ) (hc : c + pcn (uni (σ.2.2.2 11) m) = tot) :
    lpOk (kX4_passYear_58 τ (nI p) kO2) fu (w, 0) ∧ lpOk (kX6_passes_71 (nI p) kO4) fu (σ, nI c) ∧ Q (lp o0 (bX4_passYear_58 τ (nI p) kR2) fu (w, 0)) (lp (0, o0) (bX6_passes_71 (nI p) kR4) fu (σ, nI c)) := by
  have hp64 := pcn_le (σ.2.2.2 11 p)
  refine lp_two (d := o0) (body := bX4_passYear_58 τ (nI p) kR2) (ok := kX4_passYear_58 τ (nI p) kO2) (d' := ((0 : Int32), o0)) (body' := bX6_passes_71 (nI p) kR4) (ok' := kX6_passes_71 (nI p) kO4)
    (fun k x z => ∃ (w σ : OS) (t c : Nat), x = (w, nI t) ∧ z = (σ, nI c) ∧ WR τ.length m y w σ ∧ TXR τ σ ∧ YF σ0 σ ∧ c + pcn (uni (σ.2.2.2 11) m) = tot ∧ pcn (σ.2.2.2 11 p) = k ∧ t + k ≤ 64) Q ?_ fu fu (pcn (σ.2.2.2 11 p)) (w, 0) (σ, nI c) ⟨w, σ, 0, c, rfl, rfl, h, hT, hY, hc, rfl, by omega⟩ (by show _ < 1000; omega) (by show _ < 1000; omega)
  clear h hT hY hc hp64
  rintro k x z ⟨w, σ, t, c, rfl, rfl, h, hT, hY, hc, hpk, htk⟩ kR kO kR' kO' hh
  have m5 := h.1
  have pc : (nI p).toNatClampNeg = p := nI_clamp (by omega)
  have vp5 : vp_in (nI p) 5 := vp_in_nI (by omega) (by decide)
  have e8 := h.2.2.2.2.2.2.2.1 p hp
  obtain ⟨g1, g2, wf, xf, x, hx, e1, e2⟩ := holds_eq h hT hp
  have h' := h.move wf xf
  have hr' := h.move (WF.rfl' w) xf
  unfold bX4_passYear_58 kX4_passYear_58 bX6_passes_71 kX6_passes_71
  simp only [pc, nI_1]
  have R1 : (fX6_holdsOf σ (nI p)).2.2.2 = σ.2.2 := xf.2.2
  have out : kO2 (w, nI (p + 1)) ∧ kO4 ((fX6_holdsOf σ (nI p)).2, nI c, nI (p + 1)) ∧ Q (kR2 (w, nI (p + 1))) (kR4 ((fX6_holdsOf σ (nI p)).2, nI c, nI (p + 1))) := hk w _ c hr' (hT.xf xf) (hY.tr xf.yf) (by rw [R1]; exact hc)
  have out2 : kO2 ((fX4_holds τ w (nI p)).2, nI (p + 1)) ∧ kO4 ((fX6_holdsOf σ (nI p)).2, nI c, nI (p + 1)) ∧ Q (kR2 ((fX4_holds τ w (nI p)).2, nI (p + 1))) (kR4 ((fX6_holdsOf σ (nI p)).2, nI c, nI (p + 1))) := hk _ _ c h' (hT.xf xf) (hY.tr xf.yf) (by rw [R1]; exact hc)
  unfold oX4_passYear_111 pX4_passYear_111 oX4_passYear_90 pX4_passYear_90 oX4_passYear_105 pX4_passYear_105 pX4_passYear_111 oX4_passYear_111 oX6_passes_85 pX6_passes_85 oX6_passes_102 pX6_passes_102
  rw [e8, bitCount_eq, (bitsOf_eq _).1, hpk, e1, e2]
  simp only [nI_1, (bitsOf_eq _).2, vp5, g1, g2, pc]
  by_cases z0 : k = 0
  · have u0 : σ.2.2.2 11 p = 0 := pcn_z (by omega)
    subst z0
    have c2 : nI 0 ≤ nI x := nI_le (by omega) (by omega)
    by_cases c64 : (64 : Int32) ≤ nI t
    · simp only [↓reduceIte, not_true_eq_false, not_false_eq_true, false_implies, true_implies, implies_true, true_and, and_true, and_self, eq_self, Bool.false_eq_true, c64, c2, out.1, out.2.1]
      exact out.2.2
    · simp only [↓reduceIte, not_true_eq_false, not_false_eq_true, false_implies, true_implies, implies_true, true_and, and_true, and_self, eq_self, Bool.false_eq_true, c64, u0, c2, out.1, out.2.1]
      exact out.2.2
  · have c64 : ¬ (64 : Int32) ≤ nI t := nI_ge (b := 64) (by omega) (by omega)
    have u0 : ¬ σ.2.2.2 11 p = 0 := fun e => by rw [e, pcn_0] at hpk; omega
    by_cases cx : k ≤ x
    · have c2 : nI k ≤ nI x := nI_le cx (by omega)
      have c3 : ¬ nI x < nI k := nI_nlt cx (by omega)
      simp only [↓reduceIte, not_true_eq_false, not_false_eq_true, false_implies, true_implies, implies_true, true_and, and_true, and_self, eq_self, Bool.false_eq_true, c64, u0, c2, c3, out2.1, out2.2.1]
      exact out2.2.2
    · have c2 : ¬ nI k ≤ nI x := nI_ge (by omega) (by omega)
      have c3 : nI x < nI k := nI_lt (by omega) (by omega)
      obtain ⟨g, hg⟩ := top_ex u0
      obtain ⟨d1, d2, d3, d4, d5, d6, d7, d8⟩ := drop_fell h' hg.1
      have eH : fX4_highestCell (fX4_holds τ w (nI p)).2 (nI p) = nI g := by
        unfold fX4_highestCell pX4_highestCell_0
        rw [pc, wf.2.2.2, e8, hi_eq hg]
      have gH : gX4_highestCell (fX4_holds τ w (nI p)).2 (nI p) := vp5
      have eG : fX6_greatest ((fX6_holdsOf σ (nI p)).2.2.2.2 11 p) = nI g := by rw [R1]; exact (gr_eq hg).1
      have gG : gX6_greatest ((fX6_holdsOf σ (nI p)).2.2.2.2 11 p) := by rw [R1]; exact (gr_eq hg).2
      have tg : tb ((fX6_holdsOf σ (nI p)).2.2.2.2 11 p) g = true := by rw [R1]; exact hg.2.1
      have d8 := d8 ⟨p, hp, tg⟩
      have hlt : pcn ((fX6_felled (fX6_holdsOf σ (nI p)).2 (nI g)).2.2.2.2 11 p) < k := by
        rw [d6 p hp, ← hpk]
        have a := pcn_sub (dl_sub ((fX6_holdsOf σ (nI p)).2.2.1 9) m (dc g ((fX6_holdsOf σ (nI p)).2.2.2.2 11)) p)
        have b := dc_pcn hg.1 tg
        rw [R1] at a b ⊢
        omega
      have K := hh _ (fX4_dropCell (fX4_holds τ w (nI p)).2 (nI g), nI (t + 1)) ((fX6_felled (fX6_holdsOf σ (nI p)).2 (nI g)).2, nI (c + (1 + fc ((fX6_holdsOf σ (nI p)).2.2.1 9) m (dc g ((fX6_holdsOf σ (nI p)).2.2.2.2 11))))) hlt ⟨_, _, t + 1, _, rfl, rfl, d3, (hT.xf xf).yf d4.yf, (hY.tr xf.yf).tr d4.yf, by rw [R1] at d8 ⊢; omega, rfl, by omega⟩
      simp only [↓reduceIte, not_true_eq_false, not_false_eq_true, false_implies, true_implies, implies_true, true_and, and_true, and_self, eq_self, Bool.false_eq_true, c64, u0, c2, c3, eH, gH, eG, gG, d1, d2, d7, nI_add, K.1, K.2.1]
      exact K.2.2
theorem WR.pay {N m y : Nat} {w σ : OS} (h : WR N m y w σ) {p : Nat} (hp : p < m) {f q : Nat} (hf : f ≤ 99) (hq : q ≤ 99999) : WR N m y (oI (oS w 2 p (nI f)) 6 (nI q)) (oI (oS σ 10 (3 * p + 1) (nI f)) 8 (nI q)) := by
  obtain ⟨a1, a2, a3, a4, a5, a6, a7, a8, a9⟩ := h
  refine ⟨a1, a2, a3, ⟨q, hq, rfl, rfl⟩, a5, a6, fun r hr => ?_, a8, a9⟩
  obtain ⟨k, u, f', hk, hu, hf', b1, b2, b3⟩ := a7 r hr
  have e0 : (oI (oS w 2 p (nI f)) 6 (nI q)).2.2.1 0 = w.2.2.1 0 := rfl
  have e1 : (oI (oS w 2 p (nI f)) 6 (nI q)).2.2.1 1 = w.2.2.1 1 := rfl
  have e2 : (oI (oS w 2 p (nI f)) 6 (nI q)).2.2.1 2 = upd (w.2.2.1 2) p (nI f) := oS_row w 2 p (nI f)
  have e3 : (oI (oS σ 10 (3 * p + 1) (nI f)) 8 (nI q)).2.2.1 10 = upd (σ.2.2.1 10) (3 * p + 1) (nI f) := oS_row σ 10 _ _
  unfold RW
  rw [e0, e1, e2, e3]
  by_cases e : r = p
  · subst e
    exact ⟨k, u, f, hk, hu, hf, ⟨b1.1, (ud_n _ _ (by omega)).trans b1.2⟩, ⟨b2.1, (ud_n _ _ (by omega)).trans b2.2⟩, ud_s _ _ _, ud_s _ _ _⟩
  · exact ⟨k, u, f', hk, hu, hf', ⟨b1.1, (ud_n _ _ (by omega)).trans b1.2⟩, ⟨b2.1, (ud_n _ _ (by omega)).trans b2.2⟩, (ud_n _ _ e).trans b3.1, (ud_n _ _ (by omega)).trans b3.2⟩
theorem pass_sim {τ : TX} {m y : Nat} {w σ : OS} (h : WR τ.length m y w σ) (hT : TXR τ σ) (hy : y < 2 ^ 20) :
    gX4_passYear τ w ∧ gX6_passes σ ∧ WR τ.length m (y + 1) (fX4_passYear τ w) (fX6_passes σ).2 ∧ TXR τ (fX6_passes σ).2 ∧ YF σ (fX6_passes σ).2 ∧ ∃ c, (fX6_passes σ).1 = nI c ∧ c + pcn (uni ((fX6_passes σ).2.2.2.2 11) m) = pcn (uni (σ.2.2.2 11) m) := by
  have m5 := h.1
  refine lp_two (d := o0) (body := bX4_passYear_2 τ) (ok := kX4_passYear_2 τ) (d' := ((0 : Int32), o0)) (body' := bX6_passes_4) (ok' := kX6_passes_4)
    (fun k x z => ∃ (w' σ' : OS) (t c : Nat), x = (w', nI t) ∧ z = (σ', nI c, nI t) ∧ t + k = m ∧ WR τ.length m y w' σ' ∧ TXR τ σ' ∧ YF σ σ' ∧ c + pcn (uni (σ'.2.2.2 11) m) = pcn (uni (σ.2.2.2 11) m))
    (fun r s => WR τ.length m (y + 1) r s.2 ∧ TXR τ s.2 ∧ YF σ s.2 ∧ ∃ c, s.1 = nI c ∧ c + pcn (uni (s.2.2.2.2 11) m) = pcn (uni (σ.2.2.2 11) m)) ?_ fu fu m (w, 0) (σ, 0, 0) ⟨w, σ, 0, 0, rfl, rfl, by omega, h, hT, YF.rfl' σ, by omega⟩ (by show m < 1000; omega) (by show m < 1000; omega)
  clear hT
  rintro k x z ⟨w', σ', t, c, rfl, rfl, htk, h', hT, hY, hc⟩ kR kO kR' kO' hk
  unfold bX4_passYear_2 kX4_passYear_2 bX6_passes_4 kX6_passes_4
  rw [h'.2.1.1, h'.2.1.2]
  simp only []
  by_cases e0 : t < m
  · have c1 : ¬ nI m ≤ nI t := nI_ge e0 (by omega)
    have tc : (nI t).toNatClampNeg = t := nI_clamp (by omega)
    have vt : vp_in (nI t) 5 := vp_in_nI (by omega) (by decide)
    obtain ⟨t1, t2, t3, t4, t5, t6, t7, t8, t9⟩ := three (p := t) (by omega)
    obtain ⟨f1, f2, f3, f4, l, hl, f5, f6⟩ := fades_eq h' hT (by omega) e0
    have h1 := h'.move f3 f4
    have hT1 := hT.xf f4
    generalize hF : fX4_fades τ w' (nI t) = F at *
    generalize hG : fX6_fadesOf σ' (nI t) = G at *
    obtain ⟨g1, g2, g3, g4, x, hx, g5, g6⟩ := costs_eq h1 hT1 e0
    have h2 := h1.move g3 g4
    have hT2 := hT1.xf g4
    generalize hC : fX4_costs τ F.2 (nI t) = C at *
    generalize hD : fX6_costsOf G.2 (nI t) = D at *
    obtain ⟨ku, uu, fr, -, -, hfr, -, -, ⟨b3, b3'⟩⟩ := h2.2.2.2.2.2.2.1 t e0
    obtain ⟨q, hq, q1, q2⟩ := h2.2.2.2.1
    have ln := less_n fr hfr l hl
    have pd1 : jmin 99999 (nI q + nI x) = nI (min 99999 (q + x)) := by rw [nI_add]; exact jmin_n (a := 99999) (by decide) (by omega)
    have pd2 : fX6_within (nI q + nI x) 0 99999 = nI (min 99999 (q + x)) := by
      rw [nI_add]
      have := win_n (b := q + x) (M := 99999) (by omega) (by decide)
      rw [Nat.min_comm] at this
      exact this
    have h3 := h2.pay e0 (f := fr - l) (q := min 99999 (q + x)) (by omega) (by omega)
    have yp : YF D.2 (oI (oS D.2 10 (3 * t + 1) (nI (fr - l))) 8 (nI (min 99999 (q + x)))) := ⟨fun j _ a _ => oI_n _ _ a, fun _ _ => rfl, fun k a => up_n _ _ a, fun _ _ => rfl⟩
    have hT3 : TXR τ (oI (oS D.2 10 (3 * t + 1) (nI (fr - l))) 8 (nI (min 99999 (q + x)))) := hT2.yf yp
    have inner := fall_loop (τ := τ) (m := m) (y := y) (p := t) (R := OS) (R' := OS) (σ0 := σ) (tot := pcn (uni (σ.2.2.2 11) m)) e0 (fun r s => WR τ.length m (y + 1) r s.2 ∧ TXR τ s.2 ∧ YF σ s.2 ∧ ∃ c, s.1 = nI c ∧ c + pcn (uni (s.2.2.2.2 11) m) = pcn (uni (σ.2.2.2 11) m)) (kR2 := kR) (kO2 := kO) (kR4 := kR') (kO4 := kO')
      (fun w σ1 c1 k1 k2 k3 k4 => hk (k - 1) (w, nI (t + 1)) (σ1, nI c1, nI (t + 1)) (by omega) ⟨w, σ1, t + 1, c1, rfl, rfl, by omega, k1, k2, k3, k4⟩)
      h3 hT3 (((hY.tr f4.yf).tr g4.yf).tr yp) (c := c) (by
        show c + pcn (uni (D.2.2.2.2 11) m) = _
        rw [g4.2.2, f4.2.2]; exact hc)
    unfold oX4_passYear_15 pX4_passYear_15 oX4_passYear_21 pX4_passYear_21 oX6_passes_17 pX6_passes_17 oX6_passes_23 pX6_passes_23
    have k6 : ∀ z, (oS C.2 2 t z).1 6 = C.2.1 6 := fun _ => rfl
    have k8 : ∀ z, (oS D.2 10 (3 * t + 1) z).1 8 = D.2.1 8 := fun _ => rfl
    simp only [hF, hG, hC, hD, tc, t5, f5, f6, g5, g6, b3, b3', ln.1, ln.2, k6, k8, q1, q2, pd1, pd2]
    simp only [↓reduceIte, not_true_eq_false, not_false_eq_true, false_implies, true_implies, implies_true, true_and, and_true, and_self, eq_self, Bool.false_eq_true, c1, f1, f2, g1, g2, vt, t8, inner.1, inner.2.1]
    exact inner.2.2
  · have c1 : nI m ≤ nI t := nI_le (by omega) (by omega)
    simp only [↓reduceIte, not_true_eq_false, not_false_eq_true, false_implies, true_implies, implies_true, true_and, and_true, and_self, eq_self, Bool.false_eq_true, c1]
    refine ⟨?_, hT.yf ⟨fun j a _ _ => oI_n _ _ a, fun _ _ => rfl, fun _ _ => rfl, fun _ _ => rfl⟩, hY.tr ⟨fun j a _ _ => oI_n _ _ a, fun _ _ => rfl, fun _ _ => rfl, fun _ _ => rfl⟩, c, rfl, hc⟩
    obtain ⟨a1, a2, a3, a4, a5, a6, a7, a8, a9⟩ := h'
    refine ⟨a1, a2, ⟨?_, ?_⟩, a4, a5, a6, a7, a8, a9⟩
    · rw [oI_s, a3.1, nI_1]
    · rw [oI_s, a3.2, nI_1]
end

/-! the highest cell; lowest terms -/
def top (x : Int64) (g : Nat) : Prop := g < 64 ∧ tb x g = true ∧ ∀ i, g < i → i < 64 → tb x i = false
theorem top_ex {x : Int64} (h : ¬ x = 0) : ∃ g, top x g := by
  obtain ⟨i, hi, ht⟩ := ne0_iff.mp h
  have key : ∀ n, ∀ i, i < 64 → 64 - i ≤ n → tb x i = true → ∃ g, top x g := by
    intro n
    induction n with
    | zero => intro i hi hn; omega
    | succ n ih =>
      intro i hi hn ht
      by_cases e : ∃ j, i < j ∧ j < 64 ∧ tb x j = true
      · obtain ⟨j, h1, h2, h3⟩ := e
        exact ih j h2 (by omega) h3
      · exact ⟨i, hi, ht, fun j h1 h2 => bfF.mpr (fun h3 => e ⟨j, h1, h2, h3⟩)⟩
  exact key 64 i hi (by omega) ht
theorem gr_eq {x : Int64} {g : Nat} (h : top x g) : fX6_greatest x = nI g ∧ gX6_greatest x := by
  refine lp_run (d := (0 : Int32)) (body := bX6_greatest_4 x) (ok := kX6_greatest_4 x) (fun m v r => ∃ t f, v = (f, nI t) ∧ t + m = 64 ∧ r = nI g ∧ (g < t → f = nI g)) ?_ fu 64 ((-1), 0) _ ⟨0, -1, rfl, rfl, rfl, fun h => absurd h (by omega)⟩ (by decide)
  rintro m v r ⟨t, f, rfl, htm, rfl, hf⟩ kR kO hk
  unfold bX6_greatest_4 kX6_greatest_4 pX6_greatest_23 oX6_greatest_23
  cases m with
  | zero =>
    have c : (64 : Int32) ≤ nI t := nI_le (a := 64) (by omega) (by omega)
    exact ⟨(if_pos c).trans (hf (by have := h.1; omega)), fun _ => trivial, fun h => absurd c h⟩
  | succ m =>
    have c : ¬ (64 : Int32) ≤ nI t := nI_ge (b := 64) (by omega) (by omega)
    simp only [has6 x (c := t) (by omega), nI_1]
    by_cases e : tb x t = true
    · have hh := hk m (nI t, nI (t + 1)) (nI g) (by omega) ⟨t + 1, nI t, rfl, by omega, rfl, fun h1 => by
        by_cases e2 : t = g
        · rw [e2]
        · rw [h.2.2 t (by omega) (by omega)] at e; cases e⟩
      refine ⟨?_, fun h => absurd h c, fun _ => ⟨fun h => ?_, fun _ => hh.2⟩⟩
      · rw [if_neg c, if_neg (by rw [if_pos e]; decide)]; exact hh.1
      · rw [if_pos e] at h; exact absurd h (by decide)
    · have hh := hk m (f, nI (t + 1)) (nI g) (by omega) ⟨t + 1, f, rfl, by omega, rfl, fun h1 => by
        by_cases e2 : t = g
        · rw [e2] at e; exact absurd h.2.1 e
        · exact hf (by omega)⟩
      refine ⟨?_, fun h => absurd h c, fun _ => ⟨fun _ => hh.2, fun h => ?_⟩⟩
      · rw [if_neg c, if_pos (by rw [if_neg e])]; exact hh.1
      · rw [if_neg e] at h; exact absurd rfl h
theorem ui_c : ∀ k, k < 32 → ((nI k).toUInt32 &&& Int32.toUInt32 31) = UInt32.ofNat k := by decide +kernel
theorem ji_shr {n k : Nat} (hn : n < 2 ^ 32) (hk : k < 32) : jiushr (nI n) (nI k) = nI (n / 2 ^ k) := by
  unfold jiushr
  rw [ui_c k hk]
  apply Int32.toBitVec_inj.mp
  apply BitVec.eq_of_toNat_eq
  show ((nI n).toUInt32 >>> UInt32.ofNat k).toNat = (BitVec.ofNat 32 (n / 2 ^ k)).toNat
  have h1 : (UInt32.ofNat k).toNat = k := by
    show (BitVec.ofNat 32 k).toNat = k
    rw [BitVec.toNat_ofNat, Nat.mod_eq_of_lt (by omega)]
  have h2 : (nI n).toUInt32.toNat = n := by
    show (BitVec.ofNat 32 n).toNat = n
    rw [BitVec.toNat_ofNat, Nat.mod_eq_of_lt hn]
  rw [UInt32.toNat_shiftRight, h1, h2, Nat.mod_eq_of_lt hk, Nat.shiftRight_eq_div_pow, BitVec.toNat_ofNat, Nat.mod_eq_of_lt (Nat.lt_of_le_of_lt (Nat.div_le_self _ _) hn)]
def lgb (n g : Nat) : Prop := 2 ^ g ≤ n ∧ n < 2 ^ (g + 1)
theorem lgb_dv {n g k : Nat} (h : lgb n (g + k)) : lgb (n / 2 ^ k) g := by
  have hp : 0 < 2 ^ k := Nat.two_pow_pos k
  refine ⟨(Nat.le_div_iff_mul_le hp).mpr ?_, (Nat.div_lt_iff_lt_mul hp).mpr ?_⟩
  · rw [← Nat.pow_add]; exact h.1
  · rw [← Nat.pow_add, show g + 1 + k = g + k + 1 by omega]; exact h.2
theorem lgb_lt {n g k : Nat} (h : lgb n g) : n < 2 ^ k ↔ g < k := by
  constructor
  · intro h1
    exact (Nat.pow_lt_pow_iff_right (by decide : 1 < 2)).mp (Nat.lt_of_le_of_lt h.1 h1)
  · intro h1
    exact Nat.lt_of_lt_of_le h.2 (Nat.pow_le_pow_right (by decide) (by omega))
theorem nz73 {n g b : Nat} (h : lgb n g) (hg : g < 2) (hb : g ≤ b) (hb2 : b < 32) : pJ6_numberOfLeadingZeros_0f7a4_73 (nI n) (nI b) = nI (b - g) := by
  have hn : n < 4 := (lgb_lt (k := 2) h).mpr hg
  unfold pJ6_numberOfLeadingZeros_0f7a4_73
  have sh : jiushr (nI n) 1 = nI (n / 2 ^ 1) := ji_shr (k := 1) (by omega) (by decide)
  have e : n / 2 ^ 1 = g := by
    have h1 := h.1
    have h2 := h.2
    have : g = 0 ∨ g = 1 := by omega
    rcases this with rfl | rfl
    · omega
    · omega
  rw [sh, e, pk_sub hb]
theorem nz_sb {b k : Nat} (h : k ≤ b) : nI b + (-(nI k)) = nI (b - k) := by rw [← Int32.sub_eq_add_neg, pk_sub h]
theorem nz61 {n g b : Nat} (h : lgb n g) (hg : g < 4) (hb : g ≤ b) (hb2 : b < 32) : pJ6_numberOfLeadingZeros_0f7a4_61 (nI n) (nI b) = nI (b - g) := by
  have hn : n < 16 := (lgb_lt (k := 4) h).mpr hg
  unfold pJ6_numberOfLeadingZeros_0f7a4_61
  by_cases e : g < 2
  · have hn2 : n < 4 := (lgb_lt (k := 2) h).mpr e
    have c : nI n < 4 := nI_lt (b := 4) hn2 (by omega)
    rw [if_pos c]
    exact nz73 h e hb hb2
  · have hn2 : ¬ n < 4 := fun g2 => e ((lgb_lt (k := 2) h).mp g2)
    have c : ¬ nI n < 4 := nI_nlt (b := 4) (a := n) (by omega) (by omega)
    have sh : jiushr (nI n) 2 = nI (n / 2 ^ 2) := ji_shr (k := 2) (by omega) (by decide)
    have sb : nI b + (-2) = nI (b - 2) := nz_sb (k := 2) (by omega)
    rw [if_neg c, sh, sb, nz73 (g := g - 2) (lgb_dv (by rw [show g - 2 + 2 = g by omega]; exact h)) (by omega) (by omega) (by omega)]
    congr 1; omega
theorem nz48 {n g b : Nat} (h : lgb n g) (hg : g < 8) (hb : g ≤ b) (hb2 : b < 32) : pJ6_numberOfLeadingZeros_0f7a4_48 (nI n) (nI b) = nI (b - g) := by
  have hn : n < 256 := (lgb_lt (k := 8) h).mpr hg
  unfold pJ6_numberOfLeadingZeros_0f7a4_48
  by_cases e : g < 4
  · have hn2 : n < 16 := (lgb_lt (k := 4) h).mpr e
    have c : nI n < 16 := nI_lt (b := 16) hn2 (by omega)
    rw [if_pos c]
    exact nz61 h e hb hb2
  · have hn2 : ¬ n < 16 := fun g2 => e ((lgb_lt (k := 4) h).mp g2)
    have c : ¬ nI n < 16 := nI_nlt (b := 16) (a := n) (by omega) (by omega)
    have sh : jiushr (nI n) 4 = nI (n / 2 ^ 4) := ji_shr (k := 4) (by omega) (by decide)
    have sb : nI b + (-4) = nI (b - 4) := nz_sb (k := 4) (by omega)
    rw [if_neg c, sh, sb, nz61 (g := g - 4) (lgb_dv (by rw [show g - 4 + 4 = g by omega]; exact h)) (by omega) (by omega) (by omega)]
    congr 1; omega
theorem nz33 {n g b : Nat} (h : lgb n g) (hg : g < 16) (hb : g ≤ b) (hb2 : b < 32) : pJ6_numberOfLeadingZeros_0f7a4_33 (nI n) (nI b) = nI (b - g) := by
  have hn : n < 65536 := (lgb_lt (k := 16) h).mpr hg
  unfold pJ6_numberOfLeadingZeros_0f7a4_33
  by_cases e : g < 8
  · have hn2 : n < 256 := (lgb_lt (k := 8) h).mpr e
    have c : nI n < 256 := nI_lt (b := 256) hn2 (by omega)
    rw [if_pos c]
    exact nz48 h e hb hb2
  · have hn2 : ¬ n < 256 := fun g2 => e ((lgb_lt (k := 8) h).mp g2)
    have c : ¬ nI n < 256 := nI_nlt (b := 256) (a := n) (by omega) (by omega)
    have sh : jiushr (nI n) 8 = nI (n / 2 ^ 8) := ji_shr (k := 8) (by omega) (by decide)
    have sb : nI b + (-8) = nI (b - 8) := nz_sb (k := 8) (by omega)
    rw [if_neg c, sh, sb, nz48 (g := g - 8) (lgb_dv (by rw [show g - 8 + 8 = g by omega]; exact h)) (by omega) (by omega) (by omega)]
    congr 1; omega
theorem nz0 {n g : Nat} (h : lgb n g) (hg : g < 32) : fJ6_numberOfLeadingZeros_0f7a4 (nI n) = nI (31 - g) := by
  have hn : n < 2 ^ 32 := (lgb_lt (k := 32) h).mpr hg
  have h1 : 1 ≤ n := Nat.le_trans (Nat.one_le_two_pow) h.1
  unfold fJ6_numberOfLeadingZeros_0f7a4 pJ6_numberOfLeadingZeros_0f7a4_0
  by_cases e : g = 31
  · subst e
    have hneg : (nI n).toInt < 0 := by
      show (BitVec.ofNat 32 n).toInt < 0
      have := h.1
      rw [BitVec.toInt_eq_toNat_cond, BitVec.toNat_ofNat, Nat.mod_eq_of_lt hn, if_neg (by omega)]
      omega
    have c1 : ¬ (0 : Int32) < nI n := by rw [i32_lt]; show ¬ (0 : Int) < _; omega
    have c2 : ¬ nI n = 0 := fun g2 => by rw [g2] at hneg; exact absurd hneg (by decide)
    rw [if_neg c1, if_neg c2]; rfl
  · have hn2 : n < 2 ^ 31 := (lgb_lt (k := 31) h).mpr (by omega)
    have c1 : (0 : Int32) < nI n := nI_lt (a := 0) (by omega) hn2
    rw [if_pos c1]
    by_cases e2 : g < 16
    · have hn3 : n < 65536 := (lgb_lt (k := 16) h).mpr e2
      have c : nI n < 65536 := nI_lt (b := 65536) hn3 (by omega)
      rw [if_pos c]
      exact nz33 (b := 31) h e2 (by omega) (by omega)
    · have hn3 : ¬ n < 65536 := fun g2 => e2 ((lgb_lt (k := 16) h).mp g2)
      have c : ¬ nI n < 65536 := nI_nlt (b := 65536) (a := n) (by omega) (by omega)
      have sh : jiushr (nI n) 16 = nI (n / 2 ^ 16) := ji_shr (k := 16) (by omega) (by decide)
      rw [if_neg c, sh, show (31 : Int32) + (-16) = nI 15 from by decide, nz33 (g := g - 16) (b := 15) (lgb_dv (by rw [show g - 16 + 16 = g by omega]; exact h)) (by omega) (by omega) (by omega)]
      congr 1; omega
theorem top_lgb {n g : Nat} (hn : n < 2 ^ 64) (h : top (lN n) g) : lgb n g := by
  obtain ⟨h1, h2, h3⟩ := h
  rw [tb_nat, uq_tn hn] at h2
  refine ⟨Nat.ge_two_pow_of_testBit h2, ?_⟩
  apply Nat.lt_pow_two_of_testBit
  intro i hi
  by_cases e : i < 64
  · have := h3 i (by omega) e
    rwa [tb_nat, uq_tn hn] at this
  · exact Nat.testBit_lt_two_pow (Nat.lt_of_lt_of_le hn (Nat.pow_le_pow_right (by decide) (by omega)))
theorem hi_eq {x : Int64} {g : Nat} (h : top x g) : (63 : Int32) - fJ13_numberOfLeadingZeros_95d88 x = nI g := by
  obtain ⟨n, hn, rfl⟩ := uq_of x
  have hl := top_lgb hn h
  have hg := h.1
  have sh : jushr (lN n) 32 = lN (n / 2 ^ 32) := uq_shr (k := 32) hn (by decide)
  unfold fJ13_numberOfLeadingZeros_95d88 pJ13_numberOfLeadingZeros_95d88_0
  rw [sh, lN_i, lN_i]
  have hd : n / 2 ^ 32 < 2 ^ 32 := by omega
  by_cases e : g < 32
  · have hn2 : n < 2 ^ 32 := (lgb_lt (k := 32) hl).mpr e
    rw [Nat.div_eq_of_lt hn2, if_pos nI_0, nz0 hl e]
    have e2 : (32 : Int32) + nI (31 - g) = nI (63 - g) := by
      rw [show (32 : Int32) = nI 32 from rfl, nI_add]; congr 1; omega
    rw [e2]
    exact (pk_sub (a := 63) (b := 63 - g) (by omega)).trans (by congr 1; omega)
  · have hl2 : lgb (n / 2 ^ 32) (g - 32) := lgb_dv (by rw [show g - 32 + 32 = g by omega]; exact hl)
    have hz : ¬ nI (n / 2 ^ 32) = 0 := by
      intro g2
      have := congrArg (fun z : Int32 => z.toBitVec.toNat) g2
      have e3 : (BitVec.ofNat 32 (n / 2 ^ 32)).toNat = 0 := this
      rw [BitVec.toNat_ofNat, Nat.mod_eq_of_lt hd] at e3
      have := hl2.1
      have : 1 ≤ 2 ^ (g - 32) := Nat.one_le_two_pow
      omega
    rw [if_neg hz, nz0 hl2 (by omega)]
    exact (pk_sub (a := 63) (b := 31 - (g - 32)) (by omega)).trans (by congr 1; omega)

/-! reading: bytes, words, signs -/
theorem lp_one {V R : Type} {d : R} {body : (V → R) → V → R} {ok : (V → Prop) → V → Prop} (I : Nat → V → Prop) (Q : R → Prop) (h : ∀ m v, I m v → ∀ (kR : V → R) (kO : V → Prop), (∀ m' w, m' < m → I m' w → kO w ∧ Q (kR w)) → ok kO v ∧ Q (body kR v)) : ∀ (n m : Nat) (v : V), I m v → m < n → lpOk ok n v ∧ Q (lp d body n v)
  | 0, _, _, _, hn => absurd hn (by omega)
  | n + 1, m, v, hI, hn => h m v hI (lp d body n) (lpOk ok n) (fun m' w hm hI' => lp_one I Q h n m' w hI' (by omega))
/-- from h on as long as it holds, at most so far -/
def runF (P : Nat → Bool) : Nat → Nat → Nat
  | 0, h => h
  | m + 1, h => if P h then runF P m (h + 1) else h
def runN (P : Nat → Bool) (n h : Nat) : Nat := runF P (n - h) h
theorem runN_end (P : Nat → Bool) {n h : Nat} (e : n ≤ h) : runN P n h = h := by
  unfold runN; rw [Nat.sub_eq_zero_of_le e]; rfl
theorem runN_no {P : Nat → Bool} {n h : Nat} (e : P h = false) : runN P n h = h := by
  unfold runN
  cases n - h with
  | zero => rfl
  | succ m => show (if P h then _ else _) = _; rw [e]; rfl
theorem runN_yes {P : Nat → Bool} {n h : Nat} (hn : h < n) (e : P h = true) : runN P n h = runN P n (h + 1) := by
  unfold runN
  rw [show n - h = (n - (h + 1)) + 1 by omega]
  show (if P h then _ else _) = _
  rw [e]; rfl
theorem runN_b (P : Nat → Bool) (n : Nat) : ∀ (m h : Nat), n - h = m → h ≤ n → h ≤ runN P n h ∧ runN P n h ≤ n ∧ (∀ i, h ≤ i → i < runN P n h → P i = true) ∧ (runN P n h < n → P (runN P n h) = false)
  | 0, h, hm, hh => by
    rw [runN_end P (by omega)]
    exact ⟨by omega, by omega, fun i h1 h2 => by omega, fun h1 => by omega⟩
  | m + 1, h, hm, hh => by
    cases e : P h with
    | false =>
      rw [runN_no e]
      exact ⟨by omega, by omega, fun i h1 h2 => by omega, fun _ => e⟩
    | true =>
      rw [runN_yes (by omega) e]
      obtain ⟨a, b, c, d⟩ := runN_b P n m (h + 1) (by omega) (by omega)
      refine ⟨by omega, b, fun i h1 h2 => ?_, d⟩
      by_cases e2 : i = h
      · rw [e2]; exact e
      · exact c i (by omega) h2
def isBl (k : Nat) : Bool := decide (k = 32) || decide (k = 10)
def isLe (k : Nat) : Bool := decide (97 ≤ k) && decide (k ≤ 122)
def isDi (k : Nat) : Bool := decide (48 ≤ k) && decide (k ≤ 57)
/-- which sign -/
def sgl : List Nat := [40, 41, 59, 43, 45, 42, 60, 61]
def sgi (k : Nat) : Nat := sgl.findIdx (fun x => x == k)
theorem by_bl : ∀ k, k < 256 → (fX0_isBlank (nI k) = if isBl k then 1 else 0) ∧ ((nI k = 32 ∨ nI k = 10) ↔ isBl k = true) := by decide +kernel
theorem by_le : ∀ k, k < 256 → (fX0_isLetter (nI k) = if isLe k then 1 else 0) ∧ (fX6_in (nI k).toInt64 97 122 = if isLe k then 1 else 0) := by decide +kernel
theorem by_di : ∀ k, k < 256 → (fX0_isDigit (nI k) = if isDi k then 1 else 0) ∧ (fX6_in (nI k).toInt64 48 57 = if isDi k then 1 else 0) := by decide +kernel
set_option maxRecDepth 100000 in
theorem by_sg : ∀ k, k < 256 → fJ0_indexOf_0f7a4_s1 (((nI k).toUInt32 % 65536).toInt32) = if sgi k < 8 then nI (sgi k) else -1 := by decide +kernel
theorem sg_list : ∀ i, i < 8 → sgi (sgl.getD i 0) = i := by decide
theorem sg_get : ∀ k, k < 256 → sgi k < 8 → sgl.getD (sgi k) 0 = k := by decide +kernel
theorem sg_or : ∀ k, k < 256 → (sgi k < 8 ↔ nI k = 40 ∨ nI k = 41 ∨ nI k = 59 ∨ nI k = 43 ∨ nI k = 45 ∨ nI k = 42 ∨ nI k = 60 ∨ nI k = 61) := by decide +kernel
/-- the words -/
def wdl : List (List Nat) := [[104, 111, 108, 100, 115], [102, 97, 100, 101, 115], [99, 111, 115, 116, 115], [111, 114], [97, 110, 100], [110, 111, 116], [102, 105, 114, 109], [110, 117, 109, 98, 101, 114], [121, 101, 97, 114], [112, 97, 114, 116, 115], [104, 105, 103, 104], [112, 97, 105, 100]]
/-- the letter at a place, 0 where there is none -/
def wd (w i : Nat) : Nat := (wdl.getD w []).getD i 0
set_option maxRecDepth 100000 in
theorem ch_at : ∀ w, w < 12 → ∀ i, i < 6 → fJ0_charAt_5068e_s0 (6 * nI w + nI i) = nI (if wd w i = 0 then 32 else wd w i) := by decide +kernel
theorem wd_le : ∀ w, w < 12 → ∀ i, i < 8 → (wd w i = 0 ∨ isLe (wd w i) = true) := by decide +kernel
theorem wd_67 : ∀ w, w < 12 → wd w 6 = 0 ∧ wd w 7 = 0 := by decide +kernel
theorem wd_inj : ∀ w, w < 12 → ∀ v, v < 12 → (∀ i, i < 6 → wd w i = wd v i) → w = v := by decide +kernel
/-- the bytes from a to e spell the word -/
def SP (B : Nat → Nat) (a e w : Nat) : Prop := e ≤ a + 6 ∧ ∀ i, i < 6 → wd w i = if a + i < e then B (a + i) else 0
theorem SP_uniq {B : Nat → Nat} {a e w v : Nat} (hw : w < 12) (hv : v < 12) (h1 : SP B a e w) (h2 : SP B a e v) : w = v := wd_inj w hw v hv (fun i hi => by rw [h1.2 i hi, h2.2 i hi])
theorem nI_inj256 {a b : Nat} (ha : a < 256) (hb : b < 256) : nI a = nI b ↔ a = b := nI_eq (by omega) (by omega)
/-- a reader's text; the reference's -/
def Rst (n : Nat) (B : Nat → Nat) (ρ : OS) : Prop := ρ.1 0 = nI n ∧ ∀ i, i < n → ρ.2.2.1 1 i = nI (B i)
def Sst (n : Nat) (B : Nat → Nat) (f : Nat) (σ : OS) : Prop := σ.1 20 = nI n ∧ σ.1 19 = nI f ∧ ∀ i, i < n → σ.2.2.1 1 (f + i) = nI (B i)
theorem byteAt_eq {n : Nat} {B : Nat → Nat} {f : Nat} {σ : OS} (hS : Sst n B f σ) (hn : n ≤ 160) (hf : f ≤ 800) {i : Nat} (hi : i ≤ 500) : gX6_byteAt σ (nI i) ∧ fX6_byteAt σ (nI i) = if i < n then nI (B i) else -1 := by
  unfold gX6_byteAt oX6_byteAt_0 fX6_byteAt pX6_byteAt_0
  rw [hS.1, hS.2.1, nI_add]
  by_cases e : i < n
  · have c : ¬ nI n ≤ nI i := nI_ge e (by omega)
    rw [if_neg c, if_pos e, nI_clamp (by omega), hS.2.2 i e]
    exact ⟨⟨fun h => absurd h c, fun _ => vp_in_nI (by omega) (by omega)⟩, rfl⟩
  · have c : nI n ≤ nI i := nI_le (by omega) (by omega)
    rw [if_pos c, if_neg e]
    exact ⟨⟨fun _ => trivial, fun h => absurd c h⟩, rfl⟩

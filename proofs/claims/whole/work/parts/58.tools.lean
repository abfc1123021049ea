/-! tools: loops run to their ends, alone or two side by side; ints in bounds -/
theorem lp_run {V R : Type} {d : R} {body : (V → R) → V → R} {ok : (V → Prop) → V → Prop} (I : Nat → V → R → Prop) (h : ∀ m v r, I m v r → ∀ (kR : V → R) (kO : V → Prop), (∀ m' v' r', m' < m → I m' v' r' → kR v' = r' ∧ kO v') → body kR v = r ∧ ok kO v) : ∀ (n m : Nat) (v : V) (r : R), I m v r → m < n → lp d body n v = r ∧ lpOk ok n v
  | 0, _, _, _, _, hn => absurd hn (by omega)
  | n + 1, m, v, r, hI, hn => h m v r hI (lp d body n) (lpOk ok n) (fun m' v' r' hm hI' => lp_run I h n m' v' r' hI' (by omega))
theorem lp_two {V R V' R' : Type} {d : R} {body : (V → R) → V → R} {ok : (V → Prop) → V → Prop} {d' : R'} {body' : (V' → R') → V' → R'} {ok' : (V' → Prop) → V' → Prop} (I : Nat → V → V' → Prop) (Q : R → R' → Prop) (h : ∀ m v v', I m v v' → ∀ (kR : V → R) (kO : V → Prop) (kR' : V' → R') (kO' : V' → Prop), (∀ m' w w', m' < m → I m' w w' → kO w ∧ kO' w' ∧ Q (kR w) (kR' w')) → ok kO v ∧ ok' kO' v' ∧ Q (body kR v) (body' kR' v')) : ∀ (n n' m : Nat) (v : V) (v' : V'), I m v v' → m < n → m < n' → lpOk ok n v ∧ lpOk ok' n' v' ∧ Q (lp d body n v) (lp d' body' n' v')
  | 0, _, _, _, _, _, hn, _ => absurd hn (by omega)
  | _ + 1, 0, _, _, _, _, _, hn => absurd hn (by omega)
  | n + 1, n' + 1, m, v, v', hI, hn, hn' => h m v v' hI (lp d body n) (lpOk ok n) (lp d' body' n') (lpOk ok' n') (fun m' w w' hm hI' => lp_two I Q h n n' m' w w' hI' (by omega) (by omega))
theorem i32_lt (a b : Int32) : a < b ↔ a.toInt < b.toInt := Int32.lt_iff_toInt_lt
theorem i32_le (a b : Int32) : a ≤ b ↔ a.toInt ≤ b.toInt := Int32.le_iff_toInt_le
theorem i64_lt (a b : Int64) : a < b ↔ a.toInt < b.toInt := Int64.lt_iff_toInt_lt
theorem nlt0 {a : Int32} {m : Nat} (hm : m < 2 ^ 31) (h0 : ¬ a < 0) (h1 : ¬ nI m < a) : ∃ j : Nat, j ≤ m ∧ a = nI j :=
  nI_of2 (M := nI m) (nI_toInt hm) h0 (by rw [i32_lt] at h1; rw [i32_le]; omega)
/-- both sides' bounds -/
theorem in_w (a : Int32) {m : Nat} (hm : m < 2 ^ 31) : fX6_in a.toInt64 0 (lN m) = fX5_within a (nI m) := by
  unfold fX6_in pX6_in_0 fX5_within pX5_within_0
  have e1 : (a.toInt64 < (0 : Int64)) ↔ (a < (0 : Int32)) := by
    rw [i64_lt, i32_lt, Int32.toInt_toInt64]; exact Iff.rfl
  have e2 : (lN m < a.toInt64) ↔ (nI m < a) := by
    rw [i64_lt, i32_lt, Int32.toInt_toInt64, lN_toInt hm, nI_toInt hm]
  simp only [e1, e2]
theorem wi_cases (a : Int32) {m : Nat} (hm : m < 2 ^ 31) : fX5_within a (nI m) = 0 ∨ (fX5_within a (nI m) = 1 ∧ ∃ j : Nat, j ≤ m ∧ a = nI j) := by
  unfold fX5_within pX5_within_0
  by_cases h0 : a < 0
  · left; rw [if_pos h0]
  · by_cases h1 : nI m < a
    · left; rw [if_neg h0, if_pos h1]
    · right; rw [if_neg h0, if_neg h1]; exact ⟨rfl, nlt0 hm h0 h1⟩
theorem wi_in {j m : Nat} (h : j ≤ m) (hm : m < 2 ^ 31) : fX5_within (nI j) (nI m) = 1 := by
  unfold fX5_within pX5_within_0
  rw [if_neg (nI_pos (by omega)), if_neg (nI_nlt h hm)]
theorem nb0 : narrow .boolean (.int 0) = .int 0 := by decide
theorem nb1 : narrow .boolean (.int 1) = .int 1 := by decide
theorem wi_nb (a m : Int32) : narrow .boolean (.int (fX5_within a m)) = .int (fX5_within a m) := by
  unfold fX5_within pX5_within_0
  split
  · exact nb0
  · split
    · exact nb0
    · exact nb1
theorem in_nb (a b c : Int64) : narrow .boolean (.int (fX6_in a b c)) = .int (fX6_in a b c) := by
  unfold fX6_in pX6_in_0
  split
  · exact nb0
  · split
    · exact nb0
    · exact nb1
theorem one_ne : ¬ (1 : Int32) = 0 := by decide
theorem pos_of {a : Int32} (h : ¬ a < 0) : ∃ j : Nat, j < 2 ^ 31 ∧ a = nI j := nI_of h
/-- updates -/
theorem up_s {α : Type} (f : Nat → α) (k : Nat) (v : α) : va_up f k v k = v := by unfold va_up; simp
theorem up_n {α : Type} (f : Nat → α) {k j : Nat} (v : α) (h : ¬ j = k) : va_up f k v j = f j := by unfold va_up; simp [h]
theorem ud_s (f : Nat → Int32) (k : Nat) (v : Int32) : upd f k v k = v := by unfold upd; simp
theorem ud_n (f : Nat → Int32) {k j : Nat} (v : Int32) (h : ¬ j = k) : upd f k v j = f j := by unfold upd; simp [h]
theorem uL_s (f : Nat → Int64) (k : Nat) (v : Int64) : vp_updL f k v k = v := by unfold vp_updL; simp
theorem uL_n (f : Nat → Int64) {k j : Nat} (v : Int64) (h : ¬ j = k) : vp_updL f k v j = f j := by unfold vp_updL; simp [h]

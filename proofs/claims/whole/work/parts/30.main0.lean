theorem pl_app {h tail : va_W} : ∀ {sub : va_W} {ps : List Nat}, ps.map (fun i => h[i]?) = sub.map some → (ps ++ List.range' h.length tail.length).map (fun i => (h ++ tail)[i]?) = (sub ++ tail).map some := by
  intro sub ps hp
  rw [List.map_append, List.map_append]
  congr 1
  · rw [← hp]
    apply List.map_congr_left
    intro i hi
    have hm : h[i]? ∈ ps.map (fun i => h[i]?) := List.mem_map.mpr ⟨i, hi, rfl⟩
    rw [hp] at hm
    obtain ⟨c, -, hc⟩ := List.mem_map.mp hm
    exact List.getElem?_append_left (List.getElem?_eq_some_iff.mp hc.symm).1
  · apply List.ext_getElem?
    intro i
    rw [List.getElem?_map, List.getElem?_map]
    by_cases hi : i < tail.length
    · rw [List.getElem?_range' hi, List.getElem?_eq_getElem hi]
      simp [List.getElem?_append_right]
    · have h1 : (List.range' h.length tail.length)[i]? = none := List.getElem?_eq_none (by simp; omega)
      rw [h1, List.getElem?_eq_none (by omega)]
      rfl
theorem nd_app {m n : Nat} : ∀ {ps : List Nat}, va_nd ps = true → (∀ i ∈ ps, i < m) → va_nd (ps ++ List.range' m n) = true
  | [], _, _ => va_nd_range' n m
  | a :: ps, h, hm => by
    simp only [va_nd, Bool.and_eq_true, decide_eq_true_eq, List.cons_append] at h ⊢
    refine ⟨?_, nd_app h.2 (fun i hi => hm i (List.mem_cons_of_mem _ hi))⟩
    have ha := hm a List.mem_cons_self
    simp only [List.mem_append, List.mem_range'_1, not_or]
    exact ⟨h.1, by omega⟩
/-- what become leaves of its world -/
def oB4 (old F : OS) : OS := (F.1, F.2.1, fun k => if k = 10 then old.2.2.1 10 else if k = 11 then old.2.2.1 11 else F.2.2.1 k, F.2.2.2)
abbrev XS : Type := OS × OS × OS × OS × OS × (Nat → OS)
def xs0 : XS := (o0, o0, o0, o0, o0, fun _ => o0)
def xX (ξ : XS) (o : OS) : XS := (o, ξ.2)
def xN (ξ : XS) (o : OS) : XS := (ξ.1, o, ξ.2.2)
def xT (ξ : XS) (o : OS) : XS := (ξ.1, ξ.2.1, o, ξ.2.2.2)
def xK (ξ : XS) (o : OS) : XS := (ξ.1, ξ.2.1, ξ.2.2.1, o, ξ.2.2.2.2)
def xR (ξ : XS) (o : OS) : XS := (ξ.1, ξ.2.1, ξ.2.2.1, ξ.2.2.2.1, o, ξ.2.2.2.2.2)
def xS (ξ : XS) (i : Nat) (o : OS) : XS := (ξ.1, ξ.2.1, ξ.2.2.1, ξ.2.2.2.1, ξ.2.2.2.2.1, va_up ξ.2.2.2.2.2 i o)
abbrev fX5 (a : Nat) (q qn qt qk qr : Nat → Nat) (σ : OS) : List Value := [.ref a, .ref (qn 12), .ref (qt 12), .ref (qk 12), .ref (qr 11), .ref (q 5), .int (σ.1 6), .int (σ.1 7)]
def hX5 (cy : Nat → ClassId) (q qn qt qk qr : Nat → Nat) (qs : Nat → Nat → Nat) (a : Nat) (ξ : XS) : va_W := [(q 8, .inr (4, fX5 a q (va_up qn 9 a) (va_up qt 9 a) (va_up qk 9 a) qr ξ.1)), (va_up qn 9 a 12, .inr (3, fX4 (va_up qn 9 a) ξ.2.1)), (va_up qn 9 a 0, .inl (cy 0, 5, .inl (ξ.2.1.2.2.1 0))), (va_up qn 9 a 1, .inl (cy 0, 5, .inl (ξ.2.1.2.2.1 1))), (va_up qn 9 a 2, .inl (cy 0, 5, .inl (ξ.2.1.2.2.1 2))), (va_up qn 9 a 3, .inl (cy 1, 5, .inr (.inl (ξ.2.1.2.2.2 3)))), (va_up qn 9 a 10, .inl (cy 0, 6, .inl (ξ.2.1.2.2.1 10))), (va_up qn 9 a 11, .inl (cy 0, 160, .inl (ξ.2.1.2.2.1 11))), (va_up qt 9 a 12, .inr (3, fX4 (va_up qt 9 a) ξ.2.2.1)), (va_up qt 9 a 0, .inl (cy 0, 5, .inl (ξ.2.2.1.2.2.1 0))), (va_up qt 9 a 1, .inl (cy 0, 5, .inl (ξ.2.2.1.2.2.1 1))), (va_up qt 9 a 2, .inl (cy 0, 5, .inl (ξ.2.2.1.2.2.1 2))), (va_up qt 9 a 3, .inl (cy 1, 5, .inr (.inl (ξ.2.2.1.2.2.2 3)))), (va_up qt 9 a 10, .inl (cy 0, 6, .inl (ξ.2.2.1.2.2.1 10))), (va_up qt 9 a 11, .inl (cy 0, 160, .inl (ξ.2.2.1.2.2.1 11))), (va_up qk 9 a 12, .inr (3, fX4 (va_up qk 9 a) ξ.2.2.2.1)), (va_up qk 9 a 0, .inl (cy 0, 5, .inl (ξ.2.2.2.1.2.2.1 0))), (va_up qk 9 a 1, .inl (cy 0, 5, .inl (ξ.2.2.2.1.2.2.1 1))), (va_up qk 9 a 2, .inl (cy 0, 5, .inl (ξ.2.2.2.1.2.2.1 2))), (va_up qk 9 a 3, .inl (cy 1, 5, .inr (.inl (ξ.2.2.2.1.2.2.2 3)))), (va_up qk 9 a 10, .inl (cy 0, 6, .inl (ξ.2.2.2.1.2.2.1 10))), (va_up qk 9 a 11, .inl (cy 0, 160, .inl (ξ.2.2.2.1.2.2.1 11))), (qr 11, .inr (0, fX0 qr ξ.2.2.2.2.1)), (qr 1, .inl (cy 0, 160, .inl (ξ.2.2.2.2.1.2.2.1 1))), (qr 2, .inl (cy 0, 160, .inl (ξ.2.2.2.2.1.2.2.1 2))), (qr 3, .inl (cy 0, 3, .inl (ξ.2.2.2.2.1.2.2.1 3))), (q 5, .inl (cy 3, 4, .inr (.inr (.inr (.inr (fun j => if j < 4 then some (qs j 3) else none)))))), (qs 0 3, .inr (1, fX1 (qs 0) (ξ.2.2.2.2.2 0))), (qs 0 0, .inl (cy 0, 40, .inl ((ξ.2.2.2.2.2 0).2.2.1 0))), (qs 1 3, .inr (1, fX1 (qs 1) (ξ.2.2.2.2.2 1))), (qs 1 0, .inl (cy 0, 40, .inl ((ξ.2.2.2.2.2 1).2.2.1 0))), (qs 2 3, .inr (1, fX1 (qs 2) (ξ.2.2.2.2.2 2))), (qs 2 0, .inl (cy 0, 40, .inl ((ξ.2.2.2.2.2 2).2.2.1 0))), (qs 3 3, .inr (1, fX1 (qs 3) (ξ.2.2.2.2.2 3))), (qs 3 0, .inl (cy 0, 40, .inl ((ξ.2.2.2.2.2 3).2.2.1 0)))]
def wX5 (cy : Nat → ClassId) (q qn qt qk qr : Nat → Nat) (qs : Nat → Nat → Nat) (a : Nat) (τ : TX) (ξ : XS) : va_W := hX5 cy q qn qt qk qr qs a ξ ++ tw cy a τ
theorem pu_X5_this_6 (cy : Nat → ClassId) (q qn qt qk qr : Nat → Nat) (qs : Nat → Nat → Nat) (a : Nat) (τ : TX) (ξ : XS) (v : Int32) : (wX5 cy q qn qt qk qr qs a τ ξ).set 0 (q 8, .inr (4, (fX5 a q (va_up qn 9 a) (va_up qt 9 a) (va_up qk 9 a) qr ξ.1).set 6 (.int v))) = wX5 cy q qn qt qk qr qs a τ (xX ξ (oI ξ.1 6 v)) := rfl
theorem pu_X5_this_7 (cy : Nat → ClassId) (q qn qt qk qr : Nat → Nat) (qs : Nat → Nat → Nat) (a : Nat) (τ : TX) (ξ : XS) (v : Int32) : (wX5 cy q qn qt qk qr qs a τ ξ).set 0 (q 8, .inr (4, (fX5 a q (va_up qn 9 a) (va_up qt 9 a) (va_up qk 9 a) qr ξ.1).set 7 (.int v))) = wX5 cy q qn qt qk qr qs a τ (xX ξ (oI ξ.1 7 v)) := rfl
theorem pu_X5_n_4 (cy : Nat → ClassId) (q qn qt qk qr : Nat → Nat) (qs : Nat → Nat → Nat) (a : Nat) (τ : TX) (ξ : XS) (v : Int32) : (wX5 cy q qn qt qk qr qs a τ ξ).set 1 (va_up qn 9 a 12, .inr (3, (fX4 (va_up qn 9 a) ξ.2.1).set 4 (.int v))) = wX5 cy q qn qt qk qr qs a τ (xN ξ (oI ξ.2.1 4 v)) := rfl
theorem pu_X5_n_5 (cy : Nat → ClassId) (q qn qt qk qr : Nat → Nat) (qs : Nat → Nat → Nat) (a : Nat) (τ : TX) (ξ : XS) (v : Int32) : (wX5 cy q qn qt qk qr qs a τ ξ).set 1 (va_up qn 9 a 12, .inr (3, (fX4 (va_up qn 9 a) ξ.2.1).set 5 (.int v))) = wX5 cy q qn qt qk qr qs a τ (xN ξ (oI ξ.2.1 5 v)) := rfl
theorem pu_X5_n_6 (cy : Nat → ClassId) (q qn qt qk qr : Nat → Nat) (qs : Nat → Nat → Nat) (a : Nat) (τ : TX) (ξ : XS) (v : Int32) : (wX5 cy q qn qt qk qr qs a τ ξ).set 1 (va_up qn 9 a 12, .inr (3, (fX4 (va_up qn 9 a) ξ.2.1).set 6 (.int v))) = wX5 cy q qn qt qk qr qs a τ (xN ξ (oI ξ.2.1 6 v)) := rfl
theorem pu_X5_n_7 (cy : Nat → ClassId) (q qn qt qk qr : Nat → Nat) (qs : Nat → Nat → Nat) (a : Nat) (τ : TX) (ξ : XS) (v : Int32) : (wX5 cy q qn qt qk qr qs a τ ξ).set 1 (va_up qn 9 a 12, .inr (3, (fX4 (va_up qn 9 a) ξ.2.1).set 7 (.int v))) = wX5 cy q qn qt qk qr qs a τ (xN ξ (oI ξ.2.1 7 v)) := rfl
theorem pu_X5_n_8 (cy : Nat → ClassId) (q qn qt qk qr : Nat → Nat) (qs : Nat → Nat → Nat) (a : Nat) (τ : TX) (ξ : XS) (v : Int64) : (wX5 cy q qn qt qk qr qs a τ ξ).set 1 (va_up qn 9 a 12, .inr (3, (fX4 (va_up qn 9 a) ξ.2.1).set 8 (.long v))) = wX5 cy q qn qt qk qr qs a τ (xN ξ (oL ξ.2.1 8 v)) := rfl
theorem pu_X5_t_7 (cy : Nat → ClassId) (q qn qt qk qr : Nat → Nat) (qs : Nat → Nat → Nat) (a : Nat) (τ : TX) (ξ : XS) (v : Int32) : (wX5 cy q qn qt qk qr qs a τ ξ).set 8 (va_up qt 9 a 12, .inr (3, (fX4 (va_up qt 9 a) ξ.2.2.1).set 7 (.int v))) = wX5 cy q qn qt qk qr qs a τ (xT ξ (oI ξ.2.2.1 7 v)) := rfl
theorem pa_X5_n_0 (cy : Nat → ClassId) (q qn qt qk qr : Nat → Nat) (qs : Nat → Nat → Nat) (a : Nat) (τ : TX) (ξ : XS) (i : Nat) (x : Int32) : (wX5 cy q qn qt qk qr qs a τ ξ).set 2 (va_up qn 9 a 0, .inl (cy 0, 5, .inl (upd (ξ.2.1.2.2.1 0) i x))) = wX5 cy q qn qt qk qr qs a τ (xN ξ (oS ξ.2.1 0 i x)) := rfl
theorem pa_X5_n_1 (cy : Nat → ClassId) (q qn qt qk qr : Nat → Nat) (qs : Nat → Nat → Nat) (a : Nat) (τ : TX) (ξ : XS) (i : Nat) (x : Int32) : (wX5 cy q qn qt qk qr qs a τ ξ).set 3 (va_up qn 9 a 1, .inl (cy 0, 5, .inl (upd (ξ.2.1.2.2.1 1) i x))) = wX5 cy q qn qt qk qr qs a τ (xN ξ (oS ξ.2.1 1 i x)) := rfl
theorem pa_X5_n_2 (cy : Nat → ClassId) (q qn qt qk qr : Nat → Nat) (qs : Nat → Nat → Nat) (a : Nat) (τ : TX) (ξ : XS) (i : Nat) (x : Int32) : (wX5 cy q qn qt qk qr qs a τ ξ).set 4 (va_up qn 9 a 2, .inl (cy 0, 5, .inl (upd (ξ.2.1.2.2.1 2) i x))) = wX5 cy q qn qt qk qr qs a τ (xN ξ (oS ξ.2.1 2 i x)) := rfl
theorem pa_X5_n_3 (cy : Nat → ClassId) (q qn qt qk qr : Nat → Nat) (qs : Nat → Nat → Nat) (a : Nat) (τ : TX) (ξ : XS) (i : Nat) (x : Int64) : (wX5 cy q qn qt qk qr qs a τ ξ).set 5 (va_up qn 9 a 3, .inl (cy 1, 5, .inr (.inl (vp_updL (ξ.2.1.2.2.2 3) i x)))) = wX5 cy q qn qt qk qr qs a τ (xN ξ (oT ξ.2.1 3 i x)) := rfl
theorem pa_X5_t_0 (cy : Nat → ClassId) (q qn qt qk qr : Nat → Nat) (qs : Nat → Nat → Nat) (a : Nat) (τ : TX) (ξ : XS) (i : Nat) (x : Int32) : (wX5 cy q qn qt qk qr qs a τ ξ).set 9 (va_up qt 9 a 0, .inl (cy 0, 5, .inl (upd (ξ.2.2.1.2.2.1 0) i x))) = wX5 cy q qn qt qk qr qs a τ (xT ξ (oS ξ.2.2.1 0 i x)) := rfl
theorem pa_X5_t_1 (cy : Nat → ClassId) (q qn qt qk qr : Nat → Nat) (qs : Nat → Nat → Nat) (a : Nat) (τ : TX) (ξ : XS) (i : Nat) (x : Int32) : (wX5 cy q qn qt qk qr qs a τ ξ).set 10 (va_up qt 9 a 1, .inl (cy 0, 5, .inl (upd (ξ.2.2.1.2.2.1 1) i x))) = wX5 cy q qn qt qk qr qs a τ (xT ξ (oS ξ.2.2.1 1 i x)) := rfl
theorem pa_X5_t_2 (cy : Nat → ClassId) (q qn qt qk qr : Nat → Nat) (qs : Nat → Nat → Nat) (a : Nat) (τ : TX) (ξ : XS) (i : Nat) (x : Int32) : (wX5 cy q qn qt qk qr qs a τ ξ).set 11 (va_up qt 9 a 2, .inl (cy 0, 5, .inl (upd (ξ.2.2.1.2.2.1 2) i x))) = wX5 cy q qn qt qk qr qs a τ (xT ξ (oS ξ.2.2.1 2 i x)) := rfl
theorem pa_X5_t_3 (cy : Nat → ClassId) (q qn qt qk qr : Nat → Nat) (qs : Nat → Nat → Nat) (a : Nat) (τ : TX) (ξ : XS) (i : Nat) (x : Int64) : (wX5 cy q qn qt qk qr qs a τ ξ).set 12 (va_up qt 9 a 3, .inl (cy 1, 5, .inr (.inl (vp_updL (ξ.2.2.1.2.2.2 3) i x)))) = wX5 cy q qn qt qk qr qs a τ (xT ξ (oT ξ.2.2.1 3 i x)) := rfl
section Sh
variable {cy : Nat → ClassId} {q qn qt qk qr : Nat → Nat} {qs : Nat → Nat → Nat} {a : Nat} {τ : TX} {ξ : XS} {si : Nat}
theorem sh_obj (h : si < 4) : (wX5 cy q qn qt qk qr qs a τ ξ)[27 + 2 * si]? = some (qs si 3, .inr (1, fX1 (qs si) (ξ.2.2.2.2.2 si))) := by
  match si, h with
  | 0, _ => rfl
  | 1, _ => rfl
  | 2, _ => rfl
  | 3, _ => rfl
theorem sh_arr (h : si < 4) : (wX5 cy q qn qt qk qr qs a τ ξ)[28 + 2 * si]? = some (qs si 0, .inl (cy 0, 40, .inl ((ξ.2.2.2.2.2 si).2.2.1 0))) := by
  match si, h with
  | 0, _ => rfl
  | 1, _ => rfl
  | 2, _ => rfl
  | 3, _ => rfl
end Sh
set_option maxRecDepth 20000 in
theorem putN (cy : Nat → ClassId) (q qn qt qk qr : Nat → Nat) (qs : Nat → Nat → Nat) (a : Nat) (τ : TX) (ξ : XS) (F : OS) : Put ([1, 2, 3, 4, 5, 6, 7] ++ List.range' 35 (tw cy a τ).length) (wX5 cy q qn qt qk qr qs a τ ξ) (wX4 cy (va_up qn 9 a) (tw cy a τ) F) (wX5 cy q qn qt qk qr qs a τ (xN ξ F)) := by
  refine ⟨rfl, fun i c hi => ?_⟩
  match i, hi with
  | 0, hi => exact Or.inr ⟨by simp [List.mem_range'_1], hi⟩
  | 1, hi => exact Or.inl ⟨by simp, by rw [← Option.some.inj hi]; exact List.mem_of_getElem? (i := 0) rfl⟩
  | 2, hi => exact Or.inl ⟨by simp, by rw [← Option.some.inj hi]; exact List.mem_of_getElem? (i := 1) rfl⟩
  | 3, hi => exact Or.inl ⟨by simp, by rw [← Option.some.inj hi]; exact List.mem_of_getElem? (i := 2) rfl⟩
  | 4, hi => exact Or.inl ⟨by simp, by rw [← Option.some.inj hi]; exact List.mem_of_getElem? (i := 3) rfl⟩
  | 5, hi => exact Or.inl ⟨by simp, by rw [← Option.some.inj hi]; exact List.mem_of_getElem? (i := 4) rfl⟩
  | 6, hi => exact Or.inl ⟨by simp, by rw [← Option.some.inj hi]; exact List.mem_of_getElem? (i := 5) rfl⟩
  | 7, hi => exact Or.inl ⟨by simp, by rw [← Option.some.inj hi]; exact List.mem_of_getElem? (i := 6) rfl⟩
  | 8, hi => exact Or.inr ⟨by simp [List.mem_range'_1], hi⟩
  | 9, hi => exact Or.inr ⟨by simp [List.mem_range'_1], hi⟩
  | 10, hi => exact Or.inr ⟨by simp [List.mem_range'_1], hi⟩
  | 11, hi => exact Or.inr ⟨by simp [List.mem_range'_1], hi⟩
  | 12, hi => exact Or.inr ⟨by simp [List.mem_range'_1], hi⟩
  | 13, hi => exact Or.inr ⟨by simp [List.mem_range'_1], hi⟩
  | 14, hi => exact Or.inr ⟨by simp [List.mem_range'_1], hi⟩
  | 15, hi => exact Or.inr ⟨by simp [List.mem_range'_1], hi⟩
  | 16, hi => exact Or.inr ⟨by simp [List.mem_range'_1], hi⟩
  | 17, hi => exact Or.inr ⟨by simp [List.mem_range'_1], hi⟩
  | 18, hi => exact Or.inr ⟨by simp [List.mem_range'_1], hi⟩
  | 19, hi => exact Or.inr ⟨by simp [List.mem_range'_1], hi⟩
  | 20, hi => exact Or.inr ⟨by simp [List.mem_range'_1], hi⟩
  | 21, hi => exact Or.inr ⟨by simp [List.mem_range'_1], hi⟩
  | 22, hi => exact Or.inr ⟨by simp [List.mem_range'_1], hi⟩
  | 23, hi => exact Or.inr ⟨by simp [List.mem_range'_1], hi⟩
  | 24, hi => exact Or.inr ⟨by simp [List.mem_range'_1], hi⟩
  | 25, hi => exact Or.inr ⟨by simp [List.mem_range'_1], hi⟩
  | 26, hi => exact Or.inr ⟨by simp [List.mem_range'_1], hi⟩
  | 27, hi => exact Or.inr ⟨by simp [List.mem_range'_1], hi⟩
  | 28, hi => exact Or.inr ⟨by simp [List.mem_range'_1], hi⟩
  | 29, hi => exact Or.inr ⟨by simp [List.mem_range'_1], hi⟩
  | 30, hi => exact Or.inr ⟨by simp [List.mem_range'_1], hi⟩
  | 31, hi => exact Or.inr ⟨by simp [List.mem_range'_1], hi⟩
  | 32, hi => exact Or.inr ⟨by simp [List.mem_range'_1], hi⟩
  | 33, hi => exact Or.inr ⟨by simp [List.mem_range'_1], hi⟩
  | 34, hi => exact Or.inr ⟨by simp [List.mem_range'_1], hi⟩
  | n + 35, hi =>
    have hn : n < (tw cy a τ).length := (List.getElem?_eq_some_iff.mp (show (tw cy a τ)[n]? = some c from hi)).1
    exact Or.inl ⟨List.mem_append_right _ (List.mem_range'_1.mpr ⟨by omega, by omega⟩), List.mem_of_getElem? (i := n + 7) hi⟩
set_option maxRecDepth 20000 in
theorem putT (cy : Nat → ClassId) (q qn qt qk qr : Nat → Nat) (qs : Nat → Nat → Nat) (a : Nat) (τ : TX) (ξ : XS) (F : OS) : Put ([8, 9, 10, 11, 12, 13, 14] ++ List.range' 35 (tw cy a τ).length) (wX5 cy q qn qt qk qr qs a τ ξ) (wX4 cy (va_up qt 9 a) (tw cy a τ) F) (wX5 cy q qn qt qk qr qs a τ (xT ξ F)) := by
  refine ⟨rfl, fun i c hi => ?_⟩
  match i, hi with
  | 0, hi => exact Or.inr ⟨by simp [List.mem_range'_1], hi⟩
  | 1, hi => exact Or.inr ⟨by simp [List.mem_range'_1], hi⟩
  | 2, hi => exact Or.inr ⟨by simp [List.mem_range'_1], hi⟩
  | 3, hi => exact Or.inr ⟨by simp [List.mem_range'_1], hi⟩
  | 4, hi => exact Or.inr ⟨by simp [List.mem_range'_1], hi⟩
  | 5, hi => exact Or.inr ⟨by simp [List.mem_range'_1], hi⟩
  | 6, hi => exact Or.inr ⟨by simp [List.mem_range'_1], hi⟩
  | 7, hi => exact Or.inr ⟨by simp [List.mem_range'_1], hi⟩
  | 8, hi => exact Or.inl ⟨by simp, by rw [← Option.some.inj hi]; exact List.mem_of_getElem? (i := 0) rfl⟩
  | 9, hi => exact Or.inl ⟨by simp, by rw [← Option.some.inj hi]; exact List.mem_of_getElem? (i := 1) rfl⟩
  | 10, hi => exact Or.inl ⟨by simp, by rw [← Option.some.inj hi]; exact List.mem_of_getElem? (i := 2) rfl⟩
  | 11, hi => exact Or.inl ⟨by simp, by rw [← Option.some.inj hi]; exact List.mem_of_getElem? (i := 3) rfl⟩
  | 12, hi => exact Or.inl ⟨by simp, by rw [← Option.some.inj hi]; exact List.mem_of_getElem? (i := 4) rfl⟩
  | 13, hi => exact Or.inl ⟨by simp, by rw [← Option.some.inj hi]; exact List.mem_of_getElem? (i := 5) rfl⟩
  | 14, hi => exact Or.inl ⟨by simp, by rw [← Option.some.inj hi]; exact List.mem_of_getElem? (i := 6) rfl⟩
  | 15, hi => exact Or.inr ⟨by simp [List.mem_range'_1], hi⟩
  | 16, hi => exact Or.inr ⟨by simp [List.mem_range'_1], hi⟩
  | 17, hi => exact Or.inr ⟨by simp [List.mem_range'_1], hi⟩
  | 18, hi => exact Or.inr ⟨by simp [List.mem_range'_1], hi⟩
  | 19, hi => exact Or.inr ⟨by simp [List.mem_range'_1], hi⟩
  | 20, hi => exact Or.inr ⟨by simp [List.mem_range'_1], hi⟩
  | 21, hi => exact Or.inr ⟨by simp [List.mem_range'_1], hi⟩
  | 22, hi => exact Or.inr ⟨by simp [List.mem_range'_1], hi⟩
  | 23, hi => exact Or.inr ⟨by simp [List.mem_range'_1], hi⟩
  | 24, hi => exact Or.inr ⟨by simp [List.mem_range'_1], hi⟩
  | 25, hi => exact Or.inr ⟨by simp [List.mem_range'_1], hi⟩
  | 26, hi => exact Or.inr ⟨by simp [List.mem_range'_1], hi⟩
  | 27, hi => exact Or.inr ⟨by simp [List.mem_range'_1], hi⟩
  | 28, hi => exact Or.inr ⟨by simp [List.mem_range'_1], hi⟩
  | 29, hi => exact Or.inr ⟨by simp [List.mem_range'_1], hi⟩
  | 30, hi => exact Or.inr ⟨by simp [List.mem_range'_1], hi⟩
  | 31, hi => exact Or.inr ⟨by simp [List.mem_range'_1], hi⟩
  | 32, hi => exact Or.inr ⟨by simp [List.mem_range'_1], hi⟩
  | 33, hi => exact Or.inr ⟨by simp [List.mem_range'_1], hi⟩
  | 34, hi => exact Or.inr ⟨by simp [List.mem_range'_1], hi⟩
  | n + 35, hi =>
    have hn : n < (tw cy a τ).length := (List.getElem?_eq_some_iff.mp (show (tw cy a τ)[n]? = some c from hi)).1
    exact Or.inl ⟨List.mem_append_right _ (List.mem_range'_1.mpr ⟨by omega, by omega⟩), List.mem_of_getElem? (i := n + 7) hi⟩
set_option maxRecDepth 20000 in
theorem putK (cy : Nat → ClassId) (q qn qt qk qr : Nat → Nat) (qs : Nat → Nat → Nat) (a : Nat) (τ : TX) (ξ : XS) (F : OS) : Put ([15, 16, 17, 18, 19, 20, 21] ++ List.range' 35 (tw cy a τ).length) (wX5 cy q qn qt qk qr qs a τ ξ) (wX4 cy (va_up qk 9 a) (tw cy a τ) F) (wX5 cy q qn qt qk qr qs a τ (xK ξ F)) := by
  refine ⟨rfl, fun i c hi => ?_⟩
  match i, hi with
  | 0, hi => exact Or.inr ⟨by simp [List.mem_range'_1], hi⟩
  | 1, hi => exact Or.inr ⟨by simp [List.mem_range'_1], hi⟩
  | 2, hi => exact Or.inr ⟨by simp [List.mem_range'_1], hi⟩
  | 3, hi => exact Or.inr ⟨by simp [List.mem_range'_1], hi⟩
  | 4, hi => exact Or.inr ⟨by simp [List.mem_range'_1], hi⟩
  | 5, hi => exact Or.inr ⟨by simp [List.mem_range'_1], hi⟩
  | 6, hi => exact Or.inr ⟨by simp [List.mem_range'_1], hi⟩
  | 7, hi => exact Or.inr ⟨by simp [List.mem_range'_1], hi⟩
  | 8, hi => exact Or.inr ⟨by simp [List.mem_range'_1], hi⟩
  | 9, hi => exact Or.inr ⟨by simp [List.mem_range'_1], hi⟩
  | 10, hi => exact Or.inr ⟨by simp [List.mem_range'_1], hi⟩
  | 11, hi => exact Or.inr ⟨by simp [List.mem_range'_1], hi⟩
  | 12, hi => exact Or.inr ⟨by simp [List.mem_range'_1], hi⟩
  | 13, hi => exact Or.inr ⟨by simp [List.mem_range'_1], hi⟩
  | 14, hi => exact Or.inr ⟨by simp [List.mem_range'_1], hi⟩
  | 15, hi => exact Or.inl ⟨by simp, by rw [← Option.some.inj hi]; exact List.mem_of_getElem? (i := 0) rfl⟩
  | 16, hi => exact Or.inl ⟨by simp, by rw [← Option.some.inj hi]; exact List.mem_of_getElem? (i := 1) rfl⟩
  | 17, hi => exact Or.inl ⟨by simp, by rw [← Option.some.inj hi]; exact List.mem_of_getElem? (i := 2) rfl⟩
  | 18, hi => exact Or.inl ⟨by simp, by rw [← Option.some.inj hi]; exact List.mem_of_getElem? (i := 3) rfl⟩
  | 19, hi => exact Or.inl ⟨by simp, by rw [← Option.some.inj hi]; exact List.mem_of_getElem? (i := 4) rfl⟩
  | 20, hi => exact Or.inl ⟨by simp, by rw [← Option.some.inj hi]; exact List.mem_of_getElem? (i := 5) rfl⟩
  | 21, hi => exact Or.inl ⟨by simp, by rw [← Option.some.inj hi]; exact List.mem_of_getElem? (i := 6) rfl⟩
  | 22, hi => exact Or.inr ⟨by simp [List.mem_range'_1], hi⟩
  | 23, hi => exact Or.inr ⟨by simp [List.mem_range'_1], hi⟩
  | 24, hi => exact Or.inr ⟨by simp [List.mem_range'_1], hi⟩
  | 25, hi => exact Or.inr ⟨by simp [List.mem_range'_1], hi⟩
  | 26, hi => exact Or.inr ⟨by simp [List.mem_range'_1], hi⟩
  | 27, hi => exact Or.inr ⟨by simp [List.mem_range'_1], hi⟩
  | 28, hi => exact Or.inr ⟨by simp [List.mem_range'_1], hi⟩
  | 29, hi => exact Or.inr ⟨by simp [List.mem_range'_1], hi⟩
  | 30, hi => exact Or.inr ⟨by simp [List.mem_range'_1], hi⟩
  | 31, hi => exact Or.inr ⟨by simp [List.mem_range'_1], hi⟩
  | 32, hi => exact Or.inr ⟨by simp [List.mem_range'_1], hi⟩
  | 33, hi => exact Or.inr ⟨by simp [List.mem_range'_1], hi⟩
  | 34, hi => exact Or.inr ⟨by simp [List.mem_range'_1], hi⟩
  | n + 35, hi =>
    have hn : n < (tw cy a τ).length := (List.getElem?_eq_some_iff.mp (show (tw cy a τ)[n]? = some c from hi)).1
    exact Or.inl ⟨List.mem_append_right _ (List.mem_range'_1.mpr ⟨by omega, by omega⟩), List.mem_of_getElem? (i := n + 7) hi⟩
set_option maxRecDepth 20000 in
theorem putR (cy : Nat → ClassId) (q qn qt qk qr : Nat → Nat) (qs : Nat → Nat → Nat) (a : Nat) (τ : TX) (ξ : XS) (F : OS) : Put ([22, 23, 24, 25]) (wX5 cy q qn qt qk qr qs a τ ξ) (wX0 cy qr F) (wX5 cy q qn qt qk qr qs a τ (xR ξ F)) := by
  refine ⟨rfl, fun i c hi => ?_⟩
  match i, hi with
  | 0, hi => exact Or.inr ⟨by simp, hi⟩
  | 1, hi => exact Or.inr ⟨by simp, hi⟩
  | 2, hi => exact Or.inr ⟨by simp, hi⟩
  | 3, hi => exact Or.inr ⟨by simp, hi⟩
  | 4, hi => exact Or.inr ⟨by simp, hi⟩
  | 5, hi => exact Or.inr ⟨by simp, hi⟩
  | 6, hi => exact Or.inr ⟨by simp, hi⟩
  | 7, hi => exact Or.inr ⟨by simp, hi⟩
  | 8, hi => exact Or.inr ⟨by simp, hi⟩
  | 9, hi => exact Or.inr ⟨by simp, hi⟩
  | 10, hi => exact Or.inr ⟨by simp, hi⟩
  | 11, hi => exact Or.inr ⟨by simp, hi⟩
  | 12, hi => exact Or.inr ⟨by simp, hi⟩
  | 13, hi => exact Or.inr ⟨by simp, hi⟩
  | 14, hi => exact Or.inr ⟨by simp, hi⟩
  | 15, hi => exact Or.inr ⟨by simp, hi⟩
  | 16, hi => exact Or.inr ⟨by simp, hi⟩
  | 17, hi => exact Or.inr ⟨by simp, hi⟩
  | 18, hi => exact Or.inr ⟨by simp, hi⟩
  | 19, hi => exact Or.inr ⟨by simp, hi⟩
  | 20, hi => exact Or.inr ⟨by simp, hi⟩
  | 21, hi => exact Or.inr ⟨by simp, hi⟩
  | 22, hi => exact Or.inl ⟨by simp, by rw [← Option.some.inj hi]; exact List.mem_of_getElem? (i := 0) rfl⟩
  | 23, hi => exact Or.inl ⟨by simp, by rw [← Option.some.inj hi]; exact List.mem_of_getElem? (i := 1) rfl⟩
  | 24, hi => exact Or.inl ⟨by simp, by rw [← Option.some.inj hi]; exact List.mem_of_getElem? (i := 2) rfl⟩
  | 25, hi => exact Or.inl ⟨by simp, by rw [← Option.some.inj hi]; exact List.mem_of_getElem? (i := 3) rfl⟩
  | 26, hi => exact Or.inr ⟨by simp, hi⟩
  | 27, hi => exact Or.inr ⟨by simp, hi⟩
  | 28, hi => exact Or.inr ⟨by simp, hi⟩
  | 29, hi => exact Or.inr ⟨by simp, hi⟩
  | 30, hi => exact Or.inr ⟨by simp, hi⟩
  | 31, hi => exact Or.inr ⟨by simp, hi⟩
  | 32, hi => exact Or.inr ⟨by simp, hi⟩
  | 33, hi => exact Or.inr ⟨by simp, hi⟩
  | 34, hi => exact Or.inr ⟨by simp, hi⟩
  | n + 35, hi => exact Or.inr ⟨by simp; try omega, hi⟩
set_option maxRecDepth 20000 in
theorem putTN (cy : Nat → ClassId) (q qn qt qk qr : Nat → Nat) (qs : Nat → Nat → Nat) (a : Nat) (τ : TX) (ξ : XS) (F : OS) : Put ([8, 9, 10, 11, 12] ++ [1, 2, 3, 4, 5]) (wX5 cy q qn qt qk qr qs a τ ξ) (wB cy (va_up qt 9 a) (va_up qn 9 a) ξ.2.1 F) (wX5 cy q qn qt qk qr qs a τ (xT ξ (oB4 ξ.2.2.1 F))) := by
  refine ⟨rfl, fun i c hi => ?_⟩
  match i, hi with
  | 0, hi => exact Or.inr ⟨by simp, hi⟩
  | 1, hi => exact Or.inl ⟨by simp, by rw [← Option.some.inj hi]; exact List.mem_of_getElem? (i := 5) rfl⟩
  | 2, hi => exact Or.inl ⟨by simp, by rw [← Option.some.inj hi]; exact List.mem_of_getElem? (i := 6) rfl⟩
  | 3, hi => exact Or.inl ⟨by simp, by rw [← Option.some.inj hi]; exact List.mem_of_getElem? (i := 7) rfl⟩
  | 4, hi => exact Or.inl ⟨by simp, by rw [← Option.some.inj hi]; exact List.mem_of_getElem? (i := 8) rfl⟩
  | 5, hi => exact Or.inl ⟨by simp, by rw [← Option.some.inj hi]; exact List.mem_of_getElem? (i := 9) rfl⟩
  | 6, hi => exact Or.inr ⟨by simp, hi⟩
  | 7, hi => exact Or.inr ⟨by simp, hi⟩
  | 8, hi => exact Or.inl ⟨by simp, by rw [← Option.some.inj hi]; exact List.mem_of_getElem? (i := 0) rfl⟩
  | 9, hi => exact Or.inl ⟨by simp, by rw [← Option.some.inj hi]; exact List.mem_of_getElem? (i := 1) rfl⟩
  | 10, hi => exact Or.inl ⟨by simp, by rw [← Option.some.inj hi]; exact List.mem_of_getElem? (i := 2) rfl⟩
  | 11, hi => exact Or.inl ⟨by simp, by rw [← Option.some.inj hi]; exact List.mem_of_getElem? (i := 3) rfl⟩
  | 12, hi => exact Or.inl ⟨by simp, by rw [← Option.some.inj hi]; exact List.mem_of_getElem? (i := 4) rfl⟩
  | 13, hi => exact Or.inr ⟨by simp, hi⟩
  | 14, hi => exact Or.inr ⟨by simp, hi⟩
  | 15, hi => exact Or.inr ⟨by simp, hi⟩
  | 16, hi => exact Or.inr ⟨by simp, hi⟩
  | 17, hi => exact Or.inr ⟨by simp, hi⟩
  | 18, hi => exact Or.inr ⟨by simp, hi⟩
  | 19, hi => exact Or.inr ⟨by simp, hi⟩
  | 20, hi => exact Or.inr ⟨by simp, hi⟩
  | 21, hi => exact Or.inr ⟨by simp, hi⟩
  | 22, hi => exact Or.inr ⟨by simp, hi⟩
  | 23, hi => exact Or.inr ⟨by simp, hi⟩
  | 24, hi => exact Or.inr ⟨by simp, hi⟩
  | 25, hi => exact Or.inr ⟨by simp, hi⟩
  | 26, hi => exact Or.inr ⟨by simp, hi⟩
  | 27, hi => exact Or.inr ⟨by simp, hi⟩
  | 28, hi => exact Or.inr ⟨by simp, hi⟩
  | 29, hi => exact Or.inr ⟨by simp, hi⟩
  | 30, hi => exact Or.inr ⟨by simp, hi⟩
  | 31, hi => exact Or.inr ⟨by simp, hi⟩
  | 32, hi => exact Or.inr ⟨by simp, hi⟩
  | 33, hi => exact Or.inr ⟨by simp, hi⟩
  | 34, hi => exact Or.inr ⟨by simp, hi⟩
  | n + 35, hi => exact Or.inr ⟨by simp; try omega, hi⟩
set_option maxRecDepth 20000 in
theorem putKN (cy : Nat → ClassId) (q qn qt qk qr : Nat → Nat) (qs : Nat → Nat → Nat) (a : Nat) (τ : TX) (ξ : XS) (F : OS) : Put ([15, 16, 17, 18, 19] ++ [1, 2, 3, 4, 5]) (wX5 cy q qn qt qk qr qs a τ ξ) (wB cy (va_up qk 9 a) (va_up qn 9 a) ξ.2.1 F) (wX5 cy q qn qt qk qr qs a τ (xK ξ (oB4 ξ.2.2.2.1 F))) := by
  refine ⟨rfl, fun i c hi => ?_⟩
  match i, hi with
  | 0, hi => exact Or.inr ⟨by simp, hi⟩
  | 1, hi => exact Or.inl ⟨by simp, by rw [← Option.some.inj hi]; exact List.mem_of_getElem? (i := 5) rfl⟩
  | 2, hi => exact Or.inl ⟨by simp, by rw [← Option.some.inj hi]; exact List.mem_of_getElem? (i := 6) rfl⟩
  | 3, hi => exact Or.inl ⟨by simp, by rw [← Option.some.inj hi]; exact List.mem_of_getElem? (i := 7) rfl⟩
  | 4, hi => exact Or.inl ⟨by simp, by rw [← Option.some.inj hi]; exact List.mem_of_getElem? (i := 8) rfl⟩
  | 5, hi => exact Or.inl ⟨by simp, by rw [← Option.some.inj hi]; exact List.mem_of_getElem? (i := 9) rfl⟩
  | 6, hi => exact Or.inr ⟨by simp, hi⟩
  | 7, hi => exact Or.inr ⟨by simp, hi⟩
  | 8, hi => exact Or.inr ⟨by simp, hi⟩
  | 9, hi => exact Or.inr ⟨by simp, hi⟩
  | 10, hi => exact Or.inr ⟨by simp, hi⟩
  | 11, hi => exact Or.inr ⟨by simp, hi⟩
  | 12, hi => exact Or.inr ⟨by simp, hi⟩
  | 13, hi => exact Or.inr ⟨by simp, hi⟩
  | 14, hi => exact Or.inr ⟨by simp, hi⟩
  | 15, hi => exact Or.inl ⟨by simp, by rw [← Option.some.inj hi]; exact List.mem_of_getElem? (i := 0) rfl⟩
  | 16, hi => exact Or.inl ⟨by simp, by rw [← Option.some.inj hi]; exact List.mem_of_getElem? (i := 1) rfl⟩
  | 17, hi => exact Or.inl ⟨by simp, by rw [← Option.some.inj hi]; exact List.mem_of_getElem? (i := 2) rfl⟩
  | 18, hi => exact Or.inl ⟨by simp, by rw [← Option.some.inj hi]; exact List.mem_of_getElem? (i := 3) rfl⟩
  | 19, hi => exact Or.inl ⟨by simp, by rw [← Option.some.inj hi]; exact List.mem_of_getElem? (i := 4) rfl⟩
  | 20, hi => exact Or.inr ⟨by simp, hi⟩
  | 21, hi => exact Or.inr ⟨by simp, hi⟩
  | 22, hi => exact Or.inr ⟨by simp, hi⟩
  | 23, hi => exact Or.inr ⟨by simp, hi⟩
  | 24, hi => exact Or.inr ⟨by simp, hi⟩
  | 25, hi => exact Or.inr ⟨by simp, hi⟩
  | 26, hi => exact Or.inr ⟨by simp, hi⟩
  | 27, hi => exact Or.inr ⟨by simp, hi⟩
  | 28, hi => exact Or.inr ⟨by simp, hi⟩
  | 29, hi => exact Or.inr ⟨by simp, hi⟩
  | 30, hi => exact Or.inr ⟨by simp, hi⟩
  | 31, hi => exact Or.inr ⟨by simp, hi⟩
  | 32, hi => exact Or.inr ⟨by simp, hi⟩
  | 33, hi => exact Or.inr ⟨by simp, hi⟩
  | 34, hi => exact Or.inr ⟨by simp, hi⟩
  | n + 35, hi => exact Or.inr ⟨by simp; try omega, hi⟩
set_option maxRecDepth 20000 in
theorem putNK (cy : Nat → ClassId) (q qn qt qk qr : Nat → Nat) (qs : Nat → Nat → Nat) (a : Nat) (τ : TX) (ξ : XS) (F : OS) : Put ([1, 2, 3, 4, 5] ++ [15, 16, 17, 18, 19]) (wX5 cy q qn qt qk qr qs a τ ξ) (wB cy (va_up qn 9 a) (va_up qk 9 a) ξ.2.2.2.1 F) (wX5 cy q qn qt qk qr qs a τ (xN ξ (oB4 ξ.2.1 F))) := by
  refine ⟨rfl, fun i c hi => ?_⟩
  match i, hi with
  | 0, hi => exact Or.inr ⟨by simp, hi⟩
  | 1, hi => exact Or.inl ⟨by simp, by rw [← Option.some.inj hi]; exact List.mem_of_getElem? (i := 0) rfl⟩
  | 2, hi => exact Or.inl ⟨by simp, by rw [← Option.some.inj hi]; exact List.mem_of_getElem? (i := 1) rfl⟩
  | 3, hi => exact Or.inl ⟨by simp, by rw [← Option.some.inj hi]; exact List.mem_of_getElem? (i := 2) rfl⟩
  | 4, hi => exact Or.inl ⟨by simp, by rw [← Option.some.inj hi]; exact List.mem_of_getElem? (i := 3) rfl⟩
  | 5, hi => exact Or.inl ⟨by simp, by rw [← Option.some.inj hi]; exact List.mem_of_getElem? (i := 4) rfl⟩
  | 6, hi => exact Or.inr ⟨by simp, hi⟩
  | 7, hi => exact Or.inr ⟨by simp, hi⟩
  | 8, hi => exact Or.inr ⟨by simp, hi⟩
  | 9, hi => exact Or.inr ⟨by simp, hi⟩
  | 10, hi => exact Or.inr ⟨by simp, hi⟩
  | 11, hi => exact Or.inr ⟨by simp, hi⟩
  | 12, hi => exact Or.inr ⟨by simp, hi⟩
  | 13, hi => exact Or.inr ⟨by simp, hi⟩
  | 14, hi => exact Or.inr ⟨by simp, hi⟩
  | 15, hi => exact Or.inl ⟨by simp, by rw [← Option.some.inj hi]; exact List.mem_of_getElem? (i := 5) rfl⟩
  | 16, hi => exact Or.inl ⟨by simp, by rw [← Option.some.inj hi]; exact List.mem_of_getElem? (i := 6) rfl⟩
  | 17, hi => exact Or.inl ⟨by simp, by rw [← Option.some.inj hi]; exact List.mem_of_getElem? (i := 7) rfl⟩
  | 18, hi => exact Or.inl ⟨by simp, by rw [← Option.some.inj hi]; exact List.mem_of_getElem? (i := 8) rfl⟩
  | 19, hi => exact Or.inl ⟨by simp, by rw [← Option.some.inj hi]; exact List.mem_of_getElem? (i := 9) rfl⟩
  | 20, hi => exact Or.inr ⟨by simp, hi⟩
  | 21, hi => exact Or.inr ⟨by simp, hi⟩
  | 22, hi => exact Or.inr ⟨by simp, hi⟩
  | 23, hi => exact Or.inr ⟨by simp, hi⟩
  | 24, hi => exact Or.inr ⟨by simp, hi⟩
  | 25, hi => exact Or.inr ⟨by simp, hi⟩
  | 26, hi => exact Or.inr ⟨by simp, hi⟩
  | 27, hi => exact Or.inr ⟨by simp, hi⟩
  | 28, hi => exact Or.inr ⟨by simp, hi⟩
  | 29, hi => exact Or.inr ⟨by simp, hi⟩
  | 30, hi => exact Or.inr ⟨by simp, hi⟩
  | 31, hi => exact Or.inr ⟨by simp, hi⟩
  | 32, hi => exact Or.inr ⟨by simp, hi⟩
  | 33, hi => exact Or.inr ⟨by simp, hi⟩
  | 34, hi => exact Or.inr ⟨by simp, hi⟩
  | n + 35, hi => exact Or.inr ⟨by simp; try omega, hi⟩
set_option maxRecDepth 20000 in
theorem putS0 (cy : Nat → ClassId) (q qn qt qk qr : Nat → Nat) (qs : Nat → Nat → Nat) (a : Nat) (τ : TX) (ξ : XS) (F : OS) : Put [27 + 2 * 0, 28 + 2 * 0] (wX5 cy q qn qt qk qr qs a τ ξ) (wX1 cy (qs 0) F) (wX5 cy q qn qt qk qr qs a τ (xS ξ 0 F)) := by
  refine ⟨rfl, fun i c hi => ?_⟩
  match i, hi with
  | 0, hi => exact Or.inr ⟨by simp, hi⟩
  | 1, hi => exact Or.inr ⟨by simp, hi⟩
  | 2, hi => exact Or.inr ⟨by simp, hi⟩
  | 3, hi => exact Or.inr ⟨by simp, hi⟩
  | 4, hi => exact Or.inr ⟨by simp, hi⟩
  | 5, hi => exact Or.inr ⟨by simp, hi⟩
  | 6, hi => exact Or.inr ⟨by simp, hi⟩
  | 7, hi => exact Or.inr ⟨by simp, hi⟩
  | 8, hi => exact Or.inr ⟨by simp, hi⟩
  | 9, hi => exact Or.inr ⟨by simp, hi⟩
  | 10, hi => exact Or.inr ⟨by simp, hi⟩
  | 11, hi => exact Or.inr ⟨by simp, hi⟩
  | 12, hi => exact Or.inr ⟨by simp, hi⟩
  | 13, hi => exact Or.inr ⟨by simp, hi⟩
  | 14, hi => exact Or.inr ⟨by simp, hi⟩
  | 15, hi => exact Or.inr ⟨by simp, hi⟩
  | 16, hi => exact Or.inr ⟨by simp, hi⟩
  | 17, hi => exact Or.inr ⟨by simp, hi⟩
  | 18, hi => exact Or.inr ⟨by simp, hi⟩
  | 19, hi => exact Or.inr ⟨by simp, hi⟩
  | 20, hi => exact Or.inr ⟨by simp, hi⟩
  | 21, hi => exact Or.inr ⟨by simp, hi⟩
  | 22, hi => exact Or.inr ⟨by simp, hi⟩
  | 23, hi => exact Or.inr ⟨by simp, hi⟩
  | 24, hi => exact Or.inr ⟨by simp, hi⟩
  | 25, hi => exact Or.inr ⟨by simp, hi⟩
  | 26, hi => exact Or.inr ⟨by simp, hi⟩
  | 27, hi => exact Or.inl ⟨by simp, by rw [← Option.some.inj hi]; exact List.mem_of_getElem? (i := 0) rfl⟩
  | 28, hi => exact Or.inl ⟨by simp, by rw [← Option.some.inj hi]; exact List.mem_of_getElem? (i := 1) rfl⟩
  | 29, hi => exact Or.inr ⟨by simp, hi⟩
  | 30, hi => exact Or.inr ⟨by simp, hi⟩
  | 31, hi => exact Or.inr ⟨by simp, hi⟩
  | 32, hi => exact Or.inr ⟨by simp, hi⟩
  | 33, hi => exact Or.inr ⟨by simp, hi⟩
  | 34, hi => exact Or.inr ⟨by simp, hi⟩
  | n + 35, hi => exact Or.inr ⟨by simp; try omega, hi⟩
set_option maxRecDepth 20000 in
theorem putS1 (cy : Nat → ClassId) (q qn qt qk qr : Nat → Nat) (qs : Nat → Nat → Nat) (a : Nat) (τ : TX) (ξ : XS) (F : OS) : Put [27 + 2 * 1, 28 + 2 * 1] (wX5 cy q qn qt qk qr qs a τ ξ) (wX1 cy (qs 1) F) (wX5 cy q qn qt qk qr qs a τ (xS ξ 1 F)) := by
  refine ⟨rfl, fun i c hi => ?_⟩
  match i, hi with
  | 0, hi => exact Or.inr ⟨by simp, hi⟩
  | 1, hi => exact Or.inr ⟨by simp, hi⟩
  | 2, hi => exact Or.inr ⟨by simp, hi⟩
  | 3, hi => exact Or.inr ⟨by simp, hi⟩
  | 4, hi => exact Or.inr ⟨by simp, hi⟩
  | 5, hi => exact Or.inr ⟨by simp, hi⟩
  | 6, hi => exact Or.inr ⟨by simp, hi⟩
  | 7, hi => exact Or.inr ⟨by simp, hi⟩
  | 8, hi => exact Or.inr ⟨by simp, hi⟩
  | 9, hi => exact Or.inr ⟨by simp, hi⟩
  | 10, hi => exact Or.inr ⟨by simp, hi⟩
  | 11, hi => exact Or.inr ⟨by simp, hi⟩
  | 12, hi => exact Or.inr ⟨by simp, hi⟩
  | 13, hi => exact Or.inr ⟨by simp, hi⟩
  | 14, hi => exact Or.inr ⟨by simp, hi⟩
  | 15, hi => exact Or.inr ⟨by simp, hi⟩
  | 16, hi => exact Or.inr ⟨by simp, hi⟩
  | 17, hi => exact Or.inr ⟨by simp, hi⟩
  | 18, hi => exact Or.inr ⟨by simp, hi⟩
  | 19, hi => exact Or.inr ⟨by simp, hi⟩
  | 20, hi => exact Or.inr ⟨by simp, hi⟩
  | 21, hi => exact Or.inr ⟨by simp, hi⟩
  | 22, hi => exact Or.inr ⟨by simp, hi⟩
  | 23, hi => exact Or.inr ⟨by simp, hi⟩
  | 24, hi => exact Or.inr ⟨by simp, hi⟩
  | 25, hi => exact Or.inr ⟨by simp, hi⟩
  | 26, hi => exact Or.inr ⟨by simp, hi⟩
  | 27, hi => exact Or.inr ⟨by simp, hi⟩
  | 28, hi => exact Or.inr ⟨by simp, hi⟩
  | 29, hi => exact Or.inl ⟨by simp, by rw [← Option.some.inj hi]; exact List.mem_of_getElem? (i := 0) rfl⟩
  | 30, hi => exact Or.inl ⟨by simp, by rw [← Option.some.inj hi]; exact List.mem_of_getElem? (i := 1) rfl⟩
  | 31, hi => exact Or.inr ⟨by simp, hi⟩
  | 32, hi => exact Or.inr ⟨by simp, hi⟩
  | 33, hi => exact Or.inr ⟨by simp, hi⟩
  | 34, hi => exact Or.inr ⟨by simp, hi⟩
  | n + 35, hi => exact Or.inr ⟨by simp; try omega, hi⟩
set_option maxRecDepth 20000 in
theorem putS2 (cy : Nat → ClassId) (q qn qt qk qr : Nat → Nat) (qs : Nat → Nat → Nat) (a : Nat) (τ : TX) (ξ : XS) (F : OS) : Put [27 + 2 * 2, 28 + 2 * 2] (wX5 cy q qn qt qk qr qs a τ ξ) (wX1 cy (qs 2) F) (wX5 cy q qn qt qk qr qs a τ (xS ξ 2 F)) := by
  refine ⟨rfl, fun i c hi => ?_⟩
  match i, hi with
  | 0, hi => exact Or.inr ⟨by simp, hi⟩
  | 1, hi => exact Or.inr ⟨by simp, hi⟩
  | 2, hi => exact Or.inr ⟨by simp, hi⟩
  | 3, hi => exact Or.inr ⟨by simp, hi⟩
  | 4, hi => exact Or.inr ⟨by simp, hi⟩
  | 5, hi => exact Or.inr ⟨by simp, hi⟩
  | 6, hi => exact Or.inr ⟨by simp, hi⟩
  | 7, hi => exact Or.inr ⟨by simp, hi⟩
  | 8, hi => exact Or.inr ⟨by simp, hi⟩
  | 9, hi => exact Or.inr ⟨by simp, hi⟩
  | 10, hi => exact Or.inr ⟨by simp, hi⟩
  | 11, hi => exact Or.inr ⟨by simp, hi⟩
  | 12, hi => exact Or.inr ⟨by simp, hi⟩
  | 13, hi => exact Or.inr ⟨by simp, hi⟩
  | 14, hi => exact Or.inr ⟨by simp, hi⟩
  | 15, hi => exact Or.inr ⟨by simp, hi⟩
  | 16, hi => exact Or.inr ⟨by simp, hi⟩
  | 17, hi => exact Or.inr ⟨by simp, hi⟩
  | 18, hi => exact Or.inr ⟨by simp, hi⟩
  | 19, hi => exact Or.inr ⟨by simp, hi⟩
  | 20, hi => exact Or.inr ⟨by simp, hi⟩
  | 21, hi => exact Or.inr ⟨by simp, hi⟩
  | 22, hi => exact Or.inr ⟨by simp, hi⟩
  | 23, hi => exact Or.inr ⟨by simp, hi⟩
  | 24, hi => exact Or.inr ⟨by simp, hi⟩
  | 25, hi => exact Or.inr ⟨by simp, hi⟩
  | 26, hi => exact Or.inr ⟨by simp, hi⟩
  | 27, hi => exact Or.inr ⟨by simp, hi⟩
  | 28, hi => exact Or.inr ⟨by simp, hi⟩
  | 29, hi => exact Or.inr ⟨by simp, hi⟩
  | 30, hi => exact Or.inr ⟨by simp, hi⟩
  | 31, hi => exact Or.inl ⟨by simp, by rw [← Option.some.inj hi]; exact List.mem_of_getElem? (i := 0) rfl⟩
  | 32, hi => exact Or.inl ⟨by simp, by rw [← Option.some.inj hi]; exact List.mem_of_getElem? (i := 1) rfl⟩
  | 33, hi => exact Or.inr ⟨by simp, hi⟩
  | 34, hi => exact Or.inr ⟨by simp, hi⟩
  | n + 35, hi => exact Or.inr ⟨by simp; try omega, hi⟩
set_option maxRecDepth 20000 in
theorem putS3 (cy : Nat → ClassId) (q qn qt qk qr : Nat → Nat) (qs : Nat → Nat → Nat) (a : Nat) (τ : TX) (ξ : XS) (F : OS) : Put [27 + 2 * 3, 28 + 2 * 3] (wX5 cy q qn qt qk qr qs a τ ξ) (wX1 cy (qs 3) F) (wX5 cy q qn qt qk qr qs a τ (xS ξ 3 F)) := by
  refine ⟨rfl, fun i c hi => ?_⟩
  match i, hi with
  | 0, hi => exact Or.inr ⟨by simp, hi⟩
  | 1, hi => exact Or.inr ⟨by simp, hi⟩
  | 2, hi => exact Or.inr ⟨by simp, hi⟩
  | 3, hi => exact Or.inr ⟨by simp, hi⟩
  | 4, hi => exact Or.inr ⟨by simp, hi⟩
  | 5, hi => exact Or.inr ⟨by simp, hi⟩
  | 6, hi => exact Or.inr ⟨by simp, hi⟩
  | 7, hi => exact Or.inr ⟨by simp, hi⟩
  | 8, hi => exact Or.inr ⟨by simp, hi⟩
  | 9, hi => exact Or.inr ⟨by simp, hi⟩
  | 10, hi => exact Or.inr ⟨by simp, hi⟩
  | 11, hi => exact Or.inr ⟨by simp, hi⟩
  | 12, hi => exact Or.inr ⟨by simp, hi⟩
  | 13, hi => exact Or.inr ⟨by simp, hi⟩
  | 14, hi => exact Or.inr ⟨by simp, hi⟩
  | 15, hi => exact Or.inr ⟨by simp, hi⟩
  | 16, hi => exact Or.inr ⟨by simp, hi⟩
  | 17, hi => exact Or.inr ⟨by simp, hi⟩
  | 18, hi => exact Or.inr ⟨by simp, hi⟩
  | 19, hi => exact Or.inr ⟨by simp, hi⟩
  | 20, hi => exact Or.inr ⟨by simp, hi⟩
  | 21, hi => exact Or.inr ⟨by simp, hi⟩
  | 22, hi => exact Or.inr ⟨by simp, hi⟩
  | 23, hi => exact Or.inr ⟨by simp, hi⟩
  | 24, hi => exact Or.inr ⟨by simp, hi⟩
  | 25, hi => exact Or.inr ⟨by simp, hi⟩
  | 26, hi => exact Or.inr ⟨by simp, hi⟩
  | 27, hi => exact Or.inr ⟨by simp, hi⟩
  | 28, hi => exact Or.inr ⟨by simp, hi⟩
  | 29, hi => exact Or.inr ⟨by simp, hi⟩
  | 30, hi => exact Or.inr ⟨by simp, hi⟩
  | 31, hi => exact Or.inr ⟨by simp, hi⟩
  | 32, hi => exact Or.inr ⟨by simp, hi⟩
  | 33, hi => exact Or.inl ⟨by simp, by rw [← Option.some.inj hi]; exact List.mem_of_getElem? (i := 0) rfl⟩
  | 34, hi => exact Or.inl ⟨by simp, by rw [← Option.some.inj hi]; exact List.mem_of_getElem? (i := 1) rfl⟩
  | n + 35, hi => exact Or.inr ⟨by simp; try omega, hi⟩
theorem putS (cy : Nat → ClassId) (q qn qt qk qr : Nat → Nat) (qs : Nat → Nat → Nat) (a : Nat) (τ : TX) (ξ : XS) (F : OS) {si : Nat} (h : si < 4) : Put [27 + 2 * si, 28 + 2 * si] (wX5 cy q qn qt qk qr qs a τ ξ) (wX1 cy (qs si) F) (wX5 cy q qn qt qk qr qs a τ (xS ξ si F)) := by
  match si, h with
  | 0, _ => exact putS0 cy q qn qt qk qr qs a τ ξ F
  | 1, _ => exact putS1 cy q qn qt qk qr qs a τ ξ F
  | 2, _ => exact putS2 cy q qn qt qk qr qs a τ ξ F
  | 3, _ => exact putS3 cy q qn qt qk qr qs a τ ξ F
section MC
variable {X : CX} {cc : ByteArray} {nL : Nat} {D : va_G} {A : Nat → Prop} {lev cM sM kc ks pc : Nat} {lv : List (Nat × Value)} {st stk : List Value} {cy : Nat → ClassId} {q qn qt qk qr : Nat → Nat} {qs : Nat → Nat → Nat} {a : Nat} {τ : TX} {ξ : XS} {y : MethodName} {cc' : ByteArray} {nL' lev' idx n : Nat} {ret : Option FieldType} {as : List Value} {F : OS}
theorem plN : ([1, 2, 3, 4, 5, 6, 7] ++ List.range' 35 (tw cy a τ).length).map (fun i => (wX5 cy q qn qt qk qr qs a τ ξ)[i]?) = (wX4 cy (va_up qn 9 a) (tw cy a τ) ξ.2.1).map some := pl_app (h := hX5 cy q qn qt qk qr qs a ξ) (tail := tw cy a τ) (sub := [(va_up qn 9 a 12, .inr (3, fX4 (va_up qn 9 a) ξ.2.1)), (va_up qn 9 a 0, .inl (cy 0, 5, .inl (ξ.2.1.2.2.1 0))), (va_up qn 9 a 1, .inl (cy 0, 5, .inl (ξ.2.1.2.2.1 1))), (va_up qn 9 a 2, .inl (cy 0, 5, .inl (ξ.2.1.2.2.1 2))), (va_up qn 9 a 3, .inl (cy 1, 5, .inr (.inl (ξ.2.1.2.2.2 3)))), (va_up qn 9 a 10, .inl (cy 0, 6, .inl (ξ.2.1.2.2.1 10))), (va_up qn 9 a 11, .inl (cy 0, 160, .inl (ξ.2.1.2.2.1 11)))]) rfl
theorem ndN : va_nd ([1, 2, 3, 4, 5, 6, 7] ++ List.range' 35 (tw cy a τ).length) = true := nd_app rfl (by decide)
theorem rcN_I {r : Int32} (C : Cx X cc RX5 nL D (gty cy) A lev cM sM) (hM : Con y cc' nL' ret lev' 0 0 D (gty cy) (.ref (va_up qn 9 a 12) :: as) (wX4 cy (va_up qn 9 a) (tw cy a τ) ξ.2.1) (eI (wX4 cy (va_up qn 9 a) (tw cy a τ) F) r)) (hw : MV y cc' nL' ret RX4 n) (hlk : Cond.methodLink RX5 idx y ∈ gT) (hlev : lev' + 1 ≤ lev) (hnL : nL' ≤ 21) (hcap : kc ≤ cM ∧ ks ≤ sM) (hn : as.length = n) (hstk : stk = as.reverse ++ .ref (va_up qn 9 a 12) :: st) (hW : (st.map fun v => v.category).sum ≤ 8) (hdg : decode cc pc = .ok (.invokevirtual idx, 3)) (k : At X D A nL kc ks (pc + 3) lv (.int r :: st) (wX5 cy q qn qt qk qr qs a τ (xN ξ F))) : At X D A nL kc ks pc lv stk (wX5 cy q qn qt qk qr qs a τ ξ) :=
  r_callW C hM hw hlk hlev hnL hcap (q0 := 0) (ci := 3) rfl rfl _ plN ndN hn hstk hW hdg (fun v w hp => ⟨wX5 cy q qn qt qk qr qs a τ (xN ξ F), by obtain ⟨rfl, rfl⟩ := hp; exact ⟨putN cy q qn qt qk qr qs a τ ξ F, k⟩⟩)
theorem rcN_I0 {r : Int32} (C : Cx X cc RX5 nL D (gty cy) A lev cM sM) (hM : Con y cc' nL' ret lev' 0 0 D (gty cy) (.ref (va_up qn 9 a 12) :: as) (wX4 cy (va_up qn 9 a) (tw cy a τ) ξ.2.1) (eI (wX4 cy (va_up qn 9 a) (tw cy a τ) ξ.2.1) r)) (hw : MV y cc' nL' ret RX4 n) (hlk : Cond.methodLink RX5 idx y ∈ gT) (hlev : lev' + 1 ≤ lev) (hnL : nL' ≤ 21) (hcap : kc ≤ cM ∧ ks ≤ sM) (hn : as.length = n) (hstk : stk = as.reverse ++ .ref (va_up qn 9 a 12) :: st) (hW : (st.map fun v => v.category).sum ≤ 8) (hdg : decode cc pc = .ok (.invokevirtual idx, 3)) (k : At X D A nL kc ks (pc + 3) lv (.int r :: st) (wX5 cy q qn qt qk qr qs a τ ξ)) : At X D A nL kc ks pc lv stk (wX5 cy q qn qt qk qr qs a τ ξ) :=
  rcN_I C hM hw hlk hlev hnL hcap hn hstk hW hdg k
theorem rcN_L {r : Int64} (C : Cx X cc RX5 nL D (gty cy) A lev cM sM) (hM : Con y cc' nL' ret lev' 0 0 D (gty cy) (.ref (va_up qn 9 a 12) :: as) (wX4 cy (va_up qn 9 a) (tw cy a τ) ξ.2.1) (eL (wX4 cy (va_up qn 9 a) (tw cy a τ) F) r)) (hw : MV y cc' nL' ret RX4 n) (hlk : Cond.methodLink RX5 idx y ∈ gT) (hlev : lev' + 1 ≤ lev) (hnL : nL' ≤ 21) (hcap : kc ≤ cM ∧ ks ≤ sM) (hn : as.length = n) (hstk : stk = as.reverse ++ .ref (va_up qn 9 a 12) :: st) (hW : (st.map fun v => v.category).sum ≤ 8) (hdg : decode cc pc = .ok (.invokevirtual idx, 3)) (k : At X D A nL kc ks (pc + 3) lv (.long r :: st) (wX5 cy q qn qt qk qr qs a τ (xN ξ F))) : At X D A nL kc ks pc lv stk (wX5 cy q qn qt qk qr qs a τ ξ) :=
  r_callW C hM hw hlk hlev hnL hcap (q0 := 0) (ci := 3) rfl rfl _ plN ndN hn hstk hW hdg (fun v w hp => ⟨wX5 cy q qn qt qk qr qs a τ (xN ξ F), by obtain ⟨rfl, rfl⟩ := hp; exact ⟨putN cy q qn qt qk qr qs a τ ξ F, k⟩⟩)
theorem rcN_L0 {r : Int64} (C : Cx X cc RX5 nL D (gty cy) A lev cM sM) (hM : Con y cc' nL' ret lev' 0 0 D (gty cy) (.ref (va_up qn 9 a 12) :: as) (wX4 cy (va_up qn 9 a) (tw cy a τ) ξ.2.1) (eL (wX4 cy (va_up qn 9 a) (tw cy a τ) ξ.2.1) r)) (hw : MV y cc' nL' ret RX4 n) (hlk : Cond.methodLink RX5 idx y ∈ gT) (hlev : lev' + 1 ≤ lev) (hnL : nL' ≤ 21) (hcap : kc ≤ cM ∧ ks ≤ sM) (hn : as.length = n) (hstk : stk = as.reverse ++ .ref (va_up qn 9 a 12) :: st) (hW : (st.map fun v => v.category).sum ≤ 8) (hdg : decode cc pc = .ok (.invokevirtual idx, 3)) (k : At X D A nL kc ks (pc + 3) lv (.long r :: st) (wX5 cy q qn qt qk qr qs a τ ξ)) : At X D A nL kc ks pc lv stk (wX5 cy q qn qt qk qr qs a τ ξ) :=
  rcN_L C hM hw hlk hlev hnL hcap hn hstk hW hdg k
theorem rcN_V (C : Cx X cc RX5 nL D (gty cy) A lev cM sM) (hM : Con y cc' nL' ret lev' 0 0 D (gty cy) (.ref (va_up qn 9 a 12) :: as) (wX4 cy (va_up qn 9 a) (tw cy a τ) ξ.2.1) (eV (wX4 cy (va_up qn 9 a) (tw cy a τ) F))) (hw : MV y cc' nL' ret RX4 n) (hlk : Cond.methodLink RX5 idx y ∈ gT) (hlev : lev' + 1 ≤ lev) (hnL : nL' ≤ 21) (hcap : kc ≤ cM ∧ ks ≤ sM) (hn : as.length = n) (hstk : stk = as.reverse ++ .ref (va_up qn 9 a 12) :: st) (hW : (st.map fun v => v.category).sum ≤ 8) (hdg : decode cc pc = .ok (.invokevirtual idx, 3)) (k : At X D A nL kc ks (pc + 3) lv (st) (wX5 cy q qn qt qk qr qs a τ (xN ξ F))) : At X D A nL kc ks pc lv stk (wX5 cy q qn qt qk qr qs a τ ξ) :=
  r_callW C hM hw hlk hlev hnL hcap (q0 := 0) (ci := 3) rfl rfl _ plN ndN hn hstk hW hdg (fun v w hp => ⟨wX5 cy q qn qt qk qr qs a τ (xN ξ F), by obtain ⟨rfl, rfl⟩ := hp; exact ⟨putN cy q qn qt qk qr qs a τ ξ F, k⟩⟩)
theorem plT : ([8, 9, 10, 11, 12, 13, 14] ++ List.range' 35 (tw cy a τ).length).map (fun i => (wX5 cy q qn qt qk qr qs a τ ξ)[i]?) = (wX4 cy (va_up qt 9 a) (tw cy a τ) ξ.2.2.1).map some := pl_app (h := hX5 cy q qn qt qk qr qs a ξ) (tail := tw cy a τ) (sub := [(va_up qt 9 a 12, .inr (3, fX4 (va_up qt 9 a) ξ.2.2.1)), (va_up qt 9 a 0, .inl (cy 0, 5, .inl (ξ.2.2.1.2.2.1 0))), (va_up qt 9 a 1, .inl (cy 0, 5, .inl (ξ.2.2.1.2.2.1 1))), (va_up qt 9 a 2, .inl (cy 0, 5, .inl (ξ.2.2.1.2.2.1 2))), (va_up qt 9 a 3, .inl (cy 1, 5, .inr (.inl (ξ.2.2.1.2.2.2 3)))), (va_up qt 9 a 10, .inl (cy 0, 6, .inl (ξ.2.2.1.2.2.1 10))), (va_up qt 9 a 11, .inl (cy 0, 160, .inl (ξ.2.2.1.2.2.1 11)))]) rfl
theorem ndT : va_nd ([8, 9, 10, 11, 12, 13, 14] ++ List.range' 35 (tw cy a τ).length) = true := nd_app rfl (by decide)
theorem rcT_I {r : Int32} (C : Cx X cc RX5 nL D (gty cy) A lev cM sM) (hM : Con y cc' nL' ret lev' 0 0 D (gty cy) (.ref (va_up qt 9 a 12) :: as) (wX4 cy (va_up qt 9 a) (tw cy a τ) ξ.2.2.1) (eI (wX4 cy (va_up qt 9 a) (tw cy a τ) F) r)) (hw : MV y cc' nL' ret RX4 n) (hlk : Cond.methodLink RX5 idx y ∈ gT) (hlev : lev' + 1 ≤ lev) (hnL : nL' ≤ 21) (hcap : kc ≤ cM ∧ ks ≤ sM) (hn : as.length = n) (hstk : stk = as.reverse ++ .ref (va_up qt 9 a 12) :: st) (hW : (st.map fun v => v.category).sum ≤ 8) (hdg : decode cc pc = .ok (.invokevirtual idx, 3)) (k : At X D A nL kc ks (pc + 3) lv (.int r :: st) (wX5 cy q qn qt qk qr qs a τ (xT ξ F))) : At X D A nL kc ks pc lv stk (wX5 cy q qn qt qk qr qs a τ ξ) :=
  r_callW C hM hw hlk hlev hnL hcap (q0 := 0) (ci := 3) rfl rfl _ plT ndT hn hstk hW hdg (fun v w hp => ⟨wX5 cy q qn qt qk qr qs a τ (xT ξ F), by obtain ⟨rfl, rfl⟩ := hp; exact ⟨putT cy q qn qt qk qr qs a τ ξ F, k⟩⟩)
theorem rcT_I0 {r : Int32} (C : Cx X cc RX5 nL D (gty cy) A lev cM sM) (hM : Con y cc' nL' ret lev' 0 0 D (gty cy) (.ref (va_up qt 9 a 12) :: as) (wX4 cy (va_up qt 9 a) (tw cy a τ) ξ.2.2.1) (eI (wX4 cy (va_up qt 9 a) (tw cy a τ) ξ.2.2.1) r)) (hw : MV y cc' nL' ret RX4 n) (hlk : Cond.methodLink RX5 idx y ∈ gT) (hlev : lev' + 1 ≤ lev) (hnL : nL' ≤ 21) (hcap : kc ≤ cM ∧ ks ≤ sM) (hn : as.length = n) (hstk : stk = as.reverse ++ .ref (va_up qt 9 a 12) :: st) (hW : (st.map fun v => v.category).sum ≤ 8) (hdg : decode cc pc = .ok (.invokevirtual idx, 3)) (k : At X D A nL kc ks (pc + 3) lv (.int r :: st) (wX5 cy q qn qt qk qr qs a τ ξ)) : At X D A nL kc ks pc lv stk (wX5 cy q qn qt qk qr qs a τ ξ) :=
  rcT_I C hM hw hlk hlev hnL hcap hn hstk hW hdg k
theorem rcT_L {r : Int64} (C : Cx X cc RX5 nL D (gty cy) A lev cM sM) (hM : Con y cc' nL' ret lev' 0 0 D (gty cy) (.ref (va_up qt 9 a 12) :: as) (wX4 cy (va_up qt 9 a) (tw cy a τ) ξ.2.2.1) (eL (wX4 cy (va_up qt 9 a) (tw cy a τ) F) r)) (hw : MV y cc' nL' ret RX4 n) (hlk : Cond.methodLink RX5 idx y ∈ gT) (hlev : lev' + 1 ≤ lev) (hnL : nL' ≤ 21) (hcap : kc ≤ cM ∧ ks ≤ sM) (hn : as.length = n) (hstk : stk = as.reverse ++ .ref (va_up qt 9 a 12) :: st) (hW : (st.map fun v => v.category).sum ≤ 8) (hdg : decode cc pc = .ok (.invokevirtual idx, 3)) (k : At X D A nL kc ks (pc + 3) lv (.long r :: st) (wX5 cy q qn qt qk qr qs a τ (xT ξ F))) : At X D A nL kc ks pc lv stk (wX5 cy q qn qt qk qr qs a τ ξ) :=
  r_callW C hM hw hlk hlev hnL hcap (q0 := 0) (ci := 3) rfl rfl _ plT ndT hn hstk hW hdg (fun v w hp => ⟨wX5 cy q qn qt qk qr qs a τ (xT ξ F), by obtain ⟨rfl, rfl⟩ := hp; exact ⟨putT cy q qn qt qk qr qs a τ ξ F, k⟩⟩)
theorem rcT_L0 {r : Int64} (C : Cx X cc RX5 nL D (gty cy) A lev cM sM) (hM : Con y cc' nL' ret lev' 0 0 D (gty cy) (.ref (va_up qt 9 a 12) :: as) (wX4 cy (va_up qt 9 a) (tw cy a τ) ξ.2.2.1) (eL (wX4 cy (va_up qt 9 a) (tw cy a τ) ξ.2.2.1) r)) (hw : MV y cc' nL' ret RX4 n) (hlk : Cond.methodLink RX5 idx y ∈ gT) (hlev : lev' + 1 ≤ lev) (hnL : nL' ≤ 21) (hcap : kc ≤ cM ∧ ks ≤ sM) (hn : as.length = n) (hstk : stk = as.reverse ++ .ref (va_up qt 9 a 12) :: st) (hW : (st.map fun v => v.category).sum ≤ 8) (hdg : decode cc pc = .ok (.invokevirtual idx, 3)) (k : At X D A nL kc ks (pc + 3) lv (.long r :: st) (wX5 cy q qn qt qk qr qs a τ ξ)) : At X D A nL kc ks pc lv stk (wX5 cy q qn qt qk qr qs a τ ξ) :=
  rcT_L C hM hw hlk hlev hnL hcap hn hstk hW hdg k
theorem rcT_V (C : Cx X cc RX5 nL D (gty cy) A lev cM sM) (hM : Con y cc' nL' ret lev' 0 0 D (gty cy) (.ref (va_up qt 9 a 12) :: as) (wX4 cy (va_up qt 9 a) (tw cy a τ) ξ.2.2.1) (eV (wX4 cy (va_up qt 9 a) (tw cy a τ) F))) (hw : MV y cc' nL' ret RX4 n) (hlk : Cond.methodLink RX5 idx y ∈ gT) (hlev : lev' + 1 ≤ lev) (hnL : nL' ≤ 21) (hcap : kc ≤ cM ∧ ks ≤ sM) (hn : as.length = n) (hstk : stk = as.reverse ++ .ref (va_up qt 9 a 12) :: st) (hW : (st.map fun v => v.category).sum ≤ 8) (hdg : decode cc pc = .ok (.invokevirtual idx, 3)) (k : At X D A nL kc ks (pc + 3) lv (st) (wX5 cy q qn qt qk qr qs a τ (xT ξ F))) : At X D A nL kc ks pc lv stk (wX5 cy q qn qt qk qr qs a τ ξ) :=
  r_callW C hM hw hlk hlev hnL hcap (q0 := 0) (ci := 3) rfl rfl _ plT ndT hn hstk hW hdg (fun v w hp => ⟨wX5 cy q qn qt qk qr qs a τ (xT ξ F), by obtain ⟨rfl, rfl⟩ := hp; exact ⟨putT cy q qn qt qk qr qs a τ ξ F, k⟩⟩)
theorem plK : ([15, 16, 17, 18, 19, 20, 21] ++ List.range' 35 (tw cy a τ).length).map (fun i => (wX5 cy q qn qt qk qr qs a τ ξ)[i]?) = (wX4 cy (va_up qk 9 a) (tw cy a τ) ξ.2.2.2.1).map some := pl_app (h := hX5 cy q qn qt qk qr qs a ξ) (tail := tw cy a τ) (sub := [(va_up qk 9 a 12, .inr (3, fX4 (va_up qk 9 a) ξ.2.2.2.1)), (va_up qk 9 a 0, .inl (cy 0, 5, .inl (ξ.2.2.2.1.2.2.1 0))), (va_up qk 9 a 1, .inl (cy 0, 5, .inl (ξ.2.2.2.1.2.2.1 1))), (va_up qk 9 a 2, .inl (cy 0, 5, .inl (ξ.2.2.2.1.2.2.1 2))), (va_up qk 9 a 3, .inl (cy 1, 5, .inr (.inl (ξ.2.2.2.1.2.2.2 3)))), (va_up qk 9 a 10, .inl (cy 0, 6, .inl (ξ.2.2.2.1.2.2.1 10))), (va_up qk 9 a 11, .inl (cy 0, 160, .inl (ξ.2.2.2.1.2.2.1 11)))]) rfl
theorem ndK : va_nd ([15, 16, 17, 18, 19, 20, 21] ++ List.range' 35 (tw cy a τ).length) = true := nd_app rfl (by decide)
theorem rcK_I {r : Int32} (C : Cx X cc RX5 nL D (gty cy) A lev cM sM) (hM : Con y cc' nL' ret lev' 0 0 D (gty cy) (.ref (va_up qk 9 a 12) :: as) (wX4 cy (va_up qk 9 a) (tw cy a τ) ξ.2.2.2.1) (eI (wX4 cy (va_up qk 9 a) (tw cy a τ) F) r)) (hw : MV y cc' nL' ret RX4 n) (hlk : Cond.methodLink RX5 idx y ∈ gT) (hlev : lev' + 1 ≤ lev) (hnL : nL' ≤ 21) (hcap : kc ≤ cM ∧ ks ≤ sM) (hn : as.length = n) (hstk : stk = as.reverse ++ .ref (va_up qk 9 a 12) :: st) (hW : (st.map fun v => v.category).sum ≤ 8) (hdg : decode cc pc = .ok (.invokevirtual idx, 3)) (k : At X D A nL kc ks (pc + 3) lv (.int r :: st) (wX5 cy q qn qt qk qr qs a τ (xK ξ F))) : At X D A nL kc ks pc lv stk (wX5 cy q qn qt qk qr qs a τ ξ) :=
  r_callW C hM hw hlk hlev hnL hcap (q0 := 0) (ci := 3) rfl rfl _ plK ndK hn hstk hW hdg (fun v w hp => ⟨wX5 cy q qn qt qk qr qs a τ (xK ξ F), by obtain ⟨rfl, rfl⟩ := hp; exact ⟨putK cy q qn qt qk qr qs a τ ξ F, k⟩⟩)
theorem rcK_I0 {r : Int32} (C : Cx X cc RX5 nL D (gty cy) A lev cM sM) (hM : Con y cc' nL' ret lev' 0 0 D (gty cy) (.ref (va_up qk 9 a 12) :: as) (wX4 cy (va_up qk 9 a) (tw cy a τ) ξ.2.2.2.1) (eI (wX4 cy (va_up qk 9 a) (tw cy a τ) ξ.2.2.2.1) r)) (hw : MV y cc' nL' ret RX4 n) (hlk : Cond.methodLink RX5 idx y ∈ gT) (hlev : lev' + 1 ≤ lev) (hnL : nL' ≤ 21) (hcap : kc ≤ cM ∧ ks ≤ sM) (hn : as.length = n) (hstk : stk = as.reverse ++ .ref (va_up qk 9 a 12) :: st) (hW : (st.map fun v => v.category).sum ≤ 8) (hdg : decode cc pc = .ok (.invokevirtual idx, 3)) (k : At X D A nL kc ks (pc + 3) lv (.int r :: st) (wX5 cy q qn qt qk qr qs a τ ξ)) : At X D A nL kc ks pc lv stk (wX5 cy q qn qt qk qr qs a τ ξ) :=
  rcK_I C hM hw hlk hlev hnL hcap hn hstk hW hdg k
theorem rcK_L {r : Int64} (C : Cx X cc RX5 nL D (gty cy) A lev cM sM) (hM : Con y cc' nL' ret lev' 0 0 D (gty cy) (.ref (va_up qk 9 a 12) :: as) (wX4 cy (va_up qk 9 a) (tw cy a τ) ξ.2.2.2.1) (eL (wX4 cy (va_up qk 9 a) (tw cy a τ) F) r)) (hw : MV y cc' nL' ret RX4 n) (hlk : Cond.methodLink RX5 idx y ∈ gT) (hlev : lev' + 1 ≤ lev) (hnL : nL' ≤ 21) (hcap : kc ≤ cM ∧ ks ≤ sM) (hn : as.length = n) (hstk : stk = as.reverse ++ .ref (va_up qk 9 a 12) :: st) (hW : (st.map fun v => v.category).sum ≤ 8) (hdg : decode cc pc = .ok (.invokevirtual idx, 3)) (k : At X D A nL kc ks (pc + 3) lv (.long r :: st) (wX5 cy q qn qt qk qr qs a τ (xK ξ F))) : At X D A nL kc ks pc lv stk (wX5 cy q qn qt qk qr qs a τ ξ) :=
  r_callW C hM hw hlk hlev hnL hcap (q0 := 0) (ci := 3) rfl rfl _ plK ndK hn hstk hW hdg (fun v w hp => ⟨wX5 cy q qn qt qk qr qs a τ (xK ξ F), by obtain ⟨rfl, rfl⟩ := hp; exact ⟨putK cy q qn qt qk qr qs a τ ξ F, k⟩⟩)
theorem rcK_L0 {r : Int64} (C : Cx X cc RX5 nL D (gty cy) A lev cM sM) (hM : Con y cc' nL' ret lev' 0 0 D (gty cy) (.ref (va_up qk 9 a 12) :: as) (wX4 cy (va_up qk 9 a) (tw cy a τ) ξ.2.2.2.1) (eL (wX4 cy (va_up qk 9 a) (tw cy a τ) ξ.2.2.2.1) r)) (hw : MV y cc' nL' ret RX4 n) (hlk : Cond.methodLink RX5 idx y ∈ gT) (hlev : lev' + 1 ≤ lev) (hnL : nL' ≤ 21) (hcap : kc ≤ cM ∧ ks ≤ sM) (hn : as.length = n) (hstk : stk = as.reverse ++ .ref (va_up qk 9 a 12) :: st) (hW : (st.map fun v => v.category).sum ≤ 8) (hdg : decode cc pc = .ok (.invokevirtual idx, 3)) (k : At X D A nL kc ks (pc + 3) lv (.long r :: st) (wX5 cy q qn qt qk qr qs a τ ξ)) : At X D A nL kc ks pc lv stk (wX5 cy q qn qt qk qr qs a τ ξ) :=
  rcK_L C hM hw hlk hlev hnL hcap hn hstk hW hdg k
theorem rcK_V (C : Cx X cc RX5 nL D (gty cy) A lev cM sM) (hM : Con y cc' nL' ret lev' 0 0 D (gty cy) (.ref (va_up qk 9 a 12) :: as) (wX4 cy (va_up qk 9 a) (tw cy a τ) ξ.2.2.2.1) (eV (wX4 cy (va_up qk 9 a) (tw cy a τ) F))) (hw : MV y cc' nL' ret RX4 n) (hlk : Cond.methodLink RX5 idx y ∈ gT) (hlev : lev' + 1 ≤ lev) (hnL : nL' ≤ 21) (hcap : kc ≤ cM ∧ ks ≤ sM) (hn : as.length = n) (hstk : stk = as.reverse ++ .ref (va_up qk 9 a 12) :: st) (hW : (st.map fun v => v.category).sum ≤ 8) (hdg : decode cc pc = .ok (.invokevirtual idx, 3)) (k : At X D A nL kc ks (pc + 3) lv (st) (wX5 cy q qn qt qk qr qs a τ (xK ξ F))) : At X D A nL kc ks pc lv stk (wX5 cy q qn qt qk qr qs a τ ξ) :=
  r_callW C hM hw hlk hlev hnL hcap (q0 := 0) (ci := 3) rfl rfl _ plK ndK hn hstk hW hdg (fun v w hp => ⟨wX5 cy q qn qt qk qr qs a τ (xK ξ F), by obtain ⟨rfl, rfl⟩ := hp; exact ⟨putK cy q qn qt qk qr qs a τ ξ F, k⟩⟩)
theorem rcR_I {r : Int32} (C : Cx X cc RX5 nL D (gty cy) A lev cM sM) (hM : Con y cc' nL' ret lev' 0 0 D (gty cy) (.ref (qr 11) :: as) (wX0 cy qr ξ.2.2.2.2.1) (eI (wX0 cy qr F) r)) (hw : MV y cc' nL' ret RX0 n) (hlk : Cond.methodLink RX5 idx y ∈ gT) (hlev : lev' + 1 ≤ lev) (hnL : nL' ≤ 21) (hcap : kc ≤ cM ∧ ks ≤ sM) (hn : as.length = n) (hstk : stk = as.reverse ++ .ref (qr 11) :: st) (hW : (st.map fun v => v.category).sum ≤ 8) (hdg : decode cc pc = .ok (.invokevirtual idx, 3)) (k : At X D A nL kc ks (pc + 3) lv (.int r :: st) (wX5 cy q qn qt qk qr qs a τ (xR ξ F))) : At X D A nL kc ks pc lv stk (wX5 cy q qn qt qk qr qs a τ ξ) :=
  r_callW C hM hw hlk hlev hnL hcap (q0 := 0) (ci := 0) rfl rfl [22, 23, 24, 25] rfl rfl hn hstk hW hdg (fun v w hp => ⟨wX5 cy q qn qt qk qr qs a τ (xR ξ F), by obtain ⟨rfl, rfl⟩ := hp; exact ⟨putR cy q qn qt qk qr qs a τ ξ F, k⟩⟩)
theorem rcR_V (C : Cx X cc RX5 nL D (gty cy) A lev cM sM) (hM : Con y cc' nL' ret lev' 0 0 D (gty cy) (.ref (qr 11) :: as) (wX0 cy qr ξ.2.2.2.2.1) (eV (wX0 cy qr F))) (hw : MV y cc' nL' ret RX0 n) (hlk : Cond.methodLink RX5 idx y ∈ gT) (hlev : lev' + 1 ≤ lev) (hnL : nL' ≤ 21) (hcap : kc ≤ cM ∧ ks ≤ sM) (hn : as.length = n) (hstk : stk = as.reverse ++ .ref (qr 11) :: st) (hW : (st.map fun v => v.category).sum ≤ 8) (hdg : decode cc pc = .ok (.invokevirtual idx, 3)) (k : At X D A nL kc ks (pc + 3) lv (st) (wX5 cy q qn qt qk qr qs a τ (xR ξ F))) : At X D A nL kc ks pc lv stk (wX5 cy q qn qt qk qr qs a τ ξ) :=
  r_callW C hM hw hlk hlev hnL hcap (q0 := 0) (ci := 0) rfl rfl [22, 23, 24, 25] rfl rfl hn hstk hW hdg (fun v w hp => ⟨wX5 cy q qn qt qk qr qs a τ (xR ξ F), by obtain ⟨rfl, rfl⟩ := hp; exact ⟨putR cy q qn qt qk qr qs a τ ξ F, k⟩⟩)
theorem rcR_I0 {r : Int32} (C : Cx X cc RX5 nL D (gty cy) A lev cM sM) (hM : Con y cc' nL' ret lev' 0 0 D (gty cy) (.ref (qr 11) :: as) (wX0 cy qr ξ.2.2.2.2.1) (eI (wX0 cy qr ξ.2.2.2.2.1) r)) (hw : MV y cc' nL' ret RX0 n) (hlk : Cond.methodLink RX5 idx y ∈ gT) (hlev : lev' + 1 ≤ lev) (hnL : nL' ≤ 21) (hcap : kc ≤ cM ∧ ks ≤ sM) (hn : as.length = n) (hstk : stk = as.reverse ++ .ref (qr 11) :: st) (hW : (st.map fun v => v.category).sum ≤ 8) (hdg : decode cc pc = .ok (.invokevirtual idx, 3)) (k : At X D A nL kc ks (pc + 3) lv (.int r :: st) (wX5 cy q qn qt qk qr qs a τ ξ)) : At X D A nL kc ks pc lv stk (wX5 cy q qn qt qk qr qs a τ ξ) :=
  rcR_I C hM hw hlk hlev hnL hcap hn hstk hW hdg k
theorem plS {si : Nat} (h : si < 4) : ([27 + 2 * si, 28 + 2 * si] : List Nat).map (fun i => (wX5 cy q qn qt qk qr qs a τ ξ)[i]?) = (wX1 cy (qs si) (ξ.2.2.2.2.2 si)).map some := by
  simp only [List.map_cons, List.map_nil, sh_obj h, sh_arr h]
  rfl
theorem ndS (si : Nat) : va_nd [27 + 2 * si, 28 + 2 * si] = true := by
  simp only [va_nd]
  simp
theorem rcS_I {si : Nat} {r : Int32} (C : Cx X cc RX5 nL D (gty cy) A lev cM sM) (hs : si < 4) (hM : Con y cc' nL' ret lev' 0 0 D (gty cy) (.ref (qs si 3) :: as) (wX1 cy (qs si) (ξ.2.2.2.2.2 si)) (eI (wX1 cy (qs si) F) r)) (hw : MV y cc' nL' ret RX1 n) (hlk : Cond.methodLink RX5 idx y ∈ gT) (hlev : lev' + 1 ≤ lev) (hnL : nL' ≤ 21) (hcap : kc ≤ cM ∧ ks ≤ sM) (hn : as.length = n) (hstk : stk = as.reverse ++ .ref (qs si 3) :: st) (hW : (st.map fun v => v.category).sum ≤ 8) (hdg : decode cc pc = .ok (.invokevirtual idx, 3)) (k : At X D A nL kc ks (pc + 3) lv (.int r :: st) (wX5 cy q qn qt qk qr qs a τ (xS ξ si F))) : At X D A nL kc ks pc lv stk (wX5 cy q qn qt qk qr qs a τ ξ) :=
  r_callW C hM hw hlk hlev hnL hcap (q0 := 0) (ci := 1) rfl rfl [27 + 2 * si, 28 + 2 * si] (plS hs) (ndS si) hn hstk hW hdg (fun v w hp => ⟨wX5 cy q qn qt qk qr qs a τ (xS ξ si F), by obtain ⟨rfl, rfl⟩ := hp; exact ⟨putS cy q qn qt qk qr qs a τ ξ F hs, k⟩⟩)
theorem rcS_V {si : Nat} (C : Cx X cc RX5 nL D (gty cy) A lev cM sM) (hs : si < 4) (hM : Con y cc' nL' ret lev' 0 0 D (gty cy) (.ref (qs si 3) :: as) (wX1 cy (qs si) (ξ.2.2.2.2.2 si)) (eV (wX1 cy (qs si) F))) (hw : MV y cc' nL' ret RX1 n) (hlk : Cond.methodLink RX5 idx y ∈ gT) (hlev : lev' + 1 ≤ lev) (hnL : nL' ≤ 21) (hcap : kc ≤ cM ∧ ks ≤ sM) (hn : as.length = n) (hstk : stk = as.reverse ++ .ref (qs si 3) :: st) (hW : (st.map fun v => v.category).sum ≤ 8) (hdg : decode cc pc = .ok (.invokevirtual idx, 3)) (k : At X D A nL kc ks (pc + 3) lv (st) (wX5 cy q qn qt qk qr qs a τ (xS ξ si F))) : At X D A nL kc ks pc lv stk (wX5 cy q qn qt qk qr qs a τ ξ) :=
  r_callW C hM hw hlk hlev hnL hcap (q0 := 0) (ci := 1) rfl rfl [27 + 2 * si, 28 + 2 * si] (plS hs) (ndS si) hn hstk hW hdg (fun v w hp => ⟨wX5 cy q qn qt qk qr qs a τ (xS ξ si F), by obtain ⟨rfl, rfl⟩ := hp; exact ⟨putS cy q qn qt qk qr qs a τ ξ F hs, k⟩⟩)
theorem putS_same {si : Nat} (h : si < 4) : Put [27 + 2 * si, 28 + 2 * si] (wX5 cy q qn qt qk qr qs a τ ξ) (wX1 cy (qs si) (ξ.2.2.2.2.2 si)) (wX5 cy q qn qt qk qr qs a τ ξ) := by
  refine ⟨rfl, fun i c hi => ?_⟩
  by_cases h1 : i = 27 + 2 * si
  · subst h1
    rw [sh_obj h] at hi
    exact Or.inl ⟨by simp, by rw [← Option.some.inj hi]; exact List.mem_of_getElem? (i := 0) rfl⟩
  · by_cases h2 : i = 28 + 2 * si
    · subst h2
      rw [sh_arr h] at hi
      exact Or.inl ⟨by simp, by rw [← Option.some.inj hi]; exact List.mem_of_getElem? (i := 1) rfl⟩
    · exact Or.inr ⟨by simp [h1, h2], hi⟩
theorem rcS_I0 {si : Nat} {r : Int32} (C : Cx X cc RX5 nL D (gty cy) A lev cM sM) (hs : si < 4) (hM : Con y cc' nL' ret lev' 0 0 D (gty cy) (.ref (qs si 3) :: as) (wX1 cy (qs si) (ξ.2.2.2.2.2 si)) (eI (wX1 cy (qs si) (ξ.2.2.2.2.2 si)) r)) (hw : MV y cc' nL' ret RX1 n) (hlk : Cond.methodLink RX5 idx y ∈ gT) (hlev : lev' + 1 ≤ lev) (hnL : nL' ≤ 21) (hcap : kc ≤ cM ∧ ks ≤ sM) (hn : as.length = n) (hstk : stk = as.reverse ++ .ref (qs si 3) :: st) (hW : (st.map fun v => v.category).sum ≤ 8) (hdg : decode cc pc = .ok (.invokevirtual idx, 3)) (k : At X D A nL kc ks (pc + 3) lv (.int r :: st) (wX5 cy q qn qt qk qr qs a τ ξ)) : At X D A nL kc ks pc lv stk (wX5 cy q qn qt qk qr qs a τ ξ) :=
  r_callW C hM hw hlk hlev hnL hcap (q0 := 0) (ci := 1) rfl rfl [27 + 2 * si, 28 + 2 * si] (plS hs) (ndS si) hn hstk hW hdg (fun v w hp => ⟨wX5 cy q qn qt qk qr qs a τ ξ, by obtain ⟨rfl, rfl⟩ := hp; exact ⟨putS_same hs, k⟩⟩)
theorem rcB_TN (C : Cx X cc RX5 nL D (gty cy) A lev cM sM) (hM : Con y cc' nL' ret lev' 0 0 D (gty cy) (.ref (va_up qt 9 a 12) :: as) (wB cy (va_up qt 9 a) (va_up qn 9 a) ξ.2.1 ξ.2.2.1) (eV (wB cy (va_up qt 9 a) (va_up qn 9 a) ξ.2.1 F))) (hw : MV y cc' nL' ret RX4 n) (hlk : Cond.methodLink RX5 idx y ∈ gT) (hlev : lev' + 1 ≤ lev) (hnL : nL' ≤ 21) (hcap : kc ≤ cM ∧ ks ≤ sM) (hn : as.length = n) (hstk : stk = as.reverse ++ .ref (va_up qt 9 a 12) :: st) (hW : (st.map fun v => v.category).sum ≤ 8) (hdg : decode cc pc = .ok (.invokevirtual idx, 3)) (k : At X D A nL kc ks (pc + 3) lv st (wX5 cy q qn qt qk qr qs a τ (xT ξ (oB4 ξ.2.2.1 F)))) : At X D A nL kc ks pc lv stk (wX5 cy q qn qt qk qr qs a τ ξ) :=
  r_callW C hM hw hlk hlev hnL hcap (q0 := 0) (ci := 3) rfl rfl ([8, 9, 10, 11, 12] ++ [1, 2, 3, 4, 5]) rfl rfl hn hstk hW hdg (fun v w hp => ⟨wX5 cy q qn qt qk qr qs a τ (xT ξ (oB4 ξ.2.2.1 F)), by obtain ⟨rfl, rfl⟩ := hp; exact ⟨putTN cy q qn qt qk qr qs a τ ξ F, k⟩⟩)
theorem rcB_KN (C : Cx X cc RX5 nL D (gty cy) A lev cM sM) (hM : Con y cc' nL' ret lev' 0 0 D (gty cy) (.ref (va_up qk 9 a 12) :: as) (wB cy (va_up qk 9 a) (va_up qn 9 a) ξ.2.1 ξ.2.2.2.1) (eV (wB cy (va_up qk 9 a) (va_up qn 9 a) ξ.2.1 F))) (hw : MV y cc' nL' ret RX4 n) (hlk : Cond.methodLink RX5 idx y ∈ gT) (hlev : lev' + 1 ≤ lev) (hnL : nL' ≤ 21) (hcap : kc ≤ cM ∧ ks ≤ sM) (hn : as.length = n) (hstk : stk = as.reverse ++ .ref (va_up qk 9 a 12) :: st) (hW : (st.map fun v => v.category).sum ≤ 8) (hdg : decode cc pc = .ok (.invokevirtual idx, 3)) (k : At X D A nL kc ks (pc + 3) lv st (wX5 cy q qn qt qk qr qs a τ (xK ξ (oB4 ξ.2.2.2.1 F)))) : At X D A nL kc ks pc lv stk (wX5 cy q qn qt qk qr qs a τ ξ) :=
  r_callW C hM hw hlk hlev hnL hcap (q0 := 0) (ci := 3) rfl rfl ([15, 16, 17, 18, 19] ++ [1, 2, 3, 4, 5]) rfl rfl hn hstk hW hdg (fun v w hp => ⟨wX5 cy q qn qt qk qr qs a τ (xK ξ (oB4 ξ.2.2.2.1 F)), by obtain ⟨rfl, rfl⟩ := hp; exact ⟨putKN cy q qn qt qk qr qs a τ ξ F, k⟩⟩)
theorem rcB_NK (C : Cx X cc RX5 nL D (gty cy) A lev cM sM) (hM : Con y cc' nL' ret lev' 0 0 D (gty cy) (.ref (va_up qn 9 a 12) :: as) (wB cy (va_up qn 9 a) (va_up qk 9 a) ξ.2.2.2.1 ξ.2.1) (eV (wB cy (va_up qn 9 a) (va_up qk 9 a) ξ.2.2.2.1 F))) (hw : MV y cc' nL' ret RX4 n) (hlk : Cond.methodLink RX5 idx y ∈ gT) (hlev : lev' + 1 ≤ lev) (hnL : nL' ≤ 21) (hcap : kc ≤ cM ∧ ks ≤ sM) (hn : as.length = n) (hstk : stk = as.reverse ++ .ref (va_up qn 9 a 12) :: st) (hW : (st.map fun v => v.category).sum ≤ 8) (hdg : decode cc pc = .ok (.invokevirtual idx, 3)) (k : At X D A nL kc ks (pc + 3) lv st (wX5 cy q qn qt qk qr qs a τ (xN ξ (oB4 ξ.2.1 F)))) : At X D A nL kc ks pc lv stk (wX5 cy q qn qt qk qr qs a τ ξ) :=
  r_callW C hM hw hlk hlev hnL hcap (q0 := 0) (ci := 3) rfl rfl ([1, 2, 3, 4, 5] ++ [15, 16, 17, 18, 19]) rfl rfl hn hstk hW hdg (fun v w hp => ⟨wX5 cy q qn qt qk qr qs a τ (xN ξ (oB4 ξ.2.1 F)), by obtain ⟨rfl, rfl⟩ := hp; exact ⟨putNK cy q qn qt qk qr qs a τ ξ F, k⟩⟩)
theorem r_shs (C : Cx X cc RX5 nL D (gty cy) A lev cM sM) {i : Int32} {si : Nat} (h1 : vp_in i 4) (h2 : i.toNatClampNeg = si) (hdg : decode cc pc = .ok (.aaload, 1)) (k : At X D A nL kc ks (pc + 1) lv (.ref (qs si 3) :: st) (wX5 cy q qn qt qk qr qs a τ ξ)) : At X D A nL kc ks pc lv (.int i :: .ref (q 5) :: st) (wX5 cy q qn qt qk qr qs a τ ξ) := by
  subst h2
  refine r_aald C 26 3 rfl rfl h1 hdg ?_
  have h4 : i.toNatClampNeg < 4 := Nat.lt_of_not_le (fun h => h1 (Or.inr h))
  show At X D A nL kc ks (pc + 1) lv (va_rf (if i.toNatClampNeg < 4 then some (qs i.toNatClampNeg 3) else none) :: st) _
  rw [if_pos h4]
  exact k
theorem cpS (cy : Nat → ClassId) (q qn qt qk qr : Nat → Nat) (qs : Nat → Nat → Nat) (a : Nat) (τ : TX) (ξ : XS) {sj : Nat} (h : sj < 4) (f : Nat → Int32) : (wX5 cy q qn qt qk qr qs a τ ξ).set (28 + 2 * sj) (qs sj 0, .inl (cy 0, 40, .inl f)) = wX5 cy q qn qt qk qr qs a τ (xS ξ sj (oAr (ξ.2.2.2.2.2 sj) 0 f)) := by
  match sj, h with
  | 0, _ => rfl
  | 1, _ => rfl
  | 2, _ => rfl
  | 3, _ => rfl
set_option maxHeartbeats 1000000 in
theorem r_acopy (C : Cx X cc RX5 nL D (gty cy) A lev cM sM) {si sj : Nat} (hs : si < 4) (ht : sj < 4) {sp dp m : Int32} (h1 : ¬ sp < 0) (h2 : ¬ dp < 0) (h3 : ¬ m < 0) (h4 : sp.toNatClampNeg + m.toNatClampNeg ≤ 40) (h5 : dp.toNatClampNeg + m.toNatClampNeg ≤ 40) (hlk : Cond.methodLink RX5 idx arraycopyName ∈ gT) (hlev : 0 + 1 ≤ lev) (hW : (st.map fun v => v.category).sum ≤ 8) (hdg : decode cc pc = .ok (.invokestatic idx, 3))
    (k : At X D A nL kc ks (pc + 3) lv st (wX5 cy q qn qt qk qr qs a τ (xS ξ sj (oAr (ξ.2.2.2.2.2 sj) 0 (va_cpy ((ξ.2.2.2.2.2 si).2.2.1 0) ((ξ.2.2.2.2.2 sj).2.2.1 0) sp.toNatClampNeg dp.toNatClampNeg m.toNatClampNeg))))) :
    At X D A nL kc ks pc lv (.int m :: .int dp :: .ref (qs sj 0) :: .int sp :: .ref (qs si 0) :: st) (wX5 cy q qn qt qk qr qs a τ ξ) := by
  intro H locs ls hP hD hS h
  have hl1 := C.2.2.2.2.2.2.2.1
  have hl2 := C.2.2.2.2.2.2.2.2.1
  refine va_copyi C.1 C.2.1 (C.2.2.1.trans h.1.symm) C.2.2.2.1 (C.2.2.2.2.1 _ hlk) (C.2.2.2.2.1 _ kz_native) (C.2.2.2.2.1 _ kz_static) (C.2.2.2.2.1 _ kn_J10) C.2.2.2.2.2.1 hP hD hS (28 + 2 * si) (28 + 2 * sj) 0 0 (sh_arr hs) (sh_arr ht) rfl rfl rfl h1 h2 h3 h4 h5 (fun _ _ => rfl) (by omega) (by have e : nativeFrameWords "java/lang/System" "arraycopy" 5 + 11 ≤ 32 := (by decide); omega) hdg (fun H1 locs1 hP1 hD1 hS1 => ?_)
  rw [cpS cy q qn qt qk qr qs a τ ξ ht] at hP1 hD1
  exact k H1 locs1 ls hP1 hD1 hS1 h
end MC

/-! calls of the usual forms: a static method that has no world; a method of the same object; kinds of objects -/
abbrev gty (cy : Nat → ClassId) : List (ClassId × FieldType) := [(cy 0, .int), (cy 1, .long), (cy 2, .boolean), (cy 3, .object RX1), (cy 4, .object RX2)]
abbrev bz (v : Int32) : Prop := narrow .boolean (.int v) = .int v
def fu : Nat := 1000
def o0 : OS := (fun _ => 0, fun _ => 0, fun _ _ => 0, fun _ _ => 0)
section Calls6
variable {X : CX} {cc : ByteArray} {own : String} {nL : Nat} {D : va_G} {tys : List (ClassId × FieldType)} {A : Nat → Prop} {lev cM sM kc ks pc : Nat} {lv lv' : List (Nat × Value)} {st stk : List Value} {ws ws' w' : va_W}
variable {y : MethodName} {cc' : ByteArray} {nL' lev' idx n : Nat} {ret : Option FieldType} {as : List Value} {CC : String} {b : Nat}
theorem va_nd_range' (n : Nat) : ∀ k, va_nd ((List.range' k n)) = true := by
  induction n with
  | zero => intro k; rfl
  | succ n ih =>
    intro k
    rw [List.range'_succ]
    simp only [va_nd, ih, Bool.and_true]
    simp
theorem all_places (ws : va_W) : (List.range ws.length).map (fun i => ws[i]?) = ws.map some := by
  apply List.ext_getElem?
  intro i
  simp only [List.getElem?_map, List.getElem?_range']
  by_cases h : i < ws.length
  · simp [h]
  · simp [h, List.getElem?_eq_none (Nat.not_lt.mp h)]
theorem all_places_f (ws : va_W) : (List.range ws.length).filterMap (fun i => ws[i]?) = ws := by
  have h := all_places ws
  have h2 : (List.range ws.length).filterMap (fun i => ws[i]?) = ((List.range ws.length).map (fun i => ws[i]?)).filterMap id := by
    rw [List.filterMap_map]; rfl
  rw [h2, h]
  simp
theorem va_nd_range (n : Nat) : va_nd (List.range n) = true := by rw [List.range_eq_range']; exact va_nd_range' n 0
theorem r_s0I {r : Int32} (C : Cx X cc own nL D tys A lev cM sM) (hM : Con y cc' nL' ret lev' 0 0 D tys as [] (eI [] r)) (hw : MS_ y cc' nL' ret n) (hlk : Cond.methodLink own idx y ∈ gT) (hlev : lev' + 1 ≤ lev) (hnL : nL' ≤ 21) (hcap : kc ≤ cM ∧ ks ≤ sM)
    (hn : as.length = n) (hstk : stk = as.reverse ++ st) (hW : (st.map fun v => v.category).sum ≤ 8) (hdg : decode cc pc = .ok (.invokestatic idx, 3)) (k : At X D A nL kc ks (pc + 3) lv (.int r :: st) ws) : At X D A nL kc ks pc lv stk ws :=
  r_callS C hM hw hlk hlev hnL hcap [] (List.range ws.length) rfl rfl rfl (all_places ws) (va_nd_range _) (fun _ _ h => by simp at h) hn hstk hW hdg (fun v w hp => by obtain ⟨rfl, rfl⟩ := hp; rw [List.append_nil]; exact k)
theorem r_s0L {r : Int64} (C : Cx X cc own nL D tys A lev cM sM) (hM : Con y cc' nL' ret lev' 0 0 D tys as [] (eL [] r)) (hw : MS_ y cc' nL' ret n) (hlk : Cond.methodLink own idx y ∈ gT) (hlev : lev' + 1 ≤ lev) (hnL : nL' ≤ 21) (hcap : kc ≤ cM ∧ ks ≤ sM)
    (hn : as.length = n) (hstk : stk = as.reverse ++ st) (hW : (st.map fun v => v.category).sum ≤ 8) (hdg : decode cc pc = .ok (.invokestatic idx, 3)) (k : At X D A nL kc ks (pc + 3) lv (.long r :: st) ws) : At X D A nL kc ks pc lv stk ws :=
  r_callS C hM hw hlk hlev hnL hcap [] (List.range ws.length) rfl rfl rfl (all_places ws) (va_nd_range _) (fun _ _ h => by simp at h) hn hstk hW hdg (fun v w hp => by obtain ⟨rfl, rfl⟩ := hp; rw [List.append_nil]; exact k)
theorem r_s0V (C : Cx X cc own nL D tys A lev cM sM) (hM : Con y cc' nL' ret lev' 0 0 D tys as [] (eV [])) (hw : MS_ y cc' nL' ret n) (hlk : Cond.methodLink own idx y ∈ gT) (hlev : lev' + 1 ≤ lev) (hnL : nL' ≤ 21) (hcap : kc ≤ cM ∧ ks ≤ sM)
    (hn : as.length = n) (hstk : stk = as.reverse ++ st) (hW : (st.map fun v => v.category).sum ≤ 8) (hdg : decode cc pc = .ok (.invokestatic idx, 3)) (k : At X D A nL kc ks (pc + 3) lv st ws) : At X D A nL kc ks pc lv stk ws :=
  r_callS C hM hw hlk hlev hnL hcap [] (List.range ws.length) rfl rfl rfl (all_places ws) (va_nd_range _) (fun _ _ h => by simp at h) hn hstk hW hdg (fun v w hp => by obtain ⟨rfl, rfl⟩ := hp; rw [List.append_nil]; exact k)
section Self
variable {ci : Nat} {fs : List Value} {T : u_T} {N : Nat}
theorem r_vI {r : Int32} (C : Cx X cc own nL D tys A lev cM sM) (hM : Con y cc' nL' ret lev' 0 0 D tys (.ref b :: as) ws (eI w' r)) (hw : MV y cc' nL' ret CC n) (hlk : Cond.methodLink own idx y ∈ gT) (hlev : lev' + 1 ≤ lev) (hnL : nL' ≤ 21) (hcap : kc ≤ cM ∧ ks ≤ sM)
    (hrc : vwCl[ci]? = some (CC, T, N)) (hre : ws[0]? = some (b, .inr (ci, fs))) (hn : as.length = n) (hstk : stk = as.reverse ++ .ref b :: st) (hW : (st.map fun v => v.category).sum ≤ 8) (hdg : decode cc pc = .ok (.invokevirtual idx, 3)) (k : At X D A nL kc ks (pc + 3) lv (.int r :: st) w') : At X D A nL kc ks pc lv stk ws :=
  r_callV C hM hw hlk hlev hnL hcap hrc hre (List.range ws.length) [] (all_places ws) (all_places_f ws) (va_nd_range _) (wr := []) rfl rfl (fun _ h => by simp at h) hn hstk hW hdg (fun v w hp => by obtain ⟨rfl, rfl⟩ := hp; exact k)
theorem r_vL {r : Int64} (C : Cx X cc own nL D tys A lev cM sM) (hM : Con y cc' nL' ret lev' 0 0 D tys (.ref b :: as) ws (eL w' r)) (hw : MV y cc' nL' ret CC n) (hlk : Cond.methodLink own idx y ∈ gT) (hlev : lev' + 1 ≤ lev) (hnL : nL' ≤ 21) (hcap : kc ≤ cM ∧ ks ≤ sM)
    (hrc : vwCl[ci]? = some (CC, T, N)) (hre : ws[0]? = some (b, .inr (ci, fs))) (hn : as.length = n) (hstk : stk = as.reverse ++ .ref b :: st) (hW : (st.map fun v => v.category).sum ≤ 8) (hdg : decode cc pc = .ok (.invokevirtual idx, 3)) (k : At X D A nL kc ks (pc + 3) lv (.long r :: st) w') : At X D A nL kc ks pc lv stk ws :=
  r_callV C hM hw hlk hlev hnL hcap hrc hre (List.range ws.length) [] (all_places ws) (all_places_f ws) (va_nd_range _) (wr := []) rfl rfl (fun _ h => by simp at h) hn hstk hW hdg (fun v w hp => by obtain ⟨rfl, rfl⟩ := hp; exact k)
theorem r_vV (C : Cx X cc own nL D tys A lev cM sM) (hM : Con y cc' nL' ret lev' 0 0 D tys (.ref b :: as) ws (eV w')) (hw : MV y cc' nL' ret CC n) (hlk : Cond.methodLink own idx y ∈ gT) (hlev : lev' + 1 ≤ lev) (hnL : nL' ≤ 21) (hcap : kc ≤ cM ∧ ks ≤ sM)
    (hrc : vwCl[ci]? = some (CC, T, N)) (hre : ws[0]? = some (b, .inr (ci, fs))) (hn : as.length = n) (hstk : stk = as.reverse ++ .ref b :: st) (hW : (st.map fun v => v.category).sum ≤ 8) (hdg : decode cc pc = .ok (.invokevirtual idx, 3)) (k : At X D A nL kc ks (pc + 3) lv st w') : At X D A nL kc ks pc lv stk ws :=
  r_callV C hM hw hlk hlev hnL hcap hrc hre (List.range ws.length) [] (all_places ws) (all_places_f ws) (va_nd_range _) (wr := []) rfl rfl (fun _ h => by simp at h) hn hstk hW hdg (fun v w hp => by obtain ⟨rfl, rfl⟩ := hp; exact k)
end Self
end Calls6
/-! switches -/
section Sw
variable {X : CX} {cc : ByteArray} {own : String} {nL : Nat} {D : va_G} {tys : List (ClassId × FieldType)} {A : Nat → Prop} {lev cM sM kc ks pc : Nat} {lv : List (Nat × Value)} {st : List Value} {ws : va_W}
theorem r_tsIn (C : Cx X cc own nL D tys A lev cM sM) {dflt lo hi off : Int} {offs : Array Int} {len tgt : Nat} {x : Int32} (j : Int32) (hdg : decode cc pc = .ok (.tableswitch dflt lo hi offs, len)) (hj : x = j) (h1 : ¬ j.toInt < lo) (h2 : ¬ hi < j.toInt) (ho : offs[(j.toInt - lo).toNat]? = some off) (ht : (pc : Int) + off = (tgt : Int)) (k : At X D A nL kc ks tgt lv st ws) : At X D A nL kc ks pc lv (.int x :: st) ws := by
  subst hj
  exact fun H locs ls hP hD hS hl => lv_tableIn C.1 C.2.1 hdg h1 h2 ho ht (k H locs ls hP hD hS hl)
theorem r_tsOut (C : Cx X cc own nL D tys A lev cM sM) {dflt lo hi : Int} {offs : Array Int} {len tgt : Nat} {x : Int32} (hdg : decode cc pc = .ok (.tableswitch dflt lo hi offs, len)) (h : x.toInt < lo ∨ hi < x.toInt) (ht : (pc : Int) + dflt = (tgt : Int)) (k : At X D A nL kc ks tgt lv st ws) : At X D A nL kc ks pc lv (.int x :: st) ws :=
  fun H locs ls hP hD hS hl => lv_tableOut C.1 C.2.1 hdg h ht (k H locs ls hP hD hS hl)
theorem ne_toInt {x j : Int32} (h : ¬ x = j) : ¬ x.toInt = j.toInt := fun g => h (Int32.toInt_inj.mp g)
end Sw

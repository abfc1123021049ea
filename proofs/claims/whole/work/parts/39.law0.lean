section Law0
theorem putTail {V w w' : va_W} (h : w'.map Prod.fst = w.map Prod.fst) : Put (List.range' V.length w.length) (V ++ w) w' (V ++ w') := by
  have hl : w'.length = w.length := by have := congrArg List.length h; simpa using this
  refine ⟨by rw [List.map_append, List.map_append, h], fun i c hi => ?_⟩
  by_cases h1 : i < V.length
  · rw [List.getElem?_append_left h1] at hi
    exact Or.inr ⟨by simp only [List.mem_range'_1]; omega, by rw [List.getElem?_append_left h1]; exact hi⟩
  · rw [List.getElem?_append_right (by omega)] at hi
    have hlt := (List.getElem?_eq_some_iff.mp hi).1
    exact Or.inl ⟨by simp only [List.mem_range'_1]; omega, List.mem_of_getElem? hi⟩
theorem putHead {V V' w : va_W} (h : V'.map Prod.fst = V.map Prod.fst) : Put (List.range' 0 V.length) (V ++ w) V' (V' ++ w) := by
  have hl : V'.length = V.length := by have := congrArg List.length h; simpa using this
  refine ⟨by rw [List.map_append, List.map_append, h], fun i c hi => ?_⟩
  by_cases h1 : i < V.length
  · rw [List.getElem?_append_left (by omega)] at hi
    exact Or.inl ⟨by simp only [List.mem_range'_1]; omega, List.mem_of_getElem? hi⟩
  · rw [List.getElem?_append_right (by omega)] at hi
    exact Or.inr ⟨by simp only [List.mem_range'_1]; omega, by rw [List.getElem?_append_right (by omega), ← hl]; exact hi⟩
theorem plTail {V w : va_W} : (List.range' V.length w.length).map (fun i => (V ++ w)[i]?) = w.map some := pl_app (h := V) (tail := w) (sub := []) (ps := []) rfl
theorem plHead {V w : va_W} : (List.range' 0 V.length).map (fun i => (V ++ w)[i]?) = V.map some := by
  have h := all_places V
  rw [List.range_eq_range'] at h
  rw [← h]
  apply List.map_congr_left
  intro i hi
  simp only [List.mem_range'_1] at hi
  exact List.getElem?_append_left (by omega)
variable {X : CX} {cc : ByteArray} {own : String} {nL : Nat} {D : va_G} {A : Nat → Prop} {lev cM sM kc ks pc : Nat} {lv : List (Nat × Value)} {st stk : List Value} {ws : va_W} {cy : Nat → ClassId} {tys : List (ClassId × FieldType)}
theorem r_sld (C : Cx X cc own nL D tys A lev cM sM) {b L : Nat} {xs : Nat → Int32} (hX : va_X b L xs X.1.2.2.2.2 X.1.2.2.2.2.heap) (hbl : b < X.1.2.2.2.2.heap.size) (hbA : ¬ A b) {i : Int32} (hin : vp_in i L) (hdg : decode cc pc = .ok (.iaload, 1)) (k : At X D A nL kc ks (pc + 1) lv (.int (xs i.toNatClampNeg) :: st) ws) : At X D A nL kc ks pc lv (.int i :: .ref b :: st) ws :=
  fun H locs ls hP hD hS h => va_sld C.1 C.2.1 hX hbl hbA hS hin hdg (k H locs ls hP hD hS h)
theorem r_slen (C : Cx X cc own nL D tys A lev cM sM) {b L : Nat} {xs : Nat → Int32} (hX : va_X b L xs X.1.2.2.2.2 X.1.2.2.2.2.heap) (hbl : b < X.1.2.2.2.2.heap.size) (hbA : ¬ A b) (hdg : decode cc pc = .ok (.arraylength, 1)) (k : At X D A nL kc ks (pc + 1) lv (.int (Int32.ofNat L) :: st) ws) : At X D A nL kc ks pc lv (.ref b :: st) ws :=
  fun H locs ls hP hD hS h => va_slen C.1 C.2.1 hX hbl hbA hS hdg (k H locs ls hP hD hS h)
variable {q qn qt qk qr : Nat → Nat} {qs : Nat → Nat → Nat} {a : Nat} {τ : TX} {ξ ξ' : XS} {q6 : Nat → Nat} {σ σ' : OS} {y : MethodName} {cc' : ByteArray} {nL' lev' idx n : Nat} {ret : Option FieldType} {as : List Value}
theorem lx_I {r : Int32} (C : Cx X cc own nL D (gty cy) A lev cM sM) (hM : Con y cc' nL' ret lev' 0 0 D (gty cy) (.ref (q 8) :: as) (wX5 cy q qn qt qk qr qs a τ ξ) (eI (wX5 cy q qn qt qk qr qs a τ ξ') r)) (hw : MV y cc' nL' ret RX5 n) (hlk : Cond.methodLink own idx y ∈ gT) (hlev : lev' + 1 ≤ lev) (hnL : nL' ≤ 21) (hcap : kc ≤ cM ∧ ks ≤ sM) (hn : as.length = n) (hstk : stk = as.reverse ++ .ref (q 8) :: st) (hW : (st.map fun v => v.category).sum ≤ 8) (hdg : decode cc pc = .ok (.invokevirtual idx, 3)) (k : At X D A nL kc ks (pc + 3) lv (.int r :: st) (wX6 cy q6 σ ++ wX5 cy q qn qt qk qr qs a τ ξ')) : At X D A nL kc ks pc lv stk (wX6 cy q6 σ ++ wX5 cy q qn qt qk qr qs a τ ξ) :=
  r_callW C hM hw hlk hlev hnL hcap (q0 := 0) (ci := 4) rfl rfl (List.range' (wX6 cy q6 σ).length (wX5 cy q qn qt qk qr qs a τ ξ).length) plTail (va_nd_range' _ _) hn hstk hW hdg (fun v w hp => ⟨wX6 cy q6 σ ++ wX5 cy q qn qt qk qr qs a τ ξ', by obtain ⟨rfl, rfl⟩ := hp; exact ⟨putTail rfl, k⟩⟩)
theorem lm_I {r : Int32} {w5 : va_W} (C : Cx X cc own nL D (gty cy) A lev cM sM) (hM : Con y cc' nL' ret lev' 0 0 D (gty cy) (.ref (q6 41) :: as) (wX6 cy q6 σ) (eI (wX6 cy q6 σ') r)) (hw : MV y cc' nL' ret RX6 n) (hlk : Cond.methodLink own idx y ∈ gT) (hlev : lev' + 1 ≤ lev) (hnL : nL' ≤ 21) (hcap : kc ≤ cM ∧ ks ≤ sM) (hn : as.length = n) (hstk : stk = as.reverse ++ .ref (q6 41) :: st) (hW : (st.map fun v => v.category).sum ≤ 8) (hdg : decode cc pc = .ok (.invokevirtual idx, 3)) (k : At X D A nL kc ks (pc + 3) lv (.int r :: st) (wX6 cy q6 σ' ++ w5)) : At X D A nL kc ks pc lv stk (wX6 cy q6 σ ++ w5) :=
  r_callW C hM hw hlk hlev hnL hcap (q0 := 0) (ci := 5) rfl rfl (List.range' 0 (wX6 cy q6 σ).length) plHead (va_nd_range' _ _) hn hstk hW hdg (fun v w hp => ⟨wX6 cy q6 σ' ++ w5, by obtain ⟨rfl, rfl⟩ := hp; exact ⟨putHead rfl, k⟩⟩)
theorem lx_L {r : Int64} (C : Cx X cc own nL D (gty cy) A lev cM sM) (hM : Con y cc' nL' ret lev' 0 0 D (gty cy) (.ref (q 8) :: as) (wX5 cy q qn qt qk qr qs a τ ξ) (eL (wX5 cy q qn qt qk qr qs a τ ξ') r)) (hw : MV y cc' nL' ret RX5 n) (hlk : Cond.methodLink own idx y ∈ gT) (hlev : lev' + 1 ≤ lev) (hnL : nL' ≤ 21) (hcap : kc ≤ cM ∧ ks ≤ sM) (hn : as.length = n) (hstk : stk = as.reverse ++ .ref (q 8) :: st) (hW : (st.map fun v => v.category).sum ≤ 8) (hdg : decode cc pc = .ok (.invokevirtual idx, 3)) (k : At X D A nL kc ks (pc + 3) lv (.long r :: st) (wX6 cy q6 σ ++ wX5 cy q qn qt qk qr qs a τ ξ')) : At X D A nL kc ks pc lv stk (wX6 cy q6 σ ++ wX5 cy q qn qt qk qr qs a τ ξ) :=
  r_callW C hM hw hlk hlev hnL hcap (q0 := 0) (ci := 4) rfl rfl (List.range' (wX6 cy q6 σ).length (wX5 cy q qn qt qk qr qs a τ ξ).length) plTail (va_nd_range' _ _) hn hstk hW hdg (fun v w hp => ⟨wX6 cy q6 σ ++ wX5 cy q qn qt qk qr qs a τ ξ', by obtain ⟨rfl, rfl⟩ := hp; exact ⟨putTail rfl, k⟩⟩)
theorem lm_L {r : Int64} {w5 : va_W} (C : Cx X cc own nL D (gty cy) A lev cM sM) (hM : Con y cc' nL' ret lev' 0 0 D (gty cy) (.ref (q6 41) :: as) (wX6 cy q6 σ) (eL (wX6 cy q6 σ') r)) (hw : MV y cc' nL' ret RX6 n) (hlk : Cond.methodLink own idx y ∈ gT) (hlev : lev' + 1 ≤ lev) (hnL : nL' ≤ 21) (hcap : kc ≤ cM ∧ ks ≤ sM) (hn : as.length = n) (hstk : stk = as.reverse ++ .ref (q6 41) :: st) (hW : (st.map fun v => v.category).sum ≤ 8) (hdg : decode cc pc = .ok (.invokevirtual idx, 3)) (k : At X D A nL kc ks (pc + 3) lv (.long r :: st) (wX6 cy q6 σ' ++ w5)) : At X D A nL kc ks pc lv stk (wX6 cy q6 σ ++ w5) :=
  r_callW C hM hw hlk hlev hnL hcap (q0 := 0) (ci := 5) rfl rfl (List.range' 0 (wX6 cy q6 σ).length) plHead (va_nd_range' _ _) hn hstk hW hdg (fun v w hp => ⟨wX6 cy q6 σ' ++ w5, by obtain ⟨rfl, rfl⟩ := hp; exact ⟨putHead rfl, k⟩⟩)
theorem lx_text (C : Cx X cc own nL D (gty cy) A lev cM sM) (ok : gX5_text τ ξ) (hlk : Cond.methodLink own idx yX5_text ∈ gT) (hlev : 90 + 1 ≤ lev) (hcap : kc + 3 ≤ cM ∧ ks + 165 ≤ sM) (hstk : stk = .ref (q 8) :: st) (hW : (st.map fun v => v.category).sum ≤ 8) (hdg : decode cc pc = .ok (.invokevirtual idx, 3))
    (k : ∀ ta ca ea : Nat, At X D A nL (kc + 3) (ks + 165) (pc + 3) lv (.int (fX5_text ξ).1 :: st) (wX6 cy q6 σ ++ wX5 cy q qn qt qk qr qs a (tX5_text τ ξ ta ca ea) (fX5_text ξ).2.1)) : At X D A nL kc ks pc lv stk (wX6 cy q6 σ ++ wX5 cy q qn qt qk qr qs a τ ξ) := by
  refine r_callA (b := q 8) (as := []) C (zX5_text cy q qn qt qk qr qs a τ ξ ok) mv_X5_text hlk hlev (by decide) hcap (q0 := 0) (ci := 4) rfl rfl (List.range' (wX6 cy q6 σ).length (wX5 cy q qn qt qk qr qs a τ ξ).length) plTail (va_nd_range' _ _) rfl hstk hW hdg (fun v w hp => ?_)
  obtain ⟨ta, ca, ea, rfl, rfl⟩ := hp
  have k1 := k ta ca ea
  generalize (fX5_text ξ).2.1 = ξ' at k1 ⊢
  unfold tX5_text at k1 ⊢
  by_cases h : (fX5_text ξ).2.2 = true
  · rw [if_pos h] at k1 ⊢
    generalize ((ta, ca, ea), mtx (fX0_read ξ.2.2.2.2.1).2) = t at k1 ⊢
    refine ⟨hX5 cy q qn qt qk qr qs a ξ' ++ ((a, .inl (cy 4, 6, .inr (.inr (.inr (.inr (fun j => ((τ ++ [t])[j]?).map (fun t => t.1.1))))))) :: τ.flatMap (tcells cy)), tcells cy t, wX6 cy q6 σ ++ (hX5 cy q qn qt qk qr qs a ξ' ++ ((a, .inl (cy 4, 6, .inr (.inr (.inr (.inr (fun j => ((τ ++ [t])[j]?).map (fun t => t.1.1))))))) :: τ.flatMap (tcells cy))), ?_, rfl, putTail rfl, ?_⟩
    · unfold wX5 tw
      rw [List.flatMap_append]
      simp
    · have e : (wX6 cy q6 σ ++ (hX5 cy q qn qt qk qr qs a ξ' ++ ((a, .inl (cy 4, 6, .inr (.inr (.inr (.inr (fun j => ((τ ++ [t])[j]?).map (fun t => t.1.1))))))) :: τ.flatMap (tcells cy)))) ++ tcells cy t = wX6 cy q6 σ ++ wX5 cy q qn qt qk qr qs a (τ ++ [t]) ξ' := by
        unfold wX5 tw
        rw [List.flatMap_append]
        simp
      rw [e]
      exact k1
  · rw [if_neg h] at k1 ⊢
    refine ⟨wX5 cy q qn qt qk qr qs a τ ξ', [], wX6 cy q6 σ ++ wX5 cy q qn qt qk qr qs a τ ξ', by rw [List.append_nil], rfl, putTail rfl, ?_⟩
    rw [List.append_nil]
    exact k1
end Law0

theorem kz_same : Cond.sameMethod "[I" "java/lang/Object" "clone" "()Ljava/lang/Object;" ∈ gT := tm 508 (by decide +kernel) (by decide +kernel)
theorem kz_nclone : Cond.native ⟨"java/lang/Object", "clone", "()Ljava/lang/Object;"⟩ ∈ gT := tm 509 (by decide +kernel) (by decide +kernel)
theorem kz_iclone : Cond.instanceMethod ⟨"java/lang/Object", "clone", "()Ljava/lang/Object;"⟩ ∈ gT := tm 510 (by decide +kernel) (by decide +kernel)
theorem kz_sclone : Cond.selects "[I" ⟨"[I", "clone", "()Ljava/lang/Object;"⟩ ⟨"java/lang/Object", "clone", "()Ljava/lang/Object;"⟩ ∈ gT := tm 511 (by decide +kernel) (by decide +kernel)
/-! a call that also makes cells: what it makes comes behind the caller's world -/
section CallA
variable {X : CX} {cc : ByteArray} {own : String} {nL : Nat} {D : va_G} {tys : List (ClassId × FieldType)} {A : Nat → Prop} {lev cM sM kc ks pc : Nat} {lv lv' : List (Nat × Value)} {st stk : List Value} {ws ws' wc : va_W}
variable {y : MethodName} {cc' : ByteArray} {nL' lev' mc ms idx n : Nat} {ret : Option FieldType} {as : List Value} {post : Option Value → va_W → Prop} {CC : String} {b : Nat}
set_option maxHeartbeats 2000000 in
theorem r_back3 (hC0 : Cx X cc own nL D tys A lev cM sM) (isC : List Nat) (hC : isC.map (fun i => ws[i]?) = wc.map some) {aa : Array Value}
    {H : Heap} {locs : List Loc} {ls : Array Slot} (hP : va_P D vwCl ws H) (hD : va_D A ws) (hS : va_S A X.1.2.2.2.2.heap H locs) (hl : lv_has ls nL lv)
    (hrun : va_Run X.1.1 X.1.2.1 X.1.2.2.1 X.1.2.2.2.1 X.1.2.2.2.2 X.2.1.1 X.2.1.2.1 X.2.1.2.2.1 X.2.1.2.2.2.1 X.2.1.2.2.2.2 H locs kc ks mc ms (F0 X.2.1.1 pc ls stk) st (gQ post D tys (va_A wc H.size) aa) (va_A wc H.size))
    (k : ∀ (v : Option Value) (w : va_W), post v w → ∃ w1 nw ws', w = w1 ++ nw ∧ w1.map Prod.fst = wc.map Prod.fst ∧ Put isC ws w1 ws' ∧ At X D A nL (kc + mc) (ks + ms) (pc + 3) lv (v.toList ++ st) (ws' ++ nw)) :
    W X.1.1 X.1.2.1 X.1.2.2.1 X.1.2.2.2.1 X.1.2.2.2.2 X.2.1.1 X.2.1.2.1 X.2.1.2.2.1 X.2.1.2.2.2.1 X.2.1.2.2.2.2 H locs kc ks X.2.2 (F0 X.2.1.1 pc ls stk) := by
  intro T hT XX
  have hFc := va_free (wc := wc) hD hS hC0.2.2.2.2.2.2.1 isC hC
  obtain ⟨v, st₀, t, T', L, h0, X', hL, e1, e2, ⟨⟨v', w, hv, hp, hPw, hKw, hDw⟩, hz, hk⟩, stp⟩ := hrun T hT XX
  cases hv
  rw [h0] at hz hk
  obtain ⟨w1, nw, ws', rfl, hf1, ⟨hf, hpl⟩, hAt⟩ := k v w hp
  have inw : ∀ c : Nat × va_E, c ∈ w1 ++ nw → va_at D vwCl c t.heap := fun c hc => by
    obtain ⟨j, hj⟩ := List.getElem?_of_mem hc
    exact hPw j c hj
  have hP1 : va_P D vwCl (ws' ++ nw) t.heap := by
    refine va_P.app (fun i c hi => ?_) (fun i c hi => inw c (List.mem_append_right _ (List.mem_of_getElem? hi)))
    rcases hpl i c hi with ⟨_, hw⟩ | ⟨hni, hws⟩
    · exact inw c (List.mem_append_left _ hw)
    · have hat := hP i c hws
      refine hat.kept (hk c.1 hat.lt (fun hA => ?_))
      rcases hA with ⟨j, e, hj⟩ | hge
      · have hm : (wc.map some)[j]? = some (some (c.1, e)) := by rw [List.getElem?_map, hj]; rfl
        rw [← hC, List.getElem?_map] at hm
        cases hq : isC[j]? with
        | none => rw [hq] at hm; cases hm
        | some i' =>
          rw [hq] at hm
          have hi' : ws[i']? = some (c.1, e) := Option.some.inj hm
          exact hni (hD.1 i i' c (c.1, e) hws hi' rfl ▸ List.mem_of_getElem? hq)
      · exact Nat.lt_irrefl _ (Nat.lt_of_lt_of_le hat.lt hge)
  have hDn : va_D A (ws' ++ nw) := by
    have hD' := va_D_fst hf hD
    have hDw2 : va_D (va_A wc H.size) nw := ⟨fun i j p q hi hj h => by
      have a1 : (w1 ++ nw)[w1.length + i]? = some p := by rw [List.getElem?_append_right (by omega)]; simpa using hi
      have a2 : (w1 ++ nw)[w1.length + j]? = some q := by rw [List.getElem?_append_right (by omega)]; simpa using hj
      have := hDw.1 _ _ p q a1 a2 h
      omega, fun i q hi => by
      have a1 : (w1 ++ nw)[w1.length + i]? = some q := by rw [List.getElem?_append_right (by omega)]; simpa using hi
      exact hDw.2 _ q a1⟩
    refine va_D.app hD' ⟨hDw2.1, fun i q hi => hFc _ (hDw2.2 i q hi)⟩ ?_
    intro i j p q hi hj hpq
    have hge : H.size ≤ q.1 := by
      rcases hDw2.2 j q hj with ⟨m, e, hm⟩ | h
      · exfalso
        have b1 : (wc.map Prod.fst)[m]? = some q.1 := by rw [List.getElem?_map, hm]; rfl
        rw [← hf1, List.getElem?_map] at b1
        cases hq : w1[m]? with
        | none => rw [hq] at b1; cases b1
        | some p' =>
          rw [hq] at b1
          have hlt : m < w1.length := (List.getElem?_eq_some_iff.mp hq).1
          have a1 : (w1 ++ nw)[m]? = some p' := by rw [List.getElem?_append_left hlt]; exact hq
          have a2 : (w1 ++ nw)[w1.length + j]? = some q := by rw [List.getElem?_append_right (by omega)]; simpa using hj
          have := hDw.1 _ _ p' q a1 a2 (Option.some.inj b1)
          omega
      · exact h
    have hlt : p.1 < H.size := by
      have c1 : (ws'.map Prod.fst)[i]? = some p.1 := by rw [List.getElem?_map, hi]; rfl
      rw [hf, List.getElem?_map] at c1
      cases hq : ws[i]? with
      | none => rw [hq] at c1; cases c1
      | some p' => rw [hq] at c1; exact (Option.some.inj c1) ▸ (hP i p' hq).lt
    omega
  obtain ⟨t2, a1, b1⟩ := hAt T'.heap (locs ++ L) ls (e1 ▸ hP1) hDn
    ⟨Nat.le_trans hS.1 (by rw [e1]; exact hz), fun q h1 h2 => by rw [e1, hk q (Nat.lt_of_lt_of_le h1 hS.1) (fun z => h2 (hFc q z))]; exact hS.2.1 q h1 h2, fun q hq => by
      rcases List.mem_append.mp hq with h | h
      · exact hS.2.2 q h
      · exact hFc _ (hL q h)⟩ hl T' rfl X'
  exact ⟨t2, stp t2 a1, b1⟩
set_option maxHeartbeats 2000000 in
theorem r_callA (C : Cx X cc own nL D tys A lev cM sM) (hM : Con y cc' nL' ret lev' mc ms D tys (.ref b :: as) wc post) (hw : MV y cc' nL' ret CC n) (hlk : Cond.methodLink own idx y ∈ gT) (hlev : lev' + 1 ≤ lev) (hnL : nL' ≤ 21) (hcap : kc + mc ≤ cM ∧ ks + ms ≤ sM)
    {q0 ci : Nat} {fs : List Value} {T : u_T} {N : Nat} (hrc : vwCl[ci]? = some (CC, T, N)) (hre : wc[q0]? = some (b, .inr (ci, fs)))
    (isC : List Nat) (hC : isC.map (fun i => ws[i]?) = wc.map some) (hCn : va_nd isC = true)
    (hn : as.length = n) (hstk : stk = as.reverse ++ .ref b :: st) (hW : (st.map fun v => v.category).sum ≤ 8) (hdg : decode cc pc = .ok (.invokevirtual idx, 3))
    (k : ∀ (v : Option Value) (w : va_W), post v w → ∃ w1 nw ws', w = w1 ++ nw ∧ w1.map Prod.fst = wc.map Prod.fst ∧ Put isC ws w1 ws' ∧ At X D A nL (kc + mc) (ks + ms) (pc + 3) lv (v.toList ++ st) (ws' ++ nw)) : At X D A nL kc ks pc lv stk ws := by
  intro H locs ls hP hD hS hl
  have hPc := hP.sub (ws' := wc) isC (fm_of_map hC)
  have hDc := hD.sub (ws' := wc) isC hCn hC
  have hFc := va_free (wc := wc) hD hS C.2.2.2.2.2.2.1 isC hC
  have C' := C
  obtain ⟨hx, hb, hml, hown, hts, hK, hA, hf1, hf2, hc1, hc2, hSt⟩ := C
  obtain ⟨w1, w2, w3, w4, w5⟩ := hw
  have hG : GoodIn gT (wsV own idx CC y (Cond.code y cc' nL' ret :: gT)) := by
    intro w h
    rcases List.mem_append.mp h with h | h
    · simp only [List.mem_cons, List.not_mem_nil, or_false] at h
      rcases h with rfl | rfl | rfl | rfl
      · exact gT_self _ hlk
      · exact gT_self _ w1
      · exact gT_self _ w2
      · exact gT_self _ w3
    · exact gT_c w4 w h
  refine r_back3 C' isC hC hP hD hS hl (va_runV (g := F0 X.2.1.1 pc ls stk) (As := as) ⟨hx, hb, hml, hown, hts⟩ (hM X.1.2.1 H.size) (cwV n hts hG rfl rfl rfl w5 ⟨by show lev' + 1 ≤ _; omega, by show 8 + (nL' + 11) + 40 * lev' ≤ _; omega⟩) ⟨gB_blind, va_recv hK hPc hrc hre, fun U hU hWm => ⟨rfl, by rw [hU], by rw [hU]; exact hPc, va_K.moved hWm.alike hK, hDc.weaken (fun _ _ _ _ => trivial), ?_⟩⟩ rfl hn hl.1 hstk (lv_room hW) hdg ⟨by rw [hc1]; exact hcap.1, by rw [hc2]; exact hcap.2⟩) k
  rw [hU]
  exact (Stt.sub hS hFc hSt).moved hWm.alike (fun h => h.warm hWm) (fun h => h.warm hWm)
end CallA
section Copy
variable {X : CX} {cc : ByteArray} {own : String} {nL : Nat} {D : va_G} {cy : Nat → ClassId} {A : Nat → Prop} {lev cM sM kc ks pc : Nat} {lv : List (Nat × Value)} {st : List Value} {ws ws' : va_W}
set_option maxHeartbeats 1000000 in
theorem r_copyi (C : Cx X cc own nL D (gty cy) A lev cM sM) (q0 q1 : Nat) {idx a0 a1 n0 n1 : Nat} {f g : Nat → Int32} (ha0 : ws[q0]? = some (a0, .inl (cy 0, n0, .inl f))) (ha1 : ws[q1]? = some (a1, .inl (cy 0, n1, .inl g))) {sp dp m : Int32} (h1 : ¬ sp < 0) (h2 : ¬ dp < 0) (h3 : ¬ m < 0) (h4 : sp.toNatClampNeg + m.toNatClampNeg ≤ n0) (h5 : dp.toNatClampNeg + m.toNatClampNeg ≤ n1) (hlk : Cond.methodLink own idx arraycopyName ∈ gT) (hlev : 0 + 1 ≤ lev) (hW : (st.map fun v => v.category).sum ≤ 8) (hws : ws.set q1 (a1, .inl (cy 0, n1, .inl (va_cpy f g sp.toNatClampNeg dp.toNatClampNeg m.toNatClampNeg))) = ws') (hdg : decode cc pc = .ok (.invokestatic idx, 3)) (k : At X D A nL kc ks (pc + 3) lv st ws') :
    At X D A nL kc ks pc lv (.int m :: .int dp :: .ref a1 :: .int sp :: .ref a0 :: st) ws := by
  intro H locs ls hP hD hS h
  have hl1 := C.2.2.2.2.2.2.2.1
  have hl2 := C.2.2.2.2.2.2.2.2.1
  exact va_copyi C.1 C.2.1 (C.2.2.1.trans h.1.symm) C.2.2.2.1 (C.2.2.2.2.1 _ hlk) (C.2.2.2.2.1 _ kz_native) (C.2.2.2.2.1 _ kz_static) (C.2.2.2.2.1 _ kn_J10) C.2.2.2.2.2.1 hP hD hS q0 q1 0 0 ha0 ha1 rfl rfl rfl h1 h2 h3 h4 h5 (fun _ _ => rfl) (by omega) (by have e : nativeFrameWords "java/lang/System" "arraycopy" 5 + 11 ≤ 32 := (by decide); omega) hdg (fun H1 locs1 hP1 hD1 hS1 => k H1 locs1 ls (hws ▸ hP1) (hws ▸ hD1) hS1 h)
abbrev cloneI : MethodName := ⟨"[I", "clone", "()Ljava/lang/Object;"⟩
abbrev cloneO : MethodName := ⟨"java/lang/Object", "clone", "()Ljava/lang/Object;"⟩
set_option maxHeartbeats 1000000 in
theorem r_clone (C : Cx X cc own nL D (gty cy) A lev cM sM) (q0 : Nat) {idx a0 n0 : Nat} {f : Nat → Int32} (ha0 : ws[q0]? = some (a0, .inl (cy 0, n0, .inl f))) (hlk : Cond.methodLink own idx cloneI ∈ gT) (hlev : 0 + 1 ≤ lev) (hW : (st.map fun v => v.category).sum ≤ 8) (hc : kc + 1 ≤ cM) (hs : ks + n0 ≤ sM) (hdg : decode cc pc = .ok (.invokevirtual idx, 3)) (k : ∀ q : Nat, At X D A nL (kc + 1) (ks + n0) (pc + 3) lv (.ref q :: st) (ws ++ [(q, .inl (cy 0, n0, .inl f))])) :
    At X D A nL kc ks pc lv (.ref a0 :: st) ws := by
  intro H locs ls hP hD hS h
  have hl1 := C.2.2.2.2.2.2.2.1
  have hl2 := C.2.2.2.2.2.2.2.2.1
  have hK := C.2.2.2.2.2.1
  refine va_clone (ad := "[I") C.1 C.2.1 (C.2.2.1.trans h.1.symm) C.2.2.2.1 (C.2.2.2.2.1 _ hlk) (C.2.2.2.2.1 _ kz_same) (C.2.2.2.2.1 _ kz_nclone) (C.2.2.2.2.1 _ kz_iclone) (C.2.2.2.2.1 _ kz_sclone) (Cx_st C).2.2.2.2.2.2.2.2.2.2.2.2 hK hP hD hS C.2.2.2.2.2.2.1 q0 0 ha0 rfl (hK.2 0 _ rfl).2 (fun i v hi => ?_) (by omega) (by omega) (by rw [C.2.2.2.2.2.2.2.2.2.1]; exact hc) (by rw [C.2.2.2.2.2.2.2.2.2.2.1]; exact hs) hdg (fun q H1 hK1 hP1 hD1 hS1 => k q H1 locs ls hP1 hD1 hS1 h)
  have e : (vp_cell (cy 0) (n0, .inl f)).slots[i]? = some v := hi
  simp only [vp_cell, arrV] at e
  by_cases hn : i < n0
  · simp [hn] at e; rw [← e]; rfl
  · simp [hn] at e
end Copy
section Made
variable {X : CX} {cc : ByteArray} {own : String} {nL : Nat} {D : va_G} {cy : Nat → ClassId} {A : Nat → Prop} {lev cM sM kc ks pc : Nat} {lv : List (Nat × Value)} {st : List Value} {ws ws' : va_W}
theorem r_castI (C : Cx X cc own nL D (gty cy) A lev cM sM) (q0 : Nat) {idx a : Nat} {x : vp_A} (ha : ws[q0]? = some (a, .inl (cy 0, x))) (hlk : Cond.classLink own idx "[I" ∈ gT) (hdg : decode cc pc = .ok (.checkcast idx, 3)) (k : At X D A nL kc ks (pc + 3) lv (.ref a :: st) ws) : At X D A nL kc ks pc lv (.ref a :: st) ws :=
  fun H locs ls hP hD hS h => va_castA C.1 C.2.1 C.2.2.2.1 (C.2.2.2.2.1 _ hlk) hP q0 ha (C.2.2.2.2.2.1.2 0 _ rfl).2 hdg (k H locs ls hP hD hS h)
end Made
def tbJ7_copyOf_59c91 : List (Nat × Instr × Nat) := [(0, .iload_n 1, 1), (1, .aload_n 0, 1), (2, .arraylength, 1), (3, .if_icmp .ne 11, 3), (6, .aload_n 0, 1), (7, .invokevirtual 316, 3), (10, .checkcast 317, 3), (13, .areturn, 1), (14, .iload_n 1, 1), (15, .newarray .int, 2), (17, .astore_n 2, 1), (18, .aload_n 0, 1), (19, .iconst 0, 1), (20, .aload_n 2, 1), (21, .iconst 0, 1), (22, .aload_n 0, 1), (23, .arraylength, 1), (24, .iload_n 1, 1), (25, .invokestatic 304, 3), (28, .invokestatic 150, 3), (31, .aload_n 2, 1), (32, .areturn, 1)]
theorem tdJ7_copyOf_59c91 : tbJ7_copyOf_59c91.all (fun q => decide (decode cJ7_copyOf_59c91 q.1 = .ok q.2)) = true := by decide +kernel
theorem ms_J7_copyOf : MS_ yJ7_copyOf_59c91 cJ7_copyOf_59c91 3 (some (.array .int)) 2 := ⟨ks_J7_copyOf_59c91, kn_J7, kc_J7_copyOf_59c91, by decide +kernel⟩
set_option maxHeartbeats 4000000 in
set_option maxRecDepth 100000 in
/-- copyOf of the code: a shorter row -/
theorem zcopyA (cy : Nat → ClassId) (a0 : Nat) (f : Nat → Int32) (m : Int32) (h0 : ¬ m < 0) (h1 : m < 160) {D : va_G} : Con yJ7_copyOf_59c91 cJ7_copyOf_59c91 3 (some (.array .int)) 1 1 160 D (gty cy) [.ref a0, .int m] [(a0, .inl (cy 0, 160, .inl f))] (fun v w => ∃ q : Nat, v = some (.ref q) ∧ w = [(a0, .inl (cy 0, 160, .inl f)), (q, .inl (cy 0, m.toNatClampNeg, .inl (va_cpy f (fun _ => 0) 0 0 m.toNatClampNeg)))]) := by
  have hm : m.toNatClampNeg < 160 := by
    have e := Int32.lt_iff_toInt_lt.mp h1
    have e2 : ¬ m.toInt < 0 := fun h => h0 (Int32.lt_iff_toInt_lt.mpr h)
    have e3 : (160 : Int32).toInt = 160 := by decide
    have e4 : m.toNatClampNeg = m.toInt.toNat := rfl
    omega
  have hmin : jmin 160 m = m := if_pos h1
  refine Con.of (own := RJ7) (by decide +kernel) rfl (Nat.le_of_ble_eq_true rfl) (Nat.zero_le _) (fun X A C hR hin => ?_)
  refine r_iload_n C 1 (dall tdJ7_copyOf_59c91 0 rfl) rfl ?_
  refine r_aload_n C 0 (dall tdJ7_copyOf_59c91 1 rfl) rfl ?_
  refine r_alen (v := 160) C 0 0 rfl rfl rfl (dall tdJ7_copyOf_59c91 2 rfl) ?_
  refine r_icmp_ne (tgt := 14) C (dall tdJ7_copyOf_59c91 3 rfl) (by decide) (fun _ => ?_) (fun h => absurd h1 (by rw [h]; decide))
  refine r_iload_n C 1 (dall tdJ7_copyOf_59c91 8 rfl) rfl ?_
  refine r_newi (N := m.toNatClampNeg) C h0 rfl (by omega) (by decide) (by show 0 + m.toNatClampNeg ≤ 160; omega) (dall tdJ7_copyOf_59c91 9 rfl) (fun q1 => ?_)
  refine r_astore_n (lv' := [(2, .ref q1), (0, .ref a0), (1, .int m)]) C (dall tdJ7_copyOf_59c91 10 rfl) (by decide) rfl ?_
  refine r_aload_n C 1 (dall tdJ7_copyOf_59c91 11 rfl) rfl ?_
  refine r_iconst (v := 0) C (dall tdJ7_copyOf_59c91 12 rfl) (by decide) ?_
  refine r_aload_n C 0 (dall tdJ7_copyOf_59c91 13 rfl) rfl ?_
  refine r_iconst (v := 0) C (dall tdJ7_copyOf_59c91 14 rfl) (by decide) ?_
  refine r_aload_n C 1 (dall tdJ7_copyOf_59c91 15 rfl) rfl ?_
  refine r_alen (v := 160) C 0 0 rfl rfl rfl (dall tdJ7_copyOf_59c91 16 rfl) ?_
  refine r_iload_n C 2 (dall tdJ7_copyOf_59c91 17 rfl) rfl ?_
  refine r_mmin C km_J7_304 (dall tdJ7_copyOf_59c91 18 rfl) (by decide) (Nat.le_of_ble_eq_true rfl) ⟨by decide, by show 0 + m.toNatClampNeg ≤ 160; omega⟩ ?_
  rw [hmin]
  refine r_copyi (ws' := [(a0, .inl (cy 0, 160, .inl f)), (q1, .inl (cy 0, m.toNatClampNeg, .inl (va_cpy f (fun _ => 0) 0 0 m.toNatClampNeg)))]) C 0 1 rfl rfl (by decide) (by decide) h0 (by show 0 + m.toNatClampNeg ≤ 160; omega) (by show 0 + m.toNatClampNeg ≤ m.toNatClampNeg; omega) km_J7_150 (by decide) (Nat.le_of_ble_eq_true rfl) rfl (dall tdJ7_copyOf_59c91 19 rfl) ?_
  refine r_aload_n C 0 (dall tdJ7_copyOf_59c91 20 rfl) rfl ?_
  refine r_widen (kc' := 1) (ks' := 160) (by decide) (by show 0 + m.toNatClampNeg ≤ 160; omega) ?_
  exact r_aret C hR (Or.inr ⟨_, rfl⟩) (dall tdJ7_copyOf_59c91 21 rfl) ⟨q1, rfl, rfl⟩
set_option maxHeartbeats 4000000 in
set_option maxRecDepth 100000 in
/-- copyOf of the ends: a row as long as it was, by clone -/
theorem zcopyB (cy : Nat → ClassId) (a0 : Nat) (f : Nat → Int32) {D : va_G} : Con yJ7_copyOf_59c91 cJ7_copyOf_59c91 3 (some (.array .int)) 1 1 3 D (gty cy) [.ref a0, .int 3] [(a0, .inl (cy 0, 3, .inl f))] (fun v w => ∃ q : Nat, v = some (.ref q) ∧ w = [(a0, .inl (cy 0, 3, .inl f)), (q, .inl (cy 0, 3, .inl f))]) := by
  refine Con.of (own := RJ7) (by decide +kernel) rfl (Nat.le_of_ble_eq_true rfl) (Nat.zero_le _) (fun X A C hR hin => ?_)
  refine r_iload_n C 1 (dall tdJ7_copyOf_59c91 0 rfl) rfl ?_
  refine r_aload_n C 0 (dall tdJ7_copyOf_59c91 1 rfl) rfl ?_
  refine r_alen (v := 3) C 0 0 rfl rfl rfl (dall tdJ7_copyOf_59c91 2 rfl) ?_
  refine r_icmp_ne (tgt := 14) C (dall tdJ7_copyOf_59c91 3 rfl) (by decide) (fun h => absurd rfl h) (fun _ => ?_)
  refine r_aload_n C 0 (dall tdJ7_copyOf_59c91 4 rfl) rfl ?_
  refine r_clone C 0 rfl km_J7_316 (by decide) (Nat.le_of_ble_eq_true rfl) (by decide) (by decide) (dall tdJ7_copyOf_59c91 5 rfl) (fun q1 => ?_)
  refine r_castI C 1 rfl kl_J7_317 (dall tdJ7_copyOf_59c91 6 rfl) ?_
  exact r_aret C hR (Or.inr ⟨_, rfl⟩) (dall tdJ7_copyOf_59c91 7 rfl) ⟨q1, rfl, rfl⟩
def tbX0_made : List (Nat × Instr × Nat) := [(0, .new 47, 3), (3, .dup, 1), (4, .aload_n 0, 1), (5, .getfield 15, 3), (8, .aload_n 0, 1), (9, .getfield 25, 3), (12, .invokestatic 49, 3), (15, .aload_n 0, 1), (16, .getfield 18, 3), (19, .iconst 3, 1), (20, .invokestatic 49, 3), (23, .invokespecial 55, 3), (26, .areturn, 1)]
theorem tdX0_made : tbX0_made.all (fun q => decide (decode cX0_made q.1 = .ok q.2)) = true := by decide +kernel
theorem mv_X0_made : MV yX0_made cX0_made 1 (some (.object "MightHaveBeenPutUp$Text")) RX0 0 := ⟨ki_X0_made, kv_X0_made, kn_X0, kc_X0_made, by decide +kernel⟩
/-- the text that a reader makes -/
def mtx (σ : OS) : Nat × (Nat → Int32) × (Nat → Int32) := ((σ.1 4).toNatClampNeg, va_cpy (σ.2.2.1 2) (fun _ => 0) 0 0 (σ.1 4).toNatClampNeg, σ.2.2.1 3)
set_option maxHeartbeats 8000000 in
set_option maxRecDepth 100000 in
theorem zX0_made (cy : Nat → ClassId) (q : Nat → Nat) (σ : OS) (h0 : ¬ σ.1 4 < 0) (h1 : σ.1 4 < 160) {D : va_G} : Con yX0_made cX0_made 1 (some (.object "MightHaveBeenPutUp$Text")) 2 3 165 D (gty cy) [.ref (q 11)] (wX0 cy q σ) (fun v w => ∃ ta ca ea : Nat, v = some (.ref ta) ∧ w = wX0 cy q σ ++ tcells cy ((ta, ca, ea), mtx σ)) := by
  refine Con.of (own := RX0) (by decide +kernel) rfl (Nat.le_of_ble_eq_true rfl) (Nat.zero_le _) (fun X A C hR hin => ?_)
  refine r_new (ci := 2) (fs := [.null, .null]) C kw_X2 tyX2_ok kl_X0_47 kt_X2 kn_X2 rfl (by decide) (by decide) (by decide) (dall tdX0_made 0 rfl) (fun ta => ?_)
  refine r_dup C (dall tdX0_made 1 rfl) rfl ?_
  refine r_aload_n C 0 (dall tdX0_made 2 rfl) rfl ?_
  refine r_get C 0 kw_X0 rfl rfl (by decide) kf_X0_15 rfl rfl (dall tdX0_made 3 rfl) ?_
  refine r_aload_n C 0 (dall tdX0_made 4 rfl) rfl ?_
  refine r_get C 0 kw_X0 rfl rfl (by decide) kf_X0_25 rfl rfl (dall tdX0_made 5 rfl) ?_
  refine r_callS (as := [.ref (q 2), .int (σ.1 4)]) (wr := [(q 11, .inr (0, fX0 q σ)), (q 1, .inl (cy 0, 160, .inl (σ.2.2.1 1))), (q 3, .inl (cy 0, 3, .inl (σ.2.2.1 3))), (ta, .inr (2, [.null, .null]))]) C (zcopyA cy (q 2) (σ.2.2.1 2) (σ.1 4) h0 h1) ms_J7_copyOf km_X0_49 (by decide) (by decide) ⟨by decide, by decide⟩ [2] [0, 1, 3, 4] rfl rfl rfl rfl rfl (by decide) rfl rfl (Nat.le_of_ble_eq_true rfl) (dall tdX0_made 6 rfl) (fun v w hp => ?_)
  obtain ⟨ca, rfl, rfl⟩ := hp
  refine r_stk (st' := [.ref ca, .ref ta, .ref ta]) rfl ?_
  refine r_re (ws' := [(q 11, .inr (0, fX0 q σ)), (q 1, .inl (cy 0, 160, .inl (σ.2.2.1 1))), (q 2, .inl (cy 0, 160, .inl (σ.2.2.1 2))), (q 3, .inl (cy 0, 3, .inl (σ.2.2.1 3))), (ta, .inr (2, [.null, .null])), (ca, .inl (cy 0, (mtx σ).1, .inl (mtx σ).2.1))]) [0, 1, 4, 2, 3, 5] rfl (by decide) ?_
  refine r_aload_n C 0 (dall tdX0_made 7 rfl) rfl ?_
  refine r_get C 0 kw_X0 rfl rfl (by decide) kf_X0_18 rfl rfl (dall tdX0_made 8 rfl) ?_
  refine r_iconst (v := 3) C (dall tdX0_made 9 rfl) (by decide) ?_
  refine r_callS (as := [.ref (q 3), .int 3]) (wr := [(q 11, .inr (0, fX0 q σ)), (q 1, .inl (cy 0, 160, .inl (σ.2.2.1 1))), (q 2, .inl (cy 0, 160, .inl (σ.2.2.1 2))), (ta, .inr (2, [.null, .null])), (ca, .inl (cy 0, (mtx σ).1, .inl (mtx σ).2.1))]) C (zcopyB cy (q 3) (σ.2.2.1 3)) ms_J7_copyOf km_X0_49 (by decide) (by decide) ⟨by decide, by decide⟩ [3] [0, 1, 2, 4, 5] rfl rfl rfl rfl rfl (by decide) rfl rfl (Nat.le_of_ble_eq_true rfl) (dall tdX0_made 10 rfl) (fun v w hp => ?_)
  obtain ⟨ea, rfl, rfl⟩ := hp
  refine r_stk (st' := [.ref ea, .ref ca, .ref ta, .ref ta]) rfl ?_
  refine r_callI (b := ta) (as := [.ref ca, .ref ea]) (wr := [(q 11, .inr (0, fX0 q σ)), (q 1, .inl (cy 0, 160, .inl (σ.2.2.1 1))), (q 2, .inl (cy 0, 160, .inl (σ.2.2.1 2))), (ca, .inl (cy 0, (mtx σ).1, .inl (mtx σ).2.1)), (q 3, .inl (cy 0, 3, .inl (σ.2.2.1 3))), (ea, .inl (cy 0, 3, .inl (σ.2.2.1 3)))]) C (zX2_init cy ta ca ea) mi_X2_init km_X0_55 (by decide) (by decide) ⟨by decide, by decide⟩ [3] [0, 1, 2, 4, 5, 6] rfl rfl rfl rfl (by decide) rfl rfl (Nat.le_of_ble_eq_true rfl) (dall tdX0_made 11 rfl) (fun v w hp => ?_)
  obtain ⟨rfl, rfl⟩ := hp
  refine r_stk (st' := [.ref ta]) rfl ?_
  refine r_re (ws' := wX0 cy q σ ++ tcells cy ((ta, ca, ea), mtx σ)) [0, 1, 2, 4, 6, 3, 5] rfl (by decide) ?_
  exact r_aret C hR (Or.inl ⟨_, rfl⟩) (dall tdX0_made 12 rfl) ⟨ta, ca, ea, rfl, rfl⟩
def tbX5_text : List (Nat × Instr × Nat) := [(0, .aload_n 0, 1), (1, .getfield 46, 3), (4, .bipush 6, 2), (6, .if_icmp .lt 6, 3), (9, .bipush (-4), 2), (11, .ireturn, 1), (12, .aload_n 0, 1), (13, .getfield 33, 3), (16, .invokevirtual 120, 3), (19, .istore_n 1, 1), (20, .iload_n 1, 1), (21, .iconst (-1), 1), (22, .if_icmp .eq 8, 3), (25, .bipush (-100), 2), (27, .iload_n 1, 1), (28, .isub, 1), (29, .ireturn, 1), (30, .aload_n 0, 1), (31, .getfield 46, 3), (34, .istore_n 2, 1), (35, .aload_n 0, 1), (36, .getfield 11, 3), (39, .iload_n 2, 1), (40, .aload_n 0, 1), (41, .getfield 33, 3), (44, .invokevirtual 124, 3), (47, .aastore, 1), (48, .aload_n 0, 1), (49, .iload_n 2, 1), (50, .iconst 1, 1), (51, .iadd, 1), (52, .putfield 46, 3), (55, .iload_n 2, 1), (56, .ireturn, 1)]
theorem tdX5_text : tbX5_text.all (fun q => decide (decode cX5_text q.1 = .ok q.2)) = true := by decide +kernel
theorem mv_X5_text : MV yX5_text cX5_text 3 (some .int) RX5 0 := ⟨ki_X5_text, kv_X5_text, kn_X5, kc_X5_text, by decide +kernel⟩
/-- text(): what it answers, the state behind it, and whether a text came -/
def fX5_text (ξ : XS) : Int32 × XS × Bool :=
  if ξ.1.1 6 < 6 then
    (if (fX0_read ξ.2.2.2.2.1).1 = -1 then (ξ.1.1 6, xX (xR ξ (fX0_read ξ.2.2.2.2.1).2) (oI ξ.1 6 (ξ.1.1 6 + 1)), true)
      else ((-100) - (fX0_read ξ.2.2.2.2.1).1, xR ξ (fX0_read ξ.2.2.2.2.1).2, false))
  else (-4, ξ, false)
def gX5_text (τ : TX) (ξ : XS) : Prop :=
  ξ.1.1 6 < 6 → (gX0_read ξ.2.2.2.2.1 ∧ ((fX0_read ξ.2.2.2.2.1).1 = -1 → (¬ (fX0_read ξ.2.2.2.2.1).2.1 4 < 0 ∧ (fX0_read ξ.2.2.2.2.1).2.1 4 < 160 ∧ vp_in (ξ.1.1 6) 6 ∧ (ξ.1.1 6).toNatClampNeg = τ.length)))
/-- the texts behind text() -/
def tX5_text (τ : TX) (ξ : XS) (ta ca ea : Nat) : TX := if (fX5_text ξ).2.2 then τ ++ [((ta, ca, ea), mtx (fX0_read ξ.2.2.2.2.1).2)] else τ
theorem flen (cy : Nat → ClassId) : ∀ τ : TX, (List.map (fun t => (tcells cy t).length) τ).sum = 3 * τ.length
  | [] => rfl
  | t :: l => by
    rw [List.map_cons, List.sum_cons, flen cy l]
    show 3 + 3 * l.length = 3 * (l.length + 1)
    omega
theorem tw_add (τ : TX) (t : (Nat × Nat × Nat) × (Nat × (Nat → Int32) × (Nat → Int32))) : va_up (fun j => (τ[j]?).map (fun t => t.1.1)) τ.length (some t.1.1) = (fun j => ((τ ++ [t])[j]?).map (fun t => t.1.1)) := by
  funext j
  unfold va_up
  by_cases h : j = τ.length
  · subst h
    simp
  · rw [if_neg h]
    by_cases h2 : j < τ.length
    · rw [List.getElem?_append_left h2]
    · have e1 : (τ : TX)[j]? = none := List.getElem?_eq_none (by omega)
      have e2 : (τ ++ [t])[j]? = none := List.getElem?_eq_none (by rw [List.length_append]; show τ.length + 1 ≤ j; omega)
      show (τ[j]?).map (fun t => t.1.1) = _
      rw [e1, e2]
set_option maxHeartbeats 8000000 in
set_option maxRecDepth 100000 in
theorem zX5_text (cy : Nat → ClassId) (q qn qt qk qr : Nat → Nat) (qs : Nat → Nat → Nat) (a : Nat) (τ : TX) (ξ : XS) (ok : gX5_text τ ξ) {D : va_G} : Con yX5_text cX5_text 3 (some .int) 90 3 165 D (gty cy) [.ref (q 8)] (wX5 cy q qn qt qk qr qs a τ ξ) (fun v w => ∃ ta ca ea : Nat, v = some (.int (fX5_text ξ).1) ∧ w = wX5 cy q qn qt qk qr qs a (tX5_text τ ξ ta ca ea) (fX5_text ξ).2.1) := by
  refine Con.of (own := RX5) (by decide +kernel) rfl (Nat.le_of_ble_eq_true rfl) (Nat.zero_le _) (fun X A C hR hin => ?_)
  refine r_aload_n C 0 (dall tdX5_text 0 rfl) rfl ?_
  refine r_get C 0 kw_X5 rfl rfl (by decide) kf_X5_46 rfl rfl (dall tdX5_text 1 rfl) ?_
  refine r_bipush (v := 6) C (dall tdX5_text 2 rfl) (by decide) ?_
  refine r_icmp_lt (tgt := 12) C (dall tdX5_text 3 rfl) (by decide) (fun c1 => ?_) (fun c1 => ?_)
  · obtain ⟨g1, g2⟩ := ok c1
    refine r_aload_n C 0 (dall tdX5_text 6 rfl) rfl ?_
    refine r_get C 0 kw_X5 rfl rfl (by decide) kf_X5_33 rfl rfl (dall tdX5_text 7 rfl) ?_
    refine rcR_I (as := []) C (zX0_read cy qr ξ.2.2.2.2.1 g1) mv_X0_read km_X5_120 (by decide) (by decide) ⟨by decide, by decide⟩ rfl rfl (Nat.le_of_ble_eq_true rfl) (dall tdX5_text 8 rfl) ?_
    generalize hR0 : fX0_read ξ.2.2.2.2.1 = R0 at g2 ⊢
    refine r_istore_n (lv' := [(1, .int R0.1), (0, .ref (q 8))]) C (dall tdX5_text 9 rfl) (by decide) rfl ?_
    refine r_iload_n C 0 (dall tdX5_text 10 rfl) rfl ?_
    refine r_iconst (v := -1) C (dall tdX5_text 11 rfl) (by decide) ?_
    refine r_icmp_eq (tgt := 30) C (dall tdX5_text 12 rfl) (by decide) (fun c2 => ?_) (fun c2 => ?_)
    · obtain ⟨g3, g4, g5, g6⟩ := g2 c2
      refine r_aload_n C 1 (dall tdX5_text 17 rfl) rfl ?_
      refine r_get C 0 kw_X5 rfl rfl (by decide) kf_X5_46 rfl rfl (dall tdX5_text 18 rfl) ?_
      refine r_istore_n (lv' := [(2, .int (ξ.1.1 6)), (1, .int R0.1), (0, .ref (q 8))]) C (dall tdX5_text 19 rfl) (by decide) rfl ?_
      refine r_aload_n C 2 (dall tdX5_text 20 rfl) rfl ?_
      refine r_get C 0 kw_X5 rfl rfl (by decide) kf_X5_11 rfl rfl (dall tdX5_text 21 rfl) ?_
      refine r_iload_n C 0 (dall tdX5_text 22 rfl) rfl ?_
      refine r_aload_n C 2 (dall tdX5_text 23 rfl) rfl ?_
      refine r_get C 0 kw_X5 rfl rfl (by decide) kf_X5_33 rfl rfl (dall tdX5_text 24 rfl) ?_
      refine r_callA (b := qr 11) (as := []) (q0 := 0) (ci := 0) C (zX0_made cy qr R0.2 g3 g4) mv_X0_made km_X5_124 (by decide) (by decide) ⟨by decide, by decide⟩ rfl rfl [22, 23, 24, 25] rfl rfl rfl rfl (Nat.le_of_ble_eq_true rfl) (dall tdX5_text 25 rfl) (fun v w hp => ?_)
      obtain ⟨ta, ca, ea, rfl, rfl⟩ := hp
      refine ⟨wX0 cy qr R0.2, tcells cy ((ta, ca, ea), mtx R0.2), wX5 cy q qn qt qk qr qs a τ (xR ξ R0.2), rfl, rfl, putR cy q qn qt qk qr qs a τ (xR ξ R0.2) R0.2, ?_⟩
      refine r_stk (st' := [.ref ta, .int (ξ.1.1 6), .ref a]) rfl ?_
      have hpl : (wX5 cy q qn qt qk qr qs a τ (xR ξ R0.2) ++ tcells cy ((ta, ca, ea), mtx R0.2))[36 + 3 * τ.length]? = some (ta, .inr (2, [.ref ca, .ref ea])) := by
        have hlen : (wX5 cy q qn qt qk qr qs a τ (xR ξ R0.2)).length = 36 + 3 * τ.length := by
          unfold wX5 tw
          rw [List.length_append, List.length_cons, List.length_flatMap]
          rw [flen cy τ]
          show 35 + (3 * τ.length + 1) = _
          omega
        rw [List.getElem?_append_right (by omega), hlen, Nat.sub_self]
        rfl
      refine r_aast (ws' := wX5 cy q qn qt qk qr qs a (τ ++ [((ta, ca, ea), mtx R0.2)]) (xR ξ R0.2)) C 35 4 (36 + 3 * τ.length) 2 rfl rfl hpl rfl g5 ?_ (dall tdX5_text 26 rfl) ?_
      · rw [g6]
        have e := tw_add τ ((ta, ca, ea), mtx R0.2)
        show (hX5 cy q qn qt qk qr qs a (xR ξ R0.2) ++ ((a, .inl (cy 4, 6, .inr (.inr (.inr (.inr (va_up (fun j => (τ[j]?).map (fun t => t.1.1)) τ.length (some ta))))))) :: τ.flatMap (tcells cy))) ++ tcells cy ((ta, ca, ea), mtx R0.2) = _
        rw [e]
        unfold wX5 tw
        rw [List.flatMap_append, List.append_assoc]
        simp
      · refine r_aload_n C 2 (dall tdX5_text 27 rfl) rfl ?_
        refine r_iload_n C 0 (dall tdX5_text 28 rfl) rfl ?_
        refine r_iconst (v := 1) C (dall tdX5_text 29 rfl) (by decide) ?_
        refine r_iadd C (dall tdX5_text 30 rfl) ?_
        refine r_put C 0 kw_X5 tyX5_ok nmX5 rfl rfl (by decide) kf_X5_46 rfl rfl rfl rfl rfl (Nat.le_of_ble_eq_true rfl) (pu_X5_this_6 cy q qn qt qk qr qs a (τ ++ [((ta, ca, ea), mtx R0.2)]) (xR ξ R0.2) (ξ.1.1 6 + 1)) (dall tdX5_text 31 rfl) ?_
        refine r_iload_n C 0 (dall tdX5_text 32 rfl) rfl ?_
        have ef : fX5_text ξ = (ξ.1.1 6, xX (xR ξ R0.2) (oI ξ.1 6 (ξ.1.1 6 + 1)), true) := by unfold fX5_text; rw [hR0, if_pos c1, if_pos c2]
        refine r_iret C hR (dall tdX5_text 33 rfl) ⟨ta, ca, ea, by rw [ef], ?_⟩
        unfold tX5_text
        rw [ef, hR0]
        rfl
    · refine r_bipush (v := -100) C (dall tdX5_text 13 rfl) (by decide) ?_
      refine r_iload_n C 0 (dall tdX5_text 14 rfl) rfl ?_
      refine r_isub C (dall tdX5_text 15 rfl) ?_
      refine r_widen (kc' := 3) (ks' := 165) (by decide) (by decide) ?_
      have ef : fX5_text ξ = ((-100) - R0.1, xR ξ R0.2, false) := by unfold fX5_text; rw [hR0, if_pos c1, if_neg c2]
      refine r_iret C hR (dall tdX5_text 16 rfl) ⟨0, 0, 0, by rw [ef], ?_⟩
      unfold tX5_text
      rw [ef]
      rfl
  · refine r_bipush (v := -4) C (dall tdX5_text 4 rfl) (by decide) ?_
    refine r_widen (kc' := 3) (ks' := 165) (by decide) (by decide) ?_
    have ef : fX5_text ξ = (-4, ξ, false) := by unfold fX5_text; rw [if_neg c1]
    refine r_iret C hR (dall tdX5_text 5 rfl) ⟨0, 0, 0, by rw [ef], ?_⟩
    unfold tX5_text
    rw [ef]
    rfl


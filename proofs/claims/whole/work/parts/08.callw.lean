/-! a call whose world is some places of the caller's: what stands there is put anew, the rest stays -/
theorem fm_of_map {α β : Type} {f : α → Option β} : ∀ {l : List α} {w : List β}, l.map f = w.map some → l.filterMap f = w
  | [], [], _ => rfl
  | [], _ :: _, h => by simp at h
  | _ :: _, [], h => by simp at h
  | a :: l, b :: w, h => by
    simp only [List.map_cons, List.cons.injEq] at h
    rw [List.filterMap_cons_some h.1, fm_of_map h.2]
section CallW
variable {X : CX} {cc : ByteArray} {own : String} {nL : Nat} {D : va_G} {tys : List (ClassId × FieldType)} {A : Nat → Prop} {lev cM sM kc ks pc : Nat} {lv lv' : List (Nat × Value)} {st stk : List Value} {ws ws' wc : va_W}
variable {y : MethodName} {cc' : ByteArray} {nL' lev' idx n : Nat} {ret : Option FieldType} {as : List Value} {post : Option Value → va_W → Prop} {CC : String} {b : Nat}
/-- ws' is ws with cells of w at the places isC -/
def Put (isC : List Nat) (ws w ws' : va_W) : Prop := ws'.map Prod.fst = ws.map Prod.fst ∧ ∀ (i : Nat) (c : Nat × va_E), ws'[i]? = some c → (i ∈ isC ∧ c ∈ w) ∨ (i ∉ isC ∧ ws[i]? = some c)
theorem va_D_fst {A : Nat → Prop} {ws ws' : va_W} (h : ws'.map Prod.fst = ws.map Prod.fst) (hD : va_D A ws) : va_D A ws' := by
  have g : ∀ (i : Nat) (p : Nat × va_E), ws'[i]? = some p → ∃ p', ws[i]? = some p' ∧ p'.1 = p.1 := by
    intro i p hp
    have e : (ws'.map Prod.fst)[i]? = some p.1 := by rw [List.getElem?_map, hp]; rfl
    rw [h, List.getElem?_map] at e
    cases hq : ws[i]? with
    | none => rw [hq] at e; cases e
    | some p' => rw [hq] at e; exact ⟨p', rfl, Option.some.inj e⟩
  refine ⟨fun i j p q hi hj hpq => ?_, fun k q hk => ?_⟩
  · obtain ⟨p', h1, e1⟩ := g i p hi
    obtain ⟨q', h2, e2⟩ := g j q hj
    exact hD.1 i j p' q' h1 h2 (by rw [e1, e2, hpq])
  · obtain ⟨q', h1, e1⟩ := g k q hk
    exact e1 ▸ hD.2 k q' h1
set_option maxHeartbeats 2000000 in
theorem r_back2 (hC0 : Cx X cc own nL D tys A lev cM sM) (isC : List Nat) (hC : isC.map (fun i => ws[i]?) = wc.map some) {aa : Array Value} {mc ms : Nat}
    {H : Heap} {locs : List Loc} {ls : Array Slot} (hP : va_P D vwCl ws H) (hD : va_D A ws) (hS : va_S A X.1.2.2.2.2.heap H locs) (hl : lv_has ls nL lv)
    (hrun : va_Run X.1.1 X.1.2.1 X.1.2.2.1 X.1.2.2.2.1 X.1.2.2.2.2 X.2.1.1 X.2.1.2.1 X.2.1.2.2.1 X.2.1.2.2.2.1 X.2.1.2.2.2.2 H locs kc ks mc ms (F0 X.2.1.1 pc ls stk) st (gQ post D tys (va_A wc H.size) aa) (va_A wc H.size))
    (k : ∀ (v : Option Value) (w : va_W), post v w → ∃ ws', Put isC ws w ws' ∧ At X D A nL (kc + mc) (ks + ms) (pc + 3) lv (v.toList ++ st) ws') :
    W X.1.1 X.1.2.1 X.1.2.2.1 X.1.2.2.2.1 X.1.2.2.2.2 X.2.1.1 X.2.1.2.1 X.2.1.2.2.1 X.2.1.2.2.2.1 X.2.1.2.2.2.2 H locs kc ks X.2.2 (F0 X.2.1.1 pc ls stk) := by
  intro T hT XX
  have hFc := va_free (wc := wc) hD hS hC0.2.2.2.2.2.2.1 isC hC
  obtain ⟨v, st₀, t, T', L, h0, X', hL, e1, e2, ⟨⟨v', w, hv, hp, hPw, hKw, hDw⟩, hz, hk⟩, stp⟩ := hrun T hT XX
  cases hv
  rw [h0] at hz hk
  obtain ⟨ws', ⟨hf, hpl⟩, hAt⟩ := k v w hp
  have hP1 : va_P D vwCl ws' t.heap := by
    intro i c hi
    rcases hpl i c hi with ⟨_, hw⟩ | ⟨hni, hws⟩
    · obtain ⟨j, hj⟩ := List.getElem?_of_mem hw
      exact hPw j c hj
    · have hat := hP i c hws
      refine hat.kept (hk c.1 hat.lt (fun hA => ?_))
      rcases hA with ⟨j, e, hj⟩ | hge
      · have hm : (wc.map some)[j]? = some (some (c.1, e)) := by rw [List.getElem?_map, hj]; rfl
        rw [← hC, List.getElem?_map] at hm
        cases hq : isC[j]? with
        | none => rw [hq] at hm; cases hm
        | some i' =>
          rw [hq] at hm
          have hi' : ws[i']? = some (c.1, e) := Option.some.inj hm
          exact hni (hD.1 i i' c (c.1, e) hws hi' rfl ▸ List.mem_of_getElem? hq)
      · exact Nat.lt_irrefl _ (Nat.lt_of_lt_of_le hat.lt hge)
  obtain ⟨t2, a1, b1⟩ := hAt T'.heap (locs ++ L) ls (e1 ▸ hP1) (va_D_fst hf hD)
    ⟨Nat.le_trans hS.1 (by rw [e1]; exact hz), fun q h1 h2 => by rw [e1, hk q (Nat.lt_of_lt_of_le h1 hS.1) (fun z => h2 (hFc q z))]; exact hS.2.1 q h1 h2, fun q hq => by
      rcases List.mem_append.mp hq with h | h
      · exact hS.2.2 q h
      · exact hFc _ (hL q h)⟩ hl T' rfl X'
  exact ⟨t2, stp t2 a1, b1⟩
set_option maxHeartbeats 2000000 in
theorem r_callW (C : Cx X cc own nL D tys A lev cM sM) (hM : Con y cc' nL' ret lev' 0 0 D tys (.ref b :: as) wc post) (hw : MV y cc' nL' ret CC n) (hlk : Cond.methodLink own idx y ∈ gT) (hlev : lev' + 1 ≤ lev) (hnL : nL' ≤ 21) (hcap : kc ≤ cM ∧ ks ≤ sM)
    {q0 ci : Nat} {fs : List Value} {T : u_T} {N : Nat} (hrc : vwCl[ci]? = some (CC, T, N)) (hre : wc[q0]? = some (b, .inr (ci, fs)))
    (isC : List Nat) (hC : isC.map (fun i => ws[i]?) = wc.map some) (hCn : va_nd isC = true)
    (hn : as.length = n) (hstk : stk = as.reverse ++ .ref b :: st) (hW : (st.map fun v => v.category).sum ≤ 8) (hdg : decode cc pc = .ok (.invokevirtual idx, 3))
    (k : ∀ (v : Option Value) (w : va_W), post v w → ∃ ws', Put isC ws w ws' ∧ At X D A nL kc ks (pc + 3) lv (v.toList ++ st) ws') : At X D A nL kc ks pc lv stk ws := by
  intro H locs ls hP hD hS hl
  have hPc := hP.sub (ws' := wc) isC (fm_of_map hC)
  have hDc := hD.sub (ws' := wc) isC hCn hC
  have hFc := va_free (wc := wc) hD hS C.2.2.2.2.2.2.1 isC hC
  have C' := C
  obtain ⟨hx, hb, hml, hown, hts, hK, hA, hf1, hf2, hc1, hc2, hSt⟩ := C
  obtain ⟨w1, w2, w3, w4, w5⟩ := hw
  have hG : GoodIn gT (wsV own idx CC y (Cond.code y cc' nL' ret :: gT)) := by
    intro w h
    rcases List.mem_append.mp h with h | h
    · simp only [List.mem_cons, List.not_mem_nil, or_false] at h
      rcases h with rfl | rfl | rfl | rfl
      · exact gT_self _ hlk
      · exact gT_self _ w1
      · exact gT_self _ w2
      · exact gT_self _ w3
    · exact gT_c w4 w h
  refine r_back2 C' isC hC hP hD hS hl (va_runV (g := F0 X.2.1.1 pc ls stk) (As := as) ⟨hx, hb, hml, hown, hts⟩ (hM X.1.2.1 H.size) (cwV n hts hG rfl rfl rfl w5 ⟨by show lev' + 1 ≤ _; omega, by show 8 + (nL' + 11) + 40 * lev' ≤ _; omega⟩) ⟨gB_blind, va_recv hK hPc hrc hre, fun U hU hWm => ⟨rfl, by rw [hU], by rw [hU]; exact hPc, va_K.moved hWm.alike hK, hDc.weaken (fun _ _ _ _ => trivial), ?_⟩⟩ rfl hn hl.1 hstk (lv_room hW) hdg ⟨by rw [hc1]; exact hcap.1, by rw [hc2]; exact hcap.2⟩) k
  rw [hU]
  exact (Stt.sub hS hFc hSt).moved hWm.alike (fun h => h.warm hWm) (fun h => h.warm hWm)
set_option maxHeartbeats 2000000 in
theorem r_callWS (C : Cx X cc own nL D tys A lev cM sM) (hM : Con y cc' nL' ret lev' 0 0 D tys as wc post) (hw : MS_ y cc' nL' ret n) (hlk : Cond.methodLink own idx y ∈ gT) (hlev : lev' + 1 ≤ lev) (hnL : nL' ≤ 21) (hcap : kc ≤ cM ∧ ks ≤ sM)
    (isC : List Nat) (hC : isC.map (fun i => ws[i]?) = wc.map some) (hCn : va_nd isC = true)
    (hn : as.length = n) (hstk : stk = as.reverse ++ st) (hW : (st.map fun v => v.category).sum ≤ 8) (hdg : decode cc pc = .ok (.invokestatic idx, 3))
    (k : ∀ (v : Option Value) (w : va_W), post v w → ∃ ws', Put isC ws w ws' ∧ At X D A nL kc ks (pc + 3) lv (v.toList ++ st) ws') : At X D A nL kc ks pc lv stk ws := by
  intro H locs ls hP hD hS hl
  have hPc := hP.sub (ws' := wc) isC (fm_of_map hC)
  have hDc := hD.sub (ws' := wc) isC hCn hC
  have hFc := va_free (wc := wc) hD hS C.2.2.2.2.2.2.1 isC hC
  have C' := C
  obtain ⟨hx, hb, hml, hown, hts, hK, hA, hf1, hf2, hc1, hc2, hSt⟩ := C
  obtain ⟨w1, w2, w3, w4⟩ := hw
  have hG : GoodIn gT (va_wsS own idx y (Cond.code y cc' nL' ret :: gT)) := by
    intro w h
    rcases List.mem_append.mp h with h | h
    · simp only [List.mem_cons, List.not_mem_nil, or_false] at h
      rcases h with rfl | rfl | rfl
      · exact gT_self _ hlk
      · exact gT_self _ w1
      · exact gT_self _ w2
    · exact gT_c w3 w h
  refine r_back2 C' isC hC hP hD hS hl (va_runS (g := F0 X.2.1.1 pc ls stk) (As := as) ⟨hx, hb, hml, hown, hts⟩ (hM X.1.2.1 H.size) (va_cwS n hts hG rfl rfl rfl w4 ⟨by show lev' + 1 ≤ _; omega, by show 8 + (nL' + 11) + 40 * lev' ≤ _; omega⟩) ⟨gB_blind, fun U hU hWm => ⟨rfl, by rw [hU], by rw [hU]; exact hPc, va_K.moved hWm.alike hK, hDc.weaken (fun _ _ _ _ => trivial), ?_⟩⟩ rfl hn hl.1 hstk (lv_room hW) hdg ⟨by rw [hc1]; exact hcap.1, by rw [hc2]; exact hcap.2⟩) k
  rw [hU]
  exact (Stt.sub hS hFc hSt).moved hWm.alike (fun h => h.warm hWm) (fun h => h.warm hWm)
theorem r_ifnonnull (C : Cx X cc own nL D tys A lev cM sM) {x : Nat} {off : Int} {tgt : Nat} (hdg : decode cc pc = .ok (.ifnonnull off, 3)) (ht : (pc : Int) + off = (tgt : Int)) (k : At X D A nL kc ks tgt lv st ws) : At X D A nL kc ks pc lv (.ref x :: st) ws :=
  fun H locs ls hP hD hS hl => lv_ifnonnull C.1 C.2.1 hdg ht (k H locs ls hP hD hS hl)
end CallW
/-- a state with an array anew -/
def oAr (σ : OS) (k : Nat) (f : Nat → Int32) : OS := (σ.1, σ.2.1, va_up σ.2.2.1 k f, σ.2.2.2)
/-- the texts: addresses of the text, its code, its ends; the code's size; the code, the ends -/
abbrev TX : Type := List ((Nat × Nat × Nat) × (Nat × (Nat → Int32) × (Nat → Int32)))
abbrev tcells (cy : Nat → ClassId) (t : (Nat × Nat × Nat) × (Nat × (Nat → Int32) × (Nat → Int32))) : va_W := [(t.1.1, .inr (2, [.ref t.1.2.1, .ref t.1.2.2])), (t.1.2.1, .inl (cy 0, t.2.1, .inl t.2.2.1)), (t.1.2.2, .inl (cy 0, 3, .inl t.2.2.2))]
def tw (cy : Nat → ClassId) (a : Nat) (τ : TX) : va_W := (a, .inl (cy 4, 6, .inr (.inr (.inr (.inr (fun j => (τ[j]?).map (fun t => t.1.1))))))) :: τ.flatMap (tcells cy)
/-- the text at a place (one that is there) -/
def tAt (τ : TX) (i : Nat) : (Nat × Nat × Nat) × (Nat × (Nat → Int32) × (Nat → Int32)) := (τ[i]?).getD ((0, 0, 0), (0, fun _ => 0, fun _ => 0))
theorem fm_three {α β : Type} (f : α → List β) (hf : ∀ a, (f a).length = 3) : ∀ (l : List α) (i r : Nat), r < 3 → (l.flatMap f)[3 * i + r]? = (l[i]?).bind (fun a => (f a)[r]?)
  | [], i, r, _ => by simp
  | a :: l, 0, r, hr => by
    rw [List.flatMap_cons, List.getElem?_append_left (by rw [hf]; omega)]
    simp
  | a :: l, i + 1, r, hr => by
    rw [List.flatMap_cons, List.getElem?_append_right (by rw [hf]; omega), hf, show 3 * (i + 1) + r - 3 = 3 * i + r by omega, fm_three f hf l i r hr]
    simp
theorem tw_at (cy : Nat → ClassId) (a : Nat) {τ : TX} {i r : Nat} (hi : i < τ.length) (hr : r < 3) : (tw cy a τ)[3 * i + r + 1]? = (tcells cy (tAt τ i))[r]? := by
  unfold tw
  rw [List.getElem?_cons_succ, fm_three _ (fun _ => rfl) τ i r hr]
  simp [tAt, List.getElem?_eq_getElem hi]

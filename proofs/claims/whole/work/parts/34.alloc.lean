/-! making: arrays, objects, constructors -/
section Alloc
variable {X : CX} {cc : ByteArray} {own : String} {nL : Nat} {D : va_G} {cy : Nat → ClassId} {A : Nat → Prop} {lev cM sM kc ks pc : Nat} {lv lv' : List (Nat × Value)} {st stk : List Value} {ws ws' wc wr : va_W}
theorem r_objInit (C : Cx X cc own nL D (gty cy) A lev cM sM) {idx a : Nat} (hlk : Cond.methodLink own idx Lib.objectInit ∈ gT) (hlev : 0 + 1 ≤ lev) (hW : (st.map fun v => v.category).sum ≤ 8) (hdg : decode cc pc = .ok (.invokespecial idx, 3)) (k : At X D A nL kc ks (pc + 3) lv st ws) : At X D A nL kc ks pc lv (.ref a :: st) ws := by
  intro H locs ls hP hD hS hl
  have h1 := C.2.2.2.2.2.2.2.1
  have h2 := C.2.2.2.2.2.2.2.2.1
  have h3 := lv_room (m := X.2.1.1) (pc := pc) (ls := ls) (rest := .ref a :: st) hW
  exact W.objInit (g := F0 X.2.1.1 pc ls (.ref a :: st)) C.1 C.2.1 C.2.2.2.1 (C.2.2.2.2.1 _ hlk) (C.2.2.2.2.1 _ kz_oi) (C.2.2.2.2.1 _ kz_oc) rfl (hl.1.trans C.2.2.1.symm) rfl hdg (by omega) (by omega) (k H locs ls hP hD hS hl)
theorem cy_eq {s : State} {tys : List (ClassId × FieldType)} {cA : ClassId} {ty : FieldType} (t0 : Nat) (hprim : ∀ u : State, ∀ c : ClassId, va_RA u c ty → u.vm.findClass ("[" ++ ty.toString) = some c) (hK : va_K D vwCl (gty cy) s) (ht : (gty cy)[t0]? = some (cy t0, ty)) (hK1 : va_K D vwCl (gty cy ++ [(cA, ty)]) s) : cA = cy t0 := by
  have h1 := hprim s _ (hK.2 t0 _ ht).2
  have h2 := hprim s _ (hK1.2 5 (cA, ty) rfl).2
  rw [h1] at h2
  exact (Option.some.inj h2).symm
theorem r_newi (C : Cx X cc own nL D (gty cy) A lev cM sM) {n : Int32} {N : Nat} (hn : ¬ n < 0) (hN : n.toNatClampNeg = N) (hb : N ≤ 100000) (hc : kc + 1 ≤ cM) (hs : ks + N ≤ sM) (hdg : decode cc pc = .ok (.newarray .int, 2)) (k : ∀ q : Nat, At X D A nL (kc + 1) (ks + N) (pc + 2) lv (.ref q :: st) (ws ++ [(q, .inl (cy 0, N, .inl (fun _ => 0)))])) : At X D A nL kc ks pc lv (.int n :: st) ws := by
  intro H locs ls hP hD hS hl
  have hK := C.2.2.2.2.2.1
  refine va_newa (atype := .int) C.1 C.2.1 (C.2.2.2.2.1 _ ka_82) rfl hK hP hD hS C.2.2.2.2.2.2.1 (a0 := (N, .inl (fun _ => 0))) (fun _ => rfl) hn hN (by show N * 4 ≤ _; omega) (by rw [C.2.2.2.2.2.2.2.2.2.1]; exact hc) (by rw [C.2.2.2.2.2.2.2.2.2.2.1]; exact hs) hdg (fun q cA H1 hK1 hP1 hD1 hS1 => ?_)
  obtain rfl : cA = cy 0 := cy_eq (tys := []) (ty := .int) 0 (fun _ _ h => h) hK rfl hK1
  exact k q H1 locs ls hP1 hD1 hS1 hl
theorem r_newl (C : Cx X cc own nL D (gty cy) A lev cM sM) {n : Int32} {N : Nat} (hn : ¬ n < 0) (hN : n.toNatClampNeg = N) (hb : N ≤ 100000) (hc : kc + 1 ≤ cM) (hs : ks + N ≤ sM) (hdg : decode cc pc = .ok (.newarray .long, 2)) (k : ∀ q : Nat, At X D A nL (kc + 1) (ks + N) (pc + 2) lv (.ref q :: st) (ws ++ [(q, .inl (cy 1, N, .inr (.inl (fun _ => 0))))])) : At X D A nL kc ks pc lv (.int n :: st) ws := by
  intro H locs ls hP hD hS hl
  have hK := C.2.2.2.2.2.1
  refine va_newa (atype := .long) C.1 C.2.1 (C.2.2.2.2.1 _ ka_83) rfl hK hP hD hS C.2.2.2.2.2.2.1 (a0 := (N, .inr (.inl (fun _ => 0)))) (fun _ => rfl) hn hN (by show N * 8 ≤ _; omega) (by rw [C.2.2.2.2.2.2.2.2.2.1]; exact hc) (by rw [C.2.2.2.2.2.2.2.2.2.2.1]; exact hs) hdg (fun q cA H1 hK1 hP1 hD1 hS1 => ?_)
  obtain rfl : cA = cy 1 := cy_eq (tys := []) (ty := .long) 1 (fun _ _ h => h) hK rfl hK1
  exact k q H1 locs ls hP1 hD1 hS1 hl
theorem r_newz (C : Cx X cc own nL D (gty cy) A lev cM sM) {n : Int32} {N : Nat} (hn : ¬ n < 0) (hN : n.toNatClampNeg = N) (hb : N ≤ 100000) (hc : kc + 1 ≤ cM) (hs : ks + N ≤ sM) (hdg : decode cc pc = .ok (.newarray .boolean, 2)) (k : ∀ q : Nat, At X D A nL (kc + 1) (ks + N) (pc + 2) lv (.ref q :: st) (ws ++ [(q, .inl (cy 2, N, .inl (fun _ => 0)))])) : At X D A nL kc ks pc lv (.int n :: st) ws := by
  intro H locs ls hP hD hS hl
  have hK := C.2.2.2.2.2.1
  refine va_newa (atype := .boolean) C.1 C.2.1 (C.2.2.2.2.1 _ ka_874) rfl hK hP hD hS C.2.2.2.2.2.2.1 (a0 := (N, .inl (fun _ => 0))) (fun _ => rfl) hn hN (by show N * 1 ≤ _; omega) (by rw [C.2.2.2.2.2.2.2.2.2.1]; exact hc) (by rw [C.2.2.2.2.2.2.2.2.2.2.1]; exact hs) hdg (fun q cA H1 hK1 hP1 hD1 hS1 => ?_)
  obtain rfl : cA = cy 2 := cy_eq (tys := []) (ty := .boolean) 2 (fun _ _ h => h) hK rfl hK1
  exact k q H1 locs ls hP1 hD1 hS1 hl
theorem r_newq (C : Cx X cc own nL D (gty cy) A lev cM sM) {idx : Nat} {EC : String} (t0 : Nat) (ht : (gty cy)[t0]? = some (cy t0, .object EC)) (hl0 : Cond.classLink own idx EC ∈ gT) (hov : va_AO EC X.1.2.2.2.2) {n : Int32} {N : Nat} (hn : ¬ n < 0) (hN : n.toNatClampNeg = N) (hb : N ≤ 100000) (hc : kc + 1 ≤ cM) (hs : ks + N ≤ sM) (hdg : decode cc pc = .ok (.anewarray idx, 3)) (k : ∀ q : Nat, At X D A nL (kc + 1) (ks + N) (pc + 3) lv (.ref q :: st) (ws ++ [(q, .inl (cy t0, N, .inr (.inr (.inr (.inr (fun _ => none))))))])) : At X D A nL kc ks pc lv (.int n :: st) ws := by
  intro H locs ls hP hD hS hl
  have hK := C.2.2.2.2.2.1
  refine va_newq C.1 C.2.1 C.2.2.2.1 (C.2.2.2.2.1 _ hl0) hov hK hP hD hS C.2.2.2.2.2.2.1 hn hN (by omega) (by rw [C.2.2.2.2.2.2.2.2.2.1]; exact hc) (by rw [C.2.2.2.2.2.2.2.2.2.2.1]; exact hs) hdg (fun q cA H1 hK1 hP1 hD1 hS1 => ?_)
  obtain rfl : cA = cy t0 := cy_eq (tys := []) t0 (fun _ _ h => by obtain ⟨_, _, _, _, _, h4⟩ := h; exact h4) hK ht hK1
  exact k q H1 locs ls hP1 hD1 hS1 hl
theorem r_new (C : Cx X cc own nL D (gty cy) A lev cM sM) {idx ci N : Nat} {CC : String} {T : u_T} {ty0 : Nat → FieldType} {fs : List Value} (hw : ∀ w ∈ u_ws CC T N, w ∈ gT) (hty : ∀ k, k < N → parseFieldDescriptor (T k).2.2.1 = some (ty0 k)) (hl0 : Cond.classLink own idx CC ∈ gT) (hin : Cond.instantiable CC N ∈ gT) (hni : Cond.initialized CC ∈ gT) (hcl : vwCl[ci]? = some (CC, T, N)) (hfs : ∀ j, j < N → defaultValue (ty0 j) = vp_V fs j) (hc : kc + 1 ≤ cM) (hs : ks + N ≤ sM) (hdg : decode cc pc = .ok (.new idx, 3)) (k : ∀ q : Nat, At X D A nL (kc + 1) (ks + N) (pc + 3) lv (.ref q :: st) (ws ++ [(q, .inr (ci, fs))])) : At X D A nL kc ks pc lv st ws :=
  fun _ locs ls hP hD hS hl => va_new C.1 C.2.1 C.2.2.2.2.1 hw ty0 hty C.2.2.2.1 (C.2.2.2.2.1 _ hl0) (C.2.2.2.2.1 _ hin) (C.2.2.2.2.1 _ hni) C.2.2.2.2.2.1 hP hD hS C.2.2.2.2.2.2.1 hcl hfs (by rw [C.2.2.2.2.2.2.2.2.2.1]; exact hc) (by rw [C.2.2.2.2.2.2.2.2.2.2.1]; exact hs) hdg (fun q H1 hP1 hD1 hS1 => k q H1 locs ls hP1 hD1 hS1 hl)
theorem r_aast (C : Cx X cc own nL D (gty cy) A lev cM sM) (q0 t0 qk ci : Nat) {a n v N : Nat} {cA : ClassId} {EC : String} {T : u_T} {vs : List Value} {f : Nat → Option Nat} {i : Int32} (ha : ws[q0]? = some (a, .inl (cA, n, .inr (.inr (.inr (.inr f)))))) (ht : (gty cy)[t0]? = some (cA, .object EC)) (hv : ws[qk]? = some (v, .inr (ci, vs))) (hc : vwCl[ci]? = some (EC, T, N)) (hin : vp_in i n) (hws : ws.set q0 (a, .inl (cA, n, .inr (.inr (.inr (.inr (va_up f i.toNatClampNeg (some v))))))) = ws') (hdg : decode cc pc = .ok (.aastore, 1)) (k : At X D A nL kc ks (pc + 1) lv st ws') : At X D A nL kc ks pc lv (.ref v :: .int i :: .ref a :: st) ws :=
  fun _ _ ls hP hD hS hl => va_astq (r := (EC, T, N)) C.1 C.2.1 C.2.2.2.2.2.1 hP hD hS q0 t0 qk ci ha ht hv hc hin hdg (fun H1 locs1 hP1 hD1 hS1 => k H1 locs1 ls (hws ▸ hP1) (hws ▸ hD1) hS1 hl)
theorem r_re (ps : List Nat) (h : ps.map (fun i => ws[i]?) = ws'.map some) (hn : va_nd ps = true) (k : At X D A nL kc ks pc lv st ws') : At X D A nL kc ks pc lv st ws :=
  fun H locs ls hP hD hS hl => k H locs ls (hP.sub ps (fm_of_map h)) (hD.sub ps hn h) hS hl
theorem r_aret (C : Cx X cc own nL D (gty cy) A lev cM sM) {post : Option Value → va_W → Prop} {rt : FieldType} {v : Nat} (hR : Rt X (some rt) D (gty cy) A kc ks post) (hrt : (∃ n, rt = .object n) ∨ ∃ t, rt = .array t) (hdg : decode cc pc = .ok (.areturn, 1)) (hp : post (some (.ref v)) ws) : At X D A nL kc ks pc lv [.ref v] ws := by
  intro H locs ls hP hD hS hl
  rw [hR.1]
  exact W.aret C.1 C.2.1 hR.2.1 hrt (Or.inr ⟨v, rfl⟩) (fun t ht hW => ⟨⟨some (.ref v), ws, rfl, hp, ht ▸ hP, va_K.moved hW.alike C.2.2.2.2.2.1, hD⟩, hS.F ht⟩) hS.2.2 hdg hR.2.2
variable {y : MethodName} {cc' : ByteArray} {nL' lev' mc ms idx n b : Nat} {as : List Value} {post : Option Value → va_W → Prop}
/-- the words of a constructor -/
def MI (y : MethodName) (cc : ByteArray) (nL : Nat) (n : Nat) : Prop :=
  Cond.instanceMethod y ∈ gT ∧ Cond.initialized y.cls ∈ gT ∧ Cond.code y cc nL none ∈ gT ∧ y.name = "<init>" ∧ (y.cls ≠ "java/lang/invoke/MethodHandle" ∧ y.cls ≠ "java/lang/invoke/VarHandle" ∧ (parseMethodDescriptor y.desc).map (fun d => d.parameters.length) = some n)
set_option maxHeartbeats 2000000 in
theorem r_callI (C : Cx X cc own nL D (gty cy) A lev cM sM) (hM : Con y cc' nL' none lev' mc ms D (gty cy) (.ref b :: as) wc post) (hw : MI y cc' nL' n) (hlk : Cond.methodLink own idx y ∈ gT) (hlev : lev' + 1 ≤ lev) (hnL : nL' ≤ 21) (hcap : kc + mc ≤ cM ∧ ks + ms ≤ sM)
    (isC isR : List Nat) (hC : isC.map (fun i => ws[i]?) = wc.map some) (hCn : va_nd isC = true) (hR : isR.map (fun i => ws[i]?) = wr.map some) (hnd : va_nd isR = true) (hdis : ∀ i ∈ isR, i ∉ isC)
    (hn : as.length = n) (hstk : stk = as.reverse ++ .ref b :: st) (hW : (st.map fun v => v.category).sum ≤ 8) (hdg : decode cc pc = .ok (.invokespecial idx, 3))
    (k : ∀ (v : Option Value) (w : va_W), post v w → At X D A nL (kc + mc) (ks + ms) (pc + 3) lv (v.toList ++ st) (wr ++ w)) : At X D A nL kc ks pc lv stk ws := by
  intro H locs ls hP hD hS hl
  have hPc := hP.sub (ws' := wc) isC (fm_of_map hC)
  have hDc := hD.sub (ws' := wc) isC hCn hC
  have hFc := va_free (wc := wc) hD hS C.2.2.2.2.2.2.1 isC hC
  have C' := C
  obtain ⟨hx, hb, hml, hown, hts, hK, hA, hf1, hf2, hc1, hc2, hSt⟩ := C
  obtain ⟨w1, w2, w3, w4, w5⟩ := hw
  refine r_back C' isC isR hC hR hnd hdis hP hD hS hl (va_runI (g := F0 X.2.1.1 pc ls stk) (As := as) ⟨hx, hb, hml, hown, hts⟩ (hM X.1.2.1 H.size) (cwI n hts (gT_c w3) rfl rfl rfl (hts _ w2) (hts _ hlk) (hts _ w1) w4 w5 ⟨by show lev' + 1 ≤ _; omega, by show 8 + (nL' + 11) + 40 * lev' ≤ _; omega⟩) ⟨gB_blind, fun U hU hWm => ⟨rfl, by rw [hU], by rw [hU]; exact hPc, va_K.moved hWm.alike hK, hDc.weaken (fun _ _ _ _ => trivial), ?_⟩⟩ rfl hn hl.1 hstk (lv_room hW) hdg ⟨by rw [hc1]; exact hcap.1, by rw [hc2]; exact hcap.2⟩) k
  rw [hU]
  exact (Stt.sub hS hFc hSt).moved hWm.alike (fun h => h.warm hWm) (fun h => h.warm hWm)
set_option maxHeartbeats 2000000 in
/-- a nest mate's private constructor -/
theorem r_callIN (C : Cx X cc own nL D (gty cy) A lev cM sM) (hM : Con y cc' nL' none lev' mc ms D (gty cy) (.ref b :: as) wc post) (hw : MI y cc' nL' n) {host : String} (hlk : va_Nw (.methodLinkNest own idx y host) X.1.2.2.2.2) (hlev : lev' + 1 ≤ lev) (hnL : nL' ≤ 21) (hcap : kc + mc ≤ cM ∧ ks + ms ≤ sM)
    (isC isR : List Nat) (hC : isC.map (fun i => ws[i]?) = wc.map some) (hCn : va_nd isC = true) (hR : isR.map (fun i => ws[i]?) = wr.map some) (hnd : va_nd isR = true) (hdis : ∀ i ∈ isR, i ∉ isC)
    (hn : as.length = n) (hstk : stk = as.reverse ++ .ref b :: st) (hW : (st.map fun v => v.category).sum ≤ 8) (hdg : decode cc pc = .ok (.invokespecial idx, 3))
    (k : ∀ (v : Option Value) (w : va_W), post v w → At X D A nL (kc + mc) (ks + ms) (pc + 3) lv (v.toList ++ st) (wr ++ w)) : At X D A nL kc ks pc lv stk ws := by
  intro H locs ls hP hD hS hl
  have hPc := hP.sub (ws' := wc) isC (fm_of_map hC)
  have hDc := hD.sub (ws' := wc) isC hCn hC
  have hFc := va_free (wc := wc) hD hS C.2.2.2.2.2.2.1 isC hC
  have C' := C
  obtain ⟨hx, hb, hml, hown, hts, hK, hA, hf1, hf2, hc1, hc2, hSt⟩ := C
  obtain ⟨w1, w2, w3, w4, w5⟩ := hw
  refine r_back C' isC isR hC hR hnd hdis hP hD hS hl (va_runIN (g := F0 X.2.1.1 pc ls stk) (As := as) ⟨hx, hb, hml, hown, hts⟩ (hM X.1.2.1 H.size) ⟨va_cnB n hts (gT_c w3) rfl rfl rfl hlk (hts _ w2) w5 ⟨by show lev' + 1 ≤ _; omega, by show 8 + (nL' + 11) + 40 * lev' ≤ _; omega⟩, w4, hts _ w1⟩ ⟨gB_blind, fun U hU hWm => ⟨rfl, by rw [hU], by rw [hU]; exact hPc, va_K.moved hWm.alike hK, hDc.weaken (fun _ _ _ _ => trivial), ?_⟩⟩ rfl hn hl.1 hstk (lv_room hW) hdg ⟨by rw [hc1]; exact hcap.1, by rw [hc2]; exact hcap.2⟩) k
  rw [hU]
  exact (Stt.sub hS hFc hSt).moved hWm.alike (fun h => h.warm hWm) (fun h => h.warm hWm)
end Alloc

/-! rows of the statics and of the String constants -/
section Stat
variable {X : CX} {cc : ByteArray} {own : String} {nL : Nat} {D : va_G} {tys : List (ClassId × FieldType)} {A : Nat → Prop} {lev cM sM kc ks pc : Nat} {lv lv' : List (Nat × Value)} {st stk : List Value} {ws : va_W}
theorem Cx_st (C : Cx X cc own nL D tys A lev cM sM) : Stt D A X.1.2.2.2.2 X.1.2.2.2.2.heap := C.2.2.2.2.2.2.2.2.2.2.2
theorem rg_OFFSETS (C : Cx X cc own nL D tys A lev cM sM) {index : Nat} (hl : Cond.fieldLink own index RX3 "OFFSETS" "[I" ∈ gT) (hdg : decode cc pc = .ok (.getstatic index, 3)) (k : At X D A nL kc ks (pc + 3) lv (.ref (D.2 100 0) :: st) ws) : At X D A nL kc ks pc lv st ws :=
  fun H locs ls hP hD hS h => va_gets C.1 C.2.1 (Cx_st C).1.1 hS C.2.2.2.1 (C.2.2.2.2.1 _ hl) (fun _ h => h) hdg (k H locs ls hP hD hS h)
theorem rs_OFFSETS (C : Cx X cc own nL D tys A lev cM sM) {i : Int32} (hin : vp_in i 24) (hdg : decode cc pc = .ok (.iaload, 1)) (k : At X D A nL kc ks (pc + 1) lv (.int (tOFF i.toNatClampNeg) :: st) ws) : At X D A nL kc ks pc lv (.int i :: .ref (D.2 100 0) :: st) ws :=
  fun H locs ls hP hD hS h => va_ti C.1 C.2.1 (Cx_st C).1.2 hS hin rfl hdg (k H locs ls hP hD hS h)
theorem rl_OFFSETS (C : Cx X cc own nL D tys A lev cM sM) (hdg : decode cc pc = .ok (.arraylength, 1)) (k : At X D A nL kc ks (pc + 1) lv (.int 24 :: st) ws) : At X D A nL kc ks pc lv (.ref (D.2 100 0) :: st) ws :=
  fun H locs ls hP hD hS h => va_tlen C.1 C.2.1 (Cx_st C).1.2 hS (by decide) hdg (k H locs ls hP hD hS h)
theorem rg_ON_WALL (C : Cx X cc own nL D tys A lev cM sM) {index : Nat} (hl : Cond.fieldLink own index RX3 "ON_WALL" "[J" ∈ gT) (hdg : decode cc pc = .ok (.getstatic index, 3)) (k : At X D A nL kc ks (pc + 3) lv (.ref (D.2 100 1) :: st) ws) : At X D A nL kc ks pc lv st ws :=
  fun H locs ls hP hD hS h => va_gets C.1 C.2.1 (Cx_st C).2.1.1 hS C.2.2.2.1 (C.2.2.2.2.1 _ hl) (fun _ h => h) hdg (k H locs ls hP hD hS h)
theorem rs_ON_WALL (C : Cx X cc own nL D tys A lev cM sM) {i : Int32} (hin : vp_in i 6) (hdg : decode cc pc = .ok (.laload, 1)) (k : At X D A nL kc ks (pc + 1) lv (.long (tWALL i.toNatClampNeg) :: st) ws) : At X D A nL kc ks pc lv (.int i :: .ref (D.2 100 1) :: st) ws :=
  fun H locs ls hP hD hS h => va_tl C.1 C.2.1 (Cx_st C).2.1.2 hS hin rfl hdg (k H locs ls hP hD hS h)
theorem rg_KIND_ABOVE (C : Cx X cc own nL D tys A lev cM sM) {index : Nat} (hl : Cond.fieldLink own index RX5 "KIND_ABOVE" "[I" ∈ gT) (hdg : decode cc pc = .ok (.getstatic index, 3)) (k : At X D A nL kc ks (pc + 3) lv (.ref (D.2 100 2) :: st) ws) : At X D A nL kc ks pc lv st ws :=
  fun H locs ls hP hD hS h => va_gets C.1 C.2.1 (Cx_st C).2.2.1.1 hS C.2.2.2.1 (C.2.2.2.2.1 _ hl) (fun _ h => h) hdg (k H locs ls hP hD hS h)
theorem rs_KIND_ABOVE (C : Cx X cc own nL D tys A lev cM sM) {i : Int32} (hin : vp_in i 6) (hdg : decode cc pc = .ok (.iaload, 1)) (k : At X D A nL kc ks (pc + 1) lv (.int (tKIND i.toNatClampNeg) :: st) ws) : At X D A nL kc ks pc lv (.int i :: .ref (D.2 100 2) :: st) ws :=
  fun H locs ls hP hD hS h => va_ti C.1 C.2.1 (Cx_st C).2.2.1.2 hS hin rfl hdg (k H locs ls hP hD hS h)
theorem rg_COMPACT (C : Cx X cc own nL D tys A lev cM sM) {index : Nat} (hl : Cond.fieldLink own index RJ0 "COMPACT_STRINGS" "Z" ∈ gT) (hdg : decode cc pc = .ok (.getstatic index, 3)) (k : At X D A nL kc ks (pc + 3) lv (.int 1 :: st) ws) : At X D A nL kc ks pc lv st ws :=
  fun H locs ls hP hD hS h => va_gets C.1 C.2.1 (Cx_st C).2.2.2.1 hS C.2.2.2.1 (C.2.2.2.2.1 _ hl) (fun _ h => h) hdg (k H locs ls hP hD hS h)
theorem rg_SIOOBE (C : Cx X cc own nL D tys A lev cM sM) {index : Nat} (hl : Cond.fieldLink own index RJ3 "SIOOBE_FORMATTER" "Ljava/util/function/BiFunction;" ∈ gT) (hdg : decode cc pc = .ok (.getstatic index, 3)) (k : ∀ v : Value, v.category = 1 → At X D A nL kc ks (pc + 3) lv (v :: st) ws) : At X D A nL kc ks pc lv st ws :=
  fun H locs ls hP hD hS h => by
    obtain ⟨v, hv, hz⟩ := (Cx_st C).2.2.2.2.1
    exact va_gets C.1 C.2.1 hz hS C.2.2.2.1 (C.2.2.2.2.1 _ hl) (fun _ h => h) hdg (k v hv H locs ls hP hD hS h)
theorem r_ldcS0 (C : Cx X cc RX0 nL D tys A lev cM sM) (hdg : decode cc pc = .ok (.ldc 124, 2)) (k : At X D A nL kc ks (pc + 2) lv (.ref (D.2 101 0) :: st) ws) : At X D A nL kc ks pc lv st ws :=
  fun H locs ls hP hD hS h => va_ldcS C.1 C.2.1 C.2.2.2.1 (Cx_st C).2.2.2.2.2.2.1 hdg (k H locs ls hP hD hS h)
theorem r_ldcS1 (C : Cx X cc RX0 nL D tys A lev cM sM) (hdg : decode cc pc = .ok (.ldc 112, 2)) (k : At X D A nL kc ks (pc + 2) lv (.ref (D.2 101 1) :: st) ws) : At X D A nL kc ks pc lv st ws :=
  fun H locs ls hP hD hS h => va_ldcS C.1 C.2.1 C.2.2.2.1 (Cx_st C).2.2.2.2.2.2.2.1 hdg (k H locs ls hP hD hS h)
theorem r_strV (C : Cx X cc own nL D tys A lev cM sM) {index : Nat} (i : Nat) (hi : i < 2) (hl : Cond.fieldLink own index RJ0 "value" "[B" ∈ gT) (hdg : decode cc pc = .ok (.getfield index, 3)) (k : At X D A nL kc ks (pc + 3) lv (.ref (D.2 102 i) :: st) ws) : At X D A nL kc ks pc lv (.ref (D.2 101 i) :: st) ws :=
  fun H locs ls hP hD hS h => vk_getf C.1 C.2.1 ((Cx_st C).2.2.2.2.2.1.1 i hi).2.2.1 hS C.2.2.2.1 (C.2.2.2.2.1 _ hl) (fun _ h => h) hdg (k H locs ls hP hD hS h)
theorem r_strC (C : Cx X cc own nL D tys A lev cM sM) {index : Nat} (i : Nat) (hi : i < 2) (hl : Cond.fieldLink own index RJ0 "coder" "B" ∈ gT) (hdg : decode cc pc = .ok (.getfield index, 3)) (k : At X D A nL kc ks (pc + 3) lv (.int 0 :: st) ws) : At X D A nL kc ks pc lv (.ref (D.2 101 i) :: st) ws :=
  fun H locs ls hP hD hS h => vk_getf C.1 C.2.1 ((Cx_st C).2.2.2.2.2.1.1 i hi).2.1 hS C.2.2.2.1 (C.2.2.2.2.1 _ hl) (fun _ h => h) hdg (k H locs ls hP hD hS h)
theorem r_strB (C : Cx X cc own nL D tys A lev cM sM) (j : Nat) (hj : j < 2) {i : Int32} (hin : vp_in i (lenS.getD j 0)) (hdg : decode cc pc = .ok (.baload, 1)) (k : At X D A nL kc ks (pc + 1) lv (.int ((bytS.getD j []).getD i.toNatClampNeg 0) :: st) ws) : At X D A nL kc ks pc lv (.int i :: .ref (D.2 102 j) :: st) ws :=
  fun H locs ls hP hD hS h => va_tb C.1 C.2.1 ((Cx_st C).2.2.2.2.2.1.1 j hj).2.2.2 hS hin rfl hdg (k H locs ls hP hD hS h)
theorem r_strN (C : Cx X cc own nL D tys A lev cM sM) (j : Nat) (hj : j < 2) (hdg : decode cc pc = .ok (.arraylength, 1)) (k : At X D A nL kc ks (pc + 1) lv (.int (Int32.ofNat (lenS.getD j 0)) :: st) ws) : At X D A nL kc ks pc lv (.ref (D.2 102 j) :: st) ws :=
  fun H locs ls hP hD hS h => va_tlen C.1 C.2.1 ((Cx_st C).2.2.2.2.2.1.1 j hj).2.2.2 hS rfl hdg (k H locs ls hP hD hS h)
/-- Math.max, Math.min -/
def jmax (x y : Int32) : Int32 := if x < y then y else x
def jmin (x y : Int32) : Int32 := if y < x then y else x
theorem r_mmax (C : Cx X cc own nL D tys A lev cM sM) {index : Nat} {x y : Int32} (hl : Cond.methodLink own index yJ9_max_7cf53 ∈ gT) (hdg : decode cc pc = .ok (.invokestatic index, 3)) (hlev : 0 + 1 ≤ lev) (hW : (st.map fun v => v.category).sum ≤ 8) (hcap : kc ≤ cM ∧ ks ≤ sM) (k : At X D A nL kc ks (pc + 3) lv (.int (jmax x y) :: st) ws) : At X D A nL kc ks pc lv (.int y :: .int x :: st) ws :=
  fun H locs ls hP hD hS h => va_mmax C.1 C.2.1 (C.2.2.1.trans h.1.symm) C.2.2.2.1 (C.2.2.2.2.1 _ hl) (C.2.2.2.2.1 _ ks_J9_max_7cf53) (C.2.2.2.2.1 _ kn_J9) (C.2.2.2.2.1 _ kc_J9_max_7cf53) (by have := C.2.2.2.2.2.2.2.1; omega) (by have := C.2.2.2.2.2.2.2.2.1; omega) (by rw [C.2.2.2.2.2.2.2.2.2.1]; exact hcap.1) (by rw [C.2.2.2.2.2.2.2.2.2.2.1]; exact hcap.2) hdg (k H locs ls hP hD hS h)
theorem r_mmin (C : Cx X cc own nL D tys A lev cM sM) {index : Nat} {x y : Int32} (hl : Cond.methodLink own index yJ9_min_7cf53 ∈ gT) (hdg : decode cc pc = .ok (.invokestatic index, 3)) (hlev : 0 + 1 ≤ lev) (hW : (st.map fun v => v.category).sum ≤ 8) (hcap : kc ≤ cM ∧ ks ≤ sM) (k : At X D A nL kc ks (pc + 3) lv (.int (jmin x y) :: st) ws) : At X D A nL kc ks pc lv (.int y :: .int x :: st) ws :=
  fun H locs ls hP hD hS h => va_mmin C.1 C.2.1 (C.2.2.1.trans h.1.symm) C.2.2.2.1 (C.2.2.2.2.1 _ hl) (C.2.2.2.2.1 _ ks_J9_min_7cf53) (C.2.2.2.2.1 _ kn_J9) (C.2.2.2.2.1 _ kc_J9_min_7cf53) (by have := C.2.2.2.2.2.2.2.1; omega) (by have := C.2.2.2.2.2.2.2.2.1; omega) (by rw [C.2.2.2.2.2.2.2.2.2.1]; exact hcap.1) (by rw [C.2.2.2.2.2.2.2.2.2.2.1]; exact hcap.2) hdg (k H locs ls hP hD hS h)
variable {y : MethodName} {cc' : ByteArray} {nL' lev' idx n : Nat} {ret : Option FieldType} {as : List Value}
set_option maxHeartbeats 2000000 in
/-- a call on a String constant -/
theorem r_strI {r : Int32} (C : Cx X cc own nL D tys A lev cM sM) (j : Nat) (hj : j < 2) (hM : Con y cc' nL' ret lev' 0 0 D tys (.ref (D.2 101 j) :: as) [] (eI [] r)) (hw : MV y cc' nL' ret RJ0 n) (hlk : Cond.methodLink own idx y ∈ gT) (hlev : lev' + 1 ≤ lev) (hnL : nL' ≤ 21) (hcap : kc ≤ cM ∧ ks ≤ sM)
    (hn : as.length = n) (hstk : stk = as.reverse ++ .ref (D.2 101 j) :: st) (hW : (st.map fun v => v.category).sum ≤ 8) (hdg : decode cc pc = .ok (.invokevirtual idx, 3)) (k : At X D A nL kc ks (pc + 3) lv (.int r :: st) ws) : At X D A nL kc ks pc lv stk ws := by
  intro H locs ls hP hD hS hl
  have hPc := hP.sub (ws' := []) [] rfl
  have hDc := hD.sub (ws' := []) [] rfl rfl
  have hFc := va_free (wc := []) hD hS C.2.2.2.2.2.2.1 [] rfl
  have C' := C
  obtain ⟨hx, hb, hml, hown, hts, hK, hA, hf1, hf2, hc1, hc2, hSt⟩ := C
  obtain ⟨w1, w2, w3, w4, w5⟩ := hw
  have hG : GoodIn gT (wsV own idx RJ0 y (Cond.code y cc' nL' ret :: gT)) := by
    intro w h
    rcases List.mem_append.mp h with h | h
    · simp only [List.mem_cons, List.not_mem_nil, or_false] at h
      rcases h with rfl | rfl | rfl | rfl
      · exact gT_self _ hlk
      · exact gT_self _ w1
      · exact gT_self _ w2
      · exact gT_self _ w3
    · exact gT_c w4 w h
  refine r_back C' [] (List.range ws.length) rfl (all_places ws) (va_nd_range _) (fun _ _ h => by simp at h) hP hD hS hl (va_runV (g := F0 X.2.1.1 pc ls stk) (As := as) ⟨hx, hb, hml, hown, hts⟩ (hM X.1.2.1 H.size) (cwV n hts hG rfl rfl rfl w5 ⟨by show lev' + 1 ≤ _; omega, by show 8 + (nL' + 11) + 40 * lev' ≤ _; omega⟩) ⟨gB_blind, vk_recv hSt.2.2.2.2.2.1 hj hS, fun U hU hWm => ⟨rfl, by rw [hU], by rw [hU]; exact hPc, va_K.moved hWm.alike hK, hDc.weaken (fun _ _ _ _ => trivial), ?_⟩⟩ rfl hn hl.1 hstk (lv_room hW) hdg ⟨by rw [hc1]; exact hcap.1, by rw [hc2]; exact hcap.2⟩) (fun v w hp => by obtain ⟨rfl, rfl⟩ := hp; rw [List.append_nil]; exact k)
  rw [hU]
  exact (Stt.sub hS hFc hSt).moved hWm.alike (fun h => h.warm hWm) (fun h => h.warm hWm)
end Stat

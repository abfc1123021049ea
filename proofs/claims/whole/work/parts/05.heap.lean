/-! rows over the world: fields, arrays, returns, calls, loops -/
section Heap
variable {X : CX} {cc : ByteArray} {own : String} {nL : Nat} {D : va_G} {tys : List (ClassId × FieldType)} {A : Nat → Prop} {lev cM sM kc ks pc : Nat} {lv lv' : List (Nat × Value)} {st : List Value} {ws ws' : va_W}
theorem r_ws (h : ws = ws') (k : At X D A nL kc ks pc lv st ws') : At X D A nL kc ks pc lv st ws := h ▸ k
theorem r_get (C : Cx X cc own nL D tys A lev cM sM) (q0 : Nat) {a ci index k N : Nat} {fs : List Value} {CC ref : String} {T : u_T} {v : Value} (hw : ∀ w ∈ u_ws CC T N, w ∈ gT) (he : ws[q0]? = some (a, .inr (ci, fs))) (hc : vwCl[ci]? = some (CC, T, N)) (hk : k < N)
    (hlink : Cond.fieldLink own index ref (T k).2.1 (T k).2.2.1 ∈ gT) (href : (T k).1 = ref) (hv : fs[k]? = some v) (hdg : decode cc pc = .ok (.getfield index, 3)) (kk : At X D A nL kc ks (pc + 3) lv (v :: st) ws) : At X D A nL kc ks pc lv (.ref a :: st) ws :=
  fun H locs ls hP hD hS hl => va_get C.1 C.2.1 C.2.2.2.2.1 hw C.2.2.2.1 C.2.2.2.2.2.1 hP q0 he hc k hk (C.2.2.2.2.1 _ hlink) (fun _ h => href ▸ h) hv hdg (kk H locs ls hP hD hS hl)
theorem r_put (C : Cx X cc own nL D tys A lev cM sM) (q0 : Nat) {a ci index k N : Nat} {fs : List Value} {CC ref : String} {T : u_T} {ty0 : Nat → FieldType} {v : Value} {ty : FieldType} (hw : ∀ w ∈ u_ws CC T N, w ∈ gT) (hty : ∀ k, k < N → parseFieldDescriptor (T k).2.2.1 = some (ty0 k)) (hnm : ∀ a, a < N → ∀ b, b < N → a ≠ b → (T a).2.1 ≠ (T b).2.1)
    (he : ws[q0]? = some (a, .inr (ci, fs))) (hc : vwCl[ci]? = some (CC, T, N)) (hk : k < N) (hlink : Cond.fieldLink own index ref (T k).2.1 (T k).2.2.1 ∈ gT) (href : (T k).1 = ref) (hfin : (T k).2.2.2 = false) (hd : ty0 k = ty) (hn : narrow ty v = v) (hfit : fits ty v = true) (hl : k < fs.length)
    (hws : ws.set q0 (a, .inr (ci, fs.set k v)) = ws') (hdg : decode cc pc = .ok (.putfield index, 3)) (kk : At X D A nL kc ks (pc + 3) lv st ws') : At X D A nL kc ks pc lv (v :: .ref a :: st) ws :=
  fun _ _ ls hP hD hS h => va_put C.1 C.2.1 C.2.2.2.2.1 hw ty0 hty hnm C.2.2.2.1 C.2.2.2.2.2.1 hP hD hS q0 he hc k hk (C.2.2.2.2.1 _ hlink) (fun _ h => href ▸ h) hfin (hd ▸ hty k hk) hn hfit hl hdg (fun H1 locs1 hP1 hD1 hS1 => kk H1 locs1 ls (hws ▸ hP1) (hws ▸ hD1) hS1 h)
theorem r_putF (C : Cx X cc own nL D tys A lev cM sM) (q0 : Nat) {a ci index k N : Nat} {fs : List Value} {CC ref : String} {T : u_T} {ty0 : Nat → FieldType} {v : Value} {ty : FieldType} (hw : ∀ w ∈ u_ws CC T N, w ∈ gT) (hty : ∀ k, k < N → parseFieldDescriptor (T k).2.2.1 = some (ty0 k)) (hnm : ∀ a, a < N → ∀ b, b < N → a ≠ b → (T a).2.1 ≠ (T b).2.1)
    (he : ws[q0]? = some (a, .inr (ci, fs))) (hc : vwCl[ci]? = some (CC, T, N)) (hk : k < N) (hlink : Cond.fieldLink own index ref (T k).2.1 (T k).2.2.1 ∈ gT) (href : (T k).1 = ref) (hfin : (T k).2.2.2 = true) (hin : X.2.1.2.2.2.1.name = "<init>") (hdecl : (T k).1 = own) (hd : ty0 k = ty) (hn : narrow ty v = v) (hfit : fits ty v = true) (hl : k < fs.length)
    (hws : ws.set q0 (a, .inr (ci, fs.set k v)) = ws') (hdg : decode cc pc = .ok (.putfield index, 3)) (kk : At X D A nL kc ks (pc + 3) lv st ws') : At X D A nL kc ks pc lv (v :: .ref a :: st) ws :=
  fun _ _ ls hP hD hS h => va_putF C.1 C.2.1 C.2.2.2.2.1 hw ty0 hty hnm C.2.2.2.1 C.2.2.2.2.2.1 hP hD hS q0 he hc k hk (C.2.2.2.2.1 _ hlink) (fun _ h => href ▸ h) hfin hin hdecl (hd ▸ hty k hk) hn hfit hl hdg (fun H1 locs1 hP1 hD1 hS1 => kk H1 locs1 ls (hws ▸ hP1) (hws ▸ hD1) hS1 h)
theorem r_iald (C : Cx X cc own nL D tys A lev cM sM) (q0 t0 : Nat) {a n : Nat} {cA : ClassId} {f : Nat → Int32} {i : Int32} (ha : ws[q0]? = some (a, .inl (cA, n, .inl f))) (ht : tys[t0]? = some (cA, .int)) (hin : vp_in i n) (hdg : decode cc pc = .ok (.iaload, 1)) (kk : At X D A nL kc ks (pc + 1) lv (.int (f i.toNatClampNeg) :: st) ws) : At X D A nL kc ks pc lv (.int i :: .ref a :: st) ws :=
  fun H locs ls hP hD hS hl => va_iald C.1 C.2.1 C.2.2.2.2.2.1 hP q0 t0 ha ht hin hdg (kk H locs ls hP hD hS hl)
theorem r_zald (C : Cx X cc own nL D tys A lev cM sM) (q0 t0 : Nat) {a n : Nat} {cA : ClassId} {f : Nat → Int32} {i : Int32} (ha : ws[q0]? = some (a, .inl (cA, n, .inl f))) (ht : tys[t0]? = some (cA, .boolean)) (hin : vp_in i n) (hdg : decode cc pc = .ok (.baload, 1)) (kk : At X D A nL kc ks (pc + 1) lv (.int (f i.toNatClampNeg) :: st) ws) : At X D A nL kc ks pc lv (.int i :: .ref a :: st) ws :=
  fun H locs ls hP hD hS hl => va_zald C.1 C.2.1 C.2.2.2.2.2.1 hP q0 t0 ha ht hin hdg (kk H locs ls hP hD hS hl)
theorem r_lald (C : Cx X cc own nL D tys A lev cM sM) (q0 t0 : Nat) {a n : Nat} {cA : ClassId} {f : Nat → Int64} {i : Int32} (ha : ws[q0]? = some (a, .inl (cA, n, .inr (.inl f)))) (ht : tys[t0]? = some (cA, .long)) (hin : vp_in i n) (hdg : decode cc pc = .ok (.laload, 1)) (kk : At X D A nL kc ks (pc + 1) lv (.long (f i.toNatClampNeg) :: st) ws) : At X D A nL kc ks pc lv (.int i :: .ref a :: st) ws :=
  fun H locs ls hP hD hS hl => va_lald C.1 C.2.1 C.2.2.2.2.2.1 hP q0 t0 ha ht hin hdg (kk H locs ls hP hD hS hl)
theorem r_aald (C : Cx X cc own nL D tys A lev cM sM) (q0 t0 : Nat) {a n : Nat} {cA : ClassId} {EC : String} {f : Nat → Option Nat} {i : Int32} (ha : ws[q0]? = some (a, .inl (cA, n, .inr (.inr (.inr (.inr f)))))) (ht : tys[t0]? = some (cA, .object EC)) (hin : vp_in i n) (hdg : decode cc pc = .ok (.aaload, 1)) (kk : At X D A nL kc ks (pc + 1) lv (va_rf (f i.toNatClampNeg) :: st) ws) : At X D A nL kc ks pc lv (.int i :: .ref a :: st) ws :=
  fun H locs ls hP hD hS hl => va_aldq C.1 C.2.1 C.2.2.2.2.2.1 hP q0 t0 ha ht hin hdg (kk H locs ls hP hD hS hl)
theorem r_iast (C : Cx X cc own nL D tys A lev cM sM) (q0 t0 : Nat) {a n : Nat} {cA : ClassId} {f : Nat → Int32} {i x : Int32} (ha : ws[q0]? = some (a, .inl (cA, n, .inl f))) (ht : tys[t0]? = some (cA, .int)) (hin : vp_in i n) (hws : ws.set q0 (a, .inl (cA, n, .inl (upd f i.toNatClampNeg x))) = ws') (hdg : decode cc pc = .ok (.iastore, 1)) (kk : At X D A nL kc ks (pc + 1) lv st ws') : At X D A nL kc ks pc lv (.int x :: .int i :: .ref a :: st) ws :=
  fun _ _ ls hP hD hS hl => va_iast C.1 C.2.1 C.2.2.2.2.2.1 hP hD hS q0 t0 ha ht hin hdg (fun H1 locs1 hP1 hD1 hS1 => kk H1 locs1 ls (hws ▸ hP1) (hws ▸ hD1) hS1 hl)
theorem r_zast (C : Cx X cc own nL D tys A lev cM sM) (q0 t0 : Nat) {a n : Nat} {cA : ClassId} {f : Nat → Int32} {i x : Int32} (ha : ws[q0]? = some (a, .inl (cA, n, .inl f))) (ht : tys[t0]? = some (cA, .boolean)) (hin : vp_in i n) (hws : ws.set q0 (a, .inl (cA, n, .inl (upd f i.toNatClampNeg (vp_nar .boolean x)))) = ws') (hdg : decode cc pc = .ok (.bastore, 1)) (kk : At X D A nL kc ks (pc + 1) lv st ws') : At X D A nL kc ks pc lv (.int x :: .int i :: .ref a :: st) ws :=
  fun _ _ ls hP hD hS hl => va_zast C.1 C.2.1 C.2.2.2.2.2.1 hP hD hS q0 t0 ha ht hin hdg (fun H1 locs1 hP1 hD1 hS1 => kk H1 locs1 ls (hws ▸ hP1) (hws ▸ hD1) hS1 hl)
theorem r_last (C : Cx X cc own nL D tys A lev cM sM) (q0 t0 : Nat) {a n : Nat} {cA : ClassId} {f : Nat → Int64} {i : Int32} {x : Int64} (ha : ws[q0]? = some (a, .inl (cA, n, .inr (.inl f)))) (ht : tys[t0]? = some (cA, .long)) (hin : vp_in i n) (hws : ws.set q0 (a, .inl (cA, n, .inr (.inl (vp_updL f i.toNatClampNeg x)))) = ws') (hdg : decode cc pc = .ok (.lastore, 1)) (kk : At X D A nL kc ks (pc + 1) lv st ws') : At X D A nL kc ks pc lv (.long x :: .int i :: .ref a :: st) ws :=
  fun _ _ ls hP hD hS hl => va_last C.1 C.2.1 C.2.2.2.2.2.1 hP hD hS q0 t0 ha ht hin hdg (fun H1 locs1 hP1 hD1 hS1 => kk H1 locs1 ls (hws ▸ hP1) (hws ▸ hD1) hS1 hl)
theorem r_alen (C : Cx X cc own nL D tys A lev cM sM) (q0 t0 : Nat) {a : Nat} {cA : ClassId} {x : vp_A} {ty : FieldType} {v : Int32} (ha : ws[q0]? = some (a, .inl (cA, x))) (ht : tys[t0]? = some (cA, ty)) (hv : Int32.ofNat x.1 = v) (hdg : decode cc pc = .ok (.arraylength, 1)) (kk : At X D A nL kc ks (pc + 1) lv (.int v :: st) ws) : At X D A nL kc ks pc lv (.ref a :: st) ws :=
  fun H locs ls hP hD hS hl => va_alen C.1 C.2.1 C.2.2.2.2.2.1 hP q0 t0 ha ht hv hdg (kk H locs ls hP hD hS hl)
theorem r_widen {kc' ks' : Nat} (h1 : kc ≤ kc') (h2 : ks ≤ ks') (k : At X D A nL kc' ks' pc lv st ws) : At X D A nL kc ks pc lv st ws :=
  fun H locs ls hP hD hS hl => W.widen h1 h2 (k H locs ls hP hD hS hl)
theorem r_iret (C : Cx X cc own nL D tys A lev cM sM) {post : Option Value → va_W → Prop} {v : Int32} (hR : Rt X (some .int) D tys A kc ks post) (hdg : decode cc pc = .ok (.ireturn, 1)) (hp : post (some (.int v)) ws) : At X D A nL kc ks pc lv [.int v] ws := by
  intro H locs ls hP hD hS hl
  rw [hR.1]
  exact W.iret C.1 C.2.1 hR.2.1 (fun t ht hW => ⟨⟨some (.int v), ws, rfl, hp, ht ▸ hP, va_K.moved hW.alike C.2.2.2.2.2.1, hD⟩, hS.F ht⟩) hS.2.2 hdg hR.2.2
theorem r_zret (C : Cx X cc own nL D tys A lev cM sM) {post : Option Value → va_W → Prop} {v : Int32} {ty : FieldType} (hn : narrow ty (.int v) = .int v) (hR : Rt X (some ty) D tys A kc ks post) (hdg : decode cc pc = .ok (.ireturn, 1)) (hp : post (some (.int v)) ws) : At X D A nL kc ks pc lv [.int v] ws := by
  intro H locs ls hP hD hS hl
  rw [hR.1]
  exact W.zret C.1 C.2.1 hR.2.1 hn (fun t ht hW => ⟨⟨some (.int v), ws, rfl, hp, ht ▸ hP, va_K.moved hW.alike C.2.2.2.2.2.1, hD⟩, hS.F ht⟩) hS.2.2 hdg hR.2.2
theorem r_lret (C : Cx X cc own nL D tys A lev cM sM) {post : Option Value → va_W → Prop} {v : Int64} (hR : Rt X (some .long) D tys A kc ks post) (hdg : decode cc pc = .ok (.lreturn, 1)) (hp : post (some (.long v)) ws) : At X D A nL kc ks pc lv [.long v] ws := by
  intro H locs ls hP hD hS hl
  rw [hR.1]
  exact W.lret C.1 C.2.1 hR.2.1 (fun t ht hW => ⟨⟨some (.long v), ws, rfl, hp, ht ▸ hP, va_K.moved hW.alike C.2.2.2.2.2.1, hD⟩, hS.F ht⟩) hS.2.2 hdg hR.2.2
theorem r_vret (C : Cx X cc own nL D tys A lev cM sM) {post : Option Value → va_W → Prop} (hR : Rt X none D tys A kc ks post) (hdg : decode cc pc = .ok (.return_, 1)) (hp : post none ws) : At X D A nL kc ks pc lv [] ws := by
  intro H locs ls hP hD hS hl
  rw [hR.1]
  exact W.vret C.1 C.2.1 hR.2.1 (fun t ht hW => ⟨⟨none, ws, rfl, hp, ht ▸ hP, va_K.moved hW.alike C.2.2.2.2.2.1, hD⟩, hS.F ht⟩) hS.2.2 hdg hR.2.2
/-- lcmp and the branch behind it -/
theorem r_lif_lt (C : Cx X cc own nL D tys A lev cM sM) {x y : Int64} {off : Int} {tgt : Nat} (h1 : decode cc pc = .ok (.lcmp, 1)) (h2 : decode cc (pc + 1) = .ok (.ifCond .lt off, 3)) (ht : ((pc + 1 : Nat) : Int) + off = (tgt : Int)) (kt : x < y → At X D A nL kc ks tgt lv st ws) (kf : ¬ x < y → At X D A nL kc ks (pc + 4) lv st ws) : At X D A nL kc ks pc lv (.long y :: .long x :: st) ws :=
  r_lcmp C h1 (r_if_lt C h2 ht (fun h => kt ((lg_cmp_lt x y).mp h)) (fun h => kf (fun g => h ((lg_cmp_lt x y).mpr g))))
theorem r_lif_le (C : Cx X cc own nL D tys A lev cM sM) {x y : Int64} {off : Int} {tgt : Nat} (h1 : decode cc pc = .ok (.lcmp, 1)) (h2 : decode cc (pc + 1) = .ok (.ifCond .le off, 3)) (ht : ((pc + 1 : Nat) : Int) + off = (tgt : Int)) (kt : x ≤ y → At X D A nL kc ks tgt lv st ws) (kf : ¬ x ≤ y → At X D A nL kc ks (pc + 4) lv st ws) : At X D A nL kc ks pc lv (.long y :: .long x :: st) ws :=
  r_lcmp C h1 (r_if_le C h2 ht (fun h => kt ((lg_cmp_le x y).mp h)) (fun h => kf (fun g => h ((lg_cmp_le x y).mpr g))))
theorem r_lif_gt (C : Cx X cc own nL D tys A lev cM sM) {x y : Int64} {off : Int} {tgt : Nat} (h1 : decode cc pc = .ok (.lcmp, 1)) (h2 : decode cc (pc + 1) = .ok (.ifCond .gt off, 3)) (ht : ((pc + 1 : Nat) : Int) + off = (tgt : Int)) (kt : y < x → At X D A nL kc ks tgt lv st ws) (kf : ¬ y < x → At X D A nL kc ks (pc + 4) lv st ws) : At X D A nL kc ks pc lv (.long y :: .long x :: st) ws :=
  r_lcmp C h1 (r_if_gt C h2 ht (fun h => kt ((lg_cmp_gt x y).mp h)) (fun h => kf (fun g => h ((lg_cmp_gt x y).mpr g))))
theorem r_lif_ge (C : Cx X cc own nL D tys A lev cM sM) {x y : Int64} {off : Int} {tgt : Nat} (h1 : decode cc pc = .ok (.lcmp, 1)) (h2 : decode cc (pc + 1) = .ok (.ifCond .ge off, 3)) (ht : ((pc + 1 : Nat) : Int) + off = (tgt : Int)) (kt : y ≤ x → At X D A nL kc ks tgt lv st ws) (kf : ¬ y ≤ x → At X D A nL kc ks (pc + 4) lv st ws) : At X D A nL kc ks pc lv (.long y :: .long x :: st) ws :=
  r_lcmp C h1 (r_if_ge C h2 ht (fun h => kt ((lg_cmp_ge x y).mp h)) (fun h => kf (fun g => h ((lg_cmp_ge x y).mpr g))))
theorem r_lif_eq (C : Cx X cc own nL D tys A lev cM sM) {x y : Int64} {off : Int} {tgt : Nat} (h1 : decode cc pc = .ok (.lcmp, 1)) (h2 : decode cc (pc + 1) = .ok (.ifCond .eq off, 3)) (ht : ((pc + 1 : Nat) : Int) + off = (tgt : Int)) (kt : x = y → At X D A nL kc ks tgt lv st ws) (kf : ¬ x = y → At X D A nL kc ks (pc + 4) lv st ws) : At X D A nL kc ks pc lv (.long y :: .long x :: st) ws :=
  r_lcmp C h1 (r_if_eq C h2 ht (fun h => kt ((lg_cmp_eq x y).mp h)) (fun h => kf (fun g => h ((lg_cmp_eq x y).mpr g))))
theorem r_lif_ne (C : Cx X cc own nL D tys A lev cM sM) {x y : Int64} {off : Int} {tgt : Nat} (h1 : decode cc pc = .ok (.lcmp, 1)) (h2 : decode cc (pc + 1) = .ok (.ifCond .ne off, 3)) (ht : ((pc + 1 : Nat) : Int) + off = (tgt : Int)) (kt : ¬ x = y → At X D A nL kc ks tgt lv st ws) (kf : x = y → At X D A nL kc ks (pc + 4) lv st ws) : At X D A nL kc ks pc lv (.long y :: .long x :: st) ws :=
  r_lcmp C h1 (r_if_ne C h2 ht (fun h => kt (fun g => h ((lg_cmp_eq x y).mpr g))) (fun h => kf ((lg_cmp_eq x y).mp h)))
end Heap
/-- the statics stay where nothing of A is theirs -/
theorem Stt.sub {D : va_G} {A B : Nat → Prop} {u : State} {H0 H : Heap} {locs : List Loc} (hS : va_S A H0 H locs) (hAB : ∀ q, B q → A q) (h : Stt D A u H0) : Stt D B u H := by
  obtain ⟨⟨a1, b1⟩, ⟨a2, b2⟩, ⟨a3, b3⟩, a4, ⟨v, hv, a5⟩, a6, a7, a8, a9⟩ := h
  have hk : ∀ a : Nat, a < H0.size → ¬ A a → H[a]? = H0[a]? := hS.2.1
  exact ⟨⟨(a1.kept hk).narrow hAB, (b1.kept hk).narrow hAB⟩, ⟨(a2.kept hk).narrow hAB, (b2.kept hk).narrow hAB⟩, ⟨(a3.kept hk).narrow hAB, (b3.kept hk).narrow hAB⟩, (a4.kept hk).narrow hAB, ⟨v, hv, (a5.kept hk).narrow hAB⟩, (a6.kept hk).narrow hAB, a7, a8, a9⟩
/-- the words of a method that is called on an object; of a static one -/
def MV (y : MethodName) (cc : ByteArray) (nL : Nat) (ret : Option FieldType) (C : String) (n : Nat) : Prop :=
  Cond.instanceMethod y ∈ gT ∧ Cond.selects C y y ∈ gT ∧ Cond.initialized C ∈ gT ∧ Cond.code y cc nL ret ∈ gT ∧ (y.cls = C ∧ y.cls ≠ "java/lang/invoke/MethodHandle" ∧ y.cls ≠ "java/lang/invoke/VarHandle" ∧ (parseMethodDescriptor y.desc).map (fun d => d.parameters.length) = some n)
def MS_ (y : MethodName) (cc : ByteArray) (nL : Nat) (ret : Option FieldType) (n : Nat) : Prop :=
  Cond.static y ∈ gT ∧ Cond.initialized y.cls ∈ gT ∧ Cond.code y cc nL ret ∈ gT ∧ (y.cls ≠ "java/lang/invoke/MethodHandle" ∧ y.cls ≠ "java/lang/invoke/VarHandle" ∧ (parseMethodDescriptor y.desc).map (fun d => d.parameters.length) = some n)
section Calls5
variable {X : CX} {cc : ByteArray} {own : String} {nL : Nat} {D : va_G} {tys : List (ClassId × FieldType)} {A : Nat → Prop} {lev cM sM kc ks pc : Nat} {lv lv' : List (Nat × Value)} {st stk : List Value} {ws ws' wc wr : va_W}
variable {y : MethodName} {cc' : ByteArray} {nL' lev' mc ms idx n : Nat} {ret : Option FieldType} {as : List Value} {post : Option Value → va_W → Prop} {CC : String} {b : Nat}
set_option maxHeartbeats 2000000 in
/-- behind a call -/
theorem r_back (hC0 : Cx X cc own nL D tys A lev cM sM) (isC isR : List Nat) (hC : isC.map (fun i => ws[i]?) = wc.map some) (hR : isR.map (fun i => ws[i]?) = wr.map some) (hn : va_nd isR = true) (hdis : ∀ i ∈ isR, i ∉ isC) {aa : Array Value}
    {H : Heap} {locs : List Loc} {ls : Array Slot} (hP : va_P D vwCl ws H) (hD : va_D A ws) (hS : va_S A X.1.2.2.2.2.heap H locs) (hl : lv_has ls nL lv)
    (hrun : va_Run X.1.1 X.1.2.1 X.1.2.2.1 X.1.2.2.2.1 X.1.2.2.2.2 X.2.1.1 X.2.1.2.1 X.2.1.2.2.1 X.2.1.2.2.2.1 X.2.1.2.2.2.2 H locs kc ks mc ms (F0 X.2.1.1 pc ls stk) st (gQ post D tys (va_A wc H.size) aa) (va_A wc H.size))
    (k : ∀ (v : Option Value) (w : va_W), post v w → At X D A nL (kc + mc) (ks + ms) (pc + 3) lv (v.toList ++ st) (wr ++ w)) :
    W X.1.1 X.1.2.1 X.1.2.2.1 X.1.2.2.2.1 X.1.2.2.2.2 X.2.1.1 X.2.1.2.1 X.2.1.2.2.1 X.2.1.2.2.2.1 X.2.1.2.2.2.2 H locs kc ks X.2.2 (F0 X.2.1.1 pc ls stk) := by
  intro T hT XX
  have hFc := va_free (wc := wc) hD hS hC0.2.2.2.2.2.2.1 isC hC
  obtain ⟨v, st₀, t, T', L, h0, X', hL, e1, e2, ⟨⟨v', w, hv, hp, hPw, hKw, hDw⟩, hz, hk⟩, stp⟩ := hrun T hT XX
  cases hv
  rw [h0] at hz hk
  obtain ⟨hP1, hD1⟩ := va_join hP hD isC isR hC hR hn hdis (H1 := t.heap) hk hFc hPw hDw
  obtain ⟨t2, a1, b1⟩ := k v w hp T'.heap (locs ++ L) ls (e1 ▸ hP1) hD1
    ⟨Nat.le_trans hS.1 (by rw [e1]; exact hz), fun q h1 h2 => by rw [e1, hk q (Nat.lt_of_lt_of_le h1 hS.1) (fun z => h2 (hFc q z))]; exact hS.2.1 q h1 h2, fun q hq => by
      rcases List.mem_append.mp hq with h | h
      · exact hS.2.2 q h
      · exact hFc _ (hL q h)⟩ hl T' rfl X'
  exact ⟨t2, stp t2 a1, b1⟩
set_option maxHeartbeats 2000000 in
theorem r_callV (C : Cx X cc own nL D tys A lev cM sM) (hM : Con y cc' nL' ret lev' mc ms D tys (.ref b :: as) wc post) (hw : MV y cc' nL' ret CC n) (hlk : Cond.methodLink own idx y ∈ gT) (hlev : lev' + 1 ≤ lev) (hnL : nL' ≤ 21) (hcap : kc + mc ≤ cM ∧ ks + ms ≤ sM)
    {q0 ci : Nat} {fs : List Value} {T : u_T} {N : Nat} (hrc : vwCl[ci]? = some (CC, T, N)) (hre : wc[q0]? = some (b, .inr (ci, fs)))
    (isC isR : List Nat) (hC : isC.map (fun i => ws[i]?) = wc.map some) (hCf : isC.filterMap (fun i => ws[i]?) = wc) (hCn : va_nd isC = true) (hR : isR.map (fun i => ws[i]?) = wr.map some) (hnd : va_nd isR = true) (hdis : ∀ i ∈ isR, i ∉ isC)
    (hn : as.length = n) (hstk : stk = as.reverse ++ .ref b :: st) (hW : (st.map fun v => v.category).sum ≤ 8) (hdg : decode cc pc = .ok (.invokevirtual idx, 3))
    (k : ∀ (v : Option Value) (w : va_W), post v w → At X D A nL (kc + mc) (ks + ms) (pc + 3) lv (v.toList ++ st) (wr ++ w)) : At X D A nL kc ks pc lv stk ws := by
  intro H locs ls hP hD hS hl
  have hPc := hP.sub (ws' := wc) isC hCf
  have hDc := hD.sub (ws' := wc) isC hCn hC
  have hFc := va_free (wc := wc) hD hS C.2.2.2.2.2.2.1 isC hC
  obtain ⟨hx, hb, hml, hown, hts, hK, hA, hf1, hf2, hc1, hc2, hSt⟩ := C
  obtain ⟨w1, w2, w3, w4, w5⟩ := hw
  have hG : GoodIn gT (wsV own idx CC y (Cond.code y cc' nL' ret :: gT)) := by
    intro w h
    rcases List.mem_append.mp h with h | h
    · simp only [List.mem_cons, List.not_mem_nil, or_false] at h
      rcases h with rfl | rfl | rfl | rfl
      · exact gT_self _ hlk
      · exact gT_self _ w1
      · exact gT_self _ w2
      · exact gT_self _ w3
    · exact gT_c w4 w h
  refine r_back ⟨hx, hb, hml, hown, hts, hK, hA, hf1, hf2, hc1, hc2, hSt⟩ isC isR hC hR hnd hdis hP hD hS hl (va_runV (g := F0 X.2.1.1 pc ls stk) (As := as) ⟨hx, hb, hml, hown, hts⟩ (hM X.1.2.1 H.size) (cwV n hts hG rfl rfl rfl w5 ⟨by show lev' + 1 ≤ _; omega, by show 8 + (nL' + 11) + 40 * lev' ≤ _; omega⟩) ⟨gB_blind, va_recv hK hPc hrc hre, fun U hU hWm => ⟨rfl, by rw [hU], by rw [hU]; exact hPc, va_K.moved hWm.alike hK, hDc.weaken (fun _ _ _ _ => trivial), ?_⟩⟩ rfl hn hl.1 hstk (lv_room hW) hdg ⟨by rw [hc1]; exact hcap.1, by rw [hc2]; exact hcap.2⟩) k
  rw [hU]
  exact (Stt.sub hS hFc hSt).moved hWm.alike (fun h => h.warm hWm) (fun h => h.warm hWm)
set_option maxHeartbeats 2000000 in
theorem r_callS (C : Cx X cc own nL D tys A lev cM sM) (hM : Con y cc' nL' ret lev' mc ms D tys as wc post) (hw : MS_ y cc' nL' ret n) (hlk : Cond.methodLink own idx y ∈ gT) (hlev : lev' + 1 ≤ lev) (hnL : nL' ≤ 21) (hcap : kc + mc ≤ cM ∧ ks + ms ≤ sM)
    (isC isR : List Nat) (hC : isC.map (fun i => ws[i]?) = wc.map some) (hCf : isC.filterMap (fun i => ws[i]?) = wc) (hCn : va_nd isC = true) (hR : isR.map (fun i => ws[i]?) = wr.map some) (hnd : va_nd isR = true) (hdis : ∀ i ∈ isR, i ∉ isC)
    (hn : as.length = n) (hstk : stk = as.reverse ++ st) (hW : (st.map fun v => v.category).sum ≤ 8) (hdg : decode cc pc = .ok (.invokestatic idx, 3))
    (k : ∀ (v : Option Value) (w : va_W), post v w → At X D A nL (kc + mc) (ks + ms) (pc + 3) lv (v.toList ++ st) (wr ++ w)) : At X D A nL kc ks pc lv stk ws := by
  intro H locs ls hP hD hS hl
  have hPc := hP.sub (ws' := wc) isC hCf
  have hDc := hD.sub (ws' := wc) isC hCn hC
  have hFc := va_free (wc := wc) hD hS C.2.2.2.2.2.2.1 isC hC
  obtain ⟨hx, hb, hml, hown, hts, hK, hA, hf1, hf2, hc1, hc2, hSt⟩ := C
  obtain ⟨w1, w2, w3, w4⟩ := hw
  have hG : GoodIn gT (va_wsS own idx y (Cond.code y cc' nL' ret :: gT)) := by
    intro w h
    rcases List.mem_append.mp h with h | h
    · simp only [List.mem_cons, List.not_mem_nil, or_false] at h
      rcases h with rfl | rfl | rfl
      · exact gT_self _ hlk
      · exact gT_self _ w1
      · exact gT_self _ w2
    · exact gT_c w3 w h
  refine r_back ⟨hx, hb, hml, hown, hts, hK, hA, hf1, hf2, hc1, hc2, hSt⟩ isC isR hC hR hnd hdis hP hD hS hl (va_runS (g := F0 X.2.1.1 pc ls stk) (As := as) ⟨hx, hb, hml, hown, hts⟩ (hM X.1.2.1 H.size) (va_cwS n hts hG rfl rfl rfl w4 ⟨by show lev' + 1 ≤ _; omega, by show 8 + (nL' + 11) + 40 * lev' ≤ _; omega⟩) ⟨gB_blind, fun U hU hWm => ⟨rfl, by rw [hU], by rw [hU]; exact hPc, va_K.moved hWm.alike hK, hDc.weaken (fun _ _ _ _ => trivial), ?_⟩⟩ rfl hn hl.1 hstk (lv_room hW) hdg ⟨by rw [hc1]; exact hcap.1, by rw [hc2]; exact hcap.2⟩) k
  rw [hU]
  exact (Stt.sub hS hFc hSt).moved hWm.alike (fun h => h.warm hWm) (fun h => h.warm hWm)
end Calls5
/-! loops: a body over what comes behind it, and as often as it goes -/
def lp {V R : Type} (d : R) (body : (V → R) → V → R) : Nat → V → R
  | 0, _ => d
  | n + 1, v => body (lp d body n) v
def lpOk {V : Type} (ok : (V → Prop) → V → Prop) : Nat → V → Prop
  | 0, _ => False
  | n + 1, v => ok (lpOk ok n) v
theorem lp_rule {V R : Type} {d : R} {body : (V → R) → V → R} {ok : (V → Prop) → V → Prop} (Wt : V → R → Prop) (h : ∀ (kR : V → R) (kO : V → Prop), (∀ v, kO v → Wt v (kR v)) → ∀ v, ok kO v → Wt v (body kR v)) : ∀ (n : Nat) (v : V), lpOk ok n v → Wt v (lp d body n v)
  | 0, _, hk => hk.elim
  | n + 1, v, hk => h (lp d body n) (lpOk ok n) (fun v hv => lp_rule Wt h n v hv) v hk
/-- the state of an object: its ints, its longs, its arrays of ints, of longs, by their slots -/
abbrev OS : Type := (Nat → Int32) × (Nat → Int64) × (Nat → Nat → Int32) × (Nat → Nat → Int64)
def oI (σ : OS) (k : Nat) (v : Int32) : OS := (va_up σ.1 k v, σ.2)
def oL (σ : OS) (k : Nat) (v : Int64) : OS := (σ.1, va_up σ.2.1 k v, σ.2.2)
def oS (σ : OS) (k i : Nat) (x : Int32) : OS := (σ.1, σ.2.1, va_up σ.2.2.1 k (upd (σ.2.2.1 k) i x), σ.2.2.2)
def oT (σ : OS) (k i : Nat) (x : Int64) : OS := (σ.1, σ.2.1, σ.2.2.1, va_up σ.2.2.2 k (vp_updL (σ.2.2.2 k) i x))
/-- ends: of a static method, of one that changes nothing of its world, of one that makes a world anew -/
abbrev eI (w : va_W) (r : Int32) : Option Value → va_W → Prop := fun v u => v = some (.int r) ∧ u = w
abbrev eL (w : va_W) (r : Int64) : Option Value → va_W → Prop := fun v u => v = some (.long r) ∧ u = w
abbrev eV (w : va_W) : Option Value → va_W → Prop := fun v u => v = none ∧ u = w

/-! the judgement of a walk over an abstract world: At; a context: Cx; a contract: Con -/
theorem dall {c : ByteArray} {tb : List (Nat × Instr × Nat)} (h : tb.all (fun q => decide (decode c q.1 = .ok q.2)) = true) (k : Nat) {pc : Nat} {i : Instr} {n : Nat} (hk : tb[k]? = some (pc, i, n)) : decode c pc = .ok (i, n) :=
  of_decide_eq_true (List.all_eq_true.mp h (pc, i, n) (List.mem_of_getElem? hk))
theorem gT_self : GoodIn gT gT := fun _ h => ⟨h, good_of_word (List.mem_filter.mp h).2⟩
theorem gT_c {w : Cond} (h : w ∈ gT) : GoodIn gT (w :: gT) := fun _ hv => (List.mem_cons.mp hv).elim (fun e => e ▸ gT_self _ h) (gT_self _)
/-- the room of a method of a level -/
def rmL (lev mc ms : Nat) : Room := { frames := lev, cells := mc, slots := ms, locals := 40 * lev }
/-- what the class's statics hold -/
def tOFF (j : Nat) : Int32 := ([0, 0, 0, 0, 0, 1, 1, 1, 0, 1, 9, 9, 0, 1, 2, 2, 0, 8, 16, 16, 0, 1, 8, 9] : List Int32).getD j 0
def tWALL (j : Nat) : Int64 := ([-1, 9187201950435737471, 35887507618889599, 4557430888798830399, 281474976710655, 35887507618889599] : List Int64).getD j 0
def tKIND (j : Nat) : Int32 := ([-1, 0, 0, 1, 2, 0] : List Int32).getD j 0
def sWORDS : String := "holds fades costs or    and   not   firm  numberyear  parts high  paid  "
def sSIGNS : String := "();+-*<="
def lenS : List Nat := [72, 8]
def bytS : List (List Int32) := [[104, 111, 108, 100, 115, 32, 102, 97, 100, 101, 115, 32, 99, 111, 115, 116, 115, 32, 111, 114, 32, 32, 32, 32, 97, 110, 100, 32, 32, 32, 110, 111, 116, 32, 32, 32, 102, 105, 114, 109, 32, 32, 110, 117, 109, 98, 101, 114, 121, 101, 97, 114, 32, 32, 112, 97, 114, 116, 115, 32, 104, 105, 103, 104, 32, 32, 112, 97, 105, 100, 32, 32], [40, 41, 59, 43, 45, 42, 60, 61]]
/-- words of the tables that hold in every state that is warmed, but not by the kit's rows on words -/
def Snt (U : State) : Prop := va_AO RX2 U ∧ va_AO RX1 U ∧ va_Nw (.methodLinkNest RX5 32 yX0_init RX5) U ∧ va_Nw (.methodLinkNest RX5 50 yX1_init RX5) U ∧ va_Nw (.castable "[I" "java/lang/Cloneable") U
theorem Snt.same {u U : State} (h : u.vm = U.vm) (s : Snt u) : Snt U := ⟨s.1.moved (h ▸ Vm.Alike.refl u.vm), s.2.1.moved (h ▸ Vm.Alike.refl u.vm), s.2.2.1.same rfl h, s.2.2.2.1.same rfl h, s.2.2.2.2.same rfl h⟩
theorem Snt.warm {s U : State} (hW : s.WarmedH U.vm) (h : Snt s) : Snt U := ⟨h.1.moved hW.alike, h.2.1.moved hW.alike, va_Nw.warmM hW h.2.2.1, va_Nw.warmM hW h.2.2.2.1, va_Nw.warmC hW h.2.2.2.2⟩
/-- the statics and the String constants, at the addresses that D keeps beside its classes -/
def Stt (D : va_G) (A : Nat → Prop) (U : State) (H : Heap) : Prop :=
  (va_Z RX3 "OFFSETS" "[I" (.ref (D.2 100 0)) A U H ∧ va_T .int (D.2 100 0) 24 (fun j => .int (tOFF j)) A U H) ∧
  (va_Z RX3 "ON_WALL" "[J" (.ref (D.2 100 1)) A U H ∧ va_T .long (D.2 100 1) 6 (fun j => .long (tWALL j)) A U H) ∧
  (va_Z RX5 "KIND_ABOVE" "[I" (.ref (D.2 100 2)) A U H ∧ va_T .int (D.2 100 2) 6 (fun j => .int (tKIND j)) A U H) ∧
  va_Z RJ0 "COMPACT_STRINGS" "Z" (.int 1) A U H ∧ (∃ v : Value, v.category = 1 ∧ va_Z RJ3 "SIOOBE_FORMATTER" "Ljava/util/function/BiFunction;" v A U H) ∧
  vk_S 2 lenS bytS (D.2 101) (D.2 102) A U H ∧ vk_R RX0 124 sWORDS (D.2 101 0) U ∧ vk_R RX0 112 sSIGNS (D.2 101 1) U ∧ Snt U
theorem Stt.moved {D : va_G} {A : Nat → Prop} {u U : State} {H : Heap} (hvm : u.vm.Alike U.vm) (hr : ∀ {own tx : String} {k a : Nat}, vk_R own k tx a u → vk_R own k tx a U) (hq : Snt u → Snt U) (h : Stt D A u H) : Stt D A U H := by
  obtain ⟨⟨a1, b1⟩, ⟨a2, b2⟩, ⟨a3, b3⟩, a4, ⟨v, hv, a5⟩, a6, a7, a8, a9⟩ := h
  exact ⟨⟨a1.moved hvm, b1.moved hvm⟩, ⟨a2.moved hvm, b2.moved hvm⟩, ⟨a3.moved hvm, b3.moved hvm⟩, a4.moved hvm, ⟨v, hv, a5.moved hvm⟩, a6.moved hvm, hr a7, hr a8, hq a9⟩
abbrev CX : Type := (Program × Launch × Env × Room × State) × (MethodId × Array Value × List Frame × Method × Code) × (State → Prop)
/-- the machine comes to X's end from every heap that holds the world ws, at pc with these locals and this stack -/
def At (X : CX) (D : va_G) (A : Nat → Prop) (nL kc ks pc : Nat) (lv : List (Nat × Value)) (st : List Value) (ws : va_W) : Prop :=
  ∀ (H : Heap) (locs : List Loc) (ls : Array Slot), va_P D vwCl ws H → va_D A ws → va_S A X.1.2.2.2.2.heap H locs → lv_has ls nL lv →
    W X.1.1 X.1.2.1 X.1.2.2.1 X.1.2.2.2.1 X.1.2.2.2.2 X.2.1.1 X.2.1.2.1 X.2.1.2.2.1 X.2.1.2.2.2.1 X.2.1.2.2.2.2 H locs kc ks X.2.2 (F0 X.2.1.1 pc ls st)
/-- what a walk's context gives -/
def Cx (X : CX) (cc : ByteArray) (own : String) (nL : Nat) (D : va_G) (tys : List (ClassId × FieldType)) (A : Nat → Prop) (lev cM sM : Nat) : Prop :=
  X.1.1.tables.exec = Jvm.exec ∧ X.2.1.2.2.2.2.code = cc ∧ X.2.1.2.2.2.2.maxLocals = nL ∧ X.1.2.2.2.2.vm.findClass own = some X.2.1.1.cls ∧ (∀ w ∈ gT, w.before X.2.1.2.1 X.1.2.2.2.2 = true) ∧
  va_K D vwCl tys X.1.2.2.2.2 ∧ (∀ q : Nat, X.1.2.2.2.2.heap.size ≤ q → A q) ∧ lev ≤ X.1.2.2.2.1.frames ∧ 40 * lev ≤ X.1.2.2.2.1.locals ∧ X.1.2.2.2.1.cells = cM ∧ X.1.2.2.2.1.slots = sM ∧ Stt D A X.1.2.2.2.2 X.1.2.2.2.2.heap
/-- a contract's end -/
def gQ (post : Option Value → va_W → Prop) (D : va_G) (tys : List (ClassId × FieldType)) (A : Nat → Prop) : Array Value → State → Outcome → State → Prop := fun _ st oc t =>
  (∃ (v : Option Value) (w : va_W), oc = .returned v ∧ post v w ∧ va_P D vwCl w t.heap ∧ va_K D vwCl tys t ∧ va_D A w) ∧ va_F A st t
/-- a contract's start -/
def gB (D : va_G) (tys : List (ClassId × FieldType)) (ws : va_W) (sz : Nat) (U : State) : Prop :=
  U.heap.size = sz ∧ va_P D vwCl ws U.heap ∧ va_K D vwCl tys U ∧ va_D (fun _ => True) ws ∧ Stt D (va_A ws sz) U U.heap
/-- a contract: from a world ws with these arguments the method returns v and leaves w with post v w -/
def Con (y : MethodName) (cc : ByteArray) (nL : Nat) (ret : Option FieldType) (lev mc ms : Nat) (D : va_G) (tys : List (ClassId × FieldType)) (as : List Value) (ws : va_W) (post : Option Value → va_W → Prop) : Prop :=
  ∀ (l : Launch) (sz : Nat), Met l y (Cond.code y cc nL ret :: gT) (rmL lev mc ms) (va_Pc as (gB D tys ws sz)) (gQ post D tys (va_A ws sz)) mc ms (va_A ws sz)
theorem gB_blind {D : va_G} {tys : List (ClassId × FieldType)} {as : List Value} {ws : va_W} {sz : Nat} : FrameBlind (va_Pc as (gB D tys ws sz)) := fun a U g mk q => by
  obtain ⟨q0, q1, qP, qK, qD, qS⟩ := q
  exact ⟨q0, q1, qP, va_K.moved (u := U) (U := U.calling g mk a) (Vm.Alike.refl U.vm) qK, qD, Stt.moved (u := U) (U := U.calling g mk a) (Vm.Alike.refl U.vm) (fun h => vk_R.same rfl h) (fun h => h.same rfl) qS⟩
/-- what a return needs -/
def Rt (X : CX) (ret : Option FieldType) (D : va_G) (tys : List (ClassId × FieldType)) (A : Nat → Prop) (mc ms : Nat) (post : Option Value → va_W → Prop) : Prop :=
  X.2.2 = MQ X.2.1.2.2.1 (gQ post D tys A) X.2.1.2.1 X.1.2.2.2.2 mc ms A ∧ X.2.1.2.2.2.1.sig.returnType = ret ∧ X.2.1.2.2.2.1.locks = false
set_option maxHeartbeats 1000000 in
/-- a contract out of a walk -/
theorem Con.of {y : MethodName} {cc : ByteArray} {nL lev mc ms : Nat} {ret : Option FieldType} {D : va_G} {tys : List (ClassId × FieldType)} {as : List Value} {ws : va_W} {post : Option Value → va_W → Prop} {own : String}
    (hy : plainName y.cls = true) (ho : y.cls = own) (hfit : (lg_sl as).length ≤ nL) (hlev : 0 ≤ lev)
    (body : ∀ (X : CX) (A : Nat → Prop), Cx X cc own nL D tys A lev mc ms → Rt X ret D tys A mc ms post → (y.name = "<init>" → X.2.1.2.2.2.1.name = "<init>") → At X D A nL 0 0 0 (lv_args 0 as) [] ws) : Con y cc nL ret lev mc ms D tys as ws post := by
  intro l sz
  refine Met.ofW (cc := cc) (maxL := nL) (ret := ret) hy rfl ?_
  intro p e s m args below meth c s₁ B hml hv
  obtain ⟨rfl, hsz, hP, hK, hD0, hSt⟩ := hv
  have hts := atoms_spec (ws := Cond.code y cc nL ret :: gT) B.pre
  have hown : s.vm.findClass y.cls = some m.cls := findClass_of_methodNamed B.named
  subst hsz
  have hD := hD0.self (sz := s.heap.size)
  have hl := lv_entry as (n := nL) hfit
  rw [lg_entry_eq]
  have hin : y.name = "<init>" → meth.name = "<init>" := fun hq => hq ▸ (name_of_methodNamed B.named B.method).1
  exact body ((p, l, e, (headSpec (Cond.code y cc nL ret :: gT) (rmL lev mc ms)).room, s), (m, as.toArray, below, meth, c), MQ below (gQ post D tys (va_A ws s.heap.size)) as.toArray s mc ms (va_A ws s.heap.size)) (va_A ws s.heap.size)
    ⟨B.exec, B.bytes, hml, ho ▸ hown, fun w hw => hts w (List.mem_cons_of_mem _ hw), hK, fun q h => Or.inr h, Nat.le_refl _, Nat.le_refl _, rfl, rfl, hSt⟩ ⟨rfl, B.returns, B.notSynchronized⟩ hin s.heap [] _ hP hD va_S.rf hl
section Rows
variable {X : CX} {cc : ByteArray} {own : String} {nL : Nat} {D : va_G} {tys : List (ClassId × FieldType)} {A : Nat → Prop} {lev cM sM kc ks pc : Nat} {lv lv' : List (Nat × Value)} {st : List Value} {ws : va_W}
theorem r_iconst (C : Cx X cc own nL D tys A lev cM sM) {n : Int} {v : Int32} (hdg : decode cc pc = .ok (.iconst n, 1)) (hv : Int32.ofInt n = v) (k : At X D A nL kc ks (pc + 1) lv (.int v :: st) ws) : At X D A nL kc ks pc lv st ws :=
  fun H locs ls hP hD hS hl => lv_iconst C.1 C.2.1 hdg hv (k H locs ls hP hD hS hl)
theorem r_bipush (C : Cx X cc own nL D tys A lev cM sM) {n : Int} {v : Int32} (hdg : decode cc pc = .ok (.bipush n, 2)) (hv : (Int8.ofInt n).toInt32 = v) (k : At X D A nL kc ks (pc + 2) lv (.int v :: st) ws) : At X D A nL kc ks pc lv st ws :=
  fun H locs ls hP hD hS hl => lv_bipush C.1 C.2.1 hdg hv (k H locs ls hP hD hS hl)
theorem r_sipush (C : Cx X cc own nL D tys A lev cM sM) {n : Int} {v : Int32} (hdg : decode cc pc = .ok (.sipush n, 3)) (hv : (Int16.ofInt n).toInt32 = v) (k : At X D A nL kc ks (pc + 3) lv (.int v :: st) ws) : At X D A nL kc ks pc lv st ws :=
  fun H locs ls hP hD hS hl => lv_sipush C.1 C.2.1 hdg hv (k H locs ls hP hD hS hl)
theorem r_lconst (C : Cx X cc own nL D tys A lev cM sM) {n : Fin 2} {v : Int64} (hdg : decode cc pc = .ok (.lconst n, 1)) (hv : Int64.ofNat (n : Nat) = v) (k : At X D A nL kc ks (pc + 1) lv (.long v :: st) ws) : At X D A nL kc ks pc lv st ws :=
  fun H locs ls hP hD hS hl => lv_lconst C.1 C.2.1 hdg hv (k H locs ls hP hD hS hl)
theorem r_ldc (C : Cx X cc own nL D tys A lev cM sM) {index : Nat} {v : Int32} (hc : Cond.constant own index v ∈ gT) (hdg : decode cc pc = .ok (.ldc index, 2)) (k : At X D A nL kc ks (pc + 2) lv (.int v :: st) ws) : At X D A nL kc ks pc lv st ws :=
  fun H locs ls hP hD hS hl => lv_ldc C.1 C.2.1 C.2.2.2.1 (C.2.2.2.2.1 _ hc) hdg (k H locs ls hP hD hS hl)
theorem r_ldcw (C : Cx X cc own nL D tys A lev cM sM) {index : Nat} {v : Int32} (hc : Cond.constant own index v ∈ gT) (hdg : decode cc pc = .ok (.ldc_w index, 3)) (k : At X D A nL kc ks (pc + 3) lv (.int v :: st) ws) : At X D A nL kc ks pc lv st ws :=
  fun H locs ls hP hD hS hl => lv_ldcw C.1 C.2.1 C.2.2.2.1 (C.2.2.2.2.1 _ hc) hdg (k H locs ls hP hD hS hl)
theorem r_ldc2 (C : Cx X cc own nL D tys A lev cM sM) {index : Nat} {v : Int64} (hc : Cond.constantLong own index v ∈ gT) (hdg : decode cc pc = .ok (.ldc2_w index, 3)) (k : At X D A nL kc ks (pc + 3) lv (.long v :: st) ws) : At X D A nL kc ks pc lv st ws :=
  fun H locs ls hP hD hS hl => lv_ldc2 C.1 C.2.1 C.2.2.2.1 (C.2.2.2.2.1 _ hc) hdg (k H locs ls hP hD hS hl)
theorem r_iload_n (C : Cx X cc own nL D tys A lev cM sM) (q : Nat) {n : Fin 4} {x : Int32} (hdg : decode cc pc = .ok (.iload_n n, 1)) (hq : lv[q]? = some ((n : Nat), .int x)) (k : At X D A nL kc ks (pc + 1) lv (.int x :: st) ws) : At X D A nL kc ks pc lv st ws :=
  fun H locs ls hP hD hS hl => lv_iload_n C.1 C.2.1 hdg rfl (lv_at hl q hq) (k H locs ls hP hD hS hl)
theorem r_iload (C : Cx X cc own nL D tys A lev cM sM) (q : Nat) {i : Nat} {x : Int32} (hdg : decode cc pc = .ok (.iload i, 2)) (hq : lv[q]? = some (i, .int x)) (k : At X D A nL kc ks (pc + 2) lv (.int x :: st) ws) : At X D A nL kc ks pc lv st ws :=
  fun H locs ls hP hD hS hl => lv_iload C.1 C.2.1 hdg (lv_at hl q hq) (k H locs ls hP hD hS hl)
theorem r_lload_n (C : Cx X cc own nL D tys A lev cM sM) (q : Nat) {n : Fin 4} {x : Int64} (hdg : decode cc pc = .ok (.lload_n n, 1)) (hq : lv[q]? = some ((n : Nat), .long x)) (k : At X D A nL kc ks (pc + 1) lv (.long x :: st) ws) : At X D A nL kc ks pc lv st ws :=
  fun H locs ls hP hD hS hl => lv_lload_n C.1 C.2.1 hdg rfl (lv_at hl q hq) (k H locs ls hP hD hS hl)
theorem r_lload (C : Cx X cc own nL D tys A lev cM sM) (q : Nat) {i : Nat} {x : Int64} (hdg : decode cc pc = .ok (.lload i, 2)) (hq : lv[q]? = some (i, .long x)) (k : At X D A nL kc ks (pc + 2) lv (.long x :: st) ws) : At X D A nL kc ks pc lv st ws :=
  fun H locs ls hP hD hS hl => lv_lload C.1 C.2.1 hdg (lv_at hl q hq) (k H locs ls hP hD hS hl)
theorem r_aload_n (C : Cx X cc own nL D tys A lev cM sM) (q : Nat) {n : Fin 4} {x : Nat} (hdg : decode cc pc = .ok (.aload_n n, 1)) (hq : lv[q]? = some ((n : Nat), .ref x)) (k : At X D A nL kc ks (pc + 1) lv (.ref x :: st) ws) : At X D A nL kc ks pc lv st ws :=
  fun H locs ls hP hD hS hl => lv_aload_n C.1 C.2.1 hdg rfl (lv_at hl q hq) (k H locs ls hP hD hS hl)
theorem r_aload (C : Cx X cc own nL D tys A lev cM sM) (q : Nat) {i : Nat} {x : Nat} (hdg : decode cc pc = .ok (.aload i, 2)) (hq : lv[q]? = some (i, .ref x)) (k : At X D A nL kc ks (pc + 2) lv (.ref x :: st) ws) : At X D A nL kc ks pc lv st ws :=
  fun H locs ls hP hD hS hl => lv_aload C.1 C.2.1 hdg (lv_at hl q hq) (k H locs ls hP hD hS hl)
/-- locals after a store of a category 1 value, of a category 2 value -/
def s1 (lv : List (Nat × Value)) (i : Nat) (v : Value) : List (Nat × Value) := (i, v) :: lv.filter (fun q => !(q.1 == i) && !(q.1 + 1 == i && q.2.category == 2))
def s2 (lv : List (Nat × Value)) (i : Nat) (v : Value) : List (Nat × Value) := (i, v) :: lv.filter (fun q => !(q.1 == i) && (!(q.1 == i + 1) && !(q.1 + 1 == i && q.2.category == 2)))
theorem r_istore_n (C : Cx X cc own nL D tys A lev cM sM) {n : Fin 4} {x : Int32} (hdg : decode cc pc = .ok (.istore_n n, 1)) (hn : (n : Nat) < nL) (hl : s1 lv n (.int x) = lv') (k : At X D A nL kc ks (pc + 1) lv' st ws) : At X D A nL kc ks pc lv (.int x :: st) ws :=
  fun H locs _ hP hD hS h => lv_istore_n C.1 C.2.1 hdg rfl h hn hl (fun ls' h' => k H locs ls' hP hD hS h')
theorem r_istore (C : Cx X cc own nL D tys A lev cM sM) {i : Nat} {x : Int32} (hdg : decode cc pc = .ok (.istore i, 2)) (hn : i < nL) (hl : s1 lv i (.int x) = lv') (k : At X D A nL kc ks (pc + 2) lv' st ws) : At X D A nL kc ks pc lv (.int x :: st) ws :=
  fun H locs _ hP hD hS h => lv_istore C.1 C.2.1 hdg h hn hl (fun ls' h' => k H locs ls' hP hD hS h')
theorem r_lstore_n (C : Cx X cc own nL D tys A lev cM sM) {n : Fin 4} {x : Int64} (hdg : decode cc pc = .ok (.lstore_n n, 1)) (hn : (n : Nat) + 1 < nL) (hl : s2 lv n (.long x) = lv') (k : At X D A nL kc ks (pc + 1) lv' st ws) : At X D A nL kc ks pc lv (.long x :: st) ws :=
  fun H locs _ hP hD hS h => lv_lstore_n C.1 C.2.1 hdg rfl h hn hl (fun ls' h' => k H locs ls' hP hD hS h')
theorem r_lstore (C : Cx X cc own nL D tys A lev cM sM) {i : Nat} {x : Int64} (hdg : decode cc pc = .ok (.lstore i, 2)) (hn : i + 1 < nL) (hl : s2 lv i (.long x) = lv') (k : At X D A nL kc ks (pc + 2) lv' st ws) : At X D A nL kc ks pc lv (.long x :: st) ws :=
  fun H locs _ hP hD hS h => lv_lstore C.1 C.2.1 hdg h hn hl (fun ls' h' => k H locs ls' hP hD hS h')
theorem r_astore_n (C : Cx X cc own nL D tys A lev cM sM) {n : Fin 4} {x : Nat} (hdg : decode cc pc = .ok (.astore_n n, 1)) (hn : (n : Nat) < nL) (hl : s1 lv n (.ref x) = lv') (k : At X D A nL kc ks (pc + 1) lv' st ws) : At X D A nL kc ks pc lv (.ref x :: st) ws :=
  fun H locs _ hP hD hS h => lv_astore_n C.1 C.2.1 hdg rfl h hn hl (fun ls' h' => k H locs ls' hP hD hS h')
theorem r_astore (C : Cx X cc own nL D tys A lev cM sM) {i : Nat} {x : Nat} (hdg : decode cc pc = .ok (.astore i, 2)) (hn : i < nL) (hl : s1 lv i (.ref x) = lv') (k : At X D A nL kc ks (pc + 2) lv' st ws) : At X D A nL kc ks pc lv (.ref x :: st) ws :=
  fun H locs _ hP hD hS h => lv_astore C.1 C.2.1 hdg h hn hl (fun ls' h' => k H locs ls' hP hD hS h')
theorem r_iinc (C : Cx X cc own nL D tys A lev cM sM) (q : Nat) {i : Nat} {n : Int} {x v : Int32} (hdg : decode cc pc = .ok (.iinc i n, 3)) (hq : lv[q]? = some (i, .int x)) (hv : x + Int32.ofInt n = v) (hn : i < nL) (hl : s1 lv i (.int v) = lv') (k : At X D A nL kc ks (pc + 3) lv' st ws) : At X D A nL kc ks pc lv st ws :=
  fun H locs _ hP hD hS h => lv_iinc C.1 C.2.1 hdg h hq hv hn hl (fun ls' h' => k H locs ls' hP hD hS h')
theorem r_pick (ps : List Nat) (hl : lv_pick lv ps = lv') (k : At X D A nL kc ks pc lv' st ws) : At X D A nL kc ks pc lv st ws :=
  fun H locs ls hP hD hS h => k H locs ls hP hD hS (lv_sub h ps hl)
theorem r_goto (C : Cx X cc own nL D tys A lev cM sM) {off : Int} {tgt : Nat} (hdg : decode cc pc = .ok (.goto off, 3)) (ht : (pc : Int) + off = (tgt : Int)) (k : At X D A nL kc ks tgt lv st ws) : At X D A nL kc ks pc lv st ws :=
  fun H locs ls hP hD hS hl => lv_goto C.1 C.2.1 hdg ht (k H locs ls hP hD hS hl)
theorem r_iadd (C : Cx X cc own nL D tys A lev cM sM) {x y : Int32} (hdg : decode cc pc = .ok (.iadd, 1)) (k : At X D A nL kc ks (pc + 1) lv (.int (x + y) :: st) ws) : At X D A nL kc ks pc lv (.int y :: .int x :: st) ws :=
  fun H locs ls hP hD hS hl => lv_iadd C.1 C.2.1 hdg (k H locs ls hP hD hS hl)
theorem r_isub (C : Cx X cc own nL D tys A lev cM sM) {x y : Int32} (hdg : decode cc pc = .ok (.isub, 1)) (k : At X D A nL kc ks (pc + 1) lv (.int (x - y) :: st) ws) : At X D A nL kc ks pc lv (.int y :: .int x :: st) ws :=
  fun H locs ls hP hD hS hl => lv_isub C.1 C.2.1 hdg (k H locs ls hP hD hS hl)
theorem r_imul (C : Cx X cc own nL D tys A lev cM sM) {x y : Int32} (hdg : decode cc pc = .ok (.imul, 1)) (k : At X D A nL kc ks (pc + 1) lv (.int (x * y) :: st) ws) : At X D A nL kc ks pc lv (.int y :: .int x :: st) ws :=
  fun H locs ls hP hD hS hl => lv_imul C.1 C.2.1 hdg (k H locs ls hP hD hS hl)
theorem r_iand (C : Cx X cc own nL D tys A lev cM sM) {x y : Int32} (hdg : decode cc pc = .ok (.iand, 1)) (k : At X D A nL kc ks (pc + 1) lv (.int (x &&& y) :: st) ws) : At X D A nL kc ks pc lv (.int y :: .int x :: st) ws :=
  fun H locs ls hP hD hS hl => lv_iand C.1 C.2.1 hdg (k H locs ls hP hD hS hl)
theorem r_ior (C : Cx X cc own nL D tys A lev cM sM) {x y : Int32} (hdg : decode cc pc = .ok (.ior, 1)) (k : At X D A nL kc ks (pc + 1) lv (.int (x ||| y) :: st) ws) : At X D A nL kc ks pc lv (.int y :: .int x :: st) ws :=
  fun H locs ls hP hD hS hl => lv_ior C.1 C.2.1 hdg (k H locs ls hP hD hS hl)
theorem r_ixor (C : Cx X cc own nL D tys A lev cM sM) {x y : Int32} (hdg : decode cc pc = .ok (.ixor, 1)) (k : At X D A nL kc ks (pc + 1) lv (.int (x ^^^ y) :: st) ws) : At X D A nL kc ks pc lv (.int y :: .int x :: st) ws :=
  fun H locs ls hP hD hS hl => lv_ixor C.1 C.2.1 hdg (k H locs ls hP hD hS hl)
theorem r_ishl (C : Cx X cc own nL D tys A lev cM sM) {x y : Int32} (hdg : decode cc pc = .ok (.ishl, 1)) (k : At X D A nL kc ks (pc + 1) lv (.int (x <<< (y &&& 31)) :: st) ws) : At X D A nL kc ks pc lv (.int y :: .int x :: st) ws :=
  fun H locs ls hP hD hS hl => lv_ishl C.1 C.2.1 hdg (k H locs ls hP hD hS hl)
theorem r_ishr (C : Cx X cc own nL D tys A lev cM sM) {x y : Int32} (hdg : decode cc pc = .ok (.ishr, 1)) (k : At X D A nL kc ks (pc + 1) lv (.int (x >>> (y &&& 31)) :: st) ws) : At X D A nL kc ks pc lv (.int y :: .int x :: st) ws :=
  fun H locs ls hP hD hS hl => lv_ishr C.1 C.2.1 hdg (k H locs ls hP hD hS hl)
theorem r_ladd (C : Cx X cc own nL D tys A lev cM sM) {x y : Int64} (hdg : decode cc pc = .ok (.ladd, 1)) (k : At X D A nL kc ks (pc + 1) lv (.long (x + y) :: st) ws) : At X D A nL kc ks pc lv (.long y :: .long x :: st) ws :=
  fun H locs ls hP hD hS hl => lv_ladd C.1 C.2.1 hdg (k H locs ls hP hD hS hl)
theorem r_lsub (C : Cx X cc own nL D tys A lev cM sM) {x y : Int64} (hdg : decode cc pc = .ok (.lsub, 1)) (k : At X D A nL kc ks (pc + 1) lv (.long (x - y) :: st) ws) : At X D A nL kc ks pc lv (.long y :: .long x :: st) ws :=
  fun H locs ls hP hD hS hl => lv_lsub C.1 C.2.1 hdg (k H locs ls hP hD hS hl)
theorem r_lmul (C : Cx X cc own nL D tys A lev cM sM) {x y : Int64} (hdg : decode cc pc = .ok (.lmul, 1)) (k : At X D A nL kc ks (pc + 1) lv (.long (x * y) :: st) ws) : At X D A nL kc ks pc lv (.long y :: .long x :: st) ws :=
  fun H locs ls hP hD hS hl => lv_lmul C.1 C.2.1 hdg (k H locs ls hP hD hS hl)
theorem r_land (C : Cx X cc own nL D tys A lev cM sM) {x y : Int64} (hdg : decode cc pc = .ok (.land, 1)) (k : At X D A nL kc ks (pc + 1) lv (.long (x &&& y) :: st) ws) : At X D A nL kc ks pc lv (.long y :: .long x :: st) ws :=
  fun H locs ls hP hD hS hl => lv_land C.1 C.2.1 hdg (k H locs ls hP hD hS hl)
theorem r_lor (C : Cx X cc own nL D tys A lev cM sM) {x y : Int64} (hdg : decode cc pc = .ok (.lor, 1)) (k : At X D A nL kc ks (pc + 1) lv (.long (x ||| y) :: st) ws) : At X D A nL kc ks pc lv (.long y :: .long x :: st) ws :=
  fun H locs ls hP hD hS hl => lv_lor C.1 C.2.1 hdg (k H locs ls hP hD hS hl)
theorem r_lxor (C : Cx X cc own nL D tys A lev cM sM) {x y : Int64} (hdg : decode cc pc = .ok (.lxor, 1)) (k : At X D A nL kc ks (pc + 1) lv (.long (x ^^^ y) :: st) ws) : At X D A nL kc ks pc lv (.long y :: .long x :: st) ws :=
  fun H locs ls hP hD hS hl => lv_lxor C.1 C.2.1 hdg (k H locs ls hP hD hS hl)
theorem r_idiv (C : Cx X cc own nL D tys A lev cM sM) {x y : Int32} (hdg : decode cc pc = .ok (.idiv, 1)) (hne : ¬ y = 0) (k : At X D A nL kc ks (pc + 1) lv (.int (x / y) :: st) ws) : At X D A nL kc ks pc lv (.int y :: .int x :: st) ws :=
  fun H locs ls hP hD hS hl => lv_idiv C.1 C.2.1 hdg hne (k H locs ls hP hD hS hl)
theorem r_irem (C : Cx X cc own nL D tys A lev cM sM) {x y : Int32} (hdg : decode cc pc = .ok (.irem, 1)) (hne : ¬ y = 0) (k : At X D A nL kc ks (pc + 1) lv (.int (x - x / y * y) :: st) ws) : At X D A nL kc ks pc lv (.int y :: .int x :: st) ws :=
  fun H locs ls hP hD hS hl => lv_irem C.1 C.2.1 hdg hne (k H locs ls hP hD hS hl)
theorem r_ldiv (C : Cx X cc own nL D tys A lev cM sM) {x y : Int64} (hdg : decode cc pc = .ok (.ldiv, 1)) (hne : ¬ y = 0) (k : At X D A nL kc ks (pc + 1) lv (.long (x / y) :: st) ws) : At X D A nL kc ks pc lv (.long y :: .long x :: st) ws :=
  fun H locs ls hP hD hS hl => lv_ldiv C.1 C.2.1 hdg hne (k H locs ls hP hD hS hl)
theorem r_lrem (C : Cx X cc own nL D tys A lev cM sM) {x y : Int64} (hdg : decode cc pc = .ok (.lrem, 1)) (hne : ¬ y = 0) (k : At X D A nL kc ks (pc + 1) lv (.long (x - x / y * y) :: st) ws) : At X D A nL kc ks pc lv (.long y :: .long x :: st) ws :=
  fun H locs ls hP hD hS hl => lv_lrem C.1 C.2.1 hdg hne (k H locs ls hP hD hS hl)
theorem r_ineg (C : Cx X cc own nL D tys A lev cM sM) {x : Int32} (hdg : decode cc pc = .ok (.ineg, 1)) (k : At X D A nL kc ks (pc + 1) lv (.int (-x) :: st) ws) : At X D A nL kc ks pc lv (.int x :: st) ws :=
  fun H locs ls hP hD hS hl => lv_ineg C.1 C.2.1 hdg (k H locs ls hP hD hS hl)
theorem r_lneg (C : Cx X cc own nL D tys A lev cM sM) {x : Int64} (hdg : decode cc pc = .ok (.lneg, 1)) (k : At X D A nL kc ks (pc + 1) lv (.long (-x) :: st) ws) : At X D A nL kc ks pc lv (.long x :: st) ws :=
  fun H locs ls hP hD hS hl => lv_lneg C.1 C.2.1 hdg (k H locs ls hP hD hS hl)
theorem r_i2l (C : Cx X cc own nL D tys A lev cM sM) {x : Int32} (hdg : decode cc pc = .ok (.i2l, 1)) (k : At X D A nL kc ks (pc + 1) lv (.long x.toInt64 :: st) ws) : At X D A nL kc ks pc lv (.int x :: st) ws :=
  fun H locs ls hP hD hS hl => lv_i2l C.1 C.2.1 hdg rfl (k H locs ls hP hD hS hl)
theorem r_l2i (C : Cx X cc own nL D tys A lev cM sM) {x : Int64} (hdg : decode cc pc = .ok (.l2i, 1)) (k : At X D A nL kc ks (pc + 1) lv (.int x.toInt32 :: st) ws) : At X D A nL kc ks pc lv (.long x :: st) ws :=
  fun H locs ls hP hD hS hl => lv_l2i C.1 C.2.1 hdg rfl (k H locs ls hP hD hS hl)
theorem r_i2b (C : Cx X cc own nL D tys A lev cM sM) {x : Int32} (hdg : decode cc pc = .ok (.i2b, 1)) (k : At X D A nL kc ks (pc + 1) lv (.int x.toInt8.toInt32 :: st) ws) : At X D A nL kc ks pc lv (.int x :: st) ws :=
  fun H locs ls hP hD hS hl => lv_i2b C.1 C.2.1 hdg rfl (k H locs ls hP hD hS hl)
theorem r_i2s (C : Cx X cc own nL D tys A lev cM sM) {x : Int32} (hdg : decode cc pc = .ok (.i2s, 1)) (k : At X D A nL kc ks (pc + 1) lv (.int x.toInt16.toInt32 :: st) ws) : At X D A nL kc ks pc lv (.int x :: st) ws :=
  fun H locs ls hP hD hS hl => lv_i2s C.1 C.2.1 hdg rfl (k H locs ls hP hD hS hl)
theorem r_i2c (C : Cx X cc own nL D tys A lev cM sM) {x : Int32} (hdg : decode cc pc = .ok (.i2c, 1)) (k : At X D A nL kc ks (pc + 1) lv (.int (x.toUInt32 % 65536).toInt32 :: st) ws) : At X D A nL kc ks pc lv (.int x :: st) ws :=
  fun H locs ls hP hD hS hl => lv_i2c C.1 C.2.1 hdg rfl (k H locs ls hP hD hS hl)
/-- the shifts of longs and the unsigned ones, by name -/
def jshl (x : Int64) (y : Int32) : Int64 := x <<< (y.toInt64 &&& 63)
def jshr (x : Int64) (y : Int32) : Int64 := x >>> (y.toInt64 &&& 63)
def jushr (x : Int64) (y : Int32) : Int64 := (x.toUInt64 >>> (y.toInt64.toUInt64 &&& Int64.toUInt64 63)).toInt64
def jiushr (x y : Int32) : Int32 := (x.toUInt32 >>> (y.toUInt32 &&& Int32.toUInt32 31)).toInt32
theorem r_iushr (C : Cx X cc own nL D tys A lev cM sM) {x y : Int32} (hdg : decode cc pc = .ok (.iushr, 1)) (k : At X D A nL kc ks (pc + 1) lv (.int (jiushr x y) :: st) ws) : At X D A nL kc ks pc lv (.int y :: .int x :: st) ws :=
  fun H locs ls hP hD hS hl => lv_iushr C.1 C.2.1 hdg rfl (k H locs ls hP hD hS hl)
theorem r_lushr (C : Cx X cc own nL D tys A lev cM sM) {x : Int64} {y : Int32} (hdg : decode cc pc = .ok (.lushr, 1)) (k : At X D A nL kc ks (pc + 1) lv (.long (jushr x y) :: st) ws) : At X D A nL kc ks pc lv (.int y :: .long x :: st) ws :=
  fun H locs ls hP hD hS hl => lv_lushr C.1 C.2.1 hdg rfl (k H locs ls hP hD hS hl)
theorem r_lshl (C : Cx X cc own nL D tys A lev cM sM) {x : Int64} {y : Int32} (hdg : decode cc pc = .ok (.lshl, 1)) (k : At X D A nL kc ks (pc + 1) lv (.long (jshl x y) :: st) ws) : At X D A nL kc ks pc lv (.int y :: .long x :: st) ws :=
  fun H locs ls hP hD hS hl => lv_lshl C.1 C.2.1 hdg rfl (k H locs ls hP hD hS hl)
theorem r_lshr (C : Cx X cc own nL D tys A lev cM sM) {x : Int64} {y : Int32} (hdg : decode cc pc = .ok (.lshr, 1)) (k : At X D A nL kc ks (pc + 1) lv (.long (jshr x y) :: st) ws) : At X D A nL kc ks pc lv (.int y :: .long x :: st) ws :=
  fun H locs ls hP hD hS hl => lv_lshr C.1 C.2.1 hdg rfl (k H locs ls hP hD hS hl)
theorem r_lcmp (C : Cx X cc own nL D tys A lev cM sM) {x y : Int64} (hdg : decode cc pc = .ok (.lcmp, 1)) (k : At X D A nL kc ks (pc + 1) lv (.int (lg_cmp x y) :: st) ws) : At X D A nL kc ks pc lv (.long y :: .long x :: st) ws :=
  fun H locs ls hP hD hS hl => W.lcmp C.1 C.2.1 hdg (k H locs ls hP hD hS hl)
theorem r_dup (C : Cx X cc own nL D tys A lev cM sM) {v : Value} (hdg : decode cc pc = .ok (.dup, 1)) (h1 : v.category = 1) (k : At X D A nL kc ks (pc + 1) lv (v :: v :: st) ws) : At X D A nL kc ks pc lv (v :: st) ws :=
  fun H locs ls hP hD hS hl => lv_dup C.1 C.2.1 hdg h1 (k H locs ls hP hD hS hl)
theorem r_pop (C : Cx X cc own nL D tys A lev cM sM) {v : Value} (hdg : decode cc pc = .ok (.pop, 1)) (h1 : v.category = 1) (k : At X D A nL kc ks (pc + 1) lv (st) ws) : At X D A nL kc ks pc lv (v :: st) ws :=
  fun H locs ls hP hD hS hl => lv_pop C.1 C.2.1 hdg h1 (k H locs ls hP hD hS hl)
theorem r_dup_x1 (C : Cx X cc own nL D tys A lev cM sM) {v w : Value} (hdg : decode cc pc = .ok (.dup_x1, 1)) (h1 : v.category = 1) (h2 : w.category = 1) (k : At X D A nL kc ks (pc + 1) lv (v :: w :: v :: st) ws) : At X D A nL kc ks pc lv (v :: w :: st) ws :=
  fun H locs ls hP hD hS hl => lv_dup_x1 C.1 C.2.1 hdg h1 h2 (k H locs ls hP hD hS hl)
theorem r_dup_x2 (C : Cx X cc own nL D tys A lev cM sM) {v w z : Value} (hdg : decode cc pc = .ok (.dup_x2, 1)) (h1 : v.category = 1) (h2 : w.category = 1) (h3 : z.category = 1) (k : At X D A nL kc ks (pc + 1) lv (v :: w :: z :: v :: st) ws) : At X D A nL kc ks pc lv (v :: w :: z :: st) ws :=
  fun H locs ls hP hD hS hl => lv_dup_x2 C.1 C.2.1 hdg h1 h2 h3 (k H locs ls hP hD hS hl)
theorem r_dup2_11 (C : Cx X cc own nL D tys A lev cM sM) {v w : Value} (hdg : decode cc pc = .ok (.dup2, 1)) (h1 : v.category = 1) (h2 : w.category = 1) (k : At X D A nL kc ks (pc + 1) lv (v :: w :: v :: w :: st) ws) : At X D A nL kc ks pc lv (v :: w :: st) ws :=
  fun H locs ls hP hD hS hl => lv_dup2_11 C.1 C.2.1 hdg h1 h2 (k H locs ls hP hD hS hl)
theorem r_dup2_2 (C : Cx X cc own nL D tys A lev cM sM) {v : Value} (hdg : decode cc pc = .ok (.dup2, 1)) (h1 : v.category = 2) (k : At X D A nL kc ks (pc + 1) lv (v :: v :: st) ws) : At X D A nL kc ks pc lv (v :: st) ws :=
  fun H locs ls hP hD hS hl => lv_dup2_2 C.1 C.2.1 hdg h1 (k H locs ls hP hD hS hl)
theorem r_pop2_2 (C : Cx X cc own nL D tys A lev cM sM) {v : Value} (hdg : decode cc pc = .ok (.pop2, 1)) (h1 : v.category = 2) (k : At X D A nL kc ks (pc + 1) lv (st) ws) : At X D A nL kc ks pc lv (v :: st) ws :=
  fun H locs ls hP hD hS hl => lv_pop2_2 C.1 C.2.1 hdg h1 (k H locs ls hP hD hS hl)
theorem r_if_eq (C : Cx X cc own nL D tys A lev cM sM) {x : Int32} {off : Int} {tgt : Nat} (hdg : decode cc pc = .ok (.ifCond .eq off, 3)) (ht : (pc : Int) + off = (tgt : Int)) (kt : x = 0 → At X D A nL kc ks tgt lv st ws) (kf : ¬ x = 0 → At X D A nL kc ks (pc + 3) lv st ws) : At X D A nL kc ks pc lv (.int x :: st) ws :=
  fun H locs ls hP hD hS hl => lv_if_eq C.1 C.2.1 hdg ht (fun h => kt h H locs ls hP hD hS hl) (fun h => kf h H locs ls hP hD hS hl)
theorem r_icmp_eq (C : Cx X cc own nL D tys A lev cM sM) {x y : Int32} {off : Int} {tgt : Nat} (hdg : decode cc pc = .ok (.if_icmp .eq off, 3)) (ht : (pc : Int) + off = (tgt : Int)) (kt : x = y → At X D A nL kc ks tgt lv st ws) (kf : ¬ x = y → At X D A nL kc ks (pc + 3) lv st ws) : At X D A nL kc ks pc lv (.int y :: .int x :: st) ws :=
  fun H locs ls hP hD hS hl => lv_icmp_eq C.1 C.2.1 hdg ht (fun h => kt h H locs ls hP hD hS hl) (fun h => kf h H locs ls hP hD hS hl)
theorem r_if_ne (C : Cx X cc own nL D tys A lev cM sM) {x : Int32} {off : Int} {tgt : Nat} (hdg : decode cc pc = .ok (.ifCond .ne off, 3)) (ht : (pc : Int) + off = (tgt : Int)) (kt : ¬ x = 0 → At X D A nL kc ks tgt lv st ws) (kf : x = 0 → At X D A nL kc ks (pc + 3) lv st ws) : At X D A nL kc ks pc lv (.int x :: st) ws :=
  fun H locs ls hP hD hS hl => lv_if_ne C.1 C.2.1 hdg ht (fun h => kt h H locs ls hP hD hS hl) (fun h => kf h H locs ls hP hD hS hl)
theorem r_icmp_ne (C : Cx X cc own nL D tys A lev cM sM) {x y : Int32} {off : Int} {tgt : Nat} (hdg : decode cc pc = .ok (.if_icmp .ne off, 3)) (ht : (pc : Int) + off = (tgt : Int)) (kt : ¬ x = y → At X D A nL kc ks tgt lv st ws) (kf : x = y → At X D A nL kc ks (pc + 3) lv st ws) : At X D A nL kc ks pc lv (.int y :: .int x :: st) ws :=
  fun H locs ls hP hD hS hl => lv_icmp_ne C.1 C.2.1 hdg ht (fun h => kt h H locs ls hP hD hS hl) (fun h => kf h H locs ls hP hD hS hl)
theorem r_if_lt (C : Cx X cc own nL D tys A lev cM sM) {x : Int32} {off : Int} {tgt : Nat} (hdg : decode cc pc = .ok (.ifCond .lt off, 3)) (ht : (pc : Int) + off = (tgt : Int)) (kt : x < 0 → At X D A nL kc ks tgt lv st ws) (kf : ¬ x < 0 → At X D A nL kc ks (pc + 3) lv st ws) : At X D A nL kc ks pc lv (.int x :: st) ws :=
  fun H locs ls hP hD hS hl => lv_if_lt C.1 C.2.1 hdg ht (fun h => kt h H locs ls hP hD hS hl) (fun h => kf h H locs ls hP hD hS hl)
theorem r_icmp_lt (C : Cx X cc own nL D tys A lev cM sM) {x y : Int32} {off : Int} {tgt : Nat} (hdg : decode cc pc = .ok (.if_icmp .lt off, 3)) (ht : (pc : Int) + off = (tgt : Int)) (kt : x < y → At X D A nL kc ks tgt lv st ws) (kf : ¬ x < y → At X D A nL kc ks (pc + 3) lv st ws) : At X D A nL kc ks pc lv (.int y :: .int x :: st) ws :=
  fun H locs ls hP hD hS hl => lv_icmp_lt C.1 C.2.1 hdg ht (fun h => kt h H locs ls hP hD hS hl) (fun h => kf h H locs ls hP hD hS hl)
theorem r_if_ge (C : Cx X cc own nL D tys A lev cM sM) {x : Int32} {off : Int} {tgt : Nat} (hdg : decode cc pc = .ok (.ifCond .ge off, 3)) (ht : (pc : Int) + off = (tgt : Int)) (kt : 0 ≤ x → At X D A nL kc ks tgt lv st ws) (kf : ¬ 0 ≤ x → At X D A nL kc ks (pc + 3) lv st ws) : At X D A nL kc ks pc lv (.int x :: st) ws :=
  fun H locs ls hP hD hS hl => lv_if_ge C.1 C.2.1 hdg ht (fun h => kt h H locs ls hP hD hS hl) (fun h => kf h H locs ls hP hD hS hl)
theorem r_icmp_ge (C : Cx X cc own nL D tys A lev cM sM) {x y : Int32} {off : Int} {tgt : Nat} (hdg : decode cc pc = .ok (.if_icmp .ge off, 3)) (ht : (pc : Int) + off = (tgt : Int)) (kt : y ≤ x → At X D A nL kc ks tgt lv st ws) (kf : ¬ y ≤ x → At X D A nL kc ks (pc + 3) lv st ws) : At X D A nL kc ks pc lv (.int y :: .int x :: st) ws :=
  fun H locs ls hP hD hS hl => lv_icmp_ge C.1 C.2.1 hdg ht (fun h => kt h H locs ls hP hD hS hl) (fun h => kf h H locs ls hP hD hS hl)
theorem r_if_gt (C : Cx X cc own nL D tys A lev cM sM) {x : Int32} {off : Int} {tgt : Nat} (hdg : decode cc pc = .ok (.ifCond .gt off, 3)) (ht : (pc : Int) + off = (tgt : Int)) (kt : 0 < x → At X D A nL kc ks tgt lv st ws) (kf : ¬ 0 < x → At X D A nL kc ks (pc + 3) lv st ws) : At X D A nL kc ks pc lv (.int x :: st) ws :=
  fun H locs ls hP hD hS hl => lv_if_gt C.1 C.2.1 hdg ht (fun h => kt h H locs ls hP hD hS hl) (fun h => kf h H locs ls hP hD hS hl)
theorem r_icmp_gt (C : Cx X cc own nL D tys A lev cM sM) {x y : Int32} {off : Int} {tgt : Nat} (hdg : decode cc pc = .ok (.if_icmp .gt off, 3)) (ht : (pc : Int) + off = (tgt : Int)) (kt : y < x → At X D A nL kc ks tgt lv st ws) (kf : ¬ y < x → At X D A nL kc ks (pc + 3) lv st ws) : At X D A nL kc ks pc lv (.int y :: .int x :: st) ws :=
  fun H locs ls hP hD hS hl => lv_icmp_gt C.1 C.2.1 hdg ht (fun h => kt h H locs ls hP hD hS hl) (fun h => kf h H locs ls hP hD hS hl)
theorem r_if_le (C : Cx X cc own nL D tys A lev cM sM) {x : Int32} {off : Int} {tgt : Nat} (hdg : decode cc pc = .ok (.ifCond .le off, 3)) (ht : (pc : Int) + off = (tgt : Int)) (kt : x ≤ 0 → At X D A nL kc ks tgt lv st ws) (kf : ¬ x ≤ 0 → At X D A nL kc ks (pc + 3) lv st ws) : At X D A nL kc ks pc lv (.int x :: st) ws :=
  fun H locs ls hP hD hS hl => lv_if_le C.1 C.2.1 hdg ht (fun h => kt h H locs ls hP hD hS hl) (fun h => kf h H locs ls hP hD hS hl)
theorem r_icmp_le (C : Cx X cc own nL D tys A lev cM sM) {x y : Int32} {off : Int} {tgt : Nat} (hdg : decode cc pc = .ok (.if_icmp .le off, 3)) (ht : (pc : Int) + off = (tgt : Int)) (kt : x ≤ y → At X D A nL kc ks tgt lv st ws) (kf : ¬ x ≤ y → At X D A nL kc ks (pc + 3) lv st ws) : At X D A nL kc ks pc lv (.int y :: .int x :: st) ws :=
  fun H locs ls hP hD hS hl => lv_icmp_le C.1 C.2.1 hdg ht (fun h => kt h H locs ls hP hD hS hl) (fun h => kf h H locs ls hP hD hS hl)
end Rows

/-! the start: what the tables and the Statement's premises give -/
theorem tbl_mem {w : Cond} (i : Nat) (h : tables_1[i]? = some w) : w ∈ lw_tbl := List.mem_append_right _ (List.mem_of_getElem? h)
section Start
variable {s : State} {b : Nat} {A : Nat → Prop}
set_option maxHeartbeats 8000000 in
set_option maxRecDepth 100000 in
theorem st_stat (hts : ∀ w ∈ lw_tbl, w.before #[Value.ref b] s = true) (hgv : (Jvm.Cond.and given_1 narrow_1).before #[Value.ref b] s = true) (hA : ∀ a : Nat, a < s.heap.size → ¬ A a) :
    ∃ (f0 f1 f2 : Nat → Nat), ∀ D : va_G, D.2 100 = f0 → D.2 101 = f1 → D.2 102 = f2 → Stt D A s s.heap := by
  have hs := flat_of_before _ hgv
  obtain ⟨t1, e1, h1⟩ : ∃ t : Nat, (Term.static RX3 "OFFSETS" "[I").eval #[Value.ref b] s none [] s = some (.ref t) ∧ va_T .int t 24 (fun j => .int (tOFF j)) A s s.heap := by
    refine va_Tof (by decide) (hs _ (by decide +kernel)) (va_eqt (z := 24) (hs _ (by decide +kernel))) ?_ hA
    intro j hj
    match j, hj with
    | 0, _ => exact va_eqt (hs _ (by decide +kernel))
    | 1, _ => exact va_eqt (hs _ (by decide +kernel))
    | 2, _ => exact va_eqt (hs _ (by decide +kernel))
    | 3, _ => exact va_eqt (hs _ (by decide +kernel))
    | 4, _ => exact va_eqt (hs _ (by decide +kernel))
    | 5, _ => exact va_eqt (hs _ (by decide +kernel))
    | 6, _ => exact va_eqt (hs _ (by decide +kernel))
    | 7, _ => exact va_eqt (hs _ (by decide +kernel))
    | 8, _ => exact va_eqt (hs _ (by decide +kernel))
    | 9, _ => exact va_eqt (hs _ (by decide +kernel))
    | 10, _ => exact va_eqt (hs _ (by decide +kernel))
    | 11, _ => exact va_eqt (hs _ (by decide +kernel))
    | 12, _ => exact va_eqt (hs _ (by decide +kernel))
    | 13, _ => exact va_eqt (hs _ (by decide +kernel))
    | 14, _ => exact va_eqt (hs _ (by decide +kernel))
    | 15, _ => exact va_eqt (hs _ (by decide +kernel))
    | 16, _ => exact va_eqt (hs _ (by decide +kernel))
    | 17, _ => exact va_eqt (hs _ (by decide +kernel))
    | 18, _ => exact va_eqt (hs _ (by decide +kernel))
    | 19, _ => exact va_eqt (hs _ (by decide +kernel))
    | 20, _ => exact va_eqt (hs _ (by decide +kernel))
    | 21, _ => exact va_eqt (hs _ (by decide +kernel))
    | 22, _ => exact va_eqt (hs _ (by decide +kernel))
    | 23, _ => exact va_eqt (hs _ (by decide +kernel))
    | n + 24, h => exact absurd h (by omega)
  obtain ⟨t2, e2, h2⟩ : ∃ t : Nat, (Term.static RX3 "ON_WALL" "[J").eval #[Value.ref b] s none [] s = some (.ref t) ∧ va_T .long t 6 (fun j => .long (tWALL j)) A s s.heap := by
    refine va_Tof (by decide) (hs _ (by decide +kernel)) (va_eqt (z := 6) (hs _ (by decide +kernel))) ?_ hA
    intro j hj
    match j, hj with
    | 0, _ => exact va_eqtl (hs _ (by decide +kernel))
    | 1, _ => exact va_eqtl (hs _ (by decide +kernel))
    | 2, _ => exact va_eqtl (hs _ (by decide +kernel))
    | 3, _ => exact va_eqtl (hs _ (by decide +kernel))
    | 4, _ => exact va_eqtl (hs _ (by decide +kernel))
    | 5, _ => exact va_eqtl (hs _ (by decide +kernel))
    | n + 6, h => exact absurd h (by omega)
  obtain ⟨t3, e3, h3⟩ : ∃ t : Nat, (Term.static RX5 "KIND_ABOVE" "[I").eval #[Value.ref b] s none [] s = some (.ref t) ∧ va_T .int t 6 (fun j => .int (tKIND j)) A s s.heap := by
    refine va_Tof (by decide) (hs _ (by decide +kernel)) (va_eqt (z := 6) (hs _ (by decide +kernel))) ?_ hA
    intro j hj
    match j, hj with
    | 0, _ => exact va_eqt (hs _ (by decide +kernel))
    | 1, _ => exact va_eqt (hs _ (by decide +kernel))
    | 2, _ => exact va_eqt (hs _ (by decide +kernel))
    | 3, _ => exact va_eqt (hs _ (by decide +kernel))
    | 4, _ => exact va_eqt (hs _ (by decide +kernel))
    | 5, _ => exact va_eqt (hs _ (by decide +kernel))
    | n + 6, h => exact absurd h (by omega)
  have z1 : va_Z RX3 "OFFSETS" "[I" (.ref t1) A s s.heap := va_Zof (hts _ (tbl_mem 540 (by decide +kernel))) (hts _ (by exact (List.mem_filter.mp kn_X3).1)) e1 hA
  have z2 : va_Z RX3 "ON_WALL" "[J" (.ref t2) A s s.heap := va_Zof (hts _ (tbl_mem 535 (by decide +kernel))) (hts _ (by exact (List.mem_filter.mp kn_X3).1)) e2 hA
  have z3 : va_Z RX5 "KIND_ABOVE" "[I" (.ref t3) A s s.heap := va_Zof (hts _ (tbl_mem 739 (by decide +kernel))) (hts _ (by exact (List.mem_filter.mp kn_X5).1)) e3 hA
  have z4 : va_Z RJ0 "COMPACT_STRINGS" "Z" (.int 1) A s s.heap := va_Zof (hts _ (tbl_mem 357 (by decide +kernel))) (hts _ (by exact (List.mem_filter.mp kn_J0).1)) (va_eqi (hs _ (by decide +kernel))) hA
  have z5 : ∃ v : Value, v.category = 1 ∧ va_Z RJ3 "SIOOBE_FORMATTER" "Ljava/util/function/BiFunction;" v A s s.heap := by
    have h := va_Zqof (C := RJ3) (n := "SIOOBE_FORMATTER") (d := "Ljava/util/function/BiFunction;") (A := A) (hts _ (tbl_mem 365 (by decide +kernel))) (hts _ (by exact (List.mem_filter.mp kn_J3).1)) (hs _ (by decide +kernel)) hA
    rcases h with h | ⟨t, h⟩
    · exact ⟨_, rfl, h⟩
    · exact ⟨_, rfl, h⟩
  obtain ⟨adK, adV, hS, hE⟩ := vk_Sof (args := #[Value.ref b]) (s := s) (N := 2) (tm := fun i => if i = 0 then .string RX0 124 else .string RX0 112) (len := lenS) (byt := bytS) (A := A)
    (by intro i hi; match i, hi with
        | 0, _ => decide
        | 1, _ => decide
        | n + 2, h => exact absurd h (by omega))
    (by intro i hi; match i, hi with
        | 0, _ => exact hs _ (by decide +kernel)
        | 1, _ => exact hs _ (by decide +kernel)
        | n + 2, h => exact absurd h (by omega))
    (by intro i hi; match i, hi with
        | 0, _ => exact hs _ (by decide +kernel)
        | 1, _ => exact hs _ (by decide +kernel)
        | n + 2, h => exact absurd h (by omega))
    (by intro i hi; match i, hi with
        | 0, _ => exact hs _ (by decide +kernel)
        | 1, _ => exact hs _ (by decide +kernel)
        | n + 2, h => exact absurd h (by omega))
    (by intro i hi; match i, hi with
        | 0, _ => exact hs _ (by decide +kernel)
        | 1, _ => exact hs _ (by decide +kernel)
        | n + 2, h => exact absurd h (by omega))
    (by intro i hi j hj; match i, hi with
        | 0, _ => exact hs _ (List.all_eq_true.mp (show (List.range 72).all (fun j => decide ((Cond.eq (.elem (.field (.string RX0 124) "java/lang/String" "value" "[B") (.int (Int32.ofNat j))) (.int ((bytS.getD 0 []).getD j 0))) ∈ flatC (Jvm.Cond.and given_1 narrow_1))) = true by decide +kernel) j (List.mem_range.mpr hj) |> of_decide_eq_true)
        | 1, _ => exact hs _ (List.all_eq_true.mp (show (List.range 8).all (fun j => decide ((Cond.eq (.elem (.field (.string RX0 112) "java/lang/String" "value" "[B") (.int (Int32.ofNat j))) (.int ((bytS.getD 1 []).getD j 0))) ∈ flatC (Jvm.Cond.and given_1 narrow_1))) = true by decide +kernel) j (List.mem_range.mpr hj) |> of_decide_eq_true)
        | n + 2, h => exact absurd h (by omega))
    (by intro i j hi hj hij; match i, j, hi, hj, hij with
        | 0, 1, _, _, _ => exact Or.inl (hs _ (by decide +kernel))
        | 1, 0, _, _, _ => exact Or.inr (hs _ (by decide +kernel))
        | 0, 0, _, _, h => exact absurd rfl h
        | 1, 1, _, _, h => exact absurd rfl h
        | n + 2, _, h, _, _ => exact absurd h (by omega)
        | _, n + 2, _, h, _ => exact absurd h (by omega))
    hA
  have r1 : vk_R RX0 124 sWORDS (adK 0) s := vk_R.of (hts _ (tbl_mem 347 (by decide +kernel))) (hE 0 (by decide))
  have r2 : vk_R RX0 112 sSIGNS (adK 1) s := vk_R.of (hts _ (tbl_mem 395 (by decide +kernel))) (hE 1 (by decide))
  have n1 : Snt s := ⟨va_AO.of (hts _ (tbl_mem 28 (by decide +kernel))), va_AO.of (hts _ (tbl_mem 126 (by decide +kernel))), va_Nw.of rfl (hts _ (tbl_mem 86 (by decide +kernel))), va_Nw.of rfl (hts _ (tbl_mem 140 (by decide +kernel))), va_Nw.of rfl (hts _ (tbl_mem 512 (by decide +kernel)))⟩
  refine ⟨fun k => if k = 0 then t1 else if k = 1 then t2 else t3, adK, adV, fun D g0 g1 g2 => ?_⟩
  unfold Stt
  rw [g0, g1, g2]
  exact ⟨⟨z1, h1⟩, ⟨z2, h2⟩, ⟨z3, h3⟩, z4, z5, hS, r1, r2, n1⟩
theorem st_cy (hts : ∀ w ∈ lw_tbl, w.before #[Value.ref b] s = true) : ∃ cy : Nat → ClassId, ∀ (k : Nat) (q : ClassId × FieldType), (gty cy)[k]? = some q → ArrOfT s q.1 q.2 ∧ va_RA s q.1 q.2 := by
  obtain ⟨c0, k0, p0, a0, b0, d0⟩ := Cond.arrayClass_spec (hts _ (tbl_mem (w := .arrayClass .int) 82 (by decide +kernel)))
  obtain ⟨c1, k1, p1, a1, b1, d1⟩ := Cond.arrayClass_spec (hts _ (tbl_mem (w := .arrayClass .long) 83 (by decide +kernel)))
  obtain ⟨c2, k2, p2, a2, b2, d2⟩ := Cond.arrayClass_spec (hts _ (tbl_mem (w := .arrayClass .boolean) 874 (by decide +kernel)))
  obtain ⟨p3, c3, k3, f3, -, b3, d3, a3⟩ := Cond.arrayOver_spec (hts _ (tbl_mem (w := .arrayOver (.object RX1)) 126 (by decide +kernel)))
  obtain ⟨p4, c4, k4, f4, -, b4, d4, a4⟩ := Cond.arrayOver_spec (hts _ (tbl_mem (w := .arrayOver (.object RX2)) 28 (by decide +kernel)))
  refine ⟨fun k => if k = 0 then c0 else if k = 1 then c1 else if k = 2 then c2 else if k = 3 then c3 else c4, ?_⟩
  intro k q hq
  match k, hq with
  | 0, hq => cases hq; exact ⟨fun n z => ⟨fun k h => (by cases h), k0, b0, p0, d0⟩, a0⟩
  | 1, hq => cases hq; exact ⟨fun n z => ⟨fun k h => (by cases h), k1, b1, p1, d1⟩, a1⟩
  | 2, hq => cases hq; exact ⟨fun n z => ⟨fun k h => (by cases h), k2, b2, p2, d2⟩, a2⟩
  | 3, hq => cases hq; exact ⟨fun n z => ⟨fun k h => (by cases h), k3, b3, p3, d3⟩, k3, p3, b3, d3, f3, a3⟩
  | 4, hq => cases hq; exact ⟨fun n z => ⟨fun k h => (by cases h), k4, b4, p4, d4⟩, k4, p4, b4, d4, f4, a4⟩
  | n + 5, hq => simp [gty] at hq
end Start
-- ===== end of PART A; then your names; then what follows =====
/-! THE CLAIM OUT OF ONE WALK OF THE LAW'S BODY. Your part is whole_start (and what it stands on); all else here is the same for every law, but numbers. -/
def R_law : String := "MightHaveBeenPutUpLaw"
def lw_P (b : Addr) (xs : List Int32) (args : Array Value) (s : State) : Prop := args = #[.ref b] ∧ s.IntsAt b xs ∧ xs.length ≤ 3072 ∧ (Jvm.Cond.and given_1 narrow_1).before args s = true
def lw_Q (_ : Array Value) (s : State) (o : Outcome) (t : State) : Prop := o = .returned (some (.int 1)) ∧ Framed s o t [] 600000 7302250
def lw_Z (below : List Frame) (a : Array Value) (s : State) : State → Prop := fun t => ∃ o, t.status = .running ∧ Ended t below o ∧ lw_Q a s o t
/-- the law's own end, with 1 on the stack, nothing written that was there before, its room as the claim has it -/
theorem lw_ret {p : Program} {l : Launch} {e : Env} {s : State} {m : MethodId} {below : List Frame} {meth : Method} {c : Code} {b : Nat} (hx : p.tables.exec = Jvm.exec) (hb : c.code = code) (hr : meth.sig.returnType = ret) (hlocks : meth.locks = false) {pc : Nat} {H : Heap} {ls : Array Slot} (hdg : decode code pc = .ok (.ireturn, 1)) : W p l e room_1 s m #[Value.ref b] below meth c H [] 600000 7302250 (lw_Z below #[Value.ref b] s) (F0 m pc ls [.int 1]) := by
  intro T hT X
  obtain ⟨fs, hret, hrun, hended, hW, hframe⟩ := X.leave (v := some (.int 1)) (hlocks := hlocks) (fun h => by rw [hr] at h; cases h)
  have hmeth' : T.vm.method? m = some meth := X.method'
  refine ⟨T.setFrames fs, ?_, .returned (some (.int 1)), hrun, hended, rfl, ⟨_, rfl⟩, hW, hframe⟩
  jvm_step X.here [X.here.top, hx, hb, hdg, hmeth', hr, ret, narrow_b1]
  (try refine ⟨rfl, ?_⟩); (try refine ⟨rfl, ?_⟩)
  first | (intro acts; rw [hret _ acts rfl rfl rfl]) | rw [hret _ _ rfl rfl rfl]
  exact Steps.refl _
/-- what holds at the law's entry: the machine, the code, the tables' words (any of lw_tbl by 'hts w (by decide +kernel)'), the script of L ints xs at the cell b, what the Statement gives of the start (any of its parts by flat_of_before) -/
def lw_At (p : Program) (s : State) (m : MethodId) (meth : Method) (c : Code) (b L : Nat) (xs : Nat → Int32) : Prop :=
  p.tables.exec = Jvm.exec ∧ c.code = code ∧ meth.sig.returnType = ret ∧ c.maxLocals = 4 ∧ s.vm.findClass R_law = some m.cls ∧ (∀ w ∈ lw_tbl, w.before #[Value.ref b] s = true) ∧ va_X b L xs s s.heap ∧ b < s.heap.size ∧ meth.locks = false ∧ (Jvm.Cond.and given_1 narrow_1).before #[Value.ref b] s = true

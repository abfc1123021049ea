set_option maxHeartbeats 16000000 in
set_option maxRecDepth 100000 in
/-- THE LAW from its entry, for every relation that all steps keep and that holds at the start -/
theorem start_open {Rel : TX → XS → OS → Prop} (hp : PSall Rel) (h0 : ∀ ta ca ea : Nat, Rel [((ta, ca, ea), (3, t0c, t0e))] ξ0 md1) {p : Program} {e : Env} {s : State} {m : MethodId} {below : List Frame} {meth : Method} {c : Code} (l : Launch) {b L : Nat} {xs : Nat → Int32} (hL : L ≤ 3072) (C0 : lw_At p s m meth c b L xs) : W p l e room_1 s m #[Value.ref b] below meth c s.heap [] 0 0 (lw_Z below #[Value.ref b] s) (entryFrame m ([Value.ref b] : List Value).toArray 4) := by
  obtain ⟨hx, hb, hr, hml, hown, hts, hX, hbl, hlocks, hgv⟩ := id C0
  have hA : ∀ q : Nat, s.heap.size ≤ q → (fun q : Nat => s.heap.size ≤ q) q := fun _ h => h
  have hbA : ¬ (fun q : Nat => s.heap.size ≤ q) b := Nat.not_le.mpr hbl
  have hg : ∀ w ∈ gT, w.before #[Value.ref b] s = true := fun w hw => hts w (List.mem_filter.mp hw).1
  obtain ⟨f0, f1, f2, hSt⟩ := st_stat (A := fun q : Nat => s.heap.size ≤ q) hts hgv (fun a h => Nat.not_le.mpr h)
  obtain ⟨cy, hcy⟩ := st_cy hts
  obtain ⟨c0, i0, k0⟩ := u_known (C := RX0) (T := TX0) (N := 11) (n := 11) hg kw_X0 (hg _ kt_X0)
  obtain ⟨c1, i1, k1⟩ := u_known (C := RX1) (T := TX1) (N := 3) (n := 3) hg kw_X1 (hg _ kt_X1)
  obtain ⟨c2, i2, k2⟩ := u_known (C := RX2) (T := TX2) (N := 2) (n := 2) hg kw_X2 (hg _ kt_X2)
  obtain ⟨c3, i3, k3⟩ := u_known (C := RX4) (T := TX4) (N := 12) (n := 12) hg kw_X4 (hg _ kt_X4)
  obtain ⟨c4, i4, k4⟩ := u_known (C := RX5) (T := TX5) (N := 8) (n := 8) hg kw_X5 (hg _ kt_X5)
  obtain ⟨c5, i5, k5⟩ := u_known (C := RX6) (T := TX6) (N := 41) (n := 41) hg kw_X6 (hg _ kt_X6)
  obtain ⟨D, hD0, hKc⟩ : ∃ D : va_G, (D.2 100 = f0 ∧ D.2 101 = f1 ∧ D.2 102 = f2) ∧ ∀ (k : Nat) (q : vw_C), vwCl[k]? = some q → u_Kn s q.1 q.2.1 q.2.2 (D.1 k) (D.2 k) := by
    refine ⟨(fun k => if k = 0 then c0 else if k = 1 then c1 else if k = 2 then c2 else if k = 3 then c3 else if k = 4 then c4 else c5, fun k => if k = 100 then f0 else if k = 101 then f1 else if k = 102 then f2 else if k = 0 then i0 else if k = 1 then i1 else if k = 2 then i2 else if k = 3 then i3 else if k = 4 then i4 else i5), ⟨rfl, rfl, rfl⟩, ?_⟩
    intro k q hq
    match k, hq with
    | 0, hq => cases hq; exact k0
    | 1, hq => cases hq; exact k1
    | 2, hq => cases hq; exact k2
    | 3, hq => cases hq; exact k3
    | 4, hq => cases hq; exact k4
    | 5, hq => cases hq; exact k5
    | k + 6, hq => simp [vwCl] at hq
  have hK : va_K D vwCl (gty cy) s := ⟨hKc, hcy⟩
  have hStt := hSt D hD0.1 hD0.2.1 hD0.2.2
  rw [lg_entry_eq]
  have C : Cx ((p, l, e, room_1, s), (m, #[Value.ref b], below, meth, c), lw_Z below #[Value.ref b] s) cL_law RL 4 D (gty cy) (fun q : Nat => s.heap.size ≤ q) 100 600000 7302250 :=
    ⟨hx, hb, hml, hown, hg, hK, hA, (by decide : 100 ≤ 2048), (by decide : 40 * 100 ≤ 84000), rfl, rfl, hStt⟩
  have hend : ∀ (kc ks : Nat) (lv : List (Nat × Value)) (ws : va_W), kc ≤ 600000 → ks ≤ 7302250 → At ((p, l, e, room_1, s), (m, #[Value.ref b], below, meth, c), lw_Z below #[Value.ref b] s) D (fun q : Nat => s.heap.size ≤ q) 4 kc ks 1197 lv [] ws := by
    intro kc ks lv ws h1 h2
    refine r_iconst (v := 1) C (dall tdL_21 17 rfl) (by decide) ?_
    intro H locs ls hP hD hS hl
    refine va_forget (fun q hq => hS.2.2 q hq) ?_
    refine W.widen (k := 600000) (n := 7302250) h1 h2 ?_
    exact lw_ret hx hb hr hlocks (dall tdL_21 18 rfl)
  have key : At ((p, l, e, room_1, s), (m, #[Value.ref b], below, meth, c), lw_Z below #[Value.ref b] s) D (fun q : Nat => s.heap.size ≤ q) 4 0 0 0 [(0, .ref b)] [] [] := by
    refine r_new (ci := 4) (fs := [.null, .null, .null, .null, .null, .null, .int 0, .int 0]) C kw_X5 tyX5_ok kl_L_7 kt_X5 kn_X5 rfl (by decide) (by decide) (by decide) (dall tdL_0 0 rfl) (fun b5 => ?_)
    refine r_dup C (dall tdL_0 1 rfl) rfl ?_
    refine r_callI (b := b5) (as := []) (wr := []) C (zX5_init cy b5) mi_X5_init km_L_9 (by decide) (by decide) ⟨by decide, by decide⟩ [0] [] rfl rfl rfl rfl (by decide) rfl rfl (Nat.le_of_ble_eq_true rfl) (dall tdL_0 2 rfl) (fun v w hw => ?_)
    obtain ⟨rfl, q, qn, qt, qk, qr, qs, a, ta, ca, ea, rfl, rfl⟩ := hw
    refine r_stk (st' := [.ref (q 8)]) rfl ?_
    refine r_astore_n (lv' := [(1, .ref (q 8)), (0, .ref b)]) C (dall tdL_0 3 rfl) (by decide) rfl ?_
    refine r_new (ci := 5) (fs := [.int 0, .null, .null, .int 0, .int 0, .null, .int 0, .int 0, .int 0, .long 0, .null, .null, .int 0, .int 0, .int 0, .int 0, .int 0, .int 0, .int 0, .int 0, .int 0, .int 0, .int 0, .int 0, .long 0, .int 0, .int 0, .int 0, .null, .null, .null, .null, .int 0, .int 0, .int 0, .int 0, .long 0, .null, .null, .null, .null]) C kw_X6 tyX6_ok kl_L_10 kt_X6 kn_X6 rfl (by decide) (by decide) (by decide) (dall tdL_0 4 rfl) (fun b6 => ?_)
    refine r_dup C (dall tdL_0 5 rfl) rfl ?_
    have hlast : ([] ++ wX5 cy q qn qt qk qr qs a [((ta, ca, ea), (3, t0c, t0e))] ξ0 ++ [(b6, .inr (5, [.int 0, .null, .null, .int 0, .int 0, .null, .int 0, .int 0, .int 0, .long 0, .null, .null, .int 0, .int 0, .int 0, .int 0, .int 0, .int 0, .int 0, .int 0, .int 0, .int 0, .int 0, .int 0, .long 0, .int 0, .int 0, .int 0, .null, .null, .null, .null, .int 0, .int 0, .int 0, .int 0, .long 0, .null, .null, .null, .null]))] : va_W) = wX5 cy q qn qt qk qr qs a [((ta, ca, ea), (3, t0c, t0e))] ξ0 ++ [(b6, .inr (5, [.int 0, .null, .null, .int 0, .int 0, .null, .int 0, .int 0, .int 0, .long 0, .null, .null, .int 0, .int 0, .int 0, .int 0, .int 0, .int 0, .int 0, .int 0, .int 0, .int 0, .int 0, .int 0, .long 0, .int 0, .int 0, .int 0, .null, .null, .null, .null, .int 0, .int 0, .int 0, .int 0, .long 0, .null, .null, .null, .null]))] := rfl
    refine r_callI (b := b6) (as := []) (wr := wX5 cy q qn qt qk qr qs a [((ta, ca, ea), (3, t0c, t0e))] ξ0) C (zX6_init cy b6) mi_X6_init km_L_12 (by decide) (by decide) ⟨by decide, by decide⟩ [39] (List.range' 0 39) rfl rfl rfl rfl (by decide) rfl rfl (Nat.le_of_ble_eq_true rfl) (dall tdL_0 6 rfl) (fun v w hw => ?_)
    obtain ⟨rfl, q6, rfl, rfl⟩ := hw
    refine r_stk (st' := [.ref (q6 41)]) rfl ?_
    refine r_astore_n (lv' := [(2, .ref (q6 41)), (1, .ref (q 8)), (0, .ref b)]) C (dall tdL_0 7 rfl) (by decide) rfl ?_
    refine r_iconst (v := 0) C (dall tdL_0 8 rfl) (by decide) ?_
    refine r_istore_n (lv' := [(3, .int 0), (2, .ref (q6 41)), (1, .ref (q 8)), (0, .ref b)]) C (dall tdL_0 9 rfl) (by decide) rfl ?_
    refine r_pick (lv' := [(0, .ref b), (1, .ref (q 8)), (2, .ref (q6 41)), (3, .int (nI (6 * 0)))]) [3, 2, 1, 0] rfl ?_
    refine r_re (ws' := wX6 cy q6 md1 ++ wX5 cy q qn qt qk qr qs a [((ta, ca, ea), (3, t0c, t0e))] ξ0) (List.range' 39 14 ++ List.range' 0 39) rfl (by decide) ?_
    exact law_loop hp C hX hbl hbA hL hend (L + 1) 0 _ _ q qn qt qk qr qs a q6 _ _ _ (by omega) (by omega) (by decide) (by decide) (h0 ta ca ea)
  have hl := lv_entry ([.ref b]) (n := 4) (Nat.le_of_ble_eq_true rfl)
  exact key s.heap [] _ (fun k q h => by simp at h) ⟨fun i j p q h => by simp at h, fun k q h => by simp at h⟩ va_S.rf hl

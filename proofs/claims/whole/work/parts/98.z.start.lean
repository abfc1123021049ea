section
/-- the text that stands at the start: its bytes -/
def B0 (i : Nat) : Nat := ([104, 111, 108, 100, 115, 32, 102, 105, 114, 109, 32, 59, 32, 102, 97, 100, 101, 115, 32, 50, 32, 59, 32, 99, 111, 115, 116, 115, 32, 112, 97, 114, 116, 115, 32, 59, 32, 32, 32, 32] : List Nat).getD i 0
/-- a reader that holds them -/
def rd0 : OS := (fun k => if k = 0 then 40 else 0, fun _ => 0, fun k i => if k = 1 then nI (B0 i) else 0, fun _ _ => 0)
theorem B0_lt (i : Nat) : B0 i < 256 := by
  by_cases h : i < 40
  · have : ∀ i, i < 40 → B0 i < 256 := by decide +kernel
    exact this i h
  · unfold B0
    rw [List.getD_eq_getElem?_getD, List.getElem?_eq_none (by show 40 ≤ i; omega)]
    decide
theorem read0 : (fX0_read rd0).1 = -1 ∧ (fX0_read rd0).2.1 4 = nI 3 ∧ (∀ i, i < 3 → t0c i = (fX0_read rd0).2.2.2.1 2 i) ∧ ∀ j, j < 3 → t0e j = (fX0_read rd0).2.2.2.1 3 j := by decide +kernel
theorem md1_row : md1.2.2.1 2 0 = nI 40 ∧ ∀ i, i < 40 → md1.2.2.1 1 (160 * 0 + i) = nI (B0 i) := by decide +kernel
theorem md1_int : md1.1 12 = nI 0 ∧ md1.1 7 = nI 0 ∧ md1.1 8 = nI 0 ∧ md1.1 4 = nI 0 ∧ md1.1 3 = nI 1 ∧ md1.1 6 = 0 ∧ md1.1 32 = -1 ∧ md1.2.1 9 = 255 ∧ ∀ s, s < 4 → md1.2.2.1 37 s = 0 := by decide +kernel
theorem rel_start (ta ca ea : Nat) : Rel [((ta, ca, ea), (3, t0c, t0e))] ξ0 md1 := by
  obtain ⟨m1, m2, m3, m4, m5, m6, m7, m8, m9⟩ := md1_int
  refine ⟨⟨0, 0, by decide, by decide, ⟨rfl, m1⟩, ⟨rfl, m2⟩, ⟨0, by decide, rfl, m3⟩, ⟨0, by show 0 < 1; decide, rfl, m4⟩, ?_, fun p hp => absurd hp (by omega), fun p hp => absurd hp (by omega), ⟨⟨fun p q i hp => absurd hp (by omega), fun p i hp => absurd hp (by omega)⟩, fun p hp => absurd hp (by omega)⟩⟩, ⟨by show 1 ≤ 6; decide, m5, fun j hj => ?_⟩, rfl, TP.none rfl m6, Or.inl ⟨rfl, m7⟩, fun s hs => Or.inl ⟨rfl, m9 s hs⟩⟩
  · rw [m8]; rfl
  · obtain rfl : j = 0 := Nat.lt_one_iff.mp hj
    exact ⟨40, B0, rd0, by decide, B0_lt, ⟨rfl, fun i _ => rfl⟩, md1_row.1, md1_row.2, read0.1, by show 3 < 160; decide, read0.2⟩
theorem ps_all : PSall Rel := ⟨ps_set, ps_regret, ps_told, ps_wall, ps_feed, ps_text, ps_force, ps_raise, ps_fell, ps_room, ps_year, ps_run, ps_later, ps_walk, ps_round, ps_reach, ps_key, ps_add, ps_share, ps_tells, ps_film, ps_drawn, ps_chance, ps_image, ps_back, ps_count, ps_sheet, ps_cell, ps_copy, ps_bag, ps_taken⟩
theorem whole_start {p : Program} {e : Env} {s : State} {m : MethodId} {below : List Frame} {meth : Method} {c : Code} (l : Launch) {b L : Nat} {xs : Nat → Int32} (hL : L ≤ 3072) (C0 : lw_At p s m meth c b L xs) : W p l e room_1 s m #[Value.ref b] below meth c s.heap [] 0 0 (lw_Z below #[Value.ref b] s) (entryFrame m ([Value.ref b] : List Value).toArray 4) := start_open ps_all rel_start l hL C0
end

section LawL
variable {X : CX} {D : va_G} {A : Nat → Prop} {cy : Nat → ClassId} {b L : Nat} {xs : Nat → Int32}
/-- all steps of the simulation -/
def PSall (Rel : TX → XS → OS → Prop) : Prop := PS_set Rel ∧ PS_regret Rel ∧ PS_told Rel ∧ PS_wall Rel ∧ PS_feed Rel ∧ PS_text Rel ∧ PS_force Rel ∧ PS_raise Rel ∧ PS_fell Rel ∧ PS_room Rel ∧ PS_year Rel ∧ PS_run Rel ∧ PS_later Rel ∧ PS_walk Rel ∧ PS_round Rel ∧ PS_reach Rel ∧ PS_key Rel ∧ PS_add Rel ∧ PS_share Rel ∧ PS_tells Rel ∧ PS_film Rel ∧ PS_drawn Rel ∧ PS_chance Rel ∧ PS_image Rel ∧ PS_back Rel ∧ PS_count Rel ∧ PS_sheet Rel ∧ PS_cell Rel ∧ PS_copy Rel ∧ PS_bag Rel ∧ PS_taken Rel
theorem vin {L t : Nat} (hL : L ≤ 3072) (ht : 6 * t + 6 ≤ L) : ∀ j : Int32, j = 1 ∨ j = 2 ∨ j = 3 ∨ j = 4 ∨ j = 5 → vp_in (nI (6 * t) + j) L := by
  have g : ∀ n : Nat, n ≤ 5 → vp_in (nI (6 * t) + nI n) L := fun n hn => by rw [nI_add]; exact vp_in_nI (by omega) (by omega)
  intro j hj
  rcases hj with rfl | rfl | rfl | rfl | rfl
  · exact g 1 (by omega)
  · exact g 2 (by omega)
  · exact g 3 (by omega)
  · exact g 4 (by omega)
  · exact g 5 (by omega)
set_option maxHeartbeats 16000000 in
set_option maxRecDepth 100000 in
theorem law_loop {Rel : TX → XS → OS → Prop} (hp : PSall Rel) (C : Cx X cL_law RL 4 D (gty cy) A 100 600000 7302250) (hX : va_X b L xs X.1.2.2.2.2 X.1.2.2.2.2.heap) (hbl : b < X.1.2.2.2.2.heap.size) (hbA : ¬ A b) (hL : L ≤ 3072)
    (hend : ∀ (kc ks : Nat) (lv : List (Nat × Value)) (ws : va_W), kc ≤ 600000 → ks ≤ 7302250 → At X D A 4 kc ks 1197 lv [] ws) :
    ∀ (n t kc ks : Nat) (q qn qt qk qr : Nat → Nat) (qs : Nat → Nat → Nat) (a : Nat) (q6 : Nat → Nat) (τ : TX) (ξ : XS) (σ : OS), L + 6 ≤ 6 * t + 6 * n → 6 * t ≤ L + 6 → kc ≤ 100 + 3 * t → ks ≤ 5000 + 165 * t → Rel τ ξ σ →
      At X D A 4 kc ks 18 [(0, .ref b), (1, .ref (q 8)), (2, .ref (q6 41)), (3, .int (nI (6 * t)))] [] (wX6 cy q6 σ ++ wX5 cy q qn qt qk qr qs a τ ξ) := by
  intro n
  induction n with
  | zero =>
    intro t kc ks q qn qt qk qr qs a q6 τ ξ σ h1 h2 h3 h4 hr
    refine r_iload_n C 3 (dall tdL_0 10 rfl) rfl ?_
    refine r_aload_n C 0 (dall tdL_0 11 rfl) rfl ?_
    refine r_slen C hX hbl hbA (dall tdL_0 12 rfl) ?_
    refine r_bipush (v := 6) C (dall tdL_0 13 rfl) (by decide) ?_
    refine r_isub C (dall tdL_0 14 rfl) ?_
    refine r_icmp_gt (tgt := 1197) C (dall tdL_0 15 rfl) (by decide) (fun _ => hend _ _ _ _ (by omega) (by omega)) (fun c => absurd ?_ c)
    have e1 : (nI (6 * t)).toInt = 6 * t := by rw [nI_toInt (by omega)]; omega
    have e2 : (Int32.ofNat L - 6 : Int32).toInt = (L : Int) - 6 := pk_sub_toInt (a := L) (b := 6) (by omega) (by omega)
    rw [Int32.lt_iff_toInt_lt, e1, e2]
    omega
  | succ n ih =>
    intro t kc ks q qn qt qk qr qs a q6 τ ξ σ h1 h2 h3 h4 hr
    refine r_iload_n C 3 (dall tdL_0 10 rfl) rfl ?_
    refine r_aload_n C 0 (dall tdL_0 11 rfl) rfl ?_
    refine r_slen C hX hbl hbA (dall tdL_0 12 rfl) ?_
    refine r_bipush (v := 6) C (dall tdL_0 13 rfl) (by decide) ?_
    refine r_isub C (dall tdL_0 14 rfl) ?_
    refine r_icmp_gt (tgt := 1197) C (dall tdL_0 15 rfl) (by decide) (fun _ => hend _ _ _ _ (by omega) (by omega)) (fun c => ?_)
    have ht : 6 * t + 6 ≤ L := by
      have e1 : (nI (6 * t)).toInt = 6 * t := by rw [nI_toInt (by omega)]; omega
      have e2 : (Int32.ofNat L - 6 : Int32).toInt = (L : Int) - 6 := pk_sub_toInt (a := L) (b := 6) (by omega) (by omega)
      rw [Int32.lt_iff_toInt_lt, e1, e2] at c
      omega
    have hv := vin hL ht
    have hcap : kc + 3 ≤ 600000 ∧ ks + 165 ≤ 7302250 := ⟨by omega, by omega⟩
    have kk : ∀ (kc' ks' : Nat) (τ' : TX) (ξ' : XS) (σ' : OS), kc' ≤ kc + 3 → ks' ≤ ks + 165 → Rel τ' ξ' σ' → At X D A 4 kc' ks' 1191 [(0, .ref b), (1, .ref (q 8)), (2, .ref (q6 41)), (3, .int (nI (6 * t)))] [] (wX6 cy q6 σ' ++ wX5 cy q qn qt qk qr qs a τ' ξ') := by
      intro kc' ks' τ' ξ' σ' g1 g2 g3
      refine r_iinc (v := nI (6 * (t + 1))) (lv' := [(3, .int (nI (6 * (t + 1)))), (0, .ref b), (1, .ref (q 8)), (2, .ref (q6 41))]) C 3 (dall tdL_21 15 rfl) rfl (show nI (6 * t) + nI 6 = nI (6 * (t + 1)) by rw [nI_add]; rfl) (by decide) rfl ?_
      refine r_goto (tgt := 18) C (dall tdL_21 16 rfl) (by decide) ?_
      refine r_pick [1, 2, 3, 0] rfl ?_
      exact ih (t + 1) kc' ks' q qn qt qk qr qs a q6 τ' ξ' σ' (by omega) (by omega) (by omega) (by omega) g3
    refine r_aload_n C 0 (dall tdL_0 16 rfl) rfl ?_
    refine r_iload_n C 3 (dall tdL_0 17 rfl) rfl ?_
    refine r_sld C hX hbl hbA (vp_in_nI (by omega) (by omega)) (dall tdL_0 18 rfl) ?_
    refine r_bipush (v := 31) C (dall tdL_0 19 rfl) (by decide) ?_
    refine r_iand C (dall tdL_0 20 rfl) ?_
    generalize xs (nI (6 * t)).toNatClampNeg &&& 31 = z
    by_cases e0 : z = 0
    · refine r_tsIn (off := 139) (tgt := 172) C 0 (dall tdL_0 21 rfl) e0 (by decide) (by decide) (by decide) (by decide) ?_
      exact lc_set hp.1 C hX hbl hbA hv hcap hr kk
    by_cases e1 : z = 1
    · refine r_tsIn (off := 182) (tgt := 215) C 1 (dall tdL_0 21 rfl) e1 (by decide) (by decide) (by decide) (by decide) ?_
      exact lc_regret hp.2.1 C hX hbl hbA hv hcap hr kk
    by_cases e2 : z = 2
    · refine r_tsIn (off := 225) (tgt := 258) C 2 (dall tdL_0 21 rfl) e2 (by decide) (by decide) (by decide) (by decide) ?_
      exact lc_told hp.2.2.1 C hX hbl hbA hv hcap hr kk
    by_cases e3 : z = 3
    · refine r_tsIn (off := 258) (tgt := 291) C 3 (dall tdL_0 21 rfl) e3 (by decide) (by decide) (by decide) (by decide) ?_
      exact lc_wall hp.2.2.2.1 C hX hbl hbA hv hcap hr kk
    by_cases e4 : z = 4
    · refine r_tsIn (off := 282) (tgt := 315) C 4 (dall tdL_0 21 rfl) e4 (by decide) (by decide) (by decide) (by decide) ?_
      exact lc_feed hp.2.2.2.2.1 C hX hbl hbA hv hcap hr kk
    by_cases e5 : z = 5
    · refine r_tsIn (off := 305) (tgt := 338) C 5 (dall tdL_0 21 rfl) e5 (by decide) (by decide) (by decide) (by decide) ?_
      exact lc_text hp.2.2.2.2.2.1 C hX hbl hbA hv hcap hr kk
    by_cases e6 : z = 6
    · refine r_tsIn (off := 318) (tgt := 351) C 6 (dall tdL_0 21 rfl) e6 (by decide) (by decide) (by decide) (by decide) ?_
      exact lc_force hp.2.2.2.2.2.2.1 C hX hbl hbA hv hcap hr kk
    by_cases e7 : z = 7
    · refine r_tsIn (off := 341) (tgt := 374) C 7 (dall tdL_0 21 rfl) e7 (by decide) (by decide) (by decide) (by decide) ?_
      exact lc_raise hp.2.2.2.2.2.2.2.1 C hX hbl hbA hv hcap hr kk
    by_cases e8 : z = 8
    · refine r_tsIn (off := 384) (tgt := 417) C 8 (dall tdL_0 21 rfl) e8 (by decide) (by decide) (by decide) (by decide) ?_
      exact lc_fell hp.2.2.2.2.2.2.2.2.1 C hX hbl hbA hv hcap hr kk
    by_cases e9 : z = 9
    · refine r_tsIn (off := 407) (tgt := 440) C 9 (dall tdL_0 21 rfl) e9 (by decide) (by decide) (by decide) (by decide) ?_
      exact lc_room hp.2.2.2.2.2.2.2.2.2.1 C hX hbl hbA hv hcap hr kk
    by_cases e10 : z = 10
    · refine r_tsIn (off := 431) (tgt := 464) C 10 (dall tdL_0 21 rfl) e10 (by decide) (by decide) (by decide) (by decide) ?_
      exact lc_year hp.2.2.2.2.2.2.2.2.2.2.1 C hX hbl hbA hv hcap hr kk
    by_cases e11 : z = 11
    · refine r_tsIn (off := 444) (tgt := 477) C 11 (dall tdL_0 21 rfl) e11 (by decide) (by decide) (by decide) (by decide) ?_
      exact lc_run hp.2.2.2.2.2.2.2.2.2.2.2.1 C hX hbl hbA hv hcap hr kk
    by_cases e12 : z = 12
    · refine r_tsIn (off := 487) (tgt := 520) C 12 (dall tdL_0 21 rfl) e12 (by decide) (by decide) (by decide) (by decide) ?_
      exact lc_later hp.2.2.2.2.2.2.2.2.2.2.2.2.1 C hX hbl hbA hv hcap hr kk
    by_cases e13 : z = 13
    · refine r_tsIn (off := 511) (tgt := 544) C 13 (dall tdL_0 21 rfl) e13 (by decide) (by decide) (by decide) (by decide) ?_
      exact lc_walk hp.2.2.2.2.2.2.2.2.2.2.2.2.2.1 C hX hbl hbA hv hcap hr kk
    by_cases e14 : z = 14
    · refine r_tsIn (off := 544) (tgt := 577) C 14 (dall tdL_0 21 rfl) e14 (by decide) (by decide) (by decide) (by decide) ?_
      exact lc_round hp.2.2.2.2.2.2.2.2.2.2.2.2.2.2.1 C hX hbl hbA hv hcap hr kk
    by_cases e15 : z = 15
    · refine r_tsIn (off := 578) (tgt := 611) C 15 (dall tdL_0 21 rfl) e15 (by decide) (by decide) (by decide) (by decide) ?_
      exact lc_reach hp.2.2.2.2.2.2.2.2.2.2.2.2.2.2.2.1 C hX hbl hbA hv hcap hr kk
    by_cases e16 : z = 16
    · refine r_tsIn (off := 601) (tgt := 634) C 16 (dall tdL_0 21 rfl) e16 (by decide) (by decide) (by decide) (by decide) ?_
      exact lc_key hp.2.2.2.2.2.2.2.2.2.2.2.2.2.2.2.2.1 C hX hbl hbA hv hcap hr kk
    by_cases e17 : z = 17
    · refine r_tsIn (off := 624) (tgt := 657) C 17 (dall tdL_0 21 rfl) e17 (by decide) (by decide) (by decide) (by decide) ?_
      exact lc_add hp.2.2.2.2.2.2.2.2.2.2.2.2.2.2.2.2.2.1 C hX hbl hbA hv hcap hr kk
    by_cases e18 : z = 18
    · refine r_tsIn (off := 667) (tgt := 700) C 18 (dall tdL_0 21 rfl) e18 (by decide) (by decide) (by decide) (by decide) ?_
      exact lc_share hp.2.2.2.2.2.2.2.2.2.2.2.2.2.2.2.2.2.2.1 C hX hbl hbA hv hcap hr kk
    by_cases e19 : z = 19
    · refine r_tsIn (off := 701) (tgt := 734) C 19 (dall tdL_0 21 rfl) e19 (by decide) (by decide) (by decide) (by decide) ?_
      exact lc_tells hp.2.2.2.2.2.2.2.2.2.2.2.2.2.2.2.2.2.2.2.1 C hX hbl hbA hv hcap hr kk
    by_cases e20 : z = 20
    · refine r_tsIn (off := 744) (tgt := 777) C 20 (dall tdL_0 21 rfl) e20 (by decide) (by decide) (by decide) (by decide) ?_
      exact lc_film hp.2.2.2.2.2.2.2.2.2.2.2.2.2.2.2.2.2.2.2.2.1 C hX hbl hbA hv hcap hr kk
    by_cases e21 : z = 21
    · refine r_tsIn (off := 787) (tgt := 820) C 21 (dall tdL_0 21 rfl) e21 (by decide) (by decide) (by decide) (by decide) ?_
      exact lc_drawn hp.2.2.2.2.2.2.2.2.2.2.2.2.2.2.2.2.2.2.2.2.2.1 C hX hbl hbA hv hcap hr kk
    by_cases e22 : z = 22
    · refine r_tsIn (off := 820) (tgt := 853) C 22 (dall tdL_0 21 rfl) e22 (by decide) (by decide) (by decide) (by decide) ?_
      exact lc_chance hp.2.2.2.2.2.2.2.2.2.2.2.2.2.2.2.2.2.2.2.2.2.2.1 C hX hbl hbA hv hcap hr kk
    by_cases e23 : z = 23
    · refine r_tsIn (off := 874) (tgt := 907) C 23 (dall tdL_0 21 rfl) e23 (by decide) (by decide) (by decide) (by decide) ?_
      exact lc_image hp.2.2.2.2.2.2.2.2.2.2.2.2.2.2.2.2.2.2.2.2.2.2.2.1 C hX hbl hbA hv hcap hr kk
    by_cases e24 : z = 24
    · refine r_tsIn (off := 887) (tgt := 920) C 24 (dall tdL_0 21 rfl) e24 (by decide) (by decide) (by decide) (by decide) ?_
      exact lc_back hp.2.2.2.2.2.2.2.2.2.2.2.2.2.2.2.2.2.2.2.2.2.2.2.2.1 C hX hbl hbA hv hcap hr kk
    by_cases e25 : z = 25
    · refine r_tsIn (off := 900) (tgt := 933) C 25 (dall tdL_0 21 rfl) e25 (by decide) (by decide) (by decide) (by decide) ?_
      exact lc_count hp.2.2.2.2.2.2.2.2.2.2.2.2.2.2.2.2.2.2.2.2.2.2.2.2.2.1 C hX hbl hbA hv hcap hr kk
    by_cases e26 : z = 26
    · refine r_tsIn (off := 923) (tgt := 956) C 26 (dall tdL_0 21 rfl) e26 (by decide) (by decide) (by decide) (by decide) ?_
      exact lc_sheet hp.2.2.2.2.2.2.2.2.2.2.2.2.2.2.2.2.2.2.2.2.2.2.2.2.2.2.1 C hX hbl hbA hv hcap hr kk
    by_cases e27 : z = 27
    · refine r_tsIn (off := 966) (tgt := 999) C 27 (dall tdL_0 21 rfl) e27 (by decide) (by decide) (by decide) (by decide) ?_
      exact lc_cell hp.2.2.2.2.2.2.2.2.2.2.2.2.2.2.2.2.2.2.2.2.2.2.2.2.2.2.2.1 C hX hbl hbA hv hcap hr kk
    by_cases e28 : z = 28
    · refine r_tsIn (off := 1009) (tgt := 1042) C 28 (dall tdL_0 21 rfl) e28 (by decide) (by decide) (by decide) (by decide) ?_
      exact lc_copy hp.2.2.2.2.2.2.2.2.2.2.2.2.2.2.2.2.2.2.2.2.2.2.2.2.2.2.2.2.1 C hX hbl hbA hv hcap hr kk
    by_cases e29 : z = 29
    · refine r_tsIn (off := 1072) (tgt := 1105) C 29 (dall tdL_0 21 rfl) e29 (by decide) (by decide) (by decide) (by decide) ?_
      exact lc_bag hp.2.2.2.2.2.2.2.2.2.2.2.2.2.2.2.2.2.2.2.2.2.2.2.2.2.2.2.2.2.1 C hX hbl hbA hv hcap hr kk
    by_cases e30 : z = 30
    · refine r_tsIn (off := 1125) (tgt := 1158) C 30 (dall tdL_0 21 rfl) e30 (by decide) (by decide) (by decide) (by decide) ?_
      exact lc_taken hp.2.2.2.2.2.2.2.2.2.2.2.2.2.2.2.2.2.2.2.2.2.2.2.2.2.2.2.2.2.2 C hX hbl hbA hv hcap hr kk
    refine r_tsOut (tgt := 1191) C (dall tdL_0 21 rfl) (by have n0 := ne_toInt e0; rw [show (0 : Int32).toInt = 0 from by decide] at n0; have n1 := ne_toInt e1; rw [show (1 : Int32).toInt = 1 from by decide] at n1; have n2 := ne_toInt e2; rw [show (2 : Int32).toInt = 2 from by decide] at n2; have n3 := ne_toInt e3; rw [show (3 : Int32).toInt = 3 from by decide] at n3; have n4 := ne_toInt e4; rw [show (4 : Int32).toInt = 4 from by decide] at n4; have n5 := ne_toInt e5; rw [show (5 : Int32).toInt = 5 from by decide] at n5; have n6 := ne_toInt e6; rw [show (6 : Int32).toInt = 6 from by decide] at n6; have n7 := ne_toInt e7; rw [show (7 : Int32).toInt = 7 from by decide] at n7; have n8 := ne_toInt e8; rw [show (8 : Int32).toInt = 8 from by decide] at n8; have n9 := ne_toInt e9; rw [show (9 : Int32).toInt = 9 from by decide] at n9; have n10 := ne_toInt e10; rw [show (10 : Int32).toInt = 10 from by decide] at n10; have n11 := ne_toInt e11; rw [show (11 : Int32).toInt = 11 from by decide] at n11; have n12 := ne_toInt e12; rw [show (12 : Int32).toInt = 12 from by decide] at n12; have n13 := ne_toInt e13; rw [show (13 : Int32).toInt = 13 from by decide] at n13; have n14 := ne_toInt e14; rw [show (14 : Int32).toInt = 14 from by decide] at n14; have n15 := ne_toInt e15; rw [show (15 : Int32).toInt = 15 from by decide] at n15; have n16 := ne_toInt e16; rw [show (16 : Int32).toInt = 16 from by decide] at n16; have n17 := ne_toInt e17; rw [show (17 : Int32).toInt = 17 from by decide] at n17; have n18 := ne_toInt e18; rw [show (18 : Int32).toInt = 18 from by decide] at n18; have n19 := ne_toInt e19; rw [show (19 : Int32).toInt = 19 from by decide] at n19; have n20 := ne_toInt e20; rw [show (20 : Int32).toInt = 20 from by decide] at n20; have n21 := ne_toInt e21; rw [show (21 : Int32).toInt = 21 from by decide] at n21; have n22 := ne_toInt e22; rw [show (22 : Int32).toInt = 22 from by decide] at n22; have n23 := ne_toInt e23; rw [show (23 : Int32).toInt = 23 from by decide] at n23; have n24 := ne_toInt e24; rw [show (24 : Int32).toInt = 24 from by decide] at n24; have n25 := ne_toInt e25; rw [show (25 : Int32).toInt = 25 from by decide] at n25; have n26 := ne_toInt e26; rw [show (26 : Int32).toInt = 26 from by decide] at n26; have n27 := ne_toInt e27; rw [show (27 : Int32).toInt = 27 from by decide] at n27; have n28 := ne_toInt e28; rw [show (28 : Int32).toInt = 28 from by decide] at n28; have n29 := ne_toInt e29; rw [show (29 : Int32).toInt = 29 from by decide] at n29; have n30 := ne_toInt e30; rw [show (30 : Int32).toInt = 30 from by decide] at n30; omega) (by decide) ?_
    exact kk _ _ _ _ _ (by omega) (by omega) hr
end LawL

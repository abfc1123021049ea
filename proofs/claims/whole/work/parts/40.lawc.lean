section LawC
variable {X : CX} {D : va_G} {A : Nat → Prop} {kc ks : Nat} {cy : Nat → ClassId} {q qn qt qk qr : Nat → Nat} {qs : Nat → Nat → Nat} {a : Nat} {q6 : Nat → Nat} {b L : Nat} {xs : Nat → Int32} {i3 : Int32}
def PS_set (Rel : TX → XS → OS → Prop) : Prop := ∀ (τ : TX) (ξ : XS) (σ : OS) (x1_ : Int32) (x2_ : Int32) (x3_ : Int32), Rel τ ξ σ → gX5_set τ ξ x1_ x2_ x3_ ∧ gX6_set σ x1_ x2_ x3_ ∧ (fX5_set τ ξ x1_ x2_ x3_).1 = (fX6_set σ x1_ x2_ x3_).1 ∧ Rel τ (fX5_set τ ξ x1_ x2_ x3_).2 (fX6_set σ x1_ x2_ x3_).2
set_option maxHeartbeats 4000000 in
set_option maxRecDepth 100000 in
theorem lc_set {Rel : TX → XS → OS → Prop} (hp : PS_set Rel) (C : Cx X cL_law RL 4 D (gty cy) A 100 600000 7302250) (hX : va_X b L xs X.1.2.2.2.2 X.1.2.2.2.2.heap) (hbl : b < X.1.2.2.2.2.heap.size) (hbA : ¬ A b) (hv : ∀ j : Int32, j = 1 ∨ j = 2 ∨ j = 3 ∨ j = 4 ∨ j = 5 → vp_in (i3 + j) L) (hcap : kc + 3 ≤ 600000 ∧ ks + 165 ≤ 7302250) {τ : TX} {ξ : XS} {σ : OS} (hr : Rel τ ξ σ) (kk : ∀ (kc' ks' : Nat) (τ' : TX) (ξ' : XS) (σ' : OS), kc' ≤ kc + 3 → ks' ≤ ks + 165 → Rel τ' ξ' σ' → At X D A 4 kc' ks' 1191 [(0, .ref b), (1, .ref (q 8)), (2, .ref (q6 41)), (3, .int i3)] [] (wX6 cy q6 σ' ++ wX5 cy q qn qt qk qr qs a τ' ξ')) : At X D A 4 kc ks 172 [(0, .ref b), (1, .ref (q 8)), (2, .ref (q6 41)), (3, .int i3)] [] (wX6 cy q6 σ ++ wX5 cy q qn qt qk qr qs a τ ξ) := by
  obtain ⟨o5, o6, he, hr2⟩ := hp τ ξ σ (xs (i3 + 1).toNatClampNeg) (xs (i3 + 2).toNatClampNeg) (xs (i3 + 3).toNatClampNeg) hr
  refine r_aload_n C 1 (dall tdL_0 22 rfl) rfl ?_
  refine r_aload_n C 0 (dall tdL_0 23 rfl) rfl ?_
  refine r_iload_n C 3 (dall tdL_0 24 rfl) rfl ?_
  refine r_iconst (v := 1) C (dall tdL_0 25 rfl) (by decide) ?_
  refine r_iadd C (dall tdL_0 26 rfl) ?_
  refine r_sld C hX hbl hbA (hv 1 (by decide)) (dall tdL_0 27 rfl) ?_
  refine r_aload_n C 0 (dall tdL_0 28 rfl) rfl ?_
  refine r_iload_n C 3 (dall tdL_0 29 rfl) rfl ?_
  refine r_iconst (v := 2) C (dall tdL_0 30 rfl) (by decide) ?_
  refine r_iadd C (dall tdL_0 31 rfl) ?_
  refine r_sld C hX hbl hbA (hv 2 (by decide)) (dall tdL_0 32 rfl) ?_
  refine r_aload_n C 0 (dall tdL_0 33 rfl) rfl ?_
  refine r_iload_n C 3 (dall tdL_0 34 rfl) rfl ?_
  refine r_iconst (v := 3) C (dall tdL_0 35 rfl) (by decide) ?_
  refine r_iadd C (dall tdL_0 36 rfl) ?_
  refine r_sld C hX hbl hbA (hv 3 (by decide)) (dall tdL_0 37 rfl) ?_
  refine lx_I (as := [.int (xs (i3 + 1).toNatClampNeg), .int (xs (i3 + 2).toNatClampNeg), .int (xs (i3 + 3).toNatClampNeg)]) C (zX5_set cy q qn qt qk qr qs a τ ξ (xs (i3 + 1).toNatClampNeg) (xs (i3 + 2).toNatClampNeg) (xs (i3 + 3).toNatClampNeg) o5) mv_X5_set km_L_13 (by decide) (by decide) ⟨by omega, by omega⟩ rfl rfl (Nat.le_of_ble_eq_true rfl) (dall tdL_0 38 rfl) ?_
  refine r_aload_n C 2 (dall tdL_0 39 rfl) rfl ?_
  refine r_aload_n C 0 (dall tdL_1 0 rfl) rfl ?_
  refine r_iload_n C 3 (dall tdL_1 1 rfl) rfl ?_
  refine r_iconst (v := 1) C (dall tdL_1 2 rfl) (by decide) ?_
  refine r_iadd C (dall tdL_1 3 rfl) ?_
  refine r_sld C hX hbl hbA (hv 1 (by decide)) (dall tdL_1 4 rfl) ?_
  refine r_aload_n C 0 (dall tdL_1 5 rfl) rfl ?_
  refine r_iload_n C 3 (dall tdL_1 6 rfl) rfl ?_
  refine r_iconst (v := 2) C (dall tdL_1 7 rfl) (by decide) ?_
  refine r_iadd C (dall tdL_1 8 rfl) ?_
  refine r_sld C hX hbl hbA (hv 2 (by decide)) (dall tdL_1 9 rfl) ?_
  refine r_aload_n C 0 (dall tdL_1 10 rfl) rfl ?_
  refine r_iload_n C 3 (dall tdL_1 11 rfl) rfl ?_
  refine r_iconst (v := 3) C (dall tdL_1 12 rfl) (by decide) ?_
  refine r_iadd C (dall tdL_1 13 rfl) ?_
  refine r_sld C hX hbl hbA (hv 3 (by decide)) (dall tdL_1 14 rfl) ?_
  refine lm_I (as := [.int (xs (i3 + 1).toNatClampNeg), .int (xs (i3 + 2).toNatClampNeg), .int (xs (i3 + 3).toNatClampNeg)]) C (zX6_set cy q6 σ (xs (i3 + 1).toNatClampNeg) (xs (i3 + 2).toNatClampNeg) (xs (i3 + 3).toNatClampNeg) o6) mv_X6_set km_L_17 (by decide) (by decide) ⟨by omega, by omega⟩ rfl rfl (Nat.le_of_ble_eq_true rfl) (dall tdL_1 15 rfl) ?_
  refine r_icmp_eq (tgt := 1191) C (dall tdL_1 16 rfl) (by decide) (fun _ => ?_) (fun hne => absurd he hne)
  exact kk _ _ _ _ _ (by omega) (by omega) hr2
def PS_regret (Rel : TX → XS → OS → Prop) : Prop := ∀ (τ : TX) (ξ : XS) (σ : OS) (x1_ : Int32) (x2_ : Int32) (x3_ : Int32), Rel τ ξ σ → gX5_regret τ ξ x1_ x2_ x3_ ∧ gX6_regret σ x1_ x2_ x3_ ∧ (fX5_regret τ ξ x1_ x2_ x3_).1 = (fX6_regret σ x1_ x2_ x3_).1 ∧ Rel τ (fX5_regret τ ξ x1_ x2_ x3_).2 (fX6_regret σ x1_ x2_ x3_).2
set_option maxHeartbeats 4000000 in
set_option maxRecDepth 100000 in
theorem lc_regret {Rel : TX → XS → OS → Prop} (hp : PS_regret Rel) (C : Cx X cL_law RL 4 D (gty cy) A 100 600000 7302250) (hX : va_X b L xs X.1.2.2.2.2 X.1.2.2.2.2.heap) (hbl : b < X.1.2.2.2.2.heap.size) (hbA : ¬ A b) (hv : ∀ j : Int32, j = 1 ∨ j = 2 ∨ j = 3 ∨ j = 4 ∨ j = 5 → vp_in (i3 + j) L) (hcap : kc + 3 ≤ 600000 ∧ ks + 165 ≤ 7302250) {τ : TX} {ξ : XS} {σ : OS} (hr : Rel τ ξ σ) (kk : ∀ (kc' ks' : Nat) (τ' : TX) (ξ' : XS) (σ' : OS), kc' ≤ kc + 3 → ks' ≤ ks + 165 → Rel τ' ξ' σ' → At X D A 4 kc' ks' 1191 [(0, .ref b), (1, .ref (q 8)), (2, .ref (q6 41)), (3, .int i3)] [] (wX6 cy q6 σ' ++ wX5 cy q qn qt qk qr qs a τ' ξ')) : At X D A 4 kc ks 215 [(0, .ref b), (1, .ref (q 8)), (2, .ref (q6 41)), (3, .int i3)] [] (wX6 cy q6 σ ++ wX5 cy q qn qt qk qr qs a τ ξ) := by
  obtain ⟨o5, o6, he, hr2⟩ := hp τ ξ σ (xs (i3 + 1).toNatClampNeg) (xs (i3 + 2).toNatClampNeg) (xs (i3 + 3).toNatClampNeg) hr
  refine r_aload_n C 1 (dall tdL_1 19 rfl) rfl ?_
  refine r_aload_n C 0 (dall tdL_1 20 rfl) rfl ?_
  refine r_iload_n C 3 (dall tdL_1 21 rfl) rfl ?_
  refine r_iconst (v := 1) C (dall tdL_1 22 rfl) (by decide) ?_
  refine r_iadd C (dall tdL_1 23 rfl) ?_
  refine r_sld C hX hbl hbA (hv 1 (by decide)) (dall tdL_1 24 rfl) ?_
  refine r_aload_n C 0 (dall tdL_1 25 rfl) rfl ?_
  refine r_iload_n C 3 (dall tdL_1 26 rfl) rfl ?_
  refine r_iconst (v := 2) C (dall tdL_1 27 rfl) (by decide) ?_
  refine r_iadd C (dall tdL_1 28 rfl) ?_
  refine r_sld C hX hbl hbA (hv 2 (by decide)) (dall tdL_1 29 rfl) ?_
  refine r_aload_n C 0 (dall tdL_1 30 rfl) rfl ?_
  refine r_iload_n C 3 (dall tdL_1 31 rfl) rfl ?_
  refine r_iconst (v := 3) C (dall tdL_1 32 rfl) (by decide) ?_
  refine r_iadd C (dall tdL_1 33 rfl) ?_
  refine r_sld C hX hbl hbA (hv 3 (by decide)) (dall tdL_1 34 rfl) ?_
  refine lx_I (as := [.int (xs (i3 + 1).toNatClampNeg), .int (xs (i3 + 2).toNatClampNeg), .int (xs (i3 + 3).toNatClampNeg)]) C (zX5_regret cy q qn qt qk qr qs a τ ξ (xs (i3 + 1).toNatClampNeg) (xs (i3 + 2).toNatClampNeg) (xs (i3 + 3).toNatClampNeg) o5) mv_X5_regret km_L_18 (by decide) (by decide) ⟨by omega, by omega⟩ rfl rfl (Nat.le_of_ble_eq_true rfl) (dall tdL_1 35 rfl) ?_
  refine r_aload_n C 2 (dall tdL_1 36 rfl) rfl ?_
  refine r_aload_n C 0 (dall tdL_1 37 rfl) rfl ?_
  refine r_iload_n C 3 (dall tdL_1 38 rfl) rfl ?_
  refine r_iconst (v := 1) C (dall tdL_1 39 rfl) (by decide) ?_
  refine r_iadd C (dall tdL_2 0 rfl) ?_
  refine r_sld C hX hbl hbA (hv 1 (by decide)) (dall tdL_2 1 rfl) ?_
  refine r_aload_n C 0 (dall tdL_2 2 rfl) rfl ?_
  refine r_iload_n C 3 (dall tdL_2 3 rfl) rfl ?_
  refine r_iconst (v := 2) C (dall tdL_2 4 rfl) (by decide) ?_
  refine r_iadd C (dall tdL_2 5 rfl) ?_
  refine r_sld C hX hbl hbA (hv 2 (by decide)) (dall tdL_2 6 rfl) ?_
  refine r_aload_n C 0 (dall tdL_2 7 rfl) rfl ?_
  refine r_iload_n C 3 (dall tdL_2 8 rfl) rfl ?_
  refine r_iconst (v := 3) C (dall tdL_2 9 rfl) (by decide) ?_
  refine r_iadd C (dall tdL_2 10 rfl) ?_
  refine r_sld C hX hbl hbA (hv 3 (by decide)) (dall tdL_2 11 rfl) ?_
  refine lm_I (as := [.int (xs (i3 + 1).toNatClampNeg), .int (xs (i3 + 2).toNatClampNeg), .int (xs (i3 + 3).toNatClampNeg)]) C (zX6_regret cy q6 σ (xs (i3 + 1).toNatClampNeg) (xs (i3 + 2).toNatClampNeg) (xs (i3 + 3).toNatClampNeg) o6) mv_X6_regret km_L_21 (by decide) (by decide) ⟨by omega, by omega⟩ rfl rfl (Nat.le_of_ble_eq_true rfl) (dall tdL_2 12 rfl) ?_
  refine r_icmp_eq (tgt := 1191) C (dall tdL_2 13 rfl) (by decide) (fun _ => ?_) (fun hne => absurd he hne)
  exact kk _ _ _ _ _ (by omega) (by omega) hr2
def PS_told (Rel : TX → XS → OS → Prop) : Prop := ∀ (τ : TX) (ξ : XS) (σ : OS) (x1_ : Int32) (x2_ : Int32), Rel τ ξ σ → gX5_told τ ξ x1_ x2_ ∧ gX6_told σ x1_ x2_ ∧ (fX5_told τ ξ x1_ x2_).1 = (fX6_told σ x1_ x2_).1 ∧ Rel τ (fX5_told τ ξ x1_ x2_).2 (fX6_told σ x1_ x2_).2
set_option maxHeartbeats 4000000 in
set_option maxRecDepth 100000 in
theorem lc_told {Rel : TX → XS → OS → Prop} (hp : PS_told Rel) (C : Cx X cL_law RL 4 D (gty cy) A 100 600000 7302250) (hX : va_X b L xs X.1.2.2.2.2 X.1.2.2.2.2.heap) (hbl : b < X.1.2.2.2.2.heap.size) (hbA : ¬ A b) (hv : ∀ j : Int32, j = 1 ∨ j = 2 ∨ j = 3 ∨ j = 4 ∨ j = 5 → vp_in (i3 + j) L) (hcap : kc + 3 ≤ 600000 ∧ ks + 165 ≤ 7302250) {τ : TX} {ξ : XS} {σ : OS} (hr : Rel τ ξ σ) (kk : ∀ (kc' ks' : Nat) (τ' : TX) (ξ' : XS) (σ' : OS), kc' ≤ kc + 3 → ks' ≤ ks + 165 → Rel τ' ξ' σ' → At X D A 4 kc' ks' 1191 [(0, .ref b), (1, .ref (q 8)), (2, .ref (q6 41)), (3, .int i3)] [] (wX6 cy q6 σ' ++ wX5 cy q qn qt qk qr qs a τ' ξ')) : At X D A 4 kc ks 258 [(0, .ref b), (1, .ref (q 8)), (2, .ref (q6 41)), (3, .int i3)] [] (wX6 cy q6 σ ++ wX5 cy q qn qt qk qr qs a τ ξ) := by
  obtain ⟨o5, o6, he, hr2⟩ := hp τ ξ σ (xs (i3 + 1).toNatClampNeg) (xs (i3 + 2).toNatClampNeg) hr
  refine r_aload_n C 1 (dall tdL_2 16 rfl) rfl ?_
  refine r_aload_n C 0 (dall tdL_2 17 rfl) rfl ?_
  refine r_iload_n C 3 (dall tdL_2 18 rfl) rfl ?_
  refine r_iconst (v := 1) C (dall tdL_2 19 rfl) (by decide) ?_
  refine r_iadd C (dall tdL_2 20 rfl) ?_
  refine r_sld C hX hbl hbA (hv 1 (by decide)) (dall tdL_2 21 rfl) ?_
  refine r_aload_n C 0 (dall tdL_2 22 rfl) rfl ?_
  refine r_iload_n C 3 (dall tdL_2 23 rfl) rfl ?_
  refine r_iconst (v := 2) C (dall tdL_2 24 rfl) (by decide) ?_
  refine r_iadd C (dall tdL_2 25 rfl) ?_
  refine r_sld C hX hbl hbA (hv 2 (by decide)) (dall tdL_2 26 rfl) ?_
  refine lx_I (as := [.int (xs (i3 + 1).toNatClampNeg), .int (xs (i3 + 2).toNatClampNeg)]) C (zX5_told cy q qn qt qk qr qs a τ ξ (xs (i3 + 1).toNatClampNeg) (xs (i3 + 2).toNatClampNeg) o5) mv_X5_told km_L_22 (by decide) (by decide) ⟨by omega, by omega⟩ rfl rfl (Nat.le_of_ble_eq_true rfl) (dall tdL_2 27 rfl) ?_
  refine r_aload_n C 2 (dall tdL_2 28 rfl) rfl ?_
  refine r_aload_n C 0 (dall tdL_2 29 rfl) rfl ?_
  refine r_iload_n C 3 (dall tdL_2 30 rfl) rfl ?_
  refine r_iconst (v := 1) C (dall tdL_2 31 rfl) (by decide) ?_
  refine r_iadd C (dall tdL_2 32 rfl) ?_
  refine r_sld C hX hbl hbA (hv 1 (by decide)) (dall tdL_2 33 rfl) ?_
  refine r_aload_n C 0 (dall tdL_2 34 rfl) rfl ?_
  refine r_iload_n C 3 (dall tdL_2 35 rfl) rfl ?_
  refine r_iconst (v := 2) C (dall tdL_2 36 rfl) (by decide) ?_
  refine r_iadd C (dall tdL_2 37 rfl) ?_
  refine r_sld C hX hbl hbA (hv 2 (by decide)) (dall tdL_2 38 rfl) ?_
  refine lm_I (as := [.int (xs (i3 + 1).toNatClampNeg), .int (xs (i3 + 2).toNatClampNeg)]) C (zX6_told cy q6 σ (xs (i3 + 1).toNatClampNeg) (xs (i3 + 2).toNatClampNeg) o6) mv_X6_told km_L_26 (by decide) (by decide) ⟨by omega, by omega⟩ rfl rfl (Nat.le_of_ble_eq_true rfl) (dall tdL_2 39 rfl) ?_
  refine r_icmp_eq (tgt := 1191) C (dall tdL_3 0 rfl) (by decide) (fun _ => ?_) (fun hne => absurd he hne)
  exact kk _ _ _ _ _ (by omega) (by omega) hr2
def PS_wall (Rel : TX → XS → OS → Prop) : Prop := ∀ (τ : TX) (ξ : XS) (σ : OS) (x1_ : Int32), Rel τ ξ σ → gX5_wall τ ξ x1_ ∧ gX6_wall σ x1_ ∧ (fX5_wall τ ξ x1_) = (fX6_wall σ x1_) ∧ Rel τ ξ σ
set_option maxHeartbeats 4000000 in
set_option maxRecDepth 100000 in
theorem lc_wall {Rel : TX → XS → OS → Prop} (hp : PS_wall Rel) (C : Cx X cL_law RL 4 D (gty cy) A 100 600000 7302250) (hX : va_X b L xs X.1.2.2.2.2 X.1.2.2.2.2.heap) (hbl : b < X.1.2.2.2.2.heap.size) (hbA : ¬ A b) (hv : ∀ j : Int32, j = 1 ∨ j = 2 ∨ j = 3 ∨ j = 4 ∨ j = 5 → vp_in (i3 + j) L) (hcap : kc + 3 ≤ 600000 ∧ ks + 165 ≤ 7302250) {τ : TX} {ξ : XS} {σ : OS} (hr : Rel τ ξ σ) (kk : ∀ (kc' ks' : Nat) (τ' : TX) (ξ' : XS) (σ' : OS), kc' ≤ kc + 3 → ks' ≤ ks + 165 → Rel τ' ξ' σ' → At X D A 4 kc' ks' 1191 [(0, .ref b), (1, .ref (q 8)), (2, .ref (q6 41)), (3, .int i3)] [] (wX6 cy q6 σ' ++ wX5 cy q qn qt qk qr qs a τ' ξ')) : At X D A 4 kc ks 291 [(0, .ref b), (1, .ref (q 8)), (2, .ref (q6 41)), (3, .int i3)] [] (wX6 cy q6 σ ++ wX5 cy q qn qt qk qr qs a τ ξ) := by
  obtain ⟨o5, o6, he, hr2⟩ := hp τ ξ σ (xs (i3 + 1).toNatClampNeg) hr
  refine r_aload_n C 1 (dall tdL_3 3 rfl) rfl ?_
  refine r_aload_n C 0 (dall tdL_3 4 rfl) rfl ?_
  refine r_iload_n C 3 (dall tdL_3 5 rfl) rfl ?_
  refine r_iconst (v := 1) C (dall tdL_3 6 rfl) (by decide) ?_
  refine r_iadd C (dall tdL_3 7 rfl) ?_
  refine r_sld C hX hbl hbA (hv 1 (by decide)) (dall tdL_3 8 rfl) ?_
  refine lx_L (as := [.int (xs (i3 + 1).toNatClampNeg)]) C (zX5_wall cy q qn qt qk qr qs a τ ξ (xs (i3 + 1).toNatClampNeg) o5) mv_X5_wall km_L_27 (by decide) (by decide) ⟨by omega, by omega⟩ rfl rfl (Nat.le_of_ble_eq_true rfl) (dall tdL_3 9 rfl) ?_
  refine r_aload_n C 2 (dall tdL_3 10 rfl) rfl ?_
  refine r_aload_n C 0 (dall tdL_3 11 rfl) rfl ?_
  refine r_iload_n C 3 (dall tdL_3 12 rfl) rfl ?_
  refine r_iconst (v := 1) C (dall tdL_3 13 rfl) (by decide) ?_
  refine r_iadd C (dall tdL_3 14 rfl) ?_
  refine r_sld C hX hbl hbA (hv 1 (by decide)) (dall tdL_3 15 rfl) ?_
  refine lm_L (as := [.int (xs (i3 + 1).toNatClampNeg)]) C (zX6_wall cy q6 σ (xs (i3 + 1).toNatClampNeg) o6) mv_X6_wall km_L_31 (by decide) (by decide) ⟨by omega, by omega⟩ rfl rfl (Nat.le_of_ble_eq_true rfl) (dall tdL_3 16 rfl) ?_
  refine r_lif_eq (tgt := 1191) C (dall tdL_3 17 rfl) (dall tdL_3 18 rfl) (by decide) (fun _ => ?_) (fun hne => absurd he hne)
  exact kk _ _ _ _ _ (by omega) (by omega) hr2
def PS_feed (Rel : TX → XS → OS → Prop) : Prop := ∀ (τ : TX) (ξ : XS) (σ : OS) (x1_ : Int32), Rel τ ξ σ → gX5_feed τ ξ x1_ ∧ gX6_feed σ x1_ ∧ (fX5_feed τ ξ x1_).1 = (fX6_feed σ x1_).1 ∧ Rel τ (fX5_feed τ ξ x1_).2 (fX6_feed σ x1_).2
set_option maxHeartbeats 4000000 in
set_option maxRecDepth 100000 in
theorem lc_feed {Rel : TX → XS → OS → Prop} (hp : PS_feed Rel) (C : Cx X cL_law RL 4 D (gty cy) A 100 600000 7302250) (hX : va_X b L xs X.1.2.2.2.2 X.1.2.2.2.2.heap) (hbl : b < X.1.2.2.2.2.heap.size) (hbA : ¬ A b) (hv : ∀ j : Int32, j = 1 ∨ j = 2 ∨ j = 3 ∨ j = 4 ∨ j = 5 → vp_in (i3 + j) L) (hcap : kc + 3 ≤ 600000 ∧ ks + 165 ≤ 7302250) {τ : TX} {ξ : XS} {σ : OS} (hr : Rel τ ξ σ) (kk : ∀ (kc' ks' : Nat) (τ' : TX) (ξ' : XS) (σ' : OS), kc' ≤ kc + 3 → ks' ≤ ks + 165 → Rel τ' ξ' σ' → At X D A 4 kc' ks' 1191 [(0, .ref b), (1, .ref (q 8)), (2, .ref (q6 41)), (3, .int i3)] [] (wX6 cy q6 σ' ++ wX5 cy q qn qt qk qr qs a τ' ξ')) : At X D A 4 kc ks 315 [(0, .ref b), (1, .ref (q 8)), (2, .ref (q6 41)), (3, .int i3)] [] (wX6 cy q6 σ ++ wX5 cy q qn qt qk qr qs a τ ξ) := by
  obtain ⟨o5, o6, he, hr2⟩ := hp τ ξ σ (xs (i3 + 1).toNatClampNeg) hr
  refine r_aload_n C 1 (dall tdL_3 21 rfl) rfl ?_
  refine r_aload_n C 0 (dall tdL_3 22 rfl) rfl ?_
  refine r_iload_n C 3 (dall tdL_3 23 rfl) rfl ?_
  refine r_iconst (v := 1) C (dall tdL_3 24 rfl) (by decide) ?_
  refine r_iadd C (dall tdL_3 25 rfl) ?_
  refine r_sld C hX hbl hbA (hv 1 (by decide)) (dall tdL_3 26 rfl) ?_
  refine lx_I (as := [.int (xs (i3 + 1).toNatClampNeg)]) C (zX5_feed cy q qn qt qk qr qs a τ ξ (xs (i3 + 1).toNatClampNeg) o5) mv_X5_feed km_L_32 (by decide) (by decide) ⟨by omega, by omega⟩ rfl rfl (Nat.le_of_ble_eq_true rfl) (dall tdL_3 27 rfl) ?_
  refine r_aload_n C 2 (dall tdL_3 28 rfl) rfl ?_
  refine r_aload_n C 0 (dall tdL_3 29 rfl) rfl ?_
  refine r_iload_n C 3 (dall tdL_3 30 rfl) rfl ?_
  refine r_iconst (v := 1) C (dall tdL_3 31 rfl) (by decide) ?_
  refine r_iadd C (dall tdL_3 32 rfl) ?_
  refine r_sld C hX hbl hbA (hv 1 (by decide)) (dall tdL_3 33 rfl) ?_
  refine lm_I (as := [.int (xs (i3 + 1).toNatClampNeg)]) C (zX6_feed cy q6 σ (xs (i3 + 1).toNatClampNeg) o6) mv_X6_feed km_L_36 (by decide) (by decide) ⟨by omega, by omega⟩ rfl rfl (Nat.le_of_ble_eq_true rfl) (dall tdL_3 34 rfl) ?_
  refine r_icmp_eq (tgt := 1191) C (dall tdL_3 35 rfl) (by decide) (fun _ => ?_) (fun hne => absurd he hne)
  exact kk _ _ _ _ _ (by omega) (by omega) hr2
def PS_text (Rel : TX → XS → OS → Prop) : Prop := ∀ (τ : TX) (ξ : XS) (σ : OS), Rel τ ξ σ → gX5_text τ ξ ∧ gX6_text σ ∧ (fX5_text ξ).1 = (fX6_text σ).1 ∧ ∀ ta ca ea : Nat, Rel (tX5_text τ ξ ta ca ea) (fX5_text ξ).2.1 (fX6_text σ).2
set_option maxHeartbeats 4000000 in
set_option maxRecDepth 100000 in
theorem lc_text {Rel : TX → XS → OS → Prop} (hp : PS_text Rel) (C : Cx X cL_law RL 4 D (gty cy) A 100 600000 7302250) (hX : va_X b L xs X.1.2.2.2.2 X.1.2.2.2.2.heap) (hbl : b < X.1.2.2.2.2.heap.size) (hbA : ¬ A b) (hv : ∀ j : Int32, j = 1 ∨ j = 2 ∨ j = 3 ∨ j = 4 ∨ j = 5 → vp_in (i3 + j) L) (hcap : kc + 3 ≤ 600000 ∧ ks + 165 ≤ 7302250) {τ : TX} {ξ : XS} {σ : OS} (hr : Rel τ ξ σ) (kk : ∀ (kc' ks' : Nat) (τ' : TX) (ξ' : XS) (σ' : OS), kc' ≤ kc + 3 → ks' ≤ ks + 165 → Rel τ' ξ' σ' → At X D A 4 kc' ks' 1191 [(0, .ref b), (1, .ref (q 8)), (2, .ref (q6 41)), (3, .int i3)] [] (wX6 cy q6 σ' ++ wX5 cy q qn qt qk qr qs a τ' ξ')) : At X D A 4 kc ks 338 [(0, .ref b), (1, .ref (q 8)), (2, .ref (q6 41)), (3, .int i3)] [] (wX6 cy q6 σ ++ wX5 cy q qn qt qk qr qs a τ ξ) := by
  obtain ⟨o5, o6, he, hr2⟩ := hp τ ξ σ hr
  refine r_aload_n C 1 (dall tdL_3 38 rfl) rfl ?_
  refine lx_text C o5 km_L_37 (by decide) hcap rfl (Nat.le_of_ble_eq_true rfl) (dall tdL_3 39 rfl) (fun ta ca ea => ?_)
  refine r_aload_n C 2 (dall tdL_4 0 rfl) rfl ?_
  refine lm_I (as := []) C (zX6_text cy q6 σ  o6) mv_X6_text km_L_41 (by decide) (by decide) ⟨by omega, by omega⟩ rfl rfl (Nat.le_of_ble_eq_true rfl) (dall tdL_4 1 rfl) ?_
  refine r_icmp_eq (tgt := 1191) C (dall tdL_4 2 rfl) (by decide) (fun _ => ?_) (fun hne => absurd he hne)
  exact kk _ _ _ _ _ (Nat.le_refl _) (Nat.le_refl _) (hr2 ta ca ea)
def PS_force (Rel : TX → XS → OS → Prop) : Prop := ∀ (τ : TX) (ξ : XS) (σ : OS) (x1_ : Int32), Rel τ ξ σ → True ∧ True ∧ (fX5_force τ ξ x1_).1 = (fX6_force σ x1_).1 ∧ Rel τ (fX5_force τ ξ x1_).2 (fX6_force σ x1_).2
set_option maxHeartbeats 4000000 in
set_option maxRecDepth 100000 in
theorem lc_force {Rel : TX → XS → OS → Prop} (hp : PS_force Rel) (C : Cx X cL_law RL 4 D (gty cy) A 100 600000 7302250) (hX : va_X b L xs X.1.2.2.2.2 X.1.2.2.2.2.heap) (hbl : b < X.1.2.2.2.2.heap.size) (hbA : ¬ A b) (hv : ∀ j : Int32, j = 1 ∨ j = 2 ∨ j = 3 ∨ j = 4 ∨ j = 5 → vp_in (i3 + j) L) (hcap : kc + 3 ≤ 600000 ∧ ks + 165 ≤ 7302250) {τ : TX} {ξ : XS} {σ : OS} (hr : Rel τ ξ σ) (kk : ∀ (kc' ks' : Nat) (τ' : TX) (ξ' : XS) (σ' : OS), kc' ≤ kc + 3 → ks' ≤ ks + 165 → Rel τ' ξ' σ' → At X D A 4 kc' ks' 1191 [(0, .ref b), (1, .ref (q 8)), (2, .ref (q6 41)), (3, .int i3)] [] (wX6 cy q6 σ' ++ wX5 cy q qn qt qk qr qs a τ' ξ')) : At X D A 4 kc ks 351 [(0, .ref b), (1, .ref (q 8)), (2, .ref (q6 41)), (3, .int i3)] [] (wX6 cy q6 σ ++ wX5 cy q qn qt qk qr qs a τ ξ) := by
  obtain ⟨o5, o6, he, hr2⟩ := hp τ ξ σ (xs (i3 + 1).toNatClampNeg) hr
  refine r_aload_n C 1 (dall tdL_4 5 rfl) rfl ?_
  refine r_aload_n C 0 (dall tdL_4 6 rfl) rfl ?_
  refine r_iload_n C 3 (dall tdL_4 7 rfl) rfl ?_
  refine r_iconst (v := 1) C (dall tdL_4 8 rfl) (by decide) ?_
  refine r_iadd C (dall tdL_4 9 rfl) ?_
  refine r_sld C hX hbl hbA (hv 1 (by decide)) (dall tdL_4 10 rfl) ?_
  refine lx_I (as := [.int (xs (i3 + 1).toNatClampNeg)]) C (zX5_force cy q qn qt qk qr qs a τ ξ (xs (i3 + 1).toNatClampNeg) ) mv_X5_force km_L_42 (by decide) (by decide) ⟨by omega, by omega⟩ rfl rfl (Nat.le_of_ble_eq_true rfl) (dall tdL_4 11 rfl) ?_
  refine r_aload_n C 2 (dall tdL_4 12 rfl) rfl ?_
  refine r_aload_n C 0 (dall tdL_4 13 rfl) rfl ?_
  refine r_iload_n C 3 (dall tdL_4 14 rfl) rfl ?_
  refine r_iconst (v := 1) C (dall tdL_4 15 rfl) (by decide) ?_
  refine r_iadd C (dall tdL_4 16 rfl) ?_
  refine r_sld C hX hbl hbA (hv 1 (by decide)) (dall tdL_4 17 rfl) ?_
  refine lm_I (as := [.int (xs (i3 + 1).toNatClampNeg)]) C (zX6_force cy q6 σ (xs (i3 + 1).toNatClampNeg) ) mv_X6_force km_L_45 (by decide) (by decide) ⟨by omega, by omega⟩ rfl rfl (Nat.le_of_ble_eq_true rfl) (dall tdL_4 18 rfl) ?_
  refine r_icmp_eq (tgt := 1191) C (dall tdL_4 19 rfl) (by decide) (fun _ => ?_) (fun hne => absurd he hne)
  exact kk _ _ _ _ _ (by omega) (by omega) hr2
def PS_raise (Rel : TX → XS → OS → Prop) : Prop := ∀ (τ : TX) (ξ : XS) (σ : OS) (x1_ : Int32) (x2_ : Int32) (x3_ : Int32), Rel τ ξ σ → gX5_raise τ ξ x1_ x2_ x3_ ∧ gX6_raise σ x1_ x2_ x3_ ∧ (fX5_raise τ ξ x1_ x2_ x3_).1 = (fX6_raise σ x1_ x2_ x3_).1 ∧ Rel τ (fX5_raise τ ξ x1_ x2_ x3_).2 (fX6_raise σ x1_ x2_ x3_).2
set_option maxHeartbeats 4000000 in
set_option maxRecDepth 100000 in
theorem lc_raise {Rel : TX → XS → OS → Prop} (hp : PS_raise Rel) (C : Cx X cL_law RL 4 D (gty cy) A 100 600000 7302250) (hX : va_X b L xs X.1.2.2.2.2 X.1.2.2.2.2.heap) (hbl : b < X.1.2.2.2.2.heap.size) (hbA : ¬ A b) (hv : ∀ j : Int32, j = 1 ∨ j = 2 ∨ j = 3 ∨ j = 4 ∨ j = 5 → vp_in (i3 + j) L) (hcap : kc + 3 ≤ 600000 ∧ ks + 165 ≤ 7302250) {τ : TX} {ξ : XS} {σ : OS} (hr : Rel τ ξ σ) (kk : ∀ (kc' ks' : Nat) (τ' : TX) (ξ' : XS) (σ' : OS), kc' ≤ kc + 3 → ks' ≤ ks + 165 → Rel τ' ξ' σ' → At X D A 4 kc' ks' 1191 [(0, .ref b), (1, .ref (q 8)), (2, .ref (q6 41)), (3, .int i3)] [] (wX6 cy q6 σ' ++ wX5 cy q qn qt qk qr qs a τ' ξ')) : At X D A 4 kc ks 374 [(0, .ref b), (1, .ref (q 8)), (2, .ref (q6 41)), (3, .int i3)] [] (wX6 cy q6 σ ++ wX5 cy q qn qt qk qr qs a τ ξ) := by
  obtain ⟨o5, o6, he, hr2⟩ := hp τ ξ σ (xs (i3 + 1).toNatClampNeg) (xs (i3 + 2).toNatClampNeg) (xs (i3 + 3).toNatClampNeg) hr
  refine r_aload_n C 1 (dall tdL_4 22 rfl) rfl ?_
  refine r_aload_n C 0 (dall tdL_4 23 rfl) rfl ?_
  refine r_iload_n C 3 (dall tdL_4 24 rfl) rfl ?_
  refine r_iconst (v := 1) C (dall tdL_4 25 rfl) (by decide) ?_
  refine r_iadd C (dall tdL_4 26 rfl) ?_
  refine r_sld C hX hbl hbA (hv 1 (by decide)) (dall tdL_4 27 rfl) ?_
  refine r_aload_n C 0 (dall tdL_4 28 rfl) rfl ?_
  refine r_iload_n C 3 (dall tdL_4 29 rfl) rfl ?_
  refine r_iconst (v := 2) C (dall tdL_4 30 rfl) (by decide) ?_
  refine r_iadd C (dall tdL_4 31 rfl) ?_
  refine r_sld C hX hbl hbA (hv 2 (by decide)) (dall tdL_4 32 rfl) ?_
  refine r_aload_n C 0 (dall tdL_4 33 rfl) rfl ?_
  refine r_iload_n C 3 (dall tdL_4 34 rfl) rfl ?_
  refine r_iconst (v := 3) C (dall tdL_4 35 rfl) (by decide) ?_
  refine r_iadd C (dall tdL_4 36 rfl) ?_
  refine r_sld C hX hbl hbA (hv 3 (by decide)) (dall tdL_4 37 rfl) ?_
  refine lx_I (as := [.int (xs (i3 + 1).toNatClampNeg), .int (xs (i3 + 2).toNatClampNeg), .int (xs (i3 + 3).toNatClampNeg)]) C (zX5_raise cy q qn qt qk qr qs a τ ξ (xs (i3 + 1).toNatClampNeg) (xs (i3 + 2).toNatClampNeg) (xs (i3 + 3).toNatClampNeg) o5) mv_X5_raise km_L_46 (by decide) (by decide) ⟨by omega, by omega⟩ rfl rfl (Nat.le_of_ble_eq_true rfl) (dall tdL_4 38 rfl) ?_
  refine r_aload_n C 2 (dall tdL_4 39 rfl) rfl ?_
  refine r_aload_n C 0 (dall tdL_5 0 rfl) rfl ?_
  refine r_iload_n C 3 (dall tdL_5 1 rfl) rfl ?_
  refine r_iconst (v := 1) C (dall tdL_5 2 rfl) (by decide) ?_
  refine r_iadd C (dall tdL_5 3 rfl) ?_
  refine r_sld C hX hbl hbA (hv 1 (by decide)) (dall tdL_5 4 rfl) ?_
  refine r_aload_n C 0 (dall tdL_5 5 rfl) rfl ?_
  refine r_iload_n C 3 (dall tdL_5 6 rfl) rfl ?_
  refine r_iconst (v := 2) C (dall tdL_5 7 rfl) (by decide) ?_
  refine r_iadd C (dall tdL_5 8 rfl) ?_
  refine r_sld C hX hbl hbA (hv 2 (by decide)) (dall tdL_5 9 rfl) ?_
  refine r_aload_n C 0 (dall tdL_5 10 rfl) rfl ?_
  refine r_iload_n C 3 (dall tdL_5 11 rfl) rfl ?_
  refine r_iconst (v := 3) C (dall tdL_5 12 rfl) (by decide) ?_
  refine r_iadd C (dall tdL_5 13 rfl) ?_
  refine r_sld C hX hbl hbA (hv 3 (by decide)) (dall tdL_5 14 rfl) ?_
  refine lm_I (as := [.int (xs (i3 + 1).toNatClampNeg), .int (xs (i3 + 2).toNatClampNeg), .int (xs (i3 + 3).toNatClampNeg)]) C (zX6_raise cy q6 σ (xs (i3 + 1).toNatClampNeg) (xs (i3 + 2).toNatClampNeg) (xs (i3 + 3).toNatClampNeg) o6) mv_X6_raise km_L_49 (by decide) (by decide) ⟨by omega, by omega⟩ rfl rfl (Nat.le_of_ble_eq_true rfl) (dall tdL_5 15 rfl) ?_
  refine r_icmp_eq (tgt := 1191) C (dall tdL_5 16 rfl) (by decide) (fun _ => ?_) (fun hne => absurd he hne)
  exact kk _ _ _ _ _ (by omega) (by omega) hr2
def PS_fell (Rel : TX → XS → OS → Prop) : Prop := ∀ (τ : TX) (ξ : XS) (σ : OS) (x1_ : Int32), Rel τ ξ σ → gX5_fell τ ξ x1_ ∧ gX6_fell σ x1_ ∧ (fX5_fell τ ξ x1_).1 = (fX6_fell σ x1_).1 ∧ Rel τ (fX5_fell τ ξ x1_).2 (fX6_fell σ x1_).2
set_option maxHeartbeats 4000000 in
set_option maxRecDepth 100000 in
theorem lc_fell {Rel : TX → XS → OS → Prop} (hp : PS_fell Rel) (C : Cx X cL_law RL 4 D (gty cy) A 100 600000 7302250) (hX : va_X b L xs X.1.2.2.2.2 X.1.2.2.2.2.heap) (hbl : b < X.1.2.2.2.2.heap.size) (hbA : ¬ A b) (hv : ∀ j : Int32, j = 1 ∨ j = 2 ∨ j = 3 ∨ j = 4 ∨ j = 5 → vp_in (i3 + j) L) (hcap : kc + 3 ≤ 600000 ∧ ks + 165 ≤ 7302250) {τ : TX} {ξ : XS} {σ : OS} (hr : Rel τ ξ σ) (kk : ∀ (kc' ks' : Nat) (τ' : TX) (ξ' : XS) (σ' : OS), kc' ≤ kc + 3 → ks' ≤ ks + 165 → Rel τ' ξ' σ' → At X D A 4 kc' ks' 1191 [(0, .ref b), (1, .ref (q 8)), (2, .ref (q6 41)), (3, .int i3)] [] (wX6 cy q6 σ' ++ wX5 cy q qn qt qk qr qs a τ' ξ')) : At X D A 4 kc ks 417 [(0, .ref b), (1, .ref (q 8)), (2, .ref (q6 41)), (3, .int i3)] [] (wX6 cy q6 σ ++ wX5 cy q qn qt qk qr qs a τ ξ) := by
  obtain ⟨o5, o6, he, hr2⟩ := hp τ ξ σ (xs (i3 + 1).toNatClampNeg) hr
  refine r_aload_n C 1 (dall tdL_5 19 rfl) rfl ?_
  refine r_aload_n C 0 (dall tdL_5 20 rfl) rfl ?_
  refine r_iload_n C 3 (dall tdL_5 21 rfl) rfl ?_
  refine r_iconst (v := 1) C (dall tdL_5 22 rfl) (by decide) ?_
  refine r_iadd C (dall tdL_5 23 rfl) ?_
  refine r_sld C hX hbl hbA (hv 1 (by decide)) (dall tdL_5 24 rfl) ?_
  refine lx_I (as := [.int (xs (i3 + 1).toNatClampNeg)]) C (zX5_fell cy q qn qt qk qr qs a τ ξ (xs (i3 + 1).toNatClampNeg) o5) mv_X5_fell km_L_50 (by decide) (by decide) ⟨by omega, by omega⟩ rfl rfl (Nat.le_of_ble_eq_true rfl) (dall tdL_5 25 rfl) ?_
  refine r_aload_n C 2 (dall tdL_5 26 rfl) rfl ?_
  refine r_aload_n C 0 (dall tdL_5 27 rfl) rfl ?_
  refine r_iload_n C 3 (dall tdL_5 28 rfl) rfl ?_
  refine r_iconst (v := 1) C (dall tdL_5 29 rfl) (by decide) ?_
  refine r_iadd C (dall tdL_5 30 rfl) ?_
  refine r_sld C hX hbl hbA (hv 1 (by decide)) (dall tdL_5 31 rfl) ?_
  refine lm_I (as := [.int (xs (i3 + 1).toNatClampNeg)]) C (zX6_fell cy q6 σ (xs (i3 + 1).toNatClampNeg) o6) mv_X6_fell km_L_53 (by decide) (by decide) ⟨by omega, by omega⟩ rfl rfl (Nat.le_of_ble_eq_true rfl) (dall tdL_5 32 rfl) ?_
  refine r_icmp_eq (tgt := 1191) C (dall tdL_5 33 rfl) (by decide) (fun _ => ?_) (fun hne => absurd he hne)
  exact kk _ _ _ _ _ (by omega) (by omega) hr2
def PS_room (Rel : TX → XS → OS → Prop) : Prop := ∀ (τ : TX) (ξ : XS) (σ : OS) (x1_ : Int32), Rel τ ξ σ → gX5_room τ ξ x1_ ∧ gX6_room σ x1_ ∧ (fX5_room τ ξ x1_) = (fX6_room σ x1_) ∧ Rel τ ξ σ
set_option maxHeartbeats 4000000 in
set_option maxRecDepth 100000 in
theorem lc_room {Rel : TX → XS → OS → Prop} (hp : PS_room Rel) (C : Cx X cL_law RL 4 D (gty cy) A 100 600000 7302250) (hX : va_X b L xs X.1.2.2.2.2 X.1.2.2.2.2.heap) (hbl : b < X.1.2.2.2.2.heap.size) (hbA : ¬ A b) (hv : ∀ j : Int32, j = 1 ∨ j = 2 ∨ j = 3 ∨ j = 4 ∨ j = 5 → vp_in (i3 + j) L) (hcap : kc + 3 ≤ 600000 ∧ ks + 165 ≤ 7302250) {τ : TX} {ξ : XS} {σ : OS} (hr : Rel τ ξ σ) (kk : ∀ (kc' ks' : Nat) (τ' : TX) (ξ' : XS) (σ' : OS), kc' ≤ kc + 3 → ks' ≤ ks + 165 → Rel τ' ξ' σ' → At X D A 4 kc' ks' 1191 [(0, .ref b), (1, .ref (q 8)), (2, .ref (q6 41)), (3, .int i3)] [] (wX6 cy q6 σ' ++ wX5 cy q qn qt qk qr qs a τ' ξ')) : At X D A 4 kc ks 440 [(0, .ref b), (1, .ref (q 8)), (2, .ref (q6 41)), (3, .int i3)] [] (wX6 cy q6 σ ++ wX5 cy q qn qt qk qr qs a τ ξ) := by
  obtain ⟨o5, o6, he, hr2⟩ := hp τ ξ σ (xs (i3 + 1).toNatClampNeg) hr
  refine r_aload_n C 1 (dall tdL_5 36 rfl) rfl ?_
  refine r_aload_n C 0 (dall tdL_5 37 rfl) rfl ?_
  refine r_iload_n C 3 (dall tdL_5 38 rfl) rfl ?_
  refine r_iconst (v := 1) C (dall tdL_5 39 rfl) (by decide) ?_
  refine r_iadd C (dall tdL_6 0 rfl) ?_
  refine r_sld C hX hbl hbA (hv 1 (by decide)) (dall tdL_6 1 rfl) ?_
  refine lx_L (as := [.int (xs (i3 + 1).toNatClampNeg)]) C (zX5_room cy q qn qt qk qr qs a τ ξ (xs (i3 + 1).toNatClampNeg) o5) mv_X5_room km_L_54 (by decide) (by decide) ⟨by omega, by omega⟩ rfl rfl (Nat.le_of_ble_eq_true rfl) (dall tdL_6 2 rfl) ?_
  refine r_aload_n C 2 (dall tdL_6 3 rfl) rfl ?_
  refine r_aload_n C 0 (dall tdL_6 4 rfl) rfl ?_
  refine r_iload_n C 3 (dall tdL_6 5 rfl) rfl ?_
  refine r_iconst (v := 1) C (dall tdL_6 6 rfl) (by decide) ?_
  refine r_iadd C (dall tdL_6 7 rfl) ?_
  refine r_sld C hX hbl hbA (hv 1 (by decide)) (dall tdL_6 8 rfl) ?_
  refine lm_L (as := [.int (xs (i3 + 1).toNatClampNeg)]) C (zX6_room cy q6 σ (xs (i3 + 1).toNatClampNeg) o6) mv_X6_room km_L_57 (by decide) (by decide) ⟨by omega, by omega⟩ rfl rfl (Nat.le_of_ble_eq_true rfl) (dall tdL_6 9 rfl) ?_
  refine r_lif_eq (tgt := 1191) C (dall tdL_6 10 rfl) (dall tdL_6 11 rfl) (by decide) (fun _ => ?_) (fun hne => absurd he hne)
  exact kk _ _ _ _ _ (by omega) (by omega) hr2
def PS_year (Rel : TX → XS → OS → Prop) : Prop := ∀ (τ : TX) (ξ : XS) (σ : OS) , Rel τ ξ σ → gX5_year τ ξ  ∧ gX6_year σ  ∧ (fX5_year τ ξ ).1 = (fX6_year σ ).1 ∧ Rel τ (fX5_year τ ξ ).2 (fX6_year σ ).2
set_option maxHeartbeats 4000000 in
set_option maxRecDepth 100000 in
theorem lc_year {Rel : TX → XS → OS → Prop} (hp : PS_year Rel) (C : Cx X cL_law RL 4 D (gty cy) A 100 600000 7302250) (hX : va_X b L xs X.1.2.2.2.2 X.1.2.2.2.2.heap) (hbl : b < X.1.2.2.2.2.heap.size) (hbA : ¬ A b) (hv : ∀ j : Int32, j = 1 ∨ j = 2 ∨ j = 3 ∨ j = 4 ∨ j = 5 → vp_in (i3 + j) L) (hcap : kc + 3 ≤ 600000 ∧ ks + 165 ≤ 7302250) {τ : TX} {ξ : XS} {σ : OS} (hr : Rel τ ξ σ) (kk : ∀ (kc' ks' : Nat) (τ' : TX) (ξ' : XS) (σ' : OS), kc' ≤ kc + 3 → ks' ≤ ks + 165 → Rel τ' ξ' σ' → At X D A 4 kc' ks' 1191 [(0, .ref b), (1, .ref (q 8)), (2, .ref (q6 41)), (3, .int i3)] [] (wX6 cy q6 σ' ++ wX5 cy q qn qt qk qr qs a τ' ξ')) : At X D A 4 kc ks 464 [(0, .ref b), (1, .ref (q 8)), (2, .ref (q6 41)), (3, .int i3)] [] (wX6 cy q6 σ ++ wX5 cy q qn qt qk qr qs a τ ξ) := by
  obtain ⟨o5, o6, he, hr2⟩ := hp τ ξ σ  hr
  refine r_aload_n C 1 (dall tdL_6 14 rfl) rfl ?_
  refine lx_I (as := []) C (zX5_year cy q qn qt qk qr qs a τ ξ  o5) mv_X5_year km_L_58 (by decide) (by decide) ⟨by omega, by omega⟩ rfl rfl (Nat.le_of_ble_eq_true rfl) (dall tdL_6 15 rfl) ?_
  refine r_aload_n C 2 (dall tdL_6 16 rfl) rfl ?_
  refine lm_I (as := []) C (zX6_year cy q6 σ  o6) mv_X6_year km_L_61 (by decide) (by decide) ⟨by omega, by omega⟩ rfl rfl (Nat.le_of_ble_eq_true rfl) (dall tdL_6 17 rfl) ?_
  refine r_icmp_eq (tgt := 1191) C (dall tdL_6 18 rfl) (by decide) (fun _ => ?_) (fun hne => absurd he hne)
  exact kk _ _ _ _ _ (by omega) (by omega) hr2
def PS_run (Rel : TX → XS → OS → Prop) : Prop := ∀ (τ : TX) (ξ : XS) (σ : OS) (x1_ : Int32) (x2_ : Int32) (x3_ : Int32), Rel τ ξ σ → gX5_run τ ξ x1_ x2_ x3_ ∧ gX6_run σ x1_ x2_ x3_ ∧ (fX5_run τ ξ x1_ x2_ x3_).1 = (fX6_run σ x1_ x2_ x3_).1 ∧ Rel τ (fX5_run τ ξ x1_ x2_ x3_).2 (fX6_run σ x1_ x2_ x3_).2
set_option maxHeartbeats 4000000 in
set_option maxRecDepth 100000 in
theorem lc_run {Rel : TX → XS → OS → Prop} (hp : PS_run Rel) (C : Cx X cL_law RL 4 D (gty cy) A 100 600000 7302250) (hX : va_X b L xs X.1.2.2.2.2 X.1.2.2.2.2.heap) (hbl : b < X.1.2.2.2.2.heap.size) (hbA : ¬ A b) (hv : ∀ j : Int32, j = 1 ∨ j = 2 ∨ j = 3 ∨ j = 4 ∨ j = 5 → vp_in (i3 + j) L) (hcap : kc + 3 ≤ 600000 ∧ ks + 165 ≤ 7302250) {τ : TX} {ξ : XS} {σ : OS} (hr : Rel τ ξ σ) (kk : ∀ (kc' ks' : Nat) (τ' : TX) (ξ' : XS) (σ' : OS), kc' ≤ kc + 3 → ks' ≤ ks + 165 → Rel τ' ξ' σ' → At X D A 4 kc' ks' 1191 [(0, .ref b), (1, .ref (q 8)), (2, .ref (q6 41)), (3, .int i3)] [] (wX6 cy q6 σ' ++ wX5 cy q qn qt qk qr qs a τ' ξ')) : At X D A 4 kc ks 477 [(0, .ref b), (1, .ref (q 8)), (2, .ref (q6 41)), (3, .int i3)] [] (wX6 cy q6 σ ++ wX5 cy q qn qt qk qr qs a τ ξ) := by
  obtain ⟨o5, o6, he, hr2⟩ := hp τ ξ σ (xs (i3 + 1).toNatClampNeg) (xs (i3 + 2).toNatClampNeg) (xs (i3 + 3).toNatClampNeg) hr
  refine r_aload_n C 1 (dall tdL_6 21 rfl) rfl ?_
  refine r_aload_n C 0 (dall tdL_6 22 rfl) rfl ?_
  refine r_iload_n C 3 (dall tdL_6 23 rfl) rfl ?_
  refine r_iconst (v := 1) C (dall tdL_6 24 rfl) (by decide) ?_
  refine r_iadd C (dall tdL_6 25 rfl) ?_
  refine r_sld C hX hbl hbA (hv 1 (by decide)) (dall tdL_6 26 rfl) ?_
  refine r_aload_n C 0 (dall tdL_6 27 rfl) rfl ?_
  refine r_iload_n C 3 (dall tdL_6 28 rfl) rfl ?_
  refine r_iconst (v := 2) C (dall tdL_6 29 rfl) (by decide) ?_
  refine r_iadd C (dall tdL_6 30 rfl) ?_
  refine r_sld C hX hbl hbA (hv 2 (by decide)) (dall tdL_6 31 rfl) ?_
  refine r_aload_n C 0 (dall tdL_6 32 rfl) rfl ?_
  refine r_iload_n C 3 (dall tdL_6 33 rfl) rfl ?_
  refine r_iconst (v := 3) C (dall tdL_6 34 rfl) (by decide) ?_
  refine r_iadd C (dall tdL_6 35 rfl) ?_
  refine r_sld C hX hbl hbA (hv 3 (by decide)) (dall tdL_6 36 rfl) ?_
  refine lx_I (as := [.int (xs (i3 + 1).toNatClampNeg), .int (xs (i3 + 2).toNatClampNeg), .int (xs (i3 + 3).toNatClampNeg)]) C (zX5_run cy q qn qt qk qr qs a τ ξ (xs (i3 + 1).toNatClampNeg) (xs (i3 + 2).toNatClampNeg) (xs (i3 + 3).toNatClampNeg) o5) mv_X5_run km_L_62 (by decide) (by decide) ⟨by omega, by omega⟩ rfl rfl (Nat.le_of_ble_eq_true rfl) (dall tdL_6 37 rfl) ?_
  refine r_aload_n C 2 (dall tdL_6 38 rfl) rfl ?_
  refine r_aload_n C 0 (dall tdL_6 39 rfl) rfl ?_
  refine r_iload_n C 3 (dall tdL_7 0 rfl) rfl ?_
  refine r_iconst (v := 1) C (dall tdL_7 1 rfl) (by decide) ?_
  refine r_iadd C (dall tdL_7 2 rfl) ?_
  refine r_sld C hX hbl hbA (hv 1 (by decide)) (dall tdL_7 3 rfl) ?_
  refine r_aload_n C 0 (dall tdL_7 4 rfl) rfl ?_
  refine r_iload_n C 3 (dall tdL_7 5 rfl) rfl ?_
  refine r_iconst (v := 2) C (dall tdL_7 6 rfl) (by decide) ?_
  refine r_iadd C (dall tdL_7 7 rfl) ?_
  refine r_sld C hX hbl hbA (hv 2 (by decide)) (dall tdL_7 8 rfl) ?_
  refine r_aload_n C 0 (dall tdL_7 9 rfl) rfl ?_
  refine r_iload_n C 3 (dall tdL_7 10 rfl) rfl ?_
  refine r_iconst (v := 3) C (dall tdL_7 11 rfl) (by decide) ?_
  refine r_iadd C (dall tdL_7 12 rfl) ?_
  refine r_sld C hX hbl hbA (hv 3 (by decide)) (dall tdL_7 13 rfl) ?_
  refine lm_I (as := [.int (xs (i3 + 1).toNatClampNeg), .int (xs (i3 + 2).toNatClampNeg), .int (xs (i3 + 3).toNatClampNeg)]) C (zX6_run cy q6 σ (xs (i3 + 1).toNatClampNeg) (xs (i3 + 2).toNatClampNeg) (xs (i3 + 3).toNatClampNeg) o6) mv_X6_run km_L_65 (by decide) (by decide) ⟨by omega, by omega⟩ rfl rfl (Nat.le_of_ble_eq_true rfl) (dall tdL_7 14 rfl) ?_
  refine r_icmp_eq (tgt := 1191) C (dall tdL_7 15 rfl) (by decide) (fun _ => ?_) (fun hne => absurd he hne)
  exact kk _ _ _ _ _ (by omega) (by omega) hr2
def PS_later (Rel : TX → XS → OS → Prop) : Prop := ∀ (τ : TX) (ξ : XS) (σ : OS) (x1_ : Int32), Rel τ ξ σ → gX5_later τ ξ x1_ ∧ gX6_later σ x1_ ∧ (fX5_later τ ξ x1_).1 = (fX6_later σ x1_).1 ∧ Rel τ (fX5_later τ ξ x1_).2 (fX6_later σ x1_).2
set_option maxHeartbeats 4000000 in
set_option maxRecDepth 100000 in
theorem lc_later {Rel : TX → XS → OS → Prop} (hp : PS_later Rel) (C : Cx X cL_law RL 4 D (gty cy) A 100 600000 7302250) (hX : va_X b L xs X.1.2.2.2.2 X.1.2.2.2.2.heap) (hbl : b < X.1.2.2.2.2.heap.size) (hbA : ¬ A b) (hv : ∀ j : Int32, j = 1 ∨ j = 2 ∨ j = 3 ∨ j = 4 ∨ j = 5 → vp_in (i3 + j) L) (hcap : kc + 3 ≤ 600000 ∧ ks + 165 ≤ 7302250) {τ : TX} {ξ : XS} {σ : OS} (hr : Rel τ ξ σ) (kk : ∀ (kc' ks' : Nat) (τ' : TX) (ξ' : XS) (σ' : OS), kc' ≤ kc + 3 → ks' ≤ ks + 165 → Rel τ' ξ' σ' → At X D A 4 kc' ks' 1191 [(0, .ref b), (1, .ref (q 8)), (2, .ref (q6 41)), (3, .int i3)] [] (wX6 cy q6 σ' ++ wX5 cy q qn qt qk qr qs a τ' ξ')) : At X D A 4 kc ks 520 [(0, .ref b), (1, .ref (q 8)), (2, .ref (q6 41)), (3, .int i3)] [] (wX6 cy q6 σ ++ wX5 cy q qn qt qk qr qs a τ ξ) := by
  obtain ⟨o5, o6, he, hr2⟩ := hp τ ξ σ (xs (i3 + 1).toNatClampNeg) hr
  refine r_aload_n C 1 (dall tdL_7 18 rfl) rfl ?_
  refine r_aload_n C 0 (dall tdL_7 19 rfl) rfl ?_
  refine r_iload_n C 3 (dall tdL_7 20 rfl) rfl ?_
  refine r_iconst (v := 1) C (dall tdL_7 21 rfl) (by decide) ?_
  refine r_iadd C (dall tdL_7 22 rfl) ?_
  refine r_sld C hX hbl hbA (hv 1 (by decide)) (dall tdL_7 23 rfl) ?_
  refine lx_L (as := [.int (xs (i3 + 1).toNatClampNeg)]) C (zX5_later cy q qn qt qk qr qs a τ ξ (xs (i3 + 1).toNatClampNeg) o5) mv_X5_later km_L_66 (by decide) (by decide) ⟨by omega, by omega⟩ rfl rfl (Nat.le_of_ble_eq_true rfl) (dall tdL_7 24 rfl) ?_
  refine r_aload_n C 2 (dall tdL_7 25 rfl) rfl ?_
  refine r_aload_n C 0 (dall tdL_7 26 rfl) rfl ?_
  refine r_iload_n C 3 (dall tdL_7 27 rfl) rfl ?_
  refine r_iconst (v := 1) C (dall tdL_7 28 rfl) (by decide) ?_
  refine r_iadd C (dall tdL_7 29 rfl) ?_
  refine r_sld C hX hbl hbA (hv 1 (by decide)) (dall tdL_7 30 rfl) ?_
  refine lm_L (as := [.int (xs (i3 + 1).toNatClampNeg)]) C (zX6_later cy q6 σ (xs (i3 + 1).toNatClampNeg) o6) mv_X6_later km_L_69 (by decide) (by decide) ⟨by omega, by omega⟩ rfl rfl (Nat.le_of_ble_eq_true rfl) (dall tdL_7 31 rfl) ?_
  refine r_lif_eq (tgt := 1191) C (dall tdL_7 32 rfl) (dall tdL_7 33 rfl) (by decide) (fun _ => ?_) (fun hne => absurd he hne)
  exact kk _ _ _ _ _ (by omega) (by omega) hr2
def PS_walk (Rel : TX → XS → OS → Prop) : Prop := ∀ (τ : TX) (ξ : XS) (σ : OS) (x1_ : Int32) (x2_ : Int32), Rel τ ξ σ → gX5_walk τ ξ x1_ x2_ ∧ gX6_walk σ x1_ x2_ ∧ (fX5_walk τ ξ x1_ x2_) = (fX6_walk σ x1_ x2_) ∧ Rel τ ξ σ
set_option maxHeartbeats 4000000 in
set_option maxRecDepth 100000 in
theorem lc_walk {Rel : TX → XS → OS → Prop} (hp : PS_walk Rel) (C : Cx X cL_law RL 4 D (gty cy) A 100 600000 7302250) (hX : va_X b L xs X.1.2.2.2.2 X.1.2.2.2.2.heap) (hbl : b < X.1.2.2.2.2.heap.size) (hbA : ¬ A b) (hv : ∀ j : Int32, j = 1 ∨ j = 2 ∨ j = 3 ∨ j = 4 ∨ j = 5 → vp_in (i3 + j) L) (hcap : kc + 3 ≤ 600000 ∧ ks + 165 ≤ 7302250) {τ : TX} {ξ : XS} {σ : OS} (hr : Rel τ ξ σ) (kk : ∀ (kc' ks' : Nat) (τ' : TX) (ξ' : XS) (σ' : OS), kc' ≤ kc + 3 → ks' ≤ ks + 165 → Rel τ' ξ' σ' → At X D A 4 kc' ks' 1191 [(0, .ref b), (1, .ref (q 8)), (2, .ref (q6 41)), (3, .int i3)] [] (wX6 cy q6 σ' ++ wX5 cy q qn qt qk qr qs a τ' ξ')) : At X D A 4 kc ks 544 [(0, .ref b), (1, .ref (q 8)), (2, .ref (q6 41)), (3, .int i3)] [] (wX6 cy q6 σ ++ wX5 cy q qn qt qk qr qs a τ ξ) := by
  obtain ⟨o5, o6, he, hr2⟩ := hp τ ξ σ (xs (i3 + 1).toNatClampNeg) (xs (i3 + 2).toNatClampNeg) hr
  refine r_aload_n C 1 (dall tdL_7 36 rfl) rfl ?_
  refine r_aload_n C 0 (dall tdL_7 37 rfl) rfl ?_
  refine r_iload_n C 3 (dall tdL_7 38 rfl) rfl ?_
  refine r_iconst (v := 1) C (dall tdL_7 39 rfl) (by decide) ?_
  refine r_iadd C (dall tdL_8 0 rfl) ?_
  refine r_sld C hX hbl hbA (hv 1 (by decide)) (dall tdL_8 1 rfl) ?_
  refine r_aload_n C 0 (dall tdL_8 2 rfl) rfl ?_
  refine r_iload_n C 3 (dall tdL_8 3 rfl) rfl ?_
  refine r_iconst (v := 2) C (dall tdL_8 4 rfl) (by decide) ?_
  refine r_iadd C (dall tdL_8 5 rfl) ?_
  refine r_sld C hX hbl hbA (hv 2 (by decide)) (dall tdL_8 6 rfl) ?_
  refine lx_I (as := [.int (xs (i3 + 1).toNatClampNeg), .int (xs (i3 + 2).toNatClampNeg)]) C (zX5_walk cy q qn qt qk qr qs a τ ξ (xs (i3 + 1).toNatClampNeg) (xs (i3 + 2).toNatClampNeg) o5) mv_X5_walk km_L_70 (by decide) (by decide) ⟨by omega, by omega⟩ rfl rfl (Nat.le_of_ble_eq_true rfl) (dall tdL_8 7 rfl) ?_
  refine r_aload_n C 2 (dall tdL_8 8 rfl) rfl ?_
  refine r_aload_n C 0 (dall tdL_8 9 rfl) rfl ?_
  refine r_iload_n C 3 (dall tdL_8 10 rfl) rfl ?_
  refine r_iconst (v := 1) C (dall tdL_8 11 rfl) (by decide) ?_
  refine r_iadd C (dall tdL_8 12 rfl) ?_
  refine r_sld C hX hbl hbA (hv 1 (by decide)) (dall tdL_8 13 rfl) ?_
  refine r_aload_n C 0 (dall tdL_8 14 rfl) rfl ?_
  refine r_iload_n C 3 (dall tdL_8 15 rfl) rfl ?_
  refine r_iconst (v := 2) C (dall tdL_8 16 rfl) (by decide) ?_
  refine r_iadd C (dall tdL_8 17 rfl) ?_
  refine r_sld C hX hbl hbA (hv 2 (by decide)) (dall tdL_8 18 rfl) ?_
  refine lm_I (as := [.int (xs (i3 + 1).toNatClampNeg), .int (xs (i3 + 2).toNatClampNeg)]) C (zX6_walk cy q6 σ (xs (i3 + 1).toNatClampNeg) (xs (i3 + 2).toNatClampNeg) o6) mv_X6_walk km_L_73 (by decide) (by decide) ⟨by omega, by omega⟩ rfl rfl (Nat.le_of_ble_eq_true rfl) (dall tdL_8 19 rfl) ?_
  refine r_icmp_eq (tgt := 1191) C (dall tdL_8 20 rfl) (by decide) (fun _ => ?_) (fun hne => absurd he hne)
  exact kk _ _ _ _ _ (by omega) (by omega) hr2
def PS_round (Rel : TX → XS → OS → Prop) : Prop := ∀ (τ : TX) (ξ : XS) (σ : OS) (x1_ : Int32) (x2_ : Int32), Rel τ ξ σ → gX5_round τ ξ x1_ x2_ ∧ gX6_round σ x1_ x2_ ∧ (fX5_round τ ξ x1_ x2_) = (fX6_round σ x1_ x2_) ∧ Rel τ ξ σ
set_option maxHeartbeats 4000000 in
set_option maxRecDepth 100000 in
theorem lc_round {Rel : TX → XS → OS → Prop} (hp : PS_round Rel) (C : Cx X cL_law RL 4 D (gty cy) A 100 600000 7302250) (hX : va_X b L xs X.1.2.2.2.2 X.1.2.2.2.2.heap) (hbl : b < X.1.2.2.2.2.heap.size) (hbA : ¬ A b) (hv : ∀ j : Int32, j = 1 ∨ j = 2 ∨ j = 3 ∨ j = 4 ∨ j = 5 → vp_in (i3 + j) L) (hcap : kc + 3 ≤ 600000 ∧ ks + 165 ≤ 7302250) {τ : TX} {ξ : XS} {σ : OS} (hr : Rel τ ξ σ) (kk : ∀ (kc' ks' : Nat) (τ' : TX) (ξ' : XS) (σ' : OS), kc' ≤ kc + 3 → ks' ≤ ks + 165 → Rel τ' ξ' σ' → At X D A 4 kc' ks' 1191 [(0, .ref b), (1, .ref (q 8)), (2, .ref (q6 41)), (3, .int i3)] [] (wX6 cy q6 σ' ++ wX5 cy q qn qt qk qr qs a τ' ξ')) : At X D A 4 kc ks 577 [(0, .ref b), (1, .ref (q 8)), (2, .ref (q6 41)), (3, .int i3)] [] (wX6 cy q6 σ ++ wX5 cy q qn qt qk qr qs a τ ξ) := by
  obtain ⟨o5, o6, he, hr2⟩ := hp τ ξ σ (xs (i3 + 1).toNatClampNeg) (xs (i3 + 2).toNatClampNeg) hr
  refine r_aload_n C 1 (dall tdL_8 23 rfl) rfl ?_
  refine r_aload_n C 0 (dall tdL_8 24 rfl) rfl ?_
  refine r_iload_n C 3 (dall tdL_8 25 rfl) rfl ?_
  refine r_iconst (v := 1) C (dall tdL_8 26 rfl) (by decide) ?_
  refine r_iadd C (dall tdL_8 27 rfl) ?_
  refine r_sld C hX hbl hbA (hv 1 (by decide)) (dall tdL_8 28 rfl) ?_
  refine r_aload_n C 0 (dall tdL_8 29 rfl) rfl ?_
  refine r_iload_n C 3 (dall tdL_8 30 rfl) rfl ?_
  refine r_iconst (v := 2) C (dall tdL_8 31 rfl) (by decide) ?_
  refine r_iadd C (dall tdL_8 32 rfl) ?_
  refine r_sld C hX hbl hbA (hv 2 (by decide)) (dall tdL_8 33 rfl) ?_
  refine lx_L (as := [.int (xs (i3 + 1).toNatClampNeg), .int (xs (i3 + 2).toNatClampNeg)]) C (zX5_round cy q qn qt qk qr qs a τ ξ (xs (i3 + 1).toNatClampNeg) (xs (i3 + 2).toNatClampNeg) o5) mv_X5_round km_L_74 (by decide) (by decide) ⟨by omega, by omega⟩ rfl rfl (Nat.le_of_ble_eq_true rfl) (dall tdL_8 34 rfl) ?_
  refine r_aload_n C 2 (dall tdL_8 35 rfl) rfl ?_
  refine r_aload_n C 0 (dall tdL_8 36 rfl) rfl ?_
  refine r_iload_n C 3 (dall tdL_8 37 rfl) rfl ?_
  refine r_iconst (v := 1) C (dall tdL_8 38 rfl) (by decide) ?_
  refine r_iadd C (dall tdL_8 39 rfl) ?_
  refine r_sld C hX hbl hbA (hv 1 (by decide)) (dall tdL_9 0 rfl) ?_
  refine r_aload_n C 0 (dall tdL_9 1 rfl) rfl ?_
  refine r_iload_n C 3 (dall tdL_9 2 rfl) rfl ?_
  refine r_iconst (v := 2) C (dall tdL_9 3 rfl) (by decide) ?_
  refine r_iadd C (dall tdL_9 4 rfl) ?_
  refine r_sld C hX hbl hbA (hv 2 (by decide)) (dall tdL_9 5 rfl) ?_
  refine lm_L (as := [.int (xs (i3 + 1).toNatClampNeg), .int (xs (i3 + 2).toNatClampNeg)]) C (zX6_round cy q6 σ (xs (i3 + 1).toNatClampNeg) (xs (i3 + 2).toNatClampNeg) o6) mv_X6_round km_L_78 (by decide) (by decide) ⟨by omega, by omega⟩ rfl rfl (Nat.le_of_ble_eq_true rfl) (dall tdL_9 6 rfl) ?_
  refine r_lif_eq (tgt := 1191) C (dall tdL_9 7 rfl) (dall tdL_9 8 rfl) (by decide) (fun _ => ?_) (fun hne => absurd he hne)
  exact kk _ _ _ _ _ (by omega) (by omega) hr2
def PS_reach (Rel : TX → XS → OS → Prop) : Prop := ∀ (τ : TX) (ξ : XS) (σ : OS) (x1_ : Int32), Rel τ ξ σ → gX5_reach τ ξ x1_ ∧ gX6_reach σ x1_ ∧ (fX5_reach τ ξ x1_) = (fX6_reach σ x1_) ∧ Rel τ ξ σ
set_option maxHeartbeats 4000000 in
set_option maxRecDepth 100000 in
theorem lc_reach {Rel : TX → XS → OS → Prop} (hp : PS_reach Rel) (C : Cx X cL_law RL 4 D (gty cy) A 100 600000 7302250) (hX : va_X b L xs X.1.2.2.2.2 X.1.2.2.2.2.heap) (hbl : b < X.1.2.2.2.2.heap.size) (hbA : ¬ A b) (hv : ∀ j : Int32, j = 1 ∨ j = 2 ∨ j = 3 ∨ j = 4 ∨ j = 5 → vp_in (i3 + j) L) (hcap : kc + 3 ≤ 600000 ∧ ks + 165 ≤ 7302250) {τ : TX} {ξ : XS} {σ : OS} (hr : Rel τ ξ σ) (kk : ∀ (kc' ks' : Nat) (τ' : TX) (ξ' : XS) (σ' : OS), kc' ≤ kc + 3 → ks' ≤ ks + 165 → Rel τ' ξ' σ' → At X D A 4 kc' ks' 1191 [(0, .ref b), (1, .ref (q 8)), (2, .ref (q6 41)), (3, .int i3)] [] (wX6 cy q6 σ' ++ wX5 cy q qn qt qk qr qs a τ' ξ')) : At X D A 4 kc ks 611 [(0, .ref b), (1, .ref (q 8)), (2, .ref (q6 41)), (3, .int i3)] [] (wX6 cy q6 σ ++ wX5 cy q qn qt qk qr qs a τ ξ) := by
  obtain ⟨o5, o6, he, hr2⟩ := hp τ ξ σ (xs (i3 + 1).toNatClampNeg) hr
  refine r_aload_n C 1 (dall tdL_9 11 rfl) rfl ?_
  refine r_aload_n C 0 (dall tdL_9 12 rfl) rfl ?_
  refine r_iload_n C 3 (dall tdL_9 13 rfl) rfl ?_
  refine r_iconst (v := 1) C (dall tdL_9 14 rfl) (by decide) ?_
  refine r_iadd C (dall tdL_9 15 rfl) ?_
  refine r_sld C hX hbl hbA (hv 1 (by decide)) (dall tdL_9 16 rfl) ?_
  refine lx_I (as := [.int (xs (i3 + 1).toNatClampNeg)]) C (zX5_reach cy q qn qt qk qr qs a τ ξ (xs (i3 + 1).toNatClampNeg) o5) mv_X5_reach km_L_79 (by decide) (by decide) ⟨by omega, by omega⟩ rfl rfl (Nat.le_of_ble_eq_true rfl) (dall tdL_9 17 rfl) ?_
  refine r_aload_n C 2 (dall tdL_9 18 rfl) rfl ?_
  refine r_aload_n C 0 (dall tdL_9 19 rfl) rfl ?_
  refine r_iload_n C 3 (dall tdL_9 20 rfl) rfl ?_
  refine r_iconst (v := 1) C (dall tdL_9 21 rfl) (by decide) ?_
  refine r_iadd C (dall tdL_9 22 rfl) ?_
  refine r_sld C hX hbl hbA (hv 1 (by decide)) (dall tdL_9 23 rfl) ?_
  refine lm_I (as := [.int (xs (i3 + 1).toNatClampNeg)]) C (zX6_reach cy q6 σ (xs (i3 + 1).toNatClampNeg) o6) mv_X6_reach km_L_82 (by decide) (by decide) ⟨by omega, by omega⟩ rfl rfl (Nat.le_of_ble_eq_true rfl) (dall tdL_9 24 rfl) ?_
  refine r_icmp_eq (tgt := 1191) C (dall tdL_9 25 rfl) (by decide) (fun _ => ?_) (fun hne => absurd he hne)
  exact kk _ _ _ _ _ (by omega) (by omega) hr2
def PS_key (Rel : TX → XS → OS → Prop) : Prop := ∀ (τ : TX) (ξ : XS) (σ : OS) (x1_ : Int32), Rel τ ξ σ → gX5_key τ ξ x1_ ∧ gX6_key σ x1_ ∧ (fX5_key τ ξ x1_) = (fX6_key σ x1_) ∧ Rel τ ξ σ
set_option maxHeartbeats 4000000 in
set_option maxRecDepth 100000 in
theorem lc_key {Rel : TX → XS → OS → Prop} (hp : PS_key Rel) (C : Cx X cL_law RL 4 D (gty cy) A 100 600000 7302250) (hX : va_X b L xs X.1.2.2.2.2 X.1.2.2.2.2.heap) (hbl : b < X.1.2.2.2.2.heap.size) (hbA : ¬ A b) (hv : ∀ j : Int32, j = 1 ∨ j = 2 ∨ j = 3 ∨ j = 4 ∨ j = 5 → vp_in (i3 + j) L) (hcap : kc + 3 ≤ 600000 ∧ ks + 165 ≤ 7302250) {τ : TX} {ξ : XS} {σ : OS} (hr : Rel τ ξ σ) (kk : ∀ (kc' ks' : Nat) (τ' : TX) (ξ' : XS) (σ' : OS), kc' ≤ kc + 3 → ks' ≤ ks + 165 → Rel τ' ξ' σ' → At X D A 4 kc' ks' 1191 [(0, .ref b), (1, .ref (q 8)), (2, .ref (q6 41)), (3, .int i3)] [] (wX6 cy q6 σ' ++ wX5 cy q qn qt qk qr qs a τ' ξ')) : At X D A 4 kc ks 634 [(0, .ref b), (1, .ref (q 8)), (2, .ref (q6 41)), (3, .int i3)] [] (wX6 cy q6 σ ++ wX5 cy q qn qt qk qr qs a τ ξ) := by
  obtain ⟨o5, o6, he, hr2⟩ := hp τ ξ σ (xs (i3 + 1).toNatClampNeg) hr
  refine r_aload_n C 1 (dall tdL_9 28 rfl) rfl ?_
  refine r_aload_n C 0 (dall tdL_9 29 rfl) rfl ?_
  refine r_iload_n C 3 (dall tdL_9 30 rfl) rfl ?_
  refine r_iconst (v := 1) C (dall tdL_9 31 rfl) (by decide) ?_
  refine r_iadd C (dall tdL_9 32 rfl) ?_
  refine r_sld C hX hbl hbA (hv 1 (by decide)) (dall tdL_9 33 rfl) ?_
  refine lx_I (as := [.int (xs (i3 + 1).toNatClampNeg)]) C (zX5_key cy q qn qt qk qr qs a τ ξ (xs (i3 + 1).toNatClampNeg) o5) mv_X5_key km_L_83 (by decide) (by decide) ⟨by omega, by omega⟩ rfl rfl (Nat.le_of_ble_eq_true rfl) (dall tdL_9 34 rfl) ?_
  refine r_aload_n C 2 (dall tdL_9 35 rfl) rfl ?_
  refine r_aload_n C 0 (dall tdL_9 36 rfl) rfl ?_
  refine r_iload_n C 3 (dall tdL_9 37 rfl) rfl ?_
  refine r_iconst (v := 1) C (dall tdL_9 38 rfl) (by decide) ?_
  refine r_iadd C (dall tdL_9 39 rfl) ?_
  refine r_sld C hX hbl hbA (hv 1 (by decide)) (dall tdL_10 0 rfl) ?_
  refine lm_I (as := [.int (xs (i3 + 1).toNatClampNeg)]) C (zX6_key cy q6 σ (xs (i3 + 1).toNatClampNeg) o6) mv_X6_key km_L_86 (by decide) (by decide) ⟨by omega, by omega⟩ rfl rfl (Nat.le_of_ble_eq_true rfl) (dall tdL_10 1 rfl) ?_
  refine r_icmp_eq (tgt := 1191) C (dall tdL_10 2 rfl) (by decide) (fun _ => ?_) (fun hne => absurd he hne)
  exact kk _ _ _ _ _ (by omega) (by omega) hr2
def PS_add (Rel : TX → XS → OS → Prop) : Prop := ∀ (τ : TX) (ξ : XS) (σ : OS) (x1_ : Int32) (x2_ : Int32) (x3_ : Int32), Rel τ ξ σ → gX5_add τ ξ x1_ x2_ x3_ ∧ gX6_add σ x1_ x2_ x3_ ∧ (fX5_add τ ξ x1_ x2_ x3_).1 = (fX6_add σ x1_ x2_ x3_).1 ∧ Rel τ (fX5_add τ ξ x1_ x2_ x3_).2 (fX6_add σ x1_ x2_ x3_).2
set_option maxHeartbeats 4000000 in
set_option maxRecDepth 100000 in
theorem lc_add {Rel : TX → XS → OS → Prop} (hp : PS_add Rel) (C : Cx X cL_law RL 4 D (gty cy) A 100 600000 7302250) (hX : va_X b L xs X.1.2.2.2.2 X.1.2.2.2.2.heap) (hbl : b < X.1.2.2.2.2.heap.size) (hbA : ¬ A b) (hv : ∀ j : Int32, j = 1 ∨ j = 2 ∨ j = 3 ∨ j = 4 ∨ j = 5 → vp_in (i3 + j) L) (hcap : kc + 3 ≤ 600000 ∧ ks + 165 ≤ 7302250) {τ : TX} {ξ : XS} {σ : OS} (hr : Rel τ ξ σ) (kk : ∀ (kc' ks' : Nat) (τ' : TX) (ξ' : XS) (σ' : OS), kc' ≤ kc + 3 → ks' ≤ ks + 165 → Rel τ' ξ' σ' → At X D A 4 kc' ks' 1191 [(0, .ref b), (1, .ref (q 8)), (2, .ref (q6 41)), (3, .int i3)] [] (wX6 cy q6 σ' ++ wX5 cy q qn qt qk qr qs a τ' ξ')) : At X D A 4 kc ks 657 [(0, .ref b), (1, .ref (q 8)), (2, .ref (q6 41)), (3, .int i3)] [] (wX6 cy q6 σ ++ wX5 cy q qn qt qk qr qs a τ ξ) := by
  obtain ⟨o5, o6, he, hr2⟩ := hp τ ξ σ (xs (i3 + 1).toNatClampNeg) (xs (i3 + 2).toNatClampNeg) (xs (i3 + 3).toNatClampNeg) hr
  refine r_aload_n C 1 (dall tdL_10 5 rfl) rfl ?_
  refine r_aload_n C 0 (dall tdL_10 6 rfl) rfl ?_
  refine r_iload_n C 3 (dall tdL_10 7 rfl) rfl ?_
  refine r_iconst (v := 1) C (dall tdL_10 8 rfl) (by decide) ?_
  refine r_iadd C (dall tdL_10 9 rfl) ?_
  refine r_sld C hX hbl hbA (hv 1 (by decide)) (dall tdL_10 10 rfl) ?_
  refine r_aload_n C 0 (dall tdL_10 11 rfl) rfl ?_
  refine r_iload_n C 3 (dall tdL_10 12 rfl) rfl ?_
  refine r_iconst (v := 2) C (dall tdL_10 13 rfl) (by decide) ?_
  refine r_iadd C (dall tdL_10 14 rfl) ?_
  refine r_sld C hX hbl hbA (hv 2 (by decide)) (dall tdL_10 15 rfl) ?_
  refine r_aload_n C 0 (dall tdL_10 16 rfl) rfl ?_
  refine r_iload_n C 3 (dall tdL_10 17 rfl) rfl ?_
  refine r_iconst (v := 3) C (dall tdL_10 18 rfl) (by decide) ?_
  refine r_iadd C (dall tdL_10 19 rfl) ?_
  refine r_sld C hX hbl hbA (hv 3 (by decide)) (dall tdL_10 20 rfl) ?_
  refine lx_I (as := [.int (xs (i3 + 1).toNatClampNeg), .int (xs (i3 + 2).toNatClampNeg), .int (xs (i3 + 3).toNatClampNeg)]) C (zX5_add cy q qn qt qk qr qs a τ ξ (xs (i3 + 1).toNatClampNeg) (xs (i3 + 2).toNatClampNeg) (xs (i3 + 3).toNatClampNeg) o5) mv_X5_add km_L_87 (by decide) (by decide) ⟨by omega, by omega⟩ rfl rfl (Nat.le_of_ble_eq_true rfl) (dall tdL_10 21 rfl) ?_
  refine r_aload_n C 2 (dall tdL_10 22 rfl) rfl ?_
  refine r_aload_n C 0 (dall tdL_10 23 rfl) rfl ?_
  refine r_iload_n C 3 (dall tdL_10 24 rfl) rfl ?_
  refine r_iconst (v := 1) C (dall tdL_10 25 rfl) (by decide) ?_
  refine r_iadd C (dall tdL_10 26 rfl) ?_
  refine r_sld C hX hbl hbA (hv 1 (by decide)) (dall tdL_10 27 rfl) ?_
  refine r_aload_n C 0 (dall tdL_10 28 rfl) rfl ?_
  refine r_iload_n C 3 (dall tdL_10 29 rfl) rfl ?_
  refine r_iconst (v := 2) C (dall tdL_10 30 rfl) (by decide) ?_
  refine r_iadd C (dall tdL_10 31 rfl) ?_
  refine r_sld C hX hbl hbA (hv 2 (by decide)) (dall tdL_10 32 rfl) ?_
  refine r_aload_n C 0 (dall tdL_10 33 rfl) rfl ?_
  refine r_iload_n C 3 (dall tdL_10 34 rfl) rfl ?_
  refine r_iconst (v := 3) C (dall tdL_10 35 rfl) (by decide) ?_
  refine r_iadd C (dall tdL_10 36 rfl) ?_
  refine r_sld C hX hbl hbA (hv 3 (by decide)) (dall tdL_10 37 rfl) ?_
  refine lm_I (as := [.int (xs (i3 + 1).toNatClampNeg), .int (xs (i3 + 2).toNatClampNeg), .int (xs (i3 + 3).toNatClampNeg)]) C (zX6_add cy q6 σ (xs (i3 + 1).toNatClampNeg) (xs (i3 + 2).toNatClampNeg) (xs (i3 + 3).toNatClampNeg) o6) mv_X6_add km_L_90 (by decide) (by decide) ⟨by omega, by omega⟩ rfl rfl (Nat.le_of_ble_eq_true rfl) (dall tdL_10 38 rfl) ?_
  refine r_icmp_eq (tgt := 1191) C (dall tdL_10 39 rfl) (by decide) (fun _ => ?_) (fun hne => absurd he hne)
  exact kk _ _ _ _ _ (by omega) (by omega) hr2
def PS_share (Rel : TX → XS → OS → Prop) : Prop := ∀ (τ : TX) (ξ : XS) (σ : OS) (x1_ : Int32) (x2_ : Int32), Rel τ ξ σ → gX5_share τ ξ x1_ x2_ ∧ gX6_share σ x1_ x2_ ∧ (fX5_share τ ξ x1_ x2_) = (fX6_share σ x1_ x2_) ∧ Rel τ ξ σ
set_option maxHeartbeats 4000000 in
set_option maxRecDepth 100000 in
theorem lc_share {Rel : TX → XS → OS → Prop} (hp : PS_share Rel) (C : Cx X cL_law RL 4 D (gty cy) A 100 600000 7302250) (hX : va_X b L xs X.1.2.2.2.2 X.1.2.2.2.2.heap) (hbl : b < X.1.2.2.2.2.heap.size) (hbA : ¬ A b) (hv : ∀ j : Int32, j = 1 ∨ j = 2 ∨ j = 3 ∨ j = 4 ∨ j = 5 → vp_in (i3 + j) L) (hcap : kc + 3 ≤ 600000 ∧ ks + 165 ≤ 7302250) {τ : TX} {ξ : XS} {σ : OS} (hr : Rel τ ξ σ) (kk : ∀ (kc' ks' : Nat) (τ' : TX) (ξ' : XS) (σ' : OS), kc' ≤ kc + 3 → ks' ≤ ks + 165 → Rel τ' ξ' σ' → At X D A 4 kc' ks' 1191 [(0, .ref b), (1, .ref (q 8)), (2, .ref (q6 41)), (3, .int i3)] [] (wX6 cy q6 σ' ++ wX5 cy q qn qt qk qr qs a τ' ξ')) : At X D A 4 kc ks 700 [(0, .ref b), (1, .ref (q 8)), (2, .ref (q6 41)), (3, .int i3)] [] (wX6 cy q6 σ ++ wX5 cy q qn qt qk qr qs a τ ξ) := by
  obtain ⟨o5, o6, he, hr2⟩ := hp τ ξ σ (xs (i3 + 1).toNatClampNeg) (xs (i3 + 2).toNatClampNeg) hr
  refine r_aload_n C 1 (dall tdL_11 2 rfl) rfl ?_
  refine r_aload_n C 0 (dall tdL_11 3 rfl) rfl ?_
  refine r_iload_n C 3 (dall tdL_11 4 rfl) rfl ?_
  refine r_iconst (v := 1) C (dall tdL_11 5 rfl) (by decide) ?_
  refine r_iadd C (dall tdL_11 6 rfl) ?_
  refine r_sld C hX hbl hbA (hv 1 (by decide)) (dall tdL_11 7 rfl) ?_
  refine r_aload_n C 0 (dall tdL_11 8 rfl) rfl ?_
  refine r_iload_n C 3 (dall tdL_11 9 rfl) rfl ?_
  refine r_iconst (v := 2) C (dall tdL_11 10 rfl) (by decide) ?_
  refine r_iadd C (dall tdL_11 11 rfl) ?_
  refine r_sld C hX hbl hbA (hv 2 (by decide)) (dall tdL_11 12 rfl) ?_
  refine lx_L (as := [.int (xs (i3 + 1).toNatClampNeg), .int (xs (i3 + 2).toNatClampNeg)]) C (zX5_share cy q qn qt qk qr qs a τ ξ (xs (i3 + 1).toNatClampNeg) (xs (i3 + 2).toNatClampNeg) o5) mv_X5_share km_L_91 (by decide) (by decide) ⟨by omega, by omega⟩ rfl rfl (Nat.le_of_ble_eq_true rfl) (dall tdL_11 13 rfl) ?_
  refine r_aload_n C 2 (dall tdL_11 14 rfl) rfl ?_
  refine r_aload_n C 0 (dall tdL_11 15 rfl) rfl ?_
  refine r_iload_n C 3 (dall tdL_11 16 rfl) rfl ?_
  refine r_iconst (v := 1) C (dall tdL_11 17 rfl) (by decide) ?_
  refine r_iadd C (dall tdL_11 18 rfl) ?_
  refine r_sld C hX hbl hbA (hv 1 (by decide)) (dall tdL_11 19 rfl) ?_
  refine r_aload_n C 0 (dall tdL_11 20 rfl) rfl ?_
  refine r_iload_n C 3 (dall tdL_11 21 rfl) rfl ?_
  refine r_iconst (v := 2) C (dall tdL_11 22 rfl) (by decide) ?_
  refine r_iadd C (dall tdL_11 23 rfl) ?_
  refine r_sld C hX hbl hbA (hv 2 (by decide)) (dall tdL_11 24 rfl) ?_
  refine lm_L (as := [.int (xs (i3 + 1).toNatClampNeg), .int (xs (i3 + 2).toNatClampNeg)]) C (zX6_share cy q6 σ (xs (i3 + 1).toNatClampNeg) (xs (i3 + 2).toNatClampNeg) o6) mv_X6_share km_L_94 (by decide) (by decide) ⟨by omega, by omega⟩ rfl rfl (Nat.le_of_ble_eq_true rfl) (dall tdL_11 25 rfl) ?_
  refine r_lif_eq (tgt := 1191) C (dall tdL_11 26 rfl) (dall tdL_11 27 rfl) (by decide) (fun _ => ?_) (fun hne => absurd he hne)
  exact kk _ _ _ _ _ (by omega) (by omega) hr2
def PS_tells (Rel : TX → XS → OS → Prop) : Prop := ∀ (τ : TX) (ξ : XS) (σ : OS) (x1_ : Int32) (x2_ : Int32) (x3_ : Int32), Rel τ ξ σ → gX5_tells τ x1_.toNatClampNeg ξ x1_ x2_ x3_ ∧ gX6_tells σ x1_ x2_ x3_ ∧ (fX5_tells τ x1_.toNatClampNeg ξ x1_ x2_ x3_).1 = (fX6_tells σ x1_ x2_ x3_).1 ∧ Rel τ (fX5_tells τ x1_.toNatClampNeg ξ x1_ x2_ x3_).2 (fX6_tells σ x1_ x2_ x3_).2
set_option maxHeartbeats 4000000 in
set_option maxRecDepth 100000 in
theorem lc_tells {Rel : TX → XS → OS → Prop} (hp : PS_tells Rel) (C : Cx X cL_law RL 4 D (gty cy) A 100 600000 7302250) (hX : va_X b L xs X.1.2.2.2.2 X.1.2.2.2.2.heap) (hbl : b < X.1.2.2.2.2.heap.size) (hbA : ¬ A b) (hv : ∀ j : Int32, j = 1 ∨ j = 2 ∨ j = 3 ∨ j = 4 ∨ j = 5 → vp_in (i3 + j) L) (hcap : kc + 3 ≤ 600000 ∧ ks + 165 ≤ 7302250) {τ : TX} {ξ : XS} {σ : OS} (hr : Rel τ ξ σ) (kk : ∀ (kc' ks' : Nat) (τ' : TX) (ξ' : XS) (σ' : OS), kc' ≤ kc + 3 → ks' ≤ ks + 165 → Rel τ' ξ' σ' → At X D A 4 kc' ks' 1191 [(0, .ref b), (1, .ref (q 8)), (2, .ref (q6 41)), (3, .int i3)] [] (wX6 cy q6 σ' ++ wX5 cy q qn qt qk qr qs a τ' ξ')) : At X D A 4 kc ks 734 [(0, .ref b), (1, .ref (q 8)), (2, .ref (q6 41)), (3, .int i3)] [] (wX6 cy q6 σ ++ wX5 cy q qn qt qk qr qs a τ ξ) := by
  obtain ⟨o5, o6, he, hr2⟩ := hp τ ξ σ (xs (i3 + 1).toNatClampNeg) (xs (i3 + 2).toNatClampNeg) (xs (i3 + 3).toNatClampNeg) hr
  refine r_aload_n C 1 (dall tdL_11 30 rfl) rfl ?_
  refine r_aload_n C 0 (dall tdL_11 31 rfl) rfl ?_
  refine r_iload_n C 3 (dall tdL_11 32 rfl) rfl ?_
  refine r_iconst (v := 1) C (dall tdL_11 33 rfl) (by decide) ?_
  refine r_iadd C (dall tdL_11 34 rfl) ?_
  refine r_sld C hX hbl hbA (hv 1 (by decide)) (dall tdL_11 35 rfl) ?_
  refine r_aload_n C 0 (dall tdL_11 36 rfl) rfl ?_
  refine r_iload_n C 3 (dall tdL_11 37 rfl) rfl ?_
  refine r_iconst (v := 2) C (dall tdL_11 38 rfl) (by decide) ?_
  refine r_iadd C (dall tdL_11 39 rfl) ?_
  refine r_sld C hX hbl hbA (hv 2 (by decide)) (dall tdL_12 0 rfl) ?_
  refine r_aload_n C 0 (dall tdL_12 1 rfl) rfl ?_
  refine r_iload_n C 3 (dall tdL_12 2 rfl) rfl ?_
  refine r_iconst (v := 3) C (dall tdL_12 3 rfl) (by decide) ?_
  refine r_iadd C (dall tdL_12 4 rfl) ?_
  refine r_sld C hX hbl hbA (hv 3 (by decide)) (dall tdL_12 5 rfl) ?_
  refine lx_I (as := [.int (xs (i3 + 1).toNatClampNeg), .int (xs (i3 + 2).toNatClampNeg), .int (xs (i3 + 3).toNatClampNeg)]) C (zX5_tells cy q qn qt qk qr qs a τ (xs (i3 + 1).toNatClampNeg).toNatClampNeg ξ (xs (i3 + 1).toNatClampNeg) (xs (i3 + 2).toNatClampNeg) (xs (i3 + 3).toNatClampNeg) o5) mv_X5_tells km_L_95 (by decide) (by decide) ⟨by omega, by omega⟩ rfl rfl (Nat.le_of_ble_eq_true rfl) (dall tdL_12 6 rfl) ?_
  refine r_aload_n C 2 (dall tdL_12 7 rfl) rfl ?_
  refine r_aload_n C 0 (dall tdL_12 8 rfl) rfl ?_
  refine r_iload_n C 3 (dall tdL_12 9 rfl) rfl ?_
  refine r_iconst (v := 1) C (dall tdL_12 10 rfl) (by decide) ?_
  refine r_iadd C (dall tdL_12 11 rfl) ?_
  refine r_sld C hX hbl hbA (hv 1 (by decide)) (dall tdL_12 12 rfl) ?_
  refine r_aload_n C 0 (dall tdL_12 13 rfl) rfl ?_
  refine r_iload_n C 3 (dall tdL_12 14 rfl) rfl ?_
  refine r_iconst (v := 2) C (dall tdL_12 15 rfl) (by decide) ?_
  refine r_iadd C (dall tdL_12 16 rfl) ?_
  refine r_sld C hX hbl hbA (hv 2 (by decide)) (dall tdL_12 17 rfl) ?_
  refine r_aload_n C 0 (dall tdL_12 18 rfl) rfl ?_
  refine r_iload_n C 3 (dall tdL_12 19 rfl) rfl ?_
  refine r_iconst (v := 3) C (dall tdL_12 20 rfl) (by decide) ?_
  refine r_iadd C (dall tdL_12 21 rfl) ?_
  refine r_sld C hX hbl hbA (hv 3 (by decide)) (dall tdL_12 22 rfl) ?_
  refine lm_I (as := [.int (xs (i3 + 1).toNatClampNeg), .int (xs (i3 + 2).toNatClampNeg), .int (xs (i3 + 3).toNatClampNeg)]) C (zX6_tells cy q6 σ (xs (i3 + 1).toNatClampNeg) (xs (i3 + 2).toNatClampNeg) (xs (i3 + 3).toNatClampNeg) o6) mv_X6_tells km_L_98 (by decide) (by decide) ⟨by omega, by omega⟩ rfl rfl (Nat.le_of_ble_eq_true rfl) (dall tdL_12 23 rfl) ?_
  refine r_icmp_eq (tgt := 1191) C (dall tdL_12 24 rfl) (by decide) (fun _ => ?_) (fun hne => absurd he hne)
  exact kk _ _ _ _ _ (by omega) (by omega) hr2
def PS_film (Rel : TX → XS → OS → Prop) : Prop := ∀ (τ : TX) (ξ : XS) (σ : OS) (x1_ : Int32) (x2_ : Int32) (x3_ : Int32), Rel τ ξ σ → gX5_film τ x1_.toNatClampNeg ξ x1_ x2_ x3_ ∧ gX6_film σ x1_ x2_ x3_ ∧ (fX5_film τ x1_.toNatClampNeg ξ x1_ x2_ x3_).1 = (fX6_film σ x1_ x2_ x3_).1 ∧ Rel τ (fX5_film τ x1_.toNatClampNeg ξ x1_ x2_ x3_).2 (fX6_film σ x1_ x2_ x3_).2
set_option maxHeartbeats 4000000 in
set_option maxRecDepth 100000 in
theorem lc_film {Rel : TX → XS → OS → Prop} (hp : PS_film Rel) (C : Cx X cL_law RL 4 D (gty cy) A 100 600000 7302250) (hX : va_X b L xs X.1.2.2.2.2 X.1.2.2.2.2.heap) (hbl : b < X.1.2.2.2.2.heap.size) (hbA : ¬ A b) (hv : ∀ j : Int32, j = 1 ∨ j = 2 ∨ j = 3 ∨ j = 4 ∨ j = 5 → vp_in (i3 + j) L) (hcap : kc + 3 ≤ 600000 ∧ ks + 165 ≤ 7302250) {τ : TX} {ξ : XS} {σ : OS} (hr : Rel τ ξ σ) (kk : ∀ (kc' ks' : Nat) (τ' : TX) (ξ' : XS) (σ' : OS), kc' ≤ kc + 3 → ks' ≤ ks + 165 → Rel τ' ξ' σ' → At X D A 4 kc' ks' 1191 [(0, .ref b), (1, .ref (q 8)), (2, .ref (q6 41)), (3, .int i3)] [] (wX6 cy q6 σ' ++ wX5 cy q qn qt qk qr qs a τ' ξ')) : At X D A 4 kc ks 777 [(0, .ref b), (1, .ref (q 8)), (2, .ref (q6 41)), (3, .int i3)] [] (wX6 cy q6 σ ++ wX5 cy q qn qt qk qr qs a τ ξ) := by
  obtain ⟨o5, o6, he, hr2⟩ := hp τ ξ σ (xs (i3 + 1).toNatClampNeg) (xs (i3 + 2).toNatClampNeg) (xs (i3 + 3).toNatClampNeg) hr
  refine r_aload_n C 1 (dall tdL_12 27 rfl) rfl ?_
  refine r_aload_n C 0 (dall tdL_12 28 rfl) rfl ?_
  refine r_iload_n C 3 (dall tdL_12 29 rfl) rfl ?_
  refine r_iconst (v := 1) C (dall tdL_12 30 rfl) (by decide) ?_
  refine r_iadd C (dall tdL_12 31 rfl) ?_
  refine r_sld C hX hbl hbA (hv 1 (by decide)) (dall tdL_12 32 rfl) ?_
  refine r_aload_n C 0 (dall tdL_12 33 rfl) rfl ?_
  refine r_iload_n C 3 (dall tdL_12 34 rfl) rfl ?_
  refine r_iconst (v := 2) C (dall tdL_12 35 rfl) (by decide) ?_
  refine r_iadd C (dall tdL_12 36 rfl) ?_
  refine r_sld C hX hbl hbA (hv 2 (by decide)) (dall tdL_12 37 rfl) ?_
  refine r_aload_n C 0 (dall tdL_12 38 rfl) rfl ?_
  refine r_iload_n C 3 (dall tdL_12 39 rfl) rfl ?_
  refine r_iconst (v := 3) C (dall tdL_13 0 rfl) (by decide) ?_
  refine r_iadd C (dall tdL_13 1 rfl) ?_
  refine r_sld C hX hbl hbA (hv 3 (by decide)) (dall tdL_13 2 rfl) ?_
  refine lx_I (as := [.int (xs (i3 + 1).toNatClampNeg), .int (xs (i3 + 2).toNatClampNeg), .int (xs (i3 + 3).toNatClampNeg)]) C (zX5_film cy q qn qt qk qr qs a τ (xs (i3 + 1).toNatClampNeg).toNatClampNeg ξ (xs (i3 + 1).toNatClampNeg) (xs (i3 + 2).toNatClampNeg) (xs (i3 + 3).toNatClampNeg) o5) mv_X5_film km_L_99 (by decide) (by decide) ⟨by omega, by omega⟩ rfl rfl (Nat.le_of_ble_eq_true rfl) (dall tdL_13 3 rfl) ?_
  refine r_aload_n C 2 (dall tdL_13 4 rfl) rfl ?_
  refine r_aload_n C 0 (dall tdL_13 5 rfl) rfl ?_
  refine r_iload_n C 3 (dall tdL_13 6 rfl) rfl ?_
  refine r_iconst (v := 1) C (dall tdL_13 7 rfl) (by decide) ?_
  refine r_iadd C (dall tdL_13 8 rfl) ?_
  refine r_sld C hX hbl hbA (hv 1 (by decide)) (dall tdL_13 9 rfl) ?_
  refine r_aload_n C 0 (dall tdL_13 10 rfl) rfl ?_
  refine r_iload_n C 3 (dall tdL_13 11 rfl) rfl ?_
  refine r_iconst (v := 2) C (dall tdL_13 12 rfl) (by decide) ?_
  refine r_iadd C (dall tdL_13 13 rfl) ?_
  refine r_sld C hX hbl hbA (hv 2 (by decide)) (dall tdL_13 14 rfl) ?_
  refine r_aload_n C 0 (dall tdL_13 15 rfl) rfl ?_
  refine r_iload_n C 3 (dall tdL_13 16 rfl) rfl ?_
  refine r_iconst (v := 3) C (dall tdL_13 17 rfl) (by decide) ?_
  refine r_iadd C (dall tdL_13 18 rfl) ?_
  refine r_sld C hX hbl hbA (hv 3 (by decide)) (dall tdL_13 19 rfl) ?_
  refine lm_I (as := [.int (xs (i3 + 1).toNatClampNeg), .int (xs (i3 + 2).toNatClampNeg), .int (xs (i3 + 3).toNatClampNeg)]) C (zX6_film cy q6 σ (xs (i3 + 1).toNatClampNeg) (xs (i3 + 2).toNatClampNeg) (xs (i3 + 3).toNatClampNeg) o6) mv_X6_film km_L_102 (by decide) (by decide) ⟨by omega, by omega⟩ rfl rfl (Nat.le_of_ble_eq_true rfl) (dall tdL_13 20 rfl) ?_
  refine r_icmp_eq (tgt := 1191) C (dall tdL_13 21 rfl) (by decide) (fun _ => ?_) (fun hne => absurd he hne)
  exact kk _ _ _ _ _ (by omega) (by omega) hr2
def PS_drawn (Rel : TX → XS → OS → Prop) : Prop := ∀ (τ : TX) (ξ : XS) (σ : OS) (x1_ : Int32) (x2_ : Int32), Rel τ ξ σ → gX5_drawn τ ξ x1_ x2_ ∧ gX6_drawn σ x1_ x2_ ∧ (fX5_drawn τ ξ x1_ x2_).1 = (fX6_drawn σ x1_ x2_).1 ∧ Rel τ (fX5_drawn τ ξ x1_ x2_).2 (fX6_drawn σ x1_ x2_).2
set_option maxHeartbeats 4000000 in
set_option maxRecDepth 100000 in
theorem lc_drawn {Rel : TX → XS → OS → Prop} (hp : PS_drawn Rel) (C : Cx X cL_law RL 4 D (gty cy) A 100 600000 7302250) (hX : va_X b L xs X.1.2.2.2.2 X.1.2.2.2.2.heap) (hbl : b < X.1.2.2.2.2.heap.size) (hbA : ¬ A b) (hv : ∀ j : Int32, j = 1 ∨ j = 2 ∨ j = 3 ∨ j = 4 ∨ j = 5 → vp_in (i3 + j) L) (hcap : kc + 3 ≤ 600000 ∧ ks + 165 ≤ 7302250) {τ : TX} {ξ : XS} {σ : OS} (hr : Rel τ ξ σ) (kk : ∀ (kc' ks' : Nat) (τ' : TX) (ξ' : XS) (σ' : OS), kc' ≤ kc + 3 → ks' ≤ ks + 165 → Rel τ' ξ' σ' → At X D A 4 kc' ks' 1191 [(0, .ref b), (1, .ref (q 8)), (2, .ref (q6 41)), (3, .int i3)] [] (wX6 cy q6 σ' ++ wX5 cy q qn qt qk qr qs a τ' ξ')) : At X D A 4 kc ks 820 [(0, .ref b), (1, .ref (q 8)), (2, .ref (q6 41)), (3, .int i3)] [] (wX6 cy q6 σ ++ wX5 cy q qn qt qk qr qs a τ ξ) := by
  obtain ⟨o5, o6, he, hr2⟩ := hp τ ξ σ (xs (i3 + 1).toNatClampNeg) (xs (i3 + 2).toNatClampNeg) hr
  refine r_aload_n C 1 (dall tdL_13 24 rfl) rfl ?_
  refine r_aload_n C 0 (dall tdL_13 25 rfl) rfl ?_
  refine r_iload_n C 3 (dall tdL_13 26 rfl) rfl ?_
  refine r_iconst (v := 1) C (dall tdL_13 27 rfl) (by decide) ?_
  refine r_iadd C (dall tdL_13 28 rfl) ?_
  refine r_sld C hX hbl hbA (hv 1 (by decide)) (dall tdL_13 29 rfl) ?_
  refine r_aload_n C 0 (dall tdL_13 30 rfl) rfl ?_
  refine r_iload_n C 3 (dall tdL_13 31 rfl) rfl ?_
  refine r_iconst (v := 2) C (dall tdL_13 32 rfl) (by decide) ?_
  refine r_iadd C (dall tdL_13 33 rfl) ?_
  refine r_sld C hX hbl hbA (hv 2 (by decide)) (dall tdL_13 34 rfl) ?_
  refine lx_I (as := [.int (xs (i3 + 1).toNatClampNeg), .int (xs (i3 + 2).toNatClampNeg)]) C (zX5_drawn cy q qn qt qk qr qs a τ ξ (xs (i3 + 1).toNatClampNeg) (xs (i3 + 2).toNatClampNeg) o5) mv_X5_drawn km_L_103 (by decide) (by decide) ⟨by omega, by omega⟩ rfl rfl (Nat.le_of_ble_eq_true rfl) (dall tdL_13 35 rfl) ?_
  refine r_aload_n C 2 (dall tdL_13 36 rfl) rfl ?_
  refine r_aload_n C 0 (dall tdL_13 37 rfl) rfl ?_
  refine r_iload_n C 3 (dall tdL_13 38 rfl) rfl ?_
  refine r_iconst (v := 1) C (dall tdL_13 39 rfl) (by decide) ?_
  refine r_iadd C (dall tdL_14 0 rfl) ?_
  refine r_sld C hX hbl hbA (hv 1 (by decide)) (dall tdL_14 1 rfl) ?_
  refine r_aload_n C 0 (dall tdL_14 2 rfl) rfl ?_
  refine r_iload_n C 3 (dall tdL_14 3 rfl) rfl ?_
  refine r_iconst (v := 2) C (dall tdL_14 4 rfl) (by decide) ?_
  refine r_iadd C (dall tdL_14 5 rfl) ?_
  refine r_sld C hX hbl hbA (hv 2 (by decide)) (dall tdL_14 6 rfl) ?_
  refine lm_I (as := [.int (xs (i3 + 1).toNatClampNeg), .int (xs (i3 + 2).toNatClampNeg)]) C (zX6_drawn cy q6 σ (xs (i3 + 1).toNatClampNeg) (xs (i3 + 2).toNatClampNeg) o6) mv_X6_drawn km_L_106 (by decide) (by decide) ⟨by omega, by omega⟩ rfl rfl (Nat.le_of_ble_eq_true rfl) (dall tdL_14 7 rfl) ?_
  refine r_icmp_eq (tgt := 1191) C (dall tdL_14 8 rfl) (by decide) (fun _ => ?_) (fun hne => absurd he hne)
  exact kk _ _ _ _ _ (by omega) (by omega) hr2
def PS_chance (Rel : TX → XS → OS → Prop) : Prop := ∀ (τ : TX) (ξ : XS) (σ : OS) (x1_ : Int32) (x2_ : Int32) (x3_ : Int32) (x4_ : Int32), Rel τ ξ σ → gX5_chance τ ξ x1_ x2_ x3_ x4_ ∧ gX6_chance σ x1_ x2_ x3_ x4_ ∧ (fX5_chance τ ξ x1_ x2_ x3_ x4_).1 = (fX6_chance σ x1_ x2_ x3_ x4_).1 ∧ Rel τ (fX5_chance τ ξ x1_ x2_ x3_ x4_).2 (fX6_chance σ x1_ x2_ x3_ x4_).2
set_option maxHeartbeats 4000000 in
set_option maxRecDepth 100000 in
theorem lc_chance {Rel : TX → XS → OS → Prop} (hp : PS_chance Rel) (C : Cx X cL_law RL 4 D (gty cy) A 100 600000 7302250) (hX : va_X b L xs X.1.2.2.2.2 X.1.2.2.2.2.heap) (hbl : b < X.1.2.2.2.2.heap.size) (hbA : ¬ A b) (hv : ∀ j : Int32, j = 1 ∨ j = 2 ∨ j = 3 ∨ j = 4 ∨ j = 5 → vp_in (i3 + j) L) (hcap : kc + 3 ≤ 600000 ∧ ks + 165 ≤ 7302250) {τ : TX} {ξ : XS} {σ : OS} (hr : Rel τ ξ σ) (kk : ∀ (kc' ks' : Nat) (τ' : TX) (ξ' : XS) (σ' : OS), kc' ≤ kc + 3 → ks' ≤ ks + 165 → Rel τ' ξ' σ' → At X D A 4 kc' ks' 1191 [(0, .ref b), (1, .ref (q 8)), (2, .ref (q6 41)), (3, .int i3)] [] (wX6 cy q6 σ' ++ wX5 cy q qn qt qk qr qs a τ' ξ')) : At X D A 4 kc ks 853 [(0, .ref b), (1, .ref (q 8)), (2, .ref (q6 41)), (3, .int i3)] [] (wX6 cy q6 σ ++ wX5 cy q qn qt qk qr qs a τ ξ) := by
  obtain ⟨o5, o6, he, hr2⟩ := hp τ ξ σ (xs (i3 + 1).toNatClampNeg) (xs (i3 + 2).toNatClampNeg) (xs (i3 + 3).toNatClampNeg) (xs (i3 + 4).toNatClampNeg) hr
  refine r_aload_n C 1 (dall tdL_14 11 rfl) rfl ?_
  refine r_aload_n C 0 (dall tdL_14 12 rfl) rfl ?_
  refine r_iload_n C 3 (dall tdL_14 13 rfl) rfl ?_
  refine r_iconst (v := 1) C (dall tdL_14 14 rfl) (by decide) ?_
  refine r_iadd C (dall tdL_14 15 rfl) ?_
  refine r_sld C hX hbl hbA (hv 1 (by decide)) (dall tdL_14 16 rfl) ?_
  refine r_aload_n C 0 (dall tdL_14 17 rfl) rfl ?_
  refine r_iload_n C 3 (dall tdL_14 18 rfl) rfl ?_
  refine r_iconst (v := 2) C (dall tdL_14 19 rfl) (by decide) ?_
  refine r_iadd C (dall tdL_14 20 rfl) ?_
  refine r_sld C hX hbl hbA (hv 2 (by decide)) (dall tdL_14 21 rfl) ?_
  refine r_aload_n C 0 (dall tdL_14 22 rfl) rfl ?_
  refine r_iload_n C 3 (dall tdL_14 23 rfl) rfl ?_
  refine r_iconst (v := 3) C (dall tdL_14 24 rfl) (by decide) ?_
  refine r_iadd C (dall tdL_14 25 rfl) ?_
  refine r_sld C hX hbl hbA (hv 3 (by decide)) (dall tdL_14 26 rfl) ?_
  refine r_aload_n C 0 (dall tdL_14 27 rfl) rfl ?_
  refine r_iload_n C 3 (dall tdL_14 28 rfl) rfl ?_
  refine r_iconst (v := 4) C (dall tdL_14 29 rfl) (by decide) ?_
  refine r_iadd C (dall tdL_14 30 rfl) ?_
  refine r_sld C hX hbl hbA (hv 4 (by decide)) (dall tdL_14 31 rfl) ?_
  refine lx_L (as := [.int (xs (i3 + 1).toNatClampNeg), .int (xs (i3 + 2).toNatClampNeg), .int (xs (i3 + 3).toNatClampNeg), .int (xs (i3 + 4).toNatClampNeg)]) C (zX5_chance cy q qn qt qk qr qs a τ ξ (xs (i3 + 1).toNatClampNeg) (xs (i3 + 2).toNatClampNeg) (xs (i3 + 3).toNatClampNeg) (xs (i3 + 4).toNatClampNeg) o5) mv_X5_chance km_L_107 (by decide) (by decide) ⟨by omega, by omega⟩ rfl rfl (Nat.le_of_ble_eq_true rfl) (dall tdL_14 32 rfl) ?_
  refine r_aload_n C 2 (dall tdL_14 33 rfl) rfl ?_
  refine r_aload_n C 0 (dall tdL_14 34 rfl) rfl ?_
  refine r_iload_n C 3 (dall tdL_14 35 rfl) rfl ?_
  refine r_iconst (v := 1) C (dall tdL_14 36 rfl) (by decide) ?_
  refine r_iadd C (dall tdL_14 37 rfl) ?_
  refine r_sld C hX hbl hbA (hv 1 (by decide)) (dall tdL_14 38 rfl) ?_
  refine r_aload_n C 0 (dall tdL_14 39 rfl) rfl ?_
  refine r_iload_n C 3 (dall tdL_15 0 rfl) rfl ?_
  refine r_iconst (v := 2) C (dall tdL_15 1 rfl) (by decide) ?_
  refine r_iadd C (dall tdL_15 2 rfl) ?_
  refine r_sld C hX hbl hbA (hv 2 (by decide)) (dall tdL_15 3 rfl) ?_
  refine r_aload_n C 0 (dall tdL_15 4 rfl) rfl ?_
  refine r_iload_n C 3 (dall tdL_15 5 rfl) rfl ?_
  refine r_iconst (v := 3) C (dall tdL_15 6 rfl) (by decide) ?_
  refine r_iadd C (dall tdL_15 7 rfl) ?_
  refine r_sld C hX hbl hbA (hv 3 (by decide)) (dall tdL_15 8 rfl) ?_
  refine r_aload_n C 0 (dall tdL_15 9 rfl) rfl ?_
  refine r_iload_n C 3 (dall tdL_15 10 rfl) rfl ?_
  refine r_iconst (v := 4) C (dall tdL_15 11 rfl) (by decide) ?_
  refine r_iadd C (dall tdL_15 12 rfl) ?_
  refine r_sld C hX hbl hbA (hv 4 (by decide)) (dall tdL_15 13 rfl) ?_
  refine lm_L (as := [.int (xs (i3 + 1).toNatClampNeg), .int (xs (i3 + 2).toNatClampNeg), .int (xs (i3 + 3).toNatClampNeg), .int (xs (i3 + 4).toNatClampNeg)]) C (zX6_chance cy q6 σ (xs (i3 + 1).toNatClampNeg) (xs (i3 + 2).toNatClampNeg) (xs (i3 + 3).toNatClampNeg) (xs (i3 + 4).toNatClampNeg) o6) mv_X6_chance km_L_111 (by decide) (by decide) ⟨by omega, by omega⟩ rfl rfl (Nat.le_of_ble_eq_true rfl) (dall tdL_15 14 rfl) ?_
  refine r_lif_eq (tgt := 1191) C (dall tdL_15 15 rfl) (dall tdL_15 16 rfl) (by decide) (fun _ => ?_) (fun hne => absurd he hne)
  exact kk _ _ _ _ _ (by omega) (by omega) hr2
def PS_image (Rel : TX → XS → OS → Prop) : Prop := ∀ (τ : TX) (ξ : XS) (σ : OS) , Rel τ ξ σ → gX5_image τ ξ  ∧ gX6_image σ  ∧ (fX5_image τ ξ ).1 = (fX6_image σ ).1 ∧ Rel τ (fX5_image τ ξ ).2 (fX6_image σ ).2
set_option maxHeartbeats 4000000 in
set_option maxRecDepth 100000 in
theorem lc_image {Rel : TX → XS → OS → Prop} (hp : PS_image Rel) (C : Cx X cL_law RL 4 D (gty cy) A 100 600000 7302250) (hX : va_X b L xs X.1.2.2.2.2 X.1.2.2.2.2.heap) (hbl : b < X.1.2.2.2.2.heap.size) (hbA : ¬ A b) (hv : ∀ j : Int32, j = 1 ∨ j = 2 ∨ j = 3 ∨ j = 4 ∨ j = 5 → vp_in (i3 + j) L) (hcap : kc + 3 ≤ 600000 ∧ ks + 165 ≤ 7302250) {τ : TX} {ξ : XS} {σ : OS} (hr : Rel τ ξ σ) (kk : ∀ (kc' ks' : Nat) (τ' : TX) (ξ' : XS) (σ' : OS), kc' ≤ kc + 3 → ks' ≤ ks + 165 → Rel τ' ξ' σ' → At X D A 4 kc' ks' 1191 [(0, .ref b), (1, .ref (q 8)), (2, .ref (q6 41)), (3, .int i3)] [] (wX6 cy q6 σ' ++ wX5 cy q qn qt qk qr qs a τ' ξ')) : At X D A 4 kc ks 907 [(0, .ref b), (1, .ref (q 8)), (2, .ref (q6 41)), (3, .int i3)] [] (wX6 cy q6 σ ++ wX5 cy q qn qt qk qr qs a τ ξ) := by
  obtain ⟨o5, o6, he, hr2⟩ := hp τ ξ σ  hr
  refine r_aload_n C 1 (dall tdL_15 19 rfl) rfl ?_
  refine lx_I (as := []) C (zX5_image cy q qn qt qk qr qs a τ ξ  o5) mv_X5_image km_L_112 (by decide) (by decide) ⟨by omega, by omega⟩ rfl rfl (Nat.le_of_ble_eq_true rfl) (dall tdL_15 20 rfl) ?_
  refine r_aload_n C 2 (dall tdL_15 21 rfl) rfl ?_
  refine lm_I (as := []) C (zX6_image cy q6 σ  o6) mv_X6_image km_L_115 (by decide) (by decide) ⟨by omega, by omega⟩ rfl rfl (Nat.le_of_ble_eq_true rfl) (dall tdL_15 22 rfl) ?_
  refine r_icmp_eq (tgt := 1191) C (dall tdL_15 23 rfl) (by decide) (fun _ => ?_) (fun hne => absurd he hne)
  exact kk _ _ _ _ _ (by omega) (by omega) hr2
def PS_back (Rel : TX → XS → OS → Prop) : Prop := ∀ (τ : TX) (ξ : XS) (σ : OS) , Rel τ ξ σ → gX5_back τ ξ  ∧ gX6_back σ  ∧ (fX5_back τ ξ ).1 = (fX6_back σ ).1 ∧ Rel τ (fX5_back τ ξ ).2 (fX6_back σ ).2
set_option maxHeartbeats 4000000 in
set_option maxRecDepth 100000 in
theorem lc_back {Rel : TX → XS → OS → Prop} (hp : PS_back Rel) (C : Cx X cL_law RL 4 D (gty cy) A 100 600000 7302250) (hX : va_X b L xs X.1.2.2.2.2 X.1.2.2.2.2.heap) (hbl : b < X.1.2.2.2.2.heap.size) (hbA : ¬ A b) (hv : ∀ j : Int32, j = 1 ∨ j = 2 ∨ j = 3 ∨ j = 4 ∨ j = 5 → vp_in (i3 + j) L) (hcap : kc + 3 ≤ 600000 ∧ ks + 165 ≤ 7302250) {τ : TX} {ξ : XS} {σ : OS} (hr : Rel τ ξ σ) (kk : ∀ (kc' ks' : Nat) (τ' : TX) (ξ' : XS) (σ' : OS), kc' ≤ kc + 3 → ks' ≤ ks + 165 → Rel τ' ξ' σ' → At X D A 4 kc' ks' 1191 [(0, .ref b), (1, .ref (q 8)), (2, .ref (q6 41)), (3, .int i3)] [] (wX6 cy q6 σ' ++ wX5 cy q qn qt qk qr qs a τ' ξ')) : At X D A 4 kc ks 920 [(0, .ref b), (1, .ref (q 8)), (2, .ref (q6 41)), (3, .int i3)] [] (wX6 cy q6 σ ++ wX5 cy q qn qt qk qr qs a τ ξ) := by
  obtain ⟨o5, o6, he, hr2⟩ := hp τ ξ σ  hr
  refine r_aload_n C 1 (dall tdL_15 26 rfl) rfl ?_
  refine lx_I (as := []) C (zX5_back cy q qn qt qk qr qs a τ ξ  o5) mv_X5_back km_L_116 (by decide) (by decide) ⟨by omega, by omega⟩ rfl rfl (Nat.le_of_ble_eq_true rfl) (dall tdL_15 27 rfl) ?_
  refine r_aload_n C 2 (dall tdL_15 28 rfl) rfl ?_
  refine lm_I (as := []) C (zX6_back cy q6 σ  o6) mv_X6_back km_L_119 (by decide) (by decide) ⟨by omega, by omega⟩ rfl rfl (Nat.le_of_ble_eq_true rfl) (dall tdL_15 29 rfl) ?_
  refine r_icmp_eq (tgt := 1191) C (dall tdL_15 30 rfl) (by decide) (fun _ => ?_) (fun hne => absurd he hne)
  exact kk _ _ _ _ _ (by omega) (by omega) hr2
def PS_count (Rel : TX → XS → OS → Prop) : Prop := ∀ (τ : TX) (ξ : XS) (σ : OS) (x1_ : Int32), Rel τ ξ σ → gX5_count τ ξ x1_ ∧ gX6_count σ x1_ ∧ (fX5_count τ ξ x1_) = (fX6_count σ x1_) ∧ Rel τ ξ σ
set_option maxHeartbeats 4000000 in
set_option maxRecDepth 100000 in
theorem lc_count {Rel : TX → XS → OS → Prop} (hp : PS_count Rel) (C : Cx X cL_law RL 4 D (gty cy) A 100 600000 7302250) (hX : va_X b L xs X.1.2.2.2.2 X.1.2.2.2.2.heap) (hbl : b < X.1.2.2.2.2.heap.size) (hbA : ¬ A b) (hv : ∀ j : Int32, j = 1 ∨ j = 2 ∨ j = 3 ∨ j = 4 ∨ j = 5 → vp_in (i3 + j) L) (hcap : kc + 3 ≤ 600000 ∧ ks + 165 ≤ 7302250) {τ : TX} {ξ : XS} {σ : OS} (hr : Rel τ ξ σ) (kk : ∀ (kc' ks' : Nat) (τ' : TX) (ξ' : XS) (σ' : OS), kc' ≤ kc + 3 → ks' ≤ ks + 165 → Rel τ' ξ' σ' → At X D A 4 kc' ks' 1191 [(0, .ref b), (1, .ref (q 8)), (2, .ref (q6 41)), (3, .int i3)] [] (wX6 cy q6 σ' ++ wX5 cy q qn qt qk qr qs a τ' ξ')) : At X D A 4 kc ks 933 [(0, .ref b), (1, .ref (q 8)), (2, .ref (q6 41)), (3, .int i3)] [] (wX6 cy q6 σ ++ wX5 cy q qn qt qk qr qs a τ ξ) := by
  obtain ⟨o5, o6, he, hr2⟩ := hp τ ξ σ (xs (i3 + 1).toNatClampNeg) hr
  refine r_aload_n C 1 (dall tdL_15 33 rfl) rfl ?_
  refine r_aload_n C 0 (dall tdL_15 34 rfl) rfl ?_
  refine r_iload_n C 3 (dall tdL_15 35 rfl) rfl ?_
  refine r_iconst (v := 1) C (dall tdL_15 36 rfl) (by decide) ?_
  refine r_iadd C (dall tdL_15 37 rfl) ?_
  refine r_sld C hX hbl hbA (hv 1 (by decide)) (dall tdL_15 38 rfl) ?_
  refine lx_I (as := [.int (xs (i3 + 1).toNatClampNeg)]) C (zX5_count cy q qn qt qk qr qs a τ ξ (xs (i3 + 1).toNatClampNeg) o5) mv_X5_count km_L_120 (by decide) (by decide) ⟨by omega, by omega⟩ rfl rfl (Nat.le_of_ble_eq_true rfl) (dall tdL_15 39 rfl) ?_
  refine r_aload_n C 2 (dall tdL_16 0 rfl) rfl ?_
  refine r_aload_n C 0 (dall tdL_16 1 rfl) rfl ?_
  refine r_iload_n C 3 (dall tdL_16 2 rfl) rfl ?_
  refine r_iconst (v := 1) C (dall tdL_16 3 rfl) (by decide) ?_
  refine r_iadd C (dall tdL_16 4 rfl) ?_
  refine r_sld C hX hbl hbA (hv 1 (by decide)) (dall tdL_16 5 rfl) ?_
  refine lm_I (as := [.int (xs (i3 + 1).toNatClampNeg)]) C (zX6_count cy q6 σ (xs (i3 + 1).toNatClampNeg) o6) mv_X6_count km_L_123 (by decide) (by decide) ⟨by omega, by omega⟩ rfl rfl (Nat.le_of_ble_eq_true rfl) (dall tdL_16 6 rfl) ?_
  refine r_icmp_eq (tgt := 1191) C (dall tdL_16 7 rfl) (by decide) (fun _ => ?_) (fun hne => absurd he hne)
  exact kk _ _ _ _ _ (by omega) (by omega) hr2
def PS_sheet (Rel : TX → XS → OS → Prop) : Prop := ∀ (τ : TX) (ξ : XS) (σ : OS) (x1_ : Int32) (x2_ : Int32) (x3_ : Int32), Rel τ ξ σ → gX5_sheet τ x1_.toNatClampNeg ξ x1_ x2_ x3_ ∧ gX6_sheet σ x1_ x2_ x3_ ∧ (fX5_sheet τ x1_.toNatClampNeg ξ x1_ x2_ x3_).1 = (fX6_sheet σ x1_ x2_ x3_).1 ∧ Rel τ (fX5_sheet τ x1_.toNatClampNeg ξ x1_ x2_ x3_).2 (fX6_sheet σ x1_ x2_ x3_).2
set_option maxHeartbeats 4000000 in
set_option maxRecDepth 100000 in
theorem lc_sheet {Rel : TX → XS → OS → Prop} (hp : PS_sheet Rel) (C : Cx X cL_law RL 4 D (gty cy) A 100 600000 7302250) (hX : va_X b L xs X.1.2.2.2.2 X.1.2.2.2.2.heap) (hbl : b < X.1.2.2.2.2.heap.size) (hbA : ¬ A b) (hv : ∀ j : Int32, j = 1 ∨ j = 2 ∨ j = 3 ∨ j = 4 ∨ j = 5 → vp_in (i3 + j) L) (hcap : kc + 3 ≤ 600000 ∧ ks + 165 ≤ 7302250) {τ : TX} {ξ : XS} {σ : OS} (hr : Rel τ ξ σ) (kk : ∀ (kc' ks' : Nat) (τ' : TX) (ξ' : XS) (σ' : OS), kc' ≤ kc + 3 → ks' ≤ ks + 165 → Rel τ' ξ' σ' → At X D A 4 kc' ks' 1191 [(0, .ref b), (1, .ref (q 8)), (2, .ref (q6 41)), (3, .int i3)] [] (wX6 cy q6 σ' ++ wX5 cy q qn qt qk qr qs a τ' ξ')) : At X D A 4 kc ks 956 [(0, .ref b), (1, .ref (q 8)), (2, .ref (q6 41)), (3, .int i3)] [] (wX6 cy q6 σ ++ wX5 cy q qn qt qk qr qs a τ ξ) := by
  obtain ⟨o5, o6, he, hr2⟩ := hp τ ξ σ (xs (i3 + 1).toNatClampNeg) (xs (i3 + 2).toNatClampNeg) (xs (i3 + 3).toNatClampNeg) hr
  refine r_aload_n C 1 (dall tdL_16 10 rfl) rfl ?_
  refine r_aload_n C 0 (dall tdL_16 11 rfl) rfl ?_
  refine r_iload_n C 3 (dall tdL_16 12 rfl) rfl ?_
  refine r_iconst (v := 1) C (dall tdL_16 13 rfl) (by decide) ?_
  refine r_iadd C (dall tdL_16 14 rfl) ?_
  refine r_sld C hX hbl hbA (hv 1 (by decide)) (dall tdL_16 15 rfl) ?_
  refine r_aload_n C 0 (dall tdL_16 16 rfl) rfl ?_
  refine r_iload_n C 3 (dall tdL_16 17 rfl) rfl ?_
  refine r_iconst (v := 2) C (dall tdL_16 18 rfl) (by decide) ?_
  refine r_iadd C (dall tdL_16 19 rfl) ?_
  refine r_sld C hX hbl hbA (hv 2 (by decide)) (dall tdL_16 20 rfl) ?_
  refine r_aload_n C 0 (dall tdL_16 21 rfl) rfl ?_
  refine r_iload_n C 3 (dall tdL_16 22 rfl) rfl ?_
  refine r_iconst (v := 3) C (dall tdL_16 23 rfl) (by decide) ?_
  refine r_iadd C (dall tdL_16 24 rfl) ?_
  refine r_sld C hX hbl hbA (hv 3 (by decide)) (dall tdL_16 25 rfl) ?_
  refine lx_I (as := [.int (xs (i3 + 1).toNatClampNeg), .int (xs (i3 + 2).toNatClampNeg), .int (xs (i3 + 3).toNatClampNeg)]) C (zX5_sheet cy q qn qt qk qr qs a τ (xs (i3 + 1).toNatClampNeg).toNatClampNeg ξ (xs (i3 + 1).toNatClampNeg) (xs (i3 + 2).toNatClampNeg) (xs (i3 + 3).toNatClampNeg) o5) mv_X5_sheet km_L_124 (by decide) (by decide) ⟨by omega, by omega⟩ rfl rfl (Nat.le_of_ble_eq_true rfl) (dall tdL_16 26 rfl) ?_
  refine r_aload_n C 2 (dall tdL_16 27 rfl) rfl ?_
  refine r_aload_n C 0 (dall tdL_16 28 rfl) rfl ?_
  refine r_iload_n C 3 (dall tdL_16 29 rfl) rfl ?_
  refine r_iconst (v := 1) C (dall tdL_16 30 rfl) (by decide) ?_
  refine r_iadd C (dall tdL_16 31 rfl) ?_
  refine r_sld C hX hbl hbA (hv 1 (by decide)) (dall tdL_16 32 rfl) ?_
  refine r_aload_n C 0 (dall tdL_16 33 rfl) rfl ?_
  refine r_iload_n C 3 (dall tdL_16 34 rfl) rfl ?_
  refine r_iconst (v := 2) C (dall tdL_16 35 rfl) (by decide) ?_
  refine r_iadd C (dall tdL_16 36 rfl) ?_
  refine r_sld C hX hbl hbA (hv 2 (by decide)) (dall tdL_16 37 rfl) ?_
  refine r_aload_n C 0 (dall tdL_16 38 rfl) rfl ?_
  refine r_iload_n C 3 (dall tdL_16 39 rfl) rfl ?_
  refine r_iconst (v := 3) C (dall tdL_17 0 rfl) (by decide) ?_
  refine r_iadd C (dall tdL_17 1 rfl) ?_
  refine r_sld C hX hbl hbA (hv 3 (by decide)) (dall tdL_17 2 rfl) ?_
  refine lm_I (as := [.int (xs (i3 + 1).toNatClampNeg), .int (xs (i3 + 2).toNatClampNeg), .int (xs (i3 + 3).toNatClampNeg)]) C (zX6_sheet cy q6 σ (xs (i3 + 1).toNatClampNeg) (xs (i3 + 2).toNatClampNeg) (xs (i3 + 3).toNatClampNeg) o6) mv_X6_sheet km_L_127 (by decide) (by decide) ⟨by omega, by omega⟩ rfl rfl (Nat.le_of_ble_eq_true rfl) (dall tdL_17 3 rfl) ?_
  refine r_icmp_eq (tgt := 1191) C (dall tdL_17 4 rfl) (by decide) (fun _ => ?_) (fun hne => absurd he hne)
  exact kk _ _ _ _ _ (by omega) (by omega) hr2
def PS_cell (Rel : TX → XS → OS → Prop) : Prop := ∀ (τ : TX) (ξ : XS) (σ : OS) (x1_ : Int32) (x2_ : Int32) (x3_ : Int32), Rel τ ξ σ → gX5_cell τ x1_.toNatClampNeg ξ x1_ x2_ x3_ ∧ gX6_cell σ x1_ x2_ x3_ ∧ (fX5_cell τ x1_.toNatClampNeg ξ x1_ x2_ x3_).1 = (fX6_cell σ x1_ x2_ x3_).1 ∧ Rel τ (fX5_cell τ x1_.toNatClampNeg ξ x1_ x2_ x3_).2 (fX6_cell σ x1_ x2_ x3_).2
set_option maxHeartbeats 4000000 in
set_option maxRecDepth 100000 in
theorem lc_cell {Rel : TX → XS → OS → Prop} (hp : PS_cell Rel) (C : Cx X cL_law RL 4 D (gty cy) A 100 600000 7302250) (hX : va_X b L xs X.1.2.2.2.2 X.1.2.2.2.2.heap) (hbl : b < X.1.2.2.2.2.heap.size) (hbA : ¬ A b) (hv : ∀ j : Int32, j = 1 ∨ j = 2 ∨ j = 3 ∨ j = 4 ∨ j = 5 → vp_in (i3 + j) L) (hcap : kc + 3 ≤ 600000 ∧ ks + 165 ≤ 7302250) {τ : TX} {ξ : XS} {σ : OS} (hr : Rel τ ξ σ) (kk : ∀ (kc' ks' : Nat) (τ' : TX) (ξ' : XS) (σ' : OS), kc' ≤ kc + 3 → ks' ≤ ks + 165 → Rel τ' ξ' σ' → At X D A 4 kc' ks' 1191 [(0, .ref b), (1, .ref (q 8)), (2, .ref (q6 41)), (3, .int i3)] [] (wX6 cy q6 σ' ++ wX5 cy q qn qt qk qr qs a τ' ξ')) : At X D A 4 kc ks 999 [(0, .ref b), (1, .ref (q 8)), (2, .ref (q6 41)), (3, .int i3)] [] (wX6 cy q6 σ ++ wX5 cy q qn qt qk qr qs a τ ξ) := by
  obtain ⟨o5, o6, he, hr2⟩ := hp τ ξ σ (xs (i3 + 1).toNatClampNeg) (xs (i3 + 2).toNatClampNeg) (xs (i3 + 3).toNatClampNeg) hr
  refine r_aload_n C 1 (dall tdL_17 7 rfl) rfl ?_
  refine r_aload_n C 0 (dall tdL_17 8 rfl) rfl ?_
  refine r_iload_n C 3 (dall tdL_17 9 rfl) rfl ?_
  refine r_iconst (v := 1) C (dall tdL_17 10 rfl) (by decide) ?_
  refine r_iadd C (dall tdL_17 11 rfl) ?_
  refine r_sld C hX hbl hbA (hv 1 (by decide)) (dall tdL_17 12 rfl) ?_
  refine r_aload_n C 0 (dall tdL_17 13 rfl) rfl ?_
  refine r_iload_n C 3 (dall tdL_17 14 rfl) rfl ?_
  refine r_iconst (v := 2) C (dall tdL_17 15 rfl) (by decide) ?_
  refine r_iadd C (dall tdL_17 16 rfl) ?_
  refine r_sld C hX hbl hbA (hv 2 (by decide)) (dall tdL_17 17 rfl) ?_
  refine r_aload_n C 0 (dall tdL_17 18 rfl) rfl ?_
  refine r_iload_n C 3 (dall tdL_17 19 rfl) rfl ?_
  refine r_iconst (v := 3) C (dall tdL_17 20 rfl) (by decide) ?_
  refine r_iadd C (dall tdL_17 21 rfl) ?_
  refine r_sld C hX hbl hbA (hv 3 (by decide)) (dall tdL_17 22 rfl) ?_
  refine lx_I (as := [.int (xs (i3 + 1).toNatClampNeg), .int (xs (i3 + 2).toNatClampNeg), .int (xs (i3 + 3).toNatClampNeg)]) C (zX5_cell cy q qn qt qk qr qs a τ (xs (i3 + 1).toNatClampNeg).toNatClampNeg ξ (xs (i3 + 1).toNatClampNeg) (xs (i3 + 2).toNatClampNeg) (xs (i3 + 3).toNatClampNeg) o5) mv_X5_cell km_L_128 (by decide) (by decide) ⟨by omega, by omega⟩ rfl rfl (Nat.le_of_ble_eq_true rfl) (dall tdL_17 23 rfl) ?_
  refine r_aload_n C 2 (dall tdL_17 24 rfl) rfl ?_
  refine r_aload_n C 0 (dall tdL_17 25 rfl) rfl ?_
  refine r_iload_n C 3 (dall tdL_17 26 rfl) rfl ?_
  refine r_iconst (v := 1) C (dall tdL_17 27 rfl) (by decide) ?_
  refine r_iadd C (dall tdL_17 28 rfl) ?_
  refine r_sld C hX hbl hbA (hv 1 (by decide)) (dall tdL_17 29 rfl) ?_
  refine r_aload_n C 0 (dall tdL_17 30 rfl) rfl ?_
  refine r_iload_n C 3 (dall tdL_17 31 rfl) rfl ?_
  refine r_iconst (v := 2) C (dall tdL_17 32 rfl) (by decide) ?_
  refine r_iadd C (dall tdL_17 33 rfl) ?_
  refine r_sld C hX hbl hbA (hv 2 (by decide)) (dall tdL_17 34 rfl) ?_
  refine r_aload_n C 0 (dall tdL_17 35 rfl) rfl ?_
  refine r_iload_n C 3 (dall tdL_17 36 rfl) rfl ?_
  refine r_iconst (v := 3) C (dall tdL_17 37 rfl) (by decide) ?_
  refine r_iadd C (dall tdL_17 38 rfl) ?_
  refine r_sld C hX hbl hbA (hv 3 (by decide)) (dall tdL_17 39 rfl) ?_
  refine lm_I (as := [.int (xs (i3 + 1).toNatClampNeg), .int (xs (i3 + 2).toNatClampNeg), .int (xs (i3 + 3).toNatClampNeg)]) C (zX6_cell cy q6 σ (xs (i3 + 1).toNatClampNeg) (xs (i3 + 2).toNatClampNeg) (xs (i3 + 3).toNatClampNeg) o6) mv_X6_cell km_L_131 (by decide) (by decide) ⟨by omega, by omega⟩ rfl rfl (Nat.le_of_ble_eq_true rfl) (dall tdL_18 0 rfl) ?_
  refine r_icmp_eq (tgt := 1191) C (dall tdL_18 1 rfl) (by decide) (fun _ => ?_) (fun hne => absurd he hne)
  exact kk _ _ _ _ _ (by omega) (by omega) hr2
def PS_copy (Rel : TX → XS → OS → Prop) : Prop := ∀ (τ : TX) (ξ : XS) (σ : OS) (x1_ : Int32) (x2_ : Int32) (x3_ : Int32) (x4_ : Int32) (x5_ : Int32), Rel τ ξ σ → gX5_copy τ x1_.toNatClampNeg x3_.toNatClampNeg ξ x1_ x2_ x3_ x4_ x5_ ∧ gX6_copy σ x1_ x2_ x3_ x4_ x5_ ∧ (fX5_copy τ x1_.toNatClampNeg x3_.toNatClampNeg ξ x1_ x2_ x3_ x4_ x5_).1 = (fX6_copy σ x1_ x2_ x3_ x4_ x5_).1 ∧ Rel τ (fX5_copy τ x1_.toNatClampNeg x3_.toNatClampNeg ξ x1_ x2_ x3_ x4_ x5_).2 (fX6_copy σ x1_ x2_ x3_ x4_ x5_).2
set_option maxHeartbeats 4000000 in
set_option maxRecDepth 100000 in
theorem lc_copy {Rel : TX → XS → OS → Prop} (hp : PS_copy Rel) (C : Cx X cL_law RL 4 D (gty cy) A 100 600000 7302250) (hX : va_X b L xs X.1.2.2.2.2 X.1.2.2.2.2.heap) (hbl : b < X.1.2.2.2.2.heap.size) (hbA : ¬ A b) (hv : ∀ j : Int32, j = 1 ∨ j = 2 ∨ j = 3 ∨ j = 4 ∨ j = 5 → vp_in (i3 + j) L) (hcap : kc + 3 ≤ 600000 ∧ ks + 165 ≤ 7302250) {τ : TX} {ξ : XS} {σ : OS} (hr : Rel τ ξ σ) (kk : ∀ (kc' ks' : Nat) (τ' : TX) (ξ' : XS) (σ' : OS), kc' ≤ kc + 3 → ks' ≤ ks + 165 → Rel τ' ξ' σ' → At X D A 4 kc' ks' 1191 [(0, .ref b), (1, .ref (q 8)), (2, .ref (q6 41)), (3, .int i3)] [] (wX6 cy q6 σ' ++ wX5 cy q qn qt qk qr qs a τ' ξ')) : At X D A 4 kc ks 1042 [(0, .ref b), (1, .ref (q 8)), (2, .ref (q6 41)), (3, .int i3)] [] (wX6 cy q6 σ ++ wX5 cy q qn qt qk qr qs a τ ξ) := by
  obtain ⟨o5, o6, he, hr2⟩ := hp τ ξ σ (xs (i3 + 1).toNatClampNeg) (xs (i3 + 2).toNatClampNeg) (xs (i3 + 3).toNatClampNeg) (xs (i3 + 4).toNatClampNeg) (xs (i3 + 5).toNatClampNeg) hr
  refine r_aload_n C 1 (dall tdL_18 4 rfl) rfl ?_
  refine r_aload_n C 0 (dall tdL_18 5 rfl) rfl ?_
  refine r_iload_n C 3 (dall tdL_18 6 rfl) rfl ?_
  refine r_iconst (v := 1) C (dall tdL_18 7 rfl) (by decide) ?_
  refine r_iadd C (dall tdL_18 8 rfl) ?_
  refine r_sld C hX hbl hbA (hv 1 (by decide)) (dall tdL_18 9 rfl) ?_
  refine r_aload_n C 0 (dall tdL_18 10 rfl) rfl ?_
  refine r_iload_n C 3 (dall tdL_18 11 rfl) rfl ?_
  refine r_iconst (v := 2) C (dall tdL_18 12 rfl) (by decide) ?_
  refine r_iadd C (dall tdL_18 13 rfl) ?_
  refine r_sld C hX hbl hbA (hv 2 (by decide)) (dall tdL_18 14 rfl) ?_
  refine r_aload_n C 0 (dall tdL_18 15 rfl) rfl ?_
  refine r_iload_n C 3 (dall tdL_18 16 rfl) rfl ?_
  refine r_iconst (v := 3) C (dall tdL_18 17 rfl) (by decide) ?_
  refine r_iadd C (dall tdL_18 18 rfl) ?_
  refine r_sld C hX hbl hbA (hv 3 (by decide)) (dall tdL_18 19 rfl) ?_
  refine r_aload_n C 0 (dall tdL_18 20 rfl) rfl ?_
  refine r_iload_n C 3 (dall tdL_18 21 rfl) rfl ?_
  refine r_iconst (v := 4) C (dall tdL_18 22 rfl) (by decide) ?_
  refine r_iadd C (dall tdL_18 23 rfl) ?_
  refine r_sld C hX hbl hbA (hv 4 (by decide)) (dall tdL_18 24 rfl) ?_
  refine r_aload_n C 0 (dall tdL_18 25 rfl) rfl ?_
  refine r_iload_n C 3 (dall tdL_18 26 rfl) rfl ?_
  refine r_iconst (v := 5) C (dall tdL_18 27 rfl) (by decide) ?_
  refine r_iadd C (dall tdL_18 28 rfl) ?_
  refine r_sld C hX hbl hbA (hv 5 (by decide)) (dall tdL_18 29 rfl) ?_
  refine lx_I (as := [.int (xs (i3 + 1).toNatClampNeg), .int (xs (i3 + 2).toNatClampNeg), .int (xs (i3 + 3).toNatClampNeg), .int (xs (i3 + 4).toNatClampNeg), .int (xs (i3 + 5).toNatClampNeg)]) C (zX5_copy cy q qn qt qk qr qs a τ (xs (i3 + 1).toNatClampNeg).toNatClampNeg (xs (i3 + 3).toNatClampNeg).toNatClampNeg ξ (xs (i3 + 1).toNatClampNeg) (xs (i3 + 2).toNatClampNeg) (xs (i3 + 3).toNatClampNeg) (xs (i3 + 4).toNatClampNeg) (xs (i3 + 5).toNatClampNeg) o5) mv_X5_copy km_L_132 (by decide) (by decide) ⟨by omega, by omega⟩ rfl rfl (Nat.le_of_ble_eq_true rfl) (dall tdL_18 30 rfl) ?_
  refine r_aload_n C 2 (dall tdL_18 31 rfl) rfl ?_
  refine r_aload_n C 0 (dall tdL_18 32 rfl) rfl ?_
  refine r_iload_n C 3 (dall tdL_18 33 rfl) rfl ?_
  refine r_iconst (v := 1) C (dall tdL_18 34 rfl) (by decide) ?_
  refine r_iadd C (dall tdL_18 35 rfl) ?_
  refine r_sld C hX hbl hbA (hv 1 (by decide)) (dall tdL_18 36 rfl) ?_
  refine r_aload_n C 0 (dall tdL_18 37 rfl) rfl ?_
  refine r_iload_n C 3 (dall tdL_18 38 rfl) rfl ?_
  refine r_iconst (v := 2) C (dall tdL_18 39 rfl) (by decide) ?_
  refine r_iadd C (dall tdL_19 0 rfl) ?_
  refine r_sld C hX hbl hbA (hv 2 (by decide)) (dall tdL_19 1 rfl) ?_
  refine r_aload_n C 0 (dall tdL_19 2 rfl) rfl ?_
  refine r_iload_n C 3 (dall tdL_19 3 rfl) rfl ?_
  refine r_iconst (v := 3) C (dall tdL_19 4 rfl) (by decide) ?_
  refine r_iadd C (dall tdL_19 5 rfl) ?_
  refine r_sld C hX hbl hbA (hv 3 (by decide)) (dall tdL_19 6 rfl) ?_
  refine r_aload_n C 0 (dall tdL_19 7 rfl) rfl ?_
  refine r_iload_n C 3 (dall tdL_19 8 rfl) rfl ?_
  refine r_iconst (v := 4) C (dall tdL_19 9 rfl) (by decide) ?_
  refine r_iadd C (dall tdL_19 10 rfl) ?_
  refine r_sld C hX hbl hbA (hv 4 (by decide)) (dall tdL_19 11 rfl) ?_
  refine r_aload_n C 0 (dall tdL_19 12 rfl) rfl ?_
  refine r_iload_n C 3 (dall tdL_19 13 rfl) rfl ?_
  refine r_iconst (v := 5) C (dall tdL_19 14 rfl) (by decide) ?_
  refine r_iadd C (dall tdL_19 15 rfl) ?_
  refine r_sld C hX hbl hbA (hv 5 (by decide)) (dall tdL_19 16 rfl) ?_
  refine lm_I (as := [.int (xs (i3 + 1).toNatClampNeg), .int (xs (i3 + 2).toNatClampNeg), .int (xs (i3 + 3).toNatClampNeg), .int (xs (i3 + 4).toNatClampNeg), .int (xs (i3 + 5).toNatClampNeg)]) C (zX6_copy cy q6 σ (xs (i3 + 1).toNatClampNeg) (xs (i3 + 2).toNatClampNeg) (xs (i3 + 3).toNatClampNeg) (xs (i3 + 4).toNatClampNeg) (xs (i3 + 5).toNatClampNeg) o6) mv_X6_copy km_L_136 (by decide) (by decide) ⟨by omega, by omega⟩ rfl rfl (Nat.le_of_ble_eq_true rfl) (dall tdL_19 17 rfl) ?_
  refine r_icmp_eq (tgt := 1191) C (dall tdL_19 18 rfl) (by decide) (fun _ => ?_) (fun hne => absurd he hne)
  exact kk _ _ _ _ _ (by omega) (by omega) hr2
def PS_bag (Rel : TX → XS → OS → Prop) : Prop := ∀ (τ : TX) (ξ : XS) (σ : OS) (x1_ : Int32) (x2_ : Int32) (x3_ : Int32) (x4_ : Int32), Rel τ ξ σ → gX5_bag τ x1_.toNatClampNeg ξ x1_ x2_ x3_ x4_ ∧ gX6_bag σ x1_ x2_ x3_ x4_ ∧ (fX5_bag τ x1_.toNatClampNeg ξ x1_ x2_ x3_ x4_).1 = (fX6_bag σ x1_ x2_ x3_ x4_).1 ∧ Rel τ (fX5_bag τ x1_.toNatClampNeg ξ x1_ x2_ x3_ x4_).2 (fX6_bag σ x1_ x2_ x3_ x4_).2
set_option maxHeartbeats 4000000 in
set_option maxRecDepth 100000 in
theorem lc_bag {Rel : TX → XS → OS → Prop} (hp : PS_bag Rel) (C : Cx X cL_law RL 4 D (gty cy) A 100 600000 7302250) (hX : va_X b L xs X.1.2.2.2.2 X.1.2.2.2.2.heap) (hbl : b < X.1.2.2.2.2.heap.size) (hbA : ¬ A b) (hv : ∀ j : Int32, j = 1 ∨ j = 2 ∨ j = 3 ∨ j = 4 ∨ j = 5 → vp_in (i3 + j) L) (hcap : kc + 3 ≤ 600000 ∧ ks + 165 ≤ 7302250) {τ : TX} {ξ : XS} {σ : OS} (hr : Rel τ ξ σ) (kk : ∀ (kc' ks' : Nat) (τ' : TX) (ξ' : XS) (σ' : OS), kc' ≤ kc + 3 → ks' ≤ ks + 165 → Rel τ' ξ' σ' → At X D A 4 kc' ks' 1191 [(0, .ref b), (1, .ref (q 8)), (2, .ref (q6 41)), (3, .int i3)] [] (wX6 cy q6 σ' ++ wX5 cy q qn qt qk qr qs a τ' ξ')) : At X D A 4 kc ks 1105 [(0, .ref b), (1, .ref (q 8)), (2, .ref (q6 41)), (3, .int i3)] [] (wX6 cy q6 σ ++ wX5 cy q qn qt qk qr qs a τ ξ) := by
  obtain ⟨o5, o6, he, hr2⟩ := hp τ ξ σ (xs (i3 + 1).toNatClampNeg) (xs (i3 + 2).toNatClampNeg) (xs (i3 + 3).toNatClampNeg) (xs (i3 + 4).toNatClampNeg) hr
  refine r_aload_n C 1 (dall tdL_19 21 rfl) rfl ?_
  refine r_aload_n C 0 (dall tdL_19 22 rfl) rfl ?_
  refine r_iload_n C 3 (dall tdL_19 23 rfl) rfl ?_
  refine r_iconst (v := 1) C (dall tdL_19 24 rfl) (by decide) ?_
  refine r_iadd C (dall tdL_19 25 rfl) ?_
  refine r_sld C hX hbl hbA (hv 1 (by decide)) (dall tdL_19 26 rfl) ?_
  refine r_aload_n C 0 (dall tdL_19 27 rfl) rfl ?_
  refine r_iload_n C 3 (dall tdL_19 28 rfl) rfl ?_
  refine r_iconst (v := 2) C (dall tdL_19 29 rfl) (by decide) ?_
  refine r_iadd C (dall tdL_19 30 rfl) ?_
  refine r_sld C hX hbl hbA (hv 2 (by decide)) (dall tdL_19 31 rfl) ?_
  refine r_aload_n C 0 (dall tdL_19 32 rfl) rfl ?_
  refine r_iload_n C 3 (dall tdL_19 33 rfl) rfl ?_
  refine r_iconst (v := 3) C (dall tdL_19 34 rfl) (by decide) ?_
  refine r_iadd C (dall tdL_19 35 rfl) ?_
  refine r_sld C hX hbl hbA (hv 3 (by decide)) (dall tdL_19 36 rfl) ?_
  refine r_aload_n C 0 (dall tdL_19 37 rfl) rfl ?_
  refine r_iload_n C 3 (dall tdL_19 38 rfl) rfl ?_
  refine r_iconst (v := 4) C (dall tdL_19 39 rfl) (by decide) ?_
  refine r_iadd C (dall tdL_20 0 rfl) ?_
  refine r_sld C hX hbl hbA (hv 4 (by decide)) (dall tdL_20 1 rfl) ?_
  refine lx_I (as := [.int (xs (i3 + 1).toNatClampNeg), .int (xs (i3 + 2).toNatClampNeg), .int (xs (i3 + 3).toNatClampNeg), .int (xs (i3 + 4).toNatClampNeg)]) C (zX5_bag cy q qn qt qk qr qs a τ (xs (i3 + 1).toNatClampNeg).toNatClampNeg ξ (xs (i3 + 1).toNatClampNeg) (xs (i3 + 2).toNatClampNeg) (xs (i3 + 3).toNatClampNeg) (xs (i3 + 4).toNatClampNeg) o5) mv_X5_bag km_L_137 (by decide) (by decide) ⟨by omega, by omega⟩ rfl rfl (Nat.le_of_ble_eq_true rfl) (dall tdL_20 2 rfl) ?_
  refine r_aload_n C 2 (dall tdL_20 3 rfl) rfl ?_
  refine r_aload_n C 0 (dall tdL_20 4 rfl) rfl ?_
  refine r_iload_n C 3 (dall tdL_20 5 rfl) rfl ?_
  refine r_iconst (v := 1) C (dall tdL_20 6 rfl) (by decide) ?_
  refine r_iadd C (dall tdL_20 7 rfl) ?_
  refine r_sld C hX hbl hbA (hv 1 (by decide)) (dall tdL_20 8 rfl) ?_
  refine r_aload_n C 0 (dall tdL_20 9 rfl) rfl ?_
  refine r_iload_n C 3 (dall tdL_20 10 rfl) rfl ?_
  refine r_iconst (v := 2) C (dall tdL_20 11 rfl) (by decide) ?_
  refine r_iadd C (dall tdL_20 12 rfl) ?_
  refine r_sld C hX hbl hbA (hv 2 (by decide)) (dall tdL_20 13 rfl) ?_
  refine r_aload_n C 0 (dall tdL_20 14 rfl) rfl ?_
  refine r_iload_n C 3 (dall tdL_20 15 rfl) rfl ?_
  refine r_iconst (v := 3) C (dall tdL_20 16 rfl) (by decide) ?_
  refine r_iadd C (dall tdL_20 17 rfl) ?_
  refine r_sld C hX hbl hbA (hv 3 (by decide)) (dall tdL_20 18 rfl) ?_
  refine r_aload_n C 0 (dall tdL_20 19 rfl) rfl ?_
  refine r_iload_n C 3 (dall tdL_20 20 rfl) rfl ?_
  refine r_iconst (v := 4) C (dall tdL_20 21 rfl) (by decide) ?_
  refine r_iadd C (dall tdL_20 22 rfl) ?_
  refine r_sld C hX hbl hbA (hv 4 (by decide)) (dall tdL_20 23 rfl) ?_
  refine lm_I (as := [.int (xs (i3 + 1).toNatClampNeg), .int (xs (i3 + 2).toNatClampNeg), .int (xs (i3 + 3).toNatClampNeg), .int (xs (i3 + 4).toNatClampNeg)]) C (zX6_bag cy q6 σ (xs (i3 + 1).toNatClampNeg) (xs (i3 + 2).toNatClampNeg) (xs (i3 + 3).toNatClampNeg) (xs (i3 + 4).toNatClampNeg) o6) mv_X6_bag km_L_141 (by decide) (by decide) ⟨by omega, by omega⟩ rfl rfl (Nat.le_of_ble_eq_true rfl) (dall tdL_20 24 rfl) ?_
  refine r_icmp_eq (tgt := 1191) C (dall tdL_20 25 rfl) (by decide) (fun _ => ?_) (fun hne => absurd he hne)
  exact kk _ _ _ _ _ (by omega) (by omega) hr2
def PS_taken (Rel : TX → XS → OS → Prop) : Prop := ∀ (τ : TX) (ξ : XS) (σ : OS) (x1_ : Int32) (x2_ : Int32), Rel τ ξ σ → gX5_taken τ ξ x1_ x2_ ∧ gX6_taken σ x1_ x2_ ∧ (fX5_taken τ ξ x1_ x2_) = (fX6_taken σ x1_ x2_) ∧ Rel τ ξ σ
set_option maxHeartbeats 4000000 in
set_option maxRecDepth 100000 in
theorem lc_taken {Rel : TX → XS → OS → Prop} (hp : PS_taken Rel) (C : Cx X cL_law RL 4 D (gty cy) A 100 600000 7302250) (hX : va_X b L xs X.1.2.2.2.2 X.1.2.2.2.2.heap) (hbl : b < X.1.2.2.2.2.heap.size) (hbA : ¬ A b) (hv : ∀ j : Int32, j = 1 ∨ j = 2 ∨ j = 3 ∨ j = 4 ∨ j = 5 → vp_in (i3 + j) L) (hcap : kc + 3 ≤ 600000 ∧ ks + 165 ≤ 7302250) {τ : TX} {ξ : XS} {σ : OS} (hr : Rel τ ξ σ) (kk : ∀ (kc' ks' : Nat) (τ' : TX) (ξ' : XS) (σ' : OS), kc' ≤ kc + 3 → ks' ≤ ks + 165 → Rel τ' ξ' σ' → At X D A 4 kc' ks' 1191 [(0, .ref b), (1, .ref (q 8)), (2, .ref (q6 41)), (3, .int i3)] [] (wX6 cy q6 σ' ++ wX5 cy q qn qt qk qr qs a τ' ξ')) : At X D A 4 kc ks 1158 [(0, .ref b), (1, .ref (q 8)), (2, .ref (q6 41)), (3, .int i3)] [] (wX6 cy q6 σ ++ wX5 cy q qn qt qk qr qs a τ ξ) := by
  obtain ⟨o5, o6, he, hr2⟩ := hp τ ξ σ (xs (i3 + 1).toNatClampNeg) (xs (i3 + 2).toNatClampNeg) hr
  refine r_aload_n C 1 (dall tdL_20 28 rfl) rfl ?_
  refine r_aload_n C 0 (dall tdL_20 29 rfl) rfl ?_
  refine r_iload_n C 3 (dall tdL_20 30 rfl) rfl ?_
  refine r_iconst (v := 1) C (dall tdL_20 31 rfl) (by decide) ?_
  refine r_iadd C (dall tdL_20 32 rfl) ?_
  refine r_sld C hX hbl hbA (hv 1 (by decide)) (dall tdL_20 33 rfl) ?_
  refine r_aload_n C 0 (dall tdL_20 34 rfl) rfl ?_
  refine r_iload_n C 3 (dall tdL_20 35 rfl) rfl ?_
  refine r_iconst (v := 2) C (dall tdL_20 36 rfl) (by decide) ?_
  refine r_iadd C (dall tdL_20 37 rfl) ?_
  refine r_sld C hX hbl hbA (hv 2 (by decide)) (dall tdL_20 38 rfl) ?_
  refine lx_I (as := [.int (xs (i3 + 1).toNatClampNeg), .int (xs (i3 + 2).toNatClampNeg)]) C (zX5_taken cy q qn qt qk qr qs a τ ξ (xs (i3 + 1).toNatClampNeg) (xs (i3 + 2).toNatClampNeg) o5) mv_X5_taken km_L_142 (by decide) (by decide) ⟨by omega, by omega⟩ rfl rfl (Nat.le_of_ble_eq_true rfl) (dall tdL_20 39 rfl) ?_
  refine r_aload_n C 2 (dall tdL_21 0 rfl) rfl ?_
  refine r_aload_n C 0 (dall tdL_21 1 rfl) rfl ?_
  refine r_iload_n C 3 (dall tdL_21 2 rfl) rfl ?_
  refine r_iconst (v := 1) C (dall tdL_21 3 rfl) (by decide) ?_
  refine r_iadd C (dall tdL_21 4 rfl) ?_
  refine r_sld C hX hbl hbA (hv 1 (by decide)) (dall tdL_21 5 rfl) ?_
  refine r_aload_n C 0 (dall tdL_21 6 rfl) rfl ?_
  refine r_iload_n C 3 (dall tdL_21 7 rfl) rfl ?_
  refine r_iconst (v := 2) C (dall tdL_21 8 rfl) (by decide) ?_
  refine r_iadd C (dall tdL_21 9 rfl) ?_
  refine r_sld C hX hbl hbA (hv 2 (by decide)) (dall tdL_21 10 rfl) ?_
  refine lm_I (as := [.int (xs (i3 + 1).toNatClampNeg), .int (xs (i3 + 2).toNatClampNeg)]) C (zX6_taken cy q6 σ (xs (i3 + 1).toNatClampNeg) (xs (i3 + 2).toNatClampNeg) o6) mv_X6_taken km_L_145 (by decide) (by decide) ⟨by omega, by omega⟩ rfl rfl (Nat.le_of_ble_eq_true rfl) (dall tdL_21 11 rfl) ?_
  refine r_icmp_eq (tgt := 1191) C (dall tdL_21 12 rfl) (by decide) (fun _ => ?_) (fun hne => absurd he hne)
  exact kk _ _ _ _ _ (by omega) (by omega) hr2
end LawC

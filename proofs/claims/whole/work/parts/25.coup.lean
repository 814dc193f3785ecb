/-! ===== Couplings, at 99 ===== -/
/-- how many of the first n pairs (a, then c, 0 to 3) are in a set -/
def prs (s : Int) : Nat → Int
  | 0 => 0
  | n + 1 => prs s n + (if tb s (((n / 4) * 5 + n % 4 : Nat) : Int) then 1 else 0)
theorem prs_le (s : Int) : ∀ n, 0 ≤ prs s n ∧ prs s n ≤ n
  | 0 => by simp [prs]
  | n + 1 => by
    have := prs_le s n
    unfold prs
    split <;> omega
section
variable {V : Nat → Int → Int} {b : Bool}
theorem ct_X1_pairsIn {s : Int} (hs : 0 ≤ s ∧ s ≤ 2147483647) : yC 2 mX1_pairsIn [.int (iI s)] V b (pR b V (fun q => q = prs s 16)) := by
  have loop : ∀ (k a c : Nat), a < 4 → c ≤ 4 → (4 - a) * 5 - c ≤ k → yE 2 (pR b V (fun q => q = prs s 16)) mX1_pairsIn 11 [some (.int (iI s)), some (.int (iI (prs s (4 * a + c)))), some (.int (iI (a : Nat))), some (.int (iI (c : Nat)))] [] V b := by
    intro k
    induction k with
    | zero => intro a c h1 h2 h3; omega
    | succ k ih =>
      intro a c h1 h2 h3
      have hp := prs_le s (4 * a + c)
      have hs1 := s1_pos ((a : Int) * 5 + c)
      have hs2 := s1_le (n := (a : Int) * 5 + c) (by omega)
      have n1 := bAnd_nn s (s1 ((a : Int) * 5 + c))
      have n2 := bAnd_le (x := s) (y := s1 ((a : Int) * 5 + c)) (by omega)
      have n3 := bAnd_s1 s ((a : Int) * 5 + c)
      have e : c < 4 → prs s (4 * a + (c + 1)) = prs s (4 * a + c) + (if tb s ((a : Int) * 5 + c) then 1 else 0) := fun hc => by
        rw [show 4 * a + (c + 1) = (4 * a + c) + 1 by omega, prs]
        rw [show (((4 * a + c) / 4) * 5 + (4 * a + c) % 4 : Nat) = a * 5 + c by omega]
        simp only [Int.natCast_add, Int.natCast_mul]
        rfl
      refine z_iload_n dX1_pairsIn_11 rfl ?_
      refine y_iconst dX1_pairsIn_12 ?_
      refine y_icmp_ge dX1_pairsIn_13 (by omega) (by omega) (fun c_13 => ?_) (fun c_13 => ?_)
      · have hc4 : c = 4 := by omega
        subst hc4
        refine y_iinc dX1_pairsIn_35 rfl (by decide) rfl rfl ?_
        refine z_goto dX1_pairsIn_38 ?_
        refine z_iload_n dX1_pairsIn_4 rfl ?_
        refine y_iconst dX1_pairsIn_5 ?_
        refine y_icmp_ge dX1_pairsIn_6 (by omega) (by omega) (fun c_6 => ?_) (fun c_6 => ?_)
        · refine z_iload_n dX1_pairsIn_41 rfl ?_
          exact z_iret dX1_pairsIn_42 rfl (Nat.le_refl 0) (Nat.le_refl 0) ⟨_, rfl, rfl, by rw [show a = 3 by omega]⟩
        · refine y_iconst dX1_pairsIn_9 ?_
          refine z_istore_n dX1_pairsIn_10 (by decide) rfl rfl ?_
          exact ih (a + 1) 0 (by omega) (by omega) (by omega)
      · refine z_iload_n dX1_pairsIn_16 rfl ?_
        refine z_iload_n dX1_pairsIn_17 rfl ?_
        refine z_iload_n dX1_pairsIn_18 rfl ?_
        refine y_callSr (ct_X9_pairBit (by omega)) kX1_21 dX1_pairsIn_19 rfl rfl (by decide) rfl (Nat.le_of_ble_eq_true rfl) (fun r_19 h_19 => ?_)
        subst h_19
        refine y_iand dX1_pairsIn_22 (by omega) (by omega) ?_
        refine y_if_eq dX1_pairsIn_23 (by omega) (fun c_23 => ?_) (fun c_23 => ?_)
        · have e2 : prs s (4 * a + (c + 1)) = prs s (4 * a + c) := by rw [e (by omega), n3.1 c_23]; simp
          have hih := ih a (c + 1) h1 (by omega) (by omega)
          rw [e2] at hih
          refine y_iinc dX1_pairsIn_29 rfl (by decide) rfl rfl ?_
          refine z_goto dX1_pairsIn_32 ?_
          exact hih
        · have e2 : prs s (4 * a + (c + 1)) = prs s (4 * a + c) + 1 := by
            have h4 : tb s ((a : Int) * 5 + c) = true := by cases h5 : tb s ((a : Int) * 5 + c) with | true => rfl | false => exact absurd (n3.2 h5) c_23
            rw [e (by omega), h4]; simp
          have hih := ih a (c + 1) h1 (by omega) (by omega)
          rw [e2] at hih
          refine y_iinc dX1_pairsIn_26 rfl (by decide) rfl rfl ?_
          refine y_iinc dX1_pairsIn_29 rfl (by decide) rfl rfl ?_
          refine z_goto dX1_pairsIn_32 ?_
          exact hih
  have h0 := loop 20 0 0 (by omega) (by omega) (by omega)
  refine zC_of (by decide +kernel) (Nat.le_of_ble_eq_true rfl) rfl ?_
  refine y_iconst dX1_pairsIn_0 ?_
  refine z_istore_n dX1_pairsIn_1 (by decide) rfl rfl ?_
  refine y_iconst dX1_pairsIn_2 ?_
  refine z_istore_n dX1_pairsIn_3 (by decide) rfl rfl ?_
  refine z_iload_n dX1_pairsIn_4 rfl ?_
  refine y_iconst dX1_pairsIn_5 ?_
  refine y_icmp_ge dX1_pairsIn_6 (by omega) (by omega) (fun c_6 => ?_) (fun c_6 => ?_)
  · omega
  · refine y_iconst dX1_pairsIn_9 ?_
    refine z_istore_n dX1_pairsIn_10 (by decide) rfl rfl ?_
    exact h0
theorem ct_X1_circusKicked (hs : 0 ≤ V 99 2 ∧ V 99 2 ≤ 2147483647) : yC 3 mX1_circusKicked [.ref 99] V b (pR b V (fun q => (prs (V 99 2) 16 < (popN (V 99 2).toNat 32 : Nat) ∧ q = 1) ∨ ((popN (V 99 2).toNat 32 : Nat) ≤ prs (V 99 2) 16 ∧ q = 0))) := by
  have hp := prs_le (V 99 2) 16
  have hq : ∀ n : Nat, popN (V 99 2).toNat n ≤ n := by
    intro n
    induction n with
    | zero => simp [popN]
    | succ n ih => unfold popN; split <;> omega
  have hq2 := hq 32
  refine zC_of (by decide +kernel) (Nat.le_of_ble_eq_true rfl) rfl ?_
  refine z_aload_n dX1_circusKicked_0 rfl ?_
  refine y_getI (j := 2) fX1_18 dX1_circusKicked_1 rfl (by first | assumption | rfl) ?_
  refine y_callSr (ct_J6_bitCount (by omega)) kX1_38 dX1_circusKicked_4 rfl rfl (by decide) rfl (Nat.le_of_ble_eq_true rfl) (fun r_4 h_4 => ?_)
  refine z_aload_n dX1_circusKicked_7 rfl ?_
  refine y_getI (j := 2) fX1_18 dX1_circusKicked_8 rfl (by first | assumption | rfl) ?_
  refine y_callSr (ct_X1_pairsIn (by omega)) kX1_31 dX1_circusKicked_11 rfl rfl (by decide) rfl (Nat.le_of_ble_eq_true rfl) (fun r_11 h_11 => ?_)
  refine y_icmp_le dX1_circusKicked_14 (by omega) (by omega) (fun c_14 => ?_) (fun c_14 => ?_)
  · refine y_iconst dX1_circusKicked_21 ?_
    exact y_zret dX1_circusKicked_22 rfl (by omega) (Nat.le_refl 0) (Nat.le_refl 0) ⟨_, rfl, rfl, by omega⟩
  · refine y_iconst dX1_circusKicked_17 ?_
    refine z_goto dX1_circusKicked_18 ?_
    exact y_zret dX1_circusKicked_22 rfl (by omega) (Nat.le_refl 0) (Nat.le_refl 0) ⟨_, rfl, rfl, by omega⟩
theorem ct_X1_leastLaw (hs : 0 ≤ V 99 2 ∧ V 99 2 ≤ 2147483647) : yC 4 mX1_leastLaw [.ref 99] V b (pR b V (fun q => (prs (V 99 2) 16 < (popN (V 99 2).toNat 32 : Nat) ∧ q = -1) ∨ ((popN (V 99 2).toNat 32 : Nat) ≤ prs (V 99 2) 16 ∧ q = prs (V 99 2) 16))) := by
  refine zC_of (by decide +kernel) (Nat.le_of_ble_eq_true rfl) rfl ?_
  refine z_aload_n dX1_leastLaw_0 rfl ?_
  refine y_callVr (ct_X1_circusKicked (by omega)) kX1_27 dX1_leastLaw_1 rfl rfl (by first | assumption | rfl) rfl (by decide) rfl (Nat.le_of_ble_eq_true rfl) (fun r_1 h_1 => ?_)
  refine y_if_eq dX1_leastLaw_4 (by omega) (fun c_4 => ?_) (fun c_4 => ?_)
  · refine z_aload_n dX1_leastLaw_11 rfl ?_
    refine y_getI (j := 2) fX1_18 dX1_leastLaw_12 rfl (by first | assumption | rfl) ?_
    refine y_callSr (ct_X1_pairsIn (by omega)) kX1_31 dX1_leastLaw_15 rfl rfl (by decide) rfl (Nat.le_of_ble_eq_true rfl) (fun r_15 h_15 => ?_)
    exact z_iret dX1_leastLaw_18 rfl (Nat.le_refl 0) (Nat.le_refl 0) ⟨_, rfl, rfl, by omega⟩
  · refine y_iconst dX1_leastLaw_7 ?_
    refine z_goto dX1_leastLaw_8 ?_
    exact z_iret dX1_leastLaw_18 rfl (Nat.le_refl 0) (Nat.le_refl 0) ⟨_, rfl, rfl, by omega⟩
/-- ways to choose, step by step -/
def chX (n k : Int) : Nat → Int
  | 0 => 1
  | j + 1 => chX n k j * (n - k + (j + 1 : Nat)) / (j + 1 : Nat)
theorem chX_rg : ∀ n : Nat, n ≤ 16 → ∀ k : Nat, k ≤ n → ∀ j : Nat, j ≤ k → 1 ≤ chX n k j ∧ chX n k j ≤ 20000 := by decide +kernel
theorem ct_X1_choose {n k : Int} (hn : 0 ≤ n ∧ n ≤ 16) (hk : -100 ≤ k ∧ k ≤ 100) : yC 1 mX1_choose [.int (iI n), .int (iI k)] V b (pR b V (fun q => q = if 0 ≤ k ∧ k ≤ n then chX n k k.toNat else 0)) := by
  have loop : ∀ (m j : Nat), 0 ≤ k → k ≤ n → (j : Int) + m = k → yE 1 (pR b V (fun q => q = if 0 ≤ k ∧ k ≤ n then chX n k k.toNat else 0)) mX1_choose 15 [some (.int (iI n)), some (.int (iI k)), some (.int (iI (chX n k j))), some (.int (iI (1 + (j : Nat))))] [] V b := by
    intro m
    induction m with
    | zero =>
      intro j h1 h2 h3
      refine z_iload_n dX1_choose_15 rfl ?_
      refine z_iload_n dX1_choose_16 rfl ?_
      refine y_icmp_gt dX1_choose_17 (by omega) (by omega) (fun c_17 => ?_) (fun c_17 => ?_)
      · refine z_iload_n dX1_choose_36 rfl ?_
        exact z_iret dX1_choose_37 rfl (Nat.le_refl 0) (Nat.le_refl 0) ⟨_, rfl, rfl, by rw [if_pos ⟨h1, h2⟩, show k.toNat = j by omega]⟩
      · omega
    | succ m ih =>
      intro j h1 h2 h3
      have hr := chX_rg n.toNat (by omega) k.toNat (by omega) j (by omega)
      rw [Int.toNat_of_nonneg hn.1, Int.toNat_of_nonneg h1] at hr
      have hih := ih (j + 1) h1 h2 (by omega)
      have hm : 0 ≤ chX n k j * (n - k + (1 + (j : Int))) ∧ chX n k j * (n - k + (1 + (j : Int))) ≤ 2147483647 := by
        have a1 : 0 ≤ n - k + (1 + (j : Int)) ∧ n - k + (1 + (j : Int)) ≤ 17 := by omega
        constructor
        · exact Int.mul_nonneg (by omega) a1.1
        · have := Int.mul_le_mul hr.2 a1.2 a1.1 (by omega)
          omega
      have e : chX n k (j + 1) = chX n k j * (n - k + (1 + (j : Int))) / (1 + (j : Int)) := by
        show chX n k j * (n - k + ((j + 1 : Nat) : Int)) / ((j + 1 : Nat) : Int) = _
        rw [show ((j + 1 : Nat) : Int) = 1 + (j : Int) by omega]
      rw [e, show (1 : Int) + ((j + 1 : Nat) : Int) = 1 + (j : Int) + 1 by omega] at hih
      refine z_iload_n dX1_choose_15 rfl ?_
      refine z_iload_n dX1_choose_16 rfl ?_
      refine y_icmp_gt dX1_choose_17 (by omega) (by omega) (fun c_17 => ?_) (fun c_17 => ?_)
      · omega
      · refine z_iload_n dX1_choose_20 rfl ?_
        refine z_iload_n dX1_choose_21 rfl ?_
        refine z_iload_n dX1_choose_22 rfl ?_
        refine y_isub dX1_choose_23 ?_
        refine z_iload_n dX1_choose_24 rfl ?_
        refine y_iadd dX1_choose_25 ?_
        refine y_imul dX1_choose_26 ?_
        refine z_iload_n dX1_choose_27 rfl ?_
        refine y_idiv dX1_choose_28 (by omega) (by omega) ?_
        refine z_istore_n dX1_choose_29 (by decide) rfl rfl ?_
        refine y_iinc dX1_choose_30 rfl (by decide) rfl rfl ?_
        refine z_goto dX1_choose_33 ?_
        exact hih
  refine zC_of (by decide +kernel) (Nat.le_of_ble_eq_true rfl) rfl ?_
  refine z_iload_n dX1_choose_0 rfl ?_
  refine y_if_lt dX1_choose_1 (by omega) (fun c_1 => ?_) (fun c_1 => ?_)
  · refine y_iconst dX1_choose_9 ?_
    exact z_iret dX1_choose_10 rfl (Nat.le_refl 0) (Nat.le_refl 0) ⟨_, rfl, rfl, by rw [if_neg (by omega)]⟩
  · refine z_iload_n dX1_choose_4 rfl ?_
    refine z_iload_n dX1_choose_5 rfl ?_
    refine y_icmp_le dX1_choose_6 (by omega) (by omega) (fun c_6 => ?_) (fun c_6 => ?_)
    · refine y_iconst dX1_choose_11 ?_
      refine z_istore_n dX1_choose_12 (by decide) rfl rfl ?_
      refine y_iconst dX1_choose_13 ?_
      refine z_istore_n dX1_choose_14 (by decide) rfl rfl ?_
      exact loop k.toNat 0 (by omega) (by omega) (by omega)
    · refine y_iconst dX1_choose_9 ?_
      exact z_iret dX1_choose_10 rfl (Nat.le_refl 0) (Nat.le_refl 0) ⟨_, rfl, rfl, by rw [if_neg (by omega)]⟩
theorem ct_X1_lawsOf {n : Int} (hn : 0 ≤ n ∧ n ≤ 16) (hs : 0 ≤ V 99 2 ∧ V 99 2 ≤ 2147483647) (ht : 0 ≤ V 99 1 ∧ V 99 1 ≤ 2147483647) : yC 4 mX1_lawsOf [.ref 99, .int (iI n)] V b (pR b V (fun q => (prs (V 99 2) 16 < (popN (V 99 2).toNat 32 : Nat) ∧ q = 0) ∨ ((popN (V 99 2).toNat 32 : Nat) ≤ prs (V 99 2) 16 ∧ q = if 0 ≤ n - prs (V 99 2) 16 ∧ n - prs (V 99 2) 16 ≤ 16 - prs (V 99 1) 16 then chX (16 - prs (V 99 1) 16) (n - prs (V 99 2) 16) (n - prs (V 99 2) 16).toNat else 0))) := by
  have hp := prs_le (V 99 2) 16
  have hp2 := prs_le (V 99 1) 16
  refine zC_of (by decide +kernel) (Nat.le_of_ble_eq_true rfl) rfl ?_
  refine z_aload_n dX1_lawsOf_0 rfl ?_
  refine y_callVr (ct_X1_circusKicked (by omega)) kX1_27 dX1_lawsOf_1 rfl rfl (by first | assumption | rfl) rfl (by decide) rfl (Nat.le_of_ble_eq_true rfl) (fun r_1 h_1 => ?_)
  refine y_if_eq dX1_lawsOf_4 (by omega) (fun c_4 => ?_) (fun c_4 => ?_)
  · refine y_bipush dX1_lawsOf_11 (by decide +kernel) ?_
    refine z_aload_n dX1_lawsOf_13 rfl ?_
    refine y_getI (j := 1) fX1_15 dX1_lawsOf_14 rfl (by first | assumption | rfl) ?_
    refine y_callSr (ct_X1_pairsIn (by omega)) kX1_31 dX1_lawsOf_17 rfl rfl (by decide) rfl (Nat.le_of_ble_eq_true rfl) (fun r_17 h_17 => ?_)
    subst h_17
    refine y_isub dX1_lawsOf_20 ?_
    refine z_iload_n dX1_lawsOf_21 rfl ?_
    refine z_aload_n dX1_lawsOf_22 rfl ?_
    refine y_getI (j := 2) fX1_18 dX1_lawsOf_23 rfl (by first | assumption | rfl) ?_
    refine y_callSr (ct_X1_pairsIn (by omega)) kX1_31 dX1_lawsOf_26 rfl rfl (by decide) rfl (Nat.le_of_ble_eq_true rfl) (fun r_26 h_26 => ?_)
    subst h_26
    refine y_isub dX1_lawsOf_29 ?_
    refine y_callSr (ct_X1_choose (by omega) (by omega)) kX1_35 dX1_lawsOf_30 rfl rfl (by decide) rfl (Nat.le_of_ble_eq_true rfl) (fun r_30 h_30 => ?_)
    exact z_iret dX1_lawsOf_33 rfl (Nat.le_refl 0) (Nat.le_refl 0) ⟨_, rfl, rfl, by omega⟩
  · refine y_iconst dX1_lawsOf_7 ?_
    refine z_goto dX1_lawsOf_8 ?_
    exact z_iret dX1_lawsOf_33 rfl (Nat.le_refl 0) (Nat.le_refl 0) ⟨_, rfl, rfl, by omega⟩
/-- the first pair that is not in the set -/
def fuP (s r : Int) : Prop := (∃ a c : Int, 0 ≤ a ∧ a < 4 ∧ 0 ≤ c ∧ c < 4 ∧ tb s (a * 5 + c) = false ∧ (∀ a' c', 0 ≤ a' → a' < 4 → 0 ≤ c' → c' < 4 → (a' < a ∨ (a' = a ∧ c' < c)) → tb s (a' * 5 + c') = true) ∧ r = 10 * a + c) ∨ ((∀ a' c', 0 ≤ a' → a' < 4 → 0 ≤ c' → c' < 4 → tb s (a' * 5 + c') = true) ∧ r = -1)
theorem ct_X1_firstUntried (hs : 0 ≤ V 99 1 ∧ V 99 1 ≤ 2147483647) : yC 2 mX1_firstUntried [.ref 99] V b (pR b V (fuP (V 99 1))) := by
  have loop : ∀ (k : Nat) (a c : Int), 0 ≤ a → a < 4 → 0 ≤ c → c ≤ 4 → (4 - a) * 5 - c ≤ k → (∀ a' c', 0 ≤ a' → a' < 4 → 0 ≤ c' → c' < 4 → (a' < a ∨ (a' = a ∧ c' < c)) → tb (V 99 1) (a' * 5 + c') = true) → yE 2 (pR b V (fuP (V 99 1))) mX1_firstUntried 9 [some (.ref 99), some (.int (iI a)), some (.int (iI c))] [] V b := by
    intro k
    induction k with
    | zero => intro a c h1 h2 h3 h4 h5; omega
    | succ k ih =>
      intro a c h1 h2 h3 h4 h5 h6
      have hs1 := s1_pos (a * 5 + c)
      have hs2 := s1_le (n := a * 5 + c) (by omega)
      have n1 := bAnd_nn (V 99 1) (s1 (a * 5 + c))
      have n2 := bAnd_le (x := V 99 1) (y := s1 (a * 5 + c)) (by omega)
      have n3 := bAnd_s1 (V 99 1) (a * 5 + c)
      refine z_iload_n dX1_firstUntried_9 rfl ?_
      refine y_iconst dX1_firstUntried_10 ?_
      refine y_icmp_ge dX1_firstUntried_11 (by omega) (by omega) (fun c_11 => ?_) (fun c_11 => ?_)
      · refine y_iinc dX1_firstUntried_40 rfl (by decide) rfl rfl ?_
        refine z_goto dX1_firstUntried_43 ?_
        refine z_iload_n dX1_firstUntried_2 rfl ?_
        refine y_iconst dX1_firstUntried_3 ?_
        refine y_icmp_ge dX1_firstUntried_4 (by omega) (by omega) (fun c_4 => ?_) (fun c_4 => ?_)
        · refine y_iconst dX1_firstUntried_46 ?_
          exact z_iret dX1_firstUntried_47 rfl (Nat.le_refl 0) (Nat.le_refl 0) ⟨_, rfl, rfl, Or.inr ⟨fun a' c' p1 p2 p3 p4 => h6 a' c' p1 p2 p3 p4 (by omega), rfl⟩⟩
        · refine y_iconst dX1_firstUntried_7 ?_
          refine z_istore_n dX1_firstUntried_8 (by decide) rfl rfl ?_
          exact ih (a + 1) 0 (by omega) (by omega) (by omega) (by omega) (by omega) (fun a' c' p1 p2 p3 p4 p5 => h6 a' c' p1 p2 p3 p4 (by omega))
      · refine z_aload_n dX1_firstUntried_14 rfl ?_
        refine y_getI (j := 1) fX1_15 dX1_firstUntried_15 rfl (by first | assumption | rfl) ?_
        refine z_iload_n dX1_firstUntried_18 rfl ?_
        refine z_iload_n dX1_firstUntried_19 rfl ?_
        refine y_callSr (ct_X9_pairBit (by omega)) kX1_21 dX1_firstUntried_20 rfl rfl (by decide) rfl (Nat.le_of_ble_eq_true rfl) (fun r_20 h_20 => ?_)
        subst h_20
        refine y_iand dX1_firstUntried_23 (by omega) (by omega) ?_
        refine y_if_ne dX1_firstUntried_24 (by omega) (fun c_24 => ?_) (fun c_24 => ?_)
        · refine y_iinc dX1_firstUntried_34 rfl (by decide) rfl rfl ?_
          have h4 : tb (V 99 1) (a * 5 + c) = true := by cases h5 : tb (V 99 1) (a * 5 + c) with | true => rfl | false => exact absurd (n3.2 h5) c_24
          refine z_goto dX1_firstUntried_37 ?_
          refine ih a (c + 1) h1 h2 (by omega) (by omega) (by omega) (fun a' c' p1 p2 p3 p4 p5 => ?_)
          by_cases hh : a' = a ∧ c' = c
          · rw [hh.1, hh.2]; exact h4
          · exact h6 a' c' p1 p2 p3 p4 (by omega)
        · refine y_bipush dX1_firstUntried_27 (by decide +kernel) ?_
          refine z_iload_n dX1_firstUntried_29 rfl ?_
          refine y_imul dX1_firstUntried_30 ?_
          refine z_iload_n dX1_firstUntried_31 rfl ?_
          refine y_iadd dX1_firstUntried_32 ?_
          exact z_iret dX1_firstUntried_33 rfl (Nat.le_refl 0) (Nat.le_refl 0) ⟨_, rfl, rfl, Or.inl ⟨a, c, h1, h2, h3, by omega, n3.1 c_24, h6, rfl⟩⟩
  refine zC_of (by decide +kernel) (Nat.le_of_ble_eq_true rfl) rfl ?_
  refine y_iconst dX1_firstUntried_0 ?_
  refine z_istore_n dX1_firstUntried_1 (by decide) rfl rfl ?_
  refine z_iload_n dX1_firstUntried_2 rfl ?_
  refine y_iconst dX1_firstUntried_3 ?_
  refine y_icmp_ge dX1_firstUntried_4 (by omega) (by omega) (fun c_4 => ?_) (fun c_4 => ?_)
  · omega
  · refine y_iconst dX1_firstUntried_7 ?_
    refine z_istore_n dX1_firstUntried_8 (by decide) rfl rfl ?_
    exact loop 20 0 0 (by omega) (by omega) (by omega) (by omega) (by omega) (fun a' c' p1 p2 p3 p4 p5 => by omega)
theorem ct_X1_forget : yC 1 mX1_forget [.ref 99] V b (pV b (fun V' => V' = vst (vst (vst V 99 0 0) 99 1 0) 99 2 0)) := by
  refine zC_of (by decide +kernel) (Nat.le_of_ble_eq_true rfl) rfl ?_
  refine z_aload_n dX1_forget_0 rfl ?_
  refine y_iconst dX1_forget_1 ?_
  refine y_putI (j := 0) fX1_9 dX1_forget_2 rfl (by first | assumption | rfl) ?_
  refine z_aload_n dX1_forget_5 rfl ?_
  refine y_iconst dX1_forget_6 ?_
  refine y_putI (j := 1) fX1_15 dX1_forget_7 rfl (by first | assumption | rfl) ?_
  refine z_aload_n dX1_forget_10 rfl ?_
  refine y_iconst dX1_forget_11 ?_
  refine y_putI (j := 2) fX1_18 dX1_forget_12 rfl (by first | assumption | rfl) ?_
  exact z_vret dX1_forget_15 rfl (Nat.le_refl 0) (Nat.le_refl 0) ⟨_, rfl, rfl, rfl⟩
/-- a coupling more -/
def cpl (V : Nat → Int → Int) (a c k : Int) : Nat → Int → Int := vst (vst (vst V 99 1 (bOr (V 99 1) (s1 (a * 5 + c)))) 99 2 (if k = 0 then bDif (V 99 2) (s1 (a * 5 + c)) else bOr (V 99 2) (s1 (a * 5 + c)))) 99 0 (V 99 0 + 1)
theorem ct_X1_add {a c k : Int} (ha : 0 ≤ a ∧ a ≤ 4) (hc : 0 ≤ c ∧ c ≤ 4) (hk : rg k) (hn : 0 ≤ V 99 0 ∧ V 99 0 ≤ 8) (ht : 0 ≤ V 99 1) (hs : 0 ≤ V 99 2) : yC 2 mX1_add [.ref 99, .int (iI a), .int (iI c), .int (iI k)] V b (pI b (fun r V' => (V 99 0 = 8 ∧ r = 0 ∧ V' = V) ∨ (V 99 0 < 8 ∧ r = 1 ∧ V' = cpl V a c k))) := by
  have hs1 := s1_pos (a * 5 + c)
  refine zC_of (by decide +kernel) (Nat.le_of_ble_eq_true rfl) rfl ?_
  refine z_aload_n dX1_add_0 rfl ?_
  refine y_getI (j := 0) fX1_9 dX1_add_1 rfl (by first | assumption | rfl) ?_
  refine y_bipush dX1_add_4 (by decide +kernel) ?_
  refine y_icmp_lt dX1_add_6 (by omega) (by omega) (fun c_6 => ?_) (fun c_6 => ?_)
  · refine z_iload_n dX1_add_11 rfl ?_
    refine z_iload_n dX1_add_12 rfl ?_
    refine y_callSr (ct_X9_pairBit (by omega)) kX1_21 dX1_add_13 rfl rfl (by decide) rfl (Nat.le_of_ble_eq_true rfl) (fun r_13 h_13 => ?_)
    subst h_13
    refine z_istore dX1_add_16 (by decide) rfl rfl ?_
    refine z_aload_n dX1_add_18 rfl ?_
    refine z_dup dX1_add_19 rfl ?_
    refine y_getI (j := 1) fX1_15 dX1_add_20 rfl (by first | assumption | rfl) ?_
    refine z_iload dX1_add_23 rfl ?_
    refine y_ior dX1_add_25 (by omega) (by omega) ?_
    refine y_putI (j := 1) fX1_15 dX1_add_26 rfl (by first | assumption | rfl) ?_
    refine z_aload_n dX1_add_29 rfl ?_
    refine z_iload_n dX1_add_30 rfl ?_
    refine y_if_eq dX1_add_31 (by omega) (fun c_31 => ?_) (fun c_31 => ?_)
    · refine z_aload_n dX1_add_44 rfl ?_
      refine y_getI (j := 2) fX1_18 dX1_add_45 rfl (by first | assumption | rfl) ?_
      refine z_iload dX1_add_48 rfl ?_
      refine y_iconst dX1_add_50 ?_
      refine y_inot dX1_add_51 ?_
      refine y_iandn dX1_add_52 (by rw [vst_n (by decide)]; omega) (by omega) ?_
      refine y_putI (j := 2) fX1_18 dX1_add_53 rfl (by first | assumption | rfl) ?_
      refine z_aload_n dX1_add_56 rfl ?_
      refine z_dup dX1_add_57 rfl ?_
      refine y_getI (j := 0) fX1_9 dX1_add_58 rfl (by first | assumption | rfl) ?_
      refine y_iconst dX1_add_61 ?_
      refine y_iadd dX1_add_62 ?_
      refine y_putI (j := 0) fX1_9 dX1_add_63 rfl (by first | assumption | rfl) ?_
      refine y_iconst dX1_add_66 ?_
      exact y_zret dX1_add_67 rfl (by omega) (Nat.le_refl 0) (Nat.le_refl 0) ⟨_, _, rfl, rfl, Or.inr ⟨by omega, rfl, by unfold cpl; simp only [vst_n (show (2 : Int) ≠ 1 by decide), vst_n (show (0 : Int) ≠ 2 by decide), vst_n (show (0 : Int) ≠ 1 by decide)]; first | rw [if_pos c_31] | rw [if_neg c_31]⟩⟩
    · refine z_aload_n dX1_add_34 rfl ?_
      refine y_getI (j := 2) fX1_18 dX1_add_35 rfl (by first | assumption | rfl) ?_
      refine z_iload dX1_add_38 rfl ?_
      refine y_ior dX1_add_40 (by rw [vst_n (by decide)]; omega) (by omega) ?_
      refine z_goto dX1_add_41 ?_
      refine y_putI (j := 2) fX1_18 dX1_add_53 rfl (by first | assumption | rfl) ?_
      refine z_aload_n dX1_add_56 rfl ?_
      refine z_dup dX1_add_57 rfl ?_
      refine y_getI (j := 0) fX1_9 dX1_add_58 rfl (by first | assumption | rfl) ?_
      refine y_iconst dX1_add_61 ?_
      refine y_iadd dX1_add_62 ?_
      refine y_putI (j := 0) fX1_9 dX1_add_63 rfl (by first | assumption | rfl) ?_
      refine y_iconst dX1_add_66 ?_
      exact y_zret dX1_add_67 rfl (by omega) (Nat.le_refl 0) (Nat.le_refl 0) ⟨_, _, rfl, rfl, Or.inr ⟨by omega, rfl, by unfold cpl; simp only [vst_n (show (2 : Int) ≠ 1 by decide), vst_n (show (0 : Int) ≠ 2 by decide), vst_n (show (0 : Int) ≠ 1 by decide)]; first | rw [if_pos c_31] | rw [if_neg c_31]⟩⟩
  · refine y_iconst dX1_add_9 ?_
    exact y_zret dX1_add_10 rfl (by omega) (Nat.le_refl 0) (Nat.le_refl 0) ⟨_, _, rfl, rfl, Or.inl ⟨by omega, rfl, rfl⟩⟩
end

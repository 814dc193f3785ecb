/-! ===== images, drift ===== -/
def pA (b : Bool) (V : Nat → Int → Int) (a : Nat) : Option Value → zMu → Prop := fun v M' => v = some (.ref a) ∧ M' = mk S0 V (Fs b)
theorem y_callVa {D d : Nat} {Q : Option Value → zMu → Prop} {Y Y' : zMD} {pc pc' : Nat} {L : List (Option Value)} {st rest As : List Value} {V : Nat → Int → Int} {b : Bool} {index n a ci x : Nat} {T : u_T} {N : Nat} (ct : yC d Y' (.ref a :: As) V b (pA b V x)) (ml : zMl Y.1.cls index Y' n 0) (hd : zN Y pc (.invokevirtual index) 3 pc') (hn : As.length = n) (hst : st = As.reverse ++ .ref a :: rest) (hcl : S0[a]? = some (.inl ci)) (hC : classes[ci]? = some (Y'.1.cls, T, N)) (hD : d + 1 ≤ D) (hm : Nat.ble Y'.2.2.1 21 = true) (hw : (rest.map fun v => v.category).sum ≤ 8) (kk : yE D Q Y pc' L (.ref x :: rest) V b) : yE D Q Y pc L st V b :=
  z_callV ct ml hd hn hst hcl hC (hRok hD hm) hw (Nat.le_refl 0) (Nat.le_refl 0) (fun v M' hq => by obtain ⟨rfl, rfl⟩ := hq; exact kk)
section
variable {V : Nat → Int → Int} {b : Bool}
theorem imfacts {i : Int} (b : Bool) : S0[imP i]? = some (.inl 3) ∧ Fs b (imP i) 0 = some (imP i + 1) ∧ isS (imP i + 1) ∧ 89 ≤ imP i ∧ imP i ≤ 94 := by
  unfold imP isS
  split
  · exact ⟨rfl, rfl, by decide, by decide, by decide⟩
  · exact ⟨rfl, rfl, by decide, by decide, by decide⟩
def keepX (V : Nat → Int → Int) (i : Int) : Nat → Int → Int := vst (vst (vst (bcm V (imP i + 1) 3) (imP i) 1 (V 0 13)) (imP i) 2 1) 7 1 0
theorem ct_X10_keep {i : Int} (hi : rg i) : yC 4 mX10_keep [.ref 0, .int (iI i)] V b (pI b (fun q V' => (¬ (0 ≤ i ∧ i ≤ 1) ∧ q = -1000000001 ∧ V' = V) ∨ ((0 ≤ i ∧ i ≤ 1) ∧ q = 1 ∧ V' = keepX V i))) := by
  obtain ⟨im0, im1, im2, im3, im4⟩ := imfacts (i := i) b
  have h3 : isS 3 := by unfold isS; decide
  have ims := (sfacts im2 b).1
  have e0 : bcm V (imP i + 1) 3 0 = V 0 := bcm_o (by omega) (by omega) (by omega) (by omega)
  refine zC_of (by decide +kernel) (Nat.le_of_ble_eq_true rfl) rfl ?_
  refine z_iload_n dX10_keep_0 rfl ?_
  refine y_if_lt dX10_keep_1 (by omega) (fun c_1 => ?_) (fun c_1 => ?_)
  · refine y_ldc (n := -1000000001) dX10_keep_9 cX10_153 (by decide +kernel) ?_
    exact z_iret dX10_keep_11 rfl (Nat.le_refl 0) (Nat.le_refl 0) ⟨_, _, rfl, rfl, Or.inl ⟨by omega, rfl, rfl⟩⟩
  · refine z_iload_n dX10_keep_4 rfl ?_
    refine y_iconst dX10_keep_5 ?_
    refine y_icmp_lt dX10_keep_6 (by omega) (by omega) (fun c_6 => ?_) (fun c_6 => ?_)
    · refine z_aload_n dX10_keep_12 rfl ?_
      refine z_iload_n dX10_keep_13 rfl ?_
      refine y_callVa (ct_X10_imageOf (by omega)) kX10_328 dX10_keep_14 rfl rfl (by first | assumption | rfl) rfl (by decide) rfl (Nat.le_of_ble_eq_true rfl) ?_
      refine z_astore_n dX10_keep_17 (by decide) rfl rfl ?_
      refine z_aload_n dX10_keep_18 rfl ?_
      refine y_getR fX10_332 dX10_keep_19 (by first | assumption | rfl) (by first | assumption | rfl) ?_
      refine z_aload_n dX10_keep_22 rfl ?_
      refine y_getR fX10_19 dX10_keep_23 (by first | assumption | rfl) (by first | assumption | rfl) ?_
      refine y_callVv (ct_X8_become im2 h3 (by omega)) kX10_335 dX10_keep_26 rfl rfl (by first | assumption | rfl) rfl (by decide) rfl (Nat.le_of_ble_eq_true rfl) (fun V1 h_26 => ?_)
      subst h_26
      refine z_aload_n dX10_keep_29 rfl ?_
      refine z_aload_n dX10_keep_30 rfl ?_
      refine y_getI (j := 13) fX10_90 dX10_keep_31 rfl (by first | assumption | rfl) ?_
      refine y_putI (j := 1) fX10_338 dX10_keep_34 rfl (by first | assumption | rfl) ?_
      refine z_aload_n dX10_keep_37 rfl ?_
      refine y_iconst dX10_keep_38 ?_
      refine y_putZ (j := 2) fX10_116 dX10_keep_39 rfl (by first | assumption | rfl) (by omega) ?_
      refine z_aload_n dX10_keep_42 rfl ?_
      refine y_getR fX10_26 dX10_keep_43 (by first | assumption | rfl) (by first | assumption | rfl) ?_
      refine y_callVv (ct_X5_forget) kX10_113 dX10_keep_46 rfl rfl (by first | assumption | rfl) rfl (by decide) rfl (Nat.le_of_ble_eq_true rfl) (fun V1 h_46 => ?_)
      subst h_46
      refine y_iconst dX10_keep_49 ?_
      exact z_iret dX10_keep_50 rfl (Nat.le_refl 0) (Nat.le_refl 0) ⟨_, _, rfl, rfl, Or.inr ⟨by omega, rfl, by unfold keepX; rw [e0]⟩⟩
    · refine y_ldc (n := -1000000001) dX10_keep_9 cX10_153 (by decide +kernel) ?_
      exact z_iret dX10_keep_11 rfl (Nat.le_refl 0) (Nat.le_refl 0) ⟨_, _, rfl, rfl, Or.inl ⟨by omega, rfl, rfl⟩⟩
def backX (V : Nat → Int → Int) (i : Int) : Nat → Int → Int := vst (vst (bcm V 3 (imP i + 1)) 0 13 (V (imP i) 1)) 7 1 0
theorem ct_X10_goBack {i : Int} (hi : rg i) (hk : ∀ i, 0 ≤ V (imP i) 2 ∧ V (imP i) 2 ≤ 1) : yC 4 mX10_goBack [.ref 0, .int (iI i)] V b (pI b (fun q V' => (¬ (0 ≤ i ∧ i ≤ 1) ∧ q = -1000000001 ∧ V' = V) ∨ ((0 ≤ i ∧ i ≤ 1) ∧ V (imP i) 2 = 0 ∧ q = -1000000003 ∧ V' = V) ∨ ((0 ≤ i ∧ i ≤ 1) ∧ V (imP i) 2 = 1 ∧ q = 1 ∧ V' = backX V i))) := by
  obtain ⟨im0, im1, im2, im3, im4⟩ := imfacts (i := i) b
  have hki := hk i
  have h3 : isS 3 := by unfold isS; decide
  have e0 : bcm V 3 (imP i + 1) (imP i) = V (imP i) := bcm_o (by omega) (by omega) (by omega) (by omega)
  refine zC_of (by decide +kernel) (Nat.le_of_ble_eq_true rfl) rfl ?_
  refine z_iload_n dX10_goBack_0 rfl ?_
  refine y_if_lt dX10_goBack_1 (by omega) (fun c_1 => ?_) (fun c_1 => ?_)
  · refine y_ldc (n := -1000000001) dX10_goBack_9 cX10_153 (by decide +kernel) ?_
    exact z_iret dX10_goBack_11 rfl (Nat.le_refl 0) (Nat.le_refl 0) ⟨_, _, rfl, rfl, Or.inl ⟨by omega, rfl, rfl⟩⟩
  · refine z_iload_n dX10_goBack_4 rfl ?_
    refine y_iconst dX10_goBack_5 ?_
    refine y_icmp_lt dX10_goBack_6 (by omega) (by omega) (fun c_6 => ?_) (fun c_6 => ?_)
    · refine z_aload_n dX10_goBack_12 rfl ?_
      refine z_iload_n dX10_goBack_13 rfl ?_
      refine y_callVa (ct_X10_imageOf (by omega)) kX10_328 dX10_goBack_14 rfl rfl (by first | assumption | rfl) rfl (by decide) rfl (Nat.le_of_ble_eq_true rfl) ?_
      refine z_astore_n dX10_goBack_17 (by decide) rfl rfl ?_
      refine z_aload_n dX10_goBack_18 rfl ?_
      refine y_getI (j := 2) fX10_116 dX10_goBack_19 rfl (by first | assumption | rfl) ?_
      refine y_if_ne dX10_goBack_22 (by omega) (fun c_22 => ?_) (fun c_22 => ?_)
      · refine z_aload_n dX10_goBack_28 rfl ?_
        refine y_getR fX10_19 dX10_goBack_29 (by first | assumption | rfl) (by first | assumption | rfl) ?_
        refine z_aload_n dX10_goBack_32 rfl ?_
        refine y_getR fX10_332 dX10_goBack_33 (by first | assumption | rfl) (by first | assumption | rfl) ?_
        refine y_callVv (ct_X8_become h3 im2 (by omega)) kX10_335 dX10_goBack_36 rfl rfl (by first | assumption | rfl) rfl (by decide) rfl (Nat.le_of_ble_eq_true rfl) (fun V1 h_36 => ?_)
        subst h_36
        refine z_aload_n dX10_goBack_39 rfl ?_
        refine z_aload_n dX10_goBack_40 rfl ?_
        refine y_getI (j := 1) fX10_338 dX10_goBack_41 rfl (by first | assumption | rfl) ?_
        refine y_putI (j := 13) fX10_90 dX10_goBack_44 rfl (by first | assumption | rfl) ?_
        refine z_aload_n dX10_goBack_47 rfl ?_
        refine y_getR fX10_26 dX10_goBack_48 (by first | assumption | rfl) (by first | assumption | rfl) ?_
        refine y_callVv (ct_X5_forget) kX10_113 dX10_goBack_51 rfl rfl (by first | assumption | rfl) rfl (by decide) rfl (Nat.le_of_ble_eq_true rfl) (fun V1 h_51 => ?_)
        subst h_51
        refine y_iconst dX10_goBack_54 ?_
        exact z_iret dX10_goBack_55 rfl (Nat.le_refl 0) (Nat.le_refl 0) ⟨_, _, rfl, rfl, Or.inr (Or.inr ⟨by omega, by omega, rfl, by unfold backX; rw [e0]⟩)⟩
      · refine y_ldc (n := -1000000003) dX10_goBack_25 cX10_196 (by decide +kernel) ?_
        exact z_iret dX10_goBack_27 rfl (Nat.le_refl 0) (Nat.le_refl 0) ⟨_, _, rfl, rfl, Or.inr (Or.inl ⟨by omega, by omega, rfl, rfl⟩)⟩
    · refine y_ldc (n := -1000000001) dX10_goBack_9 cX10_153 (by decide +kernel) ?_
      exact z_iret dX10_goBack_11 rfl (Nat.le_refl 0) (Nat.le_refl 0) ⟨_, _, rfl, rfl, Or.inl ⟨by omega, rfl, rfl⟩⟩
/-- one draw and what is done by it -/
def dst1 (y : Nat) (V : Nat → Int → Int) : Nat → Int → Int := dr1 (vst V 0 13 (sdN (V 0 13))) y (drN (sdN (V 0 13)) (V y 6))
def dfX (y : Nat) : Nat → (Nat → Int → Int) → Nat → Int → Int
  | 0, V => V
  | n + 1, V => dfX y n (dst1 y V)
def tot (V : Nat → Int → Int) : Int := V 5 0 + V 5 1 + V 5 2 + V 5 3 + V 5 4
/-- what a walk by draws needs and keeps -/
def DI (y : Nat) (m : Int) (V : Nat → Int → Int) : Prop := cN V ∧ wN V ∧ YS V y ∧ rg (V 3 5) ∧ (0 ≤ V 3 4 ∧ V 3 4 ≤ m) ∧ (0 ≤ V 3 3 ∧ V 3 3 ≤ m) ∧ tot V ≤ 7 ∧ (0 ≤ V 0 13 ∧ V 0 13 ≤ 2147483647)
theorem tot_iup {f : Int → Int} {r x : Int} (h : 0 ≤ r ∧ r ≤ 4) : iup f r x 0 + iup f r x 1 + iup f r x 2 + iup f r x 3 + iup f r x 4 = f 0 + f 1 + f 2 + f 3 + f 4 - f r + x := by
  rcases (show r = 0 ∨ r = 1 ∨ r = 2 ∨ r = 3 ∨ r = 4 by omega) with rfl | rfl | rfl | rfl | rfl <;> simp [iup] <;> omega
theorem tot_h7 {V : Nat → Int → Int} (hc : cN V) (ht : tot V ≤ 7) : ∀ r, 0 ≤ r → r ≤ 3 → V 5 4 + V 5 r ≤ 7 := by
  intro r h1 h2
  have c0 := hc 0
  have c1 := hc 1
  have c2 := hc 2
  have c3 := hc 3
  unfold tot at ht
  rcases (show r = 0 ∨ r = 1 ∨ r = 2 ∨ r = 3 by omega) with rfl | rfl | rfl | rfl <;> omega
theorem puX_5 {r : Int} : puX V r 5 = iup (iup (V 5) 4 (V 5 4 + V 5 r)) r 0 := by unfold puX; rw [zup_n _ _ (by decide), zup_s]
theorem puX_4 {r : Int} : puX V r 4 = icp (V 4) (V 4) (r * 7) (28 + V 5 4) (V 5 r) := by unfold puX; rw [zup_n _ _ (by decide), zup_n _ _ (by decide), zup_s]
theorem puX_6 {r : Int} : puX V r 6 = iup (V 6) r 0 := by unfold puX; rw [zup_s]
theorem puX_o {r : Int} {a : Nat} (h4 : a ≠ 4) (h5 : a ≠ 5) (h6 : a ≠ 6) : puX V r a = V a := by unfold puX; rw [zup_n _ _ h6, zup_n _ _ h5, zup_n _ _ h4]
theorem dr1_DI {y : Nat} {m r : Int} (hy : isY y) (hr : 0 ≤ r ∧ r ≤ 3) (hrr : r < V y 6) (h : DI y m V) : DI y (m + 1) (dr1 V y r) := by
  obtain ⟨hc, hw, hys, h5, h4, h3, ht, hs⟩ := id h
  have yb : y = 120 ∨ y = 127 := hy
  have c4 := hc 4
  have cr := hc r
  have h7 := tot_h7 hc ht r (by omega) (by omega)
  have ht' := ht
  unfold tot at ht'
  unfold dr1
  split
  · refine ⟨fun i => ?_, fun i => ?_, YS_congr (fun a a1 a2 => puX_o (by omega) (by omega) (by omega)) hys, ?_, ?_, ?_, ?_, ?_⟩
    · rw [puX_5]; exact iup_le (iup_le hc (by omega)) (by omega) i
    · rw [puX_4]; exact icp_le hw hw i
    · rw [puX_o (by decide) (by decide) (by decide)]; exact h5
    · rw [puX_o (by decide) (by decide) (by decide)]; omega
    · rw [puX_o (by decide) (by decide) (by decide)]; omega
    · unfold tot
      rw [puX_5, tot_iup (by omega), tot_iup (by omega), iup_n (show r ≠ 4 by omega)]
      omega
    · rw [puX_o (by decide) (by decide) (by decide)]; exact hs
  · split
    · have hpr := hys.2.2.2.2 r (by omega) hrr
      have s34 := stX_34 (V := V) (y := y) (r := r)
      show DI y (m + 1) (vst (stX y r V) 3 3 (V 3 3 + 1))
      refine ⟨?_, ?_, YS_congr (fun a a1 a2 => by rw [vst_o (by omega), stX_o (by omega) (by omega) (by omega)]) hys, ?_, ?_, ?_, ?_, ?_⟩
      · unfold cN; rw [vst_o (by decide)]; exact stX_c (by omega) hc (by omega) (by omega)
      · unfold wN; rw [vst_o (by decide)]; exact stX_w (by omega) hw
      · rw [vst_n (by decide)]; exact stX_35 hw h5
      · rw [vst_n (by decide)]; omega
      · rw [vst_s]; omega
      · unfold tot
        rw [vst_o (by decide), stX_5, tot_iup (by omega), tot_iup (by omega), iup_n (show r ≠ 4 by omega)]
        omega
      · rw [vst_o (by decide), stX_o (by decide) (by decide) (by decide)]; exact hs
    · exact ⟨hc, hw, hys, h5, by omega, by omega, ht, hs⟩
theorem DI_seed {y : Nat} {m s : Int} (hy : isY y) (h : DI y m V) (hs : 0 ≤ s ∧ s ≤ 2147483647) : DI y m (vst V 0 13 s) := by
  obtain ⟨hc, hw, hys, h5, h4, h3, ht, -⟩ := id h
  have yb : y = 120 ∨ y = 127 := hy
  refine ⟨?_, ?_, YS_congr (fun a a1 a2 => vst_o (by omega)) hys, ?_, ?_, ?_, ?_, ?_⟩
  · unfold cN; rw [vst_o (by decide)]; exact hc
  · unfold wN; rw [vst_o (by decide)]; exact hw
  · rw [vst_o (by decide)]; exact h5
  · rw [vst_o (by decide)]; exact h4
  · rw [vst_o (by decide)]; exact h3
  · unfold tot; rw [vst_o (by decide)]; exact ht
  · rw [vst_s]; exact hs
abbrev dfP (V : Nat → Int → Int) (y : Nat) (n q : Int) (V' : Nat → Int → Int) : Prop :=
  (¬ (1 ≤ n ∧ n ≤ 60) ∧ q = -1000000002 ∧ V' = V) ∨ ((1 ≤ n ∧ n ≤ 60) ∧ V y 6 = 0 ∧ q = -1000000003 ∧ V' = V) ∨ ((1 ≤ n ∧ n ≤ 60) ∧ V y 6 ≠ 0 ∧ 90000 < V 3 3 ∧ q = -1000000004 ∧ V' = V) ∨ ((1 ≤ n ∧ n ≤ 60) ∧ V y 6 ≠ 0 ∧ V 3 3 ≤ 90000 ∧ q = dfX y n.toNat (rem1 V) 3 3 ∧ V' = dfX y n.toNat (rem1 V))
theorem ct_X10_drift {n : Int} (hn : rg n) (hD : DI (yN b) 100000 V) (hnw : 0 ≤ V 7 2 ∧ V 7 2 < 20) (hpc : 0 ≤ V 7 1 ∧ V 7 1 ≤ 20) : yC 7 mX10_drift [.ref 0, .int (iI n)] V b (pI b (fun q V' => dfP V (yN b) n q V')) := by
  have hy := yN_Y b
  have yb : 120 ≤ yN b ∧ yN b ≤ 127 := by rcases hy with h | h <;> omega
  obtain ⟨sy, sy1, sy2, sy3, sy4, sy5, sy6, fy0, fy1, fy2, fy3, fy4, fy5⟩ := yfacts hy b
  have hf : Fs b 0 11 = some (yN b) := rfl
  obtain ⟨hc, hw, hys, h5, h4, h3, ht, hs⟩ := id hD
  obtain ⟨q1, q2, q3, q4, q5⟩ := id hys
  have hD' : DI (yN b) 100000 (rem1 V) := by
    refine ⟨?_, ?_, YS_congr (fun a a1 a2 => rem1_o hnw (by omega) (by omega)) hys, ?_, ?_, ?_, ?_, ?_⟩
    · unfold cN; rw [rem1_o hnw (by decide) (by decide)]; exact hc
    · unfold wN; rw [rem1_o hnw (by decide) (by decide)]; exact hw
    · rw [rem1_o hnw (by decide) (by decide)]; exact h5
    · rw [rem1_o hnw (by decide) (by decide)]; exact h4
    · rw [rem1_o hnw (by decide) (by decide)]; exact h3
    · unfold tot; rw [rem1_o hnw (by decide) (by decide)]; exact ht
    · rw [rem1_o hnw (by decide) (by decide)]; exact hs
  have hr6 : rem1 V (yN b) 6 = V (yN b) 6 := by rw [rem1_o hnw (by omega) (by omega)]
  have loop : ∀ (k : Nat) (i : Int) (U : Nat → Int → Int), (1 ≤ n ∧ n ≤ 60) → V (yN b) 6 ≠ 0 → V 3 3 ≤ 90000 → 0 ≤ i → i + k = n → DI (yN b) (100000 + i) U → U (yN b) 6 = V (yN b) 6 → dfX (yN b) k U = dfX (yN b) n.toNat (rem1 V) → yE 7 (pI b (fun q V' => dfP V (yN b) n q V')) mX10_drift 55 [some (.ref 0), some (.int (iI n)), some (.int (iI i))] [] U b := by
    intro k
    induction k with
    | zero =>
      intro i U g1 g2 g3 g4 g5 g6 g7 g8
      refine z_iload_n dX10_drift_55 rfl ?_
      refine z_iload_n dX10_drift_56 rfl ?_
      refine y_icmp_ge dX10_drift_57 (by omega) (by omega) (fun c_57 => ?_) (fun c_57 => ?_)
      · refine z_aload_n dX10_drift_81 rfl ?_
        refine y_getR fX10_19 dX10_drift_82 (by first | assumption | rfl) (by first | assumption | rfl) ?_
        refine y_getI (j := 3) fX10_136 dX10_drift_85 rfl (by first | assumption | rfl) ?_
        exact z_iret dX10_drift_88 rfl (Nat.le_refl 0) (Nat.le_refl 0) ⟨_, _, rfl, rfl, Or.inr (Or.inr (Or.inr ⟨g1, g2, g3, by rw [← g8]; rfl, by rw [← g8]; rfl⟩))⟩
      · omega
    | succ k ih =>
      intro i U g1 g2 g3 g4 g5 g6 g7 g8
      have hs1 : 0 ≤ sdN (U 0 13) ∧ sdN (U 0 13) ≤ 2147483647 := by unfold sdN; omega
      have u6 : 1 ≤ U (yN b) 6 ∧ U (yN b) 6 ≤ 4 := by omega
      have hdr : 0 ≤ drN (sdN (U 0 13)) (U (yN b) 6) ∧ drN (sdN (U 0 13)) (U (yN b) 6) < U (yN b) 6 := ⟨Int.emod_nonneg _ (by omega), Int.emod_lt_of_pos _ (by omega)⟩
      have hDs : DI (yN b) (100000 + i) (vst U 0 13 (sdN (U 0 13))) := DI_seed hy g6 hs1
      have hDd := dr1_DI hy (r := drN (sdN (U 0 13)) (U (yN b) 6)) (by omega) (by rw [vst_o (by omega)]; omega) hDs
      obtain ⟨sc, sw, sys, s5, s4, s3, st, ss⟩ := id hDs
      have hih := ih (i + 1) (dst1 (yN b) U) g1 g2 g3 (by omega) (by omega) (by rw [show (100000 : Int) + (i + 1) = 100000 + i + 1 by omega]; exact hDd) (by
        unfold dst1 dr1
        split
        · rw [puX_o (by omega) (by omega) (by omega), vst_o (by omega)]; exact g7
        · split
          · rw [vst_o (by omega)]
            show stX _ _ _ _ _ = _
            rw [stX_o (by omega) (by omega) (by omega), vst_o (by omega)]; exact g7
          · rw [vst_o (by omega)]; exact g7) g8
      refine z_iload_n dX10_drift_55 rfl ?_
      refine z_iload_n dX10_drift_56 rfl ?_
      refine y_icmp_ge dX10_drift_57 (by omega) (by omega) (fun c_57 => ?_) (fun c_57 => ?_)
      · omega
      · refine z_aload_n dX10_drift_60 rfl ?_
        refine z_aload_n dX10_drift_61 rfl ?_
        refine z_aload_n dX10_drift_62 rfl ?_
        refine y_getR fX10_83 dX10_drift_63 (by first | assumption | rfl) (by first | assumption | rfl) ?_
        refine y_getI (j := 6) fX10_126 dX10_drift_66 rfl (by first | assumption | rfl) ?_
        refine y_callVi (ct_X10_draw (by omega) g6.2.2.2.2.2.2.2) kX10_220 dX10_drift_69 rfl rfl (by first | assumption | rfl) rfl (by decide) rfl (Nat.le_of_ble_eq_true rfl) (fun r_69 V1 h_69 => ?_)
        obtain ⟨f1, f2⟩ := h_69
        subst f1 f2
        refine y_callVv (ct_X10_driftOnce sys sc sw s5 (by omega) (by omega) (by rw [vst_o (by omega)]; omega) (tot_h7 sc st)) kX10_223 dX10_drift_72 rfl rfl (by first | assumption | rfl) rfl (by decide) rfl (Nat.le_of_ble_eq_true rfl) (fun V1 h_72 => ?_)
        subst h_72
        refine y_iinc dX10_drift_75 rfl (by decide) rfl rfl ?_
        refine z_goto dX10_drift_78 ?_
        exact hih
  refine zC_of (by decide +kernel) (Nat.le_of_ble_eq_true rfl) rfl ?_
  refine z_iload_n dX10_drift_0 rfl ?_
  refine y_iconst dX10_drift_1 ?_
  refine y_icmp_lt dX10_drift_2 (by omega) (by omega) (fun c_2 => ?_) (fun c_2 => ?_)
  · refine y_ldc (n := -1000000002) dX10_drift_11 cX10_94 (by decide +kernel) ?_
    exact z_iret dX10_drift_13 rfl (Nat.le_refl 0) (Nat.le_refl 0) ⟨_, _, rfl, rfl, Or.inl ⟨by omega, rfl, rfl⟩⟩
  · refine z_iload_n dX10_drift_5 rfl ?_
    refine y_bipush dX10_drift_6 (by decide +kernel) ?_
    refine y_icmp_le dX10_drift_8 (by omega) (by omega) (fun c_8 => ?_) (fun c_8 => ?_)
    · refine z_aload_n dX10_drift_14 rfl ?_
      refine y_getR fX10_83 dX10_drift_15 (by first | assumption | rfl) (by first | assumption | rfl) ?_
      refine y_getI (j := 6) fX10_126 dX10_drift_18 rfl (by first | assumption | rfl) ?_
      refine y_if_ne dX10_drift_21 (by omega) (fun c_21 => ?_) (fun c_21 => ?_)
      · refine z_aload_n dX10_drift_27 rfl ?_
        refine y_getR fX10_19 dX10_drift_28 (by first | assumption | rfl) (by first | assumption | rfl) ?_
        refine y_getI (j := 3) fX10_136 dX10_drift_31 rfl (by first | assumption | rfl) ?_
        refine y_ldc (n := 90000) dX10_drift_34 cX10_219 (by decide +kernel) ?_
        refine y_icmp_le dX10_drift_36 (by omega) (by omega) (fun c_36 => ?_) (fun c_36 => ?_)
        · refine z_aload_n dX10_drift_42 rfl ?_
          refine y_getR fX10_26 dX10_drift_43 (by first | assumption | rfl) (by first | assumption | rfl) ?_
          refine z_aload_n dX10_drift_46 rfl ?_
          refine y_getR fX10_19 dX10_drift_47 (by first | assumption | rfl) (by first | assumption | rfl) ?_
          refine y_callVv (ct_X5_remember (by omega) (by omega)) kX10_197 dX10_drift_50 rfl rfl (by first | assumption | rfl) rfl (by decide) rfl (Nat.le_of_ble_eq_true rfl) (fun V1 h_50 => ?_)
          subst h_50
          refine y_iconst dX10_drift_53 ?_
          refine z_istore_n dX10_drift_54 (by decide) rfl rfl ?_
          exact loop n.toNat 0 (rem1 V) (by omega) (by omega) (by omega) (by omega) (by omega) (by rw [Int.add_zero]; exact hD') hr6 rfl
        · refine y_ldc (n := -1000000004) dX10_drift_39 cX10_102 (by decide +kernel) ?_
          exact z_iret dX10_drift_41 rfl (Nat.le_refl 0) (Nat.le_refl 0) ⟨_, _, rfl, rfl, Or.inr (Or.inr (Or.inl ⟨by omega, by omega, by omega, rfl, rfl⟩))⟩
      · refine y_ldc (n := -1000000003) dX10_drift_24 cX10_196 (by decide +kernel) ?_
        exact z_iret dX10_drift_26 rfl (Nat.le_refl 0) (Nat.le_refl 0) ⟨_, _, rfl, rfl, Or.inr (Or.inl ⟨by omega, by omega, rfl, rfl⟩)⟩
    · refine y_ldc (n := -1000000002) dX10_drift_11 cX10_94 (by decide +kernel) ?_
      exact z_iret dX10_drift_13 rfl (Nat.le_refl 0) (Nat.le_refl 0) ⟨_, _, rfl, rfl, Or.inl ⟨by omega, rfl, rfl⟩⟩
end

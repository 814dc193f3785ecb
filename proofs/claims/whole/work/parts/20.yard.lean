/-! ===== Yard, at place y ===== -/
abbrev isY (y : Nat) : Prop := y = 120 ∨ y = 127
theorem yfacts {y : Nat} (hy : isY y) (b : Bool) : S0[y]? = some (.inl 9) ∧ S0[y + 1]? = some (.inr (0, 4)) ∧ S0[y + 2]? = some (.inr (0, 7)) ∧ S0[y + 3]? = some (.inr (0, 7)) ∧ S0[y + 4]? = some (.inr (0, 7)) ∧ S0[y + 5]? = some (.inr (0, 7)) ∧ S0[y + 6]? = some (.inr (0, 7)) ∧
    Fs b y 0 = some (y + 1) ∧ Fs b y 1 = some (y + 2) ∧ Fs b y 2 = some (y + 3) ∧ Fs b y 3 = some (y + 4) ∧ Fs b y 4 = some (y + 5) ∧ Fs b y 5 = some (y + 6) := by
  rcases hy with rfl | rfl <;> exact ⟨rfl, rfl, rfl, rfl, rfl, rfl, rfl, rfl, rfl, rfl, rfl, rfl, rfl⟩
section
variable {V : Nat → Int → Int} {b : Bool} {y : Nat}
theorem ct_X9_hasRoad {r : Int} (hy : isY y) (hr : rg r) (h4 : 0 ≤ V y 6 ∧ V y 6 ≤ 4) : yC 1 mX9_hasRoad [.ref y, .int (iI r)] V b (pR b V (fun q => (0 ≤ r ∧ r < V y 6 ∧ q = 1) ∨ (¬ (0 ≤ r ∧ r < V y 6) ∧ q = 0))) := by
  obtain ⟨sy, sy1, sy2, sy3, sy4, sy5, sy6, fy0, fy1, fy2, fy3, fy4, fy5⟩ := yfacts hy b
  refine zC_of (by decide +kernel) (Nat.le_of_ble_eq_true rfl) rfl ?_
  refine z_iload_n dX9_hasRoad_0 rfl ?_
  refine y_if_lt dX9_hasRoad_1 (by omega) (fun c_1 => ?_) (fun c_1 => ?_)
  · refine y_iconst dX9_hasRoad_21 ?_
    exact y_zret dX9_hasRoad_22 rfl (by omega) (Nat.le_refl 0) (Nat.le_refl 0) ⟨_, rfl, rfl, by omega⟩
  · refine z_iload_n dX9_hasRoad_4 rfl ?_
    refine z_aload_n dX9_hasRoad_5 rfl ?_
    refine y_getI (j := 6) fX9_30 dX9_hasRoad_6 rfl (by first | assumption | rfl) ?_
    refine y_icmp_ge dX9_hasRoad_9 (by omega) (by omega) (fun c_9 => ?_) (fun c_9 => ?_)
    · refine y_iconst dX9_hasRoad_21 ?_
      exact y_zret dX9_hasRoad_22 rfl (by omega) (Nat.le_refl 0) (Nat.le_refl 0) ⟨_, rfl, rfl, by omega⟩
    · refine z_iload_n dX9_hasRoad_12 rfl ?_
      refine y_iconst dX9_hasRoad_13 ?_
      refine y_icmp_ge dX9_hasRoad_14 (by omega) (by omega) (fun c_14 => ?_) (fun c_14 => ?_)
      · refine y_iconst dX9_hasRoad_21 ?_
        exact y_zret dX9_hasRoad_22 rfl (by omega) (Nat.le_refl 0) (Nat.le_refl 0) ⟨_, rfl, rfl, by omega⟩
      · refine y_iconst dX9_hasRoad_17 ?_
        refine z_goto dX9_hasRoad_18 ?_
        exact y_zret dX9_hasRoad_22 rfl (by omega) (Nat.le_refl 0) (Nat.le_refl 0) ⟨_, rfl, rfl, by omega⟩
theorem ct_X9_hasWagon {w : Int} (hy : isY y) (hr : rg w) (h4 : 0 ≤ V y 7 ∧ V y 7 ≤ 7) : yC 1 mX9_hasWagon [.ref y, .int (iI w)] V b (pR b V (fun q => (0 ≤ w ∧ w < V y 7 ∧ q = 1) ∨ (¬ (0 ≤ w ∧ w < V y 7) ∧ q = 0))) := by
  obtain ⟨sy, sy1, sy2, sy3, sy4, sy5, sy6, fy0, fy1, fy2, fy3, fy4, fy5⟩ := yfacts hy b
  refine zC_of (by decide +kernel) (Nat.le_of_ble_eq_true rfl) rfl ?_
  refine z_iload_n dX9_hasWagon_0 rfl ?_
  refine y_if_lt dX9_hasWagon_1 (by omega) (fun c_1 => ?_) (fun c_1 => ?_)
  · refine y_iconst dX9_hasWagon_22 ?_
    exact y_zret dX9_hasWagon_23 rfl (by omega) (Nat.le_refl 0) (Nat.le_refl 0) ⟨_, rfl, rfl, by omega⟩
  · refine z_iload_n dX9_hasWagon_4 rfl ?_
    refine z_aload_n dX9_hasWagon_5 rfl ?_
    refine y_getI (j := 7) fX9_34 dX9_hasWagon_6 rfl (by first | assumption | rfl) ?_
    refine y_icmp_ge dX9_hasWagon_9 (by omega) (by omega) (fun c_9 => ?_) (fun c_9 => ?_)
    · refine y_iconst dX9_hasWagon_22 ?_
      exact y_zret dX9_hasWagon_23 rfl (by omega) (Nat.le_refl 0) (Nat.le_refl 0) ⟨_, rfl, rfl, by omega⟩
    · refine z_iload_n dX9_hasWagon_12 rfl ?_
      refine y_bipush dX9_hasWagon_13 (by decide +kernel) ?_
      refine y_icmp_ge dX9_hasWagon_15 (by omega) (by omega) (fun c_15 => ?_) (fun c_15 => ?_)
      · refine y_iconst dX9_hasWagon_22 ?_
        exact y_zret dX9_hasWagon_23 rfl (by omega) (Nat.le_refl 0) (Nat.le_refl 0) ⟨_, rfl, rfl, by omega⟩
      · refine y_iconst dX9_hasWagon_18 ?_
        refine z_goto dX9_hasWagon_19 ?_
        exact y_zret dX9_hasWagon_23 rfl (by omega) (Nat.le_refl 0) (Nat.le_refl 0) ⟨_, rfl, rfl, by omega⟩
/-- a road's room; 0 of none -/
def rmX (V : Nat → Int → Int) (y : Nat) (r : Int) : Int := if 0 ≤ r ∧ r < V y 6 then V (y + 1) r else 0
theorem ct_X9_roomOf {r : Int} (hy : isY y) (hr : rg r) (h4 : 0 ≤ V y 6 ∧ V y 6 ≤ 4) : yC 2 mX9_roomOf [.ref y, .int (iI r)] V b (pR b V (fun q => q = rmX V y r)) := by
  obtain ⟨sy, sy1, sy2, sy3, sy4, sy5, sy6, fy0, fy1, fy2, fy3, fy4, fy5⟩ := yfacts hy b
  refine zC_of (by decide +kernel) (Nat.le_of_ble_eq_true rfl) rfl ?_
  refine z_aload_n dX9_roomOf_0 rfl ?_
  refine z_iload_n dX9_roomOf_1 rfl ?_
  refine y_callVr (ct_X9_hasRoad hy (by omega) (by omega)) kX9_57 dX9_roomOf_2 rfl rfl (by first | assumption | rfl) rfl (by decide) rfl (Nat.le_of_ble_eq_true rfl) (fun r_2 h_2 => ?_)
  refine y_if_eq dX9_roomOf_5 (by omega) (fun c_5 => ?_) (fun c_5 => ?_)
  · refine y_iconst dX9_roomOf_17 ?_
    exact z_iret dX9_roomOf_18 rfl (Nat.le_refl 0) (Nat.le_refl 0) ⟨_, rfl, rfl, by unfold rmX; split <;> omega⟩
  · refine z_aload_n dX9_roomOf_8 rfl ?_
    refine y_getR fX9_9 dX9_roomOf_9 (by first | assumption | rfl) (by first | assumption | rfl) ?_
    refine z_iload_n dX9_roomOf_12 rfl ?_
    refine y_iald dX9_roomOf_13 (by first | assumption | rfl) (by first | rfl | assumption) (by omega) ?_
    refine z_goto dX9_roomOf_14 ?_
    exact z_iret dX9_roomOf_18 rfl (Nat.le_refl 0) (Nat.le_refl 0) ⟨_, rfl, rfl, by unfold rmX; split <;> omega⟩
/-- a wagon's kind; 4 of none -/
def kdX (V : Nat → Int → Int) (y : Nat) (w : Int) : Int := if 0 ≤ w ∧ w < V y 7 then V (y + 2) w else 4
theorem ct_X9_kindOf {w : Int} (hy : isY y) (hr : rg w) (h4 : 0 ≤ V y 7 ∧ V y 7 ≤ 7) : yC 2 mX9_kindOf [.ref y, .int (iI w)] V b (pR b V (fun q => q = kdX V y w)) := by
  obtain ⟨sy, sy1, sy2, sy3, sy4, sy5, sy6, fy0, fy1, fy2, fy3, fy4, fy5⟩ := yfacts hy b
  refine zC_of (by decide +kernel) (Nat.le_of_ble_eq_true rfl) rfl ?_
  refine z_aload_n dX9_kindOf_0 rfl ?_
  refine z_iload_n dX9_kindOf_1 rfl ?_
  refine y_callVr (ct_X9_hasWagon hy (by omega) (by omega)) kX9_53 dX9_kindOf_2 rfl rfl (by first | assumption | rfl) rfl (by decide) rfl (Nat.le_of_ble_eq_true rfl) (fun r_2 h_2 => ?_)
  refine y_if_eq dX9_kindOf_5 (by omega) (fun c_5 => ?_) (fun c_5 => ?_)
  · refine y_iconst dX9_kindOf_17 ?_
    exact z_iret dX9_kindOf_18 rfl (Nat.le_refl 0) (Nat.le_refl 0) ⟨_, rfl, rfl, by unfold kdX; split <;> omega⟩
  · refine z_aload_n dX9_kindOf_8 rfl ?_
    refine y_getR fX9_15 dX9_kindOf_9 (by first | assumption | rfl) (by first | assumption | rfl) ?_
    refine z_iload_n dX9_kindOf_12 rfl ?_
    refine y_iald dX9_kindOf_13 (by first | assumption | rfl) (by first | rfl | assumption) (by omega) ?_
    refine z_goto dX9_kindOf_14 ?_
    exact z_iret dX9_kindOf_18 rfl (Nat.le_refl 0) (Nat.le_refl 0) ⟨_, rfl, rfl, by unfold kdX; split <;> omega⟩
theorem ct_X9_pairBit {a c : Int} (h : 0 ≤ a * 5 + c ∧ a * 5 + c ≤ 30) : yC 1 mX9_pairBit [.int (iI a), .int (iI c)] V b (pR b V (fun q => q = s1 (a * 5 + c))) := by
  refine zC_of (by decide +kernel) (Nat.le_of_ble_eq_true rfl) rfl ?_
  refine y_iconst dX9_pairBit_0 ?_
  refine z_iload_n dX9_pairBit_1 rfl ?_
  refine y_iconst dX9_pairBit_2 ?_
  refine y_imul dX9_pairBit_3 ?_
  refine z_iload_n dX9_pairBit_4 rfl ?_
  refine y_iadd dX9_pairBit_5 ?_
  refine y_shl1 dX9_pairBit_6 (by omega) ?_
  exact z_iret dX9_pairBit_7 rfl (Nat.le_refl 0) (Nat.le_refl 0) ⟨_, rfl, rfl, by omega⟩
/-- 1: by these grudges a will not stand ahead of c -/
def kkI (g a c : Int) : Int := if a ≠ 4 ∧ c ≠ 4 ∧ tb g (a * 5 + c) = true then 1 else 0
theorem kkI_01 (g a c : Int) : kkI g a c = 0 ∨ kkI g a c = 1 := by unfold kkI; split <;> simp
theorem ct_X9_kickBy {g a c : Int} (hg : 0 ≤ g ∧ g ≤ 2147483647) (ha : 0 ≤ a ∧ a ≤ 4) (hc : 0 ≤ c ∧ c ≤ 4) : yC 2 mX9_kickBy [.int (iI g), .int (iI a), .int (iI c)] V b (pR b V (fun q => q = kkI g a c)) := by
  have hs1 := s1_pos (a * 5 + c)
  have hs2 := s1_le (n := a * 5 + c) (by omega)
  have h1 := bAnd_nn g (s1 (a * 5 + c))
  have h2 := bAnd_le (x := g) (y := s1 (a * 5 + c)) (by omega)
  have h3 := bAnd_s1 g (a * 5 + c)
  refine zC_of (by decide +kernel) (Nat.le_of_ble_eq_true rfl) rfl ?_
  refine z_iload_n dX9_kickBy_0 rfl ?_
  refine y_iconst dX9_kickBy_1 ?_
  refine y_icmp_eq dX9_kickBy_2 (by omega) (by omega) (fun c_2 => ?_) (fun c_2 => ?_)
  · refine y_iconst dX9_kickBy_24 ?_
    exact y_zret dX9_kickBy_25 rfl (by omega) (Nat.le_refl 0) (Nat.le_refl 0) ⟨_, rfl, rfl, by unfold kkI; simp_all⟩
  · refine z_iload_n dX9_kickBy_5 rfl ?_
    refine y_iconst dX9_kickBy_6 ?_
    refine y_icmp_eq dX9_kickBy_7 (by omega) (by omega) (fun c_7 => ?_) (fun c_7 => ?_)
    · refine y_iconst dX9_kickBy_24 ?_
      exact y_zret dX9_kickBy_25 rfl (by omega) (Nat.le_refl 0) (Nat.le_refl 0) ⟨_, rfl, rfl, by unfold kkI; simp_all⟩
    · refine z_iload_n dX9_kickBy_10 rfl ?_
      refine z_iload_n dX9_kickBy_11 rfl ?_
      refine z_iload_n dX9_kickBy_12 rfl ?_
      refine y_callSr (ct_X9_pairBit (by omega)) kX9_49 dX9_kickBy_13 rfl rfl (by decide) rfl (Nat.le_of_ble_eq_true rfl) (fun r_13 h_13 => ?_)
      subst h_13
      refine y_iand dX9_kickBy_16 (by omega) (by omega) ?_
      refine y_if_eq dX9_kickBy_17 (by omega) (fun c_17 => ?_) (fun c_17 => ?_)
      · have h4 := h3.1 c_17
        refine y_iconst dX9_kickBy_24 ?_
        exact y_zret dX9_kickBy_25 rfl (by omega) (Nat.le_refl 0) (Nat.le_refl 0) ⟨_, rfl, rfl, by unfold kkI; simp_all⟩
      · have h4 : tb g (a * 5 + c) = true := by cases h5 : tb g (a * 5 + c) with | true => rfl | false => exact absurd (h3.2 h5) c_17
        refine y_iconst dX9_kickBy_20 ?_
        refine z_goto dX9_kickBy_21 ?_
        exact y_zret dX9_kickBy_25 rfl (by omega) (Nat.le_refl 0) (Nat.le_refl 0) ⟨_, rfl, rfl, by unfold kkI; simp_all⟩
theorem ct_X9_kindsKick {a c : Int} (hy : isY y) (hg : 0 ≤ V y 8 ∧ V y 8 ≤ 2147483647) (ha : 0 ≤ a ∧ a ≤ 4) (hc : 0 ≤ c ∧ c ≤ 4) : yC 3 mX9_kindsKick [.ref y, .int (iI a), .int (iI c)] V b (pR b V (fun q => q = kkI (V y 8) a c)) := by
  obtain ⟨sy, sy1, sy2, sy3, sy4, sy5, sy6, fy0, fy1, fy2, fy3, fy4, fy5⟩ := yfacts hy b
  have h01 := kkI_01 (V y 8) a c
  refine zC_of (by decide +kernel) (Nat.le_of_ble_eq_true rfl) rfl ?_
  refine z_aload_n dX9_kindsKick_0 rfl ?_
  refine y_getI (j := 8) fX9_37 dX9_kindsKick_1 rfl (by first | assumption | rfl) ?_
  refine z_iload_n dX9_kindsKick_4 rfl ?_
  refine z_iload_n dX9_kindsKick_5 rfl ?_
  refine y_callSr (ct_X9_kickBy (by omega) (by omega) (by omega)) kX9_60 dX9_kindsKick_6 rfl rfl (by decide) rfl (Nat.le_of_ble_eq_true rfl) (fun r_6 h_6 => ?_)
  exact y_zret dX9_kindsKick_9 rfl (by omega) (Nat.le_refl 0) (Nat.le_refl 0) ⟨_, rfl, rfl, by omega⟩
theorem ct_X9_speedOf {w : Int} (hy : isY y) (hr : 0 ≤ w ∧ w < V y 7) (h4 : 0 ≤ V y 7 ∧ V y 7 ≤ 7) : yC 2 mX9_speedOf [.ref y, .int (iI w)] V b (pR b V (fun q => q = 60 + V (y + 3) w - 2 * V (y + 4) w)) := by
  obtain ⟨sy, sy1, sy2, sy3, sy4, sy5, sy6, fy0, fy1, fy2, fy3, fy4, fy5⟩ := yfacts hy b
  refine zC_of (by decide +kernel) (Nat.le_of_ble_eq_true rfl) rfl ?_
  refine z_aload_n dX9_speedOf_0 rfl ?_
  refine z_iload_n dX9_speedOf_1 rfl ?_
  refine y_callVr (ct_X9_hasWagon hy (by omega) (by omega)) kX9_53 dX9_speedOf_2 rfl rfl (by first | assumption | rfl) rfl (by decide) rfl (Nat.le_of_ble_eq_true rfl) (fun r_2 h_2 => ?_)
  refine y_if_eq dX9_speedOf_5 (by omega) (fun c_5 => ?_) (fun c_5 => ?_)
  · omega
  · refine y_bipush dX9_speedOf_8 (by decide +kernel) ?_
    refine z_aload_n dX9_speedOf_10 rfl ?_
    refine y_getR fX9_18 dX9_speedOf_11 (by first | assumption | rfl) (by first | assumption | rfl) ?_
    refine z_iload_n dX9_speedOf_14 rfl ?_
    refine y_iald dX9_speedOf_15 (by first | assumption | rfl) (by first | rfl | assumption) (by omega) ?_
    refine y_iadd dX9_speedOf_16 ?_
    refine y_iconst dX9_speedOf_17 ?_
    refine z_aload_n dX9_speedOf_18 rfl ?_
    refine y_getR fX9_21 dX9_speedOf_19 (by first | assumption | rfl) (by first | assumption | rfl) ?_
    refine z_iload_n dX9_speedOf_22 rfl ?_
    refine y_iald dX9_speedOf_23 (by first | assumption | rfl) (by first | rfl | assumption) (by omega) ?_
    refine y_imul dX9_speedOf_24 ?_
    refine y_isub dX9_speedOf_25 ?_
    refine z_goto dX9_speedOf_26 ?_
    exact z_iret dX9_speedOf_30 rfl (Nat.le_refl 0) (Nat.le_refl 0) ⟨_, rfl, rfl, by omega⟩
theorem ct_X9_timeOf {w l : Int} (hy : isY y) (hr : 0 ≤ w ∧ w < V y 7) (h4 : 0 ≤ V y 7 ∧ V y 7 ≤ 7) (hl : 0 ≤ l ∧ l ≤ 99) (h5 : 1 ≤ V (y + 3) w ∧ V (y + 3) w ≤ 30) (h6 : 0 ≤ V (y + 4) w ∧ V (y + 4) w ≤ 20) : yC 3 mX9_timeOf [.ref y, .int (iI w), .int (iI l)] V b (pR b V (fun q => q = 100 * l / (60 + V (y + 3) w - 2 * V (y + 4) w))) := by
  obtain ⟨sy, sy1, sy2, sy3, sy4, sy5, sy6, fy0, fy1, fy2, fy3, fy4, fy5⟩ := yfacts hy b
  refine zC_of (by decide +kernel) (Nat.le_of_ble_eq_true rfl) rfl ?_
  refine z_aload_n dX9_timeOf_0 rfl ?_
  refine z_iload_n dX9_timeOf_1 rfl ?_
  refine y_callVr (ct_X9_speedOf hy (by omega) (by omega)) kX9_64 dX9_timeOf_2 rfl rfl (by first | assumption | rfl) rfl (by decide) rfl (Nat.le_of_ble_eq_true rfl) (fun r_2 h_2 => ?_)
  refine z_istore_n dX9_timeOf_5 (by decide) rfl rfl ?_
  refine z_iload_n dX9_timeOf_6 rfl ?_
  refine y_if_ne dX9_timeOf_7 (by omega) (fun c_7 => ?_) (fun c_7 => ?_)
  · refine y_bipush dX9_timeOf_14 (by decide +kernel) ?_
    refine z_iload_n dX9_timeOf_16 rfl ?_
    refine y_imul dX9_timeOf_17 ?_
    refine z_iload_n dX9_timeOf_18 rfl ?_
    refine y_idiv dX9_timeOf_19 (by omega) (by omega) ?_
    exact z_iret dX9_timeOf_20 rfl (Nat.le_refl 0) (Nat.le_refl 0) ⟨_, rfl, rfl, by rw [h_2]⟩
  · omega
theorem ct_X9_clear (hy : isY y) : yC 1 mX9_clear [.ref y] V b (pV b (fun V' => V' = vst (vst (vst (vst V y 6 0) y 7 0) y 8 0) y 9 0)) := by
  obtain ⟨sy, sy1, sy2, sy3, sy4, sy5, sy6, fy0, fy1, fy2, fy3, fy4, fy5⟩ := yfacts hy b
  refine zC_of (by decide +kernel) (Nat.le_of_ble_eq_true rfl) rfl ?_
  refine z_aload_n dX9_clear_0 rfl ?_
  refine y_iconst dX9_clear_1 ?_
  refine y_putI (j := 6) fX9_30 dX9_clear_2 rfl (by first | assumption | rfl) ?_
  refine z_aload_n dX9_clear_5 rfl ?_
  refine y_iconst dX9_clear_6 ?_
  refine y_putI (j := 7) fX9_34 dX9_clear_7 rfl (by first | assumption | rfl) ?_
  refine z_aload_n dX9_clear_10 rfl ?_
  refine y_iconst dX9_clear_11 ?_
  refine y_putI (j := 8) fX9_37 dX9_clear_12 rfl (by first | assumption | rfl) ?_
  refine z_aload_n dX9_clear_15 rfl ?_
  refine y_iconst dX9_clear_16 ?_
  refine y_putI (j := 9) fX9_40 dX9_clear_17 rfl (by first | assumption | rfl) ?_
  exact z_vret dX9_clear_20 rfl (Nat.le_refl 0) (Nat.le_refl 0) ⟨_, rfl, rfl, rfl⟩
theorem ct_X9_addRoad {m : Int} (hy : isY y) (h4 : 0 ≤ V y 6 ∧ V y 6 ≤ 3) : yC 1 mX9_addRoad [.ref y, .int (iI m)] V b (pV b (fun V' => V' = vst (vst V (y + 1) (V y 6) m) y 6 (V y 6 + 1))) := by
  obtain ⟨sy, sy1, sy2, sy3, sy4, sy5, sy6, fy0, fy1, fy2, fy3, fy4, fy5⟩ := yfacts hy b
  refine zC_of (by decide +kernel) (Nat.le_of_ble_eq_true rfl) rfl ?_
  refine z_aload_n dX9_addRoad_0 rfl ?_
  refine y_getI (j := 6) fX9_30 dX9_addRoad_1 rfl (by first | assumption | rfl) ?_
  refine y_iconst dX9_addRoad_4 ?_
  refine y_icmp_ge dX9_addRoad_5 (by omega) (by omega) (fun c_5 => ?_) (fun c_5 => ?_)
  · omega
  · refine z_aload_n dX9_addRoad_8 rfl ?_
    refine y_getR fX9_9 dX9_addRoad_9 (by first | assumption | rfl) (by first | assumption | rfl) ?_
    refine z_aload_n dX9_addRoad_12 rfl ?_
    refine y_getI (j := 6) fX9_30 dX9_addRoad_13 rfl (by first | assumption | rfl) ?_
    refine z_iload_n dX9_addRoad_16 rfl ?_
    refine y_iast dX9_addRoad_17 (by first | assumption | rfl) (by first | rfl | assumption) (by omega) ?_
    refine z_aload_n dX9_addRoad_18 rfl ?_
    refine z_dup dX9_addRoad_19 rfl ?_
    refine y_getI (j := 6) fX9_30 dX9_addRoad_20 rfl (by first | assumption | rfl) ?_
    refine y_iconst dX9_addRoad_23 ?_
    refine y_iadd dX9_addRoad_24 ?_
    refine y_putI (j := 6) fX9_30 dX9_addRoad_25 rfl (by first | assumption | rfl) ?_
    exact z_vret dX9_addRoad_28 rfl (Nat.le_refl 0) (Nat.le_refl 0) ⟨_, rfl, rfl, by simp only [vst_o (show y ≠ y + 1 by omega)]⟩
theorem ct_X9_addWagon {k g r : Int} (hy : isY y) (h4 : 0 ≤ V y 7 ∧ V y 7 ≤ 6) : yC 1 mX9_addWagon [.ref y, .int (iI k), .int (iI g), .int (iI r)] V b (pV b (fun V' => V' = vst (vst (vst (vst (vst V (y + 2) (V y 7) k) (y + 3) (V y 7) g) (y + 4) (V y 7) r) (y + 5) (V y 7) (-1)) y 7 (V y 7 + 1))) := by
  obtain ⟨sy, sy1, sy2, sy3, sy4, sy5, sy6, fy0, fy1, fy2, fy3, fy4, fy5⟩ := yfacts hy b
  have e2 : y ≠ y + 2 := by omega
  have e3 : y ≠ y + 3 := by omega
  have e4 : y ≠ y + 4 := by omega
  have e5 : y ≠ y + 5 := by omega
  refine zC_of (by decide +kernel) (Nat.le_of_ble_eq_true rfl) rfl ?_
  refine z_aload_n dX9_addWagon_0 rfl ?_
  refine y_getI (j := 7) fX9_34 dX9_addWagon_1 rfl (by first | assumption | rfl) ?_
  refine y_bipush dX9_addWagon_4 (by decide +kernel) ?_
  refine y_icmp_ge dX9_addWagon_6 (by omega) (by omega) (fun c_6 => ?_) (fun c_6 => ?_)
  · omega
  · refine z_aload_n dX9_addWagon_9 rfl ?_
    refine y_getR fX9_15 dX9_addWagon_10 (by first | assumption | rfl) (by first | assumption | rfl) ?_
    refine z_aload_n dX9_addWagon_13 rfl ?_
    refine y_getI (j := 7) fX9_34 dX9_addWagon_14 rfl (by first | assumption | rfl) ?_
    refine z_iload_n dX9_addWagon_17 rfl ?_
    refine y_iast dX9_addWagon_18 (by first | assumption | rfl) (by first | rfl | assumption) (by omega) ?_
    refine z_aload_n dX9_addWagon_19 rfl ?_
    refine y_getR fX9_18 dX9_addWagon_20 (by first | assumption | rfl) (by first | assumption | rfl) ?_
    refine z_aload_n dX9_addWagon_23 rfl ?_
    refine y_getI (j := 7) fX9_34 dX9_addWagon_24 rfl (by first | assumption | rfl) ?_
    refine z_iload_n dX9_addWagon_27 rfl ?_
    refine y_iast dX9_addWagon_28 (by first | assumption | rfl) (by first | rfl | assumption) (by simp only [vst_o e2]; omega) ?_
    refine z_aload_n dX9_addWagon_29 rfl ?_
    refine y_getR fX9_21 dX9_addWagon_30 (by first | assumption | rfl) (by first | assumption | rfl) ?_
    refine z_aload_n dX9_addWagon_33 rfl ?_
    refine y_getI (j := 7) fX9_34 dX9_addWagon_34 rfl (by first | assumption | rfl) ?_
    refine z_iload_n dX9_addWagon_37 rfl ?_
    refine y_iast dX9_addWagon_38 (by first | assumption | rfl) (by first | rfl | assumption) (by simp only [vst_o e2, vst_o e3]; omega) ?_
    refine z_aload_n dX9_addWagon_39 rfl ?_
    refine y_getR fX9_24 dX9_addWagon_40 (by first | assumption | rfl) (by first | assumption | rfl) ?_
    refine z_aload_n dX9_addWagon_43 rfl ?_
    refine y_getI (j := 7) fX9_34 dX9_addWagon_44 rfl (by first | assumption | rfl) ?_
    refine y_iconst dX9_addWagon_47 ?_
    refine y_iast dX9_addWagon_48 (by first | assumption | rfl) (by first | rfl | assumption) (by simp only [vst_o e2, vst_o e3, vst_o e4]; omega) ?_
    refine z_aload_n dX9_addWagon_49 rfl ?_
    refine z_dup dX9_addWagon_50 rfl ?_
    refine y_getI (j := 7) fX9_34 dX9_addWagon_51 rfl (by first | assumption | rfl) ?_
    refine y_iconst dX9_addWagon_54 ?_
    refine y_iadd dX9_addWagon_55 ?_
    refine y_putI (j := 7) fX9_34 dX9_addWagon_56 rfl (by first | assumption | rfl) ?_
    exact z_vret dX9_addWagon_59 rfl (Nat.le_refl 0) (Nat.le_refl 0) ⟨_, rfl, rfl, by simp only [vst_o e2, vst_o e3, vst_o e4, vst_o e5]⟩
theorem ct_X9_addGrudge {a c : Int} (hy : isY y) (hg : 0 ≤ V y 8 ∧ V y 8 ≤ 2147483647) (ha : 0 ≤ a ∧ a ≤ 4) (hc : 0 ≤ c ∧ c ≤ 4) : yC 2 mX9_addGrudge [.ref y, .int (iI a), .int (iI c)] V b (pI b (fun r V' => r = (if tb (V y 8) (a * 5 + c) then 0 else 1) ∧ V' = vst V y 8 (bOr (V y 8) (s1 (a * 5 + c))))) := by
  obtain ⟨sy, sy1, sy2, sy3, sy4, sy5, sy6, fy0, fy1, fy2, fy3, fy4, fy5⟩ := yfacts hy b
  have hs1 := s1_pos (a * 5 + c)
  have hs2 := s1_le (n := a * 5 + c) (by omega)
  have h1 := bAnd_nn (V y 8) (s1 (a * 5 + c))
  have h2 := bAnd_le (x := V y 8) (y := s1 (a * 5 + c)) (by omega)
  have h3 := bAnd_s1 (V y 8) (a * 5 + c)
  refine zC_of (by decide +kernel) (Nat.le_of_ble_eq_true rfl) rfl ?_
  refine z_iload_n dX9_addGrudge_0 rfl ?_
  refine z_iload_n dX9_addGrudge_1 rfl ?_
  refine y_callSr (ct_X9_pairBit (by omega)) kX9_49 dX9_addGrudge_2 rfl rfl (by decide) rfl (Nat.le_of_ble_eq_true rfl) (fun r_2 h_2 => ?_)
  subst h_2
  refine z_istore_n dX9_addGrudge_5 (by decide) rfl rfl ?_
  refine z_aload_n dX9_addGrudge_6 rfl ?_
  refine y_getI (j := 8) fX9_37 dX9_addGrudge_7 rfl (by first | assumption | rfl) ?_
  refine z_iload_n dX9_addGrudge_10 rfl ?_
  refine y_iand dX9_addGrudge_11 (by omega) (by omega) ?_
  refine y_if_ne dX9_addGrudge_12 (by omega) (fun c_12 => ?_) (fun c_12 => ?_)
  · have h4 : tb (V y 8) (a * 5 + c) = true := by cases h5 : tb (V y 8) (a * 5 + c) with | true => rfl | false => exact absurd (h3.2 h5) c_12
    refine y_iconst dX9_addGrudge_19 ?_
    refine z_istore dX9_addGrudge_20 (by decide) rfl rfl ?_
    refine z_aload_n dX9_addGrudge_22 rfl ?_
    refine z_dup dX9_addGrudge_23 rfl ?_
    refine y_getI (j := 8) fX9_37 dX9_addGrudge_24 rfl (by first | assumption | rfl) ?_
    refine z_iload_n dX9_addGrudge_27 rfl ?_
    refine y_ior dX9_addGrudge_28 (by omega) (by omega) ?_
    refine y_putI (j := 8) fX9_37 dX9_addGrudge_29 rfl (by first | assumption | rfl) ?_
    refine z_iload dX9_addGrudge_32 rfl ?_
    exact y_zret dX9_addGrudge_34 rfl (by omega) (Nat.le_refl 0) (Nat.le_refl 0) ⟨_, _, rfl, rfl, by simp [h4], rfl⟩
  · have h4 := h3.1 c_12
    refine y_iconst dX9_addGrudge_15 ?_
    refine z_goto dX9_addGrudge_16 ?_
    refine z_istore dX9_addGrudge_20 (by decide) rfl rfl ?_
    refine z_aload_n dX9_addGrudge_22 rfl ?_
    refine z_dup dX9_addGrudge_23 rfl ?_
    refine y_getI (j := 8) fX9_37 dX9_addGrudge_24 rfl (by first | assumption | rfl) ?_
    refine z_iload_n dX9_addGrudge_27 rfl ?_
    refine y_ior dX9_addGrudge_28 (by omega) (by omega) ?_
    refine y_putI (j := 8) fX9_37 dX9_addGrudge_29 rfl (by first | assumption | rfl) ?_
    refine z_iload dX9_addGrudge_32 rfl ?_
    exact y_zret dX9_addGrudge_34 rfl (by omega) (Nat.le_refl 0) (Nat.le_refl 0) ⟨_, _, rfl, rfl, by simp [h4], rfl⟩
theorem ct_X9_addToTrain {w : Int} (hy : isY y) (hr : 0 ≤ w ∧ w < V y 7) (h4 : 0 ≤ V y 7 ∧ V y 7 ≤ 7) (h5 : -1 ≤ V (y + 5) w ∧ V (y + 5) w ≤ 7) : yC 2 mX9_addToTrain [.ref y, .int (iI w)] V b (pI b (fun r V' => (V (y + 5) w ≠ -1 ∧ r = 0 ∧ V' = V) ∨ (V (y + 5) w = -1 ∧ r = 1 ∧ V' = vst (vst V (y + 5) w (V y 9)) y 9 (V y 9 + 1)))) := by
  obtain ⟨sy, sy1, sy2, sy3, sy4, sy5, sy6, fy0, fy1, fy2, fy3, fy4, fy5⟩ := yfacts hy b
  have e5 : y ≠ y + 5 := by omega
  refine zC_of (by decide +kernel) (Nat.le_of_ble_eq_true rfl) rfl ?_
  refine z_aload_n dX9_addToTrain_0 rfl ?_
  refine z_iload_n dX9_addToTrain_1 rfl ?_
  refine y_callVr (ct_X9_hasWagon hy (by omega) (by omega)) kX9_53 dX9_addToTrain_2 rfl rfl (by first | assumption | rfl) rfl (by decide) rfl (Nat.le_of_ble_eq_true rfl) (fun r_2 h_2 => ?_)
  refine y_if_eq dX9_addToTrain_5 (by omega) (fun c_5 => ?_) (fun c_5 => ?_)
  · omega
  · refine z_aload_n dX9_addToTrain_8 rfl ?_
    refine y_getR fX9_24 dX9_addToTrain_9 (by first | assumption | rfl) (by first | assumption | rfl) ?_
    refine z_iload_n dX9_addToTrain_12 rfl ?_
    refine y_iald dX9_addToTrain_13 (by first | assumption | rfl) (by first | rfl | assumption) (by omega) ?_
    refine y_iconst dX9_addToTrain_14 ?_
    refine y_icmp_eq dX9_addToTrain_15 (by omega) (by omega) (fun c_15 => ?_) (fun c_15 => ?_)
    · refine z_aload_n dX9_addToTrain_20 rfl ?_
      refine y_getR fX9_24 dX9_addToTrain_21 (by first | assumption | rfl) (by first | assumption | rfl) ?_
      refine z_iload_n dX9_addToTrain_24 rfl ?_
      refine z_aload_n dX9_addToTrain_25 rfl ?_
      refine y_getI (j := 9) fX9_40 dX9_addToTrain_26 rfl (by first | assumption | rfl) ?_
      refine y_iast dX9_addToTrain_29 (by first | assumption | rfl) (by first | rfl | assumption) (by omega) ?_
      refine z_aload_n dX9_addToTrain_30 rfl ?_
      refine z_dup dX9_addToTrain_31 rfl ?_
      refine y_getI (j := 9) fX9_40 dX9_addToTrain_32 rfl (by first | assumption | rfl) ?_
      refine y_iconst dX9_addToTrain_35 ?_
      refine y_iadd dX9_addToTrain_36 ?_
      refine y_putI (j := 9) fX9_40 dX9_addToTrain_37 rfl (by first | assumption | rfl) ?_
      refine y_iconst dX9_addToTrain_40 ?_
      exact y_zret dX9_addToTrain_41 rfl (by omega) (Nat.le_refl 0) (Nat.le_refl 0) ⟨_, _, rfl, rfl, Or.inr ⟨by omega, rfl, by simp only [vst_o e5]⟩⟩
    · refine y_iconst dX9_addToTrain_18 ?_
      exact y_zret dX9_addToTrain_19 rfl (by omega) (Nat.le_refl 0) (Nat.le_refl 0) ⟨_, _, rfl, rfl, Or.inl ⟨by omega, rfl, rfl⟩⟩
end

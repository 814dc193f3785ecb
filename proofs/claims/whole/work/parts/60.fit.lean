/-! ===== sureRoad; fit ===== -/
def oneR (x : Int) : Int := if x = 1 then 0 else if x = 2 then 1 else if x = 4 then 2 else if x = 8 then 3 else -1
theorem pop16 : ∀ x : Nat, x < 16 → (popN x 32 = 1 ↔ (x = 1 ∨ x = 2 ∨ x = 4 ∨ x = 8)) ∧ popN x 32 ≤ 4 := by decide +kernel
section
variable {V : Nat → Int → Int} {b : Bool}
theorem ct_tz4 {x : Int} (h : x = 1 ∨ x = 2 ∨ x = 4 ∨ x = 8) : yC 1 mJ6_numberOfTrailingZeros_0f7a4 [.int (iI x)] V b (pR b V (fun q => q = oneR x)) := by
  rcases h with h | h | h | h <;> subst h
  · exact ct_tz_1
  · exact ct_tz_2
  · exact ct_tz_4
  · exact ct_tz_8
theorem oneR_rg (x : Int) : -1 ≤ oneR x ∧ oneR x ≤ 3 := by unfold oneR; repeat' split; all_goals omega
theorem ct_X2_sureRoad {i w : Int} (hi : rg i) (hw : rg w) (h : ∀ j, 0 ≤ V 119 j ∧ V 119 j ≤ 15) : yC 2 mX2_sureRoad [.ref 116, .int (iI i), .int (iI w)] V b (pR b V (fun q => q = if 0 ≤ i ∧ i < w ∧ i < 7 then oneR (V 119 i) else -1)) := by
  have hx := h i
  have hp := pop16 (V 119 i).toNat (by omega)
  have ho := oneR_rg (V 119 i)
  refine zC_of (by decide +kernel) (Nat.le_of_ble_eq_true rfl) rfl ?_
  refine z_iload_n dX2_sureRoad_0 rfl ?_
  refine y_if_lt dX2_sureRoad_1 (by omega) (fun c_1 => ?_) (fun c_1 => ?_)
  · refine y_iconst dX2_sureRoad_28 ?_
    exact z_iret dX2_sureRoad_29 rfl (Nat.le_refl 0) (Nat.le_refl 0) ⟨_, rfl, rfl, by
      by_cases hh : 0 ≤ i ∧ i < w ∧ i < 7
      · rw [if_pos hh]
        unfold oneR
        rw [if_neg (by omega), if_neg (by omega), if_neg (by omega), if_neg (by omega)]
      · rw [if_neg hh]⟩
  · refine z_iload_n dX2_sureRoad_4 rfl ?_
    refine z_iload_n dX2_sureRoad_5 rfl ?_
    refine y_icmp_ge dX2_sureRoad_6 (by omega) (by omega) (fun c_6 => ?_) (fun c_6 => ?_)
    · refine y_iconst dX2_sureRoad_28 ?_
      exact z_iret dX2_sureRoad_29 rfl (Nat.le_refl 0) (Nat.le_refl 0) ⟨_, rfl, rfl, by
        by_cases hh : 0 ≤ i ∧ i < w ∧ i < 7
        · rw [if_pos hh]
          unfold oneR
          rw [if_neg (by omega), if_neg (by omega), if_neg (by omega), if_neg (by omega)]
        · rw [if_neg hh]⟩
    · refine z_iload_n dX2_sureRoad_9 rfl ?_
      refine y_bipush dX2_sureRoad_10 (by decide +kernel) ?_
      refine y_icmp_ge dX2_sureRoad_12 (by omega) (by omega) (fun c_12 => ?_) (fun c_12 => ?_)
      · refine y_iconst dX2_sureRoad_28 ?_
        exact z_iret dX2_sureRoad_29 rfl (Nat.le_refl 0) (Nat.le_refl 0) ⟨_, rfl, rfl, by
          by_cases hh : 0 ≤ i ∧ i < w ∧ i < 7
          · rw [if_pos hh]
            unfold oneR
            rw [if_neg (by omega), if_neg (by omega), if_neg (by omega), if_neg (by omega)]
          · rw [if_neg hh]⟩
      · refine z_aload_n dX2_sureRoad_15 rfl ?_
        refine y_getR fX2_18 dX2_sureRoad_16 (by first | assumption | rfl) (by first | assumption | rfl) ?_
        refine z_iload_n dX2_sureRoad_19 rfl ?_
        refine y_iald dX2_sureRoad_20 (by first | assumption | rfl) (by first | rfl | assumption) (by omega) ?_
        refine y_callSr (ct_J6_bitCount (by omega)) kX2_102 dX2_sureRoad_21 rfl rfl (by decide) rfl (Nat.le_of_ble_eq_true rfl) (fun r_21 h_21 => ?_)
        refine y_iconst dX2_sureRoad_24 ?_
        refine y_icmp_eq dX2_sureRoad_25 (by omega) (by omega) (fun c_25 => ?_) (fun c_25 => ?_)
        · refine z_aload_n dX2_sureRoad_30 rfl ?_
          refine y_getR fX2_18 dX2_sureRoad_31 (by first | assumption | rfl) (by first | assumption | rfl) ?_
          refine z_iload_n dX2_sureRoad_34 rfl ?_
          refine y_iald dX2_sureRoad_35 (by first | assumption | rfl) (by first | rfl | assumption) (by omega) ?_
          refine y_callSr (ct_tz4 (by omega)) kX2_107 dX2_sureRoad_36 rfl rfl (by decide) rfl (Nat.le_of_ble_eq_true rfl) (fun r_36 h_36 => ?_)
          exact z_iret dX2_sureRoad_39 rfl (Nat.le_refl 0) (Nat.le_refl 0) ⟨_, rfl, rfl, by rw [if_pos (by omega)]; exact h_36⟩
        · refine y_iconst dX2_sureRoad_28 ?_
          exact z_iret dX2_sureRoad_29 rfl (Nat.le_refl 0) (Nat.le_refl 0) ⟨_, rfl, rfl, by
            by_cases hh : 0 ≤ i ∧ i < w ∧ i < 7
            · rw [if_pos hh]
              unfold oneR
              rw [if_neg (by omega), if_neg (by omega), if_neg (by omega), if_neg (by omega)]
            · rw [if_neg hh]⟩
/-- what fit leaves and says -/
def ftP (V V' : Nat → Int → Int) (y : Nat) (i q : Int) : Prop := ∃ U c, suP V U y ∧ srP U V' y c ∧ q = if i = -1 then c else if 0 ≤ i ∧ i < V 5 4 ∧ i < 7 then oneR (V' 119 i) else -1
theorem ct_X10_fit {i : Int} (hi : rg i) (hys : YS V (yN b)) (hc : cN V) (hwn : wN V) (hch : chS V) (hft : ftR V) : yC 20 mX10_fit [.ref 0, .int (iI i)] V b (pI b (fun q V' => ftP V V' (yN b) i q)) := by
  have hy := yN_Y b
  obtain ⟨sy, sy1, sy2, sy3, sy4, sy5, sy6, fy0, fy1, fy2, fy3, fy4, fy5⟩ := yfacts hy b
  have yb : 120 ≤ yN b ∧ yN b ≤ 127 := by rcases hy with h | h <;> omega
  have hf : Fs b 0 11 = some (yN b) := rfl
  have c4 := hc 4
  refine zC_of (by decide +kernel) (Nat.le_of_ble_eq_true rfl) rfl ?_
  refine z_aload_n dX10_fit_0 rfl ?_
  refine y_getR fX10_62 dX10_fit_1 (by first | assumption | rfl) (by first | assumption | rfl) ?_
  refine z_aload_n dX10_fit_4 rfl ?_
  refine y_getR fX10_83 dX10_fit_5 (by first | assumption | rfl) (by first | assumption | rfl) ?_
  refine z_aload_n dX10_fit_8 rfl ?_
  refine y_getR fX10_19 dX10_fit_9 (by first | assumption | rfl) (by first | assumption | rfl) ?_
  refine y_callVv (ct_X0_setUp (by assumption) (by assumption) (by assumption) (by assumption)) kX10_230 dX10_fit_12 rfl rfl (by first | assumption | rfl) rfl (by decide) rfl (Nat.le_of_ble_eq_true rfl) (fun U h_12 => ?_)
  have hBS := BS_su h_12 hys hc
  obtain ⟨s1, s2, s3, s4, s5, s6⟩ := id h_12
  have hUY : YS U (yN b) := YS_congr (fun a a1 a2 => s6 a (by omega)) hys
  have hUc : cN U := by unfold cN; rw [s6 5 (by omega)]; exact hc
  have hUw : wN U := by unfold wN; rw [s6 4 (by omega)]; exact hwn
  have hUh : chS U := by unfold chS; rw [s6 100 (by omega), s6 101 (by omega), s6 102 (by omega), s6 103 (by omega)]; exact hch
  have hUf : ftR U := by unfold ftR; rw [s6 118 (by omega), s6 119 (by omega)]; exact hft
  refine z_aload_n dX10_fit_15 rfl ?_
  refine y_getR fX10_76 dX10_fit_16 (by first | assumption | rfl) (by first | assumption | rfl) ?_
  refine z_aload_n dX10_fit_19 rfl ?_
  refine y_getR fX10_62 dX10_fit_20 (by first | assumption | rfl) (by first | assumption | rfl) ?_
  refine z_aload_n dX10_fit_23 rfl ?_
  refine y_getR fX10_83 dX10_fit_24 (by first | assumption | rfl) (by first | assumption | rfl) ?_
  refine z_aload_n dX10_fit_27 rfl ?_
  refine y_getR fX10_19 dX10_fit_28 (by first | assumption | rfl) (by first | assumption | rfl) ?_
  refine z_aload_n dX10_fit_31 rfl ?_
  refine y_getR fX10_52 dX10_fit_32 (by first | assumption | rfl) (by first | assumption | rfl) ?_
  refine y_callVi (ct_X2_search hy hUY hUc hUw hBS (fun r r0 r1 => by rw [s6 5 (by omega)]; exact (s5 r r0 (by omega)).2.1) hUh hUf) kX10_306 dX10_fit_35 rfl rfl (by first | assumption | rfl) rfl (by decide) rfl (Nat.le_of_ble_eq_true rfl) (fun c_35 V2 h_35 => ?_)
  have e8 : V2 108 = U 108 := h_35.1 108 (by decide) (by decide) (by decide)
  have hrc : 0 ≤ c_35 ∧ c_35 ≤ 16384 := by
    rcases h_35.2.2 with ⟨_, g, _⟩ | ⟨_, g, _⟩
    · have g1 := GI_nn (R := (U 108 4).toNat) (kd := U 109) (rm := U 110) (wt := wtX U) (U 108 5).toNat 0 (U 111)
      have g2 := GI_le (R := (U 108 4).toNat) (kd := U 109) (rm := U 110) (wt := wtX U) (by have := hBS.1; omega) (U 108 5).toNat 0 (U 111)
      have g3 : 4 ^ (U 108 5).toNat ≤ 4 ^ 7 := Nat.pow_le_pow_right (by decide) (by have := hBS.2.1; omega)
      have g4 : ((4 ^ (U 108 5).toNat : Nat) : Int) = (4 : Int) ^ (U 108 5).toNat := by norm_cast
      have g5 : 4 ^ 7 = 16384 := by decide
      omega
    · omega
  refine z_istore_n dX10_fit_38 (by decide) rfl rfl ?_
  refine z_iload_n dX10_fit_39 rfl ?_
  refine y_iconst dX10_fit_40 ?_
  refine y_icmp_ne dX10_fit_41 (by omega) (by omega) (fun c_41 => ?_) (fun c_41 => ?_)
  · refine z_aload_n dX10_fit_48 rfl ?_
    refine y_getR fX10_76 dX10_fit_49 (by first | assumption | rfl) (by first | assumption | rfl) ?_
    refine z_iload_n dX10_fit_52 rfl ?_
    refine z_aload_n dX10_fit_53 rfl ?_
    refine y_getR fX10_62 dX10_fit_54 (by first | assumption | rfl) (by first | assumption | rfl) ?_
    refine y_getI (j := 5) fX10_248 dX10_fit_57 rfl (by first | assumption | rfl) ?_
    rw [e8, s2]
    refine y_callVr (ct_X2_sureRoad (by omega) (by omega) h_35.2.1.2) kX10_309 dX10_fit_60 rfl rfl (by first | assumption | rfl) rfl (by decide) rfl (Nat.le_of_ble_eq_true rfl) (fun r_60 h_60 => ?_)
    exact z_iret dX10_fit_63 rfl (Nat.le_refl 0) (Nat.le_refl 0) ⟨_, _, rfl, rfl, U, c_35, h_12, h_35, by first | rw [if_pos (by omega)] | (rw [if_neg (by omega)]; exact h_60)⟩
  · refine z_iload_n dX10_fit_44 rfl ?_
    refine z_goto dX10_fit_45 ?_
    exact z_iret dX10_fit_63 rfl (Nat.le_refl 0) (Nat.le_refl 0) ⟨_, _, rfl, rfl, U, c_35, h_12, h_35, by first | rw [if_pos (by omega)] | (rw [if_neg (by omega)]; exact h_60)⟩
end

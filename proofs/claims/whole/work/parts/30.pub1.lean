/-! ===== GrudgeYard's own methods, at 0: those that only tell ===== -/
theorem yN_Y (b : Bool) : isY (yN b) := by
  cases b
  · exact Or.inl rfl
  · exact Or.inr rfl
theorem yD_Y (b : Bool) : isY (yD b) := by
  cases b
  · exact Or.inr rfl
  · exact Or.inl rfl
section
variable {V : Nat → Int → Int} {b : Bool}
theorem ct_X10_isKind {k : Int} (hk : rg k) : yC 1 mX10_isKind [.int (iI k)] V b (pR b V (fun q => (0 ≤ k ∧ k ≤ 4 ∧ q = 1) ∨ (¬ (0 ≤ k ∧ k ≤ 4) ∧ q = 0))) := by
  refine zC_of (by decide +kernel) (Nat.le_of_ble_eq_true rfl) rfl ?_
  refine z_iload_n dX10_isKind_0 rfl ?_
  refine y_if_lt dX10_isKind_1 (by omega) (fun c_1 => ?_) (fun c_1 => ?_)
  · refine y_iconst dX10_isKind_13 ?_
    exact y_zret dX10_isKind_14 rfl (by omega) (Nat.le_refl 0) (Nat.le_refl 0) ⟨_, rfl, rfl, by omega⟩
  · refine z_iload_n dX10_isKind_4 rfl ?_
    refine y_iconst dX10_isKind_5 ?_
    refine y_icmp_ge dX10_isKind_6 (by omega) (by omega) (fun c_6 => ?_) (fun c_6 => ?_)
    · refine y_iconst dX10_isKind_13 ?_
      exact y_zret dX10_isKind_14 rfl (by omega) (Nat.le_refl 0) (Nat.le_refl 0) ⟨_, rfl, rfl, by omega⟩
    · refine y_iconst dX10_isKind_9 ?_
      refine z_goto dX10_isKind_10 ?_
      exact y_zret dX10_isKind_14 rfl (by omega) (Nat.le_refl 0) (Nat.le_refl 0) ⟨_, rfl, rfl, by omega⟩
theorem ct_X10_fault : yC 1 mX10_fault [.ref 0] V b (pR b V (fun q => q = V 1 5)) := by
  refine zC_of (by decide +kernel) (Nat.le_of_ble_eq_true rfl) rfl ?_
  refine z_aload_n dX10_fault_0 rfl ?_
  refine y_getR fX10_10 dX10_fault_1 (by first | assumption | rfl) (by first | assumption | rfl) ?_
  refine y_getI (j := 5) fX10_123 dX10_fault_4 rfl (by first | assumption | rfl) ?_
  exact z_iret dX10_fault_7 rfl (Nat.le_refl 0) (Nat.le_refl 0) ⟨_, rfl, rfl, by omega⟩
/-- what told answers -/
def tdX (V : Nat → Int → Int) (y : Nat) (w : Int) : Int :=
  if w = 0 then V y 6 else if w = 1 then V y 7 else if w = 2 then V y 9 else if w = 3 then V 1 1 else if w = 4 then V 5 4 else if w = 5 then V 3 3 else if w = 6 then V 3 4 else if w = 7 then V 3 5 else if w = 8 then V 99 0 else if w = 9 then V 100 3 else if w = 10 then V 104 3 else if w = 11 then V 7 1 else -1000000002
theorem ct_X10_told {w : Int} (hw : rg w) : yC 3 mX10_told [.ref 0, .int (iI w)] V b (pR b V (fun q => q = tdX V (yN b) w)) := by
  have hy := yN_Y b
  obtain ⟨sy, sy1, sy2, sy3, sy4, sy5, sy6, fy0, fy1, fy2, fy3, fy4, fy5⟩ := yfacts hy b
  have hf : Fs b 0 11 = some (yN b) := rfl
  refine zC_of (by decide +kernel) (Nat.le_of_ble_eq_true rfl) rfl ?_
  refine z_iload_n dX10_told_0 rfl ?_
  rcases (show (w < 0 ∨ 11 < w) ∨ w = 0 ∨ w = 1 ∨ w = 2 ∨ w = 3 ∨ w = 4 ∨ w = 5 ∨ w = 6 ∨ w = 7 ∨ w = 8 ∨ w = 9 ∨ w = 10 ∨ w = 11 by omega) with h_1 | h_1 | h_1 | h_1 | h_1 | h_1 | h_1 | h_1 | h_1 | h_1 | h_1 | h_1 | h_1
  · refine y_tsOut (tgt := 161) dX10_told_1 (by omega) h_1 (by decide) ?_
    refine y_ldc (n := -1000000002) dX10_told_161 cX10_94 (by decide +kernel) ?_
    exact z_iret dX10_told_163 rfl (Nat.le_refl 0) (Nat.le_refl 0) ⟨_, rfl, rfl, by unfold tdX; repeat rw [if_neg (by omega)]⟩
  · refine y_tsIn (off := 63) (tgt := 64) dX10_told_1 (by omega) (by omega) (by omega) (by rw [h_1]; rfl) (by decide) ?_
    refine z_aload_n dX10_told_64 rfl ?_
    refine y_getR fX10_83 dX10_told_65 (by first | assumption | rfl) (by first | assumption | rfl) ?_
    refine y_getI (j := 6) fX10_126 dX10_told_68 rfl (by first | assumption | rfl) ?_
    exact z_iret dX10_told_71 rfl (Nat.le_refl 0) (Nat.le_refl 0) ⟨_, rfl, rfl, by unfold tdX; simp_all⟩
  · refine y_tsIn (off := 71) (tgt := 72) dX10_told_1 (by omega) (by omega) (by omega) (by rw [h_1]; rfl) (by decide) ?_
    refine z_aload_n dX10_told_72 rfl ?_
    refine y_getR fX10_83 dX10_told_73 (by first | assumption | rfl) (by first | assumption | rfl) ?_
    refine y_getI (j := 7) fX10_107 dX10_told_76 rfl (by first | assumption | rfl) ?_
    exact z_iret dX10_told_79 rfl (Nat.le_refl 0) (Nat.le_refl 0) ⟨_, rfl, rfl, by unfold tdX; simp_all⟩
  · refine y_tsIn (off := 79) (tgt := 80) dX10_told_1 (by omega) (by omega) (by omega) (by rw [h_1]; rfl) (by decide) ?_
    refine z_aload_n dX10_told_80 rfl ?_
    refine y_getR fX10_83 dX10_told_81 (by first | assumption | rfl) (by first | assumption | rfl) ?_
    refine y_getI (j := 9) fX10_129 dX10_told_84 rfl (by first | assumption | rfl) ?_
    exact z_iret dX10_told_87 rfl (Nat.le_refl 0) (Nat.le_refl 0) ⟨_, rfl, rfl, by unfold tdX; simp_all⟩
  · refine y_tsIn (off := 87) (tgt := 88) dX10_told_1 (by omega) (by omega) (by omega) (by rw [h_1]; rfl) (by decide) ?_
    refine z_aload_n dX10_told_88 rfl ?_
    refine y_getR fX10_10 dX10_told_89 (by first | assumption | rfl) (by first | assumption | rfl) ?_
    refine y_getI (j := 1) fX10_99 dX10_told_92 rfl (by first | assumption | rfl) ?_
    exact z_iret dX10_told_95 rfl (Nat.le_refl 0) (Nat.le_refl 0) ⟨_, rfl, rfl, by unfold tdX; simp_all⟩
  · refine y_tsIn (off := 95) (tgt := 96) dX10_told_1 (by omega) (by omega) (by omega) (by rw [h_1]; rfl) (by decide) ?_
    refine z_aload_n dX10_told_96 rfl ?_
    refine y_getR fX10_19 dX10_told_97 (by first | assumption | rfl) (by first | assumption | rfl) ?_
    refine y_iconst dX10_told_100 ?_
    refine y_callVr (ct_X8_countOf (by omega)) kX10_132 dX10_told_101 rfl rfl (by first | assumption | rfl) rfl (by decide) rfl (Nat.le_of_ble_eq_true rfl) (fun r_101 h_101 => ?_)
    exact z_iret dX10_told_104 rfl (Nat.le_refl 0) (Nat.le_refl 0) ⟨_, rfl, rfl, by unfold tdX; simp_all⟩
  · refine y_tsIn (off := 104) (tgt := 105) dX10_told_1 (by omega) (by omega) (by omega) (by rw [h_1]; rfl) (by decide) ?_
    refine z_aload_n dX10_told_105 rfl ?_
    refine y_getR fX10_19 dX10_told_106 (by first | assumption | rfl) (by first | assumption | rfl) ?_
    refine y_getI (j := 3) fX10_136 dX10_told_109 rfl (by first | assumption | rfl) ?_
    exact z_iret dX10_told_112 rfl (Nat.le_refl 0) (Nat.le_refl 0) ⟨_, rfl, rfl, by unfold tdX; simp_all⟩
  · refine y_tsIn (off := 112) (tgt := 113) dX10_told_1 (by omega) (by omega) (by omega) (by rw [h_1]; rfl) (by decide) ?_
    refine z_aload_n dX10_told_113 rfl ?_
    refine y_getR fX10_19 dX10_told_114 (by first | assumption | rfl) (by first | assumption | rfl) ?_
    refine y_getI (j := 4) fX10_139 dX10_told_117 rfl (by first | assumption | rfl) ?_
    exact z_iret dX10_told_120 rfl (Nat.le_refl 0) (Nat.le_refl 0) ⟨_, rfl, rfl, by unfold tdX; simp_all⟩
  · refine y_tsIn (off := 120) (tgt := 121) dX10_told_1 (by omega) (by omega) (by omega) (by rw [h_1]; rfl) (by decide) ?_
    refine z_aload_n dX10_told_121 rfl ?_
    refine y_getR fX10_19 dX10_told_122 (by first | assumption | rfl) (by first | assumption | rfl) ?_
    refine y_getI (j := 5) fX10_142 dX10_told_125 rfl (by first | assumption | rfl) ?_
    exact z_iret dX10_told_128 rfl (Nat.le_refl 0) (Nat.le_refl 0) ⟨_, rfl, rfl, by unfold tdX; simp_all⟩
  · refine y_tsIn (off := 128) (tgt := 129) dX10_told_1 (by omega) (by omega) (by omega) (by rw [h_1]; rfl) (by decide) ?_
    refine z_aload_n dX10_told_129 rfl ?_
    refine y_getR fX10_43 dX10_told_130 (by first | assumption | rfl) (by first | assumption | rfl) ?_
    refine y_getI (j := 0) fX10_145 dX10_told_133 rfl (by first | assumption | rfl) ?_
    exact z_iret dX10_told_136 rfl (Nat.le_refl 0) (Nat.le_refl 0) ⟨_, rfl, rfl, by unfold tdX; simp_all⟩
  · refine y_tsIn (off := 136) (tgt := 137) dX10_told_1 (by omega) (by omega) (by omega) (by rw [h_1]; rfl) (by decide) ?_
    refine z_aload_n dX10_told_137 rfl ?_
    refine y_getR fX10_52 dX10_told_138 (by first | assumption | rfl) (by first | assumption | rfl) ?_
    refine y_getI (j := 3) fX10_148 dX10_told_141 rfl (by first | assumption | rfl) ?_
    exact z_iret dX10_told_144 rfl (Nat.le_refl 0) (Nat.le_refl 0) ⟨_, rfl, rfl, by unfold tdX; simp_all⟩
  · refine y_tsIn (off := 144) (tgt := 145) dX10_told_1 (by omega) (by omega) (by omega) (by rw [h_1]; rfl) (by decide) ?_
    refine z_aload_n dX10_told_145 rfl ?_
    refine y_getR fX10_56 dX10_told_146 (by first | assumption | rfl) (by first | assumption | rfl) ?_
    refine y_getI (j := 3) fX10_148 dX10_told_149 rfl (by first | assumption | rfl) ?_
    exact z_iret dX10_told_152 rfl (Nat.le_refl 0) (Nat.le_refl 0) ⟨_, rfl, rfl, by unfold tdX; simp_all⟩
  · refine y_tsIn (off := 152) (tgt := 153) dX10_told_1 (by omega) (by omega) (by omega) (by rw [h_1]; rfl) (by decide) ?_
    refine z_aload_n dX10_told_153 rfl ?_
    refine y_getR fX10_26 dX10_told_154 (by first | assumption | rfl) (by first | assumption | rfl) ?_
    refine y_getI (j := 1) fX10_149 dX10_told_157 rfl (by first | assumption | rfl) ?_
    exact z_iret dX10_told_160 rfl (Nat.le_refl 0) (Nat.le_refl 0) ⟨_, rfl, rfl, by unfold tdX; simp_all⟩
theorem ct_X10_road {r w : Int} (hr : rg r) (hw : rg w) (hys : YS V (yN b)) : yC 3 mX10_road [.ref 0, .int (iI r), .int (iI w)] V b (pR b V (fun q => (¬ (0 ≤ r ∧ r < V (yN b) 6) ∧ q = -1000000001) ∨ ((0 ≤ r ∧ r < V (yN b) 6) ∧ ((w = 0 ∧ q = V (yN b + 1) r) ∨ (w = 1 ∧ q = V 5 r) ∨ (w = 2 ∧ q = V 6 r) ∨ ((w < 0 ∨ 2 < w) ∧ q = -1000000002))))) := by
  have hy := yN_Y b
  obtain ⟨sy, sy1, sy2, sy3, sy4, sy5, sy6, fy0, fy1, fy2, fy3, fy4, fy5⟩ := yfacts hy b
  have hf : Fs b 0 11 = some (yN b) := rfl
  obtain ⟨q1, q2, q3, -⟩ := id hys
  refine zC_of (by decide +kernel) (Nat.le_of_ble_eq_true rfl) rfl ?_
  refine z_aload_n dX10_road_0 rfl ?_
  refine y_getR fX10_83 dX10_road_1 (by first | assumption | rfl) (by first | assumption | rfl) ?_
  refine z_iload_n dX10_road_4 rfl ?_
  refine y_callVr (ct_X9_hasRoad hy (by omega) (by omega)) kX10_173 dX10_road_5 rfl rfl (by first | assumption | rfl) rfl (by decide) rfl (Nat.le_of_ble_eq_true rfl) (fun r_5 h_5 => ?_)
  refine y_if_ne dX10_road_8 (by omega) (fun c_8 => ?_) (fun c_8 => ?_)
  · refine z_iload_n dX10_road_14 rfl ?_
    rcases (show (w < 0 ∨ 2 < w) ∨ w = 0 ∨ w = 1 ∨ w = 2 by omega) with h_15 | h_15 | h_15 | h_15
    · refine y_tsOut (tgt := 67) dX10_road_15 (by omega) h_15 (by decide) ?_
      refine y_ldc (n := -1000000002) dX10_road_67 cX10_94 (by decide +kernel) ?_
      exact z_iret dX10_road_69 rfl (Nat.le_refl 0) (Nat.le_refl 0) ⟨_, rfl, rfl, by omega⟩
    · refine y_tsIn (off := 25) (tgt := 40) dX10_road_15 (by omega) (by omega) (by omega) (by rw [h_15]; rfl) (by decide) ?_
      refine z_aload_n dX10_road_40 rfl ?_
      refine y_getR fX10_83 dX10_road_41 (by first | assumption | rfl) (by first | assumption | rfl) ?_
      refine z_iload_n dX10_road_44 rfl ?_
      refine y_callVr (ct_X9_roomOf hy (by omega) (by omega)) kX10_176 dX10_road_45 rfl rfl (by first | assumption | rfl) rfl (by decide) rfl (Nat.le_of_ble_eq_true rfl) (fun r_45 h_45 => ?_)
      exact z_iret dX10_road_48 rfl (Nat.le_refl 0) (Nat.le_refl 0) ⟨_, rfl, rfl, by have e : rmX V (yN b) r = V (yN b + 1) r := (by unfold rmX; rw [if_pos (by omega)]); omega⟩
    · refine y_tsIn (off := 34) (tgt := 49) dX10_road_15 (by omega) (by omega) (by omega) (by rw [h_15]; rfl) (by decide) ?_
      refine z_aload_n dX10_road_49 rfl ?_
      refine y_getR fX10_19 dX10_road_50 (by first | assumption | rfl) (by first | assumption | rfl) ?_
      refine z_iload_n dX10_road_53 rfl ?_
      refine y_callVr (ct_X8_countOf (by omega)) kX10_132 dX10_road_54 rfl rfl (by first | assumption | rfl) rfl (by decide) rfl (Nat.le_of_ble_eq_true rfl) (fun r_54 h_54 => ?_)
      exact z_iret dX10_road_57 rfl (Nat.le_refl 0) (Nat.le_refl 0) ⟨_, rfl, rfl, by omega⟩
    · refine y_tsIn (off := 43) (tgt := 58) dX10_road_15 (by omega) (by omega) (by omega) (by rw [h_15]; rfl) (by decide) ?_
      refine z_aload_n dX10_road_58 rfl ?_
      refine y_getR fX10_19 dX10_road_59 (by first | assumption | rfl) (by first | assumption | rfl) ?_
      refine z_iload_n dX10_road_62 rfl ?_
      refine y_callVr (ct_X8_peaceOf (by omega)) kX10_179 dX10_road_63 rfl rfl (by first | assumption | rfl) rfl (by decide) rfl (Nat.le_of_ble_eq_true rfl) (fun r_63 h_63 => ?_)
      exact z_iret dX10_road_66 rfl (Nat.le_refl 0) (Nat.le_refl 0) ⟨_, rfl, rfl, by omega⟩
  · refine y_ldc (n := -1000000001) dX10_road_11 cX10_153 (by decide +kernel) ?_
    exact z_iret dX10_road_13 rfl (Nat.le_refl 0) (Nat.le_refl 0) ⟨_, rfl, rfl, by omega⟩
theorem ct_X10_at {r i : Int} (hr : rg r) (hi : rg i) (hys : YS V (yN b)) (hc : cN V) : yC 5 mX10_at [.ref 0, .int (iI r), .int (iI i)] V b (pR b V (fun q => (r = -1 ∧ q = wA V 4 (V 5 4 - 1 - i)) ∨ (r ≠ -1 ∧ (0 ≤ r ∧ r < V (yN b) 6) ∧ q = wA V r i) ∨ (r ≠ -1 ∧ ¬ (0 ≤ r ∧ r < V (yN b) 6) ∧ q = -1000000001))) := by
  have hy := yN_Y b
  obtain ⟨sy, sy1, sy2, sy3, sy4, sy5, sy6, fy0, fy1, fy2, fy3, fy4, fy5⟩ := yfacts hy b
  have hf : Fs b 0 11 = some (yN b) := rfl
  obtain ⟨q1, q2, q3, -⟩ := id hys
  refine zC_of (by decide +kernel) (Nat.le_of_ble_eq_true rfl) rfl ?_
  refine z_iload_n dX10_at_0 rfl ?_
  refine y_iconst dX10_at_1 ?_
  refine y_icmp_ne dX10_at_2 (by omega) (by omega) (fun c_2 => ?_) (fun c_2 => ?_)
  · refine z_aload_n dX10_at_14 rfl ?_
    refine y_getR fX10_83 dX10_at_15 (by first | assumption | rfl) (by first | assumption | rfl) ?_
    refine z_iload_n dX10_at_18 rfl ?_
    refine y_callVr (ct_X9_hasRoad hy (by omega) (by omega)) kX10_173 dX10_at_19 rfl rfl (by first | assumption | rfl) rfl (by decide) rfl (Nat.le_of_ble_eq_true rfl) (fun r_19 h_19 => ?_)
    refine y_if_eq dX10_at_22 (by omega) (fun c_22 => ?_) (fun c_22 => ?_)
    · refine y_ldc (n := -1000000001) dX10_at_37 cX10_153 (by decide +kernel) ?_
      exact z_iret dX10_at_39 rfl (Nat.le_refl 0) (Nat.le_refl 0) ⟨_, rfl, rfl, by omega⟩
    · refine z_aload_n dX10_at_25 rfl ?_
      refine y_getR fX10_19 dX10_at_26 (by first | assumption | rfl) (by first | assumption | rfl) ?_
      refine z_iload_n dX10_at_29 rfl ?_
      refine z_iload_n dX10_at_30 rfl ?_
      refine y_callVr (ct_X8_wagonAt (by omega) (by omega) (by assumption)) kX10_185 dX10_at_31 rfl rfl (by first | assumption | rfl) rfl (by decide) rfl (Nat.le_of_ble_eq_true rfl) (fun r_31 h_31 => ?_)
      refine z_goto dX10_at_34 ?_
      exact z_iret dX10_at_39 rfl (Nat.le_refl 0) (Nat.le_refl 0) ⟨_, rfl, rfl, by omega⟩
  · refine z_aload_n dX10_at_5 rfl ?_
    refine y_getR fX10_19 dX10_at_6 (by first | assumption | rfl) (by first | assumption | rfl) ?_
    refine z_iload_n dX10_at_9 rfl ?_
    refine y_callVr (ct_X8_fromHead (by omega) (by assumption)) kX10_182 dX10_at_10 rfl rfl (by first | assumption | rfl) rfl (by decide) rfl (Nat.le_of_ble_eq_true rfl) (fun r_10 h_10 => ?_)
    exact z_iret dX10_at_13 rfl (Nat.le_refl 0) (Nat.le_refl 0) ⟨_, rfl, rfl, by omega⟩
theorem ct_X10_enemies {a c : Int} (ha : rg a) (hc : rg c) (hys : YS V (yN b)) : yC 4 mX10_enemies [.ref 0, .int (iI a), .int (iI c)] V b (pR b V (fun q => (¬ (0 ≤ a ∧ a ≤ 4 ∧ 0 ≤ c ∧ c ≤ 4) ∧ q = -1000000001) ∨ ((0 ≤ a ∧ a ≤ 4 ∧ 0 ≤ c ∧ c ≤ 4) ∧ q = kkI (V (yN b) 8) a c))) := by
  have hy := yN_Y b
  obtain ⟨sy, sy1, sy2, sy3, sy4, sy5, sy6, fy0, fy1, fy2, fy3, fy4, fy5⟩ := yfacts hy b
  have hf : Fs b 0 11 = some (yN b) := rfl
  obtain ⟨q1, q2, q3, -⟩ := id hys
  have h01 := kkI_01 (V (yN b) 8) a c
  refine zC_of (by decide +kernel) (Nat.le_of_ble_eq_true rfl) rfl ?_
  refine z_iload_n dX10_enemies_0 rfl ?_
  refine y_callSr (ct_X10_isKind (by omega)) kX10_189 dX10_enemies_1 rfl rfl (by decide) rfl (Nat.le_of_ble_eq_true rfl) (fun r_1 h_1 => ?_)
  refine y_if_eq dX10_enemies_4 (by omega) (fun c_4 => ?_) (fun c_4 => ?_)
  · refine y_ldc (n := -1000000001) dX10_enemies_14 cX10_153 (by decide +kernel) ?_
    exact z_iret dX10_enemies_16 rfl (Nat.le_refl 0) (Nat.le_refl 0) ⟨_, rfl, rfl, by omega⟩
  · refine z_iload_n dX10_enemies_7 rfl ?_
    refine y_callSr (ct_X10_isKind (by omega)) kX10_189 dX10_enemies_8 rfl rfl (by decide) rfl (Nat.le_of_ble_eq_true rfl) (fun r_8 h_8 => ?_)
    refine y_if_ne dX10_enemies_11 (by omega) (fun c_11 => ?_) (fun c_11 => ?_)
    · refine z_aload_n dX10_enemies_17 rfl ?_
      refine y_getR fX10_83 dX10_enemies_18 (by first | assumption | rfl) (by first | assumption | rfl) ?_
      refine z_iload_n dX10_enemies_21 rfl ?_
      refine z_iload_n dX10_enemies_22 rfl ?_
      refine y_callVr (ct_X9_kindsKick hy (by omega) (by omega) (by omega)) kX10_192 dX10_enemies_23 rfl rfl (by first | assumption | rfl) rfl (by decide) rfl (Nat.le_of_ble_eq_true rfl) (fun r_23 h_23 => ?_)
      refine y_if_eq dX10_enemies_26 (by omega) (fun c_26 => ?_) (fun c_26 => ?_)
      · refine y_iconst dX10_enemies_33 ?_
        exact z_iret dX10_enemies_34 rfl (Nat.le_refl 0) (Nat.le_refl 0) ⟨_, rfl, rfl, by omega⟩
      · refine y_iconst dX10_enemies_29 ?_
        refine z_goto dX10_enemies_30 ?_
        exact z_iret dX10_enemies_34 rfl (Nat.le_refl 0) (Nat.le_refl 0) ⟨_, rfl, rfl, by omega⟩
    · refine y_ldc (n := -1000000001) dX10_enemies_14 cX10_153 (by decide +kernel) ?_
      exact z_iret dX10_enemies_16 rfl (Nat.le_refl 0) (Nat.le_refl 0) ⟨_, rfl, rfl, by omega⟩
theorem ct_X10_wagon {w k : Int} (hw : rg w) (hk : rg k) (hys : YS V (yN b)) (hc : cN V) (hwn : wN V) : yC 6 mX10_wagon [.ref 0, .int (iI w), .int (iI k)] V b (pR b V (fun q => (¬ (0 ≤ w ∧ w < V (yN b) 7) ∧ q = -1000000001) ∨ ((0 ≤ w ∧ w < V (yN b) 7) ∧ ((k = 0 ∧ q = V (yN b + 2) w) ∨ (k = 1 ∧ q = V (yN b + 3) w) ∨ (k = 2 ∧ q = V (yN b + 4) w) ∨ (k = 3 ∧ ∃ l, lnP V w l ∧ q = if l = 4 then -1 else l) ∨ (k = 4 ∧ plP V w q) ∨ (k = 5 ∧ q = 60 + V (yN b + 3) w - 2 * V (yN b + 4) w) ∨ ((k < 0 ∨ 5 < k) ∧ q = -1000000002))))) := by
  have hy := yN_Y b
  obtain ⟨sy, sy1, sy2, sy3, sy4, sy5, sy6, fy0, fy1, fy2, fy3, fy4, fy5⟩ := yfacts hy b
  have hf : Fs b 0 11 = some (yN b) := rfl
  obtain ⟨q1, q2, q3, -⟩ := id hys
  refine zC_of (by decide +kernel) (Nat.le_of_ble_eq_true rfl) rfl ?_
  refine z_aload_n dX10_wagon_0 rfl ?_
  refine y_getR fX10_83 dX10_wagon_1 (by first | assumption | rfl) (by first | assumption | rfl) ?_
  refine z_iload_n dX10_wagon_4 rfl ?_
  refine y_callVr (ct_X9_hasWagon hy (by omega) (by omega)) kX10_150 dX10_wagon_5 rfl rfl (by first | assumption | rfl) rfl (by decide) rfl (Nat.le_of_ble_eq_true rfl) (fun r_5 h_5 => ?_)
  refine y_if_ne dX10_wagon_8 (by omega) (fun c_8 => ?_) (fun c_8 => ?_)
  · refine z_iload_n dX10_wagon_14 rfl ?_
    rcases (show (k < 0 ∨ 5 < k) ∨ k = 0 ∨ k = 1 ∨ k = 2 ∨ k = 3 ∨ k = 4 ∨ k = 5 by omega) with h_15 | h_15 | h_15 | h_15 | h_15 | h_15 | h_15
    · refine y_tsOut (tgt := 108) dX10_wagon_15 (by omega) h_15 (by decide) ?_
      refine y_ldc (n := -1000000002) dX10_wagon_108 cX10_94 (by decide +kernel) ?_
      exact z_iret dX10_wagon_110 rfl (Nat.le_refl 0) (Nat.le_refl 0) ⟨_, rfl, rfl, Or.inr ⟨by omega, Or.inr (Or.inr (Or.inr (Or.inr (Or.inr (Or.inr ⟨by omega, rfl⟩)))))⟩⟩
    · refine y_tsIn (off := 37) (tgt := 52) dX10_wagon_15 (by omega) (by omega) (by omega) (by rw [h_15]; rfl) (by decide) ?_
      refine z_aload_n dX10_wagon_52 rfl ?_
      refine y_getR fX10_83 dX10_wagon_53 (by first | assumption | rfl) (by first | assumption | rfl) ?_
      refine z_iload_n dX10_wagon_56 rfl ?_
      refine y_callVr (ct_X9_kindOf hy (by omega) (by omega)) kX10_154 dX10_wagon_57 rfl rfl (by first | assumption | rfl) rfl (by decide) rfl (Nat.le_of_ble_eq_true rfl) (fun r_57 h_57 => ?_)
      exact z_iret dX10_wagon_60 rfl (Nat.le_refl 0) (Nat.le_refl 0) ⟨_, rfl, rfl, Or.inr ⟨by omega, Or.inl ⟨by omega, by rw [h_57]; unfold kdX; rw [if_pos (by omega)]⟩⟩⟩
    · refine y_tsIn (off := 46) (tgt := 61) dX10_wagon_15 (by omega) (by omega) (by omega) (by rw [h_15]; rfl) (by decide) ?_
      refine z_aload_n dX10_wagon_61 rfl ?_
      refine y_getR fX10_83 dX10_wagon_62 (by first | assumption | rfl) (by first | assumption | rfl) ?_
      refine y_getR fX10_157 dX10_wagon_65 (by first | assumption | rfl) (by first | assumption | rfl) ?_
      refine z_iload_n dX10_wagon_68 rfl ?_
      refine y_iald dX10_wagon_69 (by first | assumption | rfl) (by first | rfl | assumption) (by omega) ?_
      exact z_iret dX10_wagon_70 rfl (Nat.le_refl 0) (Nat.le_refl 0) ⟨_, rfl, rfl, Or.inr ⟨by omega, Or.inr (Or.inl ⟨by omega, rfl⟩)⟩⟩
    · refine y_tsIn (off := 56) (tgt := 71) dX10_wagon_15 (by omega) (by omega) (by omega) (by rw [h_15]; rfl) (by decide) ?_
      refine z_aload_n dX10_wagon_71 rfl ?_
      refine y_getR fX10_83 dX10_wagon_72 (by first | assumption | rfl) (by first | assumption | rfl) ?_
      refine y_getR fX10_161 dX10_wagon_75 (by first | assumption | rfl) (by first | assumption | rfl) ?_
      refine z_iload_n dX10_wagon_78 rfl ?_
      refine y_iald dX10_wagon_79 (by first | assumption | rfl) (by first | rfl | assumption) (by omega) ?_
      exact z_iret dX10_wagon_80 rfl (Nat.le_refl 0) (Nat.le_refl 0) ⟨_, rfl, rfl, Or.inr ⟨by omega, Or.inr (Or.inr (Or.inl ⟨by omega, rfl⟩))⟩⟩
    · refine y_tsIn (off := 66) (tgt := 81) dX10_wagon_15 (by omega) (by omega) (by omega) (by rw [h_15]; rfl) (by decide) ?_
      refine z_aload_n dX10_wagon_81 rfl ?_
      refine y_getR fX10_19 dX10_wagon_82 (by first | assumption | rfl) (by first | assumption | rfl) ?_
      refine z_iload_n dX10_wagon_85 rfl ?_
      refine y_callVr (ct_X8_roadOf (by omega) (by assumption) (by assumption)) kX10_164 dX10_wagon_86 rfl rfl (by first | assumption | rfl) rfl (by decide) rfl (Nat.le_of_ble_eq_true rfl) (fun r_86 h_86 => ?_)
      exact z_iret dX10_wagon_89 rfl (Nat.le_refl 0) (Nat.le_refl 0) ⟨_, rfl, rfl, Or.inr ⟨by omega, Or.inr (Or.inr (Or.inr (Or.inl ⟨by omega, h_86⟩)))⟩⟩
    · refine y_tsIn (off := 75) (tgt := 90) dX10_wagon_15 (by omega) (by omega) (by omega) (by rw [h_15]; rfl) (by decide) ?_
      refine z_aload_n dX10_wagon_90 rfl ?_
      refine y_getR fX10_19 dX10_wagon_91 (by first | assumption | rfl) (by first | assumption | rfl) ?_
      refine z_iload_n dX10_wagon_94 rfl ?_
      refine y_callVr (ct_X8_placeOf (by omega) (by assumption) (by assumption)) kX10_167 dX10_wagon_95 rfl rfl (by first | assumption | rfl) rfl (by decide) rfl (Nat.le_of_ble_eq_true rfl) (fun r_95 h_95 => ?_)
      exact z_iret dX10_wagon_98 rfl (Nat.le_refl 0) (Nat.le_refl 0) ⟨_, rfl, rfl, Or.inr ⟨by omega, Or.inr (Or.inr (Or.inr (Or.inr (Or.inl ⟨by omega, h_95⟩))))⟩⟩
    · refine y_tsIn (off := 84) (tgt := 99) dX10_wagon_15 (by omega) (by omega) (by omega) (by rw [h_15]; rfl) (by decide) ?_
      refine z_aload_n dX10_wagon_99 rfl ?_
      refine y_getR fX10_83 dX10_wagon_100 (by first | assumption | rfl) (by first | assumption | rfl) ?_
      refine z_iload_n dX10_wagon_103 rfl ?_
      refine y_callVr (ct_X9_speedOf hy (by omega) (by omega)) kX10_170 dX10_wagon_104 rfl rfl (by first | assumption | rfl) rfl (by decide) rfl (Nat.le_of_ble_eq_true rfl) (fun r_104 h_104 => ?_)
      exact z_iret dX10_wagon_107 rfl (Nat.le_refl 0) (Nat.le_refl 0) ⟨_, rfl, rfl, Or.inr ⟨by omega, Or.inr (Or.inr (Or.inr (Or.inr (Or.inr (Or.inl ⟨by omega, h_104⟩)))))⟩⟩
  · refine y_ldc (n := -1000000001) dX10_wagon_11 cX10_153 (by decide +kernel) ?_
    exact z_iret dX10_wagon_13 rfl (Nat.le_refl 0) (Nat.le_refl 0) ⟨_, rfl, rfl, Or.inl ⟨by omega, rfl⟩⟩
/-- weights and rusts of the wagons told -/
abbrev YW (V : Nat → Int → Int) (y : Nat) : Prop := ∀ w, 0 ≤ w → w < V y 7 → (1 ≤ V (y + 3) w ∧ V (y + 3) w ≤ 30) ∧ (0 ≤ V (y + 4) w ∧ V (y + 4) w ≤ 20)
theorem ct_X10_safe {w v l : Int} (hw : rg w) (hv : rg v) (hl : rg l) (hys : YS V (yN b)) (hyw : YW V (yN b)) : yC 4 mX10_safe [.ref 0, .int (iI w), .int (iI v), .int (iI l)] V b (pR b V (fun q => (¬ ((0 ≤ w ∧ w < V (yN b) 7) ∧ (0 ≤ v ∧ v < V (yN b) 7) ∧ w ≠ v) ∧ q = -1000000001) ∨ (((0 ≤ w ∧ w < V (yN b) 7) ∧ (0 ≤ v ∧ v < V (yN b) 7) ∧ w ≠ v) ∧ ((¬ (1 ≤ l ∧ l ≤ 99) ∧ q = -1000000002) ∨ ((1 ≤ l ∧ l ≤ 99) ∧ q = max 0 (100 * l / (60 + V (yN b + 3) w - 2 * V (yN b + 4) w) - 100 * l / (60 + V (yN b + 3) v - 2 * V (yN b + 4) v)))))) ) := by
  have hy := yN_Y b
  obtain ⟨sy, sy1, sy2, sy3, sy4, sy5, sy6, fy0, fy1, fy2, fy3, fy4, fy5⟩ := yfacts hy b
  have hf : Fs b 0 11 = some (yN b) := rfl
  obtain ⟨q1, q2, q3, -⟩ := id hys
  refine zC_of (by decide +kernel) (Nat.le_of_ble_eq_true rfl) rfl ?_
  refine z_aload_n dX10_safe_0 rfl ?_
  refine y_getR fX10_83 dX10_safe_1 (by first | assumption | rfl) (by first | assumption | rfl) ?_
  refine z_iload_n dX10_safe_4 rfl ?_
  refine y_callVr (ct_X9_hasWagon hy (by omega) (by omega)) kX10_150 dX10_safe_5 rfl rfl (by first | assumption | rfl) rfl (by decide) rfl (Nat.le_of_ble_eq_true rfl) (fun r_5 h_5 => ?_)
  refine y_if_eq dX10_safe_8 (by omega) (fun c_8 => ?_) (fun c_8 => ?_)
  · refine y_ldc (n := -1000000001) dX10_safe_27 cX10_153 (by decide +kernel) ?_
    exact z_iret dX10_safe_29 rfl (Nat.le_refl 0) (Nat.le_refl 0) ⟨_, rfl, rfl, by omega⟩
  · refine z_aload_n dX10_safe_11 rfl ?_
    refine y_getR fX10_83 dX10_safe_12 (by first | assumption | rfl) (by first | assumption | rfl) ?_
    refine z_iload_n dX10_safe_15 rfl ?_
    refine y_callVr (ct_X9_hasWagon hy (by omega) (by omega)) kX10_150 dX10_safe_16 rfl rfl (by first | assumption | rfl) rfl (by decide) rfl (Nat.le_of_ble_eq_true rfl) (fun r_16 h_16 => ?_)
    refine y_if_eq dX10_safe_19 (by omega) (fun c_19 => ?_) (fun c_19 => ?_)
    · refine y_ldc (n := -1000000001) dX10_safe_27 cX10_153 (by decide +kernel) ?_
      exact z_iret dX10_safe_29 rfl (Nat.le_refl 0) (Nat.le_refl 0) ⟨_, rfl, rfl, by omega⟩
    · refine z_iload_n dX10_safe_22 rfl ?_
      refine z_iload_n dX10_safe_23 rfl ?_
      refine y_icmp_ne dX10_safe_24 (by omega) (by omega) (fun c_24 => ?_) (fun c_24 => ?_)
      · refine z_iload_n dX10_safe_30 rfl ?_
        refine y_iconst dX10_safe_31 ?_
        refine y_icmp_lt dX10_safe_32 (by omega) (by omega) (fun c_32 => ?_) (fun c_32 => ?_)
        · refine y_ldc (n := -1000000002) dX10_safe_41 cX10_94 (by decide +kernel) ?_
          exact z_iret dX10_safe_43 rfl (Nat.le_refl 0) (Nat.le_refl 0) ⟨_, rfl, rfl, by omega⟩
        · refine z_iload_n dX10_safe_35 rfl ?_
          refine y_bipush dX10_safe_36 (by decide +kernel) ?_
          refine y_icmp_le dX10_safe_38 (by omega) (by omega) (fun c_38 => ?_) (fun c_38 => ?_)
          · have yw := hyw w (by omega) (by omega)
            have yv := hyw v (by omega) (by omega)
            have dw : 0 ≤ 100 * l / (60 + V (yN b + 3) w - 2 * V (yN b + 4) w) ∧ 100 * l / (60 + V (yN b + 3) w - 2 * V (yN b + 4) w) ≤ 100 * l := ⟨Int.ediv_nonneg (by omega) (by omega), Int.ediv_le_self _ (by omega)⟩
            have dv : 0 ≤ 100 * l / (60 + V (yN b + 3) v - 2 * V (yN b + 4) v) ∧ 100 * l / (60 + V (yN b + 3) v - 2 * V (yN b + 4) v) ≤ 100 * l := ⟨Int.ediv_nonneg (by omega) (by omega), Int.ediv_le_self _ (by omega)⟩
            refine y_iconst dX10_safe_44 ?_
            refine z_aload_n dX10_safe_45 rfl ?_
            refine y_getR fX10_83 dX10_safe_46 (by first | assumption | rfl) (by first | assumption | rfl) ?_
            refine z_iload_n dX10_safe_49 rfl ?_
            refine z_iload_n dX10_safe_50 rfl ?_
            refine y_callVr (ct_X9_timeOf hy (by omega) (by omega) (by omega) (by omega) (by omega)) kX10_256 dX10_safe_51 rfl rfl (by first | assumption | rfl) rfl (by decide) rfl (Nat.le_of_ble_eq_true rfl) (fun r_51 h_51 => ?_)
            subst h_51
            refine z_aload_n dX10_safe_54 rfl ?_
            refine y_getR fX10_83 dX10_safe_55 (by first | assumption | rfl) (by first | assumption | rfl) ?_
            refine z_iload_n dX10_safe_58 rfl ?_
            refine z_iload_n dX10_safe_59 rfl ?_
            refine y_callVr (ct_X9_timeOf hy (by omega) (by omega) (by omega) (by omega) (by omega)) kX10_256 dX10_safe_60 rfl rfl (by first | assumption | rfl) rfl (by decide) rfl (Nat.le_of_ble_eq_true rfl) (fun r_60 h_60 => ?_)
            subst h_60
            refine y_isub dX10_safe_63 ?_
            refine y_max dX10_safe_64 kX10_259 (by omega) (by omega) (by decide) (Nat.le_of_ble_eq_true rfl) ?_
            exact z_iret dX10_safe_67 rfl (Nat.le_refl 0) (Nat.le_refl 0) ⟨_, rfl, rfl, by omega⟩
          · refine y_ldc (n := -1000000002) dX10_safe_41 cX10_94 (by decide +kernel) ?_
            exact z_iret dX10_safe_43 rfl (Nat.le_refl 0) (Nat.le_refl 0) ⟨_, rfl, rfl, by omega⟩
      · refine y_ldc (n := -1000000001) dX10_safe_27 cX10_153 (by decide +kernel) ?_
        exact z_iret dX10_safe_29 rfl (Nat.le_refl 0) (Nat.le_refl 0) ⟨_, rfl, rfl, by omega⟩
/-- kicks without peace among the first i pairs of road r -/
def fwX (V : Nat → Int → Int) (y : Nat) (r : Int) : Nat → Int
  | 0 => 0
  | i + 1 => fwX V y r i + if tb (V 6 r) (i : Nat) = false ∧ kkI (V y 8) (kdX V y (wA V r (i : Nat))) (kdX V y (wA V r ((i : Nat) + 1))) ≠ 0 then 1 else 0
theorem fwX_rg (V : Nat → Int → Int) (y : Nat) (r : Int) : ∀ i, 0 ≤ fwX V y r i ∧ fwX V y r i ≤ i
  | 0 => by simp [fwX]
  | i + 1 => by
    have := fwX_rg V y r i
    unfold fwX
    split <;> omega
abbrev fwP (V : Nat → Int → Int) (b : Bool) (r q : Int) : Prop := (¬ (0 ≤ r ∧ r < V (yN b) 6) ∧ q = -1000000001) ∨ ((0 ≤ r ∧ r < V (yN b) 6) ∧ q = fwX V (yN b) r (V 5 r - 1).toNat)
theorem ct_X10_fewest {r : Int} (hr : rg r) (hys : YS V (yN b)) (hc : cN V) (hwn : wN V) (hp : ∀ i, 0 ≤ V 6 i ∧ V 6 i ≤ 127) : yC 5 mX10_fewest [.ref 0, .int (iI r)] V b (pR b V (fwP V b r)) := by
  have hy := yN_Y b
  obtain ⟨sy, sy1, sy2, sy3, sy4, sy5, sy6, fy0, fy1, fy2, fy3, fy4, fy5⟩ := yfacts hy b
  have hf : Fs b 0 11 = some (yN b) := rfl
  obtain ⟨q1, q2, q3, -⟩ := id hys
  have hcr := hc r
  have hpr := hp r
  have loop : ∀ (k i : Nat), (0 ≤ r ∧ r < V (yN b) 6) → i ≤ 7 → (i : Int) ≤ max 0 (V 5 r - 1) → 7 - i ≤ k → yE 5 (pR b V (fwP V b r)) mX10_fewest 18 [some (.ref 0), some (.int (iI r)), some (.int (iI (fwX V (yN b) r i))), some (.int (iI (i : Nat)))] [] V b := by
    intro k
    induction k with
    | zero =>
      intro i hr0 h4 h4' h5
      refine z_iload_n dX10_fewest_18 rfl ?_
      refine z_aload_n dX10_fewest_19 rfl ?_
      refine y_getR fX10_19 dX10_fewest_20 (by first | assumption | rfl) (by first | assumption | rfl) ?_
      refine z_iload_n dX10_fewest_23 rfl ?_
      refine y_callVr (ct_X8_countOf (by omega)) kX10_132 dX10_fewest_24 rfl rfl (by first | assumption | rfl) rfl (by decide) rfl (Nat.le_of_ble_eq_true rfl) (fun r_24 h_24 => ?_)
      refine y_iconst dX10_fewest_27 ?_
      refine y_isub dX10_fewest_28 ?_
      refine y_icmp_ge dX10_fewest_29 (by omega) (by omega) (fun c_29 => ?_) (fun c_29 => ?_)
      · refine z_iload_n dX10_fewest_69 rfl ?_
        exact z_iret dX10_fewest_70 rfl (Nat.le_refl 0) (Nat.le_refl 0) ⟨_, rfl, rfl, Or.inr ⟨hr0, by rw [show (V 5 r - 1).toNat = i by omega]⟩⟩
      · omega
    | succ k ih =>
      intro i hr0 h4 h4' h5
      have hfi := fwX_rg V (yN b) r i
      have h01 := kkI_01 (V (yN b) 8) (kdX V (yN b) (wA V r (i : Nat))) (kdX V (yN b) (wA V r ((i : Nat) + 1)))
      have h2 : fwX V (yN b) r (i + 1) = fwX V (yN b) r i + if tb (V 6 r) (i : Nat) = false ∧ kkI (V (yN b) 8) (kdX V (yN b) (wA V r (i : Nat))) (kdX V (yN b) (wA V r ((i : Nat) + 1))) ≠ 0 then 1 else 0 := rfl
      refine z_iload_n dX10_fewest_18 rfl ?_
      refine z_aload_n dX10_fewest_19 rfl ?_
      refine y_getR fX10_19 dX10_fewest_20 (by first | assumption | rfl) (by first | assumption | rfl) ?_
      refine z_iload_n dX10_fewest_23 rfl ?_
      refine y_callVr (ct_X8_countOf (by omega)) kX10_132 dX10_fewest_24 rfl rfl (by first | assumption | rfl) rfl (by decide) rfl (Nat.le_of_ble_eq_true rfl) (fun r_24 h_24 => ?_)
      refine y_iconst dX10_fewest_27 ?_
      refine y_isub dX10_fewest_28 ?_
      refine y_icmp_ge dX10_fewest_29 (by omega) (by omega) (fun c_29 => ?_) (fun c_29 => ?_)
      · refine z_iload_n dX10_fewest_69 rfl ?_
        exact z_iret dX10_fewest_70 rfl (Nat.le_refl 0) (Nat.le_refl 0) ⟨_, rfl, rfl, Or.inr ⟨hr0, by rw [show (V 5 r - 1).toNat = i by omega]⟩⟩
      · have hih := ih (i + 1) hr0 (by omega) (by omega) (by omega)
        refine z_aload_n dX10_fewest_32 rfl ?_
        refine y_getR fX10_19 dX10_fewest_33 (by first | assumption | rfl) (by first | assumption | rfl) ?_
        refine z_iload_n dX10_fewest_36 rfl ?_
        refine z_iload_n dX10_fewest_37 rfl ?_
        refine y_callVr (ct_X8_hasPeace (by omega) (by omega) (by omega)) kX10_208 dX10_fewest_38 rfl rfl (by first | assumption | rfl) rfl (by decide) rfl (Nat.le_of_ble_eq_true rfl) (fun r_38 h_38 => ?_)
        refine y_if_ne dX10_fewest_41 (by subst h_38; split <;> omega) (fun c_41 => ?_) (fun c_41 => ?_)
        · have ht : tb (V 6 r) (i : Nat) = true := by cases h9 : tb (V 6 r) (i : Nat) with | true => rfl | false => rw [h9] at h_38; simp at h_38; omega
          have e : fwX V (yN b) r (i + 1) = fwX V (yN b) r i := by rw [h2, if_neg (by simp [ht])]; omega
          rw [e, show ((i + 1 : Nat) : Int) = (i : Int) + 1 by omega] at hih
          refine y_iinc dX10_fewest_63 rfl (by decide) rfl rfl ?_
          refine z_goto dX10_fewest_66 ?_
          exact hih
        · have ht : tb (V 6 r) (i : Nat) = false := by cases h9 : tb (V 6 r) (i : Nat) with | false => rfl | true => rw [h9] at h_38; simp at h_38; omega
          refine z_aload_n dX10_fewest_44 rfl ?_
          refine y_getR fX10_19 dX10_fewest_45 (by first | assumption | rfl) (by first | assumption | rfl) ?_
          refine z_aload_n dX10_fewest_48 rfl ?_
          refine y_getR fX10_83 dX10_fewest_49 (by first | assumption | rfl) (by first | assumption | rfl) ?_
          refine z_iload_n dX10_fewest_52 rfl ?_
          refine z_iload_n dX10_fewest_53 rfl ?_
          refine y_callVr (ct_X8_kicksBehind (by assumption) (by assumption) (by assumption) (by assumption) (by omega) (by omega)) kX10_215 dX10_fewest_54 rfl rfl (by first | assumption | rfl) rfl (by decide) rfl (Nat.le_of_ble_eq_true rfl) (fun r_54 h_54 => ?_)
          refine y_if_eq dX10_fewest_57 (by omega) (fun c_57 => ?_) (fun c_57 => ?_)
          · have e : fwX V (yN b) r (i + 1) = fwX V (yN b) r i := by rw [h2, if_neg (by rw [← h_54]; simp [ht, c_57])]; omega
            rw [e, show ((i + 1 : Nat) : Int) = (i : Int) + 1 by omega] at hih
            refine y_iinc dX10_fewest_63 rfl (by decide) rfl rfl ?_
            refine z_goto dX10_fewest_66 ?_
            exact hih
          · have e : fwX V (yN b) r (i + 1) = fwX V (yN b) r i + 1 := by rw [h2, if_pos ⟨ht, by rw [← h_54]; exact c_57⟩]
            rw [e, show ((i + 1 : Nat) : Int) = (i : Int) + 1 by omega] at hih
            refine y_iinc dX10_fewest_60 rfl (by decide) rfl rfl ?_
            refine y_iinc dX10_fewest_63 rfl (by decide) rfl rfl ?_
            refine z_goto dX10_fewest_66 ?_
            exact hih
  refine zC_of (by decide +kernel) (Nat.le_of_ble_eq_true rfl) rfl ?_
  refine z_aload_n dX10_fewest_0 rfl ?_
  refine y_getR fX10_83 dX10_fewest_1 (by first | assumption | rfl) (by first | assumption | rfl) ?_
  refine z_iload_n dX10_fewest_4 rfl ?_
  refine y_callVr (ct_X9_hasRoad hy (by omega) (by omega)) kX10_173 dX10_fewest_5 rfl rfl (by first | assumption | rfl) rfl (by decide) rfl (Nat.le_of_ble_eq_true rfl) (fun r_5 h_5 => ?_)
  refine y_if_ne dX10_fewest_8 (by omega) (fun c_8 => ?_) (fun c_8 => ?_)
  · refine y_iconst dX10_fewest_14 ?_
    refine z_istore_n dX10_fewest_15 (by decide) rfl rfl ?_
    refine y_iconst dX10_fewest_16 ?_
    refine z_istore_n dX10_fewest_17 (by decide) rfl rfl ?_
    exact loop 7 0 (by omega) (by omega) (by omega) (by omega)
  · refine y_ldc (n := -1000000001) dX10_fewest_11 cX10_153 (by decide +kernel) ?_
    exact z_iret dX10_fewest_13 rfl (Nat.le_refl 0) (Nat.le_refl 0) ⟨_, rfl, rfl, by omega⟩
/-- what is left of x after k times q of a hundred -/
def rsX (q : Int) : Nat → Int
  | 0 => 1000000000
  | k + 1 => rsX q k * (100 - q) / 100
theorem rsX_rg {q : Int} (h : 0 ≤ q ∧ q ≤ 100) : ∀ k, 0 ≤ rsX q k ∧ rsX q k ≤ 1000000000
  | 0 => by simp [rsX]
  | k + 1 => by
    have ih := rsX_rg h k
    have h1 : 0 ≤ rsX q k * (100 - q) := Int.mul_nonneg ih.1 (by omega)
    have h2 : rsX q k * (100 - q) ≤ 1000000000 * 100 := Int.mul_le_mul ih.2 (by omega) (by omega) (by omega)
    unfold rsX
    omega
theorem ct_X10_rusted {n q : Int} (hn : rg n) (hq : rg q) : yC 1 mX10_rusted [.ref 0, .int (iI n), .int (iI q)] V b (pR b V (fun r => (¬ ((0 ≤ n ∧ n ≤ 60) ∧ (0 ≤ q ∧ q ≤ 100)) ∧ r = -1000000002) ∨ (((0 ≤ n ∧ n ≤ 60) ∧ (0 ≤ q ∧ q ≤ 100)) ∧ r = rsX q n.toNat))) := by
  have loop : ∀ (m k : Nat), (0 ≤ n ∧ n ≤ 60) → (0 ≤ q ∧ q ≤ 100) → (k : Int) + m = n → yE 1 (pR b V (fun r => (¬ ((0 ≤ n ∧ n ≤ 60) ∧ (0 ≤ q ∧ q ≤ 100)) ∧ r = -1000000002) ∨ (((0 ≤ n ∧ n ≤ 60) ∧ (0 ≤ q ∧ q ≤ 100)) ∧ r = rsX q n.toNat))) mX10_rusted 30 [some (.ref 0), some (.int (iI n)), some (.int (iI q)), some (.long (jJ (rsX q k))), none, some (.int (iI (k : Nat)))] [] V b := by
    intro m
    induction m with
    | zero =>
      intro k h1 h2 h3
      refine z_iload dX10_rusted_30 rfl ?_
      refine z_iload_n dX10_rusted_32 rfl ?_
      refine y_icmp_ge dX10_rusted_33 (by omega) (by omega) (fun c_33 => ?_) (fun c_33 => ?_)
      · refine z_lload_n dX10_rusted_54 rfl ?_
        refine y_l2i dX10_rusted_55 ?_
        exact z_iret dX10_rusted_56 rfl (Nat.le_refl 0) (Nat.le_refl 0) ⟨_, rfl, rfl, Or.inr ⟨⟨h1, h2⟩, by rw [show n.toNat = k by omega]⟩⟩
      · omega
    | succ m ih =>
      intro k h1 h2 h3
      have hr := rsX_rg h2 k
      have p1 : 0 ≤ rsX q k * (100 - q) := Int.mul_nonneg hr.1 (by omega)
      have p2 : rsX q k * (100 - q) ≤ 1000000000 * 100 := Int.mul_le_mul hr.2 (by omega) (by omega) (by omega)
      have hih := ih (k + 1) h1 h2 (by omega)
      rw [show rsX q (k + 1) = rsX q k * (100 - q) / 100 from rfl, show ((k + 1 : Nat) : Int) = (k : Int) + 1 by omega] at hih
      refine z_iload dX10_rusted_30 rfl ?_
      refine z_iload_n dX10_rusted_32 rfl ?_
      refine y_icmp_ge dX10_rusted_33 (by omega) (by omega) (fun c_33 => ?_) (fun c_33 => ?_)
      · omega
      · refine z_lload_n dX10_rusted_36 rfl ?_
        refine y_bipush dX10_rusted_37 (by decide +kernel) ?_
        refine z_iload_n dX10_rusted_39 rfl ?_
        refine y_isub dX10_rusted_40 ?_
        refine y_i2l dX10_rusted_41 (by omega) ?_
        refine y_lmul dX10_rusted_42 ?_
        refine y_ldc2 (n := 100) dX10_rusted_43 cX10_286 (by decide +kernel) ?_
        refine y_ldiv dX10_rusted_46 (by omega) (by omega) ?_
        refine z_lstore_n dX10_rusted_47 (by decide) rfl rfl ?_
        refine y_iinc dX10_rusted_48 rfl (by decide) rfl rfl ?_
        refine z_goto dX10_rusted_51 ?_
        exact hih
  refine zC_of (by decide +kernel) (Nat.le_of_ble_eq_true rfl) rfl ?_
  refine z_iload_n dX10_rusted_0 rfl ?_
  refine y_if_lt dX10_rusted_1 (by omega) (fun c_1 => ?_) (fun c_1 => ?_)
  · refine y_ldc (n := -1000000002) dX10_rusted_20 cX10_94 (by decide +kernel) ?_
    exact z_iret dX10_rusted_22 rfl (Nat.le_refl 0) (Nat.le_refl 0) ⟨_, rfl, rfl, by omega⟩
  · refine z_iload_n dX10_rusted_4 rfl ?_
    refine y_bipush dX10_rusted_5 (by decide +kernel) ?_
    refine y_icmp_gt dX10_rusted_7 (by omega) (by omega) (fun c_7 => ?_) (fun c_7 => ?_)
    · refine y_ldc (n := -1000000002) dX10_rusted_20 cX10_94 (by decide +kernel) ?_
      exact z_iret dX10_rusted_22 rfl (Nat.le_refl 0) (Nat.le_refl 0) ⟨_, rfl, rfl, by omega⟩
    · refine z_iload_n dX10_rusted_10 rfl ?_
      refine y_if_lt dX10_rusted_11 (by omega) (fun c_11 => ?_) (fun c_11 => ?_)
      · refine y_ldc (n := -1000000002) dX10_rusted_20 cX10_94 (by decide +kernel) ?_
        exact z_iret dX10_rusted_22 rfl (Nat.le_refl 0) (Nat.le_refl 0) ⟨_, rfl, rfl, by omega⟩
      · refine z_iload_n dX10_rusted_14 rfl ?_
        refine y_bipush dX10_rusted_15 (by decide +kernel) ?_
        refine y_icmp_le dX10_rusted_17 (by omega) (by omega) (fun c_17 => ?_) (fun c_17 => ?_)
        · refine y_ldc2 (n := 1000000000) dX10_rusted_23 cX10_284 (by decide +kernel) ?_
          refine z_lstore_n dX10_rusted_26 (by decide) rfl rfl ?_
          refine y_iconst dX10_rusted_27 ?_
          refine z_istore dX10_rusted_28 (by decide) rfl rfl ?_
          exact loop n.toNat 0 (by omega) (by omega) (by omega)
        · refine y_ldc (n := -1000000002) dX10_rusted_20 cX10_94 (by decide +kernel) ?_
          exact z_iret dX10_rusted_22 rfl (Nat.le_refl 0) (Nat.le_refl 0) ⟨_, rfl, rfl, by omega⟩
theorem ct_X10_laws {n : Int} (hn : rg n) (hs : 0 ≤ V 99 2 ∧ V 99 2 ≤ 2147483647) (ht : 0 ≤ V 99 1 ∧ V 99 1 ≤ 2147483647) : yC 5 mX10_laws [.ref 0, .int (iI n)] V b (pR b V (fun q => (n = -1 ∧ ((prs (V 99 2) 16 < (popN (V 99 2).toNat 32 : Nat) ∧ q = -1) ∨ ((popN (V 99 2).toNat 32 : Nat) ≤ prs (V 99 2) 16 ∧ q = prs (V 99 2) 16))) ∨ ((n < -1 ∨ 16 < n) ∧ q = -1000000002) ∨ ((0 ≤ n ∧ n ≤ 16) ∧ ((prs (V 99 2) 16 < (popN (V 99 2).toNat 32 : Nat) ∧ q = 0) ∨ ((popN (V 99 2).toNat 32 : Nat) ≤ prs (V 99 2) 16 ∧ q = if 0 ≤ n - prs (V 99 2) 16 ∧ n - prs (V 99 2) 16 ≤ 16 - prs (V 99 1) 16 then chX (16 - prs (V 99 1) 16) (n - prs (V 99 2) 16) (n - prs (V 99 2) 16).toNat else 0))))) := by
  refine zC_of (by decide +kernel) (Nat.le_of_ble_eq_true rfl) rfl ?_
  refine z_iload_n dX10_laws_0 rfl ?_
  refine y_iconst dX10_laws_1 ?_
  refine y_icmp_ne dX10_laws_2 (by omega) (by omega) (fun c_2 => ?_) (fun c_2 => ?_)
  · refine z_iload_n dX10_laws_13 rfl ?_
    refine y_if_lt dX10_laws_14 (by omega) (fun c_14 => ?_) (fun c_14 => ?_)
    · refine y_ldc (n := -1000000002) dX10_laws_23 cX10_94 (by decide +kernel) ?_
      refine z_goto dX10_laws_25 ?_
      skip
      exact z_iret dX10_laws_36 rfl (Nat.le_refl 0) (Nat.le_refl 0) ⟨_, rfl, rfl, by first | exact Or.inr (Or.inl ⟨by omega, rfl⟩) | exact Or.inr (Or.inr ⟨by omega, h_33⟩)⟩
    · refine z_iload_n dX10_laws_17 rfl ?_
      refine y_bipush dX10_laws_18 (by decide +kernel) ?_
      refine y_icmp_le dX10_laws_20 (by omega) (by omega) (fun c_20 => ?_) (fun c_20 => ?_)
      · refine z_aload_n dX10_laws_28 rfl ?_
        refine y_getR fX10_43 dX10_laws_29 (by first | assumption | rfl) (by first | assumption | rfl) ?_
        refine z_iload_n dX10_laws_32 rfl ?_
        refine y_callVr (ct_X1_lawsOf (by omega) (by omega) (by omega)) kX10_296 dX10_laws_33 rfl rfl (by first | assumption | rfl) rfl (by decide) rfl (Nat.le_of_ble_eq_true rfl) (fun r_33 h_33 => ?_)
        exact z_iret dX10_laws_36 rfl (Nat.le_refl 0) (Nat.le_refl 0) ⟨_, rfl, rfl, by first | exact Or.inr (Or.inl ⟨by omega, rfl⟩) | exact Or.inr (Or.inr ⟨by omega, h_33⟩)⟩
      · refine y_ldc (n := -1000000002) dX10_laws_23 cX10_94 (by decide +kernel) ?_
        refine z_goto dX10_laws_25 ?_
        skip
        exact z_iret dX10_laws_36 rfl (Nat.le_refl 0) (Nat.le_refl 0) ⟨_, rfl, rfl, by first | exact Or.inr (Or.inl ⟨by omega, rfl⟩) | exact Or.inr (Or.inr ⟨by omega, h_33⟩)⟩
  · refine z_aload_n dX10_laws_5 rfl ?_
    refine y_getR fX10_43 dX10_laws_6 (by first | assumption | rfl) (by first | assumption | rfl) ?_
    refine y_callVr (ct_X1_leastLaw (by omega)) kX10_292 dX10_laws_9 rfl rfl (by first | assumption | rfl) rfl (by decide) rfl (Nat.le_of_ble_eq_true rfl) (fun r_9 h_9 => ?_)
    exact z_iret dX10_laws_12 rfl (Nat.le_refl 0) (Nat.le_refl 0) ⟨_, rfl, rfl, Or.inl ⟨by omega, h_9⟩⟩
theorem ct_X10_next (ht : 0 ≤ V 99 1 ∧ V 99 1 ≤ 2147483647) : yC 3 mX10_next [.ref 0] V b (pR b V (fuP (V 99 1))) := by
  refine zC_of (by decide +kernel) (Nat.le_of_ble_eq_true rfl) rfl ?_
  refine z_aload_n dX10_next_0 rfl ?_
  refine y_getR fX10_43 dX10_next_1 (by first | assumption | rfl) (by first | assumption | rfl) ?_
  refine y_callVr (ct_X1_firstUntried (by omega)) kX10_299 dX10_next_4 rfl rfl (by first | assumption | rfl) rfl (by decide) rfl (Nat.le_of_ble_eq_true rfl) (fun r_4 h_4 => ?_)
  exact z_iret dX10_next_7 rfl (Nat.le_refl 0) (Nat.le_refl 0) ⟨_, rfl, rfl, h_4⟩
/-- the first entry of the book that is otherwise -/
def jgP (V : Nat → Int → Int) (q : Int) : Prop := (∃ n, 0 ≤ n ∧ n < V 104 3 ∧ wA V (V 105 n) (V 106 n) ≠ V 107 n ∧ (∀ m, 0 ≤ m → m < n → wA V (V 105 m) (V 106 m) = V 107 m) ∧ q = n) ∨ ((∀ m, 0 ≤ m → m < V 104 3 → wA V (V 105 m) (V 106 m) = V 107 m) ∧ q = -1)
theorem ct_X10_judge (hc : cN V) (hwn : wN V) (hb : 0 ≤ V 104 3 ∧ V 104 3 ≤ 15) (hbk : ∀ m, 0 ≤ m → m < V 104 3 → (0 ≤ V 105 m ∧ V 105 m ≤ 3) ∧ (0 ≤ V 106 m ∧ V 106 m ≤ 6) ∧ (-1 ≤ V 107 m ∧ V 107 m ≤ 6)) : yC 4 mX10_judge [.ref 0] V b (pR b V (jgP V)) := by
  have hN : isN 104 15 := Or.inr ⟨rfl, rfl⟩
  have loop : ∀ (k : Nat) (n : Int), 0 ≤ n → n ≤ V 104 3 → V 104 3 - n ≤ k → (∀ m, 0 ≤ m → m < n → wA V (V 105 m) (V 106 m) = V 107 m) → yE 4 (pR b V (jgP V)) mX10_judge 2 [some (.ref 0), some (.int (iI n))] [] V b := by
    intro k
    induction k with
    | zero =>
      intro n h1 h2 h3 h4
      refine z_iload_n dX10_judge_2 rfl ?_
      refine z_aload_n dX10_judge_3 rfl ?_
      refine y_getR fX10_56 dX10_judge_4 (by first | assumption | rfl) (by first | assumption | rfl) ?_
      refine y_getI (j := 3) fX10_148 dX10_judge_7 rfl (by first | assumption | rfl) ?_
      refine y_icmp_ge dX10_judge_10 (by omega) (by omega) (fun c_10 => ?_) (fun c_10 => ?_)
      · refine y_iconst dX10_judge_55 ?_
        exact z_iret dX10_judge_56 rfl (Nat.le_refl 0) (Nat.le_refl 0) ⟨_, rfl, rfl, Or.inr ⟨fun m m1 m2 => h4 m m1 (by omega), rfl⟩⟩
      · omega
    | succ k ih =>
      intro n h1 h2 h3 h4
      refine z_iload_n dX10_judge_2 rfl ?_
      refine z_aload_n dX10_judge_3 rfl ?_
      refine y_getR fX10_56 dX10_judge_4 (by first | assumption | rfl) (by first | assumption | rfl) ?_
      refine y_getI (j := 3) fX10_148 dX10_judge_7 rfl (by first | assumption | rfl) ?_
      refine y_icmp_ge dX10_judge_10 (by omega) (by omega) (fun c_10 => ?_) (fun c_10 => ?_)
      · refine y_iconst dX10_judge_55 ?_
        exact z_iret dX10_judge_56 rfl (Nat.le_refl 0) (Nat.le_refl 0) ⟨_, rfl, rfl, Or.inr ⟨fun m m1 m2 => h4 m m1 (by omega), rfl⟩⟩
      · have hbn := hbk n h1 c_10
        have hwr := wA_rg (l := V 105 n) (p := V 106 n) hwn
        refine z_aload_n dX10_judge_13 rfl ?_
        refine y_getR fX10_19 dX10_judge_14 (by first | assumption | rfl) (by first | assumption | rfl) ?_
        refine z_aload_n dX10_judge_17 rfl ?_
        refine y_getR fX10_56 dX10_judge_18 (by first | assumption | rfl) (by first | assumption | rfl) ?_
        refine z_iload_n dX10_judge_21 rfl ?_
        refine y_callVr (ct_X4_roadOf hN (by omega) (by omega)) kX10_316 dX10_judge_22 rfl rfl (by first | assumption | rfl) rfl (by decide) rfl (Nat.le_of_ble_eq_true rfl) (fun r_22 h_22 => ?_)
        have h_22 : r_22 = V 105 n := h_22
        subst h_22
        refine z_aload_n dX10_judge_25 rfl ?_
        refine y_getR fX10_56 dX10_judge_26 (by first | assumption | rfl) (by first | assumption | rfl) ?_
        refine z_iload_n dX10_judge_29 rfl ?_
        refine y_callVr (ct_X4_placeOf hN (by omega) (by omega)) kX10_317 dX10_judge_30 rfl rfl (by first | assumption | rfl) rfl (by decide) rfl (Nat.le_of_ble_eq_true rfl) (fun r_30 h_30 => ?_)
        have h_30 : r_30 = V 106 n := h_30
        subst h_30
        refine y_callVr (ct_X8_wagonAt (by omega) (by omega) (by assumption)) kX10_185 dX10_judge_33 rfl rfl (by first | assumption | rfl) rfl (by decide) rfl (Nat.le_of_ble_eq_true rfl) (fun r_33 h_33 => ?_)
        subst h_33
        refine z_aload_n dX10_judge_36 rfl ?_
        refine y_getR fX10_56 dX10_judge_37 (by first | assumption | rfl) (by first | assumption | rfl) ?_
        refine z_iload_n dX10_judge_40 rfl ?_
        refine y_callVr (ct_X4_whatOf hN (by omega) (by omega)) kX10_318 dX10_judge_41 rfl rfl (by first | assumption | rfl) rfl (by decide) rfl (Nat.le_of_ble_eq_true rfl) (fun r_41 h_41 => ?_)
        have h_41 : r_41 = V 107 n := h_41
        subst h_41
        refine y_icmp_eq dX10_judge_44 (by omega) (by omega) (fun c_44 => ?_) (fun c_44 => ?_)
        · refine y_iinc dX10_judge_49 rfl (by decide) rfl rfl ?_
          refine z_goto dX10_judge_52 ?_
          refine ih (n + 1) (by omega) (by omega) (by omega) (fun m m1 m2 => ?_)
          by_cases hm : m = n
          · subst hm; exact c_44
          · exact h4 m m1 (by omega)
        · refine z_iload_n dX10_judge_47 rfl ?_
          exact z_iret dX10_judge_48 rfl (Nat.le_refl 0) (Nat.le_refl 0) ⟨_, rfl, rfl, Or.inl ⟨n, h1, c_10, c_44, h4, rfl⟩⟩
  refine zC_of (by decide +kernel) (Nat.le_of_ble_eq_true rfl) rfl ?_
  refine y_iconst dX10_judge_0 ?_
  refine z_istore_n dX10_judge_1 (by decide) rfl rfl ?_
  exact loop 15 0 (by omega) (by omega) (by omega) (fun m m1 m2 => by omega)
end

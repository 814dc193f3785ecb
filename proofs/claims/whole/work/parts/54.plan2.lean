/-! ===== plan ===== -/
section
variable {V : Nat → Int → Int} {b : Bool}
/-- the planner's rows hold roads -/
def plR (V : Nat → Int → Int) : Prop := (∀ j, 0 ≤ V 114 j ∧ V 114 j ≤ 3) ∧ (∀ j, 0 ≤ V 115 j ∧ V 115 j ≤ 3)
/-- what the search leaves -/
def seaA (V : Nat → Int → Int) : pA4 := exA (V 108 4).toNat (V 108 6) (V 109) (V 110) (V 108 5).toNat 0 0 0 (V 111) (V 112) (V 114, V 115, 8, 0)
theorem seaA_I (hB : BS V) (hp : plR V) : accI (seaA V) := by
  obtain ⟨b0, b1, b2, b3, b4, b5, b6⟩ := id hB
  exact exA_I (by omega) _ _ _ _ _ _ _ (by omega) (by omega) (by omega) (by omega) ⟨hp.1, hp.2, by show (0 : Int) ≤ 8 ∧ (8 : Int) ≤ 8; omega, by show (0 : Int) ≤ 0 ∧ (0 : Int) ≤ 7; omega⟩
theorem ct_X6_search (hB : BS V) (hp : plR V) : yC 12 mX6_search [.ref 113, .ref 108] V b (pV b (fun V' => V' = setP V (seaA V))) := by
  obtain ⟨b0, b1, b2, b3, b4, b5, b6⟩ := id hB
  have u8 : vst (vst V 113 2 8) 113 3 0 108 = V 108 := by rw [vst_o (by decide), vst_o (by decide)]
  have uo : ∀ a, a ≠ 113 → vst (vst V 113 2 8) 113 3 0 a = V a := fun a ha => by rw [vst_o ha, vst_o ha]
  have uA : accV (vst (vst V 113 2 8) 113 3 0) = (V 114, V 115, 8, 0) := by
    unfold accV
    rw [uo 114 (by decide), uo 115 (by decide), vst_s, vst_n (by decide), vst_s]
  have hcall := ct_X6_extend (b := b) (V 108 5).toNat 0 0 0 (vst (vst V 113 2 8) 113 3 0) (BS_congr (fun a a1 a2 => uo a (by omega)) hB) (by rw [uA]; exact ⟨hp.1, hp.2, by show (0 : Int) ≤ 8 ∧ (8 : Int) ≤ 8; omega, by show (0 : Int) ≤ 0 ∧ (0 : Int) ≤ 7; omega⟩) (by omega) (by rw [u8]; omega) (by omega) (by omega) (by omega) (by omega)
  rw [uA, uo 108 (by decide), uo 109 (by decide), uo 110 (by decide), uo 111 (by decide), uo 112 (by decide)] at hcall
  refine zC_of (by decide +kernel) (Nat.le_of_ble_eq_true rfl) rfl ?_
  refine z_aload_n dX6_search_0 rfl ?_
  refine y_bipush dX6_search_1 (by decide +kernel) ?_
  refine y_putI (j := 2) fX6_18 dX6_search_3 rfl (by first | assumption | rfl) ?_
  refine z_aload_n dX6_search_6 rfl ?_
  refine y_iconst dX6_search_7 ?_
  refine y_putI (j := 3) fX6_22 dX6_search_8 rfl (by first | assumption | rfl) ?_
  refine z_aload_n dX6_search_11 rfl ?_
  refine z_aload_n dX6_search_12 rfl ?_
  refine y_iconst dX6_search_13 ?_
  refine y_iconst dX6_search_14 ?_
  refine y_iconst dX6_search_15 ?_
  refine y_callVv (hcall) kX6_25 dX6_search_16 rfl rfl (by first | assumption | rfl) rfl (by omega) rfl (Nat.le_of_ble_eq_true rfl) (fun V1 h_16 => ?_)
  exact z_vret dX6_search_19 rfl (Nat.le_refl 0) (Nat.le_refl 0) ⟨_, rfl, rfl, by
    rw [h_16]
    refine setP_ext setP_4 setP_5 setP_k setP_c ?_ ?_
    · intro j j2 j3; rw [setP_3 j2 j3, vst_n j3, vst_n j2]
    · intro a q3 q4 q5; rw [setP_o q3 q4 q5, uo a q3]⟩
theorem ct_X6_found (h : 0 ≤ V 113 2 ∧ V 113 2 ≤ 8) : yC 0 mX6_found [.ref 113] V b (pR b V (fun q => (q = 0 ∨ q = 1) ∧ (q = 1 ↔ V 113 2 < 8))) := by
  refine zC_of (by decide +kernel) (Nat.le_of_ble_eq_true rfl) rfl ?_
  refine z_aload_n dX6_found_0 rfl ?_
  refine y_getI (j := 2) fX6_18 dX6_found_1 rfl (by first | assumption | rfl) ?_
  refine y_bipush dX6_found_4 (by decide +kernel) ?_
  refine y_icmp_ge dX6_found_6 (by omega) (by omega) (fun c_6 => ?_) (fun c_6 => ?_)
  · refine y_iconst dX6_found_13 ?_
    exact y_zret dX6_found_14 rfl (by omega) (Nat.le_refl 0) (Nat.le_refl 0) ⟨_, rfl, rfl, by omega⟩
  · refine y_iconst dX6_found_9 ?_
    refine z_goto dX6_found_10 ?_
    exact y_zret dX6_found_14 rfl (by omega) (Nat.le_refl 0) (Nat.le_refl 0) ⟨_, rfl, rfl, by omega⟩
theorem ct_X6_roadOf {i w : Int} (hi : rg i) (hw : rg w) (h : ∀ j, 0 ≤ V 115 j ∧ V 115 j ≤ 3) : yC 0 mX6_roadOf [.ref 113, .int (iI i), .int (iI w)] V b (pR b V (fun q => q = if 0 ≤ i ∧ i < w ∧ i < 7 then V 115 i else -1)) := by
  have h15 := h i
  refine zC_of (by decide +kernel) (Nat.le_of_ble_eq_true rfl) rfl ?_
  refine z_iload_n dX6_roadOf_0 rfl ?_
  refine y_if_lt dX6_roadOf_1 (by omega) (fun c_1 => ?_) (fun c_1 => ?_)
  · refine y_iconst dX6_roadOf_24 ?_
    exact z_iret dX6_roadOf_25 rfl (Nat.le_refl 0) (Nat.le_refl 0) ⟨_, rfl, rfl, by first | rw [if_pos (by omega)] | rw [if_neg (by omega)]⟩
  · refine z_iload_n dX6_roadOf_4 rfl ?_
    refine z_iload_n dX6_roadOf_5 rfl ?_
    refine y_icmp_ge dX6_roadOf_6 (by omega) (by omega) (fun c_6 => ?_) (fun c_6 => ?_)
    · refine y_iconst dX6_roadOf_24 ?_
      exact z_iret dX6_roadOf_25 rfl (Nat.le_refl 0) (Nat.le_refl 0) ⟨_, rfl, rfl, by first | rw [if_pos (by omega)] | rw [if_neg (by omega)]⟩
    · refine z_iload_n dX6_roadOf_9 rfl ?_
      refine y_bipush dX6_roadOf_10 (by decide +kernel) ?_
      refine y_icmp_ge dX6_roadOf_12 (by omega) (by omega) (fun c_12 => ?_) (fun c_12 => ?_)
      · refine y_iconst dX6_roadOf_24 ?_
        exact z_iret dX6_roadOf_25 rfl (Nat.le_refl 0) (Nat.le_refl 0) ⟨_, rfl, rfl, by first | rw [if_pos (by omega)] | rw [if_neg (by omega)]⟩
      · refine z_aload_n dX6_roadOf_15 rfl ?_
        refine y_getR fX6_15 dX6_roadOf_16 (by first | assumption | rfl) (by first | assumption | rfl) ?_
        refine z_iload_n dX6_roadOf_19 rfl ?_
        refine y_iald dX6_roadOf_20 (by first | assumption | rfl) (by first | rfl | assumption) (by omega) ?_
        refine z_goto dX6_roadOf_21 ?_
        exact z_iret dX6_roadOf_25 rfl (Nat.le_refl 0) (Nat.le_refl 0) ⟨_, rfl, rfl, by first | rw [if_pos (by omega)] | rw [if_neg (by omega)]⟩
theorem plR_su {V' : Nat → Int → Int} {y : Nat} (h : suP V V' y) (hp : plR V) : plR V' := by
  obtain ⟨_, _, _, _, _, h6⟩ := h
  unfold plR
  rw [h6 114 (by omega), h6 115 (by omega)]
  exact hp
def plA (A : pA4) (n i : Int) : Int := if ¬ A.2.2.1 < 8 then -1 else if i = -1 then A.2.2.1 else if i = -2 then A.2.2.2 else if 0 ≤ i ∧ i < n ∧ i < 7 then A.2.1 i else -1
theorem ct_X10_plan {i : Int} (hi : rg i) (hys : YS V (yN b)) (hc : cN V) (hwn : wN V) (hp : plR V) : yC 13 mX10_plan [.ref 0, .int (iI i)] V b (pI b (fun q V' => ∃ U, suP V U (yN b) ∧ V' = setP U (seaA U) ∧ plR V' ∧ q = plA (seaA U) (V 5 4) i)) := by
  have hy := yN_Y b
  obtain ⟨sy, sy1, sy2, sy3, sy4, sy5, sy6, fy0, fy1, fy2, fy3, fy4, fy5⟩ := yfacts hy b
  have hf : Fs b 0 11 = some (yN b) := rfl
  have c4 := hc 4
  refine zC_of (by decide +kernel) (Nat.le_of_ble_eq_true rfl) rfl ?_
  refine z_aload_n dX10_plan_0 rfl ?_
  refine y_getR fX10_62 dX10_plan_1 (by first | assumption | rfl) (by first | assumption | rfl) ?_
  refine z_aload_n dX10_plan_4 rfl ?_
  refine y_getR fX10_83 dX10_plan_5 (by first | assumption | rfl) (by first | assumption | rfl) ?_
  refine z_aload_n dX10_plan_8 rfl ?_
  refine y_getR fX10_19 dX10_plan_9 (by first | assumption | rfl) (by first | assumption | rfl) ?_
  refine y_callVv (ct_X0_setUp (by assumption) (by assumption) (by assumption) (by assumption)) kX10_230 dX10_plan_12 rfl rfl (by first | assumption | rfl) rfl (by decide) rfl (Nat.le_of_ble_eq_true rfl) (fun U h_12 => ?_)
  have hBS := BS_su h_12 hys hc
  have w5 := h_12.2.1
  have hpU := plR_su h_12 hp
  have hsI := seaA_I hBS hpU
  obtain ⟨i1, i2, i3, i4⟩ := id hsI
  have pk : setP U (seaA U) 113 2 = (seaA U).2.2.1 := setP_k
  have pc : setP U (seaA U) 113 3 = (seaA U).2.2.2 := setP_c
  have p5 : setP U (seaA U) 115 = (seaA U).2.1 := setP_5
  have p4 : setP U (seaA U) 114 = (seaA U).1 := setP_4
  have p8 : setP U (seaA U) 108 = U 108 := setP_o (by decide) (by decide) (by decide)
  have hpl : plR (setP U (seaA U)) := by unfold plR; rw [p4, p5]; exact ⟨i1, i2⟩
  have hU5 : U 108 5 = V 5 4 := w5
  refine z_aload_n dX10_plan_15 rfl ?_
  refine y_getR fX10_69 dX10_plan_16 (by first | assumption | rfl) (by first | assumption | rfl) ?_
  refine z_aload_n dX10_plan_19 rfl ?_
  refine y_getR fX10_62 dX10_plan_20 (by first | assumption | rfl) (by first | assumption | rfl) ?_
  refine y_callVv (ct_X6_search (by assumption) (by assumption)) kX10_234 dX10_plan_23 rfl rfl (by first | assumption | rfl) rfl (by decide) rfl (Nat.le_of_ble_eq_true rfl) (fun V2 h_23 => ?_)
  subst h_23
  refine z_aload_n dX10_plan_26 rfl ?_
  refine y_getR fX10_69 dX10_plan_27 (by first | assumption | rfl) (by first | assumption | rfl) ?_
  refine y_callVr (ct_X6_found (by rw [pk]; exact i3)) kX10_238 dX10_plan_30 rfl rfl (by first | assumption | rfl) rfl (by decide) rfl (Nat.le_of_ble_eq_true rfl) (fun r_30 h_30 => ?_)
  rw [pk] at h_30
  refine y_if_ne dX10_plan_33 (by omega) (fun c_33 => ?_) (fun c_33 => ?_)
  · refine z_iload_n dX10_plan_38 rfl ?_
    refine y_iconst dX10_plan_39 ?_
    refine y_icmp_ne dX10_plan_40 (by omega) (by omega) (fun c_40 => ?_) (fun c_40 => ?_)
    · refine z_iload_n dX10_plan_51 rfl ?_
      refine y_bipush dX10_plan_52 (by decide +kernel) ?_
      refine y_icmp_ne dX10_plan_54 (by omega) (by omega) (fun c_54 => ?_) (fun c_54 => ?_)
      · refine z_aload_n dX10_plan_67 rfl ?_
        refine y_getR fX10_69 dX10_plan_68 (by first | assumption | rfl) (by first | assumption | rfl) ?_
        refine z_iload_n dX10_plan_71 rfl ?_
        refine z_aload_n dX10_plan_72 rfl ?_
        refine y_getR fX10_62 dX10_plan_73 (by first | assumption | rfl) (by first | assumption | rfl) ?_
        refine y_getI (j := 5) fX10_248 dX10_plan_76 rfl (by first | assumption | rfl) ?_
        rw [p8, hU5]
        refine y_callVr (ct_X6_roadOf (by assumption) (by omega) (by rw [p5]; exact i2)) kX10_251 dX10_plan_79 rfl rfl (by first | assumption | rfl) rfl (by decide) rfl (Nat.le_of_ble_eq_true rfl) (fun r_79 h_79 => ?_)
        rw [p5] at h_79
        exact z_iret dX10_plan_82 rfl (Nat.le_refl 0) (Nat.le_refl 0) ⟨_, _, rfl, rfl, U, h_12, rfl, hpl, by unfold plA; rw [if_neg (by omega), if_neg (by omega)]; first | rw [if_pos (by omega)] | (rw [if_neg (by omega)]; exact h_79)⟩
      · refine z_aload_n dX10_plan_57 rfl ?_
        refine y_getR fX10_69 dX10_plan_58 (by first | assumption | rfl) (by first | assumption | rfl) ?_
        refine y_getI (j := 3) fX10_245 dX10_plan_61 rfl (by first | assumption | rfl) ?_
        rw [pc]
        refine z_goto dX10_plan_64 ?_
        exact z_iret dX10_plan_82 rfl (Nat.le_refl 0) (Nat.le_refl 0) ⟨_, _, rfl, rfl, U, h_12, rfl, hpl, by unfold plA; rw [if_neg (by omega), if_neg (by omega)]; first | rw [if_pos (by omega)] | (rw [if_neg (by omega)]; exact h_79)⟩
    · refine z_aload_n dX10_plan_43 rfl ?_
      refine y_getR fX10_69 dX10_plan_44 (by first | assumption | rfl) (by first | assumption | rfl) ?_
      refine y_getI (j := 2) fX10_242 dX10_plan_47 rfl (by first | assumption | rfl) ?_
      rw [pk]
      exact z_iret dX10_plan_50 rfl (Nat.le_refl 0) (Nat.le_refl 0) ⟨_, _, rfl, rfl, U, h_12, rfl, hpl, by unfold plA; rw [if_neg (by omega), if_pos (by omega)]⟩
  · refine y_iconst dX10_plan_36 ?_
    exact z_iret dX10_plan_37 rfl (Nat.le_refl 0) (Nat.le_refl 0) ⟨_, _, rfl, rfl, U, h_12, rfl, hpl, by unfold plA; rw [if_pos (by omega)]⟩
end

/-! ===== GrudgeYard's own methods, at 0: those that change ===== -/
section
variable {V : Nat → Int → Int} {b : Bool}
theorem ct_X7_addLetter {x : Int} (hl : 0 ≤ V 1 1 ∧ V 1 1 ≤ 230) : yC 1 mX7_addLetter [.ref 1, .int (iI x)] V b (pI b (fun q V' => (V 1 1 = 230 ∧ q = 0 ∧ V' = V) ∨ (V 1 1 < 230 ∧ q = 1 ∧ V' = vst (vst V 2 (V 1 1) x) 1 1 (V 1 1 + 1)))) := by
  refine zC_of (by decide +kernel) (Nat.le_of_ble_eq_true rfl) rfl ?_
  refine z_aload_n dX7_addLetter_0 rfl ?_
  refine y_getI (j := 1) fX7_15 dX7_addLetter_1 rfl (by first | assumption | rfl) ?_
  refine y_sipush dX7_addLetter_4 (by decide +kernel) ?_
  refine y_icmp_lt dX7_addLetter_7 (by omega) (by omega) (fun c_7 => ?_) (fun c_7 => ?_)
  · refine z_aload_n dX7_addLetter_12 rfl ?_
    refine y_getR fX7_9 dX7_addLetter_13 (by first | assumption | rfl) (by first | assumption | rfl) ?_
    refine z_aload_n dX7_addLetter_16 rfl ?_
    refine y_getI (j := 1) fX7_15 dX7_addLetter_17 rfl (by first | assumption | rfl) ?_
    refine z_iload_n dX7_addLetter_20 rfl ?_
    refine y_iast dX7_addLetter_21 (by first | assumption | rfl) (by first | rfl | assumption) (by omega) ?_
    refine z_aload_n dX7_addLetter_22 rfl ?_
    refine z_dup dX7_addLetter_23 rfl ?_
    refine y_getI (j := 1) fX7_15 dX7_addLetter_24 rfl (by first | assumption | rfl) ?_
    refine y_iconst dX7_addLetter_27 ?_
    refine y_iadd dX7_addLetter_28 ?_
    refine y_putI (j := 1) fX7_15 dX7_addLetter_29 rfl (by first | assumption | rfl) ?_
    refine y_iconst dX7_addLetter_32 ?_
    exact y_zret dX7_addLetter_33 rfl (by omega) (Nat.le_refl 0) (Nat.le_refl 0) ⟨_, _, rfl, rfl, Or.inr ⟨by omega, rfl, rfl⟩⟩
  · refine y_iconst dX7_addLetter_10 ?_
    exact y_zret dX7_addLetter_11 rfl (by omega) (Nat.le_refl 0) (Nat.le_refl 0) ⟨_, _, rfl, rfl, Or.inl ⟨by omega, rfl, rfl⟩⟩
theorem ct_X10_feed {x : Int} (hx : rg x) (hl : 0 ≤ V 1 1 ∧ V 1 1 ≤ 230) : yC 2 mX10_feed [.ref 0, .int (iI x)] V b (pI b (fun q V' => (¬ (0 ≤ x ∧ x ≤ 255) ∧ q = -1000000002 ∧ V' = V) ∨ ((0 ≤ x ∧ x ≤ 255) ∧ V 1 1 = 230 ∧ q = -1000000004 ∧ V' = V) ∨ ((0 ≤ x ∧ x ≤ 255) ∧ V 1 1 < 230 ∧ q = V 1 1 + 1 ∧ V' = vst (vst V 2 (V 1 1) x) 1 1 (V 1 1 + 1)))) := by
  refine zC_of (by decide +kernel) (Nat.le_of_ble_eq_true rfl) rfl ?_
  refine z_iload_n dX10_feed_0 rfl ?_
  refine y_if_lt dX10_feed_1 (by omega) (fun c_1 => ?_) (fun c_1 => ?_)
  · refine y_ldc (n := -1000000002) dX10_feed_11 cX10_94 (by decide +kernel) ?_
    exact z_iret dX10_feed_13 rfl (Nat.le_refl 0) (Nat.le_refl 0) ⟨_, _, rfl, rfl, Or.inl ⟨by omega, rfl, rfl⟩⟩
  · refine z_iload_n dX10_feed_4 rfl ?_
    refine y_sipush dX10_feed_5 (by decide +kernel) ?_
    refine y_icmp_le dX10_feed_8 (by omega) (by omega) (fun c_8 => ?_) (fun c_8 => ?_)
    · refine z_aload_n dX10_feed_14 rfl ?_
      refine y_getR fX10_10 dX10_feed_15 (by first | assumption | rfl) (by first | assumption | rfl) ?_
      refine z_iload_n dX10_feed_18 rfl ?_
      refine y_callVi (ct_X7_addLetter (by omega)) kX10_95 dX10_feed_19 rfl rfl (by first | assumption | rfl) rfl (by decide) rfl (Nat.le_of_ble_eq_true rfl) (fun r_19 V1 h_19 => ?_)
      refine y_if_eq dX10_feed_22 (by omega) (fun c_22 => ?_) (fun c_22 => ?_)
      · obtain ⟨g1, g2, g3⟩ := h_19.resolve_right (fun hh => by omega)
        subst g3
        refine y_ldc (n := -1000000004) dX10_feed_35 cX10_102 (by decide +kernel) ?_
        exact z_iret dX10_feed_37 rfl (Nat.le_refl 0) (Nat.le_refl 0) ⟨_, _, rfl, rfl, Or.inr (Or.inl ⟨by omega, g1, rfl, rfl⟩)⟩
      · obtain ⟨g1, g2, g3⟩ := h_19.resolve_left (fun hh => by omega)
        subst g3
        refine z_aload_n dX10_feed_25 rfl ?_
        refine y_getR fX10_10 dX10_feed_26 (by first | assumption | rfl) (by first | assumption | rfl) ?_
        refine y_getI (j := 1) fX10_99 dX10_feed_29 rfl (by first | assumption | rfl) ?_
        refine z_goto dX10_feed_32 ?_
        exact z_iret dX10_feed_37 rfl (Nat.le_refl 0) (Nat.le_refl 0) ⟨_, _, rfl, rfl, Or.inr (Or.inr ⟨by omega, g1, by rw [vst_s], rfl⟩)⟩
    · refine y_ldc (n := -1000000002) dX10_feed_11 cX10_94 (by decide +kernel) ?_
      exact z_iret dX10_feed_13 rfl (Nat.le_refl 0) (Nat.le_refl 0) ⟨_, _, rfl, rfl, Or.inl ⟨by omega, rfl, rfl⟩⟩
theorem rem1_o {a : Nat} (hn : 0 ≤ V 7 2 ∧ V 7 2 < 20) (h7 : a ≠ 7) (h : a < 9 ∨ 89 ≤ a) : rem1 V a = V a := by
  have hm : 0 ≤ nw1 V ∧ nw1 V < 20 := by unfold nw1; omega
  have hg : 9 ≤ rgp (nw1 V) ∧ rgp (nw1 V) ≤ 85 := by unfold rgp; omega
  unfold rem1
  rw [vst_o h7, bcm_o (by omega) (by omega) (by omega) (by omega), vst_o h7]
/-- what stands below a road is room enough -/
abbrev ctP (V : Nat → Int → Int) (y : Nat) (k r q : Int) (V' : Nat → Int → Int) : Prop :=
  (¬ (0 ≤ r ∧ r < V y 6) ∧ q = -1000000001 ∧ V' = V) ∨ ((0 ≤ r ∧ r < V y 6) ∧ ¬ (1 ≤ k ∧ k ≤ 7) ∧ q = -1000000002 ∧ V' = V) ∨ ((0 ≤ r ∧ r < V y 6) ∧ (1 ≤ k ∧ k ≤ 7) ∧ ¬ (k ≤ V 5 4 ∧ V 5 r + k ≤ V (y + 1) r) ∧ q = -1000000003 ∧ V' = V) ∨
  ((0 ≤ r ∧ r < V y 6) ∧ (1 ≤ k ∧ k ≤ 7) ∧ (k ≤ V 5 4 ∧ V 5 r + k ≤ V (y + 1) r) ∧ q = ldX y r k.toNat (rem1 V) 3 4 - V 3 4 ∧ V' = vst (ldX y r k.toNat (rem1 V)) 3 3 (V 3 3 + 1))
theorem ct_X10_cut {k r : Int} (hk : rg k) (hr : rg r) (hys : YS V (yN b)) (hc : cN V) (hwn : wN V) (hf5 : rg (V 3 5)) (hk4 : -1000000 ≤ V 3 4 ∧ V 3 4 ≤ 1000000) (hk3 : -1000000 ≤ V 3 3 ∧ V 3 3 ≤ 1000000) (hn : 0 ≤ V 7 2 ∧ V 7 2 < 20) (hpc : 0 ≤ V 7 1 ∧ V 7 1 ≤ 20) : yC 6 mX10_cut [.ref 0, .int (iI k), .int (iI r)] V b (pI b (fun q V' => ctP V (yN b) k r q V')) := by
  have hy := yN_Y b
  obtain ⟨sy, sy1, sy2, sy3, sy4, sy5, sy6, fy0, fy1, fy2, fy3, fy4, fy5⟩ := yfacts hy b
  have hf : Fs b 0 11 = some (yN b) := rfl
  obtain ⟨q1, q2, q3, q4, q5⟩ := id hys
  have c4 := hc 4
  have cr := hc r
  have yb : 120 ≤ yN b ∧ yN b ≤ 127 := by rcases hy with h | h <;> omega
  have e3 : rem1 V 3 = V 3 := rem1_o hn (by decide) (by decide)
  have e4 : rem1 V 4 = V 4 := rem1_o hn (by decide) (by decide)
  have e5 : rem1 V 5 = V 5 := rem1_o hn (by decide) (by decide)
  have hys' : YS (rem1 V) (yN b) := YS_congr (fun a h1 h2 => rem1_o hn (by omega) (by omega)) hys
  have hc' : cN (rem1 V) := by unfold cN; rw [e5]; exact hc
  have hw' : wN (rem1 V) := by unfold wN; rw [e4]; exact hwn
  have hrm : 0 ≤ r → r < V (yN b) 6 → rmX V (yN b) r = V (yN b + 1) r := fun a1 a2 => by unfold rmX; rw [if_pos ⟨a1, a2⟩]
  refine zC_of (by decide +kernel) (Nat.le_of_ble_eq_true rfl) rfl ?_
  refine z_aload_n dX10_cut_0 rfl ?_
  refine y_getR fX10_83 dX10_cut_1 (by first | assumption | rfl) (by first | assumption | rfl) ?_
  refine z_iload_n dX10_cut_4 rfl ?_
  refine y_callVr (ct_X9_hasRoad hy (by omega) (by omega)) kX10_173 dX10_cut_5 rfl rfl (by first | assumption | rfl) rfl (by decide) rfl (Nat.le_of_ble_eq_true rfl) (fun r_5 h_5 => ?_)
  refine y_if_ne dX10_cut_8 (by omega) (fun c_8 => ?_) (fun c_8 => ?_)
  · refine z_iload_n dX10_cut_14 rfl ?_
    refine y_iconst dX10_cut_15 ?_
    refine y_icmp_lt dX10_cut_16 (by omega) (by omega) (fun c_16 => ?_) (fun c_16 => ?_)
    · refine y_ldc (n := -1000000002) dX10_cut_25 cX10_94 (by decide +kernel) ?_
      exact z_iret dX10_cut_27 rfl (Nat.le_refl 0) (Nat.le_refl 0) ⟨_, _, rfl, rfl, Or.inr (Or.inl ⟨by omega, by omega, rfl, rfl⟩)⟩
    · refine z_iload_n dX10_cut_19 rfl ?_
      refine y_bipush dX10_cut_20 (by decide +kernel) ?_
      refine y_icmp_le dX10_cut_22 (by omega) (by omega) (fun c_22 => ?_) (fun c_22 => ?_)
      · have qr := q5 r (by omega) (by omega)
        have er := hrm (by omega) (by omega)
        refine z_iload_n dX10_cut_28 rfl ?_
        refine z_aload_n dX10_cut_29 rfl ?_
        refine y_getR fX10_19 dX10_cut_30 (by first | assumption | rfl) (by first | assumption | rfl) ?_
        refine y_iconst dX10_cut_33 ?_
        refine y_callVr (ct_X8_countOf (by omega)) kX10_132 dX10_cut_34 rfl rfl (by first | assumption | rfl) rfl (by decide) rfl (Nat.le_of_ble_eq_true rfl) (fun r_34 h_34 => ?_)
        refine y_icmp_gt dX10_cut_37 (by omega) (by omega) (fun c_37 => ?_) (fun c_37 => ?_)
        · refine y_ldc (n := -1000000003) dX10_cut_61 cX10_196 (by decide +kernel) ?_
          exact z_iret dX10_cut_63 rfl (Nat.le_refl 0) (Nat.le_refl 0) ⟨_, _, rfl, rfl, Or.inr (Or.inr (Or.inl ⟨by omega, by omega, by omega, rfl, rfl⟩))⟩
        · refine z_iload_n dX10_cut_40 rfl ?_
          refine z_aload_n dX10_cut_41 rfl ?_
          refine y_getR fX10_83 dX10_cut_42 (by first | assumption | rfl) (by first | assumption | rfl) ?_
          refine z_iload_n dX10_cut_45 rfl ?_
          refine y_callVr (ct_X9_roomOf hy (by omega) (by omega)) kX10_176 dX10_cut_46 rfl rfl (by first | assumption | rfl) rfl (by decide) rfl (Nat.le_of_ble_eq_true rfl) (fun r_46 h_46 => ?_)
          refine z_aload_n dX10_cut_49 rfl ?_
          refine y_getR fX10_19 dX10_cut_50 (by first | assumption | rfl) (by first | assumption | rfl) ?_
          refine z_iload_n dX10_cut_53 rfl ?_
          refine y_callVr (ct_X8_countOf (by omega)) kX10_132 dX10_cut_54 rfl rfl (by first | assumption | rfl) rfl (by decide) rfl (Nat.le_of_ble_eq_true rfl) (fun r_54 h_54 => ?_)
          refine y_isub dX10_cut_57 ?_
          refine y_icmp_le dX10_cut_58 (by omega) (by omega) (fun c_58 => ?_) (fun c_58 => ?_)
          · refine z_aload_n dX10_cut_64 rfl ?_
            refine y_getR fX10_26 dX10_cut_65 (by first | assumption | rfl) (by first | assumption | rfl) ?_
            refine z_aload_n dX10_cut_68 rfl ?_
            refine y_getR fX10_19 dX10_cut_69 (by first | assumption | rfl) (by first | assumption | rfl) ?_
            refine y_callVv (ct_X5_remember (by omega) (by omega)) kX10_197 dX10_cut_72 rfl rfl (by first | assumption | rfl) rfl (by decide) rfl (Nat.le_of_ble_eq_true rfl) (fun V h_72 => ?_)
            subst h_72
            refine z_aload_n dX10_cut_75 rfl ?_
            refine y_getR fX10_19 dX10_cut_76 (by first | assumption | rfl) (by first | assumption | rfl) ?_
            refine z_aload_n dX10_cut_79 rfl ?_
            refine y_getR fX10_83 dX10_cut_80 (by first | assumption | rfl) (by first | assumption | rfl) ?_
            refine z_iload_n dX10_cut_83 rfl ?_
            refine z_iload_n dX10_cut_84 rfl ?_
            refine y_callVi (ct_X8_letDown hy hc' hw' hys' (by rw [e3]; exact hf5) (by rw [e3]; omega) (by omega) (by omega) (by rw [e5]; omega) (by rw [e5]; omega) (by rw [e3]; omega)) kX10_201 dX10_cut_85 rfl rfl (by first | assumption | rfl) rfl (by decide) rfl (Nat.le_of_ble_eq_true rfl) (fun r_85 V h_85 => ?_)
            exact z_iret dX10_cut_88 rfl (Nat.le_refl 0) (Nat.le_refl 0) ⟨_, _, rfl, rfl, Or.inr (Or.inr (Or.inr ⟨by omega, by omega, by omega, by rw [h_85.1, e3], by rw [h_85.2, e3]⟩))⟩
          · refine y_ldc (n := -1000000003) dX10_cut_61 cX10_196 (by decide +kernel) ?_
            exact z_iret dX10_cut_63 rfl (Nat.le_refl 0) (Nat.le_refl 0) ⟨_, _, rfl, rfl, Or.inr (Or.inr (Or.inl ⟨by omega, by omega, by omega, rfl, rfl⟩))⟩
      · refine y_ldc (n := -1000000002) dX10_cut_25 cX10_94 (by decide +kernel) ?_
        exact z_iret dX10_cut_27 rfl (Nat.le_refl 0) (Nat.le_refl 0) ⟨_, _, rfl, rfl, Or.inr (Or.inl ⟨by omega, by omega, rfl, rfl⟩)⟩
  · refine y_ldc (n := -1000000001) dX10_cut_11 cX10_153 (by decide +kernel) ?_
    exact z_iret dX10_cut_13 rfl (Nat.le_refl 0) (Nat.le_refl 0) ⟨_, _, rfl, rfl, Or.inl ⟨by omega, rfl, rfl⟩⟩
theorem ct_X10_pull {r : Int} (hr : rg r) (hys : YS V (yN b)) (hc : cN V) (hn : 0 ≤ V 7 2 ∧ V 7 2 < 20) (hpc : 0 ≤ V 7 1 ∧ V 7 1 ≤ 20) (h7 : ∀ r, 0 ≤ r → r ≤ 3 → V 5 4 + V 5 r ≤ 7) : yC 5 mX10_pull [.ref 0, .int (iI r)] V b (pI b (fun q V' => (¬ (0 ≤ r ∧ r < V (yN b) 6) ∧ q = -1000000001 ∧ V' = V) ∨ ((0 ≤ r ∧ r < V (yN b) 6) ∧ V 5 r = 0 ∧ q = -1000000003 ∧ V' = V) ∨ ((0 ≤ r ∧ r < V (yN b) 6) ∧ V 5 r ≠ 0 ∧ q = V 5 r ∧ V' = puX (rem1 V) r))) := by
  have hy := yN_Y b
  obtain ⟨sy, sy1, sy2, sy3, sy4, sy5, sy6, fy0, fy1, fy2, fy3, fy4, fy5⟩ := yfacts hy b
  have hf : Fs b 0 11 = some (yN b) := rfl
  obtain ⟨q1, q2, q3, q4, q5⟩ := id hys
  have cr := hc r
  have e5 : rem1 V 5 = V 5 := rem1_o hn (by decide) (by decide)
  have hc' : cN (rem1 V) := by unfold cN; rw [e5]; exact hc
  refine zC_of (by decide +kernel) (Nat.le_of_ble_eq_true rfl) rfl ?_
  refine z_aload_n dX10_pull_0 rfl ?_
  refine y_getR fX10_83 dX10_pull_1 (by first | assumption | rfl) (by first | assumption | rfl) ?_
  refine z_iload_n dX10_pull_4 rfl ?_
  refine y_callVr (ct_X9_hasRoad hy (by omega) (by omega)) kX10_173 dX10_pull_5 rfl rfl (by first | assumption | rfl) rfl (by decide) rfl (Nat.le_of_ble_eq_true rfl) (fun r_5 h_5 => ?_)
  refine y_if_ne dX10_pull_8 (by omega) (fun c_8 => ?_) (fun c_8 => ?_)
  · refine z_aload_n dX10_pull_14 rfl ?_
    refine y_getR fX10_19 dX10_pull_15 (by first | assumption | rfl) (by first | assumption | rfl) ?_
    refine z_iload_n dX10_pull_18 rfl ?_
    refine y_callVr (ct_X8_countOf (by omega)) kX10_132 dX10_pull_19 rfl rfl (by first | assumption | rfl) rfl (by decide) rfl (Nat.le_of_ble_eq_true rfl) (fun r_19 h_19 => ?_)
    refine y_if_ne dX10_pull_22 (by omega) (fun c_22 => ?_) (fun c_22 => ?_)
    · refine z_aload_n dX10_pull_28 rfl ?_
      refine y_getR fX10_26 dX10_pull_29 (by first | assumption | rfl) (by first | assumption | rfl) ?_
      refine z_aload_n dX10_pull_32 rfl ?_
      refine y_getR fX10_19 dX10_pull_33 (by first | assumption | rfl) (by first | assumption | rfl) ?_
      refine y_callVv (ct_X5_remember (by omega) (by omega)) kX10_197 dX10_pull_36 rfl rfl (by first | assumption | rfl) rfl (by decide) rfl (Nat.le_of_ble_eq_true rfl) (fun V h_36 => ?_)
      subst h_36
      refine z_aload_n dX10_pull_39 rfl ?_
      refine y_getR fX10_19 dX10_pull_40 (by first | assumption | rfl) (by first | assumption | rfl) ?_
      refine z_iload_n dX10_pull_43 rfl ?_
      refine y_callVi (ct_X8_pullUp hc' (by omega) (by rw [e5]; exact h7 r (by omega) (by omega))) kX10_205 dX10_pull_44 rfl rfl (by first | assumption | rfl) rfl (by decide) rfl (Nat.le_of_ble_eq_true rfl) (fun r_44 V h_44 => ?_)
      exact z_iret dX10_pull_47 rfl (Nat.le_refl 0) (Nat.le_refl 0) ⟨_, _, rfl, rfl, Or.inr (Or.inr ⟨by omega, by omega, by rw [h_44.1, e5], h_44.2⟩)⟩
    · refine y_ldc (n := -1000000003) dX10_pull_25 cX10_196 (by decide +kernel) ?_
      exact z_iret dX10_pull_27 rfl (Nat.le_refl 0) (Nat.le_refl 0) ⟨_, _, rfl, rfl, Or.inr (Or.inl ⟨by omega, by omega, rfl, rfl⟩)⟩
  · refine y_ldc (n := -1000000001) dX10_pull_11 cX10_153 (by decide +kernel) ?_
    exact z_iret dX10_pull_13 rfl (Nat.le_refl 0) (Nat.le_refl 0) ⟨_, _, rfl, rfl, Or.inl ⟨by omega, rfl, rfl⟩⟩
theorem ct_X10_peace {r i : Int} (hr : rg r) (hi : rg i) (hys : YS V (yN b)) (hc : cN V) (hwn : wN V) (hp : ∀ i, 0 ≤ V 6 i ∧ V 6 i ≤ 127) (hn : 0 ≤ V 7 2 ∧ V 7 2 < 20) (hpc : 0 ≤ V 7 1 ∧ V 7 1 ≤ 20) : yC 5 mX10_peace [.ref 0, .int (iI r), .int (iI i)] V b (pI b (fun q V' => (¬ (0 ≤ r ∧ r < V (yN b) 6) ∧ q = -1000000001 ∧ V' = V) ∨ ((0 ≤ r ∧ r < V (yN b) 6) ∧ ¬ ((0 ≤ i ∧ i < V 5 r - 1) ∧ tb (V 6 r) i = false) ∧ q = -1000000003 ∧ V' = V) ∨ ((0 ≤ r ∧ r < V (yN b) 6) ∧ ((0 ≤ i ∧ i < V 5 r - 1) ∧ tb (V 6 r) i = false) ∧ q = kkI (V (yN b) 8) (kdX V (yN b) (wA V r i)) (kdX V (yN b) (wA V r (i + 1))) ∧ V' = vst (rem1 V) 6 r (bOr (V 6 r) (s1 i))))) := by
  have hy := yN_Y b
  obtain ⟨sy, sy1, sy2, sy3, sy4, sy5, sy6, fy0, fy1, fy2, fy3, fy4, fy5⟩ := yfacts hy b
  have hf : Fs b 0 11 = some (yN b) := rfl
  obtain ⟨q1, q2, q3, q4, q5⟩ := id hys
  have cr := hc r
  have pr := hp r
  have yb : 120 ≤ yN b ∧ yN b ≤ 127 := by rcases hy with h | h <;> omega
  have e6 : rem1 V 6 = V 6 := rem1_o hn (by decide) (by decide)
  have eo : ∀ a, a ≠ 6 → a ≠ 7 → (a < 9 ∨ 89 ≤ a) → vst (rem1 V) 6 r (bOr (rem1 V 6 r) (s1 i)) a = V a := fun a h6 h7 h => by rw [vst_o h6, rem1_o hn h7 h]
  have hys' : YS (vst (rem1 V) 6 r (bOr (rem1 V 6 r) (s1 i))) (yN b) := YS_congr (fun a h1 h2 => eo a (by omega) (by omega) (by omega)) hys
  have hc' : cN (vst (rem1 V) 6 r (bOr (rem1 V 6 r) (s1 i))) := by unfold cN; rw [eo 5 (by decide) (by decide) (by decide)]; exact hc
  have hw' : wN (vst (rem1 V) 6 r (bOr (rem1 V 6 r) (s1 i))) := by unfold wN; rw [eo 4 (by decide) (by decide) (by decide)]; exact hwn
  have ekd : ∀ w, kdX (vst (rem1 V) 6 r (bOr (rem1 V 6 r) (s1 i))) (yN b) w = kdX V (yN b) w := fun w => kdX_congr (fun a h1 h2 => eo a (by omega) (by omega) (by omega)) w
  have ewa : ∀ l p, wA (vst (rem1 V) 6 r (bOr (rem1 V 6 r) (s1 i))) l p = wA V l p := fun l p => by unfold wA; rw [eo 5 (by decide) (by decide) (by decide), eo 4 (by decide) (by decide) (by decide)]
  have e8 : vst (rem1 V) 6 r (bOr (rem1 V 6 r) (s1 i)) (yN b) = V (yN b) := eo _ (by omega) (by omega) (by omega)
  have h01 := kkI_01 (V (yN b) 8) (kdX V (yN b) (wA V r i)) (kdX V (yN b) (wA V r (i + 1)))
  refine zC_of (by decide +kernel) (Nat.le_of_ble_eq_true rfl) rfl ?_
  refine z_aload_n dX10_peace_0 rfl ?_
  refine y_getR fX10_83 dX10_peace_1 (by first | assumption | rfl) (by first | assumption | rfl) ?_
  refine z_iload_n dX10_peace_4 rfl ?_
  refine y_callVr (ct_X9_hasRoad hy (by omega) (by omega)) kX10_173 dX10_peace_5 rfl rfl (by first | assumption | rfl) rfl (by decide) rfl (Nat.le_of_ble_eq_true rfl) (fun r_5 h_5 => ?_)
  refine y_if_ne dX10_peace_8 (by omega) (fun c_8 => ?_) (fun c_8 => ?_)
  · refine z_iload_n dX10_peace_14 rfl ?_
    refine y_if_lt dX10_peace_15 (by omega) (fun c_15 => ?_) (fun c_15 => ?_)
    · refine y_ldc (n := -1000000003) dX10_peace_44 cX10_196 (by decide +kernel) ?_
      exact z_iret dX10_peace_46 rfl (Nat.le_refl 0) (Nat.le_refl 0) ⟨_, _, rfl, rfl, Or.inr (Or.inl ⟨by omega, by first | (intro hh; omega) | (intro hh; rw [ht] at hh; exact absurd hh.2 (by decide)), rfl, rfl⟩)⟩
    · refine z_iload_n dX10_peace_18 rfl ?_
      refine z_aload_n dX10_peace_19 rfl ?_
      refine y_getR fX10_19 dX10_peace_20 (by first | assumption | rfl) (by first | assumption | rfl) ?_
      refine z_iload_n dX10_peace_23 rfl ?_
      refine y_callVr (ct_X8_countOf (by omega)) kX10_132 dX10_peace_24 rfl rfl (by first | assumption | rfl) rfl (by decide) rfl (Nat.le_of_ble_eq_true rfl) (fun r_24 h_24 => ?_)
      refine y_iconst dX10_peace_27 ?_
      refine y_isub dX10_peace_28 ?_
      refine y_icmp_ge dX10_peace_29 (by omega) (by omega) (fun c_29 => ?_) (fun c_29 => ?_)
      · refine y_ldc (n := -1000000003) dX10_peace_44 cX10_196 (by decide +kernel) ?_
        exact z_iret dX10_peace_46 rfl (Nat.le_refl 0) (Nat.le_refl 0) ⟨_, _, rfl, rfl, Or.inr (Or.inl ⟨by omega, by first | (intro hh; omega) | (intro hh; rw [ht] at hh; exact absurd hh.2 (by decide)), rfl, rfl⟩)⟩
      · refine z_aload_n dX10_peace_32 rfl ?_
        refine y_getR fX10_19 dX10_peace_33 (by first | assumption | rfl) (by first | assumption | rfl) ?_
        refine z_iload_n dX10_peace_36 rfl ?_
        refine z_iload_n dX10_peace_37 rfl ?_
        refine y_callVr (ct_X8_hasPeace (by omega) (by omega) (by omega)) kX10_208 dX10_peace_38 rfl rfl (by first | assumption | rfl) rfl (by decide) rfl (Nat.le_of_ble_eq_true rfl) (fun r_38 h_38 => ?_)
        refine y_if_eq dX10_peace_41 (by subst h_38; split <;> omega) (fun c_41 => ?_) (fun c_41 => ?_)
        · have ht : tb (V 6 r) i = false := by cases h9 : tb (V 6 r) i with | false => rfl | true => rw [h9] at h_38; simp at h_38; omega
          refine z_aload_n dX10_peace_47 rfl ?_
          refine y_getR fX10_26 dX10_peace_48 (by first | assumption | rfl) (by first | assumption | rfl) ?_
          refine z_aload_n dX10_peace_51 rfl ?_
          refine y_getR fX10_19 dX10_peace_52 (by first | assumption | rfl) (by first | assumption | rfl) ?_
          refine y_callVv (ct_X5_remember (by omega) (by omega)) kX10_197 dX10_peace_55 rfl rfl (by first | assumption | rfl) rfl (by decide) rfl (Nat.le_of_ble_eq_true rfl) (fun V h_55 => ?_)
          subst h_55
          refine z_aload_n dX10_peace_58 rfl ?_
          refine y_getR fX10_19 dX10_peace_59 (by first | assumption | rfl) (by first | assumption | rfl) ?_
          refine z_iload_n dX10_peace_62 rfl ?_
          refine z_iload_n dX10_peace_63 rfl ?_
          refine y_callVv (ct_X8_makePeace (by omega) (by omega) (by rw [e6]; omega)) kX10_211 dX10_peace_64 rfl rfl (by first | assumption | rfl) rfl (by decide) rfl (Nat.le_of_ble_eq_true rfl) (fun V h_64 => ?_)
          subst h_64
          refine z_aload_n dX10_peace_67 rfl ?_
          refine y_getR fX10_19 dX10_peace_68 (by first | assumption | rfl) (by first | assumption | rfl) ?_
          refine z_aload_n dX10_peace_71 rfl ?_
          refine y_getR fX10_83 dX10_peace_72 (by first | assumption | rfl) (by first | assumption | rfl) ?_
          refine z_iload_n dX10_peace_75 rfl ?_
          refine z_iload_n dX10_peace_76 rfl ?_
          refine y_callVr (ct_X8_kicksBehind hy hys' hc' hw' (by omega) (by omega)) kX10_215 dX10_peace_77 rfl rfl (by first | assumption | rfl) rfl (by decide) rfl (Nat.le_of_ble_eq_true rfl) (fun r_77 h_77 => ?_)
          rw [e8, ekd, ekd, ewa, ewa] at h_77
          refine y_if_eq dX10_peace_80 (by omega) (fun c_80 => ?_) (fun c_80 => ?_)
          · refine y_iconst dX10_peace_87 ?_
            exact z_iret dX10_peace_88 rfl (Nat.le_refl 0) (Nat.le_refl 0) ⟨_, _, rfl, rfl, Or.inr (Or.inr ⟨by omega, ⟨by omega, ht⟩, by omega, by rw [e6]⟩)⟩
          · refine y_iconst dX10_peace_83 ?_
            refine z_goto dX10_peace_84 ?_
            exact z_iret dX10_peace_88 rfl (Nat.le_refl 0) (Nat.le_refl 0) ⟨_, _, rfl, rfl, Or.inr (Or.inr ⟨by omega, ⟨by omega, ht⟩, by omega, by rw [e6]⟩)⟩
        · have ht : tb (V 6 r) i = true := by cases h9 : tb (V 6 r) i with | true => rfl | false => rw [h9] at h_38; simp at h_38; omega
          refine y_ldc (n := -1000000003) dX10_peace_44 cX10_196 (by decide +kernel) ?_
          exact z_iret dX10_peace_46 rfl (Nat.le_refl 0) (Nat.le_refl 0) ⟨_, _, rfl, rfl, Or.inr (Or.inl ⟨by omega, by first | (intro hh; omega) | (intro hh; rw [ht] at hh; exact absurd hh.2 (by decide)), rfl, rfl⟩)⟩
  · refine y_ldc (n := -1000000001) dX10_peace_11 cX10_153 (by decide +kernel) ?_
    exact z_iret dX10_peace_13 rfl (Nat.le_refl 0) (Nat.le_refl 0) ⟨_, _, rfl, rfl, Or.inl ⟨by omega, rfl, rfl⟩⟩
/-! draws -/
def sdN (s : Int) : Int := (s * 1103515245 + 12345) % 2147483648
def drN (s n : Int) : Int := s / 65536 % n
theorem ct_X10_draw {n : Int} (hn : 1 ≤ n ∧ n ≤ 4) (hs : 0 ≤ V 0 13 ∧ V 0 13 ≤ 2147483647) : yC 1 mX10_draw [.ref 0, .int (iI n)] V b (pI b (fun q V' => q = drN (sdN (V 0 13)) n ∧ V' = vst V 0 13 (sdN (V 0 13)))) := by
  have h2 : 0 ≤ sdN (V 0 13) ∧ sdN (V 0 13) < 2147483648 := by unfold sdN; omega
  refine zC_of (by decide +kernel) (Nat.le_of_ble_eq_true rfl) rfl ?_
  refine z_aload_n dX10_draw_0 rfl ?_
  refine z_aload_n dX10_draw_1 rfl ?_
  refine y_getI (j := 13) fX10_90 dX10_draw_2 rfl (by first | assumption | rfl) ?_
  refine y_i2l dX10_draw_5 (by omega) ?_
  refine y_ldc2 (n := 1103515245) dX10_draw_6 cX10_321 (by decide +kernel) ?_
  refine y_lmul dX10_draw_9 ?_
  refine y_ldc2 (n := 12345) dX10_draw_10 cX10_323 (by decide +kernel) ?_
  refine y_ladd dX10_draw_13 ?_
  refine y_ldc2 (n := 2147483647) dX10_draw_14 cX10_325 (by decide +kernel) ?_
  refine y_lmask dX10_draw_17 (by omega) ?_
  refine y_l2i dX10_draw_18 ?_
  rw [show (V 0 13 * 1103515245 + 12345) % 2147483648 = sdN (V 0 13) from rfl]
  refine y_putI (j := 13) fX10_90 dX10_draw_19 rfl (by first | assumption | rfl) ?_
  refine z_iload_n dX10_draw_22 rfl ?_
  refine y_iconst dX10_draw_23 ?_
  refine y_icmp_ge dX10_draw_24 (by omega) (by omega) (fun c_24 => ?_) (fun c_24 => ?_)
  · refine z_aload_n dX10_draw_31 rfl ?_
    refine y_getI (j := 13) fX10_90 dX10_draw_32 rfl (by first | assumption | rfl) ?_
    refine y_ldcw (n := 65536) dX10_draw_35 cX10_327 (by decide +kernel) ?_
    refine y_idiv dX10_draw_38 (by rw [vst_s]; omega) (by omega) ?_
    refine z_iload_n dX10_draw_39 rfl ?_
    refine y_irem dX10_draw_40 (by rw [vst_s]; omega) (by omega) ?_
    exact z_iret dX10_draw_41 rfl (Nat.le_refl 0) (Nat.le_refl 0) ⟨_, _, rfl, rfl, by rw [vst_s]; rfl, rfl⟩
  · omega
/-- one step by draws into road r -/
def dr1 (V : Nat → Int → Int) (y : Nat) (r : Int) : Nat → Int → Int := if V 5 4 = 0 then puX V r else if V 5 r < V (y + 1) r then vst (ldX y r 1 V) 3 3 (V 3 3 + 1) else V
theorem ct_X10_driftOnce {r : Int} (hys : YS V (yN b)) (hc : cN V) (hwn : wN V) (hf5 : rg (V 3 5)) (hk4 : -1000000 ≤ V 3 4 ∧ V 3 4 ≤ 1000000) (hk3 : -1000000 ≤ V 3 3 ∧ V 3 3 ≤ 1000000) (hr : 0 ≤ r ∧ r < V (yN b) 6) (h7 : ∀ r, 0 ≤ r → r ≤ 3 → V 5 4 + V 5 r ≤ 7) : yC 6 mX10_driftOnce [.ref 0, .int (iI r)] V b (pV b (fun V' => V' = dr1 V (yN b) r)) := by
  have hy := yN_Y b
  obtain ⟨sy, sy1, sy2, sy3, sy4, sy5, sy6, fy0, fy1, fy2, fy3, fy4, fy5⟩ := yfacts hy b
  have hf : Fs b 0 11 = some (yN b) := rfl
  obtain ⟨q1, q2, q3, q4, q5⟩ := id hys
  have c4 := hc 4
  have cr := hc r
  have qr := q5 r (by omega) (by omega)
  have h7r := h7 r (by omega) (by omega)
  have hrm : rmX V (yN b) r = V (yN b + 1) r := by unfold rmX; rw [if_pos (by omega)]
  refine zC_of (by decide +kernel) (Nat.le_of_ble_eq_true rfl) rfl ?_
  refine z_aload_n dX10_driftOnce_0 rfl ?_
  refine y_getR fX10_19 dX10_driftOnce_1 (by first | assumption | rfl) (by first | assumption | rfl) ?_
  refine y_iconst dX10_driftOnce_4 ?_
  refine y_callVr (ct_X8_countOf (by omega)) kX10_132 dX10_driftOnce_5 rfl rfl (by first | assumption | rfl) rfl (by decide) rfl (Nat.le_of_ble_eq_true rfl) (fun r_5 h_5 => ?_)
  refine y_if_ne dX10_driftOnce_8 (by omega) (fun c_8 => ?_) (fun c_8 => ?_)
  · refine z_aload_n dX10_driftOnce_23 rfl ?_
    refine y_getR fX10_19 dX10_driftOnce_24 (by first | assumption | rfl) (by first | assumption | rfl) ?_
    refine z_iload_n dX10_driftOnce_27 rfl ?_
    refine y_callVr (ct_X8_countOf (by omega)) kX10_132 dX10_driftOnce_28 rfl rfl (by first | assumption | rfl) rfl (by decide) rfl (Nat.le_of_ble_eq_true rfl) (fun r_28 h_28 => ?_)
    refine z_aload_n dX10_driftOnce_31 rfl ?_
    refine y_getR fX10_83 dX10_driftOnce_32 (by first | assumption | rfl) (by first | assumption | rfl) ?_
    refine z_iload_n dX10_driftOnce_35 rfl ?_
    refine y_callVr (ct_X9_roomOf hy (by omega) (by omega)) kX10_176 dX10_driftOnce_36 rfl rfl (by first | assumption | rfl) rfl (by decide) rfl (Nat.le_of_ble_eq_true rfl) (fun r_36 h_36 => ?_)
    refine y_icmp_ge dX10_driftOnce_39 (by omega) (by omega) (fun c_39 => ?_) (fun c_39 => ?_)
    · exact z_vret dX10_driftOnce_56 rfl (Nat.le_refl 0) (Nat.le_refl 0) ⟨_, rfl, rfl, by unfold dr1; rw [if_neg (by omega), if_neg (by omega)]⟩
    · refine z_aload_n dX10_driftOnce_42 rfl ?_
      refine y_getR fX10_19 dX10_driftOnce_43 (by first | assumption | rfl) (by first | assumption | rfl) ?_
      refine z_aload_n dX10_driftOnce_46 rfl ?_
      refine y_getR fX10_83 dX10_driftOnce_47 (by first | assumption | rfl) (by first | assumption | rfl) ?_
      refine y_iconst dX10_driftOnce_50 ?_
      refine z_iload_n dX10_driftOnce_51 rfl ?_
      refine y_callVi (ct_X8_letDown (by assumption) (by assumption) (by assumption) (by assumption) (by omega) (by omega) (by omega) (by omega) (by omega) (by omega) (by omega)) kX10_201 dX10_driftOnce_52 rfl rfl (by first | assumption | rfl) rfl (by decide) rfl (Nat.le_of_ble_eq_true rfl) (fun r_52 V1 h_52 => ?_)
      obtain ⟨g1, g2⟩ := h_52
      subst g2
      refine z_pop dX10_driftOnce_55 rfl ?_
      exact z_vret dX10_driftOnce_56 rfl (Nat.le_refl 0) (Nat.le_refl 0) ⟨_, rfl, rfl, by unfold dr1; rw [if_neg (by omega), if_pos (by omega)]; rfl⟩
  · refine z_aload_n dX10_driftOnce_11 rfl ?_
    refine y_getR fX10_19 dX10_driftOnce_12 (by first | assumption | rfl) (by first | assumption | rfl) ?_
    refine z_iload_n dX10_driftOnce_15 rfl ?_
    refine y_callVi (ct_X8_pullUp (by assumption) (by omega) (by omega)) kX10_205 dX10_driftOnce_16 rfl rfl (by first | assumption | rfl) rfl (by decide) rfl (Nat.le_of_ble_eq_true rfl) (fun r_16 V1 h_16 => ?_)
    obtain ⟨g1, g2⟩ := h_16
    subst g2
    refine z_pop dX10_driftOnce_19 rfl ?_
    refine z_goto dX10_driftOnce_20 ?_
    exact z_vret dX10_driftOnce_56 rfl (Nat.le_refl 0) (Nat.le_refl 0) ⟨_, rfl, rfl, by unfold dr1; rw [if_pos (by omega)]⟩
theorem ct_X10_undo (hn : 0 ≤ V 7 2 ∧ V 7 2 < 20) (hpc : 0 ≤ V 7 1 ∧ V 7 1 ≤ 20) : yC 4 mX10_undo [.ref 0] V b (pI b (fun q V' => (V 7 1 = 0 ∧ q = -1000000003 ∧ V' = V) ∨ (V 7 1 ≠ 0 ∧ q = V 7 1 - 1 ∧ V' = giv1 V))) := by
  refine zC_of (by decide +kernel) (Nat.le_of_ble_eq_true rfl) rfl ?_
  refine z_aload_n dX10_undo_0 rfl ?_
  refine y_getR fX10_26 dX10_undo_1 (by first | assumption | rfl) (by first | assumption | rfl) ?_
  refine z_aload_n dX10_undo_4 rfl ?_
  refine y_getR fX10_19 dX10_undo_5 (by first | assumption | rfl) (by first | assumption | rfl) ?_
  refine y_callVi (ct_X5_giveBack (by omega) (by omega)) kX10_226 dX10_undo_8 rfl rfl (by first | assumption | rfl) rfl (by decide) rfl (Nat.le_of_ble_eq_true rfl) (fun r_8 V1 h_8 => ?_)
  refine y_if_eq dX10_undo_11 (by omega) (fun c_11 => ?_) (fun c_11 => ?_)
  · obtain ⟨g1, g2, g3⟩ := h_8.resolve_right (fun hh => by omega)
    subst g3
    refine y_ldc (n := -1000000003) dX10_undo_24 cX10_196 (by decide +kernel) ?_
    exact z_iret dX10_undo_26 rfl (Nat.le_refl 0) (Nat.le_refl 0) ⟨_, _, rfl, rfl, Or.inl ⟨g1, rfl, rfl⟩⟩
  · obtain ⟨g1, g2, g3⟩ := h_8.resolve_left (fun hh => by omega)
    subst g3
    refine z_aload_n dX10_undo_14 rfl ?_
    refine y_getR fX10_26 dX10_undo_15 (by first | assumption | rfl) (by first | assumption | rfl) ?_
    refine y_getI (j := 1) fX10_149 dX10_undo_18 rfl (by first | assumption | rfl) ?_
    refine z_goto dX10_undo_21 ?_
    exact z_iret dX10_undo_26 rfl (Nat.le_refl 0) (Nat.le_refl 0) ⟨_, _, rfl, rfl, Or.inr ⟨g1, by unfold giv1; rw [vst_s], rfl⟩⟩
theorem ct_X10_couple {a c k : Int} (ha : rg a) (hc : rg c) (hk : rg k) (hn : 0 ≤ V 99 0 ∧ V 99 0 ≤ 8) (ht : 0 ≤ V 99 1) (hs : 0 ≤ V 99 2) : yC 3 mX10_couple [.ref 0, .int (iI a), .int (iI c), .int (iI k)] V b (pI b (fun q V' => (¬ (0 ≤ a ∧ a ≤ 4 ∧ 0 ≤ c ∧ c ≤ 4) ∧ q = -1000000001 ∧ V' = V) ∨ ((0 ≤ a ∧ a ≤ 4 ∧ 0 ≤ c ∧ c ≤ 4) ∧ V 99 0 = 8 ∧ q = -1000000004 ∧ V' = V) ∨ ((0 ≤ a ∧ a ≤ 4 ∧ 0 ≤ c ∧ c ≤ 4) ∧ V 99 0 < 8 ∧ q = V 99 0 + 1 ∧ V' = cpl V a c k))) := by
  refine zC_of (by decide +kernel) (Nat.le_of_ble_eq_true rfl) rfl ?_
  refine z_iload_n dX10_couple_0 rfl ?_
  refine y_callSr (ct_X10_isKind (by omega)) kX10_189 dX10_couple_1 rfl rfl (by decide) rfl (Nat.le_of_ble_eq_true rfl) (fun r_1 h_1 => ?_)
  refine y_if_eq dX10_couple_4 (by omega) (fun c_4 => ?_) (fun c_4 => ?_)
  · refine y_ldc (n := -1000000001) dX10_couple_14 cX10_153 (by decide +kernel) ?_
    exact z_iret dX10_couple_16 rfl (Nat.le_refl 0) (Nat.le_refl 0) ⟨_, _, rfl, rfl, Or.inl ⟨by omega, rfl, rfl⟩⟩
  · refine z_iload_n dX10_couple_7 rfl ?_
    refine y_callSr (ct_X10_isKind (by omega)) kX10_189 dX10_couple_8 rfl rfl (by decide) rfl (Nat.le_of_ble_eq_true rfl) (fun r_8 h_8 => ?_)
    refine y_if_ne dX10_couple_11 (by omega) (fun c_11 => ?_) (fun c_11 => ?_)
    · refine z_aload_n dX10_couple_17 rfl ?_
      refine y_getR fX10_43 dX10_couple_18 (by first | assumption | rfl) (by first | assumption | rfl) ?_
      refine z_iload_n dX10_couple_21 rfl ?_
      refine z_iload_n dX10_couple_22 rfl ?_
      refine z_iload_n dX10_couple_23 rfl ?_
      refine y_callVi (ct_X1_add (by omega) (by omega) (by omega) (by omega) (by omega) (by omega)) kX10_288 dX10_couple_24 rfl rfl (by first | assumption | rfl) rfl (by decide) rfl (Nat.le_of_ble_eq_true rfl) (fun r_24 V1 h_24 => ?_)
      refine y_if_eq dX10_couple_27 (by omega) (fun c_27 => ?_) (fun c_27 => ?_)
      · obtain ⟨g1, g2, g3⟩ := h_24.resolve_right (fun hh => by omega)
        subst g3
        refine y_ldc (n := -1000000004) dX10_couple_40 cX10_102 (by decide +kernel) ?_
        exact z_iret dX10_couple_42 rfl (Nat.le_refl 0) (Nat.le_refl 0) ⟨_, _, rfl, rfl, Or.inr (Or.inl ⟨by omega, g1, rfl, rfl⟩)⟩
      · obtain ⟨g1, g2, g3⟩ := h_24.resolve_left (fun hh => by omega)
        subst g3
        refine z_aload_n dX10_couple_30 rfl ?_
        refine y_getR fX10_43 dX10_couple_31 (by first | assumption | rfl) (by first | assumption | rfl) ?_
        refine y_getI (j := 0) fX10_145 dX10_couple_34 rfl (by first | assumption | rfl) ?_
        refine z_goto dX10_couple_37 ?_
        exact z_iret dX10_couple_42 rfl (Nat.le_refl 0) (Nat.le_refl 0) ⟨_, _, rfl, rfl, Or.inr (Or.inr ⟨by omega, g1, by unfold cpl; rw [vst_s], rfl⟩)⟩
    · refine y_ldc (n := -1000000001) dX10_couple_14 cX10_153 (by decide +kernel) ?_
      exact z_iret dX10_couple_16 rfl (Nat.le_refl 0) (Nat.le_refl 0) ⟨_, _, rfl, rfl, Or.inl ⟨by omega, rfl, rfl⟩⟩
theorem ct_X10_addNote {p n : Nat} {r i w : Int} (hp : isN p n) (hi : rg i) (hc : 0 ≤ V p 3 ∧ V p 3 ≤ n) : yC 2 mX10_addNote [.ref p, .int (iI r), .int (iI i), .int (iI w)] V b (pI b (fun q V' => (¬ (0 ≤ i ∧ i ≤ 6) ∧ q = -1000000002 ∧ V' = V) ∨ ((0 ≤ i ∧ i ≤ 6) ∧ V p 3 = n ∧ q = -1000000004 ∧ V' = V) ∨ ((0 ≤ i ∧ i ≤ 6) ∧ V p 3 < n ∧ q = V p 3 + 1 ∧ V' = adN V p r i w))) := by
  obtain ⟨sp, sp1, sp2, sp3, fp0, fp1, fp2, hn⟩ := nfacts hp b
  have hn15 : n ≤ 15 := by omega
  refine zC_of (by decide +kernel) (Nat.le_of_ble_eq_true rfl) rfl ?_
  refine z_iload_n dX10_addNote_0 rfl ?_
  refine y_if_lt dX10_addNote_1 (by omega) (fun c_1 => ?_) (fun c_1 => ?_)
  · refine y_ldc (n := -1000000002) dX10_addNote_10 cX10_94 (by decide +kernel) ?_
    exact z_iret dX10_addNote_12 rfl (Nat.le_refl 0) (Nat.le_refl 0) ⟨_, _, rfl, rfl, Or.inl ⟨by omega, rfl, rfl⟩⟩
  · refine z_iload_n dX10_addNote_4 rfl ?_
    refine y_bipush dX10_addNote_5 (by decide +kernel) ?_
    refine y_icmp_lt dX10_addNote_7 (by omega) (by omega) (fun c_7 => ?_) (fun c_7 => ?_)
    · refine z_aload_n dX10_addNote_13 rfl ?_
      refine z_iload_n dX10_addNote_14 rfl ?_
      refine z_iload_n dX10_addNote_15 rfl ?_
      refine z_iload_n dX10_addNote_16 rfl ?_
      refine y_callVi (ct_X4_add (by assumption) (by omega)) kX10_312 dX10_addNote_17 rfl rfl (by first | assumption | rfl) rfl (by decide) rfl (Nat.le_of_ble_eq_true rfl) (fun r_17 V1 h_17 => ?_)
      refine y_if_eq dX10_addNote_20 (by omega) (fun c_20 => ?_) (fun c_20 => ?_)
      · obtain ⟨g1, g2, g3⟩ := h_17.resolve_right (fun hh => by omega)
        subst g3
        refine y_ldc (n := -1000000004) dX10_addNote_30 cX10_102 (by decide +kernel) ?_
        exact z_iret dX10_addNote_32 rfl (Nat.le_refl 0) (Nat.le_refl 0) ⟨_, _, rfl, rfl, Or.inr (Or.inl ⟨by omega, g1, rfl, rfl⟩)⟩
      · obtain ⟨g1, g2, g3⟩ := h_17.resolve_left (fun hh => by omega)
        subst g3
        refine z_aload_n dX10_addNote_23 rfl ?_
        refine y_getI (j := 3) fX10_148 dX10_addNote_24 rfl (by first | assumption | rfl) ?_
        refine z_goto dX10_addNote_27 ?_
        exact z_iret dX10_addNote_32 rfl (Nat.le_refl 0) (Nat.le_refl 0) ⟨_, _, rfl, rfl, Or.inr (Or.inr ⟨by omega, g1, by unfold adN; rw [vst_s], rfl⟩)⟩
    · refine y_ldc (n := -1000000002) dX10_addNote_10 cX10_94 (by decide +kernel) ?_
      exact z_iret dX10_addNote_12 rfl (Nat.le_refl 0) (Nat.le_refl 0) ⟨_, _, rfl, rfl, Or.inl ⟨by omega, rfl, rfl⟩⟩
theorem ct_X10_chalk {r i k : Int} (hr : rg r) (hi : rg i) (hk : rg k) (hys : YS V (yN b)) (hc : 0 ≤ V 100 3 ∧ V 100 3 ≤ 6) : yC 3 mX10_chalk [.ref 0, .int (iI r), .int (iI i), .int (iI k)] V b (pI b (fun q V' => (¬ ((0 ≤ r ∧ r < V (yN b) 6) ∧ ((0 ≤ k ∧ k ≤ 4) ∨ k = 9)) ∧ q = -1000000001 ∧ V' = V) ∨ (((0 ≤ r ∧ r < V (yN b) 6) ∧ ((0 ≤ k ∧ k ≤ 4) ∨ k = 9)) ∧ ((¬ (0 ≤ i ∧ i ≤ 6) ∧ q = -1000000002 ∧ V' = V) ∨ ((0 ≤ i ∧ i ≤ 6) ∧ V 100 3 = 6 ∧ q = -1000000004 ∧ V' = V) ∨ ((0 ≤ i ∧ i ≤ 6) ∧ V 100 3 < 6 ∧ q = V 100 3 + 1 ∧ V' = adN V 100 r i k))))) := by
  have hy := yN_Y b
  obtain ⟨sy, sy1, sy2, sy3, sy4, sy5, sy6, fy0, fy1, fy2, fy3, fy4, fy5⟩ := yfacts hy b
  have hf : Fs b 0 11 = some (yN b) := rfl
  obtain ⟨q1, q2, q3, q4, q5⟩ := id hys
  have hN : isN 100 6 := Or.inl ⟨rfl, rfl⟩
  refine zC_of (by decide +kernel) (Nat.le_of_ble_eq_true rfl) rfl ?_
  refine z_aload_n dX10_chalk_0 rfl ?_
  refine y_getR fX10_83 dX10_chalk_1 (by first | assumption | rfl) (by first | assumption | rfl) ?_
  refine z_iload_n dX10_chalk_4 rfl ?_
  refine y_callVr (ct_X9_hasRoad hy (by omega) (by omega)) kX10_173 dX10_chalk_5 rfl rfl (by first | assumption | rfl) rfl (by decide) rfl (Nat.le_of_ble_eq_true rfl) (fun r_5 h_5 => ?_)
  refine y_if_eq dX10_chalk_8 (by omega) (fun c_8 => ?_) (fun c_8 => ?_)
  · refine y_ldc (n := -1000000001) dX10_chalk_24 cX10_153 (by decide +kernel) ?_
    exact z_iret dX10_chalk_26 rfl (Nat.le_refl 0) (Nat.le_refl 0) ⟨_, _, rfl, rfl, Or.inl ⟨by omega, rfl, rfl⟩⟩
  · refine z_iload_n dX10_chalk_11 rfl ?_
    refine y_callSr (ct_X10_isKind (by omega)) kX10_189 dX10_chalk_12 rfl rfl (by decide) rfl (Nat.le_of_ble_eq_true rfl) (fun r_12 h_12 => ?_)
    refine y_if_ne dX10_chalk_15 (by omega) (fun c_15 => ?_) (fun c_15 => ?_)
    · refine z_aload_n dX10_chalk_27 rfl ?_
      refine y_getR fX10_52 dX10_chalk_28 (by first | assumption | rfl) (by first | assumption | rfl) ?_
      refine z_iload_n dX10_chalk_31 rfl ?_
      refine z_iload_n dX10_chalk_32 rfl ?_
      refine z_iload_n dX10_chalk_33 rfl ?_
      refine y_callSi (ct_X10_addNote (by assumption) (by omega) (by omega)) kX10_302 dX10_chalk_34 rfl rfl (by decide) rfl (Nat.le_of_ble_eq_true rfl) (fun r_34 V h_34 => ?_)
      exact z_iret dX10_chalk_37 rfl (Nat.le_refl 0) (Nat.le_refl 0) ⟨_, _, rfl, rfl, Or.inr ⟨by omega, h_34⟩⟩
    · refine z_iload_n dX10_chalk_18 rfl ?_
      refine y_bipush dX10_chalk_19 (by decide +kernel) ?_
      refine y_icmp_eq dX10_chalk_21 (by omega) (by omega) (fun c_21 => ?_) (fun c_21 => ?_)
      · refine z_aload_n dX10_chalk_27 rfl ?_
        refine y_getR fX10_52 dX10_chalk_28 (by first | assumption | rfl) (by first | assumption | rfl) ?_
        refine z_iload_n dX10_chalk_31 rfl ?_
        refine z_iload_n dX10_chalk_32 rfl ?_
        refine z_iload_n dX10_chalk_33 rfl ?_
        refine y_callSi (ct_X10_addNote (by assumption) (by omega) (by omega)) kX10_302 dX10_chalk_34 rfl rfl (by decide) rfl (Nat.le_of_ble_eq_true rfl) (fun r_34 V h_34 => ?_)
        exact z_iret dX10_chalk_37 rfl (Nat.le_refl 0) (Nat.le_refl 0) ⟨_, _, rfl, rfl, Or.inr ⟨by omega, h_34⟩⟩
      · refine y_ldc (n := -1000000001) dX10_chalk_24 cX10_153 (by decide +kernel) ?_
        exact z_iret dX10_chalk_26 rfl (Nat.le_refl 0) (Nat.le_refl 0) ⟨_, _, rfl, rfl, Or.inl ⟨by omega, rfl, rfl⟩⟩
theorem ct_X10_write {r i w : Int} (hr : rg r) (hi : rg i) (hw : rg w) (hys : YS V (yN b)) (hc : 0 ≤ V 104 3 ∧ V 104 3 ≤ 15) : yC 3 mX10_write [.ref 0, .int (iI r), .int (iI i), .int (iI w)] V b (pI b (fun q V' => (¬ ((0 ≤ r ∧ r < V (yN b) 6) ∧ (w = -1 ∨ (0 ≤ w ∧ w < V (yN b) 7))) ∧ q = -1000000001 ∧ V' = V) ∨ (((0 ≤ r ∧ r < V (yN b) 6) ∧ (w = -1 ∨ (0 ≤ w ∧ w < V (yN b) 7))) ∧ ((¬ (0 ≤ i ∧ i ≤ 6) ∧ q = -1000000002 ∧ V' = V) ∨ ((0 ≤ i ∧ i ≤ 6) ∧ V 104 3 = 15 ∧ q = -1000000004 ∧ V' = V) ∨ ((0 ≤ i ∧ i ≤ 6) ∧ V 104 3 < 15 ∧ q = V 104 3 + 1 ∧ V' = adN V 104 r i w))))) := by
  have hy := yN_Y b
  obtain ⟨sy, sy1, sy2, sy3, sy4, sy5, sy6, fy0, fy1, fy2, fy3, fy4, fy5⟩ := yfacts hy b
  have hf : Fs b 0 11 = some (yN b) := rfl
  obtain ⟨q1, q2, q3, q4, q5⟩ := id hys
  have hN : isN 104 15 := Or.inr ⟨rfl, rfl⟩
  refine zC_of (by decide +kernel) (Nat.le_of_ble_eq_true rfl) rfl ?_
  refine z_aload_n dX10_write_0 rfl ?_
  refine y_getR fX10_83 dX10_write_1 (by first | assumption | rfl) (by first | assumption | rfl) ?_
  refine z_iload_n dX10_write_4 rfl ?_
  refine y_callVr (ct_X9_hasRoad hy (by omega) (by omega)) kX10_173 dX10_write_5 rfl rfl (by first | assumption | rfl) rfl (by decide) rfl (Nat.le_of_ble_eq_true rfl) (fun r_5 h_5 => ?_)
  refine y_if_eq dX10_write_8 (by omega) (fun c_8 => ?_) (fun c_8 => ?_)
  · refine y_ldc (n := -1000000001) dX10_write_27 cX10_153 (by decide +kernel) ?_
    exact z_iret dX10_write_29 rfl (Nat.le_refl 0) (Nat.le_refl 0) ⟨_, _, rfl, rfl, Or.inl ⟨by omega, rfl, rfl⟩⟩
  · refine z_iload_n dX10_write_11 rfl ?_
    refine y_iconst dX10_write_12 ?_
    refine y_icmp_eq dX10_write_13 (by omega) (by omega) (fun c_13 => ?_) (fun c_13 => ?_)
    · refine z_aload_n dX10_write_30 rfl ?_
      refine y_getR fX10_56 dX10_write_31 (by first | assumption | rfl) (by first | assumption | rfl) ?_
      refine z_iload_n dX10_write_34 rfl ?_
      refine z_iload_n dX10_write_35 rfl ?_
      refine z_iload_n dX10_write_36 rfl ?_
      refine y_callSi (ct_X10_addNote (by assumption) (by omega) (by omega)) kX10_302 dX10_write_37 rfl rfl (by decide) rfl (Nat.le_of_ble_eq_true rfl) (fun r_37 V h_37 => ?_)
      exact z_iret dX10_write_40 rfl (Nat.le_refl 0) (Nat.le_refl 0) ⟨_, _, rfl, rfl, Or.inr ⟨by omega, h_37⟩⟩
    · refine z_aload_n dX10_write_16 rfl ?_
      refine y_getR fX10_83 dX10_write_17 (by first | assumption | rfl) (by first | assumption | rfl) ?_
      refine z_iload_n dX10_write_20 rfl ?_
      refine y_callVr (ct_X9_hasWagon hy (by omega) (by omega)) kX10_150 dX10_write_21 rfl rfl (by first | assumption | rfl) rfl (by decide) rfl (Nat.le_of_ble_eq_true rfl) (fun r_21 h_21 => ?_)
      refine y_if_ne dX10_write_24 (by omega) (fun c_24 => ?_) (fun c_24 => ?_)
      · refine z_aload_n dX10_write_30 rfl ?_
        refine y_getR fX10_56 dX10_write_31 (by first | assumption | rfl) (by first | assumption | rfl) ?_
        refine z_iload_n dX10_write_34 rfl ?_
        refine z_iload_n dX10_write_35 rfl ?_
        refine z_iload_n dX10_write_36 rfl ?_
        refine y_callSi (ct_X10_addNote (by assumption) (by omega) (by omega)) kX10_302 dX10_write_37 rfl rfl (by decide) rfl (Nat.le_of_ble_eq_true rfl) (fun r_37 V h_37 => ?_)
        exact z_iret dX10_write_40 rfl (Nat.le_refl 0) (Nat.le_refl 0) ⟨_, _, rfl, rfl, Or.inr ⟨by omega, h_37⟩⟩
      · refine y_ldc (n := -1000000001) dX10_write_27 cX10_153 (by decide +kernel) ?_
        exact z_iret dX10_write_29 rfl (Nat.le_refl 0) (Nat.le_refl 0) ⟨_, _, rfl, rfl, Or.inl ⟨by omega, rfl, rfl⟩⟩
def tearX (V : Nat → Int → Int) : Nat → Int → Int := vst (vst (vst (vst (vst V 99 0 0) 99 1 0) 99 2 0) 100 3 0) 104 3 0
theorem ct_X10_tearAll : yC 2 mX10_tearAll [.ref 0] V b (pV b (fun V' => V' = tearX V)) := by
  refine zC_of (by decide +kernel) (Nat.le_of_ble_eq_true rfl) rfl ?_
  refine z_aload_n dX10_tearAll_0 rfl ?_
  refine y_getR fX10_43 dX10_tearAll_1 (by first | assumption | rfl) (by first | assumption | rfl) ?_
  refine y_callVv (ct_X1_forget) kX10_315 dX10_tearAll_4 rfl rfl (by first | assumption | rfl) rfl (by decide) rfl (Nat.le_of_ble_eq_true rfl) (fun V h_4 => ?_)
  subst h_4
  refine z_aload_n dX10_tearAll_7 rfl ?_
  refine y_getR fX10_52 dX10_tearAll_8 (by first | assumption | rfl) (by first | assumption | rfl) ?_
  refine y_iconst dX10_tearAll_11 ?_
  refine y_putI (j := 3) fX10_148 dX10_tearAll_12 rfl (by first | assumption | rfl) ?_
  refine z_aload_n dX10_tearAll_15 rfl ?_
  refine y_getR fX10_56 dX10_tearAll_16 (by first | assumption | rfl) (by first | assumption | rfl) ?_
  refine y_iconst dX10_tearAll_19 ?_
  refine y_putI (j := 3) fX10_148 dX10_tearAll_20 rfl (by first | assumption | rfl) ?_
  exact z_vret dX10_tearAll_23 rfl (Nat.le_refl 0) (Nat.le_refl 0) ⟨_, rfl, rfl, rfl⟩
theorem ct_X10_tear : yC 3 mX10_tear [.ref 0] V b (pI b (fun q V' => q = V 99 0 + V 100 3 + V 104 3 ∧ V' = tearX V)) := by
  refine zC_of (by decide +kernel) (Nat.le_of_ble_eq_true rfl) rfl ?_
  refine z_aload_n dX10_tear_0 rfl ?_
  refine y_getR fX10_43 dX10_tear_1 (by first | assumption | rfl) (by first | assumption | rfl) ?_
  refine y_getI (j := 0) fX10_145 dX10_tear_4 rfl (by first | assumption | rfl) ?_
  refine z_aload_n dX10_tear_7 rfl ?_
  refine y_getR fX10_52 dX10_tear_8 (by first | assumption | rfl) (by first | assumption | rfl) ?_
  refine y_getI (j := 3) fX10_148 dX10_tear_11 rfl (by first | assumption | rfl) ?_
  refine y_iadd dX10_tear_14 ?_
  refine z_aload_n dX10_tear_15 rfl ?_
  refine y_getR fX10_56 dX10_tear_16 (by first | assumption | rfl) (by first | assumption | rfl) ?_
  refine y_getI (j := 3) fX10_148 dX10_tear_19 rfl (by first | assumption | rfl) ?_
  refine y_iadd dX10_tear_22 ?_
  refine z_istore_n dX10_tear_23 (by decide) rfl rfl ?_
  refine z_aload_n dX10_tear_24 rfl ?_
  refine y_callVv (ct_X10_tearAll) kX10_120 dX10_tear_25 rfl rfl (by first | assumption | rfl) rfl (by decide) rfl (Nat.le_of_ble_eq_true rfl) (fun V1 h_25 => ?_)
  subst h_25
  refine z_iload_n dX10_tear_28 rfl ?_
  exact z_iret dX10_tear_29 rfl (Nat.le_refl 0) (Nat.le_refl 0) ⟨_, _, rfl, rfl, rfl, rfl⟩
theorem ct_X10_seed {v : Int} (hv : rg v) : yC 1 mX10_seed [.ref 0, .int (iI v)] V b (pI b (fun q V' => (v < 0 ∧ q = -1000000002 ∧ V' = V) ∨ (0 ≤ v ∧ q = V 0 13 ∧ V' = vst V 0 13 v))) := by
  refine zC_of (by decide +kernel) (Nat.le_of_ble_eq_true rfl) rfl ?_
  refine z_iload_n dX10_seed_0 rfl ?_
  refine y_if_ge dX10_seed_1 (by omega) (fun c_1 => ?_) (fun c_1 => ?_)
  · refine z_aload_n dX10_seed_7 rfl ?_
    refine y_getI (j := 13) fX10_90 dX10_seed_8 rfl (by first | assumption | rfl) ?_
    refine z_istore_n dX10_seed_11 (by decide) rfl rfl ?_
    refine z_aload_n dX10_seed_12 rfl ?_
    refine z_iload_n dX10_seed_13 rfl ?_
    refine y_putI (j := 13) fX10_90 dX10_seed_14 rfl (by first | assumption | rfl) ?_
    refine z_iload_n dX10_seed_17 rfl ?_
    exact z_iret dX10_seed_18 rfl (Nat.le_refl 0) (Nat.le_refl 0) ⟨_, _, rfl, rfl, Or.inr ⟨by omega, rfl, rfl⟩⟩
  · refine y_ldc (n := -1000000002) dX10_seed_4 cX10_94 (by decide +kernel) ?_
    exact z_iret dX10_seed_6 rfl (Nat.le_refl 0) (Nat.le_refl 0) ⟨_, _, rfl, rfl, Or.inl ⟨by omega, rfl, rfl⟩⟩
def imP (i : Int) : Nat := if i = 0 then 89 else 94
theorem ct_X10_imageOf {i : Int} (hi : rg i) : zC 1 0 0 mX10_imageOf [.ref 0, .int (iI i)] (mk S0 V (Fs b)) (fun v M' => v = some (.ref (imP i)) ∧ M' = mk S0 V (Fs b)) := by
  refine zC_of (by decide +kernel) (Nat.le_of_ble_eq_true rfl) rfl ?_
  refine z_iload_n dX10_imageOf_0 rfl ?_
  refine y_if_ne dX10_imageOf_1 (by omega) (fun c_1 => ?_) (fun c_1 => ?_)
  · refine z_aload_n dX10_imageOf_11 rfl ?_
    refine y_getR fX10_37 dX10_imageOf_12 (by first | assumption | rfl) (by first | assumption | rfl) ?_
    exact z_aret dX10_imageOf_15 rfl (Nat.le_refl 0) (Nat.le_refl 0) ⟨by unfold imP; first | rw [if_pos c_1] | rw [if_neg c_1], rfl⟩
  · refine z_aload_n dX10_imageOf_4 rfl ?_
    refine y_getR fX10_33 dX10_imageOf_5 (by first | assumption | rfl) (by first | assumption | rfl) ?_
    refine z_goto dX10_imageOf_8 ?_
    exact z_aret dX10_imageOf_15 rfl (Nat.le_refl 0) (Nat.le_refl 0) ⟨by unfold imP; first | rw [if_pos c_1] | rw [if_neg c_1], rfl⟩
end

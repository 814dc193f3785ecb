/-! ===== GrudgeYardModel: pulls, and the methods over cuts and pulls ===== -/
section
variable {V : Nat → Int → Int} {b : Bool}
/-- 'now' after road r is pulled -/
def pulN (N : Int → Int) (r : Int) : Int → Int := fun j => if j = 0 then N 0 + N (8 + r) else if 1 ≤ j ∧ j < 1 + N (8 + r) then N (12 + 7 * r + N (8 + r) - 1 - (j - 1)) else if 1 + N (8 + r) ≤ j ∧ j < 1 + N (8 + r) + N 0 then N (j - N (8 + r)) else if j = 8 + r then 0 else if j = 40 + r then 0 else N j
/-- the hump moved up from its i-th on -/
def P1 (N : Int → Int) (r i : Int) : Int → Int := fun j => if 1 + i + N (8 + r) ≤ j ∧ j < 1 + N 0 + N (8 + r) then N (j - N (8 + r)) else N j
/-- and the first i of the road at its head -/
def P2 (N : Int → Int) (r i : Int) : Int → Int := fun j => if 1 ≤ j ∧ j < 1 + i then N (12 + 7 * r + N (8 + r) - 1 - (j - 1)) else if 1 + N (8 + r) ≤ j ∧ j < 1 + N 0 + N (8 + r) then N (j - N (8 + r)) else N j
theorem ct_X11_pulls {r : Int} (hr : 0 ≤ r ∧ r ≤ 3) (hN : NS V) (h7 : V 137 0 + V 137 (8 + r) ≤ 7) : yC 1 mX11_pulls [.ref 134, .int (iI r)] V b (pI b (fun q V' => q = V 137 (8 + r) ∧ V' = zup V 137 (pulN (V 137) r))) := by
  obtain ⟨n0, n1, -, -, -⟩ := id hN
  have nr := n1 r (by omega) (by omega)
  clear n1 hN
  have loop2 : ∀ (t : Nat) (i : Int), 0 ≤ i → i + t = V 137 (8 + r) → yE 1 (pI b (fun q V' => q = V 137 (8 + r) ∧ V' = zup V 137 (pulN (V 137) r))) mX11_pulls 49 [some (.ref 134), some (.int (iI r)), some (.int (iI (V 137 (8 + r)))), some (.int (iI i))] [] (zup V 137 (P2 (V 137) r i)) b := by
    intro t
    induction t with
    | zero =>
      intro i h1 h2
      have hi : i = V 137 (8 + r) := by omega
      subst hi
      have e0 : P2 (V 137) r (V 137 (8 + r)) 0 = V 137 0 := by simp only [P2]; repeat' split <;> first | rfl | omega
      have ef : iup (iup (iup (P2 (V 137) r (V 137 (8 + r))) 0 (V 137 0 + V 137 (8 + r))) (8 + r) 0) (40 + r) 0 = pulN (V 137) r := by
        funext j
        simp only [iup, P2, pulN]
        repeat' split
        all_goals first | rfl | omega
      refine z_iload_n dX11_pulls_49 rfl ?_
      refine z_iload_n dX11_pulls_50 rfl ?_
      refine y_icmp_ge dX11_pulls_51 (by omega) (by omega) (fun c_51 => ?_) (fun c_51 => ?_)
      · refine z_aload_n dX11_pulls_86 rfl ?_
        refine y_getR fX11_16 dX11_pulls_87 (by first | assumption | rfl) (by first | assumption | rfl) ?_
        refine y_iconst dX11_pulls_90 ?_
        refine z_dup2 dX11_pulls_91 rfl rfl ?_
        refine y_iald dX11_pulls_92 (by first | assumption | rfl) (by first | rfl | assumption) (by omega) ?_
        rw [zup_s, e0]
        refine z_iload_n dX11_pulls_93 rfl ?_
        refine y_iadd dX11_pulls_94 ?_
        refine y_iast dX11_pulls_95 (by first | assumption | rfl) (by first | rfl | assumption) (by omega) ?_
        refine z_aload_n dX11_pulls_96 rfl ?_
        refine y_getR fX11_16 dX11_pulls_97 (by first | assumption | rfl) (by first | assumption | rfl) ?_
        refine y_bipush dX11_pulls_100 (by decide +kernel) ?_
        refine z_iload_n dX11_pulls_102 rfl ?_
        refine y_iadd dX11_pulls_103 ?_
        refine y_iconst dX11_pulls_104 ?_
        refine y_iast dX11_pulls_105 (by first | assumption | rfl) (by first | rfl | assumption) (by omega) ?_
        refine z_aload_n dX11_pulls_106 rfl ?_
        refine y_getR fX11_16 dX11_pulls_107 (by first | assumption | rfl) (by first | assumption | rfl) ?_
        refine y_bipush dX11_pulls_110 (by decide +kernel) ?_
        refine z_iload_n dX11_pulls_112 rfl ?_
        refine y_iadd dX11_pulls_113 ?_
        refine y_iconst dX11_pulls_114 ?_
        refine y_iast dX11_pulls_115 (by first | assumption | rfl) (by first | rfl | assumption) (by omega) ?_
        refine z_iload_n dX11_pulls_116 rfl ?_
        exact z_iret dX11_pulls_117 rfl (Nat.le_refl 0) (Nat.le_refl 0) ⟨_, _, rfl, rfl, rfl, by rw [vst_zup_s, vst_zup_s, vst_zup_s, ef]⟩
      · omega
    | succ t ih =>
      intro i h1 h2
      have er : P2 (V 137) r i (12 + 7 * r + V 137 (8 + r) - 1 - i) = V 137 (12 + 7 * r + V 137 (8 + r) - 1 - i) := by simp only [P2]; repeat' split <;> first | rfl | omega
      have es : P2 (V 137) r (i + 1) = iup (P2 (V 137) r i) (1 + i) (V 137 (12 + 7 * r + V 137 (8 + r) - 1 - i)) := by
        funext j
        simp only [iup, P2]
        repeat' split
        all_goals first | rfl | omega | (congr 1; omega)
      have hih := ih (i + 1) (by omega) (by omega)
      rw [es, ← vst_zup_s] at hih
      refine z_iload_n dX11_pulls_49 rfl ?_
      refine z_iload_n dX11_pulls_50 rfl ?_
      refine y_icmp_ge dX11_pulls_51 (by omega) (by omega) (fun c_51 => ?_) (fun c_51 => ?_)
      · omega
      · refine z_aload_n dX11_pulls_54 rfl ?_
        refine y_getR fX11_16 dX11_pulls_55 (by first | assumption | rfl) (by first | assumption | rfl) ?_
        refine y_iconst dX11_pulls_58 ?_
        refine z_iload_n dX11_pulls_59 rfl ?_
        refine y_iadd dX11_pulls_60 ?_
        refine z_aload_n dX11_pulls_61 rfl ?_
        refine y_getR fX11_16 dX11_pulls_62 (by first | assumption | rfl) (by first | assumption | rfl) ?_
        refine y_bipush dX11_pulls_65 (by decide +kernel) ?_
        refine y_bipush dX11_pulls_67 (by decide +kernel) ?_
        refine z_iload_n dX11_pulls_69 rfl ?_
        refine y_imul dX11_pulls_70 ?_
        refine y_iadd dX11_pulls_71 ?_
        refine z_iload_n dX11_pulls_72 rfl ?_
        refine y_iadd dX11_pulls_73 ?_
        refine y_iconst dX11_pulls_74 ?_
        refine y_isub dX11_pulls_75 ?_
        refine z_iload_n dX11_pulls_76 rfl ?_
        refine y_isub dX11_pulls_77 ?_
        refine y_iald dX11_pulls_78 (by first | assumption | rfl) (by first | rfl | assumption) (by omega) ?_
        rw [zup_s, er]
        refine y_iast dX11_pulls_79 (by first | assumption | rfl) (by first | rfl | assumption) (by omega) ?_
        refine y_iinc dX11_pulls_80 rfl (by decide) rfl rfl ?_
        refine z_goto dX11_pulls_83 ?_
        exact hih
  have loop1 : ∀ (t : Nat) (i : Int), i + 1 = t → i < V 137 0 → yE 1 (pI b (fun q V' => q = V 137 (8 + r) ∧ V' = zup V 137 (pulN (V 137) r))) mX11_pulls 19 [some (.ref 134), some (.int (iI r)), some (.int (iI (V 137 (8 + r)))), some (.int (iI i))] [] (zup V 137 (P1 (V 137) r (i + 1))) b := by
    intro t
    induction t with
    | zero =>
      intro i h1 h2
      have hi : i = -1 := by omega
      subst hi
      have e : P1 (V 137) r (-1 + 1) = P2 (V 137) r 0 := by
        funext j
        simp only [P1, P2]
        repeat' split
        all_goals first | rfl | omega
      rw [e]
      refine z_iload_n dX11_pulls_19 rfl ?_
      refine y_if_lt dX11_pulls_20 (by omega) (fun c_20 => ?_) (fun c_20 => ?_)
      · refine y_iconst dX11_pulls_47 ?_
        refine z_istore_n dX11_pulls_48 (by decide) rfl rfl ?_
        exact loop2 (V 137 (8 + r)).toNat 0 (by omega) (by omega)
      · omega
    | succ t ih =>
      intro i h1 h2
      have er : P1 (V 137) r (i + 1) (1 + i) = V 137 (1 + i) := by simp only [P1]; repeat' split <;> first | rfl | (congr 1; omega) | omega
      have es : P1 (V 137) r (i + -1 + 1) = iup (P1 (V 137) r (i + 1)) (1 + i + V 137 (8 + r)) (V 137 (1 + i)) := by
        funext j
        simp only [iup, P1]
        repeat' split
        all_goals first | rfl | omega | (congr 1; omega)
      have hih := ih (i + -1) (by omega) (by omega)
      rw [es, ← vst_zup_s] at hih
      refine z_iload_n dX11_pulls_19 rfl ?_
      refine y_if_lt dX11_pulls_20 (by omega) (fun c_20 => ?_) (fun c_20 => ?_)
      · omega
      · refine z_aload_n dX11_pulls_23 rfl ?_
        refine y_getR fX11_16 dX11_pulls_24 (by first | assumption | rfl) (by first | assumption | rfl) ?_
        refine y_iconst dX11_pulls_27 ?_
        refine z_iload_n dX11_pulls_28 rfl ?_
        refine y_iadd dX11_pulls_29 ?_
        refine z_iload_n dX11_pulls_30 rfl ?_
        refine y_iadd dX11_pulls_31 ?_
        refine z_aload_n dX11_pulls_32 rfl ?_
        refine y_getR fX11_16 dX11_pulls_33 (by first | assumption | rfl) (by first | assumption | rfl) ?_
        refine y_iconst dX11_pulls_36 ?_
        refine z_iload_n dX11_pulls_37 rfl ?_
        refine y_iadd dX11_pulls_38 ?_
        refine y_iald dX11_pulls_39 (by first | assumption | rfl) (by first | rfl | assumption) (by omega) ?_
        rw [zup_s, er]
        refine y_iast dX11_pulls_40 (by first | assumption | rfl) (by first | rfl | assumption) (by omega) ?_
        refine y_iinc dX11_pulls_41 rfl (by decide) rfl rfl ?_
        refine z_goto dX11_pulls_44 ?_
        exact hih
  have e0 : P1 (V 137) r (V 137 0 - 1 + 1) = V 137 := by
    funext j
    simp only [P1]
    repeat' split
    all_goals first | rfl | omega
  have h0 := loop1 (V 137 0).toNat (V 137 0 - 1) (by omega) (by omega)
  rw [e0, zup_id] at h0
  refine zC_of (by decide +kernel) (Nat.le_of_ble_eq_true rfl) rfl ?_
  refine z_aload_n dX11_pulls_0 rfl ?_
  refine y_getR fX11_16 dX11_pulls_1 (by first | assumption | rfl) (by first | assumption | rfl) ?_
  refine y_bipush dX11_pulls_4 (by decide +kernel) ?_
  refine z_iload_n dX11_pulls_6 rfl ?_
  refine y_iadd dX11_pulls_7 ?_
  refine y_iald dX11_pulls_8 (by first | assumption | rfl) (by first | rfl | assumption) (by omega) ?_
  refine z_istore_n dX11_pulls_9 (by decide) rfl rfl ?_
  refine z_aload_n dX11_pulls_10 rfl ?_
  refine y_getR fX11_16 dX11_pulls_11 (by first | assumption | rfl) (by first | assumption | rfl) ?_
  refine y_iconst dX11_pulls_14 ?_
  refine y_iald dX11_pulls_15 (by first | assumption | rfl) (by first | rfl | assumption) (by omega) ?_
  refine y_iconst dX11_pulls_16 ?_
  refine y_isub dX11_pulls_17 ?_
  refine z_istore_n dX11_pulls_18 (by decide) rfl rfl ?_
  exact h0
theorem remM_o {a : Nat} (h4 : a ≠ 134) (h8 : a ≠ 138) : remM V a = V a := by unfold remM; rw [vst_o h4, zup_n _ _ h8]
theorem ct_X11_cut {k r : Int} (hk : rg k) (hr : rg r) (hM : MS V) (hN : NS V) (hu : 0 ≤ V 134 4 ∧ V 134 4 ≤ 20) (hf : rg (V 137 46)) : yC 5 mX11_cut [.ref 134, .int (iI k), .int (iI r)] V b (pI b (fun q V' => (¬ (0 ≤ r ∧ r < V 135 0) ∧ q = -1000000001 ∧ V' = V) ∨ ((0 ≤ r ∧ r < V 135 0) ∧ ¬ (1 ≤ k ∧ k ≤ 7) ∧ q = -1000000002 ∧ V' = V) ∨ ((0 ≤ r ∧ r < V 135 0) ∧ (1 ≤ k ∧ k ≤ 7) ∧ ¬ (k ≤ V 137 0 ∧ V 137 (8 + r) + k ≤ V 135 (1 + r)) ∧ q = -1000000003 ∧ V' = V) ∨ ((0 ≤ r ∧ r < V 135 0) ∧ (1 ≤ k ∧ k ≤ 7) ∧ (k ≤ V 137 0 ∧ V 137 (8 + r) + k ≤ V 135 (1 + r)) ∧ q = Kc (V 135) (V 137) r k.toNat ∧ V' = zup (remM V) 137 (cutN (V 135) (V 137) k r)))) := by
  obtain ⟨m0, m1, m2, m3, m4⟩ := id hM
  have e5 : remM V 135 = V 135 := remM_o (by decide) (by decide)
  have e7 : remM V 137 = V 137 := remM_o (by decide) (by decide)
  refine zC_of (by decide +kernel) (Nat.le_of_ble_eq_true rfl) rfl ?_
  refine z_aload_n dX11_cut_0 rfl ?_
  refine z_iload_n dX11_cut_1 rfl ?_
  refine y_callVr (ct_X11_isRoad (by omega) (by omega)) kX11_187 dX11_cut_2 rfl rfl (by first | assumption | rfl) rfl (by decide) rfl (Nat.le_of_ble_eq_true rfl) (fun r_2 h_2 => ?_)
  refine y_if_ne dX11_cut_5 (by omega) (fun c_5 => ?_) (fun c_5 => ?_)
  · refine z_iload_n dX11_cut_11 rfl ?_
    refine y_i2l dX11_cut_12 (by omega) ?_
    refine y_lconst (v := 1) dX11_cut_13 (by decide +kernel) ?_
    refine y_ldc2 (n := 7) dX11_cut_14 cX11_203 (by decide +kernel) ?_
    refine y_callSr (ct_X11_in (by omega) (by omega) (by omega)) kX11_101 dX11_cut_17 rfl rfl (by decide) rfl (Nat.le_of_ble_eq_true rfl) (fun r_17 h_17 => ?_)
    refine y_if_ne dX11_cut_20 (by omega) (fun c_20 => ?_) (fun c_20 => ?_)
    · refine z_aload_n dX11_cut_26 rfl ?_
      refine z_iload_n dX11_cut_27 rfl ?_
      refine z_iload_n dX11_cut_28 rfl ?_
      refine y_callVr (ct_X11_mayCut (by omega) (by omega) (by assumption) (by assumption)) kX11_205 dX11_cut_29 rfl rfl (by first | assumption | rfl) rfl (by decide) rfl (Nat.le_of_ble_eq_true rfl) (fun r_29 h_29 => ?_)
      refine y_if_ne dX11_cut_32 (by omega) (fun c_32 => ?_) (fun c_32 => ?_)
      · have mr := m4 r (by omega) (by omega)
        refine z_aload_n dX11_cut_38 rfl ?_
        refine y_callVv (ct_X11_remember (by omega)) kX11_209 dX11_cut_39 rfl rfl (by first | assumption | rfl) rfl (by decide) rfl (Nat.le_of_ble_eq_true rfl) (fun V1 h_39 => ?_)
        subst h_39
        refine z_aload_n dX11_cut_42 rfl ?_
        refine z_iload_n dX11_cut_43 rfl ?_
        refine z_iload_n dX11_cut_44 rfl ?_
        refine y_callVi (ct_X11_cuts (by omega) (by omega) (by rw [e7]; omega) (by rw [e7]; omega) (MS_congr e5 hM) (NS_congr e7 hN) (by rw [e7]; exact hf)) kX11_212 dX11_cut_45 rfl rfl (by first | assumption | rfl) rfl (by decide) rfl (Nat.le_of_ble_eq_true rfl) (fun r_45 V1 h_45 => ?_)
        exact z_iret dX11_cut_48 rfl (Nat.le_refl 0) (Nat.le_refl 0) ⟨_, _, rfl, rfl, Or.inr (Or.inr (Or.inr ⟨by omega, by omega, by omega, by rw [h_45.1, e5, e7], by rw [h_45.2, e5, e7]⟩))⟩
      · refine y_ldc (n := -1000000003) dX11_cut_35 cX11_208 (by decide +kernel) ?_
        exact z_iret dX11_cut_37 rfl (Nat.le_refl 0) (Nat.le_refl 0) ⟨_, _, rfl, rfl, Or.inr (Or.inr (Or.inl ⟨by omega, by omega, by omega, rfl, rfl⟩))⟩
    · refine y_ldc (n := -1000000002) dX11_cut_23 cX11_105 (by decide +kernel) ?_
      exact z_iret dX11_cut_25 rfl (Nat.le_refl 0) (Nat.le_refl 0) ⟨_, _, rfl, rfl, Or.inr (Or.inl ⟨by omega, by omega, rfl, rfl⟩)⟩
  · refine y_ldc (n := -1000000001) dX11_cut_8 cX11_179 (by decide +kernel) ?_
    exact z_iret dX11_cut_10 rfl (Nat.le_refl 0) (Nat.le_refl 0) ⟨_, _, rfl, rfl, Or.inl ⟨by omega, rfl, rfl⟩⟩
theorem ct_X11_pull {r : Int} (hr : rg r) (hM : MS V) (hN : NS V) (hu : 0 ≤ V 134 4 ∧ V 134 4 ≤ 20) (h7 : ∀ r, 0 ≤ r → r < 4 → V 137 0 + V 137 (8 + r) ≤ 7) : yC 3 mX11_pull [.ref 134, .int (iI r)] V b (pI b (fun q V' => (¬ (0 ≤ r ∧ r < V 135 0) ∧ q = -1000000001 ∧ V' = V) ∨ ((0 ≤ r ∧ r < V 135 0) ∧ V 137 (8 + r) = 0 ∧ q = -1000000003 ∧ V' = V) ∨ ((0 ≤ r ∧ r < V 135 0) ∧ V 137 (8 + r) ≠ 0 ∧ q = V 137 (8 + r) ∧ V' = zup (remM V) 137 (pulN (V 137) r)))) := by
  obtain ⟨m0, m1, m2, m3, m4⟩ := id hM
  obtain ⟨n0, n1, n2, n3, n4⟩ := id hN
  have e7 : remM V 137 = V 137 := remM_o (by decide) (by decide)
  refine zC_of (by decide +kernel) (Nat.le_of_ble_eq_true rfl) rfl ?_
  refine z_aload_n dX11_pull_0 rfl ?_
  refine z_iload_n dX11_pull_1 rfl ?_
  refine y_callVr (ct_X11_isRoad (by omega) (by omega)) kX11_187 dX11_pull_2 rfl rfl (by first | assumption | rfl) rfl (by decide) rfl (Nat.le_of_ble_eq_true rfl) (fun r_2 h_2 => ?_)
  refine y_if_ne dX11_pull_5 (by omega) (fun c_5 => ?_) (fun c_5 => ?_)
  · have nr := n1 r (by omega) (by omega)
    refine z_aload_n dX11_pull_11 rfl ?_
    refine y_getR fX11_16 dX11_pull_12 (by first | assumption | rfl) (by first | assumption | rfl) ?_
    refine y_bipush dX11_pull_15 (by decide +kernel) ?_
    refine z_iload_n dX11_pull_17 rfl ?_
    refine y_iadd dX11_pull_18 ?_
    refine y_iald dX11_pull_19 (by first | assumption | rfl) (by first | rfl | assumption) (by omega) ?_
    refine y_if_ne dX11_pull_20 (by omega) (fun c_20 => ?_) (fun c_20 => ?_)
    · refine z_aload_n dX11_pull_26 rfl ?_
      refine y_callVv (ct_X11_remember (by omega)) kX11_209 dX11_pull_27 rfl rfl (by first | assumption | rfl) rfl (by decide) rfl (Nat.le_of_ble_eq_true rfl) (fun V1 h_27 => ?_)
      subst h_27
      refine z_aload_n dX11_pull_30 rfl ?_
      refine z_iload_n dX11_pull_31 rfl ?_
      refine y_callVi (ct_X11_pulls (by omega) (NS_congr e7 hN) (by rw [e7]; exact h7 r (by omega) (by omega))) kX11_216 dX11_pull_32 rfl rfl (by first | assumption | rfl) rfl (by decide) rfl (Nat.le_of_ble_eq_true rfl) (fun r_32 V1 h_32 => ?_)
      exact z_iret dX11_pull_35 rfl (Nat.le_refl 0) (Nat.le_refl 0) ⟨_, _, rfl, rfl, Or.inr (Or.inr ⟨by omega, by omega, by rw [h_32.1, e7], by rw [h_32.2, e7]⟩)⟩
    · refine y_ldc (n := -1000000003) dX11_pull_23 cX11_208 (by decide +kernel) ?_
      exact z_iret dX11_pull_25 rfl (Nat.le_refl 0) (Nat.le_refl 0) ⟨_, _, rfl, rfl, Or.inr (Or.inl ⟨by omega, by omega, rfl, rfl⟩)⟩
  · refine y_ldc (n := -1000000001) dX11_pull_8 cX11_179 (by decide +kernel) ?_
    exact z_iret dX11_pull_10 rfl (Nat.le_refl 0) (Nat.le_refl 0) ⟨_, _, rfl, rfl, Or.inl ⟨by omega, rfl, rfl⟩⟩
theorem ct_X11_peace {r i : Int} (hr : rg r) (hi : rg i) (hM : MS V) (hN : NS V) (hu : 0 ≤ V 134 4 ∧ V 134 4 ≤ 20) : yC 4 mX11_peace [.ref 134, .int (iI r), .int (iI i)] V b (pI b (fun q V' => (¬ (0 ≤ r ∧ r < V 135 0) ∧ q = -1000000001 ∧ V' = V) ∨ ((0 ≤ r ∧ r < V 135 0) ∧ ¬ ((0 ≤ i ∧ i < V 137 (8 + r) - 1) ∧ tb (V 137 (40 + r)) i = false) ∧ q = -1000000003 ∧ V' = V) ∨ ((0 ≤ r ∧ r < V 135 0) ∧ ((0 ≤ i ∧ i < V 137 (8 + r) - 1) ∧ tb (V 137 (40 + r)) i = false) ∧ q = enI (V 135) (V 135 (6 + V 137 (12 + 7 * r + i))) (V 135 (6 + V 137 (12 + 7 * r + i + 1))) ∧ V' = vst (remM V) 137 (40 + r) (bOr (V 137 (40 + r)) (s1 i))))) := by
  obtain ⟨m0, m1, m2, m3, m4⟩ := id hM
  obtain ⟨n0, n1, n2, n3, n4⟩ := id hN
  have e5 : remM V 135 = V 135 := remM_o (by decide) (by decide)
  have e7 : remM V 137 = V 137 := remM_o (by decide) (by decide)
  have hM' : ∀ k x, MS (vst (remM V) 137 k x) := fun k x => MS_congr (by rw [vst_o (by decide), e5]) hM
  refine zC_of (by decide +kernel) (Nat.le_of_ble_eq_true rfl) rfl ?_
  refine z_aload_n dX11_peace_0 rfl ?_
  refine z_iload_n dX11_peace_1 rfl ?_
  refine y_callVr (ct_X11_isRoad (by omega) (by omega)) kX11_187 dX11_peace_2 rfl rfl (by first | assumption | rfl) rfl (by decide) rfl (Nat.le_of_ble_eq_true rfl) (fun r_2 h_2 => ?_)
  refine y_if_ne dX11_peace_5 (by omega) (fun c_5 => ?_) (fun c_5 => ?_)
  · have nr := n1 r (by omega) (by omega)
    have pr := n4 (40 + r) (by omega) (by omega)
    refine z_iload_n dX11_peace_11 rfl ?_
    refine y_i2l dX11_peace_12 (by omega) ?_
    refine y_lconst (v := 0) dX11_peace_13 (by decide +kernel) ?_
    refine z_aload_n dX11_peace_14 rfl ?_
    refine y_getR fX11_16 dX11_peace_15 (by first | assumption | rfl) (by first | assumption | rfl) ?_
    refine y_bipush dX11_peace_18 (by decide +kernel) ?_
    refine z_iload_n dX11_peace_20 rfl ?_
    refine y_iadd dX11_peace_21 ?_
    refine y_iald dX11_peace_22 (by first | assumption | rfl) (by first | rfl | assumption) (by omega) ?_
    refine y_iconst dX11_peace_23 ?_
    refine y_isub dX11_peace_24 ?_
    refine y_i2l dX11_peace_25 (by omega) ?_
    refine y_callSr (ct_X11_in (by omega) (by omega) (by omega)) kX11_101 dX11_peace_26 rfl rfl (by decide) rfl (Nat.le_of_ble_eq_true rfl) (fun r_26 h_26 => ?_)
    refine y_if_eq dX11_peace_29 (by omega) (fun c_29 => ?_) (fun c_29 => ?_)
    · refine y_ldc (n := -1000000003) dX11_peace_48 cX11_208 (by decide +kernel) ?_
      exact z_iret dX11_peace_50 rfl (Nat.le_refl 0) (Nat.le_refl 0) ⟨_, _, rfl, rfl, Or.inr (Or.inl ⟨by omega, by first | (intro hh; omega) | (intro hh; rw [ht] at hh; exact absurd hh.2 (by decide)), rfl, rfl⟩)⟩
    · refine z_aload_n dX11_peace_32 rfl ?_
      refine y_getR fX11_16 dX11_peace_33 (by first | assumption | rfl) (by first | assumption | rfl) ?_
      refine y_bipush dX11_peace_36 (by decide +kernel) ?_
      refine z_iload_n dX11_peace_38 rfl ?_
      refine y_iadd dX11_peace_39 ?_
      refine y_iald dX11_peace_40 (by first | assumption | rfl) (by first | rfl | assumption) (by omega) ?_
      refine z_iload_n dX11_peace_41 rfl ?_
      refine y_callSr (ct_X11_has (by omega) (by omega)) kX11_151 dX11_peace_42 rfl rfl (by decide) rfl (Nat.le_of_ble_eq_true rfl) (fun r_42 h_42 => ?_)
      refine y_if_eq dX11_peace_45 (by subst h_42; split <;> omega) (fun c_45 => ?_) (fun c_45 => ?_)
      · have ht : tb (V 137 (40 + r)) i = false := by cases h9 : tb (V 137 (40 + r)) i with | false => rfl | true => rw [h9] at h_42; simp at h_42; omega
        refine z_aload_n dX11_peace_51 rfl ?_
        refine y_callVv (ct_X11_remember (by omega)) kX11_209 dX11_peace_52 rfl rfl (by first | assumption | rfl) rfl (by decide) rfl (Nat.le_of_ble_eq_true rfl) (fun V1 h_52 => ?_)
        subst h_52
        have hs1 := s1_pos i
        have w1 := n3 (12 + 7 * r + i) (by omega) (by omega)
        have w2 := n3 (12 + 7 * r + i + 1) (by omega) (by omega)
        refine z_aload_n dX11_peace_55 rfl ?_
        refine y_getR fX11_16 dX11_peace_56 (by first | assumption | rfl) (by first | assumption | rfl) ?_
        refine y_bipush dX11_peace_59 (by decide +kernel) ?_
        refine z_iload_n dX11_peace_61 rfl ?_
        refine y_iadd dX11_peace_62 ?_
        refine z_dup2 dX11_peace_63 rfl rfl ?_
        refine y_iald dX11_peace_64 (by first | assumption | rfl) (by first | rfl | assumption) (by omega) ?_
        rw [e7]
        refine y_iconst dX11_peace_65 ?_
        refine z_iload_n dX11_peace_66 rfl ?_
        refine y_shl1 dX11_peace_67 (by omega) ?_
        refine y_ior dX11_peace_68 (by omega) (by omega) ?_
        refine y_iast dX11_peace_69 (by first | assumption | rfl) (by first | rfl | assumption) (by omega) ?_
        refine z_aload_n dX11_peace_70 rfl ?_
        refine z_aload_n dX11_peace_71 rfl ?_
        refine y_getR fX11_16 dX11_peace_72 (by first | assumption | rfl) (by first | assumption | rfl) ?_
        refine y_bipush dX11_peace_75 (by decide +kernel) ?_
        refine y_bipush dX11_peace_77 (by decide +kernel) ?_
        refine z_iload_n dX11_peace_79 rfl ?_
        refine y_imul dX11_peace_80 ?_
        refine y_iadd dX11_peace_81 ?_
        refine z_iload_n dX11_peace_82 rfl ?_
        refine y_iadd dX11_peace_83 ?_
        refine y_iald dX11_peace_84 (by first | assumption | rfl) (by first | rfl | assumption) (by omega) ?_
        rw [vst_n (by omega), e7]
        refine z_aload_n dX11_peace_85 rfl ?_
        refine y_getR fX11_16 dX11_peace_86 (by first | assumption | rfl) (by first | assumption | rfl) ?_
        refine y_bipush dX11_peace_89 (by decide +kernel) ?_
        refine y_bipush dX11_peace_91 (by decide +kernel) ?_
        refine z_iload_n dX11_peace_93 rfl ?_
        refine y_imul dX11_peace_94 ?_
        refine y_iadd dX11_peace_95 ?_
        refine z_iload_n dX11_peace_96 rfl ?_
        refine y_iadd dX11_peace_97 ?_
        refine y_iconst dX11_peace_98 ?_
        refine y_iadd dX11_peace_99 ?_
        refine y_iald dX11_peace_100 (by first | assumption | rfl) (by first | rfl | assumption) (by omega) ?_
        rw [vst_n (by omega), e7]
        refine y_callVr (ct_X11_kick (by omega) (by omega) (hM' _ _)) kX11_200 dX11_peace_101 rfl rfl (by first | assumption | rfl) rfl (by decide) rfl (Nat.le_of_ble_eq_true rfl) (fun r_101 h_101 => ?_)
        rw [vst_o (by decide), e5] at h_101
        have h01 := enI_01 (V 135) (V 135 (6 + V 137 (12 + 7 * r + i))) (V 135 (6 + V 137 (12 + 7 * r + i + 1)))
        refine y_if_eq dX11_peace_104 (by omega) (fun c_104 => ?_) (fun c_104 => ?_)
        · refine y_iconst dX11_peace_111 ?_
          exact z_iret dX11_peace_112 rfl (Nat.le_refl 0) (Nat.le_refl 0) ⟨_, _, rfl, rfl, Or.inr (Or.inr ⟨by omega, ⟨by omega, ht⟩, by omega, rfl⟩)⟩
        · refine y_iconst dX11_peace_107 ?_
          refine z_goto dX11_peace_108 ?_
          exact z_iret dX11_peace_112 rfl (Nat.le_refl 0) (Nat.le_refl 0) ⟨_, _, rfl, rfl, Or.inr (Or.inr ⟨by omega, ⟨by omega, ht⟩, by omega, rfl⟩)⟩
      · have ht : tb (V 137 (40 + r)) i = true := by cases h9 : tb (V 137 (40 + r)) i with | true => rfl | false => rw [h9] at h_42; simp at h_42; omega
        refine y_ldc (n := -1000000003) dX11_peace_48 cX11_208 (by decide +kernel) ?_
        exact z_iret dX11_peace_50 rfl (Nat.le_refl 0) (Nat.le_refl 0) ⟨_, _, rfl, rfl, Or.inr (Or.inl ⟨by omega, by first | (intro hh; omega) | (intro hh; rw [ht] at hh; exact absurd hh.2 (by decide)), rfl, rfl⟩)⟩
  · refine y_ldc (n := -1000000001) dX11_peace_8 cX11_179 (by decide +kernel) ?_
    exact z_iret dX11_peace_10 rfl (Nat.le_refl 0) (Nat.le_refl 0) ⟨_, _, rfl, rfl, Or.inl ⟨by omega, rfl, rfl⟩⟩
theorem ct_X11_draw {n : Int} (hn : 1 ≤ n ∧ n ≤ 4) (hs : 0 ≤ V 134 7 ∧ V 134 7 ≤ 2147483647) : yC 1 mX11_draw [.ref 134, .int (iI n)] V b (pI b (fun q V' => q = drN (sdN (V 134 7)) n ∧ V' = vst V 134 7 (sdN (V 134 7)))) := by
  have h2 : 0 ≤ sdN (V 134 7) ∧ sdN (V 134 7) < 2147483648 := by unfold sdN; omega
  refine zC_of (by decide +kernel) (Nat.le_of_ble_eq_true rfl) rfl ?_
  refine z_aload_n dX11_draw_0 rfl ?_
  refine z_aload_n dX11_draw_1 rfl ?_
  refine y_getJ (j := 7) fX11_219 dX11_draw_2 rfl (by first | assumption | rfl) ?_
  refine y_ldc2 (n := 1103515245) dX11_draw_5 cX11_223 (by decide +kernel) ?_
  refine y_lmul dX11_draw_8 ?_
  refine y_ldc2 (n := 12345) dX11_draw_9 cX11_225 (by decide +kernel) ?_
  refine y_ladd dX11_draw_12 ?_
  refine y_ldc2 (n := 2147483648) dX11_draw_13 cX11_227 (by decide +kernel) ?_
  refine y_lrem dX11_draw_16 (by omega) (by omega) ?_
  rw [show (V 134 7 * 1103515245 + 12345) % 2147483648 = sdN (V 134 7) from rfl]
  refine y_putJ (j := 7) fX11_219 dX11_draw_17 rfl (by first | assumption | rfl) ?_
  refine z_aload_n dX11_draw_20 rfl ?_
  refine y_getJ (j := 7) fX11_219 dX11_draw_21 rfl (by first | assumption | rfl) ?_
  refine y_ldc2 (n := 65536) dX11_draw_24 cX11_229 (by decide +kernel) ?_
  refine y_ldiv dX11_draw_27 (by rw [vst_s]; omega) (by omega) ?_
  refine z_iload_n dX11_draw_28 rfl ?_
  refine y_i2l dX11_draw_29 (by omega) ?_
  refine y_lrem dX11_draw_30 (by rw [vst_s]; omega) (by omega) ?_
  refine y_l2i dX11_draw_31 ?_
  exact z_iret dX11_draw_32 rfl (Nat.le_refl 0) (Nat.le_refl 0) ⟨_, _, rfl, rfl, by rw [vst_s]; rfl, rfl⟩
theorem ct_X11_undo (hu : 0 ≤ V 134 4 ∧ V 134 4 ≤ 20) : yC 2 mX11_undo [.ref 134] V b (pI b (fun q V' => (V 134 4 = 0 ∧ q = -1000000003 ∧ V' = V) ∨ (V 134 4 ≠ 0 ∧ q = V 134 4 - 1 ∧ V' = zup (vst V 134 4 (V 134 4 - 1)) 137 (icp (V 138) (V 137) (47 * (V 134 4 - 1)) 0 47)))) := by
  refine zC_of (by decide +kernel) (Nat.le_of_ble_eq_true rfl) rfl ?_
  refine z_aload_n dX11_undo_0 rfl ?_
  refine y_getI (j := 4) fX11_87 dX11_undo_1 rfl (by first | assumption | rfl) ?_
  refine y_if_ne dX11_undo_4 (by omega) (fun c_4 => ?_) (fun c_4 => ?_)
  · refine z_aload_n dX11_undo_10 rfl ?_
    refine z_dup dX11_undo_11 rfl ?_
    refine y_getI (j := 4) fX11_87 dX11_undo_12 rfl (by first | assumption | rfl) ?_
    refine y_iconst dX11_undo_15 ?_
    refine y_isub dX11_undo_16 ?_
    refine y_putI (j := 4) fX11_87 dX11_undo_17 rfl (by first | assumption | rfl) ?_
    refine z_aload_n dX11_undo_20 rfl ?_
    refine y_getR fX11_19 dX11_undo_21 (by first | assumption | rfl) (by first | assumption | rfl) ?_
    refine y_bipush dX11_undo_24 (by decide +kernel) ?_
    refine z_aload_n dX11_undo_26 rfl ?_
    refine y_getI (j := 4) fX11_87 dX11_undo_27 rfl (by first | assumption | rfl) ?_
    refine y_imul dX11_undo_30 ?_
    rw [vst_s]
    refine z_aload_n dX11_undo_31 rfl ?_
    refine y_getR fX11_16 dX11_undo_32 (by first | assumption | rfl) (by first | assumption | rfl) ?_
    refine y_iconst dX11_undo_35 ?_
    refine y_callSv (ct_X11_copies (p := 138) (q := 137) (m := 940) (n := 47) rfl rfl (by decide) (by omega) (by omega) (by decide) (by decide)) kX11_196 dX11_undo_36 rfl rfl (by decide) rfl (Nat.le_of_ble_eq_true rfl) (fun V1 h_36 => ?_)
    subst h_36
    refine z_aload_n dX11_undo_39 rfl ?_
    refine y_getI (j := 4) fX11_87 dX11_undo_40 rfl (by first | assumption | rfl) ?_
    exact z_iret dX11_undo_43 rfl (Nat.le_refl 0) (Nat.le_refl 0) ⟨_, _, rfl, rfl, Or.inr ⟨by omega, by rw [zup_n _ _ (by decide), vst_s], rfl⟩⟩
  · refine y_ldc (n := -1000000003) dX11_undo_7 cX11_208 (by decide +kernel) ?_
    exact z_iret dX11_undo_9 rfl (Nat.le_refl 0) (Nat.le_refl 0) ⟨_, _, rfl, rfl, Or.inl ⟨by omega, rfl, rfl⟩⟩
theorem ct_X11_feed {x : Int} (hx : rg x) (hl : 0 ≤ V 134 9 ∧ V 134 9 ≤ 230) : yC 2 mX11_feed [.ref 134, .int (iI x)] V b (pI b (fun q V' => (¬ (0 ≤ x ∧ x ≤ 255) ∧ q = -1000000002 ∧ V' = V) ∨ ((0 ≤ x ∧ x ≤ 255) ∧ V 134 9 = 230 ∧ q = -1000000004 ∧ V' = V) ∨ ((0 ≤ x ∧ x ≤ 255) ∧ V 134 9 < 230 ∧ q = V 134 9 + 1 ∧ V' = vst (vst V 141 (V 134 9) x) 134 9 (V 134 9 + 1)))) := by
  refine zC_of (by decide +kernel) (Nat.le_of_ble_eq_true rfl) rfl ?_
  refine z_iload_n dX11_feed_0 rfl ?_
  refine y_i2l dX11_feed_1 (by omega) ?_
  refine y_lconst (v := 0) dX11_feed_2 (by decide +kernel) ?_
  refine y_ldc2 (n := 255) dX11_feed_3 cX11_99 (by decide +kernel) ?_
  refine y_callSr (ct_X11_in (by omega) (by omega) (by omega)) kX11_101 dX11_feed_6 rfl rfl (by decide) rfl (Nat.le_of_ble_eq_true rfl) (fun r_6 h_6 => ?_)
  refine y_if_ne dX11_feed_9 (by omega) (fun c_9 => ?_) (fun c_9 => ?_)
  · refine z_aload_n dX11_feed_15 rfl ?_
    refine y_getI (j := 9) fX11_106 dX11_feed_16 rfl (by first | assumption | rfl) ?_
    refine y_sipush dX11_feed_19 (by decide +kernel) ?_
    refine y_icmp_ne dX11_feed_22 (by omega) (by omega) (fun c_22 => ?_) (fun c_22 => ?_)
    · refine z_aload_n dX11_feed_28 rfl ?_
      refine y_getR fX11_29 dX11_feed_29 (by first | assumption | rfl) (by first | assumption | rfl) ?_
      refine z_aload_n dX11_feed_32 rfl ?_
      refine y_getI (j := 9) fX11_106 dX11_feed_33 rfl (by first | assumption | rfl) ?_
      refine z_iload_n dX11_feed_36 rfl ?_
      refine y_iast dX11_feed_37 (by first | assumption | rfl) (by first | rfl | assumption) (by omega) ?_
      refine z_aload_n dX11_feed_38 rfl ?_
      refine z_dup dX11_feed_39 rfl ?_
      refine y_getI (j := 9) fX11_106 dX11_feed_40 rfl (by first | assumption | rfl) ?_
      refine y_iconst dX11_feed_43 ?_
      refine y_iadd dX11_feed_44 ?_
      refine y_putI (j := 9) fX11_106 dX11_feed_45 rfl (by first | assumption | rfl) ?_
      refine z_aload_n dX11_feed_48 rfl ?_
      refine y_getI (j := 9) fX11_106 dX11_feed_49 rfl (by first | assumption | rfl) ?_
      exact z_iret dX11_feed_52 rfl (Nat.le_refl 0) (Nat.le_refl 0) ⟨_, _, rfl, rfl, Or.inr (Or.inr ⟨by omega, by omega, by rw [vst_s]; rfl, rfl⟩)⟩
    · refine y_ldc (n := -1000000004) dX11_feed_25 cX11_109 (by decide +kernel) ?_
      exact z_iret dX11_feed_27 rfl (Nat.le_refl 0) (Nat.le_refl 0) ⟨_, _, rfl, rfl, Or.inr (Or.inl ⟨by omega, by omega, rfl, rfl⟩)⟩
  · refine y_ldc (n := -1000000002) dX11_feed_12 cX11_105 (by decide +kernel) ?_
    exact z_iret dX11_feed_14 rfl (Nat.le_refl 0) (Nat.le_refl 0) ⟨_, _, rfl, rfl, Or.inl ⟨by omega, rfl, rfl⟩⟩
theorem ct_X11_safe {w v l : Int} (hw : rg w) (hv : rg v) (hl : rg l) (hM : MS V) (hyw : ∀ w, 0 ≤ w → w < V 135 5 → (1 ≤ V 135 (13 + w) ∧ V 135 (13 + w) ≤ 30) ∧ (0 ≤ V 135 (20 + w) ∧ V 135 (20 + w) ≤ 20)) : yC 3 mX11_safe [.ref 134, .int (iI w), .int (iI v), .int (iI l)] V b (pR b V (fun q => (¬ ((0 ≤ w ∧ w < V 135 5) ∧ (0 ≤ v ∧ v < V 135 5) ∧ w ≠ v) ∧ q = -1000000001) ∨ (((0 ≤ w ∧ w < V 135 5) ∧ (0 ≤ v ∧ v < V 135 5) ∧ w ≠ v) ∧ ((¬ (1 ≤ l ∧ l ≤ 99) ∧ q = -1000000002) ∨ ((1 ≤ l ∧ l ≤ 99) ∧ q = max 0 (100 * l / (60 + V 135 (13 + w) - 2 * V 135 (20 + w)) - 100 * l / (60 + V 135 (13 + v) - 2 * V 135 (20 + v))))))) ) := by
  obtain ⟨m0, m1, m2, m3, m4⟩ := id hM
  refine zC_of (by decide +kernel) (Nat.le_of_ble_eq_true rfl) rfl ?_
  refine z_aload_n dX11_safe_0 rfl ?_
  refine z_iload_n dX11_safe_1 rfl ?_
  refine y_callVr (ct_X11_isWagon (by omega) (by omega)) kX11_176 dX11_safe_2 rfl rfl (by first | assumption | rfl) rfl (by decide) rfl (Nat.le_of_ble_eq_true rfl) (fun r_2 h_2 => ?_)
  refine y_if_eq dX11_safe_5 (by omega) (fun c_5 => ?_) (fun c_5 => ?_)
  · refine y_ldc (n := -1000000001) dX11_safe_21 cX11_179 (by decide +kernel) ?_
    exact z_iret dX11_safe_23 rfl (Nat.le_refl 0) (Nat.le_refl 0) ⟨_, rfl, rfl, by omega⟩
  · refine z_aload_n dX11_safe_8 rfl ?_
    refine z_iload_n dX11_safe_9 rfl ?_
    refine y_callVr (ct_X11_isWagon (by omega) (by omega)) kX11_176 dX11_safe_10 rfl rfl (by first | assumption | rfl) rfl (by decide) rfl (Nat.le_of_ble_eq_true rfl) (fun r_10 h_10 => ?_)
    refine y_if_eq dX11_safe_13 (by omega) (fun c_13 => ?_) (fun c_13 => ?_)
    · refine y_ldc (n := -1000000001) dX11_safe_21 cX11_179 (by decide +kernel) ?_
      exact z_iret dX11_safe_23 rfl (Nat.le_refl 0) (Nat.le_refl 0) ⟨_, rfl, rfl, by omega⟩
    · refine z_iload_n dX11_safe_16 rfl ?_
      refine z_iload_n dX11_safe_17 rfl ?_
      refine y_icmp_ne dX11_safe_18 (by omega) (by omega) (fun c_18 => ?_) (fun c_18 => ?_)
      · refine z_iload_n dX11_safe_24 rfl ?_
        refine y_i2l dX11_safe_25 (by omega) ?_
        refine y_lconst (v := 1) dX11_safe_26 (by decide +kernel) ?_
        refine y_ldc2 (n := 99) dX11_safe_27 cX11_257 (by decide +kernel) ?_
        refine y_callSr (ct_X11_in (by omega) (by omega) (by omega)) kX11_101 dX11_safe_30 rfl rfl (by decide) rfl (Nat.le_of_ble_eq_true rfl) (fun r_30 h_30 => ?_)
        refine y_if_ne dX11_safe_33 (by omega) (fun c_33 => ?_) (fun c_33 => ?_)
        · have yw := hyw w (by omega) (by omega)
          have yv := hyw v (by omega) (by omega)
          have dw : 0 ≤ 100 * l / (60 + V 135 (13 + w) - 2 * V 135 (20 + w)) ∧ 100 * l / (60 + V 135 (13 + w) - 2 * V 135 (20 + w)) ≤ 100 * l := ⟨Int.ediv_nonneg (by omega) (by omega), Int.ediv_le_self _ (by omega)⟩
          have dv : 0 ≤ 100 * l / (60 + V 135 (13 + v) - 2 * V 135 (20 + v)) ∧ 100 * l / (60 + V 135 (13 + v) - 2 * V 135 (20 + v)) ≤ 100 * l := ⟨Int.ediv_nonneg (by omega) (by omega), Int.ediv_le_self _ (by omega)⟩
          refine y_bipush dX11_safe_39 (by decide +kernel) ?_
          refine z_iload_n dX11_safe_41 rfl ?_
          refine y_imul dX11_safe_42 ?_
          refine z_aload_n dX11_safe_43 rfl ?_
          refine z_iload_n dX11_safe_44 rfl ?_
          refine y_callVr (ct_X11_speed (by omega)) kX11_184 dX11_safe_45 rfl rfl (by first | assumption | rfl) rfl (by decide) rfl (Nat.le_of_ble_eq_true rfl) (fun r_45 h_45 => ?_)
          subst h_45
          refine y_idiv dX11_safe_48 (by omega) (by omega) ?_
          refine y_bipush dX11_safe_49 (by decide +kernel) ?_
          refine z_iload_n dX11_safe_51 rfl ?_
          refine y_imul dX11_safe_52 ?_
          refine z_aload_n dX11_safe_53 rfl ?_
          refine z_iload_n dX11_safe_54 rfl ?_
          refine y_callVr (ct_X11_speed (by omega)) kX11_184 dX11_safe_55 rfl rfl (by first | assumption | rfl) rfl (by decide) rfl (Nat.le_of_ble_eq_true rfl) (fun r_55 h_55 => ?_)
          subst h_55
          refine y_idiv dX11_safe_58 (by omega) (by omega) ?_
          refine y_isub dX11_safe_59 ?_
          refine z_istore dX11_safe_60 (by decide) rfl rfl ?_
          refine z_iload dX11_safe_62 rfl ?_
          refine y_if_le dX11_safe_64 (by omega) (fun c_64 => ?_) (fun c_64 => ?_)
          · refine y_iconst dX11_safe_72 ?_
            exact z_iret dX11_safe_73 rfl (Nat.le_refl 0) (Nat.le_refl 0) ⟨_, rfl, rfl, by omega⟩
          · refine z_iload dX11_safe_67 rfl ?_
            refine z_goto dX11_safe_69 ?_
            exact z_iret dX11_safe_73 rfl (Nat.le_refl 0) (Nat.le_refl 0) ⟨_, rfl, rfl, by omega⟩
        · refine y_ldc (n := -1000000002) dX11_safe_36 cX11_105 (by decide +kernel) ?_
          exact z_iret dX11_safe_38 rfl (Nat.le_refl 0) (Nat.le_refl 0) ⟨_, rfl, rfl, by omega⟩
      · refine y_ldc (n := -1000000001) dX11_safe_21 cX11_179 (by decide +kernel) ?_
        exact z_iret dX11_safe_23 rfl (Nat.le_refl 0) (Nat.le_refl 0) ⟨_, rfl, rfl, by omega⟩
def fwM (Y N : Int → Int) (r : Int) : Nat → Int
  | 0 => 0
  | i + 1 => fwM Y N r i + if tb (N (40 + r)) (i : Nat) = false ∧ enI Y (Y (6 + N (12 + 7 * r + i))) (Y (6 + N (12 + 7 * r + i + 1))) ≠ 0 then 1 else 0
theorem fwM_rg (Y N : Int → Int) (r : Int) : ∀ i : Nat, 0 ≤ fwM Y N r i ∧ fwM Y N r i ≤ i
  | 0 => by simp [fwM]
  | i + 1 => by
    have := fwM_rg Y N r i
    unfold fwM
    split <;> omega
abbrev fwMP (V : Nat → Int → Int) (r q : Int) : Prop := (¬ (0 ≤ r ∧ r < V 135 0) ∧ q = -1000000001) ∨ ((0 ≤ r ∧ r < V 135 0) ∧ q = fwM (V 135) (V 137) r (V 137 (8 + r) - 1).toNat)
theorem ct_X11_fewest {r : Int} (hr : rg r) (hM : MS V) (hN : NS V) : yC 4 mX11_fewest [.ref 134, .int (iI r)] V b (pR b V (fwMP V r)) := by
  obtain ⟨m0, m1, m2, m3, m4⟩ := id hM
  obtain ⟨n0, n1, n2, n3, n4⟩ := id hN
  have loop : ∀ (k i : Nat), (0 ≤ r ∧ r < V 135 0) → i ≤ 7 → (i : Int) ≤ max 0 (V 137 (8 + r) - 1) → 7 - i ≤ k → yE 4 (pR b V (fwMP V r)) mX11_fewest 15 [some (.ref 134), some (.int (iI r)), some (.int (iI (fwM (V 135) (V 137) r i))), some (.int (iI (i : Nat)))] [] V b := by
    intro k
    induction k with
    | zero =>
      intro i hr0 h4 h4' h5
      have nr := n1 r (by omega) (by omega)
      refine z_iload_n dX11_fewest_15 rfl ?_
      refine z_aload_n dX11_fewest_16 rfl ?_
      refine y_getR fX11_16 dX11_fewest_17 (by first | assumption | rfl) (by first | assumption | rfl) ?_
      refine y_bipush dX11_fewest_20 (by decide +kernel) ?_
      refine z_iload_n dX11_fewest_22 rfl ?_
      refine y_iadd dX11_fewest_23 ?_
      refine y_iald dX11_fewest_24 (by first | assumption | rfl) (by first | rfl | assumption) (by omega) ?_
      refine y_iconst dX11_fewest_25 ?_
      refine y_isub dX11_fewest_26 ?_
      refine y_icmp_ge dX11_fewest_27 (by omega) (by omega) (fun c_27 => ?_) (fun c_27 => ?_)
      · refine z_iload_n dX11_fewest_97 rfl ?_
        exact z_iret dX11_fewest_98 rfl (Nat.le_refl 0) (Nat.le_refl 0) ⟨_, rfl, rfl, Or.inr ⟨hr0, by rw [show (V 137 (8 + r) - 1).toNat = i by omega]⟩⟩
      · omega
    | succ k ih =>
      intro i hr0 h4 h4' h5
      have nr := n1 r (by omega) (by omega)
      have pr := n4 (40 + r) (by omega) (by omega)
      have hfi := fwM_rg (V 135) (V 137) r i
      have h2 : fwM (V 135) (V 137) r (i + 1) = fwM (V 135) (V 137) r i + if tb (V 137 (40 + r)) (i : Nat) = false ∧ enI (V 135) (V 135 (6 + V 137 (12 + 7 * r + i))) (V 135 (6 + V 137 (12 + 7 * r + i + 1))) ≠ 0 then 1 else 0 := rfl
      refine z_iload_n dX11_fewest_15 rfl ?_
      refine z_aload_n dX11_fewest_16 rfl ?_
      refine y_getR fX11_16 dX11_fewest_17 (by first | assumption | rfl) (by first | assumption | rfl) ?_
      refine y_bipush dX11_fewest_20 (by decide +kernel) ?_
      refine z_iload_n dX11_fewest_22 rfl ?_
      refine y_iadd dX11_fewest_23 ?_
      refine y_iald dX11_fewest_24 (by first | assumption | rfl) (by first | rfl | assumption) (by omega) ?_
      refine y_iconst dX11_fewest_25 ?_
      refine y_isub dX11_fewest_26 ?_
      refine y_icmp_ge dX11_fewest_27 (by omega) (by omega) (fun c_27 => ?_) (fun c_27 => ?_)
      · refine z_iload_n dX11_fewest_97 rfl ?_
        exact z_iret dX11_fewest_98 rfl (Nat.le_refl 0) (Nat.le_refl 0) ⟨_, rfl, rfl, Or.inr ⟨hr0, by rw [show (V 137 (8 + r) - 1).toNat = i by omega]⟩⟩
      · have hih := ih (i + 1) hr0 (by omega) (by omega) (by omega)
        have w1 := n3 (12 + 7 * r + i) (by omega) (by omega)
        have w2 := n3 (12 + 7 * r + i + 1) (by omega) (by omega)
        refine z_iload_n dX11_fewest_30 rfl ?_
        refine z_aload_n dX11_fewest_31 rfl ?_
        refine y_getR fX11_16 dX11_fewest_32 (by first | assumption | rfl) (by first | assumption | rfl) ?_
        refine y_bipush dX11_fewest_35 (by decide +kernel) ?_
        refine z_iload_n dX11_fewest_37 rfl ?_
        refine y_iadd dX11_fewest_38 ?_
        refine y_iald dX11_fewest_39 (by first | assumption | rfl) (by first | rfl | assumption) (by omega) ?_
        refine z_iload_n dX11_fewest_40 rfl ?_
        refine y_callSr (ct_X11_has (by omega) (by omega)) kX11_151 dX11_fewest_41 rfl rfl (by decide) rfl (Nat.le_of_ble_eq_true rfl) (fun r_41 h_41 => ?_)
        refine y_if_ne dX11_fewest_44 (by subst h_41; split <;> omega) (fun c_44 => ?_) (fun c_44 => ?_)
        · have ht : tb (V 137 (40 + r)) (i : Nat) = true := by cases h9 : tb (V 137 (40 + r)) (i : Nat) with | true => rfl | false => rw [h9] at h_41; simp at h_41; omega
          have e : fwM (V 135) (V 137) r (i + 1) = fwM (V 135) (V 137) r i + 0 := by rw [h2, if_neg (by simp [ht])]
          rw [e, show ((i + 1 : Nat) : Int) = (i : Int) + 1 by omega] at hih
          refine y_iconst dX11_fewest_88 ?_
          refine y_iadd dX11_fewest_89 ?_
          refine z_istore_n dX11_fewest_90 (by decide) rfl rfl ?_
          refine y_iinc dX11_fewest_91 rfl (by decide) rfl rfl ?_
          refine z_goto dX11_fewest_94 ?_
          exact hih
        · have ht : tb (V 137 (40 + r)) (i : Nat) = false := by cases h9 : tb (V 137 (40 + r)) (i : Nat) with | false => rfl | true => rw [h9] at h_41; simp at h_41; omega
          refine z_aload_n dX11_fewest_47 rfl ?_
          refine z_aload_n dX11_fewest_48 rfl ?_
          refine y_getR fX11_16 dX11_fewest_49 (by first | assumption | rfl) (by first | assumption | rfl) ?_
          refine y_bipush dX11_fewest_52 (by decide +kernel) ?_
          refine y_bipush dX11_fewest_54 (by decide +kernel) ?_
          refine z_iload_n dX11_fewest_56 rfl ?_
          refine y_imul dX11_fewest_57 ?_
          refine y_iadd dX11_fewest_58 ?_
          refine z_iload_n dX11_fewest_59 rfl ?_
          refine y_iadd dX11_fewest_60 ?_
          refine y_iald dX11_fewest_61 (by first | assumption | rfl) (by first | rfl | assumption) (by omega) ?_
          refine z_aload_n dX11_fewest_62 rfl ?_
          refine y_getR fX11_16 dX11_fewest_63 (by first | assumption | rfl) (by first | assumption | rfl) ?_
          refine y_bipush dX11_fewest_66 (by decide +kernel) ?_
          refine y_bipush dX11_fewest_68 (by decide +kernel) ?_
          refine z_iload_n dX11_fewest_70 rfl ?_
          refine y_imul dX11_fewest_71 ?_
          refine y_iadd dX11_fewest_72 ?_
          refine z_iload_n dX11_fewest_73 rfl ?_
          refine y_iadd dX11_fewest_74 ?_
          refine y_iconst dX11_fewest_75 ?_
          refine y_iadd dX11_fewest_76 ?_
          refine y_iald dX11_fewest_77 (by first | assumption | rfl) (by first | rfl | assumption) (by omega) ?_
          refine y_callVr (ct_X11_kick (by omega) (by omega) (by assumption)) kX11_200 dX11_fewest_78 rfl rfl (by first | assumption | rfl) rfl (by decide) rfl (Nat.le_of_ble_eq_true rfl) (fun r_78 h_78 => ?_)
          have h01 := enI_01 (V 135) (V 135 (6 + V 137 (12 + 7 * r + i))) (V 135 (6 + V 137 (12 + 7 * r + i + 1)))
          refine y_if_eq dX11_fewest_81 (by omega) (fun c_81 => ?_) (fun c_81 => ?_)
          · have e : fwM (V 135) (V 137) r (i + 1) = fwM (V 135) (V 137) r i + 0 := by rw [h2, if_neg (by rw [← h_78]; simp [ht, c_81])]
            rw [e, show ((i + 1 : Nat) : Int) = (i : Int) + 1 by omega] at hih
            refine y_iconst dX11_fewest_88 ?_
            refine y_iadd dX11_fewest_89 ?_
            refine z_istore_n dX11_fewest_90 (by decide) rfl rfl ?_
            refine y_iinc dX11_fewest_91 rfl (by decide) rfl rfl ?_
            refine z_goto dX11_fewest_94 ?_
            exact hih
          · have e : fwM (V 135) (V 137) r (i + 1) = fwM (V 135) (V 137) r i + 1 := by rw [h2, if_pos ⟨ht, by rw [← h_78]; exact c_81⟩]
            rw [e, show ((i + 1 : Nat) : Int) = (i : Int) + 1 by omega] at hih
            refine y_iconst dX11_fewest_84 ?_
            refine z_goto dX11_fewest_85 ?_
            refine y_iadd dX11_fewest_89 ?_
            refine z_istore_n dX11_fewest_90 (by decide) rfl rfl ?_
            refine y_iinc dX11_fewest_91 rfl (by decide) rfl rfl ?_
            refine z_goto dX11_fewest_94 ?_
            exact hih
  refine zC_of (by decide +kernel) (Nat.le_of_ble_eq_true rfl) rfl ?_
  refine z_aload_n dX11_fewest_0 rfl ?_
  refine z_iload_n dX11_fewest_1 rfl ?_
  refine y_callVr (ct_X11_isRoad (by omega) (by omega)) kX11_187 dX11_fewest_2 rfl rfl (by first | assumption | rfl) rfl (by decide) rfl (Nat.le_of_ble_eq_true rfl) (fun r_2 h_2 => ?_)
  refine y_if_ne dX11_fewest_5 (by omega) (fun c_5 => ?_) (fun c_5 => ?_)
  · refine y_iconst dX11_fewest_11 ?_
    refine z_istore_n dX11_fewest_12 (by decide) rfl rfl ?_
    refine y_iconst dX11_fewest_13 ?_
    refine z_istore_n dX11_fewest_14 (by decide) rfl rfl ?_
    exact loop 7 0 (by omega) (by omega) (by omega) (by omega)
  · refine y_ldc (n := -1000000001) dX11_fewest_8 cX11_179 (by decide +kernel) ?_
    exact z_iret dX11_fewest_10 rfl (Nat.le_refl 0) (Nat.le_refl 0) ⟨_, rfl, rfl, by omega⟩
theorem ct_X11_rusted {n q : Int} (hn : rg n) (hq : rg q) : yC 2 mX11_rusted [.ref 134, .int (iI n), .int (iI q)] V b (pR b V (fun r => (¬ ((0 ≤ n ∧ n ≤ 60) ∧ (0 ≤ q ∧ q ≤ 100)) ∧ r = -1000000002) ∨ (((0 ≤ n ∧ n ≤ 60) ∧ (0 ≤ q ∧ q ≤ 100)) ∧ r = rsX q n.toNat))) := by
  have loop : ∀ (m k : Nat), (0 ≤ n ∧ n ≤ 60) → (0 ≤ q ∧ q ≤ 100) → (k : Int) + m = n → yE 2 (pR b V (fun r => (¬ ((0 ≤ n ∧ n ≤ 60) ∧ (0 ≤ q ∧ q ≤ 100)) ∧ r = -1000000002) ∨ (((0 ≤ n ∧ n ≤ 60) ∧ (0 ≤ q ∧ q ≤ 100)) ∧ r = rsX q n.toNat))) mX11_rusted 34 [some (.ref 134), some (.int (iI n)), some (.int (iI q)), some (.long (jJ (rsX q k))), none, some (.int (iI (k : Nat)))] [] V b := by
    intro m
    induction m with
    | zero =>
      intro k h1 h2 h3
      refine z_iload dX11_rusted_34 rfl ?_
      refine z_iload_n dX11_rusted_36 rfl ?_
      refine y_icmp_ge dX11_rusted_37 (by omega) (by omega) (fun c_37 => ?_) (fun c_37 => ?_)
      · refine z_lload_n dX11_rusted_58 rfl ?_
        refine y_l2i dX11_rusted_59 ?_
        exact z_iret dX11_rusted_60 rfl (Nat.le_refl 0) (Nat.le_refl 0) ⟨_, rfl, rfl, Or.inr ⟨⟨h1, h2⟩, by rw [show n.toNat = k by omega]⟩⟩
      · omega
    | succ m ih =>
      intro k h1 h2 h3
      have hr := rsX_rg h2 k
      have p1 : 0 ≤ rsX q k * (100 - q) := Int.mul_nonneg hr.1 (by omega)
      have p2 : rsX q k * (100 - q) ≤ 1000000000 * 100 := Int.mul_le_mul hr.2 (by omega) (by omega) (by omega)
      have hih := ih (k + 1) h1 h2 (by omega)
      rw [show rsX q (k + 1) = rsX q k * (100 - q) / 100 from rfl, show ((k + 1 : Nat) : Int) = (k : Int) + 1 by omega] at hih
      refine z_iload dX11_rusted_34 rfl ?_
      refine z_iload_n dX11_rusted_36 rfl ?_
      refine y_icmp_ge dX11_rusted_37 (by omega) (by omega) (fun c_37 => ?_) (fun c_37 => ?_)
      · omega
      · refine z_lload_n dX11_rusted_40 rfl ?_
        refine y_bipush dX11_rusted_41 (by decide +kernel) ?_
        refine z_iload_n dX11_rusted_43 rfl ?_
        refine y_isub dX11_rusted_44 ?_
        refine y_i2l dX11_rusted_45 (by omega) ?_
        refine y_lmul dX11_rusted_46 ?_
        refine y_ldc2 (n := 100) dX11_rusted_47 cX11_270 (by decide +kernel) ?_
        refine y_ldiv dX11_rusted_50 (by omega) (by omega) ?_
        refine z_lstore_n dX11_rusted_51 (by decide) rfl rfl ?_
        refine y_iinc dX11_rusted_52 rfl (by decide) rfl rfl ?_
        refine z_goto dX11_rusted_55 ?_
        exact hih
  refine zC_of (by decide +kernel) (Nat.le_of_ble_eq_true rfl) rfl ?_
  refine z_iload_n dX11_rusted_0 rfl ?_
  refine y_i2l dX11_rusted_1 (by omega) ?_
  refine y_lconst (v := 0) dX11_rusted_2 (by decide +kernel) ?_
  refine y_ldc2 (n := 60) dX11_rusted_3 cX11_231 (by decide +kernel) ?_
  refine y_callSr (ct_X11_in (by omega) (by omega) (by omega)) kX11_101 dX11_rusted_6 rfl rfl (by decide) rfl (Nat.le_of_ble_eq_true rfl) (fun r_6 h_6 => ?_)
  refine y_if_eq dX11_rusted_9 (by omega) (fun c_9 => ?_) (fun c_9 => ?_)
  · refine y_ldc (n := -1000000002) dX11_rusted_24 cX11_105 (by decide +kernel) ?_
    exact z_iret dX11_rusted_26 rfl (Nat.le_refl 0) (Nat.le_refl 0) ⟨_, rfl, rfl, by omega⟩
  · refine z_iload_n dX11_rusted_12 rfl ?_
    refine y_i2l dX11_rusted_13 (by omega) ?_
    refine y_lconst (v := 0) dX11_rusted_14 (by decide +kernel) ?_
    refine y_ldc2 (n := 100) dX11_rusted_15 cX11_270 (by decide +kernel) ?_
    refine y_callSr (ct_X11_in (by omega) (by omega) (by omega)) kX11_101 dX11_rusted_18 rfl rfl (by decide) rfl (Nat.le_of_ble_eq_true rfl) (fun r_18 h_18 => ?_)
    refine y_if_ne dX11_rusted_21 (by omega) (fun c_21 => ?_) (fun c_21 => ?_)
    · refine y_ldc2 (n := 1000000000) dX11_rusted_27 cX11_272 (by decide +kernel) ?_
      refine z_lstore_n dX11_rusted_30 (by decide) rfl rfl ?_
      refine y_iconst dX11_rusted_31 ?_
      refine z_istore dX11_rusted_32 (by decide) rfl rfl ?_
      exact loop n.toNat 0 (by omega) (by omega) (by omega)
    · refine y_ldc (n := -1000000002) dX11_rusted_24 cX11_105 (by decide +kernel) ?_
      exact z_iret dX11_rusted_26 rfl (Nat.le_refl 0) (Nat.le_refl 0) ⟨_, rfl, rfl, by omega⟩
theorem ct_X11_seed {v : Int} (hv : rg v) : yC 1 mX11_seed [.ref 134, .int (iI v)] V b (pI b (fun q V' => (v < 0 ∧ q = -1000000002 ∧ V' = V) ∨ (0 ≤ v ∧ q = V 134 7 ∧ V' = vst V 134 7 v))) := by
  refine zC_of (by decide +kernel) (Nat.le_of_ble_eq_true rfl) rfl ?_
  refine z_iload_n dX11_seed_0 rfl ?_
  refine y_if_ge dX11_seed_1 (by omega) (fun c_1 => ?_) (fun c_1 => ?_)
  · refine z_aload_n dX11_seed_7 rfl ?_
    refine y_getJ (j := 7) fX11_219 dX11_seed_8 rfl (by first | assumption | rfl) ?_
    refine y_l2i dX11_seed_11 ?_
    refine z_istore_n dX11_seed_12 (by decide) rfl rfl ?_
    refine z_aload_n dX11_seed_13 rfl ?_
    refine z_iload_n dX11_seed_14 rfl ?_
    refine y_i2l dX11_seed_15 (by omega) ?_
    refine y_putJ (j := 7) fX11_219 dX11_seed_16 rfl (by first | assumption | rfl) ?_
    refine z_iload_n dX11_seed_19 rfl ?_
    exact z_iret dX11_seed_20 rfl (Nat.le_refl 0) (Nat.le_refl 0) ⟨_, _, rfl, rfl, Or.inr ⟨by omega, rfl, rfl⟩⟩
  · refine y_ldc (n := -1000000002) dX11_seed_4 cX11_105 (by decide +kernel) ?_
    exact z_iret dX11_seed_6 rfl (Nat.le_refl 0) (Nat.le_refl 0) ⟨_, _, rfl, rfl, Or.inl ⟨by omega, rfl, rfl⟩⟩
def keepM (V : Nat → Int → Int) (i : Int) : Nat → Int → Int := vst (vst (vst (zup V 139 (icp (V 137) (V 139) 0 (48 * i) 47)) 139 (48 * i + 47) (V 134 7)) 140 i 1) 134 4 0
theorem ct_X11_keep {i : Int} (hi : rg i) : yC 2 mX11_keep [.ref 134, .int (iI i)] V b (pI b (fun q V' => (¬ (0 ≤ i ∧ i ≤ 1) ∧ q = -1000000001 ∧ V' = V) ∨ ((0 ≤ i ∧ i ≤ 1) ∧ q = 1 ∧ V' = keepM V i))) := by
  refine zC_of (by decide +kernel) (Nat.le_of_ble_eq_true rfl) rfl ?_
  refine z_iload_n dX11_keep_0 rfl ?_
  refine y_i2l dX11_keep_1 (by omega) ?_
  refine y_lconst (v := 0) dX11_keep_2 (by decide +kernel) ?_
  refine y_lconst (v := 1) dX11_keep_3 (by decide +kernel) ?_
  refine y_callSr (ct_X11_in (by omega) (by omega) (by omega)) kX11_101 dX11_keep_4 rfl rfl (by decide) rfl (Nat.le_of_ble_eq_true rfl) (fun r_4 h_4 => ?_)
  refine y_if_ne dX11_keep_7 (by omega) (fun c_7 => ?_) (fun c_7 => ?_)
  · refine z_aload_n dX11_keep_13 rfl ?_
    refine y_getR fX11_16 dX11_keep_14 (by first | assumption | rfl) (by first | assumption | rfl) ?_
    refine y_iconst dX11_keep_17 ?_
    refine z_aload_n dX11_keep_18 rfl ?_
    refine y_getR fX11_22 dX11_keep_19 (by first | assumption | rfl) (by first | assumption | rfl) ?_
    refine y_bipush dX11_keep_22 (by decide +kernel) ?_
    refine z_iload_n dX11_keep_24 rfl ?_
    refine y_imul dX11_keep_25 ?_
    refine y_callSv (ct_X11_copies (p := 137) (q := 139) (m := 47) (n := 96) rfl rfl (by decide) (by omega) (by omega) (by decide) (by decide)) kX11_196 dX11_keep_26 rfl rfl (by decide) rfl (Nat.le_of_ble_eq_true rfl) (fun V1 h_26 => ?_)
    subst h_26
    refine z_aload_n dX11_keep_29 rfl ?_
    refine y_getR fX11_22 dX11_keep_30 (by first | assumption | rfl) (by first | assumption | rfl) ?_
    refine y_bipush dX11_keep_33 (by decide +kernel) ?_
    refine z_iload_n dX11_keep_35 rfl ?_
    refine y_imul dX11_keep_36 ?_
    refine y_bipush dX11_keep_37 (by decide +kernel) ?_
    refine y_iadd dX11_keep_39 ?_
    refine z_aload_n dX11_keep_40 rfl ?_
    refine y_getJ (j := 7) fX11_219 dX11_keep_41 rfl (by first | assumption | rfl) ?_
    refine y_l2i dX11_keep_44 ?_
    refine y_iast dX11_keep_45 (by first | assumption | rfl) (by first | rfl | assumption) (by omega) ?_
    refine z_aload_n dX11_keep_46 rfl ?_
    refine y_getR fX11_25 dX11_keep_47 (by first | assumption | rfl) (by first | assumption | rfl) ?_
    refine z_iload_n dX11_keep_50 rfl ?_
    refine y_iconst dX11_keep_51 ?_
    refine y_zast dX11_keep_52 (by first | assumption | rfl) rfl (by omega) (by omega) ?_
    refine z_aload_n dX11_keep_53 rfl ?_
    refine y_iconst dX11_keep_54 ?_
    refine y_putI (j := 4) fX11_87 dX11_keep_55 rfl (by first | assumption | rfl) ?_
    refine y_iconst dX11_keep_58 ?_
    exact z_iret dX11_keep_59 rfl (Nat.le_refl 0) (Nat.le_refl 0) ⟨_, _, rfl, rfl, Or.inr ⟨by omega, rfl, by unfold keepM; rw [zup_n _ _ (show (134 : Nat) ≠ 139 by decide)]⟩⟩
  · refine y_ldc (n := -1000000001) dX11_keep_10 cX11_179 (by decide +kernel) ?_
    exact z_iret dX11_keep_12 rfl (Nat.le_refl 0) (Nat.le_refl 0) ⟨_, _, rfl, rfl, Or.inl ⟨by omega, rfl, rfl⟩⟩
def backM (V : Nat → Int → Int) (i : Int) : Nat → Int → Int := vst (vst (zup V 137 (icp (V 139) (V 137) (48 * i) 0 47)) 134 7 (V 139 (48 * i + 47))) 134 4 0
theorem ct_X11_goBack {i : Int} (hi : rg i) (hk : ∀ i, 0 ≤ V 140 i ∧ V 140 i ≤ 1) (hs : ∀ i, 0 ≤ i → i ≤ 1 → rg (V 139 (48 * i + 47))) : yC 2 mX11_goBack [.ref 134, .int (iI i)] V b (pI b (fun q V' => (¬ (0 ≤ i ∧ i ≤ 1) ∧ q = -1000000001 ∧ V' = V) ∨ ((0 ≤ i ∧ i ≤ 1) ∧ V 140 i = 0 ∧ q = -1000000003 ∧ V' = V) ∨ ((0 ≤ i ∧ i ≤ 1) ∧ V 140 i = 1 ∧ q = 1 ∧ V' = backM V i))) := by
  have hki := hk i
  refine zC_of (by decide +kernel) (Nat.le_of_ble_eq_true rfl) rfl ?_
  refine z_iload_n dX11_goBack_0 rfl ?_
  refine y_i2l dX11_goBack_1 (by omega) ?_
  refine y_lconst (v := 0) dX11_goBack_2 (by decide +kernel) ?_
  refine y_lconst (v := 1) dX11_goBack_3 (by decide +kernel) ?_
  refine y_callSr (ct_X11_in (by omega) (by omega) (by omega)) kX11_101 dX11_goBack_4 rfl rfl (by decide) rfl (Nat.le_of_ble_eq_true rfl) (fun r_4 h_4 => ?_)
  refine y_if_ne dX11_goBack_7 (by omega) (fun c_7 => ?_) (fun c_7 => ?_)
  · refine z_aload_n dX11_goBack_13 rfl ?_
    refine y_getR fX11_25 dX11_goBack_14 (by first | assumption | rfl) (by first | assumption | rfl) ?_
    refine z_iload_n dX11_goBack_17 rfl ?_
    refine y_zald dX11_goBack_18 (by first | assumption | rfl) (by first | rfl | assumption) (by omega) ?_
    refine y_if_ne dX11_goBack_19 (by omega) (fun c_19 => ?_) (fun c_19 => ?_)
    · refine z_aload_n dX11_goBack_25 rfl ?_
      refine y_getR fX11_22 dX11_goBack_26 (by first | assumption | rfl) (by first | assumption | rfl) ?_
      refine y_bipush dX11_goBack_29 (by decide +kernel) ?_
      refine z_iload_n dX11_goBack_31 rfl ?_
      refine y_imul dX11_goBack_32 ?_
      refine z_aload_n dX11_goBack_33 rfl ?_
      refine y_getR fX11_16 dX11_goBack_34 (by first | assumption | rfl) (by first | assumption | rfl) ?_
      refine y_iconst dX11_goBack_37 ?_
      refine y_callSv (ct_X11_copies (p := 139) (q := 137) (m := 96) (n := 47) rfl rfl (by decide) (by omega) (by omega) (by decide) (by decide)) kX11_196 dX11_goBack_38 rfl rfl (by decide) rfl (Nat.le_of_ble_eq_true rfl) (fun V1 h_38 => ?_)
      subst h_38
      refine z_aload_n dX11_goBack_41 rfl ?_
      refine z_aload_n dX11_goBack_42 rfl ?_
      refine y_getR fX11_22 dX11_goBack_43 (by first | assumption | rfl) (by first | assumption | rfl) ?_
      refine y_bipush dX11_goBack_46 (by decide +kernel) ?_
      refine z_iload_n dX11_goBack_48 rfl ?_
      refine y_imul dX11_goBack_49 ?_
      refine y_bipush dX11_goBack_50 (by decide +kernel) ?_
      refine y_iadd dX11_goBack_52 ?_
      refine y_iald dX11_goBack_53 (by first | assumption | rfl) (by first | rfl | assumption) (by omega) ?_
      rw [zup_n _ _ (show (139 : Nat) ≠ 137 by decide)]
      refine y_i2l dX11_goBack_54 (hs i (by omega) (by omega)) ?_
      refine y_putJ (j := 7) fX11_219 dX11_goBack_55 rfl (by first | assumption | rfl) ?_
      refine z_aload_n dX11_goBack_58 rfl ?_
      refine y_iconst dX11_goBack_59 ?_
      refine y_putI (j := 4) fX11_87 dX11_goBack_60 rfl (by first | assumption | rfl) ?_
      refine y_iconst dX11_goBack_63 ?_
      exact z_iret dX11_goBack_64 rfl (Nat.le_refl 0) (Nat.le_refl 0) ⟨_, _, rfl, rfl, Or.inr (Or.inr ⟨by omega, by omega, rfl, rfl⟩)⟩
    · refine y_ldc (n := -1000000003) dX11_goBack_22 cX11_208 (by decide +kernel) ?_
      exact z_iret dX11_goBack_24 rfl (Nat.le_refl 0) (Nat.le_refl 0) ⟨_, _, rfl, rfl, Or.inr (Or.inl ⟨by omega, by omega, rfl, rfl⟩)⟩
  · refine y_ldc (n := -1000000001) dX11_goBack_10 cX11_179 (by decide +kernel) ?_
    exact z_iret dX11_goBack_12 rfl (Nat.le_refl 0) (Nat.le_refl 0) ⟨_, _, rfl, rfl, Or.inl ⟨by omega, rfl, rfl⟩⟩
end

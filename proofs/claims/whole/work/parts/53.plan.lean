/-! ===== Planner, at 113 ===== -/
abbrev pA4 : Type := (Int → Int) × (Int → Int) × Int × Int
/-- over the first n -/
def fld {α : Type} (f : Nat → α → α) : Nat → α → α
  | 0, a => a
  | r + 1, a => f r (fld f r a)
/-- the search: row, best, least kicks, least cuts -/
def exA (R : Nat) (g : Int) (kd rm : Int → Int) : Nat → Int → Int → Int → (Int → Int) → (Int → Int) → pA4 → pA4
  | 0, _, k, c, _, _, A => if k < A.2.2.1 ∨ (k = A.2.2.1 ∧ c < A.2.2.2) then (A.1, icp A.1 A.2.1 0 0 7, k, c) else A
  | n + 1, i, k, c, cn, tl, A => if k < A.2.2.1 ∨ (k = A.2.2.1 ∧ c < A.2.2.2) then fld (fun r B => if cn r < rm r then exA R g kd rm n (i + 1) (k + kkI g (tl r) (kd i)) (if 0 < i ∧ B.1 (i - 1) = r then c else c + 1) (iup cn r (cn r + 1)) (iup tl r (kd i)) (iup B.1 i r, B.2) else B) R A else A
def accI (A : pA4) : Prop := (∀ j, 0 ≤ A.1 j ∧ A.1 j ≤ 3) ∧ (∀ j, 0 ≤ A.2.1 j ∧ A.2.1 j ≤ 3) ∧ (0 ≤ A.2.2.1 ∧ A.2.2.1 ≤ 8) ∧ (0 ≤ A.2.2.2 ∧ A.2.2.2 ≤ 7)
theorem fld_inv {α : Type} {f : Nat → α → α} {P : α → Prop} : ∀ (n : Nat) (a : α), P a → (∀ r a, r < n → P a → P (f r a)) → P (fld f n a)
  | 0, _, h, _ => h
  | n + 1, a, h, hs => hs n _ (by omega) (fld_inv n a h (fun r a hr => hs r a (by omega)))
theorem exA_I {R : Nat} {g : Int} {kd rm : Int → Int} (hR : R ≤ 4) : ∀ (n : Nat) (i k c : Int) (cn tl : Int → Int) (A : pA4), 0 ≤ k → k + n ≤ 7 → 0 ≤ c → c + n ≤ 7 → accI A → accI (exA R g kd rm n i k c cn tl A)
  | 0, i, k, c, cn, tl, A, h1, h2, h3, h4, hA => by
    unfold exA
    split
    · exact ⟨hA.1, icp_le hA.1 hA.2.1, ⟨h1, by show k ≤ 8; omega⟩, ⟨h3, by show c ≤ 7; omega⟩⟩
    · exact hA
  | n + 1, i, k, c, cn, tl, A, h1, h2, h3, h4, hA => by
    unfold exA
    split
    · refine fld_inv R A hA (fun r B hr hB => ?_)
      split
      · have := kkI_01 g (tl r) (kd i)
        refine exA_I hR n (i + 1) _ _ _ _ _ (by omega) (by omega) (by split <;> omega) (by split <;> omega) ⟨iup_le hB.1 (by omega), hB.2⟩
      · exact hB
    · exact hA
def accV (V : Nat → Int → Int) : pA4 := (V 114, V 115, V 113 2, V 113 3)
def setP (V : Nat → Int → Int) (A : pA4) : Nat → Int → Int := zup (zup (vst (vst V 113 2 A.2.2.1) 113 3 A.2.2.2) 114 A.1) 115 A.2.1
section
variable {V : Nat → Int → Int} {b : Bool}
theorem setP_o {A : pA4} {a : Nat} (h3 : a ≠ 113) (h4 : a ≠ 114) (h5 : a ≠ 115) : setP V A a = V a := by unfold setP; rw [zup_n _ _ h5, zup_n _ _ h4, vst_o h3, vst_o h3]
theorem setP_4 {A : pA4} : setP V A 114 = A.1 := by unfold setP; rw [zup_n _ _ (by decide), zup_s]
theorem setP_5 {A : pA4} : setP V A 115 = A.2.1 := by unfold setP; rw [zup_s]
theorem setP_k {A : pA4} : setP V A 113 2 = A.2.2.1 := by unfold setP; rw [zup_n _ _ (by decide), zup_n _ _ (by decide), vst_n (by decide), vst_s]
theorem setP_c {A : pA4} : setP V A 113 3 = A.2.2.2 := by unfold setP; rw [zup_n _ _ (by decide), zup_n _ _ (by decide), vst_s]
theorem setP_id : setP V (accV V) = V := by
  funext a
  by_cases h5 : a = 115
  · subst h5; exact setP_5
  · by_cases h4 : a = 114
    · subst h4; exact setP_4
    · by_cases h3 : a = 113
      · subst h3
        funext j
        by_cases h2 : j = 2
        · subst h2; exact setP_k
        · by_cases h3 : j = 3
          · subst h3; exact setP_c
          · unfold setP; rw [zup_n _ _ (by decide), zup_n _ _ (by decide), vst_n h3, vst_n h2]
      · exact setP_o h3 h4 h5
theorem setP_ext {U : Nat → Int → Int} {A : pA4} (h4 : U 114 = A.1) (h5 : U 115 = A.2.1) (hk : U 113 2 = A.2.2.1) (hc : U 113 3 = A.2.2.2) (h3 : ∀ j, j ≠ 2 → j ≠ 3 → U 113 j = V 113 j) (ho : ∀ a, a ≠ 113 → a ≠ 114 → a ≠ 115 → U a = V a) : U = setP V A := by
  funext a
  by_cases q5 : a = 115
  · subst q5; rw [setP_5]; exact h5
  · by_cases q4 : a = 114
    · subst q4; rw [setP_4]; exact h4
    · by_cases q3 : a = 113
      · subst q3
        funext j
        by_cases j2 : j = 2
        · subst j2; rw [setP_k]; exact hk
        · by_cases j3 : j = 3
          · subst j3; rw [setP_c]; exact hc
          · rw [h3 j j2 j3]; unfold setP; rw [zup_n _ _ (by decide), zup_n _ _ (by decide), vst_n j3, vst_n j2]
      · rw [setP_o q3 q4 q5]; exact ho a q3 q4 q5
theorem setP_3 {A : pA4} {j : Int} (h2 : j ≠ 2) (h3 : j ≠ 3) : setP V A 113 j = V 113 j := by unfold setP; rw [zup_n _ _ (by decide), zup_n _ _ (by decide), vst_n h3, vst_n h2]
theorem BS_congr {V' : Nat → Int → Int} (h : ∀ a, 108 ≤ a → a ≤ 112 → V' a = V a) (hB : BS V) : BS V' := by
  unfold BS at *
  rw [h 108 (by omega) (by omega), h 109 (by omega) (by omega), h 110 (by omega) (by omega), h 111 (by omega) (by omega), h 112 (by omega) (by omega)]
  exact hB
theorem putB_1 {i r : Int} : putB V i r 111 = iup (V 111) r (V 111 r + 1) := by unfold putB; rw [vst_o (by decide)]; unfold vst; rw [zup_s]
theorem putB_2 {i r : Int} : putB V i r 112 = iup (V 112) r (V 109 i) := by unfold putB; unfold vst; rw [zup_s, zup_n _ _ (by decide)]
theorem ct_X6_extend : ∀ (n : Nat) (i k c : Int) (V : Nat → Int → Int), BS V → accI (accV V) → 0 ≤ i → i + n = V 108 5 → 0 ≤ k → k + n ≤ 7 → 0 ≤ c → c + n ≤ 7 → yC (n + 4) mX6_extend [.ref 113, .ref 108, .int (iI i), .int (iI k), .int (iI c)] V b (pV b (fun V' => V' = setP V (exA (V 108 4).toNat (V 108 6) (V 109) (V 110) n i k c (V 111) (V 112) (accV V)))) := by
  intro n
  induction n with
  | zero =>
    intro i k c V hB hA h1 h2 h3 h4 h5 h6
    obtain ⟨b0, b1, b2, b3, b4, b5, b6⟩ := id hB
    obtain ⟨a1, a2, a3, a4⟩ := id hA
    have ak : 0 ≤ V 113 2 ∧ V 113 2 ≤ 8 := a3
    have ac : 0 ≤ V 113 3 ∧ V 113 3 ≤ 7 := a4
    have eT : (k < V 113 2 ∨ (k = V 113 2 ∧ c < V 113 3)) → exA (V 108 4).toNat (V 108 6) (V 109) (V 110) 0 i k c (V 111) (V 112) (accV V) = (V 114, icp (V 114) (V 115) 0 0 7, k, c) := fun h => by unfold exA; rw [if_pos (show k < (accV V).2.2.1 ∨ (k = (accV V).2.2.1 ∧ c < (accV V).2.2.2) from h)]; rfl
    have eF : ¬ (k < V 113 2 ∨ (k = V 113 2 ∧ c < V 113 3)) → exA (V 108 4).toNat (V 108 6) (V 109) (V 110) 0 i k c (V 111) (V 112) (accV V) = accV V := fun h => by unfold exA; rw [if_neg (show ¬ (k < (accV V).2.2.1 ∨ (k = (accV V).2.2.1 ∧ c < (accV V).2.2.2)) from h)]
    refine zC_of (by decide +kernel) (Nat.le_of_ble_eq_true rfl) rfl ?_
    refine z_iload_n dX6_extend_0 rfl ?_
    refine z_aload_n dX6_extend_1 rfl ?_
    refine y_getI (j := 2) fX6_18 dX6_extend_2 rfl (by first | assumption | rfl) ?_
    refine y_icmp_lt dX6_extend_5 (by omega) (by omega) (fun c_5 => ?_) (fun c_5 => ?_)
    · refine y_iconst dX6_extend_25 ?_
      refine z_goto dX6_extend_26 ?_
      refine z_istore dX6_extend_30 (by decide) rfl rfl ?_
      skip
      refine z_iload dX6_extend_32 rfl ?_
      refine y_if_ne dX6_extend_34 (by omega) (fun c_34 => ?_) (fun c_34 => ?_)
      · refine z_iload_n dX6_extend_38 rfl ?_
        refine z_aload_n dX6_extend_39 rfl ?_
        refine y_getI (j := 5) fX6_29 dX6_extend_40 rfl (by first | assumption | rfl) ?_
        refine y_icmp_ge dX6_extend_43 (by omega) (by omega) (fun c_43 => ?_) (fun c_43 => ?_)
        · refine z_aload_n dX6_extend_52 rfl ?_
          refine z_iload_n dX6_extend_53 rfl ?_
          refine y_putI (j := 2) fX6_18 dX6_extend_54 rfl (by first | assumption | rfl) ?_
          refine z_aload_n dX6_extend_57 rfl ?_
          refine z_iload dX6_extend_58 rfl ?_
          refine y_putI (j := 3) fX6_22 dX6_extend_60 rfl (by first | assumption | rfl) ?_
          refine z_aload_n dX6_extend_63 rfl ?_
          refine y_getR fX6_9 dX6_extend_64 (by first | assumption | rfl) (by first | assumption | rfl) ?_
          refine y_iconst dX6_extend_67 ?_
          refine z_aload_n dX6_extend_68 rfl ?_
          refine y_getR fX6_15 dX6_extend_69 (by first | assumption | rfl) (by first | assumption | rfl) ?_
          refine y_iconst dX6_extend_72 ?_
          refine y_bipush dX6_extend_73 (by decide +kernel) ?_
          refine y_copy dX6_extend_75 kX6_34 (by first | assumption | rfl) (by first | assumption | rfl) rfl rfl (by omega) (by omega) (by omega) (by omega) (by omega) (by decide +kernel) (by decide +kernel) ?_
          exact z_vret dX6_extend_78 rfl (Nat.le_refl 0) (Nat.le_refl 0) ⟨_, rfl, rfl, by
            rw [eT (by omega)]
            refine setP_ext ?_ ?_ ?_ ?_ ?_ ?_
            · rw [zup_n _ _ (by decide), vst_o (by decide), vst_o (by decide)]
            · rw [zup_s, vst_o (by decide), vst_o (by decide), vst_o (by decide), vst_o (by decide)]
            · rw [zup_n _ _ (by decide), vst_n (by decide), vst_s]
            · rw [zup_n _ _ (by decide), vst_s]
            · intro j j2 j3; rw [zup_n _ _ (by decide), vst_n j3, vst_n j2]
            · intro a q3 q4 q5; rw [zup_n _ _ q5, vst_o q3, vst_o q3]⟩
        · omega
      · exact z_vret dX6_extend_37 rfl (Nat.le_refl 0) (Nat.le_refl 0) ⟨_, rfl, rfl, by rw [eF (by omega), setP_id]⟩
    · refine z_iload_n dX6_extend_8 rfl ?_
      refine z_aload_n dX6_extend_9 rfl ?_
      refine y_getI (j := 2) fX6_18 dX6_extend_10 rfl (by first | assumption | rfl) ?_
      refine y_icmp_ne dX6_extend_13 (by omega) (by omega) (fun c_13 => ?_) (fun c_13 => ?_)
      · refine y_iconst dX6_extend_29 ?_
        refine z_istore dX6_extend_30 (by decide) rfl rfl ?_
        skip
        refine z_iload dX6_extend_32 rfl ?_
        refine y_if_ne dX6_extend_34 (by omega) (fun c_34 => ?_) (fun c_34 => ?_)
        · refine z_iload_n dX6_extend_38 rfl ?_
          refine z_aload_n dX6_extend_39 rfl ?_
          refine y_getI (j := 5) fX6_29 dX6_extend_40 rfl (by first | assumption | rfl) ?_
          refine y_icmp_ge dX6_extend_43 (by omega) (by omega) (fun c_43 => ?_) (fun c_43 => ?_)
          · refine z_aload_n dX6_extend_52 rfl ?_
            refine z_iload_n dX6_extend_53 rfl ?_
            refine y_putI (j := 2) fX6_18 dX6_extend_54 rfl (by first | assumption | rfl) ?_
            refine z_aload_n dX6_extend_57 rfl ?_
            refine z_iload dX6_extend_58 rfl ?_
            refine y_putI (j := 3) fX6_22 dX6_extend_60 rfl (by first | assumption | rfl) ?_
            refine z_aload_n dX6_extend_63 rfl ?_
            refine y_getR fX6_9 dX6_extend_64 (by first | assumption | rfl) (by first | assumption | rfl) ?_
            refine y_iconst dX6_extend_67 ?_
            refine z_aload_n dX6_extend_68 rfl ?_
            refine y_getR fX6_15 dX6_extend_69 (by first | assumption | rfl) (by first | assumption | rfl) ?_
            refine y_iconst dX6_extend_72 ?_
            refine y_bipush dX6_extend_73 (by decide +kernel) ?_
            refine y_copy dX6_extend_75 kX6_34 (by first | assumption | rfl) (by first | assumption | rfl) rfl rfl (by omega) (by omega) (by omega) (by omega) (by omega) (by decide +kernel) (by decide +kernel) ?_
            exact z_vret dX6_extend_78 rfl (Nat.le_refl 0) (Nat.le_refl 0) ⟨_, rfl, rfl, by
              rw [eT (by omega)]
              refine setP_ext ?_ ?_ ?_ ?_ ?_ ?_
              · rw [zup_n _ _ (by decide), vst_o (by decide), vst_o (by decide)]
              · rw [zup_s, vst_o (by decide), vst_o (by decide), vst_o (by decide), vst_o (by decide)]
              · rw [zup_n _ _ (by decide), vst_n (by decide), vst_s]
              · rw [zup_n _ _ (by decide), vst_s]
              · intro j j2 j3; rw [zup_n _ _ (by decide), vst_n j3, vst_n j2]
              · intro a q3 q4 q5; rw [zup_n _ _ q5, vst_o q3, vst_o q3]⟩
          · omega
        · exact z_vret dX6_extend_37 rfl (Nat.le_refl 0) (Nat.le_refl 0) ⟨_, rfl, rfl, by rw [eF (by omega), setP_id]⟩
      · refine z_iload dX6_extend_16 rfl ?_
        refine z_aload_n dX6_extend_18 rfl ?_
        refine y_getI (j := 3) fX6_22 dX6_extend_19 rfl (by first | assumption | rfl) ?_
        refine y_icmp_ge dX6_extend_22 (by omega) (by omega) (fun c_22 => ?_) (fun c_22 => ?_)
        · refine y_iconst dX6_extend_29 ?_
          refine z_istore dX6_extend_30 (by decide) rfl rfl ?_
          skip
          refine z_iload dX6_extend_32 rfl ?_
          refine y_if_ne dX6_extend_34 (by omega) (fun c_34 => ?_) (fun c_34 => ?_)
          · refine z_iload_n dX6_extend_38 rfl ?_
            refine z_aload_n dX6_extend_39 rfl ?_
            refine y_getI (j := 5) fX6_29 dX6_extend_40 rfl (by first | assumption | rfl) ?_
            refine y_icmp_ge dX6_extend_43 (by omega) (by omega) (fun c_43 => ?_) (fun c_43 => ?_)
            · refine z_aload_n dX6_extend_52 rfl ?_
              refine z_iload_n dX6_extend_53 rfl ?_
              refine y_putI (j := 2) fX6_18 dX6_extend_54 rfl (by first | assumption | rfl) ?_
              refine z_aload_n dX6_extend_57 rfl ?_
              refine z_iload dX6_extend_58 rfl ?_
              refine y_putI (j := 3) fX6_22 dX6_extend_60 rfl (by first | assumption | rfl) ?_
              refine z_aload_n dX6_extend_63 rfl ?_
              refine y_getR fX6_9 dX6_extend_64 (by first | assumption | rfl) (by first | assumption | rfl) ?_
              refine y_iconst dX6_extend_67 ?_
              refine z_aload_n dX6_extend_68 rfl ?_
              refine y_getR fX6_15 dX6_extend_69 (by first | assumption | rfl) (by first | assumption | rfl) ?_
              refine y_iconst dX6_extend_72 ?_
              refine y_bipush dX6_extend_73 (by decide +kernel) ?_
              refine y_copy dX6_extend_75 kX6_34 (by first | assumption | rfl) (by first | assumption | rfl) rfl rfl (by omega) (by omega) (by omega) (by omega) (by omega) (by decide +kernel) (by decide +kernel) ?_
              exact z_vret dX6_extend_78 rfl (Nat.le_refl 0) (Nat.le_refl 0) ⟨_, rfl, rfl, by
                rw [eT (by omega)]
                refine setP_ext ?_ ?_ ?_ ?_ ?_ ?_
                · rw [zup_n _ _ (by decide), vst_o (by decide), vst_o (by decide)]
                · rw [zup_s, vst_o (by decide), vst_o (by decide), vst_o (by decide), vst_o (by decide)]
                · rw [zup_n _ _ (by decide), vst_n (by decide), vst_s]
                · rw [zup_n _ _ (by decide), vst_s]
                · intro j j2 j3; rw [zup_n _ _ (by decide), vst_n j3, vst_n j2]
                · intro a q3 q4 q5; rw [zup_n _ _ q5, vst_o q3, vst_o q3]⟩
            · omega
          · exact z_vret dX6_extend_37 rfl (Nat.le_refl 0) (Nat.le_refl 0) ⟨_, rfl, rfl, by rw [eF (by omega), setP_id]⟩
        · refine y_iconst dX6_extend_25 ?_
          refine z_goto dX6_extend_26 ?_
          refine z_istore dX6_extend_30 (by decide) rfl rfl ?_
          skip
          refine z_iload dX6_extend_32 rfl ?_
          refine y_if_ne dX6_extend_34 (by omega) (fun c_34 => ?_) (fun c_34 => ?_)
          · refine z_iload_n dX6_extend_38 rfl ?_
            refine z_aload_n dX6_extend_39 rfl ?_
            refine y_getI (j := 5) fX6_29 dX6_extend_40 rfl (by first | assumption | rfl) ?_
            refine y_icmp_ge dX6_extend_43 (by omega) (by omega) (fun c_43 => ?_) (fun c_43 => ?_)
            · refine z_aload_n dX6_extend_52 rfl ?_
              refine z_iload_n dX6_extend_53 rfl ?_
              refine y_putI (j := 2) fX6_18 dX6_extend_54 rfl (by first | assumption | rfl) ?_
              refine z_aload_n dX6_extend_57 rfl ?_
              refine z_iload dX6_extend_58 rfl ?_
              refine y_putI (j := 3) fX6_22 dX6_extend_60 rfl (by first | assumption | rfl) ?_
              refine z_aload_n dX6_extend_63 rfl ?_
              refine y_getR fX6_9 dX6_extend_64 (by first | assumption | rfl) (by first | assumption | rfl) ?_
              refine y_iconst dX6_extend_67 ?_
              refine z_aload_n dX6_extend_68 rfl ?_
              refine y_getR fX6_15 dX6_extend_69 (by first | assumption | rfl) (by first | assumption | rfl) ?_
              refine y_iconst dX6_extend_72 ?_
              refine y_bipush dX6_extend_73 (by decide +kernel) ?_
              refine y_copy dX6_extend_75 kX6_34 (by first | assumption | rfl) (by first | assumption | rfl) rfl rfl (by omega) (by omega) (by omega) (by omega) (by omega) (by decide +kernel) (by decide +kernel) ?_
              exact z_vret dX6_extend_78 rfl (Nat.le_refl 0) (Nat.le_refl 0) ⟨_, rfl, rfl, by
                rw [eT (by omega)]
                refine setP_ext ?_ ?_ ?_ ?_ ?_ ?_
                · rw [zup_n _ _ (by decide), vst_o (by decide), vst_o (by decide)]
                · rw [zup_s, vst_o (by decide), vst_o (by decide), vst_o (by decide), vst_o (by decide)]
                · rw [zup_n _ _ (by decide), vst_n (by decide), vst_s]
                · rw [zup_n _ _ (by decide), vst_s]
                · intro j j2 j3; rw [zup_n _ _ (by decide), vst_n j3, vst_n j2]
                · intro a q3 q4 q5; rw [zup_n _ _ q5, vst_o q3, vst_o q3]⟩
            · omega
          · exact z_vret dX6_extend_37 rfl (Nat.le_refl 0) (Nat.le_refl 0) ⟨_, rfl, rfl, by rw [eF (by omega), setP_id]⟩
  | succ n ih =>
    intro i k c V hB hA h1 h2 h3 h4 h5 h6
    obtain ⟨b0, b1, b2, b3, b4, b5, b6⟩ := id hB
    obtain ⟨a1, a2, a3, a4⟩ := id hA
    have ak : 0 ≤ V 113 2 ∧ V 113 2 ≤ 8 := a3
    have ac : 0 ≤ V 113 3 ∧ V 113 3 ≤ 7 := a4
    obtain ⟨f, hf⟩ : ∃ f : Nat → pA4 → pA4, f = fun (r : Nat) B => if V 111 (r : Int) < V 110 (r : Int) then exA (V 108 4).toNat (V 108 6) (V 109) (V 110) n (i + 1) (k + kkI (V 108 6) (V 112 (r : Int)) (V 109 i)) (if 0 < i ∧ B.1 (i - 1) = (r : Int) then c else c + 1) (iup (V 111) (r : Int) (V 111 (r : Int) + 1)) (iup (V 112) (r : Int) (V 109 i)) (iup B.1 i (r : Int), B.2) else B := ⟨_, rfl⟩
    have eT : (k < V 113 2 ∨ (k = V 113 2 ∧ c < V 113 3)) → exA (V 108 4).toNat (V 108 6) (V 109) (V 110) (n + 1) i k c (V 111) (V 112) (accV V) = fld f (V 108 4).toNat (accV V) := fun h => by
      rw [hf]
      show (if k < (accV V).2.2.1 ∨ (k = (accV V).2.2.1 ∧ c < (accV V).2.2.2) then _ else _) = _
      rw [if_pos (show k < (accV V).2.2.1 ∨ (k = (accV V).2.2.1 ∧ c < (accV V).2.2.2) from h)]
    have eF : ¬ (k < V 113 2 ∨ (k = V 113 2 ∧ c < V 113 3)) → exA (V 108 4).toNat (V 108 6) (V 109) (V 110) (n + 1) i k c (V 111) (V 112) (accV V) = accV V := fun h => by
      show (if k < (accV V).2.2.1 ∨ (k = (accV V).2.2.1 ∧ c < (accV V).2.2.2) then _ else _) = _
      rw [if_neg (show ¬ (k < (accV V).2.2.1 ∨ (k = (accV V).2.2.1 ∧ c < (accV V).2.2.2)) from h)]
    have hfI : ∀ r B, r < (V 108 4).toNat → accI B → accI (f r B) := by
      intro r B hr hBi
      rw [hf]
      simp only
      split
      · have := kkI_01 (V 108 6) (V 112 (r : Int)) (V 109 i)
        exact exA_I (by omega) n (i + 1) _ _ _ _ _ (by omega) (by omega) (by split <;> omega) (by split <;> omega) ⟨iup_le hBi.1 (by omega), hBi.2⟩
      · exact hBi
    have hI : ∀ r, r ≤ (V 108 4).toNat → accI (fld f r (accV V)) := fun r hr => fld_inv r (accV V) hA (fun s B hs => hfI s B (by omega))
    have loop : ∀ (t r : Nat) (bt : Int) (a7 a8 a9 : Option Value), (k < V 113 2 ∨ (k = V 113 2 ∧ c < V 113 3)) → (r : Int) + t = V 108 4 → ((∃ v, a7 = some (.int v)) ∨ a7 = none) → ((∃ v, a8 = some (.int v)) ∨ a8 = none) → yE (n + 1 + 4) (pV b (fun V' => V' = setP V (exA (V 108 4).toNat (V 108 6) (V 109) (V 110) (n + 1) i k c (V 111) (V 112) (accV V)))) mX6_extend 82 [some (.ref 113), some (.ref 108), some (.int (iI i)), some (.int (iI k)), some (.int (iI c)), some (.int (iI bt)), some (.int (iI (r : Nat))), a7, a8, a9] [] (setP V (fld f r (accV V))) b := by
      intro t
      induction t with
      | zero =>
        intro r bt a7 a8 a9 hbet ht h7 h8
        have e8 : setP V (fld f r (accV V)) 108 = V 108 := setP_o (by decide) (by decide) (by decide)
        refine z_iload dX6_extend_82 rfl ?_
        refine z_aload_n dX6_extend_84 rfl ?_
        refine y_getI (j := 4) fX6_40 dX6_extend_85 rfl (by first | assumption | rfl) ?_
        rw [e8]
        refine y_icmp_ge dX6_extend_88 (by omega) (by omega) (fun c_88 => ?_) (fun c_88 => ?_)
        · exact z_vret dX6_extend_189 rfl (Nat.le_refl 0) (Nat.le_refl 0) ⟨_, rfl, rfl, by rw [eT hbet, show (V 108 4).toNat = r by omega]⟩
        · omega
      | succ t iht =>
        intro r bt a7 a8 a9 hbet ht h7 h8
        obtain ⟨B, hBd⟩ : ∃ B, B = fld f r (accV V) := ⟨_, rfl⟩
        have hBI : accI B := by rw [hBd]; exact hI r (by omega)
        obtain ⟨i1, i2, i3, i4⟩ := id hBI
        have e8 : setP V B 108 = V 108 := setP_o (by decide) (by decide) (by decide)
        have e9 : setP V B 109 = V 109 := setP_o (by decide) (by decide) (by decide)
        have e10 : setP V B 110 = V 110 := setP_o (by decide) (by decide) (by decide)
        have e11 : setP V B 111 = V 111 := setP_o (by decide) (by decide) (by decide)
        have e12 : setP V B 112 = V 112 := setP_o (by decide) (by decide) (by decide)
        have hBS' : BS (setP V B) := BS_congr (fun a q1 q2 => setP_o (by omega) (by omega) (by omega)) hB
        have c4 := b4 r (by omega) (by omega)
        have c5 := b5 r (by omega) (by omega)
        have c6 := b6 r (by omega) (by omega)
        have i11 := i1 (i - 1)
        have hk01 := kkI_01 (V 108 6) (V 112 (r : Int)) (V 109 i)
        have next : ∀ (a7 a8 a9 : Option Value), ((∃ v, a7 = some (.int v)) ∨ a7 = none) → ((∃ v, a8 = some (.int v)) ∨ a8 = none) → yE (n + 1 + 4) (pV b (fun V' => V' = setP V (exA (V 108 4).toNat (V 108 6) (V 109) (V 110) (n + 1) i k c (V 111) (V 112) (accV V)))) mX6_extend 183 [some (.ref 113), some (.ref 108), some (.int (iI i)), some (.int (iI k)), some (.int (iI c)), some (.int (iI bt)), some (.int (iI (r : Nat))), a7, a8, a9] [] (setP V (f r B)) b := by
          intro a7 a8 a9 g7 g8
          have hh := iht (r + 1) bt a7 a8 a9 hbet (by omega) g7 g8
          rw [show ((r + 1 : Nat) : Int) = (r : Int) + 1 by omega, show fld f (r + 1) (accV V) = f r B by rw [hBd]; rfl] at hh
          refine y_iinc dX6_extend_183 rfl (by decide) rfl rfl ?_
          refine z_goto dX6_extend_186 ?_
          exact hh
        rw [← hBd]
        -- from the writing of row[i] on, with the cuts as they are then
        have rest : ∀ (sm : Int), V 111 (r : Int) < V 110 (r : Int) → (sm = 0 ∨ sm = 1) → (sm = 1 ↔ (0 < i ∧ B.1 (i - 1) = (r : Int))) → yE (n + 1 + 4) (pV b (fun V' => V' = setP V (exA (V 108 4).toNat (V 108 6) (V 109) (V 110) (n + 1) i k c (V 111) (V 112) (accV V)))) mX6_extend 141 [some (.ref 113), some (.ref 108), some (.int (iI i)), some (.int (iI k)), some (.int (iI c)), some (.int (iI bt)), some (.int (iI (r : Nat))), some (.int (iI (V 112 (r : Int)))), some (.int (iI (kkI (V 108 6) (V 112 (r : Int)) (V 109 i)))), some (.int (iI sm))] [] (putB (setP V B) i r) b := by
          intro sm hroom hs01 hsm
          obtain ⟨c', hc'⟩ : ∃ c' : Int, c' = if 0 < i ∧ B.1 (i - 1) = (r : Int) then c else c + 1 := ⟨_, rfl⟩
          have hc1 : c ≤ c' ∧ c' ≤ c + 1 := by rw [hc']; split <;> omega
          have u8 : vst (putB (setP V B) i r) 114 i r 108 = V 108 := by rw [vst_o (by decide), putB_o (by decide) (by decide), e8]
          have u9 : vst (putB (setP V B) i r) 114 i r 109 = V 109 := by rw [vst_o (by decide), putB_o (by decide) (by decide), e9]
          have u10 : vst (putB (setP V B) i r) 114 i r 110 = V 110 := by rw [vst_o (by decide), putB_o (by decide) (by decide), e10]
          have u11 : vst (putB (setP V B) i r) 114 i r 111 = iup (V 111) r (V 111 r + 1) := by rw [vst_o (by decide), putB_1, e11]
          have u12 : vst (putB (setP V B) i r) 114 i r 112 = iup (V 112) r (V 109 i) := by rw [vst_o (by decide), putB_2, e12, e9]
          have uA : accV (vst (putB (setP V B) i r) 114 i r) = (iup B.1 i r, B.2) := by
            unfold accV
            rw [vst_o (show (115 : Nat) ≠ 114 by decide), vst_o (show (113 : Nat) ≠ 114 by decide), putB_o (by decide) (by decide), putB_o (by decide) (by decide), setP_5, setP_k, setP_c]
            unfold vst
            rw [zup_s, putB_o (by decide) (by decide), setP_4]
          have uB : BS (vst (putB (setP V B) i r) 114 i r) := BS_congr (V := putB (setP V B) i r) (fun a q1 q2 => vst_o (by omega)) (BS_put (by rw [e8]; omega) (by rw [e8]; omega) (by rw [e11, e10]; exact hroom) hBS')
          have uI : accI (accV (vst (putB (setP V B) i r) 114 i r)) := by rw [uA]; exact ⟨iup_le i1 (by omega), i2, i3, i4⟩
          have hcall := ih (i + 1) (k + kkI (V 108 6) (V 112 (r : Int)) (V 109 i)) c' (vst (putB (setP V B) i r) 114 i r) uB uI (by omega) (by rw [u8]; omega) (by omega) (by omega) (by omega) (by omega)
          rw [u8, u9, u10, u11, u12, uA] at hcall
          have hfr : f r B = exA (V 108 4).toNat (V 108 6) (V 109) (V 110) n (i + 1) (k + kkI (V 108 6) (V 112 (r : Int)) (V 109 i)) c' (iup (V 111) (r : Int) (V 111 (r : Int) + 1)) (iup (V 112) (r : Int) (V 109 i)) (iup B.1 i (r : Int), B.2) := by
            rw [hf, hc']
            simp only
            rw [if_pos hroom]
          rw [← hfr] at hcall
          -- what takeBack leaves
          have hback : vst (vst (setP (vst (putB (setP V B) i r) 114 i r) (f r B)) 111 r (setP (vst (putB (setP V B) i r) 114 i r) (f r B) 111 r - 1)) 112 r (V 112 r) = setP V (f r B) := by
            refine setP_ext ?_ ?_ ?_ ?_ ?_ ?_
            · rw [vst_o (by decide), vst_o (by decide), setP_4]
            · rw [vst_o (by decide), vst_o (by decide), setP_5]
            · rw [vst_o (by decide), vst_o (by decide), setP_k]
            · rw [vst_o (by decide), vst_o (by decide), setP_c]
            · intro j j2 j3
              rw [vst_o (by decide), vst_o (by decide), setP_3 j2 j3, vst_o (by decide), putB_o (by decide) (by decide), setP_3 j2 j3]
            · intro a q3 q4 q5
              by_cases q2 : a = 112
              · subst q2
                funext j
                by_cases hj : j = r
                · subst hj; rw [vst_s]
                · rw [vst_n hj, vst_o (by decide), setP_o (by decide) (by decide) (by decide), u12, iup_n hj]
              · rw [vst_o q2]
                by_cases q1 : a = 111
                · subst q1
                  funext j
                  by_cases hj : j = r
                  · subst hj; rw [vst_s, setP_o (by decide) (by decide) (by decide), u11, iup_s]; omega
                  · rw [vst_n hj, setP_o (by decide) (by decide) (by decide), u11, iup_n hj]
                · rw [vst_o q1, setP_o q3 q4 q5, vst_o q4, putB_o q1 q2, setP_o q3 q4 q5]
          have v8 : setP (vst (putB (setP V B) i r) 114 i r) (f r B) 108 = V 108 := by rw [setP_o (by decide) (by decide) (by decide), u8]
          refine z_aload_n dX6_extend_141 rfl ?_
          refine y_getR fX6_9 dX6_extend_142 (by first | assumption | rfl) (by first | assumption | rfl) ?_
          refine z_iload_n dX6_extend_145 rfl ?_
          refine z_iload dX6_extend_146 rfl ?_
          refine y_iast dX6_extend_148 (by first | assumption | rfl) (by first | rfl | assumption) (by omega) ?_
          refine z_aload_n dX6_extend_149 rfl ?_
          refine z_aload_n dX6_extend_150 rfl ?_
          refine z_iload_n dX6_extend_151 rfl ?_
          refine y_iconst dX6_extend_152 ?_
          refine y_iadd dX6_extend_153 ?_
          refine z_iload_n dX6_extend_154 rfl ?_
          refine z_iload dX6_extend_155 rfl ?_
          refine y_iadd dX6_extend_157 ?_
          refine z_iload dX6_extend_158 rfl ?_
          refine y_if_eq dX6_extend_160 (by omega) (fun c_160 => ?_) (fun c_160 => ?_)
          · have hcc : c + 1 = c' := by rw [hc', if_neg (fun h => by have := hsm.2 h; omega)]
            rw [← hcc] at hcall
            refine z_iload dX6_extend_168 rfl ?_
            refine y_iconst dX6_extend_170 ?_
            refine y_iadd dX6_extend_171 ?_
            refine y_callVv (hcall) kX6_25 dX6_extend_172 rfl rfl (by first | assumption | rfl) rfl (by omega) rfl (Nat.le_of_ble_eq_true rfl) (fun V1 h_172 => ?_)
            subst h_172
            refine z_aload_n dX6_extend_175 rfl ?_
            refine z_iload dX6_extend_176 rfl ?_
            refine z_iload dX6_extend_178 rfl ?_
            refine y_callVv (ct_X0_takeBack (by rw [v8]; omega) (by rw [v8]; omega)) kX6_55 dX6_extend_180 rfl rfl (by first | assumption | rfl) rfl (by omega) rfl (Nat.le_of_ble_eq_true rfl) (fun V1 h_180 => ?_)
            rw [hback] at h_180
            subst h_180
            exact next _ _ _ (Or.inl ⟨_, rfl⟩) (Or.inl ⟨_, rfl⟩)
          · have hcc : c = c' := by rw [hc', if_pos (hsm.1 (by omega))]
            rw [← hcc] at hcall
            refine z_iload dX6_extend_163 rfl ?_
            refine z_goto dX6_extend_165 ?_
            refine y_callVv (hcall) kX6_25 dX6_extend_172 rfl rfl (by first | assumption | rfl) rfl (by omega) rfl (Nat.le_of_ble_eq_true rfl) (fun V1 h_172 => ?_)
            subst h_172
            refine z_aload_n dX6_extend_175 rfl ?_
            refine z_iload dX6_extend_176 rfl ?_
            refine z_iload dX6_extend_178 rfl ?_
            refine y_callVv (ct_X0_takeBack (by rw [v8]; omega) (by rw [v8]; omega)) kX6_55 dX6_extend_180 rfl rfl (by first | assumption | rfl) rfl (by omega) rfl (Nat.le_of_ble_eq_true rfl) (fun V1 h_180 => ?_)
            rw [hback] at h_180
            subst h_180
            exact next _ _ _ (Or.inl ⟨_, rfl⟩) (Or.inl ⟨_, rfl⟩)
        refine z_iload dX6_extend_82 rfl ?_
        refine z_aload_n dX6_extend_84 rfl ?_
        refine y_getI (j := 4) fX6_40 dX6_extend_85 rfl (by first | assumption | rfl) ?_
        rw [e8]
        refine y_icmp_ge dX6_extend_88 (by omega) (by omega) (fun c_88 => ?_) (fun c_88 => ?_)
        · omega
        · refine z_aload_n dX6_extend_91 rfl ?_
          refine z_iload dX6_extend_92 rfl ?_
          refine y_callVr (ct_X0_hasRoom (by rw [e8]; omega) hBS') kX6_43 dX6_extend_94 rfl rfl (by first | assumption | rfl) rfl (by omega) rfl (Nat.le_of_ble_eq_true rfl) (fun r_94 h_94 => ?_)
          rw [e11, e10] at h_94
          refine y_if_eq dX6_extend_97 (by omega) (fun c_97 => ?_) (fun c_97 => ?_)
          · have hno : f r B = B := by rw [hf]; simp only; rw [if_neg (by omega)]
            have nx := next a7 a8 a9 h7 h8
            rw [hno] at nx
            exact nx
          · refine z_aload_n dX6_extend_100 rfl ?_
            refine z_iload dX6_extend_101 rfl ?_
            refine y_callVr (ct_X0_lastKind (by rw [e8]; omega) (by rw [e8]; omega)) kX6_47 dX6_extend_103 rfl rfl (by first | assumption | rfl) rfl (by omega) rfl (Nat.le_of_ble_eq_true rfl) (fun r_103 h_103 => ?_)
            rw [e12] at h_103
            subst h_103
            refine z_istore dX6_extend_106 (by decide) rfl rfl ?_
            refine z_aload_n dX6_extend_108 rfl ?_
            refine z_iload_n dX6_extend_109 rfl ?_
            refine z_iload dX6_extend_110 rfl ?_
            refine y_callVi (ct_X0_put (by rw [e8]; omega) (by rw [e8]; omega) hBS') kX6_51 dX6_extend_112 rfl rfl (by first | assumption | rfl) rfl (by omega) rfl (Nat.le_of_ble_eq_true rfl) (fun r_112 V1 h_112 => ?_)
            obtain ⟨g1, g2⟩ := h_112
            rw [e8, e12, e9] at g1
            subst g1 g2
            have eR : putB (setP V B) i r 114 = B.1 := by rw [putB_o (by decide) (by decide), setP_4]
            refine z_istore dX6_extend_115 (by decide) rfl rfl ?_
            refine z_iload_n dX6_extend_117 rfl ?_
            refine y_if_le dX6_extend_118 (by omega) (fun c_118 => ?_) (fun c_118 => ?_)
            · refine y_iconst dX6_extend_138 ?_
              refine z_istore dX6_extend_139 (by decide) rfl rfl ?_
              exact rest _ (by omega) (by omega) (by omega)
            · refine z_aload_n dX6_extend_121 rfl ?_
              refine y_getR fX6_9 dX6_extend_122 (by first | assumption | rfl) (by first | assumption | rfl) ?_
              refine z_iload_n dX6_extend_125 rfl ?_
              refine y_iconst dX6_extend_126 ?_
              refine y_isub dX6_extend_127 ?_
              refine y_iald dX6_extend_128 (by first | assumption | rfl) (by first | rfl | assumption) (by omega) ?_
              rw [eR]
              refine z_iload dX6_extend_129 rfl ?_
              refine y_icmp_ne dX6_extend_131 (by omega) (by omega) (fun c_131 => ?_) (fun c_131 => ?_)
              · refine y_iconst dX6_extend_138 ?_
                refine z_istore dX6_extend_139 (by decide) rfl rfl ?_
                exact rest _ (by omega) (by omega) (by omega)
              · refine y_iconst dX6_extend_134 ?_
                refine z_goto dX6_extend_135 ?_
                refine z_istore dX6_extend_139 (by decide) rfl rfl ?_
                exact rest _ (by omega) (by omega) (by omega)
    have ez : setP V (fld f 0 (accV V)) = V := setP_id
    have h0 : ∀ bt : Int, (k < V 113 2 ∨ (k = V 113 2 ∧ c < V 113 3)) → yE (n + 1 + 4) (pV b (fun V' => V' = setP V (exA (V 108 4).toNat (V 108 6) (V 109) (V 110) (n + 1) i k c (V 111) (V 112) (accV V)))) mX6_extend 82 [some (.ref 113), some (.ref 108), some (.int (iI i)), some (.int (iI k)), some (.int (iI c)), some (.int (iI bt)), some (.int (iI 0)), none, none, none] [] V b := fun bt h => by
      have hh := loop (V 108 4).toNat 0 bt none none none h (by omega) (Or.inr rfl) (Or.inr rfl)
      rw [ez] at hh
      exact hh
    refine zC_of (by decide +kernel) (Nat.le_of_ble_eq_true rfl) rfl ?_
    refine z_iload_n dX6_extend_0 rfl ?_
    refine z_aload_n dX6_extend_1 rfl ?_
    refine y_getI (j := 2) fX6_18 dX6_extend_2 rfl (by first | assumption | rfl) ?_
    refine y_icmp_lt dX6_extend_5 (by omega) (by omega) (fun c_5 => ?_) (fun c_5 => ?_)
    · refine y_iconst dX6_extend_25 ?_
      refine z_goto dX6_extend_26 ?_
      refine z_istore dX6_extend_30 (by decide) rfl rfl ?_
      refine z_iload dX6_extend_32 rfl ?_
      refine y_if_ne dX6_extend_34 (by omega) (fun c_34 => ?_) (fun c_34 => ?_)
      · refine z_iload_n dX6_extend_38 rfl ?_
        refine z_aload_n dX6_extend_39 rfl ?_
        refine y_getI (j := 5) fX6_29 dX6_extend_40 rfl (by first | assumption | rfl) ?_
        refine y_icmp_ge dX6_extend_43 (by omega) (by omega) (fun c_43 => ?_) (fun c_43 => ?_)
        · omega
        · refine z_iload_n dX6_extend_46 rfl ?_
          refine y_bipush dX6_extend_47 (by decide +kernel) ?_
          refine y_icmp_lt dX6_extend_49 (by omega) (by omega) (fun c_49 => ?_) (fun c_49 => ?_)
          · refine y_iconst dX6_extend_79 ?_
            refine z_istore dX6_extend_80 (by decide) rfl rfl ?_
            exact h0 _ (by omega)
          · omega
      · exact z_vret dX6_extend_37 rfl (Nat.le_refl 0) (Nat.le_refl 0) ⟨_, rfl, rfl, by rw [eF (by omega), setP_id]⟩
    · refine z_iload_n dX6_extend_8 rfl ?_
      refine z_aload_n dX6_extend_9 rfl ?_
      refine y_getI (j := 2) fX6_18 dX6_extend_10 rfl (by first | assumption | rfl) ?_
      refine y_icmp_ne dX6_extend_13 (by omega) (by omega) (fun c_13 => ?_) (fun c_13 => ?_)
      · refine y_iconst dX6_extend_29 ?_
        refine z_istore dX6_extend_30 (by decide) rfl rfl ?_
        refine z_iload dX6_extend_32 rfl ?_
        refine y_if_ne dX6_extend_34 (by omega) (fun c_34 => ?_) (fun c_34 => ?_)
        · refine z_iload_n dX6_extend_38 rfl ?_
          refine z_aload_n dX6_extend_39 rfl ?_
          refine y_getI (j := 5) fX6_29 dX6_extend_40 rfl (by first | assumption | rfl) ?_
          refine y_icmp_ge dX6_extend_43 (by omega) (by omega) (fun c_43 => ?_) (fun c_43 => ?_)
          · omega
          · refine z_iload_n dX6_extend_46 rfl ?_
            refine y_bipush dX6_extend_47 (by decide +kernel) ?_
            refine y_icmp_lt dX6_extend_49 (by omega) (by omega) (fun c_49 => ?_) (fun c_49 => ?_)
            · refine y_iconst dX6_extend_79 ?_
              refine z_istore dX6_extend_80 (by decide) rfl rfl ?_
              exact h0 _ (by omega)
            · omega
        · exact z_vret dX6_extend_37 rfl (Nat.le_refl 0) (Nat.le_refl 0) ⟨_, rfl, rfl, by rw [eF (by omega), setP_id]⟩
      · refine z_iload dX6_extend_16 rfl ?_
        refine z_aload_n dX6_extend_18 rfl ?_
        refine y_getI (j := 3) fX6_22 dX6_extend_19 rfl (by first | assumption | rfl) ?_
        refine y_icmp_ge dX6_extend_22 (by omega) (by omega) (fun c_22 => ?_) (fun c_22 => ?_)
        · refine y_iconst dX6_extend_29 ?_
          refine z_istore dX6_extend_30 (by decide) rfl rfl ?_
          refine z_iload dX6_extend_32 rfl ?_
          refine y_if_ne dX6_extend_34 (by omega) (fun c_34 => ?_) (fun c_34 => ?_)
          · refine z_iload_n dX6_extend_38 rfl ?_
            refine z_aload_n dX6_extend_39 rfl ?_
            refine y_getI (j := 5) fX6_29 dX6_extend_40 rfl (by first | assumption | rfl) ?_
            refine y_icmp_ge dX6_extend_43 (by omega) (by omega) (fun c_43 => ?_) (fun c_43 => ?_)
            · omega
            · refine z_iload_n dX6_extend_46 rfl ?_
              refine y_bipush dX6_extend_47 (by decide +kernel) ?_
              refine y_icmp_lt dX6_extend_49 (by omega) (by omega) (fun c_49 => ?_) (fun c_49 => ?_)
              · refine y_iconst dX6_extend_79 ?_
                refine z_istore dX6_extend_80 (by decide) rfl rfl ?_
                exact h0 _ (by omega)
              · omega
          · exact z_vret dX6_extend_37 rfl (Nat.le_refl 0) (Nat.le_refl 0) ⟨_, rfl, rfl, by rw [eF (by omega), setP_id]⟩
        · refine y_iconst dX6_extend_25 ?_
          refine z_goto dX6_extend_26 ?_
          refine z_istore dX6_extend_30 (by decide) rfl rfl ?_
          refine z_iload dX6_extend_32 rfl ?_
          refine y_if_ne dX6_extend_34 (by omega) (fun c_34 => ?_) (fun c_34 => ?_)
          · refine z_iload_n dX6_extend_38 rfl ?_
            refine z_aload_n dX6_extend_39 rfl ?_
            refine y_getI (j := 5) fX6_29 dX6_extend_40 rfl (by first | assumption | rfl) ?_
            refine y_icmp_ge dX6_extend_43 (by omega) (by omega) (fun c_43 => ?_) (fun c_43 => ?_)
            · omega
            · refine z_iload_n dX6_extend_46 rfl ?_
              refine y_bipush dX6_extend_47 (by decide +kernel) ?_
              refine y_icmp_lt dX6_extend_49 (by omega) (by omega) (fun c_49 => ?_) (fun c_49 => ?_)
              · refine y_iconst dX6_extend_79 ?_
                refine z_istore dX6_extend_80 (by decide) rfl rfl ?_
                exact h0 _ (by omega)
              · omega
          · exact z_vret dX6_extend_37 rfl (Nat.le_refl 0) (Nat.le_refl 0) ⟨_, rfl, rfl, by rw [eF (by omega), setP_id]⟩
end

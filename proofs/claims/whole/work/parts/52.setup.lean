/-! ===== Board.setUp; foremen ===== -/
section
variable {V : Nat → Int → Int} {b : Bool} {y : Nat}
/-- the board as set up of the yard at y and of now -/
def suP (V V' : Nat → Int → Int) (y : Nat) : Prop := V' 108 4 = V y 6 ∧ V' 108 5 = V 5 4 ∧ V' 108 6 = V y 8 ∧ (∀ i, 0 ≤ i → i < V 5 4 → V' 109 i = kdX V y (wA V 4 (V 5 4 - 1 - i))) ∧ (∀ r, 0 ≤ r → r < V y 6 → V' 110 r = V (y + 1) r ∧ V' 111 r = V 5 r ∧ V' 112 r = kdX V y (wA V r (V 5 r - 1))) ∧ ∀ a, a < 108 ∨ 112 < a → V' a = V a
theorem wA_congr {V V' : Nat → Int → Int} (h4 : V' 4 = V 4) (h5 : V' 5 = V 5) (l p : Int) : wA V' l p = wA V l p := by unfold wA; rw [h4, h5]
theorem ct_X0_setUp (hy : isY y) (hys : YS V y) (hc : cN V) (hwn : wN V) : yC 5 mX0_setUp [.ref 108, .ref y, .ref 3] V b (pV b (fun V' => suP V V' y)) := by
  obtain ⟨sy, sy1, sy2, sy3, sy4, sy5, sy6, fy0, fy1, fy2, fy3, fy4, fy5⟩ := yfacts hy b
  have yb : 120 ≤ y ∧ y ≤ 127 := by rcases hy with h | h <;> omega
  obtain ⟨q1, q2, q3, q4, q5⟩ := id hys
  have c4 := hc 4
  have keep : ∀ {U : Nat → Int → Int}, (∀ a, a < 108 ∨ 112 < a → U a = V a) → YS U y ∧ cN U ∧ wN U ∧ (∀ l p, wA U l p = wA V l p) ∧ (∀ w, kdX U y w = kdX V y w) ∧ U 5 = V 5 ∧ U y = V y ∧ U (y + 1) = V (y + 1) := fun {U} h =>
    ⟨YS_congr (fun a a1 a2 => h a (by omega)) hys, by unfold cN; rw [h 5 (by omega)]; exact hc, by unfold wN; rw [h 4 (by omega)]; exact hwn, fun l p => wA_congr (h 4 (by omega)) (h 5 (by omega)) l p, fun w => kdX_congr (fun a a1 a2 => h a (by omega)) w, h 5 (by omega), h y (by omega), h (y + 1) (by omega)⟩
  have loop2 : ∀ (t : Nat) (r : Int) (U : Nat → Int → Int), 0 ≤ r → r + t = V y 6 → U 108 4 = V y 6 → U 108 5 = V 5 4 → (∀ i, 0 ≤ i → i < V 5 4 → U 109 i = kdX V y (wA V 4 (V 5 4 - 1 - i))) → (∀ s, 0 ≤ s → s < r → U 110 s = V (y + 1) s ∧ U 111 s = V 5 s ∧ U 112 s = kdX V y (wA V s (V 5 s - 1))) → (∀ a, a < 108 ∨ 112 < a → U a = V a) → yE 5 (pV b (fun V' => suP V V' y)) mX0_setUp 59 [some (.ref 108), some (.ref y), some (.ref 3), some (.int (iI r))] [] U b := by
    intro t
    induction t with
    | zero =>
      intro r U h1 h2 h3 h4 h5 h6 h7
      obtain ⟨k1, k2, k3, k4, k5, k6, k7, k8⟩ := keep h7
      refine z_iload_n dX0_setUp_59 rfl ?_
      refine z_aload_n dX0_setUp_60 rfl ?_
      refine y_getI (j := 4) fX0_24 dX0_setUp_61 rfl (by first | assumption | rfl) ?_
      refine y_icmp_ge dX0_setUp_64 (by omega) (by omega) (fun c_64 => ?_) (fun c_64 => ?_)
      · refine z_aload_n dX0_setUp_110 rfl ?_
        refine z_aload_n dX0_setUp_111 rfl ?_
        refine y_getI (j := 8) fX0_61 dX0_setUp_112 rfl (by first | assumption | rfl) ?_
        refine y_putI (j := 6) fX0_31 dX0_setUp_115 rfl (by first | assumption | rfl) ?_
        exact z_vret dX0_setUp_118 rfl (Nat.le_refl 0) (Nat.le_refl 0) ⟨_, rfl, rfl, by rw [vst_n (by decide)]; exact h3, by rw [vst_n (by decide)]; exact h4, by rw [vst_s, k7], fun i i1 i2 => by rw [vst_o (by decide)]; exact h5 i i1 i2, fun s s1 s2 => by rw [vst_o (by decide), vst_o (by decide), vst_o (by decide)]; exact h6 s s1 (by omega), fun a ha => by rw [vst_o (by omega)]; exact h7 a ha⟩
      · omega
    | succ t ih =>
      intro r U h1 h2 h3 h4 h5 h6 h7
      obtain ⟨k1, k2, k3, k4, k5, k6, k7, k8⟩ := keep h7
      have cr := hc r
      have hwr := wA_rg (l := r) (p := V 5 r - 1) hwn
      have hk1 : ∀ a, a < 108 ∨ 112 < a → vst U 110 r (V (y + 1) r) a = V a := fun a ha => by rw [vst_o (by omega)]; exact h7 a ha
      have hk2 : ∀ a, a < 108 ∨ 112 < a → vst (vst U 110 r (V (y + 1) r)) 111 r (V 5 r) a = V a := fun a ha => by rw [vst_o (by omega)]; exact hk1 a ha
      obtain ⟨p1, p2, p3, p4, p5, p6, p7, p8⟩ := keep hk1
      obtain ⟨w1, w2, w3, w4, w5, w6, w7, w8⟩ := keep hk2
      have q2' := w1.2.1
      have hih := ih (r + 1) (vst (vst (vst U 110 r (V (y + 1) r)) 111 r (V 5 r)) 112 r (kdX V y (wA V r (V 5 r - 1)))) (by omega) (by omega) (by rw [vst_o (by decide), vst_o (by decide), vst_o (by decide)]; exact h3) (by rw [vst_o (by decide), vst_o (by decide), vst_o (by decide)]; exact h4) (fun i i1 i2 => by rw [vst_o (by decide), vst_o (by decide), vst_o (by decide)]; exact h5 i i1 i2) (fun s s1 s2 => by
        by_cases hs : s = r
        · subst hs
          refine ⟨by rw [vst_o (by decide), vst_o (by decide), vst_s], by rw [vst_o (by decide), vst_s], by rw [vst_s]⟩
        · have := h6 s s1 (by omega)
          rw [vst_o (show (110 : Nat) ≠ 112 by decide), vst_o (show (110 : Nat) ≠ 111 by decide), vst_n hs, vst_o (show (111 : Nat) ≠ 112 by decide), vst_n hs, vst_o (show (111 : Nat) ≠ 110 by decide), vst_n hs, vst_o (show (112 : Nat) ≠ 111 by decide), vst_o (show (112 : Nat) ≠ 110 by decide)]
          exact this) (fun a ha => by rw [vst_o (by omega)]; exact hk2 a ha)
      have erm : rmX V y r = V (y + 1) r := by unfold rmX; rw [if_pos (by omega)]
      refine z_iload_n dX0_setUp_59 rfl ?_
      refine z_aload_n dX0_setUp_60 rfl ?_
      refine y_getI (j := 4) fX0_24 dX0_setUp_61 rfl (by first | assumption | rfl) ?_
      refine y_icmp_ge dX0_setUp_64 (by omega) (by omega) (fun c_64 => ?_) (fun c_64 => ?_)
      · omega
      · refine z_aload_n dX0_setUp_67 rfl ?_
        refine y_getR fX0_15 dX0_setUp_68 (by first | assumption | rfl) (by first | assumption | rfl) ?_
        refine z_iload_n dX0_setUp_71 rfl ?_
        refine z_aload_n dX0_setUp_72 rfl ?_
        refine z_iload_n dX0_setUp_73 rfl ?_
        refine y_callVr (ct_X9_roomOf hy (by omega) (by rw [k7]; omega)) kX0_55 dX0_setUp_74 rfl rfl (by first | assumption | rfl) rfl (by decide) rfl (Nat.le_of_ble_eq_true rfl) (fun r_74 h_74 => ?_)
        rw [show rmX U y r = V (y + 1) r by unfold rmX; rw [k7, k8]; exact erm] at h_74
        subst h_74
        refine y_iast dX0_setUp_77 (by first | assumption | rfl) (by first | rfl | assumption) (by omega) ?_
        refine z_aload_n dX0_setUp_78 rfl ?_
        refine y_getR fX0_18 dX0_setUp_79 (by first | assumption | rfl) (by first | assumption | rfl) ?_
        refine z_iload_n dX0_setUp_82 rfl ?_
        refine z_aload_n dX0_setUp_83 rfl ?_
        refine z_iload_n dX0_setUp_84 rfl ?_
        refine y_callVr (ct_X8_countOf (by omega)) kX0_45 dX0_setUp_85 rfl rfl (by first | assumption | rfl) rfl (by decide) rfl (Nat.le_of_ble_eq_true rfl) (fun r_85 h_85 => ?_)
        rw [p6] at h_85
        subst h_85
        refine y_iast dX0_setUp_88 (by first | assumption | rfl) (by first | rfl | assumption) (by omega) ?_
        refine z_aload_n dX0_setUp_89 rfl ?_
        refine y_getR fX0_21 dX0_setUp_90 (by first | assumption | rfl) (by first | assumption | rfl) ?_
        refine z_iload_n dX0_setUp_93 rfl ?_
        refine z_aload_n dX0_setUp_94 rfl ?_
        refine z_aload_n dX0_setUp_95 rfl ?_
        refine z_iload_n dX0_setUp_96 rfl ?_
        refine y_callVr (ct_X8_lastIn (by omega) w2) kX0_58 dX0_setUp_97 rfl rfl (by first | assumption | rfl) rfl (by decide) rfl (Nat.le_of_ble_eq_true rfl) (fun r_97 h_97 => ?_)
        rw [w6, w4] at h_97
        subst h_97
        refine y_callVr (ct_X9_kindOf hy (by omega) q2') kX0_52 dX0_setUp_100 rfl rfl (by first | assumption | rfl) rfl (by decide) rfl (Nat.le_of_ble_eq_true rfl) (fun r_100 h_100 => ?_)
        rw [w5] at h_100
        subst h_100
        refine y_iast dX0_setUp_103 (by first | assumption | rfl) (by first | rfl | assumption) (by omega) ?_
        refine y_iinc dX0_setUp_104 rfl (by decide) rfl rfl ?_
        refine z_goto dX0_setUp_107 ?_
        exact hih
  have loop1 : ∀ (t : Nat) (i : Int) (U : Nat → Int → Int), 0 ≤ i → i + t = V 5 4 → U 108 4 = V y 6 → U 108 5 = V 5 4 → (∀ j, 0 ≤ j → j < i → U 109 j = kdX V y (wA V 4 (V 5 4 - 1 - j))) → (∀ a, a < 108 ∨ 112 < a → U a = V a) → yE 5 (pV b (fun V' => suP V V' y)) mX0_setUp 28 [some (.ref 108), some (.ref y), some (.ref 3), some (.int (iI i))] [] U b := by
    intro t
    induction t with
    | zero =>
      intro i U h1 h2 h3 h4 h5 h7
      refine z_iload_n dX0_setUp_28 rfl ?_
      refine z_aload_n dX0_setUp_29 rfl ?_
      refine y_getI (j := 5) fX0_28 dX0_setUp_30 rfl (by first | assumption | rfl) ?_
      refine y_icmp_ge dX0_setUp_33 (by omega) (by omega) (fun c_33 => ?_) (fun c_33 => ?_)
      · refine y_iconst dX0_setUp_57 ?_
        refine z_istore_n dX0_setUp_58 (by decide) rfl rfl ?_
        exact loop2 (V y 6).toNat 0 U (by omega) (by omega) h3 h4 (fun j j1 j2 => h5 j j1 (by omega)) (fun s s1 s2 => by omega) h7
      · omega
    | succ t ih =>
      intro i U h1 h2 h3 h4 h5 h7
      obtain ⟨k1, k2, k3, k4, k5, k6, k7, k8⟩ := keep h7
      have q2' := k1.2.1
      have hwr := wA_rg (l := 4) (p := V 5 4 - 1 - i) hwn
      have hih := ih (i + 1) (vst U 109 i (kdX V y (wA V 4 (V 5 4 - 1 - i)))) (by omega) (by omega) (by rw [vst_o (by decide)]; exact h3) (by rw [vst_o (by decide)]; exact h4) (fun j j1 j2 => by
        by_cases hj : j = i
        · subst hj; rw [vst_s]
        · rw [vst_n hj]; exact h5 j j1 (by omega)) (fun a ha => by rw [vst_o (by omega)]; exact h7 a ha)
      refine z_iload_n dX0_setUp_28 rfl ?_
      refine z_aload_n dX0_setUp_29 rfl ?_
      refine y_getI (j := 5) fX0_28 dX0_setUp_30 rfl (by first | assumption | rfl) ?_
      refine y_icmp_ge dX0_setUp_33 (by omega) (by omega) (fun c_33 => ?_) (fun c_33 => ?_)
      · omega
      · refine z_aload_n dX0_setUp_36 rfl ?_
        refine y_getR fX0_9 dX0_setUp_37 (by first | assumption | rfl) (by first | assumption | rfl) ?_
        refine z_iload_n dX0_setUp_40 rfl ?_
        refine z_aload_n dX0_setUp_41 rfl ?_
        refine z_aload_n dX0_setUp_42 rfl ?_
        refine z_iload_n dX0_setUp_43 rfl ?_
        refine y_callVr (ct_X8_fromHead (by omega) (by assumption)) kX0_49 dX0_setUp_44 rfl rfl (by first | assumption | rfl) rfl (by decide) rfl (Nat.le_of_ble_eq_true rfl) (fun r_44 h_44 => ?_)
        rw [k6, k4] at h_44
        subst h_44
        refine y_callVr (ct_X9_kindOf hy (by omega) q2') kX0_52 dX0_setUp_47 rfl rfl (by first | assumption | rfl) rfl (by decide) rfl (Nat.le_of_ble_eq_true rfl) (fun r_47 h_47 => ?_)
        rw [k5] at h_47
        subst h_47
        refine y_iast dX0_setUp_50 (by first | assumption | rfl) (by first | rfl | assumption) (by omega) ?_
        refine y_iinc dX0_setUp_51 rfl (by decide) rfl rfl ?_
        refine z_goto dX0_setUp_54 ?_
        exact hih
  refine zC_of (by decide +kernel) (Nat.le_of_ble_eq_true rfl) rfl ?_
  refine z_aload_n dX0_setUp_0 rfl ?_
  refine z_aload_n dX0_setUp_1 rfl ?_
  refine y_getI (j := 6) fX0_34 dX0_setUp_2 rfl (by first | assumption | rfl) ?_
  refine y_iconst dX0_setUp_5 ?_
  refine y_min dX0_setUp_6 kX0_37 (by omega) (by omega) (by decide) (Nat.le_of_ble_eq_true rfl) ?_
  rw [show min (V y 6) 4 = V y 6 by omega]
  refine y_putI (j := 4) fX0_24 dX0_setUp_9 rfl (by first | assumption | rfl) ?_
  refine z_aload_n dX0_setUp_12 rfl ?_
  refine z_aload_n dX0_setUp_13 rfl ?_
  refine y_iconst dX0_setUp_14 ?_
  refine y_callVr (ct_X8_countOf (by omega)) kX0_45 dX0_setUp_15 rfl rfl (by first | assumption | rfl) rfl (by decide) rfl (Nat.le_of_ble_eq_true rfl) (fun r_15 h_15 => ?_)
  rw [vst_o (by decide)] at h_15
  subst h_15
  refine y_bipush dX0_setUp_18 (by decide +kernel) ?_
  refine y_min dX0_setUp_20 kX0_37 (by omega) (by omega) (by decide) (Nat.le_of_ble_eq_true rfl) ?_
  rw [show min (V 5 4) 7 = V 5 4 by omega]
  refine y_putI (j := 5) fX0_28 dX0_setUp_23 rfl (by first | assumption | rfl) ?_
  refine y_iconst dX0_setUp_26 ?_
  refine z_istore_n dX0_setUp_27 (by decide) rfl rfl ?_
  exact loop1 (V 5 4).toNat 0 _ (by omega) (by omega) (by rw [vst_n (by decide), vst_s]) (by rw [vst_s]) (fun j j1 j2 => by omega) (fun a ha => by rw [vst_o (by omega), vst_o (by omega)])
theorem BS_su {V' : Nat → Int → Int} (h : suP V V' y) (hys : YS V y) (hc : cN V) : BS V' := by
  obtain ⟨h1, h2, h3, h4, h5, h6⟩ := h
  obtain ⟨q1, q2, q3, q4, q5⟩ := id hys
  have c4 := hc 4
  unfold BS
  rw [h1, h2, h3]
  refine ⟨q1, c4, q3, fun i i1 i2 => ?_, fun r r1 r2 => ?_, fun r r1 r2 => ?_, fun r r1 r2 => ?_⟩
  · rw [h4 i i1 i2]; exact kdX_rg hys
  · rw [(h5 r r1 r2).1]; have := q5 r r1 r2; omega
  · rw [(h5 r r1 r2).2.1]; have := hc r; omega
  · rw [(h5 r r1 r2).2.2]; exact kdX_rg hys
theorem ct_X10_foremen {n : Int} (hn : rg n) (hys : YS V (yN b)) (hc : cN V) (hwn : wN V) : yC 12 mX10_foremen [.ref 0, .int (iI n)] V b (pI b (fun q V' => (¬ (1 ≤ n ∧ n ≤ 7) ∧ q = -1000000002 ∧ V' = V) ∨ ((1 ≤ n ∧ n ≤ 7) ∧ suP V V' (yN b) ∧ q = fmV (min n (V 5 4)).toNat 0 V'))) := by
  have hy := yN_Y b
  obtain ⟨sy, sy1, sy2, sy3, sy4, sy5, sy6, fy0, fy1, fy2, fy3, fy4, fy5⟩ := yfacts hy b
  have hf : Fs b 0 11 = some (yN b) := rfl
  have c4 := hc 4
  refine zC_of (by decide +kernel) (Nat.le_of_ble_eq_true rfl) rfl ?_
  refine z_iload_n dX10_foremen_0 rfl ?_
  refine y_iconst dX10_foremen_1 ?_
  refine y_icmp_lt dX10_foremen_2 (by omega) (by omega) (fun c_2 => ?_) (fun c_2 => ?_)
  · refine y_ldc (n := -1000000002) dX10_foremen_11 cX10_94 (by decide +kernel) ?_
    exact z_iret dX10_foremen_13 rfl (Nat.le_refl 0) (Nat.le_refl 0) ⟨_, _, rfl, rfl, Or.inl ⟨by omega, rfl, rfl⟩⟩
  · refine z_iload_n dX10_foremen_5 rfl ?_
    refine y_bipush dX10_foremen_6 (by decide +kernel) ?_
    refine y_icmp_le dX10_foremen_8 (by omega) (by omega) (fun c_8 => ?_) (fun c_8 => ?_)
    · refine z_aload_n dX10_foremen_14 rfl ?_
      refine y_getR fX10_62 dX10_foremen_15 (by first | assumption | rfl) (by first | assumption | rfl) ?_
      refine z_aload_n dX10_foremen_18 rfl ?_
      refine y_getR fX10_83 dX10_foremen_19 (by first | assumption | rfl) (by first | assumption | rfl) ?_
      refine z_aload_n dX10_foremen_22 rfl ?_
      refine y_getR fX10_19 dX10_foremen_23 (by first | assumption | rfl) (by first | assumption | rfl) ?_
      refine y_callVv (ct_X0_setUp (by assumption) (by assumption) (by assumption) (by assumption)) kX10_230 dX10_foremen_26 rfl rfl (by first | assumption | rfl) rfl (by decide) rfl (Nat.le_of_ble_eq_true rfl) (fun V1 h_26 => ?_)
      have hBS := BS_su h_26 hys hc
      have w5 := h_26.2.1
      have hfk := ct_X10_foremenKicks (b := b) (min n (V 5 4)).toNat 0 (min n (V 5 4)) V1 hBS (by omega) (by omega) (by omega)
      refine z_aload_n dX10_foremen_29 rfl ?_
      refine y_getR fX10_62 dX10_foremen_30 (by first | assumption | rfl) (by first | assumption | rfl) ?_
      refine y_iconst dX10_foremen_33 ?_
      refine z_iload_n dX10_foremen_34 rfl ?_
      refine z_aload_n dX10_foremen_35 rfl ?_
      refine y_getR fX10_62 dX10_foremen_36 (by first | assumption | rfl) (by first | assumption | rfl) ?_
      refine y_getI (j := 5) fX10_248 dX10_foremen_39 rfl (by first | assumption | rfl) ?_
      rw [w5]
      refine y_min dX10_foremen_42 kX10_264 (by omega) (by omega) (by decide) (Nat.le_of_ble_eq_true rfl) ?_
      refine y_callSr (hfk) kX10_267 dX10_foremen_45 rfl rfl (by omega) rfl (Nat.le_of_ble_eq_true rfl) (fun r_45 h_45 => ?_)
      exact z_iret dX10_foremen_48 rfl (Nat.le_refl 0) (Nat.le_refl 0) ⟨_, _, rfl, rfl, Or.inr ⟨by omega, h_26, h_45⟩⟩
    · refine y_ldc (n := -1000000002) dX10_foremen_11 cX10_94 (by decide +kernel) ?_
      exact z_iret dX10_foremen_13 rfl (Nat.le_refl 0) (Nat.le_refl 0) ⟨_, _, rfl, rfl, Or.inl ⟨by omega, rfl, rfl⟩⟩
end

/-! ===== Stand: what changes ===== -/
/-- what the walks need of a yard at place y -/
def YS (V : Nat → Int → Int) (y : Nat) : Prop := (0 ≤ V y 6 ∧ V y 6 ≤ 4) ∧ (0 ≤ V y 7 ∧ V y 7 ≤ 7) ∧ (0 ≤ V y 8 ∧ V y 8 < 33554432) ∧ (∀ w, 0 ≤ w → w < V y 7 → 0 ≤ V (y + 2) w ∧ V (y + 2) w ≤ 4) ∧ (∀ r, 0 ≤ r → r < V y 6 → 1 ≤ V (y + 1) r ∧ V (y + 1) r ≤ 7)
theorem YS_congr {V V' : Nat → Int → Int} {y : Nat} (h : ∀ a, y ≤ a → a ≤ y + 2 → V' a = V a) (hy : YS V y) : YS V' y := by
  unfold YS at *
  rw [h y (by omega) (by omega), h (y + 1) (by omega) (by omega), h (y + 2) (by omega) (by omega)]
  exact hy
theorem kdX_rg {V : Nat → Int → Int} {y : Nat} {w : Int} (hy : YS V y) : 0 ≤ kdX V y w ∧ kdX V y w ≤ 4 := by
  unfold kdX
  split
  · exact hy.2.2.2.1 w (by omega) (by omega)
  · omega
theorem kdX_congr {V V' : Nat → Int → Int} {y : Nat} (h : ∀ a, y ≤ a → a ≤ y + 2 → V' a = V a) (w : Int) : kdX V' y w = kdX V y w := by
  unfold kdX
  rw [h y (by omega) (by omega), h (y + 2) (by omega) (by omega)]
section
variable {V : Nat → Int → Int} {b : Bool} {y : Nat}
theorem psh_o {V : Nat → Int → Int} {l w : Int} {a : Nat} (h4 : a ≠ 4) (h5 : a ≠ 5) : psh V l w a = V a := by unfold psh; rw [vst_o h5, vst_o h4]
theorem psh_4 (V : Nat → Int → Int) (l w : Int) : psh V l w 4 = iup (V 4) (l * 7 + V 5 l) w := by unfold psh; rw [vst_o (by decide)]; unfold vst; rw [zup_s]
theorem psh_5 (V : Nat → Int → Int) (l w : Int) : psh V l w 5 = iup (V 5) l (V 5 l + 1) := by unfold psh; unfold vst; rw [zup_s, zup_n _ _ (show (5 : Nat) ≠ 4 by decide)]
theorem iup_le {f : Int → Int} {k x lo hi : Int} (h : ∀ i, lo ≤ f i ∧ f i ≤ hi) (hx : lo ≤ x ∧ x ≤ hi) : ∀ i, lo ≤ iup f k x i ∧ iup f k x i ≤ hi := by
  intro i
  unfold iup
  split
  · exact hx
  · exact h i
/-- wagon w behind wagon a: does it kick, is it the first -/
def ckX (V : Nat → Int → Int) (y : Nat) (a w : Int) : Nat → Int → Int :=
  if kkI (V y 8) (kdX V y a) (kdX V y w) = 0 then V else if V 3 5 = -1 then vst (vst V 3 4 (V 3 4 + 1)) 3 5 (10 * a + w) else vst V 3 4 (V 3 4 + 1)
theorem ckX_o {a w : Int} {c : Nat} (h : c ≠ 3) : ckX V y a w c = V c := by
  unfold ckX
  split
  · rfl
  · split
    · rw [vst_o h, vst_o h]
    · rw [vst_o h]
theorem ct_X8_countKick {a w : Int} (hy : isY y) (hys : YS V y) (ha : -1 ≤ a ∧ a ≤ 6) (hw : -1 ≤ w ∧ w ≤ 6) (hf : rg (V 3 5)) : yC 4 mX8_countKick [.ref 3, .ref y, .int (iI a), .int (iI w)] V b (pV b (fun V' => V' = ckX V y a w)) := by
  obtain ⟨sy, sy1, sy2, sy3, sy4, sy5, sy6, fy0, fy1, fy2, fy3, fy4, fy5⟩ := yfacts hy b
  have k1 := kdX_rg (w := a) hys
  have k2 := kdX_rg (w := w) hys
  obtain ⟨q1, q2, q3, -⟩ := id hys
  have h01 := kkI_01 (V y 8) (kdX V y a) (kdX V y w)
  refine zC_of (by decide +kernel) (Nat.le_of_ble_eq_true rfl) rfl ?_
  refine z_aload_n dX8_countKick_0 rfl ?_
  refine z_aload_n dX8_countKick_1 rfl ?_
  refine z_iload_n dX8_countKick_2 rfl ?_
  refine y_callVr (ct_X9_kindOf hy (by omega) (by omega)) kX8_69 dX8_countKick_3 rfl rfl (by first | assumption | rfl) rfl (by decide) rfl (Nat.le_of_ble_eq_true rfl) (fun r_3 h_3 => ?_)
  subst h_3
  refine z_aload_n dX8_countKick_6 rfl ?_
  refine z_iload_n dX8_countKick_7 rfl ?_
  refine y_callVr (ct_X9_kindOf hy (by omega) (by omega)) kX8_69 dX8_countKick_8 rfl rfl (by first | assumption | rfl) rfl (by decide) rfl (Nat.le_of_ble_eq_true rfl) (fun r_8 h_8 => ?_)
  subst h_8
  refine y_callVr (ct_X9_kindsKick hy (by omega) (by omega) (by omega)) kX8_74 dX8_countKick_11 rfl rfl (by first | assumption | rfl) rfl (by decide) rfl (Nat.le_of_ble_eq_true rfl) (fun r_11 h_11 => ?_)
  subst h_11
  refine y_if_ne dX8_countKick_14 (by omega) (fun c_14 => ?_) (fun c_14 => ?_)
  · refine z_aload_n dX8_countKick_18 rfl ?_
    refine z_dup dX8_countKick_19 rfl ?_
    refine y_getI (j := 4) fX8_25 dX8_countKick_20 rfl (by first | assumption | rfl) ?_
    refine y_iconst dX8_countKick_23 ?_
    refine y_iadd dX8_countKick_24 ?_
    refine y_putI (j := 4) fX8_25 dX8_countKick_25 rfl (by first | assumption | rfl) ?_
    refine z_aload_n dX8_countKick_28 rfl ?_
    refine y_getI (j := 5) fX8_28 dX8_countKick_29 rfl (by first | assumption | rfl) ?_
    refine y_iconst dX8_countKick_32 ?_
    refine y_icmp_ne dX8_countKick_33 (by simp only [vst_n (show (5 : Int) ≠ 4 by decide)]; omega) (by omega) (fun c_33 => ?_) (fun c_33 => ?_)
    · simp only [vst_n (show (5 : Int) ≠ 4 by decide)] at c_33
      have e : ckX V y a w = vst V 3 4 (V 3 4 + 1) := by unfold ckX; rw [if_neg c_14, if_neg c_33]
      exact z_vret dX8_countKick_46 rfl (Nat.le_refl 0) (Nat.le_refl 0) ⟨_, rfl, rfl, e.symm⟩
    · simp only [vst_n (show (5 : Int) ≠ 4 by decide)] at c_33
      have e : ckX V y a w = vst (vst V 3 4 (V 3 4 + 1)) 3 5 (10 * a + w) := by unfold ckX; rw [if_neg c_14, if_pos c_33]
      refine z_aload_n dX8_countKick_36 rfl ?_
      refine y_bipush dX8_countKick_37 (by decide +kernel) ?_
      refine z_iload_n dX8_countKick_39 rfl ?_
      refine y_imul dX8_countKick_40 ?_
      refine z_iload_n dX8_countKick_41 rfl ?_
      refine y_iadd dX8_countKick_42 ?_
      refine y_putI (j := 5) fX8_28 dX8_countKick_43 rfl (by first | assumption | rfl) ?_
      exact z_vret dX8_countKick_46 rfl (Nat.le_refl 0) (Nat.le_refl 0) ⟨_, rfl, rfl, e.symm⟩
  · exact z_vret dX8_countKick_17 rfl (Nat.le_refl 0) (Nat.le_refl 0) ⟨_, rfl, rfl, by unfold ckX; rw [if_pos c_14]⟩
/-- one wagon from the hump's head into road r -/
def stX (y : Nat) (r : Int) (V : Nat → Int → Int) : Nat → Int → Int := ckX (psh (vst V 5 4 (V 5 4 - 1)) r (wA V 4 (V 5 4 - 1))) y (wA V r (V 5 r - 1)) (wA V 4 (V 5 4 - 1))
def ldX (y : Nat) (r : Int) : Nat → (Nat → Int → Int) → Nat → Int → Int
  | 0, V => V
  | n + 1, V => ldX y r n (stX y r V)
theorem stX_o {r : Int} {c : Nat} (h3 : c ≠ 3) (h4 : c ≠ 4) (h5 : c ≠ 5) : stX y r V c = V c := by unfold stX; rw [ckX_o h3, psh_o h4 h5, vst_o h5]
theorem stX_5 {r : Int} : stX y r V 5 = iup (iup (V 5) 4 (V 5 4 - 1)) r (iup (V 5) 4 (V 5 4 - 1) r + 1) := by
  unfold stX
  rw [ckX_o (by decide), psh_5]
  unfold vst
  rw [zup_s]
theorem stX_4 {r : Int} (hr : r ≠ 4) : stX y r V 4 = iup (V 4) (r * 7 + V 5 r) (wA V 4 (V 5 4 - 1)) := by
  unfold stX
  rw [ckX_o (by decide), psh_4, vst_n hr, vst_o (by decide)]
theorem stX_3 {r : Int} {j : Int} (h4 : j ≠ 4) (h5 : j ≠ 5) : stX y r V 3 j = V 3 j := by
  unfold stX ckX
  have e : psh (vst V 5 4 (V 5 4 - 1)) r (wA V 4 (V 5 4 - 1)) 3 = V 3 := by rw [psh_o (by decide) (by decide), vst_o (by decide)]
  split
  · rw [e]
  · split
    · rw [vst_n h5, vst_n h4, e]
    · rw [vst_n h4, e]
/-- what letting down needs and keeps -/
def LI (V : Nat → Int → Int) (y : Nat) : Prop := cN V ∧ wN V ∧ YS V y ∧ rg (V 3 5) ∧ rg (V 3 4)
theorem stX_35 {r : Int} (hw : wN V) (hf : rg (V 3 5)) : rg (stX y r V 3 5) := by
  unfold stX ckX
  have e : psh (vst V 5 4 (V 5 4 - 1)) r (wA V 4 (V 5 4 - 1)) 3 = V 3 := by rw [psh_o (by decide) (by decide), vst_o (by decide)]
  have w1 := wA_rg (l := 4) (p := V 5 4 - 1) hw
  have w2 := wA_rg (l := r) (p := V 5 r - 1) hw
  split
  · rw [e]; exact hf
  · split
    · rw [vst_s]; exact ⟨by omega, by omega⟩
    · rw [vst_n (by decide), e]; exact hf
theorem stX_34 {r : Int} : V 3 4 ≤ stX y r V 3 4 ∧ stX y r V 3 4 ≤ V 3 4 + 1 := by
  unfold stX ckX
  have e : psh (vst V 5 4 (V 5 4 - 1)) r (wA V 4 (V 5 4 - 1)) 3 = V 3 := by rw [psh_o (by decide) (by decide), vst_o (by decide)]
  split
  · rw [e]; omega
  · split
    · rw [vst_n (by decide), vst_s, e]; omega
    · rw [vst_s, e]; omega
theorem stX_c {r : Int} (hr : r ≠ 4) (hc : cN V) (h1 : 1 ≤ V 5 4) (h2 : V 5 r ≤ 6) : cN (stX y r V) := by
  intro i
  rw [stX_5]
  have h4 := hc 4
  have hrr := hc r
  have h5 : iup (V 5) 4 (V 5 4 - 1) r = V 5 r := iup_n hr
  rw [h5]
  exact iup_le (iup_le hc (by omega)) (by omega) i
theorem stX_w {r : Int} (hr : r ≠ 4) (hw : wN V) : wN (stX y r V) := by
  intro i
  rw [stX_4 hr]
  have w1 := wA_rg (l := 4) (p := V 5 4 - 1) hw
  exact iup_le hw (by omega) i
theorem ct_X8_letDown {k r : Int} (hy : isY y) (hc : cN V) (hw : wN V) (hys : YS V y) (hf : rg (V 3 5)) (hk0 : -1000000 ≤ V 3 4 ∧ V 3 4 ≤ 1000000) (hr : 0 ≤ r ∧ r ≤ 3) (hk : 0 ≤ k ∧ k ≤ 7) (hk2 : k ≤ V 5 4) (hk3 : k + V 5 r ≤ 7) (hcu : -1000000 ≤ V 3 3 ∧ V 3 3 ≤ 1000000) : yC 5 mX8_letDown [.ref 3, .ref y, .int (iI k), .int (iI r)] V b (pI b (fun q V' => q = ldX y r k.toNat V 3 4 - V 3 4 ∧ V' = vst (ldX y r k.toNat V) 3 3 (V 3 3 + 1))) := by
  obtain ⟨sy, sy1, sy2, sy3, sy4, sy5, sy6, fy0, fy1, fy2, fy3, fy4, fy5⟩ := yfacts hy b
  have hye : ∀ {U : Nat → Int → Int} {r : Int}, ∀ a, y ≤ a → a ≤ y + 2 → stX y r U a = U a := fun a h1 h2 => by
    rcases hy with rfl | rfl <;> exact stX_o (by omega) (by omega) (by omega)
  have loop : ∀ (n : Nat) (i : Int) (U : Nat → Int → Int), i + n = k → 0 ≤ i → cN U → wN U → YS U y → rg (U 3 5) → (-1000000 ≤ U 3 4 ∧ U 3 4 ≤ 1000000 + i) → n ≤ U 5 4 → n + U 5 r ≤ 7 → U 3 3 = V 3 3 → ∀ a6 a7 : Option Value, yE 5 (pI b (fun q V' => q = ldX y r n U 3 4 - V 3 4 ∧ V' = vst (ldX y r n U) 3 3 (V 3 3 + 1))) mX8_letDown 9 [some (.ref 3), some (.ref y), some (.int (iI k)), some (.int (iI r)), some (.int (iI (V 3 4))), some (.int (iI i)), a6, a7] [] U b := by
    intro n
    induction n with
    | zero =>
      intro i U h1 h2 hcU hwU hyU h3 h4 h5 h6 h7 a6 a7
      refine z_iload dX8_letDown_9 rfl ?_
      refine z_iload_n dX8_letDown_11 rfl ?_
      refine y_icmp_ge dX8_letDown_12 (by omega) (by omega) (fun c_12 => ?_) (fun c_12 => ?_)
      · refine z_aload_n dX8_letDown_69 rfl ?_
        refine z_dup dX8_letDown_70 rfl ?_
        refine y_getI (j := 3) fX8_21 dX8_letDown_71 rfl (by first | assumption | rfl) ?_
        refine y_iconst dX8_letDown_74 ?_
        refine y_iadd dX8_letDown_75 ?_
        refine y_putI (j := 3) fX8_21 dX8_letDown_76 rfl (by first | assumption | rfl) ?_
        refine z_aload_n dX8_letDown_79 rfl ?_
        refine y_getI (j := 4) fX8_25 dX8_letDown_80 rfl (by first | assumption | rfl) ?_
        refine z_iload dX8_letDown_83 rfl ?_
        refine y_isub dX8_letDown_85 ?_
        exact z_iret dX8_letDown_86 rfl (Nat.le_refl 0) (Nat.le_refl 0) ⟨_, _, rfl, rfl, by rw [vst_n (by decide)]; rfl, by rw [h7]; rfl⟩
      · omega
    | succ n ih =>
      intro i U h1 h2 hcU hwU hyU h3 h4 h5 h6 h7 a6 a7
      have c4 := hcU 4
      have cr := hcU r
      have w1 := wA_rg (l := 4) (p := U 5 4 - 1) hwU
      have w2 := wA_rg (l := r) (p := U 5 r - 1) hwU
      have hs34 := stX_34 (V := U) (y := y) (r := r)
      have hih := ih (i + 1) (stX y r U) (by omega) (by omega) (stX_c (by omega) hcU (by omega) (by omega)) (stX_w (by omega) hwU) (YS_congr hye hyU) (stX_35 hwU h3) (by omega) (by rw [stX_5, iup_n (show (4 : Int) ≠ r by omega), iup_s]; omega) (by rw [stX_5, iup_s, iup_n (show r ≠ (4 : Int) by omega)]; omega) (by rw [stX_3 (by decide) (by decide)]; exact h7)
      have hpshys : YS (psh (vst U 5 4 (U 5 4 - 1)) r (wA U 4 (U 5 4 - 1))) y := YS_congr (fun a h1 h2 => by rcases hy with rfl | rfl <;> rw [psh_o (by omega) (by omega), vst_o (by omega)]) hyU
      have hp3 : psh (vst U 5 4 (U 5 4 - 1)) r (wA U 4 (U 5 4 - 1)) 3 = U 3 := by rw [psh_o (by decide) (by decide), vst_o (by decide)]
      refine z_iload dX8_letDown_9 rfl ?_
      refine z_iload_n dX8_letDown_11 rfl ?_
      refine y_icmp_ge dX8_letDown_12 (by omega) (by omega) (fun c_12 => ?_) (fun c_12 => ?_)
      · omega
      · refine z_aload_n dX8_letDown_15 rfl ?_
        refine y_iconst dX8_letDown_16 ?_
        refine y_callVr (ct_X8_countOf (by omega)) kX8_51 dX8_letDown_17 rfl rfl (by first | assumption | rfl) rfl (by decide) rfl (Nat.le_of_ble_eq_true rfl) (fun r_17 h_17 => ?_)
        refine y_if_le dX8_letDown_20 (by omega) (fun c_20 => ?_) (fun c_20 => ?_)
        · omega
        · refine z_aload_n dX8_letDown_23 rfl ?_
          refine z_iload_n dX8_letDown_24 rfl ?_
          refine y_callVr (ct_X8_lastIn (by omega) (by assumption)) kX8_62 dX8_letDown_25 rfl rfl (by first | assumption | rfl) rfl (by decide) rfl (Nat.le_of_ble_eq_true rfl) (fun r_25 h_25 => ?_)
          subst h_25
          refine z_istore dX8_letDown_28 (by decide) rfl rfl ?_
          refine z_aload_n dX8_letDown_30 rfl ?_
          refine y_iconst dX8_letDown_31 ?_
          refine y_callVr (ct_X8_lastIn (by omega) (by assumption)) kX8_62 dX8_letDown_32 rfl rfl (by first | assumption | rfl) rfl (by decide) rfl (Nat.le_of_ble_eq_true rfl) (fun r_32 h_32 => ?_)
          subst h_32
          refine z_istore dX8_letDown_35 (by decide) rfl rfl ?_
          refine z_aload_n dX8_letDown_37 rfl ?_
          refine y_getR fX8_15 dX8_letDown_38 (by first | assumption | rfl) (by first | assumption | rfl) ?_
          refine y_iconst dX8_letDown_41 ?_
          refine z_dup2 dX8_letDown_42 rfl rfl ?_
          refine y_iald dX8_letDown_43 (by first | assumption | rfl) (by first | rfl | assumption) (by omega) ?_
          refine y_iconst dX8_letDown_44 ?_
          refine y_isub dX8_letDown_45 ?_
          refine y_iast dX8_letDown_46 (by first | assumption | rfl) (by first | rfl | assumption) (by omega) ?_
          refine z_aload_n dX8_letDown_47 rfl ?_
          refine z_iload_n dX8_letDown_48 rfl ?_
          refine z_iload dX8_letDown_49 rfl ?_
          refine y_callVv (ct_X8_push (by omega) (by rw [vst_n (by omega)]; omega)) kX8_37 dX8_letDown_51 rfl rfl (by first | assumption | rfl) rfl (by decide) rfl (Nat.le_of_ble_eq_true rfl) (fun V h_51 => ?_)
          subst h_51
          refine z_aload_n dX8_letDown_54 rfl ?_
          refine z_aload_n dX8_letDown_55 rfl ?_
          refine z_iload dX8_letDown_56 rfl ?_
          refine z_iload dX8_letDown_58 rfl ?_
          refine y_callVv (ct_X8_countKick (by assumption) hpshys (by omega) (by omega) (by rw [hp3]; exact h3)) kX8_65 dX8_letDown_60 rfl rfl (by first | assumption | rfl) rfl (by decide) rfl (Nat.le_of_ble_eq_true rfl) (fun V h_60 => ?_)
          subst h_60
          refine y_iinc dX8_letDown_63 rfl (by decide) rfl rfl ?_
          refine z_goto dX8_letDown_66 ?_
          exact hih _ _
  refine zC_of (by decide +kernel) (Nat.le_of_ble_eq_true rfl) rfl ?_
  have hl := loop k.toNat 0 V (by omega) (by omega) hc hw hys hf (by omega) (by omega) (by omega) rfl none none
  refine z_aload_n dX8_letDown_0 rfl ?_
  refine y_getI (j := 4) fX8_25 dX8_letDown_1 rfl (by first | assumption | rfl) ?_
  refine z_istore dX8_letDown_4 (by decide) rfl rfl ?_
  refine y_iconst dX8_letDown_6 ?_
  refine z_istore dX8_letDown_7 (by decide) rfl rfl ?_
  exact hl
/-- all of road r go back to the hump's head -/
def puX (V : Nat → Int → Int) (r : Int) : Nat → Int → Int := zup (zup (zup V 4 (icp (V 4) (V 4) (r * 7) (28 + V 5 4) (V 5 r))) 5 (iup (iup (V 5) 4 (V 5 4 + V 5 r)) r 0)) 6 (iup (V 6) r 0)
theorem ct_X8_pullUp {r : Int} (hc : cN V) (hr : 0 ≤ r ∧ r ≤ 3) (h7 : V 5 4 + V 5 r ≤ 7) : yC 4 mX8_pullUp [.ref 3, .int (iI r)] V b (pI b (fun q V' => q = V 5 r ∧ V' = puX V r)) := by
  have c4 := hc 4
  have cr := hc r
  have loop : ∀ (n : Nat) (i : Int) (U : Nat → Int → Int), i + n = V 5 r → 0 ≤ i → U = zup (zup V 4 (icp (V 4) (V 4) (r * 7) (28 + V 5 4) i)) 5 (iup (V 5) 4 (V 5 4 + i)) → yE 4 (pI b (fun q V' => q = V 5 r ∧ V' = puX V r)) mX8_pullUp 8 [some (.ref 3), some (.int (iI r)), some (.int (iI (V 5 r))), some (.int (iI i))] [] U b := by
    intro n
    induction n with
    | zero =>
      intro i U h1 h2 hU
      have hi : i = V 5 r := by omega
      subst hi
      have e : vst (vst U 5 r 0) 6 r 0 = puX V r := by
        subst hU
        unfold puX vst
        rw [zup_s, zup_zup, zup_n _ _ (show (6 : Nat) ≠ 5 by decide), zup_n _ _ (show (6 : Nat) ≠ 4 by decide)]
      refine z_iload_n dX8_pullUp_8 rfl ?_
      refine z_iload_n dX8_pullUp_9 rfl ?_
      refine y_icmp_ge dX8_pullUp_10 (by omega) (by omega) (fun c_10 => ?_) (fun c_10 => ?_)
      · refine z_iload_n dX8_pullUp_30 rfl ?_
        refine y_callSr (ct_X8_isLine (by omega)) kX8_47 dX8_pullUp_31 rfl rfl (by decide) rfl (Nat.le_of_ble_eq_true rfl) (fun r_31 h_31 => ?_)
        refine y_if_eq dX8_pullUp_34 (by omega) (fun c_34 => ?_) (fun c_34 => ?_)
        · omega
        · refine z_aload_n dX8_pullUp_37 rfl ?_
          refine y_getR fX8_15 dX8_pullUp_38 (by first | assumption | rfl) (by first | assumption | rfl) ?_
          refine z_iload_n dX8_pullUp_41 rfl ?_
          refine y_iconst dX8_pullUp_42 ?_
          refine y_iast dX8_pullUp_43 (by first | assumption | rfl) (by first | rfl | assumption) (by omega) ?_
          refine z_aload_n dX8_pullUp_44 rfl ?_
          refine y_getR fX8_18 dX8_pullUp_45 (by first | assumption | rfl) (by first | assumption | rfl) ?_
          refine z_iload_n dX8_pullUp_48 rfl ?_
          refine y_iconst dX8_pullUp_49 ?_
          refine y_iast dX8_pullUp_50 (by first | assumption | rfl) (by first | rfl | assumption) (by omega) ?_
          refine z_iload_n dX8_pullUp_51 rfl ?_
          exact z_iret dX8_pullUp_52 rfl (Nat.le_refl 0) (Nat.le_refl 0) ⟨_, _, rfl, rfl, rfl, e⟩
      · omega
    | succ n ih =>
      intro i U h1 h2 hU
      have u5 : U 5 = iup (V 5) 4 (V 5 4 + i) := by rw [hU, zup_s]
      have u4 : U 4 = icp (V 4) (V 4) (r * 7) (28 + V 5 4) i := by rw [hU, zup_n _ _ (show (4 : Nat) ≠ 5 by decide), zup_s]
      have u54 : U 5 4 = V 5 4 + i := by rw [u5, iup_s]
      have u5r : U 5 r = V 5 r := by rw [u5, iup_n (by omega)]
      have hcU : cN U := by
        intro j
        rw [u5]
        exact iup_le hc (by omega) j
      have hwa : wA U r i = V 4 (r * 7 + i) := by
        unfold wA
        rw [if_pos (by omega), u4]
        unfold icp
        rw [if_neg (by omega)]
      have e : psh U 4 (wA U r i) = zup (zup V 4 (icp (V 4) (V 4) (r * 7) (28 + V 5 4) (i + 1))) 5 (iup (V 5) 4 (V 5 4 + (i + 1))) := by
        funext a
        by_cases h5 : a = 5
        · subst h5
          rw [psh_5, zup_s, u5]
          funext j
          unfold iup
          by_cases hj : j = 4
          · simp [hj]; omega
          · simp [hj]
        · by_cases h4 : a = 4
          · subst h4
            rw [psh_4, zup_n _ _ h5, zup_s, u54, hwa, u4]
            funext j
            unfold iup icp
            by_cases hj : j = 28 + V 5 4 + i
            · subst hj
              rw [if_pos (by omega), if_pos (by omega)]
              congr 1
              omega
            · rw [if_neg (by omega)]
              by_cases hj2 : 28 + V 5 4 ≤ j ∧ j < 28 + V 5 4 + i
              · rw [if_pos hj2, if_pos (by omega)]
              · rw [if_neg hj2, if_neg (by omega)]
          · rw [psh_o h4 h5, zup_n _ _ h5, zup_n _ _ h4, hU, zup_n _ _ h5, zup_n _ _ h4]
      have hih := ih (i + 1) (psh U 4 (wA U r i)) (by omega) (by omega) e
      refine z_iload_n dX8_pullUp_8 rfl ?_
      refine z_iload_n dX8_pullUp_9 rfl ?_
      refine y_icmp_ge dX8_pullUp_10 (by omega) (by omega) (fun c_10 => ?_) (fun c_10 => ?_)
      · omega
      · refine z_aload_n dX8_pullUp_13 rfl ?_
        refine y_iconst dX8_pullUp_14 ?_
        refine z_aload_n dX8_pullUp_15 rfl ?_
        refine z_iload_n dX8_pullUp_16 rfl ?_
        refine z_iload_n dX8_pullUp_17 rfl ?_
        refine y_callVr (ct_X8_wagonAt (by omega) (by omega) (by assumption)) kX8_55 dX8_pullUp_18 rfl rfl (by first | assumption | rfl) rfl (by decide) rfl (Nat.le_of_ble_eq_true rfl) (fun r_18 h_18 => ?_)
        subst h_18
        refine y_callVv (ct_X8_push (by omega) (by omega)) kX8_37 dX8_pullUp_21 rfl rfl (by first | assumption | rfl) rfl (by decide) rfl (Nat.le_of_ble_eq_true rfl) (fun V h_21 => ?_)
        subst h_21
        refine y_iinc dX8_pullUp_24 rfl (by decide) rfl rfl ?_
        refine z_goto dX8_pullUp_27 ?_
        exact hih
  refine zC_of (by decide +kernel) (Nat.le_of_ble_eq_true rfl) rfl ?_
  have e0 : V = zup (zup V 4 (icp (V 4) (V 4) (r * 7) (28 + V 5 4) 0)) 5 (iup (V 5) 4 (V 5 4 + 0)) := by
    have h1 : icp (V 4) (V 4) (r * 7) (28 + V 5 4) 0 = V 4 := by
      funext j
      unfold icp
      rw [if_neg (by omega)]
    have h2 : iup (V 5) 4 (V 5 4 + 0) = V 5 := by
      funext j
      unfold iup
      split
      · subst_vars; omega
      · rfl
    rw [h1, h2, zup_id, zup_id]
  have hl := loop (V 5 r).toNat 0 V (by omega) (by omega) e0
  refine z_aload_n dX8_pullUp_0 rfl ?_
  refine z_iload_n dX8_pullUp_1 rfl ?_
  refine y_callVr (ct_X8_countOf (by omega)) kX8_51 dX8_pullUp_2 rfl rfl (by first | assumption | rfl) rfl (by decide) rfl (Nat.le_of_ble_eq_true rfl) (fun r_2 h_2 => ?_)
  subst h_2
  refine z_istore_n dX8_pullUp_5 (by decide) rfl rfl ?_
  refine y_iconst dX8_pullUp_6 ?_
  refine z_istore_n dX8_pullUp_7 (by decide) rfl rfl ?_
  exact hl
theorem ct_X8_hasPeace {r i : Int} (hr : 0 ≤ r ∧ r ≤ 4) (hi : 0 ≤ i ∧ i ≤ 30) (hp : 0 ≤ V 6 r ∧ V 6 r ≤ 2147483647) : yC 3 mX8_hasPeace [.ref 3, .int (iI r), .int (iI i)] V b (pR b V (fun q => q = if tb (V 6 r) i then 1 else 0)) := by
  have hs1 := s1_pos i
  have hs2 := s1_le (n := i) (by omega)
  have h1 := bAnd_nn (V 6 r) (s1 i)
  have h2 := bAnd_le (x := V 6 r) (y := s1 i) (by omega)
  have h3 := bAnd_s1 (V 6 r) i
  refine zC_of (by decide +kernel) (Nat.le_of_ble_eq_true rfl) rfl ?_
  refine z_aload_n dX8_hasPeace_0 rfl ?_
  refine z_iload_n dX8_hasPeace_1 rfl ?_
  refine y_callVr (ct_X8_peaceOf (by omega)) kX8_78 dX8_hasPeace_2 rfl rfl (by first | assumption | rfl) rfl (by decide) rfl (Nat.le_of_ble_eq_true rfl) (fun r_2 h_2 => ?_)
  subst h_2
  refine y_iconst dX8_hasPeace_5 ?_
  refine z_iload_n dX8_hasPeace_6 rfl ?_
  refine y_shl1 dX8_hasPeace_7 (by omega) ?_
  refine y_iand dX8_hasPeace_8 (by omega) (by omega) ?_
  refine y_if_eq dX8_hasPeace_9 (by omega) (fun c_9 => ?_) (fun c_9 => ?_)
  · have h4 := h3.1 c_9
    refine y_iconst dX8_hasPeace_16 ?_
    exact y_zret dX8_hasPeace_17 rfl (by omega) (Nat.le_refl 0) (Nat.le_refl 0) ⟨_, rfl, rfl, by simp [h4]⟩
  · have h4 : tb (V 6 r) i = true := by cases h5 : tb (V 6 r) i with | true => rfl | false => exact absurd (h3.2 h5) c_9
    refine y_iconst dX8_hasPeace_12 ?_
    refine z_goto dX8_hasPeace_13 ?_
    exact y_zret dX8_hasPeace_17 rfl (by omega) (Nat.le_refl 0) (Nat.le_refl 0) ⟨_, rfl, rfl, by simp [h4]⟩
theorem ct_X8_makePeace {r i : Int} (hr : 0 ≤ r ∧ r ≤ 4) (hi : 0 ≤ i ∧ i ≤ 30) (hp : 0 ≤ V 6 r ∧ V 6 r ≤ 2147483647) : yC 2 mX8_makePeace [.ref 3, .int (iI r), .int (iI i)] V b (pV b (fun V' => V' = vst V 6 r (bOr (V 6 r) (s1 i)))) := by
  have hs1 := s1_pos i
  refine zC_of (by decide +kernel) (Nat.le_of_ble_eq_true rfl) rfl ?_
  refine z_iload_n dX8_makePeace_0 rfl ?_
  refine y_callSr (ct_X8_isLine (by omega)) kX8_47 dX8_makePeace_1 rfl rfl (by decide) rfl (Nat.le_of_ble_eq_true rfl) (fun r_1 h_1 => ?_)
  refine y_if_eq dX8_makePeace_4 (by omega) (fun c_4 => ?_) (fun c_4 => ?_)
  · omega
  · refine z_aload_n dX8_makePeace_7 rfl ?_
    refine y_getR fX8_18 dX8_makePeace_8 (by first | assumption | rfl) (by first | assumption | rfl) ?_
    refine z_iload_n dX8_makePeace_11 rfl ?_
    refine z_dup2 dX8_makePeace_12 rfl rfl ?_
    refine y_iald dX8_makePeace_13 (by first | assumption | rfl) (by first | rfl | assumption) (by omega) ?_
    refine y_iconst dX8_makePeace_14 ?_
    refine z_iload_n dX8_makePeace_15 rfl ?_
    refine y_shl1 dX8_makePeace_16 (by omega) ?_
    refine y_ior dX8_makePeace_17 (by omega) (by omega) ?_
    refine y_iast dX8_makePeace_18 (by first | assumption | rfl) (by first | rfl | assumption) (by omega) ?_
    exact z_vret dX8_makePeace_19 rfl (Nat.le_refl 0) (Nat.le_refl 0) ⟨_, rfl, rfl, rfl⟩
theorem ct_X8_kicksBehind {r i : Int} (hy : isY y) (hys : YS V y) (hc : cN V) (hw : wN V) (hr : 0 ≤ r ∧ r ≤ 4) (hi : -10 ≤ i ∧ i ≤ 30) : yC 4 mX8_kicksBehind [.ref 3, .ref y, .int (iI r), .int (iI i)] V b (pR b V (fun q => q = kkI (V y 8) (kdX V y (wA V r i)) (kdX V y (wA V r (i + 1))))) := by
  obtain ⟨sy, sy1, sy2, sy3, sy4, sy5, sy6, fy0, fy1, fy2, fy3, fy4, fy5⟩ := yfacts hy b
  have k1 := kdX_rg (w := wA V r i) hys
  have k2 := kdX_rg (w := wA V r (i + 1)) hys
  have w1 := wA_rg (l := r) (p := i) hw
  have w2 := wA_rg (l := r) (p := i + 1) hw
  obtain ⟨q1, q2, q3, -⟩ := id hys
  have h01 := kkI_01 (V y 8) (kdX V y (wA V r i)) (kdX V y (wA V r (i + 1)))
  refine zC_of (by decide +kernel) (Nat.le_of_ble_eq_true rfl) rfl ?_
  refine z_aload_n dX8_kicksBehind_0 rfl ?_
  refine z_aload_n dX8_kicksBehind_1 rfl ?_
  refine z_aload_n dX8_kicksBehind_2 rfl ?_
  refine z_iload_n dX8_kicksBehind_3 rfl ?_
  refine z_iload_n dX8_kicksBehind_4 rfl ?_
  refine y_callVr (ct_X8_wagonAt (by omega) (by omega) (by assumption)) kX8_55 dX8_kicksBehind_5 rfl rfl (by first | assumption | rfl) rfl (by decide) rfl (Nat.le_of_ble_eq_true rfl) (fun r_5 h_5 => ?_)
  subst h_5
  refine y_callVr (ct_X9_kindOf hy (by omega) (by omega)) kX8_69 dX8_kicksBehind_8 rfl rfl (by first | assumption | rfl) rfl (by decide) rfl (Nat.le_of_ble_eq_true rfl) (fun r_8 h_8 => ?_)
  subst h_8
  refine z_aload_n dX8_kicksBehind_11 rfl ?_
  refine z_aload_n dX8_kicksBehind_12 rfl ?_
  refine z_iload_n dX8_kicksBehind_13 rfl ?_
  refine z_iload_n dX8_kicksBehind_14 rfl ?_
  refine y_iconst dX8_kicksBehind_15 ?_
  refine y_iadd dX8_kicksBehind_16 ?_
  refine y_callVr (ct_X8_wagonAt (by omega) (by omega) (by assumption)) kX8_55 dX8_kicksBehind_17 rfl rfl (by first | assumption | rfl) rfl (by decide) rfl (Nat.le_of_ble_eq_true rfl) (fun r_17 h_17 => ?_)
  subst h_17
  refine y_callVr (ct_X9_kindOf hy (by omega) (by omega)) kX8_69 dX8_kicksBehind_20 rfl rfl (by first | assumption | rfl) rfl (by decide) rfl (Nat.le_of_ble_eq_true rfl) (fun r_20 h_20 => ?_)
  subst h_20
  refine y_callVr (ct_X9_kindsKick hy (by omega) (by omega) (by omega)) kX8_74 dX8_kicksBehind_23 rfl rfl (by first | assumption | rfl) rfl (by decide) rfl (Nat.le_of_ble_eq_true rfl) (fun r_23 h_23 => ?_)
  exact y_zret dX8_kicksBehind_26 rfl (by omega) (Nat.le_refl 0) (Nat.le_refl 0) ⟨_, rfl, rfl, by omega⟩
end

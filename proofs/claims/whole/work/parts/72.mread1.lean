/-! ===== the model reads: its scratch numbers ===== -/
def mst (V : Nat → Int → Int) (a p s f v w : Int) : Nat → Int → Int := zup V 134 (fun j => if j = 17 then a else if j = 18 then p else if j = 19 then s else if j = 20 then f else if j = 21 then v else if j = 22 then w else V 134 j)
section
variable {V : Nat → Int → Int} {b : Bool} {a p s f v w : Int}
theorem mst_o {c : Nat} (h : c ≠ 134) : mst V a p s f v w c = V c := zup_n _ _ h
theorem mst_j {j : Int} (h : j < 17 ∨ 22 < j) : mst V a p s f v w 134 j = V 134 j := by
  unfold mst
  rw [zup_s]
  show (if j = 17 then a else if j = 18 then p else if j = 19 then s else if j = 20 then f else if j = 21 then v else if j = 22 then w else V 134 j) = _
  rw [if_neg (by omega), if_neg (by omega), if_neg (by omega), if_neg (by omega), if_neg (by omega), if_neg (by omega)]
theorem mst_9 : mst V a p s f v w 134 9 = V 134 9 := mst_j (by omega)
theorem mst_17 : mst V a p s f v w 134 17 = a := by unfold mst; rw [zup_s]; rfl
theorem mst_18 : mst V a p s f v w 134 18 = p := by unfold mst; rw [zup_s]; rfl
theorem mst_19 : mst V a p s f v w 134 19 = s := by unfold mst; rw [zup_s]; rfl
theorem mst_20 : mst V a p s f v w 134 20 = f := by unfold mst; rw [zup_s]; rfl
theorem mst_21 : mst V a p s f v w 134 21 = v := by unfold mst; rw [zup_s]; rfl
theorem mst_22 : mst V a p s f v w 134 22 = w := by unfold mst; rw [zup_s]; rfl
theorem mst_u17 {x : Int} : vst (mst V a p s f v w) 134 17 x = mst V x p s f v w := by
  unfold mst; rw [vst_zup_s]; congr 1; funext j; simp only [iup]; (repeat' split); all_goals first | rfl | omega
theorem mst_u18 {x : Int} : vst (mst V a p s f v w) 134 18 x = mst V a x s f v w := by
  unfold mst; rw [vst_zup_s]; congr 1; funext j; simp only [iup]; (repeat' split); all_goals first | rfl | omega
theorem mst_u19 {x : Int} : vst (mst V a p s f v w) 134 19 x = mst V a p x f v w := by
  unfold mst; rw [vst_zup_s]; congr 1; funext j; simp only [iup]; (repeat' split); all_goals first | rfl | omega
theorem mst_u20 {x : Int} : vst (mst V a p s f v w) 134 20 x = mst V a p s x v w := by
  unfold mst; rw [vst_zup_s]; congr 1; funext j; simp only [iup]; (repeat' split); all_goals first | rfl | omega
theorem mst_u21 {x : Int} : vst (mst V a p s f v w) 134 21 x = mst V a p s f x w := by
  unfold mst; rw [vst_zup_s]; congr 1; funext j; simp only [iup]; (repeat' split); all_goals first | rfl | omega
theorem mst_u22 {x : Int} : vst (mst V a p s f v w) 134 22 x = mst V a p s f v x := by
  unfold mst; rw [vst_zup_s]; congr 1; funext j; simp only [iup]; (repeat' split); all_goals first | rfl | omega
theorem mst_id : mst V (V 134 17) (V 134 18) (V 134 19) (V 134 20) (V 134 21) (V 134 22) = V := by
  funext c
  by_cases h : c = 134
  · subst h
    unfold mst
    rw [zup_s]
    funext j
    show (if j = 17 then V 134 17 else if j = 18 then V 134 18 else if j = 19 then V 134 19 else if j = 20 then V 134 20 else if j = 21 then V 134 21 else if j = 22 then V 134 22 else V 134 j) = V 134 j
    (repeat' split) <;> first | rfl | (subst_vars; rfl)
  · exact mst_o h
theorem mst_v {c : Nat} {j x : Int} (h : c ≠ 134) : vst (mst V a p s f v w) c j x = mst (vst V c j x) a p s f v w := by
  unfold mst vst
  funext d
  by_cases h1 : d = 134
  · subst h1
    rw [zup_n _ _ (Ne.symm h), zup_s, zup_s]
    rw [zup_n _ _ (Ne.symm h)]
  · rw [zup_n _ _ h1]
    by_cases h2 : d = c
    · subst h2; rw [zup_s, zup_s, zup_n _ _ h1]
    · rw [zup_n _ _ h2, zup_n _ _ h2, zup_n _ _ h1]
def tM (V : Nat → Int → Int) : Prop := (0 ≤ V 134 9 ∧ V 134 9 ≤ 230) ∧ ∀ j, 0 ≤ V 141 j ∧ V 141 j ≤ 255
theorem ct_X11_here (hT : tM V) (ha : 0 ≤ a ∧ a ≤ V 134 9) : yC 0 mX11_here [.ref 134] (mst V a p s f v w) b (pR b (mst V a p s f v w) (fun q => q = ltT (V 141) (V 134 9) a)) := by
  obtain ⟨h1, h2⟩ := hT
  refine zC_of (by decide +kernel) (Nat.le_of_ble_eq_true rfl) rfl ?_
  refine z_aload_n dX11_here_0 rfl ?_
  refine y_getI (j := 17) fX11_110 dX11_here_1 rfl (by first | assumption | rfl) ?_
  rw [mst_17]
  refine z_aload_n dX11_here_4 rfl ?_
  refine y_getI (j := 9) fX11_106 dX11_here_5 rfl (by first | assumption | rfl) ?_
  rw [mst_9]
  refine y_icmp_ge dX11_here_8 (by omega) (by omega) (fun c_8 => ?_) (fun c_8 => ?_)
  · refine y_iconst dX11_here_23 ?_
    exact z_iret dX11_here_24 rfl (Nat.le_refl 0) (Nat.le_refl 0) ⟨_, rfl, rfl, by unfold ltT; first | rw [if_pos (by omega)] | rw [if_neg (by omega)]⟩
  · refine z_aload_n dX11_here_11 rfl ?_
    refine y_getR fX11_29 dX11_here_12 (by first | assumption | rfl) (by first | assumption | rfl) ?_
    refine z_aload_n dX11_here_15 rfl ?_
    refine y_getI (j := 17) fX11_110 dX11_here_16 rfl (by first | assumption | rfl) ?_
    rw [mst_17]
    refine y_iald dX11_here_19 (by first | assumption | rfl) (by first | rfl | assumption) (by omega) ?_
    rw [mst_o (by decide)]
    refine z_goto dX11_here_20 ?_
    exact z_iret dX11_here_24 rfl (Nat.le_refl 0) (Nat.le_refl 0) ⟨_, rfl, rfl, by unfold ltT; first | rw [if_pos (by omega)] | rw [if_neg (by omega)]⟩
theorem ct_X11_fails {x : Int} : yC 0 mX11_fails [.ref 134, .int (iI x)] (mst V a p s f v w) b (pI b (fun q V' => q = 0 ∧ V' = mst V a p s f v x)) := by
  refine zC_of (by decide +kernel) (Nat.le_of_ble_eq_true rfl) rfl ?_
  refine z_aload_n dX11_fails_0 rfl ?_
  refine z_iload_n dX11_fails_1 rfl ?_
  refine y_putI (j := 22) fX11_133 dX11_fails_2 rfl (by first | assumption | rfl) ?_
  refine y_iconst dX11_fails_5 ?_
  exact y_zret dX11_fails_6 rfl (by omega) (Nat.le_refl 0) (Nat.le_refl 0) ⟨_, _, rfl, rfl, rfl, mst_u22⟩
/-- what the next sign is -/
abbrev isD (t : Int → Int) (n a : Int) : Prop := 48 ≤ ltT t n (sk t n a) ∧ ltT t n (sk t n a) ≤ 57
def stA (t : Int → Int) (n a : Int) : Int := if isD t n a then de t n (sk t n a) else if ltT t n (sk t n a) < 0 then sk t n a else sk t n a + 1
def stS (t : Int → Int) (n a : Int) : Int := if isD t n a then 48 else ltT t n (sk t n a)
def stF (t : Int → Int) (n a : Int) : Int := if isD t n a then de t n (sk t n a) - sk t n a else 0
def stV (t : Int → Int) (n a : Int) : Int := if isD t n a then va t n (sk t n a) else 0
theorem ct_X11_step (hT : tM V) (ha : 0 ≤ a ∧ a ≤ V 134 9) : yC 2 mX11_step [.ref 134] (mst V a p s f v w) b (pV b (fun V' => V' = mst V (stA (V 141) (V 134 9) a) (sk (V 141) (V 134 9) a) (stS (V 141) (V 134 9) a) (stF (V 141) (V 134 9) a) (stV (V 141) (V 134 9) a) w)) := by
  obtain ⟨h1, h2⟩ := id hT
  have hk := sk_rg (t := V 141) ha.2
  obtain ⟨q, hq⟩ : ∃ q, q = sk (V 141) (V 134 9) a := ⟨_, rfl⟩
  rw [← hq] at hk
  obtain ⟨Q, hQ⟩ : ∃ Q : Option Value → zMu → Prop, Q = pV b (fun V' => V' = mst V (stA (V 141) (V 134 9) a) q (stS (V 141) (V 134 9) a) (stF (V 141) (V 134 9) a) (stV (V 141) (V 134 9) a) w) := ⟨_, rfl⟩
  rw [← hq, ← hQ]
  have hlr := ltT_rg (n := V 134 9) (p := q) h2
  -- figures
  have loop2 : ∀ (k : Nat) (c x : Int), q ≤ c → c + k = V 134 9 → vaQ (c - q) x → isD (V 141) (V 134 9) a → de (V 141) (V 134 9) c = de (V 141) (V 134 9) q → vaT (V 141) (V 134 9) (V 134 9 - c).toNat c (c - q) x = va (V 141) (V 134 9) q → yE 2 Q mX11_step 93 [some (.ref 134)] [] (mst V c q 48 (c - q) x w) b := by
    intro k
    induction k with
    | zero =>
      intro c x hc hck hx hD hd hw
      have hlt : ltT (V 141) (V 134 9) c = -1 := if_neg (by omega)
      rw [de_no (by omega)] at hd
      rw [vaT_no (by omega)] at hw
      refine z_aload_n dX11_step_93 rfl ?_
      refine y_callVr (ct_X11_here hT (by omega)) kX11_113 dX11_step_94 rfl rfl (by first | assumption | rfl) rfl (by decide) rfl (Nat.le_of_ble_eq_true rfl) (fun r_94 h_94 => ?_)
      rw [hlt] at h_94
      subst h_94
      refine y_i2l dX11_step_97 (by omega) ?_
      refine y_ldc2 (n := 48) dX11_step_98 cX11_129 (by decide +kernel) ?_
      refine y_ldc2 (n := 57) dX11_step_101 cX11_131 (by decide +kernel) ?_
      refine y_callSr (ct_X11_in (by omega) (by omega) (by omega)) kX11_101 dX11_step_104 rfl rfl (by decide) rfl (Nat.le_of_ble_eq_true rfl) (fun r_104 h_104 => ?_)
      refine y_if_eq dX11_step_107 (by omega) (fun c_107 => ?_) (fun c_107 => ?_)
      · exact z_vret dX11_step_167 rfl (Nat.le_refl 0) (Nat.le_refl 0) (by rw [hQ]; exact ⟨_, rfl, rfl, by unfold stA stS stF stV; rw [if_pos hD, if_pos hD, if_pos hD, if_pos hD, ← hq, ← hd, ← hw]⟩)
      · omega
    | succ k ih =>
      intro c x hc hck hx hD hd hw
      obtain ⟨q0, q1, q2, q3, q4, q5⟩ := id hx
      have hlr := ltT_rg (n := V 134 9) (p := c) h2
      have hlt : ltT (V 141) (V 134 9) c = V 141 c := if_pos (by omega)
      have h2c := h2 c
      have go : (48 ≤ V 141 c ∧ V 141 c ≤ 57) → yE 2 Q mX11_step 93 [some (.ref 134)] [] (mst V (c + 1) q 48 (c - q + 1) (if c - q < 3 then x * 10 + V 141 c - 48 else x) w) b := by
        intro hd2
        have hh := ih (c + 1) (if c - q < 3 then x * 10 + V 141 c - 48 else x) (by omega) (by omega) (by rw [show c + 1 - q = c - q + 1 by omega]; exact vaQ_s hx hd2) hD (by rw [← hd, de_go (by omega) hd2]) (by rw [← hw, vaT_go (by omega) hd2, show c + 1 - q = c - q + 1 by omega])
        rw [show c + 1 - q = c - q + 1 by omega] at hh
        exact hh
      refine z_aload_n dX11_step_93 rfl ?_
      refine y_callVr (ct_X11_here hT (by omega)) kX11_113 dX11_step_94 rfl rfl (by first | assumption | rfl) rfl (by decide) rfl (Nat.le_of_ble_eq_true rfl) (fun r_94 h_94 => ?_)
      rw [hlt] at h_94
      subst h_94
      refine y_i2l dX11_step_97 (by omega) ?_
      refine y_ldc2 (n := 48) dX11_step_98 cX11_129 (by decide +kernel) ?_
      refine y_ldc2 (n := 57) dX11_step_101 cX11_131 (by decide +kernel) ?_
      refine y_callSr (ct_X11_in (by omega) (by omega) (by omega)) kX11_101 dX11_step_104 rfl rfl (by decide) rfl (Nat.le_of_ble_eq_true rfl) (fun r_104 h_104 => ?_)
      refine y_if_eq dX11_step_107 (by omega) (fun c_107 => ?_) (fun c_107 => ?_)
      · have hd1 := hd
        have hw1 := hw
        rw [de_no (by omega)] at hd1
        rw [vaT_no (by omega)] at hw1
        exact z_vret dX11_step_167 rfl (Nat.le_refl 0) (Nat.le_refl 0) (by rw [hQ]; exact ⟨_, rfl, rfl, by unfold stA stS stF stV; rw [if_pos hD, if_pos hD, if_pos hD, if_pos hD, ← hq, ← hd1, ← hw1]⟩)
      · refine z_aload_n dX11_step_110 rfl ?_
        refine z_aload_n dX11_step_111 rfl ?_
        refine y_getI (j := 20) fX11_123 dX11_step_112 rfl (by first | assumption | rfl) ?_
        rw [mst_20]
        refine y_iconst dX11_step_115 ?_
        refine y_icmp_ge dX11_step_116 (by omega) (by omega) (fun c_116 => ?_) (fun c_116 => ?_)
        · have gg := go (by omega)
          rw [if_neg (show ¬ c - q < 3 by omega)] at gg
          refine z_aload_n dX11_step_137 rfl ?_
          refine y_getI (j := 21) fX11_126 dX11_step_138 rfl (by first | assumption | rfl) ?_
          rw [mst_21]
          refine y_putI (j := 21) fX11_126 dX11_step_141 rfl (by first | assumption | rfl) ?_
          rw [mst_u21]
          refine z_aload_n dX11_step_144 rfl ?_
          refine z_dup dX11_step_145 rfl ?_
          refine y_getI (j := 20) fX11_123 dX11_step_146 rfl (by first | assumption | rfl) ?_
          rw [mst_20]
          refine y_iconst dX11_step_149 ?_
          refine y_iadd dX11_step_150 ?_
          refine y_putI (j := 20) fX11_123 dX11_step_151 rfl (by first | assumption | rfl) ?_
          rw [mst_u20]
          refine z_aload_n dX11_step_154 rfl ?_
          refine z_dup dX11_step_155 rfl ?_
          refine y_getI (j := 17) fX11_110 dX11_step_156 rfl (by first | assumption | rfl) ?_
          rw [mst_17]
          refine y_iconst dX11_step_159 ?_
          refine y_iadd dX11_step_160 ?_
          refine y_putI (j := 17) fX11_110 dX11_step_161 rfl (by first | assumption | rfl) ?_
          rw [mst_u17]
          refine z_goto dX11_step_164 ?_
          exact gg
        · have gg := go (by omega)
          rw [if_pos (show c - q < 3 by omega)] at gg
          refine y_bipush dX11_step_119 (by decide +kernel) ?_
          refine z_aload_n dX11_step_121 rfl ?_
          refine y_getI (j := 21) fX11_126 dX11_step_122 rfl (by first | assumption | rfl) ?_
          rw [mst_21]
          refine y_imul dX11_step_125 ?_
          refine z_aload_n dX11_step_126 rfl ?_
          refine y_callVr (ct_X11_here hT (by omega)) kX11_113 dX11_step_127 rfl rfl (by first | assumption | rfl) rfl (by decide) rfl (Nat.le_of_ble_eq_true rfl) (fun r_127 h_127 => ?_)
          rw [hlt] at h_127
          subst h_127
          refine y_iadd dX11_step_130 ?_
          refine y_bipush dX11_step_131 (by decide +kernel) ?_
          refine y_isub dX11_step_133 ?_
          rw [show 10 * x + V 141 c - 48 = x * 10 + V 141 c - 48 by omega]
          refine z_goto dX11_step_134 ?_
          refine y_putI (j := 21) fX11_126 dX11_step_141 rfl (by first | assumption | rfl) ?_
          rw [mst_u21]
          refine z_aload_n dX11_step_144 rfl ?_
          refine z_dup dX11_step_145 rfl ?_
          refine y_getI (j := 20) fX11_123 dX11_step_146 rfl (by first | assumption | rfl) ?_
          rw [mst_20]
          refine y_iconst dX11_step_149 ?_
          refine y_iadd dX11_step_150 ?_
          refine y_putI (j := 20) fX11_123 dX11_step_151 rfl (by first | assumption | rfl) ?_
          rw [mst_u20]
          refine z_aload_n dX11_step_154 rfl ?_
          refine z_dup dX11_step_155 rfl ?_
          refine y_getI (j := 17) fX11_110 dX11_step_156 rfl (by first | assumption | rfl) ?_
          rw [mst_17]
          refine y_iconst dX11_step_159 ?_
          refine y_iadd dX11_step_160 ?_
          refine y_putI (j := 17) fX11_110 dX11_step_161 rfl (by first | assumption | rfl) ?_
          rw [mst_u17]
          refine z_goto dX11_step_164 ?_
          exact gg
  -- behind the blanks
  have mid : yE 2 Q mX11_step 22 [some (.ref 134)] [] (mst V q p s f v w) b := by
    obtain ⟨c0, hc0⟩ : ∃ c0, c0 = ltT (V 141) (V 134 9) q := ⟨_, rfl⟩
    have hh := ct_X11_here (b := b) (a := q) (p := q) (s := s) (f := f) (v := v) (w := w) hT (by omega)
    rw [← hc0] at hh hlr
    have hnD : ¬ (48 ≤ c0 ∧ c0 ≤ 57) → ¬ isD (V 141) (V 134 9) a := fun h g => h (by unfold isD at g; rw [← hq, ← hc0] at g; exact g)
    have hyD : (48 ≤ c0 ∧ c0 ≤ 57) → isD (V 141) (V 134 9) a := fun h => by unfold isD; rw [← hq, ← hc0]; exact h
    have l2 := fun h => loop2 (V 134 9 - q).toNat q 0 (by omega) (by omega) ⟨by omega, by omega, by omega, by omega, by omega, by omega⟩ h rfl (by rw [show q - q = 0 by omega]; rfl)
    rw [show q - q = 0 by omega] at l2
    refine z_aload_n dX11_step_22 rfl ?_
    refine z_aload_n dX11_step_23 rfl ?_
    refine y_getI (j := 17) fX11_110 dX11_step_24 rfl (by first | assumption | rfl) ?_
    rw [mst_17]
    refine y_putI (j := 18) fX11_117 dX11_step_27 rfl (by first | assumption | rfl) ?_
    rw [mst_u18]
    refine z_aload_n dX11_step_30 rfl ?_
    refine z_aload_n dX11_step_31 rfl ?_
    refine y_callVr (hh) kX11_113 dX11_step_32 rfl rfl (by first | assumption | rfl) rfl (by decide) rfl (Nat.le_of_ble_eq_true rfl) (fun r_32 h_32 => ?_)
    rw [h_32]
    refine y_putI (j := 19) fX11_120 dX11_step_35 rfl (by first | assumption | rfl) ?_
    rw [mst_u19]
    refine z_aload_n dX11_step_38 rfl ?_
    refine y_iconst dX11_step_39 ?_
    refine y_putI (j := 20) fX11_123 dX11_step_40 rfl (by first | assumption | rfl) ?_
    rw [mst_u20]
    refine z_aload_n dX11_step_43 rfl ?_
    refine y_iconst dX11_step_44 ?_
    refine y_putI (j := 21) fX11_126 dX11_step_45 rfl (by first | assumption | rfl) ?_
    rw [mst_u21]
    refine z_aload_n dX11_step_48 rfl ?_
    refine y_getI (j := 19) fX11_120 dX11_step_49 rfl (by first | assumption | rfl) ?_
    rw [mst_19]
    refine y_i2l dX11_step_52 (by omega) ?_
    refine y_ldc2 (n := 48) dX11_step_53 cX11_129 (by decide +kernel) ?_
    refine y_ldc2 (n := 57) dX11_step_56 cX11_131 (by decide +kernel) ?_
    refine y_callSr (ct_X11_in (by omega) (by omega) (by omega)) kX11_101 dX11_step_59 rfl rfl (by decide) rfl (Nat.le_of_ble_eq_true rfl) (fun r_59 h_59 => ?_)
    refine y_if_ne dX11_step_62 (by omega) (fun c_62 => ?_) (fun c_62 => ?_)
    · refine z_aload_n dX11_step_87 rfl ?_
      refine y_bipush dX11_step_88 (by decide +kernel) ?_
      refine y_putI (j := 19) fX11_120 dX11_step_90 rfl (by first | assumption | rfl) ?_
      rw [mst_u19]
      exact l2 (hyD (by omega))
    · refine z_aload_n dX11_step_65 rfl ?_
      refine z_dup dX11_step_66 rfl ?_
      refine y_getI (j := 17) fX11_110 dX11_step_67 rfl (by first | assumption | rfl) ?_
      rw [mst_17]
      refine z_aload_n dX11_step_70 rfl ?_
      refine y_getI (j := 19) fX11_120 dX11_step_71 rfl (by first | assumption | rfl) ?_
      rw [mst_19]
      refine y_if_ge dX11_step_74 (by omega) (fun c_74 => ?_) (fun c_74 => ?_)
      · refine y_iconst dX11_step_81 ?_
        refine y_iadd dX11_step_82 ?_
        refine y_putI (j := 17) fX11_110 dX11_step_83 rfl (by first | assumption | rfl) ?_
        rw [mst_u17]
        exact z_vret dX11_step_86 rfl (Nat.le_refl 0) (Nat.le_refl 0) (by
          have hD := hnD (by omega)
          rw [hQ]
          refine ⟨_, rfl, rfl, ?_⟩
          unfold stA stS stF stV
          rw [if_neg hD, if_neg hD, if_neg hD, if_neg hD, ← hq, ← hc0]
          first | rw [if_pos (by omega), Int.add_zero] | rw [if_neg (by omega)])
      · refine y_iconst dX11_step_77 ?_
        refine z_goto dX11_step_78 ?_
        refine y_iadd dX11_step_82 ?_
        refine y_putI (j := 17) fX11_110 dX11_step_83 rfl (by first | assumption | rfl) ?_
        rw [mst_u17]
        exact z_vret dX11_step_86 rfl (Nat.le_refl 0) (Nat.le_refl 0) (by
          have hD := hnD (by omega)
          rw [hQ]
          refine ⟨_, rfl, rfl, ?_⟩
          unfold stA stS stF stV
          rw [if_neg hD, if_neg hD, if_neg hD, if_neg hD, ← hq, ← hc0]
          first | rw [if_pos (by omega), Int.add_zero] | rw [if_neg (by omega)])
  have loop1 : ∀ (k : Nat) (c : Int), 0 ≤ c → c + k = V 134 9 → sk (V 141) (V 134 9) c = q → yE 2 Q mX11_step 0 [some (.ref 134)] [] (mst V c p s f v w) b := by
    intro k
    induction k with
    | zero =>
      intro c c0 hc he
      have hlt : ltT (V 141) (V 134 9) c = -1 := if_neg (by omega)
      rw [sk_no (by omega)] at he
      subst he
      refine z_aload_n dX11_step_0 rfl ?_
      refine y_callVr (ct_X11_here hT (by omega)) kX11_113 dX11_step_1 rfl rfl (by first | assumption | rfl) rfl (by decide) rfl (Nat.le_of_ble_eq_true rfl) (fun r_1 h_1 => ?_)
      rw [hlt] at h_1
      refine y_bipush dX11_step_4 (by decide +kernel) ?_
      refine y_icmp_ne dX11_step_6 (by omega) (by omega) (fun c_6 => ?_) (fun c_6 => ?_)
      · exact mid
      · omega
    | succ k ih =>
      intro c c0 hc he
      have hlr := ltT_rg (n := V 134 9) (p := c) h2
      have hlt : ltT (V 141) (V 134 9) c = V 141 c := if_pos (by omega)
      refine z_aload_n dX11_step_0 rfl ?_
      refine y_callVr (ct_X11_here hT (by omega)) kX11_113 dX11_step_1 rfl rfl (by first | assumption | rfl) rfl (by decide) rfl (Nat.le_of_ble_eq_true rfl) (fun r_1 h_1 => ?_)
      refine y_bipush dX11_step_4 (by decide +kernel) ?_
      refine y_icmp_ne dX11_step_6 (by omega) (by omega) (fun c_6 => ?_) (fun c_6 => ?_)
      · rw [sk_no (by omega)] at he
        rw [he]
        exact mid
      · refine z_aload_n dX11_step_9 rfl ?_
        refine z_dup dX11_step_10 rfl ?_
        refine y_getI (j := 17) fX11_110 dX11_step_11 rfl (by first | assumption | rfl) ?_
        rw [mst_17]
        refine y_iconst dX11_step_14 ?_
        refine y_iadd dX11_step_15 ?_
        refine y_putI (j := 17) fX11_110 dX11_step_16 rfl (by first | assumption | rfl) ?_
        rw [mst_u17]
        refine z_goto dX11_step_19 ?_
        exact ih (c + 1) (by omega) (by omega) (by rw [← he]; exact (sk_go (by omega) (by omega)).symm)
  refine zC_of (by decide +kernel) (Nat.le_of_ble_eq_true rfl) rfl ?_
  exact loop1 (V 134 9 - a).toNat a (by omega) (by omega) hq.symm
end

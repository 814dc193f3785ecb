/-! ===== the model: number, ends ===== -/
section
variable {t : Int → Int} {n a : Int}
theorem isD_de (h : a ≤ n) : isD t n a ↔ de t n (sk t n a) ≠ sk t n a := by
  have hk := sk_rg (t := t) h
  unfold isD
  constructor
  · intro hd
    have h1 := ltT_44 (t := t) (n := n) (p := sk t n a) rfl (by omega)
    have h2 : ltT t n (sk t n a) = t (sk t n a) := if_pos h1
    rw [h2] at hd
    rw [de_go h1 hd]
    have := de_le (t := t) (n := n) (sk t n a + 1)
    omega
  · intro hne
    by_cases h1 : sk t n a < n ∧ 48 ≤ t (sk t n a) ∧ t (sk t n a) ≤ 57
    · have h2 : ltT t n (sk t n a) = t (sk t n a) := if_pos h1.1
      rw [h2]; exact h1.2
    · exact absurd (de_no h1) hne
theorem stS_59 {x : Int} (hx : ¬ (48 ≤ x ∧ x ≤ 57)) : stS t n a = x ↔ ltT t n (sk t n a) = x := by
  unfold stS isD
  split <;> omega
theorem stS_48 : stS t n a = 48 ↔ isD t n a := by
  unfold stS isD
  split
  · constructor <;> intro _ <;> first | assumption | rfl
  · constructor
    · intro h; omega
    · intro h; contradiction
theorem stA_rg (h0 : 0 ≤ a) (h : a ≤ n) : 0 ≤ stA t n a ∧ stA t n a ≤ n := by
  have hk := sk_rg (t := t) h
  have hd := de_rg (t := t) hk.2
  unfold stA
  split
  · omega
  · split
    · omega
    · have := ltT_44 (t := t) (n := n) (p := sk t n a) rfl (by omega)
      omega
theorem stS_rg (h : ∀ j, 0 ≤ t j ∧ t j ≤ 255) : -1 ≤ stS t n a ∧ stS t n a ≤ 255 := by
  have := ltT_rg (n := n) (p := sk t n a) h
  unfold stS
  split <;> omega
end
section
variable {V : Nat → Int → Int} {b : Bool} {rd : Int → Int} {a p s f v w : Int}
theorem zup_136 {j x : Int} : vst (zup V 136 rd) 136 j x = zup V 136 (iup rd j x) := vst_zup_s
theorem tM_z (h : tM V) : tM (zup V 136 rd) := by unfold tM at *; rw [zup_n _ _ (by decide), zup_n _ _ (by decide)]; exact h
theorem ct_mstep (hT : tM V) (ha : 0 ≤ a ∧ a ≤ V 134 9) : yC 2 mX11_step [.ref 134] (mst (zup V 136 rd) a p s f v w) b (pV b (fun V' => V' = mst (zup V 136 rd) (stA (V 141) (V 134 9) a) (sk (V 141) (V 134 9) a) (stS (V 141) (V 134 9) a) (stF (V 141) (V 134 9) a) (stV (V 141) (V 134 9) a) w)) := by
  have h := ct_X11_step (b := b) (a := a) (p := p) (s := s) (f := f) (v := v) (w := w) (tM_z (rd := rd) hT) (by rw [zup_n _ _ (by decide)]; exact ha)
  rw [zup_n _ _ (show (141 : Nat) ≠ 136 by decide), zup_n _ _ (show (134 : Nat) ≠ 136 by decide)] at h
  exact h
theorem ct_X11_number {pl lo hi : Int} (hT : tM V) (ha : 0 ≤ a ∧ a ≤ V 134 9) (hpl : 0 ≤ pl ∧ pl ≤ 40) (hlo : rg lo) (hhi : rg hi) : yC 3 mX11_number [.ref 134, .int (iI pl), .int (iI lo), .int (iI hi)] (mst (zup V 136 rd) a p s f v w) b (pI b (fun q V' => ∃ a' s' f' v', (0 ≤ a' ∧ a' ≤ V 134 9) ∧ ((nF (de (V 141) (V 134 9) (sk (V 141) (V 134 9) a)) (sk (V 141) (V 134 9) a) (va (V 141) (V 134 9) (sk (V 141) (V 134 9) a)) lo hi ≠ 0 ∧ q = 0 ∧ V' = mst (zup V 136 rd) a' (sk (V 141) (V 134 9) a) s' f' v' (nF (de (V 141) (V 134 9) (sk (V 141) (V 134 9) a)) (sk (V 141) (V 134 9) a) (va (V 141) (V 134 9) (sk (V 141) (V 134 9) a)) lo hi)) ∨ (nF (de (V 141) (V 134 9) (sk (V 141) (V 134 9) a)) (sk (V 141) (V 134 9) a) (va (V 141) (V 134 9) (sk (V 141) (V 134 9) a)) lo hi = 0 ∧ q = 1 ∧ a' = de (V 141) (V 134 9) (sk (V 141) (V 134 9) a) ∧ V' = mst (zup V 136 (iup rd pl (va (V 141) (V 134 9) (sk (V 141) (V 134 9) a)))) a' (sk (V 141) (V 134 9) a) s' f' v' w)))) := by
  obtain ⟨hT1, hT2⟩ := id hT
  have hA := stA_rg (t := V 141) ha.1 ha.2
  have hS := stS_rg (n := V 134 9) (a := a) hT2
  have hi48 := stS_48 (t := V 141) (n := V 134 9) (a := a)
  have hde := isD_de (t := V 141) ha.2
  have hk := sk_rg (t := V 141) ha.2
  have hdr := de_rg (t := V 141) hk.2
  have hvr := va_rg (t := V 141) (n := V 134 9) (p := sk (V 141) (V 134 9) a)
  have eA : isD (V 141) (V 134 9) a → stA (V 141) (V 134 9) a = de (V 141) (V 134 9) (sk (V 141) (V 134 9) a) := fun h => if_pos h
  have eF : isD (V 141) (V 134 9) a → stF (V 141) (V 134 9) a = de (V 141) (V 134 9) (sk (V 141) (V 134 9) a) - sk (V 141) (V 134 9) a := fun h => if_pos h
  have eV : isD (V 141) (V 134 9) a → stV (V 141) (V 134 9) a = va (V 141) (V 134 9) (sk (V 141) (V 134 9) a) := fun h => if_pos h
  have hFr : 0 ≤ stF (V 141) (V 134 9) a ∧ stF (V 141) (V 134 9) a ≤ 230 := by unfold stF; split <;> omega
  have hVr : 0 ≤ stV (V 141) (V 134 9) a ∧ stV (V 141) (V 134 9) a ≤ 999 := by unfold stV; split <;> omega
  obtain ⟨q0, hq0⟩ : ∃ q0, q0 = sk (V 141) (V 134 9) a := ⟨_, rfl⟩
  obtain ⟨e0, he0⟩ : ∃ e0, e0 = de (V 141) (V 134 9) q0 := ⟨_, rfl⟩
  obtain ⟨v0, hv0⟩ : ∃ v0, v0 = va (V 141) (V 134 9) q0 := ⟨_, rfl⟩
  rw [← hq0, ← he0] at hde
  rw [← hq0, ← he0] at eA
  rw [← hq0, ← he0] at eF
  rw [← hq0, ← hv0] at eV
  rw [← hq0, ← he0, ← hv0]
  have hst := ct_mstep (rd := rd) (b := b) (a := a) (p := p) (s := s) (f := f) (v := v) (w := w) hT ha
  rw [← hq0] at hst
  obtain ⟨a1, ha1⟩ : ∃ a1, a1 = stA (V 141) (V 134 9) a := ⟨_, rfl⟩
  obtain ⟨s1', hs1⟩ : ∃ s1, s1 = stS (V 141) (V 134 9) a := ⟨_, rfl⟩
  obtain ⟨f1, hf1⟩ : ∃ f1, f1 = stF (V 141) (V 134 9) a := ⟨_, rfl⟩
  obtain ⟨v1, hv1⟩ : ∃ v1, v1 = stV (V 141) (V 134 9) a := ⟨_, rfl⟩
  rw [← ha1, ← hs1, ← hf1, ← hv1] at hst
  rw [← ha1] at hA eA
  rw [← hs1] at hS hi48
  rw [← hf1] at hFr eF
  rw [← hv1] at hVr eV
  refine zC_of (by decide +kernel) (Nat.le_of_ble_eq_true rfl) rfl ?_
  refine z_aload_n dX11_number_0 rfl ?_
  refine y_callVv (hst) kX11_136 dX11_number_1 rfl rfl (by first | assumption | rfl) rfl (by decide) rfl (Nat.le_of_ble_eq_true rfl) (fun V1 h_1 => ?_)
  subst h_1
  refine z_aload_n dX11_number_4 rfl ?_
  refine y_getI (j := 19) fX11_120 dX11_number_5 rfl (by first | assumption | rfl) ?_
  rw [mst_19]
  refine y_bipush dX11_number_8 (by decide +kernel) ?_
  refine y_icmp_eq dX11_number_10 (by omega) (by omega) (fun c_10 => ?_) (fun c_10 => ?_)
  · have hD := hi48.1 (by omega)
    have hne := hde.1 hD
    have eA' := eA hD
    have eF' := eF hD
    have eV' := eV hD
    refine z_aload_n dX11_number_19 rfl ?_
    refine y_getI (j := 20) fX11_123 dX11_number_20 rfl (by first | assumption | rfl) ?_
    rw [mst_20]
    refine y_iconst dX11_number_23 ?_
    refine y_icmp_gt dX11_number_24 (by omega) (by omega) (fun c_24 => ?_) (fun c_24 => ?_)
    · refine z_aload_n dX11_number_42 rfl ?_
      refine y_iconst dX11_number_43 ?_
      have hn : nF e0 q0 v0 lo hi = 2 := by unfold nF; rw [if_neg hne, if_pos (by omega)]
      refine y_callVi (ct_X11_fails) kX11_139 dX11_number_44 rfl rfl (by first | assumption | rfl) rfl (by decide) rfl (Nat.le_of_ble_eq_true rfl) (fun q_44 V2 h_44 => ?_)
      obtain ⟨z1, z2⟩ := h_44
      exact y_zret dX11_number_47 rfl (by omega) (Nat.le_refl 0) (Nat.le_refl 0) ⟨_, _, rfl, rfl, a1, s1', f1, v1, hA, Or.inl ⟨by omega, z1, by rw [hn]; exact z2⟩⟩
    · refine z_aload_n dX11_number_27 rfl ?_
      refine y_getI (j := 21) fX11_126 dX11_number_28 rfl (by first | assumption | rfl) ?_
      rw [mst_21]
      refine y_i2l dX11_number_31 (by omega) ?_
      refine z_iload_n dX11_number_32 rfl ?_
      refine y_i2l dX11_number_33 (by omega) ?_
      refine z_iload_n dX11_number_34 rfl ?_
      refine y_i2l dX11_number_35 (by omega) ?_
      refine y_callSr (ct_X11_in (by omega) (by omega) (by omega)) kX11_101 dX11_number_36 rfl rfl (by decide) rfl (Nat.le_of_ble_eq_true rfl) (fun r_36 h_36 => ?_)
      refine y_if_ne dX11_number_39 (by omega) (fun c_39 => ?_) (fun c_39 => ?_)
      · refine z_aload_n dX11_number_48 rfl ?_
        refine y_getR fX11_13 dX11_number_49 (by first | assumption | rfl) (by first | assumption | rfl) ?_
        refine z_iload_n dX11_number_52 rfl ?_
        refine z_aload_n dX11_number_53 rfl ?_
        refine y_getI (j := 21) fX11_126 dX11_number_54 rfl (by first | assumption | rfl) ?_
        rw [mst_21]
        refine y_iast dX11_number_57 (by first | assumption | rfl) (by first | rfl | assumption) (by omega) ?_
        rw [mst_v (by decide), zup_136]
        refine y_iconst dX11_number_58 ?_
        exact y_zret dX11_number_59 rfl (by omega) (Nat.le_refl 0) (Nat.le_refl 0) ⟨_, _, rfl, rfl, a1, s1', f1, v1, hA, Or.inr ⟨by unfold nF; rw [if_neg hne, if_neg (by omega)], rfl, eA', by rw [eV']⟩⟩
      · refine z_aload_n dX11_number_42 rfl ?_
        refine y_iconst dX11_number_43 ?_
        have hn : nF e0 q0 v0 lo hi = 2 := by unfold nF; rw [if_neg hne, if_pos (by omega)]
        refine y_callVi (ct_X11_fails) kX11_139 dX11_number_44 rfl rfl (by first | assumption | rfl) rfl (by decide) rfl (Nat.le_of_ble_eq_true rfl) (fun q_44 V2 h_44 => ?_)
        obtain ⟨z1, z2⟩ := h_44
        exact y_zret dX11_number_47 rfl (by omega) (Nat.le_refl 0) (Nat.le_refl 0) ⟨_, _, rfl, rfl, a1, s1', f1, v1, hA, Or.inl ⟨by omega, z1, by rw [hn]; exact z2⟩⟩
  · have hn : nF e0 q0 v0 lo hi = 1 := by unfold nF; rw [if_pos (by by_cases h : e0 = q0; exact h; exact absurd (hi48.2 (hde.2 h)) (by omega))]
    refine z_aload_n dX11_number_13 rfl ?_
    refine y_iconst dX11_number_14 ?_
    refine y_callVi (ct_X11_fails) kX11_139 dX11_number_15 rfl rfl (by first | assumption | rfl) rfl (by decide) rfl (Nat.le_of_ble_eq_true rfl) (fun q_15 V2 h_15 => ?_)
    obtain ⟨z1, z2⟩ := h_15
    exact y_zret dX11_number_18 rfl (by omega) (Nat.le_refl 0) (Nat.le_refl 0) ⟨_, _, rfl, rfl, a1, s1', f1, v1, hA, Or.inl ⟨by omega, z1, by rw [hn]; exact z2⟩⟩
end

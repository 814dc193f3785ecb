/-! ===== rowsFrom ===== -/
section
variable {R W : Nat} {kd rm wt c0 : Int → Int} {b : Bool}
theorem ct_X2_rowsFrom : ∀ n : Nat, rfC R W kd rm wt c0 b n := by
  intro n
  induction n with
  | zero =>
    intro V i hQ
    obtain ⟨hB, h4, h5, h9, h10, h18, hv, hl, hm, h19, hi, hc, hwt⟩ := id hQ
    obtain ⟨hR, hW, hkd, hrm, hcn, hi01⟩ := FQ_R hQ
    have hop := opI_nn (R := R) (wt := wt) (V 111)
    have hop2 := opI_le (wt := wt) hR (V 111)
    have hkr := ky_rg hv (by omega)
    have hF : FP R W kd rm wt c0 (PI R kd rm wt 0 i (V 111)) V V := ⟨fun a _ _ => rfl, hm, h19, fun j s s0 => ⟨Or.inl, fun h => h.elim id (fun h => absurd h (fun h => h))⟩⟩
    refine zC_of (by decide +kernel) (Nat.le_of_ble_eq_true rfl) rfl ?_
    refine z_iload_n dX2_rowsFrom_0 rfl ?_
    refine z_aload_n dX2_rowsFrom_1 rfl ?_
    refine y_getI (j := 5) fX2_81 dX2_rowsFrom_2 rfl (by first | assumption | rfl) ?_
    rw [h5]
    refine z_iload_n dX2_rowsFrom_5 rfl ?_
    refine y_isub dX2_rowsFrom_6 ?_
    refine y_icmp_le dX2_rowsFrom_7 (by omega) (by omega) (fun c_7 => ?_) (fun c_7 => ?_)
    · refine z_iload_n dX2_rowsFrom_12 rfl ?_
      refine z_aload_n dX2_rowsFrom_13 rfl ?_
      refine y_getI (j := 5) fX2_81 dX2_rowsFrom_14 rfl (by first | assumption | rfl) ?_
      rw [h5]
      refine y_icmp_ge dX2_rowsFrom_17 (by omega) (by omega) (fun c_17 => ?_) (fun c_17 => ?_)
      · refine y_iconst dX2_rowsFrom_39 ?_
        exact z_iret dX2_rowsFrom_40 rfl (Nat.le_refl 0) (Nat.le_refl 0) ⟨_, _, rfl, rfl, by unfold GI; rw [if_pos (by omega)], hF⟩
      · omega
    · refine y_iconst dX2_rowsFrom_10 ?_
      exact z_iret dX2_rowsFrom_11 rfl (Nat.le_refl 0) (Nat.le_refl 0) ⟨_, _, rfl, rfl, by unfold GI; rw [if_neg (by omega)], hF⟩
  | succ n ih =>
    intro V i hQ
    obtain ⟨hB, h4, h5, h9, h10, h18, hv, hl, hm, h19, hi, hc, hwt⟩ := id hQ
    obtain ⟨hR, hW, hkd, hrm, hcn, hi01⟩ := FQ_R hQ
    have hop := opI_nn (R := R) (wt := wt) (V 111)
    have hop2 := opI_le (wt := wt) hR (V 111)
    have hkr := ky_rg hv (by omega)
    have hG0 := GI_nn (R := R) (kd := kd) (rm := rm) (wt := wt) (n + 1) i (V 111)
    have hG1 : GI R kd rm wt (n + 1) i (V 111) ≤ 16384 := by
      have h1 := GI_le (kd := kd) (rm := rm) (wt := wt) hR (n + 1) i (V 111)
      have h2 : 4 ^ (n + 1) ≤ 4 ^ 7 := Nat.pow_le_pow_right (by decide) (by omega)
      have h3 : ((4 ^ (n + 1) : Nat) : Int) = (4 : Int) ^ (n + 1) := by norm_cast
      have h4 : 4 ^ 7 = 16384 := by decide
      omega
    have hel : W - (lv R c0 (V 111)).toNat = n + 1 := by omega
    have hmm := hm (V 111) hv (by omega)
    rw [hel, hl] at hmm
    refine zC_of (by decide +kernel) (Nat.le_of_ble_eq_true rfl) rfl ?_
    refine z_iload_n dX2_rowsFrom_0 rfl ?_
    refine z_aload_n dX2_rowsFrom_1 rfl ?_
    refine y_getI (j := 5) fX2_81 dX2_rowsFrom_2 rfl (by first | assumption | rfl) ?_
    rw [h5]
    refine z_iload_n dX2_rowsFrom_5 rfl ?_
    refine y_isub dX2_rowsFrom_6 ?_
    refine y_icmp_le dX2_rowsFrom_7 (by omega) (by omega) (fun c_7 => ?_) (fun c_7 => ?_)
    · refine z_iload_n dX2_rowsFrom_12 rfl ?_
      refine z_aload_n dX2_rowsFrom_13 rfl ?_
      refine y_getI (j := 5) fX2_81 dX2_rowsFrom_14 rfl (by first | assumption | rfl) ?_
      rw [h5]
      refine y_icmp_ge dX2_rowsFrom_17 (by omega) (by omega) (fun c_17 => ?_) (fun c_17 => ?_)
      · omega
      · refine z_iload_n dX2_rowsFrom_20 rfl ?_
        refine y_bipush dX2_rowsFrom_21 (by decide +kernel) ?_
        refine y_icmp_ge dX2_rowsFrom_23 (by omega) (by omega) (fun c_23 => ?_) (fun c_23 => ?_)
        · omega
        · refine z_iload dX2_rowsFrom_26 rfl ?_
          refine y_if_lt dX2_rowsFrom_28 (by omega) (fun c_28 => ?_) (fun c_28 => ?_)
          · omega
          · refine z_iload dX2_rowsFrom_31 rfl ?_
            refine y_sipush dX2_rowsFrom_33 (by decide +kernel) ?_
            refine y_icmp_lt dX2_rowsFrom_36 (by omega) (by omega) (fun c_36 => ?_) (fun c_36 => ?_)
            · refine z_aload_n dX2_rowsFrom_41 rfl ?_
              refine y_getR fX2_11 dX2_rowsFrom_42 (by first | assumption | rfl) (by first | assumption | rfl) ?_
              refine z_iload dX2_rowsFrom_45 rfl ?_
              refine y_iald dX2_rowsFrom_47 (by first | assumption | rfl) (by first | rfl | assumption) (by omega) ?_
              refine y_iconst dX2_rowsFrom_48 ?_
              refine y_icmp_ne dX2_rowsFrom_49 (by omega) (by omega) (fun c_49 => ?_) (fun c_49 => ?_)
              · have hmv := hmm.resolve_left (by omega)
                have hF : FP R W kd rm wt c0 (PI R kd rm wt (n + 1) i (V 111)) V V := ⟨fun a _ _ => rfl, hm, h19, fun j s s0 => ⟨Or.inl, fun h => h.elim id (fun h => hmv.2 j s h)⟩⟩
                have hq := hmv.1
                refine z_aload_n dX2_rowsFrom_68 rfl ?_
                refine y_getR fX2_11 dX2_rowsFrom_69 (by first | assumption | rfl) (by first | assumption | rfl) ?_
                refine z_iload dX2_rowsFrom_72 rfl ?_
                refine y_iald dX2_rowsFrom_74 (by first | assumption | rfl) (by first | rfl | assumption) (by omega) ?_
                exact z_iret dX2_rowsFrom_75 rfl (Nat.le_refl 0) (Nat.le_refl 0) ⟨_, _, rfl, rfl, hq, hF⟩
              · refine z_aload_n dX2_rowsFrom_52 rfl ?_
                refine y_getR fX2_11 dX2_rowsFrom_53 (by first | assumption | rfl) (by first | assumption | rfl) ?_
                refine z_iload dX2_rowsFrom_56 rfl ?_
                refine z_aload_n dX2_rowsFrom_58 rfl ?_
                refine z_aload_n dX2_rowsFrom_59 rfl ?_
                refine z_iload_n dX2_rowsFrom_60 rfl ?_
                refine z_iload_n dX2_rowsFrom_61 rfl ?_
                refine z_iload dX2_rowsFrom_62 rfl ?_
                refine y_callVi (ct_X2_countRows ih V i hQ) kX2_84 dX2_rowsFrom_64 rfl rfl (by first | assumption | rfl) rfl (by omega) rfl (Nat.le_of_ble_eq_true rfl) (fun r_64 V1 h_64 => ?_)
                obtain ⟨g1, g2, g3, g4, g5⟩ := h_64
                subst g1
                have hq : vst V1 117 (ky R c0 (V 111)) (GI R kd rm wt (n + 1) i (V 111)) 117 (ky R c0 (V 111)) = GI R kd rm wt (n + 1) i (V 111) := vst_s _ _ _ _
                have e119 : vst V1 117 (ky R c0 (V 111)) (GI R kd rm wt (n + 1) i (V 111)) 119 = V1 119 := vst_o (by decide)
                have hF : FP R W kd rm wt c0 (PI R kd rm wt (n + 1) i (V 111)) V (vst V1 117 (ky R c0 (V 111)) (GI R kd rm wt (n + 1) i (V 111))) := by
                  refine ⟨fun a a7 a9 => by rw [vst_o a7]; exact g2 a a7 a9, ?_, fun j => by rw [e119]; exact g4 j, fun j s s0 => by rw [e119]; exact g5 j s s0⟩
                  intro cn cv cl
                  by_cases hk : ky R c0 cn = ky R c0 (V 111)
                  · have hcc := ky_inj hR cv hv (by omega) (by omega) hk
                    have hlc := lv_congr (c0 := c0) hcc
                    refine Or.inr ⟨?_, fun j s hp => ?_⟩
                    · rw [hk, hq, hlc, hel, hl]
                      exact (GI_congr (n + 1) i cn (V 111) hcc).symm
                    · rw [hlc, hel, hl] at hp
                      rw [e119]
                      exact (g5 j s (PI_rg _ _ _ _ _ hp).1).2 (Or.inr (PI_congr (n + 1) i cn (V 111) j s hcc hp))
                  · rw [vst_n hk, e119]
                    exact g3 cn cv cl
                refine y_iast dX2_rowsFrom_67 (by first | assumption | rfl) (by first | rfl | assumption) (by omega) ?_
                refine z_aload_n dX2_rowsFrom_68 rfl ?_
                refine y_getR fX2_11 dX2_rowsFrom_69 (by first | assumption | rfl) (by first | assumption | rfl) ?_
                refine z_iload dX2_rowsFrom_72 rfl ?_
                refine y_iald dX2_rowsFrom_74 (by first | assumption | rfl) (by first | rfl | assumption) (by omega) ?_
                exact z_iret dX2_rowsFrom_75 rfl (Nat.le_refl 0) (Nat.le_refl 0) ⟨_, _, rfl, rfl, hq, hF⟩
            · omega
    · refine y_iconst dX2_rowsFrom_10 ?_
      exact z_iret dX2_rowsFrom_11 rfl (Nat.le_refl 0) (Nat.le_refl 0) ⟨_, _, rfl, rfl, by rw [GI_pr (fun r r0 r1 => (hrm r r0 r1).2) (n + 1) i (V 111) hcn (by omega)], fun a _ _ => rfl, hm, h19, fun j s s0 => ⟨Or.inl, fun h => h.elim id (fun h => by have := PI_pos _ _ _ _ _ h; rw [GI_pr (fun r r0 r1 => (hrm r r0 r1).2) (n + 1) i (V 111) hcn (by omega)] at this; omega)⟩⟩
end

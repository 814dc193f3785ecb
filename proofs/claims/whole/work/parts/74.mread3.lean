/-! ===== the model: ends, readsRoads ===== -/
/-- what a reading model leaves -/
def mlP (V : Nat → Int → Int) (res : pRs) (q : Int) (V' : Nat → Int → Int) : Prop := ∃ rd' a' p' s' f' v' w', V' = mst (zup V 136 rd') a' p' s' f' v' w' ∧ ((res.1 ≠ 0 ∧ q = 0 ∧ w' = res.1 ∧ p' = res.2.1) ∨ (res.1 = 0 ∧ q = 1 ∧ a' = res.2.2.1 ∧ (0 ≤ a' ∧ a' ≤ V 134 9) ∧ rd' = res.2.2.2))
section
variable {V : Nat → Int → Int} {b : Bool} {rd : Int → Int} {a p s f v w : Int}
theorem stA_59 {t : Int → Int} {n a x : Int} (h : ltT t n (sk t n a) = x) (hx : ¬ (48 ≤ x ∧ x ≤ 57)) (h0 : 0 ≤ x) : stA t n a = sk t n a + 1 := by
  unfold stA isD
  rw [if_neg (by omega), if_neg (by omega)]
theorem ct_X11_ends (hT : tM V) (ha : 0 ≤ a ∧ a ≤ V 134 9) : yC 3 mX11_ends [.ref 134] (mst (zup V 136 rd) a p s f v w) b (pI b (fun q V' => mlP V (pEnd (V 141) (V 134 9) a rd) q V')) := by
  obtain ⟨hT1, hT2⟩ := id hT
  have hA := stA_rg (t := V 141) ha.1 ha.2
  have hS := stS_rg (n := V 134 9) (a := a) hT2
  have h59 := stS_59 (t := V 141) (n := V 134 9) (a := a) (x := 59) (by omega)
  have hst := ct_mstep (rd := rd) (b := b) (a := a) (p := p) (s := s) (f := f) (v := v) (w := w) hT ha
  refine zC_of (by decide +kernel) (Nat.le_of_ble_eq_true rfl) rfl ?_
  refine z_aload_n dX11_ends_0 rfl ?_
  refine y_callVv (hst) kX11_136 dX11_ends_1 rfl rfl (by first | assumption | rfl) rfl (by decide) rfl (Nat.le_of_ble_eq_true rfl) (fun V1 h_1 => ?_)
  subst h_1
  refine z_aload_n dX11_ends_4 rfl ?_
  refine y_getI (j := 19) fX11_120 dX11_ends_5 rfl (by first | assumption | rfl) ?_
  rw [mst_19]
  refine y_bipush dX11_ends_8 (by decide +kernel) ?_
  refine y_icmp_eq dX11_ends_10 (by omega) (by omega) (fun c_10 => ?_) (fun c_10 => ?_)
  · have hq := h59.1 (by omega)
    have hfin : mlP V (pEnd (V 141) (V 134 9) a rd) 1 (mst (zup V 136 rd) (stA (V 141) (V 134 9) a) (sk (V 141) (V 134 9) a) (stS (V 141) (V 134 9) a) (stF (V 141) (V 134 9) a) (stV (V 141) (V 134 9) a) w) := by
      refine ⟨rd, _, _, _, _, _, _, rfl, Or.inr ?_⟩
      unfold pEnd
      rw [if_pos hq]
      exact ⟨rfl, rfl, stA_59 hq (by omega) (by omega), hA, rfl⟩
    refine y_iconst dX11_ends_21 ?_
    refine z_goto dX11_ends_22 ?_
    exact y_zret dX11_ends_26 rfl (by omega) (Nat.le_refl 0) (Nat.le_refl 0) ⟨_, _, rfl, rfl, hfin⟩
  · have hq : ltT (V 141) (V 134 9) (sk (V 141) (V 134 9) a) ≠ 59 := fun h => absurd (h59.2 h) (by omega)
    refine z_aload_n dX11_ends_13 rfl ?_
    refine y_iconst dX11_ends_14 ?_
    refine y_callVi (ct_X11_fails) kX11_139 dX11_ends_15 rfl rfl (by first | assumption | rfl) rfl (by decide) rfl (Nat.le_of_ble_eq_true rfl) (fun q_15 V2 h_15 => ?_)
    obtain ⟨z1, z2⟩ := h_15
    have hfin : mlP V (pEnd (V 141) (V 134 9) a rd) 0 V2 := by
      rw [z2]
      refine ⟨rd, _, _, _, _, _, _, rfl, Or.inl ?_⟩
      unfold pEnd
      rw [if_neg hq]
      exact ⟨by show (1 : Int) ≠ 0; omega, rfl, rfl, rfl⟩
    refine y_if_eq dX11_ends_18 (by omega) (fun c_18 => ?_) (fun c_18 => ?_)
    · refine y_iconst dX11_ends_25 ?_
      exact y_zret dX11_ends_26 rfl (by omega) (Nat.le_refl 0) (Nat.le_refl 0) ⟨_, _, rfl, rfl, hfin⟩
    · omega
end

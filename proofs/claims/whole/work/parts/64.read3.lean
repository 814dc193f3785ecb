/-! ===== x reads clauses ===== -/
/-- the yard at y is as rd tells -/
def YRd (V : Nat → Int → Int) (y : Nat) (rd : Int → Int) : Prop :=
  (V y 6 = rd 0 ∧ 0 ≤ rd 0 ∧ rd 0 ≤ 4) ∧ (V y 7 = rd 5 ∧ 0 ≤ rd 5 ∧ rd 5 ≤ 7) ∧ (V y 9 = rd 33 ∧ 0 ≤ rd 33 ∧ rd 33 ≤ 7) ∧
  (∀ r, 0 ≤ r → r < rd 0 → V (y + 1) r = rd (1 + r) ∧ 1 ≤ rd (1 + r) ∧ rd (1 + r) ≤ 7) ∧
  (∀ w, 0 ≤ w → w < rd 5 → (V (y + 2) w = rd (6 + w) ∧ 0 ≤ rd (6 + w) ∧ rd (6 + w) ≤ 4) ∧ (V (y + 3) w = rd (13 + w) ∧ 1 ≤ rd (13 + w) ∧ rd (13 + w) ≤ 30) ∧ (V (y + 4) w = rd (20 + w) ∧ 0 ≤ rd (20 + w) ∧ rd (20 + w) ≤ 20)) ∧
  (0 ≤ V y 8 ∧ V y 8 < 33554432 ∧ (popN (V y 8).toNat 32 : Int) = rd 32 ∧ rd 32 ≤ 10 ∧ ∀ a, 0 ≤ a → a ≤ 4 → 0 ≤ rd (27 + a) ∧ rd (27 + a) < 32 ∧ ∀ c, 0 ≤ c → c ≤ 4 → tb (V y 8) (a * 5 + c) = tb (rd (27 + a)) c) ∧
  (∀ i, 0 ≤ i → i < rd 33 → 0 ≤ rd (34 + i) ∧ rd (34 + i) < rd 5 ∧ V (y + 5) (rd (34 + i)) = i) ∧
  (∀ w, 0 ≤ w → w < rd 5 → V (y + 5) w = -1 ∨ (0 ≤ V (y + 5) w ∧ V (y + 5) w < rd 33 ∧ rd (34 + V (y + 5) w) = w))
section
variable {V : Nat → Int → Int} {b : Bool} {y : Nat} {rd : Int → Int} {s m f g : Int}
theorem YRd_congr {V' : Nat → Int → Int} (h : ∀ a, y ≤ a → a ≤ y + 5 → V' a = V a) (hY : YRd V y rd) : YRd V' y rd := by
  unfold YRd at *
  rw [h y (by omega) (by omega), h (y + 1) (by omega) (by omega), h (y + 2) (by omega) (by omega), h (y + 3) (by omega) (by omega), h (y + 4) (by omega) (by omega), h (y + 5) (by omega) (by omega)]
  exact hY
theorem sk_sk {t : Int → Int} {n p : Int} : sk t n (sk t n p) = sk t n p := sk_no sk_st
theorem pEnd_sk {t : Int → Int} {n p : Int} {rd : Int → Int} : pEnd t n (sk t n p) rd = pEnd t n p rd := by unfold pEnd; rw [sk_sk]
/-- what a clause's reading leaves, up to its ';' -/
def rdP (V : Nat → Int → Int) (y : Nat) (g : Int) (res : pRs) (V' : Nat → Int → Int) : Prop := ∃ U s' m' f' g', V' = rdr U s' m' f' g' ∧ (∀ a, a < y ∨ y + 5 < a → U a = V a) ∧ tuR U y ∧ (0 ≤ s' ∧ s' ≤ V 1 1) ∧ (0 ≤ f' ∧ f' ≤ 4) ∧ ((f' ≠ 0 ∧ res.1 = f' ∧ res.2.1 = g') ∨ (f' = 0 ∧ g' = g ∧ ∃ rd', YRd U y rd' ∧ res = pEnd (V 2) (V 1 1) s' rd'))
theorem tX_congr {U : Nat → Int → Int} (h1 : U 1 = V 1) (h2 : U 2 = V 2) (h : tX V) : tX U := by unfold tX at *; rw [h1, h2]; exact h
/-- a road more -/
theorem YRd_road {v : Int} (hY : YRd V y rd) (hr : rd 0 ≤ 3) (hv : 1 ≤ v ∧ v ≤ 7) : YRd (vst (vst V (y + 1) (V y 6) v) y 6 (V y 6 + 1)) y (iup (iup rd (1 + rd 0) v) 0 (rd 0 + 1)) := by
  obtain ⟨⟨a1, a2, a3⟩, ⟨b1, b2, b3⟩, ⟨c1, c2, c3⟩, d, e, ⟨f1, f2, f3, f4, f5⟩, g, h⟩ := hY
  have ey : ∀ j, j ≠ 6 → vst (vst V (y + 1) (V y 6) v) y 6 (V y 6 + 1) y j = V y j := fun j hj => by rw [vst_n hj, vst_o (by omega)]
  have eo : ∀ a, a ≠ y → a ≠ y + 1 → vst (vst V (y + 1) (V y 6) v) y 6 (V y 6 + 1) a = V a := fun a h1 h2 => by rw [vst_o h1, vst_o h2]
  have er : ∀ j, j ≠ 0 → j ≠ 1 + rd 0 → iup (iup rd (1 + rd 0) v) 0 (rd 0 + 1) j = rd j := fun j h1 h2 => by rw [iup_n h1, iup_n h2]
  have e0 : iup (iup rd (1 + rd 0) v) 0 (rd 0 + 1) 0 = rd 0 + 1 := iup_s _ _ _
  unfold YRd
  rw [e0, er 5 (by omega) (by omega), er 33 (by omega) (by omega), er 32 (by omega) (by omega), ey 7 (by omega), ey 9 (by omega), ey 8 (by omega), eo (y + 2) (by omega) (by omega), eo (y + 3) (by omega) (by omega), eo (y + 4) (by omega) (by omega), eo (y + 5) (by omega) (by omega)]
  refine ⟨⟨by rw [vst_s, a1], by omega, by omega⟩, ⟨b1, b2, b3⟩, ⟨c1, c2, c3⟩, fun r r0 r1 => ?_, fun w w0 w1 => ?_, ⟨f1, f2, f3, f4, fun a q0 q1 => ?_⟩, fun i i0 i1 => ?_, fun w w0 w1 => ?_⟩
  · rw [vst_o (by omega)]
    by_cases hr' : r = rd 0
    · subst hr'
      rw [iup_n (by omega), iup_s, a1, vst_s]; exact ⟨rfl, hv⟩
    · rw [er _ (by omega) (by omega), vst_n (by omega)]; exact d r r0 (by omega)
  · rw [er _ (by omega) (by omega), er _ (by omega) (by omega), er _ (by omega) (by omega)]; exact e w w0 w1
  · rw [er _ (by omega) (by omega)]; exact f5 a q0 q1
  · rw [er _ (by omega) (by omega)]; exact g i i0 i1
  · rcases h w w0 w1 with h | ⟨h1, h2, h3⟩
    · exact Or.inl h
    · exact Or.inr ⟨h1, h2, by rw [er _ (by omega) (by omega)]; exact h3⟩
theorem ct_X9_isFullOf {x : Int} (hy : isY y) (hY : YRd V y rd) (hx : x = 121 ∨ x = 119 ∨ x = 120 ∨ x = 116) : yC 3 mX9_isFullOf [.ref y, .int (iI x)] V b (pR b V (fun q => (q = 1 ∨ q = 0) ∧ (q = 1 ↔ (x = 121 ∧ 0 < rd 0) ∨ (x = 119 ∧ rd 5 = 7) ∨ (x = 120 ∧ rd 32 = 10) ∨ (x = 116 ∧ 0 < rd 33)))) := by
  obtain ⟨sy, sy1, sy2, sy3, sy4, sy5, sy6, fy0, fy1, fy2, fy3, fy4, fy5⟩ := yfacts hy b
  obtain ⟨⟨a1, a2, a3⟩, ⟨b1, b2, b3⟩, ⟨c1, c2, c3⟩, d, e, ⟨f1, f2, f3, f4, f5⟩, g, h⟩ := hY
  refine zC_of (by decide +kernel) (Nat.le_of_ble_eq_true rfl) rfl ?_
  refine z_iload_n dX9_isFullOf_0 rfl ?_
  rcases (show (x < 119 ∨ 121 < x) ∨ x = 119 ∨ x = 120 ∨ x = 121 by omega) with h_1 | h_1 | h_1 | h_1
  · refine y_tsOut (tgt := 74) dX9_isFullOf_1 (by omega) h_1 (by decide) ?_
    refine z_aload_n dX9_isFullOf_74 rfl ?_
    refine y_getI (j := 9) fX9_40 dX9_isFullOf_75 rfl (by first | assumption | rfl) ?_
    refine y_if_le dX9_isFullOf_78 (by omega) (fun c_78 => ?_) (fun c_78 => ?_)
    · refine y_iconst dX9_isFullOf_85 ?_
      exact y_zret dX9_isFullOf_86 rfl (by omega) (Nat.le_refl 0) (Nat.le_refl 0) ⟨_, rfl, rfl, by omega, by omega⟩
    · refine y_iconst dX9_isFullOf_81 ?_
      refine z_goto dX9_isFullOf_82 ?_
      exact y_zret dX9_isFullOf_86 rfl (by omega) (Nat.le_refl 0) (Nat.le_refl 0) ⟨_, rfl, rfl, by omega, by omega⟩
  · refine y_tsIn (off := 40) (tgt := 41) dX9_isFullOf_1 (by omega) (by omega) (by omega) (by rw [h_1]; rfl) (by decide) ?_
    refine z_aload_n dX9_isFullOf_41 rfl ?_
    refine y_getI (j := 7) fX9_34 dX9_isFullOf_42 rfl (by first | assumption | rfl) ?_
    refine y_bipush dX9_isFullOf_45 (by decide +kernel) ?_
    refine y_icmp_lt dX9_isFullOf_47 (by omega) (by omega) (fun c_47 => ?_) (fun c_47 => ?_)
    · refine y_iconst dX9_isFullOf_54 ?_
      exact y_zret dX9_isFullOf_55 rfl (by omega) (Nat.le_refl 0) (Nat.le_refl 0) ⟨_, rfl, rfl, by omega, by omega⟩
    · refine y_iconst dX9_isFullOf_50 ?_
      refine z_goto dX9_isFullOf_51 ?_
      exact y_zret dX9_isFullOf_55 rfl (by omega) (Nat.le_refl 0) (Nat.le_refl 0) ⟨_, rfl, rfl, by omega, by omega⟩
  · refine y_tsIn (off := 55) (tgt := 56) dX9_isFullOf_1 (by omega) (by omega) (by omega) (by rw [h_1]; rfl) (by decide) ?_
    refine z_aload_n dX9_isFullOf_56 rfl ?_
    refine y_getI (j := 8) fX9_37 dX9_isFullOf_57 rfl (by first | assumption | rfl) ?_
    refine y_callSr (ct_J6_bitCount (by omega)) kX9_43 dX9_isFullOf_60 rfl rfl (by decide) rfl (Nat.le_of_ble_eq_true rfl) (fun r_60 h_60 => ?_)
    rw [f3] at h_60
    refine y_bipush dX9_isFullOf_63 (by decide +kernel) ?_
    refine y_icmp_lt dX9_isFullOf_65 (by omega) (by omega) (fun c_65 => ?_) (fun c_65 => ?_)
    · refine y_iconst dX9_isFullOf_72 ?_
      exact y_zret dX9_isFullOf_73 rfl (by omega) (Nat.le_refl 0) (Nat.le_refl 0) ⟨_, rfl, rfl, by omega, by omega⟩
    · refine y_iconst dX9_isFullOf_68 ?_
      refine z_goto dX9_isFullOf_69 ?_
      exact y_zret dX9_isFullOf_73 rfl (by omega) (Nat.le_refl 0) (Nat.le_refl 0) ⟨_, rfl, rfl, by omega, by omega⟩
  · refine y_tsIn (off := 27) (tgt := 28) dX9_isFullOf_1 (by omega) (by omega) (by omega) (by rw [h_1]; rfl) (by decide) ?_
    refine z_aload_n dX9_isFullOf_28 rfl ?_
    refine y_getI (j := 6) fX9_30 dX9_isFullOf_29 rfl (by first | assumption | rfl) ?_
    refine y_if_le dX9_isFullOf_32 (by omega) (fun c_32 => ?_) (fun c_32 => ?_)
    · refine y_iconst dX9_isFullOf_39 ?_
      exact y_zret dX9_isFullOf_40 rfl (by omega) (Nat.le_refl 0) (Nat.le_refl 0) ⟨_, rfl, rfl, by omega, by omega⟩
    · refine y_iconst dX9_isFullOf_35 ?_
      refine z_goto dX9_isFullOf_36 ?_
      exact y_zret dX9_isFullOf_40 rfl (by omega) (Nat.le_refl 0) (Nat.le_refl 0) ⟨_, rfl, rfl, by omega, by omega⟩
end

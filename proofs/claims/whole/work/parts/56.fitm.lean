/-! ===== Fitting's memory ===== -/
def dg (R : Nat) (c0 cn : Int → Int) (r : Int) : Int := if r < R then cn r - c0 r else 0
def lv (R : Nat) (c0 cn : Int → Int) : Int := dg R c0 cn 0 + dg R c0 cn 1 + dg R c0 cn 2 + dg R c0 cn 3
def ky (R : Nat) (c0 cn : Int → Int) : Int := dg R c0 cn 0 + 8 * dg R c0 cn 1 + 64 * dg R c0 cn 2 + 512 * dg R c0 cn 3
/-- from c0 on -/
abbrev vl (R : Nat) (c0 cn : Int → Int) : Prop := ∀ r, 0 ≤ r → r < (R : Int) → c0 r ≤ cn r
section
variable {R W : Nat} {kd rm wt c0 : Int → Int}
theorem dg_nn {cn : Int → Int} (h : vl R c0 cn) {r : Int} (h0 : 0 ≤ r) : 0 ≤ dg R c0 cn r := by
  unfold dg
  split
  · have := h r h0 (by assumption); omega
  · omega
theorem dg_up {cn : Int → Int} {r s : Int} (h1 : r < R) : dg R c0 (iup cn r (cn r + 1)) s = dg R c0 cn s + if s = r then 1 else 0 := by
  unfold dg
  by_cases hs : s = r
  · subst hs; rw [iup_s, if_pos h1, if_pos h1, if_pos rfl]; omega
  · rw [iup_n hs, if_neg hs]; omega
theorem s1_0 : s1 (3 * 0) = 1 := rfl
theorem s1_3 : s1 (3 * 1) = 8 := rfl
theorem s1_6 : s1 (3 * 2) = 64 := rfl
theorem s1_9 : s1 (3 * 3) = 512 := rfl
theorem lv_up {cn : Int → Int} {r : Int} (hR : R ≤ 4) (h0 : 0 ≤ r) (h1 : r < R) : lv R c0 (iup cn r (cn r + 1)) = lv R c0 cn + 1 := by
  unfold lv
  rw [dg_up h1, dg_up h1, dg_up h1, dg_up h1]
  rcases (show r = 0 ∨ r = 1 ∨ r = 2 ∨ r = 3 by omega) with h | h | h | h <;> subst h <;> simp <;> omega
theorem ky_up {cn : Int → Int} {r : Int} (hR : R ≤ 4) (h0 : 0 ≤ r) (h1 : r < R) : ky R c0 (iup cn r (cn r + 1)) = ky R c0 cn + s1 (3 * r) := by
  unfold ky
  rw [dg_up h1, dg_up h1, dg_up h1, dg_up h1]
  rcases (show r = 0 ∨ r = 1 ∨ r = 2 ∨ r = 3 by omega) with h | h | h | h <;> subst h
  · rw [s1_0]; simp; omega
  · rw [s1_3]; simp; omega
  · rw [s1_6]; simp; omega
  · rw [s1_9]; simp; omega
theorem ky_rg {cn : Int → Int} (h : vl R c0 cn) (hl : lv R c0 cn < 8) : 0 ≤ ky R c0 cn ∧ ky R c0 cn < 4096 := by
  have d0 := dg_nn h (r := 0) (by omega)
  have d1 := dg_nn h (r := 1) (by omega)
  have d2 := dg_nn h (r := 2) (by omega)
  have d3 := dg_nn h (r := 3) (by omega)
  unfold lv at hl
  unfold ky
  omega
theorem ky_inj {cn cm : Int → Int} (hR : R ≤ 4) (h : vl R c0 cn) (g : vl R c0 cm) (hl : lv R c0 cn < 8) (gl : lv R c0 cm < 8) (e : ky R c0 cn = ky R c0 cm) : ∀ r, 0 ≤ r → r < (R : Int) → cn r = cm r := by
  have d0 := dg_nn h (r := 0) (by omega)
  have d1 := dg_nn h (r := 1) (by omega)
  have d2 := dg_nn h (r := 2) (by omega)
  have d3 := dg_nn h (r := 3) (by omega)
  have e0 := dg_nn g (r := 0) (by omega)
  have e1 := dg_nn g (r := 1) (by omega)
  have e2 := dg_nn g (r := 2) (by omega)
  have e3 := dg_nn g (r := 3) (by omega)
  unfold lv at hl gl
  unfold ky at e
  have f0 : dg R c0 cn 0 = dg R c0 cm 0 := by omega
  have f1 : dg R c0 cn 1 = dg R c0 cm 1 := by omega
  have f2 : dg R c0 cn 2 = dg R c0 cm 2 := by omega
  have f3 : dg R c0 cn 3 = dg R c0 cm 3 := by omega
  intro r r0 r1
  have key : dg R c0 cn r = dg R c0 cm r := by
    rcases (show r = 0 ∨ r = 1 ∨ r = 2 ∨ r = 3 by omega) with h | h | h | h <;> subst h <;> assumption
  unfold dg at key
  rw [if_pos r1, if_pos r1] at key
  omega
theorem lv_congr {cn cm : Int → Int} (h : ∀ r, 0 ≤ r → r < (R : Int) → cn r = cm r) : lv R c0 cn = lv R c0 cm := by
  have e : ∀ r, 0 ≤ r → dg R c0 cn r = dg R c0 cm r := fun r r0 => by
    unfold dg
    split
    · rw [h r r0 (by assumption)]
    · rfl
  unfold lv
  rw [e 0 (by omega), e 1 (by omega), e 2 (by omega), e 3 (by omega)]
/-- what is counted is right, and its roads are known -/
def MM (R W : Nat) (kd rm wt c0 : Int → Int) (V : Nat → Int → Int) : Prop := ∀ cn, vl R c0 cn → lv R c0 cn < W → V 117 (ky R c0 cn) = -1 ∨ (V 117 (ky R c0 cn) = GI R kd rm wt (W - (lv R c0 cn).toNat) (lv R c0 cn) cn ∧ ∀ j s, PI R kd rm wt (W - (lv R c0 cn).toNat) (lv R c0 cn) cn j s → tb (V 119 j) s = true)
theorem MM_mono {V V' : Nat → Int → Int} (h : MM R W kd rm wt c0 V) (h7 : V' 117 = V 117) (h9 : ∀ j s, 0 ≤ s → tb (V 119 j) s = true → tb (V' 119 j) s = true) : MM R W kd rm wt c0 V' := by
  intro cn hv hl
  rw [h7]
  rcases h cn hv hl with h | ⟨h1, h2⟩
  · exact Or.inl h
  · exact Or.inr ⟨h1, fun j s hp => h9 j s (PI_rg _ _ _ _ _ hp).1 (h2 j s hp)⟩
/-- what a search leaves from V to V', its rows' roads as P -/
def FP (R W : Nat) (kd rm wt c0 : Int → Int) (P : Int → Int → Prop) (V V' : Nat → Int → Int) : Prop := (∀ a, a ≠ 117 → a ≠ 119 → V' a = V a) ∧ MM R W kd rm wt c0 V' ∧ (∀ j, 0 ≤ V' 119 j ∧ V' 119 j ≤ 15) ∧ ∀ j s, 0 ≤ s → (tb (V' 119 j) s = true ↔ tb (V 119 j) s = true ∨ P j s)
def FQ (R W : Nat) (kd rm wt c0 : Int → Int) (V : Nat → Int → Int) (n : Nat) (i : Int) : Prop := BS V ∧ V 108 4 = R ∧ V 108 5 = W ∧ V 109 = kd ∧ V 110 = rm ∧ V 118 = wt ∧ vl R c0 (V 111) ∧ lv R c0 (V 111) = i ∧ MM R W kd rm wt c0 V ∧ (∀ j, 0 ≤ V 119 j ∧ V 119 j ≤ 15) ∧ i + n = W ∧ (∀ r, 0 ≤ r → r < (R : Int) → 0 ≤ c0 r) ∧ ∀ j, -2 ≤ wt j ∧ wt j ≤ 9
theorem bOr_tb0 (x k : Int) : tb (bOr x 0) k = tb x k := by
  unfold tb bOr
  rw [Int.toNat_natCast]
  simp
variable {V : Nat → Int → Int} {b : Bool}
theorem ct_X2_isPlace {r p : Int} (hr : rg r) (hp : rg p) : yC 0 mX2_isPlace [.int (iI r), .int (iI p)] V b (pR b V (fun q => (q = 1 ∧ 0 ≤ r ∧ r < 4 ∧ 0 ≤ p ∧ p < 7) ∨ (q = 0 ∧ ¬ (0 ≤ r ∧ r < 4 ∧ 0 ≤ p ∧ p < 7)))) := by
  refine zC_of (by decide +kernel) (Nat.le_of_ble_eq_true rfl) rfl ?_
  refine z_iload_n dX2_isPlace_0 rfl ?_
  refine y_if_lt dX2_isPlace_1 (by omega) (fun c_1 => ?_) (fun c_1 => ?_)
  · refine y_iconst dX2_isPlace_23 ?_
    exact y_zret dX2_isPlace_24 rfl (by omega) (Nat.le_refl 0) (Nat.le_refl 0) ⟨_, rfl, rfl, by omega⟩
  · refine z_iload_n dX2_isPlace_4 rfl ?_
    refine y_iconst dX2_isPlace_5 ?_
    refine y_icmp_ge dX2_isPlace_6 (by omega) (by omega) (fun c_6 => ?_) (fun c_6 => ?_)
    · refine y_iconst dX2_isPlace_23 ?_
      exact y_zret dX2_isPlace_24 rfl (by omega) (Nat.le_refl 0) (Nat.le_refl 0) ⟨_, rfl, rfl, by omega⟩
    · refine z_iload_n dX2_isPlace_9 rfl ?_
      refine y_if_lt dX2_isPlace_10 (by omega) (fun c_10 => ?_) (fun c_10 => ?_)
      · refine y_iconst dX2_isPlace_23 ?_
        exact y_zret dX2_isPlace_24 rfl (by omega) (Nat.le_refl 0) (Nat.le_refl 0) ⟨_, rfl, rfl, by omega⟩
      · refine z_iload_n dX2_isPlace_13 rfl ?_
        refine y_bipush dX2_isPlace_14 (by decide +kernel) ?_
        refine y_icmp_ge dX2_isPlace_16 (by omega) (by omega) (fun c_16 => ?_) (fun c_16 => ?_)
        · refine y_iconst dX2_isPlace_23 ?_
          exact y_zret dX2_isPlace_24 rfl (by omega) (Nat.le_refl 0) (Nat.le_refl 0) ⟨_, rfl, rfl, by omega⟩
        · refine y_iconst dX2_isPlace_19 ?_
          refine z_goto dX2_isPlace_20 ?_
          exact y_zret dX2_isPlace_24 rfl (by omega) (Nat.le_refl 0) (Nat.le_refl 0) ⟨_, rfl, rfl, by omega⟩
theorem ct_X2_wantedAt {r p : Int} (hr : 0 ≤ r ∧ r < 4) (hp : rg p) : yC 1 mX2_wantedAt [.ref 116, .int (iI r), .int (iI p)] V b (pR b V (fun q => q = if 0 ≤ p ∧ p < 7 then V 118 (7 * r + p) else -1)) := by
  refine zC_of (by decide +kernel) (Nat.le_of_ble_eq_true rfl) rfl ?_
  refine z_iload_n dX2_wantedAt_0 rfl ?_
  refine z_iload_n dX2_wantedAt_1 rfl ?_
  refine y_callSr (ct_X2_isPlace (by omega) (by omega)) kX2_77 dX2_wantedAt_2 rfl rfl (by decide) rfl (Nat.le_of_ble_eq_true rfl) (fun r_2 h_2 => ?_)
  refine y_if_eq dX2_wantedAt_5 (by omega) (fun c_5 => ?_) (fun c_5 => ?_)
  · refine y_iconst dX2_wantedAt_22 ?_
    exact z_iret dX2_wantedAt_23 rfl (Nat.le_refl 0) (Nat.le_refl 0) ⟨_, rfl, rfl, by first | rw [if_neg (by omega)] | rw [if_pos (by omega), Int.mul_comm]⟩
  · refine z_aload_n dX2_wantedAt_8 rfl ?_
    refine y_getR fX2_15 dX2_wantedAt_9 (by first | assumption | rfl) (by first | assumption | rfl) ?_
    refine z_iload_n dX2_wantedAt_12 rfl ?_
    refine y_bipush dX2_wantedAt_13 (by decide +kernel) ?_
    refine y_imul dX2_wantedAt_15 ?_
    refine z_iload_n dX2_wantedAt_16 rfl ?_
    refine y_iadd dX2_wantedAt_17 ?_
    refine y_iald dX2_wantedAt_18 (by first | assumption | rfl) (by first | rfl | assumption) (by omega) ?_
    refine z_goto dX2_wantedAt_19 ?_
    exact z_iret dX2_wantedAt_23 rfl (Nat.le_refl 0) (Nat.le_refl 0) ⟨_, rfl, rfl, by first | rw [if_neg (by omega)] | rw [if_pos (by omega), Int.mul_comm]⟩
theorem ct_X2_needsWagon {x : Int} (hx : rg x) : yC 0 mX2_needsWagon [.int (iI x)] V b (pR b V (fun q => q = if nd x then 1 else 0)) := by
  refine zC_of (by decide +kernel) (Nat.le_of_ble_eq_true rfl) rfl ?_
  refine z_iload_n dX2_needsWagon_0 rfl ?_
  refine y_iconst dX2_needsWagon_1 ?_
  refine y_icmp_eq dX2_needsWagon_2 (by omega) (by omega) (fun c_2 => ?_) (fun c_2 => ?_)
  · refine y_iconst dX2_needsWagon_15 ?_
    exact y_zret dX2_needsWagon_16 rfl (by omega) (Nat.le_refl 0) (Nat.le_refl 0) ⟨_, rfl, rfl, by unfold nd; first | rw [if_pos (by omega)] | rw [if_neg (by omega)]⟩
  · refine z_iload_n dX2_needsWagon_5 rfl ?_
    refine y_bipush dX2_needsWagon_6 (by decide +kernel) ?_
    refine y_icmp_eq dX2_needsWagon_8 (by omega) (by omega) (fun c_8 => ?_) (fun c_8 => ?_)
    · refine y_iconst dX2_needsWagon_15 ?_
      exact y_zret dX2_needsWagon_16 rfl (by omega) (Nat.le_refl 0) (Nat.le_refl 0) ⟨_, rfl, rfl, by unfold nd; first | rw [if_pos (by omega)] | rw [if_neg (by omega)]⟩
    · refine y_iconst dX2_needsWagon_11 ?_
      refine z_goto dX2_needsWagon_12 ?_
      exact y_zret dX2_needsWagon_16 rfl (by omega) (Nat.le_refl 0) (Nat.le_refl 0) ⟨_, rfl, rfl, by unfold nd; first | rw [if_pos (by omega)] | rw [if_neg (by omega)]⟩
end

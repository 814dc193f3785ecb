/-! ===== the model: rows of roads, what they cost ===== -/
/-- the j-th of m digits of code c -/
def dgt (B m c : Nat) (j : Int) : Int := ((c / B ^ (m - 1 - j.toNat) % B : Nat) : Int)
def lrw (B m c t : Nat) (g : Int → Int) : Int → Int := fun j => if (m : Int) - t ≤ j ∧ j < m then dgt B m c j else g j
theorem lrw_0 (B m c : Nat) (g : Int → Int) : lrw B m c 0 g = g := by
  funext j
  unfold lrw
  rw [if_neg (by omega)]
theorem lrw_s {B m c t : Nat} {g : Int → Int} (h : t < m) : iup (lrw B m c t g) ((m : Int) - 1 - t) ((c / B ^ t % B : Nat) : Int) = lrw B m c (t + 1) g := by
  funext j
  unfold iup lrw
  by_cases hj : j = (m : Int) - 1 - t
  · rw [if_pos hj, if_pos (by omega)]
    unfold dgt
    rw [show m - 1 - j.toNat = t by omega]
  · rw [if_neg hj]
    by_cases h2 : (m : Int) - t ≤ j ∧ j < m
    · rw [if_pos h2, if_pos (by omega)]
    · rw [if_neg h2, if_neg (by omega)]
theorem dgt_rg {B m c : Nat} {j : Int} (h : 0 < B) : 0 ≤ dgt B m c j ∧ dgt B m c j < B := by
  unfold dgt
  have := Nat.mod_lt (c / B ^ (m - 1 - j.toNat)) h
  omega
def lgF (N g : Int → Int) (i : Int) : Int → Int := fun j => if 0 ≤ j ∧ j < i then N (8 + j) else g j
def laF (N g : Int → Int) (i : Int) : Int → Int := fun j => if 0 ≤ j ∧ j < i then (if N (8 + j) = 0 then -1 else N (12 + 7 * j + N (8 + j) - 1)) else g j
section
variable {V : Nat → Int → Int} {b : Bool}
theorem ct_X11_layRow {c B m : Nat} (hc : c ≤ 2000000) (hB : B ≤ 7) (hm : m ≤ 7) (hBm : 0 < B ∨ m = 0) : yC 0 mX11_layRow [.ref 134, .int (iI c), .int (iI B), .int (iI m)] V b (pV b (fun V' => V' = zup V 145 (lrw B m c m (V 145)))) := by
  have loop : ∀ (k t : Nat), t + k = m → yE 0 (pV b (fun V' => V' = zup V 145 (lrw B m c m (V 145)))) mX11_layRow 8 [some (.ref 134), some (.int (iI c)), some (.int (iI B)), some (.int (iI m)), some (.int (iI ((c / B ^ t : Nat) : Int))), some (.int (iI ((m : Int) - 1 - t)))] [] (zup V 145 (lrw B m c t (V 145))) b := by
    intro k
    induction k with
    | zero =>
      intro t ht
      have ht' : t = m := by omega
      rw [ht']
      refine z_iload dX11_layRow_8 rfl ?_
      refine y_if_lt dX11_layRow_10 (by omega) (fun c_10 => ?_) (fun c_10 => ?_)
      · exact z_vret dX11_layRow_36 rfl (Nat.le_refl 0) (Nat.le_refl 0) ⟨_, rfl, rfl, rfl⟩
      · omega
    | succ k ih =>
      intro t ht
      have hd : c / B ^ t ≤ c := Nat.div_le_self _ _
      have hh := ih (t + 1) (by omega)
      rw [← lrw_s (by omega), ← vst_zup_s, show ((m : Int) - 1 - (t + 1 : Nat)) = (m : Int) - 1 - t + (-1) by omega, Nat.pow_succ, ← Nat.div_div_eq_div_mul] at hh
      rw [Int.natCast_emod, Int.natCast_ediv (c / B ^ t) B] at hh
      obtain ⟨e, he⟩ : ∃ e : Nat, e = c / B ^ t := ⟨_, rfl⟩
      rw [← he] at hd hh ⊢
      refine z_iload dX11_layRow_8 rfl ?_
      refine y_if_lt dX11_layRow_10 (by omega) (fun c_10 => ?_) (fun c_10 => ?_)
      · omega
      · refine z_aload_n dX11_layRow_13 rfl ?_
        refine y_getR fX11_45 dX11_layRow_14 (by first | assumption | rfl) (by first | assumption | rfl) ?_
        refine z_iload dX11_layRow_17 rfl ?_
        refine z_iload dX11_layRow_19 rfl ?_
        refine z_iload_n dX11_layRow_21 rfl ?_
        refine y_irem dX11_layRow_22 (by omega) (by omega) ?_
        refine y_iast dX11_layRow_23 (by first | assumption | rfl) (by first | rfl | assumption) (by omega) ?_
        refine z_iload dX11_layRow_24 rfl ?_
        refine z_iload_n dX11_layRow_26 rfl ?_
        refine y_idiv dX11_layRow_27 (by omega) (by omega) ?_
        refine z_istore dX11_layRow_28 (by decide) rfl rfl ?_
        refine y_iinc dX11_layRow_30 rfl (by decide) rfl rfl ?_
        refine z_goto dX11_layRow_33 ?_
        exact hh
  have h0 := loop m 0 (by omega)
  rw [lrw_0, zup_id, Nat.pow_zero, Nat.div_one, show (m : Int) - 1 - (0 : Nat) = (m : Int) - 1 by omega] at h0
  refine zC_of (by decide +kernel) (Nat.le_of_ble_eq_true rfl) rfl ?_
  refine z_iload_n dX11_layRow_0 rfl ?_
  refine z_istore dX11_layRow_1 (by decide) rfl rfl ?_
  refine z_iload_n dX11_layRow_3 rfl ?_
  refine y_iconst dX11_layRow_4 ?_
  refine y_isub dX11_layRow_5 ?_
  refine z_istore dX11_layRow_6 (by decide) rfl rfl ?_
  exact h0
theorem ct_X11_layRoads (hN : NS V) : yC 0 mX11_layRoads [.ref 134] V b (pV b (fun V' => V' = zup (zup V 147 (lgF (V 137) (V 147) 4)) 148 (laF (V 137) (V 148) 4))) := by
  obtain ⟨n0, n1, n2, n3, n4⟩ := id hN
  have loop : ∀ (k : Nat) (i : Int), 0 ≤ i → i + k = 4 → yE 0 (pV b (fun V' => V' = zup (zup V 147 (lgF (V 137) (V 147) 4)) 148 (laF (V 137) (V 148) 4))) mX11_layRoads 2 [some (.ref 134), some (.int (iI i))] [] (zup (zup V 147 (lgF (V 137) (V 147) i)) 148 (laF (V 137) (V 148) i)) b := by
    intro k
    induction k with
    | zero =>
      intro i h1 h2
      have hi : i = 4 := by omega
      subst hi
      refine z_iload_n dX11_layRoads_2 rfl ?_
      refine y_iconst dX11_layRoads_3 ?_
      refine y_icmp_ge dX11_layRoads_4 (by omega) (by omega) (fun c_4 => ?_) (fun c_4 => ?_)
      · exact z_vret dX11_layRoads_68 rfl (Nat.le_refl 0) (Nat.le_refl 0) ⟨_, rfl, rfl, rfl⟩
      · omega
    | succ k ih =>
      intro i h1 h2
      have hn := n1 i (by omega) (by omega)
      have e1 : iup (lgF (V 137) (V 147) i) i (V 137 (8 + i)) = lgF (V 137) (V 147) (i + 1) := by
        funext j
        unfold iup lgF
        by_cases hj : j = i
        · subst hj; rw [if_pos rfl, if_pos (by omega)]
        · rw [if_neg hj]
          by_cases h2 : 0 ≤ j ∧ j < i
          · rw [if_pos h2, if_pos (by omega)]
          · rw [if_neg h2, if_neg (by omega)]
      have e2 : ∀ x : Int, x = (if V 137 (8 + i) = 0 then -1 else V 137 (12 + 7 * i + V 137 (8 + i) - 1)) → iup (laF (V 137) (V 148) i) i x = laF (V 137) (V 148) (i + 1) := by
        intro x hx
        funext j
        unfold iup laF
        by_cases hj : j = i
        · subst hj; rw [if_pos rfl, if_pos (show 0 ≤ j ∧ j < j + 1 by omega), hx]
        · rw [if_neg hj]
          by_cases h2 : 0 ≤ j ∧ j < i
          · rw [if_pos h2, if_pos (show 0 ≤ j ∧ j < i + 1 by omega)]
          · rw [if_neg h2, if_neg (show ¬ (0 ≤ j ∧ j < i + 1) by omega)]
      have hh := ih (i + 1) (by omega) (by omega)
      have m1 : vst (zup (zup V 147 (lgF (V 137) (V 147) i)) 148 (laF (V 137) (V 148) i)) 147 i (V 137 (8 + i)) = zup (zup V 147 (lgF (V 137) (V 147) (i + 1))) 148 (laF (V 137) (V 148) i) := by
        rw [vst_zup (by decide), vst_zup_s, e1]
      have m2 : ∀ x : Int, x = (if V 137 (8 + i) = 0 then -1 else V 137 (12 + 7 * i + V 137 (8 + i) - 1)) → vst (zup (zup V 147 (lgF (V 137) (V 147) (i + 1))) 148 (laF (V 137) (V 148) i)) 148 i x = zup (zup V 147 (lgF (V 137) (V 147) (i + 1))) 148 (laF (V 137) (V 148) (i + 1)) := by
        intro x hx
        rw [vst_zup_s, e2 x hx]
      have a1 : zup (zup V 147 (lgF (V 137) (V 147) i)) 148 (laF (V 137) (V 148) i) 137 = V 137 := by rw [zup_n _ _ (by decide), zup_n _ _ (by decide)]
      have a2 : zup (zup V 147 (lgF (V 137) (V 147) (i + 1))) 148 (laF (V 137) (V 148) i) 137 = V 137 := by rw [zup_n _ _ (by decide), zup_n _ _ (by decide)]
      have a3 : zup (zup V 147 (lgF (V 137) (V 147) (i + 1))) 148 (laF (V 137) (V 148) i) 147 i = V 137 (8 + i) := by
        rw [zup_n _ _ (by decide), zup_s]
        unfold lgF
        rw [if_pos (by omega)]
      refine z_iload_n dX11_layRoads_2 rfl ?_
      refine y_iconst dX11_layRoads_3 ?_
      refine y_icmp_ge dX11_layRoads_4 (by omega) (by omega) (fun c_4 => ?_) (fun c_4 => ?_)
      · omega
      · refine z_aload_n dX11_layRoads_7 rfl ?_
        refine y_getR fX11_51 dX11_layRoads_8 (by first | assumption | rfl) (by first | assumption | rfl) ?_
        refine z_iload_n dX11_layRoads_11 rfl ?_
        refine z_aload_n dX11_layRoads_12 rfl ?_
        refine y_getR fX11_16 dX11_layRoads_13 (by first | assumption | rfl) (by first | assumption | rfl) ?_
        refine y_bipush dX11_layRoads_16 (by decide +kernel) ?_
        refine z_iload_n dX11_layRoads_18 rfl ?_
        refine y_iadd dX11_layRoads_19 ?_
        refine y_iald dX11_layRoads_20 (by first | assumption | rfl) (by first | rfl | assumption) (by omega) ?_
        rw [a1]
        refine y_iast dX11_layRoads_21 (by first | assumption | rfl) (by first | rfl | assumption) (by omega) ?_
        rw [m1]
        refine z_aload_n dX11_layRoads_22 rfl ?_
        refine y_getR fX11_54 dX11_layRoads_23 (by first | assumption | rfl) (by first | assumption | rfl) ?_
        refine z_iload_n dX11_layRoads_26 rfl ?_
        refine z_aload_n dX11_layRoads_27 rfl ?_
        refine y_getR fX11_51 dX11_layRoads_28 (by first | assumption | rfl) (by first | assumption | rfl) ?_
        refine z_iload_n dX11_layRoads_31 rfl ?_
        refine y_iald dX11_layRoads_32 (by first | assumption | rfl) (by first | rfl | assumption) (by omega) ?_
        rw [a3]
        refine y_if_ne dX11_layRoads_33 (by omega) (fun c_33 => ?_) (fun c_33 => ?_)
        · refine z_aload_n dX11_layRoads_40 rfl ?_
          refine y_getR fX11_16 dX11_layRoads_41 (by first | assumption | rfl) (by first | assumption | rfl) ?_
          refine y_bipush dX11_layRoads_44 (by decide +kernel) ?_
          refine y_bipush dX11_layRoads_46 (by decide +kernel) ?_
          refine z_iload_n dX11_layRoads_48 rfl ?_
          refine y_imul dX11_layRoads_49 ?_
          refine y_iadd dX11_layRoads_50 ?_
          refine z_aload_n dX11_layRoads_51 rfl ?_
          refine y_getR fX11_51 dX11_layRoads_52 (by first | assumption | rfl) (by first | assumption | rfl) ?_
          refine z_iload_n dX11_layRoads_55 rfl ?_
          refine y_iald dX11_layRoads_56 (by first | assumption | rfl) (by first | rfl | assumption) (by omega) ?_
          rw [a3]
          refine y_iadd dX11_layRoads_57 ?_
          refine y_iconst dX11_layRoads_58 ?_
          refine y_isub dX11_layRoads_59 ?_
          refine y_iald dX11_layRoads_60 (by first | assumption | rfl) (by first | rfl | assumption) (by omega) ?_
          rw [a2]
          refine y_iast dX11_layRoads_61 (by first | assumption | rfl) (by first | rfl | assumption) (by omega) ?_
          rw [m2 _ (by first | (rw [if_pos (by omega)]; done) | (rw [if_neg (by omega)]; done))]
          refine y_iinc dX11_layRoads_62 rfl (by decide) rfl rfl ?_
          refine z_goto dX11_layRoads_65 ?_
          exact hh
        · refine y_iconst dX11_layRoads_36 ?_
          refine z_goto dX11_layRoads_37 ?_
          refine y_iast dX11_layRoads_61 (by first | assumption | rfl) (by first | rfl | assumption) (by omega) ?_
          rw [m2 _ (by first | (rw [if_pos (by omega)]; done) | (rw [if_neg (by omega)]; done))]
          refine y_iinc dX11_layRoads_62 rfl (by decide) rfl rfl ?_
          refine z_goto dX11_layRoads_65 ?_
          exact hh
  have h0 := loop 4 0 (by omega) (by omega)
  have z1 : lgF (V 137) (V 147) 0 = V 147 := by funext j; unfold lgF; rw [if_neg (by omega)]
  have z2 : laF (V 137) (V 148) 0 = V 148 := by funext j; unfold laF; rw [if_neg (by omega)]
  rw [z1, zup_id, z2, zup_id] at h0
  refine zC_of (by decide +kernel) (Nat.le_of_ble_eq_true rfl) rfl ?_
  refine y_iconst dX11_layRoads_0 ?_
  refine z_istore_n dX11_layRoads_1 (by decide) rfl rfl ?_
  exact h0
/-- counts, lasts and cost after i of the row -/
def cL (N rw L0 : Int → Int) : Nat → Int → Int
  | 0 => L0
  | i + 1 => iup (cL N rw L0 i) (rw i) (cL N rw L0 i (rw i) + 1)
def cT (N rw T0 : Int → Int) : Nat → Int → Int
  | 0 => T0
  | i + 1 => iup (cT N rw T0 i) (rw i) (N (1 + i))
def cK (Y N rw T0 : Int → Int) (i : Nat) : Int := if 0 ≤ cT N rw T0 i (rw i) then enI Y (Y (6 + cT N rw T0 i (rw i))) (Y (6 + N (1 + i))) else 0
def cC (Y N rw T0 : Int → Int) : Nat → Int
  | 0 => 0
  | i + 1 => cC Y N rw T0 i + 100 * cK Y N rw T0 i + (if i = 0 ∨ rw ((i : Int) - 1) ≠ rw i then 1 else 0)
def cOk (Y N rw L0 : Int → Int) : Nat → Bool
  | 0 => true
  | i + 1 => cOk Y N rw L0 i && decide (cL N rw L0 i (rw i) ≠ Y (1 + rw i))
def cstQ (Y N rw L0 T0 : Int → Int) (m : Nat) : Int := if cOk Y N rw L0 m = true then cC Y N rw T0 m else 1000000
theorem cL_rg {N rw L0 : Int → Int} (h : ∀ r, 0 ≤ r → r < 4 → 0 ≤ L0 r ∧ L0 r ≤ 7) : ∀ (i : Nat) (r : Int), 0 ≤ r → r < 4 → 0 ≤ cL N rw L0 i r ∧ cL N rw L0 i r ≤ 7 + i
  | 0, r, h0, h1 => by have := h r h0 h1; unfold cL; omega
  | i + 1, r, h0, h1 => by
    have h2 := cL_rg (N := N) (rw := rw) h i r h0 h1
    unfold cL iup
    split
    · rename_i hr; rw [← hr]; omega
    · omega
theorem cT_rg {N rw T0 : Int → Int} {m : Nat} (hm : m ≤ 7) (hN : ∀ i, 1 ≤ i → i < 8 → 0 ≤ N i ∧ N i ≤ 6) (h : ∀ r, 0 ≤ r → r < 4 → -1 ≤ T0 r ∧ T0 r ≤ 6) : ∀ (i : Nat) (r : Int), i ≤ m → 0 ≤ r → r < 4 → -1 ≤ cT N rw T0 i r ∧ cT N rw T0 i r ≤ 6
  | 0, r, _, h0, h1 => h r h0 h1
  | i + 1, r, hi, h0, h1 => by
    have h2 := cT_rg (rw := rw) hm hN h i r (by omega) h0 h1
    have h3 := hN (1 + i) (by omega) (by omega)
    unfold cT iup
    split <;> omega
theorem cK_01 (Y N rw T0 : Int → Int) (i : Nat) : cK Y N rw T0 i = 0 ∨ cK Y N rw T0 i = 1 := by
  unfold cK
  split
  · exact enI_01 _ _ _
  · exact Or.inl rfl
theorem cC_rg (Y N rw T0 : Int → Int) : ∀ i : Nat, 0 ≤ cC Y N rw T0 i ∧ cC Y N rw T0 i ≤ 101 * i
  | 0 => by unfold cC; omega
  | i + 1 => by
    have := cC_rg Y N rw T0 i
    have := cK_01 Y N rw T0 i
    unfold cC
    split <;> omega
theorem cOk_f {Y N rw L0 : Int → Int} {i : Nat} (h : cOk Y N rw L0 i = false) : ∀ k : Nat, cOk Y N rw L0 (i + k) = false
  | 0 => h
  | k + 1 => by
    show (cOk Y N rw L0 (i + k) && _) = false
    rw [cOk_f h k]
    rfl
theorem ct_X11_costs {m : Nat} (hm : (m : Int) = V 137 0) (hM : MS V) (hN : NS V) (hrow : ∀ j : Int, 0 ≤ j → j < m → 0 ≤ V 145 j ∧ V 145 j < V 135 0) : yC 5 mX11_costs [.ref 134] V b (pI b (fun q V' => q = cstQ (V 135) (V 137) (V 145) (lgF (V 137) (V 147) 4) (laF (V 137) (V 148) 4) m ∧ ∃ L' T', V' = zup (zup V 147 L') 148 T')) := by
  obtain ⟨n0, n1, n2, n3, n4⟩ := id hN
  obtain ⟨m0, m1, m2, m3, m4⟩ := id hM
  have hlr := ct_X11_layRoads (b := b) hN
  obtain ⟨L0, hL0⟩ : ∃ L0, L0 = lgF (V 137) (V 147) 4 := ⟨_, rfl⟩
  obtain ⟨T0, hT0⟩ : ∃ T0, T0 = laF (V 137) (V 148) 4 := ⟨_, rfl⟩
  have l0 : ∀ r, 0 ≤ r → r < 4 → 0 ≤ L0 r ∧ L0 r ≤ 7 := fun r h0 h1 => by
    rw [hL0]; unfold lgF; rw [if_pos (by omega)]; exact n1 r h0 h1
  have t0 : ∀ r, 0 ≤ r → r < 4 → -1 ≤ T0 r ∧ T0 r ≤ 6 := fun r h0 h1 => by
    have := n1 r h0 h1
    rw [hT0]; unfold laF; rw [if_pos (by omega)]
    split
    · omega
    · have := n3 (12 + 7 * r + V 137 (8 + r) - 1) (by omega) (by omega); omega
  rw [← hL0, ← hT0] at hlr ⊢
  obtain ⟨Q, hQ⟩ : ∃ Q : Option Value → zMu → Prop, Q = pI b (fun q V' => q = cstQ (V 135) (V 137) (V 145) L0 T0 m ∧ ∃ L' T', V' = zup (zup V 147 L') 148 T') := ⟨_, rfl⟩
  rw [← hQ]
  have loop : ∀ (k i : Nat) (a3 a4 : Option Value), i + k = m → cOk (V 135) (V 137) (V 145) L0 i = true → yE 5 Q mX11_costs 8 [some (.ref 134), some (.int (iI (cC (V 135) (V 137) (V 145) T0 i))), some (.int (iI i)), a3, a4] [] (zup (zup V 147 (cL (V 137) (V 145) L0 i)) 148 (cT (V 137) (V 145) T0 i)) b := by
    intro k
    induction k with
    | zero =>
      intro i a3 a4 hi hok
      have e7 : zup (zup V 147 (cL (V 137) (V 145) L0 i)) 148 (cT (V 137) (V 145) T0 i) 137 = V 137 := by rw [zup_n _ _ (by decide), zup_n _ _ (by decide)]
      have hc := cC_rg (V 135) (V 137) (V 145) T0 i
      refine z_iload_n dX11_costs_8 rfl ?_
      refine z_aload_n dX11_costs_9 rfl ?_
      refine y_getR fX11_16 dX11_costs_10 (by first | assumption | rfl) (by first | assumption | rfl) ?_
      refine y_iconst dX11_costs_13 ?_
      refine y_iald dX11_costs_14 (by first | assumption | rfl) (by first | rfl | assumption) (by omega) ?_
      rw [e7, ← hm]
      refine y_icmp_ge dX11_costs_15 (by omega) (by omega) (fun c_15 => ?_) (fun c_15 => ?_)
      · refine z_iload_n dX11_costs_136 rfl ?_
        exact z_iret dX11_costs_137 rfl (Nat.le_refl 0) (Nat.le_refl 0) (by rw [hQ]; exact ⟨_, _, rfl, rfl, by unfold cstQ; rw [show m = i by omega, if_pos hok], _, _, rfl⟩)
      · omega
    | succ k ih =>
      intro i a3 a4 hi hok
      obtain ⟨L, hL⟩ : ∃ L, L = cL (V 137) (V 145) L0 i := ⟨_, rfl⟩
      obtain ⟨T, hT⟩ : ∃ T, T = cT (V 137) (V 145) T0 i := ⟨_, rfl⟩
      obtain ⟨C, hC⟩ : ∃ C, C = cC (V 135) (V 137) (V 145) T0 i := ⟨_, rfl⟩
      have hcr := cC_rg (V 135) (V 137) (V 145) T0 i
      rw [← hL, ← hT, ← hC]
      rw [← hC] at hcr
      have hr := hrow i (by omega) (by omega)
      obtain ⟨r, hrd⟩ : ∃ r, r = V 145 (i : Int) := ⟨_, rfl⟩
      rw [← hrd] at hr
      have lr := cL_rg (N := V 137) (rw := V 145) l0 i r hr.1 (by omega)
      have hYr := m4 r hr.1 hr.2
      have tr := cT_rg (rw := V 145) (m := m) (by omega) n2 t0 i r (by omega) hr.1 (by omega)
      rw [← hL] at lr
      rw [← hT] at tr
      have hw := n2 (1 + i) (by omega) (by omega)
      have e7 : zup (zup V 147 L) 148 T 137 = V 137 := by rw [zup_n _ _ (by decide), zup_n _ _ (by decide)]
      have e5 : zup (zup V 147 L) 148 T 135 = V 135 := by rw [zup_n _ _ (by decide), zup_n _ _ (by decide)]
      have e45 : zup (zup V 147 L) 148 T 145 = V 145 := by rw [zup_n _ _ (by decide), zup_n _ _ (by decide)]
      have eL : zup (zup V 147 L) 148 T 147 = L := by rw [zup_n _ _ (by decide), zup_s]
      have eT : zup (zup V 147 L) 148 T 148 = T := zup_s _ _ _
      have hMz : MS (zup (zup V 147 L) 148 T) := MS_congr e5 hM
      have hY1 : 1 ≤ (1 : Int) + r ∧ 1 + r ≤ 4 := by omega
      have hcK : cK (V 135) (V 137) (V 145) T0 i = if 0 ≤ T r then enI (V 135) (V 135 (6 + T r)) (V 135 (6 + V 137 (1 + i))) else 0 := by unfold cK; rw [← hT, ← hrd]
      have hC1 : cC (V 135) (V 137) (V 145) T0 (i + 1) = C + 100 * cK (V 135) (V 137) (V 145) T0 i + (if i = 0 ∨ V 145 ((i : Int) - 1) ≠ r then 1 else 0) := by
        show cC (V 135) (V 137) (V 145) T0 i + 100 * cK (V 135) (V 137) (V 145) T0 i + (if i = 0 ∨ V 145 ((i : Int) - 1) ≠ V 145 i then 1 else 0) = _
        rw [← hC, ← hrd]
      have hpr : 0 < i → 0 ≤ V 145 ((i : Int) - 1) ∧ V 145 ((i : Int) - 1) < V 135 0 := fun h => hrow _ (by omega) (by omega)
      have hbad : L r = V 135 (1 + r) → cOk (V 135) (V 137) (V 145) L0 m = false := by
        intro h
        have h1 : cOk (V 135) (V 137) (V 145) L0 (i + 1) = false := by
          show (cOk (V 135) (V 137) (V 145) L0 i && decide (cL (V 137) (V 145) L0 i (V 145 i) ≠ V 135 (1 + V 145 i))) = false
          rw [← hL, ← hrd, h]
          simp
        have h2 := cOk_f h1 k
        rw [show i + 1 + k = m by omega] at h2
        exact h2
      have fin : ∀ (C' : Int), L r ≠ V 135 (1 + r) → C' = cC (V 135) (V 137) (V 145) T0 (i + 1) → yE 5 Q mX11_costs 112 [some (.ref 134), some (.int (iI C')), some (.int (iI i)), some (.int (iI r)), some (.int (iI (V 137 (1 + i))))] [] (zup (zup V 147 L) 148 T) b := by
        intro C' hne hC'
        subst hC'
        have hok1 : cOk (V 135) (V 137) (V 145) L0 (i + 1) = true := by
          show (cOk (V 135) (V 137) (V 145) L0 i && decide (cL (V 137) (V 145) L0 i (V 145 i) ≠ V 135 (1 + V 145 i))) = true
          rw [← hL, ← hrd, hok]
          simp [hne]
        have hh := ih (i + 1) (some (.int (iI r))) (some (.int (iI (V 137 (1 + i))))) (by omega) hok1
        have hL1 : cL (V 137) (V 145) L0 (i + 1) = iup L r (L r + 1) := by
          show iup (cL (V 137) (V 145) L0 i) (V 145 i) (cL (V 137) (V 145) L0 i (V 145 i) + 1) = _
          rw [← hL, ← hrd]
        have hT1 : cT (V 137) (V 145) T0 (i + 1) = iup T r (V 137 (1 + i)) := by
          show iup (cT (V 137) (V 145) T0 i) (V 145 i) (V 137 (1 + i)) = _
          rw [← hT, ← hrd]
        rw [hL1, hT1, ← vst_zup_s, ← vst_zup_s, ← vst_zup (by decide), show ((i + 1 : Nat) : Int) = (i : Int) + 1 by omega] at hh
        refine z_aload_n dX11_costs_112 rfl ?_
        refine y_getR fX11_51 dX11_costs_113 (by first | assumption | rfl) (by first | assumption | rfl) ?_
        refine z_iload_n dX11_costs_116 rfl ?_
        refine z_dup2 dX11_costs_117 rfl rfl ?_
        refine y_iald dX11_costs_118 (by first | assumption | rfl) (by first | rfl | assumption) (by omega) ?_
        rw [eL]
        refine y_iconst dX11_costs_119 ?_
        refine y_iadd dX11_costs_120 ?_
        refine y_iast dX11_costs_121 (by first | assumption | rfl) (by first | rfl | assumption) (by omega) ?_
        refine z_aload_n dX11_costs_122 rfl ?_
        refine y_getR fX11_54 dX11_costs_123 (by first | assumption | rfl) (by first | assumption | rfl) ?_
        refine z_iload_n dX11_costs_126 rfl ?_
        refine z_iload dX11_costs_127 rfl ?_
        refine y_iast dX11_costs_129 (by first | assumption | rfl) (by first | rfl | assumption) (by omega) ?_
        refine y_iinc dX11_costs_130 rfl (by decide) rfl rfl ?_
        refine z_goto dX11_costs_133 ?_
        exact hh
      have mid : ∀ (C' : Int), L r ≠ V 135 (1 + r) → C' = C + 100 * cK (V 135) (V 137) (V 145) T0 i → yE 5 Q mX11_costs 88 [some (.ref 134), some (.int (iI C')), some (.int (iI i)), some (.int (iI r)), some (.int (iI (V 137 (1 + i))))] [] (zup (zup V 147 L) 148 T) b := by
        intro C' hne hC'
        rw [← hC'] at hC1
        refine z_iload_n dX11_costs_88 rfl ?_
        refine z_iload_n dX11_costs_89 rfl ?_
        refine y_if_eq dX11_costs_90 (by omega) (fun c_90 => ?_) (fun c_90 => ?_)
        · refine y_iconst dX11_costs_105 ?_
          refine z_goto dX11_costs_106 ?_
          refine y_iadd dX11_costs_110 ?_
          refine z_istore_n dX11_costs_111 (by decide) rfl rfl ?_
          exact fin _ hne (by rw [hC1]; first | rw [if_pos (by omega)] | rw [if_neg (by omega)])
        · have hpi := hpr (by omega)
          refine z_aload_n dX11_costs_93 rfl ?_
          refine y_getR fX11_45 dX11_costs_94 (by first | assumption | rfl) (by first | assumption | rfl) ?_
          refine z_iload_n dX11_costs_97 rfl ?_
          refine y_iconst dX11_costs_98 ?_
          refine y_isub dX11_costs_99 ?_
          refine y_iald dX11_costs_100 (by first | assumption | rfl) (by first | rfl | assumption) (by omega) ?_
          rw [e45]
          refine z_iload_n dX11_costs_101 rfl ?_
          refine y_icmp_eq dX11_costs_102 (by omega) (by omega) (fun c_102 => ?_) (fun c_102 => ?_)
          · refine y_iconst dX11_costs_109 ?_
            refine y_iadd dX11_costs_110 ?_
            refine z_istore_n dX11_costs_111 (by decide) rfl rfl ?_
            exact fin _ hne (by rw [hC1]; first | rw [if_pos (by omega)] | rw [if_neg (by omega)])
          · refine y_iconst dX11_costs_105 ?_
            refine z_goto dX11_costs_106 ?_
            refine y_iadd dX11_costs_110 ?_
            refine z_istore_n dX11_costs_111 (by decide) rfl rfl ?_
            exact fin _ hne (by rw [hC1]; first | rw [if_pos (by omega)] | rw [if_neg (by omega)])
      refine z_iload_n dX11_costs_8 rfl ?_
      refine z_aload_n dX11_costs_9 rfl ?_
      refine y_getR fX11_16 dX11_costs_10 (by first | assumption | rfl) (by first | assumption | rfl) ?_
      refine y_iconst dX11_costs_13 ?_
      refine y_iald dX11_costs_14 (by first | assumption | rfl) (by first | rfl | assumption) (by omega) ?_
      rw [e7, ← hm]
      refine y_icmp_ge dX11_costs_15 (by omega) (by omega) (fun c_15 => ?_) (fun c_15 => ?_)
      · omega
      · refine z_aload_n dX11_costs_18 rfl ?_
        refine y_getR fX11_45 dX11_costs_19 (by first | assumption | rfl) (by first | assumption | rfl) ?_
        refine z_iload_n dX11_costs_22 rfl ?_
        refine y_iald dX11_costs_23 (by first | assumption | rfl) (by first | rfl | assumption) (by omega) ?_
        rw [e45, ← hrd]
        refine z_istore_n dX11_costs_24 (by decide) rfl rfl ?_
        refine z_aload_n dX11_costs_25 rfl ?_
        refine y_getR fX11_16 dX11_costs_26 (by first | assumption | rfl) (by first | assumption | rfl) ?_
        refine y_iconst dX11_costs_29 ?_
        refine z_iload_n dX11_costs_30 rfl ?_
        refine y_iadd dX11_costs_31 ?_
        refine y_iald dX11_costs_32 (by first | assumption | rfl) (by first | rfl | assumption) (by omega) ?_
        rw [e7]
        refine z_istore dX11_costs_33 (by decide) rfl rfl ?_
        refine z_aload_n dX11_costs_35 rfl ?_
        refine y_getR fX11_51 dX11_costs_36 (by first | assumption | rfl) (by first | assumption | rfl) ?_
        refine z_iload_n dX11_costs_39 rfl ?_
        refine y_iald dX11_costs_40 (by first | assumption | rfl) (by first | rfl | assumption) (by omega) ?_
        rw [eL]
        refine z_aload_n dX11_costs_41 rfl ?_
        refine y_getR fX11_7 dX11_costs_42 (by first | assumption | rfl) (by first | assumption | rfl) ?_
        refine y_iconst dX11_costs_45 ?_
        refine z_iload_n dX11_costs_46 rfl ?_
        refine y_iadd dX11_costs_47 ?_
        refine y_iald dX11_costs_48 (by first | assumption | rfl) (by first | rfl | assumption) (by omega) ?_
        rw [e5]
        refine y_icmp_ne dX11_costs_49 (by omega) (by omega) (fun c_49 => ?_) (fun c_49 => ?_)
        · refine z_iload_n dX11_costs_55 rfl ?_
          refine z_aload_n dX11_costs_56 rfl ?_
          refine y_getR fX11_54 dX11_costs_57 (by first | assumption | rfl) (by first | assumption | rfl) ?_
          refine z_iload_n dX11_costs_60 rfl ?_
          refine y_iald dX11_costs_61 (by first | assumption | rfl) (by first | rfl | assumption) (by omega) ?_
          rw [eT]
          refine y_if_lt dX11_costs_62 (by omega) (fun c_62 => ?_) (fun c_62 => ?_)
          · refine y_iconst dX11_costs_85 ?_
            refine y_iadd dX11_costs_86 ?_
            refine z_istore_n dX11_costs_87 (by decide) rfl rfl ?_
            exact mid _ (by omega) (by rw [hcK]; first | (rw [if_neg (by omega)]; omega) | (rw [if_pos (by omega)]; omega))
          · refine z_aload_n dX11_costs_65 rfl ?_
            refine z_aload_n dX11_costs_66 rfl ?_
            refine y_getR fX11_54 dX11_costs_67 (by first | assumption | rfl) (by first | assumption | rfl) ?_
            refine z_iload_n dX11_costs_70 rfl ?_
            refine y_iald dX11_costs_71 (by first | assumption | rfl) (by first | rfl | assumption) (by omega) ?_
            rw [eT]
            refine z_iload dX11_costs_72 rfl ?_
            refine y_callVr (ct_X11_kick (by omega) (by omega) (by assumption)) kX11_200 dX11_costs_74 rfl rfl (by first | assumption | rfl) rfl (by decide) rfl (Nat.le_of_ble_eq_true rfl) (fun r_74 h_74 => ?_)
            rw [e5] at h_74
            have h01 := enI_01 (V 135) (V 135 (6 + T r)) (V 135 (6 + V 137 (1 + i)))
            refine y_if_eq dX11_costs_77 (by omega) (fun c_77 => ?_) (fun c_77 => ?_)
            · refine y_iconst dX11_costs_85 ?_
              refine y_iadd dX11_costs_86 ?_
              refine z_istore_n dX11_costs_87 (by decide) rfl rfl ?_
              exact mid _ (by omega) (by rw [hcK]; first | (rw [if_neg (by omega)]; omega) | (rw [if_pos (by omega)]; omega))
            · refine y_bipush dX11_costs_80 (by decide +kernel) ?_
              refine z_goto dX11_costs_82 ?_
              refine y_iadd dX11_costs_86 ?_
              refine z_istore_n dX11_costs_87 (by decide) rfl rfl ?_
              exact mid _ (by omega) (by rw [hcK]; first | (rw [if_neg (by omega)]; omega) | (rw [if_pos (by omega)]; omega))
        · refine y_ldc (n := 1000000) dX11_costs_52 cX11_240 (by decide +kernel) ?_
          exact z_iret dX11_costs_54 rfl (Nat.le_refl 0) (Nat.le_refl 0) (by rw [hQ]; exact ⟨_, _, rfl, rfl, by unfold cstQ; rw [hbad (by omega), if_neg (by decide)], _, _, rfl⟩)
  have h0 := loop m 0 none none (by omega) rfl
  refine zC_of (by decide +kernel) (Nat.le_of_ble_eq_true rfl) rfl ?_
  refine z_aload_n dX11_costs_0 rfl ?_
  refine y_callVv (hlr) kX11_237 dX11_costs_1 rfl rfl (by first | assumption | rfl) rfl (by decide) rfl (Nat.le_of_ble_eq_true rfl) (fun V1 h_1 => ?_)
  subst h_1
  refine y_iconst dX11_costs_4 ?_
  refine z_istore_n dX11_costs_5 (by decide) rfl rfl ?_
  refine y_iconst dX11_costs_6 ?_
  refine z_istore_n dX11_costs_7 (by decide) rfl rfl ?_
  exact h0
end

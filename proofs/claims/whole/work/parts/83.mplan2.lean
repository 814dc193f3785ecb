/-! ===== the model: plan ===== -/
/-- the least cost of the first n codes, and its first code -/
def fmn (cost : Nat → Int) : Nat → Int × Nat
  | 0 => (1000000, 0)
  | n + 1 => if cost n < (fmn cost n).1 then (cost n, n) else fmn cost n
def cdC (Y N : Int → Int) (R m c : Nat) : Int := cstQ Y N (dgt R m c) (fun r => N (8 + r)) (fun r => if N (8 + r) = 0 then -1 else N (12 + 7 * r + N (8 + r) - 1)) m
section
variable {Y N rw rw' L0 L0' T0 T0' : Int → Int} {m : Nat}
theorem cL_congr (hr : ∀ j : Int, 0 ≤ j → j < m → rw j = rw' j) (hL : ∀ r, 0 ≤ r → r < 4 → L0 r = L0' r) (h4 : ∀ j : Int, 0 ≤ j → j < m → 0 ≤ rw j ∧ rw j < 4) : ∀ (i : Nat), i ≤ m → ∀ r, 0 ≤ r → r < 4 → cL N rw L0 i r = cL N rw' L0' i r
  | 0, _, r, h0, h1 => hL r h0 h1
  | i + 1, hi, r, h0, h1 => by
    have ih := cL_congr hr hL h4 i (by omega)
    have := h4 i (by omega) (by omega)
    unfold cL
    rw [hr i (by omega) (by omega)]
    unfold iup
    rw [ih r h0 h1, ih (rw' i) (by rw [← hr i (by omega) (by omega)]; omega) (by rw [← hr i (by omega) (by omega)]; omega)]
theorem cT_congr (hr : ∀ j : Int, 0 ≤ j → j < m → rw j = rw' j) (hL : ∀ r, 0 ≤ r → r < 4 → T0 r = T0' r) : ∀ (i : Nat), i ≤ m → ∀ r, 0 ≤ r → r < 4 → cT N rw T0 i r = cT N rw' T0' i r
  | 0, _, r, h0, h1 => hL r h0 h1
  | i + 1, hi, r, h0, h1 => by
    have ih := cT_congr hr hL i (by omega)
    unfold cT
    rw [hr i (by omega) (by omega)]
    unfold iup
    rw [ih r h0 h1]
theorem cOk_congr (hr : ∀ j : Int, 0 ≤ j → j < m → rw j = rw' j) (hL : ∀ r, 0 ≤ r → r < 4 → L0 r = L0' r) (h4 : ∀ j : Int, 0 ≤ j → j < m → 0 ≤ rw j ∧ rw j < 4) : ∀ (i : Nat), i ≤ m → cOk Y N rw L0 i = cOk Y N rw' L0' i
  | 0, _ => rfl
  | i + 1, hi => by
    have h4i := h4 i (by omega) (by omega)
    have e := hr i (by omega) (by omega)
    unfold cOk
    rw [cOk_congr hr hL h4 i (by omega), cL_congr hr hL h4 i (by omega) (rw i) h4i.1 h4i.2, e]
theorem cC_congr (hr : ∀ j : Int, 0 ≤ j → j < m → rw j = rw' j) (hL : ∀ r, 0 ≤ r → r < 4 → T0 r = T0' r) (h4 : ∀ j : Int, 0 ≤ j → j < m → 0 ≤ rw j ∧ rw j < 4) : ∀ (i : Nat), i ≤ m → cC Y N rw T0 i = cC Y N rw' T0' i
  | 0, _ => rfl
  | i + 1, hi => by
    have h4i := h4 i (by omega) (by omega)
    have e := hr i (by omega) (by omega)
    have eK : cK Y N rw T0 i = cK Y N rw' T0' i := by
      unfold cK
      rw [cT_congr hr hL i (by omega) (rw i) h4i.1 h4i.2, e]
    unfold cC
    rw [cC_congr hr hL h4 i (by omega), eK, e]
    by_cases h0 : i = 0
    · rw [if_pos (Or.inl h0), if_pos (Or.inl h0)]
    · rw [hr ((i : Int) - 1) (by omega) (by omega)]
theorem cstQ_congr (hr : ∀ j : Int, 0 ≤ j → j < m → rw j = rw' j) (hL : ∀ r, 0 ≤ r → r < 4 → L0 r = L0' r) (hT : ∀ r, 0 ≤ r → r < 4 → T0 r = T0' r) (h4 : ∀ j : Int, 0 ≤ j → j < m → 0 ≤ rw j ∧ rw j < 4) : cstQ Y N rw L0 T0 m = cstQ Y N rw' L0' T0' m := by
  unfold cstQ
  rw [cOk_congr hr hL h4 m (Nat.le_refl m), cC_congr hr hT h4 m (Nat.le_refl m)]
end
theorem cdC_rg (Y N : Int → Int) (R m c : Nat) (hm : m ≤ 7) : 0 ≤ cdC Y N R m c ∧ (cdC Y N R m c ≤ 707 ∨ cdC Y N R m c = 1000000) := by
  unfold cdC cstQ
  split
  · have := cC_rg Y N (dgt R m c) (fun r => if N (8 + r) = 0 then -1 else N (12 + 7 * r + N (8 + r) - 1)) m
    omega
  · omega
theorem fmn_rg {cost : Nat → Int} (h : ∀ c, 0 ≤ cost c ∧ (cost c ≤ 707 ∨ cost c = 1000000)) : ∀ n : Nat, 0 ≤ (fmn cost n).1 ∧ ((fmn cost n).1 ≤ 707 ∨ (fmn cost n).1 = 1000000)
  | 0 => by show (0 : Int) ≤ 1000000 ∧ ((1000000 : Int) ≤ 707 ∨ (1000000 : Int) = 1000000); omega
  | n + 1 => by
    unfold fmn
    split
    · exact h n
    · exact fmn_rg h n
theorem pow_le7 {R m : Nat} (hR : R ≤ 4) (hm : m ≤ 7) : R ^ m ≤ 16384 := by
  by_cases h0 : R = 0
  · subst h0
    cases m with
    | zero => decide
    | succ m => rw [Nat.zero_pow (by omega)]; omega
  · have h1 : R ^ m ≤ R ^ 7 := Nat.pow_le_pow_right (by omega) hm
    have h2 : R ^ 7 ≤ 4 ^ 7 := Nat.pow_le_pow_left hR 7
    have h3 : 4 ^ 7 = 16384 := by decide
    omega
/-- the model's answer -/
def mpA (least : Int) (row : Int → Int) (n i : Int) : Int := if least = 1000000 then -1 else if i = -1 then least / 100 else if i = -2 then least % 100 else if 0 ≤ i ∧ i < n then row i else -1
section
variable {V : Nat → Int → Int} {b : Bool}
theorem ct_X11_codes {R m : Nat} (hR : (R : Int) = V 135 0) (hR4 : R ≤ 4) (hm : (m : Int) = V 137 0) (hm7 : m ≤ 7) : yC 0 mX11_codes [.ref 134] V b (pR b V (fun q => q = ((R ^ m : Nat) : Int))) := by
  have loop : ∀ (k i : Nat), i + k = m → yE 0 (pR b V (fun q => q = ((R ^ m : Nat) : Int))) mX11_codes 4 [some (.ref 134), some (.int (iI ((R ^ i : Nat) : Int))), some (.int (iI i))] [] V b := by
    intro k
    induction k with
    | zero =>
      intro i hi
      have := pow_le7 (m := i) hR4 (by omega)
      refine z_iload_n dX11_codes_4 rfl ?_
      refine z_aload_n dX11_codes_5 rfl ?_
      refine y_getR fX11_16 dX11_codes_6 (by first | assumption | rfl) (by first | assumption | rfl) ?_
      refine y_iconst dX11_codes_9 ?_
      refine y_iald dX11_codes_10 (by first | assumption | rfl) (by first | rfl | assumption) (by omega) ?_
      rw [← hm]
      refine y_icmp_ge dX11_codes_11 (by omega) (by omega) (fun c_11 => ?_) (fun c_11 => ?_)
      · refine z_iload_n dX11_codes_29 rfl ?_
        exact z_iret dX11_codes_30 rfl (Nat.le_refl 0) (Nat.le_refl 0) ⟨_, rfl, rfl, by rw [show m = i by omega]⟩
      · omega
    | succ k ih =>
      intro i hi
      have hh := ih (i + 1) (by omega)
      rw [Nat.pow_succ, Int.natCast_mul, show ((i + 1 : Nat) : Int) = (i : Int) + 1 by omega] at hh
      have := pow_le7 (m := i) hR4 (by omega)
      refine z_iload_n dX11_codes_4 rfl ?_
      refine z_aload_n dX11_codes_5 rfl ?_
      refine y_getR fX11_16 dX11_codes_6 (by first | assumption | rfl) (by first | assumption | rfl) ?_
      refine y_iconst dX11_codes_9 ?_
      refine y_iald dX11_codes_10 (by first | assumption | rfl) (by first | rfl | assumption) (by omega) ?_
      rw [← hm]
      refine y_icmp_ge dX11_codes_11 (by omega) (by omega) (fun c_11 => ?_) (fun c_11 => ?_)
      · omega
      · refine z_iload_n dX11_codes_14 rfl ?_
        refine z_aload_n dX11_codes_15 rfl ?_
        refine y_getR fX11_7 dX11_codes_16 (by first | assumption | rfl) (by first | assumption | rfl) ?_
        refine y_iconst dX11_codes_19 ?_
        refine y_iald dX11_codes_20 (by first | assumption | rfl) (by first | rfl | assumption) (by omega) ?_
        rw [← hR]
        refine y_imul dX11_codes_21 ?_
        refine z_istore_n dX11_codes_22 (by decide) rfl rfl ?_
        refine y_iinc dX11_codes_23 rfl (by decide) rfl rfl ?_
        refine z_goto dX11_codes_26 ?_
        exact hh
  have h0 := loop m 0 (by omega)
  refine zC_of (by decide +kernel) (Nat.le_of_ble_eq_true rfl) rfl ?_
  refine y_iconst dX11_codes_0 ?_
  refine z_istore_n dX11_codes_1 (by decide) rfl rfl ?_
  refine y_iconst dX11_codes_2 ?_
  refine z_istore_n dX11_codes_3 (by decide) rfl rfl ?_
  exact h0
/-- what plan leaves of the rest -/
abbrev mpO (V V' : Nat → Int → Int) : Prop := ∀ a, a ≠ 145 → a ≠ 146 → a ≠ 147 → a ≠ 148 → V' a = V a
theorem ct_X11_plan {i : Int} {R m : Nat} (hi : rg i) (hR : (R : Int) = V 135 0) (hm : (m : Int) = V 137 0) (hRm : 0 < R ∨ m = 0) (hM : MS V) (hN : NS V) : yC 6 mX11_plan [.ref 134, .int (iI i)] V b (pI b (fun q V' => mpO V V' ∧ q = mpA (fmn (cdC (V 135) (V 137) R m) (R ^ m)).1 (dgt R m (fmn (cdC (V 135) (V 137) R m) (R ^ m)).2) m i)) := by
  obtain ⟨n0, n1, n2, n3, n4⟩ := id hN
  obtain ⟨m0, m1, m2, m3, m4⟩ := id hM
  have hp7 := pow_le7 (R := R) (m := m) (by omega) (by omega)
  obtain ⟨P, hP⟩ : ∃ P : Nat, P = R ^ m := ⟨_, rfl⟩
  have hcd := ct_X11_codes (b := b) hR (by omega) hm (by omega)
  obtain ⟨F, hF⟩ : ∃ F : Nat → Int × Nat, F = fmn (cdC (V 135) (V 137) R m) := ⟨_, rfl⟩
  have hFr : ∀ n, 0 ≤ (F n).1 ∧ ((F n).1 ≤ 707 ∨ (F n).1 = 1000000) := fun n => by rw [hF]; exact fmn_rg (fun c => cdC_rg _ _ _ _ _ (by omega)) n
  rw [← hP] at hcd hp7 ⊢
  rw [← hF]
  obtain ⟨Q, hQ⟩ : ∃ Q : Option Value → zMu → Prop, Q = pI b (fun q V' => mpO V V' ∧ q = mpA (F P).1 (dgt R m (F P).2) m i) := ⟨_, rfl⟩
  rw [← hQ]
  have out : ∀ (U : Nat → Int → Int) (a4 a5 a6 : Option Value), mpO V U → ((F P).1 < 1000000 → ∀ j : Int, 0 ≤ j → j < m → U 146 j = dgt R m (F P).2 j) → yE 6 Q mX11_plan 86 [some (.ref 134), some (.int (iI i)), some (.int (iI (F P).1)), some (.int (iI P)), a4, a5, a6] [] U b := by
    intro U a4 a5 a6 hU hb
    have hr := hFr P
    have u7 : U 137 = V 137 := hU 137 (by decide) (by decide) (by decide) (by decide)
    have fin : ∀ q : Int, q = mpA (F P).1 (dgt R m (F P).2) m i → Q (some (.int (iI q))) (mk S0 U (Fs b)) := fun q hq => by rw [hQ]; exact ⟨_, _, rfl, rfl, hU, hq⟩
    have hbi : 0 ≤ i → i < m → (F P).1 < 1000000 → U 146 i = dgt R m (F P).2 i := fun h1 h2 h3 => hb h3 i h1 h2
    refine z_iload_n dX11_plan_86 rfl ?_
    refine y_ldc (n := 1000000) dX11_plan_87 cX11_240 (by decide +kernel) ?_
    refine y_icmp_ne dX11_plan_89 (by omega) (by omega) (fun c_89 => ?_) (fun c_89 => ?_)
    · refine z_iload_n dX11_plan_94 rfl ?_
      refine y_iconst dX11_plan_95 ?_
      refine y_icmp_ne dX11_plan_96 (by omega) (by omega) (fun c_96 => ?_) (fun c_96 => ?_)
      · refine z_iload_n dX11_plan_106 rfl ?_
        refine y_bipush dX11_plan_107 (by decide +kernel) ?_
        refine y_icmp_ne dX11_plan_109 (by omega) (by omega) (fun c_109 => ?_) (fun c_109 => ?_)
        · refine z_iload_n dX11_plan_119 rfl ?_
          refine y_i2l dX11_plan_120 (by omega) ?_
          refine y_lconst (v := 0) dX11_plan_121 (by decide +kernel) ?_
          refine z_aload_n dX11_plan_122 rfl ?_
          refine y_getR fX11_16 dX11_plan_123 (by first | assumption | rfl) (by first | assumption | rfl) ?_
          refine y_iconst dX11_plan_126 ?_
          refine y_iald dX11_plan_127 (by first | assumption | rfl) (by first | rfl | assumption) (by omega) ?_
          rw [u7, ← hm]
          refine y_iconst dX11_plan_128 ?_
          refine y_isub dX11_plan_129 ?_
          refine y_i2l dX11_plan_130 (by omega) ?_
          refine y_callSr (ct_X11_in (by omega) (by omega) (by omega)) kX11_101 dX11_plan_131 rfl rfl (by decide) rfl (Nat.le_of_ble_eq_true rfl) (fun r_131 h_131 => ?_)
          refine y_if_eq dX11_plan_134 (by omega) (fun c_134 => ?_) (fun c_134 => ?_)
          · refine y_iconst dX11_plan_146 ?_
            exact z_iret dX11_plan_147 rfl (Nat.le_refl 0) (Nat.le_refl 0) (fin _ (by unfold mpA; rw [if_neg (by omega)]; first | (rw [if_pos (by omega)]; done) | (rw [if_neg (by omega), if_pos (by omega)]; done) | (rw [if_neg (by omega), if_neg (by omega), if_pos (by omega)]; done) | (rw [if_neg (by omega), if_neg (by omega), if_neg (by omega)]; done)))
          · refine z_aload_n dX11_plan_137 rfl ?_
            refine y_getR fX11_48 dX11_plan_138 (by first | assumption | rfl) (by first | assumption | rfl) ?_
            refine z_iload_n dX11_plan_141 rfl ?_
            refine y_iald dX11_plan_142 (by first | assumption | rfl) (by first | rfl | assumption) (by omega) ?_
            rw [hbi (by omega) (by omega) (by omega)]
            refine z_goto dX11_plan_143 ?_
            exact z_iret dX11_plan_147 rfl (Nat.le_refl 0) (Nat.le_refl 0) (fin _ (by unfold mpA; rw [if_neg (by omega)]; first | (rw [if_pos (by omega)]; done) | (rw [if_neg (by omega), if_pos (by omega)]; done) | (rw [if_neg (by omega), if_neg (by omega), if_pos (by omega)]; done) | (rw [if_neg (by omega), if_neg (by omega), if_neg (by omega)]; done)))
        · refine z_iload_n dX11_plan_112 rfl ?_
          refine y_bipush dX11_plan_113 (by decide +kernel) ?_
          refine y_irem dX11_plan_115 (by omega) (by omega) ?_
          refine z_goto dX11_plan_116 ?_
          exact z_iret dX11_plan_147 rfl (Nat.le_refl 0) (Nat.le_refl 0) (fin _ (by unfold mpA; rw [if_neg (by omega)]; first | (rw [if_pos (by omega)]; done) | (rw [if_neg (by omega), if_pos (by omega)]; done) | (rw [if_neg (by omega), if_neg (by omega), if_pos (by omega)]; done) | (rw [if_neg (by omega), if_neg (by omega), if_neg (by omega)]; done)))
      · refine z_iload_n dX11_plan_99 rfl ?_
        refine y_bipush dX11_plan_100 (by decide +kernel) ?_
        refine y_idiv dX11_plan_102 (by omega) (by omega) ?_
        refine z_goto dX11_plan_103 ?_
        exact z_iret dX11_plan_147 rfl (Nat.le_refl 0) (Nat.le_refl 0) (fin _ (by unfold mpA; rw [if_neg (by omega)]; first | (rw [if_pos (by omega)]; done) | (rw [if_neg (by omega), if_pos (by omega)]; done) | (rw [if_neg (by omega), if_neg (by omega), if_pos (by omega)]; done) | (rw [if_neg (by omega), if_neg (by omega), if_neg (by omega)]; done)))
    · refine y_iconst dX11_plan_92 ?_
      exact z_iret dX11_plan_93 rfl (Nat.le_refl 0) (Nat.le_refl 0) (fin _ (by unfold mpA; rw [if_pos (by omega)]))
  have loop : ∀ (k c : Nat) (U : Nat → Int → Int) (a5 a6 : Option Value), c + k = P → mpO V U → ((F c).1 < 1000000 → ∀ j : Int, 0 ≤ j → j < m → U 146 j = dgt R m (F c).2 j) → yE 6 Q mX11_plan 11 [some (.ref 134), some (.int (iI i)), some (.int (iI (F c).1)), some (.int (iI P)), some (.int (iI c)), a5, a6] [] U b := by
    intro k
    induction k with
    | zero =>
      intro c U a5 a6 hc hU hb
      have hcP : c = P := by omega
      subst hcP
      refine z_iload dX11_plan_11 rfl ?_
      refine z_iload_n dX11_plan_13 rfl ?_
      refine y_icmp_ge dX11_plan_14 (by omega) (by omega) (fun c_14 => ?_) (fun c_14 => ?_)
      · exact out U _ _ _ hU hb
      · omega
    | succ k ih =>
      intro c U a5 a6 hc hU hb
      have u7 : U 137 = V 137 := hU 137 (by decide) (by decide) (by decide) (by decide)
      have u5 : U 135 = V 135 := hU 135 (by decide) (by decide) (by decide) (by decide)
      have hR0 : 0 < m → 0 < R := fun h => by omega
      obtain ⟨U1, hU1⟩ : ∃ U1, U1 = zup U 145 (lrw R m c m (U 145)) := ⟨_, rfl⟩
      have o1 : ∀ a, a ≠ 145 → U1 a = U a := fun a ha => by rw [hU1, zup_n _ _ ha]
      have r1 : ∀ j : Int, 0 ≤ j → j < m → U1 145 j = dgt R m c j := fun j h0 h1 => by
        rw [hU1, zup_s]; unfold lrw; rw [if_pos (by omega)]
      have hlay := ct_X11_layRow (V := U) (b := b) (c := c) (B := R) (m := m) (by omega) (by omega) (by omega) hRm
      rw [← hU1] at hlay
      have v7 : U1 137 = V 137 := by rw [o1 137 (by decide), u7]
      have v5 : U1 135 = V 135 := by rw [o1 135 (by decide), u5]
      have hcs := ct_X11_costs (V := U1) (b := b) (m := m) (by rw [v7]; exact hm) (MS_congr v5 hM) (NS_congr v7 hN) (fun j h0 h1 => by rw [r1 j h0 h1, v5, ← hR]; exact dgt_rg (hR0 (by omega)))
      have hq : cstQ (U1 135) (U1 137) (U1 145) (lgF (U1 137) (U1 147) 4) (laF (U1 137) (U1 148) 4) m = cdC (V 135) (V 137) R m c := by
        unfold cdC
        rw [v5, v7]
        refine cstQ_congr r1 (fun r h0 h1 => ?_) (fun r h0 h1 => ?_) (fun j h0 h1 => ?_)
        · unfold lgF; rw [if_pos (by omega)]
        · unfold laF; rw [if_pos (by omega)]
        · rw [r1 j h0 h1]; have := dgt_rg (m := m) (c := c) (j := j) (hR0 (by omega)); omega
      rw [hq] at hcs
      have hcr := cdC_rg (V 135) (V 137) R m c (by omega)
      have hfr := hFr c
      have hF1 : F (c + 1) = if cdC (V 135) (V 137) R m c < (F c).1 then (cdC (V 135) (V 137) R m c, c) else F c := by rw [hF]; rfl
      have copy : ∀ (t : Nat) (j : Int) (U3 : Nat → Int → Int) (x5 : Int), 0 ≤ j → j + t = 7 → (cdC (V 135) (V 137) R m c < (F c).1) → mpO V U3 → (∀ j : Int, 0 ≤ j → j < m → U3 145 j = dgt R m c j) → (∀ x, 0 ≤ x → x < j → U3 146 x = U3 145 x) → yE 6 Q mX11_plan 53 [some (.ref 134), some (.int (iI i)), some (.int (iI (cdC (V 135) (V 137) R m c))), some (.int (iI P)), some (.int (iI c)), some (.int (iI x5)), some (.int (iI j))] [] U3 b := by
        intro t
        induction t with
        | zero =>
          intro j U3 x5 h0 h1 hlt ho hr hx
          rw [if_pos hlt] at hF1
          have hh := ih (c + 1) U3 (some (.int (iI x5))) (some (.int (iI j))) (by omega) ho (fun _ y y0 y1 => by rw [hF1, hx y y0 (by omega)]; exact hr y y0 y1)
          rw [hF1, show ((c + 1 : Nat) : Int) = (c : Int) + 1 by omega] at hh
          refine z_iload dX11_plan_53 rfl ?_
          refine y_bipush dX11_plan_55 (by decide +kernel) ?_
          refine y_icmp_ge dX11_plan_57 (by omega) (by omega) (fun c_57 => ?_) (fun c_57 => ?_)
          · refine y_iinc dX11_plan_80 rfl (by decide) rfl rfl ?_
            refine z_goto dX11_plan_83 ?_
            exact hh
          · omega
        | succ t iht =>
          intro j U3 x5 h0 h1 hlt ho hr hx
          refine z_iload dX11_plan_53 rfl ?_
          refine y_bipush dX11_plan_55 (by decide +kernel) ?_
          refine y_icmp_ge dX11_plan_57 (by omega) (by omega) (fun c_57 => ?_) (fun c_57 => ?_)
          · omega
          · refine z_aload_n dX11_plan_60 rfl ?_
            refine y_getR fX11_48 dX11_plan_61 (by first | assumption | rfl) (by first | assumption | rfl) ?_
            refine z_iload dX11_plan_64 rfl ?_
            refine z_aload_n dX11_plan_66 rfl ?_
            refine y_getR fX11_45 dX11_plan_67 (by first | assumption | rfl) (by first | assumption | rfl) ?_
            refine z_iload dX11_plan_70 rfl ?_
            refine y_iald dX11_plan_72 (by first | assumption | rfl) (by first | rfl | assumption) (by omega) ?_
            refine y_iast dX11_plan_73 (by first | assumption | rfl) (by first | rfl | assumption) (by omega) ?_
            refine y_iinc dX11_plan_74 rfl (by decide) rfl rfl ?_
            refine z_goto dX11_plan_77 ?_
            refine iht (j + 1) _ x5 (by omega) (by omega) hlt (fun a q1 q2 q3 q4 => by rw [vst_o q2]; exact ho a q1 q2 q3 q4) (fun y y0 y1 => by rw [vst_o (by decide)]; exact hr y y0 y1) (fun y y0 y1 => ?_)
            by_cases hy : y = j
            · subst hy; rw [vst_s, vst_o (by decide)]
            · rw [vst_n hy, vst_o (by decide)]; exact hx y y0 (by omega)
      refine z_iload dX11_plan_11 rfl ?_
      refine z_iload_n dX11_plan_13 rfl ?_
      refine y_icmp_ge dX11_plan_14 (by omega) (by omega) (fun c_14 => ?_) (fun c_14 => ?_)
      · omega
      · refine z_aload_n dX11_plan_17 rfl ?_
        refine z_iload dX11_plan_18 rfl ?_
        refine z_aload_n dX11_plan_20 rfl ?_
        refine y_getR fX11_7 dX11_plan_21 (by first | assumption | rfl) (by first | assumption | rfl) ?_
        refine y_iconst dX11_plan_24 ?_
        refine y_iald dX11_plan_25 (by first | assumption | rfl) (by first | rfl | assumption) (by omega) ?_
        rw [u5, ← hR]
        refine z_aload_n dX11_plan_26 rfl ?_
        refine y_getR fX11_16 dX11_plan_27 (by first | assumption | rfl) (by first | assumption | rfl) ?_
        refine y_iconst dX11_plan_30 ?_
        refine y_iald dX11_plan_31 (by first | assumption | rfl) (by first | rfl | assumption) (by omega) ?_
        rw [u7, ← hm]
        refine y_callVv (hlay) kX11_244 dX11_plan_32 rfl rfl (by first | assumption | rfl) rfl (by decide) rfl (Nat.le_of_ble_eq_true rfl) (fun V1 h_32 => ?_)
        subst h_32
        refine z_aload_n dX11_plan_35 rfl ?_
        refine y_callVi (hcs) kX11_248 dX11_plan_36 rfl rfl (by first | assumption | rfl) rfl (by decide) rfl (Nat.le_of_ble_eq_true rfl) (fun q_36 V2 h_36 => ?_)
        obtain ⟨g1, L', T', g2⟩ := h_36
        subst g1
        have o2 : mpO V V2 := fun a q1 q2 q3 q4 => by rw [g2, zup_n _ _ q4, zup_n _ _ q3, o1 a q1]; exact hU a q1 q2 q3 q4
        have r2 : V2 145 = V1 145 := by rw [g2, zup_n _ _ (by decide), zup_n _ _ (by decide)]
        have b2 : V2 146 = U 146 := by rw [g2, zup_n _ _ (by decide), zup_n _ _ (by decide), o1 146 (by decide)]
        refine z_istore dX11_plan_39 (by decide) rfl rfl ?_
        refine z_iload dX11_plan_41 rfl ?_
        refine z_iload_n dX11_plan_43 rfl ?_
        refine y_icmp_ge dX11_plan_44 (by omega) (by omega) (fun c_44 => ?_) (fun c_44 => ?_)
        · rw [if_neg (by omega)] at hF1
          have hh := fun a5 a6 => ih (c + 1) V2 a5 a6 (by omega) o2 (by rw [hF1, b2]; exact hb)
          rw [hF1, show ((c + 1 : Nat) : Int) = (c : Int) + 1 by omega] at hh
          refine y_iinc dX11_plan_80 rfl (by decide) rfl rfl ?_
          refine z_goto dX11_plan_83 ?_
          exact hh _ _
        · refine z_iload dX11_plan_47 rfl ?_
          refine z_istore_n dX11_plan_49 (by decide) rfl rfl ?_
          refine y_iconst dX11_plan_50 ?_
          refine z_istore dX11_plan_51 (by decide) rfl rfl ?_
          exact copy 7 0 V2 _ (by omega) (by omega) (by omega) o2 (fun y y0 y1 => by rw [r2]; exact r1 y y0 y1) (fun x x0 x1 => by omega)
  have h0 := fun a5 a6 => loop P 0 V a5 a6 (by omega) (fun a _ _ _ _ => rfl) (fun h => by rw [hF] at h; exact absurd h (by show ¬ (1000000 : Int) < 1000000; omega))
  rw [show (F 0).1 = 1000000 by rw [hF]; rfl] at h0
  refine zC_of (by decide +kernel) (Nat.le_of_ble_eq_true rfl) rfl ?_
  refine y_ldc (n := 1000000) dX11_plan_0 cX11_240 (by decide +kernel) ?_
  refine z_istore_n dX11_plan_2 (by decide) rfl rfl ?_
  refine z_aload_n dX11_plan_3 rfl ?_
  refine y_callVr (hcd) kX11_241 dX11_plan_4 rfl rfl (by first | assumption | rfl) rfl (by decide) rfl (Nat.le_of_ble_eq_true rfl) (fun r_4 h_4 => ?_)
  rw [h_4]
  refine z_istore_n dX11_plan_7 (by decide) rfl rfl ?_
  refine y_iconst dX11_plan_8 ?_
  refine z_istore dX11_plan_9 (by decide) rfl rfl ?_
  exact h0 _ _
end

/-! ===== Arrays.fill of ints, over an array at place a ===== -/
section
variable {V : Nat → Int → Int} {b : Bool}
def ifl (f : Int → Int) (n x : Int) : Int → Int := fun j => if 0 ≤ j ∧ j < n then x else f j
theorem zup_id (V : Nat → Int → Int) (a : Nat) : zup V a (V a) = V := by
  funext q
  by_cases h : q = a
  · subst h; rw [zup_s]
  · rw [zup_n _ _ h]
theorem zup_zup {α : Type} (V : Nat → α) (a : Nat) (f g : α) : zup (zup V a f) a g = zup V a g := by
  funext q
  by_cases h : q = a
  · subst h; rw [zup_s, zup_s]
  · rw [zup_n _ _ h, zup_n _ _ h, zup_n _ _ h]
theorem ct_J7_fill {a n : Nat} {x : Int} (hs : S0[a]? = some (.inr (0, n))) (hn : n ≤ 4096) : yC 1 mJ7_fill_53178 [.ref a, .int (iI x)] V b (pV b (fun V' => V' = zup V a (ifl (V a) n x))) := by
  have hn2 : Nat.ble n 2147483647 = true := by rw [Nat.ble_eq]; omega
  refine zC_of (by decide +kernel) (Nat.le_of_ble_eq_true rfl) rfl ?_
  have loop : ∀ (k : Nat) (i : Int), 0 ≤ i → i + k = n → yE 1 (pV b (fun V' => V' = zup V a (ifl (V a) n x))) mJ7_fill_53178 5 [some (.ref a), some (.int (iI x)), some (.int (iI i)), some (.int (iI n))] [] (zup V a (ifl (V a) i x)) b := by
    intro k
    induction k with
    | zero =>
      intro i h0 h1
      have hi : i = n := by omega
      subst hi
      refine z_iload_n dJ7_fill_53178_5 rfl ?_
      refine z_iload_n dJ7_fill_53178_6 rfl ?_
      refine y_icmp_ge dJ7_fill_53178_7 (by omega) (by omega) (fun c_7 => ?_) (fun c_7 => ?_)
      · exact z_vret dJ7_fill_53178_20 rfl (Nat.le_refl 0) (Nat.le_refl 0) ⟨_, rfl, rfl, rfl⟩
      · omega
    | succ k ih =>
      intro i h0 h1
      have e : vst (zup V a (ifl (V a) i x)) a i x = zup V a (ifl (V a) (i + 1) x) := by
        unfold vst
        rw [zup_s, zup_zup]
        congr 1
        funext j
        unfold iup ifl
        by_cases h : j = i
        · rw [if_pos h, if_pos (by omega)]
        · rw [if_neg h]
          by_cases h2 : 0 ≤ j ∧ j < i
          · rw [if_pos h2, if_pos (by omega)]
          · rw [if_neg h2, if_neg (by omega)]
      have ih := ih (i + 1) (by omega) (by omega)
      rw [← e] at ih
      refine z_iload_n dJ7_fill_53178_5 rfl ?_
      refine z_iload_n dJ7_fill_53178_6 rfl ?_
      refine y_icmp_ge dJ7_fill_53178_7 (by omega) (by omega) (fun c_7 => ?_) (fun c_7 => ?_)
      · omega
      · refine z_aload_n dJ7_fill_53178_10 rfl ?_
        refine z_iload_n dJ7_fill_53178_11 rfl ?_
        refine z_iload_n dJ7_fill_53178_12 rfl ?_
        refine y_iast dJ7_fill_53178_13 hs (by first | rfl | assumption) (by omega) ?_
        refine y_iinc dJ7_fill_53178_14 rfl (by decide) rfl rfl ?_
        refine z_goto dJ7_fill_53178_17 ?_
        exact ih
  have h0 := loop n 0 (by omega) (by omega)
  have e0 : zup V a (ifl (V a) 0 x) = V := by
    have : ifl (V a) 0 x = V a := by
      funext j
      unfold ifl
      rw [if_neg (by omega)]
    rw [this, zup_id]
  rw [e0] at h0
  refine y_iconst dJ7_fill_53178_0 ?_
  refine z_istore_n dJ7_fill_53178_1 (by decide) rfl rfl ?_
  refine z_aload_n dJ7_fill_53178_2 rfl ?_
  refine y_alen dJ7_fill_53178_3 (by first | assumption | rfl) rfl ?_
  refine z_istore_n dJ7_fill_53178_4 (by decide) rfl rfl ?_
  exact h0
end
/-! ===== Stand, as 'now' at place 3 ===== -/
abbrev cN (V : Nat → Int → Int) : Prop := ∀ i, 0 ≤ V 5 i ∧ V 5 i ≤ 7
abbrev wN (V : Nat → Int → Int) : Prop := ∀ i, -1 ≤ V 4 i ∧ V 4 i ≤ 6
section
variable {V : Nat → Int → Int} {b : Bool}
theorem ct_X8_isLine {l : Int} (hl : rg l) : yC 1 mX8_isLine [.int (iI l)] V b (pR b V (fun r => (0 ≤ l ∧ l ≤ 4 ∧ r = 1) ∨ (¬ (0 ≤ l ∧ l ≤ 4) ∧ r = 0))) := by
  refine zC_of (by decide +kernel) (Nat.le_of_ble_eq_true rfl) rfl ?_
  refine z_iload_n dX8_isLine_0 rfl ?_
  refine y_if_lt dX8_isLine_1 (by omega) (fun c_1 => ?_) (fun c_1 => ?_)
  · refine y_iconst dX8_isLine_13 ?_
    exact y_zret dX8_isLine_14 rfl (by omega) (Nat.le_refl 0) (Nat.le_refl 0) ⟨_, rfl, rfl, by omega⟩
  · refine z_iload_n dX8_isLine_4 rfl ?_
    refine y_iconst dX8_isLine_5 ?_
    refine y_icmp_ge dX8_isLine_6 (by omega) (by omega) (fun c_6 => ?_) (fun c_6 => ?_)
    · refine y_iconst dX8_isLine_13 ?_
      exact y_zret dX8_isLine_14 rfl (by omega) (Nat.le_refl 0) (Nat.le_refl 0) ⟨_, rfl, rfl, by omega⟩
    · refine y_iconst dX8_isLine_9 ?_
      refine z_goto dX8_isLine_10 ?_
      exact y_zret dX8_isLine_14 rfl (by omega) (Nat.le_refl 0) (Nat.le_refl 0) ⟨_, rfl, rfl, by omega⟩
theorem ct_X8_countOf {l : Int} (hl : 0 ≤ l ∧ l ≤ 4) : yC 2 mX8_countOf [.ref 3, .int (iI l)] V b (pR b V (fun r => r = V 5 l)) := by
  refine zC_of (by decide +kernel) (Nat.le_of_ble_eq_true rfl) rfl ?_
  refine z_iload_n dX8_countOf_0 rfl ?_
  refine y_callSr (ct_X8_isLine (by omega)) kX8_47 dX8_countOf_1 rfl rfl (by decide) rfl (Nat.le_of_ble_eq_true rfl) (fun r_1 h_1 => ?_)
  refine y_if_eq dX8_countOf_4 (by omega) (fun c_4 => ?_) (fun c_4 => ?_)
  · omega
  · refine z_aload_n dX8_countOf_7 rfl ?_
    refine y_getR fX8_15 dX8_countOf_8 (by first | assumption | rfl) (by first | assumption | rfl) ?_
    refine z_iload_n dX8_countOf_11 rfl ?_
    refine y_iald dX8_countOf_12 (by first | assumption | rfl) (by first | rfl | assumption) (by omega) ?_
    refine z_goto dX8_countOf_13 ?_
    exact z_iret dX8_countOf_17 rfl (Nat.le_refl 0) (Nat.le_refl 0) ⟨_, rfl, rfl, by omega⟩
theorem ct_X8_peaceOf {l : Int} (hl : 0 ≤ l ∧ l ≤ 4) : yC 2 mX8_peaceOf [.ref 3, .int (iI l)] V b (pR b V (fun r => r = V 6 l)) := by
  refine zC_of (by decide +kernel) (Nat.le_of_ble_eq_true rfl) rfl ?_
  refine z_iload_n dX8_peaceOf_0 rfl ?_
  refine y_callSr (ct_X8_isLine (by omega)) kX8_47 dX8_peaceOf_1 rfl rfl (by decide) rfl (Nat.le_of_ble_eq_true rfl) (fun r_1 h_1 => ?_)
  refine y_if_eq dX8_peaceOf_4 (by omega) (fun c_4 => ?_) (fun c_4 => ?_)
  · omega
  · refine z_aload_n dX8_peaceOf_7 rfl ?_
    refine y_getR fX8_18 dX8_peaceOf_8 (by first | assumption | rfl) (by first | assumption | rfl) ?_
    refine z_iload_n dX8_peaceOf_11 rfl ?_
    refine y_iald dX8_peaceOf_12 (by first | assumption | rfl) (by first | rfl | assumption) (by omega) ?_
    refine z_goto dX8_peaceOf_13 ?_
    exact z_iret dX8_peaceOf_17 rfl (Nat.le_refl 0) (Nat.le_refl 0) ⟨_, rfl, rfl, by omega⟩
/-- the wagon at a place of a line; -1 of none -/
def wA (V : Nat → Int → Int) (l p : Int) : Int := if 0 ≤ p ∧ p < V 5 l then V 4 (l * 7 + p) else -1
theorem wA_rg {l p : Int} (hw : wN V) : -1 ≤ wA V l p ∧ wA V l p ≤ 6 := by
  unfold wA
  have := hw (l * 7 + p)
  split <;> omega
theorem ct_X8_wagonAt {l p : Int} (hl : 0 ≤ l ∧ l ≤ 4) (hp : rg p) (hc : cN V) : yC 3 mX8_wagonAt [.ref 3, .int (iI l), .int (iI p)] V b (pR b V (fun r => r = wA V l p)) := by
  have hcl := hc l
  refine zC_of (by decide +kernel) (Nat.le_of_ble_eq_true rfl) rfl ?_
  refine z_iload_n dX8_wagonAt_0 rfl ?_
  refine y_if_lt dX8_wagonAt_1 (by omega) (fun c_1 => ?_) (fun c_1 => ?_)
  · refine y_iconst dX8_wagonAt_19 ?_
    exact z_iret dX8_wagonAt_20 rfl (Nat.le_refl 0) (Nat.le_refl 0) ⟨_, rfl, rfl, by unfold wA; split <;> omega⟩
  · refine z_iload_n dX8_wagonAt_4 rfl ?_
    refine z_aload_n dX8_wagonAt_5 rfl ?_
    refine z_iload_n dX8_wagonAt_6 rfl ?_
    refine y_callVr (ct_X8_countOf (by omega)) kX8_51 dX8_wagonAt_7 rfl rfl (by first | assumption | rfl) rfl (by decide) rfl (Nat.le_of_ble_eq_true rfl) (fun r_7 h_7 => ?_)
    refine y_icmp_ge dX8_wagonAt_10 (by omega) (by omega) (fun c_10 => ?_) (fun c_10 => ?_)
    · refine y_iconst dX8_wagonAt_19 ?_
      exact z_iret dX8_wagonAt_20 rfl (Nat.le_refl 0) (Nat.le_refl 0) ⟨_, rfl, rfl, by unfold wA; split <;> omega⟩
    · refine z_iload_n dX8_wagonAt_13 rfl ?_
      refine y_bipush dX8_wagonAt_14 (by decide +kernel) ?_
      refine y_icmp_lt dX8_wagonAt_16 (by omega) (by omega) (fun c_16 => ?_) (fun c_16 => ?_)
      · refine z_aload_n dX8_wagonAt_21 rfl ?_
        refine y_getR fX8_11 dX8_wagonAt_22 (by first | assumption | rfl) (by first | assumption | rfl) ?_
        refine z_iload_n dX8_wagonAt_25 rfl ?_
        refine y_bipush dX8_wagonAt_26 (by decide +kernel) ?_
        refine y_imul dX8_wagonAt_28 ?_
        refine z_iload_n dX8_wagonAt_29 rfl ?_
        refine y_iadd dX8_wagonAt_30 ?_
        refine y_iald dX8_wagonAt_31 (by first | assumption | rfl) (by first | rfl | assumption) (by omega) ?_
        exact z_iret dX8_wagonAt_32 rfl (Nat.le_refl 0) (Nat.le_refl 0) ⟨_, rfl, rfl, by unfold wA; split <;> omega⟩
      · refine y_iconst dX8_wagonAt_19 ?_
        exact z_iret dX8_wagonAt_20 rfl (Nat.le_refl 0) (Nat.le_refl 0) ⟨_, rfl, rfl, by unfold wA; split <;> omega⟩
theorem ct_X8_lastIn {l : Int} (hl : 0 ≤ l ∧ l ≤ 4) (hc : cN V) : yC 4 mX8_lastIn [.ref 3, .int (iI l)] V b (pR b V (fun r => r = wA V l (V 5 l - 1))) := by
  have hcl := hc l
  refine zC_of (by decide +kernel) (Nat.le_of_ble_eq_true rfl) rfl ?_
  refine z_aload_n dX8_lastIn_0 rfl ?_
  refine z_iload_n dX8_lastIn_1 rfl ?_
  refine z_aload_n dX8_lastIn_2 rfl ?_
  refine z_iload_n dX8_lastIn_3 rfl ?_
  refine y_callVr (ct_X8_countOf (by omega)) kX8_51 dX8_lastIn_4 rfl rfl (by first | assumption | rfl) rfl (by decide) rfl (Nat.le_of_ble_eq_true rfl) (fun r_4 h_4 => ?_)
  subst h_4
  refine y_iconst dX8_lastIn_7 ?_
  refine y_isub dX8_lastIn_8 ?_
  refine y_callVr (ct_X8_wagonAt (by omega) (by omega) (by assumption)) kX8_55 dX8_lastIn_9 rfl rfl (by first | assumption | rfl) rfl (by decide) rfl (Nat.le_of_ble_eq_true rfl) (fun r_9 h_9 => ?_)
  exact z_iret dX8_lastIn_12 rfl (Nat.le_refl 0) (Nat.le_refl 0) ⟨_, rfl, rfl, by omega⟩
theorem ct_X8_fromHead {i : Int} (hi : rg i) (hc : cN V) : yC 4 mX8_fromHead [.ref 3, .int (iI i)] V b (pR b V (fun r => r = wA V 4 (V 5 4 - 1 - i))) := by
  have hcl := hc 4
  by_cases h : 2147483647 < V 5 4 - 1 - i
  · have hb : wA V 4 (V 5 4 - 1 - i) = -1 := by unfold wA; rw [if_neg (by omega)]
    have hb2 : wA V 4 (V 5 4 - 1 - i - 4294967296) = -1 := by unfold wA; rw [if_neg (by omega)]
    have e : iI (V 5 4 - 1 - i) = iI (V 5 4 - 1 - i - 4294967296) := by
      rw [← iI_sub _ 4294967296, show iI 4294967296 = 0 by decide +kernel, Int32.sub_zero]
    refine zC_of (by decide +kernel) (Nat.le_of_ble_eq_true rfl) rfl ?_
    refine z_aload_n dX8_fromHead_0 rfl ?_
    refine y_iconst dX8_fromHead_1 ?_
    refine z_aload_n dX8_fromHead_2 rfl ?_
    refine y_iconst dX8_fromHead_3 ?_
    refine y_callVr (ct_X8_countOf (by omega)) kX8_51 dX8_fromHead_4 rfl rfl (by first | assumption | rfl) rfl (by decide) rfl (Nat.le_of_ble_eq_true rfl) (fun r_4 h_4 => ?_)
    subst h_4
    refine y_iconst dX8_fromHead_7 ?_
    refine y_isub dX8_fromHead_8 ?_
    refine z_iload_n dX8_fromHead_9 rfl ?_
    refine y_isub dX8_fromHead_10 ?_
    rw [e]
    refine y_callVr (ct_X8_wagonAt (by omega) (by omega) (by assumption)) kX8_55 dX8_fromHead_11 rfl rfl (by first | assumption | rfl) rfl (by decide) rfl (Nat.le_of_ble_eq_true rfl) (fun r_11 h_11 => ?_)
    exact z_iret dX8_fromHead_14 rfl (Nat.le_refl 0) (Nat.le_refl 0) ⟨_, rfl, rfl, by rw [h_11, hb, hb2]⟩
  · skip
    refine zC_of (by decide +kernel) (Nat.le_of_ble_eq_true rfl) rfl ?_
    refine z_aload_n dX8_fromHead_0 rfl ?_
    refine y_iconst dX8_fromHead_1 ?_
    refine z_aload_n dX8_fromHead_2 rfl ?_
    refine y_iconst dX8_fromHead_3 ?_
    refine y_callVr (ct_X8_countOf (by omega)) kX8_51 dX8_fromHead_4 rfl rfl (by first | assumption | rfl) rfl (by decide) rfl (Nat.le_of_ble_eq_true rfl) (fun r_4 h_4 => ?_)
    subst h_4
    refine y_iconst dX8_fromHead_7 ?_
    refine y_isub dX8_fromHead_8 ?_
    refine z_iload_n dX8_fromHead_9 rfl ?_
    refine y_isub dX8_fromHead_10 ?_
    refine y_callVr (ct_X8_wagonAt (by omega) (by omega) (by assumption)) kX8_55 dX8_fromHead_11 rfl rfl (by first | assumption | rfl) rfl (by decide) rfl (Nat.le_of_ble_eq_true rfl) (fun r_11 h_11 => ?_)
    exact z_iret dX8_fromHead_14 rfl (Nat.le_refl 0) (Nat.le_refl 0) ⟨_, rfl, rfl, by omega⟩
/-- w stands in line l -/
def inL (V : Nat → Int → Int) (l w : Int) : Prop := ∃ p, 0 ≤ p ∧ p < V 5 l ∧ V 4 (l * 7 + p) = w
def lnP (V : Nat → Int → Int) (w r : Int) : Prop := (0 ≤ r ∧ r ≤ 3 ∧ inL V r w ∧ ∀ l, 0 ≤ l → l < r → ¬ inL V l w) ∨ (r = 4 ∧ ∀ l, 0 ≤ l → l < 4 → ¬ inL V l w)
theorem ct_X8_lineOf {w : Int} (hw : rg w) (hc : cN V) (hwn : wN V) : yC 4 mX8_lineOf [.ref 3, .int (iI w)] V b (pR b V (lnP V w)) := by
  have loop : ∀ (n : Nat) (l p : Int), 0 ≤ l → l < 4 → 0 ≤ p → p ≤ V 5 l → (4 - l) * 9 + (8 - p) ≤ n → (∀ k, 0 ≤ k → k < l → ¬ inL V k w) → (∀ q, 0 ≤ q → q < p → V 4 (l * 7 + q) ≠ w) → yE 4 (pR b V (lnP V w)) mX8_lineOf 9 [some (.ref 3), some (.int (iI w)), some (.int (iI l)), some (.int (iI p))] [] V b := by
    intro n
    induction n with
    | zero =>
      intro l p h1 h2 h3 h3' h4
      have := hc l
      omega
    | succ n ih =>
      intro l p h1 h2 h3 h3' h4 h5 h6
      have hcl := hc l
      have hcl2 := hc (l + 1)
      have hwr := wA_rg (l := l) (p := p) hwn
      have hwA : p < V 5 l → wA V l p = V 4 (l * 7 + p) := fun h => by unfold wA; rw [if_pos ⟨h3, h⟩]
      refine z_iload_n dX8_lineOf_9 rfl ?_
      refine z_aload_n dX8_lineOf_10 rfl ?_
      refine z_iload_n dX8_lineOf_11 rfl ?_
      refine y_callVr (ct_X8_countOf (by omega)) kX8_51 dX8_lineOf_12 rfl rfl (by first | assumption | rfl) rfl (by decide) rfl (Nat.le_of_ble_eq_true rfl) (fun r_12 h_12 => ?_)
      refine y_icmp_ge dX8_lineOf_15 (by omega) (by omega) (fun c_15 => ?_) (fun c_15 => ?_)
      · have hn5 : ∀ k, 0 ≤ k → k < l + 1 → ¬ inL V k w := by
           intro k k1 k2
           by_cases hk : k = l
           · subst hk
             rintro ⟨q, q1, q2, q3⟩
             exact h6 q q1 (by omega) q3
           · exact h5 k k1 (by omega)
        refine y_iinc dX8_lineOf_36 rfl (by decide) rfl rfl ?_
        refine z_goto dX8_lineOf_39 ?_
        refine z_iload_n dX8_lineOf_2 rfl ?_
        refine y_iconst dX8_lineOf_3 ?_
        refine y_icmp_ge dX8_lineOf_4 (by omega) (by omega) (fun c_4 => ?_) (fun c_4 => ?_)
        · refine y_iconst dX8_lineOf_42 ?_
          exact z_iret dX8_lineOf_43 rfl (Nat.le_refl 0) (Nat.le_refl 0) ⟨_, rfl, rfl, Or.inr ⟨rfl, fun k k1 k2 => hn5 k k1 (by omega)⟩⟩
        · refine y_iconst dX8_lineOf_7 ?_
          refine z_istore_n dX8_lineOf_8 (by decide) rfl rfl ?_
          exact ih (l + 1) 0 (by omega) (by omega) (by omega) (by omega) (by omega) hn5 (fun q q1 q2 => by omega)
      · refine z_aload_n dX8_lineOf_18 rfl ?_
        refine z_iload_n dX8_lineOf_19 rfl ?_
        refine z_iload_n dX8_lineOf_20 rfl ?_
        refine y_callVr (ct_X8_wagonAt (by omega) (by omega) (by assumption)) kX8_55 dX8_lineOf_21 rfl rfl (by first | assumption | rfl) rfl (by decide) rfl (Nat.le_of_ble_eq_true rfl) (fun r_21 h_21 => ?_)
        refine z_iload_n dX8_lineOf_24 rfl ?_
        refine y_icmp_ne dX8_lineOf_25 (by omega) (by omega) (fun c_25 => ?_) (fun c_25 => ?_)
        · have hn6 : ∀ q, 0 ≤ q → q < p + 1 → V 4 (l * 7 + q) ≠ w := by
             intro q q1 q2
             by_cases hq : q = p
             · subst hq
               rw [← hwA (by omega), ← h_21]
               exact c_25
             · exact h6 q q1 (by omega)
          refine y_iinc dX8_lineOf_30 rfl (by decide) rfl rfl ?_
          refine z_goto dX8_lineOf_33 ?_
          exact ih l (p + 1) h1 h2 (by omega) (by omega) (by omega) h5 hn6
        · refine z_iload_n dX8_lineOf_28 rfl ?_
          exact z_iret dX8_lineOf_29 rfl (Nat.le_refl 0) (Nat.le_refl 0) ⟨_, rfl, rfl, Or.inl ⟨h1, by omega, ⟨p, h3, by omega, by rw [← hwA (by omega), ← h_21]; exact c_25⟩, h5⟩⟩
  have hc0 := hc 0
  refine zC_of (by decide +kernel) (Nat.le_of_ble_eq_true rfl) rfl ?_
  refine y_iconst dX8_lineOf_0 ?_
  refine z_istore_n dX8_lineOf_1 (by decide) rfl rfl ?_
  refine z_iload_n dX8_lineOf_2 rfl ?_
  refine y_iconst dX8_lineOf_3 ?_
  refine y_icmp_ge dX8_lineOf_4 (by omega) (by omega) (fun c_4 => ?_) (fun c_4 => ?_)
  · omega
  · refine y_iconst dX8_lineOf_7 ?_
    refine z_istore_n dX8_lineOf_8 (by decide) rfl rfl ?_
    exact loop 100 0 0 (by omega) (by omega) (by omega) (by omega) (by omega) (fun k k1 k2 => by omega) (fun q q1 q2 => by omega)
theorem ct_X8_roadOf {w : Int} (hw : rg w) (hc : cN V) (hwn : wN V) : yC 5 mX8_roadOf [.ref 3, .int (iI w)] V b (pR b V (fun r => ∃ l, lnP V w l ∧ r = if l = 4 then -1 else l)) := by
  refine zC_of (by decide +kernel) (Nat.le_of_ble_eq_true rfl) rfl ?_
  refine z_aload_n dX8_roadOf_0 rfl ?_
  refine z_iload_n dX8_roadOf_1 rfl ?_
  refine y_callVr (ct_X8_lineOf (by omega) (by assumption) (by assumption)) kX8_59 dX8_roadOf_2 rfl rfl (by first | assumption | rfl) rfl (by decide) rfl (Nat.le_of_ble_eq_true rfl) (fun r_2 h_2 => ?_)
  have hl : 0 ≤ r_2 ∧ r_2 ≤ 4 := by rcases h_2 with h | h <;> omega
  refine z_istore_n dX8_roadOf_5 (by decide) rfl rfl ?_
  refine z_iload_n dX8_roadOf_6 rfl ?_
  refine y_iconst dX8_roadOf_7 ?_
  refine y_icmp_ne dX8_roadOf_8 (by omega) (by omega) (fun c_8 => ?_) (fun c_8 => ?_)
  · refine z_iload_n dX8_roadOf_15 rfl ?_
    exact z_iret dX8_roadOf_16 rfl (Nat.le_refl 0) (Nat.le_refl 0) ⟨_, rfl, rfl, _, h_2, by split <;> omega⟩
  · refine y_iconst dX8_roadOf_11 ?_
    refine z_goto dX8_roadOf_12 ?_
    exact z_iret dX8_roadOf_16 rfl (Nat.le_refl 0) (Nat.le_refl 0) ⟨_, rfl, rfl, _, h_2, by split <;> omega⟩
/-- the place of w in its line: from the deepest on, on the hump from the head -/
def plP (V : Nat → Int → Int) (w r : Int) : Prop := ∃ l, lnP V w l ∧ ((∃ p, 0 ≤ p ∧ p < V 5 l ∧ V 4 (l * 7 + p) = w ∧ (∀ q, 0 ≤ q → q < p → V 4 (l * 7 + q) ≠ w) ∧ r = if l = 4 then V 5 4 - 1 - p else p) ∨ (¬ inL V l w ∧ r = -1))
theorem ct_X8_placeOf {w : Int} (hw : rg w) (hc : cN V) (hwn : wN V) : yC 5 mX8_placeOf [.ref 3, .int (iI w)] V b (pR b V (plP V w)) := by
  have loop : ∀ (n : Nat) (l p : Int), lnP V w l → 0 ≤ l → l ≤ 4 → 0 ≤ p → p ≤ V 5 l → 8 - p ≤ n → (∀ q, 0 ≤ q → q < p → V 4 (l * 7 + q) ≠ w) → yE 5 (pR b V (plP V w)) mX8_placeOf 8 [some (.ref 3), some (.int (iI w)), some (.int (iI l)), some (.int (iI p))] [] V b := by
    intro n
    induction n with
    | zero =>
      intro l p _ h1 h2 h3 h3' h4
      have := hc l
      omega
    | succ n ih =>
      intro l p hln h1 h2 h3 h3' h4 h6
      have hcl := hc l
      have hc4 := hc 4
      have hwr := wA_rg (l := l) (p := p) hwn
      have hwA : p < V 5 l → wA V l p = V 4 (l * 7 + p) := fun h => by unfold wA; rw [if_pos ⟨h3, h⟩]
      refine z_iload_n dX8_placeOf_8 rfl ?_
      refine z_aload_n dX8_placeOf_9 rfl ?_
      refine z_iload_n dX8_placeOf_10 rfl ?_
      refine y_callVr (ct_X8_countOf (by omega)) kX8_51 dX8_placeOf_11 rfl rfl (by first | assumption | rfl) rfl (by decide) rfl (Nat.le_of_ble_eq_true rfl) (fun r_11 h_11 => ?_)
      refine y_icmp_ge dX8_placeOf_14 (by omega) (by omega) (fun c_14 => ?_) (fun c_14 => ?_)
      · refine y_iconst dX8_placeOf_52 ?_
        exact z_iret dX8_placeOf_53 rfl (Nat.le_refl 0) (Nat.le_refl 0) ⟨_, rfl, rfl, l, hln, Or.inr ⟨fun ⟨q, q1, q2, q3⟩ => h6 q q1 (by omega) q3, rfl⟩⟩
      · refine z_aload_n dX8_placeOf_17 rfl ?_
        refine z_iload_n dX8_placeOf_18 rfl ?_
        refine z_iload_n dX8_placeOf_19 rfl ?_
        refine y_callVr (ct_X8_wagonAt (by omega) (by omega) (by assumption)) kX8_55 dX8_placeOf_20 rfl rfl (by first | assumption | rfl) rfl (by decide) rfl (Nat.le_of_ble_eq_true rfl) (fun r_20 h_20 => ?_)
        refine z_iload_n dX8_placeOf_23 rfl ?_
        refine y_icmp_ne dX8_placeOf_24 (by omega) (by omega) (fun c_24 => ?_) (fun c_24 => ?_)
        · have hn6 : ∀ q, 0 ≤ q → q < p + 1 → V 4 (l * 7 + q) ≠ w := by
             intro q q1 q2
             by_cases hq : q = p
             · subst hq
               rw [← hwA (by omega), ← h_20]
               exact c_24
             · exact h6 q q1 (by omega)
          refine y_iinc dX8_placeOf_46 rfl (by decide) rfl rfl ?_
          refine z_goto dX8_placeOf_49 ?_
          exact ih l (p + 1) hln h1 h2 (by omega) (by omega) (by omega) hn6
        · refine z_iload_n dX8_placeOf_27 rfl ?_
          refine y_iconst dX8_placeOf_28 ?_
          refine y_icmp_ne dX8_placeOf_29 (by omega) (by omega) (fun c_29 => ?_) (fun c_29 => ?_)
          · refine z_iload_n dX8_placeOf_44 rfl ?_
            exact z_iret dX8_placeOf_45 rfl (Nat.le_refl 0) (Nat.le_refl 0) ⟨_, rfl, rfl, l, hln, Or.inl ⟨p, h3, by omega, by rw [← hwA (by omega), ← h_20]; exact c_24, h6, by split <;> omega⟩⟩
          · refine z_aload_n dX8_placeOf_32 rfl ?_
            refine y_iconst dX8_placeOf_33 ?_
            refine y_callVr (ct_X8_countOf (by omega)) kX8_51 dX8_placeOf_34 rfl rfl (by first | assumption | rfl) rfl (by decide) rfl (Nat.le_of_ble_eq_true rfl) (fun r_34 h_34 => ?_)
            refine y_iconst dX8_placeOf_37 ?_
            refine y_isub dX8_placeOf_38 ?_
            refine z_iload_n dX8_placeOf_39 rfl ?_
            refine y_isub dX8_placeOf_40 ?_
            refine z_goto dX8_placeOf_41 ?_
            exact z_iret dX8_placeOf_45 rfl (Nat.le_refl 0) (Nat.le_refl 0) ⟨_, rfl, rfl, l, hln, Or.inl ⟨p, h3, by omega, by rw [← hwA (by omega), ← h_20]; exact c_24, h6, by split <;> omega⟩⟩
  refine zC_of (by decide +kernel) (Nat.le_of_ble_eq_true rfl) rfl ?_
  refine z_aload_n dX8_placeOf_0 rfl ?_
  refine z_iload_n dX8_placeOf_1 rfl ?_
  refine y_callVr (ct_X8_lineOf (by omega) (by assumption) (by assumption)) kX8_59 dX8_placeOf_2 rfl rfl (by first | assumption | rfl) rfl (by decide) rfl (Nat.le_of_ble_eq_true rfl) (fun r_2 h_2 => ?_)
  have hl : 0 ≤ r_2 ∧ r_2 ≤ 4 := by rcases h_2 with h | h <;> omega
  have hc0 := hc r_2
  refine z_istore_n dX8_placeOf_5 (by decide) rfl rfl ?_
  refine y_iconst dX8_placeOf_6 ?_
  refine z_istore_n dX8_placeOf_7 (by decide) rfl rfl ?_
  exact loop 8 r_2 0 h_2 (by omega) (by omega) (by omega) (by omega) (by omega) (fun q q1 q2 => by omega)
/-- a wagon comes behind a line -/
def psh (V : Nat → Int → Int) (l w : Int) : Nat → Int → Int := vst (vst V 4 (l * 7 + V 5 l) w) 5 l (V 5 l + 1)
theorem ct_X8_push {l w : Int} (hl : 0 ≤ l ∧ l ≤ 4) (hc : 0 ≤ V 5 l ∧ V 5 l ≤ 6) : yC 3 mX8_push [.ref 3, .int (iI l), .int (iI w)] V b (pV b (fun V' => V' = psh V l w)) := by
  refine zC_of (by decide +kernel) (Nat.le_of_ble_eq_true rfl) rfl ?_
  refine z_aload_n dX8_push_0 rfl ?_
  refine z_iload_n dX8_push_1 rfl ?_
  refine y_callVr (ct_X8_countOf (by omega)) kX8_51 dX8_push_2 rfl rfl (by first | assumption | rfl) rfl (by decide) rfl (Nat.le_of_ble_eq_true rfl) (fun r_2 h_2 => ?_)
  subst h_2
  refine z_istore_n dX8_push_5 (by decide) rfl rfl ?_
  refine z_iload_n dX8_push_6 rfl ?_
  refine y_callSr (ct_X8_isLine (by omega)) kX8_47 dX8_push_7 rfl rfl (by decide) rfl (Nat.le_of_ble_eq_true rfl) (fun r_7 h_7 => ?_)
  refine y_if_eq dX8_push_10 (by omega) (fun c_10 => ?_) (fun c_10 => ?_)
  · omega
  · refine z_iload_n dX8_push_13 rfl ?_
    refine y_bipush dX8_push_14 (by decide +kernel) ?_
    refine y_icmp_ge dX8_push_16 (by omega) (by omega) (fun c_16 => ?_) (fun c_16 => ?_)
    · omega
    · refine z_aload_n dX8_push_19 rfl ?_
      refine y_getR fX8_11 dX8_push_20 (by first | assumption | rfl) (by first | assumption | rfl) ?_
      refine z_iload_n dX8_push_23 rfl ?_
      refine y_bipush dX8_push_24 (by decide +kernel) ?_
      refine y_imul dX8_push_26 ?_
      refine z_iload_n dX8_push_27 rfl ?_
      refine y_iadd dX8_push_28 ?_
      refine z_iload_n dX8_push_29 rfl ?_
      refine y_iast dX8_push_30 (by first | assumption | rfl) (by first | rfl | assumption) (by omega) ?_
      refine z_aload_n dX8_push_31 rfl ?_
      refine y_getR fX8_15 dX8_push_32 (by first | assumption | rfl) (by first | assumption | rfl) ?_
      refine z_iload_n dX8_push_35 rfl ?_
      refine z_dup2 dX8_push_36 rfl rfl ?_
      refine y_iald dX8_push_37 (by first | assumption | rfl) (by first | rfl | assumption) (by omega) ?_
      refine y_iconst dX8_push_38 ?_
      refine y_iadd dX8_push_39 ?_
      refine y_iast dX8_push_40 (by first | assumption | rfl) (by first | rfl | assumption) (by omega) ?_
      exact z_vret dX8_push_41 rfl (Nat.le_refl 0) (Nat.le_refl 0) ⟨_, rfl, rfl, by simp only [psh, vst_o (show (5 : Nat) ≠ 4 by decide)]⟩
end

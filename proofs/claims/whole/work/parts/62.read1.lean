/-! ===== leastRoads; the reader's text ===== -/
section
variable {V : Nat → Int → Int} {b : Bool}
theorem ct_X10_leastRoads {w : Int} (hw : rg w) (h7 : 0 ≤ V (yN b) 7 ∧ V (yN b) 7 ≤ 7) (ht : tuR V (yN b)) : yC 3 mX10_leastRoads [.ref 0, .int (iI w)] V b (pI b (fun q V' => (w ≠ -1 ∧ ¬ (0 ≤ w ∧ w < V (yN b) 7) ∧ q = -1000000001 ∧ V' = V) ∨ ((w = -1 ∨ (0 ≤ w ∧ w < V (yN b) 7)) ∧ soP V V' (yN b) w q))) := by
  have hy := yN_Y b
  obtain ⟨sy, sy1, sy2, sy3, sy4, sy5, sy6, fy0, fy1, fy2, fy3, fy4, fy5⟩ := yfacts hy b
  have hf : Fs b 0 11 = some (yN b) := rfl
  refine zC_of (by decide +kernel) (Nat.le_of_ble_eq_true rfl) rfl ?_
  refine z_iload_n dX10_leastRoads_0 rfl ?_
  refine y_iconst dX10_leastRoads_1 ?_
  refine y_icmp_eq dX10_leastRoads_2 (by omega) (by omega) (fun c_2 => ?_) (fun c_2 => ?_)
  · refine z_aload_n dX10_leastRoads_19 rfl ?_
    refine y_getR fX10_83 dX10_leastRoads_20 (by first | assumption | rfl) (by first | assumption | rfl) ?_
    refine z_iload_n dX10_leastRoads_23 rfl ?_
    refine y_callVi (ct_X9_sortingRoad hy (by omega) h7 ht) kX10_253 dX10_leastRoads_24 rfl rfl (by first | assumption | rfl) rfl (by decide) rfl (Nat.le_of_ble_eq_true rfl) (fun q_24 V1 h_24 => ?_)
    exact z_iret dX10_leastRoads_27 rfl (Nat.le_refl 0) (Nat.le_refl 0) ⟨_, _, rfl, rfl, Or.inr ⟨by omega, h_24⟩⟩
  · refine z_aload_n dX10_leastRoads_5 rfl ?_
    refine y_getR fX10_83 dX10_leastRoads_6 (by first | assumption | rfl) (by first | assumption | rfl) ?_
    refine z_iload_n dX10_leastRoads_9 rfl ?_
    refine y_callVr (ct_X9_hasWagon hy (by omega) (by omega)) kX10_150 dX10_leastRoads_10 rfl rfl (by first | assumption | rfl) rfl (by decide) rfl (Nat.le_of_ble_eq_true rfl) (fun r_10 h_10 => ?_)
    refine y_if_ne dX10_leastRoads_13 (by omega) (fun c_13 => ?_) (fun c_13 => ?_)
    · refine z_aload_n dX10_leastRoads_19 rfl ?_
      refine y_getR fX10_83 dX10_leastRoads_20 (by first | assumption | rfl) (by first | assumption | rfl) ?_
      refine z_iload_n dX10_leastRoads_23 rfl ?_
      refine y_callVi (ct_X9_sortingRoad hy (by omega) h7 ht) kX10_253 dX10_leastRoads_24 rfl rfl (by first | assumption | rfl) rfl (by decide) rfl (Nat.le_of_ble_eq_true rfl) (fun q_24 V1 h_24 => ?_)
      exact z_iret dX10_leastRoads_27 rfl (Nat.le_refl 0) (Nat.le_refl 0) ⟨_, _, rfl, rfl, Or.inr ⟨by omega, h_24⟩⟩
    · refine y_ldc (n := -1000000001) dX10_leastRoads_16 cX10_153 (by decide +kernel) ?_
      exact z_iret dX10_leastRoads_18 rfl (Nat.le_refl 0) (Nat.le_refl 0) ⟨_, _, rfl, rfl, Or.inl ⟨by omega, by omega, rfl, rfl⟩⟩
end
/-- the letter at p; -1: none -/
def ltT (t : Int → Int) (n p : Int) : Int := if p < n then t p else -1
/-- past blanks -/
def skT (t : Int → Int) (n : Int) : Nat → Int → Int
  | 0, p => p
  | k + 1, p => if p < n ∧ t p = 32 then skT t n k (p + 1) else p
def sk (t : Int → Int) (n p : Int) : Int := skT t n (n - p).toNat p
/-- past figures -/
def deT (t : Int → Int) (n : Int) : Nat → Int → Int
  | 0, p => p
  | k + 1, p => if p < n ∧ 48 ≤ t p ∧ t p ≤ 57 then deT t n k (p + 1) else p
def de (t : Int → Int) (n p : Int) : Int := deT t n (n - p).toNat p
/-- the value of the figures, f of them read -/
def vaT (t : Int → Int) (n : Int) : Nat → Int → Int → Int → Int
  | 0, _, _, v => v
  | k + 1, p, f, v => if p < n ∧ 48 ≤ t p ∧ t p ≤ 57 then vaT t n k (p + 1) (f + 1) (if f < 3 then v * 10 + t p - 48 else v) else v
def va (t : Int → Int) (n p : Int) : Int := vaT t n (n - p).toNat p 0 0
section
variable {t : Int → Int} {n : Int}
theorem skT_rg : ∀ (k : Nat) (p : Int), p ≤ skT t n k p ∧ (p ≤ n → skT t n k p ≤ n)
  | 0, p => by unfold skT; omega
  | k + 1, p => by
    have := skT_rg k (p + 1)
    unfold skT
    split <;> omega
theorem skT_st : ∀ (k : Nat) (p : Int), n ≤ p + k → ¬ (skT t n k p < n ∧ t (skT t n k p) = 32)
  | 0, p, h => by unfold skT; omega
  | k + 1, p, h => by
    unfold skT
    split
    · exact skT_st k (p + 1) (by omega)
    · assumption
theorem sk_rg {p : Int} (h : p ≤ n) : p ≤ sk t n p ∧ sk t n p ≤ n := ⟨(skT_rg _ p).1, (skT_rg _ p).2 h⟩
theorem sk_st {p : Int} : ¬ (sk t n p < n ∧ t (sk t n p) = 32) := skT_st _ p (by omega)
theorem sk_go {p : Int} (h : p < n) (h2 : t p = 32) : sk t n p = sk t n (p + 1) := by
  unfold sk
  rw [show (n - p).toNat = (n - (p + 1)).toNat + 1 by omega]
  exact if_pos ⟨h, h2⟩
theorem sk_no {p : Int} (h : ¬ (p < n ∧ t p = 32)) : sk t n p = p := by
  unfold sk
  cases e : (n - p).toNat with
  | zero => rfl
  | succ k => exact if_neg h
theorem deT_rg : ∀ (k : Nat) (p : Int), p ≤ deT t n k p ∧ (p ≤ n → deT t n k p ≤ n)
  | 0, p => by unfold deT; omega
  | k + 1, p => by
    have := deT_rg k (p + 1)
    unfold deT
    split <;> omega
theorem de_rg {p : Int} (h : p ≤ n) : p ≤ de t n p ∧ de t n p ≤ n := ⟨(deT_rg _ p).1, (deT_rg _ p).2 h⟩
theorem de_go {p : Int} (h : p < n) (h2 : 48 ≤ t p ∧ t p ≤ 57) : de t n p = de t n (p + 1) := by
  unfold de
  rw [show (n - p).toNat = (n - (p + 1)).toNat + 1 by omega]
  exact if_pos ⟨h, h2⟩
theorem de_no {p : Int} (h : ¬ (p < n ∧ 48 ≤ t p ∧ t p ≤ 57)) : de t n p = p := by
  unfold de
  cases e : (n - p).toNat with
  | zero => rfl
  | succ k => exact if_neg h
/-- so far -/
def vaQ (f v : Int) : Prop := 0 ≤ f ∧ 0 ≤ v ∧ v ≤ 999 ∧ (f = 0 → v = 0) ∧ (f = 1 → v ≤ 9) ∧ (f = 2 → v ≤ 99)
theorem vaQ_s {f v d : Int} (h : vaQ f v) (hd : 48 ≤ d ∧ d ≤ 57) : vaQ (f + 1) (if f < 3 then v * 10 + d - 48 else v) := by
  obtain ⟨h0, h1, h2, h3, h4, h5⟩ := h
  unfold vaQ
  split <;> refine ⟨?_, ?_, ?_, ?_, ?_, ?_⟩ <;> omega
theorem vaT_rg : ∀ (k : Nat) (p f v : Int), vaQ f v → 0 ≤ vaT t n k p f v ∧ vaT t n k p f v ≤ 999
  | 0, p, f, v, h => ⟨h.2.1, h.2.2.1⟩
  | k + 1, p, f, v, h => by
    unfold vaT
    split
    · rename_i hd
      exact vaT_rg k _ _ _ (vaQ_s h hd.2)
    · exact ⟨h.2.1, h.2.2.1⟩
theorem va_rg {p : Int} : 0 ≤ va t n p ∧ va t n p ≤ 999 := vaT_rg _ _ _ _ ⟨by omega, by omega, by omega, by omega, by omega, by omega⟩
theorem ltT_rg {p : Int} (h : ∀ j, 0 ≤ t j ∧ t j ≤ 255) : -1 ≤ ltT t n p ∧ ltT t n p ≤ 255 := by
  have := h p
  unfold ltT
  split <;> omega
end
/-- the reader's four numbers -/
def rdr (V : Nat → Int → Int) (s m f g : Int) : Nat → Int → Int := zup V 1 (fun j => if j = 2 then s else if j = 3 then m else if j = 4 then f else if j = 5 then g else V 1 j)
section
variable {V : Nat → Int → Int} {b : Bool} {s m f g : Int}
theorem rdr_o {a : Nat} (h : a ≠ 1) : rdr V s m f g a = V a := zup_n _ _ h
theorem rdr_l : rdr V s m f g 1 1 = V 1 1 := by unfold rdr; rw [zup_s]; rfl
theorem rdr_2 : rdr V s m f g 1 2 = s := by unfold rdr; rw [zup_s]; rfl
theorem rdr_3 : rdr V s m f g 1 3 = m := by unfold rdr; rw [zup_s]; rfl
theorem rdr_4 : rdr V s m f g 1 4 = f := by unfold rdr; rw [zup_s]; rfl
theorem rdr_5 : rdr V s m f g 1 5 = g := by unfold rdr; rw [zup_s]; rfl
theorem rdr_t : rdr V s m f g 2 = V 2 := rdr_o (by decide)
theorem rdr_id : rdr V (V 1 2) (V 1 3) (V 1 4) (V 1 5) = V := by
  funext a
  by_cases h : a = 1
  · subst h
    unfold rdr
    rw [zup_s]
    funext j
    show (if j = 2 then V 1 2 else if j = 3 then V 1 3 else if j = 4 then V 1 4 else if j = 5 then V 1 5 else V 1 j) = V 1 j
    split
    · subst_vars; rfl
    · split
      · subst_vars; rfl
      · split
        · subst_vars; rfl
        · split
          · subst_vars; rfl
          · rfl
  · exact rdr_o h
theorem rdr_u2 {x : Int} : vst (rdr V s m f g) 1 2 x = rdr V x m f g := by
  unfold rdr
  rw [vst_zup_s]
  congr 1
  funext j
  simp only [iup]
  repeat' split
  all_goals first | rfl | omega
theorem rdr_u3 {x : Int} : vst (rdr V s m f g) 1 3 x = rdr V s x f g := by
  unfold rdr
  rw [vst_zup_s]
  congr 1
  funext j
  simp only [iup]
  repeat' split
  all_goals first | rfl | omega
theorem rdr_u4 {x : Int} : vst (rdr V s m f g) 1 4 x = rdr V s m x g := by
  unfold rdr
  rw [vst_zup_s]
  congr 1
  funext j
  simp only [iup]
  repeat' split
  all_goals first | rfl | omega
theorem rdr_u5 {x : Int} : vst (rdr V s m f g) 1 5 x = rdr V s m f x := by
  unfold rdr
  rw [vst_zup_s]
  congr 1
  funext j
  simp only [iup]
  repeat' split
  all_goals first | rfl | omega
/-- a text -/
def tX (V : Nat → Int → Int) : Prop := (0 ≤ V 1 1 ∧ V 1 1 ≤ 230) ∧ ∀ j, 0 ≤ V 2 j ∧ V 2 j ≤ 255
theorem ct_X7_letter (hT : tX V) (hs : 0 ≤ s ∧ s ≤ V 1 1) : yC 0 mX7_letter [.ref 1] (rdr V s m f g) b (pR b (rdr V s m f g) (fun q => q = ltT (V 2) (V 1 1) s)) := by
  obtain ⟨h1, h2⟩ := hT
  refine zC_of (by decide +kernel) (Nat.le_of_ble_eq_true rfl) rfl ?_
  refine z_aload_n dX7_letter_0 rfl ?_
  refine y_getI (j := 2) fX7_19 dX7_letter_1 rfl (by first | assumption | rfl) ?_
  rw [rdr_2]
  refine y_if_lt dX7_letter_4 (by omega) (fun c_4 => ?_) (fun c_4 => ?_)
  · omega
  · refine z_aload_n dX7_letter_7 rfl ?_
    refine y_getI (j := 2) fX7_19 dX7_letter_8 rfl (by first | assumption | rfl) ?_
    rw [rdr_2]
    refine z_aload_n dX7_letter_11 rfl ?_
    refine y_getI (j := 1) fX7_15 dX7_letter_12 rfl (by first | assumption | rfl) ?_
    rw [rdr_l]
    refine y_icmp_ge dX7_letter_15 (by omega) (by omega) (fun c_15 => ?_) (fun c_15 => ?_)
    · refine y_iconst dX7_letter_40 ?_
      exact z_iret dX7_letter_41 rfl (Nat.le_refl 0) (Nat.le_refl 0) ⟨_, rfl, rfl, by unfold ltT; first | rw [if_pos (by omega)] | rw [if_neg (by omega)]⟩
    · refine z_aload_n dX7_letter_18 rfl ?_
      refine y_getI (j := 2) fX7_19 dX7_letter_19 rfl (by first | assumption | rfl) ?_
      rw [rdr_2]
      refine y_sipush dX7_letter_22 (by decide +kernel) ?_
      refine y_icmp_ge dX7_letter_25 (by omega) (by omega) (fun c_25 => ?_) (fun c_25 => ?_)
      · omega
      · refine z_aload_n dX7_letter_28 rfl ?_
        refine y_getR fX7_9 dX7_letter_29 (by first | assumption | rfl) (by first | assumption | rfl) ?_
        refine z_aload_n dX7_letter_32 rfl ?_
        refine y_getI (j := 2) fX7_19 dX7_letter_33 rfl (by first | assumption | rfl) ?_
        rw [rdr_2]
        refine y_iald dX7_letter_36 (by first | assumption | rfl) (by first | rfl | assumption) (by omega) ?_
        rw [rdr_t]
        refine z_goto dX7_letter_37 ?_
        exact z_iret dX7_letter_41 rfl (Nat.le_refl 0) (Nat.le_refl 0) ⟨_, rfl, rfl, by unfold ltT; first | rw [if_pos (by omega)] | rw [if_neg (by omega)]⟩
theorem ct_X7_failed (hf : 0 ≤ f ∧ f ≤ 4) : yC 0 mX7_failed [.ref 1] (rdr V s m f g) b (pR b (rdr V s m f g) (fun q => (q = 1 ∧ f ≠ 0) ∨ (q = 0 ∧ f = 0))) := by
  refine zC_of (by decide +kernel) (Nat.le_of_ble_eq_true rfl) rfl ?_
  refine z_aload_n dX7_failed_0 rfl ?_
  refine y_getI (j := 4) fX7_25 dX7_failed_1 rfl (by first | assumption | rfl) ?_
  rw [rdr_4]
  refine y_if_eq dX7_failed_4 (by omega) (fun c_4 => ?_) (fun c_4 => ?_)
  · refine y_iconst dX7_failed_11 ?_
    exact y_zret dX7_failed_12 rfl (by omega) (Nat.le_refl 0) (Nat.le_refl 0) ⟨_, rfl, rfl, by omega⟩
  · refine y_iconst dX7_failed_7 ?_
    refine z_goto dX7_failed_8 ?_
    exact y_zret dX7_failed_12 rfl (by omega) (Nat.le_refl 0) (Nat.le_refl 0) ⟨_, rfl, rfl, by omega⟩
theorem ct_X7_fail {k p : Int} (hf : 0 ≤ f ∧ f ≤ 4) : yC 0 mX7_fail [.ref 1, .int (iI k), .int (iI p)] (rdr V s m f g) b (pV b (fun V' => V' = if f = 0 then rdr V s m k p else rdr V s m f g)) := by
  refine zC_of (by decide +kernel) (Nat.le_of_ble_eq_true rfl) rfl ?_
  refine z_aload_n dX7_fail_0 rfl ?_
  refine y_getI (j := 4) fX7_25 dX7_fail_1 rfl (by first | assumption | rfl) ?_
  rw [rdr_4]
  refine y_if_ne dX7_fail_4 (by omega) (fun c_4 => ?_) (fun c_4 => ?_)
  · exact z_vret dX7_fail_17 rfl (Nat.le_refl 0) (Nat.le_refl 0) ⟨_, rfl, rfl, by first | (rw [if_pos (by omega), ← rdr_u5, ← rdr_u4]) | rw [if_neg (by omega)]⟩
  · refine z_aload_n dX7_fail_7 rfl ?_
    refine z_iload_n dX7_fail_8 rfl ?_
    refine y_putI (j := 4) fX7_25 dX7_fail_9 rfl (by first | assumption | rfl) ?_
    refine z_aload_n dX7_fail_12 rfl ?_
    refine z_iload_n dX7_fail_13 rfl ?_
    refine y_putI (j := 5) fX7_28 dX7_fail_14 rfl (by first | assumption | rfl) ?_
    exact z_vret dX7_fail_17 rfl (Nat.le_refl 0) (Nat.le_refl 0) ⟨_, rfl, rfl, by first | (rw [if_pos (by omega), ← rdr_u5, ← rdr_u4]) | rw [if_neg (by omega)]⟩
theorem ct_X7_isFigure {x : Int} (hx : rg x) : yC 0 mX7_isFigure [.int (iI x)] V b (pR b V (fun q => (q = 1 ∧ 48 ≤ x ∧ x ≤ 57) ∨ (q = 0 ∧ ¬ (48 ≤ x ∧ x ≤ 57)))) := by
  refine zC_of (by decide +kernel) (Nat.le_of_ble_eq_true rfl) rfl ?_
  refine z_iload_n dX7_isFigure_0 rfl ?_
  refine y_bipush dX7_isFigure_1 (by decide +kernel) ?_
  refine y_icmp_lt dX7_isFigure_3 (by omega) (by omega) (fun c_3 => ?_) (fun c_3 => ?_)
  · refine y_iconst dX7_isFigure_16 ?_
    exact y_zret dX7_isFigure_17 rfl (by omega) (Nat.le_refl 0) (Nat.le_refl 0) ⟨_, rfl, rfl, by omega⟩
  · refine z_iload_n dX7_isFigure_6 rfl ?_
    refine y_bipush dX7_isFigure_7 (by decide +kernel) ?_
    refine y_icmp_gt dX7_isFigure_9 (by omega) (by omega) (fun c_9 => ?_) (fun c_9 => ?_)
    · refine y_iconst dX7_isFigure_16 ?_
      exact y_zret dX7_isFigure_17 rfl (by omega) (Nat.le_refl 0) (Nat.le_refl 0) ⟨_, rfl, rfl, by omega⟩
    · refine y_iconst dX7_isFigure_12 ?_
      refine z_goto dX7_isFigure_13 ?_
      exact y_zret dX7_isFigure_17 rfl (by omega) (Nat.le_refl 0) (Nat.le_refl 0) ⟨_, rfl, rfl, by omega⟩
theorem ct_X7_isWord {x : Int} (hx : rg x) : yC 0 mX7_isWord [.int (iI x)] V b (pR b V (fun q => (q = 1 ∧ (x = 121 ∨ x = 119 ∨ x = 120 ∨ x = 116)) ∨ (q = 0 ∧ ¬ (x = 121 ∨ x = 119 ∨ x = 120 ∨ x = 116)))) := by
  refine zC_of (by decide +kernel) (Nat.le_of_ble_eq_true rfl) rfl ?_
  refine z_iload_n dX7_isWord_0 rfl ?_
  refine y_bipush dX7_isWord_1 (by decide +kernel) ?_
  refine y_icmp_eq dX7_isWord_3 (by omega) (by omega) (fun c_3 => ?_) (fun c_3 => ?_)
  · refine y_iconst dX7_isWord_24 ?_
    refine z_goto dX7_isWord_25 ?_
    exact y_zret dX7_isWord_29 rfl (by omega) (Nat.le_refl 0) (Nat.le_refl 0) ⟨_, rfl, rfl, by omega⟩
  · refine z_iload_n dX7_isWord_6 rfl ?_
    refine y_bipush dX7_isWord_7 (by decide +kernel) ?_
    refine y_icmp_eq dX7_isWord_9 (by omega) (by omega) (fun c_9 => ?_) (fun c_9 => ?_)
    · refine y_iconst dX7_isWord_24 ?_
      refine z_goto dX7_isWord_25 ?_
      exact y_zret dX7_isWord_29 rfl (by omega) (Nat.le_refl 0) (Nat.le_refl 0) ⟨_, rfl, rfl, by omega⟩
    · refine z_iload_n dX7_isWord_12 rfl ?_
      refine y_bipush dX7_isWord_13 (by decide +kernel) ?_
      refine y_icmp_eq dX7_isWord_15 (by omega) (by omega) (fun c_15 => ?_) (fun c_15 => ?_)
      · refine y_iconst dX7_isWord_24 ?_
        refine z_goto dX7_isWord_25 ?_
        exact y_zret dX7_isWord_29 rfl (by omega) (Nat.le_refl 0) (Nat.le_refl 0) ⟨_, rfl, rfl, by omega⟩
      · refine z_iload_n dX7_isWord_18 rfl ?_
        refine y_bipush dX7_isWord_19 (by decide +kernel) ?_
        refine y_icmp_ne dX7_isWord_21 (by omega) (by omega) (fun c_21 => ?_) (fun c_21 => ?_)
        · refine y_iconst dX7_isWord_28 ?_
          exact y_zret dX7_isWord_29 rfl (by omega) (Nat.le_refl 0) (Nat.le_refl 0) ⟨_, rfl, rfl, by omega⟩
        · refine y_iconst dX7_isWord_24 ?_
          refine z_goto dX7_isWord_25 ?_
          exact y_zret dX7_isWord_29 rfl (by omega) (Nat.le_refl 0) (Nat.le_refl 0) ⟨_, rfl, rfl, by omega⟩
theorem ct_X7_skipBlanks (hT : tX V) (hs : 0 ≤ s ∧ s ≤ V 1 1) : yC 1 mX7_skipBlanks [.ref 1] (rdr V s m f g) b (pV b (fun V' => V' = rdr V (sk (V 2) (V 1 1) s) m f g)) := by
  obtain ⟨h1, h2⟩ := id hT
  have loop : ∀ (k : Nat) (p : Int), 0 ≤ p → p + k = V 1 1 → sk (V 2) (V 1 1) p = sk (V 2) (V 1 1) s → yE 1 (pV b (fun V' => V' = rdr V (sk (V 2) (V 1 1) s) m f g)) mX7_skipBlanks 0 [some (.ref 1)] [] (rdr V p m f g) b := by
    intro k
    induction k with
    | zero =>
      intro p p0 hp he
      refine z_aload_n dX7_skipBlanks_0 rfl ?_
      refine y_getI (j := 2) fX7_19 dX7_skipBlanks_1 rfl (by first | assumption | rfl) ?_
      rw [rdr_2]
      refine z_aload_n dX7_skipBlanks_4 rfl ?_
      refine y_getI (j := 1) fX7_15 dX7_skipBlanks_5 rfl (by first | assumption | rfl) ?_
      rw [rdr_l]
      refine y_icmp_ge dX7_skipBlanks_8 (by omega) (by omega) (fun c_8 => ?_) (fun c_8 => ?_)
      · exact z_vret dX7_skipBlanks_33 rfl (Nat.le_refl 0) (Nat.le_refl 0) ⟨_, rfl, rfl, by rw [← he, sk_no (by omega)]⟩
      · omega
    | succ k ih =>
      intro p p0 hp he
      have hlr := ltT_rg (n := V 1 1) (p := p) h2
      have hlt : ltT (V 2) (V 1 1) p = V 2 p := if_pos (by omega)
      refine z_aload_n dX7_skipBlanks_0 rfl ?_
      refine y_getI (j := 2) fX7_19 dX7_skipBlanks_1 rfl (by first | assumption | rfl) ?_
      rw [rdr_2]
      refine z_aload_n dX7_skipBlanks_4 rfl ?_
      refine y_getI (j := 1) fX7_15 dX7_skipBlanks_5 rfl (by first | assumption | rfl) ?_
      rw [rdr_l]
      refine y_icmp_ge dX7_skipBlanks_8 (by omega) (by omega) (fun c_8 => ?_) (fun c_8 => ?_)
      · omega
      · refine z_aload_n dX7_skipBlanks_11 rfl ?_
        refine y_callVr (ct_X7_letter hT (by omega)) kX7_47 dX7_skipBlanks_12 rfl rfl (by first | assumption | rfl) rfl (by decide) rfl (Nat.le_of_ble_eq_true rfl) (fun r_12 h_12 => ?_)
        refine y_bipush dX7_skipBlanks_15 (by decide +kernel) ?_
        refine y_icmp_ne dX7_skipBlanks_17 (by omega) (by omega) (fun c_17 => ?_) (fun c_17 => ?_)
        · exact z_vret dX7_skipBlanks_33 rfl (Nat.le_refl 0) (Nat.le_refl 0) ⟨_, rfl, rfl, by rw [← he, sk_no (by omega)]⟩
        · refine z_aload_n dX7_skipBlanks_20 rfl ?_
          refine z_dup dX7_skipBlanks_21 rfl ?_
          refine y_getI (j := 2) fX7_19 dX7_skipBlanks_22 rfl (by first | assumption | rfl) ?_
          rw [rdr_2]
          refine y_iconst dX7_skipBlanks_25 ?_
          refine y_iadd dX7_skipBlanks_26 ?_
          refine y_putI (j := 2) fX7_19 dX7_skipBlanks_27 rfl (by first | assumption | rfl) ?_
          rw [rdr_u2]
          refine z_goto dX7_skipBlanks_30 ?_
          exact ih (p + 1) (by omega) (by omega) (by rw [← he]; exact (sk_go (by omega) (by omega)).symm)
  refine zC_of (by decide +kernel) (Nat.le_of_ble_eq_true rfl) rfl ?_
  exact loop (V 1 1 - s).toNat s (by omega) (by omega) rfl
theorem ct_X7_takes {x : Int} (hx : rg x) (hT : tX V) (hs : 0 ≤ s ∧ s ≤ V 1 1) : yC 2 mX7_takes [.ref 1, .int (iI x)] (rdr V s m f g) b (pI b (fun q V' => (q = 1 ∧ ltT (V 2) (V 1 1) (sk (V 2) (V 1 1) s) = x ∧ V' = rdr V (sk (V 2) (V 1 1) s + 1) m f g) ∨ (q = 0 ∧ ltT (V 2) (V 1 1) (sk (V 2) (V 1 1) s) ≠ x ∧ V' = rdr V (sk (V 2) (V 1 1) s) m f g))) := by
  have hk := sk_rg (t := V 2) hs.2
  have hlr := ltT_rg (n := V 1 1) (p := sk (V 2) (V 1 1) s) hT.2
  refine zC_of (by decide +kernel) (Nat.le_of_ble_eq_true rfl) rfl ?_
  refine z_aload_n dX7_takes_0 rfl ?_
  refine y_callVv (ct_X7_skipBlanks hT hs) kX7_105 dX7_takes_1 rfl rfl (by first | assumption | rfl) rfl (by decide) rfl (Nat.le_of_ble_eq_true rfl) (fun V1 h_1 => ?_)
  subst h_1
  refine z_aload_n dX7_takes_4 rfl ?_
  refine y_callVr (ct_X7_letter hT (by omega)) kX7_47 dX7_takes_5 rfl rfl (by first | assumption | rfl) rfl (by decide) rfl (Nat.le_of_ble_eq_true rfl) (fun r_5 h_5 => ?_)
  refine z_iload_n dX7_takes_8 rfl ?_
  refine y_icmp_eq dX7_takes_9 (by omega) (by omega) (fun c_9 => ?_) (fun c_9 => ?_)
  · refine z_aload_n dX7_takes_14 rfl ?_
    refine z_dup dX7_takes_15 rfl ?_
    refine y_getI (j := 2) fX7_19 dX7_takes_16 rfl (by first | assumption | rfl) ?_
    rw [rdr_2]
    refine y_iconst dX7_takes_19 ?_
    refine y_iadd dX7_takes_20 ?_
    refine y_putI (j := 2) fX7_19 dX7_takes_21 rfl (by first | assumption | rfl) ?_
    rw [rdr_u2]
    refine y_iconst dX7_takes_24 ?_
    exact y_zret dX7_takes_25 rfl (by omega) (Nat.le_refl 0) (Nat.le_refl 0) ⟨_, _, rfl, rfl, Or.inl ⟨rfl, by omega, rfl⟩⟩
  · refine y_iconst dX7_takes_12 ?_
    exact y_zret dX7_takes_13 rfl (by omega) (Nat.le_refl 0) (Nat.le_refl 0) ⟨_, _, rfl, rfl, Or.inr ⟨rfl, by omega, rfl⟩⟩
theorem ct_X7_atEnd (hT : tX V) (hs : 0 ≤ s ∧ s ≤ V 1 1) : yC 2 mX7_atEnd [.ref 1] (rdr V s m f g) b (pI b (fun q V' => V' = rdr V (sk (V 2) (V 1 1) s) m f g ∧ ((q = 1 ∧ sk (V 2) (V 1 1) s = V 1 1) ∨ (q = 0 ∧ sk (V 2) (V 1 1) s < V 1 1)))) := by
  have hk := sk_rg (t := V 2) hs.2
  have h1 := hT.1
  refine zC_of (by decide +kernel) (Nat.le_of_ble_eq_true rfl) rfl ?_
  refine z_aload_n dX7_atEnd_0 rfl ?_
  refine y_callVv (ct_X7_skipBlanks hT hs) kX7_105 dX7_atEnd_1 rfl rfl (by first | assumption | rfl) rfl (by decide) rfl (Nat.le_of_ble_eq_true rfl) (fun V1 h_1 => ?_)
  subst h_1
  refine z_aload_n dX7_atEnd_4 rfl ?_
  refine y_getI (j := 2) fX7_19 dX7_atEnd_5 rfl (by first | assumption | rfl) ?_
  rw [rdr_2]
  refine z_aload_n dX7_atEnd_8 rfl ?_
  refine y_getI (j := 1) fX7_15 dX7_atEnd_9 rfl (by first | assumption | rfl) ?_
  rw [rdr_l]
  refine y_icmp_lt dX7_atEnd_12 (by omega) (by omega) (fun c_12 => ?_) (fun c_12 => ?_)
  · refine y_iconst dX7_atEnd_19 ?_
    exact y_zret dX7_atEnd_20 rfl (by omega) (Nat.le_refl 0) (Nat.le_refl 0) ⟨_, _, rfl, rfl, rfl, by omega⟩
  · refine y_iconst dX7_atEnd_15 ?_
    refine z_goto dX7_atEnd_16 ?_
    exact y_zret dX7_atEnd_20 rfl (by omega) (Nat.le_refl 0) (Nat.le_refl 0) ⟨_, _, rfl, rfl, rfl, by omega⟩
theorem ct_X7_goesOn {i : Int} (hi : rg i) (hT : tX V) (hs : 0 ≤ s ∧ s ≤ V 1 1) (hf : 0 ≤ f ∧ f ≤ 4) : yC 3 mX7_goesOn [.ref 1, .int (iI i)] (rdr V s m f g) b (pI b (fun q V' => (f ≠ 0 ∧ q = 0 ∧ V' = rdr V s m f g) ∨ (f = 0 ∧ i = 0 ∧ q = 1 ∧ V' = rdr V s m f g) ∨ (f = 0 ∧ i ≠ 0 ∧ q = 1 ∧ ltT (V 2) (V 1 1) (sk (V 2) (V 1 1) s) = 44 ∧ V' = rdr V (sk (V 2) (V 1 1) s + 1) m f g) ∨ (f = 0 ∧ i ≠ 0 ∧ q = 0 ∧ ltT (V 2) (V 1 1) (sk (V 2) (V 1 1) s) ≠ 44 ∧ V' = rdr V (sk (V 2) (V 1 1) s) m f g))) := by
  refine zC_of (by decide +kernel) (Nat.le_of_ble_eq_true rfl) rfl ?_
  refine z_aload_n dX7_goesOn_0 rfl ?_
  refine y_callVr (ct_X7_failed hf) kX7_36 dX7_goesOn_1 rfl rfl (by first | assumption | rfl) rfl (by decide) rfl (Nat.le_of_ble_eq_true rfl) (fun r_1 h_1 => ?_)
  refine y_if_eq dX7_goesOn_4 (by omega) (fun c_4 => ?_) (fun c_4 => ?_)
  · refine z_iload_n dX7_goesOn_9 rfl ?_
    refine y_if_eq dX7_goesOn_10 (by omega) (fun c_10 => ?_) (fun c_10 => ?_)
    · refine y_iconst dX7_goesOn_22 ?_
      refine z_goto dX7_goesOn_23 ?_
      exact y_zret dX7_goesOn_27 rfl (by omega) (Nat.le_refl 0) (Nat.le_refl 0) ⟨_, _, rfl, rfl, by first | exact Or.inr (Or.inl ⟨by omega, by omega, rfl, rfl⟩) | (rcases h_16 with ⟨g1, g2, g3⟩ | ⟨g1, g2, g3⟩; exact Or.inr (Or.inr (Or.inl ⟨by omega, by omega, by omega, g2, g3⟩)); exact Or.inr (Or.inr (Or.inr ⟨by omega, by omega, by omega, g2, g3⟩)))⟩
    · refine z_aload_n dX7_goesOn_13 rfl ?_
      refine y_bipush dX7_goesOn_14 (by decide +kernel) ?_
      refine y_callVi (ct_X7_takes (by omega) hT hs) kX7_77 dX7_goesOn_16 rfl rfl (by first | assumption | rfl) rfl (by decide) rfl (Nat.le_of_ble_eq_true rfl) (fun q_16 V1 h_16 => ?_)
      refine y_if_eq dX7_goesOn_19 (by omega) (fun c_19 => ?_) (fun c_19 => ?_)
      · refine y_iconst dX7_goesOn_26 ?_
        exact y_zret dX7_goesOn_27 rfl (by omega) (Nat.le_refl 0) (Nat.le_refl 0) ⟨_, _, rfl, rfl, by first | exact Or.inr (Or.inl ⟨by omega, by omega, rfl, rfl⟩) | (rcases h_16 with ⟨g1, g2, g3⟩ | ⟨g1, g2, g3⟩; exact Or.inr (Or.inr (Or.inl ⟨by omega, by omega, by omega, g2, g3⟩)); exact Or.inr (Or.inr (Or.inr ⟨by omega, by omega, by omega, g2, g3⟩)))⟩
      · refine y_iconst dX7_goesOn_22 ?_
        refine z_goto dX7_goesOn_23 ?_
        exact y_zret dX7_goesOn_27 rfl (by omega) (Nat.le_refl 0) (Nat.le_refl 0) ⟨_, _, rfl, rfl, by first | exact Or.inr (Or.inl ⟨by omega, by omega, rfl, rfl⟩) | (rcases h_16 with ⟨g1, g2, g3⟩ | ⟨g1, g2, g3⟩; exact Or.inr (Or.inr (Or.inl ⟨by omega, by omega, by omega, g2, g3⟩)); exact Or.inr (Or.inr (Or.inr ⟨by omega, by omega, by omega, g2, g3⟩)))⟩
  · refine y_iconst dX7_goesOn_7 ?_
    exact y_zret dX7_goesOn_8 rfl (by omega) (Nat.le_refl 0) (Nat.le_refl 0) ⟨_, _, rfl, rfl, Or.inl ⟨by omega, rfl, rfl⟩⟩
end

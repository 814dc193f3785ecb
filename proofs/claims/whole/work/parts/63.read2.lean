/-! ===== the text's grammar ===== -/
/-- a fault's number (0: none), its spot; where reading goes on; what is told -/
abbrev pRs : Type := Int × Int × Int × (Int → Int)
/-- the fault of a number from p to e -/
def nF (e p v lo hi : Int) : Int := if e = p then 1 else if 3 < e - p ∨ v < lo ∨ hi < v then 2 else 0
theorem nF_rg (e p v lo hi : Int) : nF e p v lo hi = 0 ∨ nF e p v lo hi = 1 ∨ nF e p v lo hi = 2 := by unfold nF; repeat' split; all_goals omega
theorem nF_0 {e p v lo hi : Int} (h : nF e p v lo hi = 0) : lo ≤ v ∧ v ≤ hi ∧ e ≠ p := by
  unfold nF at h
  split at h
  · omega
  · split at h <;> omega
def pEnd (t : Int → Int) (n : Int) (e : Int) (rd : Int → Int) : pRs := if ltT t n (sk t n e) = 59 then (0, -1, sk t n e + 1, rd) else (1, sk t n e, sk t n e, rd)
def pRo (t : Int → Int) (n : Int) : Nat → Int → (Int → Int) → pRs
  | 0, a, rd => (1, a, a, rd)
  | k + 1, a, rd =>
    if nF (de t n (sk t n a)) (sk t n a) (va t n (sk t n a)) 1 7 ≠ 0 then (nF (de t n (sk t n a)) (sk t n a) (va t n (sk t n a)) 1 7, sk t n a, a, rd)
    else if ltT t n (sk t n (de t n (sk t n a))) = 44 ∧ k ≠ 0 then pRo t n k (sk t n (de t n (sk t n a)) + 1) (iup (iup rd (1 + rd 0) (va t n (sk t n a))) 0 (rd 0 + 1))
    else pEnd t n (de t n (sk t n a)) (iup (iup rd (1 + rd 0) (va t n (sk t n a))) 0 (rd 0 + 1))
/-- a number, then k -/
def pNu (t : Int → Int) (n a lo hi : Int) (rd : Int → Int) (k : Int → Int → pRs) : pRs :=
  if nF (de t n (sk t n a)) (sk t n a) (va t n (sk t n a)) lo hi ≠ 0 then (nF (de t n (sk t n a)) (sk t n a) (va t n (sk t n a)) lo hi, sk t n a, a, rd) else k (va t n (sk t n a)) (de t n (sk t n a))
def pWa (t : Int → Int) (n a : Int) (rd : Int → Int) : pRs :=
  pNu t n a 0 4 rd (fun v1 e1 => pNu t n e1 1 30 rd (fun v2 e2 => pNu t n e2 0 20 rd (fun v3 e3 =>
    pEnd t n e3 (iup (iup (iup (iup rd (6 + rd 5) v1) (13 + rd 5) v2) (20 + rd 5) v3) 5 (rd 5 + 1)))))
def pGr (t : Int → Int) (n a : Int) (rd : Int → Int) : pRs :=
  pNu t n a 0 4 rd (fun v1 e1 => pNu t n e1 0 4 rd (fun v2 e2 =>
    if tb (rd (27 + v1)) v2 = true then (4, sk t n e1, a, rd) else pEnd t n e2 (iup (iup rd (27 + v1) (bOr (rd (27 + v1)) (s1 v2))) 32 (rd 32 + 1))))
/-- whether v is among the first i of the train -/
def mtB (rd : Int → Int) (v : Int) : Nat → Bool
  | 0 => false
  | i + 1 => mtB rd v i || decide (rd (34 + i) = v)
def pTr (t : Int → Int) (n : Int) : Nat → Int → (Int → Int) → pRs
  | 0, a, rd => pNu t n a 0 (rd 5 - 1) rd (fun _ _ => (4, sk t n a, a, rd))
  | k + 1, a, rd => pNu t n a 0 (rd 5 - 1) rd (fun v e =>
    if mtB rd v (rd 33).toNat = true then (4, sk t n a, a, rd)
    else if ltT t n (sk t n e) = 44 then pTr t n k (sk t n e + 1) (iup (iup rd (34 + rd 33) v) 33 (rd 33 + 1))
    else pEnd t n e (iup (iup rd (34 + rd 33) v) 33 (rd 33 + 1)))
def pCl (t : Int → Int) (n p : Int) (rd : Int → Int) : pRs :=
  if ltT t n p = 121 then (if 0 < rd 0 then (3, p, p, rd) else pRo t n 4 (p + 1) rd)
  else if ltT t n p = 119 then (if rd 0 = 0 then (1, p, p, rd) else if rd 5 = 7 then (3, p, p, rd) else pWa t n (p + 1) rd)
  else if ltT t n p = 120 then (if rd 0 = 0 then (1, p, p, rd) else if rd 32 = 10 then (3, p, p, rd) else pGr t n (p + 1) rd)
  else if ltT t n p = 116 then (if rd 0 = 0 then (1, p, p, rd) else if 0 < rd 33 then (3, p, p, rd) else pTr t n 7 (p + 1) rd)
  else (1, p, p, rd)
def pYd (t : Int → Int) (n : Int) : Nat → Int → (Int → Int) → pRs
  | 0, a, rd => (0, -1, a, rd)
  | k + 1, a, rd => if sk t n a = n then (0, -1, n, rd) else if (pCl t n (sk t n a) rd).1 ≠ 0 then pCl t n (sk t n a) rd else pYd t n k (pCl t n (sk t n a) rd).2.2.1 (pCl t n (sk t n a) rd).2.2.2
theorem vaT_go {t : Int → Int} {n p f v : Int} (h : p < n) (h2 : 48 ≤ t p ∧ t p ≤ 57) : vaT t n (n - p).toNat p f v = vaT t n (n - (p + 1)).toNat (p + 1) (f + 1) (if f < 3 then v * 10 + t p - 48 else v) := by
  rw [show (n - p).toNat = (n - (p + 1)).toNat + 1 by omega]
  exact if_pos ⟨h, h2⟩
theorem vaT_no {t : Int → Int} {n p f v : Int} (h : ¬ (p < n ∧ 48 ≤ t p ∧ t p ≤ 57)) : vaT t n (n - p).toNat p f v = v := by
  cases e : (n - p).toNat with
  | zero => rfl
  | succ k => exact if_neg h
section
variable {V : Nat → Int → Int} {b : Bool} {s m f g : Int}
theorem ct_X7_readNumber {lo hi : Int} (hl : rg lo) (hh : rg hi) (hT : tX V) (hs : 0 ≤ s ∧ s ≤ V 1 1) (hf : 0 ≤ f ∧ f ≤ 4) : yC 2 mX7_readNumber [.ref 1, .int (iI lo), .int (iI hi)] (rdr V s m f g) b (pI b (fun q V' => q = va (V 2) (V 1 1) (sk (V 2) (V 1 1) s) ∧ V' = rdr V (de (V 2) (V 1 1) (sk (V 2) (V 1 1) s)) (sk (V 2) (V 1 1) s) (if f = 0 then nF (de (V 2) (V 1 1) (sk (V 2) (V 1 1) s)) (sk (V 2) (V 1 1) s) (va (V 2) (V 1 1) (sk (V 2) (V 1 1) s)) lo hi else f) (if f = 0 ∧ nF (de (V 2) (V 1 1) (sk (V 2) (V 1 1) s)) (sk (V 2) (V 1 1) s) (va (V 2) (V 1 1) (sk (V 2) (V 1 1) s)) lo hi ≠ 0 then sk (V 2) (V 1 1) s else g))) := by
  obtain ⟨h1, h2⟩ := id hT
  have hk := sk_rg (t := V 2) hs.2
  obtain ⟨p, hp⟩ : ∃ p, p = sk (V 2) (V 1 1) s := ⟨_, rfl⟩
  rw [← hp] at hk ⊢
  have hde := de_rg (t := V 2) hk.2
  have hva := va_rg (t := V 2) (n := V 1 1) (p := p)
  obtain ⟨e, he⟩ : ∃ e, e = de (V 2) (V 1 1) p := ⟨_, rfl⟩
  obtain ⟨v, hv⟩ : ∃ v, v = va (V 2) (V 1 1) p := ⟨_, rfl⟩
  rw [← he] at hde ⊢
  rw [← hv] at hva ⊢
  have hnr := nF_rg e p v lo hi
  -- behind the figures
  have fin : ∀ a4, yE 2 (pI b (fun q V' => q = v ∧ V' = rdr V e p (if f = 0 then nF e p v lo hi else f) (if f = 0 ∧ nF e p v lo hi ≠ 0 then p else g))) mX7_readNumber 74 [some (.ref 1), some (.int (iI lo)), some (.int (iI hi)), some (.int (iI v)), a4] [] (rdr V e p f g) b := by
    intro a4
    have fa : ∀ k : Int, nF e p v lo hi = k → k ≠ 0 → (if f = 0 then rdr V e p k p else rdr V e p f g) = rdr V e p (if f = 0 then nF e p v lo hi else f) (if f = 0 ∧ nF e p v lo hi ≠ 0 then p else g) := by
      intro k hk h0
      by_cases hf0 : f = 0
      · rw [if_pos hf0, if_pos hf0, if_pos ⟨hf0, by omega⟩, hk]
      · rw [if_neg hf0, if_neg hf0, if_neg (fun h => hf0 h.1)]
    have f0 : nF e p v lo hi = 0 → rdr V e p f g = rdr V e p (if f = 0 then nF e p v lo hi else f) (if f = 0 ∧ nF e p v lo hi ≠ 0 then p else g) := by
      intro h0
      rw [if_neg (show ¬ (f = 0 ∧ nF e p v lo hi ≠ 0) from fun h => h.2 h0), h0]
      by_cases hf0 : f = 0
      · rw [if_pos hf0, hf0]
      · rw [if_neg hf0]
    refine z_aload_n dX7_readNumber_74 rfl ?_
    refine y_getI (j := 2) fX7_19 dX7_readNumber_75 rfl (by first | assumption | rfl) ?_
    rw [rdr_2]
    refine z_aload_n dX7_readNumber_78 rfl ?_
    refine y_getI (j := 3) fX7_22 dX7_readNumber_79 rfl (by first | assumption | rfl) ?_
    rw [rdr_3]
    refine y_isub dX7_readNumber_82 ?_
    refine z_istore dX7_readNumber_83 (by decide) rfl rfl ?_
    refine z_iload dX7_readNumber_85 rfl ?_
    refine y_if_ne dX7_readNumber_87 (by omega) (fun c_87 => ?_) (fun c_87 => ?_)
    · refine z_iload dX7_readNumber_102 rfl ?_
      refine y_iconst dX7_readNumber_104 ?_
      refine y_icmp_gt dX7_readNumber_105 (by omega) (by omega) (fun c_105 => ?_) (fun c_105 => ?_)
      · refine z_aload_n dX7_readNumber_118 rfl ?_
        refine y_iconst dX7_readNumber_119 ?_
        refine z_aload_n dX7_readNumber_120 rfl ?_
        refine y_getI (j := 3) fX7_22 dX7_readNumber_121 rfl (by first | assumption | rfl) ?_
        rw [rdr_3]
        have hn : nF e p v lo hi = 2 := by unfold nF; rw [if_neg (by omega), if_pos (by omega)]
        have hfa := fa 2 hn (by omega)
        refine y_callVv (ct_X7_fail hf) kX7_58 dX7_readNumber_124 rfl rfl (by first | assumption | rfl) rfl (by decide) rfl (Nat.le_of_ble_eq_true rfl) (fun V1 h_124 => ?_)
        rw [hfa] at h_124
        subst h_124
        refine z_iload_n dX7_readNumber_127 rfl ?_
        exact z_iret dX7_readNumber_128 rfl (Nat.le_refl 0) (Nat.le_refl 0) ⟨_, _, rfl, rfl, rfl, rfl⟩
      · refine z_iload_n dX7_readNumber_108 rfl ?_
        refine z_iload_n dX7_readNumber_109 rfl ?_
        refine y_icmp_lt dX7_readNumber_110 (by omega) (by omega) (fun c_110 => ?_) (fun c_110 => ?_)
        · refine z_aload_n dX7_readNumber_118 rfl ?_
          refine y_iconst dX7_readNumber_119 ?_
          refine z_aload_n dX7_readNumber_120 rfl ?_
          refine y_getI (j := 3) fX7_22 dX7_readNumber_121 rfl (by first | assumption | rfl) ?_
          rw [rdr_3]
          have hn : nF e p v lo hi = 2 := by unfold nF; rw [if_neg (by omega), if_pos (by omega)]
          have hfa := fa 2 hn (by omega)
          refine y_callVv (ct_X7_fail hf) kX7_58 dX7_readNumber_124 rfl rfl (by first | assumption | rfl) rfl (by decide) rfl (Nat.le_of_ble_eq_true rfl) (fun V1 h_124 => ?_)
          rw [hfa] at h_124
          subst h_124
          refine z_iload_n dX7_readNumber_127 rfl ?_
          exact z_iret dX7_readNumber_128 rfl (Nat.le_refl 0) (Nat.le_refl 0) ⟨_, _, rfl, rfl, rfl, rfl⟩
        · refine z_iload_n dX7_readNumber_113 rfl ?_
          refine z_iload_n dX7_readNumber_114 rfl ?_
          refine y_icmp_le dX7_readNumber_115 (by omega) (by omega) (fun c_115 => ?_) (fun c_115 => ?_)
          · have hn : nF e p v lo hi = 0 := by unfold nF; rw [if_neg (by omega), if_neg (by omega)]
            rw [f0 hn]
            refine z_iload_n dX7_readNumber_127 rfl ?_
            exact z_iret dX7_readNumber_128 rfl (Nat.le_refl 0) (Nat.le_refl 0) ⟨_, _, rfl, rfl, rfl, rfl⟩
          · refine z_aload_n dX7_readNumber_118 rfl ?_
            refine y_iconst dX7_readNumber_119 ?_
            refine z_aload_n dX7_readNumber_120 rfl ?_
            refine y_getI (j := 3) fX7_22 dX7_readNumber_121 rfl (by first | assumption | rfl) ?_
            rw [rdr_3]
            have hn : nF e p v lo hi = 2 := by unfold nF; rw [if_neg (by omega), if_pos (by omega)]
            have hfa := fa 2 hn (by omega)
            refine y_callVv (ct_X7_fail hf) kX7_58 dX7_readNumber_124 rfl rfl (by first | assumption | rfl) rfl (by decide) rfl (Nat.le_of_ble_eq_true rfl) (fun V1 h_124 => ?_)
            rw [hfa] at h_124
            subst h_124
            refine z_iload_n dX7_readNumber_127 rfl ?_
            exact z_iret dX7_readNumber_128 rfl (Nat.le_refl 0) (Nat.le_refl 0) ⟨_, _, rfl, rfl, rfl, rfl⟩
    · have hn : nF e p v lo hi = 1 := by unfold nF; rw [if_pos (by omega)]
      have hfa := fa 1 hn (by omega)
      refine z_aload_n dX7_readNumber_90 rfl ?_
      refine y_iconst dX7_readNumber_91 ?_
      refine z_aload_n dX7_readNumber_92 rfl ?_
      refine y_getI (j := 3) fX7_22 dX7_readNumber_93 rfl (by first | assumption | rfl) ?_
      rw [rdr_3]
      refine y_callVv (ct_X7_fail hf) kX7_58 dX7_readNumber_96 rfl rfl (by first | assumption | rfl) rfl (by decide) rfl (Nat.le_of_ble_eq_true rfl) (fun V1 h_96 => ?_)
      rw [hfa] at h_96
      subst h_96
      refine z_goto dX7_readNumber_99 ?_
      refine z_iload_n dX7_readNumber_127 rfl ?_
      exact z_iret dX7_readNumber_128 rfl (Nat.le_refl 0) (Nat.le_refl 0) ⟨_, _, rfl, rfl, rfl, rfl⟩
  have loop : ∀ (k : Nat) (c w : Int) (a4 : Option Value), p ≤ c → c + k = V 1 1 → vaQ (c - p) w → de (V 2) (V 1 1) c = e → vaT (V 2) (V 1 1) (V 1 1 - c).toNat c (c - p) w = v → yE 2 (pI b (fun q V' => q = v ∧ V' = rdr V e p (if f = 0 then nF e p v lo hi else f) (if f = 0 ∧ nF e p v lo hi ≠ 0 then p else g))) mX7_readNumber 14 [some (.ref 1), some (.int (iI lo)), some (.int (iI hi)), some (.int (iI w)), a4] [] (rdr V c p f g) b := by
    intro k
    induction k with
    | zero =>
      intro c w a4 hc hck hq hd hw
      rw [de_no (by omega)] at hd
      rw [vaT_no (by omega)] at hw
      subst hd hw
      refine z_aload_n dX7_readNumber_14 rfl ?_
      refine y_getI (j := 2) fX7_19 dX7_readNumber_15 rfl (by first | assumption | rfl) ?_
      rw [rdr_2]
      refine z_aload_n dX7_readNumber_18 rfl ?_
      refine y_getI (j := 1) fX7_15 dX7_readNumber_19 rfl (by first | assumption | rfl) ?_
      rw [rdr_l]
      refine y_icmp_ge dX7_readNumber_22 (by omega) (by omega) (fun c_22 => ?_) (fun c_22 => ?_)
      · exact fin _
      · omega
    | succ k ih =>
      intro c w a4 hc hck hq hd hw
      obtain ⟨q0, q1, q2, q3, q4, q5⟩ := id hq
      have hlr := ltT_rg (n := V 1 1) (p := c) h2
      have hlt : ltT (V 2) (V 1 1) c = V 2 c := if_pos (by omega)
      have go : (48 ≤ V 2 c ∧ V 2 c ≤ 57) → yE 2 (pI b (fun q V' => q = v ∧ V' = rdr V e p (if f = 0 then nF e p v lo hi else f) (if f = 0 ∧ nF e p v lo hi ≠ 0 then p else g))) mX7_readNumber 14 [some (.ref 1), some (.int (iI lo)), some (.int (iI hi)), some (.int (iI (if c - p < 3 then w * 10 + V 2 c - 48 else w))), a4] [] (rdr V (c + 1) p f g) b := by
        intro hd2
        refine ih (c + 1) _ a4 (by omega) (by omega) ?_ ?_ ?_
        · have := vaQ_s hq hd2
          rw [show c + 1 - p = c - p + 1 by omega]; exact this
        · rw [← hd, de_go (by omega) hd2]
        · rw [← hw, vaT_go (by omega) hd2, show c + 1 - p = c - p + 1 by omega]
      refine z_aload_n dX7_readNumber_14 rfl ?_
      refine y_getI (j := 2) fX7_19 dX7_readNumber_15 rfl (by first | assumption | rfl) ?_
      rw [rdr_2]
      refine z_aload_n dX7_readNumber_18 rfl ?_
      refine y_getI (j := 1) fX7_15 dX7_readNumber_19 rfl (by first | assumption | rfl) ?_
      rw [rdr_l]
      refine y_icmp_ge dX7_readNumber_22 (by omega) (by omega) (fun c_22 => ?_) (fun c_22 => ?_)
      · omega
      · refine z_aload_n dX7_readNumber_25 rfl ?_
        refine y_callVr (ct_X7_letter hT (by omega)) kX7_47 dX7_readNumber_26 rfl rfl (by first | assumption | rfl) rfl (by decide) rfl (Nat.le_of_ble_eq_true rfl) (fun r_26 h_26 => ?_)
        rw [hlt] at h_26
        subst h_26
        refine y_callSr (ct_X7_isFigure (by omega)) kX7_108 dX7_readNumber_29 rfl rfl (by decide) rfl (Nat.le_of_ble_eq_true rfl) (fun r_29 h_29 => ?_)
        refine y_if_eq dX7_readNumber_32 (by omega) (fun c_32 => ?_) (fun c_32 => ?_)
        · have hd1 := hd
          have hw1 := hw
          rw [de_no (by omega)] at hd1
          rw [vaT_no (by omega)] at hw1
          rw [hd1, hw1]
          exact fin _
        · refine z_aload_n dX7_readNumber_35 rfl ?_
          refine y_getI (j := 2) fX7_19 dX7_readNumber_36 rfl (by first | assumption | rfl) ?_
          rw [rdr_2]
          refine z_aload_n dX7_readNumber_39 rfl ?_
          refine y_getI (j := 3) fX7_22 dX7_readNumber_40 rfl (by first | assumption | rfl) ?_
          rw [rdr_3]
          refine y_isub dX7_readNumber_43 ?_
          refine y_iconst dX7_readNumber_44 ?_
          refine y_icmp_ge dX7_readNumber_45 (by omega) (by omega) (fun c_45 => ?_) (fun c_45 => ?_)
          · have gg := go (by omega)
            rw [if_neg (show ¬ c - p < 3 by omega)] at gg
            refine z_aload_n dX7_readNumber_61 rfl ?_
            refine z_dup dX7_readNumber_62 rfl ?_
            refine y_getI (j := 2) fX7_19 dX7_readNumber_63 rfl (by first | assumption | rfl) ?_
            rw [rdr_2]
            refine y_iconst dX7_readNumber_66 ?_
            refine y_iadd dX7_readNumber_67 ?_
            refine y_putI (j := 2) fX7_19 dX7_readNumber_68 rfl (by first | assumption | rfl) ?_
            rw [rdr_u2]
            refine z_goto dX7_readNumber_71 ?_
            exact gg
          · have gg := go (by omega)
            rw [if_pos (show c - p < 3 by omega)] at gg
            refine z_iload_n dX7_readNumber_48 rfl ?_
            refine y_bipush dX7_readNumber_49 (by decide +kernel) ?_
            refine y_imul dX7_readNumber_51 ?_
            refine z_aload_n dX7_readNumber_52 rfl ?_
            refine y_callVr (ct_X7_letter hT (by omega)) kX7_47 dX7_readNumber_53 rfl rfl (by first | assumption | rfl) rfl (by decide) rfl (Nat.le_of_ble_eq_true rfl) (fun r_53 h_53 => ?_)
            rw [hlt] at h_53
            subst h_53
            refine y_iadd dX7_readNumber_56 ?_
            refine y_bipush dX7_readNumber_57 (by decide +kernel) ?_
            refine y_isub dX7_readNumber_59 ?_
            refine z_istore_n dX7_readNumber_60 (by decide) rfl rfl ?_
            refine z_aload_n dX7_readNumber_61 rfl ?_
            refine z_dup dX7_readNumber_62 rfl ?_
            refine y_getI (j := 2) fX7_19 dX7_readNumber_63 rfl (by first | assumption | rfl) ?_
            rw [rdr_2]
            refine y_iconst dX7_readNumber_66 ?_
            refine y_iadd dX7_readNumber_67 ?_
            refine y_putI (j := 2) fX7_19 dX7_readNumber_68 rfl (by first | assumption | rfl) ?_
            rw [rdr_u2]
            refine z_goto dX7_readNumber_71 ?_
            exact gg
  have h0 := loop (V 1 1 - p).toNat p 0 none (by omega) (by omega) ⟨by omega, by omega, by omega, by omega, by omega, by omega⟩ he.symm (by rw [hv, show p - p = 0 by omega]; rfl)
  refine zC_of (by decide +kernel) (Nat.le_of_ble_eq_true rfl) rfl ?_
  refine z_aload_n dX7_readNumber_0 rfl ?_
  refine y_callVv (ct_X7_skipBlanks hT hs) kX7_105 dX7_readNumber_1 rfl rfl (by first | assumption | rfl) rfl (by decide) rfl (Nat.le_of_ble_eq_true rfl) (fun V1 h_1 => ?_)
  rw [← hp] at h_1
  subst h_1
  refine z_aload_n dX7_readNumber_4 rfl ?_
  refine z_aload_n dX7_readNumber_5 rfl ?_
  refine y_getI (j := 2) fX7_19 dX7_readNumber_6 rfl (by first | assumption | rfl) ?_
  rw [rdr_2]
  refine y_putI (j := 3) fX7_22 dX7_readNumber_9 rfl (by first | assumption | rfl) ?_
  rw [rdr_u3]
  refine y_iconst dX7_readNumber_12 ?_
  refine z_istore_n dX7_readNumber_13 (by decide) rfl rfl ?_
  exact h0
end

/-! ===== readClause, readInto ===== -/
section
variable {t : Int → Int} {n : Int}
theorem sk_le (p : Int) : p ≤ sk t n p := (skT_rg _ p).1
theorem de_le (p : Int) : p ≤ de t n p := (deT_rg _ p).1
theorem pEnd_pr {e : Int} {rd : Int → Int} (h : (pEnd t n e rd).1 = 0) : e < (pEnd t n e rd).2.2.1 := by
  have h1 := sk_le (t := t) (n := n) e
  unfold pEnd at h ⊢
  split
  · show e < sk t n e + 1
    omega
  · rw [if_neg (by assumption)] at h
    exact absurd h (by show ¬ (1 : Int) = 0; omega)
theorem pNu_pr {a lo hi : Int} {rd : Int → Int} {k : Int → Int → pRs} (hk : ∀ v e, (k v e).1 = 0 → e < (k v e).2.2.1) (h : (pNu t n a lo hi rd k).1 = 0) : a < (pNu t n a lo hi rd k).2.2.1 := by
  have h1 := sk_le (t := t) (n := n) a
  have h2 := de_le (t := t) (n := n) (sk t n a)
  unfold pNu at h ⊢
  split
  · rw [if_pos (by assumption)] at h
    exact absurd h (by assumption)
  · rw [if_neg (by assumption)] at h
    have := hk _ _ h
    omega
theorem pRo_pr : ∀ (k : Nat) (a : Int) (rd : Int → Int), (pRo t n k a rd).1 = 0 → a < (pRo t n k a rd).2.2.1
  | 0, a, rd, h => absurd h (by show ¬ (1 : Int) = 0; omega)
  | k + 1, a, rd, h => by
    have h1 := sk_le (t := t) (n := n) a
    have h2 := de_le (t := t) (n := n) (sk t n a)
    have h3 := sk_le (t := t) (n := n) (de t n (sk t n a))
    by_cases hn : nF (de t n (sk t n a)) (sk t n a) (va t n (sk t n a)) 1 7 = 0
    · rw [pRo_g hn] at h ⊢
      split
      · rw [if_pos (by assumption)] at h
        have := pRo_pr k _ _ h
        omega
      · rw [if_neg (by assumption)] at h
        have := pEnd_pr h
        omega
    · rw [pRo_f hn] at h
      exact absurd h hn
theorem pWa_pr {a : Int} {rd : Int → Int} (h : (pWa t n a rd).1 = 0) : a < (pWa t n a rd).2.2.1 :=
  pNu_pr (fun _ _ h => pNu_pr (fun _ _ h => pNu_pr (fun _ _ h => pEnd_pr h) h) h) h
theorem pGr_pr {a : Int} {rd : Int → Int} (h : (pGr t n a rd).1 = 0) : a < (pGr t n a rd).2.2.1 :=
  pNu_pr (fun v1 _ h => pNu_pr (fun v2 _ h => by
    split
    · rw [if_pos (by assumption)] at h
      exact absurd h (by show ¬ (4 : Int) = 0; omega)
    · rw [if_neg (by assumption)] at h
      exact pEnd_pr h) h) h
theorem pTr_pr : ∀ (k : Nat) (a : Int) (rd : Int → Int), (pTr t n k a rd).1 = 0 → a < (pTr t n k a rd).2.2.1
  | 0, a, rd, h => pNu_pr (fun _ _ h => absurd h (by show ¬ (4 : Int) = 0; omega)) h
  | k + 1, a, rd, h => pNu_pr (fun v e h => by
    have h3 := sk_le (t := t) (n := n) e
    split
    · rw [if_pos (by assumption)] at h
      exact absurd h (by show ¬ (4 : Int) = 0; omega)
    · rw [if_neg (by assumption)] at h
      split
      · rw [if_pos (by assumption)] at h
        have := pTr_pr k _ _ h
        omega
      · rw [if_neg (by assumption)] at h
        exact pEnd_pr h) h
theorem pCl_pr {p : Int} {rd : Int → Int} (h : (pCl t n p rd).1 = 0) : p < (pCl t n p rd).2.2.1 := by
  have key : ∀ r : pRs, r = pCl t n p rd → r.1 = 0 → p < r.2.2.1 := by
    intro r hr
    unfold pCl at hr
    repeat' (split at hr)
    all_goals intro h
    all_goals rw [hr] at h ⊢
    all_goals first
      | exact absurd h (by show ¬ (1 : Int) = 0; omega)
      | exact absurd h (by show ¬ (3 : Int) = 0; omega)
      | (have := pRo_pr _ _ _ h; omega)
      | (have := pWa_pr h; omega)
      | (have := pGr_pr h; omega)
      | (have := pTr_pr _ _ _ h; omega)
  exact key _ rfl h
end
section
variable {V : Nat → Int → Int} {b : Bool} {y : Nat} {rd : Int → Int} {s m f g : Int}
/-- what a clause leaves -/
def clP (V : Nat → Int → Int) (y : Nat) (g : Int) (res : pRs) (V' : Nat → Int → Int) : Prop := ∃ U s' m' f' g', V' = rdr U s' m' f' g' ∧ (∀ a, a < y ∨ y + 5 < a → U a = V a) ∧ tuR U y ∧ (0 ≤ s' ∧ s' ≤ V 1 1) ∧ (0 ≤ f' ∧ f' ≤ 4) ∧ res.1 = f' ∧ ((f' ≠ 0 ∧ res.2.1 = g') ∨ (f' = 0 ∧ g' = g ∧ res.2.2.1 = s' ∧ YRd U y res.2.2.2))
theorem ct_X7_readClause (hy : isY y) (hT : tX V) (hs : 0 ≤ s ∧ s < V 1 1) (htu : tuR V y) (hY : YRd V y rd) : yC 5 mX7_readClause [.ref 1, .ref y] (rdr V s m 0 g) b (pV b (clP V y g (pCl (V 2) (V 1 1) s rd))) := by
  obtain ⟨sy, sy1, sy2, sy3, sy4, sy5, sy6, fy0, fy1, fy2, fy3, fy4, fy5⟩ := yfacts hy b
  have yb : 120 ≤ y ∧ y ≤ 127 := by rcases hy with h | h <;> omega
  obtain ⟨hT1, hT2⟩ := id hT
  have hlr := ltT_rg (n := V 1 1) (p := s) hT2
  have hYr : YRd (rdr V s m 0 g) y rd := YRd_congr (fun a a1 a2 => rdr_o (by omega)) hY
  obtain ⟨a1, a2, a3⟩ := hY.1
  obtain ⟨b1, b2, b3⟩ := hY.2.1
  obtain ⟨c1, c2, c3⟩ := hY.2.2.1
  obtain ⟨q1, q2, q3, q4, q5⟩ := hY.2.2.2.2.2.1
  obtain ⟨x, hx⟩ : ∃ x, x = ltT (V 2) (V 1 1) s := ⟨_, rfl⟩
  rw [← hx] at hlr
  obtain ⟨res, hres⟩ : ∃ res, res = pCl (V 2) (V 1 1) s rd := ⟨_, rfl⟩
  rw [← hres]
  unfold pCl at hres
  rw [← hx] at hres
  -- the end of a clause
  have fin : ∀ (V' : Nat → Int → Int) (a2 : Option Value), rdP V y g res V' → yE 5 (pV b (clP V y g res)) mX7_readClause 121 [some (.ref 1), some (.ref y), a2] [] V' b := by
    rintro V' a2 ⟨U, s', m', f', g', rfl, hU, htU, hs', hf', hor⟩
    have u1 : U 1 = V 1 := hU 1 (by omega)
    have u2 : U 2 = V 2 := hU 2 (by omega)
    have hTU := tX_congr u1 u2 hT
    have hk := sk_rg (t := V 2) hs'.2
    have good : f' = 0 → ltT (V 2) (V 1 1) (sk (V 2) (V 1 1) s') = 59 → clP V y g res (rdr U (sk (V 2) (V 1 1) s' + 1) m' f' g') := by
      intro h0 h59
      have := ltT_44 h59 (by omega)
      obtain ⟨_, h2, rd', h3, h4⟩ := hor.resolve_left (fun h => h.1 h0)
      unfold pEnd at h4
      rw [if_pos h59] at h4
      exact ⟨U, _, m', f', g', rfl, hU, htU, by omega, hf', by rw [h4]; exact h0.symm, Or.inr ⟨h0, h2, by rw [h4], by rw [h4]; exact h3⟩⟩
    have bad : f' = 0 → ltT (V 2) (V 1 1) (sk (V 2) (V 1 1) s') ≠ 59 → clP V y g res (rdr U (sk (V 2) (V 1 1) s') m' 1 (sk (V 2) (V 1 1) s')) := by
      intro h0 h59
      obtain ⟨_, h2, rd', h3, h4⟩ := hor.resolve_left (fun h => h.1 h0)
      unfold pEnd at h4
      rw [if_neg h59] at h4
      exact ⟨U, _, m', 1, _, rfl, hU, htU, by omega, by omega, by rw [h4], Or.inl ⟨by omega, by rw [h4]⟩⟩
    have was : f' ≠ 0 → ∀ s2, 0 ≤ s2 ∧ s2 ≤ V 1 1 → clP V y g res (rdr U s2 m' f' g') := by
      intro h0 s2 hs2
      obtain ⟨_, h2, h3⟩ := hor.resolve_right (fun h => h0 h.1)
      exact ⟨U, s2, m', f', g', rfl, hU, htU, hs2, hf', h2, Or.inl ⟨h0, h3⟩⟩
    have hct := ct_X7_takes (V := U) (b := b) (s := s') (m := m') (f := f') (g := g') (x := 59) (by omega) hTU (by rw [u1]; exact hs')
    rw [u1, u2] at hct
    refine z_aload_n dX7_readClause_121 rfl ?_
    refine y_bipush dX7_readClause_122 (by decide +kernel) ?_
    refine y_callVi (hct) kX7_77 dX7_readClause_124 rfl rfl (by first | assumption | rfl) rfl (by decide) rfl (Nat.le_of_ble_eq_true rfl) (fun q_124 V1 h_124 => ?_)
    refine y_if_ne dX7_readClause_127 (by omega) (fun c_127 => ?_) (fun c_127 => ?_)
    · obtain ⟨k1, k2, k3⟩ := h_124.resolve_right (fun h => by omega)
      have := ltT_44 k2 (by omega)
      have hfin : clP V y g res V1 := by
        rw [k3]
        by_cases h0 : f' = 0
        · exact good h0 k2
        · exact was h0 _ (by omega)
      exact z_vret dX7_readClause_139 rfl (Nat.le_refl 0) (Nat.le_refl 0) ⟨_, rfl, rfl, hfin⟩
    · obtain ⟨k1, k2, k3⟩ := h_124.resolve_left (fun h => by omega)
      rw [k3]
      refine z_aload_n dX7_readClause_130 rfl ?_
      refine y_iconst dX7_readClause_131 ?_
      refine z_aload_n dX7_readClause_132 rfl ?_
      refine y_getI (j := 2) fX7_19 dX7_readClause_133 rfl (by first | assumption | rfl) ?_
      rw [rdr_2]
      refine y_callVv (ct_X7_fail hf') kX7_58 dX7_readClause_136 rfl rfl (by first | assumption | rfl) rfl (by decide) rfl (Nat.le_of_ble_eq_true rfl) (fun V2 h_136 => ?_)
      have hfin : clP V y g res V2 := by
        rw [h_136]
        by_cases h0 : f' = 0
        · rw [if_pos h0]; exact bad h0 k2
        · rw [if_neg h0]; exact was h0 _ (by omega)
      exact z_vret dX7_readClause_139 rfl (Nat.le_refl 0) (Nat.le_refl 0) ⟨_, rfl, rfl, hfin⟩
  have stop : ∀ k : Int, (1 ≤ k ∧ k ≤ 4) → res = (k, s, s, rd) → clP V y g res (rdr V s m k s) := by
    intro k hk hr
    exact ⟨V, s, m, k, s, rfl, fun _ _ => rfl, htu, by omega, by omega, by rw [hr], Or.inl ⟨by omega, by rw [hr]⟩⟩
  have hf1 := ct_X7_letter (b := b) (m := m) (f := 0) (g := g) hT (show 0 ≤ s ∧ s ≤ V 1 1 by omega)
  rw [← hx] at hf1
  refine zC_of (by decide +kernel) (Nat.le_of_ble_eq_true rfl) rfl ?_
  refine z_aload_n dX7_readClause_0 rfl ?_
  refine y_callVr (hf1) kX7_47 dX7_readClause_1 rfl rfl (by first | assumption | rfl) rfl (by decide) rfl (Nat.le_of_ble_eq_true rfl) (fun r_1 h_1 => ?_)
  rw [h_1]
  refine z_istore_n dX7_readClause_4 (by decide) rfl rfl ?_
  refine z_iload_n dX7_readClause_5 rfl ?_
  refine y_callSr (ct_X7_isWord (by omega)) kX7_51 dX7_readClause_6 rfl rfl (by decide) rfl (Nat.le_of_ble_eq_true rfl) (fun r_6 h_6 => ?_)
  refine y_if_eq dX7_readClause_9 (by omega) (fun c_9 => ?_) (fun c_9 => ?_)
  · refine z_aload_n dX7_readClause_25 rfl ?_
    refine y_iconst dX7_readClause_26 ?_
    refine z_aload_n dX7_readClause_27 rfl ?_
    refine y_getI (j := 2) fX7_19 dX7_readClause_28 rfl (by first | assumption | rfl) ?_
    rw [rdr_2]
    refine y_callVv (ct_X7_fail (by omega)) kX7_58 dX7_readClause_31 rfl rfl (by first | assumption | rfl) rfl (by decide) rfl (Nat.le_of_ble_eq_true rfl) (fun V2 h_31 => ?_)
    rw [if_pos rfl] at h_31
    subst h_31
    exact z_vret dX7_readClause_34 rfl (Nat.le_refl 0) (Nat.le_refl 0) ⟨_, rfl, rfl, stop 1 (by omega) (by rw [hres]; rw [if_neg (by omega)]; (repeat' split); all_goals first | rfl | (exfalso; omega))⟩
  · refine z_iload_n dX7_readClause_12 rfl ?_
    refine y_bipush dX7_readClause_13 (by decide +kernel) ?_
    refine y_icmp_eq dX7_readClause_15 (by omega) (by omega) (fun c_15 => ?_) (fun c_15 => ?_)
    · refine z_aload_n dX7_readClause_35 rfl ?_
      refine z_iload_n dX7_readClause_36 rfl ?_
      refine y_callVr (ct_X9_isFullOf hy hYr (by omega)) kX7_62 dX7_readClause_37 rfl rfl (by first | assumption | rfl) rfl (by decide) rfl (Nat.le_of_ble_eq_true rfl) (fun r_37 h_37 => ?_)
      refine y_if_eq dX7_readClause_40 (by omega) (fun c_40 => ?_) (fun c_40 => ?_)
      · refine z_aload_n dX7_readClause_53 rfl ?_
        refine z_dup dX7_readClause_54 rfl ?_
        refine y_getI (j := 2) fX7_19 dX7_readClause_55 rfl (by first | assumption | rfl) ?_
        rw [rdr_2]
        refine y_iconst dX7_readClause_58 ?_
        refine y_iadd dX7_readClause_59 ?_
        refine y_putI (j := 2) fX7_19 dX7_readClause_60 rfl (by first | assumption | rfl) ?_
        rw [rdr_u2]
        refine z_iload_n dX7_readClause_63 rfl ?_
        rcases (show (x < 119 ∨ 121 < x) ∨ x = 119 ∨ x = 120 ∨ x = 121 by omega) with h_64 | h_64 | h_64 | h_64
        · refine y_tsOut (tgt := 116) dX7_readClause_64 (by omega) h_64 (by decide) ?_
          refine z_aload_n dX7_readClause_116 rfl ?_
          refine z_aload_n dX7_readClause_117 rfl ?_
          refine y_callVv (ct_X7_readTrain hy hT (by omega) htu hY (by omega)) kX7_74 dX7_readClause_118 rfl rfl (by first | assumption | rfl) rfl (by decide) rfl (Nat.le_of_ble_eq_true rfl) (fun V2 h_118 => ?_)
          rw [show pTr (V 2) (V 1 1) 7 (s + 1) rd = res by rw [hres, if_neg (by omega), if_neg (by omega), if_neg (by omega), if_pos (by omega), if_neg (by omega), if_neg (by omega)]] at h_118
          have hfin := h_118
          exact fin _ _ hfin
        · refine y_tsIn (off := 36) (tgt := 100) dX7_readClause_64 (by omega) (by omega) (by omega) (by rw [h_64]; rfl) (by decide) ?_
          refine z_aload_n dX7_readClause_100 rfl ?_
          refine z_aload_n dX7_readClause_101 rfl ?_
          refine y_callVv (ct_X7_readWagon hy hT (by omega) htu hY (by omega)) kX7_68 dX7_readClause_102 rfl rfl (by first | assumption | rfl) rfl (by decide) rfl (Nat.le_of_ble_eq_true rfl) (fun V2 h_102 => ?_)
          rw [show pWa (V 2) (V 1 1) (s + 1) rd = res by rw [hres, if_neg (by omega), if_pos (by omega), if_neg (by omega), if_neg (by omega)]] at h_102
          have hfin := h_102
          refine z_goto dX7_readClause_105 ?_
          exact fin _ _ hfin
        · refine y_tsIn (off := 44) (tgt := 108) dX7_readClause_64 (by omega) (by omega) (by omega) (by rw [h_64]; rfl) (by decide) ?_
          refine z_aload_n dX7_readClause_108 rfl ?_
          refine z_aload_n dX7_readClause_109 rfl ?_
          refine y_callVv (ct_X7_readGrudge hy hT (by omega) htu hY (by omega)) kX7_71 dX7_readClause_110 rfl rfl (by first | assumption | rfl) rfl (by decide) rfl (Nat.le_of_ble_eq_true rfl) (fun V2 h_110 => ?_)
          rw [show pGr (V 2) (V 1 1) (s + 1) rd = res by rw [hres, if_neg (by omega), if_neg (by omega), if_pos (by omega), if_neg (by omega), if_neg (by omega)]] at h_110
          have hfin := h_110
          refine z_goto dX7_readClause_113 ?_
          exact fin _ _ hfin
        · refine y_tsIn (off := 28) (tgt := 92) dX7_readClause_64 (by omega) (by omega) (by omega) (by rw [h_64]; rfl) (by decide) ?_
          refine z_aload_n dX7_readClause_92 rfl ?_
          refine z_aload_n dX7_readClause_93 rfl ?_
          refine y_callVv (ct_X7_readRoads hy hT (by omega) htu hY (by omega)) kX7_65 dX7_readClause_94 rfl rfl (by first | assumption | rfl) rfl (by decide) rfl (Nat.le_of_ble_eq_true rfl) (fun V2 h_94 => ?_)
          rw [show pRo (V 2) (V 1 1) 4 (s + 1) rd = res by rw [hres, if_pos (by omega), if_neg (by omega)]] at h_94
          have hfin := h_94
          refine z_goto dX7_readClause_97 ?_
          exact fin _ _ hfin
      · refine z_aload_n dX7_readClause_43 rfl ?_
        refine y_iconst dX7_readClause_44 ?_
        refine z_aload_n dX7_readClause_45 rfl ?_
        refine y_getI (j := 2) fX7_19 dX7_readClause_46 rfl (by first | assumption | rfl) ?_
        rw [rdr_2]
        refine y_callVv (ct_X7_fail (by omega)) kX7_58 dX7_readClause_49 rfl rfl (by first | assumption | rfl) rfl (by decide) rfl (Nat.le_of_ble_eq_true rfl) (fun V2 h_49 => ?_)
        rw [if_pos rfl] at h_49
        subst h_49
        exact z_vret dX7_readClause_52 rfl (Nat.le_refl 0) (Nat.le_refl 0) ⟨_, rfl, rfl, stop 3 (by omega) (by rw [hres]; (repeat' split); all_goals first | rfl | (exfalso; omega))⟩
    · refine z_aload_n dX7_readClause_18 rfl ?_
      refine y_getI (j := 6) fX7_55 dX7_readClause_19 rfl (by first | assumption | rfl) ?_
      rw [rdr_o (by omega), a1]
      refine y_if_ne dX7_readClause_22 (by omega) (fun c_22 => ?_) (fun c_22 => ?_)
      · refine z_aload_n dX7_readClause_35 rfl ?_
        refine z_iload_n dX7_readClause_36 rfl ?_
        refine y_callVr (ct_X9_isFullOf hy hYr (by omega)) kX7_62 dX7_readClause_37 rfl rfl (by first | assumption | rfl) rfl (by decide) rfl (Nat.le_of_ble_eq_true rfl) (fun r_37 h_37 => ?_)
        refine y_if_eq dX7_readClause_40 (by omega) (fun c_40 => ?_) (fun c_40 => ?_)
        · refine z_aload_n dX7_readClause_53 rfl ?_
          refine z_dup dX7_readClause_54 rfl ?_
          refine y_getI (j := 2) fX7_19 dX7_readClause_55 rfl (by first | assumption | rfl) ?_
          rw [rdr_2]
          refine y_iconst dX7_readClause_58 ?_
          refine y_iadd dX7_readClause_59 ?_
          refine y_putI (j := 2) fX7_19 dX7_readClause_60 rfl (by first | assumption | rfl) ?_
          rw [rdr_u2]
          refine z_iload_n dX7_readClause_63 rfl ?_
          rcases (show (x < 119 ∨ 121 < x) ∨ x = 119 ∨ x = 120 ∨ x = 121 by omega) with h_64 | h_64 | h_64 | h_64
          · refine y_tsOut (tgt := 116) dX7_readClause_64 (by omega) h_64 (by decide) ?_
            refine z_aload_n dX7_readClause_116 rfl ?_
            refine z_aload_n dX7_readClause_117 rfl ?_
            refine y_callVv (ct_X7_readTrain hy hT (by omega) htu hY (by omega)) kX7_74 dX7_readClause_118 rfl rfl (by first | assumption | rfl) rfl (by decide) rfl (Nat.le_of_ble_eq_true rfl) (fun V2 h_118 => ?_)
            rw [show pTr (V 2) (V 1 1) 7 (s + 1) rd = res by rw [hres, if_neg (by omega), if_neg (by omega), if_neg (by omega), if_pos (by omega), if_neg (by omega), if_neg (by omega)]] at h_118
            have hfin := h_118
            exact fin _ _ hfin
          · refine y_tsIn (off := 36) (tgt := 100) dX7_readClause_64 (by omega) (by omega) (by omega) (by rw [h_64]; rfl) (by decide) ?_
            refine z_aload_n dX7_readClause_100 rfl ?_
            refine z_aload_n dX7_readClause_101 rfl ?_
            refine y_callVv (ct_X7_readWagon hy hT (by omega) htu hY (by omega)) kX7_68 dX7_readClause_102 rfl rfl (by first | assumption | rfl) rfl (by decide) rfl (Nat.le_of_ble_eq_true rfl) (fun V2 h_102 => ?_)
            rw [show pWa (V 2) (V 1 1) (s + 1) rd = res by rw [hres, if_neg (by omega), if_pos (by omega), if_neg (by omega), if_neg (by omega)]] at h_102
            have hfin := h_102
            refine z_goto dX7_readClause_105 ?_
            exact fin _ _ hfin
          · refine y_tsIn (off := 44) (tgt := 108) dX7_readClause_64 (by omega) (by omega) (by omega) (by rw [h_64]; rfl) (by decide) ?_
            refine z_aload_n dX7_readClause_108 rfl ?_
            refine z_aload_n dX7_readClause_109 rfl ?_
            refine y_callVv (ct_X7_readGrudge hy hT (by omega) htu hY (by omega)) kX7_71 dX7_readClause_110 rfl rfl (by first | assumption | rfl) rfl (by decide) rfl (Nat.le_of_ble_eq_true rfl) (fun V2 h_110 => ?_)
            rw [show pGr (V 2) (V 1 1) (s + 1) rd = res by rw [hres, if_neg (by omega), if_neg (by omega), if_pos (by omega), if_neg (by omega), if_neg (by omega)]] at h_110
            have hfin := h_110
            refine z_goto dX7_readClause_113 ?_
            exact fin _ _ hfin
          · refine y_tsIn (off := 28) (tgt := 92) dX7_readClause_64 (by omega) (by omega) (by omega) (by rw [h_64]; rfl) (by decide) ?_
            refine z_aload_n dX7_readClause_92 rfl ?_
            refine z_aload_n dX7_readClause_93 rfl ?_
            refine y_callVv (ct_X7_readRoads hy hT (by omega) htu hY (by omega)) kX7_65 dX7_readClause_94 rfl rfl (by first | assumption | rfl) rfl (by decide) rfl (Nat.le_of_ble_eq_true rfl) (fun V2 h_94 => ?_)
            rw [show pRo (V 2) (V 1 1) 4 (s + 1) rd = res by rw [hres, if_pos (by omega), if_neg (by omega)]] at h_94
            have hfin := h_94
            refine z_goto dX7_readClause_97 ?_
            exact fin _ _ hfin
        · refine z_aload_n dX7_readClause_43 rfl ?_
          refine y_iconst dX7_readClause_44 ?_
          refine z_aload_n dX7_readClause_45 rfl ?_
          refine y_getI (j := 2) fX7_19 dX7_readClause_46 rfl (by first | assumption | rfl) ?_
          rw [rdr_2]
          refine y_callVv (ct_X7_fail (by omega)) kX7_58 dX7_readClause_49 rfl rfl (by first | assumption | rfl) rfl (by decide) rfl (Nat.le_of_ble_eq_true rfl) (fun V2 h_49 => ?_)
          rw [if_pos rfl] at h_49
          subst h_49
          exact z_vret dX7_readClause_52 rfl (Nat.le_refl 0) (Nat.le_refl 0) ⟨_, rfl, rfl, stop 3 (by omega) (by rw [hres]; (repeat' split); all_goals first | rfl | (exfalso; omega))⟩
      · refine z_aload_n dX7_readClause_25 rfl ?_
        refine y_iconst dX7_readClause_26 ?_
        refine z_aload_n dX7_readClause_27 rfl ?_
        refine y_getI (j := 2) fX7_19 dX7_readClause_28 rfl (by first | assumption | rfl) ?_
        rw [rdr_2]
        refine y_callVv (ct_X7_fail (by omega)) kX7_58 dX7_readClause_31 rfl rfl (by first | assumption | rfl) rfl (by decide) rfl (Nat.le_of_ble_eq_true rfl) (fun V2 h_31 => ?_)
        rw [if_pos rfl] at h_31
        subst h_31
        exact z_vret dX7_readClause_34 rfl (Nat.le_refl 0) (Nat.le_refl 0) ⟨_, rfl, rfl, stop 1 (by omega) (by rw [hres]; rw [if_neg (by omega)]; (repeat' split); all_goals first | rfl | (exfalso; omega))⟩
end

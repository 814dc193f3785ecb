/-! ===== the model: readsClause ===== -/
def rdK (rd : Int → Int) : Prop := (0 ≤ rd 0 ∧ rd 0 ≤ 4) ∧ (0 ≤ rd 5 ∧ rd 5 ≤ 7) ∧ (0 ≤ rd 32 ∧ rd 32 ≤ 10) ∧ (0 ≤ rd 33 ∧ rd 33 ≤ 7) ∧ ∀ k, 0 ≤ k → k ≤ 4 → 0 ≤ rd (27 + k) ∧ rd (27 + k) < 32
section
variable {t : Int → Int} {n : Int}
theorem pEnd_K {e : Int} {rd : Int → Int} (h : rdK rd) : rdK (pEnd t n e rd).2.2.2 := by
  unfold pEnd
  split <;> exact h
theorem pRo_K : ∀ (k : Nat) (a : Int) (rd : Int → Int), rd 0 + k = 4 → rdK rd → (pRo t n k a rd).1 = 0 → rdK (pRo t n k a rd).2.2.2
  | 0, a, rd, _, _, h => absurd h (by show ¬ (1 : Int) = 0; omega)
  | k + 1, a, rd, hk, hK, h => by
    have hK' : ∀ v, rdK (iup (iup rd (1 + rd 0) v) 0 (rd 0 + 1)) := fun v => by
      obtain ⟨k0, k5, k32, k33, k27⟩ := hK
      have e : ∀ j, 5 ≤ j → iup (iup rd (1 + rd 0) v) 0 (rd 0 + 1) j = rd j := fun j hj => by rw [iup_n (by omega), iup_n (by omega)]
      unfold rdK
      rw [iup_s, e 5 (by omega), e 32 (by omega), e 33 (by omega)]
      exact ⟨by omega, k5, k32, k33, fun j j0 j1 => by rw [e _ (by omega)]; exact k27 j j0 j1⟩
    by_cases hn : nF (de t n (sk t n a)) (sk t n a) (va t n (sk t n a)) 1 7 = 0
    · rw [pRo_g hn] at h ⊢
      split
      · rw [if_pos (by assumption)] at h
        exact pRo_K k _ _ (by rw [iup_s]; omega) (hK' _) h
      · exact pEnd_K (hK' _)
    · rw [pRo_f hn] at h
      exact absurd h hn
theorem pNu_K {a lo hi : Int} {rd : Int → Int} {k : Int → Int → pRs} (hk : lo ≤ va t n (sk t n a) → va t n (sk t n a) ≤ hi → (k (va t n (sk t n a)) (de t n (sk t n a))).1 = 0 → rdK (k (va t n (sk t n a)) (de t n (sk t n a))).2.2.2) (h : (pNu t n a lo hi rd k).1 = 0) : rdK (pNu t n a lo hi rd k).2.2.2 := by
  by_cases hn : nF (de t n (sk t n a)) (sk t n a) (va t n (sk t n a)) lo hi = 0
  · rw [pNu_g hn] at h ⊢
    have := nF_0 hn
    exact hk this.1 this.2.1 h
  · rw [pNu_f hn] at h
    exact absurd h hn
theorem pWa_K {a : Int} {rd : Int → Int} (hK : rdK rd) (h7 : rd 5 ≠ 7) (h : (pWa t n a rd).1 = 0) : rdK (pWa t n a rd).2.2.2 := by
  refine pNu_K (fun _ _ h => pNu_K (fun _ _ h => pNu_K (fun _ _ h => pEnd_K ?_) h) h) h
  obtain ⟨k0, k5, k32, k33, k27⟩ := hK
  unfold rdK
  rw [iup_s, iup_n (by omega), iup_n (by omega), iup_n (by omega), iup_n (by omega), iup_n (by omega), iup_n (by omega), iup_n (by omega), iup_n (by omega), iup_n (by omega), iup_n (by omega), iup_n (by omega), iup_n (by omega)]
  exact ⟨k0, by omega, k32, k33, fun j j0 j1 => by rw [iup_n (by omega), iup_n (by omega), iup_n (by omega), iup_n (by omega)]; exact k27 j j0 j1⟩
theorem pGr_K {a : Int} {rd : Int → Int} (hK : rdK rd) (h10 : rd 32 ≠ 10) (h : (pGr t n a rd).1 = 0) : rdK (pGr t n a rd).2.2.2 := by
  refine pNu_K (fun l1 l2 h => pNu_K (fun m1 m2 h => ?_) h) h
  split
  · rw [if_pos (by assumption)] at h
    exact absurd h (by show ¬ (4 : Int) = 0; omega)
  · refine pEnd_K ?_
    generalize va t n (sk t n a) = v1 at *
    generalize va t n (sk t n (de t n (sk t n a))) = v2 at *
    obtain ⟨k0, k5, k32, k33, k27⟩ := hK
    unfold rdK
    rw [iup_s, iup_n (by omega), iup_n (by omega), iup_n (by omega), iup_n (by omega), iup_n (by omega), iup_n (by omega)]
    refine ⟨k0, k5, by omega, k33, fun j j0 j1 => ?_⟩
    rw [iup_n (by omega)]
    by_cases hj : j = v1
    · subst hj
      rw [iup_s]
      have p5 : (2 ^ 5 : Nat) = 32 := by decide
      have hs5 : s1 v2 ≤ 16 := by
        have : 2 ^ v2.toNat ≤ 2 ^ 4 := Nat.pow_le_pow_right (by decide) (by omega)
        have p4 : (2 ^ 4 : Nat) = 16 := by decide
        unfold s1
        omega
      have hx := k27 j j0 j1
      have := bOr_lt (x := rd (27 + j)) (y := s1 v2) 5 (by omega) (by omega)
      have := bOr_nn (rd (27 + j)) (s1 v2)
      omega
    · rw [iup_n (by omega)]; exact k27 j j0 j1
theorem pTr_K : ∀ (k : Nat) (a : Int) (rd : Int → Int), rd 33 + k = 7 → rdK rd → (pTr t n k a rd).1 = 0 → rdK (pTr t n k a rd).2.2.2
  | 0, a, rd, _, _, h => pNu_K (fun _ _ h => absurd h (by show ¬ (4 : Int) = 0; omega)) h
  | k + 1, a, rd, hk, hK, h => by
    have hK' : ∀ v, rdK (iup (iup rd (34 + rd 33) v) 33 (rd 33 + 1)) := fun v => by
      obtain ⟨k0, k5, k32, k33, k27⟩ := hK
      have e : ∀ j, j ≤ 32 → iup (iup rd (34 + rd 33) v) 33 (rd 33 + 1) j = rd j := fun j hj => by rw [iup_n (by omega), iup_n (by omega)]
      unfold rdK
      rw [iup_s, e 5 (by omega), e 32 (by omega), e 0 (by omega)]
      exact ⟨k0, k5, k32, by omega, fun j j0 j1 => by rw [e _ (by omega)]; exact k27 j j0 j1⟩
    refine pNu_K (fun _ _ h => ?_) h
    split
    · rw [if_pos (by assumption)] at h
      exact absurd h (by show ¬ (4 : Int) = 0; omega)
    · rw [if_neg (by assumption)] at h
      split
      · rw [if_pos (by assumption)] at h
        exact pTr_K k _ _ (by rw [iup_s]; omega) (hK' _) h
      · exact pEnd_K (hK' _)
theorem pCl_K {p : Int} {rd : Int → Int} (hK : rdK rd) (h : (pCl t n p rd).1 = 0) : rdK (pCl t n p rd).2.2.2 := by
  have k0 := hK.1
  have k33 := hK.2.2.2.1
  have key : ∀ r : pRs, r = pCl t n p rd → r.1 = 0 → rdK r.2.2.2 := by
    intro r hr
    unfold pCl at hr
    repeat' (split at hr)
    all_goals intro h
    all_goals rw [hr] at h ⊢
    all_goals first
      | exact absurd h (by show ¬ (1 : Int) = 0; omega)
      | exact absurd h (by show ¬ (3 : Int) = 0; omega)
      | exact pRo_K _ _ _ (by omega) hK h
      | exact pWa_K hK (by assumption) h
      | exact pGr_K hK (by assumption) h
      | exact pTr_K _ _ _ (by omega) hK h
  exact key _ rfl h
end
section
variable {V : Nat → Int → Int} {b : Bool} {rd : Int → Int} {a p s f v w : Int}
theorem ct_X11_readsClause (hT : tM V) (ha : 0 ≤ a ∧ a ≤ V 134 9) (hK : rdK rd) (hs : -1 ≤ s ∧ s ≤ 255) (hsx : ∀ x, (x = 121 ∨ x = 119 ∨ x = 120 ∨ x = 116) → (s = x ↔ ltT (V 141) (V 134 9) p = x)) (hap : s = 121 ∨ s = 119 ∨ s = 120 ∨ s = 116 → a = p + 1) : yC 5 mX11_readsClause [.ref 134] (mst (zup V 136 rd) a p s f v w) b (pI b (fun q V' => mlP V (pCl (V 141) (V 134 9) p rd) q V')) := by
  obtain ⟨hT1, hT2⟩ := id hT
  obtain ⟨k0, k5, k32, k33, k27⟩ := id hK
  have x121 := hsx 121 (by omega)
  have x119 := hsx 119 (by omega)
  have x120 := hsx 120 (by omega)
  have x116 := hsx 116 (by omega)
  obtain ⟨c, hc⟩ : ∃ c, c = ltT (V 141) (V 134 9) p := ⟨_, rfl⟩
  rw [← hc] at x121 x119 x120 x116
  obtain ⟨res, hres⟩ : ∃ res, res = pCl (V 141) (V 134 9) p rd := ⟨_, rfl⟩
  rw [← hres]
  unfold pCl at hres
  rw [← hc] at hres
  have bad1 : res = (1, p, p, rd) → ∀ (q : Int) (V' : Nat → Int → Int), q = 0 ∧ V' = mst (zup V 136 rd) a p s f v 1 → mlP V res q V' := fun hr q V' h => ⟨rd, a, p, s, f, v, 1, h.2, Or.inl ⟨by rw [hr]; show (1 : Int) ≠ 0; omega, h.1, by rw [hr], by rw [hr]⟩⟩
  have hq01 : ∀ (q : Int) (V' : Nat → Int → Int), mlP V res q V' → q = 0 ∨ q = 1 := fun q V' h => by obtain ⟨_, _, _, _, _, _, _, _, h | h⟩ := h <;> omega
  have j19 : ∀ l : Int, (l = 1 ∧ rd 0 = 0 ∨ l = 0 ∧ rd 0 ≠ 0) → yE 5 (pI b (fun q V' => mlP V res q V')) mX11_readsClause 15 [some (.ref 134), some (.int (iI l))] [] (mst (zup V 136 rd) a p s f v w) b := by
    intro l hl
    refine z_aload_n dX11_readsClause_15 rfl ?_
    refine y_getI (j := 19) fX11_120 dX11_readsClause_16 rfl (by first | assumption | rfl) ?_
    rw [mst_19]
    rcases (show (s < 116 ∨ 121 < s) ∨ s = 116 ∨ s = 117 ∨ s = 118 ∨ s = 119 ∨ s = 120 ∨ s = 121 by omega) with h_19 | h_19 | h_19 | h_19 | h_19 | h_19 | h_19
    · refine y_tsOut (tgt := 112) dX11_readsClause_19 (by omega) h_19 (by decide) ?_
      refine z_aload_n dX11_readsClause_112 rfl ?_
      refine y_iconst dX11_readsClause_113 ?_
      refine y_callVi (ct_X11_fails) kX11_139 dX11_readsClause_114 rfl rfl (by first | assumption | rfl) rfl (by decide) rfl (Nat.le_of_ble_eq_true rfl) (fun q_114 V2 h_114 => ?_)
      have hfin := bad1 (by rw [hres, if_neg (by omega), if_neg (by omega), if_neg (by omega), if_neg (by omega)]) _ _ h_114
      have hq := hq01 _ _ hfin
      exact y_zret dX11_readsClause_117 rfl (by omega) (Nat.le_refl 0) (Nat.le_refl 0) ⟨_, _, rfl, rfl, hfin⟩
    · refine y_tsIn (off := 76) (tgt := 95) dX11_readsClause_19 (by omega) (by omega) (by omega) (by rw [h_19]; rfl) (by decide) ?_
      refine z_iload_n dX11_readsClause_95 rfl ?_
      refine y_if_eq dX11_readsClause_96 (by omega) (fun c_96 => ?_) (fun c_96 => ?_)
      · refine z_aload_n dX11_readsClause_107 rfl ?_
        refine y_callVi (ct_X11_readsTrain hT ha k5 k33) kX11_164 dX11_readsClause_108 rfl rfl (by first | assumption | rfl) rfl (by decide) rfl (Nat.le_of_ble_eq_true rfl) (fun q_108 V2 h_108 => ?_)
        rw [hap (by omega), show (if 0 < rd 33 then ((3, p, p, rd) : pRs) else pTr (V 141) (V 134 9) 7 (p + 1) rd) = res by rw [hres, if_neg (show ¬ c = 121 by omega), if_neg (show ¬ c = 119 by omega), if_neg (show ¬ c = 120 by omega), if_pos (show c = 116 by omega), if_neg (show ¬ rd 0 = 0 by omega)]] at h_108
        have hfin := h_108
        have hq := hq01 _ _ hfin
        exact y_zret dX11_readsClause_111 rfl (by omega) (Nat.le_refl 0) (Nat.le_refl 0) ⟨_, _, rfl, rfl, hfin⟩
      · refine z_aload_n dX11_readsClause_99 rfl ?_
        refine y_iconst dX11_readsClause_100 ?_
        refine y_callVi (ct_X11_fails) kX11_139 dX11_readsClause_101 rfl rfl (by first | assumption | rfl) rfl (by decide) rfl (Nat.le_of_ble_eq_true rfl) (fun q_101 V2 h_101 => ?_)
        have hfin := bad1 (by rw [hres, if_neg (by omega), if_neg (by omega), if_neg (by omega), if_pos (by omega), if_pos (by omega)]) _ _ h_101
        have hq := hq01 _ _ hfin
        refine z_goto dX11_readsClause_104 ?_
        exact y_zret dX11_readsClause_111 rfl (by omega) (Nat.le_refl 0) (Nat.le_refl 0) ⟨_, _, rfl, rfl, hfin⟩
    · refine y_tsIn (off := 93) (tgt := 112) dX11_readsClause_19 (by omega) (by omega) (by omega) (by rw [h_19]; rfl) (by decide) ?_
      refine z_aload_n dX11_readsClause_112 rfl ?_
      refine y_iconst dX11_readsClause_113 ?_
      refine y_callVi (ct_X11_fails) kX11_139 dX11_readsClause_114 rfl rfl (by first | assumption | rfl) rfl (by decide) rfl (Nat.le_of_ble_eq_true rfl) (fun q_114 V2 h_114 => ?_)
      have hfin := bad1 (by rw [hres, if_neg (by omega), if_neg (by omega), if_neg (by omega), if_neg (by omega)]) _ _ h_114
      have hq := hq01 _ _ hfin
      exact y_zret dX11_readsClause_117 rfl (by omega) (Nat.le_refl 0) (Nat.le_refl 0) ⟨_, _, rfl, rfl, hfin⟩
    · refine y_tsIn (off := 93) (tgt := 112) dX11_readsClause_19 (by omega) (by omega) (by omega) (by rw [h_19]; rfl) (by decide) ?_
      refine z_aload_n dX11_readsClause_112 rfl ?_
      refine y_iconst dX11_readsClause_113 ?_
      refine y_callVi (ct_X11_fails) kX11_139 dX11_readsClause_114 rfl rfl (by first | assumption | rfl) rfl (by decide) rfl (Nat.le_of_ble_eq_true rfl) (fun q_114 V2 h_114 => ?_)
      have hfin := bad1 (by rw [hres, if_neg (by omega), if_neg (by omega), if_neg (by omega), if_neg (by omega)]) _ _ h_114
      have hq := hq01 _ _ hfin
      exact y_zret dX11_readsClause_117 rfl (by omega) (Nat.le_refl 0) (Nat.le_refl 0) ⟨_, _, rfl, rfl, hfin⟩
    · refine y_tsIn (off := 42) (tgt := 61) dX11_readsClause_19 (by omega) (by omega) (by omega) (by rw [h_19]; rfl) (by decide) ?_
      refine z_iload_n dX11_readsClause_61 rfl ?_
      refine y_if_eq dX11_readsClause_62 (by omega) (fun c_62 => ?_) (fun c_62 => ?_)
      · refine z_aload_n dX11_readsClause_73 rfl ?_
        refine y_callVi (ct_X11_readsWagon hT ha k5) kX11_158 dX11_readsClause_74 rfl rfl (by first | assumption | rfl) rfl (by decide) rfl (Nat.le_of_ble_eq_true rfl) (fun q_74 V2 h_74 => ?_)
        rw [hap (by omega), show (if rd 5 = 7 then ((3, p, p, rd) : pRs) else pWa (V 141) (V 134 9) (p + 1) rd) = res by rw [hres, if_neg (show ¬ c = 121 by omega), if_pos (show c = 119 by omega), if_neg (show ¬ rd 0 = 0 by omega)]] at h_74
        have hfin := h_74
        have hq := hq01 _ _ hfin
        exact y_zret dX11_readsClause_77 rfl (by omega) (Nat.le_refl 0) (Nat.le_refl 0) ⟨_, _, rfl, rfl, hfin⟩
      · refine z_aload_n dX11_readsClause_65 rfl ?_
        refine y_iconst dX11_readsClause_66 ?_
        refine y_callVi (ct_X11_fails) kX11_139 dX11_readsClause_67 rfl rfl (by first | assumption | rfl) rfl (by decide) rfl (Nat.le_of_ble_eq_true rfl) (fun q_67 V2 h_67 => ?_)
        have hfin := bad1 (by rw [hres, if_neg (by omega), if_pos (by omega), if_pos (by omega)]) _ _ h_67
        have hq := hq01 _ _ hfin
        refine z_goto dX11_readsClause_70 ?_
        exact y_zret dX11_readsClause_77 rfl (by omega) (Nat.le_refl 0) (Nat.le_refl 0) ⟨_, _, rfl, rfl, hfin⟩
    · refine y_tsIn (off := 59) (tgt := 78) dX11_readsClause_19 (by omega) (by omega) (by omega) (by rw [h_19]; rfl) (by decide) ?_
      refine z_iload_n dX11_readsClause_78 rfl ?_
      refine y_if_eq dX11_readsClause_79 (by omega) (fun c_79 => ?_) (fun c_79 => ?_)
      · refine z_aload_n dX11_readsClause_90 rfl ?_
        refine y_callVi (ct_X11_readsEnemies hT ha k32 k27) kX11_161 dX11_readsClause_91 rfl rfl (by first | assumption | rfl) rfl (by decide) rfl (Nat.le_of_ble_eq_true rfl) (fun q_91 V2 h_91 => ?_)
        rw [hap (by omega), show (if rd 32 = 10 then ((3, p, p, rd) : pRs) else pGr (V 141) (V 134 9) (p + 1) rd) = res by rw [hres, if_neg (show ¬ c = 121 by omega), if_neg (show ¬ c = 119 by omega), if_pos (show c = 120 by omega), if_neg (show ¬ rd 0 = 0 by omega)]] at h_91
        have hfin := h_91
        have hq := hq01 _ _ hfin
        exact y_zret dX11_readsClause_94 rfl (by omega) (Nat.le_refl 0) (Nat.le_refl 0) ⟨_, _, rfl, rfl, hfin⟩
      · refine z_aload_n dX11_readsClause_82 rfl ?_
        refine y_iconst dX11_readsClause_83 ?_
        refine y_callVi (ct_X11_fails) kX11_139 dX11_readsClause_84 rfl rfl (by first | assumption | rfl) rfl (by decide) rfl (Nat.le_of_ble_eq_true rfl) (fun q_84 V2 h_84 => ?_)
        have hfin := bad1 (by rw [hres, if_neg (by omega), if_neg (by omega), if_pos (by omega), if_pos (by omega)]) _ _ h_84
        have hq := hq01 _ _ hfin
        refine z_goto dX11_readsClause_87 ?_
        exact y_zret dX11_readsClause_94 rfl (by omega) (Nat.le_refl 0) (Nat.le_refl 0) ⟨_, _, rfl, rfl, hfin⟩
    · refine y_tsIn (off := 37) (tgt := 56) dX11_readsClause_19 (by omega) (by omega) (by omega) (by rw [h_19]; rfl) (by decide) ?_
      refine z_aload_n dX11_readsClause_56 rfl ?_
      refine y_callVi (ct_X11_readsRoads hT ha k0) kX11_155 dX11_readsClause_57 rfl rfl (by first | assumption | rfl) rfl (by decide) rfl (Nat.le_of_ble_eq_true rfl) (fun q_57 V2 h_57 => ?_)
      rw [hap (by omega), show (if 0 < rd 0 then ((3, p, p, rd) : pRs) else pRo (V 141) (V 134 9) 4 (p + 1) rd) = res by rw [hres, if_pos (show c = 121 by omega)]] at h_57
      have hfin := h_57
      have hq := hq01 _ _ hfin
      exact y_zret dX11_readsClause_60 rfl (by omega) (Nat.le_refl 0) (Nat.le_refl 0) ⟨_, _, rfl, rfl, hfin⟩
  refine zC_of (by decide +kernel) (Nat.le_of_ble_eq_true rfl) rfl ?_
  refine z_aload_n dX11_readsClause_0 rfl ?_
  refine y_getR fX11_13 dX11_readsClause_1 (by first | assumption | rfl) (by first | assumption | rfl) ?_
  refine y_iconst dX11_readsClause_4 ?_
  refine y_iald dX11_readsClause_5 (by first | assumption | rfl) (by first | rfl | assumption) (by omega) ?_
  rw [mr_136]
  refine y_if_ne dX11_readsClause_6 (by omega) (fun c_6 => ?_) (fun c_6 => ?_)
  · refine y_iconst dX11_readsClause_13 ?_
    refine z_istore_n dX11_readsClause_14 (by decide) rfl rfl ?_
    exact j19 _ (by omega)
  · refine y_iconst dX11_readsClause_9 ?_
    refine z_goto dX11_readsClause_10 ?_
    refine z_istore_n dX11_readsClause_14 (by decide) rfl rfl ?_
    exact j19 _ (by omega)
end

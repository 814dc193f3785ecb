/-! ===== readTrain ===== -/
section
variable {V : Nat → Int → Int} {b : Bool} {y : Nat} {rd : Int → Int} {s m f g : Int}
theorem YRd_train {v : Int} (hY : YRd V y rd) (hr : rd 33 ≤ 6) (hv : 0 ≤ v ∧ v < rd 5) (hn : V (y + 5) v = -1) : YRd (vst (vst V (y + 5) v (V y 9)) y 9 (V y 9 + 1)) y (iup (iup rd (34 + rd 33) v) 33 (rd 33 + 1)) := by
  obtain ⟨⟨a1, a2, a3⟩, ⟨b1, b2, b3⟩, ⟨c1, c2, c3⟩, d, e, ⟨f1, f2, f3, f4, f5⟩, g, h⟩ := hY
  rw [c1]
  obtain ⟨U, hU⟩ : ∃ U, U = vst (vst V (y + 5) v (rd 33)) y 9 (rd 33 + 1) := ⟨_, rfl⟩
  rw [← hU]
  have ey : ∀ j, j ≠ 9 → U y j = V y j := fun j hj => by rw [hU, vst_n hj, vst_o (by omega)]
  have ey9 : U y 9 = rd 33 + 1 := by rw [hU, vst_s]
  have eo : ∀ a, a ≠ y → a ≠ y + 5 → U a = V a := fun a h1 h2 => by rw [hU, vst_o h1, vst_o h2]
  have e5 : ∀ w, U (y + 5) w = if w = v then rd 33 else V (y + 5) w := fun w => by
    rw [hU, vst_o (by omega)]
    split
    · subst_vars; rw [vst_s]
    · rw [vst_n (by assumption)]
  obtain ⟨rd', hrd⟩ : ∃ rd', rd' = iup (iup rd (34 + rd 33) v) 33 (rd 33 + 1) := ⟨_, rfl⟩
  rw [← hrd]
  have er : ∀ j, j ≠ 33 → j ≠ 34 + rd 33 → rd' j = rd j := fun j h1 h2 => by rw [hrd, iup_n h1, iup_n h2]
  have r33 : rd' 33 = rd 33 + 1 := by rw [hrd, iup_s]
  have r34 : rd' (34 + rd 33) = v := by rw [hrd, iup_n (by omega), iup_s]
  unfold YRd
  rw [r33, er 0 (by omega) (by omega), er 5 (by omega) (by omega), er 32 (by omega) (by omega), ey9, ey 6 (by omega), ey 7 (by omega), ey 8 (by omega), eo (y + 1) (by omega) (by omega), eo (y + 2) (by omega) (by omega), eo (y + 3) (by omega) (by omega), eo (y + 4) (by omega) (by omega)]
  refine ⟨⟨a1, a2, a3⟩, ⟨b1, b2, b3⟩, ⟨rfl, by omega, by omega⟩, fun r r0 r1 => ?_, fun w w0 w1 => ?_, ⟨f1, f2, f3, f4, fun a q0 q1 => ?_⟩, fun i i0 i1 => ?_, fun w w0 w1 => ?_⟩
  · rw [er _ (by omega) (by omega)]; exact d r r0 r1
  · rw [er _ (by omega) (by omega), er _ (by omega) (by omega), er _ (by omega) (by omega)]; exact e w w0 w1
  · rw [er _ (by omega) (by omega)]; exact f5 a q0 q1
  · by_cases hi : i = rd 33
    · subst hi
      rw [r34, e5, if_pos rfl]
      exact ⟨hv.1, hv.2, rfl⟩
    · obtain ⟨g1, g2, g3⟩ := g i i0 (by omega)
      have : rd (34 + i) ≠ v := fun hh => by rw [hh, hn] at g3; omega
      rw [er _ (by omega) (by omega), e5, if_neg this]
      exact ⟨g1, g2, g3⟩
  · rw [e5]
    by_cases hw : w = v
    · subst hw
      rw [if_pos rfl]
      exact Or.inr ⟨by omega, by omega, r34⟩
    · rw [if_neg hw]
      rcases h w w0 w1 with h | ⟨h1, h2, h3⟩
      · exact Or.inl h
      · exact Or.inr ⟨h1, by omega, by rw [er _ (by omega) (by omega)]; exact h3⟩
theorem pTr_f {t : Int → Int} {n a : Int} {k : Nat} (h : nF (de t n (sk t n a)) (sk t n a) (va t n (sk t n a)) 0 (rd 5 - 1) ≠ 0) : pTr t n k a rd = (nF (de t n (sk t n a)) (sk t n a) (va t n (sk t n a)) 0 (rd 5 - 1), sk t n a, a, rd) := by
  cases k with
  | zero => exact if_pos h
  | succ k => exact if_pos h
theorem pTr_g {t : Int → Int} {n a : Int} {k : Nat} (h : nF (de t n (sk t n a)) (sk t n a) (va t n (sk t n a)) 0 (rd 5 - 1) = 0) : pTr t n (k + 1) a rd = if mtB rd (va t n (sk t n a)) (rd 33).toNat = true then (4, sk t n a, a, rd)
    else if ltT t n (sk t n (de t n (sk t n a))) = 44 then pTr t n k (sk t n (de t n (sk t n a)) + 1) (iup (iup rd (34 + rd 33) (va t n (sk t n a))) 33 (rd 33 + 1))
    else pEnd t n (de t n (sk t n a)) (iup (iup rd (34 + rd 33) (va t n (sk t n a))) 33 (rd 33 + 1)) := if_neg (fun h2 => h2 h)
theorem pTr_z {t : Int → Int} {n a : Int} (h : nF (de t n (sk t n a)) (sk t n a) (va t n (sk t n a)) 0 (rd 5 - 1) = 0) : pTr t n 0 a rd = (4, sk t n a, a, rd) := if_neg (fun h2 => h2 h)
theorem ct_X7_readTrain (hy : isY y) (hT : tX V) (hs : 0 ≤ s ∧ s ≤ V 1 1) (htu : tuR V y) (hY : YRd V y rd) (h0 : rd 33 = 0) : yC 4 mX7_readTrain [.ref 1, .ref y] (rdr V s m 0 g) b (pV b (rdP V y g (pTr (V 2) (V 1 1) 7 s rd))) := by
  obtain ⟨sy, sy1, sy2, sy3, sy4, sy5, sy6, fy0, fy1, fy2, fy3, fy4, fy5⟩ := yfacts hy b
  have yb : 120 ≤ y ∧ y ≤ 127 := by rcases hy with h | h <;> omega
  obtain ⟨res, hres⟩ : ∃ res, res = pTr (V 2) (V 1 1) 7 s rd := ⟨_, rfl⟩
  rw [← hres]
  have hT2 := hT.2
  have hT1 := hT.1
  have bad : ∀ (U : Nat → Int → Int) (i s' m' f' g' : Int) (a3 : Option Value), (0 ≤ i ∧ i ≤ 8) → (∀ a, a < y ∨ y + 5 < a → U a = V a) → tuR U y → (0 ≤ s' ∧ s' ≤ V 1 1) → (1 ≤ f' ∧ f' ≤ 4) → res.1 = f' → res.2.1 = g' → yE 4 (pV b (rdP V y g res)) mX7_readTrain 2 [some (.ref 1), some (.ref y), some (.int (iI i)), a3] [] (rdr U s' m' f' g') b := by
    intro U i s' m' f' g' a3 hi hU htU hs' hf' r1 r2
    have u1 : U 1 = V 1 := hU 1 (by omega)
    have u2 : U 2 = V 2 := hU 2 (by omega)
    refine z_iload_n dX7_readTrain_2 rfl ?_
    refine y_bipush dX7_readTrain_3 (by decide +kernel) ?_
    refine y_icmp_gt dX7_readTrain_5 (by omega) (by omega) (fun c_5 => ?_) (fun c_5 => ?_)
    · exact z_vret dX7_readTrain_58 rfl (Nat.le_refl 0) (Nat.le_refl 0) ⟨_, rfl, rfl, U, s', m', f', g', rfl, hU, htU, hs', by omega, Or.inl ⟨by omega, r1, r2⟩⟩
    · refine z_aload_n dX7_readTrain_8 rfl ?_
      refine z_iload_n dX7_readTrain_9 rfl ?_
      refine y_callVi (ct_X7_goesOn (by omega) (tX_congr u1 u2 hT) (by rw [u1]; exact hs') (by omega)) kX7_80 dX7_readTrain_10 rfl rfl (by first | assumption | rfl) rfl (by decide) rfl (Nat.le_of_ble_eq_true rfl) (fun q_9 V1 h_9 => ?_)
      have h_9b : q_9 = 0 ∧ V1 = rdr U s' m' f' g' := by
        rcases h_9 with h | h | h | h
        · exact h.2
        · omega
        · omega
        · omega
      obtain ⟨e9, e9b⟩ := h_9b
      subst e9b
      refine y_if_eq dX7_readTrain_13 (by omega) (fun c_13 => ?_) (fun c_13 => ?_)
      · exact z_vret dX7_readTrain_58 rfl (Nat.le_refl 0) (Nat.le_refl 0) ⟨_, rfl, rfl, U, s', m', f', g', rfl, hU, htU, hs', by omega, Or.inl ⟨by omega, r1, r2⟩⟩
      · omega
  have main : ∀ (k : Nat) (i s' m' : Int) (U : Nat → Int → Int) (rd' : Int → Int) (a3 : Option Value), i + k = 7 → 0 ≤ i → rd' 33 = i → YRd U y rd' → (∀ a, a < y ∨ y + 5 < a → U a = V a) → tuR U y → (0 ≤ s' ∧ s' ≤ V 1 1) → res = (if i = 0 then pTr (V 2) (V 1 1) 7 s' rd' else if ltT (V 2) (V 1 1) (sk (V 2) (V 1 1) s') = 44 then pTr (V 2) (V 1 1) k (sk (V 2) (V 1 1) s' + 1) rd' else pEnd (V 2) (V 1 1) s' rd') → yE 4 (pV b (rdP V y g res)) mX7_readTrain 2 [some (.ref 1), some (.ref y), some (.int (iI i)), a3] [] (rdr U s' m' 0 g) b := by
    intro k
    induction k with
    | zero =>
      intro i s' m' U rd' a3 hi hi0 hrd hYU hU htU hs' hr
      have u1 : U 1 = V 1 := hU 1 (by omega)
      have u2 : U 2 = V 2 := hU 2 (by omega)
      have hTU := tX_congr u1 u2 hT
      have hk' := sk_rg (t := V 2) hs'.2
      have u7 := hYU.2.1
      have body : ∀ (a mm : Int), (0 ≤ a ∧ a ≤ V 1 1) → res = pTr (V 2) (V 1 1) 0 a rd' → yE 4 (pV b (rdP V y g res)) mX7_readTrain 16 [some (.ref 1), some (.ref y), some (.int (iI i)), a3] [] (rdr U a mm 0 g) b := by
        intro a mm ha hra
        obtain ⟨p, hp⟩ : ∃ p, p = sk (V 2) (V 1 1) a := ⟨_, rfl⟩
        obtain ⟨e, he⟩ : ∃ e, e = de (V 2) (V 1 1) p := ⟨_, rfl⟩
        obtain ⟨v, hv⟩ : ∃ v, v = va (V 2) (V 1 1) p := ⟨_, rfl⟩
        have hkp := sk_rg (t := V 2) ha.2
        rw [← hp] at hkp
        have hde := de_rg (t := V 2) hkp.2
        rw [← he] at hde
        have hva := va_rg (t := V 2) (n := V 1 1) (p := p)
        rw [← hv] at hva
        have hnr := nF_rg e p v 0 (rd' 5 - 1)
        have hcall := ct_X7_readNumber (V := U) (b := b) (s := a) (m := mm) (f := 0) (g := g) (lo := 0) (hi := rd' 5 - 1) (by omega) (by omega) hTU (by rw [u1]; exact ha) (by omega)
        rw [u1, u2, ← hp, ← he, ← hv, if_pos rfl] at hcall
        have hro := fun h => pTr_f (rd := rd') (t := V 2) (n := V 1 1) (a := a) (k := 0) h
        have hrg := fun h => pTr_z (rd := rd') (t := V 2) (n := V 1 1) (a := a) h
        rw [← hp, ← he, ← hv] at hro
        rw [← hp, ← he, ← hv] at hrg
        refine z_aload_n dX7_readTrain_16 rfl ?_
        refine y_iconst dX7_readTrain_17 ?_
        refine z_aload_n dX7_readTrain_18 rfl ?_
        refine y_getI (j := 7) fX7_99 dX7_readTrain_19 rfl (by first | assumption | rfl) ?_
        rw [rdr_o (by omega), u7.1]
        refine y_iconst dX7_readTrain_22 ?_
        refine y_isub dX7_readTrain_23 ?_
        refine y_callVi (hcall) kX7_83 dX7_readTrain_24 rfl rfl (by first | assumption | rfl) rfl (by decide) rfl (Nat.le_of_ble_eq_true rfl) (fun q_24 V1 h_24 => ?_)
        obtain ⟨g1, g2⟩ := h_24
        subst g1 g2
        refine z_istore_n dX7_readTrain_27 (by decide) rfl rfl ?_
        refine z_aload_n dX7_readTrain_28 rfl ?_
        refine y_callVr (ct_X7_failed (by omega)) kX7_36 dX7_readTrain_29 rfl rfl (by first | assumption | rfl) rfl (by decide) rfl (Nat.le_of_ble_eq_true rfl) (fun r_29 h_29 => ?_)
        refine y_if_ne dX7_readTrain_32 (by omega) (fun c_32 => ?_) (fun c_32 => ?_)
        · have hn : nF e p q_24 0 (rd' 5 - 1) ≠ 0 := by omega
          rw [if_pos ⟨rfl, hn⟩]
          have hfin := bad U (i + 1) e p (nF e p q_24 0 (rd' 5 - 1)) p (some (.int (iI q_24))) (by omega) hU htU (by omega) (by omega) (by rw [hra, hro hn]) (by rw [hra, hro hn])
          refine y_iinc dX7_readTrain_52 rfl (by decide) rfl rfl ?_
          refine z_goto dX7_readTrain_55 ?_
          exact hfin
        · have hn : nF e p q_24 0 (rd' 5 - 1) = 0 := by omega
          have hn0 := nF_0 hn
          have hful := YRd_full hYU (v := q_24) (by omega) (by omega)
          rw [hn, if_neg (fun h => h.2 rfl)]
          have hfin := bad U (i + 1) e p 4 p (some (.int (iI q_24))) (by omega) hU htU (by omega) (by omega) (by rw [hra, hrg hn]) (by rw [hra, hrg hn])
          refine z_aload_n dX7_readTrain_35 rfl ?_
          refine z_iload_n dX7_readTrain_36 rfl ?_
          refine y_callVi (ct_X9_addToTrain hy (by rw [rdr_o (by omega)]; omega) (by rw [rdr_o (by omega)]; omega) (by rw [rdr_o (by omega)]; have := htU.1 q_24; omega)) kX7_102 dX7_readTrain_37 rfl rfl (by first | assumption | rfl) rfl (by decide) rfl (Nat.le_of_ble_eq_true rfl) (fun q_37 V2 h_37 => ?_)
          rw [rdr_o (by omega)] at h_37
          have h_37b := h_37.resolve_right (fun h => hful h.1)
          rw [h_37b.2.2]
          refine y_if_ne dX7_readTrain_40 (by omega) (fun c_40 => ?_) (fun c_40 => ?_)
          · omega
          · refine z_aload_n dX7_readTrain_43 rfl ?_
            refine y_iconst dX7_readTrain_44 ?_
            refine z_aload_n dX7_readTrain_45 rfl ?_
            refine y_getI (j := 3) fX7_22 dX7_readTrain_46 rfl (by first | assumption | rfl) ?_
            rw [rdr_3]
            refine y_callVv (ct_X7_fail (by omega)) kX7_58 dX7_readTrain_49 rfl rfl (by first | assumption | rfl) rfl (by decide) rfl (Nat.le_of_ble_eq_true rfl) (fun V3 h_49 => ?_)
            rw [if_pos rfl] at h_49
            subst h_49
            refine y_iinc dX7_readTrain_52 rfl (by decide) rfl rfl ?_
            refine z_goto dX7_readTrain_55 ?_
            exact hfin
      refine z_iload_n dX7_readTrain_2 rfl ?_
      refine y_bipush dX7_readTrain_3 (by decide +kernel) ?_
      refine y_icmp_gt dX7_readTrain_5 (by omega) (by omega) (fun c_5 => ?_) (fun c_5 => ?_)
      · omega
      · refine z_aload_n dX7_readTrain_8 rfl ?_
        refine z_iload_n dX7_readTrain_9 rfl ?_
        refine y_callVi (ct_X7_goesOn (by omega) hTU (by rw [u1]; exact hs') (by omega)) kX7_80 dX7_readTrain_10 rfl rfl (by first | assumption | rfl) rfl (by decide) rfl (Nat.le_of_ble_eq_true rfl) (fun q_9 V1 h_9 => ?_)
        rw [u1, u2] at h_9
        refine y_if_eq dX7_readTrain_13 (by omega) (fun c_13 => ?_) (fun c_13 => ?_)
        · have h_9b : i ≠ 0 ∧ ltT (V 2) (V 1 1) (sk (V 2) (V 1 1) s') ≠ 44 ∧ V1 = rdr U (sk (V 2) (V 1 1) s') m' 0 g := by
            rcases h_9 with h | h | h | h
            · omega
            · omega
            · omega
            · exact ⟨h.2.1, h.2.2.2⟩
          obtain ⟨n1, n2, n3⟩ := h_9b
          subst n3
          rw [if_neg n1, if_neg n2] at hr
          exact z_vret dX7_readTrain_58 rfl (Nat.le_refl 0) (Nat.le_refl 0) ⟨_, rfl, rfl, U, _, m', 0, g, rfl, hU, htU, by omega, by omega, Or.inr ⟨rfl, rfl, rd', hYU, by rw [pEnd_sk]; exact hr⟩⟩
        · rcases h_9 with h | h | h | h
          · omega
          · omega
          · obtain ⟨_, n1, _, n2, n3⟩ := h
            subst n3
            rw [if_neg n1, if_pos n2] at hr
            have := ltT_44 n2 (by omega)
            exact body _ m' (by omega) hr
          · omega
    | succ k ih =>
      intro i s' m' U rd' a3 hi hi0 hrd hYU hU htU hs' hr
      have u1 : U 1 = V 1 := hU 1 (by omega)
      have u2 : U 2 = V 2 := hU 2 (by omega)
      have hTU := tX_congr u1 u2 hT
      have hk' := sk_rg (t := V 2) hs'.2
      have u7 := hYU.2.1
      have u9 := hYU.2.2.1
      have body : ∀ (a mm : Int), (0 ≤ a ∧ a ≤ V 1 1) → res = pTr (V 2) (V 1 1) (k + 1) a rd' → yE 4 (pV b (rdP V y g res)) mX7_readTrain 16 [some (.ref 1), some (.ref y), some (.int (iI i)), a3] [] (rdr U a mm 0 g) b := by
        intro a mm ha hra
        obtain ⟨p, hp⟩ : ∃ p, p = sk (V 2) (V 1 1) a := ⟨_, rfl⟩
        obtain ⟨e, he⟩ : ∃ e, e = de (V 2) (V 1 1) p := ⟨_, rfl⟩
        obtain ⟨v, hv⟩ : ∃ v, v = va (V 2) (V 1 1) p := ⟨_, rfl⟩
        have hkp := sk_rg (t := V 2) ha.2
        rw [← hp] at hkp
        have hde := de_rg (t := V 2) hkp.2
        rw [← he] at hde
        have hva := va_rg (t := V 2) (n := V 1 1) (p := p)
        rw [← hv] at hva
        have hnr := nF_rg e p v 0 (rd' 5 - 1)
        have hcall := ct_X7_readNumber (V := U) (b := b) (s := a) (m := mm) (f := 0) (g := g) (lo := 0) (hi := rd' 5 - 1) (by omega) (by omega) hTU (by rw [u1]; exact ha) (by omega)
        rw [u1, u2, ← hp, ← he, ← hv, if_pos rfl] at hcall
        have hro := fun h => pTr_f (rd := rd') (t := V 2) (n := V 1 1) (a := a) (k := k + 1) h
        have hrg := fun h => pTr_g (rd := rd') (t := V 2) (n := V 1 1) (a := a) (k := k) h
        rw [← hp, ← he, ← hv] at hro
        rw [← hp, ← he, ← hv] at hrg
        obtain ⟨U', hU'⟩ : ∃ U', U' = vst (vst U (y + 5) v (U y 9)) y 9 (U y 9 + 1) := ⟨_, rfl⟩
        have hUo : ∀ a, a < y ∨ y + 5 < a → U' a = V a := fun a ha => by rw [hU', vst_o (by omega), vst_o (by omega)]; exact hU a ha
        have htU' : tuR U' y := by
          unfold tuR
          rw [hU', vst_o (show y + 6 ≠ y by omega), vst_o (show y + 6 ≠ y + 5 by omega), vst_o (show y + 5 ≠ y by omega)]
          refine ⟨fun j => ?_, htU.2⟩
          by_cases hj : j = v
          · subst hj; rw [vst_s]; omega
          · rw [vst_n hj]; exact htU.1 j
        refine z_aload_n dX7_readTrain_16 rfl ?_
        refine y_iconst dX7_readTrain_17 ?_
        refine z_aload_n dX7_readTrain_18 rfl ?_
        refine y_getI (j := 7) fX7_99 dX7_readTrain_19 rfl (by first | assumption | rfl) ?_
        rw [rdr_o (by omega), u7.1]
        refine y_iconst dX7_readTrain_22 ?_
        refine y_isub dX7_readTrain_23 ?_
        refine y_callVi (hcall) kX7_83 dX7_readTrain_24 rfl rfl (by first | assumption | rfl) rfl (by decide) rfl (Nat.le_of_ble_eq_true rfl) (fun q_24 V1 h_24 => ?_)
        obtain ⟨g1, g2⟩ := h_24
        subst g1 g2
        refine z_istore_n dX7_readTrain_27 (by decide) rfl rfl ?_
        refine z_aload_n dX7_readTrain_28 rfl ?_
        refine y_callVr (ct_X7_failed (by omega)) kX7_36 dX7_readTrain_29 rfl rfl (by first | assumption | rfl) rfl (by decide) rfl (Nat.le_of_ble_eq_true rfl) (fun r_29 h_29 => ?_)
        refine y_if_ne dX7_readTrain_32 (by omega) (fun c_32 => ?_) (fun c_32 => ?_)
        · have hn : nF e p q_24 0 (rd' 5 - 1) ≠ 0 := by omega
          rw [if_pos ⟨rfl, hn⟩]
          have hfin := bad U (i + 1) e p (nF e p q_24 0 (rd' 5 - 1)) p (some (.int (iI q_24))) (by omega) hU htU (by omega) (by omega) (by rw [hra, hro hn]) (by rw [hra, hro hn])
          refine y_iinc dX7_readTrain_52 rfl (by decide) rfl rfl ?_
          refine z_goto dX7_readTrain_55 ?_
          exact hfin
        · have hn : nF e p q_24 0 (rd' 5 - 1) = 0 := by omega
          have hn0 := nF_0 hn
          have hmet := YRd_met hYU (v := q_24) (by omega)
          have hrr := hrg hn
          rw [← hra] at hrr
          rw [hn, if_neg (fun h => h.2 rfl)]
          refine z_aload_n dX7_readTrain_35 rfl ?_
          refine z_iload_n dX7_readTrain_36 rfl ?_
          refine y_callVi (ct_X9_addToTrain hy (by rw [rdr_o (by omega)]; omega) (by rw [rdr_o (by omega)]; omega) (by rw [rdr_o (by omega)]; have := htU.1 q_24; omega)) kX7_102 dX7_readTrain_37 rfl rfl (by first | assumption | rfl) rfl (by decide) rfl (Nat.le_of_ble_eq_true rfl) (fun q_37 V2 h_37 => ?_)
          rw [rdr_o (by omega), rdr_o (by omega), rdr_v (by omega), rdr_v (by omega), ← hU'] at h_37
          refine y_if_ne dX7_readTrain_40 (by omega) (fun c_40 => ?_) (fun c_40 => ?_)
          · have h_37b := h_37.resolve_left (fun h => by omega)
            rw [h_37b.2.2]
            rw [if_neg (fun h => hmet.1 h h_37b.1)] at hrr
            have hfin := ih (i + 1) e p U' (iup (iup rd' (34 + rd' 33) q_24) 33 (rd' 33 + 1)) (some (.int (iI q_24))) (by omega) (by omega) (by rw [iup_s]; omega) (by rw [hU']; exact YRd_train hYU (by omega) (by omega) h_37b.1) hUo htU' (by omega) (by rw [if_neg (by omega)]; exact hrr)
            refine y_iinc dX7_readTrain_52 rfl (by decide) rfl rfl ?_
            refine z_goto dX7_readTrain_55 ?_
            exact hfin
          · have h_37b := h_37.resolve_right (fun h => by omega)
            rw [h_37b.2.2]
            rw [if_pos (hmet.2 h_37b.1)] at hrr
            have hfin := bad U (i + 1) e p 4 p (some (.int (iI q_24))) (by omega) hU htU (by omega) (by omega) (by rw [hrr]) (by rw [hrr])
            refine z_aload_n dX7_readTrain_43 rfl ?_
            refine y_iconst dX7_readTrain_44 ?_
            refine z_aload_n dX7_readTrain_45 rfl ?_
            refine y_getI (j := 3) fX7_22 dX7_readTrain_46 rfl (by first | assumption | rfl) ?_
            rw [rdr_3]
            refine y_callVv (ct_X7_fail (by omega)) kX7_58 dX7_readTrain_49 rfl rfl (by first | assumption | rfl) rfl (by decide) rfl (Nat.le_of_ble_eq_true rfl) (fun V3 h_49 => ?_)
            rw [if_pos rfl] at h_49
            subst h_49
            refine y_iinc dX7_readTrain_52 rfl (by decide) rfl rfl ?_
            refine z_goto dX7_readTrain_55 ?_
            exact hfin
      refine z_iload_n dX7_readTrain_2 rfl ?_
      refine y_bipush dX7_readTrain_3 (by decide +kernel) ?_
      refine y_icmp_gt dX7_readTrain_5 (by omega) (by omega) (fun c_5 => ?_) (fun c_5 => ?_)
      · omega
      · refine z_aload_n dX7_readTrain_8 rfl ?_
        refine z_iload_n dX7_readTrain_9 rfl ?_
        refine y_callVi (ct_X7_goesOn (by omega) hTU (by rw [u1]; exact hs') (by omega)) kX7_80 dX7_readTrain_10 rfl rfl (by first | assumption | rfl) rfl (by decide) rfl (Nat.le_of_ble_eq_true rfl) (fun q_9 V1 h_9 => ?_)
        rw [u1, u2] at h_9
        refine y_if_eq dX7_readTrain_13 (by omega) (fun c_13 => ?_) (fun c_13 => ?_)
        · have h_9b : i ≠ 0 ∧ ltT (V 2) (V 1 1) (sk (V 2) (V 1 1) s') ≠ 44 ∧ V1 = rdr U (sk (V 2) (V 1 1) s') m' 0 g := by
            rcases h_9 with h | h | h | h
            · omega
            · omega
            · omega
            · exact ⟨h.2.1, h.2.2.2⟩
          obtain ⟨n1, n2, n3⟩ := h_9b
          subst n3
          rw [if_neg n1, if_neg n2] at hr
          exact z_vret dX7_readTrain_58 rfl (Nat.le_refl 0) (Nat.le_refl 0) ⟨_, rfl, rfl, U, _, m', 0, g, rfl, hU, htU, by omega, by omega, Or.inr ⟨rfl, rfl, rd', hYU, by rw [pEnd_sk]; exact hr⟩⟩
        · rcases h_9 with h | h | h | h
          · omega
          · obtain ⟨_, n1, _, n3⟩ := h
            subst n3
            rw [if_pos n1] at hr
            exact body s' m' hs' (by rw [hr, show (7 : Nat) = k + 1 by omega])
          · obtain ⟨_, n1, _, n2, n3⟩ := h
            subst n3
            rw [if_neg n1, if_pos n2] at hr
            have := ltT_44 n2 (by omega)
            exact body _ m' (by omega) hr
          · omega
  have hm := main 7 0 s m V rd none (by omega) (by omega) h0 hY (fun _ _ => rfl) htu hs (by rw [if_pos rfl]; exact hres)
  refine zC_of (by decide +kernel) (Nat.le_of_ble_eq_true rfl) rfl ?_
  refine y_iconst dX7_readTrain_0 ?_
  refine z_istore_n dX7_readTrain_1 (by decide) rfl rfl ?_
  exact hm
end

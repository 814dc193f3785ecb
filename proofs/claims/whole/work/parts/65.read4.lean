/-! ===== readRoads, readWagon ===== -/
section
variable {V : Nat → Int → Int} {b : Bool} {y : Nat} {rd : Int → Int} {s m f g : Int}
theorem rdr_v {a : Nat} {j x : Int} (h : a ≠ 1) : vst (rdr V s m f g) a j x = rdr (vst V a j x) s m f g := by
  unfold rdr vst
  funext c
  by_cases h1 : c = 1
  · subst h1
    rw [zup_n _ _ (Ne.symm h), zup_s, zup_s]
    rw [zup_n _ _ (Ne.symm h)]
  · rw [zup_n _ _ h1]
    by_cases h2 : c = a
    · subst h2; rw [zup_s, zup_s, zup_n _ _ h1]
    · rw [zup_n _ _ h2, zup_n _ _ h2, zup_n _ _ h1]
theorem pRo_f {t : Int → Int} {n a : Int} {k : Nat} (h : nF (de t n (sk t n a)) (sk t n a) (va t n (sk t n a)) 1 7 ≠ 0) : pRo t n (k + 1) a rd = (nF (de t n (sk t n a)) (sk t n a) (va t n (sk t n a)) 1 7, sk t n a, a, rd) := if_pos h
theorem pRo_g {t : Int → Int} {n a : Int} {k : Nat} (h : nF (de t n (sk t n a)) (sk t n a) (va t n (sk t n a)) 1 7 = 0) : pRo t n (k + 1) a rd = if ltT t n (sk t n (de t n (sk t n a))) = 44 ∧ k ≠ 0 then pRo t n k (sk t n (de t n (sk t n a)) + 1) (iup (iup rd (1 + rd 0) (va t n (sk t n a))) 0 (rd 0 + 1)) else pEnd t n (de t n (sk t n a)) (iup (iup rd (1 + rd 0) (va t n (sk t n a))) 0 (rd 0 + 1)) := if_neg (fun h2 => h2 h)
theorem ltT_44 {t : Int → Int} {n p x : Int} (h : ltT t n p = x) (hx : x ≠ -1) : p < n := by
  unfold ltT at h
  split at h
  · assumption
  · omega
theorem tuR_congr {U : Nat → Int → Int} (h5 : U (y + 5) = V (y + 5)) (h6 : U (y + 6) = V (y + 6)) (h : tuR V y) : tuR U y := by unfold tuR at *; rw [h5, h6]; exact h
theorem ct_X7_readRoads (hy : isY y) (hT : tX V) (hs : 0 ≤ s ∧ s ≤ V 1 1) (htu : tuR V y) (hY : YRd V y rd) (h0 : rd 0 = 0) : yC 4 mX7_readRoads [.ref 1, .ref y] (rdr V s m 0 g) b (pV b (rdP V y g (pRo (V 2) (V 1 1) 4 s rd))) := by
  obtain ⟨sy, sy1, sy2, sy3, sy4, sy5, sy6, fy0, fy1, fy2, fy3, fy4, fy5⟩ := yfacts hy b
  have yb : 120 ≤ y ∧ y ≤ 127 := by rcases hy with h | h <;> omega
  obtain ⟨res, hres⟩ : ∃ res, res = pRo (V 2) (V 1 1) 4 s rd := ⟨_, rfl⟩
  rw [← hres]
  have hT2 := hT.2
  have hT1 := hT.1
  -- once there is a fault
  have bad : ∀ (U : Nat → Int → Int) (i s' m' f' g' : Int), (0 ≤ i ∧ i ≤ 4) → (∀ a, a < y ∨ y + 5 < a → U a = V a) → tuR U y → (0 ≤ s' ∧ s' ≤ V 1 1) → (1 ≤ f' ∧ f' ≤ 4) → res.1 = f' → res.2.1 = g' → yE 4 (pV b (rdP V y g res)) mX7_readRoads 2 [some (.ref 1), some (.ref y), some (.int (iI i))] [] (rdr U s' m' f' g') b := by
    intro U i s' m' f' g' hi hU htU hs' hf' r1 r2
    have u1 : U 1 = V 1 := hU 1 (by omega)
    have u2 : U 2 = V 2 := hU 2 (by omega)
    refine z_iload_n dX7_readRoads_2 rfl ?_
    refine y_iconst dX7_readRoads_3 ?_
    refine y_icmp_ge dX7_readRoads_4 (by omega) (by omega) (fun c_4 => ?_) (fun c_4 => ?_)
    · exact z_vret dX7_readRoads_32 rfl (Nat.le_refl 0) (Nat.le_refl 0) ⟨_, rfl, rfl, U, s', m', f', g', rfl, hU, htU, hs', by omega, Or.inl ⟨by omega, r1, r2⟩⟩
    · refine z_aload_n dX7_readRoads_7 rfl ?_
      refine z_iload_n dX7_readRoads_8 rfl ?_
      refine y_callVi (ct_X7_goesOn (by omega) (tX_congr u1 u2 hT) (by rw [u1]; exact hs') (by omega)) kX7_80 dX7_readRoads_9 rfl rfl (by first | assumption | rfl) rfl (by decide) rfl (Nat.le_of_ble_eq_true rfl) (fun q_9 V1 h_9 => ?_)
      have h_9b : q_9 = 0 ∧ V1 = rdr U s' m' f' g' := by
        rcases h_9 with h | h | h | h
        · exact h.2
        · omega
        · omega
        · omega
      obtain ⟨e9, e9b⟩ := h_9b
      subst e9b
      refine y_if_eq dX7_readRoads_12 (by omega) (fun c_12 => ?_) (fun c_12 => ?_)
      · exact z_vret dX7_readRoads_32 rfl (Nat.le_refl 0) (Nat.le_refl 0) ⟨_, rfl, rfl, U, s', m', f', g', rfl, hU, htU, hs', by omega, Or.inl ⟨by omega, r1, r2⟩⟩
      · omega
  have main : ∀ (k : Nat) (i s' m' : Int) (U : Nat → Int → Int) (rd' : Int → Int), i + k = 4 → 0 ≤ i → rd' 0 = i → YRd U y rd' → (∀ a, a < y ∨ y + 5 < a → U a = V a) → tuR U y → (0 ≤ s' ∧ s' ≤ V 1 1) → res = (if i = 0 then pRo (V 2) (V 1 1) 4 s' rd' else if ltT (V 2) (V 1 1) (sk (V 2) (V 1 1) s') = 44 ∧ k ≠ 0 then pRo (V 2) (V 1 1) k (sk (V 2) (V 1 1) s' + 1) rd' else pEnd (V 2) (V 1 1) s' rd') → yE 4 (pV b (rdP V y g res)) mX7_readRoads 2 [some (.ref 1), some (.ref y), some (.int (iI i))] [] (rdr U s' m' 0 g) b := by
    intro k
    induction k with
    | zero =>
      intro i s' m' U rd' hi hi0 hrd hYU hU htU hs' hr
      rw [if_neg (by omega), if_neg (by omega)] at hr
      refine z_iload_n dX7_readRoads_2 rfl ?_
      refine y_iconst dX7_readRoads_3 ?_
      refine y_icmp_ge dX7_readRoads_4 (by omega) (by omega) (fun c_4 => ?_) (fun c_4 => ?_)
      · exact z_vret dX7_readRoads_32 rfl (Nat.le_refl 0) (Nat.le_refl 0) ⟨_, rfl, rfl, U, s', m', 0, g, rfl, hU, htU, hs', by omega, Or.inr ⟨rfl, rfl, rd', hYU, hr⟩⟩
      · omega
    | succ k ih =>
      intro i s' m' U rd' hi hi0 hrd hYU hU htU hs' hr
      have u1 : U 1 = V 1 := hU 1 (by omega)
      have u2 : U 2 = V 2 := hU 2 (by omega)
      have hTU := tX_congr u1 u2 hT
      have hk' := sk_rg (t := V 2) hs'.2
      have u6 : U y 6 = i := by rw [hYU.1.1, hrd]
      have body : ∀ (a mm : Int), (0 ≤ a ∧ a ≤ V 1 1) → res = pRo (V 2) (V 1 1) (k + 1) a rd' → yE 4 (pV b (rdP V y g res)) mX7_readRoads 15 [some (.ref 1), some (.ref y), some (.int (iI i))] [] (rdr U a mm 0 g) b := by
        intro a mm ha hra
        obtain ⟨p, hp⟩ : ∃ p, p = sk (V 2) (V 1 1) a := ⟨_, rfl⟩
        obtain ⟨e, he⟩ : ∃ e, e = de (V 2) (V 1 1) p := ⟨_, rfl⟩
        obtain ⟨v, hv⟩ : ∃ v, v = va (V 2) (V 1 1) p := ⟨_, rfl⟩
        have hkp := sk_rg (t := V 2) ha.2
        rw [← hp] at hkp
        have hde := de_rg (t := V 2) hkp.2
        rw [← he] at hde
        have hva := va_rg (t := V 2) (n := V 1 1) (p := p)
        rw [← hv] at hva
        have hnr := nF_rg e p v 1 7
        have hcall := ct_X7_readNumber (V := U) (b := b) (s := a) (m := mm) (f := 0) (g := g) (lo := 1) (hi := 7) (by omega) (by omega) hTU (by rw [u1]; exact ha) (by omega)
        rw [u1, u2, ← hp, ← he, ← hv, if_pos rfl] at hcall
        have hro := fun h => pRo_f (rd := rd') (t := V 2) (n := V 1 1) (a := a) (k := k) h
        have hrg := fun h => pRo_g (rd := rd') (t := V 2) (n := V 1 1) (a := a) (k := k) h
        rw [← hp, ← he, ← hv] at hro hrg
        obtain ⟨U', hU'⟩ : ∃ U', U' = vst (vst U (y + 1) (U y 6) v) y 6 (U y 6 + 1) := ⟨_, rfl⟩
        have hUo : ∀ a, a < y ∨ y + 5 < a → U' a = V a := fun a ha => by rw [hU', vst_o (by omega), vst_o (by omega)]; exact hU a ha
        have htU' : tuR U' y := tuR_congr (by rw [hU', vst_o (by omega), vst_o (by omega)]) (by rw [hU', vst_o (by omega), vst_o (by omega)]) htU
        refine z_aload_n dX7_readRoads_15 rfl ?_
        refine z_aload_n dX7_readRoads_16 rfl ?_
        refine y_iconst dX7_readRoads_17 ?_
        refine y_bipush dX7_readRoads_18 (by decide +kernel) ?_
        refine y_callVi (hcall) kX7_83 dX7_readRoads_20 rfl rfl (by first | assumption | rfl) rfl (by decide) rfl (Nat.le_of_ble_eq_true rfl) (fun q_20 V1 h_20 => ?_)
        obtain ⟨g1, g2⟩ := h_20
        subst g1 g2
        refine y_callVv (ct_X9_addRoad hy (by rw [rdr_o (by omega)]; omega)) kX7_87 dX7_readRoads_23 rfl rfl (by first | assumption | rfl) rfl (by decide) rfl (Nat.le_of_ble_eq_true rfl) (fun V2 h_23 => ?_)
        rw [rdr_v (by omega), rdr_v (by omega), rdr_o (by omega), ← hU'] at h_23
        subst h_23
        refine y_iinc dX7_readRoads_26 rfl (by decide) rfl rfl ?_
        refine z_goto dX7_readRoads_29 ?_
        by_cases hn : nF e p q_20 1 7 = 0
        · rw [hn, if_neg (fun h => h.2 rfl)]
          refine ih (i + 1) e p U' (iup (iup rd' (1 + rd' 0) q_20) 0 (rd' 0 + 1)) (by omega) (by omega) (by rw [iup_s]; omega) ?_ hUo htU' (by omega) ?_
          · rw [hU']; exact YRd_road hYU (by omega) ⟨(nF_0 hn).1, (nF_0 hn).2.1⟩
          · rw [if_neg (by omega), hra, hrg hn]
        · rw [if_pos ⟨rfl, hn⟩]
          refine bad U' (i + 1) e p (nF e p q_20 1 7) p (by omega) hUo htU' (by omega) (by omega) ?_ ?_
          · rw [hra, hro hn]
          · rw [hra, hro hn]
      refine z_iload_n dX7_readRoads_2 rfl ?_
      refine y_iconst dX7_readRoads_3 ?_
      refine y_icmp_ge dX7_readRoads_4 (by omega) (by omega) (fun c_4 => ?_) (fun c_4 => ?_)
      · omega
      · refine z_aload_n dX7_readRoads_7 rfl ?_
        refine z_iload_n dX7_readRoads_8 rfl ?_
        refine y_callVi (ct_X7_goesOn (by omega) hTU (by rw [u1]; exact hs') (by omega)) kX7_80 dX7_readRoads_9 rfl rfl (by first | assumption | rfl) rfl (by decide) rfl (Nat.le_of_ble_eq_true rfl) (fun q_9 V1 h_9 => ?_)
        rw [u1, u2] at h_9
        refine y_if_eq dX7_readRoads_12 (by omega) (fun c_12 => ?_) (fun c_12 => ?_)
        · have h_9b : i ≠ 0 ∧ ltT (V 2) (V 1 1) (sk (V 2) (V 1 1) s') ≠ 44 ∧ V1 = rdr U (sk (V 2) (V 1 1) s') m' 0 g := by
            rcases h_9 with h | h | h | h
            · omega
            · omega
            · omega
            · exact ⟨h.2.1, h.2.2.2⟩
          obtain ⟨n1, n2, n3⟩ := h_9b
          subst n3
          rw [if_neg n1, if_neg (fun h => n2 h.1)] at hr
          exact z_vret dX7_readRoads_32 rfl (Nat.le_refl 0) (Nat.le_refl 0) ⟨_, rfl, rfl, U, _, m', 0, g, rfl, hU, htU, by omega, by omega, Or.inr ⟨rfl, rfl, rd', hYU, by rw [pEnd_sk]; exact hr⟩⟩
        · rcases h_9 with h | h | h | h
          · omega
          · obtain ⟨_, n1, _, n3⟩ := h
            subst n3
            rw [if_pos n1] at hr
            exact body s' m' hs' (by rw [hr, show (4 : Nat) = k + 1 by omega])
          · obtain ⟨_, n1, _, n2, n3⟩ := h
            subst n3
            rw [if_neg n1, if_pos ⟨n2, by omega⟩] at hr
            have := ltT_44 n2 (by omega)
            exact body _ m' (by omega) hr
          · omega
  have hm := main 4 0 s m V rd (by omega) (by omega) h0 hY (fun _ _ => rfl) htu hs (by rw [if_pos rfl]; exact hres)
  refine zC_of (by decide +kernel) (Nat.le_of_ble_eq_true rfl) rfl ?_
  refine y_iconst dX7_readRoads_0 ?_
  refine z_istore_n dX7_readRoads_1 (by decide) rfl rfl ?_
  exact hm
end

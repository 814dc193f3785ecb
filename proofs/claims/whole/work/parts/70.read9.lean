/-! ===== readInto ===== -/
section
variable {V : Nat → Int → Int} {b : Bool} {y : Nat} {rd : Int → Int} {s m f g : Int}
def riP (V : Nat → Int → Int) (y : Nat) (res : pRs) (q : Int) (V' : Nat → Int → Int) : Prop := ∃ U s' m' f' g', V' = vst (rdr U s' m' f' g') 1 1 0 ∧ (∀ a, a < y ∨ y + 5 < a → U a = V a) ∧ tuR U y ∧ q = f' ∧ (0 ≤ f' ∧ f' ≤ 4) ∧ res.1 = f' ∧ ((f' ≠ 0 ∧ res.2.1 = g') ∨ (f' = 0 ∧ g' = -1 ∧ YRd U y res.2.2.2))
theorem YRd_0 {rd : Int → Int} (h : V y 6 = 0 ∧ V y 7 = 0 ∧ V y 8 = 0 ∧ V y 9 = 0) (hr : ∀ j, 0 ≤ j → j ≤ 40 → rd j = 0) : YRd V y rd := by
  obtain ⟨h1, h2, h3, h4⟩ := h
  unfold YRd
  rw [h1, h2, h3, h4, hr 0 (by omega) (by omega), hr 5 (by omega) (by omega), hr 33 (by omega) (by omega), hr 32 (by omega) (by omega)]
  refine ⟨⟨rfl, by omega, by omega⟩, ⟨rfl, by omega, by omega⟩, ⟨rfl, by omega, by omega⟩, fun r r0 r1 => by omega, fun w w0 w1 => by omega, ⟨by omega, by omega, by decide, by omega, fun a _ _ => by rw [hr _ (by omega) (by omega)]; exact ⟨by omega, by omega, fun c _ _ => by rw [tb_0, tb_0]⟩⟩, fun i i0 i1 => by omega, fun w w0 w1 => by omega⟩
theorem ct_X7_readInto (hy : isY y) (hT : tX V) (htu : tuR V y) {rd0 : Int → Int} (hr0 : ∀ j, 0 ≤ j → j ≤ 40 → rd0 j = 0) : yC 6 mX7_readInto [.ref 1, .ref y] V b (pI b (fun q V' => riP V y (pYd (V 2) (V 1 1) 230 0 rd0) q V')) := by
  obtain ⟨sy, sy1, sy2, sy3, sy4, sy5, sy6, fy0, fy1, fy2, fy3, fy4, fy5⟩ := yfacts hy b
  have yb : 120 ≤ y ∧ y ≤ 127 := by rcases hy with h | h <;> omega
  obtain ⟨hT1, hT2⟩ := id hT
  obtain ⟨res, hres⟩ : ∃ res, res = pYd (V 2) (V 1 1) 230 0 rd0 := ⟨_, rfl⟩
  rw [← hres]
  have out : ∀ (U : Nat → Int → Int) (s m f g : Int) (a2 : Option Value), (∀ a, a < y ∨ y + 5 < a → U a = V a) → tuR U y → (0 ≤ f ∧ f ≤ 4) → res.1 = f → ((f ≠ 0 ∧ res.2.1 = g) ∨ (f = 0 ∧ g = -1 ∧ YRd U y res.2.2.2)) → yE 6 (pI b (fun q V' => riP V y res q V')) mX7_readInto 53 [some (.ref 1), some (.ref y), a2] [] (rdr U s m f g) b := by
    intro U s m f g a2 hU htU hf h1 h2
    have e4 : vst (rdr U s m f g) 1 1 0 1 4 = f := by rw [vst_n (by decide), rdr_4]
    refine z_aload_n dX7_readInto_53 rfl ?_
    refine y_iconst dX7_readInto_54 ?_
    refine y_putI (j := 1) fX7_15 dX7_readInto_55 rfl (by first | assumption | rfl) ?_
    refine z_aload_n dX7_readInto_58 rfl ?_
    refine y_getI (j := 4) fX7_25 dX7_readInto_59 rfl (by first | assumption | rfl) ?_
    rw [e4]
    exact z_iret dX7_readInto_62 rfl (Nat.le_refl 0) (Nat.le_refl 0) ⟨_, _, rfl, rfl, U, s, m, f, g, rfl, hU, htU, rfl, hf, h1, h2⟩
  have loop : ∀ (k : Nat) (c s m f g : Int) (U : Nat → Int → Int), c + k = 230 → 0 ≤ c → (∀ a, a < y ∨ y + 5 < a → U a = V a) → tuR U y → (0 ≤ s ∧ s ≤ V 1 1) → (0 ≤ f ∧ f ≤ 4) → ((f ≠ 0 ∧ res.1 = f ∧ res.2.1 = g) ∨ (f = 0 ∧ g = -1 ∧ ∃ rd, YRd U y rd ∧ res = pYd (V 2) (V 1 1) k s rd)) → yE 6 (pI b (fun q V' => riP V y res q V')) mX7_readInto 21 [some (.ref 1), some (.ref y), some (.int (iI c))] [] (rdr U s m f g) b := by
    intro k
    induction k with
    | zero =>
      intro c s m f g U hc hc0 hU htU hs hf hor
      have h53 : yE 6 (pI b (fun q V' => riP V y res q V')) mX7_readInto 53 [some (.ref 1), some (.ref y), some (.int (iI c))] [] (rdr U s m f g) b := by
        rcases hor with ⟨h0, h1, h2⟩ | ⟨h0, h1, rd, h2, h3⟩
        · exact out U s m f g _ hU htU hf h1 (Or.inl ⟨h0, h2⟩)
        · have h3' : res = (0, -1, s, rd) := h3
          exact out U s m f g _ hU htU hf (by rw [h3']; exact h0.symm) (Or.inr ⟨h0, h1, by rw [h3']; exact h2⟩)
      refine z_iload_n dX7_readInto_21 rfl ?_
      refine y_sipush dX7_readInto_22 (by decide +kernel) ?_
      refine y_icmp_ge dX7_readInto_25 (by omega) (by omega) (fun c_25 => ?_) (fun c_25 => ?_)
      · exact h53
      · omega
    | succ k ih =>
      intro c s m f g U hc hc0 hU htU hs hf hor
      have u1 : U 1 = V 1 := hU 1 (by omega)
      have u2 : U 2 = V 2 := hU 2 (by omega)
      have hTU := tX_congr u1 u2 hT
      have hk := sk_rg (t := V 2) hs.2
      have hae := ct_X7_atEnd (V := U) (b := b) (s := s) (m := m) (f := f) (g := g) hTU (by rw [u1]; exact hs)
      rw [u1, u2] at hae
      refine z_iload_n dX7_readInto_21 rfl ?_
      refine y_sipush dX7_readInto_22 (by decide +kernel) ?_
      refine y_icmp_ge dX7_readInto_25 (by omega) (by omega) (fun c_25 => ?_) (fun c_25 => ?_)
      · omega
      · refine z_aload_n dX7_readInto_28 rfl ?_
        refine y_callVr (ct_X7_failed hf) kX7_36 dX7_readInto_29 rfl rfl (by first | assumption | rfl) rfl (by decide) rfl (Nat.le_of_ble_eq_true rfl) (fun r_29 h_29 => ?_)
        refine y_if_ne dX7_readInto_32 (by omega) (fun c_32 => ?_) (fun c_32 => ?_)
        · (rcases hor with ⟨h0, h1, h2⟩ | ⟨h0, h1, rd, h2, h3⟩; exact out U s m f g _ hU htU hf h1 (Or.inl ⟨h0, h2⟩); omega)
        · have hf0 : f = 0 := by omega
          obtain ⟨_, hg, rd, hYU, hr⟩ := hor.resolve_left (fun h => h.1 hf0)
          subst hf0
          subst hg
          have hr' : res = if sk (V 2) (V 1 1) s = V 1 1 then (0, -1, V 1 1, rd) else if (pCl (V 2) (V 1 1) (sk (V 2) (V 1 1) s) rd).1 ≠ 0 then pCl (V 2) (V 1 1) (sk (V 2) (V 1 1) s) rd else pYd (V 2) (V 1 1) k (pCl (V 2) (V 1 1) (sk (V 2) (V 1 1) s) rd).2.2.1 (pCl (V 2) (V 1 1) (sk (V 2) (V 1 1) s) rd).2.2.2 := hr
          refine z_aload_n dX7_readInto_35 rfl ?_
          refine y_callVi (hae) kX7_40 dX7_readInto_36 rfl rfl (by first | assumption | rfl) rfl (by decide) rfl (Nat.le_of_ble_eq_true rfl) (fun q_36 V1 h_36 => ?_)
          obtain ⟨k1, k2⟩ := h_36
          subst k1
          refine y_if_ne dX7_readInto_39 (by omega) (fun c_39 => ?_) (fun c_39 => ?_)
          · rw [if_pos (by omega)] at hr'
            exact out U _ m 0 (-1) _ hU htU (by omega) (by rw [hr']) (Or.inr ⟨rfl, rfl, by rw [hr']; exact hYU⟩)
          · rw [if_neg (by omega)] at hr'
            have hcl := ct_X7_readClause (V := U) (b := b) (rd := rd) (s := sk (V 2) (V 1 1) s) (m := m) (g := -1) hy hTU (by rw [u1]; omega) htU hYU
            rw [u1, u2] at hcl
            refine z_aload_n dX7_readInto_42 rfl ?_
            refine z_aload_n dX7_readInto_43 rfl ?_
            refine y_callVv (hcl) kX7_43 dX7_readInto_44 rfl rfl (by first | assumption | rfl) rfl (by decide) rfl (Nat.le_of_ble_eq_true rfl) (fun V2 h_44 => ?_)
            obtain ⟨U', s', m', f', g', rfl, w1, w2, w3, w4, w5, w6⟩ := h_44
            rw [u1] at w3
            have hnx := ih (c + 1) s' m' f' g' U' (by omega) (by omega) (fun a ha => by rw [w1 a ha]; exact hU a ha) w2 w3 w4 (by
              rcases w6 with ⟨z1, z2⟩ | ⟨z1, z2, z3, z4⟩
              · rw [if_pos (by omega)] at hr'
                exact Or.inl ⟨z1, by rw [hr']; exact w5, by rw [hr']; exact z2⟩
              · rw [if_neg (by omega), z3] at hr'
                exact Or.inr ⟨z1, z2, _, z4, hr'⟩)
            refine y_iinc dX7_readInto_47 rfl (by decide) rfl rfl ?_
            refine z_goto dX7_readInto_50 ?_
            exact hnx
  obtain ⟨U0, hU0⟩ : ∃ U0, U0 = vst (vst (vst (vst V y 6 0) y 7 0) y 8 0) y 9 0 := ⟨_, rfl⟩
  have ho0 : ∀ a, a ≠ y → U0 a = V a := fun a ha => by rw [hU0, vst_o ha, vst_o ha, vst_o ha, vst_o ha]
  have e0 : vst (vst (vst V 1 2 0) 1 4 0) 1 5 (-1) = rdr V 0 (V 1 3) 0 (-1) := by
    have h1 := rdr_u2 (V := V) (s := V 1 2) (m := V 1 3) (f := V 1 4) (g := V 1 5) (x := 0)
    have h2 := rdr_u4 (V := V) (s := 0) (m := V 1 3) (f := V 1 4) (g := V 1 5) (x := 0)
    have h3 := rdr_u5 (V := V) (s := 0) (m := V 1 3) (f := 0) (g := V 1 5) (x := -1)
    rw [rdr_id] at h1
    rw [h1, h2, h3]
  have h0 := loop 230 0 0 (V 1 3) 0 (-1) U0 (by omega) (by omega) (fun a ha => ho0 a (by omega)) (tuR_congr (ho0 _ (by omega)) (ho0 _ (by omega)) htu) (by omega) (by omega) (Or.inr ⟨rfl, rfl, _, YRd_0 ⟨by rw [hU0, vst_n (by decide), vst_n (by decide), vst_n (by decide), vst_s], by rw [hU0, vst_n (by decide), vst_n (by decide), vst_s], by rw [hU0, vst_n (by decide), vst_s], by rw [hU0, vst_s]⟩ hr0, hres⟩)
  refine zC_of (by decide +kernel) (Nat.le_of_ble_eq_true rfl) rfl ?_
  refine z_aload_n dX7_readInto_0 rfl ?_
  refine y_iconst dX7_readInto_1 ?_
  refine y_putI (j := 2) fX7_19 dX7_readInto_2 rfl (by first | assumption | rfl) ?_
  refine z_aload_n dX7_readInto_5 rfl ?_
  refine y_iconst dX7_readInto_6 ?_
  refine y_putI (j := 4) fX7_25 dX7_readInto_7 rfl (by first | assumption | rfl) ?_
  refine z_aload_n dX7_readInto_10 rfl ?_
  refine y_iconst dX7_readInto_11 ?_
  refine y_putI (j := 5) fX7_28 dX7_readInto_12 rfl (by first | assumption | rfl) ?_
  rw [e0]
  refine z_aload_n dX7_readInto_15 rfl ?_
  refine y_callVv (ct_X9_clear hy) kX7_31 dX7_readInto_16 rfl rfl (by first | assumption | rfl) rfl (by decide) rfl (Nat.le_of_ble_eq_true rfl) (fun V2 h_16 => ?_)
  rw [rdr_v (by omega), rdr_v (by omega), rdr_v (by omega), rdr_v (by omega), ← hU0] at h_16
  subst h_16
  refine y_iconst dX7_readInto_19 ?_
  refine z_istore_n dX7_readInto_20 (by decide) rfl rfl ?_
  exact h0
end

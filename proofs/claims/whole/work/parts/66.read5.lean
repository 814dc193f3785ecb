/-! ===== readWagon, readGrudge ===== -/
theorem popN_or {x k : Nat} (h : x.testBit k = false) : ∀ n, popN (x ||| 2 ^ k) n = popN x n + if k < n then 1 else 0
  | 0 => by simp [popN]
  | n + 1 => by
    show popN (x ||| 2 ^ k) n + (if (x ||| 2 ^ k).testBit n = true then 1 else 0) = popN x n + (if x.testBit n = true then 1 else 0) + _
    rw [popN_or h n, Nat.testBit_or]
    by_cases hk : k = n
    · subst hk
      rw [h, Nat.testBit_two_pow_self]
      simp
    · rw [Nat.testBit_two_pow_of_ne hk, Bool.or_false]
      by_cases h1 : k < n
      · rw [if_pos h1, if_pos (show k < n + 1 by omega)]; omega
      · rw [if_neg h1, if_neg (show ¬ k < n + 1 by omega)]; omega
section
variable {V : Nat → Int → Int} {b : Bool} {y : Nat} {rd : Int → Int} {s m f g : Int}
theorem YRd_wagon {v1 v2 v3 : Int} (hY : YRd V y rd) (hr : rd 5 ≤ 6) (hv1 : 0 ≤ v1 ∧ v1 ≤ 4) (hv2 : 1 ≤ v2 ∧ v2 ≤ 30) (hv3 : 0 ≤ v3 ∧ v3 ≤ 20) : YRd (vst (vst (vst (vst (vst V (y + 2) (V y 7) v1) (y + 3) (V y 7) v2) (y + 4) (V y 7) v3) (y + 5) (V y 7) (-1)) y 7 (V y 7 + 1)) y (iup (iup (iup (iup rd (6 + rd 5) v1) (13 + rd 5) v2) (20 + rd 5) v3) 5 (rd 5 + 1)) := by
  obtain ⟨⟨a1, a2, a3⟩, ⟨b1, b2, b3⟩, ⟨c1, c2, c3⟩, d, e, ⟨f1, f2, f3, f4, f5⟩, g, h⟩ := hY
  rw [b1]
  obtain ⟨U, hU⟩ : ∃ U, U = vst (vst (vst (vst (vst V (y + 2) (rd 5) v1) (y + 3) (rd 5) v2) (y + 4) (rd 5) v3) (y + 5) (rd 5) (-1)) y 7 (rd 5 + 1) := ⟨_, rfl⟩
  rw [← hU]
  have ey : ∀ j, j ≠ 7 → U y j = V y j := fun j hj => by rw [hU, vst_n hj, vst_o (by omega), vst_o (by omega), vst_o (by omega), vst_o (by omega)]
  have ey7 : U y 7 = rd 5 + 1 := by rw [hU, vst_s]
  have eo : U (y + 1) = V (y + 1) := by rw [hU, vst_o (by omega), vst_o (by omega), vst_o (by omega), vst_o (by omega), vst_o (by omega)]
  have e2 : ∀ w, U (y + 2) w = if w = rd 5 then v1 else V (y + 2) w := fun w => by
    rw [hU, vst_o (by omega), vst_o (by omega), vst_o (by omega), vst_o (by omega)]
    split
    · subst_vars; rw [vst_s]
    · rw [vst_n (by assumption)]
  have e3 : ∀ w, U (y + 3) w = if w = rd 5 then v2 else V (y + 3) w := fun w => by
    rw [hU, vst_o (by omega), vst_o (by omega), vst_o (by omega)]
    split
    · subst_vars; rw [vst_s]
    · rw [vst_n (by assumption), vst_o (by omega)]
  have e4 : ∀ w, U (y + 4) w = if w = rd 5 then v3 else V (y + 4) w := fun w => by
    rw [hU, vst_o (by omega), vst_o (by omega)]
    split
    · subst_vars; rw [vst_s]
    · rw [vst_n (by assumption), vst_o (by omega), vst_o (by omega)]
  have e5 : ∀ w, U (y + 5) w = if w = rd 5 then -1 else V (y + 5) w := fun w => by
    rw [hU, vst_o (by omega)]
    split
    · subst_vars; rw [vst_s]
    · rw [vst_n (by assumption), vst_o (by omega), vst_o (by omega), vst_o (by omega)]
  obtain ⟨rd', hrd⟩ : ∃ rd', rd' = iup (iup (iup (iup rd (6 + rd 5) v1) (13 + rd 5) v2) (20 + rd 5) v3) 5 (rd 5 + 1) := ⟨_, rfl⟩
  rw [← hrd]
  have er : ∀ j, j ≠ 5 → j ≠ 6 + rd 5 → j ≠ 13 + rd 5 → j ≠ 20 + rd 5 → rd' j = rd j := fun j h1 h2 h3 h4 => by rw [hrd, iup_n h1, iup_n h4, iup_n h3, iup_n h2]
  have r5 : rd' 5 = rd 5 + 1 := by rw [hrd, iup_s]
  have r6 : rd' (6 + rd 5) = v1 := by rw [hrd, iup_n (by omega), iup_n (by omega), iup_n (by omega), iup_s]
  have r13 : rd' (13 + rd 5) = v2 := by rw [hrd, iup_n (by omega), iup_n (by omega), iup_s]
  have r20 : rd' (20 + rd 5) = v3 := by rw [hrd, iup_n (by omega), iup_s]
  unfold YRd
  rw [r5, er 0 (by omega) (by omega) (by omega) (by omega), er 33 (by omega) (by omega) (by omega) (by omega), er 32 (by omega) (by omega) (by omega) (by omega), ey7, ey 6 (by omega), ey 9 (by omega), ey 8 (by omega), eo]
  refine ⟨⟨a1, a2, a3⟩, ⟨rfl, by omega, by omega⟩, ⟨c1, c2, c3⟩, fun r r0 r1 => ?_, fun w w0 w1 => ?_, ⟨f1, f2, f3, f4, fun a q0 q1 => ?_⟩, fun i i0 i1 => ?_, fun w w0 w1 => ?_⟩
  · rw [er _ (by omega) (by omega) (by omega) (by omega)]; exact d r r0 r1
  · rw [e2, e3, e4]
    by_cases hw : w = rd 5
    · subst hw
      rw [if_pos rfl, if_pos rfl, if_pos rfl, r6, r13, r20]
      exact ⟨⟨rfl, hv1⟩, ⟨rfl, hv2⟩, ⟨rfl, hv3⟩⟩
    · rw [if_neg hw, if_neg hw, if_neg hw, er _ (by omega) (by omega) (by omega) (by omega), er _ (by omega) (by omega) (by omega) (by omega), er _ (by omega) (by omega) (by omega) (by omega)]
      exact e w w0 (by omega)
  · rw [er _ (by omega) (by omega) (by omega) (by omega)]; exact f5 a q0 q1
  · obtain ⟨g1, g2, g3⟩ := g i i0 i1
    rw [er _ (by omega) (by omega) (by omega) (by omega), e5, if_neg (by omega)]
    exact ⟨g1, by omega, g3⟩
  · rw [e5]
    by_cases hw : w = rd 5
    · rw [if_pos hw]; exact Or.inl rfl
    · rw [if_neg hw]
      rcases h w w0 (by omega) with h | ⟨h1, h2, h3⟩
      · exact Or.inl h
      · exact Or.inr ⟨h1, h2, by rw [er _ (by omega) (by omega) (by omega) (by omega)]; exact h3⟩
theorem YRd_grudge {v1 v2 : Int} (hY : YRd V y rd) (hr : rd 32 ≤ 9) (hv1 : 0 ≤ v1 ∧ v1 ≤ 4) (hv2 : 0 ≤ v2 ∧ v2 ≤ 4) (hn : tb (V y 8) (v1 * 5 + v2) = false) : YRd (vst V y 8 (bOr (V y 8) (s1 (v1 * 5 + v2)))) y (iup (iup rd (27 + v1) (bOr (rd (27 + v1)) (s1 v2))) 32 (rd 32 + 1)) := by
  obtain ⟨⟨a1, a2, a3⟩, ⟨b1, b2, b3⟩, ⟨c1, c2, c3⟩, d, e, ⟨f1, f2, f3, f4, f5⟩, g, h⟩ := hY
  obtain ⟨U, hU⟩ : ∃ U, U = vst V y 8 (bOr (V y 8) (s1 (v1 * 5 + v2))) := ⟨_, rfl⟩
  rw [← hU]
  have ey : ∀ j, j ≠ 8 → U y j = V y j := fun j hj => by rw [hU, vst_n hj]
  have ey8 : U y 8 = bOr (V y 8) (s1 (v1 * 5 + v2)) := by rw [hU, vst_s]
  have eo : ∀ a, a ≠ y → U a = V a := fun a ha => by rw [hU, vst_o ha]
  obtain ⟨rd', hrd⟩ : ∃ rd', rd' = iup (iup rd (27 + v1) (bOr (rd (27 + v1)) (s1 v2))) 32 (rd 32 + 1) := ⟨_, rfl⟩
  rw [← hrd]
  have er : ∀ j, j ≠ 32 → j ≠ 27 + v1 → rd' j = rd j := fun j h1 h2 => by rw [hrd, iup_n h1, iup_n h2]
  have r32 : rd' 32 = rd 32 + 1 := by rw [hrd, iup_s]
  have r27 : rd' (27 + v1) = bOr (rd (27 + v1)) (s1 v2) := by rw [hrd, iup_n (by omega), iup_s]
  have p25 : (2 ^ 25 : Nat) = 33554432 := by decide
  have p5 : (2 ^ 5 : Nat) = 32 := by decide
  have hs25 : s1 (v1 * 5 + v2) ≤ 16777216 := by
    have : 2 ^ (v1 * 5 + v2).toNat ≤ 2 ^ 24 := Nat.pow_le_pow_right (by decide) (by omega)
    have p24 : (2 ^ 24 : Nat) = 16777216 := by decide
    unfold s1
    omega
  have hs5 : s1 v2 ≤ 16 := by
    have : 2 ^ v2.toNat ≤ 2 ^ 4 := Nat.pow_le_pow_right (by decide) (by omega)
    have p4 : (2 ^ 4 : Nat) = 16 := by decide
    unfold s1
    omega
  have hb25 := bOr_lt (x := V y 8) (y := s1 (v1 * 5 + v2)) 25 (by omega) (by omega)
  have hbn := bOr_nn (V y 8) (s1 (v1 * 5 + v2))
  have hpop : (popN (bOr (V y 8) (s1 (v1 * 5 + v2))).toNat 32 : Int) = rd 32 + 1 := by
    unfold bOr s1
    rw [Int.toNat_natCast, Int.toNat_natCast]
    have := popN_or (x := (V y 8).toNat) (k := (v1 * 5 + v2).toNat) hn 32
    rw [if_pos (by omega)] at this
    omega
  unfold YRd
  rw [r32, er 0 (by omega) (by omega), er 33 (by omega) (by omega), er 5 (by omega) (by omega), ey8, ey 6 (by omega), ey 9 (by omega), ey 7 (by omega), eo (y + 1) (by omega), eo (y + 2) (by omega), eo (y + 3) (by omega), eo (y + 4) (by omega), eo (y + 5) (by omega)]
  refine ⟨⟨a1, a2, a3⟩, ⟨b1, b2, b3⟩, ⟨c1, c2, c3⟩, fun r r0 r1 => ?_, fun w w0 w1 => ?_, ⟨hbn, by omega, hpop, by omega, fun a q0 q1 => ?_⟩, fun i i0 i1 => ?_, fun w w0 w1 => ?_⟩
  · rw [er _ (by omega) (by omega)]; exact d r r0 r1
  · rw [er _ (by omega) (by omega), er _ (by omega) (by omega), er _ (by omega) (by omega)]; exact e w w0 w1
  · obtain ⟨k1, k2, k3⟩ := f5 a q0 q1
    by_cases ha : a = v1
    · subst ha
      rw [r27]
      have hb5 := bOr_lt (x := rd (27 + a)) (y := s1 v2) 5 (by omega) (by omega)
      refine ⟨bOr_nn _ _, by omega, fun c c0 c1 => ?_⟩
      rw [tb_or _ _ _ (by omega) (by omega), tb_or _ _ _ (by omega) (by omega), k3 c c0 c1]
      congr 1
      apply decide_eq_decide.2
      omega
    · rw [er _ (by omega) (by omega)]
      refine ⟨k1, k2, fun c c0 c1 => ?_⟩
      rw [tb_or _ _ _ (by omega) (by omega), k3 c c0 c1, decide_eq_false (by omega), Bool.or_false]
  · rw [er _ (by omega) (by omega)]; exact g i i0 i1
  · rcases h w w0 w1 with h | ⟨h1, h2, h3⟩
    · exact Or.inl h
    · exact Or.inr ⟨h1, h2, by rw [er _ (by omega) (by omega)]; exact h3⟩
theorem ct_X7_readWagon (hy : isY y) (hT : tX V) (hs : 0 ≤ s ∧ s ≤ V 1 1) (htu : tuR V y) (hY : YRd V y rd) (h5 : rd 5 ≤ 6) : yC 4 mX7_readWagon [.ref 1, .ref y] (rdr V s m 0 g) b (pV b (rdP V y g (pWa (V 2) (V 1 1) s rd))) := by
  obtain ⟨sy, sy1, sy2, sy3, sy4, sy5, sy6, fy0, fy1, fy2, fy3, fy4, fy5⟩ := yfacts hy b
  have yb : 120 ≤ y ∧ y ≤ 127 := by rcases hy with h | h <;> omega
  obtain ⟨hT1, hT2⟩ := id hT
  have hb := hY.2.1
  obtain ⟨p1, hp1⟩ : ∃ p, p = sk (V 2) (V 1 1) s := ⟨_, rfl⟩
  obtain ⟨e1, he1⟩ : ∃ e, e = de (V 2) (V 1 1) p1 := ⟨_, rfl⟩
  obtain ⟨v1, hv1⟩ : ∃ v, v = va (V 2) (V 1 1) p1 := ⟨_, rfl⟩
  obtain ⟨p2, hp2⟩ : ∃ p, p = sk (V 2) (V 1 1) e1 := ⟨_, rfl⟩
  obtain ⟨e2, he2⟩ : ∃ e, e = de (V 2) (V 1 1) p2 := ⟨_, rfl⟩
  obtain ⟨v2, hv2⟩ : ∃ v, v = va (V 2) (V 1 1) p2 := ⟨_, rfl⟩
  obtain ⟨p3, hp3⟩ : ∃ p, p = sk (V 2) (V 1 1) e2 := ⟨_, rfl⟩
  obtain ⟨e3, he3⟩ : ∃ e, e = de (V 2) (V 1 1) p3 := ⟨_, rfl⟩
  obtain ⟨v3, hv3⟩ : ∃ v, v = va (V 2) (V 1 1) p3 := ⟨_, rfl⟩
  have k1 := sk_rg (t := V 2) hs.2
  rw [← hp1] at k1
  have d1 := de_rg (t := V 2) k1.2
  rw [← he1] at d1
  have k2 := sk_rg (t := V 2) d1.2
  rw [← hp2] at k2
  have d2 := de_rg (t := V 2) k2.2
  rw [← he2] at d2
  have k3 := sk_rg (t := V 2) d2.2
  rw [← hp3] at k3
  have d3 := de_rg (t := V 2) k3.2
  rw [← he3] at d3
  have w1 := va_rg (t := V 2) (n := V 1 1) (p := p1)
  rw [← hv1] at w1
  have w2 := va_rg (t := V 2) (n := V 1 1) (p := p2)
  rw [← hv2] at w2
  have w3 := va_rg (t := V 2) (n := V 1 1) (p := p3)
  rw [← hv3] at w3
  obtain ⟨F1, hF1⟩ : ∃ F, F = nF e1 p1 v1 0 4 := ⟨_, rfl⟩
  obtain ⟨F2, hF2⟩ : ∃ F, F = nF e2 p2 v2 1 30 := ⟨_, rfl⟩
  obtain ⟨F3, hF3⟩ : ∃ F, F = nF e3 p3 v3 0 20 := ⟨_, rfl⟩
  have n1 := nF_rg e1 p1 v1 0 4
  have n2 := nF_rg e2 p2 v2 1 30
  have n3 := nF_rg e3 p3 v3 0 20
  rw [← hF1] at n1
  rw [← hF2] at n2
  rw [← hF3] at n3
  obtain ⟨res, hres⟩ : ∃ res, res = pWa (V 2) (V 1 1) s rd := ⟨_, rfl⟩
  rw [← hres]
  unfold pWa pNu at hres
  simp only at hres
  rw [← hp1, ← he1, ← hv1, ← hp2, ← he2, ← hv2, ← hp3, ← he3, ← hv3, ← hF1, ← hF2, ← hF3] at hres
  obtain ⟨f1, hf1⟩ : ∃ f1 : Int, f1 = F1 := ⟨_, rfl⟩
  obtain ⟨g1, hg1⟩ : ∃ g1 : Int, g1 = if (0 : Int) = 0 ∧ F1 ≠ 0 then p1 else g := ⟨_, rfl⟩
  obtain ⟨f2, hf2⟩ : ∃ f2 : Int, f2 = if F1 = 0 then F2 else F1 := ⟨_, rfl⟩
  obtain ⟨g2, hg2⟩ : ∃ g2 : Int, g2 = if F1 = 0 ∧ F2 ≠ 0 then p2 else g1 := ⟨_, rfl⟩
  obtain ⟨f3, hf3⟩ : ∃ f3 : Int, f3 = if f2 = 0 then F3 else f2 := ⟨_, rfl⟩
  obtain ⟨g3, hg3⟩ : ∃ g3 : Int, g3 = if f2 = 0 ∧ F3 ≠ 0 then p3 else g2 := ⟨_, rfl⟩
  have f2r : 0 ≤ f2 ∧ f2 ≤ 2 := by rw [hf2]; split <;> omega
  have f3r : 0 ≤ f3 ∧ f3 ≤ 2 := by rw [hf3]; split <;> omega
  have hbad : f3 ≠ 0 → res.1 = f3 ∧ res.2.1 = g3 := by
    intro h
    by_cases z1 : F1 = 0
    · by_cases z2 : F2 = 0
      · rw [if_pos z1] at hf2
        rw [hf2, if_pos z2] at hf3
        rw [hres, if_neg (fun h => h z1), if_neg (fun h => h z2), if_pos (by omega), hg3, if_pos ⟨by omega, by omega⟩]
        exact ⟨hf3.symm, rfl⟩
      · rw [if_pos z1] at hf2
        rw [hf2, if_neg z2] at hf3
        rw [hres, if_neg (fun h => h z1), if_pos z2, hg3, if_neg (fun h => z2 (by omega)), hg2, if_pos ⟨z1, z2⟩]
        exact ⟨hf3.symm, rfl⟩
    · rw [if_neg z1] at hf2
      rw [hf2, if_neg z1] at hf3
      rw [hres, if_pos z1, hg3, if_neg (fun h => z1 (by omega)), hg2, if_neg (fun h => z1 h.1), hg1, if_pos ⟨rfl, z1⟩]
      exact ⟨hf3.symm, rfl⟩
  have hgood : f3 = 0 → F1 = 0 ∧ F2 = 0 ∧ F3 = 0 ∧ g3 = g ∧ res = pEnd (V 2) (V 1 1) e3 (iup (iup (iup (iup rd (6 + rd 5) v1) (13 + rd 5) v2) (20 + rd 5) v3) 5 (rd 5 + 1)) := by
    intro h
    have z1 : F1 = 0 := by
      by_cases z : F1 = 0
      · exact z
      · rw [if_neg z] at hf2
        rw [if_neg (by omega)] at hf3
        omega
    rw [if_pos z1] at hf2
    have z2 : F2 = 0 := by
      by_cases z : F2 = 0
      · exact z
      · rw [if_neg (by omega)] at hf3
        omega
    rw [if_pos (by omega)] at hf3
    have z3 : F3 = 0 := by omega
    refine ⟨z1, z2, z3, ?_, ?_⟩
    · rw [hg3, if_neg (fun h => h.2 z3), hg2, if_neg (fun h => h.2 z2), hg1, if_neg (fun h => h.2 z1)]
    · rw [hres, if_neg (fun h => h z1), if_neg (fun h => h z2), if_neg (fun h => h z3)]
  have hc1 := ct_X7_readNumber (V := V) (b := b) (s := s) (m := m) (f := 0) (g := g) (lo := 0) (hi := 4) (by omega) (by omega) hT hs (by omega)
  rw [← hp1, ← he1, ← hv1, ← hF1, if_pos rfl, ← hg1] at hc1
  have hc2 := ct_X7_readNumber (V := V) (b := b) (s := e1) (m := p1) (f := F1) (g := g1) (lo := 1) (hi := 30) (by omega) (by omega) hT (by omega) (by omega)
  rw [← hp2, ← he2, ← hv2, ← hF2, ← hg2, ← hf2] at hc2
  have hc3 := ct_X7_readNumber (V := V) (b := b) (s := e2) (m := p2) (f := f2) (g := g2) (lo := 0) (hi := 20) (by omega) (by omega) hT (by omega) (by omega)
  rw [← hp3, ← he3, ← hv3, ← hF3, ← hg3, ← hf3] at hc3
  refine zC_of (by decide +kernel) (Nat.le_of_ble_eq_true rfl) rfl ?_
  refine z_aload_n dX7_readWagon_0 rfl ?_
  refine y_iconst dX7_readWagon_1 ?_
  refine y_iconst dX7_readWagon_2 ?_
  refine y_callVi (hc1) kX7_83 dX7_readWagon_3 rfl rfl (by first | assumption | rfl) rfl (by decide) rfl (Nat.le_of_ble_eq_true rfl) (fun q_3 V1 h_3 => ?_)
  obtain ⟨t1, t2⟩ := h_3
  rw [t1, t2]
  refine z_istore_n dX7_readWagon_6 (by decide) rfl rfl ?_
  refine z_aload_n dX7_readWagon_7 rfl ?_
  refine y_iconst dX7_readWagon_8 ?_
  refine y_bipush dX7_readWagon_9 (by decide +kernel) ?_
  refine y_callVi (hc2) kX7_83 dX7_readWagon_11 rfl rfl (by first | assumption | rfl) rfl (by decide) rfl (Nat.le_of_ble_eq_true rfl) (fun q_11 V2 h_11 => ?_)
  obtain ⟨t3, t4⟩ := h_11
  rw [t3, t4]
  refine z_istore_n dX7_readWagon_14 (by decide) rfl rfl ?_
  refine z_aload_n dX7_readWagon_15 rfl ?_
  refine y_iconst dX7_readWagon_16 ?_
  refine y_bipush dX7_readWagon_17 (by decide +kernel) ?_
  refine y_callVi (hc3) kX7_83 dX7_readWagon_19 rfl rfl (by first | assumption | rfl) rfl (by decide) rfl (Nat.le_of_ble_eq_true rfl) (fun q_19 V3 h_19 => ?_)
  obtain ⟨t5, t6⟩ := h_19
  rw [t5, t6]
  refine z_istore dX7_readWagon_22 (by decide) rfl rfl ?_
  refine z_aload_n dX7_readWagon_24 rfl ?_
  refine y_callVr (ct_X7_failed (by omega)) kX7_36 dX7_readWagon_25 rfl rfl (by first | assumption | rfl) rfl (by decide) rfl (Nat.le_of_ble_eq_true rfl) (fun r_25 h_25 => ?_)
  refine y_if_ne dX7_readWagon_28 (by omega) (fun c_28 => ?_) (fun c_28 => ?_)
  · exact z_vret dX7_readWagon_39 rfl (Nat.le_refl 0) (Nat.le_refl 0) ⟨_, rfl, rfl, V, e3, p3, f3, g3, rfl, fun _ _ => rfl, htu, by omega, by omega, Or.inl ⟨by omega, (hbad (by omega)).1, (hbad (by omega)).2⟩⟩
  · obtain ⟨z1, z2, z3, z4, z5⟩ := hgood (by omega)
    have r1 := nF_0 (hF1.symm.trans z1)
    have r2 := nF_0 (hF2.symm.trans z2)
    have r3 := nF_0 (hF3.symm.trans z3)
    refine z_aload_n dX7_readWagon_31 rfl ?_
    refine z_iload_n dX7_readWagon_32 rfl ?_
    refine z_iload_n dX7_readWagon_33 rfl ?_
    refine z_iload dX7_readWagon_34 rfl ?_
    refine y_callVv (ct_X9_addWagon hy (by rw [rdr_o (by omega)]; omega)) kX7_91 dX7_readWagon_36 rfl rfl (by first | assumption | rfl) rfl (by decide) rfl (Nat.le_of_ble_eq_true rfl) (fun V4 h_36 => ?_)
    rw [rdr_v (by omega), rdr_v (by omega), rdr_v (by omega), rdr_v (by omega), rdr_v (by omega), rdr_o (by omega)] at h_36
    exact z_vret dX7_readWagon_39 rfl (Nat.le_refl 0) (Nat.le_refl 0) ⟨_, rfl, rfl, _, e3, p3, f3, g3, h_36, fun a ha => by rw [vst_o (by omega), vst_o (by omega), vst_o (by omega), vst_o (by omega), vst_o (by omega)], by
      unfold tuR
      rw [vst_o (show y + 6 ≠ y by omega), vst_o (show y + 6 ≠ y + 5 by omega), vst_o (show y + 6 ≠ y + 4 by omega), vst_o (show y + 6 ≠ y + 3 by omega), vst_o (show y + 6 ≠ y + 2 by omega), vst_o (show y + 5 ≠ y by omega)]
      refine ⟨fun j => ?_, htu.2⟩
      by_cases hj : j = V y 7
      · subst hj; rw [vst_s]; omega
      · rw [vst_n hj, vst_o (by omega), vst_o (by omega), vst_o (by omega)]; exact htu.1 j, by omega, by omega, Or.inr ⟨by omega, z4, _, YRd_wagon hY h5 (by omega) (by omega) (by omega), z5⟩⟩
end

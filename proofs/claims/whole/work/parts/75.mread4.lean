/-! ===== the model: readsRoads ===== -/
section
variable {V : Nat → Int → Int} {b : Bool} {rd : Int → Int} {a p s f v w : Int}
theorem mr_136 {j : Int} : mst (zup V 136 rd) a p s f v w 136 j = rd j := by rw [mst_o (by decide), zup_s]
theorem mr_u136 {j x : Int} : vst (mst (zup V 136 rd) a p s f v w) 136 j x = mst (zup V 136 (iup rd j x)) a p s f v w := by rw [mst_v (by decide), zup_136]
theorem ct_X11_readsRoads (hT : tM V) (ha : 0 ≤ a ∧ a ≤ V 134 9) (h0 : 0 ≤ rd 0 ∧ rd 0 ≤ 4) : yC 4 mX11_readsRoads [.ref 134] (mst (zup V 136 rd) a p s f v w) b (pI b (fun q V' => mlP V (if 0 < rd 0 then (3, p, p, rd) else pRo (V 141) (V 134 9) 4 a rd) q V')) := by
  obtain ⟨hT1, hT2⟩ := id hT
  obtain ⟨res, hres⟩ : ∃ res : pRs, res = if 0 < rd 0 then (3, p, p, rd) else pRo (V 141) (V 134 9) 4 a rd := ⟨_, rfl⟩
  rw [← hres]
  have loop : ∀ (k : Nat) (a p s f v w : Int) (rd' : Int → Int), rd' 0 + k = 4 → 0 ≤ rd' 0 → (0 ≤ a ∧ a ≤ V 134 9) → (k ≠ 0 → res = pRo (V 141) (V 134 9) k a rd') → (k = 0 → res.1 = 1 ∧ res.2.1 = p) → yE 4 (pI b (fun q V' => mlP V res q V')) mX11_readsRoads 21 [some (.ref 134), some (.int (iI 1))] [] (mst (zup V 136 rd') a p s f v w) b := by
    intro k
    induction k with
    | zero =>
      intro a p s f v w rd' hi hi0 ha hk hk0
      obtain ⟨r1, r2⟩ := hk0 rfl
      refine z_aload_n dX11_readsRoads_21 rfl ?_
      refine y_getR fX11_13 dX11_readsRoads_22 (by first | assumption | rfl) (by first | assumption | rfl) ?_
      refine y_iconst dX11_readsRoads_25 ?_
      refine y_iald dX11_readsRoads_26 (by first | assumption | rfl) (by first | rfl | assumption) (by omega) ?_
      rw [mr_136]
      refine y_iconst dX11_readsRoads_27 ?_
      refine y_icmp_ne dX11_readsRoads_28 (by omega) (by omega) (fun c_28 => ?_) (fun c_28 => ?_)
      · omega
      · refine z_aload_n dX11_readsRoads_31 rfl ?_
        refine y_iconst dX11_readsRoads_32 ?_
        refine y_callVi (ct_X11_fails) kX11_139 dX11_readsRoads_33 rfl rfl (by first | assumption | rfl) rfl (by decide) rfl (Nat.le_of_ble_eq_true rfl) (fun q_33 V2 h_33 => ?_)
        obtain ⟨z1, z2⟩ := h_33
        exact y_zret dX11_readsRoads_36 rfl (by omega) (Nat.le_refl 0) (Nat.le_refl 0) ⟨_, _, rfl, rfl, by rw [z2]; exact ⟨rd', a, p, s, f, v, 1, rfl, Or.inl ⟨by omega, z1, r1.symm, r2.symm⟩⟩⟩
    | succ k ih =>
      intro a p s f v w rd' hi hi0 ha hk hk0
      have hr := hk (by omega)
      obtain ⟨q0, hq0⟩ : ∃ q0, q0 = sk (V 141) (V 134 9) a := ⟨_, rfl⟩
      obtain ⟨e0, he0⟩ : ∃ e0, e0 = de (V 141) (V 134 9) q0 := ⟨_, rfl⟩
      obtain ⟨v0, hv0⟩ : ∃ v0, v0 = va (V 141) (V 134 9) q0 := ⟨_, rfl⟩
      have hnum := ct_X11_number (rd := rd') (b := b) (a := a) (p := p) (s := s) (f := f) (v := v) (w := w) (pl := 1 + rd' 0) (lo := 1) (hi := 7) hT ha (by omega) (by omega) (by omega)
      rw [← hq0, ← he0, ← hv0] at hnum
      have hro := fun h => pRo_f (rd := rd') (t := V 141) (n := V 134 9) (a := a) (k := k) h
      have hrg := fun h => pRo_g (rd := rd') (t := V 141) (n := V 134 9) (a := a) (k := k) h
      rw [← hq0, ← he0, ← hv0] at hro
      rw [← hq0, ← he0, ← hv0] at hrg
      have hkq := sk_rg (t := V 141) ha.2
      rw [← hq0] at hkq
      have hde := de_rg (t := V 141) hkq.2
      rw [← he0] at hde
      have hA := stA_rg (t := V 141) (n := V 134 9) (a := e0) (by omega) hde.2
      have hS := stS_rg (n := V 134 9) (a := e0) hT2
      have h44 := stS_59 (t := V 141) (n := V 134 9) (a := e0) (x := 44) (by omega)
      have h59 := stS_59 (t := V 141) (n := V 134 9) (a := e0) (x := 59) (by omega)
      have e1 : iup rd' (1 + rd' 0) v0 0 = rd' 0 := iup_n (by omega)
      obtain ⟨rd'', hrd''⟩ : ∃ rd'', rd'' = iup (iup rd' (1 + rd' 0) v0) 0 (rd' 0 + 1) := ⟨_, rfl⟩
      have e2 : rd'' 0 = rd' 0 + 1 := by rw [hrd'', iup_s]
      rw [← hrd''] at hrg
      -- behind the step
      have aft : ∀ (w : Int), nF e0 q0 v0 1 7 = 0 → yE 4 (pI b (fun q V' => mlP V res q V')) mX11_readsRoads 71 [some (.ref 134), some (.int (iI 1))] [] (mst (zup V 136 rd'') (stA (V 141) (V 134 9) e0) (sk (V 141) (V 134 9) e0) (stS (V 141) (V 134 9) e0) (stF (V 141) (V 134 9) e0) (stV (V 141) (V 134 9) e0) w) b := by
        intro w hn
        have hrr := hrg hn
        rw [← hr] at hrr
        have to17 : ∀ x : Int, (x = 1 ∧ ltT (V 141) (V 134 9) (sk (V 141) (V 134 9) e0) = 44) ∨ (x = 0 ∧ ltT (V 141) (V 134 9) (sk (V 141) (V 134 9) e0) ≠ 44) → yE 4 (pI b (fun q V' => mlP V res q V')) mX11_readsRoads 17 [some (.ref 134), some (.int (iI x))] [] (mst (zup V 136 rd'') (stA (V 141) (V 134 9) e0) (sk (V 141) (V 134 9) e0) (stS (V 141) (V 134 9) e0) (stF (V 141) (V 134 9) e0) (stV (V 141) (V 134 9) e0) w) b := by
          intro x hx
          refine z_iload_n dX11_readsRoads_17 rfl ?_
          refine y_if_eq dX11_readsRoads_18 (by omega) (fun c_18 => ?_) (fun c_18 => ?_)
          · have hq : ltT (V 141) (V 134 9) (sk (V 141) (V 134 9) e0) ≠ 44 := by omega
            rw [if_neg (fun h => hq h.1)] at hrr
            refine z_aload_n dX11_readsRoads_89 rfl ?_
            refine y_getI (j := 19) fX11_120 dX11_readsRoads_90 rfl (by first | assumption | rfl) ?_
            rw [mst_19]
            refine y_bipush dX11_readsRoads_93 (by decide +kernel) ?_
            refine y_icmp_eq dX11_readsRoads_95 (by omega) (by omega) (fun c_95 => ?_) (fun c_95 => ?_)
            · have hp := h59.1 (by omega)
              have hfin : mlP V res 1 (mst (zup V 136 rd'') (stA (V 141) (V 134 9) e0) (sk (V 141) (V 134 9) e0) (stS (V 141) (V 134 9) e0) (stF (V 141) (V 134 9) e0) (stV (V 141) (V 134 9) e0) w) := by
                refine ⟨rd'', _, _, _, _, _, _, rfl, Or.inr ?_⟩
                rw [hrr]
                unfold pEnd
                rw [if_pos hp]
                exact ⟨rfl, rfl, stA_59 hp (by omega) (by omega), hA, rfl⟩
              refine y_iconst dX11_readsRoads_106 ?_
              refine z_goto dX11_readsRoads_107 ?_
              exact y_zret dX11_readsRoads_111 rfl (by omega) (Nat.le_refl 0) (Nat.le_refl 0) ⟨_, _, rfl, rfl, hfin⟩
            · have hp : ltT (V 141) (V 134 9) (sk (V 141) (V 134 9) e0) ≠ 59 := fun h => absurd (h59.2 h) (by omega)
              refine z_aload_n dX11_readsRoads_98 rfl ?_
              refine y_iconst dX11_readsRoads_99 ?_
              refine y_callVi (ct_X11_fails) kX11_139 dX11_readsRoads_100 rfl rfl (by first | assumption | rfl) rfl (by decide) rfl (Nat.le_of_ble_eq_true rfl) (fun q_100 V2 h_100 => ?_)
              obtain ⟨z1, z2⟩ := h_100
              have hfin : mlP V res 0 V2 := by
                rw [z2]
                refine ⟨rd'', _, _, _, _, _, _, rfl, Or.inl ?_⟩
                rw [hrr]
                unfold pEnd
                rw [if_neg hp]
                exact ⟨by show (1 : Int) ≠ 0; omega, rfl, rfl, rfl⟩
              refine y_if_eq dX11_readsRoads_103 (by omega) (fun c_103 => ?_) (fun c_103 => ?_)
              · refine y_iconst dX11_readsRoads_110 ?_
                exact y_zret dX11_readsRoads_111 rfl (by omega) (Nat.le_refl 0) (Nat.le_refl 0) ⟨_, _, rfl, rfl, hfin⟩
              · omega
          · have hq : ltT (V 141) (V 134 9) (sk (V 141) (V 134 9) e0) = 44 := by omega
            have hx1 : x = 1 := by omega
            subst hx1
            have hA1 := stA_59 hq (by omega) (by omega)
            have hnx := ih (stA (V 141) (V 134 9) e0) (sk (V 141) (V 134 9) e0) (stS (V 141) (V 134 9) e0) (stF (V 141) (V 134 9) e0) (stV (V 141) (V 134 9) e0) w rd'' (by omega) (by omega) hA (fun hk => by rw [hrr, if_pos ⟨hq, hk⟩, hA1]) (fun hk => by rw [hrr, if_neg (fun h => h.2 hk)]; unfold pEnd; rw [if_neg (by omega)]; exact ⟨rfl, rfl⟩)
            exact hnx
        refine z_aload_n dX11_readsRoads_71 rfl ?_
        refine y_getI (j := 19) fX11_120 dX11_readsRoads_72 rfl (by first | assumption | rfl) ?_
        rw [mst_19]
        refine y_bipush dX11_readsRoads_75 (by decide +kernel) ?_
        refine y_icmp_ne dX11_readsRoads_77 (by omega) (by omega) (fun c_77 => ?_) (fun c_77 => ?_)
        · have h77 : ltT (V 141) (V 134 9) (sk (V 141) (V 134 9) e0) ≠ 44 := fun h => absurd (h44.2 h) (by omega)
          refine y_iconst dX11_readsRoads_84 ?_
          refine z_istore_n dX11_readsRoads_85 (by decide) rfl rfl ?_
          refine z_goto dX11_readsRoads_86 ?_
          exact to17 _ (by omega)
        · have h77 : ltT (V 141) (V 134 9) (sk (V 141) (V 134 9) e0) = 44 := h44.1 (by omega)
          refine y_iconst dX11_readsRoads_80 ?_
          refine z_goto dX11_readsRoads_81 ?_
          refine z_istore_n dX11_readsRoads_85 (by decide) rfl rfl ?_
          refine z_goto dX11_readsRoads_86 ?_
          exact to17 _ (by omega)
      refine z_aload_n dX11_readsRoads_21 rfl ?_
      refine y_getR fX11_13 dX11_readsRoads_22 (by first | assumption | rfl) (by first | assumption | rfl) ?_
      refine y_iconst dX11_readsRoads_25 ?_
      refine y_iald dX11_readsRoads_26 (by first | assumption | rfl) (by first | rfl | assumption) (by omega) ?_
      rw [mr_136]
      refine y_iconst dX11_readsRoads_27 ?_
      refine y_icmp_ne dX11_readsRoads_28 (by omega) (by omega) (fun c_28 => ?_) (fun c_28 => ?_)
      · refine z_aload_n dX11_readsRoads_37 rfl ?_
        refine y_iconst dX11_readsRoads_38 ?_
        refine z_aload_n dX11_readsRoads_39 rfl ?_
        refine y_getR fX11_13 dX11_readsRoads_40 (by first | assumption | rfl) (by first | assumption | rfl) ?_
        refine y_iconst dX11_readsRoads_43 ?_
        refine y_iald dX11_readsRoads_44 (by first | assumption | rfl) (by first | rfl | assumption) (by omega) ?_
        rw [mr_136]
        refine y_iadd dX11_readsRoads_45 ?_
        refine y_iconst dX11_readsRoads_46 ?_
        refine y_bipush dX11_readsRoads_47 (by decide +kernel) ?_
        refine y_callVi (hnum) kX11_143 dX11_readsRoads_49 rfl rfl (by first | assumption | rfl) rfl (by decide) rfl (Nat.le_of_ble_eq_true rfl) (fun q_49 V1 h_49 => ?_)
        obtain ⟨a', s', f', v', g1, g2⟩ := h_49
        refine y_if_ne dX11_readsRoads_52 (by omega) (fun c_52 => ?_) (fun c_52 => ?_)
        · obtain ⟨g3, g4, g5, g6⟩ := g2.resolve_left (fun h => by omega)
          rw [g5] at g6
          subst g6
          refine z_aload_n dX11_readsRoads_57 rfl ?_
          refine y_getR fX11_13 dX11_readsRoads_58 (by first | assumption | rfl) (by first | assumption | rfl) ?_
          refine y_iconst dX11_readsRoads_61 ?_
          refine z_dup2 dX11_readsRoads_62 rfl rfl ?_
          refine y_iald dX11_readsRoads_63 (by first | assumption | rfl) (by first | rfl | assumption) (by omega) ?_
          rw [mr_136, e1]
          refine y_iconst dX11_readsRoads_64 ?_
          refine y_iadd dX11_readsRoads_65 ?_
          refine y_iast dX11_readsRoads_66 (by first | assumption | rfl) (by first | rfl | assumption) (by omega) ?_
          rw [mr_u136, ← hrd'']
          refine z_aload_n dX11_readsRoads_67 rfl ?_
          refine y_callVv (ct_mstep hT (by omega)) kX11_136 dX11_readsRoads_68 rfl rfl (by first | assumption | rfl) rfl (by decide) rfl (Nat.le_of_ble_eq_true rfl) (fun V2 h_68 => ?_)
          subst h_68
          exact aft _ g3
        · obtain ⟨g3, g4, g5⟩ := g2.resolve_right (fun h => by omega)
          refine y_iconst dX11_readsRoads_55 ?_
          exact y_zret dX11_readsRoads_56 rfl (by omega) (Nat.le_refl 0) (Nat.le_refl 0) ⟨_, _, rfl, rfl, by rw [g5]; exact ⟨rd', a', q0, s', f', v', _, rfl, Or.inl ⟨by rw [hr, hro g3]; exact g3, rfl, by rw [hr, hro g3], by rw [hr, hro g3]⟩⟩⟩
      · omega
  have hl := fun (h : ¬ 0 < rd 0) => loop 4 a p s f v w rd (by omega) (by omega) ha (fun _ => by rw [hres, if_neg h]) (fun h => by omega)
  refine zC_of (by decide +kernel) (Nat.le_of_ble_eq_true rfl) rfl ?_
  refine z_aload_n dX11_readsRoads_0 rfl ?_
  refine y_getR fX11_13 dX11_readsRoads_1 (by first | assumption | rfl) (by first | assumption | rfl) ?_
  refine y_iconst dX11_readsRoads_4 ?_
  refine y_iald dX11_readsRoads_5 (by first | assumption | rfl) (by first | rfl | assumption) (by omega) ?_
  rw [mr_136]
  refine y_if_le dX11_readsRoads_6 (by omega) (fun c_6 => ?_) (fun c_6 => ?_)
  · refine y_iconst dX11_readsRoads_15 ?_
    refine z_istore_n dX11_readsRoads_16 (by decide) rfl rfl ?_
    refine z_iload_n dX11_readsRoads_17 rfl ?_
    refine y_if_eq dX11_readsRoads_18 (by omega) (fun c_18 => ?_) (fun c_18 => ?_)
    · omega
    · exact hl (by omega)
  · refine z_aload_n dX11_readsRoads_9 rfl ?_
    refine y_iconst dX11_readsRoads_10 ?_
    refine y_callVi (ct_X11_fails) kX11_139 dX11_readsRoads_11 rfl rfl (by first | assumption | rfl) rfl (by decide) rfl (Nat.le_of_ble_eq_true rfl) (fun q_11 V2 h_11 => ?_)
    obtain ⟨z1, z2⟩ := h_11
    exact y_zret dX11_readsRoads_14 rfl (by omega) (Nat.le_refl 0) (Nat.le_refl 0) ⟨_, _, rfl, rfl, by rw [z2, hres, if_pos (by omega)]; exact ⟨rd, a, p, s, f, v, 3, rfl, Or.inl ⟨by show (3 : Int) ≠ 0; omega, z1, rfl, rfl⟩⟩⟩
end

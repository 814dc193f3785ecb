/-! ===== the model: readsEnemies ===== -/
theorem iup_iup {f : Int → Int} {i x y : Int} : iup (iup f i x) i y = iup f i y := by
  funext k
  simp only [iup]
  (repeat' split)
  all_goals first | rfl | omega
section
variable {V : Nat → Int → Int} {b : Bool} {rd : Int → Int} {a p s f v w : Int}
theorem ct_X11_readsEnemies (hT : tM V) (ha : 0 ≤ a ∧ a ≤ V 134 9) (h32 : 0 ≤ rd 32 ∧ rd 32 ≤ 10) (h27 : ∀ k, 0 ≤ k → k ≤ 4 → 0 ≤ rd (27 + k) ∧ rd (27 + k) < 32) : yC 4 mX11_readsEnemies [.ref 134] (mst (zup V 136 rd) a p s f v w) b (pI b (fun q V' => mlP V (if rd 32 = 10 then (3, p, p, rd) else pGr (V 141) (V 134 9) a rd) q V')) := by
  obtain ⟨hT1, hT2⟩ := id hT
  obtain ⟨res, hres⟩ : ∃ res : pRs, res = if rd 32 = 10 then (3, p, p, rd) else pGr (V 141) (V 134 9) a rd := ⟨_, rfl⟩
  rw [← hres]
  have bad : ∀ (rd' : Int → Int) (a' p' s' f' v' w' : Int) (l2 l4 : Option Value) (l3 : Int), res.1 ≠ 0 → w' = res.1 → p' = res.2.1 → yE 4 (pI b (fun q V' => mlP V res q V')) mX11_readsEnemies 62 [some (.ref 134), some (.int (iI (rd 32))), l2, some (.int (iI l3)), l4] [] (mst (zup V 136 rd') a' p' s' f' v' w') b := by
    intro rd' a' p' s' f' v' w' l2 l4 l3 r0 r1 r2
    refine y_iconst dX11_readsEnemies_62 ?_
    refine z_istore_n dX11_readsEnemies_63 (by decide) rfl rfl ?_
    refine z_aload_n dX11_readsEnemies_64 rfl ?_
    refine y_getR fX11_13 dX11_readsEnemies_65 (by first | assumption | rfl) (by first | assumption | rfl) ?_
    refine y_bipush dX11_readsEnemies_68 (by decide +kernel) ?_
    refine y_iald dX11_readsEnemies_70 (by first | assumption | rfl) (by first | rfl | assumption) (by omega) ?_
    rw [mr_136]
    refine z_istore dX11_readsEnemies_71 (by decide) rfl rfl ?_
    refine z_aload_n dX11_readsEnemies_73 rfl ?_
    refine y_getR fX11_13 dX11_readsEnemies_74 (by first | assumption | rfl) (by first | assumption | rfl) ?_
    refine y_bipush dX11_readsEnemies_77 (by decide +kernel) ?_
    refine z_iload_n dX11_readsEnemies_79 rfl ?_
    refine y_iconst dX11_readsEnemies_80 ?_
    refine y_iadd dX11_readsEnemies_81 ?_
    refine y_iast dX11_readsEnemies_82 (by first | assumption | rfl) (by first | rfl | assumption) (by omega) ?_
    rw [mr_u136]
    refine z_iload_n dX11_readsEnemies_83 rfl ?_
    refine y_if_ne dX11_readsEnemies_84 (by omega) (fun c_84 => ?_) (fun c_84 => ?_)
    · omega
    · refine y_iconst dX11_readsEnemies_87 ?_
      exact y_zret dX11_readsEnemies_88 rfl (by omega) (Nat.le_refl 0) (Nat.le_refl 0) ⟨_, _, rfl, rfl, _, a', p', s', f', v', w', rfl, Or.inl ⟨r0, rfl, r1, r2⟩⟩
  refine zC_of (by decide +kernel) (Nat.le_of_ble_eq_true rfl) rfl ?_
  refine z_aload_n dX11_readsEnemies_0 rfl ?_
  refine y_getR fX11_13 dX11_readsEnemies_1 (by first | assumption | rfl) (by first | assumption | rfl) ?_
  refine y_bipush dX11_readsEnemies_4 (by decide +kernel) ?_
  refine y_iald dX11_readsEnemies_6 (by first | assumption | rfl) (by first | rfl | assumption) (by omega) ?_
  rw [mr_136]
  refine y_bipush dX11_readsEnemies_7 (by decide +kernel) ?_
  refine y_icmp_ne dX11_readsEnemies_9 (by omega) (by omega) (fun c_9 => ?_) (fun c_9 => ?_)
  · rw [if_neg (by omega)] at hres
    unfold pGr at hres
    refine z_aload_n dX11_readsEnemies_18 rfl ?_
    refine y_getR fX11_13 dX11_readsEnemies_19 (by first | assumption | rfl) (by first | assumption | rfl) ?_
    refine y_bipush dX11_readsEnemies_22 (by decide +kernel) ?_
    refine y_iald dX11_readsEnemies_24 (by first | assumption | rfl) (by first | rfl | assumption) (by omega) ?_
    rw [mr_136]
    refine z_istore_n dX11_readsEnemies_25 (by decide) rfl rfl ?_
    refine z_aload_n dX11_readsEnemies_26 rfl ?_
    refine y_bipush dX11_readsEnemies_27 (by decide +kernel) ?_
    refine y_iconst dX11_readsEnemies_29 ?_
    refine y_iconst dX11_readsEnemies_30 ?_
    refine y_callVi (ct_X11_number hT ha (by omega) (by omega) (by omega)) kX11_143 dX11_readsEnemies_31 rfl rfl (by first | assumption | rfl) rfl (by decide) rfl (Nat.le_of_ble_eq_true rfl) (fun q_31 V1 h_31 => ?_)
    obtain ⟨a1, s1', f1, v1, g1, g2⟩ := h_31
    have hq31 : q_31 = 0 ∨ q_31 = 1 := by rcases g2 with h | h <;> omega
    refine z_istore_n dX11_readsEnemies_34 (by decide) rfl rfl ?_
    refine z_aload_n dX11_readsEnemies_35 rfl ?_
    refine y_getR fX11_13 dX11_readsEnemies_36 (by first | assumption | rfl) (by first | assumption | rfl) ?_
    refine y_bipush dX11_readsEnemies_39 (by decide +kernel) ?_
    refine y_iald dX11_readsEnemies_41 (by first | assumption | rfl) (by first | rfl | assumption) (by omega) ?_
    refine z_istore_n dX11_readsEnemies_42 (by decide) rfl rfl ?_
    refine z_iload_n dX11_readsEnemies_43 rfl ?_
    refine y_if_eq dX11_readsEnemies_44 (by omega) (fun c_44 => ?_) (fun c_44 => ?_)
    · obtain ⟨g3, g4, g5⟩ := g2.resolve_right (fun h => by omega)
      rw [pNu_f g3] at hres
      rw [g5, mr_136]
      have hb := bad rd a1 _ s1' f1 v1 _ (some (.int (iI q_31))) none (rd 32) (by rw [hres]; exact g3) (by rw [hres]) (by rw [hres])
      exact hb
    · obtain ⟨g3, g4, g5, g6⟩ := g2.resolve_left (fun h => by omega)
      rw [pNu_g g3, ← g5] at hres
      have n1 := nF_0 g3
      obtain ⟨x1, hx1⟩ : ∃ x1, x1 = va (V 141) (V 134 9) (sk (V 141) (V 134 9) a) := ⟨_, rfl⟩
      rw [← hx1] at hres g6 n1
      subst g6
      rw [mr_136, iup_s]
      refine z_aload_n dX11_readsEnemies_47 rfl ?_
      refine y_bipush dX11_readsEnemies_48 (by decide +kernel) ?_
      refine y_iconst dX11_readsEnemies_50 ?_
      refine y_iconst dX11_readsEnemies_51 ?_
      refine y_callVi (ct_X11_number hT g1 (by omega) (by omega) (by omega)) kX11_143 dX11_readsEnemies_52 rfl rfl (by first | assumption | rfl) rfl (by decide) rfl (Nat.le_of_ble_eq_true rfl) (fun q_52 V1 h_52 => ?_)
      obtain ⟨a2, s2, f2, v2, k1, k2⟩ := h_52
      refine y_if_eq dX11_readsEnemies_55 (by omega) (fun c_55 => ?_) (fun c_55 => ?_)
      · obtain ⟨k3, k4, k5⟩ := k2.resolve_right (fun h => by omega)
        rw [pNu_f k3] at hres
        rw [k5]
        have hb := bad (iup rd 32 x1) a2 _ s2 f2 v2 _ (some (.int (iI q_31))) none x1 (by rw [hres]; exact k3) (by rw [hres]) (by rw [hres])
        exact hb
      · obtain ⟨k3, k4, k5, k6⟩ := k2.resolve_left (fun h => by omega)
        have n2 := nF_0 k3
        rw [pNu_g k3, ← k5] at hres
        obtain ⟨x2, hx2⟩ : ∃ x2, x2 = va (V 141) (V 134 9) (sk (V 141) (V 134 9) a1) := ⟨_, rfl⟩
        rw [← hx2] at hres k6 n2
        subst k6
        have h27x := h27 x1 (by omega) (by omega)
        have e27 : iup (iup (iup rd 32 x1) 32 x2) 32 (rd 32 + 1) (27 + x1) = rd (27 + x1) := by rw [iup_n (by omega), iup_n (by omega), iup_n (by omega)]
        have hs1 := s1_pos x2
        refine y_iconst dX11_readsEnemies_58 ?_
        refine z_goto dX11_readsEnemies_59 ?_
        refine z_istore_n dX11_readsEnemies_63 (by decide) rfl rfl ?_
        refine z_aload_n dX11_readsEnemies_64 rfl ?_
        refine y_getR fX11_13 dX11_readsEnemies_65 (by first | assumption | rfl) (by first | assumption | rfl) ?_
        refine y_bipush dX11_readsEnemies_68 (by decide +kernel) ?_
        refine y_iald dX11_readsEnemies_70 (by first | assumption | rfl) (by first | rfl | assumption) (by omega) ?_
        rw [mr_136, iup_s]
        refine z_istore dX11_readsEnemies_71 (by decide) rfl rfl ?_
        refine z_aload_n dX11_readsEnemies_73 rfl ?_
        refine y_getR fX11_13 dX11_readsEnemies_74 (by first | assumption | rfl) (by first | assumption | rfl) ?_
        refine y_bipush dX11_readsEnemies_77 (by decide +kernel) ?_
        refine z_iload_n dX11_readsEnemies_79 rfl ?_
        refine y_iconst dX11_readsEnemies_80 ?_
        refine y_iadd dX11_readsEnemies_81 ?_
        refine y_iast dX11_readsEnemies_82 (by first | assumption | rfl) (by first | rfl | assumption) (by omega) ?_
        rw [mr_u136]
        refine z_iload_n dX11_readsEnemies_83 rfl ?_
        refine y_if_ne dX11_readsEnemies_84 (by omega) (fun c_84 => ?_) (fun c_84 => ?_)
        · refine z_aload_n dX11_readsEnemies_89 rfl ?_
          refine y_getR fX11_13 dX11_readsEnemies_90 (by first | assumption | rfl) (by first | assumption | rfl) ?_
          refine y_bipush dX11_readsEnemies_93 (by decide +kernel) ?_
          refine z_iload_n dX11_readsEnemies_95 rfl ?_
          refine y_iadd dX11_readsEnemies_96 ?_
          refine y_iald dX11_readsEnemies_97 (by first | assumption | rfl) (by first | rfl | assumption) (by omega) ?_
          rw [mr_136, e27]
          refine z_iload dX11_readsEnemies_98 rfl ?_
          refine y_callSr (ct_X11_has (by omega) (by omega)) kX11_151 dX11_readsEnemies_100 rfl rfl (by decide) rfl (Nat.le_of_ble_eq_true rfl) (fun r_100 h_100 => ?_)
          refine y_if_eq dX11_readsEnemies_103 (by omega) (fun c_103 => ?_) (fun c_103 => ?_)
          · have htb : ¬ tb (rd (27 + x1)) x2 = true := by
              intro hh
              rw [hh, if_pos rfl] at h_100
              omega
            rw [if_neg htb] at hres
            refine z_aload_n dX11_readsEnemies_112 rfl ?_
            refine y_getR fX11_13 dX11_readsEnemies_113 (by first | assumption | rfl) (by first | assumption | rfl) ?_
            refine y_bipush dX11_readsEnemies_116 (by decide +kernel) ?_
            refine z_iload_n dX11_readsEnemies_118 rfl ?_
            refine y_iadd dX11_readsEnemies_119 ?_
            refine z_dup2 dX11_readsEnemies_120 rfl rfl ?_
            refine y_iald dX11_readsEnemies_121 (by first | assumption | rfl) (by first | rfl | assumption) (by omega) ?_
            rw [mr_136, e27]
            refine y_iconst dX11_readsEnemies_122 ?_
            refine z_iload dX11_readsEnemies_123 rfl ?_
            refine y_shl1 dX11_readsEnemies_125 (by omega) ?_
            refine y_ior dX11_readsEnemies_126 (by omega) (by omega) ?_
            refine y_iast dX11_readsEnemies_127 (by first | assumption | rfl) (by first | rfl | assumption) (by omega) ?_
            rw [mr_u136]
            refine z_aload_n dX11_readsEnemies_128 rfl ?_
            refine y_callVi (ct_X11_ends hT k1) kX11_147 dX11_readsEnemies_129 rfl rfl (by first | assumption | rfl) rfl (by decide) rfl (Nat.le_of_ble_eq_true rfl) (fun q_129 V2 h_129 => ?_)
            rw [iup_iup, iup_iup, iup_comm (show (32 : Int) ≠ 27 + x1 by omega), ← hres] at h_129
            have hq129 : q_129 = 0 ∨ q_129 = 1 := by obtain ⟨_, _, _, _, _, _, _, _, h | h⟩ := h_129 <;> omega
            exact y_zret dX11_readsEnemies_132 rfl (by omega) (Nat.le_refl 0) (Nat.le_refl 0) ⟨_, _, rfl, rfl, h_129⟩
          · have htb : tb (rd (27 + x1)) x2 = true := by
              cases hh : tb (rd (27 + x1)) x2 with
              | true => rfl
              | false => rw [hh, if_neg (by decide)] at h_100; omega
            rw [if_pos htb] at hres
            refine z_aload_n dX11_readsEnemies_106 rfl ?_
            refine y_iconst dX11_readsEnemies_107 ?_
            refine y_callVi (ct_X11_fails) kX11_139 dX11_readsEnemies_108 rfl rfl (by first | assumption | rfl) rfl (by decide) rfl (Nat.le_of_ble_eq_true rfl) (fun q_108 V2 h_108 => ?_)
            obtain ⟨z1, z2⟩ := h_108
            exact y_zret dX11_readsEnemies_111 rfl (by omega) (Nat.le_refl 0) (Nat.le_refl 0) ⟨_, _, rfl, rfl, by rw [z2]; exact ⟨_, a2, _, s2, f2, v2, 4, rfl, Or.inl ⟨by rw [hres]; show (4 : Int) ≠ 0; omega, z1, by rw [hres], by rw [hres]⟩⟩⟩
        · omega
  · refine z_aload_n dX11_readsEnemies_12 rfl ?_
    refine y_iconst dX11_readsEnemies_13 ?_
    refine y_callVi (ct_X11_fails) kX11_139 dX11_readsEnemies_14 rfl rfl (by first | assumption | rfl) rfl (by decide) rfl (Nat.le_of_ble_eq_true rfl) (fun q_15 V2 h_15 => ?_)
    obtain ⟨z1, z2⟩ := h_15
    exact y_zret dX11_readsEnemies_17 rfl (by omega) (Nat.le_refl 0) (Nat.le_refl 0) ⟨_, _, rfl, rfl, by rw [z2, hres, if_pos (by omega)]; exact ⟨rd, a, p, s, f, v, 3, rfl, Or.inl ⟨by show (3 : Int) ≠ 0; omega, z1, rfl, rfl⟩⟩⟩
end

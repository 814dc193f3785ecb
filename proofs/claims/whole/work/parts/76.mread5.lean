/-! ===== the model: readsWagon ===== -/
theorem iup_comm {f : Int → Int} {i j x y : Int} (h : i ≠ j) : iup (iup f i x) j y = iup (iup f j y) i x := by
  funext k
  simp only [iup]
  (repeat' split)
  all_goals first | rfl | omega
section
variable {V : Nat → Int → Int} {b : Bool} {rd : Int → Int} {a p s f v w : Int}
theorem pNu_f {t : Int → Int} {n a lo hi : Int} {k : Int → Int → pRs} (h : nF (de t n (sk t n a)) (sk t n a) (va t n (sk t n a)) lo hi ≠ 0) : pNu t n a lo hi rd k = (nF (de t n (sk t n a)) (sk t n a) (va t n (sk t n a)) lo hi, sk t n a, a, rd) := if_pos h
theorem pNu_g {t : Int → Int} {n a lo hi : Int} {k : Int → Int → pRs} (h : nF (de t n (sk t n a)) (sk t n a) (va t n (sk t n a)) lo hi = 0) : pNu t n a lo hi rd k = k (va t n (sk t n a)) (de t n (sk t n a)) := if_neg (fun h2 => h2 h)
theorem ct_X11_readsWagon (hT : tM V) (ha : 0 ≤ a ∧ a ≤ V 134 9) (h5 : 0 ≤ rd 5 ∧ rd 5 ≤ 7) : yC 4 mX11_readsWagon [.ref 134] (mst (zup V 136 rd) a p s f v w) b (pI b (fun q V' => mlP V (if rd 5 = 7 then (3, p, p, rd) else pWa (V 141) (V 134 9) a rd) q V')) := by
  obtain ⟨hT1, hT2⟩ := id hT
  obtain ⟨res, hres⟩ : ∃ res : pRs, res = if rd 5 = 7 then (3, p, p, rd) else pWa (V 141) (V 134 9) a rd := ⟨_, rfl⟩
  rw [← hres]
  refine zC_of (by decide +kernel) (Nat.le_of_ble_eq_true rfl) rfl ?_
  refine z_aload_n dX11_readsWagon_0 rfl ?_
  refine y_getR fX11_13 dX11_readsWagon_1 (by first | assumption | rfl) (by first | assumption | rfl) ?_
  refine y_iconst dX11_readsWagon_4 ?_
  refine y_iald dX11_readsWagon_5 (by first | assumption | rfl) (by first | rfl | assumption) (by omega) ?_
  rw [mr_136]
  refine z_istore_n dX11_readsWagon_6 (by decide) rfl rfl ?_
  refine z_iload_n dX11_readsWagon_7 rfl ?_
  refine y_bipush dX11_readsWagon_8 (by decide +kernel) ?_
  refine y_icmp_ne dX11_readsWagon_10 (by omega) (by omega) (fun c_10 => ?_) (fun c_10 => ?_)
  · rw [if_neg (by omega)] at hres
    unfold pWa at hres
    refine z_aload_n dX11_readsWagon_19 rfl ?_
    refine y_getR fX11_13 dX11_readsWagon_20 (by first | assumption | rfl) (by first | assumption | rfl) ?_
    refine y_iconst dX11_readsWagon_23 ?_
    refine z_dup2 dX11_readsWagon_24 rfl rfl ?_
    refine y_iald dX11_readsWagon_25 (by first | assumption | rfl) (by first | rfl | assumption) (by omega) ?_
    rw [mr_136]
    refine y_iconst dX11_readsWagon_26 ?_
    refine y_iadd dX11_readsWagon_27 ?_
    refine y_iast dX11_readsWagon_28 (by first | assumption | rfl) (by first | rfl | assumption) (by omega) ?_
    rw [mr_u136]
    refine z_aload_n dX11_readsWagon_29 rfl ?_
    refine y_bipush dX11_readsWagon_30 (by decide +kernel) ?_
    refine z_iload_n dX11_readsWagon_32 rfl ?_
    refine y_iadd dX11_readsWagon_33 ?_
    refine y_iconst dX11_readsWagon_34 ?_
    refine y_iconst dX11_readsWagon_35 ?_
    refine y_callVi (ct_X11_number hT ha (by omega) (by omega) (by omega)) kX11_143 dX11_readsWagon_36 rfl rfl (by first | assumption | rfl) rfl (by decide) rfl (Nat.le_of_ble_eq_true rfl) (fun q_36 V1 h_36 => ?_)
    obtain ⟨a1, s1', f1, v1, g1, g2⟩ := h_36
    refine y_if_eq dX11_readsWagon_39 (by omega) (fun c_39 => ?_) (fun c_39 => ?_)
    · obtain ⟨g3, g4, g5⟩ := g2.resolve_right (fun h => by omega)
      rw [pNu_f g3] at hres
      have hfin : mlP V res 0 V1 := by rw [g5]; exact ⟨_, a1, _, s1', f1, v1, _, rfl, Or.inl ⟨by rw [hres]; exact g3, rfl, by rw [hres], by rw [hres]⟩⟩
      refine y_iconst dX11_readsWagon_81 ?_
      exact y_zret dX11_readsWagon_82 rfl (by omega) (Nat.le_refl 0) (Nat.le_refl 0) ⟨_, _, rfl, rfl, hfin⟩
    · obtain ⟨g3, g4, g5, g6⟩ := g2.resolve_left (fun h => by omega)
      rw [pNu_g g3, ← g5] at hres
      subst g6
      refine z_aload_n dX11_readsWagon_42 rfl ?_
      refine y_bipush dX11_readsWagon_43 (by decide +kernel) ?_
      refine z_iload_n dX11_readsWagon_45 rfl ?_
      refine y_iadd dX11_readsWagon_46 ?_
      refine y_iconst dX11_readsWagon_47 ?_
      refine y_bipush dX11_readsWagon_48 (by decide +kernel) ?_
      refine y_callVi (ct_X11_number hT g1 (by omega) (by omega) (by omega)) kX11_143 dX11_readsWagon_50 rfl rfl (by first | assumption | rfl) rfl (by decide) rfl (Nat.le_of_ble_eq_true rfl) (fun q_50 V1 h_50 => ?_)
      obtain ⟨a2, s2, f2, v2, k1, k2⟩ := h_50
      refine y_if_eq dX11_readsWagon_53 (by omega) (fun c_53 => ?_) (fun c_53 => ?_)
      · obtain ⟨k3, k4, k5⟩ := k2.resolve_right (fun h => by omega)
        rw [pNu_f k3] at hres
        have hfin : mlP V res 0 V1 := by rw [k5]; exact ⟨_, a2, _, s2, f2, v2, _, rfl, Or.inl ⟨by rw [hres]; exact k3, rfl, by rw [hres], by rw [hres]⟩⟩
        refine y_iconst dX11_readsWagon_81 ?_
        exact y_zret dX11_readsWagon_82 rfl (by omega) (Nat.le_refl 0) (Nat.le_refl 0) ⟨_, _, rfl, rfl, hfin⟩
      · obtain ⟨k3, k4, k5, k6⟩ := k2.resolve_left (fun h => by omega)
        rw [pNu_g k3, ← k5] at hres
        subst k6
        refine z_aload_n dX11_readsWagon_56 rfl ?_
        refine y_bipush dX11_readsWagon_57 (by decide +kernel) ?_
        refine z_iload_n dX11_readsWagon_59 rfl ?_
        refine y_iadd dX11_readsWagon_60 ?_
        refine y_iconst dX11_readsWagon_61 ?_
        refine y_bipush dX11_readsWagon_62 (by decide +kernel) ?_
        refine y_callVi (ct_X11_number hT k1 (by omega) (by omega) (by omega)) kX11_143 dX11_readsWagon_64 rfl rfl (by first | assumption | rfl) rfl (by decide) rfl (Nat.le_of_ble_eq_true rfl) (fun q_64 V1 h_64 => ?_)
        obtain ⟨a3, s3, f3, v3, m1, m2⟩ := h_64
        refine y_if_eq dX11_readsWagon_67 (by omega) (fun c_67 => ?_) (fun c_67 => ?_)
        · obtain ⟨m3, m4, m5⟩ := m2.resolve_right (fun h => by omega)
          rw [pNu_f m3] at hres
          have hfin : mlP V res 0 V1 := by rw [m5]; exact ⟨_, a3, _, s3, f3, v3, _, rfl, Or.inl ⟨by rw [hres]; exact m3, rfl, by rw [hres], by rw [hres]⟩⟩
          refine y_iconst dX11_readsWagon_81 ?_
          exact y_zret dX11_readsWagon_82 rfl (by omega) (Nat.le_refl 0) (Nat.le_refl 0) ⟨_, _, rfl, rfl, hfin⟩
        · obtain ⟨m3, m4, m5, m6⟩ := m2.resolve_left (fun h => by omega)
          rw [pNu_g m3, ← m5] at hres
          subst m6
          rw [iup_comm (show (20 + rd 5 : Int) ≠ 5 by omega), iup_comm (show (13 + rd 5 : Int) ≠ 5 by omega), iup_comm (show (6 + rd 5 : Int) ≠ 5 by omega)] at hres
          refine z_aload_n dX11_readsWagon_70 rfl ?_
          refine y_callVi (ct_X11_ends hT m1) kX11_147 dX11_readsWagon_71 rfl rfl (by first | assumption | rfl) rfl (by decide) rfl (Nat.le_of_ble_eq_true rfl) (fun q_71 V1 h_71 => ?_)
          rw [← hres] at h_71
          have hq71 : q_71 = 0 ∨ q_71 = 1 := by obtain ⟨_, _, _, _, _, _, _, _, h | h⟩ := h_71 <;> omega
          refine y_if_eq dX11_readsWagon_74 (by omega) (fun c_74 => ?_) (fun c_74 => ?_)
          · have hfin : mlP V res 0 V1 := by rw [show (0 : Int) = q_71 by omega]; exact h_71
            refine y_iconst dX11_readsWagon_81 ?_
            exact y_zret dX11_readsWagon_82 rfl (by omega) (Nat.le_refl 0) (Nat.le_refl 0) ⟨_, _, rfl, rfl, hfin⟩
          · have hfin : mlP V res 1 V1 := by rw [show (1 : Int) = q_71 by omega]; exact h_71
            refine y_iconst dX11_readsWagon_77 ?_
            refine z_goto dX11_readsWagon_78 ?_
            exact y_zret dX11_readsWagon_82 rfl (by omega) (Nat.le_refl 0) (Nat.le_refl 0) ⟨_, _, rfl, rfl, hfin⟩
  · refine z_aload_n dX11_readsWagon_13 rfl ?_
    refine y_iconst dX11_readsWagon_14 ?_
    refine y_callVi (ct_X11_fails) kX11_139 dX11_readsWagon_15 rfl rfl (by first | assumption | rfl) rfl (by decide) rfl (Nat.le_of_ble_eq_true rfl) (fun q_15 V2 h_15 => ?_)
    obtain ⟨z1, z2⟩ := h_15
    exact y_zret dX11_readsWagon_18 rfl (by omega) (Nat.le_refl 0) (Nat.le_refl 0) ⟨_, _, rfl, rfl, by rw [z2, hres, if_pos (by omega)]; exact ⟨rd, a, p, s, f, v, 3, rfl, Or.inl ⟨by show (3 : Int) ≠ 0; omega, z1, rfl, rfl⟩⟩⟩
end

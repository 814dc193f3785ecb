/-! ===== the model: readsTrain ===== -/
section
variable {V : Nat → Int → Int} {b : Bool} {rd : Int → Int} {a p s f v w : Int}
theorem mtB_up {u x : Int} : ∀ k : Nat, (k : Int) ≤ rd 33 → mtB (iup (iup rd (34 + rd 33) x) 33 (rd 33 + 1)) u k = mtB rd u k
  | 0, _ => rfl
  | k + 1, h => by
    unfold mtB
    rw [mtB_up k (by omega), iup_n (by omega), iup_n (by omega)]
theorem ct_X11_readsTrain (hT : tM V) (ha : 0 ≤ a ∧ a ≤ V 134 9) (h5 : 0 ≤ rd 5 ∧ rd 5 ≤ 7) (h33 : 0 ≤ rd 33 ∧ rd 33 ≤ 7) : yC 4 mX11_readsTrain [.ref 134] (mst (zup V 136 rd) a p s f v w) b (pI b (fun q V' => mlP V (if 0 < rd 33 then (3, p, p, rd) else pTr (V 141) (V 134 9) 7 a rd) q V')) := by
  obtain ⟨hT1, hT2⟩ := id hT
  obtain ⟨res, hres⟩ : ∃ res : pRs, res = if 0 < rd 33 then (3, p, p, rd) else pTr (V 141) (V 134 9) 7 a rd := ⟨_, rfl⟩
  rw [← hres]
  have loop : ∀ (k : Nat) (a p s f v w mt : Int) (l3 : Option Value) (rd' : Int → Int), rd' 33 + k = 7 → 0 ≤ rd' 33 → (0 ≤ a ∧ a ≤ V 134 9) → (0 ≤ rd' 5 ∧ rd' 5 ≤ 7) → (0 ≤ mt ∧ mt < 128) → (∀ u, 0 ≤ u → u ≤ 6 → tb mt u = mtB rd' u (rd' 33).toNat) → res = pTr (V 141) (V 134 9) k a rd' → yE 4 (pI b (fun q V' => mlP V res q V')) mX11_readsTrain 24 [some (.ref 134), some (.int (iI mt)), some (.int (iI 1)), l3] [] (mst (zup V 136 rd') a p s f v w) b := by
    intro k
    induction k with
    | zero =>
      intro a p s f v w mt l3 rd' hi hi0 ha h5 hm hmt hr
      have hA := stA_rg (t := V 141) ha.1 ha.2
      have hS := stS_rg (n := V 134 9) (a := a) hT2
      have hi48 := stS_48 (t := V 141) (n := V 134 9) (a := a)
      have hde := isD_de (t := V 141) ha.2
      have hk := sk_rg (t := V 141) ha.2
      have hdr := de_rg (t := V 141) hk.2
      have hvr := va_rg (t := V 141) (n := V 134 9) (p := sk (V 141) (V 134 9) a)
      have eF : isD (V 141) (V 134 9) a → stF (V 141) (V 134 9) a = de (V 141) (V 134 9) (sk (V 141) (V 134 9) a) - sk (V 141) (V 134 9) a := fun h => if_pos h
      have eV : isD (V 141) (V 134 9) a → stV (V 141) (V 134 9) a = va (V 141) (V 134 9) (sk (V 141) (V 134 9) a) := fun h => if_pos h
      have hFr : 0 ≤ stF (V 141) (V 134 9) a ∧ stF (V 141) (V 134 9) a ≤ 230 := by unfold stF; split <;> omega
      have hVr : 0 ≤ stV (V 141) (V 134 9) a ∧ stV (V 141) (V 134 9) a ≤ 999 := by unfold stV; split <;> omega
      have hff := fun h => pTr_f (rd := rd') (t := V 141) (n := V 134 9) (a := a) (k := 0) h
      have hgg := fun h => pTr_z (rd := rd') (t := V 141) (n := V 134 9) (a := a) h
      obtain ⟨N, hN⟩ : ∃ N, N = nF (de (V 141) (V 134 9) (sk (V 141) (V 134 9) a)) (sk (V 141) (V 134 9) a) (va (V 141) (V 134 9) (sk (V 141) (V 134 9) a)) 0 (rd' 5 - 1) := ⟨_, rfl⟩
      rw [← hN] at hff hgg
      have bad : ∀ x : Int, (x = N ∧ N ≠ 0 ∨ x = 4 ∧ N = 0) → mlP V res 0 (mst (zup V 136 rd') (stA (V 141) (V 134 9) a) (sk (V 141) (V 134 9) a) (stS (V 141) (V 134 9) a) (stF (V 141) (V 134 9) a) (stV (V 141) (V 134 9) a) x) := by
        intro x hx
        refine ⟨rd', _, _, _, _, _, _, rfl, Or.inl ?_⟩
        rcases hx with ⟨x1, x2⟩ | ⟨x1, x2⟩
        · rw [hr, hff x2]; exact ⟨x2, rfl, x1, rfl⟩
        · rw [hr, hgg x2]; exact ⟨by show (4 : Int) ≠ 0; omega, rfl, x1, rfl⟩
      refine z_aload_n dX11_readsTrain_24 rfl ?_
      refine y_getR fX11_13 dX11_readsTrain_25 (by first | assumption | rfl) (by first | assumption | rfl) ?_
      refine y_bipush dX11_readsTrain_28 (by decide +kernel) ?_
      refine y_iald dX11_readsTrain_30 (by first | assumption | rfl) (by first | rfl | assumption) (by omega) ?_
      rw [mr_136]
      refine z_istore_n dX11_readsTrain_31 (by decide) rfl rfl ?_
      refine z_iload_n dX11_readsTrain_32 rfl ?_
      refine y_bipush dX11_readsTrain_33 (by decide +kernel) ?_
      refine y_icmp_ne dX11_readsTrain_35 (by omega) (by omega) (fun c_35 => ?_) (fun c_35 => ?_)
      · omega
      · refine z_aload_n dX11_readsTrain_38 rfl ?_
        refine y_callVv (ct_mstep hT ha) kX11_136 dX11_readsTrain_39 rfl rfl (by first | assumption | rfl) rfl (by decide) rfl (Nat.le_of_ble_eq_true rfl) (fun V2 h_39 => ?_)
        subst h_39
        refine z_aload_n dX11_readsTrain_42 rfl ?_
        refine y_getI (j := 19) fX11_120 dX11_readsTrain_43 rfl (by first | assumption | rfl) ?_
        rw [mst_19]
        refine y_bipush dX11_readsTrain_46 (by decide +kernel) ?_
        refine y_icmp_eq dX11_readsTrain_48 (by omega) (by omega) (fun c_48 => ?_) (fun c_48 => ?_)
        · have hD := hi48.1 (by omega)
          have hne := hde.1 hD
          have eF' := eF hD
          have eV' := eV hD
          refine z_aload_n dX11_readsTrain_59 rfl ?_
          refine y_getI (j := 20) fX11_123 dX11_readsTrain_60 rfl (by first | assumption | rfl) ?_
          rw [mst_20]
          refine y_iconst dX11_readsTrain_63 ?_
          refine y_icmp_gt dX11_readsTrain_64 (by omega) (by omega) (fun c_64 => ?_) (fun c_64 => ?_)
          · refine z_aload_n dX11_readsTrain_80 rfl ?_
            refine y_iconst dX11_readsTrain_81 ?_
            have hn : N = 2 := by rw [hN]; unfold nF; rw [if_neg hne, if_pos (by omega)]
            have hfin := bad 2 (by omega)
            refine y_callVi (ct_X11_fails) kX11_139 dX11_readsTrain_82 rfl rfl (by first | assumption | rfl) rfl (by decide) rfl (Nat.le_of_ble_eq_true rfl) (fun q_82 V2 h_82 => ?_)
            obtain ⟨z1, z2⟩ := h_82
            subst z1 z2
            refine z_goto dX11_readsTrain_85 ?_
            exact y_zret dX11_readsTrain_93 rfl (by omega) (Nat.le_refl 0) (Nat.le_refl 0) ⟨_, _, rfl, rfl, hfin⟩
          · refine z_aload_n dX11_readsTrain_67 rfl ?_
            refine y_getI (j := 21) fX11_126 dX11_readsTrain_68 rfl (by first | assumption | rfl) ?_
            rw [mst_21]
            refine z_aload_n dX11_readsTrain_71 rfl ?_
            refine y_getR fX11_13 dX11_readsTrain_72 (by first | assumption | rfl) (by first | assumption | rfl) ?_
            refine y_iconst dX11_readsTrain_75 ?_
            refine y_iald dX11_readsTrain_76 (by first | assumption | rfl) (by first | rfl | assumption) (by omega) ?_
            rw [mr_136]
            refine y_icmp_lt dX11_readsTrain_77 (by omega) (by omega) (fun c_77 => ?_) (fun c_77 => ?_)
            · refine z_aload_n dX11_readsTrain_88 rfl ?_
              refine y_iconst dX11_readsTrain_89 ?_
              have hn : N = 0 := by rw [hN]; unfold nF; rw [if_neg hne, if_neg (by omega)]
              have hfin := bad 4 (by omega)
              refine y_callVi (ct_X11_fails) kX11_139 dX11_readsTrain_90 rfl rfl (by first | assumption | rfl) rfl (by decide) rfl (Nat.le_of_ble_eq_true rfl) (fun q_90 V2 h_90 => ?_)
              obtain ⟨z1, z2⟩ := h_90
              subst z1 z2
              exact y_zret dX11_readsTrain_93 rfl (by omega) (Nat.le_refl 0) (Nat.le_refl 0) ⟨_, _, rfl, rfl, hfin⟩
            · refine z_aload_n dX11_readsTrain_80 rfl ?_
              refine y_iconst dX11_readsTrain_81 ?_
              have hn : N = 2 := by rw [hN]; unfold nF; rw [if_neg hne, if_pos (by omega)]
              have hfin := bad 2 (by omega)
              refine y_callVi (ct_X11_fails) kX11_139 dX11_readsTrain_82 rfl rfl (by first | assumption | rfl) rfl (by decide) rfl (Nat.le_of_ble_eq_true rfl) (fun q_82 V2 h_82 => ?_)
              obtain ⟨z1, z2⟩ := h_82
              subst z1 z2
              refine z_goto dX11_readsTrain_85 ?_
              exact y_zret dX11_readsTrain_93 rfl (by omega) (Nat.le_refl 0) (Nat.le_refl 0) ⟨_, _, rfl, rfl, hfin⟩
        · have hn : N = 1 := by rw [hN]; unfold nF; rw [if_pos (by by_cases h : de (V 141) (V 134 9) (sk (V 141) (V 134 9) a) = sk (V 141) (V 134 9) a; exact h; exact absurd (hi48.2 (hde.2 h)) (by omega))]
          have hfin := bad 1 (by omega)
          refine z_aload_n dX11_readsTrain_51 rfl ?_
          refine y_iconst dX11_readsTrain_52 ?_
          refine y_callVi (ct_X11_fails) kX11_139 dX11_readsTrain_53 rfl rfl (by first | assumption | rfl) rfl (by decide) rfl (Nat.le_of_ble_eq_true rfl) (fun q_53 V2 h_53 => ?_)
          obtain ⟨z1, z2⟩ := h_53
          subst z1 z2
          refine z_goto dX11_readsTrain_56 ?_
          exact y_zret dX11_readsTrain_93 rfl (by omega) (Nat.le_refl 0) (Nat.le_refl 0) ⟨_, _, rfl, rfl, hfin⟩
    | succ k ih =>
      intro a p s f v w mt l3 rd' hi hi0 ha h5 hm hmt hr
      sorry
  sorry
end

/-! ===== the model: readsTrain ===== -/
section
variable {V : Nat → Int → Int} {b : Bool} {rd : Int → Int} {a p s f v w : Int}
theorem mtB_up {u x : Int} : ∀ k : Nat, (k : Int) ≤ rd 33 → mtB (iup (iup rd (34 + rd 33) x) 33 (rd 33 + 1)) u k = mtB rd u k
  | 0, _ => rfl
  | k + 1, h => by
    unfold mtB
    rw [mtB_up k (by omega), iup_n (by omega), iup_n (by omega)]
theorem ct_X11_readsTrain (hT : tM V) (ha : 0 ≤ a ∧ a ≤ V 134 9) (h5 : 0 ≤ rd 5 ∧ rd 5 ≤ 7) (h33 : 0 ≤ rd 33 ∧ rd 33 ≤ 7) : yC 4 mX11_readsTrain [.ref 134] (mst (zup V 136 rd) a p s f v w) b (pI b (fun q V' => mlP V (if 0 < rd 33 then (3, p, p, rd) else pTr (V 141) (V 134 9) 7 a rd) q V')) := by
  obtain ⟨hT1, hT2⟩ := id hT
  obtain ⟨res, hres⟩ : ∃ res : pRs, res = if 0 < rd 33 then (3, p, p, rd) else pTr (V 141) (V 134 9) 7 a rd := ⟨_, rfl⟩
  rw [← hres]
  have loop : ∀ (k : Nat) (a p s f v w mt : Int) (l3 : Option Value) (rd' : Int → Int), rd' 33 + k = 7 → 0 ≤ rd' 33 → (0 ≤ a ∧ a ≤ V 134 9) → (0 ≤ rd' 5 ∧ rd' 5 ≤ 7) → (0 ≤ mt ∧ mt < 128) → (∀ u, 0 ≤ u → u ≤ 6 → tb mt u = mtB rd' u (rd' 33).toNat) → res = pTr (V 141) (V 134 9) k a rd' → yE 4 (pI b (fun q V' => mlP V res q V')) mX11_readsTrain 24 [some (.ref 134), some (.int (iI mt)), some (.int (iI 1)), l3] [] (mst (zup V 136 rd') a p s f v w) b := by
    intro k
    induction k with
    | zero =>
      intro a p s f v w mt l3 rd' hi hi0 ha h5 hm hmt hr
      have hA := stA_rg (t := V 141) ha.1 ha.2
      have hS := stS_rg (n := V 134 9) (a := a) hT2
      have hi48 := stS_48 (t := V 141) (n := V 134 9) (a := a)
      have hde := isD_de (t := V 141) ha.2
      have hk := sk_rg (t := V 141) ha.2
      have hdr := de_rg (t := V 141) hk.2
      have hvr := va_rg (t := V 141) (n := V 134 9) (p := sk (V 141) (V 134 9) a)
      have eF : isD (V 141) (V 134 9) a → stF (V 141) (V 134 9) a = de (V 141) (V 134 9) (sk (V 141) (V 134 9) a) - sk (V 141) (V 134 9) a := fun h => if_pos h
      have eV : isD (V 141) (V 134 9) a → stV (V 141) (V 134 9) a = va (V 141) (V 134 9) (sk (V 141) (V 134 9) a) := fun h => if_pos h
      have hFr : 0 ≤ stF (V 141) (V 134 9) a ∧ stF (V 141) (V 134 9) a ≤ 230 := by unfold stF; split <;> omega
      have hVr : 0 ≤ stV (V 141) (V 134 9) a ∧ stV (V 141) (V 134 9) a ≤ 999 := by unfold stV; split <;> omega
      have hff := fun h => pTr_f (rd := rd') (t := V 141) (n := V 134 9) (a := a) (k := 0) h
      have hgg := fun h => pTr_z (rd := rd') (t := V 141) (n := V 134 9) (a := a) h
      obtain ⟨N, hN⟩ : ∃ N, N = nF (de (V 141) (V 134 9) (sk (V 141) (V 134 9) a)) (sk (V 141) (V 134 9) a) (va (V 141) (V 134 9) (sk (V 141) (V 134 9) a)) 0 (rd' 5 - 1) := ⟨_, rfl⟩
      rw [← hN] at hff hgg
      have bad : ∀ x : Int, (x = N ∧ N ≠ 0 ∨ x = 4 ∧ N = 0) → mlP V res 0 (mst (zup V 136 rd') (stA (V 141) (V 134 9) a) (sk (V 141) (V 134 9) a) (stS (V 141) (V 134 9) a) (stF (V 141) (V 134 9) a) (stV (V 141) (V 134 9) a) x) := by
        intro x hx
        refine ⟨rd', _, _, _, _, _, _, rfl, Or.inl ?_⟩
        rcases hx with ⟨x1, x2⟩ | ⟨x1, x2⟩
        · rw [hr, hff x2]; exact ⟨x2, rfl, x1, rfl⟩
        · rw [hr, hgg x2]; exact ⟨by show (4 : Int) ≠ 0; omega, rfl, x1, rfl⟩
      refine z_aload_n dX11_readsTrain_24 rfl ?_
      refine y_getR fX11_13 dX11_readsTrain_25 (by first | assumption | rfl) (by first | assumption | rfl) ?_
      refine y_bipush dX11_readsTrain_28 (by decide +kernel) ?_
      refine y_iald dX11_readsTrain_30 (by first | assumption | rfl) (by first | rfl | assumption) (by omega) ?_
      rw [mr_136]
      refine z_istore_n dX11_readsTrain_31 (by decide) rfl rfl ?_
      refine z_iload_n dX11_readsTrain_32 rfl ?_
      refine y_bipush dX11_readsTrain_33 (by decide +kernel) ?_
      refine y_icmp_ne dX11_readsTrain_35 (by omega) (by omega) (fun c_35 => ?_) (fun c_35 => ?_)
      · omega
      · refine z_aload_n dX11_readsTrain_38 rfl ?_
        refine y_callVv (ct_mstep hT ha) kX11_136 dX11_readsTrain_39 rfl rfl (by first | assumption | rfl) rfl (by decide) rfl (Nat.le_of_ble_eq_true rfl) (fun V2 h_39 => ?_)
        subst h_39
        refine z_aload_n dX11_readsTrain_42 rfl ?_
        refine y_getI (j := 19) fX11_120 dX11_readsTrain_43 rfl (by first | assumption | rfl) ?_
        rw [mst_19]
        refine y_bipush dX11_readsTrain_46 (by decide +kernel) ?_
        refine y_icmp_eq dX11_readsTrain_48 (by omega) (by omega) (fun c_48 => ?_) (fun c_48 => ?_)
        · have hD := hi48.1 (by omega)
          have hne := hde.1 hD
          have eF' := eF hD
          have eV' := eV hD
          refine z_aload_n dX11_readsTrain_59 rfl ?_
          refine y_getI (j := 20) fX11_123 dX11_readsTrain_60 rfl (by first | assumption | rfl) ?_
          rw [mst_20]
          refine y_iconst dX11_readsTrain_63 ?_
          refine y_icmp_gt dX11_readsTrain_64 (by omega) (by omega) (fun c_64 => ?_) (fun c_64 => ?_)
          · refine z_aload_n dX11_readsTrain_80 rfl ?_
            refine y_iconst dX11_readsTrain_81 ?_
            have hn : N = 2 := by rw [hN]; unfold nF; rw [if_neg hne, if_pos (by omega)]
            have hfin := bad 2 (by omega)
            refine y_callVi (ct_X11_fails) kX11_139 dX11_readsTrain_82 rfl rfl (by first | assumption | rfl) rfl (by decide) rfl (Nat.le_of_ble_eq_true rfl) (fun q_82 V2 h_82 => ?_)
            obtain ⟨z1, z2⟩ := h_82
            subst z1 z2
            refine z_goto dX11_readsTrain_85 ?_
            exact y_zret dX11_readsTrain_93 rfl (by omega) (Nat.le_refl 0) (Nat.le_refl 0) ⟨_, _, rfl, rfl, hfin⟩
          · refine z_aload_n dX11_readsTrain_67 rfl ?_
            refine y_getI (j := 21) fX11_126 dX11_readsTrain_68 rfl (by first | assumption | rfl) ?_
            rw [mst_21]
            refine z_aload_n dX11_readsTrain_71 rfl ?_
            refine y_getR fX11_13 dX11_readsTrain_72 (by first | assumption | rfl) (by first | assumption | rfl) ?_
            refine y_iconst dX11_readsTrain_75 ?_
            refine y_iald dX11_readsTrain_76 (by first | assumption | rfl) (by first | rfl | assumption) (by omega) ?_
            rw [mr_136]
            refine y_icmp_lt dX11_readsTrain_77 (by omega) (by omega) (fun c_77 => ?_) (fun c_77 => ?_)
            · refine z_aload_n dX11_readsTrain_88 rfl ?_
              refine y_iconst dX11_readsTrain_89 ?_
              have hn : N = 0 := by rw [hN]; unfold nF; rw [if_neg hne, if_neg (by omega)]
              have hfin := bad 4 (by omega)
              refine y_callVi (ct_X11_fails) kX11_139 dX11_readsTrain_90 rfl rfl (by first | assumption | rfl) rfl (by decide) rfl (Nat.le_of_ble_eq_true rfl) (fun q_90 V2 h_90 => ?_)
              obtain ⟨z1, z2⟩ := h_90
              subst z1 z2
              exact y_zret dX11_readsTrain_93 rfl (by omega) (Nat.le_refl 0) (Nat.le_refl 0) ⟨_, _, rfl, rfl, hfin⟩
            · refine z_aload_n dX11_readsTrain_80 rfl ?_
              refine y_iconst dX11_readsTrain_81 ?_
              have hn : N = 2 := by rw [hN]; unfold nF; rw [if_neg hne, if_pos (by omega)]
              have hfin := bad 2 (by omega)
              refine y_callVi (ct_X11_fails) kX11_139 dX11_readsTrain_82 rfl rfl (by first | assumption | rfl) rfl (by decide) rfl (Nat.le_of_ble_eq_true rfl) (fun q_82 V2 h_82 => ?_)
              obtain ⟨z1, z2⟩ := h_82
              subst z1 z2
              refine z_goto dX11_readsTrain_85 ?_
              exact y_zret dX11_readsTrain_93 rfl (by omega) (Nat.le_refl 0) (Nat.le_refl 0) ⟨_, _, rfl, rfl, hfin⟩
        · have hn : N = 1 := by rw [hN]; unfold nF; rw [if_pos (by by_cases h : de (V 141) (V 134 9) (sk (V 141) (V 134 9) a) = sk (V 141) (V 134 9) a; exact h; exact absurd (hi48.2 (hde.2 h)) (by omega))]
          have hfin := bad 1 (by omega)
          refine z_aload_n dX11_readsTrain_51 rfl ?_
          refine y_iconst dX11_readsTrain_52 ?_
          refine y_callVi (ct_X11_fails) kX11_139 dX11_readsTrain_53 rfl rfl (by first | assumption | rfl) rfl (by decide) rfl (Nat.le_of_ble_eq_true rfl) (fun q_53 V2 h_53 => ?_)
          obtain ⟨z1, z2⟩ := h_53
          subst z1 z2
          refine z_goto dX11_readsTrain_56 ?_
          exact y_zret dX11_readsTrain_93 rfl (by omega) (Nat.le_refl 0) (Nat.le_refl 0) ⟨_, _, rfl, rfl, hfin⟩
    | succ k ih =>
      intro a p s f v w mt l3 rd' hi hi0 ha h5 hm hmt hr
      obtain ⟨q0, hq0⟩ : ∃ q0, q0 = sk (V 141) (V 134 9) a := ⟨_, rfl⟩
      obtain ⟨e0, he0⟩ : ∃ e0, e0 = de (V 141) (V 134 9) q0 := ⟨_, rfl⟩
      obtain ⟨v0, hv0⟩ : ∃ v0, v0 = va (V 141) (V 134 9) q0 := ⟨_, rfl⟩
      have hnum := ct_X11_number (rd := rd') (b := b) (a := a) (p := p) (s := s) (f := f) (v := v) (w := w) (pl := 34 + rd' 33) (lo := 0) (hi := rd' 5 - 1) hT ha (by omega) (by omega) (by omega)
      rw [← hq0, ← he0, ← hv0] at hnum
      have hff := fun h => pTr_f (rd := rd') (t := V 141) (n := V 134 9) (a := a) (k := k + 1) h
      have hgg := fun h => pTr_g (rd := rd') (t := V 141) (n := V 134 9) (a := a) (k := k) h
      rw [← hq0, ← he0, ← hv0] at hff
      rw [← hq0, ← he0, ← hv0] at hgg
      have hkq := sk_rg (t := V 141) ha.2
      rw [← hq0] at hkq
      have hde := de_rg (t := V 141) hkq.2
      rw [← he0] at hde
      have hA := stA_rg (t := V 141) (n := V 134 9) (a := e0) (by omega) hde.2
      have hS := stS_rg (n := V 134 9) (a := e0) hT2
      have h44 := stS_59 (t := V 141) (n := V 134 9) (a := e0) (x := 44) (by omega)
      have h59 := stS_59 (t := V 141) (n := V 134 9) (a := e0) (x := 59) (by omega)
      have e1 : iup rd' (34 + rd' 33) v0 33 = rd' 33 := iup_n (by omega)
      have e34 : iup rd' (34 + rd' 33) v0 (34 + rd' 33) = v0 := iup_s _ _ _
      obtain ⟨rd'', hrd''⟩ : ∃ rd'', rd'' = iup (iup rd' (34 + rd' 33) v0) 33 (rd' 33 + 1) := ⟨_, rfl⟩
      have e2 : rd'' 33 = rd' 33 + 1 := by rw [hrd'', iup_s]
      have e5 : rd'' 5 = rd' 5 := by rw [hrd'', iup_n (by omega), iup_n (by omega)]
      rw [← hrd''] at hgg
      have aft : ∀ (w : Int), nF e0 q0 v0 0 (rd' 5 - 1) = 0 → tb mt v0 = false → yE 4 (pI b (fun q V' => mlP V res q V')) mX11_readsTrain 167 [some (.ref 134), some (.int (iI (bOr mt (s1 v0)))), some (.int (iI 1)), some (.int (iI (rd' 33)))] [] (mst (zup V 136 rd'') (stA (V 141) (V 134 9) e0) (sk (V 141) (V 134 9) e0) (stS (V 141) (V 134 9) e0) (stF (V 141) (V 134 9) e0) (stV (V 141) (V 134 9) e0) w) b := by
        intro w hn hnm
        have hn0 := nF_0 hn
        have hrr := hgg hn
        rw [← hr, ← hmt v0 (by omega) (by omega), hnm, if_neg (by decide)] at hrr
        have hs7 : s1 v0 ≤ 64 := by
          have : 2 ^ v0.toNat ≤ 2 ^ 6 := Nat.pow_le_pow_right (by decide) (by omega)
          have p6 : (2 ^ 6 : Nat) = 64 := by decide
          unfold s1
          omega
        have p7 : (2 ^ 7 : Nat) = 128 := by decide
        have hb7 := bOr_lt (x := mt) (y := s1 v0) 7 (by omega) (by omega)
        have hbn := bOr_nn mt (s1 v0)
        have hmt'' : ∀ u, 0 ≤ u → u ≤ 6 → tb (bOr mt (s1 v0)) u = mtB rd'' u (rd'' 33).toNat := by
          intro u u0 u6
          rw [tb_or _ _ _ (by omega) u0, hmt u u0 u6, e2, show (rd' 33 + 1).toNat = (rd' 33).toNat + 1 by omega]
          show _ = (mtB rd'' u (rd' 33).toNat || decide (rd'' (34 + ((rd' 33).toNat : Nat)) = u))
          rw [hrd'', mtB_up _ (by omega)]
          congr 1
          apply decide_eq_decide.2
          rw [iup_n (by omega), show (34 : Int) + ((rd' 33).toNat : Nat) = 34 + rd' 33 by omega, iup_s]
          omega
        have to20 : ∀ x : Int, (x = 1 ∧ ltT (V 141) (V 134 9) (sk (V 141) (V 134 9) e0) = 44) ∨ (x = 0 ∧ ltT (V 141) (V 134 9) (sk (V 141) (V 134 9) e0) ≠ 44) → yE 4 (pI b (fun q V' => mlP V res q V')) mX11_readsTrain 20 [some (.ref 134), some (.int (iI (bOr mt (s1 v0)))), some (.int (iI x)), some (.int (iI (rd' 33)))] [] (mst (zup V 136 rd'') (stA (V 141) (V 134 9) e0) (sk (V 141) (V 134 9) e0) (stS (V 141) (V 134 9) e0) (stF (V 141) (V 134 9) e0) (stV (V 141) (V 134 9) e0) w) b := by
          intro x hx
          refine z_iload_n dX11_readsTrain_20 rfl ?_
          refine y_if_eq dX11_readsTrain_21 (by omega) (fun c_21 => ?_) (fun c_21 => ?_)
          · have hq : ltT (V 141) (V 134 9) (sk (V 141) (V 134 9) e0) ≠ 44 := by omega
            rw [if_neg hq] at hrr
            refine z_aload_n dX11_readsTrain_185 rfl ?_
            refine y_getI (j := 19) fX11_120 dX11_readsTrain_186 rfl (by first | assumption | rfl) ?_
            rw [mst_19]
            refine y_bipush dX11_readsTrain_189 (by decide +kernel) ?_
            refine y_icmp_eq dX11_readsTrain_191 (by omega) (by omega) (fun c_191 => ?_) (fun c_191 => ?_)
            · have hp := h59.1 (by omega)
              have hfin : mlP V res 1 (mst (zup V 136 rd'') (stA (V 141) (V 134 9) e0) (sk (V 141) (V 134 9) e0) (stS (V 141) (V 134 9) e0) (stF (V 141) (V 134 9) e0) (stV (V 141) (V 134 9) e0) w) := by
                refine ⟨rd'', _, _, _, _, _, _, rfl, Or.inr ?_⟩
                rw [hrr]
                unfold pEnd
                rw [if_pos hp]
                exact ⟨rfl, rfl, stA_59 hp (by omega) (by omega), hA, rfl⟩
              refine y_iconst dX11_readsTrain_202 ?_
              refine z_goto dX11_readsTrain_203 ?_
              exact y_zret dX11_readsTrain_207 rfl (by omega) (Nat.le_refl 0) (Nat.le_refl 0) ⟨_, _, rfl, rfl, hfin⟩
            · have hp : ltT (V 141) (V 134 9) (sk (V 141) (V 134 9) e0) ≠ 59 := fun h => absurd (h59.2 h) (by omega)
              refine z_aload_n dX11_readsTrain_194 rfl ?_
              refine y_iconst dX11_readsTrain_195 ?_
              refine y_callVi (ct_X11_fails) kX11_139 dX11_readsTrain_196 rfl rfl (by first | assumption | rfl) rfl (by decide) rfl (Nat.le_of_ble_eq_true rfl) (fun q_196 V2 h_196 => ?_)
              obtain ⟨z1, z2⟩ := h_196
              have hfin : mlP V res 0 V2 := by
                rw [z2]
                refine ⟨rd'', _, _, _, _, _, _, rfl, Or.inl ?_⟩
                rw [hrr]
                unfold pEnd
                rw [if_neg hp]
                exact ⟨by show (1 : Int) ≠ 0; omega, rfl, rfl, rfl⟩
              refine y_if_eq dX11_readsTrain_199 (by omega) (fun c_199 => ?_) (fun c_199 => ?_)
              · refine y_iconst dX11_readsTrain_206 ?_
                exact y_zret dX11_readsTrain_207 rfl (by omega) (Nat.le_refl 0) (Nat.le_refl 0) ⟨_, _, rfl, rfl, hfin⟩
              · omega
          · have hq : ltT (V 141) (V 134 9) (sk (V 141) (V 134 9) e0) = 44 := by omega
            have hx1 : x = 1 := by omega
            subst hx1
            have hA1 := stA_59 hq (by omega) (by omega)
            rw [if_pos hq, ← hA1] at hrr
            have hnx := ih _ (sk (V 141) (V 134 9) e0) (stS (V 141) (V 134 9) e0) (stF (V 141) (V 134 9) e0) (stV (V 141) (V 134 9) e0) w (bOr mt (s1 v0)) (some (.int (iI (rd' 33)))) rd'' (by omega) (by omega) hA (by omega) (by omega) hmt'' hrr
            exact hnx
        refine z_aload_n dX11_readsTrain_167 rfl ?_
        refine y_getI (j := 19) fX11_120 dX11_readsTrain_168 rfl (by first | assumption | rfl) ?_
        rw [mst_19]
        refine y_bipush dX11_readsTrain_171 (by decide +kernel) ?_
        refine y_icmp_ne dX11_readsTrain_173 (by omega) (by omega) (fun c_173 => ?_) (fun c_173 => ?_)
        · have h77 : ltT (V 141) (V 134 9) (sk (V 141) (V 134 9) e0) ≠ 44 := fun h => absurd (h44.2 h) (by omega)
          refine y_iconst dX11_readsTrain_180 ?_
          refine z_istore_n dX11_readsTrain_181 (by decide) rfl rfl ?_
          refine z_goto dX11_readsTrain_182 ?_
          exact to20 _ (by omega)
        · have h77 : ltT (V 141) (V 134 9) (sk (V 141) (V 134 9) e0) = 44 := h44.1 (by omega)
          refine y_iconst dX11_readsTrain_176 ?_
          refine z_goto dX11_readsTrain_177 ?_
          refine z_istore_n dX11_readsTrain_181 (by decide) rfl rfl ?_
          refine z_goto dX11_readsTrain_182 ?_
          exact to20 _ (by omega)
      refine z_aload_n dX11_readsTrain_24 rfl ?_
      refine y_getR fX11_13 dX11_readsTrain_25 (by first | assumption | rfl) (by first | assumption | rfl) ?_
      refine y_bipush dX11_readsTrain_28 (by decide +kernel) ?_
      refine y_iald dX11_readsTrain_30 (by first | assumption | rfl) (by first | rfl | assumption) (by omega) ?_
      rw [mr_136]
      refine z_istore_n dX11_readsTrain_31 (by decide) rfl rfl ?_
      refine z_iload_n dX11_readsTrain_32 rfl ?_
      refine y_bipush dX11_readsTrain_33 (by decide +kernel) ?_
      refine y_icmp_ne dX11_readsTrain_35 (by omega) (by omega) (fun c_35 => ?_) (fun c_35 => ?_)
      · refine z_aload_n dX11_readsTrain_94 rfl ?_
        refine y_bipush dX11_readsTrain_95 (by decide +kernel) ?_
        refine z_iload_n dX11_readsTrain_97 rfl ?_
        refine y_iadd dX11_readsTrain_98 ?_
        refine y_iconst dX11_readsTrain_99 ?_
        refine z_aload_n dX11_readsTrain_100 rfl ?_
        refine y_getR fX11_13 dX11_readsTrain_101 (by first | assumption | rfl) (by first | assumption | rfl) ?_
        refine y_iconst dX11_readsTrain_104 ?_
        refine y_iald dX11_readsTrain_105 (by first | assumption | rfl) (by first | rfl | assumption) (by omega) ?_
        rw [mr_136]
        refine y_iconst dX11_readsTrain_106 ?_
        refine y_isub dX11_readsTrain_107 ?_
        refine y_callVi (hnum) kX11_143 dX11_readsTrain_108 rfl rfl (by first | assumption | rfl) rfl (by decide) rfl (Nat.le_of_ble_eq_true rfl) (fun q_108 V1 h_108 => ?_)
        obtain ⟨a', s', f', v', g1, g2⟩ := h_108
        refine y_if_ne dX11_readsTrain_111 (by omega) (fun c_111 => ?_) (fun c_111 => ?_)
        · obtain ⟨g3, g4, g5, g6⟩ := g2.resolve_left (fun h => by omega)
          rw [g5] at g6
          subst g6
          have hn0 := nF_0 g3
          have hs1p := s1_pos v0
          refine z_iload_n dX11_readsTrain_116 rfl ?_
          refine z_aload_n dX11_readsTrain_117 rfl ?_
          refine y_getR fX11_13 dX11_readsTrain_118 (by first | assumption | rfl) (by first | assumption | rfl) ?_
          refine y_bipush dX11_readsTrain_121 (by decide +kernel) ?_
          refine z_iload_n dX11_readsTrain_123 rfl ?_
          refine y_iadd dX11_readsTrain_124 ?_
          refine y_iald dX11_readsTrain_125 (by first | assumption | rfl) (by first | rfl | assumption) (by omega) ?_
          rw [mr_136, e34]
          refine y_callSr (ct_X11_has (by omega) (by omega)) kX11_151 dX11_readsTrain_126 rfl rfl (by decide) rfl (Nat.le_of_ble_eq_true rfl) (fun r_126 h_126 => ?_)
          refine y_if_eq dX11_readsTrain_129 (by omega) (fun c_129 => ?_) (fun c_129 => ?_)
          · have htb : tb mt v0 = false := by
              cases hh : tb mt v0 with
              | false => rfl
              | true => rw [hh, if_pos rfl] at h_126; omega
            refine z_iload_n dX11_readsTrain_138 rfl ?_
            refine y_iconst dX11_readsTrain_139 ?_
            refine z_aload_n dX11_readsTrain_140 rfl ?_
            refine y_getR fX11_13 dX11_readsTrain_141 (by first | assumption | rfl) (by first | assumption | rfl) ?_
            refine y_bipush dX11_readsTrain_144 (by decide +kernel) ?_
            refine z_iload_n dX11_readsTrain_146 rfl ?_
            refine y_iadd dX11_readsTrain_147 ?_
            refine y_iald dX11_readsTrain_148 (by first | assumption | rfl) (by first | rfl | assumption) (by omega) ?_
            rw [mr_136, e34]
            refine y_shl1 dX11_readsTrain_149 (by omega) ?_
            refine y_ior dX11_readsTrain_150 (by omega) (by omega) ?_
            refine z_istore_n dX11_readsTrain_151 (by decide) rfl rfl ?_
            refine z_aload_n dX11_readsTrain_152 rfl ?_
            refine y_getR fX11_13 dX11_readsTrain_153 (by first | assumption | rfl) (by first | assumption | rfl) ?_
            refine y_bipush dX11_readsTrain_156 (by decide +kernel) ?_
            refine z_dup2 dX11_readsTrain_158 rfl rfl ?_
            refine y_iald dX11_readsTrain_159 (by first | assumption | rfl) (by first | rfl | assumption) (by omega) ?_
            rw [mr_136, e1]
            refine y_iconst dX11_readsTrain_160 ?_
            refine y_iadd dX11_readsTrain_161 ?_
            refine y_iast dX11_readsTrain_162 (by first | assumption | rfl) (by first | rfl | assumption) (by omega) ?_
            rw [mr_u136, ← hrd'']
            refine z_aload_n dX11_readsTrain_163 rfl ?_
            refine y_callVv (ct_mstep hT (by omega)) kX11_136 dX11_readsTrain_164 rfl rfl (by first | assumption | rfl) rfl (by decide) rfl (Nat.le_of_ble_eq_true rfl) (fun V2 h_164 => ?_)
            subst h_164
            exact aft _ g3 htb
          · have htb : tb mt v0 = true := by
              cases hh : tb mt v0 with
              | true => rfl
              | false => rw [hh, if_neg (by decide)] at h_126; omega
            have hrr := hgg g3
            rw [← hr, ← hmt v0 (by omega) (by omega), if_pos htb] at hrr
            refine z_aload_n dX11_readsTrain_132 rfl ?_
            refine y_iconst dX11_readsTrain_133 ?_
            refine y_callVi (ct_X11_fails) kX11_139 dX11_readsTrain_134 rfl rfl (by first | assumption | rfl) rfl (by decide) rfl (Nat.le_of_ble_eq_true rfl) (fun q_134 V2 h_134 => ?_)
            obtain ⟨z1, z2⟩ := h_134
            exact y_zret dX11_readsTrain_137 rfl (by omega) (Nat.le_refl 0) (Nat.le_refl 0) ⟨_, _, rfl, rfl, by rw [z2]; exact ⟨_, _, _, s', f', v', 4, rfl, Or.inl ⟨by rw [hrr]; show (4 : Int) ≠ 0; omega, z1, by rw [hrr], by rw [hrr, hq0]⟩⟩⟩
        · obtain ⟨g3, g4, g5⟩ := g2.resolve_right (fun h => by omega)
          refine y_iconst dX11_readsTrain_114 ?_
          exact y_zret dX11_readsTrain_115 rfl (by omega) (Nat.le_refl 0) (Nat.le_refl 0) ⟨_, _, rfl, rfl, by rw [g5]; exact ⟨rd', a', q0, s', f', v', _, rfl, Or.inl ⟨by rw [hr, hff g3]; exact g3, rfl, by rw [hr, hff g3], by rw [hr, hff g3]⟩⟩⟩
      · omega
  have hl := fun (h : ¬ 0 < rd 33) => loop 7 a p s f v w 0 none rd (by omega) (by omega) ha h5 (by omega) (fun u _ _ => by rw [tb_0, show (rd 33).toNat = 0 by omega]; rfl) (by rw [hres, if_neg h])
  refine zC_of (by decide +kernel) (Nat.le_of_ble_eq_true rfl) rfl ?_
  refine z_aload_n dX11_readsTrain_0 rfl ?_
  refine y_getR fX11_13 dX11_readsTrain_1 (by first | assumption | rfl) (by first | assumption | rfl) ?_
  refine y_bipush dX11_readsTrain_4 (by decide +kernel) ?_
  refine y_iald dX11_readsTrain_6 (by first | assumption | rfl) (by first | rfl | assumption) (by omega) ?_
  rw [mr_136]
  refine y_if_le dX11_readsTrain_7 (by omega) (fun c_7 => ?_) (fun c_7 => ?_)
  · refine y_iconst dX11_readsTrain_16 ?_
    refine z_istore_n dX11_readsTrain_17 (by decide) rfl rfl ?_
    refine y_iconst dX11_readsTrain_18 ?_
    refine z_istore_n dX11_readsTrain_19 (by decide) rfl rfl ?_
    refine z_iload_n dX11_readsTrain_20 rfl ?_
    refine y_if_eq dX11_readsTrain_21 (by omega) (fun c_21 => ?_) (fun c_21 => ?_)
    · omega
    · exact hl (by omega)
  · refine z_aload_n dX11_readsTrain_10 rfl ?_
    refine y_iconst dX11_readsTrain_11 ?_
    refine y_callVi (ct_X11_fails) kX11_139 dX11_readsTrain_12 rfl rfl (by first | assumption | rfl) rfl (by decide) rfl (Nat.le_of_ble_eq_true rfl) (fun q_11 V2 h_11 => ?_)
    obtain ⟨z1, z2⟩ := h_11
    exact y_zret dX11_readsTrain_15 rfl (by omega) (Nat.le_refl 0) (Nat.le_refl 0) ⟨_, _, rfl, rfl, by rw [z2, hres, if_pos (by omega)]; exact ⟨rd, a, p, s, f, v, 3, rfl, Or.inl ⟨by show (3 : Int) ≠ 0; omega, z1, rfl, rfl⟩⟩⟩
end

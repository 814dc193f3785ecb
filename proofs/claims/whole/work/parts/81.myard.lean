/-! ===== the model's yard ===== -/
def rd0M (V : Nat → Int → Int) : Int → Int := ifl (V 136) 41 0
def myP (V : Nat → Int → Int) (q : Int) (V' : Nat → Int → Int) : Prop :=
  ∃ res, res = pYd (V 141) (V 134 9) 230 0 (rd0M V) ∧ ∃ rd' a p s f v w, ((res.1 ≠ 0 ∧ q = -10 - res.1 ∧ V' = vst (vst (mst (zup (vst V 134 10 (-1)) 136 rd') a p s f v w) 134 9 0) 134 10 res.2.1) ∨ (res.1 = 0 ∧ q = res.2.2.2 5 ∧ V' = bgM (zup (vst (mst (zup (vst V 134 10 (-1)) 136 res.2.2.2) a p s f v w) 134 9 0) 135 (icp res.2.2.2 (V 135) 0 0 41))))
theorem rdK_0 {rd : Int → Int} (h : ∀ j, 0 ≤ j → j ≤ 40 → rd j = 0) : rdK rd := by
  unfold rdK
  rw [h 0 (by omega) (by omega), h 5 (by omega) (by omega), h 32 (by omega) (by omega), h 33 (by omega) (by omega)]
  exact ⟨by omega, by omega, by omega, by omega, fun k k0 k1 => by rw [h _ (by omega) (by omega)]; omega⟩
theorem rd0M_0 (V : Nat → Int → Int) : ∀ j, 0 ≤ j → j ≤ 40 → rd0M V j = 0 := fun j h0 h1 => by unfold rd0M; rw [ifl_in (by omega)]
theorem vst_comm {V : Nat → Int → Int} {a : Nat} {i j x y : Int} (h : i ≠ j) : vst (vst V a i x) a j y = vst (vst V a j y) a i x := by
  unfold vst
  rw [zup_s, zup_s, zup_zup, zup_zup, iup_comm h]
/-! faults are 0 to 4 -/
section
variable {t : Int → Int} {n : Int}
abbrev f4 (r : pRs) : Prop := 0 ≤ r.1 ∧ r.1 ≤ 4
theorem nF_4 (e p v lo hi : Int) : 0 ≤ nF e p v lo hi ∧ nF e p v lo hi ≤ 4 := by have := nF_rg e p v lo hi; omega
theorem pEnd_4 (e : Int) (rd : Int → Int) : f4 (pEnd t n e rd) := by
  unfold pEnd
  split
  · show (0 : Int) ≤ 0 ∧ (0 : Int) ≤ 4; omega
  · show (0 : Int) ≤ 1 ∧ (1 : Int) ≤ 4; omega
theorem pRo_4 : ∀ (k : Nat) (a : Int) (rd : Int → Int), f4 (pRo t n k a rd)
  | 0, a, rd => by show (0 : Int) ≤ 1 ∧ (1 : Int) ≤ 4; omega
  | k + 1, a, rd => by
    unfold pRo
    split
    · exact nF_4 _ _ _ _ _
    · split
      · exact pRo_4 k _ _
      · exact pEnd_4 _ _
theorem pNu_4 {a lo hi : Int} {rd : Int → Int} {k : Int → Int → pRs} (h : ∀ v e, f4 (k v e)) : f4 (pNu t n a lo hi rd k) := by
  unfold pNu
  split
  · exact nF_4 _ _ _ _ _
  · exact h _ _
theorem four4 : (0 : Int) ≤ 4 ∧ (4 : Int) ≤ 4 := by omega
theorem pTr_4 : ∀ (k : Nat) (a : Int) (rd : Int → Int), f4 (pTr t n k a rd)
  | 0, a, rd => pNu_4 (fun _ _ => four4)
  | k + 1, a, rd => by
    refine pNu_4 (fun v e => ?_)
    split
    · exact four4
    · split
      · exact pTr_4 k _ _
      · exact pEnd_4 _ _
theorem pCl_4 (p : Int) (rd : Int → Int) : f4 (pCl t n p rd) := by
  have o1 : (0 : Int) ≤ 1 ∧ (1 : Int) ≤ 4 := by omega
  have o3 : (0 : Int) ≤ 3 ∧ (3 : Int) ≤ 4 := by omega
  unfold pCl
  (repeat' split)
  all_goals first
    | exact o1
    | exact o3
    | exact pRo_4 _ _ _
    | exact pTr_4 _ _ _
    | exact pNu_4 (fun _ _ => pNu_4 (fun _ _ => pNu_4 (fun _ _ => pEnd_4 _ _)))
    | (refine pNu_4 (fun _ _ => pNu_4 (fun _ _ => ?_)); split; exact four4; exact pEnd_4 _ _)
theorem pYd_4 : ∀ (k : Nat) (a : Int) (rd : Int → Int), f4 (pYd t n k a rd)
  | 0, a, rd => by show (0 : Int) ≤ 0 ∧ (0 : Int) ≤ 4; omega
  | k + 1, a, rd => by
    unfold pYd
    split
    · show (0 : Int) ≤ 0 ∧ (0 : Int) ≤ 4; omega
    · split
      · exact pCl_4 _ _
      · exact pYd_4 k _ _
end
theorem pRs_fault {t : Int → Int} {n : Int} : ∀ (k : Nat) (a : Int) (rd : Int → Int), (pYd t n k a rd).1 = 0 → rdK rd → rdK (pYd t n k a rd).2.2.2
  | 0, a, rd, _, h => h
  | k + 1, a, rd, h0, h => by
    unfold pYd at h0 ⊢
    by_cases h1 : sk t n a = n
    · rw [if_pos h1] at h0 ⊢; exact h
    · rw [if_neg h1] at h0 ⊢
      by_cases h2 : (pCl t n (sk t n a) rd).1 ≠ 0
      · rw [if_pos h2] at h0 ⊢; exact absurd h0 h2
      · rw [if_neg h2] at h0 ⊢
        exact pRs_fault k _ _ h0 (pCl_K h (by omega))
section
variable {V : Nat → Int → Int} {b : Bool}
theorem ct_X11_yard (hT : tM V) : yC 6 mX11_yard [.ref 134] V b (pI b (myP V)) := by
  obtain ⟨hT1, hT2⟩ := id hT
  obtain ⟨res, hres⟩ : ∃ res, res = pYd (V 141) (V 134 9) 230 0 (rd0M V) := ⟨_, rfl⟩
  obtain ⟨W, hW⟩ : ∃ W, W = vst V 134 10 (-1) := ⟨_, rfl⟩
  have w141 : W 141 = V 141 := by rw [hW, vst_o (by decide)]
  have w135 : W 135 = V 135 := by rw [hW, vst_o (by decide)]
  have w9 : W 134 9 = V 134 9 := by rw [hW, vst_n (by decide)]
  have hTW : tM W := by unfold tM; rw [w141, w9]; exact hT
  have hr1 : 0 ≤ res.1 ∧ res.1 ≤ 4 := by rw [hres]; exact pYd_4 _ _ _
  -- the copy
  have copy : ∀ (a p s f v w : Int) (k : Nat) (i : Int), res.1 = 0 → 0 ≤ i → i + k = 41 → yE 6 (pI b (myP V)) mX11_yard 91 [some (.ref 134), some (.int (iI 1)), some (.int (iI i))] [] (zup (vst (mst (zup W 136 res.2.2.2) a p s f v w) 134 9 0) 135 (icp res.2.2.2 (V 135) 0 0 i)) b := by
    intro a p s f v w k
    induction k with
    | zero =>
      intro i h0 h1 h2
      have hi : i = 41 := by omega
      subst hi
      refine z_iload_n dX11_yard_91 rfl ?_
      refine y_bipush dX11_yard_92 (by decide +kernel) ?_
      refine y_icmp_ge dX11_yard_94 (by omega) (by omega) (fun c_94 => ?_) (fun c_94 => ?_)
      · refine z_aload_n dX11_yard_115 rfl ?_
        refine y_callVv (ct_X11_begins) kX11_84 dX11_yard_116 rfl rfl (by first | assumption | rfl) rfl (by decide) rfl (Nat.le_of_ble_eq_true rfl) (fun V1 h_116 => ?_)
        have e5 : V1 135 5 = res.2.2.2 5 := by
          rw [h_116]
          unfold bgM
          rw [vst_o (by decide), vst_o (by decide), vst_o (by decide), vst_o (by decide), vst_o (by decide), vst_o (by decide), zup_n _ _ (by decide), zup_s]
          unfold icp
          rw [if_pos (by omega)]
          rfl
        refine z_aload_n dX11_yard_119 rfl ?_
        refine y_getR fX11_7 dX11_yard_120 (by first | assumption | rfl) (by first | assumption | rfl) ?_
        refine y_iconst dX11_yard_123 ?_
        refine y_iald dX11_yard_124 (by first | assumption | rfl) (by first | rfl | assumption) (by omega) ?_
        rw [e5]
        exact z_iret dX11_yard_125 rfl (Nat.le_refl 0) (Nat.le_refl 0) ⟨_, _, rfl, rfl, res, hres, res.2.2.2, a, p, s, f, v, w, Or.inr ⟨h0, rfl, by rw [h_116, hW]⟩⟩
      · omega
    | succ k ih =>
      intro i h0 h1 h2
      have hh := ih (i + 1) h0 (by omega) (by omega)
      rw [← icp_s _ _ h1, ← vst_zup_s, Int.zero_add] at hh
      have e : zup (vst (mst (zup W 136 res.2.2.2) a p s f v w) 134 9 0) 135 (icp res.2.2.2 (V 135) 0 0 i) 136 i = res.2.2.2 (0 + i) := by
        rw [zup_n _ _ (by decide), vst_o (by decide), mst_o (by decide), zup_s, Int.zero_add]
      refine z_iload_n dX11_yard_91 rfl ?_
      refine y_bipush dX11_yard_92 (by decide +kernel) ?_
      refine y_icmp_ge dX11_yard_94 (by omega) (by omega) (fun c_94 => ?_) (fun c_94 => ?_)
      · omega
      · refine z_aload_n dX11_yard_97 rfl ?_
        refine y_getR fX11_7 dX11_yard_98 (by first | assumption | rfl) (by first | assumption | rfl) ?_
        refine z_iload_n dX11_yard_101 rfl ?_
        refine z_aload_n dX11_yard_102 rfl ?_
        refine y_getR fX11_13 dX11_yard_103 (by first | assumption | rfl) (by first | assumption | rfl) ?_
        refine z_iload_n dX11_yard_106 rfl ?_
        refine y_iald dX11_yard_107 (by first | assumption | rfl) (by first | rfl | assumption) (by omega) ?_
        rw [e, Int.zero_add]
        refine y_iast dX11_yard_108 (by first | assumption | rfl) (by first | rfl | assumption) (by omega) ?_
        refine y_iinc dX11_yard_109 rfl (by decide) rfl rfl ?_
        refine z_goto dX11_yard_112 ?_
        exact hh
  have good : ∀ (a p s f v w : Int) (rd : Int → Int), res = (0, -1, V 134 9, rd) ∨ (∃ x, res = (0, -1, x, rd)) → yE 6 (pI b (myP V)) mX11_yard 64 [some (.ref 134), some (.int (iI 1)), none] [] (mst (zup W 136 rd) a p s f v w) b := by
    intro a p s f v w rd hr
    have hr1 : res.1 = 0 ∧ res.2.2.2 = rd := by rcases hr with h | ⟨x, h⟩ <;> rw [h] <;> exact ⟨rfl, rfl⟩
    have hc := copy a p s f v w 41 0 hr1.1 (by omega) (by omega)
    rw [icp_0, hr1.2, show zup (vst (mst (zup W 136 rd) a p s f v w) 134 9 0) 135 (V 135) = vst (mst (zup W 136 rd) a p s f v w) 134 9 0 by
      have e := zup_id (vst (mst (zup W 136 rd) a p s f v w) 134 9 0) 135
      rw [vst_o (by decide), mst_o (by decide), zup_n _ _ (by decide), w135] at e
      exact e] at hc
    refine z_aload_n dX11_yard_64 rfl ?_
    refine y_iconst dX11_yard_65 ?_
    refine y_putI (j := 9) fX11_106 dX11_yard_66 rfl (by first | assumption | rfl) ?_
    refine z_iload_n dX11_yard_69 rfl ?_
    refine y_if_ne dX11_yard_70 (by omega) (fun c_70 => ?_) (fun c_70 => ?_)
    · refine y_iconst dX11_yard_89 ?_
      refine z_istore_n dX11_yard_90 (by decide) rfl rfl ?_
      exact hc
    · omega
  have bad : ∀ (a s f v : Int) (rd : Int → Int), res.1 ≠ 0 → yE 6 (pI b (myP V)) mX11_yard 64 [some (.ref 134), some (.int (iI 0)), none] [] (mst (zup W 136 rd) a res.2.1 s f v res.1) b := by
    intro a s f v rd hr
    have e18 : vst (mst (zup W 136 rd) a res.2.1 s f v res.1) 134 9 0 134 18 = res.2.1 := by rw [vst_n (by decide), mst_18]
    have e22 : vst (vst (mst (zup W 136 rd) a res.2.1 s f v res.1) 134 9 0) 134 10 res.2.1 134 22 = res.1 := by rw [vst_n (by decide), vst_n (by decide), mst_22]
    refine z_aload_n dX11_yard_64 rfl ?_
    refine y_iconst dX11_yard_65 ?_
    refine y_putI (j := 9) fX11_106 dX11_yard_66 rfl (by first | assumption | rfl) ?_
    refine z_iload_n dX11_yard_69 rfl ?_
    refine y_if_ne dX11_yard_70 (by omega) (fun c_70 => ?_) (fun c_70 => ?_)
    · omega
    · refine z_aload_n dX11_yard_73 rfl ?_
      refine z_aload_n dX11_yard_74 rfl ?_
      refine y_getI (j := 18) fX11_117 dX11_yard_75 rfl (by first | assumption | rfl) ?_
      rw [e18]
      refine y_putI (j := 10) fX11_32 dX11_yard_78 rfl (by first | assumption | rfl) ?_
      refine y_bipush dX11_yard_81 (by decide +kernel) ?_
      refine z_aload_n dX11_yard_83 rfl ?_
      refine y_getI (j := 22) fX11_133 dX11_yard_84 rfl (by first | assumption | rfl) ?_
      rw [e22]
      refine y_isub dX11_yard_87 ?_
      exact z_iret dX11_yard_88 rfl (Nat.le_refl 0) (Nat.le_refl 0) ⟨_, _, rfl, rfl, res, hres, rd, a, res.2.1, s, f, v, res.1, Or.inl ⟨hr, rfl, by rw [hW]⟩⟩
  have loop : ∀ (k : Nat) (a0 w : Int) (rd : Int → Int), (0 ≤ a0 ∧ a0 ≤ V 134 9) → 230 ≤ k + a0 → rdK rd → res = pYd (V 141) (V 134 9) k a0 rd → yE 6 (pI b (myP V)) mX11_yard 37 [some (.ref 134), some (.int (iI 1)), none] [] (mst (zup W 136 rd) (stA (V 141) (V 134 9) a0) (sk (V 141) (V 134 9) a0) (stS (V 141) (V 134 9) a0) (stF (V 141) (V 134 9) a0) (stV (V 141) (V 134 9) a0) w) b := by
    intro k
    induction k with
    | zero =>
      intro a0 w rd ha hk hK hr
      have hsk := sk_rg (t := V 141) ha.2
      have hs1 : stS (V 141) (V 134 9) a0 = -1 := by
        rw [stS_59 (by omega)]
        exact if_neg (by omega)
      refine z_aload_n dX11_yard_37 rfl ?_
      refine y_getI (j := 19) fX11_120 dX11_yard_38 rfl (by first | assumption | rfl) ?_
      rw [mst_19, hs1]
      refine y_if_lt dX11_yard_41 (by omega) (fun c_41 => ?_) (fun c_41 => ?_)
      · exact good _ _ _ _ _ _ _ (Or.inr ⟨a0, hr⟩)
      · omega
    | succ k ih =>
      intro a0 w rd ha hk hK hr
      have hsk := sk_rg (t := V 141) ha.2
      have hS := stS_rg (n := V 134 9) (a := a0) hT2
      have hA := stA_rg (t := V 141) ha.1 ha.2
      have hr' : res = if sk (V 141) (V 134 9) a0 = V 134 9 then (0, -1, V 134 9, rd) else if (pCl (V 141) (V 134 9) (sk (V 141) (V 134 9) a0) rd).1 ≠ 0 then pCl (V 141) (V 134 9) (sk (V 141) (V 134 9) a0) rd else pYd (V 141) (V 134 9) k (pCl (V 141) (V 134 9) (sk (V 141) (V 134 9) a0) rd).2.2.1 (pCl (V 141) (V 134 9) (sk (V 141) (V 134 9) a0) rd).2.2.2 := hr
      have hend : stS (V 141) (V 134 9) a0 < 0 → sk (V 141) (V 134 9) a0 = V 134 9 := by
        intro h
        have h1 : stS (V 141) (V 134 9) a0 = -1 := by omega
        rw [stS_59 (by omega)] at h1
        by_cases hlt : sk (V 141) (V 134 9) a0 < V 134 9
        · have : ltT (V 141) (V 134 9) (sk (V 141) (V 134 9) a0) = V 141 (sk (V 141) (V 134 9) a0) := if_pos (by omega)
          have := hT2 (sk (V 141) (V 134 9) a0)
          omega
        · omega
      have hgo : 0 ≤ stS (V 141) (V 134 9) a0 → sk (V 141) (V 134 9) a0 ≠ V 134 9 := by
        intro h he
        have h1 : stS (V 141) (V 134 9) a0 = -1 := by
          rw [stS_59 (by omega)]
          exact if_neg (by omega)
        omega
      have hpr := pCl_pr (t := V 141) (n := V 134 9) (p := sk (V 141) (V 134 9) a0) (rd := rd)
      have hcK := pCl_K (t := V 141) (n := V 134 9) (p := sk (V 141) (V 134 9) a0) hK
      have hcl := ct_X11_readsClause (V := W) (b := b) (rd := rd) (a := stA (V 141) (V 134 9) a0) (p := sk (V 141) (V 134 9) a0) (s := stS (V 141) (V 134 9) a0) (f := stF (V 141) (V 134 9) a0) (v := stV (V 141) (V 134 9) a0) (w := w) hTW (by rw [w9]; exact hA) hK hS (fun x hx => by rw [w141, w9]; exact stS_59 (by omega)) (fun h => by
        have h9 : ∀ x : Int, (x = 121 ∨ x = 119 ∨ x = 120 ∨ x = 116) → stS (V 141) (V 134 9) a0 = x → stA (V 141) (V 134 9) a0 = sk (V 141) (V 134 9) a0 + 1 := fun x hx h => by
          rw [stS_59 (by omega)] at h
          exact stA_59 h (by omega) (by omega)
        rcases h with h | h | h | h
        · exact h9 121 (by omega) h
        · exact h9 119 (by omega) h
        · exact h9 120 (by omega) h
        · exact h9 116 (by omega) h)
      rw [w141, w9] at hcl
      obtain ⟨c, hc⟩ : ∃ c, c = pCl (V 141) (V 134 9) (sk (V 141) (V 134 9) a0) rd := ⟨_, rfl⟩
      rw [← hc] at hcl hr' hpr hcK
      refine z_aload_n dX11_yard_37 rfl ?_
      refine y_getI (j := 19) fX11_120 dX11_yard_38 rfl (by first | assumption | rfl) ?_
      rw [mst_19]
      refine y_if_lt dX11_yard_41 (by omega) (fun c_41 => ?_) (fun c_41 => ?_)
      · rw [if_pos (hend (by omega))] at hr'
        exact good _ _ _ _ _ _ _ (Or.inl hr')
      · rw [if_neg (hgo (by omega))] at hr'
        refine z_iload_n dX11_yard_44 rfl ?_
        refine y_if_eq dX11_yard_45 (by omega) (fun c_45 => ?_) (fun c_45 => ?_)
        · omega
        · refine z_aload_n dX11_yard_48 rfl ?_
          refine y_callVi (hcl) kX11_167 dX11_yard_49 rfl rfl (by first | assumption | rfl) rfl (by decide) rfl (Nat.le_of_ble_eq_true rfl) (fun q_49 V1 h_49 => ?_)
          obtain ⟨rd', a', p', s', f', v', w', rfl, hor⟩ := h_49
          have hq01 : q_49 = 0 ∨ q_49 = 1 := by rcases hor with h | h <;> omega
          refine z_istore_n dX11_yard_52 (by decide) rfl rfl ?_
          refine z_iload_n dX11_yard_53 rfl ?_
          refine y_if_eq dX11_yard_54 (by omega) (fun c_54 => ?_) (fun c_54 => ?_)
          · obtain ⟨z1, z2, z3, z4⟩ := hor.resolve_right (fun h => by omega)
            rw [if_pos z1] at hr'
            rw [z3, z4, z2, ← hr']
            have hb := bad a' s' f' v' rd' (by rw [hr']; exact z1)
            refine z_aload_n dX11_yard_37 rfl ?_
            refine y_getI (j := 19) fX11_120 dX11_yard_38 rfl (by first | assumption | rfl) ?_
            refine z_if_lt dX11_yard_41 (fun _ => hb) (fun _ => ?_)
            refine z_iload_n dX11_yard_44 rfl ?_
            exact y_if_eq dX11_yard_45 (by omega) (fun _ => hb) (fun c => by omega)
          · obtain ⟨z1, z2, z3, z4, z5⟩ := hor.resolve_left (fun h => by omega)
            have hq1 : q_49 = 1 := z2
            subst hq1
            rw [w9] at z4
            have hst := ct_mstep (V := W) (rd := rd') (b := b) (a := a') (p := p') (s := s') (f := f') (v := v') (w := w') hTW (by rw [w9]; exact z4)
            rw [w141, w9] at hst
            rw [if_neg (by omega), ← z3, ← z5] at hr'
            refine z_aload_n dX11_yard_57 rfl ?_
            refine y_callVv (hst) kX11_136 dX11_yard_58 rfl rfl (by first | assumption | rfl) rfl (by decide) rfl (Nat.le_of_ble_eq_true rfl) (fun V2 h_58 => ?_)
            subst h_58
            refine z_goto dX11_yard_61 ?_
            exact ih a' w' rd' z4 (by have := hpr z1; omega) (by rw [z5]; exact hcK z1) hr'
  have hst0 := ct_mstep (V := W) (rd := rd0M V) (b := b) (a := 0) (p := V 134 18) (s := V 134 19) (f := V 134 20) (v := V 134 21) (w := V 134 22) hTW (by omega)
  rw [w141, w9] at hst0
  have e0 : vst (vst (zup V 136 (rd0M V)) 134 17 0) 134 10 (-1) = mst (zup W 136 (rd0M V)) 0 (V 134 18) (V 134 19) (V 134 20) (V 134 21) (V 134 22) := by
    have h1 := mst_u17 (V := zup W 136 (rd0M V)) (a := V 134 17) (p := V 134 18) (s := V 134 19) (f := V 134 20) (v := V 134 21) (w := V 134 22) (x := 0)
    have hj : ∀ j, j ≠ 10 → zup W 136 (rd0M V) 134 j = V 134 j := fun j hj => by rw [zup_n _ _ (by decide), hW, vst_n hj]
    have h2 := mst_id (V := zup W 136 (rd0M V))
    rw [hj 17 (by decide), hj 18 (by decide), hj 19 (by decide), hj 20 (by decide), hj 21 (by decide), hj 22 (by decide)] at h2
    rw [h2] at h1
    rw [← h1, vst_comm (by decide), vst_zup (by decide), hW]
  have loop0 : ∀ (k : Nat) (i : Int), 0 ≤ i → i + k = 41 → yE 6 (pI b (myP V)) mX11_yard 2 [some (.ref 134), some (.int (iI i)), none] [] (zup V 136 (ifl (V 136) i 0)) b := by
    intro k
    induction k with
    | zero =>
      intro i h1 h2
      have hi : i = 41 := by omega
      subst hi
      show yE 6 (pI b (myP V)) mX11_yard 2 [some (.ref 134), some (.int (iI 41)), none] [] (zup V 136 (rd0M V)) b
      refine z_iload_n dX11_yard_2 rfl ?_
      refine y_bipush dX11_yard_3 (by decide +kernel) ?_
      refine y_icmp_ge dX11_yard_5 (by omega) (by omega) (fun c_5 => ?_) (fun c_5 => ?_)
      · refine z_aload_n dX11_yard_21 rfl ?_
        refine y_iconst dX11_yard_22 ?_
        refine y_putI (j := 17) fX11_110 dX11_yard_23 rfl (by first | assumption | rfl) ?_
        refine z_aload_n dX11_yard_26 rfl ?_
        refine y_iconst dX11_yard_27 ?_
        refine y_putI (j := 10) fX11_32 dX11_yard_28 rfl (by first | assumption | rfl) ?_
        rw [e0]
        refine y_iconst dX11_yard_31 ?_
        refine z_istore_n dX11_yard_32 (by decide) rfl rfl ?_
        refine z_aload_n dX11_yard_33 rfl ?_
        refine y_callVv (hst0) kX11_136 dX11_yard_34 rfl rfl (by first | assumption | rfl) rfl (by decide) rfl (Nat.le_of_ble_eq_true rfl) (fun V2 h_34 => ?_)
        subst h_34
        exact loop 230 0 _ _ (by omega) (by omega) (rdK_0 (rd0M_0 V)) hres
      · omega
    | succ k ih =>
      intro i h1 h2
      have hh := ih (i + 1) (by omega) (by omega)
      rw [← ifl_st h1, ← vst_zup_s] at hh
      refine z_iload_n dX11_yard_2 rfl ?_
      refine y_bipush dX11_yard_3 (by decide +kernel) ?_
      refine y_icmp_ge dX11_yard_5 (by omega) (by omega) (fun c_5 => ?_) (fun c_5 => ?_)
      · omega
      · refine z_aload_n dX11_yard_8 rfl ?_
        refine y_getR fX11_13 dX11_yard_9 (by first | assumption | rfl) (by first | assumption | rfl) ?_
        refine z_iload_n dX11_yard_12 rfl ?_
        refine y_iconst dX11_yard_13 ?_
        refine y_iast dX11_yard_14 (by first | assumption | rfl) (by first | rfl | assumption) (by omega) ?_
        refine y_iinc dX11_yard_15 rfl (by decide) rfl rfl ?_
        refine z_goto dX11_yard_18 ?_
        exact hh
  have h0 := loop0 41 0 (by omega) (by omega)
  rw [ifl_0, zup_id] at h0
  refine zC_of (by decide +kernel) (Nat.le_of_ble_eq_true rfl) rfl ?_
  refine y_iconst dX11_yard_0 ?_
  refine z_istore_n dX11_yard_1 (by decide) rfl rfl ?_
  exact h0
end

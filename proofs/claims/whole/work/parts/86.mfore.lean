/-! ===== the model: the foremen ===== -/
def wgV (d v x : Int) : Int := if x = -1 ∨ (if d % 2 = 0 then v < x else x < v) then v else x
def gL (f : Int → Int) (d r i : Int) : Int → Int := fun j => if 4 * d + 4 ≤ j ∧ j < 4 * d + 4 + i then f (j - 4) + (if j - (4 * d + 4) = r then 1 else 0) else f j
def gT (f : Int → Int) (d r w i : Int) : Int → Int := fun j => if 4 * d + 4 ≤ j ∧ j < 4 * d + 4 + i then (if j - (4 * d + 4) = r then w else f (j - 4)) else f j
def kkM (Y : Int → Int) (a w : Int) : Int := if 0 ≤ a then enI Y (Y (6 + a)) (Y (6 + w)) else 0
theorem kkM_01 (Y : Int → Int) (a w : Int) : kkM Y a w = 0 ∨ kkM Y a w = 1 := by
  unfold kkM
  split
  · exact enI_01 _ _ _
  · exact Or.inl rfl
def goM (V : Nat → Int → Int) (d r w : Int) : Nat → Int → Int := vst (zup (zup V 152 (gL (V 152) d r 4)) 153 (gT (V 153) d r w 4)) 154 (d + 1) (V 154 d + kkM (V 135) (V 153 (4 * d + r)) w)
section
variable {V : Nat → Int → Int} {b : Bool}
theorem ct_X11_beginsStep {d : Int} (hd : 0 ≤ d ∧ d ≤ 7) : yC 0 mX11_beginsStep [.ref 134, .int (iI d)] V b (pV b (fun V' => V' = vst (vst V 155 d (-1)) 156 d (-1))) := by
  refine zC_of (by decide +kernel) (Nat.le_of_ble_eq_true rfl) rfl ?_
  refine z_aload_n dX11_beginsStep_0 rfl ?_
  refine y_getR fX11_75 dX11_beginsStep_1 (by first | assumption | rfl) (by first | assumption | rfl) ?_
  refine z_iload_n dX11_beginsStep_4 rfl ?_
  refine y_iconst dX11_beginsStep_5 ?_
  refine y_iast dX11_beginsStep_6 (by first | assumption | rfl) (by first | rfl | assumption) (by omega) ?_
  refine z_aload_n dX11_beginsStep_7 rfl ?_
  refine y_getR fX11_78 dX11_beginsStep_8 (by first | assumption | rfl) (by first | assumption | rfl) ?_
  refine z_iload_n dX11_beginsStep_11 rfl ?_
  refine y_iconst dX11_beginsStep_12 ?_
  refine y_iast dX11_beginsStep_13 (by first | assumption | rfl) (by first | rfl | assumption) (by omega) ?_
  exact z_vret dX11_beginsStep_14 rfl (Nat.le_refl 0) (Nat.le_refl 0) ⟨_, rfl, rfl, rfl⟩
theorem ct_X11_weighs {d v : Int} (hd : 0 ≤ d ∧ d ≤ 7) (hv : rg v) (hx : rg (V 156 d)) : yC 0 mX11_weighs [.ref 134, .int (iI d), .int (iI v)] V b (pV b (fun V' => V' = vst V 156 d (wgV d v (V 156 d)))) := by
  have yes : (V 156 d = -1 ∨ (if d % 2 = 0 then v < V 156 d else V 156 d < v)) → wgV d v (V 156 d) = v := fun h => if_pos h
  have no : ¬ (V 156 d = -1 ∨ (if d % 2 = 0 then v < V 156 d else V 156 d < v)) → wgV d v (V 156 d) = V 156 d := fun h => if_neg h
  have fin : ∀ l : Int, (l = 1 ∧ wgV d v (V 156 d) = v ∨ l = 0 ∧ wgV d v (V 156 d) = V 156 d) → yE 0 (pV b (fun V' => V' = vst V 156 d (wgV d v (V 156 d)))) mX11_weighs 44 [some (.ref 134), some (.int (iI d)), some (.int (iI v)), none] [.int (iI l)] V b := by
    intro l hl
    refine z_istore_n dX11_weighs_44 (by decide) rfl rfl ?_
    refine z_aload_n dX11_weighs_45 rfl ?_
    refine y_getR fX11_78 dX11_weighs_46 (by first | assumption | rfl) (by first | assumption | rfl) ?_
    refine z_iload_n dX11_weighs_49 rfl ?_
    refine z_iload_n dX11_weighs_50 rfl ?_
    refine y_if_eq dX11_weighs_51 (by omega) (fun c_51 => ?_) (fun c_51 => ?_)
    · refine z_aload_n dX11_weighs_58 rfl ?_
      refine y_getR fX11_78 dX11_weighs_59 (by first | assumption | rfl) (by first | assumption | rfl) ?_
      refine z_iload_n dX11_weighs_62 rfl ?_
      refine y_iald dX11_weighs_63 (by first | assumption | rfl) (by first | rfl | assumption) (by omega) ?_
      refine y_iast dX11_weighs_64 (by first | assumption | rfl) (by first | rfl | assumption) (by omega) ?_
      exact z_vret dX11_weighs_65 rfl (Nat.le_refl 0) (Nat.le_refl 0) ⟨_, rfl, rfl, by rcases hl with h | h <;> first | (exfalso; omega) | rw [h.2]⟩
    · refine z_iload_n dX11_weighs_54 rfl ?_
      refine z_goto dX11_weighs_55 ?_
      refine y_iast dX11_weighs_64 (by first | assumption | rfl) (by first | rfl | assumption) (by omega) ?_
      exact z_vret dX11_weighs_65 rfl (Nat.le_refl 0) (Nat.le_refl 0) ⟨_, rfl, rfl, by rcases hl with h | h <;> first | (exfalso; omega) | rw [h.2]⟩
  refine zC_of (by decide +kernel) (Nat.le_of_ble_eq_true rfl) rfl ?_
  refine z_aload_n dX11_weighs_0 rfl ?_
  refine y_getR fX11_78 dX11_weighs_1 (by first | assumption | rfl) (by first | assumption | rfl) ?_
  refine z_iload_n dX11_weighs_4 rfl ?_
  refine y_iald dX11_weighs_5 (by first | assumption | rfl) (by first | rfl | assumption) (by omega) ?_
  refine y_iconst dX11_weighs_6 ?_
  refine y_icmp_eq dX11_weighs_7 (by omega) (by omega) (fun c_7 => ?_) (fun c_7 => ?_)
  · refine y_iconst dX11_weighs_39 ?_
    refine z_goto dX11_weighs_40 ?_
    first
      | exact fin _ (Or.inl ⟨rfl, yes (Or.inl (by omega))⟩)
      | exact fin _ (Or.inl ⟨rfl, yes (Or.inr (by first | (rw [if_pos (by omega)]; omega) | (rw [if_neg (by omega)]; omega)))⟩)
      | exact fin _ (Or.inr ⟨rfl, no (fun h => by rcases h with h | h; omega; first | (rw [if_pos (by omega)] at h; omega) | (rw [if_neg (by omega)] at h; omega))⟩)
  · refine z_iload_n dX11_weighs_10 rfl ?_
    refine y_iconst dX11_weighs_11 ?_
    refine y_irem dX11_weighs_12 (by omega) (by omega) ?_
    refine y_if_ne dX11_weighs_13 (by omega) (fun c_13 => ?_) (fun c_13 => ?_)
    · refine z_iload_n dX11_weighs_29 rfl ?_
      refine z_aload_n dX11_weighs_30 rfl ?_
      refine y_getR fX11_78 dX11_weighs_31 (by first | assumption | rfl) (by first | assumption | rfl) ?_
      refine z_iload_n dX11_weighs_34 rfl ?_
      refine y_iald dX11_weighs_35 (by first | assumption | rfl) (by first | rfl | assumption) (by omega) ?_
      refine y_icmp_le dX11_weighs_36 (by omega) (by omega) (fun c_36 => ?_) (fun c_36 => ?_)
      · refine y_iconst dX11_weighs_43 ?_
        first
          | exact fin _ (Or.inl ⟨rfl, yes (Or.inl (by omega))⟩)
          | exact fin _ (Or.inl ⟨rfl, yes (Or.inr (by first | (rw [if_pos (by omega)]; omega) | (rw [if_neg (by omega)]; omega)))⟩)
          | exact fin _ (Or.inr ⟨rfl, no (fun h => by rcases h with h | h; omega; first | (rw [if_pos (by omega)] at h; omega) | (rw [if_neg (by omega)] at h; omega))⟩)
      · refine y_iconst dX11_weighs_39 ?_
        refine z_goto dX11_weighs_40 ?_
        first
          | exact fin _ (Or.inl ⟨rfl, yes (Or.inl (by omega))⟩)
          | exact fin _ (Or.inl ⟨rfl, yes (Or.inr (by first | (rw [if_pos (by omega)]; omega) | (rw [if_neg (by omega)]; omega)))⟩)
          | exact fin _ (Or.inr ⟨rfl, no (fun h => by rcases h with h | h; omega; first | (rw [if_pos (by omega)] at h; omega) | (rw [if_neg (by omega)] at h; omega))⟩)
    · refine z_iload_n dX11_weighs_16 rfl ?_
      refine z_aload_n dX11_weighs_17 rfl ?_
      refine y_getR fX11_78 dX11_weighs_18 (by first | assumption | rfl) (by first | assumption | rfl) ?_
      refine z_iload_n dX11_weighs_21 rfl ?_
      refine y_iald dX11_weighs_22 (by first | assumption | rfl) (by first | rfl | assumption) (by omega) ?_
      refine y_icmp_ge dX11_weighs_23 (by omega) (by omega) (fun c_23 => ?_) (fun c_23 => ?_)
      · refine y_iconst dX11_weighs_43 ?_
        first
          | exact fin _ (Or.inl ⟨rfl, yes (Or.inl (by omega))⟩)
          | exact fin _ (Or.inl ⟨rfl, yes (Or.inr (by first | (rw [if_pos (by omega)]; omega) | (rw [if_neg (by omega)]; omega)))⟩)
          | exact fin _ (Or.inr ⟨rfl, no (fun h => by rcases h with h | h; omega; first | (rw [if_pos (by omega)] at h; omega) | (rw [if_neg (by omega)] at h; omega))⟩)
      · refine z_goto dX11_weighs_26 ?_
        refine y_iconst dX11_weighs_39 ?_
        refine z_goto dX11_weighs_40 ?_
        first
          | exact fin _ (Or.inl ⟨rfl, yes (Or.inl (by omega))⟩)
          | exact fin _ (Or.inl ⟨rfl, yes (Or.inr (by first | (rw [if_pos (by omega)]; omega) | (rw [if_neg (by omega)]; omega)))⟩)
          | exact fin _ (Or.inr ⟨rfl, no (fun h => by rcases h with h | h; omega; first | (rw [if_pos (by omega)] at h; omega) | (rw [if_neg (by omega)] at h; omega))⟩)
theorem ct_X11_goes {d r w : Int} (hd : 0 ≤ d ∧ d ≤ 6) (hr : V 155 d = r) (hr4 : 0 ≤ r ∧ r < V 135 0) (hw : V 137 (1 + d) = w) (hw6 : 0 ≤ w ∧ w ≤ 6) (hM : MS V) (hL : rg (V 152 (4 * d + r))) (hT : -1 ≤ V 153 (4 * d + r) ∧ V 153 (4 * d + r) ≤ 6) : yC 4 mX11_goes [.ref 134, .int (iI d)] V b (pI b (fun q V' => (V 152 (4 * d + r) = V 135 (1 + r) ∧ q = 0 ∧ V' = V) ∨ (V 152 (4 * d + r) ≠ V 135 (1 + r) ∧ q = 1 ∧ V' = goM V d r w))) := by
  obtain ⟨m0, m1, m2, m3, m4⟩ := id hM
  have hY := m4 r hr4.1 hr4.2
  obtain ⟨Q, hQ⟩ : ∃ Q : Option Value → zMu → Prop, Q = pI b (fun q V' => (V 152 (4 * d + r) = V 135 (1 + r) ∧ q = 0 ∧ V' = V) ∨ (V 152 (4 * d + r) ≠ V 135 (1 + r) ∧ q = 1 ∧ V' = goM V d r w)) := ⟨_, rfl⟩
  rw [← hQ]
  have k01 := kkM_01 (V 135) (V 153 (4 * d + r)) w
  obtain ⟨U, hU⟩ : ∃ U, U = zup (zup V 152 (gL (V 152) d r 4)) 153 (gT (V 153) d r w 4) := ⟨_, rfl⟩
  have fin : V 152 (4 * d + r) ≠ V 135 (1 + r) → ∀ kk : Int, kk = kkM (V 135) (V 153 (4 * d + r)) w → ∀ a4, yE 4 Q mX11_goes 169 [some (.ref 134), some (.int (iI d)), some (.int (iI r)), some (.int (iI w)), a4] [.int (iI kk), .int (iI (V 154 d)), .int (iI (d + 1)), .ref 154] U b := by
    intro hne kk hkk a4
    subst hkk
    refine y_iadd dX11_goes_169 ?_
    refine y_iast dX11_goes_170 (by first | assumption | rfl) (by first | rfl | assumption) (by omega) ?_
    refine y_iconst dX11_goes_171 ?_
    exact y_zret dX11_goes_172 rfl (by omega) (Nat.le_refl 0) (Nat.le_refl 0) (by rw [hQ]; exact ⟨_, _, rfl, rfl, Or.inr ⟨hne, rfl, by unfold goM; rw [hU]⟩⟩)
  have loop : ∀ (k : Nat) (e : Int), V 152 (4 * d + r) ≠ V 135 (1 + r) → 0 ≤ e → e + k = 4 → yE 4 Q mX11_goes 42 [some (.ref 134), some (.int (iI d)), some (.int (iI r)), some (.int (iI w)), some (.int (iI e))] [] (zup (zup V 152 (gL (V 152) d r e)) 153 (gT (V 153) d r w e)) b := by
    intro k
    induction k with
    | zero =>
      intro e hne h0 h1
      have he : e = 4 := by omega
      subst he
      have eT : zup (zup V 152 (gL (V 152) d r 4)) 153 (gT (V 153) d r w 4) 153 (4 * d + r) = V 153 (4 * d + r) := by
        rw [zup_s]; unfold gT; rw [if_neg (by omega)]
      have eK : zup (zup V 152 (gL (V 152) d r 4)) 153 (gT (V 153) d r w 4) 154 = V 154 := by rw [zup_n _ _ (by decide), zup_n _ _ (by decide)]
      have e5 : zup (zup V 152 (gL (V 152) d r 4)) 153 (gT (V 153) d r w 4) 135 = V 135 := by rw [zup_n _ _ (by decide), zup_n _ _ (by decide)]
      have hMz : MS (zup (zup V 152 (gL (V 152) d r 4)) 153 (gT (V 153) d r w 4)) := MS_congr e5 hM
      have f0 := fun kk h => fin hne kk h (some (.int (iI (V 153 (4 * d + r)))))
      rw [hU] at f0
      have e01 := enI_01 (V 135) (V 135 (6 + V 153 (4 * d + r))) (V 135 (6 + w))
      refine z_iload dX11_goes_42 rfl ?_
      refine y_iconst dX11_goes_44 ?_
      refine y_icmp_ge dX11_goes_45 (by omega) (by omega) (fun c_45 => ?_) (fun c_45 => ?_)
      · refine z_aload_n dX11_goes_124 rfl ?_
        refine y_getR fX11_69 dX11_goes_125 (by first | assumption | rfl) (by first | assumption | rfl) ?_
        refine y_iconst dX11_goes_128 ?_
        refine z_iload_n dX11_goes_129 rfl ?_
        refine y_imul dX11_goes_130 ?_
        refine z_iload_n dX11_goes_131 rfl ?_
        refine y_iadd dX11_goes_132 ?_
        refine y_iald dX11_goes_133 (by first | assumption | rfl) (by first | rfl | assumption) (by omega) ?_
        rw [eT]
        refine z_istore dX11_goes_134 (by decide) rfl rfl ?_
        refine z_aload_n dX11_goes_136 rfl ?_
        refine y_getR fX11_72 dX11_goes_137 (by first | assumption | rfl) (by first | assumption | rfl) ?_
        refine z_iload_n dX11_goes_140 rfl ?_
        refine y_iconst dX11_goes_141 ?_
        refine y_iadd dX11_goes_142 ?_
        refine z_aload_n dX11_goes_143 rfl ?_
        refine y_getR fX11_72 dX11_goes_144 (by first | assumption | rfl) (by first | assumption | rfl) ?_
        refine z_iload_n dX11_goes_147 rfl ?_
        refine y_iald dX11_goes_148 (by first | assumption | rfl) (by first | rfl | assumption) (by omega) ?_
        rw [eK]
        refine z_iload dX11_goes_149 rfl ?_
        refine y_if_lt dX11_goes_151 (by omega) (fun c_151 => ?_) (fun c_151 => ?_)
        · refine y_iconst dX11_goes_168 ?_
          exact f0 _ (by unfold kkM; first | (rw [if_neg (by omega)]; done) | (rw [if_pos (by omega)]; omega))
        · refine z_aload_n dX11_goes_154 rfl ?_
          refine z_iload dX11_goes_155 rfl ?_
          refine z_iload_n dX11_goes_157 rfl ?_
          refine y_callVr (ct_X11_kick (by omega) (by omega) (by assumption)) kX11_200 dX11_goes_158 rfl rfl (by first | assumption | rfl) rfl (by decide) rfl (Nat.le_of_ble_eq_true rfl) (fun r_158 h_158 => ?_)
          rw [e5] at h_158
          refine y_if_eq dX11_goes_161 (by omega) (fun c_161 => ?_) (fun c_161 => ?_)
          · refine y_iconst dX11_goes_168 ?_
            exact f0 _ (by unfold kkM; first | (rw [if_neg (by omega)]; done) | (rw [if_pos (by omega)]; omega))
          · refine y_iconst dX11_goes_164 ?_
            refine z_goto dX11_goes_165 ?_
            exact f0 _ (by unfold kkM; first | (rw [if_neg (by omega)]; done) | (rw [if_pos (by omega)]; omega))
      · omega
    | succ k ih =>
      intro e hne h0 h1
      have hh := ih (e + 1) hne (by omega) (by omega)
      have eL : zup (zup V 152 (gL (V 152) d r e)) 153 (gT (V 153) d r w e) 152 (4 * d + e) = V 152 (4 * d + e) := by
        rw [zup_n _ _ (by decide), zup_s]; unfold gL; rw [if_neg (by omega)]
      have s1 : ∀ x : Int, x = (if e = r then 1 else 0) → iup (gL (V 152) d r e) (4 * d + 4 + e) (V 152 (4 * d + e) + x) = gL (V 152) d r (e + 1) := by
        intro x hx
        funext j
        unfold iup gL
        by_cases hj : j = 4 * d + 4 + e
        · subst hj
          rw [if_pos rfl, if_pos (show 4 * d + 4 ≤ 4 * d + 4 + e ∧ 4 * d + 4 + e < 4 * d + 4 + (e + 1) by omega), hx, show 4 * d + 4 + e - 4 = 4 * d + e by omega, show 4 * d + 4 + e - (4 * d + 4) = e by omega]
        · rw [if_neg hj]
          by_cases h2 : 4 * d + 4 ≤ j ∧ j < 4 * d + 4 + e
          · rw [if_pos h2, if_pos (show 4 * d + 4 ≤ j ∧ j < 4 * d + 4 + (e + 1) by omega)]
          · rw [if_neg h2, if_neg (show ¬ (4 * d + 4 ≤ j ∧ j < 4 * d + 4 + (e + 1)) by omega)]
      have s2 : ∀ x : Int, x = (if e = r then w else V 153 (4 * d + e)) → iup (gT (V 153) d r w e) (4 * d + 4 + e) x = gT (V 153) d r w (e + 1) := by
        intro x hx
        funext j
        unfold iup gT
        by_cases hj : j = 4 * d + 4 + e
        · subst hj
          rw [if_pos rfl, if_pos (show 4 * d + 4 ≤ 4 * d + 4 + e ∧ 4 * d + 4 + e < 4 * d + 4 + (e + 1) by omega), hx, show 4 * d + 4 + e - 4 = 4 * d + e by omega, show 4 * d + 4 + e - (4 * d + 4) = e by omega]
        · rw [if_neg hj]
          by_cases h2 : 4 * d + 4 ≤ j ∧ j < 4 * d + 4 + e
          · rw [if_pos h2, if_pos (show 4 * d + 4 ≤ j ∧ j < 4 * d + 4 + (e + 1) by omega)]
          · rw [if_neg h2, if_neg (show ¬ (4 * d + 4 ≤ j ∧ j < 4 * d + 4 + (e + 1)) by omega)]
      have v1 : ∀ x : Int, x = (if e = r then 1 else 0) → vst (zup (zup V 152 (gL (V 152) d r e)) 153 (gT (V 153) d r w e)) 152 (4 * d + 4 + e) (V 152 (4 * d + e) + x) = zup (zup V 152 (gL (V 152) d r (e + 1))) 153 (gT (V 153) d r w e) := fun x hx => by
        rw [vst_zup (by decide), vst_zup_s, s1 x hx]
      have v2 : ∀ x : Int, x = (if e = r then w else V 153 (4 * d + e)) → vst (zup (zup V 152 (gL (V 152) d r (e + 1))) 153 (gT (V 153) d r w e)) 153 (4 * d + 4 + e) x = zup (zup V 152 (gL (V 152) d r (e + 1))) 153 (gT (V 153) d r w (e + 1)) := fun x hx => by
        rw [vst_zup_s, s2 x hx]
      have eT : zup (zup V 152 (gL (V 152) d r (e + 1))) 153 (gT (V 153) d r w e) 153 (4 * d + e) = V 153 (4 * d + e) := by
        rw [zup_s]; unfold gT; rw [if_neg (by omega)]
      refine z_iload dX11_goes_42 rfl ?_
      refine y_iconst dX11_goes_44 ?_
      refine y_icmp_ge dX11_goes_45 (by omega) (by omega) (fun c_45 => ?_) (fun c_45 => ?_)
      · omega
      · refine z_aload_n dX11_goes_48 rfl ?_
        refine y_getR fX11_66 dX11_goes_49 (by first | assumption | rfl) (by first | assumption | rfl) ?_
        refine y_iconst dX11_goes_52 ?_
        refine z_iload_n dX11_goes_53 rfl ?_
        refine y_imul dX11_goes_54 ?_
        refine y_iconst dX11_goes_55 ?_
        refine y_iadd dX11_goes_56 ?_
        refine z_iload dX11_goes_57 rfl ?_
        refine y_iadd dX11_goes_59 ?_
        refine z_aload_n dX11_goes_60 rfl ?_
        refine y_getR fX11_66 dX11_goes_61 (by first | assumption | rfl) (by first | assumption | rfl) ?_
        refine y_iconst dX11_goes_64 ?_
        refine z_iload_n dX11_goes_65 rfl ?_
        refine y_imul dX11_goes_66 ?_
        refine z_iload dX11_goes_67 rfl ?_
        refine y_iadd dX11_goes_69 ?_
        refine y_iald dX11_goes_70 (by first | assumption | rfl) (by first | rfl | assumption) (by omega) ?_
        rw [eL]
        refine z_iload dX11_goes_71 rfl ?_
        refine z_iload_n dX11_goes_73 rfl ?_
        refine y_icmp_ne dX11_goes_74 (by omega) (by omega) (fun c_74 => ?_) (fun c_74 => ?_)
        · refine y_iconst dX11_goes_81 ?_
          refine y_iadd dX11_goes_82 ?_
          refine y_iast dX11_goes_83 (by first | assumption | rfl) (by first | rfl | assumption) (by omega) ?_
          rw [v1 _ (by first | (rw [if_pos (by omega)]; done) | (rw [if_neg (by omega)]; done))]
          refine z_aload_n dX11_goes_84 rfl ?_
          refine y_getR fX11_69 dX11_goes_85 (by first | assumption | rfl) (by first | assumption | rfl) ?_
          refine y_iconst dX11_goes_88 ?_
          refine z_iload_n dX11_goes_89 rfl ?_
          refine y_imul dX11_goes_90 ?_
          refine y_iconst dX11_goes_91 ?_
          refine y_iadd dX11_goes_92 ?_
          refine z_iload dX11_goes_93 rfl ?_
          refine y_iadd dX11_goes_95 ?_
          refine z_iload dX11_goes_96 rfl ?_
          refine z_iload_n dX11_goes_98 rfl ?_
          refine y_icmp_ne dX11_goes_99 (by omega) (by omega) (fun c_99 => ?_) (fun c_99 => ?_)
          · refine z_aload_n dX11_goes_106 rfl ?_
            refine y_getR fX11_69 dX11_goes_107 (by first | assumption | rfl) (by first | assumption | rfl) ?_
            refine y_iconst dX11_goes_110 ?_
            refine z_iload_n dX11_goes_111 rfl ?_
            refine y_imul dX11_goes_112 ?_
            refine z_iload dX11_goes_113 rfl ?_
            refine y_iadd dX11_goes_115 ?_
            refine y_iald dX11_goes_116 (by first | assumption | rfl) (by first | rfl | assumption) (by omega) ?_
            rw [eT]
            refine y_iast dX11_goes_117 (by first | assumption | rfl) (by first | rfl | assumption) (by omega) ?_
            rw [v2 _ (by first | (rw [if_pos (by omega)]; done) | (rw [if_neg (by omega)]; done))]
            refine y_iinc dX11_goes_118 rfl (by decide) rfl rfl ?_
            refine z_goto dX11_goes_121 ?_
            exact hh
          · refine z_iload_n dX11_goes_102 rfl ?_
            refine z_goto dX11_goes_103 ?_
            refine y_iast dX11_goes_117 (by first | assumption | rfl) (by first | rfl | assumption) (by omega) ?_
            rw [v2 _ (by first | (rw [if_pos (by omega)]; done) | (rw [if_neg (by omega)]; done))]
            refine y_iinc dX11_goes_118 rfl (by decide) rfl rfl ?_
            refine z_goto dX11_goes_121 ?_
            exact hh
        · refine y_iconst dX11_goes_77 ?_
          refine z_goto dX11_goes_78 ?_
          refine y_iadd dX11_goes_82 ?_
          refine y_iast dX11_goes_83 (by first | assumption | rfl) (by first | rfl | assumption) (by omega) ?_
          rw [v1 _ (by first | (rw [if_pos (by omega)]; done) | (rw [if_neg (by omega)]; done))]
          refine z_aload_n dX11_goes_84 rfl ?_
          refine y_getR fX11_69 dX11_goes_85 (by first | assumption | rfl) (by first | assumption | rfl) ?_
          refine y_iconst dX11_goes_88 ?_
          refine z_iload_n dX11_goes_89 rfl ?_
          refine y_imul dX11_goes_90 ?_
          refine y_iconst dX11_goes_91 ?_
          refine y_iadd dX11_goes_92 ?_
          refine z_iload dX11_goes_93 rfl ?_
          refine y_iadd dX11_goes_95 ?_
          refine z_iload dX11_goes_96 rfl ?_
          refine z_iload_n dX11_goes_98 rfl ?_
          refine y_icmp_ne dX11_goes_99 (by omega) (by omega) (fun c_99 => ?_) (fun c_99 => ?_)
          · refine z_aload_n dX11_goes_106 rfl ?_
            refine y_getR fX11_69 dX11_goes_107 (by first | assumption | rfl) (by first | assumption | rfl) ?_
            refine y_iconst dX11_goes_110 ?_
            refine z_iload_n dX11_goes_111 rfl ?_
            refine y_imul dX11_goes_112 ?_
            refine z_iload dX11_goes_113 rfl ?_
            refine y_iadd dX11_goes_115 ?_
            refine y_iald dX11_goes_116 (by first | assumption | rfl) (by first | rfl | assumption) (by omega) ?_
            rw [eT]
            refine y_iast dX11_goes_117 (by first | assumption | rfl) (by first | rfl | assumption) (by omega) ?_
            rw [v2 _ (by first | (rw [if_pos (by omega)]; done) | (rw [if_neg (by omega)]; done))]
            refine y_iinc dX11_goes_118 rfl (by decide) rfl rfl ?_
            refine z_goto dX11_goes_121 ?_
            exact hh
          · refine z_iload_n dX11_goes_102 rfl ?_
            refine z_goto dX11_goes_103 ?_
            refine y_iast dX11_goes_117 (by first | assumption | rfl) (by first | rfl | assumption) (by omega) ?_
            rw [v2 _ (by first | (rw [if_pos (by omega)]; done) | (rw [if_neg (by omega)]; done))]
            refine y_iinc dX11_goes_118 rfl (by decide) rfl rfl ?_
            refine z_goto dX11_goes_121 ?_
            exact hh
  have z1 : gL (V 152) d r 0 = V 152 := by funext j; unfold gL; rw [if_neg (by omega)]
  have z2 : gT (V 153) d r w 0 = V 153 := by funext j; unfold gT; rw [if_neg (by omega)]
  have h0 := fun hne => loop 4 0 hne (by omega) (by omega)
  rw [z1, z2, zup_id, zup_id] at h0
  refine zC_of (by decide +kernel) (Nat.le_of_ble_eq_true rfl) rfl ?_
  refine z_aload_n dX11_goes_0 rfl ?_
  refine y_getR fX11_75 dX11_goes_1 (by first | assumption | rfl) (by first | assumption | rfl) ?_
  refine z_iload_n dX11_goes_4 rfl ?_
  refine y_iald dX11_goes_5 (by first | assumption | rfl) (by first | rfl | assumption) (by omega) ?_
  rw [hr]
  refine z_istore_n dX11_goes_6 (by decide) rfl rfl ?_
  refine z_aload_n dX11_goes_7 rfl ?_
  refine y_getR fX11_16 dX11_goes_8 (by first | assumption | rfl) (by first | assumption | rfl) ?_
  refine y_iconst dX11_goes_11 ?_
  refine z_iload_n dX11_goes_12 rfl ?_
  refine y_iadd dX11_goes_13 ?_
  refine y_iald dX11_goes_14 (by first | assumption | rfl) (by first | rfl | assumption) (by omega) ?_
  rw [hw]
  refine z_istore_n dX11_goes_15 (by decide) rfl rfl ?_
  refine z_aload_n dX11_goes_16 rfl ?_
  refine y_getR fX11_66 dX11_goes_17 (by first | assumption | rfl) (by first | assumption | rfl) ?_
  refine y_iconst dX11_goes_20 ?_
  refine z_iload_n dX11_goes_21 rfl ?_
  refine y_imul dX11_goes_22 ?_
  refine z_iload_n dX11_goes_23 rfl ?_
  refine y_iadd dX11_goes_24 ?_
  refine y_iald dX11_goes_25 (by first | assumption | rfl) (by first | rfl | assumption) (by omega) ?_
  refine z_aload_n dX11_goes_26 rfl ?_
  refine y_getR fX11_7 dX11_goes_27 (by first | assumption | rfl) (by first | assumption | rfl) ?_
  refine y_iconst dX11_goes_30 ?_
  refine z_iload_n dX11_goes_31 rfl ?_
  refine y_iadd dX11_goes_32 ?_
  refine y_iald dX11_goes_33 (by first | assumption | rfl) (by first | rfl | assumption) (by omega) ?_
  refine y_icmp_ne dX11_goes_34 (by omega) (by omega) (fun c_34 => ?_) (fun c_34 => ?_)
  · refine y_iconst dX11_goes_39 ?_
    refine z_istore dX11_goes_40 (by decide) rfl rfl ?_
    exact h0 (by omega)
  · refine y_iconst dX11_goes_37 ?_
    exact y_zret dX11_goes_38 rfl (by omega) (Nat.le_refl 0) (Nat.le_refl 0) (by rw [hQ]; exact ⟨_, _, rfl, rfl, Or.inl ⟨by omega, rfl, rfl⟩⟩)
end

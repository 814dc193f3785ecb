/-! ===== Fitting.search, sureRoad; fit ===== -/
/-- what chalk wants, k of them in -/
def wtF (V : Nat → Int → Int) (w0 : Int → Int) : Nat → Int → Int
  | 0 => w0
  | k + 1 => iup (wtF V w0 k) (7 * V 101 k + V 102 k) (if wtF V w0 k (7 * V 101 k + V 102 k) = -1 ∨ wtF V w0 k (7 * V 101 k + V 102 k) = V 103 k then V 103 k else -2)
def chS (V : Nat → Int → Int) : Prop := (0 ≤ V 100 3 ∧ V 100 3 ≤ 6) ∧ ∀ k, 0 ≤ k → k < V 100 3 → (0 ≤ V 101 k ∧ V 101 k ≤ 3) ∧ (0 ≤ V 102 k ∧ V 102 k ≤ 6) ∧ (0 ≤ V 103 k ∧ V 103 k ≤ 9)
def ftR (V : Nat → Int → Int) : Prop := (∀ j, -2 ≤ V 118 j ∧ V 118 j ≤ 9) ∧ (∀ j, 0 ≤ V 119 j ∧ V 119 j ≤ 15)
def wtX (V : Nat → Int → Int) : Int → Int := wtF V (ifl (V 118) 28 (-1)) (V 100 3).toNat
def preF (V : Nat → Int → Int) (y : Nat) (wt : Int → Int) : Prop := ∀ r p, 0 ≤ r → r < V 108 4 → 0 ≤ p → p < 7 → p < V 5 r → wt (7 * r + p) = -1 ∨ wt (7 * r + p) = kdX V y (wA V r p)
def srP (V V' : Nat → Int → Int) (y : Nat) (q : Int) : Prop := (∀ a, a ≠ 117 → a ≠ 118 → a ≠ 119 → V' a = V a) ∧ ftR V' ∧ ((preF V y (wtX V) ∧ q = GI (V 108 4).toNat (V 109) (V 110) (wtX V) (V 108 5).toNat 0 (V 111) ∧ ∀ j s, 0 ≤ j → j < 7 → 0 ≤ s → (tb (V' 119 j) s = true ↔ PI (V 108 4).toNat (V 109) (V 110) (wtX V) (V 108 5).toNat 0 (V 111) j s)) ∨ (¬ preF V y (wtX V) ∧ q = 0 ∧ ∀ j, 0 ≤ j → j < 7 → V' 119 j = 0))
section
variable {V : Nat → Int → Int} {b : Bool} {y : Nat}
theorem wtF_rg {w0 : Int → Int} (hc : chS V) (h : ∀ j, -2 ≤ w0 j ∧ w0 j ≤ 9) : ∀ k : Nat, (k : Int) ≤ V 100 3 → ∀ j, -2 ≤ wtF V w0 k j ∧ wtF V w0 k j ≤ 9
  | 0, _ => h
  | k + 1, hk => by
    have h3 := (hc.2 k (by omega) (by omega)).2.2
    exact iup_le (wtF_rg hc h k (by omega)) (by split <;> omega)
theorem ct_X2_want {r p k : Int} (hr : 0 ≤ r ∧ r ≤ 3) (hp : 0 ≤ p ∧ p ≤ 6) (hk : rg k) (ho : ∀ j, -2 ≤ V 118 j ∧ V 118 j ≤ 9) : yC 1 mX2_want [.ref 116, .int (iI r), .int (iI p), .int (iI k)] V b (pV b (fun V' => V' = vst V 118 (7 * r + p) (if V 118 (7 * r + p) = -1 ∨ V 118 (7 * r + p) = k then k else -2))) := by
  have ho' := ho (r * 7 + p)
  have e : r * 7 + p = 7 * r + p := by omega
  refine zC_of (by decide +kernel) (Nat.le_of_ble_eq_true rfl) rfl ?_
  refine z_iload_n dX2_want_0 rfl ?_
  refine z_iload_n dX2_want_1 rfl ?_
  refine y_callSr (ct_X2_isPlace (by omega) (by omega)) kX2_77 dX2_want_2 rfl rfl (by decide) rfl (Nat.le_of_ble_eq_true rfl) (fun r_2 h_2 => ?_)
  refine y_if_ne dX2_want_5 (by omega) (fun c_5 => ?_) (fun c_5 => ?_)
  · refine z_aload_n dX2_want_9 rfl ?_
    refine y_getR fX2_15 dX2_want_10 (by first | assumption | rfl) (by first | assumption | rfl) ?_
    refine z_iload_n dX2_want_13 rfl ?_
    refine y_bipush dX2_want_14 (by decide +kernel) ?_
    refine y_imul dX2_want_16 ?_
    refine z_iload_n dX2_want_17 rfl ?_
    refine y_iadd dX2_want_18 ?_
    refine y_iald dX2_want_19 (by first | assumption | rfl) (by first | rfl | assumption) (by omega) ?_
    refine z_istore dX2_want_20 (by decide) rfl rfl ?_
    refine z_aload_n dX2_want_22 rfl ?_
    refine y_getR fX2_15 dX2_want_23 (by first | assumption | rfl) (by first | assumption | rfl) ?_
    refine z_iload_n dX2_want_26 rfl ?_
    refine y_bipush dX2_want_27 (by decide +kernel) ?_
    refine y_imul dX2_want_29 ?_
    refine z_iload_n dX2_want_30 rfl ?_
    refine y_iadd dX2_want_31 ?_
    refine z_iload dX2_want_32 rfl ?_
    refine y_iconst dX2_want_34 ?_
    refine y_icmp_eq dX2_want_35 (by omega) (by omega) (fun c_35 => ?_) (fun c_35 => ?_)
    · refine z_iload_n dX2_want_44 rfl ?_
      refine z_goto dX2_want_45 ?_
      refine y_iast dX2_want_50 (by first | assumption | rfl) (by first | rfl | assumption) (by omega) ?_
      exact z_vret dX2_want_51 rfl (Nat.le_refl 0) (Nat.le_refl 0) ⟨_, rfl, rfl, by rw [← e]; first | rw [if_pos (by omega)] | rw [if_neg (by omega)]⟩
    · refine z_iload dX2_want_38 rfl ?_
      refine z_iload_n dX2_want_40 rfl ?_
      refine y_icmp_ne dX2_want_41 (by omega) (by omega) (fun c_41 => ?_) (fun c_41 => ?_)
      · refine y_bipush dX2_want_48 (by decide +kernel) ?_
        refine y_iast dX2_want_50 (by first | assumption | rfl) (by first | rfl | assumption) (by omega) ?_
        exact z_vret dX2_want_51 rfl (Nat.le_refl 0) (Nat.le_refl 0) ⟨_, rfl, rfl, by rw [← e]; first | rw [if_pos (by omega)] | rw [if_neg (by omega)]⟩
      · refine z_iload_n dX2_want_44 rfl ?_
        refine z_goto dX2_want_45 ?_
        refine y_iast dX2_want_50 (by first | assumption | rfl) (by first | rfl | assumption) (by omega) ?_
        exact z_vret dX2_want_51 rfl (Nat.le_refl 0) (Nat.le_refl 0) ⟨_, rfl, rfl, by rw [← e]; first | rw [if_pos (by omega)] | rw [if_neg (by omega)]⟩
  · omega
theorem ct_X2_search (hy : isY y) (hys : YS V y) (hc : cN V) (hwn : wN V) (hB : BS V) (h11 : ∀ r, 0 ≤ r → r < V 108 4 → V 111 r = V 5 r) (hch : chS V) (hft : ftR V) : yC 19 mX2_search [.ref 116, .ref 108, .ref y, .ref 3, .ref 100] V b (pI b (fun q V' => srP V V' y q)) := by
  obtain ⟨sy, sy1, sy2, sy3, sy4, sy5, sy6, fy0, fy1, fy2, fy3, fy4, fy5⟩ := yfacts hy b
  have yb : 120 ≤ y ∧ y ≤ 127 := by rcases hy with h | h <;> omega
  have hN : isN 100 6 := by first | exact Or.inl ⟨rfl, rfl⟩ | decide
  obtain ⟨b0, b1, b2, b3, b4, b5, b6⟩ := id hB
  obtain ⟨hch1, hch2⟩ := id hch
  obtain ⟨w0, hw0⟩ : ∃ w0, w0 = ifl (V 118) 28 (-1) := ⟨_, rfl⟩
  have hw0r : ∀ j, -2 ≤ w0 j ∧ w0 j ≤ 9 := by rw [hw0]; exact ifl_le hft.1 (by omega)
  have ewt : wtX V = wtF V w0 (V 100 3).toNat := by rw [hw0]; rfl
  obtain ⟨n9, hn9⟩ : ∃ n9, n9 = ifl (V 119) 7 0 := ⟨_, rfl⟩
  have hn9r : ∀ j, 0 ≤ n9 j ∧ n9 j ≤ 15 := by rw [hn9]; exact ifl_le hft.2 (by omega)
  have hn90 : ∀ j, 0 ≤ j → j < 7 → n9 j = 0 := fun j j0 j1 => by rw [hn9]; exact ifl_in ⟨j0, j1⟩
  obtain ⟨n7, hn7⟩ : ∃ n7, n7 = ifl (V 117) 4096 (-1) := ⟨_, rfl⟩
  have hn70 : ∀ j, 0 ≤ j → j < 4096 → n7 j = -1 := fun j j0 j1 => by rw [hn7]; exact ifl_in ⟨j0, j1⟩
  obtain ⟨wt, hwt⟩ : ∃ wt, wt = wtX V := ⟨_, rfl⟩
  have hwtr : ∀ j, -2 ≤ wt j ∧ wt j ≤ 9 := by rw [hwt, ewt]; exact wtF_rg hch hw0r _ (by omega)
  obtain ⟨Z, hZ⟩ : ∃ Z : (Int → Int) → Nat → Int → Int, Z = fun w => zup (zup (zup V 117 n7) 118 w) 119 n9 := ⟨_, rfl⟩
  have zo : ∀ w a, a ≠ 117 → a ≠ 118 → a ≠ 119 → Z w a = V a := fun w a a7 a8 a9 => by rw [hZ]; simp only; rw [zup_n _ _ a9, zup_n _ _ a8, zup_n _ _ a7]
  have z7 : ∀ w, Z w 117 = n7 := fun w => by rw [hZ]; simp only; rw [zup_n _ _ (by decide), zup_n _ _ (by decide), zup_s]
  have z8 : ∀ w, Z w 118 = w := fun w => by rw [hZ]; simp only; rw [zup_n _ _ (by decide), zup_s]
  have z9 : ∀ w, Z w 119 = n9 := fun w => by rw [hZ]; simp only; rw [zup_s]
  have zv : ∀ w j x, vst (Z w) 118 j x = Z (iup w j x) := fun w j x => by
    rw [hZ]
    funext a
    simp only
    unfold vst
    by_cases a9 : a = 119
    · subst a9; rw [zup_n _ _ (by decide), zup_s, zup_s]
    · by_cases a8 : a = 118
      · subst a8; rw [zup_s, zup_n _ _ (by decide), zup_s, zup_n _ _ (by decide), zup_s]
      · rw [zup_n _ _ a8, zup_n _ _ a9, zup_n _ _ a8, zup_n _ _ a9, zup_n _ _ a8]
  have zYS : ∀ w, YS (Z w) y := fun w => YS_congr (fun a a1 a2 => zo w a (by omega) (by omega) (by omega)) hys
  have zc : ∀ w, cN (Z w) := fun w => by unfold cN; rw [zo w 5 (by decide) (by decide) (by decide)]; exact hc
  have zwn : ∀ w, wN (Z w) := fun w => by unfold wN; rw [zo w 4 (by decide) (by decide) (by decide)]; exact hwn
  have zwA : ∀ w l p, wA (Z w) l p = wA V l p := fun w l p => wA_congr (zo w 4 (by decide) (by decide) (by decide)) (zo w 5 (by decide) (by decide) (by decide)) l p
  have zkd : ∀ w x, kdX (Z w) y x = kdX V y x := fun w x => kdX_congr (fun a a1 a2 => zo w a (by omega) (by omega) (by omega)) x
  have z108 : ∀ w, Z w 108 = V 108 := fun w => zo w 108 (by decide) (by decide) (by decide)
  have z100 : ∀ w, Z w 100 = V 100 := fun w => zo w 100 (by decide) (by decide) (by decide)
  have z5 : ∀ w, Z w 5 = V 5 := fun w => zo w 5 (by decide) (by decide) (by decide)
  have zy7 : ∀ w, Z w y = V y := fun w => zo w y (by omega) (by omega) (by omega)
  obtain ⟨R, hR⟩ : ∃ R : Nat, R = (V 108 4).toNat := ⟨_, rfl⟩
  obtain ⟨W, hW⟩ : ∃ W : Nat, W = (V 108 5).toNat := ⟨_, rfl⟩
  obtain ⟨fo, hfo⟩ : ∃ fo : Nat → Int, fo = fun r : Nat => smI (fun p => if V 111 r ≤ p ∧ nd (wt (7 * r + p)) then 1 else 0) 7 := ⟨_, rfl⟩
  obtain ⟨fi, hfi⟩ : ∃ fi : Nat → Nat → Int, fi = fun r p : Nat => if V 111 r ≤ p ∧ nd (wt (7 * r + p)) then 1 else 0 := ⟨_, rfl⟩
  have hfoi : ∀ r, fo r = smI (fi r) 7 := fun r => by rw [hfo, hfi]
  have hfi01 : ∀ r p, 0 ≤ fi r p ∧ fi r p ≤ 1 := fun r p => by rw [hfi]; simp only; split <;> omega
  have hsi : ∀ r p, p ≤ 7 → 0 ≤ smI (fi r) p ∧ smI (fi r) p ≤ 7 := fun r p hp => by
    have h1 := smI_nn p (fun k _ => (hfi01 r k).1)
    have h2 := smI_le p (fun k _ => (hfi01 r k).2)
    omega
  have hso : ∀ r, r ≤ 4 → 0 ≤ smI fo r ∧ smI fo r ≤ 28 := fun r hr => by
    have h1 := smI_nn (f := fo) r (fun k _ => by rw [hfoi]; exact (hsi k 7 (by omega)).1)
    have h2 := smI_le (f := fo) (c := 7) r (fun k _ => by rw [hfoi]; exact (hsi k 7 (by omega)).2)
    omega
  -- the end
  have hQ : FQ R W (V 109) (V 110) wt (V 111) (Z wt) W 0 := by
    refine ⟨BS_congr (fun a a1 a2 => zo wt a (by omega) (by omega) (by omega)) hB, by rw [z108]; omega, by rw [z108]; omega, zo wt 109 (by decide) (by decide) (by decide), zo wt 110 (by decide) (by decide) (by decide), z8 wt, ?_, ?_, ?_, ?_, by omega, ?_, hwtr⟩
    · rw [zo wt 111 (by decide) (by decide) (by decide)]; exact fun r _ _ => Int.le_refl _
    · rw [zo wt 111 (by decide) (by decide) (by decide)]
      unfold lv dg
      split <;> split <;> split <;> split <;> omega
    · intro cn cv cl
      have := ky_rg cv (by omega)
      rw [z7]
      exact Or.inl (hn70 _ (by omega) (by omega))
    · rw [z9]; exact hn9r
    · intro r r0 r1; exact (b5 r r0 (by omega)).1
  have hcall := ct_X2_rowsFrom (b := b) W (Z wt) 0 hQ
  have hop : opI R wt (Z wt 111) = smI fo R := by rw [zo wt 111 (by decide) (by decide) (by decide), hfo]; rfl
  have hky : ky R (V 111) (Z wt 111) = 0 := by
    rw [zo wt 111 (by decide) (by decide) (by decide)]
    unfold ky dg
    split <;> split <;> split <;> split <;> omega
  rw [hop, hky, zo wt 111 (by decide) (by decide) (by decide)] at hcall
  have loop3 : ∀ (t r p : Nat) (a8 : Option Value), p + t = 7 → r < R → (∀ s q, 0 ≤ s → s < (r : Int) → 0 ≤ q → q < 7 → q < V 5 s → wt (7 * s + q) = -1 ∨ wt (7 * s + q) = kdX V y (wA V s q)) → (∀ q, 0 ≤ q → q < (p : Int) → q < V 5 r → wt (7 * r + q) = -1 ∨ wt (7 * r + q) = kdX V y (wA V r q)) →
      ((∀ s q, 0 ≤ s → s < (r : Int) + 1 → 0 ≤ q → q < 7 → q < V 5 s → wt (7 * s + q) = -1 ∨ wt (7 * s + q) = kdX V y (wA V s q)) → ∀ a7 a8 : Option Value, yE 19 (pI b (fun q V' => srP V V' y q)) mX2_search 74 [some (.ref 116), some (.ref 108), some (.ref y), some (.ref 3), some (.ref 100), some (.int (iI (smI fo (r + 1)))), some (.int (iI ((r : Int) + 1))), a7, a8] [] (Z wt) b) →
      yE 19 (pI b (fun q V' => srP V V' y q)) mX2_search 86 [some (.ref 116), some (.ref 108), some (.ref y), some (.ref 3), some (.ref 100), some (.int (iI (smI fo r + smI (fi r) p))), some (.int (iI (r : Nat))), some (.int (iI (p : Nat))), a8] [] (Z wt) b := by
    intro t
    induction t with
    | zero =>
      intro r p a8 hp hr hpre hpr hk
      have hpe : p = 7 := by omega
      subst hpe
      have hh := hk (fun s q s0 s1 q0 q1 q2 => by
        by_cases hs : s = (r : Int)
        · subst hs; exact hpr q q0 (by omega) q2
        · exact hpre s q s0 (by omega) q0 q1 q2) (some (.int (iI ((7 : Nat) : Int)))) a8
      rw [show smI fo (r + 1) = smI fo r + smI (fi r) 7 by rw [← hfoi]; rfl] at hh
      have h1 := hso r (by omega)
      have h2 := hsi r 7 (by omega)
      refine z_iload dX2_search_86 rfl ?_
      refine y_bipush dX2_search_88 (by decide +kernel) ?_
      refine y_icmp_ge dX2_search_90 (by omega) (by omega) (fun c_90 => ?_) (fun c_90 => ?_)
      · refine y_iinc dX2_search_166 rfl (by decide) rfl rfl ?_
        refine z_goto dX2_search_169 ?_
        exact hh
      · omega
    | succ t ih =>
      intro r p a8 hp hr hpre hpr hk
      have h1 := hso r (by omega)
      have h2 := hsi r p (by omega)
      have h3 := hfi01 r p
      have hw := hwtr (7 * r + p)
      have hcr := hc r
      have hkx := kdX_rg (w := wA V r p) hys
      have hwa := wA_rg (l := (r : Int)) (p := (p : Int)) hwn
      have e11 := h11 r (by omega) (by omega)
      have zys7 := (zYS wt).2.1
      have efi : V 5 r ≤ p → fi r p = if nd (wt (7 * r + p)) then 1 else 0 := fun h => by
        rw [hfi]
        simp only
        by_cases hn : nd (wt (7 * (r : Int) + (p : Int)))
        · rw [if_pos ⟨by omega, hn⟩, if_pos hn]
        · rw [if_neg (fun h => hn h.2), if_neg hn]
      have efi0 : (p : Int) < V 5 r → fi r p = 0 := fun h => by
        rw [hfi]
        simp only
        rw [if_neg (fun h => by omega)]
      have nx : ((p : Int) < V 5 r → wt (7 * r + p) = -1 ∨ wt (7 * r + p) = kdX V y (wA V r p)) → ∀ (x : Int), x = smI fo r + smI (fi r) p + fi r p → ∀ a8 : Option Value, yE 19 (pI b (fun q V' => srP V V' y q)) mX2_search 160 [some (.ref 116), some (.ref 108), some (.ref y), some (.ref 3), some (.ref 100), some (.int (iI x)), some (.int (iI (r : Nat))), some (.int (iI (p : Nat))), a8] [] (Z wt) b := by
        intro hok x hx a8
        have hh := ih r (p + 1) a8 (by omega) hr hpre (fun q q0 q1 q2 => by
          by_cases hq : q = (p : Int)
          · subst hq; exact hok q2
          · exact hpr q q0 (by omega) q2) hk
        rw [show smI (fi r) (p + 1) = smI (fi r) p + fi r p from rfl, show ((p + 1 : Nat) : Int) = (p : Int) + 1 by omega, show smI fo r + (smI (fi r) p + fi r p) = x by omega] at hh
        refine y_iinc dX2_search_160 rfl (by decide) rfl rfl ?_
        refine z_goto dX2_search_163 ?_
        exact hh
      refine z_iload dX2_search_86 rfl ?_
      refine y_bipush dX2_search_88 (by decide +kernel) ?_
      refine y_icmp_ge dX2_search_90 (by omega) (by omega) (fun c_90 => ?_) (fun c_90 => ?_)
      · omega
      · refine z_aload_n dX2_search_93 rfl ?_
        refine z_iload dX2_search_94 rfl ?_
        refine z_iload dX2_search_96 rfl ?_
        refine y_callVr (ct_X2_wantedAt (by omega) (by omega)) kX2_52 dX2_search_98 rfl rfl (by first | assumption | rfl) rfl (by decide) rfl (Nat.le_of_ble_eq_true rfl) (fun r_98 h_98 => ?_)
        rw [z8, if_pos (by omega)] at h_98
        subst h_98
        refine z_istore dX2_search_101 (by decide) rfl rfl ?_
        refine z_iload dX2_search_103 rfl ?_
        refine z_aload_n dX2_search_105 rfl ?_
        refine z_iload dX2_search_106 rfl ?_
        refine y_callVr (ct_X8_countOf (by omega)) kX2_56 dX2_search_108 rfl rfl (by first | assumption | rfl) rfl (by decide) rfl (Nat.le_of_ble_eq_true rfl) (fun r_108 h_108 => ?_)
        rw [z5] at h_108
        subst h_108
        refine y_icmp_lt dX2_search_111 (by omega) (by omega) (fun c_111 => ?_) (fun c_111 => ?_)
        · refine z_iload dX2_search_135 rfl ?_
          refine y_iconst dX2_search_137 ?_
          refine y_icmp_eq dX2_search_138 (by omega) (by omega) (fun c_138 => ?_) (fun c_138 => ?_)
          · exact nx (fun _ => Or.inl c_138) _ (by rw [efi0 (by omega)]; omega) _
          · refine z_iload dX2_search_141 rfl ?_
            refine z_aload_n dX2_search_143 rfl ?_
            refine z_aload_n dX2_search_144 rfl ?_
            refine z_iload dX2_search_145 rfl ?_
            refine z_iload dX2_search_147 rfl ?_
            refine y_callVr (ct_X8_wagonAt (by omega) (by omega) (zc wt)) kX2_65 dX2_search_149 rfl rfl (by first | assumption | rfl) rfl (by decide) rfl (Nat.le_of_ble_eq_true rfl) (fun r_149 h_149 => ?_)
            rw [zwA] at h_149
            subst h_149
            refine y_callVr (ct_X9_kindOf hy (by omega) zys7) kX2_68 dX2_search_152 rfl rfl (by first | assumption | rfl) rfl (by decide) rfl (Nat.le_of_ble_eq_true rfl) (fun r_152 h_152 => ?_)
            rw [zkd] at h_152
            subst h_152
            refine y_icmp_eq dX2_search_155 (by omega) (by omega) (fun c_155 => ?_) (fun c_155 => ?_)
            · exact nx (fun _ => Or.inr c_155) _ (by rw [efi0 (by omega)]; omega) _
            · refine y_iconst dX2_search_158 ?_
              exact z_iret dX2_search_159 rfl (Nat.le_refl 0) (Nat.le_refl 0) ⟨_, _, rfl, rfl, fun a a7 a8 a9 => zo wt a a7 a8 a9, ⟨by rw [z8]; exact hwtr, by rw [z9]; exact hn9r⟩, Or.inr ⟨fun h => by have := h r p (by omega) (by omega) (by omega) (by omega) (by omega); rw [← hwt] at this; omega, rfl, fun j j0 j1 => by rw [z9]; exact hn90 j j0 j1⟩⟩
        · refine z_iload dX2_search_114 rfl ?_
          refine z_iload dX2_search_116 rfl ?_
          refine y_callSr (ct_X2_needsWagon (by omega)) kX2_61 dX2_search_118 rfl rfl (by decide) rfl (Nat.le_of_ble_eq_true rfl) (fun r_118 h_118 => ?_)
          have e_118 := efi (by omega)
          rw [← e_118] at h_118
          refine y_if_eq dX2_search_121 (by omega) (fun c_121 => ?_) (fun c_121 => ?_)
          · refine y_iconst dX2_search_128 ?_
            refine y_iadd dX2_search_129 ?_
            refine z_istore dX2_search_130 (by decide) rfl rfl ?_
            refine z_goto dX2_search_132 ?_
            exact nx (fun h => by omega) _ (by omega) _
          · refine y_iconst dX2_search_124 ?_
            refine z_goto dX2_search_125 ?_
            refine y_iadd dX2_search_129 ?_
            refine z_istore dX2_search_130 (by decide) rfl rfl ?_
            refine z_goto dX2_search_132 ?_
            exact nx (fun h => by omega) _ (by omega) _
  have loop2 : ∀ (t r : Nat) (a7 a8 : Option Value), r + t = R → (∀ s q, 0 ≤ s → s < (r : Int) → 0 ≤ q → q < 7 → q < V 5 s → wt (7 * s + q) = -1 ∨ wt (7 * s + q) = kdX V y (wA V s q)) → yE 19 (pI b (fun q V' => srP V V' y q)) mX2_search 74 [some (.ref 116), some (.ref 108), some (.ref y), some (.ref 3), some (.ref 100), some (.int (iI (smI fo r))), some (.int (iI (r : Int))), a7, a8] [] (Z wt) b := by
    intro t
    induction t with
    | zero =>
      intro r a7 a8 hr hpre
      have her : r = R := by omega
      have h1 := hso r (by omega)
      rw [← her] at hcall
      refine z_iload dX2_search_74 rfl ?_
      refine z_aload_n dX2_search_76 rfl ?_
      refine y_getI (j := 4) fX2_47 dX2_search_77 rfl (by first | assumption | rfl) ?_
      rw [z108]
      refine y_icmp_ge dX2_search_80 (by omega) (by omega) (fun c_80 => ?_) (fun c_80 => ?_)
      · refine z_aload_n dX2_search_172 rfl ?_
        refine z_aload_n dX2_search_173 rfl ?_
        refine y_iconst dX2_search_174 ?_
        refine z_iload dX2_search_175 rfl ?_
        refine y_iconst dX2_search_177 ?_
        refine y_callVi (hcall) kX2_73 dX2_search_178 rfl rfl (by first | assumption | rfl) rfl (by omega) rfl (Nat.le_of_ble_eq_true rfl) (fun q_178 V1 h_178 => ?_)
        obtain ⟨g1, g2, g3, g4, g5⟩ := h_178
        have hG0 := GI_nn (R := r) (kd := V 109) (rm := V 110) (wt := wt) W 0 (V 111)
        exact z_iret dX2_search_181 rfl (Nat.le_refl 0) (Nat.le_refl 0) ⟨_, _, rfl, rfl, fun a a7 a8 a9 => by rw [g2 a a7 a9]; exact zo wt a a7 a8 a9, ⟨by rw [g2 118 (by decide) (by decide), z8]; exact hwtr, g4⟩, Or.inl ⟨fun s q s0 s1 q0 q1 q2 => by rw [← hwt]; exact hpre s q s0 (by omega) q0 q1 q2, by rw [← hwt, ← hW, ← hR, ← her]; exact g1, fun j s j0 j1 s0 => by rw [g5 j s s0, z9, hn90 j j0 j1, tb_0, ← hwt, ← hW, ← hR, ← her]; exact ⟨fun h => h.elim (fun h => by cases h) id, Or.inr⟩⟩⟩
      · omega
    | succ t ih =>
      intro r a7 a8 hr hpre
      have h1 := hso r (by omega)
      have h3 := loop3 7 r 0 a8 (by omega) (by omega) hpre (fun q q0 q1 => by omega) (fun hk a7 a8 => by
        have := ih (r + 1) a7 a8 (by omega) (by rw [show ((r + 1 : Nat) : Int) = (r : Int) + 1 by omega]; exact hk)
        rw [show ((r + 1 : Nat) : Int) = (r : Int) + 1 by omega] at this
        exact this)
      rw [show smI fo r + smI (fi r) 0 = smI fo r from Int.add_zero _] at h3
      refine z_iload dX2_search_74 rfl ?_
      refine z_aload_n dX2_search_76 rfl ?_
      refine y_getI (j := 4) fX2_47 dX2_search_77 rfl (by first | assumption | rfl) ?_
      rw [z108]
      refine y_icmp_ge dX2_search_80 (by omega) (by omega) (fun c_80 => ?_) (fun c_80 => ?_)
      · omega
      · refine y_iconst dX2_search_83 ?_
        refine z_istore dX2_search_84 (by decide) rfl rfl ?_
        exact h3
  have loop1 : ∀ (t k : Nat), (k : Int) + t = V 100 3 → yE 19 (pI b (fun q V' => srP V V' y q)) mX2_search 27 [some (.ref 116), some (.ref 108), some (.ref y), some (.ref 3), some (.ref 100), some (.int (iI (k : Nat))), none, none, none] [] (Z (wtF V w0 k)) b := by
    intro t
    induction t with
    | zero =>
      intro k hk
      have e : wtF V w0 k = wt := by rw [hwt, ewt, show (V 100 3).toNat = k by omega]
      rw [e]
      have h2 := loop2 R 0 none none (by omega) (fun s q s0 s1 => by omega)
      refine z_iload dX2_search_27 rfl ?_
      refine z_aload dX2_search_29 rfl ?_
      refine y_getI (j := 3) fX2_27 dX2_search_31 rfl (by first | assumption | rfl) ?_
      rw [z100]
      refine y_icmp_ge dX2_search_34 (by omega) (by omega) (fun c_34 => ?_) (fun c_34 => ?_)
      · refine y_iconst dX2_search_68 ?_
        refine z_istore dX2_search_69 (by decide) rfl rfl ?_
        refine y_iconst dX2_search_71 ?_
        refine z_istore dX2_search_72 (by decide) rfl rfl ?_
        exact h2
      · omega
    | succ t ih =>
      intro k hk
      obtain ⟨c1, c2, c3⟩ := hch2 k (by omega) (by omega)
      have hh := ih (k + 1) (by omega)
      have hr := wtF_rg hch hw0r k (by omega)
      obtain ⟨w, hw⟩ : ∃ w, w = wtF V w0 k := ⟨_, rfl⟩
      have ew : wtF V w0 (k + 1) = iup w (7 * V 101 k + V 102 k) (if w (7 * V 101 k + V 102 k) = -1 ∨ w (7 * V 101 k + V 102 k) = V 103 k then V 103 k else -2) := by rw [hw]; rfl
      rw [ew, show ((k + 1 : Nat) : Int) = (k : Int) + 1 by omega] at hh
      rw [← hw] at hr ⊢
      have z101 : Z w 101 = V 101 := zo w 101 (by decide) (by decide) (by decide)
      have z102 : Z w 102 = V 102 := zo w 102 (by decide) (by decide) (by decide)
      have z103 : Z w 103 = V 103 := zo w 103 (by decide) (by decide) (by decide)
      refine z_iload dX2_search_27 rfl ?_
      refine z_aload dX2_search_29 rfl ?_
      refine y_getI (j := 3) fX2_27 dX2_search_31 rfl (by first | assumption | rfl) ?_
      rw [z100]
      refine y_icmp_ge dX2_search_34 (by omega) (by omega) (fun c_34 => ?_) (fun c_34 => ?_)
      · omega
      · refine z_aload_n dX2_search_37 rfl ?_
        refine z_aload dX2_search_38 rfl ?_
        refine z_iload dX2_search_40 rfl ?_
        refine y_callVr (ct_X4_roadOf hN (by rw [z100]; omega) (by rw [z100]; omega)) kX2_33 dX2_search_42 rfl rfl (by first | assumption | rfl) rfl (by decide) rfl (Nat.le_of_ble_eq_true rfl) (fun r_42 h_42 => ?_)
        rw [z101] at h_42
        subst h_42
        refine z_aload dX2_search_45 rfl ?_
        refine z_iload dX2_search_47 rfl ?_
        refine y_callVr (ct_X4_placeOf hN (by rw [z100]; omega) (by rw [z100]; omega)) kX2_37 dX2_search_49 rfl rfl (by first | assumption | rfl) rfl (by decide) rfl (Nat.le_of_ble_eq_true rfl) (fun r_49 h_49 => ?_)
        rw [z102] at h_49
        subst h_49
        refine z_aload dX2_search_52 rfl ?_
        refine z_iload dX2_search_54 rfl ?_
        refine y_callVr (ct_X4_whatOf hN (by rw [z100]; omega) (by rw [z100]; omega)) kX2_40 dX2_search_56 rfl rfl (by first | assumption | rfl) rfl (by decide) rfl (Nat.le_of_ble_eq_true rfl) (fun r_56 h_56 => ?_)
        rw [z103] at h_56
        subst h_56
        refine y_callVv (ct_X2_want c1 c2 (by omega) (by rw [z8]; exact hr)) kX2_43 dX2_search_59 rfl rfl (by first | assumption | rfl) rfl (by decide) rfl (Nat.le_of_ble_eq_true rfl) (fun V1 h_59 => ?_)
        rw [z8, zv] at h_59
        subst h_59
        refine y_iinc dX2_search_62 rfl (by decide) rfl rfl ?_
        refine z_goto dX2_search_65 ?_
        exact hh
  have h0 := loop1 (V 100 3).toNat 0 (by omega)
  have ez : zup (zup (zup V 117 (ifl (V 117) 4096 (-1))) 118 (ifl (zup V 117 (ifl (V 117) 4096 (-1)) 118) 28 (-1))) 119 (ifl (zup (zup V 117 (ifl (V 117) 4096 (-1))) 118 (ifl (zup V 117 (ifl (V 117) 4096 (-1)) 118) 28 (-1)) 119) 7 0) = Z (wtF V w0 0) := by
    rw [zup_n _ _ (show (119 : Nat) ≠ 118 by decide), zup_n _ _ (show (119 : Nat) ≠ 117 by decide), zup_n _ _ (show (118 : Nat) ≠ 117 by decide), hZ]
    simp only
    rw [show wtF V w0 0 = w0 from rfl, hw0, hn7, hn9]
  rw [← ez] at h0
  refine zC_of (by decide +kernel) (Nat.le_of_ble_eq_true rfl) rfl ?_
  refine z_aload_n dX2_search_0 rfl ?_
  refine y_getR fX2_11 dX2_search_1 (by first | assumption | rfl) (by first | assumption | rfl) ?_
  refine y_iconst dX2_search_4 ?_
  refine y_callSv (ct_J7_fill (by first | assumption | rfl) (by decide)) kX2_21 dX2_search_5 rfl rfl (by decide) rfl (Nat.le_of_ble_eq_true rfl) (fun V1 h_5 => ?_)
  subst h_5
  refine z_aload_n dX2_search_8 rfl ?_
  refine y_getR fX2_15 dX2_search_9 (by first | assumption | rfl) (by first | assumption | rfl) ?_
  refine y_iconst dX2_search_12 ?_
  refine y_callSv (ct_J7_fill (by first | assumption | rfl) (by decide)) kX2_21 dX2_search_13 rfl rfl (by decide) rfl (Nat.le_of_ble_eq_true rfl) (fun V2 h_13 => ?_)
  subst h_13
  refine z_aload_n dX2_search_16 rfl ?_
  refine y_getR fX2_18 dX2_search_17 (by first | assumption | rfl) (by first | assumption | rfl) ?_
  refine y_iconst dX2_search_20 ?_
  refine y_callSv (ct_J7_fill (by first | assumption | rfl) (by decide)) kX2_21 dX2_search_21 rfl rfl (by decide) rfl (Nat.le_of_ble_eq_true rfl) (fun V3 h_21 => ?_)
  subst h_21
  refine y_iconst dX2_search_24 ?_
  refine z_istore dX2_search_25 (by decide) rfl rfl ?_
  exact h0
end

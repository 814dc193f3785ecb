/-! ===== GrudgeYardModel, at 134: small things ===== -/
section
variable {V : Nat → Int → Int} {b : Bool}
theorem ct_X11_in {v lo hi : Int} (hv : rj v) (hl : rj lo) (hh : rj hi) : yC 1 mX11_in [.long (jJ v), .long (jJ lo), .long (jJ hi)] V b (pR b V (fun q => ((lo ≤ v ∧ v ≤ hi) ∧ q = 1) ∨ (¬ (lo ≤ v ∧ v ≤ hi) ∧ q = 0))) := by
  refine zC_of (by decide +kernel) (Nat.le_of_ble_eq_true rfl) rfl ?_
  refine z_lload_n dX11_in_0 rfl ?_
  refine z_lload_n dX11_in_1 rfl ?_
  refine y_lcmp dX11_in_2 (by omega) (by omega) ?_
  refine y_if_lt dX11_in_3 (by omega) (fun c_3 => ?_) (fun c_3 => ?_)
  · refine y_iconst dX11_in_17 ?_
    exact y_zret dX11_in_18 rfl (by omega) (Nat.le_refl 0) (Nat.le_refl 0) ⟨_, rfl, rfl, by omega⟩
  · refine z_lload_n dX11_in_6 rfl ?_
    refine z_lload dX11_in_7 rfl ?_
    refine y_lcmp dX11_in_9 (by omega) (by omega) ?_
    refine y_if_gt dX11_in_10 (by omega) (fun c_10 => ?_) (fun c_10 => ?_)
    · refine y_iconst dX11_in_17 ?_
      exact y_zret dX11_in_18 rfl (by omega) (Nat.le_refl 0) (Nat.le_refl 0) ⟨_, rfl, rfl, by omega⟩
    · refine y_iconst dX11_in_13 ?_
      refine z_goto dX11_in_14 ?_
      exact y_zret dX11_in_18 rfl (by omega) (Nat.le_refl 0) (Nat.le_refl 0) ⟨_, rfl, rfl, by omega⟩
theorem ct_X11_has {s i : Int} (hs : 0 ≤ s ∧ s ≤ 2147483647) (hi : 0 ≤ i ∧ i ≤ 31) : yC 1 mX11_has [.int (iI s), .int (iI i)] V b (pR b V (fun q => q = if tb s i then 1 else 0)) := by
  have e := bShr_1 s i
  have h01 : bAnd (bShr s i) 1 = 0 ∨ bAnd (bShr s i) 1 = 1 := by rw [e]; split <;> simp
  have hn := bShr_nn s i
  refine zC_of (by decide +kernel) (Nat.le_of_ble_eq_true rfl) rfl ?_
  refine z_iload_n dX11_has_0 rfl ?_
  refine z_iload_n dX11_has_1 rfl ?_
  refine y_ishr dX11_has_2 (by omega) (by omega) ?_
  refine y_iconst dX11_has_3 ?_
  refine y_iand dX11_has_4 (by omega) (by omega) ?_
  refine y_iconst dX11_has_5 ?_
  refine y_icmp_ne dX11_has_6 (by omega) (by omega) (fun c_6 => ?_) (fun c_6 => ?_)
  · refine y_iconst dX11_has_13 ?_
    exact y_zret dX11_has_14 rfl (by omega) (Nat.le_refl 0) (Nat.le_refl 0) ⟨_, rfl, rfl, by rw [← e]; omega⟩
  · refine y_iconst dX11_has_9 ?_
    refine z_goto dX11_has_10 ?_
    exact y_zret dX11_has_14 rfl (by omega) (Nat.le_refl 0) (Nat.le_refl 0) ⟨_, rfl, rfl, by rw [← e]; omega⟩
/-- what the walks need of the told yard -/
def MS (V : Nat → Int → Int) : Prop := (0 ≤ V 135 0 ∧ V 135 0 ≤ 4) ∧ (0 ≤ V 135 5 ∧ V 135 5 ≤ 7) ∧ (∀ i, 6 ≤ i → i < 13 → 0 ≤ V 135 i ∧ V 135 i ≤ 4) ∧ (∀ i, 27 ≤ i → i < 32 → 0 ≤ V 135 i ∧ V 135 i ≤ 31) ∧ (∀ r, 0 ≤ r → r < V 135 0 → 1 ≤ V 135 (1 + r) ∧ V 135 (1 + r) ≤ 7)
/-- what the walks need of now -/
def NS (V : Nat → Int → Int) : Prop := (0 ≤ V 137 0 ∧ V 137 0 ≤ 7) ∧ (∀ r, 0 ≤ r → r < 4 → 0 ≤ V 137 (8 + r) ∧ V 137 (8 + r) ≤ 7) ∧ (∀ i, 1 ≤ i → i < 8 → 0 ≤ V 137 i ∧ V 137 i ≤ 6) ∧ (∀ i, 12 ≤ i → i < 40 → 0 ≤ V 137 i ∧ V 137 i ≤ 6) ∧ (∀ i, 40 ≤ i → i < 44 → 0 ≤ V 137 i ∧ V 137 i ≤ 127)
theorem MS_congr {V V' : Nat → Int → Int} (h : V' 135 = V 135) (hm : MS V) : MS V' := by unfold MS at *; rw [h]; exact hm
theorem NS_congr {V V' : Nat → Int → Int} (h : V' 137 = V 137) (hm : NS V) : NS V' := by unfold NS at *; rw [h]; exact hm
theorem ct_X11_isWagon {w : Int} (hw : rg w) (h5 : 0 ≤ V 135 5 ∧ V 135 5 ≤ 7) : yC 2 mX11_isWagon [.ref 134, .int (iI w)] V b (pR b V (fun q => ((0 ≤ w ∧ w < V 135 5) ∧ q = 1) ∨ (¬ (0 ≤ w ∧ w < V 135 5) ∧ q = 0))) := by
  refine zC_of (by decide +kernel) (Nat.le_of_ble_eq_true rfl) rfl ?_
  refine z_iload_n dX11_isWagon_0 rfl ?_
  refine y_i2l dX11_isWagon_1 (by omega) ?_
  refine y_lconst (v := 0) dX11_isWagon_2 (by decide +kernel) ?_
  refine z_aload_n dX11_isWagon_3 rfl ?_
  refine y_getR fX11_7 dX11_isWagon_4 (by first | assumption | rfl) (by first | assumption | rfl) ?_
  refine y_iconst dX11_isWagon_7 ?_
  refine y_iald dX11_isWagon_8 (by first | assumption | rfl) (by first | rfl | assumption) (by omega) ?_
  refine y_iconst dX11_isWagon_9 ?_
  refine y_isub dX11_isWagon_10 ?_
  refine y_i2l dX11_isWagon_11 (by omega) ?_
  refine y_callSr (ct_X11_in (by omega) (by omega) (by omega)) kX11_101 dX11_isWagon_12 rfl rfl (by decide) rfl (Nat.le_of_ble_eq_true rfl) (fun r_12 h_12 => ?_)
  exact y_zret dX11_isWagon_15 rfl (by omega) (Nat.le_refl 0) (Nat.le_refl 0) ⟨_, rfl, rfl, by omega⟩
theorem ct_X11_isRoad {r : Int} (hr : rg r) (h5 : 0 ≤ V 135 0 ∧ V 135 0 ≤ 4) : yC 2 mX11_isRoad [.ref 134, .int (iI r)] V b (pR b V (fun q => ((0 ≤ r ∧ r < V 135 0) ∧ q = 1) ∨ (¬ (0 ≤ r ∧ r < V 135 0) ∧ q = 0))) := by
  refine zC_of (by decide +kernel) (Nat.le_of_ble_eq_true rfl) rfl ?_
  refine z_iload_n dX11_isRoad_0 rfl ?_
  refine y_i2l dX11_isRoad_1 (by omega) ?_
  refine y_lconst (v := 0) dX11_isRoad_2 (by decide +kernel) ?_
  refine z_aload_n dX11_isRoad_3 rfl ?_
  refine y_getR fX11_7 dX11_isRoad_4 (by first | assumption | rfl) (by first | assumption | rfl) ?_
  refine y_iconst dX11_isRoad_7 ?_
  refine y_iald dX11_isRoad_8 (by first | assumption | rfl) (by first | rfl | assumption) (by omega) ?_
  refine y_iconst dX11_isRoad_9 ?_
  refine y_isub dX11_isRoad_10 ?_
  refine y_i2l dX11_isRoad_11 (by omega) ?_
  refine y_callSr (ct_X11_in (by omega) (by omega) (by omega)) kX11_101 dX11_isRoad_12 rfl rfl (by decide) rfl (Nat.le_of_ble_eq_true rfl) (fun r_12 h_12 => ?_)
  exact y_zret dX11_isRoad_15 rfl (by omega) (Nat.le_refl 0) (Nat.le_refl 0) ⟨_, rfl, rfl, by omega⟩
theorem ct_X11_isKind {k : Int} (hk : rg k) : yC 2 mX11_isKind [.int (iI k)] V b (pR b V (fun q => (0 ≤ k ∧ k ≤ 4 ∧ q = 1) ∨ (¬ (0 ≤ k ∧ k ≤ 4) ∧ q = 0))) := by
  refine zC_of (by decide +kernel) (Nat.le_of_ble_eq_true rfl) rfl ?_
  refine z_iload_n dX11_isKind_0 rfl ?_
  refine y_i2l dX11_isKind_1 (by omega) ?_
  refine y_lconst (v := 0) dX11_isKind_2 (by decide +kernel) ?_
  refine y_ldc2 (n := 4) dX11_isKind_3 cX11_170 (by decide +kernel) ?_
  refine y_callSr (ct_X11_in (by omega) (by omega) (by omega)) kX11_101 dX11_isKind_6 rfl rfl (by decide) rfl (Nat.le_of_ble_eq_true rfl) (fun r_6 h_6 => ?_)
  exact y_zret dX11_isKind_9 rfl (by omega) (Nat.le_refl 0) (Nat.le_refl 0) ⟨_, rfl, rfl, by omega⟩
theorem ct_X11_fault : yC 1 mX11_fault [.ref 134] V b (pR b V (fun q => q = V 134 10)) := by
  refine zC_of (by decide +kernel) (Nat.le_of_ble_eq_true rfl) rfl ?_
  refine z_aload_n dX11_fault_0 rfl ?_
  refine y_getI (j := 10) fX11_32 dX11_fault_1 rfl (by first | assumption | rfl) ?_
  exact z_iret dX11_fault_4 rfl (Nat.le_refl 0) (Nat.le_refl 0) ⟨_, rfl, rfl, by omega⟩
def tdM (V : Nat → Int → Int) (w : Int) : Int :=
  if w = 0 then V 135 0 else if w = 1 then V 135 5 else if w = 2 then V 135 33 else if w = 3 then V 134 9 else if w = 4 then V 137 0 else if w = 5 then V 137 44 else if w = 6 then V 137 45 else if w = 7 then V 137 46 else if w = 8 then V 134 12 else if w = 9 then V 134 14 else if w = 10 then V 134 16 else if w = 11 then V 134 4 else -1000000002
theorem ct_X11_told {w : Int} (hw : rg w) : yC 1 mX11_told [.ref 134, .int (iI w)] V b (pR b V (fun q => q = tdM V w)) := by
  refine zC_of (by decide +kernel) (Nat.le_of_ble_eq_true rfl) rfl ?_
  refine z_iload_n dX11_told_0 rfl ?_
  rcases (show (w < 0 ∨ 11 < w) ∨ w = 0 ∨ w = 1 ∨ w = 2 ∨ w = 3 ∨ w = 4 ∨ w = 5 ∨ w = 6 ∨ w = 7 ∨ w = 8 ∨ w = 9 ∨ w = 10 ∨ w = 11 by omega) with h_1 | h_1 | h_1 | h_1 | h_1 | h_1 | h_1 | h_1 | h_1 | h_1 | h_1 | h_1 | h_1
  · refine y_tsOut (tgt := 130) dX11_told_1 (by omega) h_1 (by decide) ?_
    refine y_ldc (n := -1000000002) dX11_told_130 cX11_105 (by decide +kernel) ?_
    exact z_iret dX11_told_132 rfl (Nat.le_refl 0) (Nat.le_refl 0) ⟨_, rfl, rfl, by unfold tdM; repeat rw [if_neg (by omega)]⟩
  · refine y_tsIn (off := 63) (tgt := 64) dX11_told_1 (by omega) (by omega) (by omega) (by rw [h_1]; rfl) (by decide) ?_
    refine z_aload_n dX11_told_64 rfl ?_
    refine y_getR fX11_7 dX11_told_65 (by first | assumption | rfl) (by first | assumption | rfl) ?_
    refine y_iconst dX11_told_68 ?_
    refine y_iald dX11_told_69 (by first | assumption | rfl) (by first | rfl | assumption) (by omega) ?_
    exact z_iret dX11_told_70 rfl (Nat.le_refl 0) (Nat.le_refl 0) ⟨_, rfl, rfl, by unfold tdM; simp_all⟩
  · refine y_tsIn (off := 70) (tgt := 71) dX11_told_1 (by omega) (by omega) (by omega) (by rw [h_1]; rfl) (by decide) ?_
    refine z_aload_n dX11_told_71 rfl ?_
    refine y_getR fX11_7 dX11_told_72 (by first | assumption | rfl) (by first | assumption | rfl) ?_
    refine y_iconst dX11_told_75 ?_
    refine y_iald dX11_told_76 (by first | assumption | rfl) (by first | rfl | assumption) (by omega) ?_
    exact z_iret dX11_told_77 rfl (Nat.le_refl 0) (Nat.le_refl 0) ⟨_, rfl, rfl, by unfold tdM; simp_all⟩
  · refine y_tsIn (off := 77) (tgt := 78) dX11_told_1 (by omega) (by omega) (by omega) (by rw [h_1]; rfl) (by decide) ?_
    refine z_aload_n dX11_told_78 rfl ?_
    refine y_getR fX11_7 dX11_told_79 (by first | assumption | rfl) (by first | assumption | rfl) ?_
    refine y_bipush dX11_told_82 (by decide +kernel) ?_
    refine y_iald dX11_told_84 (by first | assumption | rfl) (by first | rfl | assumption) (by omega) ?_
    exact z_iret dX11_told_85 rfl (Nat.le_refl 0) (Nat.le_refl 0) ⟨_, rfl, rfl, by unfold tdM; simp_all⟩
  · refine y_tsIn (off := 85) (tgt := 86) dX11_told_1 (by omega) (by omega) (by omega) (by rw [h_1]; rfl) (by decide) ?_
    refine z_aload_n dX11_told_86 rfl ?_
    refine y_getI (j := 9) fX11_106 dX11_told_87 rfl (by first | assumption | rfl) ?_
    exact z_iret dX11_told_90 rfl (Nat.le_refl 0) (Nat.le_refl 0) ⟨_, rfl, rfl, by unfold tdM; simp_all⟩
  · refine y_tsIn (off := 90) (tgt := 91) dX11_told_1 (by omega) (by omega) (by omega) (by rw [h_1]; rfl) (by decide) ?_
    refine z_aload_n dX11_told_91 rfl ?_
    refine y_getR fX11_16 dX11_told_92 (by first | assumption | rfl) (by first | assumption | rfl) ?_
    refine y_iconst dX11_told_95 ?_
    refine y_iald dX11_told_96 (by first | assumption | rfl) (by first | rfl | assumption) (by omega) ?_
    exact z_iret dX11_told_97 rfl (Nat.le_refl 0) (Nat.le_refl 0) ⟨_, rfl, rfl, by unfold tdM; simp_all⟩
  · refine y_tsIn (off := 97) (tgt := 98) dX11_told_1 (by omega) (by omega) (by omega) (by rw [h_1]; rfl) (by decide) ?_
    refine z_aload_n dX11_told_98 rfl ?_
    refine y_getR fX11_16 dX11_told_99 (by first | assumption | rfl) (by first | assumption | rfl) ?_
    refine y_bipush dX11_told_102 (by decide +kernel) ?_
    refine z_iload_n dX11_told_104 rfl ?_
    refine y_iadd dX11_told_105 ?_
    refine y_iconst dX11_told_106 ?_
    refine y_isub dX11_told_107 ?_
    refine y_iald dX11_told_108 (by first | assumption | rfl) (by first | rfl | assumption) (by omega) ?_
    exact z_iret dX11_told_109 rfl (Nat.le_refl 0) (Nat.le_refl 0) ⟨_, rfl, rfl, by unfold tdM; simp_all⟩
  · refine y_tsIn (off := 97) (tgt := 98) dX11_told_1 (by omega) (by omega) (by omega) (by rw [h_1]; rfl) (by decide) ?_
    refine z_aload_n dX11_told_98 rfl ?_
    refine y_getR fX11_16 dX11_told_99 (by first | assumption | rfl) (by first | assumption | rfl) ?_
    refine y_bipush dX11_told_102 (by decide +kernel) ?_
    refine z_iload_n dX11_told_104 rfl ?_
    refine y_iadd dX11_told_105 ?_
    refine y_iconst dX11_told_106 ?_
    refine y_isub dX11_told_107 ?_
    refine y_iald dX11_told_108 (by first | assumption | rfl) (by first | rfl | assumption) (by omega) ?_
    exact z_iret dX11_told_109 rfl (Nat.le_refl 0) (Nat.le_refl 0) ⟨_, rfl, rfl, by unfold tdM; simp_all⟩
  · refine y_tsIn (off := 97) (tgt := 98) dX11_told_1 (by omega) (by omega) (by omega) (by rw [h_1]; rfl) (by decide) ?_
    refine z_aload_n dX11_told_98 rfl ?_
    refine y_getR fX11_16 dX11_told_99 (by first | assumption | rfl) (by first | assumption | rfl) ?_
    refine y_bipush dX11_told_102 (by decide +kernel) ?_
    refine z_iload_n dX11_told_104 rfl ?_
    refine y_iadd dX11_told_105 ?_
    refine y_iconst dX11_told_106 ?_
    refine y_isub dX11_told_107 ?_
    refine y_iald dX11_told_108 (by first | assumption | rfl) (by first | rfl | assumption) (by omega) ?_
    exact z_iret dX11_told_109 rfl (Nat.le_refl 0) (Nat.le_refl 0) ⟨_, rfl, rfl, by unfold tdM; simp_all⟩
  · refine y_tsIn (off := 109) (tgt := 110) dX11_told_1 (by omega) (by omega) (by omega) (by rw [h_1]; rfl) (by decide) ?_
    refine z_aload_n dX11_told_110 rfl ?_
    refine y_getI (j := 12) fX11_90 dX11_told_111 rfl (by first | assumption | rfl) ?_
    exact z_iret dX11_told_114 rfl (Nat.le_refl 0) (Nat.le_refl 0) ⟨_, rfl, rfl, by unfold tdM; simp_all⟩
  · refine y_tsIn (off := 114) (tgt := 115) dX11_told_1 (by omega) (by omega) (by omega) (by rw [h_1]; rfl) (by decide) ?_
    refine z_aload_n dX11_told_115 rfl ?_
    refine y_getI (j := 14) fX11_93 dX11_told_116 rfl (by first | assumption | rfl) ?_
    exact z_iret dX11_told_119 rfl (Nat.le_refl 0) (Nat.le_refl 0) ⟨_, rfl, rfl, by unfold tdM; simp_all⟩
  · refine y_tsIn (off := 119) (tgt := 120) dX11_told_1 (by omega) (by omega) (by omega) (by rw [h_1]; rfl) (by decide) ?_
    refine z_aload_n dX11_told_120 rfl ?_
    refine y_getI (j := 16) fX11_96 dX11_told_121 rfl (by first | assumption | rfl) ?_
    exact z_iret dX11_told_124 rfl (Nat.le_refl 0) (Nat.le_refl 0) ⟨_, rfl, rfl, by unfold tdM; simp_all⟩
  · refine y_tsIn (off := 124) (tgt := 125) dX11_told_1 (by omega) (by omega) (by omega) (by rw [h_1]; rfl) (by decide) ?_
    refine z_aload_n dX11_told_125 rfl ?_
    refine y_getI (j := 4) fX11_87 dX11_told_126 rfl (by first | assumption | rfl) ?_
    exact z_iret dX11_told_129 rfl (Nat.le_refl 0) (Nat.le_refl 0) ⟨_, rfl, rfl, by unfold tdM; simp_all⟩
/-- the first place of w among n of an array from f on -/
def plM (g : Int → Int) (f n w q : Int) : Prop := (0 ≤ q ∧ q < n ∧ g (f + q) = w ∧ ∀ j, 0 ≤ j → j < q → g (f + j) ≠ w) ∨ (q = -1 ∧ ∀ j, 0 ≤ j → j < n → g (f + j) ≠ w)
theorem ct_X11_placeOf {a sz : Nat} {f n w : Int} (hs : S0[a]? = some (.inr (0, sz))) (hf : 0 ≤ f) (hn : 0 ≤ n ∧ n ≤ 7) (hfn : f + n ≤ sz) (hw : rg w) (hg : ∀ i, f ≤ i → i < f + n → rg (V a i)) (hz : sz ≤ 1000) : yC 1 mX11_placeOf [.ref a, .int (iI f), .int (iI n), .int (iI w)] V b (pR b V (plM (V a) f n w)) := by
  have hz2 : Nat.ble sz 2147483647 = true := by rw [Nat.ble_eq]; omega
  have loop : ∀ (k : Nat) (i : Int), 0 ≤ i → i + k = n → (∀ j, 0 ≤ j → j < i → V a (f + j) ≠ w) → yE 1 (pR b V (plM (V a) f n w)) mX11_placeOf 3 [some (.ref a), some (.int (iI f)), some (.int (iI n)), some (.int (iI w)), some (.int (iI i))] [] V b := by
    intro k
    induction k with
    | zero =>
      intro i h1 h2 h3
      refine z_iload dX11_placeOf_3 rfl ?_
      refine z_iload_n dX11_placeOf_5 rfl ?_
      refine y_icmp_ge dX11_placeOf_6 (by omega) (by omega) (fun c_6 => ?_) (fun c_6 => ?_)
      · refine y_iconst dX11_placeOf_28 ?_
        exact z_iret dX11_placeOf_29 rfl (Nat.le_refl 0) (Nat.le_refl 0) ⟨_, rfl, rfl, Or.inr ⟨rfl, fun j j1 j2 => h3 j j1 (by omega)⟩⟩
      · omega
    | succ k ih =>
      intro i h1 h2 h3
      have hgi := hg (f + i) (by omega) (by omega)
      refine z_iload dX11_placeOf_3 rfl ?_
      refine z_iload_n dX11_placeOf_5 rfl ?_
      refine y_icmp_ge dX11_placeOf_6 (by omega) (by omega) (fun c_6 => ?_) (fun c_6 => ?_)
      · omega
      · refine z_aload_n dX11_placeOf_9 rfl ?_
        refine z_iload_n dX11_placeOf_10 rfl ?_
        refine z_iload dX11_placeOf_11 rfl ?_
        refine y_iadd dX11_placeOf_13 ?_
        refine y_iald dX11_placeOf_14 hs (by first | rfl | assumption) (by omega) ?_
        refine z_iload_n dX11_placeOf_15 rfl ?_
        refine y_icmp_ne dX11_placeOf_16 (by omega) (by omega) (fun c_16 => ?_) (fun c_16 => ?_)
        · refine y_iinc dX11_placeOf_22 rfl (by decide) rfl rfl ?_
          refine z_goto dX11_placeOf_25 ?_
          refine ih (i + 1) (by omega) (by omega) (fun j j1 j2 => ?_)
          by_cases hj : j = i
          · subst hj; exact c_16
          · exact h3 j j1 (by omega)
        · refine z_iload dX11_placeOf_19 rfl ?_
          exact z_iret dX11_placeOf_21 rfl (Nat.le_refl 0) (Nat.le_refl 0) ⟨_, rfl, rfl, Or.inl ⟨h1, by omega, c_16, h3⟩⟩
  refine zC_of (by decide +kernel) (Nat.le_of_ble_eq_true rfl) rfl ?_
  refine y_iconst dX11_placeOf_0 ?_
  refine z_istore dX11_placeOf_1 (by decide) rfl rfl ?_
  exact loop n.toNat 0 (by omega) (by omega) (fun j j1 j2 => by omega)
/-- the last road in which w is found -/
def rdM (N : Int → Int) (w q : Int) : Prop := (0 ≤ q ∧ q < 4 ∧ (∃ p, 0 ≤ p ∧ p < N (8 + q) ∧ N (12 + 7 * q + p) = w) ∧ ∀ r, q < r → r < 4 → ∀ p, 0 ≤ p → p < N (8 + r) → N (12 + 7 * r + p) ≠ w) ∨ (q = -1 ∧ ∀ r, 0 ≤ r → r < 4 → ∀ p, 0 ≤ p → p < N (8 + r) → N (12 + 7 * r + p) ≠ w)
theorem ct_X11_roadOf {w : Int} (hw : rg w) (hN : NS V) : yC 2 mX11_roadOf [.ref 134, .int (iI w)] V b (pR b V (rdM (V 137) w)) := by
  obtain ⟨n0, n1, n2, n3, n4⟩ := id hN
  have loop : ∀ (k : Nat) (r q : Int), 0 ≤ r → r + k = 4 → -1 ≤ q → q < r → ((0 ≤ q ∧ (∃ p, 0 ≤ p ∧ p < V 137 (8 + q) ∧ V 137 (12 + 7 * q + p) = w) ∧ ∀ s, q < s → s < r → ∀ p, 0 ≤ p → p < V 137 (8 + s) → V 137 (12 + 7 * s + p) ≠ w) ∨ (q = -1 ∧ ∀ s, 0 ≤ s → s < r → ∀ p, 0 ≤ p → p < V 137 (8 + s) → V 137 (12 + 7 * s + p) ≠ w)) → yE 2 (pR b V (rdM (V 137) w)) mX11_roadOf 4 [some (.ref 134), some (.int (iI w)), some (.int (iI q)), some (.int (iI r))] [] V b := by
    intro k
    induction k with
    | zero =>
      intro r q h1 h2 h3 h4 h5
      have hr4 : r = 4 := by omega
      subst hr4
      refine z_iload_n dX11_roadOf_4 rfl ?_
      refine y_iconst dX11_roadOf_5 ?_
      refine y_icmp_ge dX11_roadOf_6 (by omega) (by omega) (fun c_6 => ?_) (fun c_6 => ?_)
      · refine z_iload_n dX11_roadOf_48 rfl ?_
        exact z_iret dX11_roadOf_49 rfl (Nat.le_refl 0) (Nat.le_refl 0) ⟨_, rfl, rfl, by
          rcases h5 with ⟨a1, a2, a3⟩ | ⟨a1, a2⟩
          · exact Or.inl ⟨a1, by omega, a2, a3⟩
          · exact Or.inr ⟨a1, a2⟩⟩
      · omega
    | succ k ih =>
      intro r q h1 h2 h3 h4 h5
      have hnr := n1 r (by omega) (by omega)
      refine z_iload_n dX11_roadOf_4 rfl ?_
      refine y_iconst dX11_roadOf_5 ?_
      refine y_icmp_ge dX11_roadOf_6 (by omega) (by omega) (fun c_6 => ?_) (fun c_6 => ?_)
      · omega
      · refine z_aload_n dX11_roadOf_9 rfl ?_
        refine y_getR fX11_16 dX11_roadOf_10 (by first | assumption | rfl) (by first | assumption | rfl) ?_
        refine y_bipush dX11_roadOf_13 (by decide +kernel) ?_
        refine y_bipush dX11_roadOf_15 (by decide +kernel) ?_
        refine z_iload_n dX11_roadOf_17 rfl ?_
        refine y_imul dX11_roadOf_18 ?_
        refine y_iadd dX11_roadOf_19 ?_
        refine z_aload_n dX11_roadOf_20 rfl ?_
        refine y_getR fX11_16 dX11_roadOf_21 (by first | assumption | rfl) (by first | assumption | rfl) ?_
        refine y_bipush dX11_roadOf_24 (by decide +kernel) ?_
        refine z_iload_n dX11_roadOf_26 rfl ?_
        refine y_iadd dX11_roadOf_27 ?_
        refine y_iald dX11_roadOf_28 (by first | assumption | rfl) (by first | rfl | assumption) (by omega) ?_
        refine z_iload_n dX11_roadOf_29 rfl ?_
        refine y_callSr (ct_X11_placeOf (a := 137) (sz := 47) rfl (by omega) (by omega) (by omega) (by omega) (fun i i1 i2 => by have := n3 i (by omega) (by omega); omega) (by decide)) kX11_172 dX11_roadOf_30 rfl rfl (by decide) rfl (Nat.le_of_ble_eq_true rfl) (fun r_30 h_30 => ?_)
        refine y_if_lt dX11_roadOf_33 (by rcases h_30 with h | h <;> omega) (fun c_33 => ?_) (fun c_33 => ?_)
        · have hno : ∀ j, 0 ≤ j → j < V 137 (8 + r) → V 137 (12 + 7 * r + j) ≠ w := by
            rcases h_30 with h | h
            · omega
            · exact h.2
          refine z_iload_n dX11_roadOf_40 rfl ?_
          refine z_istore_n dX11_roadOf_41 (by decide) rfl rfl ?_
          refine y_iinc dX11_roadOf_42 rfl (by decide) rfl rfl ?_
          refine z_goto dX11_roadOf_45 ?_
          first
            | refine ih (r + 1) r (by omega) (by omega) (by omega) (by omega) (Or.inl ⟨by omega, hyes, fun s s1 s2 => by omega⟩)
            | refine ih (r + 1) q (by omega) (by omega) (by omega) (by omega) ?_
              rcases h5 with ⟨a1, a2, a3⟩ | ⟨a1, a2⟩
              · refine Or.inl ⟨a1, a2, fun s s1 s2 => ?_⟩
                by_cases hs : s = r
                · subst hs; exact hno
                · exact a3 s s1 (by omega)
              · refine Or.inr ⟨a1, fun s s1 s2 => ?_⟩
                by_cases hs : s = r
                · subst hs; exact hno
                · exact a2 s s1 (by omega)
        · have hyes : ∃ p, 0 ≤ p ∧ p < V 137 (8 + r) ∧ V 137 (12 + 7 * r + p) = w := by
            rcases h_30 with h | h
            · exact ⟨r_30, h.1, h.2.1, h.2.2.1⟩
            · omega
          refine z_iload_n dX11_roadOf_36 rfl ?_
          refine z_goto dX11_roadOf_37 ?_
          refine z_istore_n dX11_roadOf_41 (by decide) rfl rfl ?_
          refine y_iinc dX11_roadOf_42 rfl (by decide) rfl rfl ?_
          refine z_goto dX11_roadOf_45 ?_
          first
            | refine ih (r + 1) r (by omega) (by omega) (by omega) (by omega) (Or.inl ⟨by omega, hyes, fun s s1 s2 => by omega⟩)
            | refine ih (r + 1) q (by omega) (by omega) (by omega) (by omega) ?_
              rcases h5 with ⟨a1, a2, a3⟩ | ⟨a1, a2⟩
              · refine Or.inl ⟨a1, a2, fun s s1 s2 => ?_⟩
                by_cases hs : s = r
                · subst hs; exact hno
                · exact a3 s s1 (by omega)
              · refine Or.inr ⟨a1, fun s s1 s2 => ?_⟩
                by_cases hs : s = r
                · subst hs; exact hno
                · exact a2 s s1 (by omega)
  refine zC_of (by decide +kernel) (Nat.le_of_ble_eq_true rfl) rfl ?_
  refine y_iconst dX11_roadOf_0 ?_
  refine z_istore_n dX11_roadOf_1 (by decide) rfl rfl ?_
  refine y_iconst dX11_roadOf_2 ?_
  refine z_istore_n dX11_roadOf_3 (by decide) rfl rfl ?_
  exact loop 4 0 (-1) (by omega) (by omega) (by omega) (by omega) (Or.inr ⟨rfl, fun s s1 s2 => by omega⟩)
theorem ct_X11_speed {w : Int} (hw : 0 ≤ w ∧ w < 7) : yC 1 mX11_speed [.ref 134, .int (iI w)] V b (pR b V (fun q => q = 60 + V 135 (13 + w) - 2 * V 135 (20 + w))) := by
  refine zC_of (by decide +kernel) (Nat.le_of_ble_eq_true rfl) rfl ?_
  refine y_bipush dX11_speed_0 (by decide +kernel) ?_
  refine z_aload_n dX11_speed_2 rfl ?_
  refine y_getR fX11_7 dX11_speed_3 (by first | assumption | rfl) (by first | assumption | rfl) ?_
  refine y_bipush dX11_speed_6 (by decide +kernel) ?_
  refine z_iload_n dX11_speed_8 rfl ?_
  refine y_iadd dX11_speed_9 ?_
  refine y_iald dX11_speed_10 (by first | assumption | rfl) (by first | rfl | assumption) (by omega) ?_
  refine y_iadd dX11_speed_11 ?_
  refine y_iconst dX11_speed_12 ?_
  refine z_aload_n dX11_speed_13 rfl ?_
  refine y_getR fX11_7 dX11_speed_14 (by first | assumption | rfl) (by first | assumption | rfl) ?_
  refine y_bipush dX11_speed_17 (by decide +kernel) ?_
  refine z_iload_n dX11_speed_19 rfl ?_
  refine y_iadd dX11_speed_20 ?_
  refine y_iald dX11_speed_21 (by first | assumption | rfl) (by first | rfl | assumption) (by omega) ?_
  refine y_imul dX11_speed_22 ?_
  refine y_isub dX11_speed_23 ?_
  exact z_iret dX11_speed_24 rfl (Nat.le_refl 0) (Nat.le_refl 0) ⟨_, rfl, rfl, by omega⟩
theorem ct_X11_wagon {w k : Int} (hw : rg w) (hk : rg k) (hM : MS V) (hN : NS V) : yC 3 mX11_wagon [.ref 134, .int (iI w), .int (iI k)] V b (pR b V (fun q => (¬ (0 ≤ w ∧ w < V 135 5) ∧ q = -1000000001) ∨ ((0 ≤ w ∧ w < V 135 5) ∧ ((k = 0 ∧ q = V 135 (6 + w)) ∨ (k = 1 ∧ q = V 135 (13 + w)) ∨ (k = 2 ∧ q = V 135 (20 + w)) ∨ (k = 3 ∧ rdM (V 137) w q) ∨ (k = 4 ∧ ∃ r, rdM (V 137) w r ∧ ((r = -1 ∧ plM (V 137) 1 (V 137 0) w q) ∨ (0 ≤ r ∧ plM (V 137) (12 + 7 * r) (V 137 (8 + r)) w q))) ∨ (k = 5 ∧ q = 60 + V 135 (13 + w) - 2 * V 135 (20 + w)) ∨ ((k < 0 ∨ 5 < k) ∧ q = -1000000002))))) := by
  obtain ⟨m0, m1, m2, m3, m4⟩ := id hM
  obtain ⟨n0, n1, n2, n3, n4⟩ := id hN
  refine zC_of (by decide +kernel) (Nat.le_of_ble_eq_true rfl) rfl ?_
  refine z_aload_n dX11_wagon_0 rfl ?_
  refine z_iload_n dX11_wagon_1 rfl ?_
  refine y_callVr (ct_X11_isWagon (by omega) (by omega)) kX11_176 dX11_wagon_2 rfl rfl (by first | assumption | rfl) rfl (by decide) rfl (Nat.le_of_ble_eq_true rfl) (fun r_2 h_2 => ?_)
  refine y_if_ne dX11_wagon_5 (by omega) (fun c_5 => ?_) (fun c_5 => ?_)
  · refine z_aload_n dX11_wagon_11 rfl ?_
    refine z_iload_n dX11_wagon_12 rfl ?_
    refine y_callVr (ct_X11_roadOf (by omega) (by assumption)) kX11_180 dX11_wagon_13 rfl rfl (by first | assumption | rfl) rfl (by decide) rfl (Nat.le_of_ble_eq_true rfl) (fun r_13 h_13 => ?_)
    have hr13 : -1 ≤ r_13 ∧ r_13 ≤ 3 := by rcases h_13 with h | h <;> omega
    refine z_istore_n dX11_wagon_16 (by decide) rfl rfl ?_
    refine z_iload_n dX11_wagon_17 rfl ?_
    rcases (show (k < 0 ∨ 5 < k) ∨ k = 0 ∨ k = 1 ∨ k = 2 ∨ k = 3 ∨ k = 4 ∨ k = 5 by omega) with h_18 | h_18 | h_18 | h_18 | h_18 | h_18 | h_18
    · refine y_tsOut (tgt := 126) dX11_wagon_18 (by omega) h_18 (by decide) ?_
      refine y_ldc (n := -1000000002) dX11_wagon_126 cX11_105 (by decide +kernel) ?_
      exact z_iret dX11_wagon_128 rfl (Nat.le_refl 0) (Nat.le_refl 0) ⟨_, rfl, rfl, Or.inr ⟨by omega, Or.inr (Or.inr (Or.inr (Or.inr (Or.inr (Or.inr ⟨by omega, rfl⟩)))))⟩⟩
    · refine y_tsIn (off := 38) (tgt := 56) dX11_wagon_18 (by omega) (by omega) (by omega) (by rw [h_18]; rfl) (by decide) ?_
      refine z_aload_n dX11_wagon_56 rfl ?_
      refine y_getR fX11_7 dX11_wagon_57 (by first | assumption | rfl) (by first | assumption | rfl) ?_
      refine y_bipush dX11_wagon_60 (by decide +kernel) ?_
      refine y_bipush dX11_wagon_62 (by decide +kernel) ?_
      refine z_iload_n dX11_wagon_64 rfl ?_
      refine y_imul dX11_wagon_65 ?_
      refine y_iadd dX11_wagon_66 ?_
      refine z_iload_n dX11_wagon_67 rfl ?_
      refine y_iadd dX11_wagon_68 ?_
      refine y_iald dX11_wagon_69 (by first | assumption | rfl) (by first | rfl | assumption) (by omega) ?_
      exact z_iret dX11_wagon_70 rfl (Nat.le_refl 0) (Nat.le_refl 0) ⟨_, rfl, rfl, Or.inr ⟨by omega, by first | exact Or.inl ⟨h_18, by rw [h_18]; rfl⟩ | exact Or.inr (Or.inl ⟨h_18, by rw [h_18]; rfl⟩) | exact Or.inr (Or.inr (Or.inl ⟨h_18, by rw [h_18]; rfl⟩))⟩⟩
    · refine y_tsIn (off := 38) (tgt := 56) dX11_wagon_18 (by omega) (by omega) (by omega) (by rw [h_18]; rfl) (by decide) ?_
      refine z_aload_n dX11_wagon_56 rfl ?_
      refine y_getR fX11_7 dX11_wagon_57 (by first | assumption | rfl) (by first | assumption | rfl) ?_
      refine y_bipush dX11_wagon_60 (by decide +kernel) ?_
      refine y_bipush dX11_wagon_62 (by decide +kernel) ?_
      refine z_iload_n dX11_wagon_64 rfl ?_
      refine y_imul dX11_wagon_65 ?_
      refine y_iadd dX11_wagon_66 ?_
      refine z_iload_n dX11_wagon_67 rfl ?_
      refine y_iadd dX11_wagon_68 ?_
      refine y_iald dX11_wagon_69 (by first | assumption | rfl) (by first | rfl | assumption) (by omega) ?_
      exact z_iret dX11_wagon_70 rfl (Nat.le_refl 0) (Nat.le_refl 0) ⟨_, rfl, rfl, Or.inr ⟨by omega, by first | exact Or.inl ⟨h_18, by rw [h_18]; rfl⟩ | exact Or.inr (Or.inl ⟨h_18, by rw [h_18]; rfl⟩) | exact Or.inr (Or.inr (Or.inl ⟨h_18, by rw [h_18]; rfl⟩))⟩⟩
    · refine y_tsIn (off := 38) (tgt := 56) dX11_wagon_18 (by omega) (by omega) (by omega) (by rw [h_18]; rfl) (by decide) ?_
      refine z_aload_n dX11_wagon_56 rfl ?_
      refine y_getR fX11_7 dX11_wagon_57 (by first | assumption | rfl) (by first | assumption | rfl) ?_
      refine y_bipush dX11_wagon_60 (by decide +kernel) ?_
      refine y_bipush dX11_wagon_62 (by decide +kernel) ?_
      refine z_iload_n dX11_wagon_64 rfl ?_
      refine y_imul dX11_wagon_65 ?_
      refine y_iadd dX11_wagon_66 ?_
      refine z_iload_n dX11_wagon_67 rfl ?_
      refine y_iadd dX11_wagon_68 ?_
      refine y_iald dX11_wagon_69 (by first | assumption | rfl) (by first | rfl | assumption) (by omega) ?_
      exact z_iret dX11_wagon_70 rfl (Nat.le_refl 0) (Nat.le_refl 0) ⟨_, rfl, rfl, Or.inr ⟨by omega, by first | exact Or.inl ⟨h_18, by rw [h_18]; rfl⟩ | exact Or.inr (Or.inl ⟨h_18, by rw [h_18]; rfl⟩) | exact Or.inr (Or.inr (Or.inl ⟨h_18, by rw [h_18]; rfl⟩))⟩⟩
    · refine y_tsIn (off := 53) (tgt := 71) dX11_wagon_18 (by omega) (by omega) (by omega) (by rw [h_18]; rfl) (by decide) ?_
      refine z_iload_n dX11_wagon_71 rfl ?_
      exact z_iret dX11_wagon_72 rfl (Nat.le_refl 0) (Nat.le_refl 0) ⟨_, rfl, rfl, Or.inr ⟨by omega, Or.inr (Or.inr (Or.inr (Or.inl ⟨h_18, h_13⟩)))⟩⟩
    · refine y_tsIn (off := 55) (tgt := 73) dX11_wagon_18 (by omega) (by omega) (by omega) (by rw [h_18]; rfl) (by decide) ?_
      refine z_iload_n dX11_wagon_73 rfl ?_
      refine y_if_ge dX11_wagon_74 (by omega) (fun c_74 => ?_) (fun c_74 => ?_)
      · have hnr := n1 r_13 (by omega) (by omega)
        refine z_aload_n dX11_wagon_95 rfl ?_
        refine y_getR fX11_16 dX11_wagon_96 (by first | assumption | rfl) (by first | assumption | rfl) ?_
        refine y_bipush dX11_wagon_99 (by decide +kernel) ?_
        refine y_bipush dX11_wagon_101 (by decide +kernel) ?_
        refine z_iload_n dX11_wagon_103 rfl ?_
        refine y_imul dX11_wagon_104 ?_
        refine y_iadd dX11_wagon_105 ?_
        refine z_aload_n dX11_wagon_106 rfl ?_
        refine y_getR fX11_16 dX11_wagon_107 (by first | assumption | rfl) (by first | assumption | rfl) ?_
        refine y_bipush dX11_wagon_110 (by decide +kernel) ?_
        refine z_iload_n dX11_wagon_112 rfl ?_
        refine y_iadd dX11_wagon_113 ?_
        refine y_iald dX11_wagon_114 (by first | assumption | rfl) (by first | rfl | assumption) (by omega) ?_
        refine z_iload_n dX11_wagon_115 rfl ?_
        refine y_callSr (ct_X11_placeOf (a := 137) (sz := 47) rfl (by omega) (by omega) (by omega) (by omega) (fun i i1 i2 => by have := n3 i (by omega) (by omega); omega) (by decide)) kX11_172 dX11_wagon_116 rfl rfl (by decide) rfl (Nat.le_of_ble_eq_true rfl) (fun r_116 h_116 => ?_)
        exact z_iret dX11_wagon_119 rfl (Nat.le_refl 0) (Nat.le_refl 0) ⟨_, rfl, rfl, Or.inr ⟨by omega, Or.inr (Or.inr (Or.inr (Or.inr (Or.inl ⟨h_18, r_13, h_13, by first | exact Or.inl ⟨by omega, h_89⟩ | exact Or.inr ⟨by omega, h_116⟩⟩))))⟩⟩
      · refine z_aload_n dX11_wagon_77 rfl ?_
        refine y_getR fX11_16 dX11_wagon_78 (by first | assumption | rfl) (by first | assumption | rfl) ?_
        refine y_iconst dX11_wagon_81 ?_
        refine z_aload_n dX11_wagon_82 rfl ?_
        refine y_getR fX11_16 dX11_wagon_83 (by first | assumption | rfl) (by first | assumption | rfl) ?_
        refine y_iconst dX11_wagon_86 ?_
        refine y_iald dX11_wagon_87 (by first | assumption | rfl) (by first | rfl | assumption) (by omega) ?_
        refine z_iload_n dX11_wagon_88 rfl ?_
        refine y_callSr (ct_X11_placeOf (a := 137) (sz := 47) rfl (by omega) (by omega) (by omega) (by omega) (fun i i1 i2 => by have := n2 i (by omega) (by omega); omega) (by decide)) kX11_172 dX11_wagon_89 rfl rfl (by decide) rfl (Nat.le_of_ble_eq_true rfl) (fun r_89 h_89 => ?_)
        refine z_goto dX11_wagon_92 ?_
        exact z_iret dX11_wagon_119 rfl (Nat.le_refl 0) (Nat.le_refl 0) ⟨_, rfl, rfl, Or.inr ⟨by omega, Or.inr (Or.inr (Or.inr (Or.inr (Or.inl ⟨h_18, r_13, h_13, by first | exact Or.inl ⟨by omega, h_89⟩ | exact Or.inr ⟨by omega, h_116⟩⟩))))⟩⟩
    · refine y_tsIn (off := 102) (tgt := 120) dX11_wagon_18 (by omega) (by omega) (by omega) (by rw [h_18]; rfl) (by decide) ?_
      refine z_aload_n dX11_wagon_120 rfl ?_
      refine z_iload_n dX11_wagon_121 rfl ?_
      refine y_callVr (ct_X11_speed (by omega)) kX11_184 dX11_wagon_122 rfl rfl (by first | assumption | rfl) rfl (by decide) rfl (Nat.le_of_ble_eq_true rfl) (fun r_122 h_122 => ?_)
      exact z_iret dX11_wagon_125 rfl (Nat.le_refl 0) (Nat.le_refl 0) ⟨_, rfl, rfl, Or.inr ⟨by omega, Or.inr (Or.inr (Or.inr (Or.inr (Or.inr (Or.inl ⟨h_18, h_122⟩)))))⟩⟩
  · refine y_ldc (n := -1000000001) dX11_wagon_8 cX11_179 (by decide +kernel) ?_
    exact z_iret dX11_wagon_10 rfl (Nat.le_refl 0) (Nat.le_refl 0) ⟨_, rfl, rfl, Or.inl ⟨by omega, rfl⟩⟩
theorem ct_X11_road {r w : Int} (hr : rg r) (hw : rg w) (hM : MS V) : yC 3 mX11_road [.ref 134, .int (iI r), .int (iI w)] V b (pR b V (fun q => (¬ (0 ≤ r ∧ r < V 135 0) ∧ q = -1000000001) ∨ ((0 ≤ r ∧ r < V 135 0) ∧ ((w = 0 ∧ q = V 135 (1 + r)) ∨ (w = 1 ∧ q = V 137 (8 + r)) ∨ (w = 2 ∧ q = V 137 (40 + r)) ∨ ((w < 0 ∨ 2 < w) ∧ q = -1000000002))))) := by
  obtain ⟨m0, m1, m2, m3, m4⟩ := id hM
  refine zC_of (by decide +kernel) (Nat.le_of_ble_eq_true rfl) rfl ?_
  refine z_aload_n dX11_road_0 rfl ?_
  refine z_iload_n dX11_road_1 rfl ?_
  refine y_callVr (ct_X11_isRoad (by omega) (by omega)) kX11_187 dX11_road_2 rfl rfl (by first | assumption | rfl) rfl (by decide) rfl (Nat.le_of_ble_eq_true rfl) (fun r_2 h_2 => ?_)
  refine y_if_ne dX11_road_5 (by omega) (fun c_5 => ?_) (fun c_5 => ?_)
  · refine z_iload_n dX11_road_11 rfl ?_
    refine y_if_ne dX11_road_12 (by omega) (fun c_12 => ?_) (fun c_12 => ?_)
    · refine z_iload_n dX11_road_26 rfl ?_
      refine y_iconst dX11_road_27 ?_
      refine y_icmp_ne dX11_road_28 (by omega) (by omega) (fun c_28 => ?_) (fun c_28 => ?_)
      · refine z_iload_n dX11_road_43 rfl ?_
        refine y_iconst dX11_road_44 ?_
        refine y_icmp_ne dX11_road_45 (by omega) (by omega) (fun c_45 => ?_) (fun c_45 => ?_)
        · refine y_ldc (n := -1000000002) dX11_road_60 cX11_105 (by decide +kernel) ?_
          exact z_iret dX11_road_62 rfl (Nat.le_refl 0) (Nat.le_refl 0) ⟨_, rfl, rfl, by omega⟩
        · refine z_aload_n dX11_road_48 rfl ?_
          refine y_getR fX11_16 dX11_road_49 (by first | assumption | rfl) (by first | assumption | rfl) ?_
          refine y_bipush dX11_road_52 (by decide +kernel) ?_
          refine z_iload_n dX11_road_54 rfl ?_
          refine y_iadd dX11_road_55 ?_
          refine y_iald dX11_road_56 (by first | assumption | rfl) (by first | rfl | assumption) (by omega) ?_
          refine z_goto dX11_road_57 ?_
          exact z_iret dX11_road_62 rfl (Nat.le_refl 0) (Nat.le_refl 0) ⟨_, rfl, rfl, by omega⟩
      · refine z_aload_n dX11_road_31 rfl ?_
        refine y_getR fX11_16 dX11_road_32 (by first | assumption | rfl) (by first | assumption | rfl) ?_
        refine y_bipush dX11_road_35 (by decide +kernel) ?_
        refine z_iload_n dX11_road_37 rfl ?_
        refine y_iadd dX11_road_38 ?_
        refine y_iald dX11_road_39 (by first | assumption | rfl) (by first | rfl | assumption) (by omega) ?_
        refine z_goto dX11_road_40 ?_
        exact z_iret dX11_road_62 rfl (Nat.le_refl 0) (Nat.le_refl 0) ⟨_, rfl, rfl, by omega⟩
    · refine z_aload_n dX11_road_15 rfl ?_
      refine y_getR fX11_7 dX11_road_16 (by first | assumption | rfl) (by first | assumption | rfl) ?_
      refine y_iconst dX11_road_19 ?_
      refine z_iload_n dX11_road_20 rfl ?_
      refine y_iadd dX11_road_21 ?_
      refine y_iald dX11_road_22 (by first | assumption | rfl) (by first | rfl | assumption) (by omega) ?_
      refine z_goto dX11_road_23 ?_
      exact z_iret dX11_road_62 rfl (Nat.le_refl 0) (Nat.le_refl 0) ⟨_, rfl, rfl, by omega⟩
  · refine y_ldc (n := -1000000001) dX11_road_8 cX11_179 (by decide +kernel) ?_
    exact z_iret dX11_road_10 rfl (Nat.le_refl 0) (Nat.le_refl 0) ⟨_, rfl, rfl, by omega⟩
/-- the i-th in a road, from the hump's head for -1 -/
def atM (N : Int → Int) (r i : Int) : Int := if r = -1 then (if 0 ≤ i ∧ i < N 0 then N (1 + i) else -1) else (if 0 ≤ i ∧ i < N (8 + r) then N (12 + 7 * r + i) else -1)
theorem ct_X11_at {r i : Int} (hr : rg r) (hi : rg i) (hM : MS V) (hN : NS V) : yC 3 mX11_at [.ref 134, .int (iI r), .int (iI i)] V b (pR b V (fun q => (¬ (r = -1 ∨ (0 ≤ r ∧ r < V 135 0)) ∧ q = -1000000001) ∨ ((r = -1 ∨ (0 ≤ r ∧ r < V 135 0)) ∧ q = atM (V 137) r i))) := by
  obtain ⟨m0, m1, m2, m3, m4⟩ := id hM
  obtain ⟨n0, n1, n2, n3, n4⟩ := id hN
  have hnr : r ≠ -1 → 0 ≤ r → r < V 135 0 → 0 ≤ V 137 (8 + r) ∧ V 137 (8 + r) ≤ 7 := fun _ h1 h2 => n1 r h1 (by omega)
  refine zC_of (by decide +kernel) (Nat.le_of_ble_eq_true rfl) rfl ?_
  refine z_iload_n dX11_at_0 rfl ?_
  refine y_iconst dX11_at_1 ?_
  refine y_icmp_eq dX11_at_2 (by omega) (by omega) (fun c_2 => ?_) (fun c_2 => ?_)
  · have hr1 : r = -1 := c_2
    refine z_iload_n dX11_at_16 rfl ?_
    refine y_iconst dX11_at_17 ?_
    refine y_icmp_ne dX11_at_18 (by omega) (by omega) (fun c_18 => ?_) (fun c_18 => ?_)
    · have hnr := n1 r (by omega) (by omega)
      refine y_bipush dX11_at_25 (by decide +kernel) ?_
      refine y_bipush dX11_at_27 (by decide +kernel) ?_
      refine z_iload_n dX11_at_29 rfl ?_
      refine y_imul dX11_at_30 ?_
      refine y_iadd dX11_at_31 ?_
      refine z_istore_n dX11_at_32 (by decide) rfl rfl ?_
      refine z_iload_n dX11_at_33 rfl ?_
      refine y_iconst dX11_at_34 ?_
      refine y_icmp_ne dX11_at_35 (by omega) (by omega) (fun c_35 => ?_) (fun c_35 => ?_)
      · have hq : r ≠ -1 := c_35
        refine z_aload_n dX11_at_47 rfl ?_
        refine y_getR fX11_16 dX11_at_48 (by first | assumption | rfl) (by first | assumption | rfl) ?_
        refine y_bipush dX11_at_51 (by decide +kernel) ?_
        refine z_iload_n dX11_at_53 rfl ?_
        refine y_iadd dX11_at_54 ?_
        refine y_iald dX11_at_55 (by first | assumption | rfl) (by first | rfl | assumption) (by omega) ?_
        refine z_istore dX11_at_56 (by decide) rfl rfl ?_
        refine z_iload_n dX11_at_58 rfl ?_
        refine y_i2l dX11_at_59 (by omega) ?_
        refine y_lconst (v := 0) dX11_at_60 (by decide +kernel) ?_
        refine z_iload dX11_at_61 rfl ?_
        refine y_iconst dX11_at_63 ?_
        refine y_isub dX11_at_64 ?_
        refine y_i2l dX11_at_65 (by omega) ?_
        refine y_callSr (ct_X11_in (by omega) (by omega) (by omega)) kX11_101 dX11_at_66 rfl rfl (by decide) rfl (Nat.le_of_ble_eq_true rfl) (fun r_66 h_66 => ?_)
        refine y_if_eq dX11_at_69 (by omega) (fun c_69 => ?_) (fun c_69 => ?_)
        · refine y_iconst dX11_at_83 ?_
          exact z_iret dX11_at_84 rfl (Nat.le_refl 0) (Nat.le_refl 0) ⟨_, rfl, rfl, Or.inr ⟨by omega, by unfold atM; first | (rw [if_pos (by omega), if_pos (by omega)]; done) | (rw [if_pos (by omega), if_neg (by omega)]; done) | (rw [if_neg (by omega), if_pos (by omega)]; done) | (rw [if_neg (by omega), if_neg (by omega)]; done)⟩⟩
        · refine z_aload_n dX11_at_72 rfl ?_
          refine y_getR fX11_16 dX11_at_73 (by first | assumption | rfl) (by first | assumption | rfl) ?_
          refine z_iload_n dX11_at_76 rfl ?_
          refine z_iload_n dX11_at_77 rfl ?_
          refine y_iadd dX11_at_78 ?_
          refine y_iald dX11_at_79 (by first | assumption | rfl) (by first | rfl | assumption) (by omega) ?_
          refine z_goto dX11_at_80 ?_
          exact z_iret dX11_at_84 rfl (Nat.le_refl 0) (Nat.le_refl 0) ⟨_, rfl, rfl, Or.inr ⟨by omega, by unfold atM; first | (rw [if_pos (by omega), if_pos (by omega)]; done) | (rw [if_pos (by omega), if_neg (by omega)]; done) | (rw [if_neg (by omega), if_pos (by omega)]; done) | (rw [if_neg (by omega), if_neg (by omega)]; done)⟩⟩
      · refine z_aload_n dX11_at_38 rfl ?_
        refine y_getR fX11_16 dX11_at_39 (by first | assumption | rfl) (by first | assumption | rfl) ?_
        refine y_iconst dX11_at_42 ?_
        refine y_iald dX11_at_43 (by first | assumption | rfl) (by first | rfl | assumption) (by omega) ?_
        refine z_goto dX11_at_44 ?_
        refine z_istore dX11_at_56 (by decide) rfl rfl ?_
        refine z_iload_n dX11_at_58 rfl ?_
        refine y_i2l dX11_at_59 (by omega) ?_
        refine y_lconst (v := 0) dX11_at_60 (by decide +kernel) ?_
        refine z_iload dX11_at_61 rfl ?_
        refine y_iconst dX11_at_63 ?_
        refine y_isub dX11_at_64 ?_
        refine y_i2l dX11_at_65 (by omega) ?_
        refine y_callSr (ct_X11_in (by omega) (by omega) (by omega)) kX11_101 dX11_at_66 rfl rfl (by decide) rfl (Nat.le_of_ble_eq_true rfl) (fun r_66 h_66 => ?_)
        refine y_if_eq dX11_at_69 (by omega) (fun c_69 => ?_) (fun c_69 => ?_)
        · refine y_iconst dX11_at_83 ?_
          exact z_iret dX11_at_84 rfl (Nat.le_refl 0) (Nat.le_refl 0) ⟨_, rfl, rfl, Or.inr ⟨by omega, by unfold atM; first | (rw [if_pos (by omega), if_pos (by omega)]; done) | (rw [if_pos (by omega), if_neg (by omega)]; done) | (rw [if_neg (by omega), if_pos (by omega)]; done) | (rw [if_neg (by omega), if_neg (by omega)]; done)⟩⟩
        · refine z_aload_n dX11_at_72 rfl ?_
          refine y_getR fX11_16 dX11_at_73 (by first | assumption | rfl) (by first | assumption | rfl) ?_
          refine z_iload_n dX11_at_76 rfl ?_
          refine z_iload_n dX11_at_77 rfl ?_
          refine y_iadd dX11_at_78 ?_
          refine y_iald dX11_at_79 (by first | assumption | rfl) (by first | rfl | assumption) (by omega) ?_
          refine z_goto dX11_at_80 ?_
          exact z_iret dX11_at_84 rfl (Nat.le_refl 0) (Nat.le_refl 0) ⟨_, rfl, rfl, Or.inr ⟨by omega, by unfold atM; first | (rw [if_pos (by omega), if_pos (by omega)]; done) | (rw [if_pos (by omega), if_neg (by omega)]; done) | (rw [if_neg (by omega), if_pos (by omega)]; done) | (rw [if_neg (by omega), if_neg (by omega)]; done)⟩⟩
    · refine y_iconst dX11_at_21 ?_
      refine z_goto dX11_at_22 ?_
      refine z_istore_n dX11_at_32 (by decide) rfl rfl ?_
      refine z_iload_n dX11_at_33 rfl ?_
      refine y_iconst dX11_at_34 ?_
      refine y_icmp_ne dX11_at_35 (by omega) (by omega) (fun c_35 => ?_) (fun c_35 => ?_)
      · have hq : r ≠ -1 := c_35
        refine z_aload_n dX11_at_47 rfl ?_
        refine y_getR fX11_16 dX11_at_48 (by first | assumption | rfl) (by first | assumption | rfl) ?_
        refine y_bipush dX11_at_51 (by decide +kernel) ?_
        refine z_iload_n dX11_at_53 rfl ?_
        refine y_iadd dX11_at_54 ?_
        refine y_iald dX11_at_55 (by first | assumption | rfl) (by first | rfl | assumption) (by omega) ?_
        refine z_istore dX11_at_56 (by decide) rfl rfl ?_
        refine z_iload_n dX11_at_58 rfl ?_
        refine y_i2l dX11_at_59 (by omega) ?_
        refine y_lconst (v := 0) dX11_at_60 (by decide +kernel) ?_
        refine z_iload dX11_at_61 rfl ?_
        refine y_iconst dX11_at_63 ?_
        refine y_isub dX11_at_64 ?_
        refine y_i2l dX11_at_65 (by omega) ?_
        refine y_callSr (ct_X11_in (by omega) (by omega) (by omega)) kX11_101 dX11_at_66 rfl rfl (by decide) rfl (Nat.le_of_ble_eq_true rfl) (fun r_66 h_66 => ?_)
        refine y_if_eq dX11_at_69 (by omega) (fun c_69 => ?_) (fun c_69 => ?_)
        · refine y_iconst dX11_at_83 ?_
          exact z_iret dX11_at_84 rfl (Nat.le_refl 0) (Nat.le_refl 0) ⟨_, rfl, rfl, Or.inr ⟨by omega, by unfold atM; first | (rw [if_pos (by omega), if_pos (by omega)]; done) | (rw [if_pos (by omega), if_neg (by omega)]; done) | (rw [if_neg (by omega), if_pos (by omega)]; done) | (rw [if_neg (by omega), if_neg (by omega)]; done)⟩⟩
        · refine z_aload_n dX11_at_72 rfl ?_
          refine y_getR fX11_16 dX11_at_73 (by first | assumption | rfl) (by first | assumption | rfl) ?_
          refine z_iload_n dX11_at_76 rfl ?_
          refine z_iload_n dX11_at_77 rfl ?_
          refine y_iadd dX11_at_78 ?_
          refine y_iald dX11_at_79 (by first | assumption | rfl) (by first | rfl | assumption) (by omega) ?_
          refine z_goto dX11_at_80 ?_
          exact z_iret dX11_at_84 rfl (Nat.le_refl 0) (Nat.le_refl 0) ⟨_, rfl, rfl, Or.inr ⟨by omega, by unfold atM; first | (rw [if_pos (by omega), if_pos (by omega)]; done) | (rw [if_pos (by omega), if_neg (by omega)]; done) | (rw [if_neg (by omega), if_pos (by omega)]; done) | (rw [if_neg (by omega), if_neg (by omega)]; done)⟩⟩
      · refine z_aload_n dX11_at_38 rfl ?_
        refine y_getR fX11_16 dX11_at_39 (by first | assumption | rfl) (by first | assumption | rfl) ?_
        refine y_iconst dX11_at_42 ?_
        refine y_iald dX11_at_43 (by first | assumption | rfl) (by first | rfl | assumption) (by omega) ?_
        refine z_goto dX11_at_44 ?_
        refine z_istore dX11_at_56 (by decide) rfl rfl ?_
        refine z_iload_n dX11_at_58 rfl ?_
        refine y_i2l dX11_at_59 (by omega) ?_
        refine y_lconst (v := 0) dX11_at_60 (by decide +kernel) ?_
        refine z_iload dX11_at_61 rfl ?_
        refine y_iconst dX11_at_63 ?_
        refine y_isub dX11_at_64 ?_
        refine y_i2l dX11_at_65 (by omega) ?_
        refine y_callSr (ct_X11_in (by omega) (by omega) (by omega)) kX11_101 dX11_at_66 rfl rfl (by decide) rfl (Nat.le_of_ble_eq_true rfl) (fun r_66 h_66 => ?_)
        refine y_if_eq dX11_at_69 (by omega) (fun c_69 => ?_) (fun c_69 => ?_)
        · refine y_iconst dX11_at_83 ?_
          exact z_iret dX11_at_84 rfl (Nat.le_refl 0) (Nat.le_refl 0) ⟨_, rfl, rfl, Or.inr ⟨by omega, by unfold atM; first | (rw [if_pos (by omega), if_pos (by omega)]; done) | (rw [if_pos (by omega), if_neg (by omega)]; done) | (rw [if_neg (by omega), if_pos (by omega)]; done) | (rw [if_neg (by omega), if_neg (by omega)]; done)⟩⟩
        · refine z_aload_n dX11_at_72 rfl ?_
          refine y_getR fX11_16 dX11_at_73 (by first | assumption | rfl) (by first | assumption | rfl) ?_
          refine z_iload_n dX11_at_76 rfl ?_
          refine z_iload_n dX11_at_77 rfl ?_
          refine y_iadd dX11_at_78 ?_
          refine y_iald dX11_at_79 (by first | assumption | rfl) (by first | rfl | assumption) (by omega) ?_
          refine z_goto dX11_at_80 ?_
          exact z_iret dX11_at_84 rfl (Nat.le_refl 0) (Nat.le_refl 0) ⟨_, rfl, rfl, Or.inr ⟨by omega, by unfold atM; first | (rw [if_pos (by omega), if_pos (by omega)]; done) | (rw [if_pos (by omega), if_neg (by omega)]; done) | (rw [if_neg (by omega), if_pos (by omega)]; done) | (rw [if_neg (by omega), if_neg (by omega)]; done)⟩⟩
  · refine z_aload_n dX11_at_5 rfl ?_
    refine z_iload_n dX11_at_6 rfl ?_
    refine y_callVr (ct_X11_isRoad (by omega) (by omega)) kX11_187 dX11_at_7 rfl rfl (by first | assumption | rfl) rfl (by decide) rfl (Nat.le_of_ble_eq_true rfl) (fun r_7 h_7 => ?_)
    refine y_if_ne dX11_at_10 (by omega) (fun c_10 => ?_) (fun c_10 => ?_)
    · refine z_iload_n dX11_at_16 rfl ?_
      refine y_iconst dX11_at_17 ?_
      refine y_icmp_ne dX11_at_18 (by omega) (by omega) (fun c_18 => ?_) (fun c_18 => ?_)
      · have hnr := n1 r (by omega) (by omega)
        refine y_bipush dX11_at_25 (by decide +kernel) ?_
        refine y_bipush dX11_at_27 (by decide +kernel) ?_
        refine z_iload_n dX11_at_29 rfl ?_
        refine y_imul dX11_at_30 ?_
        refine y_iadd dX11_at_31 ?_
        refine z_istore_n dX11_at_32 (by decide) rfl rfl ?_
        refine z_iload_n dX11_at_33 rfl ?_
        refine y_iconst dX11_at_34 ?_
        refine y_icmp_ne dX11_at_35 (by omega) (by omega) (fun c_35 => ?_) (fun c_35 => ?_)
        · have hq : r ≠ -1 := c_35
          refine z_aload_n dX11_at_47 rfl ?_
          refine y_getR fX11_16 dX11_at_48 (by first | assumption | rfl) (by first | assumption | rfl) ?_
          refine y_bipush dX11_at_51 (by decide +kernel) ?_
          refine z_iload_n dX11_at_53 rfl ?_
          refine y_iadd dX11_at_54 ?_
          refine y_iald dX11_at_55 (by first | assumption | rfl) (by first | rfl | assumption) (by omega) ?_
          refine z_istore dX11_at_56 (by decide) rfl rfl ?_
          refine z_iload_n dX11_at_58 rfl ?_
          refine y_i2l dX11_at_59 (by omega) ?_
          refine y_lconst (v := 0) dX11_at_60 (by decide +kernel) ?_
          refine z_iload dX11_at_61 rfl ?_
          refine y_iconst dX11_at_63 ?_
          refine y_isub dX11_at_64 ?_
          refine y_i2l dX11_at_65 (by omega) ?_
          refine y_callSr (ct_X11_in (by omega) (by omega) (by omega)) kX11_101 dX11_at_66 rfl rfl (by decide) rfl (Nat.le_of_ble_eq_true rfl) (fun r_66 h_66 => ?_)
          refine y_if_eq dX11_at_69 (by omega) (fun c_69 => ?_) (fun c_69 => ?_)
          · refine y_iconst dX11_at_83 ?_
            exact z_iret dX11_at_84 rfl (Nat.le_refl 0) (Nat.le_refl 0) ⟨_, rfl, rfl, Or.inr ⟨by omega, by unfold atM; first | (rw [if_pos (by omega), if_pos (by omega)]; done) | (rw [if_pos (by omega), if_neg (by omega)]; done) | (rw [if_neg (by omega), if_pos (by omega)]; done) | (rw [if_neg (by omega), if_neg (by omega)]; done)⟩⟩
          · refine z_aload_n dX11_at_72 rfl ?_
            refine y_getR fX11_16 dX11_at_73 (by first | assumption | rfl) (by first | assumption | rfl) ?_
            refine z_iload_n dX11_at_76 rfl ?_
            refine z_iload_n dX11_at_77 rfl ?_
            refine y_iadd dX11_at_78 ?_
            refine y_iald dX11_at_79 (by first | assumption | rfl) (by first | rfl | assumption) (by omega) ?_
            refine z_goto dX11_at_80 ?_
            exact z_iret dX11_at_84 rfl (Nat.le_refl 0) (Nat.le_refl 0) ⟨_, rfl, rfl, Or.inr ⟨by omega, by unfold atM; first | (rw [if_pos (by omega), if_pos (by omega)]; done) | (rw [if_pos (by omega), if_neg (by omega)]; done) | (rw [if_neg (by omega), if_pos (by omega)]; done) | (rw [if_neg (by omega), if_neg (by omega)]; done)⟩⟩
        · refine z_aload_n dX11_at_38 rfl ?_
          refine y_getR fX11_16 dX11_at_39 (by first | assumption | rfl) (by first | assumption | rfl) ?_
          refine y_iconst dX11_at_42 ?_
          refine y_iald dX11_at_43 (by first | assumption | rfl) (by first | rfl | assumption) (by omega) ?_
          refine z_goto dX11_at_44 ?_
          refine z_istore dX11_at_56 (by decide) rfl rfl ?_
          refine z_iload_n dX11_at_58 rfl ?_
          refine y_i2l dX11_at_59 (by omega) ?_
          refine y_lconst (v := 0) dX11_at_60 (by decide +kernel) ?_
          refine z_iload dX11_at_61 rfl ?_
          refine y_iconst dX11_at_63 ?_
          refine y_isub dX11_at_64 ?_
          refine y_i2l dX11_at_65 (by omega) ?_
          refine y_callSr (ct_X11_in (by omega) (by omega) (by omega)) kX11_101 dX11_at_66 rfl rfl (by decide) rfl (Nat.le_of_ble_eq_true rfl) (fun r_66 h_66 => ?_)
          refine y_if_eq dX11_at_69 (by omega) (fun c_69 => ?_) (fun c_69 => ?_)
          · refine y_iconst dX11_at_83 ?_
            exact z_iret dX11_at_84 rfl (Nat.le_refl 0) (Nat.le_refl 0) ⟨_, rfl, rfl, Or.inr ⟨by omega, by unfold atM; first | (rw [if_pos (by omega), if_pos (by omega)]; done) | (rw [if_pos (by omega), if_neg (by omega)]; done) | (rw [if_neg (by omega), if_pos (by omega)]; done) | (rw [if_neg (by omega), if_neg (by omega)]; done)⟩⟩
          · refine z_aload_n dX11_at_72 rfl ?_
            refine y_getR fX11_16 dX11_at_73 (by first | assumption | rfl) (by first | assumption | rfl) ?_
            refine z_iload_n dX11_at_76 rfl ?_
            refine z_iload_n dX11_at_77 rfl ?_
            refine y_iadd dX11_at_78 ?_
            refine y_iald dX11_at_79 (by first | assumption | rfl) (by first | rfl | assumption) (by omega) ?_
            refine z_goto dX11_at_80 ?_
            exact z_iret dX11_at_84 rfl (Nat.le_refl 0) (Nat.le_refl 0) ⟨_, rfl, rfl, Or.inr ⟨by omega, by unfold atM; first | (rw [if_pos (by omega), if_pos (by omega)]; done) | (rw [if_pos (by omega), if_neg (by omega)]; done) | (rw [if_neg (by omega), if_pos (by omega)]; done) | (rw [if_neg (by omega), if_neg (by omega)]; done)⟩⟩
      · refine y_iconst dX11_at_21 ?_
        refine z_goto dX11_at_22 ?_
        refine z_istore_n dX11_at_32 (by decide) rfl rfl ?_
        refine z_iload_n dX11_at_33 rfl ?_
        refine y_iconst dX11_at_34 ?_
        refine y_icmp_ne dX11_at_35 (by omega) (by omega) (fun c_35 => ?_) (fun c_35 => ?_)
        · have hq : r ≠ -1 := c_35
          refine z_aload_n dX11_at_47 rfl ?_
          refine y_getR fX11_16 dX11_at_48 (by first | assumption | rfl) (by first | assumption | rfl) ?_
          refine y_bipush dX11_at_51 (by decide +kernel) ?_
          refine z_iload_n dX11_at_53 rfl ?_
          refine y_iadd dX11_at_54 ?_
          refine y_iald dX11_at_55 (by first | assumption | rfl) (by first | rfl | assumption) (by omega) ?_
          refine z_istore dX11_at_56 (by decide) rfl rfl ?_
          refine z_iload_n dX11_at_58 rfl ?_
          refine y_i2l dX11_at_59 (by omega) ?_
          refine y_lconst (v := 0) dX11_at_60 (by decide +kernel) ?_
          refine z_iload dX11_at_61 rfl ?_
          refine y_iconst dX11_at_63 ?_
          refine y_isub dX11_at_64 ?_
          refine y_i2l dX11_at_65 (by omega) ?_
          refine y_callSr (ct_X11_in (by omega) (by omega) (by omega)) kX11_101 dX11_at_66 rfl rfl (by decide) rfl (Nat.le_of_ble_eq_true rfl) (fun r_66 h_66 => ?_)
          refine y_if_eq dX11_at_69 (by omega) (fun c_69 => ?_) (fun c_69 => ?_)
          · refine y_iconst dX11_at_83 ?_
            exact z_iret dX11_at_84 rfl (Nat.le_refl 0) (Nat.le_refl 0) ⟨_, rfl, rfl, Or.inr ⟨by omega, by unfold atM; first | (rw [if_pos (by omega), if_pos (by omega)]; done) | (rw [if_pos (by omega), if_neg (by omega)]; done) | (rw [if_neg (by omega), if_pos (by omega)]; done) | (rw [if_neg (by omega), if_neg (by omega)]; done)⟩⟩
          · refine z_aload_n dX11_at_72 rfl ?_
            refine y_getR fX11_16 dX11_at_73 (by first | assumption | rfl) (by first | assumption | rfl) ?_
            refine z_iload_n dX11_at_76 rfl ?_
            refine z_iload_n dX11_at_77 rfl ?_
            refine y_iadd dX11_at_78 ?_
            refine y_iald dX11_at_79 (by first | assumption | rfl) (by first | rfl | assumption) (by omega) ?_
            refine z_goto dX11_at_80 ?_
            exact z_iret dX11_at_84 rfl (Nat.le_refl 0) (Nat.le_refl 0) ⟨_, rfl, rfl, Or.inr ⟨by omega, by unfold atM; first | (rw [if_pos (by omega), if_pos (by omega)]; done) | (rw [if_pos (by omega), if_neg (by omega)]; done) | (rw [if_neg (by omega), if_pos (by omega)]; done) | (rw [if_neg (by omega), if_neg (by omega)]; done)⟩⟩
        · refine z_aload_n dX11_at_38 rfl ?_
          refine y_getR fX11_16 dX11_at_39 (by first | assumption | rfl) (by first | assumption | rfl) ?_
          refine y_iconst dX11_at_42 ?_
          refine y_iald dX11_at_43 (by first | assumption | rfl) (by first | rfl | assumption) (by omega) ?_
          refine z_goto dX11_at_44 ?_
          refine z_istore dX11_at_56 (by decide) rfl rfl ?_
          refine z_iload_n dX11_at_58 rfl ?_
          refine y_i2l dX11_at_59 (by omega) ?_
          refine y_lconst (v := 0) dX11_at_60 (by decide +kernel) ?_
          refine z_iload dX11_at_61 rfl ?_
          refine y_iconst dX11_at_63 ?_
          refine y_isub dX11_at_64 ?_
          refine y_i2l dX11_at_65 (by omega) ?_
          refine y_callSr (ct_X11_in (by omega) (by omega) (by omega)) kX11_101 dX11_at_66 rfl rfl (by decide) rfl (Nat.le_of_ble_eq_true rfl) (fun r_66 h_66 => ?_)
          refine y_if_eq dX11_at_69 (by omega) (fun c_69 => ?_) (fun c_69 => ?_)
          · refine y_iconst dX11_at_83 ?_
            exact z_iret dX11_at_84 rfl (Nat.le_refl 0) (Nat.le_refl 0) ⟨_, rfl, rfl, Or.inr ⟨by omega, by unfold atM; first | (rw [if_pos (by omega), if_pos (by omega)]; done) | (rw [if_pos (by omega), if_neg (by omega)]; done) | (rw [if_neg (by omega), if_pos (by omega)]; done) | (rw [if_neg (by omega), if_neg (by omega)]; done)⟩⟩
          · refine z_aload_n dX11_at_72 rfl ?_
            refine y_getR fX11_16 dX11_at_73 (by first | assumption | rfl) (by first | assumption | rfl) ?_
            refine z_iload_n dX11_at_76 rfl ?_
            refine z_iload_n dX11_at_77 rfl ?_
            refine y_iadd dX11_at_78 ?_
            refine y_iald dX11_at_79 (by first | assumption | rfl) (by first | rfl | assumption) (by omega) ?_
            refine z_goto dX11_at_80 ?_
            exact z_iret dX11_at_84 rfl (Nat.le_refl 0) (Nat.le_refl 0) ⟨_, rfl, rfl, Or.inr ⟨by omega, by unfold atM; first | (rw [if_pos (by omega), if_pos (by omega)]; done) | (rw [if_pos (by omega), if_neg (by omega)]; done) | (rw [if_neg (by omega), if_pos (by omega)]; done) | (rw [if_neg (by omega), if_neg (by omega)]; done)⟩⟩
    · refine y_ldc (n := -1000000001) dX11_at_13 cX11_179 (by decide +kernel) ?_
      exact z_iret dX11_at_15 rfl (Nat.le_refl 0) (Nat.le_refl 0) ⟨_, rfl, rfl, Or.inl ⟨by omega, rfl⟩⟩
/-- 1: kind a will not stand ahead of kind c -/
def enI (Y : Int → Int) (a c : Int) : Int := if a ≠ 4 ∧ c ≠ 4 ∧ tb (Y (27 + a)) c = true then 1 else 0
theorem enI_01 (Y : Int → Int) (a c : Int) : enI Y a c = 0 ∨ enI Y a c = 1 := by unfold enI; split <;> simp
theorem ct_X11_areEnemies {a c : Int} (ha : 0 ≤ a ∧ a ≤ 4) (hc : 0 ≤ c ∧ c ≤ 4) (hM : MS V) : yC 2 mX11_areEnemies [.ref 134, .int (iI a), .int (iI c)] V b (pR b V (fun q => q = enI (V 135) a c)) := by
  obtain ⟨m0, m1, m2, m3, m4⟩ := id hM
  have ha3 := m3 (27 + a) (by omega) (by omega)
  refine zC_of (by decide +kernel) (Nat.le_of_ble_eq_true rfl) rfl ?_
  refine z_iload_n dX11_areEnemies_0 rfl ?_
  refine y_iconst dX11_areEnemies_1 ?_
  refine y_icmp_eq dX11_areEnemies_2 (by omega) (by omega) (fun c_2 => ?_) (fun c_2 => ?_)
  · refine y_iconst dX11_areEnemies_30 ?_
    exact y_zret dX11_areEnemies_31 rfl (by omega) (Nat.le_refl 0) (Nat.le_refl 0) ⟨_, rfl, rfl, by unfold enI; simp_all⟩
  · refine z_iload_n dX11_areEnemies_5 rfl ?_
    refine y_iconst dX11_areEnemies_6 ?_
    refine y_icmp_eq dX11_areEnemies_7 (by omega) (by omega) (fun c_7 => ?_) (fun c_7 => ?_)
    · refine y_iconst dX11_areEnemies_30 ?_
      exact y_zret dX11_areEnemies_31 rfl (by omega) (Nat.le_refl 0) (Nat.le_refl 0) ⟨_, rfl, rfl, by unfold enI; simp_all⟩
    · refine z_aload_n dX11_areEnemies_10 rfl ?_
      refine y_getR fX11_7 dX11_areEnemies_11 (by first | assumption | rfl) (by first | assumption | rfl) ?_
      refine y_bipush dX11_areEnemies_14 (by decide +kernel) ?_
      refine z_iload_n dX11_areEnemies_16 rfl ?_
      refine y_iadd dX11_areEnemies_17 ?_
      refine y_iald dX11_areEnemies_18 (by first | assumption | rfl) (by first | rfl | assumption) (by omega) ?_
      refine z_iload_n dX11_areEnemies_19 rfl ?_
      refine y_callSr (ct_X11_has (by omega) (by omega)) kX11_151 dX11_areEnemies_20 rfl rfl (by decide) rfl (Nat.le_of_ble_eq_true rfl) (fun r_20 h_20 => ?_)
      have h01 : r_20 = 0 ∨ r_20 = 1 := by rw [h_20]; split <;> simp
      refine y_if_eq dX11_areEnemies_23 (by omega) (fun c_23 => ?_) (fun c_23 => ?_)
      · have ht : tb (V 135 (27 + a)) c = false := by cases h9 : tb (V 135 (27 + a)) c with | false => rfl | true => rw [h9] at h_20; simp at h_20; omega
        refine y_iconst dX11_areEnemies_30 ?_
        exact y_zret dX11_areEnemies_31 rfl (by omega) (Nat.le_refl 0) (Nat.le_refl 0) ⟨_, rfl, rfl, by unfold enI; simp_all⟩
      · have ht : tb (V 135 (27 + a)) c = true := by cases h9 : tb (V 135 (27 + a)) c with | true => rfl | false => rw [h9] at h_20; simp at h_20; omega
        refine y_iconst dX11_areEnemies_26 ?_
        refine z_goto dX11_areEnemies_27 ?_
        exact y_zret dX11_areEnemies_31 rfl (by omega) (Nat.le_refl 0) (Nat.le_refl 0) ⟨_, rfl, rfl, by unfold enI; simp_all⟩
theorem ct_X11_enemies {a c : Int} (ha : rg a) (hc : rg c) (hM : MS V) : yC 3 mX11_enemies [.ref 134, .int (iI a), .int (iI c)] V b (pR b V (fun q => (¬ (0 ≤ a ∧ a ≤ 4 ∧ 0 ≤ c ∧ c ≤ 4) ∧ q = -1000000001) ∨ ((0 ≤ a ∧ a ≤ 4 ∧ 0 ≤ c ∧ c ≤ 4) ∧ q = enI (V 135) a c))) := by
  have h01 := enI_01 (V 135) a c
  refine zC_of (by decide +kernel) (Nat.le_of_ble_eq_true rfl) rfl ?_
  refine z_iload_n dX11_enemies_0 rfl ?_
  refine y_callSr (ct_X11_isKind (by omega)) kX11_190 dX11_enemies_1 rfl rfl (by decide) rfl (Nat.le_of_ble_eq_true rfl) (fun r_1 h_1 => ?_)
  refine y_if_eq dX11_enemies_4 (by omega) (fun c_4 => ?_) (fun c_4 => ?_)
  · refine y_ldc (n := -1000000001) dX11_enemies_14 cX11_179 (by decide +kernel) ?_
    refine z_goto dX11_enemies_16 ?_
    exact z_iret dX11_enemies_33 rfl (Nat.le_refl 0) (Nat.le_refl 0) ⟨_, rfl, rfl, by omega⟩
  · refine z_iload_n dX11_enemies_7 rfl ?_
    refine y_callSr (ct_X11_isKind (by omega)) kX11_190 dX11_enemies_8 rfl rfl (by decide) rfl (Nat.le_of_ble_eq_true rfl) (fun r_8 h_8 => ?_)
    refine y_if_ne dX11_enemies_11 (by omega) (fun c_11 => ?_) (fun c_11 => ?_)
    · refine z_aload_n dX11_enemies_19 rfl ?_
      refine z_iload_n dX11_enemies_20 rfl ?_
      refine z_iload_n dX11_enemies_21 rfl ?_
      refine y_callVr (ct_X11_areEnemies (by omega) (by omega) (by assumption)) kX11_193 dX11_enemies_22 rfl rfl (by first | assumption | rfl) rfl (by decide) rfl (Nat.le_of_ble_eq_true rfl) (fun r_22 h_22 => ?_)
      refine y_if_eq dX11_enemies_25 (by omega) (fun c_25 => ?_) (fun c_25 => ?_)
      · refine y_iconst dX11_enemies_32 ?_
        exact z_iret dX11_enemies_33 rfl (Nat.le_refl 0) (Nat.le_refl 0) ⟨_, rfl, rfl, by omega⟩
      · refine y_iconst dX11_enemies_28 ?_
        refine z_goto dX11_enemies_29 ?_
        exact z_iret dX11_enemies_33 rfl (Nat.le_refl 0) (Nat.le_refl 0) ⟨_, rfl, rfl, by omega⟩
    · refine y_ldc (n := -1000000001) dX11_enemies_14 cX11_179 (by decide +kernel) ?_
      refine z_goto dX11_enemies_16 ?_
      exact z_iret dX11_enemies_33 rfl (Nat.le_refl 0) (Nat.le_refl 0) ⟨_, rfl, rfl, by omega⟩
theorem ct_X11_kick {d o : Int} (hd : 0 ≤ d ∧ d ≤ 6) (ho : 0 ≤ o ∧ o ≤ 6) (hM : MS V) : yC 3 mX11_kick [.ref 134, .int (iI d), .int (iI o)] V b (pR b V (fun q => q = enI (V 135) (V 135 (6 + d)) (V 135 (6 + o)))) := by
  obtain ⟨m0, m1, m2, m3, m4⟩ := id hM
  have k1 := m2 (6 + d) (by omega) (by omega)
  have k2 := m2 (6 + o) (by omega) (by omega)
  have h01 := enI_01 (V 135) (V 135 (6 + d)) (V 135 (6 + o))
  refine zC_of (by decide +kernel) (Nat.le_of_ble_eq_true rfl) rfl ?_
  refine z_aload_n dX11_kick_0 rfl ?_
  refine z_aload_n dX11_kick_1 rfl ?_
  refine y_getR fX11_7 dX11_kick_2 (by first | assumption | rfl) (by first | assumption | rfl) ?_
  refine y_bipush dX11_kick_5 (by decide +kernel) ?_
  refine z_iload_n dX11_kick_7 rfl ?_
  refine y_iadd dX11_kick_8 ?_
  refine y_iald dX11_kick_9 (by first | assumption | rfl) (by first | rfl | assumption) (by omega) ?_
  refine z_aload_n dX11_kick_10 rfl ?_
  refine y_getR fX11_7 dX11_kick_11 (by first | assumption | rfl) (by first | assumption | rfl) ?_
  refine y_bipush dX11_kick_14 (by decide +kernel) ?_
  refine z_iload_n dX11_kick_16 rfl ?_
  refine y_iadd dX11_kick_17 ?_
  refine y_iald dX11_kick_18 (by first | assumption | rfl) (by first | rfl | assumption) (by omega) ?_
  refine y_callVr (ct_X11_areEnemies (by omega) (by omega) (by assumption)) kX11_193 dX11_kick_19 rfl rfl (by first | assumption | rfl) rfl (by decide) rfl (Nat.le_of_ble_eq_true rfl) (fun r_19 h_19 => ?_)
  exact y_zret dX11_kick_22 rfl (by omega) (Nat.le_refl 0) (Nat.le_refl 0) ⟨_, rfl, rfl, by omega⟩
theorem ct_X11_mayCut {k r : Int} (hk : 0 ≤ k ∧ k ≤ 7) (hr : 0 ≤ r ∧ r < V 135 0) (hM : MS V) (hN : NS V) : yC 1 mX11_mayCut [.ref 134, .int (iI k), .int (iI r)] V b (pR b V (fun q => ((k ≤ V 137 0 ∧ V 137 (8 + r) + k ≤ V 135 (1 + r)) ∧ q = 1) ∨ (¬ (k ≤ V 137 0 ∧ V 137 (8 + r) + k ≤ V 135 (1 + r)) ∧ q = 0))) := by
  obtain ⟨m0, m1, m2, m3, m4⟩ := id hM
  obtain ⟨n0, n1, n2, n3, n4⟩ := id hN
  have mr := m4 r (by omega) (by omega)
  have nr := n1 r (by omega) (by omega)
  refine zC_of (by decide +kernel) (Nat.le_of_ble_eq_true rfl) rfl ?_
  refine z_aload_n dX11_mayCut_0 rfl ?_
  refine y_getR fX11_16 dX11_mayCut_1 (by first | assumption | rfl) (by first | assumption | rfl) ?_
  refine y_iconst dX11_mayCut_4 ?_
  refine y_iald dX11_mayCut_5 (by first | assumption | rfl) (by first | rfl | assumption) (by omega) ?_
  refine z_iload_n dX11_mayCut_6 rfl ?_
  refine y_icmp_lt dX11_mayCut_7 (by omega) (by omega) (fun c_7 => ?_) (fun c_7 => ?_)
  · refine y_iconst dX11_mayCut_36 ?_
    exact y_zret dX11_mayCut_37 rfl (by omega) (Nat.le_refl 0) (Nat.le_refl 0) ⟨_, rfl, rfl, by omega⟩
  · refine z_aload_n dX11_mayCut_10 rfl ?_
    refine y_getR fX11_16 dX11_mayCut_11 (by first | assumption | rfl) (by first | assumption | rfl) ?_
    refine y_bipush dX11_mayCut_14 (by decide +kernel) ?_
    refine z_iload_n dX11_mayCut_16 rfl ?_
    refine y_iadd dX11_mayCut_17 ?_
    refine y_iald dX11_mayCut_18 (by first | assumption | rfl) (by first | rfl | assumption) (by omega) ?_
    refine z_iload_n dX11_mayCut_19 rfl ?_
    refine y_iadd dX11_mayCut_20 ?_
    refine z_aload_n dX11_mayCut_21 rfl ?_
    refine y_getR fX11_7 dX11_mayCut_22 (by first | assumption | rfl) (by first | assumption | rfl) ?_
    refine y_iconst dX11_mayCut_25 ?_
    refine z_iload_n dX11_mayCut_26 rfl ?_
    refine y_iadd dX11_mayCut_27 ?_
    refine y_iald dX11_mayCut_28 (by first | assumption | rfl) (by first | rfl | assumption) (by omega) ?_
    refine y_icmp_gt dX11_mayCut_29 (by omega) (by omega) (fun c_29 => ?_) (fun c_29 => ?_)
    · refine y_iconst dX11_mayCut_36 ?_
      exact y_zret dX11_mayCut_37 rfl (by omega) (Nat.le_refl 0) (Nat.le_refl 0) ⟨_, rfl, rfl, by omega⟩
    · refine y_iconst dX11_mayCut_32 ?_
      refine z_goto dX11_mayCut_33 ?_
      exact y_zret dX11_mayCut_37 rfl (by omega) (Nat.le_refl 0) (Nat.le_refl 0) ⟨_, rfl, rfl, by omega⟩
end

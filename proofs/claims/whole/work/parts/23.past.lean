/-! ===== Stand.begin, become; Past; Notes ===== -/
section
variable {V : Nat → Int → Int} {b : Bool} {y : Nat}
/-- 'now' as it begins with n wagons -/
def bgP (V V' : Nat → Int → Int) (n : Int) : Prop := V' 5 4 = n ∧ (∀ l, 0 ≤ l → l ≤ 3 → V' 5 l = 0) ∧ (∀ j, 0 ≤ j → j < n → V' 4 (28 + j) = n - 1 - j) ∧ (∀ l, 0 ≤ l → l ≤ 4 → V' 6 l = 0) ∧ V' 3 3 = 0 ∧ V' 3 4 = 0 ∧ V' 3 5 = -1 ∧ cN V' ∧ wN V' ∧ (∀ i, 0 ≤ V' 6 i ∧ V' 6 i ≤ 127) ∧ ∀ a, a ≠ 3 → a ≠ 4 → a ≠ 5 → a ≠ 6 → V' a = V a
theorem ifl_in {f : Int → Int} {n x j : Int} (h : 0 ≤ j ∧ j < n) : ifl f n x j = x := by unfold ifl; rw [if_pos h]
theorem ifl_le {f : Int → Int} {n x lo hi : Int} (h : ∀ i, lo ≤ f i ∧ f i ≤ hi) (hx : lo ≤ x ∧ x ≤ hi) : ∀ i, lo ≤ ifl f n x i ∧ ifl f n x i ≤ hi := by
  intro i
  unfold ifl
  split
  · exact hx
  · exact h i
theorem ct_X8_begin {n : Int} (hn : 0 ≤ n ∧ n ≤ 7) (hc : cN V) (hw : wN V) (hp : ∀ i, 0 ≤ V 6 i ∧ V 6 i ≤ 127) : yC 4 mX8_begin [.ref 3, .int (iI n)] V b (pV b (fun V' => bgP V V' n)) := by
  have loop : ∀ (k : Nat) (w : Int) (U : Nat → Int → Int), w + 1 = k → w < n → U 5 4 = n - 1 - w → (∀ l, 0 ≤ l → l ≤ 3 → U 5 l = 0) → (∀ j, 0 ≤ j → j < n - 1 - w → U 4 (28 + j) = n - 1 - j) → (∀ l, 0 ≤ l → l ≤ 4 → U 6 l = 0) → U 3 3 = 0 → U 3 4 = 0 → U 3 5 = -1 → cN U → wN U → (∀ i, 0 ≤ U 6 i ∧ U 6 i ≤ 127) → (∀ a, a ≠ 3 → a ≠ 4 → a ≠ 5 → a ≠ 6 → U a = V a) →
      yE 4 (pV b (fun V' => bgP V V' n)) mX8_begin 35 [some (.ref 3), some (.int (iI n)), some (.int (iI w))] [] U b := by
    intro k
    induction k with
    | zero =>
      intro w U h1 h2 h3 h4 h5 h6 h7 h8 h9 h10 h11 h12 h13
      have hw1 : w = -1 := by omega
      subst hw1
      refine z_iload_n dX8_begin_35 rfl ?_
      refine y_if_lt dX8_begin_36 (by omega) (fun c_36 => ?_) (fun c_36 => ?_)
      · exact z_vret dX8_begin_51 rfl (Nat.le_refl 0) (Nat.le_refl 0) ⟨_, rfl, rfl, by omega, h4, fun j j1 j2 => h5 j j1 (by omega), h6, h7, h8, h9, h10, h11, h12, h13⟩
      · omega
    | succ k ih =>
      intro w U h1 h2 h3 h4 h5 h6 h7 h8 h9 h10 h11 h12 h13
      have c4 := h10 4
      have hih := ih (w + -1) (psh U 4 w) (by omega) (by omega) (by rw [psh_5, iup_s]; omega) (fun l l1 l2 => by rw [psh_5, iup_n (by omega)]; exact h4 l l1 l2) (fun j j1 j2 => by
        rw [psh_4]
        by_cases hj : j = n - 1 - w
        · subst hj
          rw [show (28 : Int) + (n - 1 - w) = 4 * 7 + U 5 4 by omega, iup_s]
          omega
        · rw [iup_n (by omega)]
          exact h5 j j1 (by omega)) (fun l l1 l2 => by rw [psh_o (by decide) (by decide)]; exact h6 l l1 l2) (by rw [psh_o (by decide) (by decide)]; exact h7) (by rw [psh_o (by decide) (by decide)]; exact h8) (by rw [psh_o (by decide) (by decide)]; exact h9) (fun i => by rw [psh_5]; exact iup_le h10 (by omega) i) (fun i => by rw [psh_4]; exact iup_le h11 (by omega) i) (fun i => by rw [psh_o (by decide) (by decide)]; exact h12 i) (fun a a3 a4 a5 a6 => by rw [psh_o a4 a5]; exact h13 a a3 a4 a5 a6)
      refine z_iload_n dX8_begin_35 rfl ?_
      refine y_if_lt dX8_begin_36 (by omega) (fun c_36 => ?_) (fun c_36 => ?_)
      · omega
      · refine z_aload_n dX8_begin_39 rfl ?_
        refine y_iconst dX8_begin_40 ?_
        refine z_iload_n dX8_begin_41 rfl ?_
        refine y_callVv (ct_X8_push (by omega) (by omega)) kX8_37 dX8_begin_42 rfl rfl (by first | assumption | rfl) rfl (by decide) rfl (Nat.le_of_ble_eq_true rfl) (fun V h_42 => ?_)
        subst h_42
        refine y_iinc dX8_begin_45 rfl (by decide) rfl rfl ?_
        refine z_goto dX8_begin_48 ?_
        exact hih
  refine zC_of (by decide +kernel) (Nat.le_of_ble_eq_true rfl) rfl ?_
  refine z_aload_n dX8_begin_0 rfl ?_
  refine y_getR fX8_15 dX8_begin_1 (by first | assumption | rfl) (by first | assumption | rfl) ?_
  refine y_iconst dX8_begin_4 ?_
  refine y_callSv (ct_J7_fill (by first | assumption | rfl) (by decide)) kX8_31 dX8_begin_5 rfl rfl (by decide) rfl (Nat.le_of_ble_eq_true rfl) (fun V h_5 => ?_)
  subst h_5
  refine z_aload_n dX8_begin_8 rfl ?_
  refine y_getR fX8_18 dX8_begin_9 (by first | assumption | rfl) (by first | assumption | rfl) ?_
  refine y_iconst dX8_begin_12 ?_
  refine y_callSv (ct_J7_fill (by first | assumption | rfl) (by decide)) kX8_31 dX8_begin_13 rfl rfl (by decide) rfl (Nat.le_of_ble_eq_true rfl) (fun V h_13 => ?_)
  subst h_13
  refine z_aload_n dX8_begin_16 rfl ?_
  refine y_iconst dX8_begin_17 ?_
  refine y_putI (j := 3) fX8_21 dX8_begin_18 rfl (by first | assumption | rfl) ?_
  refine z_aload_n dX8_begin_21 rfl ?_
  refine y_iconst dX8_begin_22 ?_
  refine y_putI (j := 4) fX8_25 dX8_begin_23 rfl (by first | assumption | rfl) ?_
  refine z_aload_n dX8_begin_26 rfl ?_
  refine y_iconst dX8_begin_27 ?_
  refine y_putI (j := 5) fX8_28 dX8_begin_28 rfl (by first | assumption | rfl) ?_
  refine z_iload_n dX8_begin_31 rfl ?_
  refine y_iconst dX8_begin_32 ?_
  refine y_isub dX8_begin_33 ?_
  refine z_istore_n dX8_begin_34 (by decide) rfl rfl ?_
  refine loop n.toNat (n - 1) _ (by omega) (by omega) ?_ ?_ (fun j j1 j2 => by omega) ?_ ?_ ?_ ?_ ?_ ?_ ?_ ?_
  · simp only [vst_o (show (5 : Nat) ≠ 3 by decide), zup_n _ _ (show (5 : Nat) ≠ 6 by decide), zup_s]
    rw [ifl_in (by omega)]
    omega
  · intro l l1 l2
    simp only [vst_o (show (5 : Nat) ≠ 3 by decide), zup_n _ _ (show (5 : Nat) ≠ 6 by decide), zup_s]
    exact ifl_in (by omega)
  · intro l l1 l2
    simp only [vst_o (show (6 : Nat) ≠ 3 by decide), zup_s]
    exact ifl_in (by omega)
  · rw [vst_n (by decide), vst_n (by decide), vst_s]
  · rw [vst_n (by decide), vst_s]
  · rw [vst_s]
  · intro i
    simp only [vst_o (show (5 : Nat) ≠ 3 by decide), zup_n _ _ (show (5 : Nat) ≠ 6 by decide), zup_s]
    exact ifl_le hc (by omega) i
  · intro i
    simp only [vst_o (show (4 : Nat) ≠ 3 by decide), zup_n _ _ (show (4 : Nat) ≠ 6 by decide), zup_n _ _ (show (4 : Nat) ≠ 5 by decide)]
    exact hw i
  · intro i
    simp only [vst_o (show (6 : Nat) ≠ 3 by decide), zup_s, zup_n _ _ (show (6 : Nat) ≠ 5 by decide)]
    exact ifl_le hp (by omega) i
  · intro a a3 a4 a5 a6
    simp only [vst_o a3, zup_n _ _ a6, zup_n _ _ a5]
/-- the places of Stands -/
def isS (p : Nat) : Prop := p ∈ [3, 90, 95, 9, 13, 17, 21, 25, 29, 33, 37, 41, 45, 49, 53, 57, 61, 65, 69, 73, 77, 81, 85]
theorem sfacts {p : Nat} (h : isS p) (b : Bool) : S0[p]? = some (.inl 8) ∧ S0[p + 1]? = some (.inr (0, 35)) ∧ S0[p + 2]? = some (.inr (0, 5)) ∧ S0[p + 3]? = some (.inr (0, 5)) ∧ Fs b p 0 = some (p + 1) ∧ Fs b p 1 = some (p + 2) ∧ Fs b p 2 = some (p + 3) := by
  simp only [isS, List.mem_cons, List.not_mem_nil, or_false] at h
  rcases h with rfl | rfl | rfl | rfl | rfl | rfl | rfl | rfl | rfl | rfl | rfl | rfl | rfl | rfl | rfl | rfl | rfl | rfl | rfl | rfl | rfl | rfl | rfl <;> exact ⟨rfl, rfl, rfl, rfl, rfl, rfl, rfl⟩
/-- Stand p becomes what Stand q is -/
def bcm (V : Nat → Int → Int) (p q : Nat) : Nat → Int → Int :=
  vst (vst (vst (zup (zup (zup V (p + 1) (icp (V (q + 1)) (V (p + 1)) 0 0 35)) (p + 2) (icp (V (q + 2)) (V (p + 2)) 0 0 5)) (p + 3) (icp (V (q + 3)) (V (p + 3)) 0 0 5)) p 3 (V q 3)) p 4 (V q 4)) p 5 (V q 5)
theorem ct_X8_become {p q : Nat} (hp : isS p) (hq : isS q) (hpq : p + 3 < q ∨ q + 3 < p) : yC 2 mX8_become [.ref p, .ref q] V b (pV b (fun V' => V' = bcm V p q)) := by
  obtain ⟨sp, sp1, sp2, sp3, fp0, fp1, fp2⟩ := sfacts hp b
  obtain ⟨sq, sq1, sq2, sq3, fq0, fq1, fq2⟩ := sfacts hq b
  refine zC_of (by decide +kernel) (Nat.le_of_ble_eq_true rfl) rfl ?_
  refine z_aload_n dX8_become_0 rfl ?_
  refine y_getR fX8_11 dX8_become_1 (by first | assumption | rfl) (by first | assumption | rfl) ?_
  refine y_iconst dX8_become_4 ?_
  refine z_aload_n dX8_become_5 rfl ?_
  refine y_getR fX8_11 dX8_become_6 (by first | assumption | rfl) (by first | assumption | rfl) ?_
  refine y_iconst dX8_become_9 ?_
  refine z_aload_n dX8_become_10 rfl ?_
  refine y_getR fX8_11 dX8_become_11 (by first | assumption | rfl) (by first | assumption | rfl) ?_
  refine y_alen (v := 35) dX8_become_14 (by first | assumption | rfl) rfl ?_
  refine y_copy dX8_become_15 kX8_41 (by first | assumption | rfl) (by first | assumption | rfl) rfl rfl (by omega) (by omega) (by omega) (by omega) (by omega) (by decide +kernel) (by decide +kernel) ?_
  refine z_aload_n dX8_become_18 rfl ?_
  refine y_getR fX8_15 dX8_become_19 (by first | assumption | rfl) (by first | assumption | rfl) ?_
  refine y_iconst dX8_become_22 ?_
  refine z_aload_n dX8_become_23 rfl ?_
  refine y_getR fX8_15 dX8_become_24 (by first | assumption | rfl) (by first | assumption | rfl) ?_
  refine y_iconst dX8_become_27 ?_
  refine z_aload_n dX8_become_28 rfl ?_
  refine y_getR fX8_15 dX8_become_29 (by first | assumption | rfl) (by first | assumption | rfl) ?_
  refine y_alen (v := 5) dX8_become_32 (by first | assumption | rfl) rfl ?_
  refine y_copy dX8_become_33 kX8_41 (by first | assumption | rfl) (by first | assumption | rfl) rfl rfl (by omega) (by omega) (by omega) (by omega) (by omega) (by decide +kernel) (by decide +kernel) ?_
  refine z_aload_n dX8_become_36 rfl ?_
  refine y_getR fX8_18 dX8_become_37 (by first | assumption | rfl) (by first | assumption | rfl) ?_
  refine y_iconst dX8_become_40 ?_
  refine z_aload_n dX8_become_41 rfl ?_
  refine y_getR fX8_18 dX8_become_42 (by first | assumption | rfl) (by first | assumption | rfl) ?_
  refine y_iconst dX8_become_45 ?_
  refine z_aload_n dX8_become_46 rfl ?_
  refine y_getR fX8_18 dX8_become_47 (by first | assumption | rfl) (by first | assumption | rfl) ?_
  refine y_alen (v := 5) dX8_become_50 (by first | assumption | rfl) rfl ?_
  refine y_copy dX8_become_51 kX8_41 (by first | assumption | rfl) (by first | assumption | rfl) rfl rfl (by omega) (by omega) (by omega) (by omega) (by omega) (by decide +kernel) (by decide +kernel) ?_
  refine z_aload_n dX8_become_54 rfl ?_
  refine z_aload_n dX8_become_55 rfl ?_
  refine y_getI (j := 3) fX8_21 dX8_become_56 rfl (by first | assumption | rfl) ?_
  refine y_putI (j := 3) fX8_21 dX8_become_59 rfl (by first | assumption | rfl) ?_
  refine z_aload_n dX8_become_62 rfl ?_
  refine z_aload_n dX8_become_63 rfl ?_
  refine y_getI (j := 4) fX8_25 dX8_become_64 rfl (by first | assumption | rfl) ?_
  refine y_putI (j := 4) fX8_25 dX8_become_67 rfl (by first | assumption | rfl) ?_
  refine z_aload_n dX8_become_70 rfl ?_
  refine z_aload_n dX8_become_71 rfl ?_
  refine y_getI (j := 5) fX8_28 dX8_become_72 rfl (by first | assumption | rfl) ?_
  refine y_putI (j := 5) fX8_28 dX8_become_75 rfl (by first | assumption | rfl) ?_
  exact z_vret dX8_become_78 rfl (Nat.le_refl 0) (Nat.le_refl 0) ⟨_, rfl, rfl, by
    unfold bcm
    simp only [vst_o (show q ≠ p by omega), zup_n _ _ (show q ≠ p + 3 by omega), zup_n _ _ (show q ≠ p + 2 by omega), zup_n _ _ (show q ≠ p + 1 by omega), zup_n _ _ (show q + 3 ≠ p + 2 by omega), zup_n _ _ (show q + 3 ≠ p + 1 by omega), zup_n _ _ (show q + 2 ≠ p + 1 by omega), zup_n _ _ (show p + 3 ≠ p + 2 by omega), zup_n _ _ (show p + 3 ≠ p + 1 by omega), zup_n _ _ (show p + 2 ≠ p + 1 by omega)]⟩
/-! reading what become has made -/
theorem bcm_1 {p q : Nat} {i : Int} (h : 0 ≤ i ∧ i < 35) : bcm V p q (p + 1) i = V (q + 1) i := by
  unfold bcm
  rw [vst_o (by omega), vst_o (by omega), vst_o (by omega), zup_n _ _ (by omega), zup_n _ _ (by omega), zup_s]
  unfold icp
  rw [if_pos (by omega)]
  congr 1
  omega
theorem bcm_2 {p q : Nat} {i : Int} (h : 0 ≤ i ∧ i < 5) : bcm V p q (p + 2) i = V (q + 2) i := by
  unfold bcm
  rw [vst_o (by omega), vst_o (by omega), vst_o (by omega), zup_n _ _ (by omega), zup_s]
  unfold icp
  rw [if_pos (by omega)]
  congr 1
  omega
theorem bcm_3 {p q : Nat} {i : Int} (h : 0 ≤ i ∧ i < 5) : bcm V p q (p + 3) i = V (q + 3) i := by
  unfold bcm
  rw [vst_o (by omega), vst_o (by omega), vst_o (by omega), zup_s]
  unfold icp
  rw [if_pos (by omega)]
  congr 1
  omega
theorem bcm_f3 {p q : Nat} : bcm V p q p 3 = V q 3 := by unfold bcm; rw [vst_n (by decide), vst_n (by decide), vst_s]
theorem bcm_f4 {p q : Nat} : bcm V p q p 4 = V q 4 := by unfold bcm; rw [vst_n (by decide), vst_s]
theorem bcm_f5 {p q : Nat} : bcm V p q p 5 = V q 5 := by unfold bcm; rw [vst_s]
theorem bcm_o {p q a : Nat} (h0 : a ≠ p) (h1 : a ≠ p + 1) (h2 : a ≠ p + 2) (h3 : a ≠ p + 3) : bcm V p q a = V a := by
  unfold bcm
  rw [vst_o h0, vst_o h0, vst_o h0, zup_n _ _ h3, zup_n _ _ h2, zup_n _ _ h1]
theorem icp_le {f g : Int → Int} {sp dp n lo hi : Int} (h : ∀ i, lo ≤ f i ∧ f i ≤ hi) (h2 : ∀ i, lo ≤ g i ∧ g i ≤ hi) : ∀ i, lo ≤ icp f g sp dp n i ∧ icp f g sp dp n i ≤ hi := by
  intro i
  unfold icp
  split
  · exact h _
  · exact h2 i
theorem bcm_a1 {p q : Nat} : bcm V p q (p + 1) = icp (V (q + 1)) (V (p + 1)) 0 0 35 := by
  unfold bcm
  rw [vst_o (by omega), vst_o (by omega), vst_o (by omega), zup_n _ _ (by omega), zup_n _ _ (by omega), zup_s]
theorem bcm_a2 {p q : Nat} : bcm V p q (p + 2) = icp (V (q + 2)) (V (p + 2)) 0 0 5 := by
  unfold bcm
  rw [vst_o (by omega), vst_o (by omega), vst_o (by omega), zup_n _ _ (by omega), zup_s]
theorem bcm_a3 {p q : Nat} : bcm V p q (p + 3) = icp (V (q + 3)) (V (p + 3)) 0 0 5 := by
  unfold bcm
  rw [vst_o (by omega), vst_o (by omega), vst_o (by omega), zup_s]
/-! Past -/
/-- the place of the ring's i-th -/
def rgp (i : Int) : Nat := 9 + 4 * i.toNat
theorem rgp_S {i : Int} (h : 0 ≤ i ∧ i < 20) : isS (rgp i) := by
  obtain ⟨k, rfl⟩ : ∃ k : Nat, i = k := ⟨i.toNat, by omega⟩
  have hk : k < 20 := by omega
  have key : ∀ k : Nat, k < 20 → 9 + 4 * k ∈ [3, 90, 95, 9, 13, 17, 21, 25, 29, 33, 37, 41, 45, 49, 53, 57, 61, 65, 69, 73, 77, 81, 85] := by decide
  exact key k hk
theorem rgp_F {i : Int} (h : 0 ≤ i ∧ i < 20) (b : Bool) : Fs b 8 i.toNat = some (rgp i) := by
  obtain ⟨k, rfl⟩ : ∃ k : Nat, i = k := ⟨i.toNat, by omega⟩
  have hk : k < 20 := by omega
  have key : ∀ k : Nat, k < 20 → Fs true 8 k = some (9 + 4 * k) ∧ Fs false 8 k = some (9 + 4 * k) := by decide +kernel
  cases b
  · exact (key k hk).2
  · exact (key k hk).1
theorem ct_X5_forget : yC 1 mX5_forget [.ref 7] V b (pV b (fun V' => V' = vst V 7 1 0)) := by
  refine zC_of (by decide +kernel) (Nat.le_of_ble_eq_true rfl) rfl ?_
  refine z_aload_n dX5_forget_0 rfl ?_
  refine y_iconst dX5_forget_1 ?_
  refine y_putI (j := 1) fX5_17 dX5_forget_2 rfl (by first | assumption | rfl) ?_
  exact z_vret dX5_forget_5 rfl (Nat.le_refl 0) (Nat.le_refl 0) ⟨_, rfl, rfl, rfl⟩
def nw1 (V : Nat → Int → Int) : Int := (V 7 2 + 1) % 20
/-- 'now' is kept as the newest -/
def rem1 (V : Nat → Int → Int) : Nat → Int → Int := vst (bcm (vst V 7 2 (nw1 V)) (rgp (nw1 V)) 3) 7 1 (min (V 7 1 + 1) 20)
theorem ct_X5_remember (hn : 0 ≤ V 7 2 ∧ V 7 2 < 20) (hc : 0 ≤ V 7 1 ∧ V 7 1 ≤ 20) : yC 3 mX5_remember [.ref 7, .ref 3] V b (pV b (fun V' => V' = rem1 V)) := by
  have hm : 0 ≤ nw1 V ∧ nw1 V < 20 := by unfold nw1; omega
  have hS := rgp_S hm
  have hF := rgp_F hm b
  obtain ⟨sp, sp1, sp2, sp3, fp0, fp1, fp2⟩ := sfacts hS b
  have h3 : isS 3 := by unfold isS; decide
  have hg : 9 ≤ rgp (nw1 V) := by unfold rgp; omega
  have hm' : 0 ≤ (V 7 2 + 1) % 20 ∧ (V 7 2 + 1) % 20 < 20 := hm
  have e1 : bcm (vst V 7 2 (nw1 V)) (rgp (nw1 V)) 3 7 = vst V 7 2 (nw1 V) 7 := bcm_o (by omega) (by omega) (by omega) (by omega)
  refine zC_of (by decide +kernel) (Nat.le_of_ble_eq_true rfl) rfl ?_
  refine z_aload_n dX5_remember_0 rfl ?_
  refine z_aload_n dX5_remember_1 rfl ?_
  refine y_getI (j := 2) fX5_21 dX5_remember_2 rfl (by first | assumption | rfl) ?_
  refine y_iconst dX5_remember_5 ?_
  refine y_iadd dX5_remember_6 ?_
  refine y_bipush dX5_remember_7 (by decide +kernel) ?_
  refine y_irem dX5_remember_9 (by omega) (by omega) ?_
  refine y_putI (j := 2) fX5_21 dX5_remember_10 rfl (by first | assumption | rfl) ?_
  refine z_aload_n dX5_remember_13 rfl ?_
  refine y_getR fX5_11 dX5_remember_14 (by first | assumption | rfl) (by first | assumption | rfl) ?_
  refine z_aload_n dX5_remember_17 rfl ?_
  refine y_getI (j := 2) fX5_21 dX5_remember_18 rfl (by first | assumption | rfl) ?_
  refine y_aald dX5_remember_21 (by first | assumption | rfl) rfl (by rw [vst_s]; omega) (by rw [vst_s]; exact hF) ?_
  refine z_aload_n dX5_remember_22 rfl ?_
  refine y_callVv (ct_X8_become (by assumption) (by assumption) (by omega)) kX5_25 dX5_remember_23 rfl rfl (by first | assumption | rfl) rfl (by decide) rfl (Nat.le_of_ble_eq_true rfl) (fun V h_23 => ?_)
  subst h_23
  refine z_aload_n dX5_remember_26 rfl ?_
  refine z_aload_n dX5_remember_27 rfl ?_
  refine y_getI (j := 1) fX5_17 dX5_remember_28 rfl (by first | assumption | rfl) ?_
  refine y_iconst dX5_remember_31 ?_
  refine y_iadd dX5_remember_32 ?_
  refine y_bipush dX5_remember_33 (by decide +kernel) ?_
  refine y_min dX5_remember_35 kX5_29 (by rw [show bcm (vst V 7 2 ((V 7 2 + 1) % 20)) (rgp (nw1 V)) 3 7 = vst V 7 2 (nw1 V) 7 from e1, vst_n (by decide)]; omega) (by omega) (by decide) (Nat.le_of_ble_eq_true rfl) ?_
  refine y_putI (j := 1) fX5_17 dX5_remember_38 rfl (by first | assumption | rfl) ?_
  exact z_vret dX5_remember_41 rfl (Nat.le_refl 0) (Nat.le_refl 0) ⟨_, rfl, rfl, by unfold rem1; rw [show bcm (vst V 7 2 ((V 7 2 + 1) % 20)) (rgp (nw1 V)) 3 7 = vst V 7 2 (nw1 V) 7 from e1, vst_n (by decide)]; rfl⟩
def nwm (V : Nat → Int → Int) : Int := (V 7 2 + 20 - 1) % 20
def giv1 (V : Nat → Int → Int) : Nat → Int → Int := vst (vst (bcm V 3 (rgp (V 7 2))) 7 2 (nwm V)) 7 1 (V 7 1 - 1)
theorem ct_X5_giveBack (hn : 0 ≤ V 7 2 ∧ V 7 2 < 20) (hc : 0 ≤ V 7 1 ∧ V 7 1 ≤ 20) : yC 3 mX5_giveBack [.ref 7, .ref 3] V b (pI b (fun r V' => (V 7 1 = 0 ∧ r = 0 ∧ V' = V) ∨ (V 7 1 ≠ 0 ∧ r = 1 ∧ V' = giv1 V))) := by
  have hS := rgp_S hn
  have hF := rgp_F hn b
  obtain ⟨sp, sp1, sp2, sp3, fp0, fp1, fp2⟩ := sfacts hS b
  have h3 : isS 3 := by unfold isS; decide
  have hg : 9 ≤ rgp (V 7 2) := by unfold rgp; omega
  have e1 : bcm V 3 (rgp (V 7 2)) 7 = V 7 := bcm_o (by omega) (by omega) (by omega) (by omega)
  refine zC_of (by decide +kernel) (Nat.le_of_ble_eq_true rfl) rfl ?_
  refine z_aload_n dX5_giveBack_0 rfl ?_
  refine y_getI (j := 1) fX5_17 dX5_giveBack_1 rfl (by first | assumption | rfl) ?_
  refine y_if_ne dX5_giveBack_4 (by omega) (fun c_4 => ?_) (fun c_4 => ?_)
  · refine z_aload_n dX5_giveBack_9 rfl ?_
    refine z_aload_n dX5_giveBack_10 rfl ?_
    refine y_getR fX5_11 dX5_giveBack_11 (by first | assumption | rfl) (by first | assumption | rfl) ?_
    refine z_aload_n dX5_giveBack_14 rfl ?_
    refine y_getI (j := 2) fX5_21 dX5_giveBack_15 rfl (by first | assumption | rfl) ?_
    refine y_aald dX5_giveBack_18 (by first | assumption | rfl) rfl (by omega) (by first | assumption | rfl) ?_
    refine y_callVv (ct_X8_become (by assumption) (by assumption) (by omega)) kX5_25 dX5_giveBack_19 rfl rfl (by first | assumption | rfl) rfl (by decide) rfl (Nat.le_of_ble_eq_true rfl) (fun V h_19 => ?_)
    subst h_19
    refine z_aload_n dX5_giveBack_22 rfl ?_
    refine z_aload_n dX5_giveBack_23 rfl ?_
    refine y_getI (j := 2) fX5_21 dX5_giveBack_24 rfl (by first | assumption | rfl) ?_
    refine y_bipush dX5_giveBack_27 (by decide +kernel) ?_
    refine y_iadd dX5_giveBack_29 ?_
    refine y_iconst dX5_giveBack_30 ?_
    refine y_isub dX5_giveBack_31 ?_
    refine y_bipush dX5_giveBack_32 (by decide +kernel) ?_
    refine y_irem dX5_giveBack_34 (by rw [e1]; omega) (by omega) ?_
    refine y_putI (j := 2) fX5_21 dX5_giveBack_35 rfl (by first | assumption | rfl) ?_
    refine z_aload_n dX5_giveBack_38 rfl ?_
    refine z_dup dX5_giveBack_39 rfl ?_
    refine y_getI (j := 1) fX5_17 dX5_giveBack_40 rfl (by first | assumption | rfl) ?_
    refine y_iconst dX5_giveBack_43 ?_
    refine y_isub dX5_giveBack_44 ?_
    refine y_putI (j := 1) fX5_17 dX5_giveBack_45 rfl (by first | assumption | rfl) ?_
    refine y_iconst dX5_giveBack_48 ?_
    exact y_zret dX5_giveBack_49 rfl (by omega) (Nat.le_refl 0) (Nat.le_refl 0) ⟨_, _, rfl, rfl, Or.inr ⟨by omega, rfl, by unfold giv1 nwm; rw [vst_n (by decide), e1]⟩⟩
  · refine y_iconst dX5_giveBack_7 ?_
    exact y_zret dX5_giveBack_8 rfl (by omega) (Nat.le_refl 0) (Nat.le_refl 0) ⟨_, _, rfl, rfl, Or.inl ⟨by omega, rfl, rfl⟩⟩
/-! Notes: chalk at 100 (6 at most), the book at 104 (15) -/
abbrev isN (p n : Nat) : Prop := (p = 100 ∧ n = 6) ∨ (p = 104 ∧ n = 15)
theorem nfacts {p n : Nat} (h : isN p n) (b : Bool) : S0[p]? = some (.inl 4) ∧ S0[p + 1]? = some (.inr (0, n)) ∧ S0[p + 2]? = some (.inr (0, n)) ∧ S0[p + 3]? = some (.inr (0, n)) ∧ Fs b p 0 = some (p + 1) ∧ Fs b p 1 = some (p + 2) ∧ Fs b p 2 = some (p + 3) ∧ Nat.ble n 2147483647 = true := by
  rcases h with ⟨rfl, rfl⟩ | ⟨rfl, rfl⟩ <;> exact ⟨rfl, rfl, rfl, rfl, rfl, rfl, rfl, rfl⟩
/-- an entry more -/
def adN (V : Nat → Int → Int) (p : Nat) (r i w : Int) : Nat → Int → Int := vst (vst (vst (vst V (p + 1) (V p 3) r) (p + 2) (V p 3) i) (p + 3) (V p 3) w) p 3 (V p 3 + 1)
theorem ct_X4_add {p n : Nat} {r i w : Int} (hp : isN p n) (hc : 0 ≤ V p 3 ∧ V p 3 ≤ n) : yC 1 mX4_add [.ref p, .int (iI r), .int (iI i), .int (iI w)] V b (pI b (fun q V' => (V p 3 = n ∧ q = 0 ∧ V' = V) ∨ (V p 3 < n ∧ q = 1 ∧ V' = adN V p r i w))) := by
  obtain ⟨sp, sp1, sp2, sp3, fp0, fp1, fp2, hn⟩ := nfacts hp b
  have hn15 : n ≤ 15 := by omega
  have e1 : p ≠ p + 1 := by omega
  have e2 : p ≠ p + 2 := by omega
  have e3 : p ≠ p + 3 := by omega
  refine zC_of (by decide +kernel) (Nat.le_of_ble_eq_true rfl) rfl ?_
  refine z_aload_n dX4_add_0 rfl ?_
  refine y_getI (j := 3) fX4_9 dX4_add_1 rfl (by first | assumption | rfl) ?_
  refine z_aload_n dX4_add_4 rfl ?_
  refine y_getR fX4_21 dX4_add_5 (by first | assumption | rfl) (by first | assumption | rfl) ?_
  refine y_alen dX4_add_8 (by first | assumption | rfl) rfl ?_
  refine y_icmp_lt dX4_add_9 (by omega) (by omega) (fun c_9 => ?_) (fun c_9 => ?_)
  · refine z_aload_n dX4_add_14 rfl ?_
    refine y_getR fX4_21 dX4_add_15 (by first | assumption | rfl) (by first | assumption | rfl) ?_
    refine z_aload_n dX4_add_18 rfl ?_
    refine y_getI (j := 3) fX4_9 dX4_add_19 rfl (by first | assumption | rfl) ?_
    refine z_iload_n dX4_add_22 rfl ?_
    refine y_iast dX4_add_23 (by first | assumption | rfl) (by first | rfl | assumption) (by omega) ?_
    refine z_aload_n dX4_add_24 rfl ?_
    refine y_getR fX4_25 dX4_add_25 (by first | assumption | rfl) (by first | assumption | rfl) ?_
    refine z_aload_n dX4_add_28 rfl ?_
    refine y_getI (j := 3) fX4_9 dX4_add_29 rfl (by first | assumption | rfl) ?_
    refine z_iload_n dX4_add_32 rfl ?_
    refine y_iast dX4_add_33 (by first | assumption | rfl) (by first | rfl | assumption) (by rw [vst_o e1]; omega) ?_
    refine z_aload_n dX4_add_34 rfl ?_
    refine y_getR fX4_28 dX4_add_35 (by first | assumption | rfl) (by first | assumption | rfl) ?_
    refine z_aload_n dX4_add_38 rfl ?_
    refine y_getI (j := 3) fX4_9 dX4_add_39 rfl (by first | assumption | rfl) ?_
    refine z_iload_n dX4_add_42 rfl ?_
    refine y_iast dX4_add_43 (by first | assumption | rfl) (by first | rfl | assumption) (by rw [vst_o e2, vst_o e1]; omega) ?_
    refine z_aload_n dX4_add_44 rfl ?_
    refine z_dup dX4_add_45 rfl ?_
    refine y_getI (j := 3) fX4_9 dX4_add_46 rfl (by first | assumption | rfl) ?_
    refine y_iconst dX4_add_49 ?_
    refine y_iadd dX4_add_50 ?_
    refine y_putI (j := 3) fX4_9 dX4_add_51 rfl (by first | assumption | rfl) ?_
    refine y_iconst dX4_add_54 ?_
    exact y_zret dX4_add_55 rfl (by omega) (Nat.le_refl 0) (Nat.le_refl 0) ⟨_, _, rfl, rfl, Or.inr ⟨by omega, rfl, by unfold adN; rw [vst_o e3, vst_o e2, vst_o e1]⟩⟩
  · refine y_iconst dX4_add_12 ?_
    exact y_zret dX4_add_13 rfl (by omega) (Nat.le_refl 0) (Nat.le_refl 0) ⟨_, _, rfl, rfl, Or.inl ⟨by omega, rfl, rfl⟩⟩
theorem ct_X4_has {p n : Nat} {k : Int} (hp : isN p n) (hk : rg k) (hc : 0 ≤ V p 3 ∧ V p 3 ≤ n) : yC 1 mX4_has [.ref p, .int (iI k)] V b (pR b V (fun q => (0 ≤ k ∧ k < V p 3 ∧ q = 1) ∨ (¬ (0 ≤ k ∧ k < V p 3) ∧ q = 0))) := by
  obtain ⟨sp, sp1, sp2, sp3, fp0, fp1, fp2, hn⟩ := nfacts hp b
  have hn15 : n ≤ 15 := by omega
  refine zC_of (by decide +kernel) (Nat.le_of_ble_eq_true rfl) rfl ?_
  refine z_iload_n dX4_has_0 rfl ?_
  refine y_if_lt dX4_has_1 (by omega) (fun c_1 => ?_) (fun c_1 => ?_)
  · refine y_iconst dX4_has_25 ?_
    exact y_zret dX4_has_26 rfl (by omega) (Nat.le_refl 0) (Nat.le_refl 0) ⟨_, rfl, rfl, by omega⟩
  · refine z_iload_n dX4_has_4 rfl ?_
    refine z_aload_n dX4_has_5 rfl ?_
    refine y_getI (j := 3) fX4_9 dX4_has_6 rfl (by first | assumption | rfl) ?_
    refine y_icmp_ge dX4_has_9 (by omega) (by omega) (fun c_9 => ?_) (fun c_9 => ?_)
    · refine y_iconst dX4_has_25 ?_
      exact y_zret dX4_has_26 rfl (by omega) (Nat.le_refl 0) (Nat.le_refl 0) ⟨_, rfl, rfl, by omega⟩
    · refine z_iload_n dX4_has_12 rfl ?_
      refine z_aload_n dX4_has_13 rfl ?_
      refine y_getR fX4_21 dX4_has_14 (by first | assumption | rfl) (by first | assumption | rfl) ?_
      refine y_alen dX4_has_17 (by first | assumption | rfl) rfl ?_
      refine y_icmp_ge dX4_has_18 (by omega) (by omega) (fun c_18 => ?_) (fun c_18 => ?_)
      · refine y_iconst dX4_has_25 ?_
        exact y_zret dX4_has_26 rfl (by omega) (Nat.le_refl 0) (Nat.le_refl 0) ⟨_, rfl, rfl, by omega⟩
      · refine y_iconst dX4_has_21 ?_
        refine z_goto dX4_has_22 ?_
        exact y_zret dX4_has_26 rfl (by omega) (Nat.le_refl 0) (Nat.le_refl 0) ⟨_, rfl, rfl, by omega⟩
theorem ct_X4_roadOf {p n : Nat} {k : Int} (hp : isN p n) (hk : 0 ≤ k ∧ k < V p 3) (hc : 0 ≤ V p 3 ∧ V p 3 ≤ n) : yC 2 mX4_roadOf [.ref p, .int (iI k)] V b (pR b V (fun q => q = V (p + 1) k)) := by
  obtain ⟨sp, sp1, sp2, sp3, fp0, fp1, fp2, hn⟩ := nfacts hp b
  have hn15 : n ≤ 15 := by omega
  refine zC_of (by decide +kernel) (Nat.le_of_ble_eq_true rfl) rfl ?_
  refine z_aload_n dX4_roadOf_0 rfl ?_
  refine z_iload_n dX4_roadOf_1 rfl ?_
  refine y_callVr (ct_X4_has (by assumption) (by omega) (by omega)) kX4_31 dX4_roadOf_2 rfl rfl (by first | assumption | rfl) rfl (by decide) rfl (Nat.le_of_ble_eq_true rfl) (fun r_2 h_2 => ?_)
  refine y_if_eq dX4_roadOf_5 (by omega) (fun c_5 => ?_) (fun c_5 => ?_)
  · omega
  · refine z_aload_n dX4_roadOf_8 rfl ?_
    refine y_getR fX4_21 dX4_roadOf_9 (by first | assumption | rfl) (by first | assumption | rfl) ?_
    refine z_iload_n dX4_roadOf_12 rfl ?_
    refine y_iald dX4_roadOf_13 (by first | assumption | rfl) (by first | rfl | assumption) (by omega) ?_
    refine z_goto dX4_roadOf_14 ?_
    exact z_iret dX4_roadOf_18 rfl (Nat.le_refl 0) (Nat.le_refl 0) ⟨_, rfl, rfl, by omega⟩
theorem ct_X4_placeOf {p n : Nat} {k : Int} (hp : isN p n) (hk : 0 ≤ k ∧ k < V p 3) (hc : 0 ≤ V p 3 ∧ V p 3 ≤ n) : yC 2 mX4_placeOf [.ref p, .int (iI k)] V b (pR b V (fun q => q = V (p + 2) k)) := by
  obtain ⟨sp, sp1, sp2, sp3, fp0, fp1, fp2, hn⟩ := nfacts hp b
  have hn15 : n ≤ 15 := by omega
  refine zC_of (by decide +kernel) (Nat.le_of_ble_eq_true rfl) rfl ?_
  refine z_aload_n dX4_placeOf_0 rfl ?_
  refine z_iload_n dX4_placeOf_1 rfl ?_
  refine y_callVr (ct_X4_has (by assumption) (by omega) (by omega)) kX4_31 dX4_placeOf_2 rfl rfl (by first | assumption | rfl) rfl (by decide) rfl (Nat.le_of_ble_eq_true rfl) (fun r_2 h_2 => ?_)
  refine y_if_eq dX4_placeOf_5 (by omega) (fun c_5 => ?_) (fun c_5 => ?_)
  · omega
  · refine z_aload_n dX4_placeOf_8 rfl ?_
    refine y_getR fX4_25 dX4_placeOf_9 (by first | assumption | rfl) (by first | assumption | rfl) ?_
    refine z_iload_n dX4_placeOf_12 rfl ?_
    refine y_iald dX4_placeOf_13 (by first | assumption | rfl) (by first | rfl | assumption) (by omega) ?_
    refine z_goto dX4_placeOf_14 ?_
    exact z_iret dX4_placeOf_18 rfl (Nat.le_refl 0) (Nat.le_refl 0) ⟨_, rfl, rfl, by omega⟩
theorem ct_X4_whatOf {p n : Nat} {k : Int} (hp : isN p n) (hk : 0 ≤ k ∧ k < V p 3) (hc : 0 ≤ V p 3 ∧ V p 3 ≤ n) : yC 2 mX4_whatOf [.ref p, .int (iI k)] V b (pR b V (fun q => q = V (p + 3) k)) := by
  obtain ⟨sp, sp1, sp2, sp3, fp0, fp1, fp2, hn⟩ := nfacts hp b
  have hn15 : n ≤ 15 := by omega
  refine zC_of (by decide +kernel) (Nat.le_of_ble_eq_true rfl) rfl ?_
  refine z_aload_n dX4_whatOf_0 rfl ?_
  refine z_iload_n dX4_whatOf_1 rfl ?_
  refine y_callVr (ct_X4_has (by assumption) (by omega) (by omega)) kX4_31 dX4_whatOf_2 rfl rfl (by first | assumption | rfl) rfl (by decide) rfl (Nat.le_of_ble_eq_true rfl) (fun r_2 h_2 => ?_)
  refine y_if_eq dX4_whatOf_5 (by omega) (fun c_5 => ?_) (fun c_5 => ?_)
  · omega
  · refine z_aload_n dX4_whatOf_8 rfl ?_
    refine y_getR fX4_28 dX4_whatOf_9 (by first | assumption | rfl) (by first | assumption | rfl) ?_
    refine z_iload_n dX4_whatOf_12 rfl ?_
    refine y_iald dX4_whatOf_13 (by first | assumption | rfl) (by first | rfl | assumption) (by omega) ?_
    refine z_goto dX4_whatOf_14 ?_
    exact z_iret dX4_whatOf_18 rfl (Nat.le_refl 0) (Nat.le_refl 0) ⟨_, rfl, rfl, by omega⟩
end

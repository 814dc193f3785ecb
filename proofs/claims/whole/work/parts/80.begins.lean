/-! ===== the model begins ===== -/
def begF (n : Int) (g : Int → Int) : Int → Int := fun j => if 0 ≤ j ∧ j < 47 then begN n j else g j
def bgM (V : Nat → Int → Int) : Nat → Int → Int := vst (vst (vst (vst (vst (vst (zup V 137 (begF (V 135 5) (V 137))) 134 4 0) 134 12 0) 134 14 0) 134 16 0) 140 0 0) 140 1 0
theorem ifl_0 (f : Int → Int) (x : Int) : ifl f 0 x = f := by
  funext j
  unfold ifl
  rw [if_neg (by omega)]
theorem ifl_st {f : Int → Int} {n x : Int} (h : 0 ≤ n) : iup (ifl f n x) n x = ifl f (n + 1) x := by
  funext j
  unfold iup ifl
  (repeat' split)
  all_goals first | rfl | (exfalso; omega)
def begG (n : Int) (g : Int → Int) (i : Int) : Int → Int := fun j => if j = 0 then n else if 1 ≤ j ∧ j < 1 + i then j - 1 else ifl g 47 0 j
section
variable {V : Nat → Int → Int} {b : Bool}
theorem ct_X11_begins : yC 0 mX11_begins [.ref 134] V b (pV b (fun V' => V' = bgM V)) := by
  have fin : ∀ a1, yE 0 (pV b (fun V' => V' = bgM V)) mX11_begins 56 [some (.ref 134), a1] [] (zup V 137 (begG (V 135 5) (V 137) 7)) b := by
    intro a1
    have e : iup (begG (V 135 5) (V 137) 7) 46 (-1) = begF (V 135 5) (V 137) := by
      funext j
      unfold iup begG begF begN ifl
      (repeat' split)
      all_goals first | rfl | (exfalso; omega)
    refine z_aload_n dX11_begins_56 rfl ?_
    refine y_getR fX11_16 dX11_begins_57 (by first | assumption | rfl) (by first | assumption | rfl) ?_
    refine y_bipush dX11_begins_60 (by decide +kernel) ?_
    refine y_iconst dX11_begins_62 ?_
    refine y_iast dX11_begins_63 (by first | assumption | rfl) (by first | rfl | assumption) (by omega) ?_
    rw [vst_zup_s, e]
    refine z_aload_n dX11_begins_64 rfl ?_
    refine y_iconst dX11_begins_65 ?_
    refine y_putI (j := 4) fX11_87 dX11_begins_66 rfl (by first | assumption | rfl) ?_
    refine z_aload_n dX11_begins_69 rfl ?_
    refine y_iconst dX11_begins_70 ?_
    refine y_putI (j := 12) fX11_90 dX11_begins_71 rfl (by first | assumption | rfl) ?_
    refine z_aload_n dX11_begins_74 rfl ?_
    refine y_iconst dX11_begins_75 ?_
    refine y_putI (j := 14) fX11_93 dX11_begins_76 rfl (by first | assumption | rfl) ?_
    refine z_aload_n dX11_begins_79 rfl ?_
    refine y_iconst dX11_begins_80 ?_
    refine y_putI (j := 16) fX11_96 dX11_begins_81 rfl (by first | assumption | rfl) ?_
    refine z_aload_n dX11_begins_84 rfl ?_
    refine y_getR fX11_25 dX11_begins_85 (by first | assumption | rfl) (by first | assumption | rfl) ?_
    refine y_iconst dX11_begins_88 ?_
    refine y_iconst dX11_begins_89 ?_
    refine y_zast dX11_begins_90 (by first | assumption | rfl) rfl (by omega) (by omega) ?_
    refine z_aload_n dX11_begins_91 rfl ?_
    refine y_getR fX11_25 dX11_begins_92 (by first | assumption | rfl) (by first | assumption | rfl) ?_
    refine y_iconst dX11_begins_95 ?_
    refine y_iconst dX11_begins_96 ?_
    refine y_zast dX11_begins_97 (by first | assumption | rfl) rfl (by omega) (by omega) ?_
    exact z_vret dX11_begins_98 rfl (Nat.le_refl 0) (Nat.le_refl 0) ⟨_, rfl, rfl, rfl⟩
  have loop2 : ∀ (k : Nat) (i : Int), 0 ≤ i → i + k = 7 → yE 0 (pV b (fun V' => V' = bgM V)) mX11_begins 35 [some (.ref 134), some (.int (iI i))] [] (zup V 137 (begG (V 135 5) (V 137) i)) b := by
    intro k
    induction k with
    | zero =>
      intro i h1 h2
      have hi : i = 7 := by omega
      subst hi
      refine z_iload_n dX11_begins_35 rfl ?_
      refine y_bipush dX11_begins_36 (by decide +kernel) ?_
      refine y_icmp_ge dX11_begins_38 (by omega) (by omega) (fun c_38 => ?_) (fun c_38 => ?_)
      · exact fin _
      · omega
    | succ k ih =>
      intro i h1 h2
      have e : iup (begG (V 135 5) (V 137) i) (1 + i) i = begG (V 135 5) (V 137) (i + 1) := by
        funext j
        unfold iup begG
        (repeat' split)
        all_goals first | rfl | omega
      have hh := ih (i + 1) (by omega) (by omega)
      rw [← e, ← vst_zup_s] at hh
      refine z_iload_n dX11_begins_35 rfl ?_
      refine y_bipush dX11_begins_36 (by decide +kernel) ?_
      refine y_icmp_ge dX11_begins_38 (by omega) (by omega) (fun c_38 => ?_) (fun c_38 => ?_)
      · omega
      · refine z_aload_n dX11_begins_41 rfl ?_
        refine y_getR fX11_16 dX11_begins_42 (by first | assumption | rfl) (by first | assumption | rfl) ?_
        refine y_iconst dX11_begins_45 ?_
        refine z_iload_n dX11_begins_46 rfl ?_
        refine y_iadd dX11_begins_47 ?_
        refine z_iload_n dX11_begins_48 rfl ?_
        refine y_iast dX11_begins_49 (by first | assumption | rfl) (by first | rfl | assumption) (by omega) ?_
        refine y_iinc dX11_begins_50 rfl (by decide) rfl rfl ?_
        refine z_goto dX11_begins_53 ?_
        exact hh
  have loop1 : ∀ (k : Nat) (i : Int), 0 ≤ i → i + k = 47 → yE 0 (pV b (fun V' => V' = bgM V)) mX11_begins 2 [some (.ref 134), some (.int (iI i))] [] (zup V 137 (ifl (V 137) i 0)) b := by
    intro k
    induction k with
    | zero =>
      intro i h1 h2
      have hi : i = 47 := by omega
      subst hi
      have e : iup (ifl (V 137) 47 0) 0 (V 135 5) = begG (V 135 5) (V 137) 0 := by
        funext j
        unfold iup begG
        (repeat' split)
        all_goals first | rfl | omega
      have hh := loop2 7 0 (by omega) (by omega)
      rw [← e, ← vst_zup_s] at hh
      refine z_iload_n dX11_begins_2 rfl ?_
      refine y_bipush dX11_begins_3 (by decide +kernel) ?_
      refine y_icmp_ge dX11_begins_5 (by omega) (by omega) (fun c_5 => ?_) (fun c_5 => ?_)
      · refine z_aload_n dX11_begins_21 rfl ?_
        refine y_getR fX11_16 dX11_begins_22 (by first | assumption | rfl) (by first | assumption | rfl) ?_
        refine y_iconst dX11_begins_25 ?_
        refine z_aload_n dX11_begins_26 rfl ?_
        refine y_getR fX11_7 dX11_begins_27 (by first | assumption | rfl) (by first | assumption | rfl) ?_
        refine y_iconst dX11_begins_30 ?_
        refine y_iald dX11_begins_31 (by first | assumption | rfl) (by first | rfl | assumption) (by omega) ?_
        rw [zup_n _ _ (by decide)]
        refine y_iast dX11_begins_32 (by first | assumption | rfl) (by first | rfl | assumption) (by omega) ?_
        refine y_iconst dX11_begins_33 ?_
        refine z_istore_n dX11_begins_34 (by decide) rfl rfl ?_
        exact hh
      · omega
    | succ k ih =>
      intro i h1 h2
      have hh := ih (i + 1) (by omega) (by omega)
      rw [← ifl_st h1, ← vst_zup_s] at hh
      refine z_iload_n dX11_begins_2 rfl ?_
      refine y_bipush dX11_begins_3 (by decide +kernel) ?_
      refine y_icmp_ge dX11_begins_5 (by omega) (by omega) (fun c_5 => ?_) (fun c_5 => ?_)
      · omega
      · refine z_aload_n dX11_begins_8 rfl ?_
        refine y_getR fX11_16 dX11_begins_9 (by first | assumption | rfl) (by first | assumption | rfl) ?_
        refine z_iload_n dX11_begins_12 rfl ?_
        refine y_iconst dX11_begins_13 ?_
        refine y_iast dX11_begins_14 (by first | assumption | rfl) (by first | rfl | assumption) (by omega) ?_
        refine y_iinc dX11_begins_15 rfl (by decide) rfl rfl ?_
        refine z_goto dX11_begins_18 ?_
        exact hh
  have h0 := loop1 47 0 (by omega) (by omega)
  rw [ifl_0, zup_id] at h0
  refine zC_of (by decide +kernel) (Nat.le_of_ble_eq_true rfl) rfl ?_
  refine y_iconst dX11_begins_0 ?_
  refine z_istore_n dX11_begins_1 (by decide) rfl rfl ?_
  exact h0
end

/-! ===== GrudgeYard.yard ===== -/
def pY (P : Int → (Nat → Int → Int) → Bool → Prop) : Option Value → zMu → Prop := fun v M' => ∃ (r : Int) (V' : Nat → Int → Int) (b' : Bool), v = some (.int (iI r)) ∧ M' = mk S0 V' (Fs b') ∧ P r V' b'
theorem Fs_swap (b : Bool) : zup (zup (Fs b) 0 (va_up (Fs b 0) 11 (some (yD b)))) 0 (va_up (zup (Fs b) 0 (va_up (Fs b 0) 11 (some (yD b))) 0) 12 (some (yN b))) = Fs (!b) := by
  funext a
  cases a with
  | zero =>
    rw [zup_s, zup_s]
    funext k
    by_cases h12 : k = 12
    · subst h12; cases b <;> rfl
    · by_cases h11 : k = 11
      · subst h11; cases b <;> rfl
      · have e : va_up (va_up (Fs b 0) 11 (some (yD b))) 12 (some (yN b)) k = Fs b 0 k := by simp [va_up, h11, h12]
        rw [e]
        by_cases hk : k < 13
        · have : ∀ k, k < 13 → k ≠ 11 → k ≠ 12 → Fs false 0 k = Fs true 0 k := by decide
          cases b
          · exact this k hk h11 h12
          · exact (this k hk h11 h12).symm
        · have : ∀ c, Fs c 0 k = none := fun c => by
            obtain ⟨j, rfl⟩ : ∃ j, k = j + 13 := ⟨k - 13, by omega⟩
            rfl
          rw [this, this]
  | succ a =>
    rw [zup_n _ _ (by omega), zup_n _ _ (by omega)]
    cases b <;> rfl
theorem yN_not (b : Bool) : yN (!b) = yD b := by cases b <;> rfl
section
variable {V : Nat → Int → Int} {b : Bool}
def ydP (rd0 : Int → Int) (V : Nat → Int → Int) (b : Bool) (q : Int) (V' : Nat → Int → Int) (b' : Bool) : Prop :=
  ∃ res, res = pYd (V 2) (V 1 1) 230 0 rd0 ∧ ((res.1 ≠ 0 ∧ b' = b ∧ q = -10 - res.1 ∧ riP V (yD b) res res.1 V') ∨ (res.1 = 0 ∧ b' = !b ∧ q = res.2.2.2 5 ∧ ∃ V1 V2, riP V (yD b) res 0 V1 ∧ bgP V1 V2 (res.2.2.2 5) ∧ V' = tearX (vst (vst (vst V2 7 1 0) 89 2 0) 94 2 0)))
theorem ct_X10_yard (hT : tX V) (htu : tuR V (yD b)) (hc : cN V) (hw : wN V) (hp : ∀ i, 0 ≤ V 6 i ∧ V 6 i ≤ 127) {rd0 : Int → Int} (hr0 : ∀ j, 0 ≤ j → j ≤ 40 → rd0 j = 0) : yC 7 mX10_yard [.ref 0] V b (pY (ydP rd0 V b)) := by
  have hy := yD_Y b
  have yb : 120 ≤ yD b ∧ yD b ≤ 127 := by rcases hy with h | h <;> omega
  obtain ⟨sy, sy1, sy2, sy3, sy4, sy5, sy6, fy0, fy1, fy2, fy3, fy4, fy5⟩ := yfacts hy b
  have hf : Fs b 0 11 = some (yN b) := rfl
  have hf2 : Fs b 0 12 = some (yD b) := rfl
  obtain ⟨res, hres⟩ : ∃ res, res = pYd (V 2) (V 1 1) 230 0 rd0 := ⟨_, rfl⟩
  have hri := ct_X7_readInto (b := b) hy hT htu hr0
  rw [← hres] at hri
  have hfn : Fs (!b) 0 11 = some (yD b) := by rw [← yN_not]; rfl
  have after : ∀ (V1 : Nat → Int → Int) (a1 : Option Value), riP V (yD b) res 0 V1 → yE 7 (pY (ydP rd0 V b)) mX10_yard 39 [some (.ref 0), a1, some (.ref (yN b))] [] V1 (!b) := by
    intro V1 a1 h1
    obtain ⟨U, s', m', f', g', e1, w1, w2, w3, w4, w5, w6⟩ := id h1
    obtain ⟨_, _, hY⟩ := w6.resolve_left (fun h => h.1 w3.symm)
    have vo : ∀ a, a ≠ 1 → V1 a = U a := fun a ha => by rw [e1, vst_o ha, rdr_o ha]
    have v7 : V1 (yD b) 7 = res.2.2.2 5 := by rw [vo _ (by omega)]; exact hY.2.1.1
    have r5 := hY.2.1
    have hc1 : cN V1 := by unfold cN; rw [vo 5 (by decide), w1 5 (by omega)]; exact hc
    have hw1 : wN V1 := by unfold wN; rw [vo 4 (by decide), w1 4 (by omega)]; exact hw
    have hp1 : ∀ i, 0 ≤ V1 6 i ∧ V1 6 i ≤ 127 := by rw [vo 6 (by decide), w1 6 (by omega)]; exact hp
    refine z_aload_n dX10_yard_39 rfl ?_
    refine y_getR fX10_19 dX10_yard_40 (by first | assumption | rfl) (by first | assumption | rfl) ?_
    refine z_aload_n dX10_yard_43 rfl ?_
    refine y_getR fX10_83 dX10_yard_44 (by first | assumption | rfl) hfn ?_
    refine y_getI (j := 7) fX10_107 dX10_yard_47 rfl sy ?_
    rw [v7]
    refine y_callVv (ct_X8_begin (by omega) hc1 hw1 hp1) kX10_110 dX10_yard_50 rfl rfl (by first | assumption | rfl) rfl (by decide) rfl (Nat.le_of_ble_eq_true rfl) (fun V2 h_50 => ?_)
    have k7 : V2 (yD b) 7 = res.2.2.2 5 := by rw [h_50.2.2.2.2.2.2.2.2.2.2 (yD b) (by omega) (by omega) (by omega) (by omega), v7]
    refine z_aload_n dX10_yard_53 rfl ?_
    refine y_getR fX10_26 dX10_yard_54 (by first | assumption | rfl) (by first | assumption | rfl) ?_
    refine y_callVv (ct_X5_forget) kX10_113 dX10_yard_57 rfl rfl (by first | assumption | rfl) rfl (by decide) rfl (Nat.le_of_ble_eq_true rfl) (fun V3 h_57 => ?_)
    subst h_57
    refine z_aload_n dX10_yard_60 rfl ?_
    refine y_getR fX10_33 dX10_yard_61 (by first | assumption | rfl) (by first | assumption | rfl) ?_
    refine y_iconst dX10_yard_64 ?_
    refine y_putZ (j := 2) fX10_116 dX10_yard_65 rfl (by first | assumption | rfl) (by omega) ?_
    refine z_aload_n dX10_yard_68 rfl ?_
    refine y_getR fX10_37 dX10_yard_69 (by first | assumption | rfl) (by first | assumption | rfl) ?_
    refine y_iconst dX10_yard_72 ?_
    refine y_putZ (j := 2) fX10_116 dX10_yard_73 rfl (by first | assumption | rfl) (by omega) ?_
    refine z_aload_n dX10_yard_76 rfl ?_
    refine y_callVv (ct_X10_tearAll) kX10_120 dX10_yard_77 rfl rfl (by first | assumption | rfl) rfl (by decide) rfl (Nat.le_of_ble_eq_true rfl) (fun V4 h_77 => ?_)
    have k7b : V4 (yD b) 7 = res.2.2.2 5 := by
      rw [h_77]
      unfold tearX
      rw [vst_o (by omega), vst_o (by omega), vst_o (by omega), vst_o (by omega), vst_o (by omega), vst_o (by omega), vst_o (by omega), vst_o (by omega)]
      exact k7
    refine z_aload_n dX10_yard_80 rfl ?_
    refine y_getR fX10_83 dX10_yard_81 (by first | assumption | rfl) hfn ?_
    refine y_getI (j := 7) fX10_107 dX10_yard_84 rfl sy ?_
    rw [k7b]
    exact z_iret dX10_yard_87 rfl (Nat.le_refl 0) (Nat.le_refl 0) ⟨_, V4, !b, rfl, rfl, res, hres, Or.inr ⟨by omega, rfl, rfl, V1, V2, h1, h_50, h_77⟩⟩
  refine zC_of (by decide +kernel) (Nat.le_of_ble_eq_true rfl) rfl ?_
  refine z_aload_n dX10_yard_0 rfl ?_
  refine y_getR fX10_10 dX10_yard_1 (by first | assumption | rfl) (by first | assumption | rfl) ?_
  refine z_aload_n dX10_yard_4 rfl ?_
  refine y_getR fX10_87 dX10_yard_5 (by first | assumption | rfl) hf2 ?_
  refine y_callVi (hri) kX10_103 dX10_yard_8 rfl rfl (by first | assumption | rfl) rfl (by decide) rfl (Nat.le_of_ble_eq_true rfl) (fun q_8 V1 h_8 => ?_)
  have hq8 : 0 ≤ q_8 ∧ q_8 ≤ 4 ∧ res.1 = q_8 := by
    obtain ⟨U, s', m', f', g', e1, w1, w2, w3, w4, w5, w6⟩ := h_8
    omega
  refine z_istore_n dX10_yard_11 (by decide) rfl rfl ?_
  refine z_iload_n dX10_yard_12 rfl ?_
  refine y_if_eq dX10_yard_13 (by omega) (fun c_13 => ?_) (fun c_13 => ?_)
  · have hq0 : q_8 = 0 := by omega
    rw [hq0] at h_8
    have haf := after V1 (some (.int (iI q_8))) h_8
    refine z_aload_n dX10_yard_21 rfl ?_
    refine y_getR fX10_83 dX10_yard_22 (by first | assumption | rfl) (by first | assumption | rfl) ?_
    refine z_astore_n dX10_yard_25 (by decide) rfl rfl ?_
    refine z_aload_n dX10_yard_26 rfl ?_
    refine z_aload_n dX10_yard_27 rfl ?_
    refine y_getR fX10_87 dX10_yard_28 (by first | assumption | rfl) hf2 ?_
    refine z_putR fX10_83 dX10_yard_31 rfl (fun _ => rfl) (fun _ => rfl) ?_
    refine z_aload_n dX10_yard_34 rfl ?_
    refine z_aload_n dX10_yard_35 rfl ?_
    refine z_putR fX10_87 dX10_yard_36 rfl (fun _ => rfl) (fun _ => rfl) ?_
    rw [Fs_swap]
    exact haf
  · refine y_bipush dX10_yard_16 (by decide +kernel) ?_
    refine z_iload_n dX10_yard_18 rfl ?_
    refine y_isub dX10_yard_19 ?_
    exact z_iret dX10_yard_20 rfl (Nat.le_refl 0) (Nat.le_refl 0) ⟨_, V1, b, rfl, rfl, res, hres, Or.inl ⟨by omega, rfl, by omega, by rw [hq8.2.2]; exact h_8⟩⟩
end

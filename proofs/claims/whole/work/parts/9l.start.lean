/-! ===== where both begin ===== -/
section
variable {R : Room} {B : zBt} {Y : zMD} {pc : Nat} {L : List (Option Value)} {st : List Value} {cu su : Nat} {S : List zSh} {V : Nat → Int → Int} {F F' : Nat → Nat → Option Nat}
theorem zE_F (h : ∀ a ci, S[a]? = some (.inl ci) → ∀ k, k < (tcl.getD ci []).length → F' a k = F a k) (h2 : ∀ a t m, S[a]? = some (.inr (t + 2, m)) → F' a = F a) (kk : zE R B Y pc L st cu su (mk S V F')) : zE R B Y pc L st cu su (mk S V F) := by
  refine zE_congr (M' := mk S V F') rfl (fun cc z a sh hs => ?_) kk
  have hs : S[a]? = some sh := hs
  match sh, hs with
  | .inl ci, hs =>
    show Sum.inr (ci, zfs z (mk S V F') a ci) = Sum.inr (ci, zfs z (mk S V F) a ci)
    have e : zfs z (mk S V F') a ci = zfs z (mk S V F) a ci := by
      unfold zfs
      apply List.ext_getElem?
      intro i
      simp only [List.getElem?_mapIdx]
      cases ht : (tcl.getD ci [])[i]? with
      | none => rfl
      | some t =>
        have hi : i < (tcl.getD ci []).length := by
          by_cases hh : i < (tcl.getD ci []).length
          · exact hh
          · rw [List.getElem?_eq_none (by omega)] at ht; cases ht
        have := h a ci hs i hi
        show some (zfv z (mk S V F') a i t) = some (zfv z (mk S V F) a i t)
        unfold zfv
        match t with
        | 0 => rfl
        | 1 => rfl
        | t + 2 =>
          show some (va_rf ((F' a i).map (fun q => z + q))) = some (va_rf ((F a i).map (fun q => z + q)))
          rw [this]
    rw [e]
  | .inr (0, m), hs => rfl
  | .inr (1, m), hs => rfl
  | .inr (t + 2, m), hs =>
    exact congrFun (zce_congr (M := mk S V F) (M' := mk S V F') rfl rfl (h2 a t m hs)) _
end
def Sx : List zSh := iS10 [Sum.inl 10]
def Vx : Nat → Int → Int := iV10 (fun _ _ => 0) 0 1
def Fx : Nat → Nat → Option Nat := iF10 (fun _ _ => none) 0 1
def Sm : List zSh := Sx ++ [Sum.inl 11]
def Fm : Nat → Nat → Option Nat := iF11 Fx 134 135
def Vm : Nat → Int → Int := iV11 Vx 134
def V00 : Nat → Int → Int := bgM Vm
theorem Sx_len : Sx.length = 134 := by decide +kernel
theorem Sm_134 : Sm[134]? = some (Sum.inl 11) := by decide +kernel
theorem S0_eq : iS11 Sm = S0 := by decide +kernel
theorem S0_len : S0.length = 158 := by decide +kernel
theorem tcl36 (ci : Nat) : (tcl.getD ci []).length ≤ 36 := by
  by_cases h : ci < 12
  · have : ∀ c : Nat, c < 12 → (tcl.getD c []).length ≤ 36 := by decide +kernel
    exact this ci h
  · have hl : tcl.length = 12 := by decide +kernel
    rw [List.getD_eq_getElem?_getD, List.getElem?_eq_none (by omega)]
    exact Nat.zero_le _
theorem Fm_Fs : ∀ a : Nat, a < 158 → ∀ k : Nat, k < 40 → Fs false a k = Fm a k := by decide +kernel
theorem S0_ring : ∀ a : Nat, a < 158 → a ≠ 8 → (match S0[a]? with | some (Sum.inr (t, _)) => decide (t < 2) | _ => true) = true := by decide +kernel
theorem pF5_hi {F : Nat → Nat → Option Nat} {p : Nat} : ∀ i j : Nat, i ≤ j → pF5 F p i p j = F p j
  | 0, j, _ => rfl
  | i + 1, j, h => by
    have ih := pF5_hi (F := F) (p := p) i j (by omega)
    show fu (iF8 (pF5 F p i) (p + 1 + 4 * i) (p + 2 + 4 * i)) p i (p + 1 + 4 * i) p j = _
    unfold fu
    rw [zup_s]
    have e : va_up (iF8 (pF5 F p i) (p + 1 + 4 * i) (p + 2 + 4 * i) p) i (some (p + 1 + 4 * i)) j = iF8 (pF5 F p i) (p + 1 + 4 * i) (p + 2 + 4 * i) p j := by
      have : j ≠ i := by omega
      simp [va_up, this]
    rw [e]
    unfold iF8
    rw [fu_o (by omega), fu_o (by omega), fu_o (by omega)]
    exact ih
theorem iF0_o {F : Nat → Nat → Option Nat} {a n p : Nat} (h : p ≠ a) : iF0 F a n p = F p := by unfold iF0; rw [fu_o h, fu_o h, fu_o h, fu_o h]
theorem iF2_o {F : Nat → Nat → Option Nat} {a n p : Nat} (h : p ≠ a) : iF2 F a n p = F p := by unfold iF2; rw [fu_o h, fu_o h, fu_o h]
theorem iF4_o {F : Nat → Nat → Option Nat} {a n p : Nat} (h : p ≠ a) : iF4 F a n p = F p := by unfold iF4; rw [fu_o h, fu_o h, fu_o h]
theorem iF6_o {F : Nat → Nat → Option Nat} {a n p : Nat} (h : p ≠ a) : iF6 F a n p = F p := by unfold iF6; rw [fu_o h, fu_o h]
theorem iF7_o {F : Nat → Nat → Option Nat} {a n p : Nat} (h : p ≠ a) : iF7 F a n p = F p := by unfold iF7; rw [fu_o h]
theorem iF8_o {F : Nat → Nat → Option Nat} {a n p : Nat} (h : p ≠ a) : iF8 F a n p = F p := by unfold iF8; rw [fu_o h, fu_o h, fu_o h]
theorem iF9_o {F : Nat → Nat → Option Nat} {a n p : Nat} (h : p ≠ a) : iF9 F a n p = F p := by unfold iF9; rw [fu_o h, fu_o h, fu_o h, fu_o h, fu_o h, fu_o h]
theorem iF3_o {F : Nat → Nat → Option Nat} {a n p : Nat} (h : p ≠ a) (h2 : p ≠ n) : iF3 F a n p = F p := by unfold iF3; rw [fu_o h, iF8_o h2]
theorem iF1_o {F : Nat → Nat → Option Nat} {a n p : Nat} : iF1 F a n p = F p := rfl
theorem Fx_8 : ∀ j : Nat, 20 ≤ j → Fx 8 j = none := fun j hj => by
  unfold Fx iF10
  rw [fu_o (by decide), iF9_o (by decide), fu_o (by decide), iF9_o (by decide), fu_o (by decide), iF2_o (by decide), fu_o (by decide), iF6_o (by decide), fu_o (by decide), iF0_o (by decide), fu_o (by decide), iF4_o (by decide), fu_o (by decide), iF4_o (by decide), fu_o (by decide), iF1_o, fu_o (by decide), iF3_o (by decide) (by decide), fu_o (by decide), iF3_o (by decide) (by decide), fu_o (by decide)]
  unfold iF5
  rw [pF5_hi 20 j hj, fu_o (by decide), fu_o (by decide), iF8_o (by decide), fu_o (by decide), iF7_o (by decide)]
theorem Fm_8 : Fs false 8 = Fm 8 := by
  funext j
  by_cases hj : j < 40
  · exact Fm_Fs 8 (by decide) j hj
  · have h1 : Fm 8 j = none := by
      unfold Fm iF11
      rw [fu_o (by decide), fu_o (by decide), fu_o (by decide), fu_o (by decide), fu_o (by decide), fu_o (by decide), fu_o (by decide), fu_o (by decide), fu_o (by decide), fu_o (by decide), fu_o (by decide), fu_o (by decide), fu_o (by decide), fu_o (by decide), fu_o (by decide), fu_o (by decide), fu_o (by decide), fu_o (by decide), fu_o (by decide), fu_o (by decide), fu_o (by decide), fu_o (by decide), fu_o (by decide)]
      exact Fx_8 j (by omega)
    rw [h1]
    obtain ⟨i, rfl⟩ : ∃ i, j = i + 40 := ⟨j - 40, by omega⟩
    rfl
theorem ct_X11_init (hz : Zb 135 Vx Fx) : zC 2 23 1643 mX11_init [.ref 134] (mk Sm Vx Fx) (fun v M => v = none ∧ M = mk S0 V00 (Fs false)) := by
  refine zC_of (by decide +kernel) (Nat.le_of_ble_eq_true rfl) rfl ?_
  refine X11_mid (n := 135) (by unfold Sm; rw [List.length_append, Sx_len]; rfl) Sm_134 hz ?_
  rw [S0_eq]
  refine zE_F (F' := Fs false) (fun a ci hs k hk => ?_) (fun a t m hs => ?_) ?_
  · have hl : a < S0.length := by
      by_cases hh : a < S0.length
      · exact hh
      · rw [List.getElem?_eq_none (by omega)] at hs; cases hs
    rw [S0_len] at hl
    exact Fm_Fs a hl k (by have := tcl36 ci; omega)
  · have hl : a < S0.length := by
      by_cases hh : a < S0.length
      · exact hh
      · rw [List.getElem?_eq_none (by omega)] at hs; cases hs
    rw [S0_len] at hl
    by_cases h8 : a = 8
    · rw [h8]; exact Fm_8
    · have := S0_ring a hl h8
      rw [hs] at this
      have h3 := of_decide_eq_true this
      omega
  · refine z_aload_n dX11_init_192 rfl ?_
    refine z_callV (ct_X11_begins (V := Vm) (b := false)) kX11_84 dX11_init_193 rfl rfl rfl rfl ⟨Nat.le_of_ble_eq_true rfl, Nat.le_of_ble_eq_true rfl⟩ (Nat.le_of_ble_eq_true rfl) (Nat.le_of_ble_eq_true rfl) (Nat.le_of_ble_eq_true rfl) (fun v M h => ?_)
    obtain ⟨V', h1, h2, h3⟩ := h
    rw [h1, h2, h3]
    exact z_vret dX11_init_196 rfl (Nat.le_of_ble_eq_true rfl) (Nat.le_of_ble_eq_true rfl) ⟨rfl, rfl⟩

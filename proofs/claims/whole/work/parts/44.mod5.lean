/-! ===== GrudgeYardModel: laws, next, begins ===== -/
section
variable {V : Nat → Int → Int} {b : Bool}
/-- of the first n pairs of kinds 0 to 4: does none with a circus kick; how many kick; how many are free -/
def lvM (T : Int → Int) (m n : Nat) : Int := trM T ((n / 5 : Nat) : Int) ((n % 5 : Nat) : Int) m
abbrev ciM (n : Nat) : Prop := n / 5 = 4 ∨ n % 5 = 4
def lwW (T : Int → Int) (m : Nat) : Nat → Int
  | 0 => 1
  | n + 1 => if lwW T m n ≠ 0 ∧ (¬ ciM n ∨ lvM T m n ≠ 1) then 1 else 0
def lwK (T : Int → Int) (m : Nat) : Nat → Int
  | 0 => 0
  | n + 1 => lwK T m n + if ¬ ciM n ∧ lvM T m n = 1 then 1 else 0
def lwF (T : Int → Int) (m : Nat) : Nat → Int
  | 0 => 0
  | n + 1 => lwF T m n + if ¬ ciM n ∧ lvM T m n = -1 then 1 else 0
theorem lwW_01 (T : Int → Int) (m n : Nat) : lwW T m n = 0 ∨ lwW T m n = 1 := by
  cases n with
  | zero => exact Or.inr rfl
  | succ n => unfold lwW; split <;> simp
theorem lwKF_rg (T : Int → Int) (m : Nat) : ∀ n : Nat, 0 ≤ lwK T m n ∧ 0 ≤ lwF T m n ∧ lwK T m n + lwF T m n ≤ n
  | 0 => by simp [lwK, lwF]
  | n + 1 => by
    have := lwKF_rg T m n
    unfold lwK lwF
    repeat' split
    all_goals omega
def cz : Nat → Int
  | 0 => 0
  | n + 1 => cz n + if ciM n then 0 else 1
/-- at most 16 pairs are without a circus -/
theorem lwKF_16 (T : Int → Int) (m : Nat) : lwK T m 25 + lwF T m 25 ≤ 16 := by
  have key : ∀ n : Nat, lwK T m n + lwF T m n ≤ cz n := by
    intro n
    induction n with
    | zero => simp [lwK, lwF, cz]
    | succ n ih =>
      unfold lwK lwF cz
      by_cases hc : ciM n
      · rw [if_neg (fun h => h.1 hc), if_neg (fun h => h.1 hc), if_pos hc]
        omega
      · rw [if_neg hc]
        repeat' split
        all_goals omega
  have h := key 25
  have e : cz 25 = 16 := by decide +kernel
  rw [e] at h
  exact h
/-- ways to choose, step by step, as the model counts them -/
def mch (f : Int) : Nat → Int
  | 0 => 1
  | j + 1 => mch f j * (f - (j + 1 : Nat) + 1) / (j + 1 : Nat)
theorem mch_rg : ∀ f : Nat, f ≤ 16 → ∀ j : Nat, j ≤ f → 1 ≤ mch f j ∧ mch f j ≤ 20000 := by decide +kernel
abbrev lwP (V : Nat → Int → Int) (n q : Int) : Prop := ((n < -1 ∨ 16 < n) ∧ q = -1000000002) ∨ (n = -1 ∧ q = if lwW (V 142) (V 134 12).toNat 25 = 0 then -1 else lwK (V 142) (V 134 12).toNat 25) ∨ ((0 ≤ n ∧ n ≤ 16) ∧ ((lwW (V 142) (V 134 12).toNat 25 = 0 ∨ ¬ (lwK (V 142) (V 134 12).toNat 25 ≤ n ∧ n ≤ lwK (V 142) (V 134 12).toNat 25 + lwF (V 142) (V 134 12).toNat 25)) ∧ q = 0 ∨ (lwW (V 142) (V 134 12).toNat 25 ≠ 0 ∧ (lwK (V 142) (V 134 12).toNat 25 ≤ n ∧ n ≤ lwK (V 142) (V 134 12).toNat 25 + lwF (V 142) (V 134 12).toNat 25)) ∧ q = mch (lwF (V 142) (V 134 12).toNat 25) (n - lwK (V 142) (V 134 12).toNat 25).toNat))
theorem ct_X11_laws {n : Int} (hn : rg n) (hT : TS V) : yC 2 mX11_laws [.ref 134, .int (iI n)] V b (pR b V (lwP V n)) := by
  obtain ⟨t0, t1⟩ := id hT
  have hKF := lwKF_rg (V 142) (V 134 12).toNat 25
  have h16 := lwKF_16 (V 142) (V 134 12).toNat
  have hW := lwW_01 (V 142) (V 134 12).toNat 25
  have ways : ∀ (t j : Nat) (w4 : Int) (a7 a8 : Option Value), (0 ≤ n ∧ n ≤ 16) → lwW (V 142) (V 134 12).toNat 25 ≠ 0 → (lwK (V 142) (V 134 12).toNat 25 ≤ n ∧ n ≤ lwK (V 142) (V 134 12).toNat 25 + lwF (V 142) (V 134 12).toNat 25) → (j : Int) + t = n - lwK (V 142) (V 134 12).toNat 25 → yE 2 (pR b V (lwP V n)) mX11_laws 187 [some (.ref 134), some (.int (iI n)), some (.int (iI (lwK (V 142) (V 134 12).toNat 25))), some (.int (iI (lwF (V 142) (V 134 12).toNat 25))), some (.int (iI w4)), some (.int (iI (mch (lwF (V 142) (V 134 12).toNat 25) j))), some (.int (iI (1 + (j : Nat)))), a7, a8] [] V b := by
    intro t
    induction t with
    | zero =>
      intro j w4 a7 a8 h1 h2 h3 h4
      refine z_iload dX11_laws_187 rfl ?_
      refine z_iload_n dX11_laws_189 rfl ?_
      refine z_iload_n dX11_laws_190 rfl ?_
      refine y_isub dX11_laws_191 ?_
      refine y_icmp_gt dX11_laws_192 (by omega) (by omega) (fun c_192 => ?_) (fun c_192 => ?_)
      · refine z_iload dX11_laws_215 rfl ?_
        exact z_iret dX11_laws_217 rfl (Nat.le_refl 0) (Nat.le_refl 0) ⟨_, rfl, rfl, Or.inr (Or.inr ⟨h1, Or.inr ⟨⟨h2, h3⟩, by rw [show (n - lwK (V 142) (V 134 12).toNat 25).toNat = j by omega]⟩⟩)⟩
      · omega
    | succ t ih =>
      intro j w4 a7 a8 h1 h2 h3 h4
      have hr := mch_rg (lwF (V 142) (V 134 12).toNat 25).toNat (by omega) j (by omega)
      rw [Int.toNat_of_nonneg hKF.2.1] at hr
      have hih := ih (j + 1) w4 a7 a8 h1 h2 h3 (by omega)
      have hm : 0 ≤ mch (lwF (V 142) (V 134 12).toNat 25) j * (lwF (V 142) (V 134 12).toNat 25 - (1 + (j : Int)) + 1) ∧ mch (lwF (V 142) (V 134 12).toNat 25) j * (lwF (V 142) (V 134 12).toNat 25 - (1 + (j : Int)) + 1) ≤ 2147483647 := by
        have a1 : 0 ≤ lwF (V 142) (V 134 12).toNat 25 - (1 + (j : Int)) + 1 ∧ lwF (V 142) (V 134 12).toNat 25 - (1 + (j : Int)) + 1 ≤ 16 := by omega
        constructor
        · exact Int.mul_nonneg (by omega) a1.1
        · have := Int.mul_le_mul hr.2 a1.2 a1.1 (by omega)
          omega
      have e : mch (lwF (V 142) (V 134 12).toNat 25) (j + 1) = mch (lwF (V 142) (V 134 12).toNat 25) j * (lwF (V 142) (V 134 12).toNat 25 - (1 + (j : Int)) + 1) / (1 + (j : Int)) := by
        show mch (lwF (V 142) (V 134 12).toNat 25) j * (lwF (V 142) (V 134 12).toNat 25 - ((j + 1 : Nat) : Int) + 1) / ((j + 1 : Nat) : Int) = _
        rw [show ((j + 1 : Nat) : Int) = 1 + (j : Int) by omega]
      rw [e, show (1 : Int) + ((j + 1 : Nat) : Int) = 1 + (j : Int) + 1 by omega] at hih
      refine z_iload dX11_laws_187 rfl ?_
      refine z_iload_n dX11_laws_189 rfl ?_
      refine z_iload_n dX11_laws_190 rfl ?_
      refine y_isub dX11_laws_191 ?_
      refine y_icmp_gt dX11_laws_192 (by omega) (by omega) (fun c_192 => ?_) (fun c_192 => ?_)
      · omega
      · refine z_iload dX11_laws_195 rfl ?_
        refine z_iload_n dX11_laws_197 rfl ?_
        refine z_iload dX11_laws_198 rfl ?_
        refine y_isub dX11_laws_200 ?_
        refine y_iconst dX11_laws_201 ?_
        refine y_iadd dX11_laws_202 ?_
        refine y_imul dX11_laws_203 ?_
        refine z_iload dX11_laws_204 rfl ?_
        refine y_idiv dX11_laws_206 (by omega) (by omega) ?_
        refine z_istore dX11_laws_207 (by decide) rfl rfl ?_
        refine y_iinc dX11_laws_209 rfl (by decide) rfl rfl ?_
        refine z_goto dX11_laws_212 ?_
        exact hih
  have fin : ∀ (a5 a6 a7 a8 : Option Value), (-1 ≤ n ∧ n ≤ 16) → yE 2 (pR b V (lwP V n)) mX11_laws 144 [some (.ref 134), some (.int (iI n)), some (.int (iI (lwK (V 142) (V 134 12).toNat 25))), some (.int (iI (lwF (V 142) (V 134 12).toNat 25))), some (.int (iI (lwW (V 142) (V 134 12).toNat 25))), a5, a6, a7, a8] [] V b := by
    intro a5 a6 a7 a8 h1
    refine z_iload_n dX11_laws_144 rfl ?_
    refine y_iconst dX11_laws_145 ?_
    refine y_icmp_ne dX11_laws_146 (by omega) (by omega) (fun c_146 => ?_) (fun c_146 => ?_)
    · refine z_iload dX11_laws_160 rfl ?_
      refine y_if_eq dX11_laws_162 (by omega) (fun c_162 => ?_) (fun c_162 => ?_)
      · refine y_iconst dX11_laws_179 ?_
        exact z_iret dX11_laws_180 rfl (Nat.le_refl 0) (Nat.le_refl 0) ⟨_, rfl, rfl, Or.inr (Or.inr ⟨by omega, Or.inl ⟨by omega, rfl⟩⟩)⟩
      · refine z_iload_n dX11_laws_165 rfl ?_
        refine y_i2l dX11_laws_166 (by omega) ?_
        refine z_iload_n dX11_laws_167 rfl ?_
        refine y_i2l dX11_laws_168 (by omega) ?_
        refine z_iload_n dX11_laws_169 rfl ?_
        refine z_iload_n dX11_laws_170 rfl ?_
        refine y_iadd dX11_laws_171 ?_
        refine y_i2l dX11_laws_172 (by omega) ?_
        refine y_callSr (ct_X11_in (by omega) (by omega) (by omega)) kX11_101 dX11_laws_173 rfl rfl (by decide) rfl (Nat.le_of_ble_eq_true rfl) (fun r_173 h_173 => ?_)
        refine y_if_ne dX11_laws_176 (by omega) (fun c_176 => ?_) (fun c_176 => ?_)
        · refine y_iconst dX11_laws_181 ?_
          refine z_istore dX11_laws_182 (by decide) rfl rfl ?_
          refine y_iconst dX11_laws_184 ?_
          refine z_istore dX11_laws_185 (by decide) rfl rfl ?_
          exact ways (n - lwK (V 142) (V 134 12).toNat 25).toNat 0 _ _ _ (by omega) (by omega) (by omega) (by omega)
        · refine y_iconst dX11_laws_179 ?_
          exact z_iret dX11_laws_180 rfl (Nat.le_refl 0) (Nat.le_refl 0) ⟨_, rfl, rfl, Or.inr (Or.inr ⟨by omega, Or.inl ⟨by omega, rfl⟩⟩)⟩
    · refine z_iload dX11_laws_149 rfl ?_
      refine y_if_eq dX11_laws_151 (by omega) (fun c_151 => ?_) (fun c_151 => ?_)
      · refine y_iconst dX11_laws_158 ?_
        exact z_iret dX11_laws_159 rfl (Nat.le_refl 0) (Nat.le_refl 0) ⟨_, rfl, rfl, Or.inr (Or.inl ⟨by omega, by first | rw [if_pos c_151] | rw [if_neg c_151]⟩)⟩
      · refine z_iload_n dX11_laws_154 rfl ?_
        refine z_goto dX11_laws_155 ?_
        exact z_iret dX11_laws_159 rfl (Nat.le_refl 0) (Nat.le_refl 0) ⟨_, rfl, rfl, Or.inr (Or.inl ⟨by omega, by first | rw [if_pos c_151] | rw [if_neg c_151]⟩)⟩
  have loop : ∀ (t a c : Nat) (a7 a8 : Option Value), (-1 ≤ n ∧ n ≤ 16) → a < 5 → c ≤ 5 → (5 - a) * 6 - c ≤ t → yE 2 (pR b V (lwP V n)) mX11_laws 36 [some (.ref 134), some (.int (iI n)), some (.int (iI (lwK (V 142) (V 134 12).toNat (5 * a + c)))), some (.int (iI (lwF (V 142) (V 134 12).toNat (5 * a + c)))), some (.int (iI (lwW (V 142) (V 134 12).toNat (5 * a + c)))), some (.int (iI (a : Nat))), some (.int (iI (c : Nat))), a7, a8] [] V b := by
    intro t
    induction t with
    | zero => intro a c a7 a8 h0 h1 h2 h3; omega
    | succ t ih =>
      intro a c a7 a8 h0 h1 h2 h3
      have kf := lwKF_rg (V 142) (V 134 12).toNat (5 * a + c)
      have w01 := lwW_01 (V 142) (V 134 12).toNat (5 * a + c)
      have hv := trM_rg (a := (a : Int)) (c := (c : Int)) t1 (V 134 12).toNat
      have hih : c < 5 → ∀ a7 a8, yE 2 (pR b V (lwP V n)) mX11_laws 36 [some (.ref 134), some (.int (iI n)), some (.int (iI (lwK (V 142) (V 134 12).toNat (5 * a + (c + 1))))), some (.int (iI (lwF (V 142) (V 134 12).toNat (5 * a + (c + 1))))), some (.int (iI (lwW (V 142) (V 134 12).toNat (5 * a + (c + 1))))), some (.int (iI (a : Nat))), some (.int (iI ((c : Int) + 1))), a7, a8] [] V b := fun hc a7 a8 => by
        have := ih a (c + 1) a7 a8 h0 h1 (by omega) (by omega)
        rw [show ((c + 1 : Nat) : Int) = (c : Int) + 1 by omega] at this
        exact this
      have hi2 : c < 5 → (5 * a + c) / 5 = a ∧ (5 * a + c) % 5 = c := fun hc => by omega
      have hcirc : c < 5 → (ciM (5 * a + c) ↔ ((a : Int) = 4 ∨ (c : Int) = 4)) := fun hc => by unfold ciM; rw [(hi2 hc).1, (hi2 hc).2]; omega
      have hlv : c < 5 → lvM (V 142) (V 134 12).toNat (5 * a + c) = trM (V 142) (a : Int) (c : Int) (V 134 12).toNat := fun hc => by unfold lvM; rw [(hi2 hc).1, (hi2 hc).2]
      have eW : lwW (V 142) (V 134 12).toNat (5 * a + (c + 1)) = if lwW (V 142) (V 134 12).toNat (5 * a + c) ≠ 0 ∧ (¬ ciM (5 * a + c) ∨ lvM (V 142) (V 134 12).toNat (5 * a + c) ≠ 1) then 1 else 0 := rfl
      have eK : lwK (V 142) (V 134 12).toNat (5 * a + (c + 1)) = lwK (V 142) (V 134 12).toNat (5 * a + c) + if ¬ ciM (5 * a + c) ∧ lvM (V 142) (V 134 12).toNat (5 * a + c) = 1 then 1 else 0 := rfl
      have eF : lwF (V 142) (V 134 12).toNat (5 * a + (c + 1)) = lwF (V 142) (V 134 12).toNat (5 * a + c) + if ¬ ciM (5 * a + c) ∧ lvM (V 142) (V 134 12).toNat (5 * a + c) = -1 then 1 else 0 := rfl
      have goOn : ∀ (w k f : Int) (a7 a8 : Option Value), c < 5 → w = lwW (V 142) (V 134 12).toNat (5 * a + (c + 1)) → k = lwK (V 142) (V 134 12).toNat (5 * a + (c + 1)) → f = lwF (V 142) (V 134 12).toNat (5 * a + (c + 1)) → yE 2 (pR b V (lwP V n)) mX11_laws 132 [some (.ref 134), some (.int (iI n)), some (.int (iI k)), some (.int (iI f)), some (.int (iI w)), some (.int (iI (a : Nat))), some (.int (iI (c : Nat))), a7, a8] [] V b := by
        intro w k f a7 a8 hc e1 e2 e3
        subst e1 e2 e3
        have hh := hih hc a7 a8
        refine y_iinc dX11_laws_132 rfl (by decide) rfl rfl ?_
        refine z_goto dX11_laws_135 ?_
        exact hh
      have close : ∀ (i w x : Int) (a7 a8 : Option Value), c < 5 → (i = 1 ↔ ciM (5 * a + c)) → (i = 0 ∨ i = 1) → x = trM (V 142) (a : Int) (c : Int) (V 134 12).toNat → w = lwW (V 142) (V 134 12).toNat (5 * a + (c + 1)) → yE 2 (pR b V (lwP V n)) mX11_laws 94 [some (.ref 134), some (.int (iI n)), some (.int (iI (lwK (V 142) (V 134 12).toNat (5 * a + c)))), some (.int (iI (lwF (V 142) (V 134 12).toNat (5 * a + c)))), some (.int (iI w)), some (.int (iI (a : Nat))), some (.int (iI (c : Nat))), some (.int (iI x)), some (.int (iI i))] [] V b := by
        intro i w x a7 a8 hc e1 e01 ex ew
        have hx : lvM (V 142) (V 134 12).toNat (5 * a + c) = x := by rw [hlv hc, ex]
        rw [hx] at eK eF
        rw [← ex] at hv
        have kk1 : i = 0 → x = 1 → lwK (V 142) (V 134 12).toNat (5 * a + (c + 1)) = lwK (V 142) (V 134 12).toNat (5 * a + c) + 1 := fun h1 h2 => by rw [eK, if_pos ⟨fun h => by have := e1.2 h; omega, h2⟩]
        have kk0 : (i ≠ 0 ∨ x ≠ 1) → lwK (V 142) (V 134 12).toNat (5 * a + (c + 1)) = lwK (V 142) (V 134 12).toNat (5 * a + c) + 0 := fun h1 => by rw [eK, if_neg (fun h => by rcases h1 with h1 | h1; exact h.1 (e1.1 (by omega)); exact h1 h.2)]
        have ff1 : i = 0 → x = -1 → lwF (V 142) (V 134 12).toNat (5 * a + (c + 1)) = lwF (V 142) (V 134 12).toNat (5 * a + c) + 1 := fun h1 h2 => by rw [eF, if_pos ⟨fun h => by have := e1.2 h; omega, h2⟩]
        have ff0 : (i ≠ 0 ∨ x ≠ -1) → lwF (V 142) (V 134 12).toNat (5 * a + (c + 1)) = lwF (V 142) (V 134 12).toNat (5 * a + c) + 0 := fun h1 => by rw [eF, if_neg (fun h => by rcases h1 with h1 | h1; exact h.1 (e1.1 (by omega)); exact h1 h.2)]
        refine z_iload_n dX11_laws_94 rfl ?_
        refine z_iload dX11_laws_95 rfl ?_
        refine y_if_ne dX11_laws_97 (by omega) (fun c_97 => ?_) (fun c_97 => ?_)
        · have hk := kk0 (Or.inl c_97)
          refine y_iconst dX11_laws_110 ?_
          refine y_iadd dX11_laws_111 ?_
          refine z_istore_n dX11_laws_112 (by decide) rfl rfl ?_
          refine z_iload_n dX11_laws_113 rfl ?_
          refine z_iload dX11_laws_114 rfl ?_
          refine y_if_ne dX11_laws_116 (by omega) (fun c_116 => ?_) (fun c_116 => ?_)
          · have hf := ff0 (Or.inl c_116)
            refine y_iconst dX11_laws_129 ?_
            refine y_iadd dX11_laws_130 ?_
            refine z_istore_n dX11_laws_131 (by decide) rfl rfl ?_
            exact goOn _ _ _ _ _ hc ew hk.symm hf.symm
          · refine z_iload dX11_laws_119 rfl ?_
            refine y_iconst dX11_laws_121 ?_
            refine y_icmp_ne dX11_laws_122 (by omega) (by omega) (fun c_122 => ?_) (fun c_122 => ?_)
            · have hf := ff0 (Or.inr c_122)
              refine y_iconst dX11_laws_129 ?_
              refine y_iadd dX11_laws_130 ?_
              refine z_istore_n dX11_laws_131 (by decide) rfl rfl ?_
              exact goOn _ _ _ _ _ hc ew hk.symm hf.symm
            · have hf := ff1 c_116 c_122
              refine y_iconst dX11_laws_125 ?_
              refine z_goto dX11_laws_126 ?_
              refine y_iadd dX11_laws_130 ?_
              refine z_istore_n dX11_laws_131 (by decide) rfl rfl ?_
              exact goOn _ _ _ _ _ hc ew hk.symm hf.symm
        · refine z_iload dX11_laws_100 rfl ?_
          refine y_iconst dX11_laws_102 ?_
          refine y_icmp_ne dX11_laws_103 (by omega) (by omega) (fun c_103 => ?_) (fun c_103 => ?_)
          · have hk := kk0 (Or.inr c_103)
            refine y_iconst dX11_laws_110 ?_
            refine y_iadd dX11_laws_111 ?_
            refine z_istore_n dX11_laws_112 (by decide) rfl rfl ?_
            refine z_iload_n dX11_laws_113 rfl ?_
            refine z_iload dX11_laws_114 rfl ?_
            refine y_if_ne dX11_laws_116 (by omega) (fun c_116 => ?_) (fun c_116 => ?_)
            · have hf := ff0 (Or.inl c_116)
              refine y_iconst dX11_laws_129 ?_
              refine y_iadd dX11_laws_130 ?_
              refine z_istore_n dX11_laws_131 (by decide) rfl rfl ?_
              exact goOn _ _ _ _ _ hc ew hk.symm hf.symm
            · refine z_iload dX11_laws_119 rfl ?_
              refine y_iconst dX11_laws_121 ?_
              refine y_icmp_ne dX11_laws_122 (by omega) (by omega) (fun c_122 => ?_) (fun c_122 => ?_)
              · have hf := ff0 (Or.inr c_122)
                refine y_iconst dX11_laws_129 ?_
                refine y_iadd dX11_laws_130 ?_
                refine z_istore_n dX11_laws_131 (by decide) rfl rfl ?_
                exact goOn _ _ _ _ _ hc ew hk.symm hf.symm
              · have hf := ff1 c_116 c_122
                refine y_iconst dX11_laws_125 ?_
                refine z_goto dX11_laws_126 ?_
                refine y_iadd dX11_laws_130 ?_
                refine z_istore_n dX11_laws_131 (by decide) rfl rfl ?_
                exact goOn _ _ _ _ _ hc ew hk.symm hf.symm
          · have hk := kk1 c_97 c_103
            refine y_iconst dX11_laws_106 ?_
            refine z_goto dX11_laws_107 ?_
            refine y_iadd dX11_laws_111 ?_
            refine z_istore_n dX11_laws_112 (by decide) rfl rfl ?_
            refine z_iload_n dX11_laws_113 rfl ?_
            refine z_iload dX11_laws_114 rfl ?_
            refine y_if_ne dX11_laws_116 (by omega) (fun c_116 => ?_) (fun c_116 => ?_)
            · have hf := ff0 (Or.inl c_116)
              refine y_iconst dX11_laws_129 ?_
              refine y_iadd dX11_laws_130 ?_
              refine z_istore_n dX11_laws_131 (by decide) rfl rfl ?_
              exact goOn _ _ _ _ _ hc ew hk.symm hf.symm
            · refine z_iload dX11_laws_119 rfl ?_
              refine y_iconst dX11_laws_121 ?_
              refine y_icmp_ne dX11_laws_122 (by omega) (by omega) (fun c_122 => ?_) (fun c_122 => ?_)
              · have hf := ff0 (Or.inr c_122)
                refine y_iconst dX11_laws_129 ?_
                refine y_iadd dX11_laws_130 ?_
                refine z_istore_n dX11_laws_131 (by decide) rfl rfl ?_
                exact goOn _ _ _ _ _ hc ew hk.symm hf.symm
              · have hf := ff1 c_116 c_122
                refine y_iconst dX11_laws_125 ?_
                refine z_goto dX11_laws_126 ?_
                refine y_iadd dX11_laws_130 ?_
                refine z_istore_n dX11_laws_131 (by decide) rfl rfl ?_
                exact goOn _ _ _ _ _ hc ew hk.symm hf.symm
      refine z_iload dX11_laws_36 rfl ?_
      refine y_iconst dX11_laws_38 ?_
      refine y_icmp_ge dX11_laws_39 (by omega) (by omega) (fun c_39 => ?_) (fun c_39 => ?_)
      · have hc5 : c = 5 := by omega
        subst hc5
        refine y_iinc dX11_laws_138 rfl (by decide) rfl rfl ?_
        refine z_goto dX11_laws_141 ?_
        refine z_iload dX11_laws_27 rfl ?_
        refine y_iconst dX11_laws_29 ?_
        refine y_icmp_ge dX11_laws_30 (by omega) (by omega) (fun c_30 => ?_) (fun c_30 => ?_)
        · rw [show 5 * a + 5 = 25 by omega]
          exact fin _ _ _ _ h0
        · refine y_iconst dX11_laws_33 ?_
          refine z_istore dX11_laws_34 (by decide) rfl rfl ?_
          exact ih (a + 1) 0 _ _ h0 (by omega) (by omega) (by omega)
      · have hc : c < 5 := by omega
        refine z_aload_n dX11_laws_42 rfl ?_
        refine z_iload dX11_laws_43 rfl ?_
        refine z_iload dX11_laws_45 rfl ?_
        refine y_callVr (ct_X11_triedOf (by omega) (by omega) (by assumption)) kX11_278 dX11_laws_47 rfl rfl (by first | assumption | rfl) rfl (by decide) rfl (Nat.le_of_ble_eq_true rfl) (fun r_47 h_47 => ?_)
        have hx : lvM (V 142) (V 134 12).toNat (5 * a + c) = r_47 := by rw [hlv hc, h_47]
        rw [hx] at eW
        refine z_istore dX11_laws_50 (by decide) rfl rfl ?_
        refine z_iload dX11_laws_52 rfl ?_
        refine y_iconst dX11_laws_54 ?_
        refine y_icmp_eq dX11_laws_55 (by omega) (by omega) (fun c_55 => ?_) (fun c_55 => ?_)
        · have hci : (1 : Int) = 1 ↔ ciM (5 * a + c) := ⟨fun _ => (hcirc hc).2 (by omega), fun _ => rfl⟩
          refine y_iconst dX11_laws_64 ?_
          refine z_goto dX11_laws_65 ?_
          refine z_istore dX11_laws_69 (by decide) rfl rfl ?_
          refine z_iload dX11_laws_71 rfl ?_
          refine y_if_eq dX11_laws_73 (by omega) (fun c_73 => ?_) (fun c_73 => ?_)
          · have hw : lwW (V 142) (V 134 12).toNat (5 * a + (c + 1)) = 0 := by rw [eW, if_neg (fun h => h.1 c_73)]
            refine y_iconst dX11_laws_91 ?_
            refine z_istore dX11_laws_92 (by decide) rfl rfl ?_
            exact close _ _ _ none none hc hci (by omega) h_47 hw.symm
          · refine z_iload dX11_laws_76 rfl ?_
            refine y_if_eq dX11_laws_78 (by omega) (fun c_78 => ?_) (fun c_78 => ?_)
            · have hw : lwW (V 142) (V 134 12).toNat (5 * a + (c + 1)) = 1 := by rw [eW, if_pos ⟨c_73, Or.inl (fun h => by have := hci.2 h; omega)⟩]
              refine y_iconst dX11_laws_87 ?_
              refine z_goto dX11_laws_88 ?_
              refine z_istore dX11_laws_92 (by decide) rfl rfl ?_
              exact close _ _ _ none none hc hci (by omega) h_47 hw.symm
            · refine z_iload dX11_laws_81 rfl ?_
              refine y_iconst dX11_laws_83 ?_
              refine y_icmp_eq dX11_laws_84 (by omega) (by omega) (fun c_84 => ?_) (fun c_84 => ?_)
              · have hw : lwW (V 142) (V 134 12).toNat (5 * a + (c + 1)) = 0 := by rw [eW, if_neg (fun h => by rcases h.2 with h2 | h2; exact h2 (hci.1 (by omega)); exact h2 c_84)]
                refine y_iconst dX11_laws_91 ?_
                refine z_istore dX11_laws_92 (by decide) rfl rfl ?_
                exact close _ _ _ none none hc hci (by omega) h_47 hw.symm
              · have hw : lwW (V 142) (V 134 12).toNat (5 * a + (c + 1)) = 1 := by rw [eW, if_pos ⟨c_73, Or.inr c_84⟩]
                refine y_iconst dX11_laws_87 ?_
                refine z_goto dX11_laws_88 ?_
                refine z_istore dX11_laws_92 (by decide) rfl rfl ?_
                exact close _ _ _ none none hc hci (by omega) h_47 hw.symm
        · refine z_iload dX11_laws_58 rfl ?_
          refine y_iconst dX11_laws_60 ?_
          refine y_icmp_ne dX11_laws_61 (by omega) (by omega) (fun c_61 => ?_) (fun c_61 => ?_)
          · have hci : (0 : Int) = 1 ↔ ciM (5 * a + c) := ⟨fun h => by omega, fun h => by have := (hcirc hc).1 h; omega⟩
            refine y_iconst dX11_laws_68 ?_
            refine z_istore dX11_laws_69 (by decide) rfl rfl ?_
            refine z_iload dX11_laws_71 rfl ?_
            refine y_if_eq dX11_laws_73 (by omega) (fun c_73 => ?_) (fun c_73 => ?_)
            · have hw : lwW (V 142) (V 134 12).toNat (5 * a + (c + 1)) = 0 := by rw [eW, if_neg (fun h => h.1 c_73)]
              refine y_iconst dX11_laws_91 ?_
              refine z_istore dX11_laws_92 (by decide) rfl rfl ?_
              exact close _ _ _ none none hc hci (by omega) h_47 hw.symm
            · refine z_iload dX11_laws_76 rfl ?_
              refine y_if_eq dX11_laws_78 (by omega) (fun c_78 => ?_) (fun c_78 => ?_)
              · have hw : lwW (V 142) (V 134 12).toNat (5 * a + (c + 1)) = 1 := by rw [eW, if_pos ⟨c_73, Or.inl (fun h => by have := hci.2 h; omega)⟩]
                refine y_iconst dX11_laws_87 ?_
                refine z_goto dX11_laws_88 ?_
                refine z_istore dX11_laws_92 (by decide) rfl rfl ?_
                exact close _ _ _ none none hc hci (by omega) h_47 hw.symm
              · refine z_iload dX11_laws_81 rfl ?_
                refine y_iconst dX11_laws_83 ?_
                refine y_icmp_eq dX11_laws_84 (by omega) (by omega) (fun c_84 => ?_) (fun c_84 => ?_)
                · have hw : lwW (V 142) (V 134 12).toNat (5 * a + (c + 1)) = 0 := by rw [eW, if_neg (fun h => by rcases h.2 with h2 | h2; exact h2 (hci.1 (by omega)); exact h2 c_84)]
                  refine y_iconst dX11_laws_91 ?_
                  refine z_istore dX11_laws_92 (by decide) rfl rfl ?_
                  exact close _ _ _ none none hc hci (by omega) h_47 hw.symm
                · have hw : lwW (V 142) (V 134 12).toNat (5 * a + (c + 1)) = 1 := by rw [eW, if_pos ⟨c_73, Or.inr c_84⟩]
                  refine y_iconst dX11_laws_87 ?_
                  refine z_goto dX11_laws_88 ?_
                  refine z_istore dX11_laws_92 (by decide) rfl rfl ?_
                  exact close _ _ _ none none hc hci (by omega) h_47 hw.symm
          · have hci : (1 : Int) = 1 ↔ ciM (5 * a + c) := ⟨fun _ => (hcirc hc).2 (by omega), fun _ => rfl⟩
            refine y_iconst dX11_laws_64 ?_
            refine z_goto dX11_laws_65 ?_
            refine z_istore dX11_laws_69 (by decide) rfl rfl ?_
            refine z_iload dX11_laws_71 rfl ?_
            refine y_if_eq dX11_laws_73 (by omega) (fun c_73 => ?_) (fun c_73 => ?_)
            · have hw : lwW (V 142) (V 134 12).toNat (5 * a + (c + 1)) = 0 := by rw [eW, if_neg (fun h => h.1 c_73)]
              refine y_iconst dX11_laws_91 ?_
              refine z_istore dX11_laws_92 (by decide) rfl rfl ?_
              exact close _ _ _ none none hc hci (by omega) h_47 hw.symm
            · refine z_iload dX11_laws_76 rfl ?_
              refine y_if_eq dX11_laws_78 (by omega) (fun c_78 => ?_) (fun c_78 => ?_)
              · have hw : lwW (V 142) (V 134 12).toNat (5 * a + (c + 1)) = 1 := by rw [eW, if_pos ⟨c_73, Or.inl (fun h => by have := hci.2 h; omega)⟩]
                refine y_iconst dX11_laws_87 ?_
                refine z_goto dX11_laws_88 ?_
                refine z_istore dX11_laws_92 (by decide) rfl rfl ?_
                exact close _ _ _ none none hc hci (by omega) h_47 hw.symm
              · refine z_iload dX11_laws_81 rfl ?_
                refine y_iconst dX11_laws_83 ?_
                refine y_icmp_eq dX11_laws_84 (by omega) (by omega) (fun c_84 => ?_) (fun c_84 => ?_)
                · have hw : lwW (V 142) (V 134 12).toNat (5 * a + (c + 1)) = 0 := by rw [eW, if_neg (fun h => by rcases h.2 with h2 | h2; exact h2 (hci.1 (by omega)); exact h2 c_84)]
                  refine y_iconst dX11_laws_91 ?_
                  refine z_istore dX11_laws_92 (by decide) rfl rfl ?_
                  exact close _ _ _ none none hc hci (by omega) h_47 hw.symm
                · have hw : lwW (V 142) (V 134 12).toNat (5 * a + (c + 1)) = 1 := by rw [eW, if_pos ⟨c_73, Or.inr c_84⟩]
                  refine y_iconst dX11_laws_87 ?_
                  refine z_goto dX11_laws_88 ?_
                  refine z_istore dX11_laws_92 (by decide) rfl rfl ?_
                  exact close _ _ _ none none hc hci (by omega) h_47 hw.symm
  have h0 := fun h => loop 30 0 0 none none h (by omega) (by omega) (by omega)
  refine zC_of (by decide +kernel) (Nat.le_of_ble_eq_true rfl) rfl ?_
  refine z_iload_n dX11_laws_0 rfl ?_
  refine y_i2l dX11_laws_1 (by omega) ?_
  refine y_ldc2 (n := -1) dX11_laws_2 cX11_274 (by decide +kernel) ?_
  refine y_ldc2 (n := 16) dX11_laws_5 cX11_276 (by decide +kernel) ?_
  refine y_callSr (ct_X11_in (by omega) (by omega) (by omega)) kX11_101 dX11_laws_8 rfl rfl (by decide) rfl (Nat.le_of_ble_eq_true rfl) (fun r_8 h_8 => ?_)
  refine y_if_ne dX11_laws_11 (by omega) (fun c_11 => ?_) (fun c_11 => ?_)
  · refine y_iconst dX11_laws_17 ?_
    refine z_istore_n dX11_laws_18 (by decide) rfl rfl ?_
    refine y_iconst dX11_laws_19 ?_
    refine z_istore_n dX11_laws_20 (by decide) rfl rfl ?_
    refine y_iconst dX11_laws_21 ?_
    refine z_istore dX11_laws_22 (by decide) rfl rfl ?_
    refine y_iconst dX11_laws_24 ?_
    refine z_istore dX11_laws_25 (by decide) rfl rfl ?_
    refine z_iload dX11_laws_27 rfl ?_
    refine y_iconst dX11_laws_29 ?_
    refine y_icmp_ge dX11_laws_30 (by omega) (by omega) (fun c_30 => ?_) (fun c_30 => ?_)
    · omega
    · refine y_iconst dX11_laws_33 ?_
      refine z_istore dX11_laws_34 (by decide) rfl rfl ?_
      exact h0 (by omega)
  · refine y_ldc (n := -1000000002) dX11_laws_14 cX11_105 (by decide +kernel) ?_
    exact z_iret dX11_laws_16 rfl (Nat.le_refl 0) (Nat.le_refl 0) ⟨_, rfl, rfl, Or.inl ⟨by omega, rfl⟩⟩
/-- the first pair that was not tried -/
def fnP (T : Int → Int) (m : Nat) (q : Int) : Prop := (∃ a c : Int, 0 ≤ a ∧ a < 4 ∧ 0 ≤ c ∧ c < 4 ∧ trM T a c m = -1 ∧ (∀ a' c', 0 ≤ a' → a' < 4 → 0 ≤ c' → c' < 4 → (a' < a ∨ (a' = a ∧ c' < c)) → trM T a' c' m ≠ -1) ∧ q = 10 * a + c) ∨ ((∀ a' c', 0 ≤ a' → a' < 4 → 0 ≤ c' → c' < 4 → trM T a' c' m ≠ -1) ∧ q = -1)
theorem ct_X11_next (hT : TS V) : yC 2 mX11_next [.ref 134] V b (pR b V (fnP (V 142) (V 134 12).toNat)) := by
  obtain ⟨t0, t1⟩ := id hT
  have loop : ∀ (k : Nat) (a c : Int), 0 ≤ a → a < 4 → 0 ≤ c → c ≤ 4 → (4 - a) * 5 - c ≤ k → (∀ a' c', 0 ≤ a' → a' < 4 → 0 ≤ c' → c' < 4 → (a' < a ∨ (a' = a ∧ c' < c)) → trM (V 142) a' c' (V 134 12).toNat ≠ -1) → yE 2 (pR b V (fnP (V 142) (V 134 12).toNat)) mX11_next 9 [some (.ref 134), some (.int (iI a)), some (.int (iI c))] [] V b := by
    intro k
    induction k with
    | zero => intro a c h1 h2 h3 h4 h5; omega
    | succ k ih =>
      intro a c h1 h2 h3 h4 h5 h6
      have hv := trM_rg (a := a) (c := c) t1 (V 134 12).toNat
      refine z_iload_n dX11_next_9 rfl ?_
      refine y_iconst dX11_next_10 ?_
      refine y_icmp_ge dX11_next_11 (by omega) (by omega) (fun c_11 => ?_) (fun c_11 => ?_)
      · refine y_iinc dX11_next_37 rfl (by decide) rfl rfl ?_
        refine z_goto dX11_next_40 ?_
        refine z_iload_n dX11_next_2 rfl ?_
        refine y_iconst dX11_next_3 ?_
        refine y_icmp_ge dX11_next_4 (by omega) (by omega) (fun c_4 => ?_) (fun c_4 => ?_)
        · refine y_iconst dX11_next_43 ?_
          exact z_iret dX11_next_44 rfl (Nat.le_refl 0) (Nat.le_refl 0) ⟨_, rfl, rfl, Or.inr ⟨fun a' c' p1 p2 p3 p4 => h6 a' c' p1 p2 p3 p4 (by omega), rfl⟩⟩
        · refine y_iconst dX11_next_7 ?_
          refine z_istore_n dX11_next_8 (by decide) rfl rfl ?_
          exact ih (a + 1) 0 (by omega) (by omega) (by omega) (by omega) (by omega) (fun a' c' p1 p2 p3 p4 p5 => h6 a' c' p1 p2 p3 p4 (by omega))
      · refine z_aload_n dX11_next_14 rfl ?_
        refine z_iload_n dX11_next_15 rfl ?_
        refine z_iload_n dX11_next_16 rfl ?_
        refine y_callVr (ct_X11_triedOf (by omega) (by omega) (by assumption)) kX11_278 dX11_next_17 rfl rfl (by first | assumption | rfl) rfl (by decide) rfl (Nat.le_of_ble_eq_true rfl) (fun r_17 h_17 => ?_)
        refine y_iconst dX11_next_20 ?_
        refine y_icmp_ne dX11_next_21 (by omega) (by omega) (fun c_21 => ?_) (fun c_21 => ?_)
        · refine y_iinc dX11_next_31 rfl (by decide) rfl rfl ?_
          refine z_goto dX11_next_34 ?_
          refine ih a (c + 1) h1 h2 (by omega) (by omega) (by omega) (fun a' c' p1 p2 p3 p4 p5 => ?_)
          by_cases hh : a' = a ∧ c' = c
          · rw [hh.1, hh.2, ← h_17]; exact c_21
          · exact h6 a' c' p1 p2 p3 p4 (by omega)
        · refine y_bipush dX11_next_24 (by decide +kernel) ?_
          refine z_iload_n dX11_next_26 rfl ?_
          refine y_imul dX11_next_27 ?_
          refine z_iload_n dX11_next_28 rfl ?_
          refine y_iadd dX11_next_29 ?_
          exact z_iret dX11_next_30 rfl (Nat.le_refl 0) (Nat.le_refl 0) ⟨_, rfl, rfl, Or.inl ⟨a, c, h1, h2, h3, by omega, by rw [← h_17]; exact c_21, h6, rfl⟩⟩
  refine zC_of (by decide +kernel) (Nat.le_of_ble_eq_true rfl) rfl ?_
  refine y_iconst dX11_next_0 ?_
  refine z_istore_n dX11_next_1 (by decide) rfl rfl ?_
  refine z_iload_n dX11_next_2 rfl ?_
  refine y_iconst dX11_next_3 ?_
  refine y_icmp_ge dX11_next_4 (by omega) (by omega) (fun c_4 => ?_) (fun c_4 => ?_)
  · omega
  · refine y_iconst dX11_next_7 ?_
    refine z_istore_n dX11_next_8 (by decide) rfl rfl ?_
    exact loop 20 0 0 (by omega) (by omega) (by omega) (by omega) (by omega) (fun a' c' p1 p2 p3 p4 p5 => by omega)
/-- now as it begins with n wagons -/
def begN (n : Int) : Int → Int := fun j => if j = 0 then n else if 1 ≤ j ∧ j < 8 then j - 1 else if j = 46 then -1 else 0
end

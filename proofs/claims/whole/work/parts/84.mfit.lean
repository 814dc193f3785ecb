/-! ===== the model: fits, fit ===== -/
def stF0 (N g : Int → Int) (i : Int) : Int → Int := fun j => if 0 ≤ j ∧ j < i then (if j % 7 < N (8 + j / 7) then N (12 + j) else -1) else g j
/-- what stands after i of the row -/
def cS (N rw L0 S0 : Int → Int) : Nat → Int → Int
  | 0 => S0
  | i + 1 => iup (cS N rw L0 S0 i) (7 * rw i + cL N rw L0 i (rw i)) (N (1 + i))
def chB (Y C S : Int → Int) : Nat → Bool
  | 0 => true
  | k + 1 => chB Y C S k && decide (C (3 * k + 2) = if S (7 * C (3 * k) + C (3 * k + 1)) < 0 then 9 else Y (6 + S (7 * C (3 * k) + C (3 * k + 1))))
def fitQ (Y N C rw L0 S0 : Int → Int) (m n : Nat) : Bool := cOk Y N rw L0 m && chB Y C (cS N rw L0 S0 m) n
/-- the chalk's rows, as the walks need them -/
def chR (V : Nat → Int → Int) : Prop := (0 ≤ V 134 14 ∧ V 134 14 ≤ 6) ∧ ∀ k, 0 ≤ k → k < V 134 14 → (0 ≤ V 143 (3 * k) ∧ V 143 (3 * k) ≤ 3) ∧ (0 ≤ V 143 (3 * k + 1) ∧ V 143 (3 * k + 1) ≤ 6) ∧ (0 ≤ V 143 (3 * k + 2) ∧ V 143 (3 * k + 2) ≤ 9)
theorem cL_le {Y N rw L0 : Int → Int} {R : Int} {m : Nat} (h : ∀ r, 0 ≤ r → r < R → L0 r ≤ Y (1 + r)) (hr : ∀ j : Int, 0 ≤ j → j < m → 0 ≤ rw j ∧ rw j < R) : ∀ (i : Nat), i ≤ m → cOk Y N rw L0 i = true → ∀ r, 0 ≤ r → r < R → cL N rw L0 i r ≤ Y (1 + r)
  | 0, _, _, r, h0, h1 => h r h0 h1
  | i + 1, hi, hok, r, h0, h1 => by
    have hok' : (cOk Y N rw L0 i && decide (cL N rw L0 i (rw i) ≠ Y (1 + rw i))) = true := hok
    rw [Bool.and_eq_true, decide_eq_true_eq] at hok'
    have ih := cL_le h hr i (by omega) hok'.1 r h0 h1
    unfold cL iup
    split
    · rename_i he
      rw [← he] at hok' ⊢
      omega
    · exact ih
def mF (V : Nat → Int → Int) (S L T : Int → Int) : Nat → Int → Int := zup (zup (zup V 157 S) 147 L) 148 T
section
variable {V : Nat → Int → Int} {b : Bool} {S L T : Int → Int}
theorem mF_o {a : Nat} (h1 : a ≠ 157) (h2 : a ≠ 147) (h3 : a ≠ 148) : mF V S L T a = V a := by unfold mF; rw [zup_n _ _ h3, zup_n _ _ h2, zup_n _ _ h1]
theorem mF_S : mF V S L T 157 = S := by unfold mF; rw [zup_n _ _ (by decide), zup_n _ _ (by decide), zup_s]
theorem mF_L : mF V S L T 147 = L := by unfold mF; rw [zup_n _ _ (by decide), zup_s]
theorem mF_T : mF V S L T 148 = T := by unfold mF; rw [zup_s]
theorem mF_vS {j x : Int} : vst (mF V S L T) 157 j x = mF V (iup S j x) L T := by unfold mF; rw [vst_zup (by decide), vst_zup (by decide), vst_zup_s]
theorem mF_vL {j x : Int} : vst (mF V S L T) 147 j x = mF V S (iup L j x) T := by unfold mF; rw [vst_zup (by decide), vst_zup_s]
theorem ct_X11_fits {R m n : Nat} (hR : (R : Int) = V 135 0) (hm : (m : Int) = V 137 0) (hn : (n : Int) = V 134 14) (hM : MS V) (hN : NS V) (hC : chR V) (hle : ∀ r, 0 ≤ r → r < V 135 0 → V 137 (8 + r) ≤ V 135 (1 + r)) (hrow : ∀ j : Int, 0 ≤ j → j < m → 0 ≤ V 145 j ∧ V 145 j < V 135 0) : yC 5 mX11_fits [.ref 134] V b (pI b (fun q V' => q = (if fitQ (V 135) (V 137) (V 143) (V 145) (lgF (V 137) (V 147) 4) (stF0 (V 137) (V 157) 28) m n = true then 1 else 0) ∧ ∃ S' L' T', V' = mF V S' L' T')) := by
  obtain ⟨n0, n1, n2, n3, n4⟩ := id hN
  obtain ⟨m0, m1, m2, m3, m4⟩ := id hM
  obtain ⟨k0, k1⟩ := id hC
  obtain ⟨L0, hL0⟩ : ∃ L0, L0 = lgF (V 137) (V 147) 4 := ⟨_, rfl⟩
  obtain ⟨T0, hT0⟩ : ∃ T0, T0 = laF (V 137) (V 148) 4 := ⟨_, rfl⟩
  obtain ⟨Z, hZ⟩ : ∃ Z, Z = stF0 (V 137) (V 157) 28 := ⟨_, rfl⟩
  have l0 : ∀ r, 0 ≤ r → r < 4 → 0 ≤ L0 r ∧ L0 r ≤ 7 := fun r h0 h1 => by
    rw [hL0]; unfold lgF; rw [if_pos (by omega)]; exact n1 r h0 h1
  have l1 : ∀ r, 0 ≤ r → r < V 135 0 → L0 r ≤ V 135 (1 + r) := fun r h0 h1 => by
    rw [hL0]; unfold lgF; rw [if_pos (by omega)]; exact hle r h0 h1
  have z0 : ∀ j, 0 ≤ j → j < 28 → -1 ≤ Z j ∧ Z j ≤ 6 := fun j h0 h1 => by
    rw [hZ]; unfold stF0; rw [if_pos (by omega)]
    split
    · have := n3 (12 + j) (by omega) (by omega); omega
    · omega
  rw [← hL0, ← hZ]
  have sr : ∀ i : Nat, i ≤ m → ∀ j, 0 ≤ j → j < 28 → -1 ≤ cS (V 137) (V 145) L0 Z i j ∧ cS (V 137) (V 145) L0 Z i j ≤ 6 := by
    intro i
    induction i with
    | zero => intro _ j h0 h1; exact z0 j h0 h1
    | succ i ih =>
      intro hi j h0 h1
      have := ih (by omega) j h0 h1
      have := n2 (1 + i) (by omega) (by omega)
      unfold cS iup
      split <;> omega
  obtain ⟨Q, hQ⟩ : ∃ Q : Option Value → zMu → Prop, Q = pI b (fun q V' => q = (if fitQ (V 135) (V 137) (V 143) (V 145) L0 Z m n = true then 1 else 0) ∧ ∃ S' L' T', V' = mF V S' L' T') := ⟨_, rfl⟩
  rw [← hQ]
  -- the chalk
  have loop3 : ∀ (k i : Nat) (c a3 : Int) (L T : Int → Int) (x3 : Option Value), i + k = n → cOk (V 135) (V 137) (V 145) L0 m = true → c = (if chB (V 135) (V 143) (cS (V 137) (V 145) L0 Z m) i = true then 1 else 0) → yE 5 Q mX11_fits 138 [some (.ref 134), some (.int (iI c)), some (.int (iI i)), x3] [] (mF V (cS (V 137) (V 145) L0 Z m) L T) b := by
    intro k
    induction k with
    | zero =>
      intro i c a3 L T x3 hi hok hc
      have hin : i = n := by omega
      subst hin
      have h14 : mF V (cS (V 137) (V 145) L0 Z m) L T 134 14 = (i : Int) := by rw [mF_o (by decide) (by decide) (by decide), hn]
      have hc01 : c = 0 ∨ c = 1 := by rw [hc]; split <;> simp
      refine z_iload_n dX11_fits_138 rfl ?_
      refine z_aload_n dX11_fits_139 rfl ?_
      refine y_getI (j := 14) fX11_93 dX11_fits_140 rfl (by first | assumption | rfl) ?_
      rw [h14]
      refine y_icmp_ge dX11_fits_143 (by omega) (by omega) (fun c_143 => ?_) (fun c_143 => ?_)
      · refine z_iload_n dX11_fits_221 rfl ?_
        exact y_zret dX11_fits_222 rfl (by omega) (Nat.le_refl 0) (Nat.le_refl 0) (by rw [hQ]; exact ⟨_, _, rfl, rfl, by rw [hc]; unfold fitQ; rw [hok]; simp, _, _, _, rfl⟩)
      · omega
    | succ k ih =>
      intro i c a3 L T x3 hi hok hc
      obtain ⟨S, hS⟩ : ∃ S, S = cS (V 137) (V 145) L0 Z m := ⟨_, rfl⟩
      rw [← hS] at hc ⊢
      have h14 : mF V S L T 134 14 = (n : Int) := by rw [mF_o (by decide) (by decide) (by decide), hn]
      have h43 : mF V S L T 143 = V 143 := mF_o (by decide) (by decide) (by decide)
      have h35 : mF V S L T 135 = V 135 := mF_o (by decide) (by decide) (by decide)
      have hc01 : c = 0 ∨ c = 1 := by rw [hc]; split <;> simp
      have kk := k1 i (by omega) (by omega)
      obtain ⟨r, hr⟩ : ∃ r, r = V 143 (3 * (i : Int)) := ⟨_, rfl⟩
      obtain ⟨p, hp⟩ : ∃ p, p = V 143 (3 * (i : Int) + 1) := ⟨_, rfl⟩
      obtain ⟨w, hw⟩ : ∃ w, w = V 143 (3 * (i : Int) + 2) := ⟨_, rfl⟩
      rw [← hr, ← hp, ← hw] at kk
      have hs := sr m (Nat.le_refl m) (7 * r + p) (by omega) (by omega)
      rw [← hS] at hs
      obtain ⟨s, hsd⟩ : ∃ s, s = S (7 * r + p) := ⟨_, rfl⟩
      rw [← hsd] at hs
      have hk6 : 0 ≤ s → 0 ≤ V 135 (6 + s) ∧ V 135 (6 + s) ≤ 4 := fun h => m2 _ (by omega) (by omega)
      have hB : chB (V 135) (V 143) S (i + 1) = (chB (V 135) (V 143) S i && decide (w = if s < 0 then 9 else V 135 (6 + s))) := by
        show (chB (V 135) (V 143) S i && decide (V 143 (3 * i + 2) = if S (7 * V 143 (3 * i) + V 143 (3 * i + 1)) < 0 then 9 else V 135 (6 + S (7 * V 143 (3 * i) + V 143 (3 * i + 1))))) = _
        rw [← hr, ← hp, ← hw, ← hsd]
      have go : ∀ (c' : Int), c' = (if chB (V 135) (V 143) S (i + 1) = true then 1 else 0) → yE 5 Q mX11_fits 138 [some (.ref 134), some (.int (iI c')), some (.int (iI ((i : Int) + 1))), some (.int (iI s))] [] (mF V S L T) b := by
        intro c' hc'
        have hh := ih (i + 1) c' 0 L T (some (.int (iI s))) (by omega) hok (by rw [← hS]; exact hc')
        rw [← hS, show ((i + 1 : Nat) : Int) = (i : Int) + 1 by omega] at hh
        exact hh
      have yes : c = 1 → w = (if s < 0 then 9 else V 135 (6 + s)) → (1 : Int) = (if chB (V 135) (V 143) S (i + 1) = true then 1 else 0) := by
        intro h1 h2
        have : chB (V 135) (V 143) S i = true := by
          cases hq : chB (V 135) (V 143) S i with
          | true => rfl
          | false => rw [hq] at hc; simp at hc; omega
        rw [hB, this, decide_eq_true h2]
        rfl
      have no1 : c = 0 → (0 : Int) = (if chB (V 135) (V 143) S (i + 1) = true then 1 else 0) := by
        intro h1
        have : chB (V 135) (V 143) S i = false := by
          cases hq : chB (V 135) (V 143) S i with
          | false => rfl
          | true => rw [hq] at hc; simp at hc; omega
        rw [hB, this]
        rfl
      have no2 : w ≠ (if s < 0 then 9 else V 135 (6 + s)) → (0 : Int) = (if chB (V 135) (V 143) S (i + 1) = true then 1 else 0) := by
        intro h1
        rw [hB, decide_eq_false h1, Bool.and_false]
        rfl
      refine z_iload_n dX11_fits_138 rfl ?_
      refine z_aload_n dX11_fits_139 rfl ?_
      refine y_getI (j := 14) fX11_93 dX11_fits_140 rfl (by first | assumption | rfl) ?_
      rw [h14]
      refine y_icmp_ge dX11_fits_143 (by omega) (by omega) (fun c_143 => ?_) (fun c_143 => ?_)
      · omega
      · refine z_aload_n dX11_fits_146 rfl ?_
        refine y_getR fX11_81 dX11_fits_147 (by first | assumption | rfl) (by first | assumption | rfl) ?_
        refine y_bipush dX11_fits_150 (by decide +kernel) ?_
        refine z_aload_n dX11_fits_152 rfl ?_
        refine y_getR fX11_39 dX11_fits_153 (by first | assumption | rfl) (by first | assumption | rfl) ?_
        refine y_iconst dX11_fits_156 ?_
        refine z_iload_n dX11_fits_157 rfl ?_
        refine y_imul dX11_fits_158 ?_
        refine y_iald dX11_fits_159 (by first | assumption | rfl) (by first | rfl | assumption) (by omega) ?_
        rw [h43, ← hr]
        refine y_imul dX11_fits_160 ?_
        refine z_aload_n dX11_fits_161 rfl ?_
        refine y_getR fX11_39 dX11_fits_162 (by first | assumption | rfl) (by first | assumption | rfl) ?_
        refine y_iconst dX11_fits_165 ?_
        refine z_iload_n dX11_fits_166 rfl ?_
        refine y_imul dX11_fits_167 ?_
        refine y_iconst dX11_fits_168 ?_
        refine y_iadd dX11_fits_169 ?_
        refine y_iald dX11_fits_170 (by first | assumption | rfl) (by first | rfl | assumption) (by omega) ?_
        rw [h43, ← hp]
        refine y_iadd dX11_fits_171 ?_
        refine y_iald dX11_fits_172 (by first | assumption | rfl) (by first | rfl | assumption) (by omega) ?_
        rw [mF_S, ← hsd]
        refine z_istore_n dX11_fits_173 (by decide) rfl rfl ?_
        refine z_iload_n dX11_fits_174 rfl ?_
        refine y_if_eq dX11_fits_175 (by omega) (fun c_175 => ?_) (fun c_175 => ?_)
        · refine y_iconst dX11_fits_213 ?_
          refine z_istore_n dX11_fits_214 (by decide) rfl rfl ?_
          refine y_iinc dX11_fits_215 rfl (by decide) rfl rfl ?_
          refine z_goto dX11_fits_218 ?_
          first
            | exact go _ (no1 (by omega))
            | exact go _ (yes (by omega) (by first | (rw [if_pos (by omega)]; omega) | (rw [if_neg (by omega)]; omega)))
            | exact go _ (no2 (by first | (rw [if_pos (by omega)]; omega) | (rw [if_neg (by omega)]; omega)))
        · refine z_aload_n dX11_fits_178 rfl ?_
          refine y_getR fX11_39 dX11_fits_179 (by first | assumption | rfl) (by first | assumption | rfl) ?_
          refine y_iconst dX11_fits_182 ?_
          refine z_iload_n dX11_fits_183 rfl ?_
          refine y_imul dX11_fits_184 ?_
          refine y_iconst dX11_fits_185 ?_
          refine y_iadd dX11_fits_186 ?_
          refine y_iald dX11_fits_187 (by first | assumption | rfl) (by first | rfl | assumption) (by omega) ?_
          rw [h43, ← hw]
          refine z_iload_n dX11_fits_188 rfl ?_
          refine y_if_ge dX11_fits_189 (by omega) (fun c_189 => ?_) (fun c_189 => ?_)
          · have h6 := hk6 (by omega)
            refine z_aload_n dX11_fits_197 rfl ?_
            refine y_getR fX11_7 dX11_fits_198 (by first | assumption | rfl) (by first | assumption | rfl) ?_
            refine y_bipush dX11_fits_201 (by decide +kernel) ?_
            refine z_iload_n dX11_fits_203 rfl ?_
            refine y_iadd dX11_fits_204 ?_
            refine y_iald dX11_fits_205 (by first | assumption | rfl) (by first | rfl | assumption) (by omega) ?_
            rw [h35]
            refine y_icmp_ne dX11_fits_206 (by omega) (by omega) (fun c_206 => ?_) (fun c_206 => ?_)
            · refine y_iconst dX11_fits_213 ?_
              refine z_istore_n dX11_fits_214 (by decide) rfl rfl ?_
              refine y_iinc dX11_fits_215 rfl (by decide) rfl rfl ?_
              refine z_goto dX11_fits_218 ?_
              first
                | exact go _ (no1 (by omega))
                | exact go _ (yes (by omega) (by first | (rw [if_pos (by omega)]; omega) | (rw [if_neg (by omega)]; omega)))
                | exact go _ (no2 (by first | (rw [if_pos (by omega)]; omega) | (rw [if_neg (by omega)]; omega)))
            · refine y_iconst dX11_fits_209 ?_
              refine z_goto dX11_fits_210 ?_
              refine z_istore_n dX11_fits_214 (by decide) rfl rfl ?_
              refine y_iinc dX11_fits_215 rfl (by decide) rfl rfl ?_
              refine z_goto dX11_fits_218 ?_
              first
                | exact go _ (no1 (by omega))
                | exact go _ (yes (by omega) (by first | (rw [if_pos (by omega)]; omega) | (rw [if_neg (by omega)]; omega)))
                | exact go _ (no2 (by first | (rw [if_pos (by omega)]; omega) | (rw [if_neg (by omega)]; omega)))
          · refine y_bipush dX11_fits_192 (by decide +kernel) ?_
            refine z_goto dX11_fits_194 ?_
            refine y_icmp_ne dX11_fits_206 (by omega) (by omega) (fun c_206 => ?_) (fun c_206 => ?_)
            · refine y_iconst dX11_fits_213 ?_
              refine z_istore_n dX11_fits_214 (by decide) rfl rfl ?_
              refine y_iinc dX11_fits_215 rfl (by decide) rfl rfl ?_
              refine z_goto dX11_fits_218 ?_
              first
                | exact go _ (no1 (by omega))
                | exact go _ (yes (by omega) (by first | (rw [if_pos (by omega)]; omega) | (rw [if_neg (by omega)]; omega)))
                | exact go _ (no2 (by first | (rw [if_pos (by omega)]; omega) | (rw [if_neg (by omega)]; omega)))
            · refine y_iconst dX11_fits_209 ?_
              refine z_goto dX11_fits_210 ?_
              refine z_istore_n dX11_fits_214 (by decide) rfl rfl ?_
              refine y_iinc dX11_fits_215 rfl (by decide) rfl rfl ?_
              refine z_goto dX11_fits_218 ?_
              first
                | exact go _ (no1 (by omega))
                | exact go _ (yes (by omega) (by first | (rw [if_pos (by omega)]; omega) | (rw [if_neg (by omega)]; omega)))
                | exact go _ (no2 (by first | (rw [if_pos (by omega)]; omega) | (rw [if_neg (by omega)]; omega)))
  -- the row
  have loop2 : ∀ (k i : Nat) (x2 x3 : Option Value), i + k = m → cOk (V 135) (V 137) (V 145) L0 i = true → yE 5 Q mX11_fits 58 [some (.ref 134), some (.int (iI i)), x2, x3] [] (mF V (cS (V 137) (V 145) L0 Z i) (cL (V 137) (V 145) L0 i) T0) b := by
    intro k
    induction k with
    | zero =>
      intro i x2 x3 hi hok
      have him : i = m := by omega
      subst him
      have h37 : mF V (cS (V 137) (V 145) L0 Z i) (cL (V 137) (V 145) L0 i) T0 137 = V 137 := mF_o (by decide) (by decide) (by decide)
      refine z_iload_n dX11_fits_58 rfl ?_
      refine z_aload_n dX11_fits_59 rfl ?_
      refine y_getR fX11_16 dX11_fits_60 (by first | assumption | rfl) (by first | assumption | rfl) ?_
      refine y_iconst dX11_fits_63 ?_
      refine y_iald dX11_fits_64 (by first | assumption | rfl) (by first | rfl | assumption) (by omega) ?_
      rw [h37, ← hm]
      refine y_icmp_ge dX11_fits_65 (by omega) (by omega) (fun c_65 => ?_) (fun c_65 => ?_)
      · refine y_iconst dX11_fits_134 ?_
        refine z_istore_n dX11_fits_135 (by decide) rfl rfl ?_
        refine y_iconst dX11_fits_136 ?_
        refine z_istore_n dX11_fits_137 (by decide) rfl rfl ?_
        exact loop3 n 0 1 0 _ _ _ (by omega) hok rfl
      · omega
    | succ k ih =>
      intro i x2 x3 hi hok
      have hr := hrow i (by omega) (by omega)
      have hle1 := cL_le (R := V 135 0) (m := m) l1 hrow i (by omega) hok
      obtain ⟨r, hrd⟩ : ∃ r, r = V 145 (i : Int) := ⟨_, rfl⟩
      rw [← hrd] at hr
      have hYr := m4 r hr.1 hr.2
      have lr := cL_rg (N := V 137) (rw := V 145) l0 i r hr.1 (by omega)
      have lr1 := hle1 r hr.1 hr.2
      have hw := n2 (1 + i) (by omega) (by omega)
      obtain ⟨L, hL⟩ : ∃ L, L = cL (V 137) (V 145) L0 i := ⟨_, rfl⟩
      obtain ⟨S, hS⟩ : ∃ S, S = cS (V 137) (V 145) L0 Z i := ⟨_, rfl⟩
      rw [← hL] at lr lr1
      rw [← hL, ← hS]
      have h37 : mF V S L T0 137 = V 137 := mF_o (by decide) (by decide) (by decide)
      have h35 : mF V S L T0 135 = V 135 := mF_o (by decide) (by decide) (by decide)
      have h45 : mF V S L T0 145 = V 145 := mF_o (by decide) (by decide) (by decide)
      have hbad : L r = V 135 (1 + r) → cOk (V 135) (V 137) (V 145) L0 m = false := by
        intro h
        have h1 : cOk (V 135) (V 137) (V 145) L0 (i + 1) = false := by
          show (cOk (V 135) (V 137) (V 145) L0 i && decide (cL (V 137) (V 145) L0 i (V 145 i) ≠ V 135 (1 + V 145 i))) = false
          rw [← hL, ← hrd, h]
          simp
        have h2 := cOk_f h1 k
        rw [show i + 1 + k = m by omega] at h2
        exact h2
      have fin : L r ≠ V 135 (1 + r) → yE 5 Q mX11_fits 58 [some (.ref 134), some (.int (iI ((i : Int) + 1))), some (.int (iI r)), x3] [] (mF V (iup S (7 * r + L r) (V 137 (1 + i))) (iup L r (L r + 1)) T0) b := by
        intro hne
        have hok1 : cOk (V 135) (V 137) (V 145) L0 (i + 1) = true := by
          show (cOk (V 135) (V 137) (V 145) L0 i && decide (cL (V 137) (V 145) L0 i (V 145 i) ≠ V 135 (1 + V 145 i))) = true
          rw [← hL, ← hrd, hok]
          simp [hne]
        have hh := ih (i + 1) (some (.int (iI r))) x3 (by omega) hok1
        have hL1 : cL (V 137) (V 145) L0 (i + 1) = iup L r (L r + 1) := by
          show iup (cL (V 137) (V 145) L0 i) (V 145 i) (cL (V 137) (V 145) L0 i (V 145 i) + 1) = _
          rw [← hL, ← hrd]
        have hS1 : cS (V 137) (V 145) L0 Z (i + 1) = iup S (7 * r + L r) (V 137 (1 + i)) := by
          show iup (cS (V 137) (V 145) L0 Z i) (7 * V 145 i + cL (V 137) (V 145) L0 i (V 145 i)) (V 137 (1 + i)) = _
          rw [← hL, ← hrd, ← hS]
        rw [hL1, hS1, show ((i + 1 : Nat) : Int) = (i : Int) + 1 by omega] at hh
        exact hh
      refine z_iload_n dX11_fits_58 rfl ?_
      refine z_aload_n dX11_fits_59 rfl ?_
      refine y_getR fX11_16 dX11_fits_60 (by first | assumption | rfl) (by first | assumption | rfl) ?_
      refine y_iconst dX11_fits_63 ?_
      refine y_iald dX11_fits_64 (by first | assumption | rfl) (by first | rfl | assumption) (by omega) ?_
      rw [h37, ← hm]
      refine y_icmp_ge dX11_fits_65 (by omega) (by omega) (fun c_65 => ?_) (fun c_65 => ?_)
      · omega
      · refine z_aload_n dX11_fits_68 rfl ?_
        refine y_getR fX11_45 dX11_fits_69 (by first | assumption | rfl) (by first | assumption | rfl) ?_
        refine z_iload_n dX11_fits_72 rfl ?_
        refine y_iald dX11_fits_73 (by first | assumption | rfl) (by first | rfl | assumption) (by omega) ?_
        rw [h45, ← hrd]
        refine z_istore_n dX11_fits_74 (by decide) rfl rfl ?_
        refine z_aload_n dX11_fits_75 rfl ?_
        refine y_getR fX11_51 dX11_fits_76 (by first | assumption | rfl) (by first | assumption | rfl) ?_
        refine z_iload_n dX11_fits_79 rfl ?_
        refine y_iald dX11_fits_80 (by first | assumption | rfl) (by first | rfl | assumption) (by omega) ?_
        rw [mF_L]
        refine z_aload_n dX11_fits_81 rfl ?_
        refine y_getR fX11_7 dX11_fits_82 (by first | assumption | rfl) (by first | assumption | rfl) ?_
        refine y_iconst dX11_fits_85 ?_
        refine z_iload_n dX11_fits_86 rfl ?_
        refine y_iadd dX11_fits_87 ?_
        refine y_iald dX11_fits_88 (by first | assumption | rfl) (by first | rfl | assumption) (by omega) ?_
        rw [h35]
        refine y_icmp_ne dX11_fits_89 (by omega) (by omega) (fun c_89 => ?_) (fun c_89 => ?_)
        · refine z_aload_n dX11_fits_94 rfl ?_
          refine y_getR fX11_81 dX11_fits_95 (by first | assumption | rfl) (by first | assumption | rfl) ?_
          refine y_bipush dX11_fits_98 (by decide +kernel) ?_
          refine z_iload_n dX11_fits_100 rfl ?_
          refine y_imul dX11_fits_101 ?_
          refine z_aload_n dX11_fits_102 rfl ?_
          refine y_getR fX11_51 dX11_fits_103 (by first | assumption | rfl) (by first | assumption | rfl) ?_
          refine z_iload_n dX11_fits_106 rfl ?_
          refine y_iald dX11_fits_107 (by first | assumption | rfl) (by first | rfl | assumption) (by omega) ?_
          rw [mF_L]
          refine y_iadd dX11_fits_108 ?_
          refine z_aload_n dX11_fits_109 rfl ?_
          refine y_getR fX11_16 dX11_fits_110 (by first | assumption | rfl) (by first | assumption | rfl) ?_
          refine y_iconst dX11_fits_113 ?_
          refine z_iload_n dX11_fits_114 rfl ?_
          refine y_iadd dX11_fits_115 ?_
          refine y_iald dX11_fits_116 (by first | assumption | rfl) (by first | rfl | assumption) (by omega) ?_
          rw [h37]
          refine y_iast dX11_fits_117 (by first | assumption | rfl) (by first | rfl | assumption) (by omega) ?_
          rw [mF_vS]
          refine z_aload_n dX11_fits_118 rfl ?_
          refine y_getR fX11_51 dX11_fits_119 (by first | assumption | rfl) (by first | assumption | rfl) ?_
          refine z_iload_n dX11_fits_122 rfl ?_
          refine z_dup2 dX11_fits_123 rfl rfl ?_
          refine y_iald dX11_fits_124 (by first | assumption | rfl) (by first | rfl | assumption) (by omega) ?_
          rw [mF_L]
          refine y_iconst dX11_fits_125 ?_
          refine y_iadd dX11_fits_126 ?_
          refine y_iast dX11_fits_127 (by first | assumption | rfl) (by first | rfl | assumption) (by omega) ?_
          rw [mF_vL]
          refine y_iinc dX11_fits_128 rfl (by decide) rfl rfl ?_
          refine z_goto dX11_fits_131 ?_
          exact fin (by omega)
        · refine y_iconst dX11_fits_92 ?_
          exact y_zret dX11_fits_93 rfl (by omega) (Nat.le_refl 0) (Nat.le_refl 0) (by rw [hQ]; exact ⟨_, _, rfl, rfl, by unfold fitQ; rw [hbad (by omega)]; rfl, _, _, _, rfl⟩)
  have loop1 : ∀ (k : Nat) (i : Int) (x2 x3 : Option Value), 0 ≤ i → i + k = 28 → yE 5 Q mX11_fits 2 [some (.ref 134), some (.int (iI i)), x2, x3] [] (zup V 157 (stF0 (V 137) (V 157) i)) b := by
    intro k
    induction k with
    | zero =>
      intro i x2 x3 h0 h1
      have hi : i = 28 := by omega
      subst hi
      rw [← hZ]
      have e37 : zup V 157 Z 137 = V 137 := zup_n _ _ (by decide)
      have hlr := ct_X11_layRoads (V := zup V 157 Z) (b := b) (NS_congr e37 hN)
      rw [e37, zup_n _ _ (show (147 : Nat) ≠ 157 by decide), zup_n _ _ (show (148 : Nat) ≠ 157 by decide), ← hL0, ← hT0] at hlr
      have hh := loop2 m 0 x2 x3 (by omega) rfl
      refine z_iload_n dX11_fits_2 rfl ?_
      refine y_bipush dX11_fits_3 (by decide +kernel) ?_
      refine y_icmp_ge dX11_fits_5 (by omega) (by omega) (fun c_5 => ?_) (fun c_5 => ?_)
      · refine z_aload_n dX11_fits_52 rfl ?_
        refine y_callVv (hlr) kX11_237 dX11_fits_53 rfl rfl (by first | assumption | rfl) rfl (by decide) rfl (Nat.le_of_ble_eq_true rfl) (fun V1 h_53 => ?_)
        subst h_53
        refine y_iconst dX11_fits_56 ?_
        refine z_istore_n dX11_fits_57 (by decide) rfl rfl ?_
        exact hh
      · omega
    | succ k ih =>
      intro i x2 x3 h0 h1
      have hh := ih (i + 1) x2 x3 (by omega) (by omega)
      have e37 : zup V 157 (stF0 (V 137) (V 157) i) 137 = V 137 := zup_n _ _ (by decide)
      have hn8 := n1 (i / 7) (by omega) (by omega)
      have e : ∀ x : Int, x = (if i % 7 < V 137 (8 + i / 7) then V 137 (12 + i) else -1) → vst (zup V 157 (stF0 (V 137) (V 157) i)) 157 i x = zup V 157 (stF0 (V 137) (V 157) (i + 1)) := by
        intro x hx
        rw [vst_zup_s]
        congr 1
        funext j
        unfold iup stF0
        by_cases hj : j = i
        · subst hj; rw [if_pos rfl, if_pos (show 0 ≤ j ∧ j < j + 1 by omega), hx]
        · rw [if_neg hj]
          by_cases h2 : 0 ≤ j ∧ j < i
          · rw [if_pos h2, if_pos (show 0 ≤ j ∧ j < i + 1 by omega)]
          · rw [if_neg h2, if_neg (show ¬ (0 ≤ j ∧ j < i + 1) by omega)]
      refine z_iload_n dX11_fits_2 rfl ?_
      refine y_bipush dX11_fits_3 (by decide +kernel) ?_
      refine y_icmp_ge dX11_fits_5 (by omega) (by omega) (fun c_5 => ?_) (fun c_5 => ?_)
      · omega
      · refine z_aload_n dX11_fits_8 rfl ?_
        refine y_getR fX11_81 dX11_fits_9 (by first | assumption | rfl) (by first | assumption | rfl) ?_
        refine z_iload_n dX11_fits_12 rfl ?_
        refine z_iload_n dX11_fits_13 rfl ?_
        refine y_bipush dX11_fits_14 (by decide +kernel) ?_
        refine y_irem dX11_fits_16 (by omega) (by omega) ?_
        refine z_aload_n dX11_fits_17 rfl ?_
        refine y_getR fX11_16 dX11_fits_18 (by first | assumption | rfl) (by first | assumption | rfl) ?_
        refine y_bipush dX11_fits_21 (by decide +kernel) ?_
        refine z_iload_n dX11_fits_23 rfl ?_
        refine y_bipush dX11_fits_24 (by decide +kernel) ?_
        refine y_idiv dX11_fits_26 (by omega) (by omega) ?_
        refine y_iadd dX11_fits_27 ?_
        refine y_iald dX11_fits_28 (by first | assumption | rfl) (by first | rfl | assumption) (by omega) ?_
        rw [e37]
        refine y_icmp_ge dX11_fits_29 (by omega) (by omega) (fun c_29 => ?_) (fun c_29 => ?_)
        · refine y_iconst dX11_fits_44 ?_
          refine y_iast dX11_fits_45 (by first | assumption | rfl) (by first | rfl | assumption) (by omega) ?_
          rw [e _ (by first | (rw [if_pos (by omega)]; done) | (rw [if_neg (by omega)]; done))]
          refine y_iinc dX11_fits_46 rfl (by decide) rfl rfl ?_
          refine z_goto dX11_fits_49 ?_
          exact hh
        · refine z_aload_n dX11_fits_32 rfl ?_
          refine y_getR fX11_16 dX11_fits_33 (by first | assumption | rfl) (by first | assumption | rfl) ?_
          refine y_bipush dX11_fits_36 (by decide +kernel) ?_
          refine z_iload_n dX11_fits_38 rfl ?_
          refine y_iadd dX11_fits_39 ?_
          refine y_iald dX11_fits_40 (by first | assumption | rfl) (by first | rfl | assumption) (by omega) ?_
          rw [e37]
          refine z_goto dX11_fits_41 ?_
          refine y_iast dX11_fits_45 (by first | assumption | rfl) (by first | rfl | assumption) (by omega) ?_
          rw [e _ (by first | (rw [if_pos (by omega)]; done) | (rw [if_neg (by omega)]; done))]
          refine y_iinc dX11_fits_46 rfl (by decide) rfl rfl ?_
          refine z_goto dX11_fits_49 ?_
          exact hh
  have h0 := loop1 28 0 none none (by omega) (by omega)
  have z1 : stF0 (V 137) (V 157) 0 = V 157 := by funext j; unfold stF0; rw [if_neg (by omega)]
  rw [z1, zup_id] at h0
  refine zC_of (by decide +kernel) (Nat.le_of_ble_eq_true rfl) rfl ?_
  refine y_iconst dX11_fits_0 ?_
  refine z_istore_n dX11_fits_1 (by decide) rfl rfl ?_
  exact h0
end

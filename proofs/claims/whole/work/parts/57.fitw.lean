/-! ===== countRows, rowsFrom ===== -/
section
variable {R W : Nat} {kd rm wt c0 : Int → Int} {b : Bool}
theorem FQ_R {V : Nat → Int → Int} {n : Nat} {i : Int} (h : FQ R W kd rm wt c0 V n i) : R ≤ 4 ∧ W ≤ 7 ∧ (∀ j, 0 ≤ j → j < (W : Int) → 0 ≤ kd j ∧ kd j ≤ 4) ∧ (∀ r, 0 ≤ r → r < (R : Int) → 0 ≤ rm r ∧ rm r ≤ 7) ∧ (∀ r, 0 ≤ r → r < (R : Int) → 0 ≤ V 111 r) ∧ (0 ≤ i ∧ i ≤ W) := by
  obtain ⟨hB, h4, h5, h9, h10, h18, hv, hl, hm, h19, hi, hc, hwt⟩ := h
  obtain ⟨b0, b1, b2, b3, b4, b5, b6⟩ := hB
  refine ⟨by omega, by omega, fun j j0 j1 => ?_, fun r r0 r1 => ?_, fun r r0 r1 => ?_, ?_⟩
  · rw [← h9]; exact b3 j j0 (by omega)
  · rw [← h10]; exact b4 r r0 (by omega)
  · exact (b5 r r0 (by omega)).1
  · have d0 := dg_nn hv (r := 0) (by omega)
    have d1 := dg_nn hv (r := 1) (by omega)
    have d2 := dg_nn hv (r := 2) (by omega)
    have d3 := dg_nn hv (r := 3) (by omega)
    unfold lv at hl
    omega
/-- rowsFrom's contract -/
abbrev rfC (R W : Nat) (kd rm wt c0 : Int → Int) (b : Bool) (n : Nat) : Prop := ∀ (V : Nat → Int → Int) (i : Int), FQ R W kd rm wt c0 V n i → yC (2 * n + 4) mX2_rowsFrom [.ref 116, .ref 108, .int (iI i), .int (iI (opI R wt (V 111))), .int (iI (ky R c0 (V 111)))] V b (pI b (fun q V' => q = GI R kd rm wt n i (V 111) ∧ FP R W kd rm wt c0 (PI R kd rm wt n i (V 111)) V V'))
theorem ct_X2_countRows {n : Nat} (hrec : rfC R W kd rm wt c0 b n) (V : Nat → Int → Int) (i : Int) (hQ : FQ R W kd rm wt c0 V (n + 1) i) : yC (2 * n + 5) mX2_countRows [.ref 116, .ref 108, .int (iI i), .int (iI (opI R wt (V 111))), .int (iI (ky R c0 (V 111)))] V b (pI b (fun q V' => q = GI R kd rm wt (n + 1) i (V 111) ∧ FP R W kd rm wt c0 (PI R kd rm wt (n + 1) i (V 111)) V V')) := by
  obtain ⟨hB, h4, h5, h9, h10, h18, hv, hl, hm, h19, hi, hc, hwt⟩ := id hQ
  obtain ⟨hR, hW, hkd, hrm, hcn, hi01⟩ := FQ_R hQ
  obtain ⟨b0, b1, b2, b3, b4, b5, b6⟩ := id hB
  have hop := opI_nn (R := R) (wt := wt) (V 111)
  have hop2 := opI_le (wt := wt) hR (V 111)
  have hkr := ky_rg hv (by omega)
  obtain ⟨f, hf⟩ : ∃ f : Nat → Int, f = fun r : Nat => if mvI kd rm wt i (V 111) r then GI R kd rm wt n (i + 1) (iup (V 111) r (V 111 r + 1)) else 0 := ⟨_, rfl⟩
  have hGl : ∀ cn, GI R kd rm wt n (i + 1) cn ≤ 4096 := fun cn => by
    have h1 := GI_le (kd := kd) (rm := rm) (wt := wt) hR n (i + 1) cn
    have h2 : 4 ^ n ≤ 4 ^ 6 := Nat.pow_le_pow_right (by decide) (by omega)
    have h3 : ((4 ^ n : Nat) : Int) = (4 : Int) ^ n := by norm_cast
    have h4 : 4 ^ 6 = 4096 := by decide
    omega
  have hGn : ∀ cn, 0 ≤ GI R kd rm wt n (i + 1) cn := fun cn => GI_nn n (i + 1) cn
  have hf0 : ∀ r, 0 ≤ f r ∧ f r ≤ 4096 := fun r => by
    rw [hf]
    simp only
    split
    · exact ⟨hGn _, hGl _⟩
    · omega
  have hs0 : ∀ r, r ≤ 4 → 0 ≤ smI f r ∧ smI f r ≤ 16384 := fun r hr => by
    have h1 := smI_nn r (fun k _ => (hf0 k).1)
    have h2 := smI_le r (fun k _ => (hf0 k).2)
    omega
  obtain ⟨P, hP⟩ : ∃ P : Nat → Int → Int → Prop, P = PL kd rm wt (GI R kd rm wt n (i + 1)) (PI R kd rm wt n (i + 1)) i (V 111) := ⟨_, rfl⟩
  have loop : ∀ (t r : Nat) (a7 a8 a9 : Option Value) (U : Nat → Int → Int), r + t = R → FP R W kd rm wt c0 (P r) V U → yE (2 * n + 5) (pI b (fun q V' => q = GI R kd rm wt (n + 1) i (V 111) ∧ FP R W kd rm wt c0 (PI R kd rm wt (n + 1) i (V 111)) V V')) mX2_countRows 6 [some (.ref 116), some (.ref 108), some (.int (iI i)), some (.int (iI (opI R wt (V 111)))), some (.int (iI (ky R c0 (V 111)))), some (.int (iI (smI f r))), some (.int (iI (r : Nat))), a7, a8, a9] [] U b := by
    intro t
    induction t with
    | zero =>
      intro r a7 a8 a9 U ht hU
      have e8 : U 108 = V 108 := hU.1 108 (by decide) (by decide)
      have hsr := hs0 r (by omega)
      have er : r = R := by omega
      subst er
      refine z_iload dX2_countRows_6 rfl ?_
      refine z_aload_n dX2_countRows_8 rfl ?_
      refine y_getI (j := 4) fX2_47 dX2_countRows_9 rfl (by first | assumption | rfl) ?_
      rw [e8]
      refine y_icmp_ge dX2_countRows_12 (by omega) (by omega) (fun c_12 => ?_) (fun c_12 => ?_)
      · refine z_iload dX2_countRows_145 rfl ?_
        exact z_iret dX2_countRows_147 rfl (Nat.le_refl 0) (Nat.le_refl 0) ⟨_, _, rfl, rfl, by rw [hf]; rfl, by rw [hP] at hU; exact hU⟩
      · omega
    | succ t ih =>
      intro r a7 a8 a9 U ht hU
      obtain ⟨u1, u2, u3, u4⟩ := id hU
      have e8 : U 108 = V 108 := u1 108 (by decide) (by decide)
      have e9 : U 109 = kd := by rw [u1 109 (by decide) (by decide), h9]
      have e10 : U 110 = rm := by rw [u1 110 (by decide) (by decide), h10]
      have e11 : U 111 = V 111 := u1 111 (by decide) (by decide)
      have e12 : U 112 = V 112 := u1 112 (by decide) (by decide)
      have e18 : U 118 = wt := by rw [u1 118 (by decide) (by decide), h18]
      have hBU : BS U := BS_congr (fun a a1 a2 => u1 a (by omega) (by omega)) hB
      have c4 := hrm r (by omega) (by omega)
      have c5 := hcn r (by omega) (by omega)
      have c5' := (b5 r (by omega) (by omega)).2
      have c6 := b6 r (by omega) (by omega)
      have ck := hkd i (by omega) (by omega)
      have cw := hwt (7 * r + V 111 r)
      have hsr := hs0 r (by omega)
      have hsr1 := hs0 (r + 1) (by omega)
      have esm : smI f (r + 1) = smI f r + f r := rfl
      -- no wagon goes there
      have no : ¬ mvI kd rm wt i (V 111) r → ∀ (a7 a8 a9 : Option Value), yE (2 * n + 5) (pI b (fun q V' => q = GI R kd rm wt (n + 1) i (V 111) ∧ FP R W kd rm wt c0 (PI R kd rm wt (n + 1) i (V 111)) V V')) mX2_countRows 139 [some (.ref 116), some (.ref 108), some (.int (iI i)), some (.int (iI (opI R wt (V 111)))), some (.int (iI (ky R c0 (V 111)))), some (.int (iI (smI f r))), some (.int (iI (r : Nat))), a7, a8, a9] [] U b := by
        intro hno a7 a8 a9
        have hh := ih (r + 1) a7 a8 a9 U (by omega) ⟨u1, u2, u3, fun j s s0 => by
          rw [u4 j s s0, hP]
          unfold PL
          constructor
          · rintro (h | ⟨g1, g2, g3, g4, g5⟩ | ⟨w, g1, g2, g3⟩)
            · exact Or.inl h
            · exact Or.inr (Or.inl ⟨g1, g2, by omega, g4, g5⟩)
            · exact Or.inr (Or.inr ⟨w, by omega, g2, g3⟩)
          · rintro (h | ⟨g1, g2, g3, g4, g5⟩ | ⟨w, g1, g2, g3⟩)
            · exact Or.inl h
            · have : s ≠ (r : Int) := fun hs => by subst hs; exact hno g4
              exact Or.inr (Or.inl ⟨g1, g2, by omega, g4, g5⟩)
            · have : w ≠ r := fun hs => by subst hs; exact hno g2
              exact Or.inr (Or.inr ⟨w, by omega, g2, g3⟩)⟩
        have efr : f r = 0 := by rw [hf]; simp only; rw [if_neg hno]
        rw [show ((r + 1 : Nat) : Int) = (r : Int) + 1 by omega, esm, efr, Int.add_zero] at hh
        refine y_iinc dX2_countRows_139 rfl (by decide) rfl rfl ?_
        refine z_goto dX2_countRows_142 ?_
        exact hh
      -- it goes there
      have yes : ∀ (kk : Int) (a8 a9 : Option Value), kk = wt (7 * r + V 111 r) → mvI kd rm wt i (V 111) r → yE (2 * n + 5) (pI b (fun q V' => q = GI R kd rm wt (n + 1) i (V 111) ∧ FP R W kd rm wt c0 (PI R kd rm wt (n + 1) i (V 111)) V V')) mX2_countRows 54 [some (.ref 116), some (.ref 108), some (.int (iI i)), some (.int (iI (opI R wt (V 111)))), some (.int (iI (ky R c0 (V 111)))), some (.int (iI (smI f r))), some (.int (iI (r : Nat))), some (.int (iI kk)), a8, a9] [] U b := by
        intro kk a8 a9 hkk hmv
        obtain ⟨hmr, hmw⟩ := id hmv
        have hkr2 : rg kk := by rcases hmw with h | h <;> rw [hkk, h] <;> omega
        have efr : f r = GI R kd rm wt n (i + 1) (iup (V 111) r (V 111 r + 1)) := by rw [hf]; simp only; rw [if_pos hmv]
        have w8 : putB U i r 108 = V 108 := by rw [putB_o (by decide) (by decide), e8]
        have w11 : putB U i r 111 = iup (V 111) r (V 111 r + 1) := by rw [putB_1, e11]
        have w12 : putB U i r 112 = iup (V 112) r (kd i) := by rw [putB_2, e12, e9]
        have hwQ : FQ R W kd rm wt c0 (putB U i r) n (i + 1) := by
          refine ⟨BS_put (by rw [e8]; omega) (by rw [e8]; omega) (by rw [e11, e10]; exact hmr) hBU, by rw [w8]; exact h4, by rw [w8]; exact h5, by rw [putB_o (by decide) (by decide), e9], by rw [putB_o (by decide) (by decide), e10], by rw [putB_o (by decide) (by decide), e18], ?_, ?_, ?_, ?_, by omega, hc, hwt⟩
          · rw [w11]
            intro s s0 s1
            have := hv s s0 s1
            by_cases hs : s = r
            · subst hs; rw [iup_s]; omega
            · rw [iup_n hs]; exact this
          · rw [w11, lv_up hR (by omega) (by omega), hl]
          · exact MM_mono u2 (putB_o (by decide) (by decide)) (fun j s _ h => by rw [putB_o (by decide) (by decide)]; exact h)
          · rw [putB_o (by decide) (by decide)]; exact u3
        have hcall := hrec (putB U i r) (i + 1) hwQ
        rw [w11, ky_up hR (by omega) (by omega)] at hcall
        have hou := opI_up (R := R) (wt := wt) (cn := V 111) (r := (r : Int)) (by omega) (by omega) (by omega) (by omega)
        have hg1 := hGn (iup (V 111) r (V 111 r + 1))
        have hg2 := hGl (iup (V 111) r (V 111 r + 1))
        have hs1 := s1_pos (r : Int)
        have hs15 : s1 (r : Int) ≤ 8 := by rcases (show (r : Int) = 0 ∨ (r : Int) = 1 ∨ (r : Int) = 2 ∨ (r : Int) = 3 by omega) with h | h | h | h <;> rw [h] <;> decide
        -- the end of the turn, with what is written into the set
        have fin : ∀ (U1 : Nat → Int → Int) (m : Int) (a8 a9 : Option Value), FP R W kd rm wt c0 (PI R kd rm wt n (i + 1) (iup (V 111) r (V 111 r + 1))) (putB U i r) U1 → (0 ≤ m ∧ m ≤ 8) → (∀ x k : Int, 0 ≤ k → (tb (bOr x m) k = true ↔ tb x k = true ∨ (k = (r : Int) ∧ 0 < f r))) → yE (2 * n + 5) (pI b (fun q V' => q = GI R kd rm wt (n + 1) i (V 111) ∧ FP R W kd rm wt c0 (PI R kd rm wt (n + 1) i (V 111)) V V')) mX2_countRows 139 [some (.ref 116), some (.ref 108), some (.int (iI i)), some (.int (iI (opI R wt (V 111)))), some (.int (iI (ky R c0 (V 111)))), some (.int (iI (smI f r + f r))), some (.int (iI (r : Nat))), some (.int (iI kk)), a8, a9] [] (vst (vst (vst U1 111 r (U1 111 r - 1)) 112 r (V 112 r)) 119 i (bOr (U1 119 i) m)) b := by
          intro U1 m a8 a9 hF hm8 hbit
          obtain ⟨q1, q2, q3, q4⟩ := hF
          have h19' : putB U i r 119 = U 119 := putB_o (by decide) (by decide)
          have z119 : ∀ j k : Int, 0 ≤ k → (tb (vst (vst (vst U1 111 r (U1 111 r - 1)) 112 r (V 112 r)) 119 i (bOr (U1 119 i) m) 119 j) k = true ↔ tb (U1 119 j) k = true ∨ (j = i ∧ k = (r : Int) ∧ 0 < f r)) := fun j k k0 => by
            by_cases hj : j = i
            · subst hj
              rw [vst_s, hbit _ _ k0]
              constructor
              · rintro (h | h)
                · exact Or.inl h
                · exact Or.inr ⟨rfl, h⟩
              · rintro (h | h)
                · exact Or.inl h
                · exact Or.inr h.2
            · rw [vst_n hj, vst_o (by decide), vst_o (by decide)]
              constructor
              · exact Or.inl
              · rintro (h | h)
                · exact h
                · exact absurd h.1 hj
          have hh := ih (r + 1) (some (.int (iI kk))) a8 a9 (vst (vst (vst U1 111 r (U1 111 r - 1)) 112 r (V 112 r)) 119 i (bOr (U1 119 i) m)) (by omega) ⟨fun a g7 g9 => by
            rw [vst_o g9]
            by_cases g2 : a = 112
            · subst g2
              funext j
              by_cases hj : j = r
              · subst hj; rw [vst_s]
              · rw [vst_n hj, vst_o (by decide), q1 112 (by decide) (by decide), w12, iup_n hj]
            · rw [vst_o g2]
              by_cases g1 : a = 111
              · subst g1
                funext j
                by_cases hj : j = r
                · subst hj; rw [vst_s, q1 111 (by decide) (by decide), w11, iup_s]; omega
                · rw [vst_n hj, q1 111 (by decide) (by decide), w11, iup_n hj]
              · rw [vst_o g1, q1 a g7 g9, putB_o g1 g2, u1 a g7 g9], MM_mono q2 (by rw [vst_o (by decide), vst_o (by decide), vst_o (by decide)]) (fun j s s0 h => by rw [z119 j s s0]; exact Or.inl h), fun j => by
            by_cases hj : j = i
            · subst hj
              have g1 := bOr_nn (U1 119 j) m
              have g2 := bOr_lt (x := U1 119 j) (y := m) 4 (by have := q3 j; have : (2 ^ 4 : Nat) = 16 := by decide
                                                               omega) (by have : (2 ^ 4 : Nat) = 16 := by decide
                                                                          omega)
              have : (2 ^ 4 : Nat) = 16 := by decide
              rw [vst_s]
              omega
            · rw [vst_n hj, vst_o (by decide), vst_o (by decide)]; exact q3 j, fun j s s0 => by
            rw [z119 j s s0, q4 j s s0, h19', u4 j s s0, hP]
            unfold PL
            constructor
            · rintro (((h | ⟨g1, g2, g3, g4, g5⟩ | ⟨w, g1, g2, g3⟩) | h) | ⟨g1, g2, g3⟩)
              · exact Or.inl h
              · exact Or.inr (Or.inl ⟨g1, g2, by omega, g4, g5⟩)
              · exact Or.inr (Or.inr ⟨w, by omega, g2, g3⟩)
              · exact Or.inr (Or.inr ⟨r, by omega, hmv, h⟩)
              · refine Or.inr (Or.inl ⟨g1, s0, by omega, ?_, ?_⟩)
                · rw [g2]; exact hmv
                · rw [g2, ← efr]; exact g3
            · rintro (h | ⟨g1, g2, g3, g4, g5⟩ | ⟨w, g1, g2, g3⟩)
              · exact Or.inl (Or.inl (Or.inl h))
              · by_cases hs : s = (r : Int)
                · subst hs; exact Or.inr ⟨g1, rfl, by rw [efr]; exact g5⟩
                · exact Or.inl (Or.inl (Or.inr (Or.inl ⟨g1, g2, by omega, g4, g5⟩)))
              · by_cases hs : w = r
                · subst hs; exact Or.inl (Or.inr g3)
                · exact Or.inl (Or.inl (Or.inr (Or.inr ⟨w, by omega, g2, g3⟩)))⟩
          rw [show ((r + 1 : Nat) : Int) = (r : Int) + 1 by omega, esm] at hh
          refine y_iinc dX2_countRows_139 rfl (by decide) rfl rfl ?_
          refine z_goto dX2_countRows_142 ?_
          exact hh
        refine z_aload_n dX2_countRows_54 rfl ?_
        refine z_iload dX2_countRows_55 rfl ?_
        refine y_callVr (ct_X0_lastKind (by rw [e8]; omega) (by rw [e8]; omega)) kX2_92 dX2_countRows_57 rfl rfl (by first | assumption | rfl) rfl (by omega) rfl (Nat.le_of_ble_eq_true rfl) (fun r_57 h_57 => ?_)
        rw [e12] at h_57
        subst h_57
        refine z_istore dX2_countRows_60 (by decide) rfl rfl ?_
        refine z_aload_n dX2_countRows_62 rfl ?_
        refine z_iload_n dX2_countRows_63 rfl ?_
        refine z_iload dX2_countRows_64 rfl ?_
        refine y_callVi (ct_X0_put (by rw [e8]; omega) (by rw [e8]; omega) hBU) kX2_95 dX2_countRows_66 rfl rfl (by first | assumption | rfl) rfl (by omega) rfl (Nat.le_of_ble_eq_true rfl) (fun r_66 V1 h_66 => ?_)
        obtain ⟨g1, g2⟩ := h_66
        subst g1 g2
        refine z_pop dX2_countRows_69 rfl ?_
        refine z_aload_n dX2_countRows_70 rfl ?_
        refine z_aload_n dX2_countRows_71 rfl ?_
        refine z_iload_n dX2_countRows_72 rfl ?_
        refine y_iconst dX2_countRows_73 ?_
        refine y_iadd dX2_countRows_74 ?_
        refine z_iload dX2_countRows_75 rfl ?_
        refine y_iconst dX2_countRows_77 ?_
        refine y_icmp_ne dX2_countRows_78 (by omega) (by omega) (fun c_78 => ?_) (fun c_78 => ?_)
        · have ho : opI R wt (V 111) - 1 = opI R wt (iup (V 111) r (V 111 r + 1)) := by rw [hou, if_pos]; rcases hmw with h | h; exact absurd h (by omega); constructor <;> rw [h] <;> omega
          rw [← ho] at hcall
          refine z_iload_n dX2_countRows_85 rfl ?_
          refine y_iconst dX2_countRows_86 ?_
          refine y_isub dX2_countRows_87 ?_
          refine z_iload dX2_countRows_88 rfl ?_
          refine y_iconst dX2_countRows_90 ?_
          refine y_iconst dX2_countRows_91 ?_
          refine z_iload dX2_countRows_92 rfl ?_
          refine y_imul dX2_countRows_94 ?_
          refine y_shl1 dX2_countRows_95 (by omega) ?_
          refine y_iadd dX2_countRows_96 ?_
          refine y_callVi (hcall) kX2_73 dX2_countRows_97 rfl rfl (by first | assumption | rfl) rfl (by omega) rfl (Nat.le_of_ble_eq_true rfl) (fun r_97 V2 h_97 => ?_)
          obtain ⟨g3, g4⟩ := h_97
          rw [← efr] at g3
          subst g3
          have z8 : V2 108 = V 108 := by rw [g4.1 108 (by decide) (by decide), w8]
          have z9 := g4.2.2.1 i
          refine z_istore dX2_countRows_100 (by decide) rfl rfl ?_
          refine z_aload_n dX2_countRows_102 rfl ?_
          refine z_iload dX2_countRows_103 rfl ?_
          refine z_iload dX2_countRows_105 rfl ?_
          refine y_callVv (ct_X0_takeBack (by rw [z8]; omega) (by rw [z8]; omega)) kX2_98 dX2_countRows_107 rfl rfl (by first | assumption | rfl) rfl (by omega) rfl (Nat.le_of_ble_eq_true rfl) (fun V3 h_107 => ?_)
          subst h_107
          refine z_aload_n dX2_countRows_110 rfl ?_
          refine y_getR fX2_18 dX2_countRows_111 (by first | assumption | rfl) (by first | assumption | rfl) ?_
          refine z_iload_n dX2_countRows_114 rfl ?_
          refine z_dup2 dX2_countRows_115 rfl rfl ?_
          refine y_iald dX2_countRows_116 (by first | assumption | rfl) (by first | rfl | assumption) (by omega) ?_
          rw [vst_o (by decide), vst_o (by decide)]
          refine z_iload dX2_countRows_117 rfl ?_
          refine y_if_le dX2_countRows_119 (by omega) (fun c_119 => ?_) (fun c_119 => ?_)
          · have ff := fin V2 0 (some (.int (iI (V 112 r)))) (some (.int (iI (f r)))) g4 (by omega) (fun x k k0 => by rw [bOr_tb0]; constructor; exact Or.inl; rintro (h | h); exact h; omega)
            refine y_iconst dX2_countRows_129 ?_
            refine y_ior dX2_countRows_130 (by omega) (by omega) ?_
            refine y_iast dX2_countRows_131 (by first | assumption | rfl) (by first | rfl | assumption) (by omega) ?_
            refine z_iload dX2_countRows_132 rfl ?_
            refine z_iload dX2_countRows_134 rfl ?_
            refine y_iadd dX2_countRows_136 ?_
            refine z_istore dX2_countRows_137 (by decide) rfl rfl ?_
            exact ff
          · have ff := fin V2 (s1 r) (some (.int (iI (V 112 r)))) (some (.int (iI (f r)))) g4 (by omega) (fun x k k0 => by rw [tb_or x r k (by omega) k0, Bool.or_eq_true, decide_eq_true_iff]; constructor; (rintro (h | h); exact Or.inl h; exact Or.inr ⟨h, by omega⟩); (rintro (h | h); exact Or.inl h; exact Or.inr h.1))
            refine y_iconst dX2_countRows_122 ?_
            refine z_iload dX2_countRows_123 rfl ?_
            refine y_shl1 dX2_countRows_125 (by omega) ?_
            refine z_goto dX2_countRows_126 ?_
            refine y_ior dX2_countRows_130 (by omega) (by omega) ?_
            refine y_iast dX2_countRows_131 (by first | assumption | rfl) (by first | rfl | assumption) (by omega) ?_
            refine z_iload dX2_countRows_132 rfl ?_
            refine z_iload dX2_countRows_134 rfl ?_
            refine y_iadd dX2_countRows_136 ?_
            refine z_istore dX2_countRows_137 (by decide) rfl rfl ?_
            exact ff
        · have ho : opI R wt (V 111) = opI R wt (iup (V 111) r (V 111 r + 1)) := by rw [hou, if_neg (fun h => h.1 (by omega))]; omega
          rw [← ho] at hcall
          refine z_iload_n dX2_countRows_81 rfl ?_
          refine z_goto dX2_countRows_82 ?_
          refine z_iload dX2_countRows_88 rfl ?_
          refine y_iconst dX2_countRows_90 ?_
          refine y_iconst dX2_countRows_91 ?_
          refine z_iload dX2_countRows_92 rfl ?_
          refine y_imul dX2_countRows_94 ?_
          refine y_shl1 dX2_countRows_95 (by omega) ?_
          refine y_iadd dX2_countRows_96 ?_
          refine y_callVi (hcall) kX2_73 dX2_countRows_97 rfl rfl (by first | assumption | rfl) rfl (by omega) rfl (Nat.le_of_ble_eq_true rfl) (fun r_97 V2 h_97 => ?_)
          obtain ⟨g3, g4⟩ := h_97
          rw [← efr] at g3
          subst g3
          have z8 : V2 108 = V 108 := by rw [g4.1 108 (by decide) (by decide), w8]
          have z9 := g4.2.2.1 i
          refine z_istore dX2_countRows_100 (by decide) rfl rfl ?_
          refine z_aload_n dX2_countRows_102 rfl ?_
          refine z_iload dX2_countRows_103 rfl ?_
          refine z_iload dX2_countRows_105 rfl ?_
          refine y_callVv (ct_X0_takeBack (by rw [z8]; omega) (by rw [z8]; omega)) kX2_98 dX2_countRows_107 rfl rfl (by first | assumption | rfl) rfl (by omega) rfl (Nat.le_of_ble_eq_true rfl) (fun V3 h_107 => ?_)
          subst h_107
          refine z_aload_n dX2_countRows_110 rfl ?_
          refine y_getR fX2_18 dX2_countRows_111 (by first | assumption | rfl) (by first | assumption | rfl) ?_
          refine z_iload_n dX2_countRows_114 rfl ?_
          refine z_dup2 dX2_countRows_115 rfl rfl ?_
          refine y_iald dX2_countRows_116 (by first | assumption | rfl) (by first | rfl | assumption) (by omega) ?_
          rw [vst_o (by decide), vst_o (by decide)]
          refine z_iload dX2_countRows_117 rfl ?_
          refine y_if_le dX2_countRows_119 (by omega) (fun c_119 => ?_) (fun c_119 => ?_)
          · have ff := fin V2 0 (some (.int (iI (V 112 r)))) (some (.int (iI (f r)))) g4 (by omega) (fun x k k0 => by rw [bOr_tb0]; constructor; exact Or.inl; rintro (h | h); exact h; omega)
            refine y_iconst dX2_countRows_129 ?_
            refine y_ior dX2_countRows_130 (by omega) (by omega) ?_
            refine y_iast dX2_countRows_131 (by first | assumption | rfl) (by first | rfl | assumption) (by omega) ?_
            refine z_iload dX2_countRows_132 rfl ?_
            refine z_iload dX2_countRows_134 rfl ?_
            refine y_iadd dX2_countRows_136 ?_
            refine z_istore dX2_countRows_137 (by decide) rfl rfl ?_
            exact ff
          · have ff := fin V2 (s1 r) (some (.int (iI (V 112 r)))) (some (.int (iI (f r)))) g4 (by omega) (fun x k k0 => by rw [tb_or x r k (by omega) k0, Bool.or_eq_true, decide_eq_true_iff]; constructor; (rintro (h | h); exact Or.inl h; exact Or.inr ⟨h, by omega⟩); (rintro (h | h); exact Or.inl h; exact Or.inr h.1))
            refine y_iconst dX2_countRows_122 ?_
            refine z_iload dX2_countRows_123 rfl ?_
            refine y_shl1 dX2_countRows_125 (by omega) ?_
            refine z_goto dX2_countRows_126 ?_
            refine y_ior dX2_countRows_130 (by omega) (by omega) ?_
            refine y_iast dX2_countRows_131 (by first | assumption | rfl) (by first | rfl | assumption) (by omega) ?_
            refine z_iload dX2_countRows_132 rfl ?_
            refine z_iload dX2_countRows_134 rfl ?_
            refine y_iadd dX2_countRows_136 ?_
            refine z_istore dX2_countRows_137 (by decide) rfl rfl ?_
            exact ff
      refine z_iload dX2_countRows_6 rfl ?_
      refine z_aload_n dX2_countRows_8 rfl ?_
      refine y_getI (j := 4) fX2_47 dX2_countRows_9 rfl (by first | assumption | rfl) ?_
      rw [e8]
      refine y_icmp_ge dX2_countRows_12 (by omega) (by omega) (fun c_12 => ?_) (fun c_12 => ?_)
      · omega
      · refine z_aload_n dX2_countRows_15 rfl ?_
        refine z_iload dX2_countRows_16 rfl ?_
        refine z_aload_n dX2_countRows_18 rfl ?_
        refine z_iload dX2_countRows_19 rfl ?_
        refine y_callVr (ct_X0_countOf (by rw [e8]; omega) (by rw [e8]; omega)) kX2_87 dX2_countRows_21 rfl rfl (by first | assumption | rfl) rfl (by omega) rfl (Nat.le_of_ble_eq_true rfl) (fun r_21 h_21 => ?_)
        rw [e11] at h_21
        subst h_21
        refine y_callVr (ct_X2_wantedAt (by omega) (by omega)) kX2_52 dX2_countRows_24 rfl rfl (by first | assumption | rfl) rfl (by omega) rfl (Nat.le_of_ble_eq_true rfl) (fun r_24 h_24 => ?_)
        rw [e18] at h_24
        refine z_istore dX2_countRows_27 (by decide) rfl rfl ?_
        refine z_aload_n dX2_countRows_29 rfl ?_
        refine z_iload dX2_countRows_30 rfl ?_
        refine y_callVr (ct_X0_hasRoom (by rw [e8]; omega) hBU) kX2_88 dX2_countRows_32 rfl rfl (by first | assumption | rfl) rfl (by omega) rfl (Nat.le_of_ble_eq_true rfl) (fun r_32 h_32 => ?_)
        rw [e11, e10] at h_32
        refine y_if_eq dX2_countRows_35 (by omega) (fun c_35 => ?_) (fun c_35 => ?_)
        · exact no (fun h => by have := h.1; omega) _ _ _
        · rw [if_pos (by omega)] at h_24
          refine z_iload dX2_countRows_38 rfl ?_
          refine y_iconst dX2_countRows_40 ?_
          refine y_icmp_eq dX2_countRows_41 (by omega) (by omega) (fun c_41 => ?_) (fun c_41 => ?_)
          · exact yes _ _ _ h_24 ⟨by omega, by omega⟩
          · refine z_iload dX2_countRows_44 rfl ?_
            refine z_aload_n dX2_countRows_46 rfl ?_
            refine z_iload_n dX2_countRows_47 rfl ?_
            refine y_callVr (ct_X0_kindOf (by rw [e8]; omega) (by rw [e8]; omega)) kX2_91 dX2_countRows_48 rfl rfl (by first | assumption | rfl) rfl (by omega) rfl (Nat.le_of_ble_eq_true rfl) (fun r_48 h_48 => ?_)
            rw [e9] at h_48
            refine y_icmp_ne dX2_countRows_51 (by omega) (by omega) (fun c_51 => ?_) (fun c_51 => ?_)
            · exact no (fun h => by have := h.2; omega) _ _ _
            · exact yes _ _ _ h_24 ⟨by omega, by omega⟩
  have h0 := loop R 0 none none none V (by omega) ⟨fun a _ _ => rfl, hm, h19, fun j s s0 => by
    rw [hP]
    unfold PL
    constructor
    · exact Or.inl
    · rintro (h | ⟨g1, g2, g3, g4, g5⟩ | ⟨w, g1, g2, g3⟩)
      · exact h
      · omega
      · omega⟩
  refine zC_of (by decide +kernel) (Nat.le_of_ble_eq_true rfl) rfl ?_
  refine y_iconst dX2_countRows_0 ?_
  refine z_istore dX2_countRows_1 (by decide) rfl rfl ?_
  refine y_iconst dX2_countRows_3 ?_
  refine z_istore dX2_countRows_4 (by decide) rfl rfl ?_
  exact h0
end

/-! ===== the model: fit ===== -/
section
variable {Y N C rw rw' L0 L0' Z Z' : Int → Int} {m : Nat}
theorem cS_congr (hr : ∀ j : Int, 0 ≤ j → j < m → rw j = rw' j) (hL : ∀ r, 0 ≤ r → r < 4 → L0 r = L0' r) (h4 : ∀ j : Int, 0 ≤ j → j < m → 0 ≤ rw j ∧ rw j < 4) (hZ : ∀ j, 0 ≤ j → j < 28 → Z j = Z' j) : ∀ (i : Nat), i ≤ m → ∀ j, 0 ≤ j → j < 28 → cS N rw L0 Z i j = cS N rw' L0' Z' i j
  | 0, _, j, h0, h1 => hZ j h0 h1
  | i + 1, hi, j, h0, h1 => by
    have h4i := h4 i (by omega) (by omega)
    unfold cS
    rw [cL_congr hr hL h4 i (by omega) (rw i) h4i.1 h4i.2, hr i (by omega) (by omega)]
    unfold iup
    rw [cS_congr hr hL h4 hZ i (by omega) j h0 h1]
theorem chB_congr {S S' : Int → Int} {n : Nat} (hS : ∀ j, 0 ≤ j → j < 28 → S j = S' j) (hC : ∀ k, 0 ≤ k → k < (n : Int) → (0 ≤ C (3 * k) ∧ C (3 * k) ≤ 3) ∧ (0 ≤ C (3 * k + 1) ∧ C (3 * k + 1) ≤ 6)) : ∀ k : Nat, k ≤ n → chB Y C S k = chB Y C S' k
  | 0, _ => rfl
  | k + 1, hk => by
    have h1 := hC k (by omega) (by omega)
    unfold chB
    rw [chB_congr hS hC k (by omega), hS (7 * C (3 * k) + C (3 * k + 1)) (by omega) (by omega)]
end
def st0 (N : Int → Int) : Int → Int := fun j => if j % 7 < N (8 + j / 7) then N (12 + j) else -1
def cdF (Y N C : Int → Int) (R m n c : Nat) : Bool := fitQ Y N C (dgt R m c) (fun r => N (8 + r)) (st0 N) m n
/-- of the first codes: how many fit, the road of the last that fits, whether it was the same in all -/
def f3 (fB : Nat → Bool) (m i : Int) (d : Nat → Int) : Nat → Int × Int × Int
  | 0 => (0, -1, 1)
  | c + 1 => if fB c = true then ((f3 fB m i d c).1 + 1, (if 0 ≤ i ∧ i < m then d c else -1), (if (f3 fB m i d c).2.2 ≠ 0 ∧ ((f3 fB m i d c).1 = 0 ∨ ((0 ≤ i ∧ i < m) ∧ d c = (f3 fB m i d c).2.1)) then 1 else 0)) else f3 fB m i d c
theorem f3_rg {fB : Nat → Bool} {m i : Int} {d : Nat → Int} (hd : (0 ≤ i ∧ i < m) → ∀ c, 0 ≤ d c ∧ d c ≤ 7) : ∀ c : Nat, (0 ≤ (f3 fB m i d c).1 ∧ (f3 fB m i d c).1 ≤ c) ∧ (-1 ≤ (f3 fB m i d c).2.1 ∧ (f3 fB m i d c).2.1 ≤ 7) ∧ ((f3 fB m i d c).2.2 = 0 ∨ (f3 fB m i d c).2.2 = 1)
  | 0 => by show ((0 : Int) ≤ 0 ∧ (0 : Int) ≤ (0 : Nat)) ∧ (-1 ≤ (-1 : Int) ∧ (-1 : Int) ≤ 7) ∧ ((1 : Int) = 0 ∨ (1 : Int) = 1); omega
  | c + 1 => by
    have ih := f3_rg (fB := fB) hd c
    unfold f3
    split
    · refine ⟨by show 0 ≤ (f3 fB m i d c).1 + 1 ∧ (f3 fB m i d c).1 + 1 ≤ ((c + 1 : Nat) : Int); omega, ?_, ?_⟩
      · show -1 ≤ (if 0 ≤ i ∧ i < m then d c else -1) ∧ (if 0 ≤ i ∧ i < m then d c else -1) ≤ 7
        split
        · rename_i h; have := hd h c; omega
        · omega
      · show (if _ then (1 : Int) else 0) = 0 ∨ (if _ then (1 : Int) else 0) = 1
        split <;> simp
    · omega
def mfA (A : Int × Int × Int) (m i : Int) : Int := if i = -1 then A.1 else if (0 ≤ i ∧ i < m) ∧ 0 < A.1 ∧ A.2.2 ≠ 0 then A.2.1 else -1
abbrev mfO (V V' : Nat → Int → Int) : Prop := ∀ a, a ≠ 145 → a ≠ 147 → a ≠ 148 → a ≠ 157 → V' a = V a
section
variable {V : Nat → Int → Int} {b : Bool}
theorem ct_X11_fit {i : Int} {R m n : Nat} (hi : rg i) (hR : (R : Int) = V 135 0) (hm : (m : Int) = V 137 0) (hn : (n : Int) = V 134 14) (hRm : 0 < R ∨ m = 0) (hM : MS V) (hN : NS V) (hC : chR V) (hle : ∀ r, 0 ≤ r → r < V 135 0 → V 137 (8 + r) ≤ V 135 (1 + r)) : yC 6 mX11_fit [.ref 134, .int (iI i)] V b (pI b (fun q V' => mfO V V' ∧ q = mfA (f3 (cdF (V 135) (V 137) (V 143) R m n) m i (fun c => dgt R m c i) (R ^ m)) m i)) := by
  obtain ⟨n0, n1, n2, n3, n4⟩ := id hN
  obtain ⟨m0, m1, m2, m3, m4⟩ := id hM
  obtain ⟨k0, k1⟩ := id hC
  have hp7 := pow_le7 (R := R) (m := m) (by omega) (by omega)
  obtain ⟨P, hP⟩ : ∃ P : Nat, P = R ^ m := ⟨_, rfl⟩
  have hcd := ct_X11_codes (b := b) hR (by omega) hm (by omega)
  obtain ⟨F, hF⟩ : ∃ F : Nat → Int × Int × Int, F = f3 (cdF (V 135) (V 137) (V 143) R m n) m i (fun c => dgt R m c i) := ⟨_, rfl⟩
  have hR0 : 0 < m → 0 < R := fun h => by omega
  have hFr := f3_rg (fB := cdF (V 135) (V 137) (V 143) R m n) (m := m) (i := i) (d := fun c => dgt R m c i) (fun h c => by have := dgt_rg (m := m) (c := c) (j := i) (hR0 (by omega)); show 0 ≤ dgt R m c i ∧ dgt R m c i ≤ 7; omega)
  rw [← hF] at hFr
  rw [← hP] at hcd hp7 ⊢
  rw [← hF]
  obtain ⟨Q, hQ⟩ : ∃ Q : Option Value → zMu → Prop, Q = pI b (fun q V' => mfO V V' ∧ q = mfA (F P) m i) := ⟨_, rfl⟩
  rw [← hQ]
  have out : ∀ (U : Nat → Int → Int) (is : Int) (a7 : Option Value), mfO V U → (is = 1 ∧ (0 ≤ i ∧ i < m) ∨ is = 0 ∧ ¬ (0 ≤ i ∧ i < m)) → yE 6 Q mX11_fit 121 [some (.ref 134), some (.int (iI i)), some (.int (iI (F P).1)), some (.int (iI (F P).2.1)), some (.int (iI (F P).2.2)), some (.int (iI P)), some (.int (iI is)), a7] [] U b := by
    intro U is a7 hU his
    have hr := hFr P
    have fin : ∀ q : Int, q = mfA (F P) m i → Q (some (.int (iI q))) (mk S0 U (Fs b)) := fun q hq => by rw [hQ]; exact ⟨_, _, rfl, rfl, hU, hq⟩
    refine z_iload_n dX11_fit_121 rfl ?_
    refine y_iconst dX11_fit_122 ?_
    refine y_icmp_ne dX11_fit_123 (by omega) (by omega) (fun c_123 => ?_) (fun c_123 => ?_)
    · refine z_iload dX11_fit_130 rfl ?_
      refine y_if_eq dX11_fit_132 (by omega) (fun c_132 => ?_) (fun c_132 => ?_)
      · refine y_iconst dX11_fit_148 ?_
        exact z_iret dX11_fit_149 rfl (Nat.le_refl 0) (Nat.le_refl 0) (fin _ (by unfold mfA; first | (rw [if_pos (by omega)]; done) | (rw [if_neg (by omega), if_pos (by omega)]; done) | (rw [if_neg (by omega), if_neg (by omega)]; done)))
      · refine z_iload_n dX11_fit_135 rfl ?_
        refine y_if_le dX11_fit_136 (by omega) (fun c_136 => ?_) (fun c_136 => ?_)
        · refine y_iconst dX11_fit_148 ?_
          exact z_iret dX11_fit_149 rfl (Nat.le_refl 0) (Nat.le_refl 0) (fin _ (by unfold mfA; first | (rw [if_pos (by omega)]; done) | (rw [if_neg (by omega), if_pos (by omega)]; done) | (rw [if_neg (by omega), if_neg (by omega)]; done)))
        · refine z_iload dX11_fit_139 rfl ?_
          refine y_if_eq dX11_fit_141 (by omega) (fun c_141 => ?_) (fun c_141 => ?_)
          · refine y_iconst dX11_fit_148 ?_
            exact z_iret dX11_fit_149 rfl (Nat.le_refl 0) (Nat.le_refl 0) (fin _ (by unfold mfA; first | (rw [if_pos (by omega)]; done) | (rw [if_neg (by omega), if_pos (by omega)]; done) | (rw [if_neg (by omega), if_neg (by omega)]; done)))
          · refine z_iload_n dX11_fit_144 rfl ?_
            refine z_goto dX11_fit_145 ?_
            exact z_iret dX11_fit_149 rfl (Nat.le_refl 0) (Nat.le_refl 0) (fin _ (by unfold mfA; first | (rw [if_pos (by omega)]; done) | (rw [if_neg (by omega), if_pos (by omega)]; done) | (rw [if_neg (by omega), if_neg (by omega)]; done)))
    · refine z_iload_n dX11_fit_126 rfl ?_
      refine z_goto dX11_fit_127 ?_
      exact z_iret dX11_fit_149 rfl (Nat.le_refl 0) (Nat.le_refl 0) (fin _ (by unfold mfA; first | (rw [if_pos (by omega)]; done) | (rw [if_neg (by omega), if_pos (by omega)]; done) | (rw [if_neg (by omega), if_neg (by omega)]; done)))
  have loop : ∀ (k c : Nat) (U : Nat → Int → Int) (is : Int), c + k = P → mfO V U → (is = 1 ∧ (0 ≤ i ∧ i < m) ∨ is = 0 ∧ ¬ (0 ≤ i ∧ i < m)) → yE 6 Q mX11_fit 33 [some (.ref 134), some (.int (iI i)), some (.int (iI (F c).1)), some (.int (iI (F c).2.1)), some (.int (iI (F c).2.2)), some (.int (iI P)), some (.int (iI is)), some (.int (iI c))] [] U b := by
    intro k
    induction k with
    | zero =>
      intro c U is hc hU his
      have hcP : c = P := by omega
      subst hcP
      refine z_iload dX11_fit_33 rfl ?_
      refine z_iload dX11_fit_35 rfl ?_
      refine y_icmp_ge dX11_fit_37 (by omega) (by omega) (fun c_37 => ?_) (fun c_37 => ?_)
      · exact out U _ _ hU his
      · omega
    | succ k ih =>
      intro c U is hc hU his
      have uo : ∀ a, a = 135 ∨ a = 137 ∨ a = 134 ∨ a = 143 → U a = V a := fun a ha => hU a (by omega) (by omega) (by omega) (by omega)
      have u7 : U 137 = V 137 := uo 137 (by omega)
      have u5 : U 135 = V 135 := uo 135 (by omega)
      obtain ⟨U1, hU1⟩ : ∃ U1, U1 = zup U 145 (lrw R m c m (U 145)) := ⟨_, rfl⟩
      have o1 : ∀ a, a ≠ 145 → U1 a = U a := fun a ha => by rw [hU1, zup_n _ _ ha]
      have r1 : ∀ j : Int, 0 ≤ j → j < m → U1 145 j = dgt R m c j := fun j h0 h1 => by
        rw [hU1, zup_s]; unfold lrw; rw [if_pos (by omega)]
      have hlay := ct_X11_layRow (V := U) (b := b) (c := c) (B := R) (m := m) (by omega) (by omega) (by omega) hRm
      rw [← hU1] at hlay
      have v7 : U1 137 = V 137 := by rw [o1 137 (by decide), u7]
      have v5 : U1 135 = V 135 := by rw [o1 135 (by decide), u5]
      have v4 : U1 134 = V 134 := by rw [o1 134 (by decide), uo 134 (by omega)]
      have v43 : U1 143 = V 143 := by rw [o1 143 (by decide), uo 143 (by omega)]
      have hdr : ∀ j : Int, 0 ≤ j → j < m → 0 ≤ dgt R m c j ∧ dgt R m c j < R := fun j h0 h1 => dgt_rg (hR0 (by omega))
      have hcs := ct_X11_fits (V := U1) (b := b) (R := R) (m := m) (n := n) (by rw [v5]; exact hR) (by rw [v7]; exact hm) (by rw [v4]; exact hn) (MS_congr v5 hM) (NS_congr v7 hN) (by unfold chR; rw [v4, v43]; exact hC) (by rw [v5, v7]; exact hle) (fun j h0 h1 => by rw [r1 j h0 h1, v5, ← hR]; exact hdr j h0 h1)
      have hq : fitQ (U1 135) (U1 137) (U1 143) (U1 145) (lgF (U1 137) (U1 147) 4) (stF0 (U1 137) (U1 157) 28) m n = cdF (V 135) (V 137) (V 143) R m n c := by
        unfold cdF fitQ
        rw [v5, v7, v43]
        have hL : ∀ r, 0 ≤ r → r < 4 → lgF (V 137) (U1 147) 4 r = V 137 (8 + r) := fun r h0 h1 => by unfold lgF; rw [if_pos (by omega)]
        have hZ : ∀ j, 0 ≤ j → j < 28 → stF0 (V 137) (U1 157) 28 j = st0 (V 137) j := fun j h0 h1 => by unfold stF0 st0; rw [if_pos (by omega)]
        have h4 : ∀ j : Int, 0 ≤ j → j < m → 0 ≤ U1 145 j ∧ U1 145 j < 4 := fun j h0 h1 => by rw [r1 j h0 h1]; have := hdr j h0 h1; omega
        rw [cOk_congr (L0' := fun r => V 137 (8 + r)) r1 hL h4 m (Nat.le_refl m)]
        rw [chB_congr (n := n) (cS_congr (L0' := fun r => V 137 (8 + r)) (Z' := st0 (V 137)) r1 hL h4 hZ m (Nat.le_refl m)) (fun k q0 q1 => by have := k1 k q0 (by omega); omega) n (Nat.le_refl n)]
      rw [hq] at hcs
      have hfr := hFr c
      have hdi : (0 ≤ i ∧ i < m) → 0 ≤ dgt R m c i ∧ dgt R m c i ≤ 7 := fun h => by have := hdr i h.1 h.2; omega
      obtain ⟨B, hB⟩ : ∃ B, B = cdF (V 135) (V 137) (V 143) R m n c := ⟨_, rfl⟩
      have hF1 : F (c + 1) = if B = true then ((F c).1 + 1, (if 0 ≤ i ∧ i < m then dgt R m c i else -1), (if (F c).2.2 ≠ 0 ∧ ((F c).1 = 0 ∨ ((0 ≤ i ∧ i < m) ∧ dgt R m c i = (F c).2.1)) then 1 else 0)) else F c := by rw [hF, hB]; rfl
      rw [← hB] at hcs
      have next : ∀ (U2 : Nat → Int → Int) (x y z : Int), mfO V U2 → x = (F (c + 1)).1 → y = (F (c + 1)).2.1 → z = (F (c + 1)).2.2 → yE 6 Q mX11_fit 115 [some (.ref 134), some (.int (iI i)), some (.int (iI x)), some (.int (iI y)), some (.int (iI z)), some (.int (iI P)), some (.int (iI is)), some (.int (iI c))] [] U2 b := by
        intro U2 x y z ho e1 e2 e3
        subst e1 e2 e3
        have hh := ih (c + 1) U2 is (by omega) ho his
        rw [show ((c + 1 : Nat) : Int) = (c : Int) + 1 by omega] at hh
        refine y_iinc dX11_fit_115 rfl (by decide) rfl rfl ?_
        refine z_goto dX11_fit_118 ?_
        exact hh
      refine z_iload dX11_fit_33 rfl ?_
      refine z_iload dX11_fit_35 rfl ?_
      refine y_icmp_ge dX11_fit_37 (by omega) (by omega) (fun c_37 => ?_) (fun c_37 => ?_)
      · omega
      · refine z_aload_n dX11_fit_40 rfl ?_
        refine z_iload dX11_fit_41 rfl ?_
        refine z_aload_n dX11_fit_43 rfl ?_
        refine y_getR fX11_7 dX11_fit_44 (by first | assumption | rfl) (by first | assumption | rfl) ?_
        refine y_iconst dX11_fit_47 ?_
        refine y_iald dX11_fit_48 (by first | assumption | rfl) (by first | rfl | assumption) (by omega) ?_
        rw [u5, ← hR]
        refine z_aload_n dX11_fit_49 rfl ?_
        refine y_getR fX11_16 dX11_fit_50 (by first | assumption | rfl) (by first | assumption | rfl) ?_
        refine y_iconst dX11_fit_53 ?_
        refine y_iald dX11_fit_54 (by first | assumption | rfl) (by first | rfl | assumption) (by omega) ?_
        rw [u7, ← hm]
        refine y_callVv (hlay) kX11_244 dX11_fit_55 rfl rfl (by first | assumption | rfl) rfl (by decide) rfl (Nat.le_of_ble_eq_true rfl) (fun V1 h_55 => ?_)
        subst h_55
        refine z_aload_n dX11_fit_58 rfl ?_
        refine y_callVi (hcs) kX11_283 dX11_fit_59 rfl rfl (by first | assumption | rfl) rfl (by decide) rfl (Nat.le_of_ble_eq_true rfl) (fun q_59 V2 h_59 => ?_)
        obtain ⟨g1, S', L', T', g2⟩ := h_59
        have o2 : mfO V V2 := fun a q1 q2 q3 q4 => by rw [g2, mF_o q4 q2 q3, o1 a q1]; exact hU a q1 q2 q3 q4
        have r2 : V2 145 = V1 145 := by rw [g2, mF_o (by decide) (by decide) (by decide)]
        have r3 : (0 ≤ i ∧ i < m) → V2 145 i = dgt R m c i := fun h => by rw [r2]; exact r1 i h.1 h.2
        have q01 : q_59 = 0 ∨ q_59 = 1 := by rw [g1]; split <;> simp
        refine y_if_eq dX11_fit_62 (by omega) (fun c_62 => ?_) (fun c_62 => ?_)
        · have hBf : ¬ B = true := fun h => by rw [if_pos h] at g1; omega
          rw [if_neg hBf] at hF1
          have nx := next V2 (F c).1 (F c).2.1 (F c).2.2 o2 (by rw [hF1]) (by rw [hF1]) (by rw [hF1])
          first
            | exact nx
            | exact nx _ _ _ rfl (by first | (rw [if_pos (by omega)]; done) | (rw [if_neg (by omega)]; done)) (by first | (rw [if_pos (by omega)]; done) | (rw [if_neg (by omega)]; done))
        · have hBt : B = true := by
            by_cases h : B = true
            · exact h
            · rw [if_neg h] at g1; omega
          rw [if_pos hBt] at hF1
          have nx : ∀ x y z : Int, x = (F c).1 + 1 → y = (if 0 ≤ i ∧ i < m then dgt R m c i else -1) → z = (if (F c).2.2 ≠ 0 ∧ ((F c).1 = 0 ∨ ((0 ≤ i ∧ i < m) ∧ dgt R m c i = (F c).2.1)) then 1 else 0) → _ := fun x y z e1 e2 e3 => next V2 x y z o2 (by rw [hF1]; exact e1) (by rw [hF1]; exact e2) (by rw [hF1]; exact e3)
          refine z_iload dX11_fit_65 rfl ?_
          refine y_if_eq dX11_fit_67 (by omega) (fun c_67 => ?_) (fun c_67 => ?_)
          · refine y_iconst dX11_fit_93 ?_
            refine z_istore dX11_fit_94 (by decide) rfl rfl ?_
            refine z_iload dX11_fit_96 rfl ?_
            refine y_if_eq dX11_fit_98 (by omega) (fun c_98 => ?_) (fun c_98 => ?_)
            · refine y_iconst dX11_fit_110 ?_
              refine z_istore_n dX11_fit_111 (by decide) rfl rfl ?_
              refine y_iinc dX11_fit_112 rfl (by decide) rfl rfl ?_
              first
                | exact nx
                | exact nx _ _ _ rfl (by first | (rw [if_pos (by omega)]; done) | (rw [if_neg (by omega)]; done)) (by first | (rw [if_pos (by omega)]; done) | (rw [if_neg (by omega)]; done))
            · have hii2 : 0 ≤ i ∧ i < (m : Int) := by omega
              have hd72 := hdi hii2
              have r42 := r3 hii2
              refine z_aload_n dX11_fit_101 rfl ?_
              refine y_getR fX11_45 dX11_fit_102 (by first | assumption | rfl) (by first | assumption | rfl) ?_
              refine z_iload_n dX11_fit_105 rfl ?_
              refine y_iald dX11_fit_106 (by first | assumption | rfl) (by first | rfl | assumption) (by omega) ?_
              rw [r42]
              refine z_goto dX11_fit_107 ?_
              refine z_istore_n dX11_fit_111 (by decide) rfl rfl ?_
              refine y_iinc dX11_fit_112 rfl (by decide) rfl rfl ?_
              first
                | exact nx
                | exact nx _ _ _ rfl (by first | (rw [if_pos (by omega)]; done) | (rw [if_neg (by omega)]; done)) (by first | (rw [if_pos (by omega)]; done) | (rw [if_neg (by omega)]; done))
          · refine z_iload_n dX11_fit_70 rfl ?_
            refine y_if_eq dX11_fit_71 (by omega) (fun c_71 => ?_) (fun c_71 => ?_)
            · refine y_iconst dX11_fit_89 ?_
              refine z_goto dX11_fit_90 ?_
              refine z_istore dX11_fit_94 (by decide) rfl rfl ?_
              refine z_iload dX11_fit_96 rfl ?_
              refine y_if_eq dX11_fit_98 (by omega) (fun c_98 => ?_) (fun c_98 => ?_)
              · refine y_iconst dX11_fit_110 ?_
                refine z_istore_n dX11_fit_111 (by decide) rfl rfl ?_
                refine y_iinc dX11_fit_112 rfl (by decide) rfl rfl ?_
                first
                  | exact nx
                  | exact nx _ _ _ rfl (by first | (rw [if_pos (by omega)]; done) | (rw [if_neg (by omega)]; done)) (by first | (rw [if_pos (by omega)]; done) | (rw [if_neg (by omega)]; done))
              · have hii2 : 0 ≤ i ∧ i < (m : Int) := by omega
                have hd72 := hdi hii2
                have r42 := r3 hii2
                refine z_aload_n dX11_fit_101 rfl ?_
                refine y_getR fX11_45 dX11_fit_102 (by first | assumption | rfl) (by first | assumption | rfl) ?_
                refine z_iload_n dX11_fit_105 rfl ?_
                refine y_iald dX11_fit_106 (by first | assumption | rfl) (by first | rfl | assumption) (by omega) ?_
                rw [r42]
                refine z_goto dX11_fit_107 ?_
                refine z_istore_n dX11_fit_111 (by decide) rfl rfl ?_
                refine y_iinc dX11_fit_112 rfl (by decide) rfl rfl ?_
                first
                  | exact nx
                  | exact nx _ _ _ rfl (by first | (rw [if_pos (by omega)]; done) | (rw [if_neg (by omega)]; done)) (by first | (rw [if_pos (by omega)]; done) | (rw [if_neg (by omega)]; done))
            · refine z_iload dX11_fit_74 rfl ?_
              refine y_if_eq dX11_fit_76 (by omega) (fun c_76 => ?_) (fun c_76 => ?_)
              · refine y_iconst dX11_fit_93 ?_
                refine z_istore dX11_fit_94 (by decide) rfl rfl ?_
                refine z_iload dX11_fit_96 rfl ?_
                refine y_if_eq dX11_fit_98 (by omega) (fun c_98 => ?_) (fun c_98 => ?_)
                · refine y_iconst dX11_fit_110 ?_
                  refine z_istore_n dX11_fit_111 (by decide) rfl rfl ?_
                  refine y_iinc dX11_fit_112 rfl (by decide) rfl rfl ?_
                  first
                    | exact nx
                    | exact nx _ _ _ rfl (by first | (rw [if_pos (by omega)]; done) | (rw [if_neg (by omega)]; done)) (by first | (rw [if_pos (by omega)]; done) | (rw [if_neg (by omega)]; done))
                · have hii2 : 0 ≤ i ∧ i < (m : Int) := by omega
                  have hd72 := hdi hii2
                  have r42 := r3 hii2
                  refine z_aload_n dX11_fit_101 rfl ?_
                  refine y_getR fX11_45 dX11_fit_102 (by first | assumption | rfl) (by first | assumption | rfl) ?_
                  refine z_iload_n dX11_fit_105 rfl ?_
                  refine y_iald dX11_fit_106 (by first | assumption | rfl) (by first | rfl | assumption) (by omega) ?_
                  rw [r42]
                  refine z_goto dX11_fit_107 ?_
                  refine z_istore_n dX11_fit_111 (by decide) rfl rfl ?_
                  refine y_iinc dX11_fit_112 rfl (by decide) rfl rfl ?_
                  first
                    | exact nx
                    | exact nx _ _ _ rfl (by first | (rw [if_pos (by omega)]; done) | (rw [if_neg (by omega)]; done)) (by first | (rw [if_pos (by omega)]; done) | (rw [if_neg (by omega)]; done))
              · have hii : 0 ≤ i ∧ i < (m : Int) := by omega
                have hd7 := hdi hii
                have r4 := r3 hii
                refine z_aload_n dX11_fit_79 rfl ?_
                refine y_getR fX11_45 dX11_fit_80 (by first | assumption | rfl) (by first | assumption | rfl) ?_
                refine z_iload_n dX11_fit_83 rfl ?_
                refine y_iald dX11_fit_84 (by first | assumption | rfl) (by first | rfl | assumption) (by omega) ?_
                rw [r4]
                refine z_iload_n dX11_fit_85 rfl ?_
                refine y_icmp_ne dX11_fit_86 (by omega) (by omega) (fun c_86 => ?_) (fun c_86 => ?_)
                · refine y_iconst dX11_fit_93 ?_
                  refine z_istore dX11_fit_94 (by decide) rfl rfl ?_
                  refine z_iload dX11_fit_96 rfl ?_
                  refine y_if_eq dX11_fit_98 (by omega) (fun c_98 => ?_) (fun c_98 => ?_)
                  · refine y_iconst dX11_fit_110 ?_
                    refine z_istore_n dX11_fit_111 (by decide) rfl rfl ?_
                    refine y_iinc dX11_fit_112 rfl (by decide) rfl rfl ?_
                    first
                      | exact nx
                      | exact nx _ _ _ rfl (by first | (rw [if_pos (by omega)]; done) | (rw [if_neg (by omega)]; done)) (by first | (rw [if_pos (by omega)]; done) | (rw [if_neg (by omega)]; done))
                  · have hii2 : 0 ≤ i ∧ i < (m : Int) := by omega
                    have hd72 := hdi hii2
                    have r42 := r3 hii2
                    refine z_aload_n dX11_fit_101 rfl ?_
                    refine y_getR fX11_45 dX11_fit_102 (by first | assumption | rfl) (by first | assumption | rfl) ?_
                    refine z_iload_n dX11_fit_105 rfl ?_
                    refine y_iald dX11_fit_106 (by first | assumption | rfl) (by first | rfl | assumption) (by omega) ?_
                    rw [r42]
                    refine z_goto dX11_fit_107 ?_
                    refine z_istore_n dX11_fit_111 (by decide) rfl rfl ?_
                    refine y_iinc dX11_fit_112 rfl (by decide) rfl rfl ?_
                    first
                      | exact nx
                      | exact nx _ _ _ rfl (by first | (rw [if_pos (by omega)]; done) | (rw [if_neg (by omega)]; done)) (by first | (rw [if_pos (by omega)]; done) | (rw [if_neg (by omega)]; done))
                · refine y_iconst dX11_fit_89 ?_
                  refine z_goto dX11_fit_90 ?_
                  refine z_istore dX11_fit_94 (by decide) rfl rfl ?_
                  refine z_iload dX11_fit_96 rfl ?_
                  refine y_if_eq dX11_fit_98 (by omega) (fun c_98 => ?_) (fun c_98 => ?_)
                  · refine y_iconst dX11_fit_110 ?_
                    refine z_istore_n dX11_fit_111 (by decide) rfl rfl ?_
                    refine y_iinc dX11_fit_112 rfl (by decide) rfl rfl ?_
                    first
                      | exact nx
                      | exact nx _ _ _ rfl (by first | (rw [if_pos (by omega)]; done) | (rw [if_neg (by omega)]; done)) (by first | (rw [if_pos (by omega)]; done) | (rw [if_neg (by omega)]; done))
                  · have hii2 : 0 ≤ i ∧ i < (m : Int) := by omega
                    have hd72 := hdi hii2
                    have r42 := r3 hii2
                    refine z_aload_n dX11_fit_101 rfl ?_
                    refine y_getR fX11_45 dX11_fit_102 (by first | assumption | rfl) (by first | assumption | rfl) ?_
                    refine z_iload_n dX11_fit_105 rfl ?_
                    refine y_iald dX11_fit_106 (by first | assumption | rfl) (by first | rfl | assumption) (by omega) ?_
                    rw [r42]
                    refine z_goto dX11_fit_107 ?_
                    refine z_istore_n dX11_fit_111 (by decide) rfl rfl ?_
                    refine y_iinc dX11_fit_112 rfl (by decide) rfl rfl ?_
                    first
                      | exact nx
                      | exact nx _ _ _ rfl (by first | (rw [if_pos (by omega)]; done) | (rw [if_neg (by omega)]; done)) (by first | (rw [if_pos (by omega)]; done) | (rw [if_neg (by omega)]; done))
  have h0 := fun is h => loop P 0 V is (by omega) (fun a _ _ _ _ => rfl) h
  rw [show F 0 = (0, -1, 1) by rw [hF]; rfl] at h0
  refine zC_of (by decide +kernel) (Nat.le_of_ble_eq_true rfl) rfl ?_
  refine y_iconst dX11_fit_0 ?_
  refine z_istore_n dX11_fit_1 (by decide) rfl rfl ?_
  refine y_iconst dX11_fit_2 ?_
  refine z_istore_n dX11_fit_3 (by decide) rfl rfl ?_
  refine y_iconst dX11_fit_4 ?_
  refine z_istore dX11_fit_5 (by decide) rfl rfl ?_
  refine z_aload_n dX11_fit_7 rfl ?_
  refine y_callVr (hcd) kX11_241 dX11_fit_8 rfl rfl (by first | assumption | rfl) rfl (by decide) rfl (Nat.le_of_ble_eq_true rfl) (fun r_8 h_8 => ?_)
  rw [h_8]
  refine z_istore dX11_fit_11 (by decide) rfl rfl ?_
  refine z_iload_n dX11_fit_13 rfl ?_
  refine y_i2l dX11_fit_14 (by omega) ?_
  refine y_lconst (v := 0) dX11_fit_15 (by decide +kernel) ?_
  refine z_aload_n dX11_fit_16 rfl ?_
  refine y_getR fX11_16 dX11_fit_17 (by first | assumption | rfl) (by first | assumption | rfl) ?_
  refine y_iconst dX11_fit_20 ?_
  refine y_iald dX11_fit_21 (by first | assumption | rfl) (by first | rfl | assumption) (by omega) ?_
  rw [← hm]
  refine y_iconst dX11_fit_22 ?_
  refine y_isub dX11_fit_23 ?_
  refine y_i2l dX11_fit_24 (by omega) ?_
  refine y_callSr (ct_X11_in (by omega) (by omega) (by omega)) kX11_101 dX11_fit_25 rfl rfl (by decide) rfl (Nat.le_of_ble_eq_true rfl) (fun r_25 h_25 => ?_)
  refine z_istore dX11_fit_28 (by decide) rfl rfl ?_
  refine y_iconst dX11_fit_30 ?_
  refine z_istore dX11_fit_31 (by decide) rfl rfl ?_
  exact h0 _ (by omega)
end

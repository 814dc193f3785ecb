/-! ===== the model: foremen ===== -/
/-- the game's value, all kicks counted: n wagons from depth d on -/
def mmA (Y N : Int → Int) (R : Nat) : Nat → Int → (Int → Int) → (Int → Int) → Int → Int
  | 0, _, _, _, k => k
  | n + 1, d, cn, tl, k => if bst (decide (d % 2 = 0)) (fun r : Nat => decide (cn (r : Int) ≠ Y (1 + (r : Int)))) (fun r : Nat => mmA Y N R n (d + 1) (iup cn r (cn r + 1)) (iup tl r (N (1 + d))) (k + kkM Y (tl r) (N (1 + d)))) R = -1 then k else bst (decide (d % 2 = 0)) (fun r : Nat => decide (cn (r : Int) ≠ Y (1 + (r : Int)))) (fun r : Nat => mmA Y N R n (d + 1) (iup cn r (cn r + 1)) (iup tl r (N (1 + d))) (k + kkM Y (tl r) (N (1 + d)))) R
theorem mmA_rg {Y N : Int → Int} {R : Nat} : ∀ (n : Nat) (d : Int) (cn tl : Int → Int) (k : Int), 0 ≤ k → 0 ≤ mmA Y N R n d cn tl k ∧ mmA Y N R n d cn tl k ≤ k + n
  | 0, d, cn, tl, k, h => by unfold mmA; omega
  | n + 1, d, cn, tl, k, h => by
    have hb := bst_rg (few := decide (d % 2 = 0)) (ok := fun r : Nat => decide (cn (r : Int) ≠ Y (1 + (r : Int)))) (val := fun r : Nat => mmA Y N R n (d + 1) (iup cn r (cn r + 1)) (iup tl r (N (1 + d))) (k + kkM Y (tl r) (N (1 + d)))) (m := k + n + 1) (by omega) R (fun j _ _ => by
      have h1 := kkM_01 Y (tl (j : Int)) (N (1 + d))
      have h2 := mmA_rg (Y := Y) (N := N) (R := R) n (d + 1) (iup cn j (cn j + 1)) (iup tl j (N (1 + d))) (k + kkM Y (tl j) (N (1 + d))) (by omega)
      show 0 ≤ mmA Y N R n (d + 1) (iup cn j (cn j + 1)) (iup tl j (N (1 + d))) (k + kkM Y (tl j) (N (1 + d))) ∧ mmA Y N R n (d + 1) (iup cn j (cn j + 1)) (iup tl j (N (1 + d))) (k + kkM Y (tl j) (N (1 + d))) ≤ k + n + 1
      omega)
    unfold mmA
    split <;> omega
theorem wgV_bst {d : Int} {ok : Nat → Bool} {val : Nat → Int} {r : Nat} (ho : ok r = true) : wgV d (val r) (bst (decide (d % 2 = 0)) ok val r) = bst (decide (d % 2 = 0)) ok val (r + 1) := by
  show _ = if ok r then (if bst (decide (d % 2 = 0)) ok val r = -1 ∨ (if decide (d % 2 = 0) then val r < bst (decide (d % 2 = 0)) ok val r else bst (decide (d % 2 = 0)) ok val r < val r) then val r else bst (decide (d % 2 = 0)) ok val r) else bst (decide (d % 2 = 0)) ok val r
  rw [if_pos ho]
  unfold wgV
  by_cases hd : d % 2 = 0
  · simp only [hd, decide_true, if_true]
  · simp only [hd, decide_false, if_false, Bool.false_eq_true]
def lvS (U : Nat → Int → Int) (d : Int) (cn tl : Int → Int) (k : Int) : Prop := (∀ e, 0 ≤ e → e < 4 → U 152 (4 * d + e) = cn e ∧ U 153 (4 * d + e) = tl e) ∧ U 154 d = k
def lvE (d : Int) (U U' : Nat → Int → Int) : Prop := (∀ j, j < 4 * d + 4 → U' 152 j = U 152 j ∧ U' 153 j = U 153 j) ∧ (∀ j, j ≤ d → U' 154 j = U 154 j) ∧ (∀ j, j < d → U' 155 j = U 155 j ∧ U' 156 j = U 156 j)
theorem lvE_t {d : Int} {U U' U'' : Nat → Int → Int} (h : lvE d U U') (h' : lvE d U' U'') : lvE d U U'' := ⟨fun j hj => by rw [(h'.1 j hj).1, (h'.1 j hj).2]; exact h.1 j hj, fun j hj => by rw [h'.2.1 j hj]; exact h.2.1 j hj, fun j hj => by rw [(h'.2.2 j hj).1, (h'.2.2 j hj).2]; exact h.2.2 j hj⟩
theorem lvS_E {d : Int} {U U' : Nat → Int → Int} {cn tl : Int → Int} {k : Int} (hS : lvS U d cn tl k) (h : lvE d U U') : lvS U' d cn tl k := ⟨fun e e0 e1 => by rw [(h.1 _ (by omega)).1, (h.1 _ (by omega)).2]; exact hS.1 e e0 e1, by rw [h.2.1 d (by omega)]; exact hS.2⟩
abbrev moO (V U : Nat → Int → Int) : Prop := ∀ a, a < 147 ∨ a = 149 ∨ a = 150 ∨ a = 151 ∨ 156 < a → U a = V a
section
variable {V : Nat → Int → Int} {b : Bool}
theorem ct_X11_foremen {x : Int} {R : Nat} (hx : rg x) (hR : (R : Int) = V 135 0) (hM : MS V) (hN : NS V) : yC 6 mX11_foremen [.ref 134, .int (iI x)] V b (pI b (fun q V' => moO V V' ∧ ((¬ (1 ≤ x ∧ x ≤ 7) ∧ q = -1000000002) ∨ ((1 ≤ x ∧ x ≤ 7) ∧ q = mmA (V 135) (V 137) R (min x (V 137 0)).toNat 0 (fun r => V 137 (8 + r)) (fun r => if V 137 (8 + r) = 0 then -1 else V 137 (12 + 7 * r + V 137 (8 + r) - 1)) 0)))) := by
  obtain ⟨n0, n1, n2, n3, n4⟩ := id hN
  obtain ⟨m0, m1, m2, m3, m4⟩ := id hM
  obtain ⟨z, hz⟩ : ∃ z, z = min x (V 137 0) := ⟨_, rfl⟩
  rw [← hz]
  obtain ⟨c0, hc0⟩ : ∃ c0 : Int → Int, c0 = fun r => V 137 (8 + r) := ⟨_, rfl⟩
  obtain ⟨t0, ht0⟩ : ∃ t0 : Int → Int, t0 = fun r => if V 137 (8 + r) = 0 then -1 else V 137 (12 + 7 * r + V 137 (8 + r) - 1) := ⟨_, rfl⟩
  have c0r : ∀ e, 0 ≤ e → e < 4 → 0 ≤ c0 e ∧ c0 e ≤ 7 := fun e e0 e1 => by rw [hc0]; exact n1 e e0 e1
  have t0r : ∀ e, 0 ≤ e → e < 4 → -1 ≤ t0 e ∧ t0 e ≤ 6 := fun e e0 e1 => by
    have := n1 e e0 e1
    rw [ht0]
    show -1 ≤ (if V 137 (8 + e) = 0 then -1 else V 137 (12 + 7 * e + V 137 (8 + e) - 1)) ∧ (if V 137 (8 + e) = 0 then -1 else V 137 (12 + 7 * e + V 137 (8 + e) - 1)) ≤ 6
    split
    · omega
    · have := n3 (12 + 7 * e + V 137 (8 + e) - 1) (by omega) (by omega); omega
  rw [← hc0, ← ht0]
  obtain ⟨Q, hQ⟩ : ∃ Q : Option Value → zMu → Prop, Q = pI b (fun q V' => moO V V' ∧ ((¬ (1 ≤ x ∧ x ≤ 7) ∧ q = -1000000002) ∨ ((1 ≤ x ∧ x ≤ 7) ∧ q = mmA (V 135) (V 137) R z.toNat 0 c0 t0 0))) := ⟨_, rfl⟩
  rw [← hQ]
  have run : ∀ (n : Nat) (d : Int) (cn tl : Int → Int) (k : Int), d + (n + 1 : Nat) = z → 0 ≤ d → z ≤ 7 → z ≤ V 137 0 → (∀ e, 0 ≤ e → e < 4 → (0 ≤ cn e ∧ cn e ≤ 7 + d) ∧ (-1 ≤ tl e ∧ tl e ≤ 6)) → 0 ≤ k → k ≤ d → ∀ (t r : Nat) (U : Nat → Int → Int), r + t = R → moO V U → lvS U d cn tl k → U 155 d = (r : Int) - 1 → U 156 d = bst (decide (d % 2 = 0)) (fun r : Nat => decide (cn (r : Int) ≠ V 135 (1 + (r : Int)))) (fun r : Nat => mmA (V 135) (V 137) R n (d + 1) (iup cn r (cn r + 1)) (iup tl r (V 137 (1 + d))) (k + kkM (V 135) (tl r) (V 137 (1 + d)))) r → (∀ U', moO V U' → lvE d U U' → U' 156 d = mmA (V 135) (V 137) R (n + 1) d cn tl k → yE 6 Q mX11_foremen 157 [some (.ref 134), some (.int (iI x)), some (.int (iI z)), some (.int (iI d))] [] U' b) → yE 6 Q mX11_foremen 97 [some (.ref 134), some (.int (iI x)), some (.int (iI z)), some (.int (iI d))] [] U b := by
    intro n
    induction n using Nat.strongRecOn with
    | _ n ih =>
      intro d cn tl k hd d0 hz7 hzV hce hk hkd t
      induction t with
      | zero =>
        intro r U hrt hU hS h5 h6 K
        have u5 : U 135 = V 135 := hU 135 (by omega)
        have hb := bst_rg (few := decide (d % 2 = 0)) (ok := fun r : Nat => decide (cn (r : Int) ≠ V 135 (1 + (r : Int)))) (val := fun r : Nat => mmA (V 135) (V 137) R n (d + 1) (iup cn r (cn r + 1)) (iup tl r (V 137 (1 + d))) (k + kkM (V 135) (tl r) (V 137 (1 + d)))) (m := k + n + 1) (by omega) r (fun j _ _ => by
          have h1 := kkM_01 (V 135) (tl (j : Int)) (V 137 (1 + d))
          have h2 := mmA_rg (Y := V 135) (N := V 137) (R := R) n (d + 1) (iup cn j (cn j + 1)) (iup tl j (V 137 (1 + d))) (k + kkM (V 135) (tl j) (V 137 (1 + d))) (by omega)
          exact ⟨h2.1, by have := h2.2; show mmA (V 135) (V 137) R n (d + 1) (iup cn j (cn j + 1)) (iup tl j (V 137 (1 + d))) (k + kkM (V 135) (tl j) (V 137 (1 + d))) ≤ k + n + 1; omega⟩)
        have hrR : r = R := by omega
        subst hrR
        obtain ⟨B, hB⟩ : ∃ B, B = bst (decide (d % 2 = 0)) (fun r : Nat => decide (cn (r : Int) ≠ V 135 (1 + (r : Int)))) (fun r_1 : Nat => mmA (V 135) (V 137) r n (d + 1) (iup cn r_1 (cn r_1 + 1)) (iup tl r_1 (V 137 (1 + d))) (k + kkM (V 135) (tl r_1) (V 137 (1 + d)))) r := ⟨_, rfl⟩
        have hfin : mmA (V 135) (V 137) r (n + 1) d cn tl k = if B = -1 then k else B := by rw [hB]; rfl
        rw [← hB] at h6 hb
        have e5 : vst U 155 d (r : Int) 155 d = (r : Int) := vst_s _ _ _ _
        have e6 : vst U 155 d (r : Int) 156 d = B := by rw [vst_o (by decide)]; exact h6
        have e4 : vst U 155 d (r : Int) 154 d = k := by rw [vst_o (by decide)]; exact hS.2
        have fin : ∀ v : Int, v = (if B = -1 then k else B) → yE 6 Q mX11_foremen 157 [some (.ref 134), some (.int (iI x)), some (.int (iI z)), some (.int (iI d))] [] (vst (vst U 155 d (r : Int)) 156 d v) b := fun v hv => by
          refine K _ (fun a ha => by rw [vst_o (by omega), vst_o (by omega)]; exact hU a ha) ⟨fun j hj => by rw [vst_o (by decide), vst_o (by decide), vst_o (by decide), vst_o (by decide)]; exact ⟨rfl, rfl⟩, fun j hj => by rw [vst_o (by decide), vst_o (by decide)], fun j hj => by rw [vst_o (by decide), vst_n (by omega), vst_n (by omega), vst_o (by decide)]; exact ⟨rfl, rfl⟩⟩ (by rw [vst_s, hfin]; exact hv)
        refine z_iload_n dX11_foremen_97 rfl ?_
        refine y_if_lt dX11_foremen_98 (by omega) (fun c_98 => ?_) (fun c_98 => ?_)
        · omega
        · refine z_aload_n dX11_foremen_101 rfl ?_
          refine y_getR fX11_75 dX11_foremen_102 (by first | assumption | rfl) (by first | assumption | rfl) ?_
          refine z_iload_n dX11_foremen_105 rfl ?_
          refine z_dup2 dX11_foremen_106 rfl rfl ?_
          refine y_iald dX11_foremen_107 (by first | assumption | rfl) (by first | rfl | assumption) (by omega) ?_
          rw [h5]
          refine y_iconst dX11_foremen_108 ?_
          refine y_iadd dX11_foremen_109 ?_
          rw [show (r : Int) - 1 + 1 = (r : Int) by omega]
          refine y_iast dX11_foremen_110 (by first | assumption | rfl) (by first | rfl | assumption) (by omega) ?_
          refine z_aload_n dX11_foremen_111 rfl ?_
          refine y_getR fX11_75 dX11_foremen_112 (by first | assumption | rfl) (by first | assumption | rfl) ?_
          refine z_iload_n dX11_foremen_115 rfl ?_
          refine y_iald dX11_foremen_116 (by first | assumption | rfl) (by first | rfl | assumption) (by omega) ?_
          rw [e5]
          refine z_aload_n dX11_foremen_117 rfl ?_
          refine y_getR fX11_7 dX11_foremen_118 (by first | assumption | rfl) (by first | assumption | rfl) ?_
          refine y_iconst dX11_foremen_121 ?_
          refine y_iald dX11_foremen_122 (by first | assumption | rfl) (by first | rfl | assumption) (by omega) ?_
          rw [vst_o (by decide), u5, ← hR]
          refine y_icmp_ne dX11_foremen_123 (by omega) (by omega) (fun c_123 => ?_) (fun c_123 => ?_)
          · omega
          · refine z_aload_n dX11_foremen_126 rfl ?_
            refine y_getR fX11_78 dX11_foremen_127 (by first | assumption | rfl) (by first | assumption | rfl) ?_
            refine z_iload_n dX11_foremen_130 rfl ?_
            refine z_aload_n dX11_foremen_131 rfl ?_
            refine y_getR fX11_78 dX11_foremen_132 (by first | assumption | rfl) (by first | assumption | rfl) ?_
            refine z_iload_n dX11_foremen_135 rfl ?_
            refine y_iald dX11_foremen_136 (by first | assumption | rfl) (by first | rfl | assumption) (by omega) ?_
            rw [e6]
            refine y_iconst dX11_foremen_137 ?_
            refine y_icmp_ne dX11_foremen_138 (by omega) (by omega) (fun c_138 => ?_) (fun c_138 => ?_)
            · refine z_aload_n dX11_foremen_150 rfl ?_
              refine y_getR fX11_78 dX11_foremen_151 (by first | assumption | rfl) (by first | assumption | rfl) ?_
              refine z_iload_n dX11_foremen_154 rfl ?_
              refine y_iald dX11_foremen_155 (by first | assumption | rfl) (by first | rfl | assumption) (by omega) ?_
              rw [e6]
              refine y_iast dX11_foremen_156 (by first | assumption | rfl) (by first | rfl | assumption) (by omega) ?_
              exact fin _ (by first | (rw [if_pos (by omega)]; done) | (rw [if_neg (by omega)]; done))
            · refine z_aload_n dX11_foremen_141 rfl ?_
              refine y_getR fX11_72 dX11_foremen_142 (by first | assumption | rfl) (by first | assumption | rfl) ?_
              refine z_iload_n dX11_foremen_145 rfl ?_
              refine y_iald dX11_foremen_146 (by first | assumption | rfl) (by first | rfl | assumption) (by omega) ?_
              rw [e4]
              refine z_goto dX11_foremen_147 ?_
              refine y_iast dX11_foremen_156 (by first | assumption | rfl) (by first | rfl | assumption) (by omega) ?_
              exact fin _ (by first | (rw [if_pos (by omega)]; done) | (rw [if_neg (by omega)]; done))
      | succ t iht =>
        intro r U hrt hU hS h5 h6 K
        have u5 : U 135 = V 135 := hU 135 (by omega)
        have u7 : U 137 = V 137 := hU 137 (by omega)
        have hr4 : (r : Int) < V 135 0 := by omega
        obtain ⟨w, hw⟩ : ∃ w, w = V 137 (1 + d) := ⟨_, rfl⟩
        have hw6 := n2 (1 + d) (by omega) (by omega)
        rw [← hw] at hw6 h6
        obtain ⟨val, hval⟩ : ∃ val : Nat → Int, val = (fun r : Nat => mmA (V 135) (V 137) R n (d + 1) (iup cn r (cn r + 1)) (iup tl r w) (k + kkM (V 135) (tl r) w)) := ⟨_, rfl⟩
        obtain ⟨ok, hok⟩ : ∃ ok : Nat → Bool, ok = (fun r : Nat => decide (cn (r : Int) ≠ V 135 (1 + (r : Int)))) := ⟨_, rfl⟩
        have iht := iht (r + 1)
        rw [← hw, ← hval, ← hok] at iht
        rw [← hval, ← hok] at h6
        have hce' := hce r (by omega) (by omega)
        have k01 := kkM_01 (V 135) (tl (r : Int)) w
        have hvr : ∀ j : Nat, 0 ≤ val j ∧ val j ≤ 20 := fun j => by
          have h1 := kkM_01 (V 135) (tl (j : Int)) w
          have h2 := mmA_rg (Y := V 135) (N := V 137) (R := R) n (d + 1) (iup cn j (cn j + 1)) (iup tl j w) (k + kkM (V 135) (tl j) w) (by omega)
          rw [hval]
          show 0 ≤ mmA (V 135) (V 137) R n (d + 1) (iup cn j (cn j + 1)) (iup tl j w) (k + kkM (V 135) (tl j) w) ∧ mmA (V 135) (V 137) R n (d + 1) (iup cn j (cn j + 1)) (iup tl j w) (k + kkM (V 135) (tl j) w) ≤ 20
          omega
        have hb := bst_rg (few := decide (d % 2 = 0)) (ok := ok) (val := val) (m := 20) (by omega) r (fun j _ _ => hvr j)
        have hvr := hvr r
        obtain ⟨U1, hU1⟩ : ∃ U1, U1 = vst U 155 d (r : Int) := ⟨_, rfl⟩
        have o1 : moO V U1 := fun a ha => by rw [hU1, vst_o (by omega)]; exact hU a ha
        have E1 : lvE d U U1 := ⟨fun j hj => by rw [hU1, vst_o (by decide), vst_o (by decide)]; exact ⟨rfl, rfl⟩, fun j hj => by rw [hU1, vst_o (by decide)], fun j hj => by rw [hU1, vst_n (by omega), vst_o (by decide)]; exact ⟨rfl, rfl⟩⟩
        have S1 := lvS_E hS E1
        have e5 : U1 155 d = (r : Int) := by rw [hU1, vst_s]
        have e6 : U1 156 d = bst (decide (d % 2 = 0)) ok val r := by rw [hU1, vst_o (by decide)]; exact h6
        have v5 : U1 135 = V 135 := o1 135 (by omega)
        have v7 : U1 137 = V 137 := o1 137 (by omega)
        have sL := (S1.1 r (by omega) (by omega)).1
        have sT := (S1.1 r (by omega) (by omega)).2
        have hgo := ct_X11_goes (V := U1) (b := b) (d := d) (r := r) (w := w) (by omega) e5 (by rw [v5]; omega) (by rw [v7]; exact hw.symm) hw6 (MS_congr v5 hM) (by rw [sL]; omega) (by rw [sT]; omega)
        rw [v5, sL] at hgo
        have hYr := m4 r (by omega) hr4
        have hU1d : vst U 155 d ((r : Int) - 1 + 1) = U1 := by rw [hU1, show (r : Int) - 1 + 1 = (r : Int) by omega]
        -- full
        have full : cn r = V 135 (1 + (r : Int)) → yE 6 Q mX11_foremen 97 [some (.ref 134), some (.int (iI x)), some (.int (iI z)), some (.int (iI d))] [] U1 b := by
          intro hf
          refine iht U1 (by omega) o1 S1 (by rw [e5]; omega) ?_ (fun U' h1 h2 h3 => K U' h1 (lvE_t E1 h2) h3)
          rw [e6, bst_pass]
          rw [hok]
          exact decide_eq_false (fun h => h hf)
        -- gone
        obtain ⟨U2, hU2⟩ : ∃ U2, U2 = goM U1 d r w := ⟨_, rfl⟩
        have g2 : U2 = vst (zup (zup U1 152 (gL (U1 152) d r 4)) 153 (gT (U1 153) d r w 4)) 154 (d + 1) (k + kkM (V 135) (tl r) w) := by
          rw [hU2]; unfold goM; rw [S1.2, sT, v5]
        have o2 : moO V U2 := fun a ha => by rw [g2, vst_o (by omega), zup_n _ _ (by omega), zup_n _ _ (by omega)]; exact o1 a ha
        have E2 : lvE d U1 U2 := ⟨fun j hj => by
            rw [g2, vst_o (by decide), vst_o (by decide), zup_n _ _ (by decide), zup_s, zup_s]
            unfold gL gT
            rw [if_neg (by omega), if_neg (by omega)]
            exact ⟨rfl, rfl⟩, fun j hj => by rw [g2, vst_n (by omega), zup_n _ _ (by decide), zup_n _ _ (by decide)], fun j hj => by rw [g2, vst_o (by decide), vst_o (by decide), zup_n _ _ (by decide), zup_n _ _ (by decide), zup_n _ _ (by decide), zup_n _ _ (by decide)]; exact ⟨rfl, rfl⟩⟩
        have S2 : lvS U2 (d + 1) (iup cn r (cn r + 1)) (iup tl r w) (k + kkM (V 135) (tl r) w) := by
          refine ⟨fun e q0 q1 => ?_, by rw [g2, vst_s]⟩
          rw [g2, vst_o (by decide), vst_o (by decide), zup_n _ _ (by decide), zup_s, zup_s]
          unfold gL gT
          rw [if_pos (show 4 * d + 4 ≤ 4 * (d + 1) + e ∧ 4 * (d + 1) + e < 4 * d + 4 + 4 by omega), if_pos (show 4 * d + 4 ≤ 4 * (d + 1) + e ∧ 4 * (d + 1) + e < 4 * d + 4 + 4 by omega), show 4 * (d + 1) + e - 4 = 4 * d + e by omega, show 4 * (d + 1) + e - (4 * d + 4) = e by omega, (S1.1 e q0 q1).1, (S1.1 e q0 q1).2]
          unfold iup
          by_cases he : e = r
          · simp only [if_pos he]; rw [he]; exact ⟨rfl, trivial⟩
          · simp only [if_neg he]; exact ⟨by omega, trivial⟩
        have f6 : U2 156 d = bst (decide (d % 2 = 0)) ok val r := by rw [g2, vst_o (by decide), zup_n _ _ (by decide), zup_n _ _ (by decide)]; exact e6
        have f5 : U2 155 d = (r : Int) := by rw [g2, vst_o (by decide), zup_n _ _ (by decide), zup_n _ _ (by decide)]; exact e5
        have f4 : U2 154 (d + 1) = k + kkM (V 135) (tl r) w := S2.2
        -- weighed, at 97 again
        have back : ∀ (U4 : Nat → Int → Int), cn r ≠ V 135 (1 + (r : Int)) → moO V U4 → lvE d U U4 → U4 155 d = (r : Int) → yE 6 Q mX11_foremen 97 [some (.ref 134), some (.int (iI x)), some (.int (iI z)), some (.int (iI d))] [] (vst U4 156 d (wgV d (val r) (bst (decide (d % 2 = 0)) ok val r))) b := by
          intro U4 hne q1 q2 q3
          have E5 : lvE d U (vst U4 156 d (wgV d (val r) (bst (decide (d % 2 = 0)) ok val r))) := lvE_t q2 ⟨fun j hj => by rw [vst_o (by decide), vst_o (by decide)]; exact ⟨rfl, rfl⟩, fun j hj => by rw [vst_o (by decide)], fun j hj => by rw [vst_o (by decide), vst_n (by omega)]; exact ⟨rfl, rfl⟩⟩
          refine iht _ (by omega) (fun a ha => by rw [vst_o (by omega)]; exact q1 a ha) (lvS_E hS E5) (by rw [vst_o (by decide), q3]; omega) ?_ (fun U' h1 h2 h3 => K U' h1 (lvE_t E5 h2) h3)
          rw [vst_s, wgV_bst]
          rw [hok]
          exact decide_eq_true hne
        -- deeper
        have deep : ∀ n' : Nat, n = n' + 1 → cn r ≠ V 135 (1 + (r : Int)) → yE 6 Q mX11_foremen 97 [some (.ref 134), some (.int (iI x)), some (.int (iI z)), some (.int (iI (d + 1)))] [] (vst (vst U2 155 (d + 1) (-1)) 156 (d + 1) (-1)) b := by
          intro n' hn' hne
          have E3 : ∀ d', d' ≤ d → lvE d' U2 (vst (vst U2 155 (d + 1) (-1)) 156 (d + 1) (-1)) := fun d' hd' => ⟨fun j hj => by rw [vst_o (by decide), vst_o (by decide), vst_o (by decide), vst_o (by decide)]; exact ⟨rfl, rfl⟩, fun j hj => by rw [vst_o (by decide), vst_o (by decide)], fun j hj => by rw [vst_o (by decide), vst_n (by omega), vst_n (by omega), vst_o (by decide)]; exact ⟨rfl, rfl⟩⟩
          have S3 : lvS (vst (vst U2 155 (d + 1) (-1)) 156 (d + 1) (-1)) (d + 1) (iup cn r (cn r + 1)) (iup tl r w) (k + kkM (V 135) (tl r) w) := by
            unfold lvS
            rw [vst_o (by decide), vst_o (by decide), vst_o (by decide), vst_o (by decide), vst_o (by decide), vst_o (by decide)]
            exact S2
          refine ih n' (by omega) (d + 1) (iup cn r (cn r + 1)) (iup tl r w) (k + kkM (V 135) (tl r) w) (by omega) (by omega) hz7 hzV ?_ (by omega) (by omega) R 0 _ (by omega) (fun a ha => by rw [vst_o (by omega), vst_o (by omega)]; exact o2 a ha) S3 (by rw [vst_o (by decide), vst_s]; rfl) (by rw [vst_s]; rfl) ?_
          · intro e q0 q1
            have := hce e q0 q1
            unfold iup
            constructor
            · split <;> omega
            · split <;> omega
          · intro U4 q1 q2 q3
            have hv : U4 156 (d + 1) = val r := by rw [q3, hval, hn']
            have h4d : U4 156 d = bst (decide (d % 2 = 0)) ok val r := by rw [(q2.2.2 d (by omega)).2, vst_n (by omega), vst_o (by decide)]; exact f6
            have h5d : U4 155 d = (r : Int) := by rw [(q2.2.2 d (by omega)).1, vst_o (by decide), vst_n (by omega)]; exact f5
            have E4 : lvE d U U4 := lvE_t E1 (lvE_t E2 (lvE_t (E3 d (by omega)) ⟨fun j hj => q2.1 j (by omega), fun j hj => q2.2.1 j (by omega), fun j hj => q2.2.2 j (by omega)⟩))
            have bk := back U4 hne q1 E4 h5d
            have hwe := ct_X11_weighs (V := U4) (b := b) (d := d) (v := val r) (by omega) (by omega) (by rw [h4d]; omega)
            rw [h4d] at hwe
            refine y_iinc dX11_foremen_157 rfl (by decide) rfl rfl ?_
            rw [show d + 1 + (-1) = d by omega]
            refine z_iload_n dX11_foremen_160 rfl ?_
            refine y_if_lt dX11_foremen_161 (by omega) (fun c_161 => ?_) (fun c_161 => ?_)
            · omega
            · refine z_aload_n dX11_foremen_164 rfl ?_
              refine z_iload_n dX11_foremen_165 rfl ?_
              refine z_aload_n dX11_foremen_166 rfl ?_
              refine y_getR fX11_78 dX11_foremen_167 (by first | assumption | rfl) (by first | assumption | rfl) ?_
              refine z_iload_n dX11_foremen_170 rfl ?_
              refine y_iconst dX11_foremen_171 ?_
              refine y_iadd dX11_foremen_172 ?_
              refine y_iald dX11_foremen_173 (by first | assumption | rfl) (by first | rfl | assumption) (by omega) ?_
              rw [hv]
              refine y_callVv (hwe) kX11_263 dX11_foremen_174 rfl rfl (by first | assumption | rfl) rfl (by decide) rfl (Nat.le_of_ble_eq_true rfl) (fun V1 h_174 => ?_)
              subst h_174
              refine z_goto dX11_foremen_177 ?_
              exact bk
        have hwe := ct_X11_weighs (V := U2) (b := b) (d := d) (v := U2 154 (d + 1)) (by omega) (by rw [f4]; omega) (by rw [f6]; omega)
        rw [f6] at hwe
        have bk0 : n = 0 → cn r ≠ V 135 (1 + (r : Int)) → yE 6 Q mX11_foremen 97 [some (.ref 134), some (.int (iI x)), some (.int (iI z)), some (.int (iI d))] [] (vst U2 156 d (wgV d (U2 154 (d + 1)) (bst (decide (d % 2 = 0)) ok val r))) b := by
          intro hn0 hne
          have := back U2 hne o2 (lvE_t E1 E2) f5
          rw [show val r = U2 154 (d + 1) by rw [f4, hval, hn0]; rfl] at this
          exact this
        refine z_iload_n dX11_foremen_97 rfl ?_
        refine y_if_lt dX11_foremen_98 (by omega) (fun c_98 => ?_) (fun c_98 => ?_)
        · omega
        · refine z_aload_n dX11_foremen_101 rfl ?_
          refine y_getR fX11_75 dX11_foremen_102 (by first | assumption | rfl) (by first | assumption | rfl) ?_
          refine z_iload_n dX11_foremen_105 rfl ?_
          refine z_dup2 dX11_foremen_106 rfl rfl ?_
          refine y_iald dX11_foremen_107 (by first | assumption | rfl) (by first | rfl | assumption) (by omega) ?_
          rw [h5]
          refine y_iconst dX11_foremen_108 ?_
          refine y_iadd dX11_foremen_109 ?_
          refine y_iast dX11_foremen_110 (by first | assumption | rfl) (by first | rfl | assumption) (by omega) ?_
          rw [hU1d]
          refine z_aload_n dX11_foremen_111 rfl ?_
          refine y_getR fX11_75 dX11_foremen_112 (by first | assumption | rfl) (by first | assumption | rfl) ?_
          refine z_iload_n dX11_foremen_115 rfl ?_
          refine y_iald dX11_foremen_116 (by first | assumption | rfl) (by first | rfl | assumption) (by omega) ?_
          rw [e5]
          refine z_aload_n dX11_foremen_117 rfl ?_
          refine y_getR fX11_7 dX11_foremen_118 (by first | assumption | rfl) (by first | assumption | rfl) ?_
          refine y_iconst dX11_foremen_121 ?_
          refine y_iald dX11_foremen_122 (by first | assumption | rfl) (by first | rfl | assumption) (by omega) ?_
          rw [v5, ← hR]
          refine y_icmp_ne dX11_foremen_123 (by omega) (by omega) (fun c_123 => ?_) (fun c_123 => ?_)
          · refine z_aload_n dX11_foremen_180 rfl ?_
            refine z_iload_n dX11_foremen_181 rfl ?_
            refine y_callVi (hgo) kX11_267 dX11_foremen_182 rfl rfl (by first | assumption | rfl) rfl (by decide) rfl (Nat.le_of_ble_eq_true rfl) (fun q_182 V1 h_182 => ?_)
            have q01 : q_182 = 0 ∨ q_182 = 1 := by rcases h_182 with h | h <;> omega
            refine y_if_eq dX11_foremen_185 (by omega) (fun c_185 => ?_) (fun c_185 => ?_)
            · obtain ⟨z1, z2, z3⟩ := h_182.resolve_right (fun h => by omega)
              subst z3
              exact full z1
            · obtain ⟨z1, z2, z3⟩ := h_182.resolve_left (fun h => by omega)
              rw [← hU2] at z3
              subst z3
              refine z_iload_n dX11_foremen_188 rfl ?_
              refine y_iconst dX11_foremen_189 ?_
              refine y_iadd dX11_foremen_190 ?_
              refine z_iload_n dX11_foremen_191 rfl ?_
              refine y_icmp_ne dX11_foremen_192 (by omega) (by omega) (fun c_192 => ?_) (fun c_192 => ?_)
              · refine y_iinc dX11_foremen_211 rfl (by decide) rfl rfl ?_
                refine z_aload_n dX11_foremen_214 rfl ?_
                refine z_iload_n dX11_foremen_215 rfl ?_
                refine y_callVv (ct_X11_beginsStep (by omega)) kX11_259 dX11_foremen_216 rfl rfl (by first | assumption | rfl) rfl (by decide) rfl (Nat.le_of_ble_eq_true rfl) (fun V3 h_216 => ?_)
                subst h_216
                refine z_goto dX11_foremen_219 ?_
                exact deep (n - 1) (by omega) z1
              · refine z_aload_n dX11_foremen_195 rfl ?_
                refine z_iload_n dX11_foremen_196 rfl ?_
                refine z_aload_n dX11_foremen_197 rfl ?_
                refine y_getR fX11_72 dX11_foremen_198 (by first | assumption | rfl) (by first | assumption | rfl) ?_
                refine z_iload_n dX11_foremen_201 rfl ?_
                refine y_iconst dX11_foremen_202 ?_
                refine y_iadd dX11_foremen_203 ?_
                refine y_iald dX11_foremen_204 (by first | assumption | rfl) (by first | rfl | assumption) (by omega) ?_
                refine y_callVv (hwe) kX11_263 dX11_foremen_205 rfl rfl (by first | assumption | rfl) rfl (by decide) rfl (Nat.le_of_ble_eq_true rfl) (fun V3 h_205 => ?_)
                subst h_205
                refine z_goto dX11_foremen_208 ?_
                exact bk0 (by omega) z1
          · omega
  have fin : ∀ q U, moO V U → ((¬ (1 ≤ x ∧ x ≤ 7) ∧ q = -1000000002) ∨ ((1 ≤ x ∧ x ≤ 7) ∧ q = mmA (V 135) (V 137) R z.toNat 0 c0 t0 0)) → Q (some (.int (iI q))) (mk S0 U (Fs b)) := fun q U h1 h2 => by rw [hQ]; exact ⟨_, _, rfl, rfl, h1, h2⟩
  have hend : ∀ U', (1 ≤ x ∧ x ≤ 7) → moO V U' → U' 156 0 = mmA (V 135) (V 137) R z.toNat 0 c0 t0 0 → yE 6 Q mX11_foremen 222 [some (.ref 134), some (.int (iI x)), some (.int (iI z)), some (.int (iI (0 + -1)))] [] U' b := by
    intro U' hx7 q1 q3
    refine z_aload_n dX11_foremen_222 rfl ?_
    refine y_getR fX11_78 dX11_foremen_223 (by first | assumption | rfl) (by first | assumption | rfl) ?_
    refine y_iconst dX11_foremen_226 ?_
    refine y_iald dX11_foremen_227 (by first | assumption | rfl) (by first | rfl | assumption) (by omega) ?_
    rw [q3]
    exact z_iret dX11_foremen_228 rfl (Nat.le_refl 0) (Nat.le_refl 0) (fin _ _ q1 (Or.inr ⟨hx7, rfl⟩))
  have start : ∀ (U : Nat → Int → Int), (1 ≤ x ∧ x ≤ 7) → 1 ≤ z → moO V U → (∀ e, 0 ≤ e → e < 4 → U 152 e = c0 e ∧ U 153 e = t0 e) → yE 6 Q mX11_foremen 83 [some (.ref 134), some (.int (iI x)), some (.int (iI z)), some (.int (iI 4))] [] U b := by
    intro U hx7 hz1 hU hS
    obtain ⟨U1, hU1⟩ : ∃ U1, U1 = vst (vst (vst U 154 0 0) 155 0 (-1)) 156 0 (-1) := ⟨_, rfl⟩
    have o1 : moO V U1 := fun a ha => by rw [hU1, vst_o (by omega), vst_o (by omega), vst_o (by omega)]; exact hU a ha
    have S1 : lvS U1 0 c0 t0 0 := ⟨fun e e0 e1 => by rw [hU1, vst_o (by decide), vst_o (by decide), vst_o (by decide), vst_o (by decide), vst_o (by decide), vst_o (by decide), show 4 * 0 + e = e by omega]; exact hS e e0 e1, by rw [hU1, vst_o (by decide), vst_o (by decide), vst_s]⟩
    have top : ∀ U', moO V U' → lvE 0 U1 U' → U' 156 0 = mmA (V 135) (V 137) R (z.toNat - 1 + 1) 0 c0 t0 0 → yE 6 Q mX11_foremen 157 [some (.ref 134), some (.int (iI x)), some (.int (iI z)), some (.int (iI 0))] [] U' b := by
      intro U' q1 q2 q3
      rw [show z.toNat - 1 + 1 = z.toNat by omega] at q3
      have hr := mmA_rg (Y := V 135) (N := V 137) (R := R) z.toNat 0 c0 t0 0 (by omega)
      refine y_iinc dX11_foremen_157 rfl (by decide) rfl rfl ?_
      refine z_iload_n dX11_foremen_160 rfl ?_
      refine y_if_lt dX11_foremen_161 (by omega) (fun c_161 => ?_) (fun c_161 => ?_)
      · refine z_iload_n dX11_foremen_97 rfl ?_
        refine y_if_lt dX11_foremen_98 (by omega) (fun _ => ?_) (fun c => by omega)
        exact hend U' hx7 q1 q3
      · omega
    have hrun := run (z.toNat - 1) 0 c0 t0 0 (by omega) (by omega) (by omega) (by omega) (fun e e0 e1 => ⟨by have := c0r e e0 e1; omega, t0r e e0 e1⟩) (by omega) (by omega) R 0 U1 (by omega) o1 S1 (by rw [hU1, vst_o (by decide), vst_s]; rfl) (by rw [hU1, vst_s]; rfl) top
    refine z_aload_n dX11_foremen_83 rfl ?_
    refine y_getR fX11_72 dX11_foremen_84 (by first | assumption | rfl) (by first | assumption | rfl) ?_
    refine y_iconst dX11_foremen_87 ?_
    refine y_iconst dX11_foremen_88 ?_
    refine y_iast dX11_foremen_89 (by first | assumption | rfl) (by first | rfl | assumption) (by omega) ?_
    refine z_aload_n dX11_foremen_90 rfl ?_
    refine y_iconst dX11_foremen_91 ?_
    refine y_callVv (ct_X11_beginsStep (by omega)) kX11_259 dX11_foremen_92 rfl rfl (by first | assumption | rfl) rfl (by decide) rfl (Nat.le_of_ble_eq_true rfl) (fun V3 h_92 => ?_)
    rw [← hU1] at h_92
    subst h_92
    refine y_iconst dX11_foremen_95 ?_
    refine z_istore_n dX11_foremen_96 (by decide) rfl rfl ?_
    exact hrun
  have copy : ∀ (t : Nat) (e : Int) (U : Nat → Int → Int), (1 ≤ x ∧ x ≤ 7) → 1 ≤ z → 0 ≤ e → e + t = 4 → moO V U → (∀ j, 0 ≤ j → j < 4 → U 147 j = c0 j ∧ U 148 j = t0 j) → (∀ j, 0 ≤ j → j < e → U 152 j = c0 j ∧ U 153 j = t0 j) → yE 6 Q mX11_foremen 48 [some (.ref 134), some (.int (iI x)), some (.int (iI z)), some (.int (iI e))] [] U b := by
    intro t
    induction t with
    | zero =>
      intro e U hx7 hz1 e0 e1 hU hL hS
      have he : e = 4 := by omega
      subst he
      refine z_iload_n dX11_foremen_48 rfl ?_
      refine y_iconst dX11_foremen_49 ?_
      refine y_icmp_ge dX11_foremen_50 (by omega) (by omega) (fun c_50 => ?_) (fun c_50 => ?_)
      · exact start U hx7 hz1 hU hS
      · omega
    | succ t ih =>
      intro e U hx7 hz1 e0 e1 hU hL hS
      have hle := hL e e0 (by omega)
      have w8 : vst U 152 e (c0 e) 148 e = t0 e := by rw [vst_o (by decide)]; exact hle.2
      refine z_iload_n dX11_foremen_48 rfl ?_
      refine y_iconst dX11_foremen_49 ?_
      refine y_icmp_ge dX11_foremen_50 (by omega) (by omega) (fun c_50 => ?_) (fun c_50 => ?_)
      · omega
      · refine z_aload_n dX11_foremen_53 rfl ?_
        refine y_getR fX11_66 dX11_foremen_54 (by first | assumption | rfl) (by first | assumption | rfl) ?_
        refine z_iload_n dX11_foremen_57 rfl ?_
        refine z_aload_n dX11_foremen_58 rfl ?_
        refine y_getR fX11_51 dX11_foremen_59 (by first | assumption | rfl) (by first | assumption | rfl) ?_
        refine z_iload_n dX11_foremen_62 rfl ?_
        refine y_iald dX11_foremen_63 (by first | assumption | rfl) (by first | rfl | assumption) (by omega) ?_
        rw [hle.1]
        refine y_iast dX11_foremen_64 (by first | assumption | rfl) (by first | rfl | assumption) (by omega) ?_
        refine z_aload_n dX11_foremen_65 rfl ?_
        refine y_getR fX11_69 dX11_foremen_66 (by first | assumption | rfl) (by first | assumption | rfl) ?_
        refine z_iload_n dX11_foremen_69 rfl ?_
        refine z_aload_n dX11_foremen_70 rfl ?_
        refine y_getR fX11_54 dX11_foremen_71 (by first | assumption | rfl) (by first | assumption | rfl) ?_
        refine z_iload_n dX11_foremen_74 rfl ?_
        refine y_iald dX11_foremen_75 (by first | assumption | rfl) (by first | rfl | assumption) (by omega) ?_
        rw [w8]
        refine y_iast dX11_foremen_76 (by first | assumption | rfl) (by first | rfl | assumption) (by omega) ?_
        refine y_iinc dX11_foremen_77 rfl (by decide) rfl rfl ?_
        refine z_goto dX11_foremen_80 ?_
        refine ih (e + 1) _ hx7 hz1 (by omega) (by omega) (fun a ha => by rw [vst_o (by omega), vst_o (by omega)]; exact hU a ha) (fun j j0 j1 => by rw [vst_o (by decide), vst_o (by decide), vst_o (by decide), vst_o (by decide)]; exact hL j j0 j1) (fun j j0 j1 => ?_)
        by_cases hj : j = e
        · subst hj; rw [vst_o (by decide), vst_s, vst_s]; exact ⟨rfl, rfl⟩
        · rw [vst_o (by decide), vst_n hj, vst_n hj, vst_o (by decide)]; exact hS j j0 (by omega)
  have hlr := ct_X11_layRoads (b := b) hN
  have hcp := fun h1 h2 => copy 4 0 (zup (zup V 147 (lgF (V 137) (V 147) 4)) 148 (laF (V 137) (V 148) 4)) h1 h2 (by omega) (by omega) (fun a ha => by rw [zup_n _ _ (by omega), zup_n _ _ (by omega)]) (fun j j0 j1 => by
    rw [zup_n _ _ (by decide), zup_s, zup_s, hc0, ht0]
    unfold lgF laF
    rw [if_pos (show 0 ≤ j ∧ j < 4 by omega), if_pos (show 0 ≤ j ∧ j < 4 by omega)]
    exact ⟨rfl, rfl⟩) (fun j j0 j1 => by omega)
  have rest : ∀ z' : Int, z' = z → (1 ≤ x ∧ x ≤ 7) → yE 6 Q mX11_foremen 35 [some (.ref 134), some (.int (iI x)), none, none] [.int (iI z')] V b := by
    intro z' hzz hx7
    rw [hzz]
    refine z_istore_n dX11_foremen_35 (by decide) rfl rfl ?_
    refine z_iload_n dX11_foremen_36 rfl ?_
    refine y_if_ne dX11_foremen_37 (by omega) (fun c_37 => ?_) (fun c_37 => ?_)
    · refine z_aload_n dX11_foremen_42 rfl ?_
      refine y_callVv (hlr) kX11_237 dX11_foremen_43 rfl rfl (by first | assumption | rfl) rfl (by decide) rfl (Nat.le_of_ble_eq_true rfl) (fun V3 h_43 => ?_)
      subst h_43
      refine y_iconst dX11_foremen_46 ?_
      refine z_istore_n dX11_foremen_47 (by decide) rfl rfl ?_
      exact hcp hx7 (by omega)
    · refine y_iconst dX11_foremen_40 ?_
      exact z_iret dX11_foremen_41 rfl (Nat.le_refl 0) (Nat.le_refl 0) (fin _ _ (fun a _ => rfl) (Or.inr ⟨hx7, by rw [show z.toNat = 0 by omega]; rfl⟩))
  refine zC_of (by decide +kernel) (Nat.le_of_ble_eq_true rfl) rfl ?_
  refine z_iload_n dX11_foremen_0 rfl ?_
  refine y_i2l dX11_foremen_1 (by omega) ?_
  refine y_lconst (v := 1) dX11_foremen_2 (by decide +kernel) ?_
  refine y_ldc2 (n := 7) dX11_foremen_3 cX11_203 (by decide +kernel) ?_
  refine y_callSr (ct_X11_in (by omega) (by omega) (by omega)) kX11_101 dX11_foremen_6 rfl rfl (by decide) rfl (Nat.le_of_ble_eq_true rfl) (fun r_6 h_6 => ?_)
  refine y_if_ne dX11_foremen_9 (by omega) (fun c_9 => ?_) (fun c_9 => ?_)
  · refine z_iload_n dX11_foremen_15 rfl ?_
    refine z_aload_n dX11_foremen_16 rfl ?_
    refine y_getR fX11_16 dX11_foremen_17 (by first | assumption | rfl) (by first | assumption | rfl) ?_
    refine y_iconst dX11_foremen_20 ?_
    refine y_iald dX11_foremen_21 (by first | assumption | rfl) (by first | rfl | assumption) (by omega) ?_
    refine y_icmp_ge dX11_foremen_22 (by omega) (by omega) (fun c_22 => ?_) (fun c_22 => ?_)
    · refine z_aload_n dX11_foremen_29 rfl ?_
      refine y_getR fX11_16 dX11_foremen_30 (by first | assumption | rfl) (by first | assumption | rfl) ?_
      refine y_iconst dX11_foremen_33 ?_
      refine y_iald dX11_foremen_34 (by first | assumption | rfl) (by first | rfl | assumption) (by omega) ?_
      exact rest _ (by omega) (by omega)
    · refine z_iload_n dX11_foremen_25 rfl ?_
      refine z_goto dX11_foremen_26 ?_
      exact rest _ (by omega) (by omega)
  · refine y_ldc (n := -1000000002) dX11_foremen_12 cX11_105 (by decide +kernel) ?_
    exact z_iret dX11_foremen_14 rfl (Nat.le_refl 0) (Nat.le_refl 0) (fin _ _ (fun a _ => rfl) (Or.inl ⟨by omega, rfl⟩))
end

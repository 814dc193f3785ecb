/-! ===== a cut, a pull, on GrudgeYard's side ===== -/
section
variable {V : Nat → Int → Int} {Y N : Int → Int} {m r : Int} {y : Nat}
theorem ldX_s : ∀ (n : Nat) (V : Nat → Int → Int), ldX y r (n + 1) V = stX y r (ldX y r n V)
  | 0, V => rfl
  | n + 1, V => by
    show ldX y r (n + 1) (stX y r V) = _
    rw [ldX_s n (stX y r V)]
    rfl
/-- kinds and grudges, told alike -/
theorem kd_Y (hY : YRd V y Y) {w : Int} (h0 : 0 ≤ w) (h1 : w < Y 5) : kdX V y w = Y (6 + w) := by
  obtain ⟨y1, y2, y3, y4, y5, y6, y7, y8⟩ := hY
  unfold kdX
  rw [y2.1, if_pos ⟨h0, h1⟩]
  exact (y5 w h0 h1).1.1
theorem kd_N (V : Nat → Int → Int) (y : Nat) : kdX V y (-1) = 4 := by
  unfold kdX
  rw [if_neg (by omega)]
theorem kk_Y (hY : YRd V y Y) {a c : Int} (a0 : 0 ≤ a) (a4 : a ≤ 4) (c0 : 0 ≤ c) (c4 : c ≤ 4) : kkI (V y 8) a c = enI Y a c := by
  obtain ⟨y1, y2, y3, y4, y5, y6, y7, y8⟩ := hY
  unfold kkI enI
  rw [(y6.2.2.2.2 a a0 a4).2.2 c c0 c4]
theorem YRd_kr (hY : YRd V y Y) {w : Int} (h0 : 0 ≤ w) (h1 : w < Y 5) : 0 ≤ Y (6 + w) ∧ Y (6 + w) ≤ 4 := by
  obtain ⟨y1, y2, y3, y4, y5, y6, y7, y8⟩ := hY
  exact (y5 w h0 h1).1.2
def ldR (V : Nat → Int → Int) (Y N : Int → Int) (r : Int) (i : Nat) (W : Nat → Int → Int) : Prop :=
  (∀ a : Nat, a ≠ 3 → a ≠ 4 → a ≠ 5 → W a = V a) ∧ W 5 4 = N 0 - i ∧ W 5 r = N (8 + r) + i ∧ (∀ s : Int, s ≠ 4 → s ≠ r → W 5 s = V 5 s) ∧
  (∀ j : Int, W 4 j = if 7 * r + N (8 + r) ≤ j ∧ j < 7 * r + N (8 + r) + i then N (1 + (j - (7 * r + N (8 + r)))) else V 4 j) ∧
  W 3 3 = V 3 3 ∧ W 3 4 = V 3 4 + Kc Y N r i ∧ W 3 5 = Fc Y N r i
theorem ld_sp (hyy : isY y) (hY : YRd V y Y) (hS : SRn V 3 N) (hI : stI Y N m) (r0 : 0 ≤ r) (r4 : r < 4) : ∀ i : Nat, (i : Int) ≤ N 0 → N (8 + r) + i ≤ 7 → ldR V Y N r i (ldX y r i V) := by
  have h7 : Y 5 ≤ 7 := hY.2.1.2.2
  have hc := stI_c hI h7 r r0 r4
  have yb : 120 ≤ y ∧ y ≤ 127 := by rcases hyy with h | h <;> omega
  obtain ⟨s1, s2, s3, s4, s5⟩ := id hS
  intro i
  induction i with
  | zero =>
    intro _ _
    refine ⟨fun a _ _ _ => rfl, ?_, ?_, fun s _ _ => rfl, fun j => ?_, rfl, ?_, ?_⟩
    · show V 5 4 = _; rw [show V 5 4 = N 0 from s2]; omega
    · show V 5 r = _; rw [show V 5 r = N (8 + r) from (s3 r r0 r4).1]; omega
    · rw [if_neg (by omega)]; rfl
    · show V 3 4 = V 3 4 + 0; omega
    · show V 3 5 = N 46; exact s1.2.2
  | succ i ih =>
    intro hi hi7
    obtain ⟨w0, w1, w2, w3, w4, w5, w6, w7⟩ := ih (by omega) (by omega)
    rw [ldX_s]
    obtain ⟨W, hW⟩ : ∃ W, W = ldX y r i V := ⟨_, rfl⟩
    rw [← hW] at w0 w1 w2 w3 w4 w5 w6 w7 ⊢
    -- the runner
    have hrun : wA W 4 (W 5 4 - 1) = N (1 + i) := by
      unfold wA
      rw [if_pos (by omega), w4, if_neg (by omega), w1, show 4 * 7 + (N 0 - (i : Int) - 1) = 28 + (N 0 - 1 - i) by omega]
      exact s5 i (by omega) (by omega)
    have hrw : 0 ≤ N (1 + i) ∧ N (1 + i) < Y 5 := by
      obtain ⟨h1, h2, h3, h4, h5, h6, h7', h8, h9⟩ := hI
      have a1 := h7' 4 i (by omega) (by omega) (by omega) (by rw [lcN_4]; omega)
      rw [laN_4] at a1
      exact ⟨(h3.1 (1 + i) (by omega) (by omega)).1, a1⟩
    -- the one ahead
    have hah : (0 < i ∨ 0 < N (8 + r)) → wA W r (W 5 r - 1) = pvM N r i ∧ 0 ≤ pvM N r i ∧ pvM N r i < Y 5 := by
      intro hex
      obtain ⟨h1, h2, h3, h4, h5, h6, h7', h8, h9⟩ := hI
      unfold wA pvM
      rw [if_pos (by omega), w4, w2]
      by_cases hi0 : i = 0
      · rw [if_pos hi0, if_neg (by omega), hi0, show r * 7 + (N (8 + r) + ((0 : Nat) : Int) - 1) = 7 * r + (N (8 + r) - 1) by omega, s4 r (N (8 + r) - 1) r0 r4 (by omega) (by omega), show 12 + 7 * r + (N (8 + r) - 1) = 12 + 7 * r + N (8 + r) - 1 by omega]
        have a1 := h7' r (N (8 + r) - 1) r0 (by omega) (by omega) (by rw [lcN_r (by omega)]; omega)
        rw [laN_r (by omega), show 12 + 7 * r + (N (8 + r) - 1) = 12 + 7 * r + N (8 + r) - 1 by omega] at a1
        exact ⟨rfl, (h3.2 _ (by omega) (by omega)).1, a1⟩
      · rw [if_neg hi0, if_pos (by omega), show 1 + (r * 7 + (N (8 + r) + (i : Int) - 1) - (7 * r + N (8 + r))) = (i : Int) by omega]
        have a1 := h7' 4 (i - 1) (by omega) (by omega) (by omega) (by rw [lcN_4]; omega)
        rw [laN_4, show 1 + ((i : Int) - 1) = i by omega] at a1
        exact ⟨rfl, (h3.1 _ (by omega) (by omega)).1, a1⟩
    have hno : ¬ (0 < i ∨ 0 < N (8 + r)) → wA W r (W 5 r - 1) = -1 := fun hex => by
      unfold wA
      rw [if_neg (by omega)]
    obtain ⟨P, hP⟩ : ∃ P, P = psh (vst W 5 4 (W 5 4 - 1)) r (wA W 4 (W 5 4 - 1)) := ⟨_, rfl⟩
    have po : ∀ a : Nat, a ≠ 4 → a ≠ 5 → P a = W a := fun a h4 h5 => by rw [hP, psh_o h4 h5, vst_o h5]
    have hYP : YRd P y Y := YRd_congr (fun a a0 a1 => by rw [po a (by omega) (by omega), w0 a (by omega) (by omega) (by omega)]) hY
    have hkick : kkI (P y 8) (kdX P y (wA W r (W 5 r - 1))) (kdX P y (wA W 4 (W 5 4 - 1))) = ckM Y N r i := by
      rw [hrun, kd_Y hYP hrw.1 hrw.2]
      have kr := YRd_kr hYP hrw.1 hrw.2
      unfold ckM
      by_cases hex : 0 < i ∨ 0 < N (8 + r)
      · obtain ⟨g1, g2, g3⟩ := hah hex
        have kr2 := YRd_kr hYP g2 g3
        rw [if_pos hex, g1, kd_Y hYP g2 g3, kk_Y hYP kr2.1 kr2.2 kr.1 kr.2]
      · rw [if_neg hex, hno hex, kd_N, kk_Y hYP (by omega) (by omega) kr.1 kr.2]
        unfold enI
        rw [if_neg (fun h => h.1 rfl)]
    have c01 := ckM_01 Y N r i
    have e3 : P 3 = W 3 := po 3 (by decide) (by decide)
    have h34 : stX y r W 3 4 = W 3 4 + ckM Y N r i ∧ stX y r W 3 5 = Fc Y N r (i + 1) := by
      have hF : Fc Y N r (i + 1) = if ckM Y N r i ≠ 0 ∧ Fc Y N r i = -1 then 10 * pvM N r i + N (1 + i) else Fc Y N r i := rfl
      unfold stX
      rw [← hP]
      unfold ckX
      rw [hkick, e3, w7]
      by_cases hz : ckM Y N r i = 0
      · rw [if_pos hz, e3, hF, if_neg (fun h => h.1 hz), w7]
        omega
      · rw [if_neg hz]
        have hex : 0 < i ∨ 0 < N (8 + r) := by
          by_cases hx : 0 < i ∨ 0 < N (8 + r)
          · exact hx
          · exfalso; apply hz; unfold ckM; rw [if_neg hx]
        by_cases hf : Fc Y N r i = -1
        · rw [if_pos hf, vst_n (by decide), vst_s, vst_s, hF, if_pos ⟨hz, hf⟩, (hah hex).1, hrun]
          omega
        · rw [if_neg hf, vst_s, vst_n (by decide), e3, hF, if_neg (fun h => hf h.2), w7]
          omega
    refine ⟨fun a a3 a4 a5 => by rw [stX_o a3 a4 a5]; exact w0 a a3 a4 a5, ?_, ?_, ?_, ?_, by rw [stX_3 (by decide) (by decide)]; exact w5, ?_, h34.2⟩
    · rw [stX_5, iup_n (by omega), iup_s, w1]; omega
    · rw [stX_5, iup_s, iup_n (by omega), w2]; omega
    · intro s t4 tr
      rw [stX_5, iup_n tr, iup_n t4]
      exact w3 s t4 tr
    · intro j
      rw [stX_4 (by omega), hrun]
      by_cases hj : j = r * 7 + W 5 r
      · rw [hj, iup_s, w2, if_pos (by omega)]
        congr 1
        omega
      · rw [iup_n hj, w4]
        by_cases h2 : 7 * r + N (8 + r) ≤ j ∧ j < 7 * r + N (8 + r) + i
        · rw [if_pos h2, if_pos (by omega)]
        · rw [if_neg h2, if_neg (by omega)]
    · rw [h34.1, w6]
      show _ = V 3 4 + (Kc Y N r i + ckM Y N r i)
      omega
/-- after the cut both stand alike -/
theorem SRn_cut {k : Int} {W : Nat → Int → Int} (hS : SRn V 3 N) (hI : stI Y N m) (h7 : Y 5 ≤ 7) (r0 : 0 ≤ r) (r4 : r < 4) (hk : 0 ≤ k) (hk0 : k ≤ N 0) (hkr : N (8 + r) + k ≤ 7) (hW : ldR V Y N r k.toNat W) : SRn (vst W 3 3 (V 3 3 + 1)) 3 (cutN Y N k r) := by
  have hc := stI_c hI h7
  have hcr := hc r r0 r4
  obtain ⟨s1, s2, s3, s4, s5⟩ := hS
  obtain ⟨w0, w1, w2, w3, w4, w5, w6, w7⟩ := hW
  rw [show ((k.toNat : Nat) : Int) = k by omega] at w1 w2 w4
  have v5 : vst W 3 3 (V 3 3 + 1) 5 = W 5 := vst_o (by decide)
  have v4 : vst W 3 3 (V 3 3 + 1) 4 = W 4 := vst_o (by decide)
  have v6 : vst W 3 3 (V 3 3 + 1) 6 = V 6 := by rw [vst_o (by decide)]; exact w0 6 (by decide) (by decide) (by decide)
  refine ⟨⟨?_, ?_, ?_⟩, ?_, fun s t0 t4 => ⟨?_, ?_⟩, fun s i t0 t4 i0 i1 => ?_, fun i i0 i1 => ?_⟩
  · rw [vst_s, cutN_q4, s1.1]
  · rw [vst_n (by decide), cutN_q5, w6, s1.2.1]
  · rw [vst_n (by decide), cutN_q6 (by omega) r0 r4 (by omega) hk, w7]
  · show vst W 3 3 (V 3 3 + 1) 5 4 = _
    rw [v5, w1, cutN_z]
  · show vst W 3 3 (V 3 3 + 1) 5 s = _
    rw [v5]
    by_cases hs : s = r
    · rw [hs, w2, cutN_c (by omega) r0 r4 hk]
    · rw [w3 s (by omega) hs, cutN_o (by omega) (by omega) (by omega) (by omega) (by omega) (by omega) hk (by omega)]
      exact (s3 s t0 t4).1
  · show vst W 3 3 (V 3 3 + 1) 6 s = _
    rw [v6, cutN_o (by omega) (by omega) (by omega) (by omega) (by omega) (by omega) hk (by omega)]
    exact (s3 s t0 t4).2
  · show vst W 3 3 (V 3 3 + 1) 4 (7 * s + i) = _
    rw [v4, w4]
    by_cases hs : s = r
    · rw [hs, cutN_c (by omega) r0 r4 hk] at i1
      by_cases hin : N (8 + r) ≤ i
      · rw [hs, if_pos (by omega), cutN_w (by omega) (by omega) (by omega) (by omega) r0 r4 hcr.1]
        congr 1
        omega
      · rw [hs, if_neg (by omega), cutN_o (by omega) (by omega) (by omega) (by omega) (by omega) (by omega) hk (by omega)]
        exact s4 r i r0 r4 i0 (by omega)
    · have hcs := hc s t0 t4
      rw [cutN_o (by omega) (by omega) (by omega) (by omega) (by omega) (by omega) hk (by omega)] at i1
      rw [if_neg (by omega), cutN_o (by omega) (by omega) (by omega) (by omega) (by omega) (by omega) hk (by omega)]
      exact s4 s i t0 t4 i0 i1
  · show vst W 3 3 (V 3 3 + 1) 4 (28 + (cutN Y N k r 0 - 1 - i)) = _
    rw [cutN_z] at i1 ⊢
    rw [v4, w4, if_neg (by omega), cutN_hh (by omega) (by omega) (by omega), show 28 + (N 0 - k - 1 - i) = 28 + (N 0 - 1 - (i + k)) by omega, s5 (i + k) (by omega) (by omega)]
    congr 1
    omega
/-- after the pull both stand alike -/
theorem SRn_pul (hS : SRn V 3 N) (hI : stI Y N m) (h7 : Y 5 ≤ 7) (r0 : 0 ≤ r) (r4 : r < 4) : SRn (puX V r) 3 (pulN N r) := by
  have hc := stI_c hI h7
  have hcr := hc r r0 r4
  have hn0 : 0 ≤ N 0 := hI.1.1
  obtain ⟨s1, s2, s3, s4, s5⟩ := hS
  have v5 : V 5 4 = N 0 := s2
  have v5r : V 5 r = N (8 + r) := (s3 r r0 r4).1
  have p3 : puX V r 3 = V 3 := by unfold puX; rw [zup_n _ _ (by decide), zup_n _ _ (by decide), zup_n _ _ (by decide)]
  have p4 : puX V r 4 = icp (V 4) (V 4) (r * 7) (28 + N 0) (N (8 + r)) := by unfold puX; rw [zup_n _ _ (by decide), zup_n _ _ (by decide), zup_s, v5, v5r]
  have p5 : puX V r 5 = iup (iup (V 5) 4 (N 0 + N (8 + r))) r 0 := by unfold puX; rw [zup_n _ _ (by decide), zup_s, v5, v5r]
  have p6 : puX V r 6 = iup (V 6) r 0 := by unfold puX; rw [zup_s]
  refine ⟨?_, ?_, fun s t0 t4 => ⟨?_, ?_⟩, fun s i t0 t4 i0 i1 => ?_, fun i i0 i1 => ?_⟩
  · rw [p3, pulN_o (by omega) hcr.1 hn0 (by omega) (by omega), pulN_o (by omega) hcr.1 hn0 (by omega) (by omega), pulN_o (by omega) hcr.1 hn0 (by omega) (by omega)]
    exact s1
  · show puX V r 5 4 = _
    rw [p5, iup_n (by omega), iup_s, pulN_0]
  · show puX V r 5 s = _
    rw [p5]
    by_cases hs : s = r
    · rw [hs, iup_s, pulN_c (by omega) hcr.1 hn0]
    · rw [iup_n hs, iup_n (by omega), pulN_o (by omega) hcr.1 hn0 (by omega) (by omega)]
      exact (s3 s t0 t4).1
  · show puX V r 6 s = _
    rw [p6]
    by_cases hs : s = r
    · rw [hs, iup_s, pulN_p (by omega) hcr.1 hn0]
    · rw [iup_n hs, pulN_o (by omega) hcr.1 hn0 (by omega) (by omega)]
      exact (s3 s t0 t4).2
  · show puX V r 4 (7 * s + i) = _
    by_cases hs : s = r
    · rw [hs, pulN_c (by omega) hcr.1 hn0] at i1
      omega
    · have hcs := hc s t0 t4
      rw [pulN_o (by omega) hcr.1 hn0 (by omega) (by omega)] at i1
      rw [p4, pulN_o (by omega) hcr.1 hn0 (by omega) (by omega)]
      unfold icp
      rw [if_neg (by omega)]
      exact s4 s i t0 t4 i0 i1
  · show puX V r 4 (28 + (pulN N r 0 - 1 - i)) = _
    rw [pulN_0] at i1 ⊢
    rw [p4]
    unfold icp
    by_cases hin : i < N (8 + r)
    · rw [if_pos (by omega), pulN_a (by omega) (by omega), show r * 7 + (28 + (N 0 + N (8 + r) - 1 - i) - (28 + N 0)) = 7 * r + (N (8 + r) - 1 - i) by omega, s4 r (N (8 + r) - 1 - i) r0 r4 (by omega) (by omega)]
      congr 1
      omega
    · rw [if_neg (by omega), pulN_b (by omega) (by omega) hcr.1, show 28 + (N 0 + N (8 + r) - 1 - i) = 28 + (N 0 - 1 - (i - N (8 + r))) by omega, s5 (i - N (8 + r)) (by omega) (by omega)]
      congr 1
      omega
end

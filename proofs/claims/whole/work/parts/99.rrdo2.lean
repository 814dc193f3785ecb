/-! ===== peace, drift ===== -/
section
variable {V V' V1 V2 : Nat → Int → Int} {b : Bool} {n : Int}
theorem bOr_127 {x i : Int} (hx : 0 ≤ x ∧ x ≤ 127) (hi : 0 ≤ i ∧ i ≤ 6) : 0 ≤ bOr x (s1 i) ∧ bOr x (s1 i) ≤ 127 := by
  have p7 : (2 ^ 7 : Nat) = 128 := by decide
  have hs : s1 i ≤ 64 := by
    have h1 : 2 ^ i.toNat ≤ 2 ^ 6 := Nat.pow_le_pow_right (by decide) (by omega)
    have p6 : (2 ^ 6 : Nat) = 64 := by decide
    unfold s1
    omega
  have hs0 := s1_pos i
  have h2 := bOr_lt (x := x) (y := s1 i) 7 (by omega) (by omega)
  have h3 := bOr_nn x (s1 i)
  omega
theorem peace_stI {Y N : Int → Int} {m r x : Int} (hI : stI Y N m) (h7 : Y 5 ≤ 7) (r0 : 0 ≤ r) (r4 : r < 4) (hx : 0 ≤ x ∧ x ≤ 127) : stI Y (iup N (40 + r) x) m := by
  have hc := stI_c hI h7
  have hn0 := hI.1.1
  obtain ⟨h1, h2, h3, h4, h5, h6, h7', h8, h9⟩ := hI
  have e : ∀ j : Int, j ≠ 40 + r → iup N (40 + r) x j = N j := fun j hj => iup_n hj
  have elc : ∀ l : Int, 0 ≤ l → l ≤ 4 → lcN (iup N (40 + r) x) l = lcN N l := fun l l0 l4 => by
    by_cases hl : l = 4
    · rw [hl, lcN_4, lcN_4, e 0 (by omega)]
    · rw [lcN_r hl, lcN_r hl, e _ (by omega)]
  have ela : ∀ l i : Int, 0 ≤ l → l ≤ 4 → 0 ≤ i → i < lcN N l → laN (iup N (40 + r) x) l i = laN N l i := fun l i l0 l4 i0 i1 => by
    by_cases hl : l = 4
    · rw [hl, lcN_4] at i1
      have := hc 0 (by omega) (by omega)
      rw [hl, laN_4, laN_4, e _ (by omega)]
    · rw [lcN_r hl] at i1
      have := hc l l0 (by omega)
      rw [laN_r hl, laN_r hl, e _ (by omega)]
  refine ⟨⟨by rw [e 0 (by omega)]; exact h1.1, fun s s0 s4 => by rw [e _ (by omega)]; exact h1.2 s s0 s4⟩, ?_, ⟨fun i i0 i1 => by rw [e _ (by omega)]; exact h3.1 i i0 i1, fun i i0 i1 => by rw [e _ (by omega)]; exact h3.2 i i0 i1⟩, fun i i0 i1 => ?_, by rw [e _ (by omega)]; exact h5, fun s s0 s4 => by rw [e _ (by omega)]; exact h6 s s0 s4, ?_, ?_, by rw [e 44 (by omega), e 45 (by omega)]; exact h9⟩
  · unfold totN
    rw [e 0 (by omega), e 8 (by omega), e 9 (by omega), e 10 (by omega), e 11 (by omega)]
    exact h2
  · by_cases hi : i = 40 + r
    · rw [hi, iup_s]; exact hx
    · rw [e i hi]; exact h4 i i0 i1
  · intro l i l0 l4 i0 i1
    rw [elc l l0 l4] at i1
    rw [ela l i l0 l4 i0 i1]
    exact h7' l i l0 l4 i0 i1
  · intro l i l' i' l0 l4 l0' l4' i0 i1 i0' i1' he
    rw [elc l l0 l4] at i1
    rw [elc l' l0' l4'] at i1'
    rw [ela l i l0 l4 i0 i1, ela l' i' l0' l4' i0' i1'] at he
    exact h8 l i l' i' l0 l4 l0' l4' i0 i1 i0' i1' he
theorem rr_peace (h : RR V b n) (hn : n + 1 ≤ 64) {r i q q' : Int} (hx : (¬ (0 ≤ r ∧ r < V (yN b) 6) ∧ q = -1000000001 ∧ V1 = V) ∨ ((0 ≤ r ∧ r < V (yN b) 6) ∧ ¬ ((0 ≤ i ∧ i < V 5 r - 1) ∧ tb (V 6 r) i = false) ∧ q = -1000000003 ∧ V1 = V) ∨ ((0 ≤ r ∧ r < V (yN b) 6) ∧ ((0 ≤ i ∧ i < V 5 r - 1) ∧ tb (V 6 r) i = false) ∧ q = kkI (V (yN b) 8) (kdX V (yN b) (wA V r i)) (kdX V (yN b) (wA V r (i + 1))) ∧ V1 = vst (rem1 V) 6 r (bOr (V 6 r) (s1 i)))) (hm : (¬ (0 ≤ r ∧ r < V1 135 0) ∧ q' = -1000000001 ∧ V2 = V1) ∨ ((0 ≤ r ∧ r < V1 135 0) ∧ ¬ ((0 ≤ i ∧ i < V1 137 (8 + r) - 1) ∧ tb (V1 137 (40 + r)) i = false) ∧ q' = -1000000003 ∧ V2 = V1) ∨ ((0 ≤ r ∧ r < V1 135 0) ∧ ((0 ≤ i ∧ i < V1 137 (8 + r) - 1) ∧ tb (V1 137 (40 + r)) i = false) ∧ q' = enI (V1 135) (V1 135 (6 + V1 137 (12 + 7 * r + i))) (V1 135 (6 + V1 137 (12 + 7 * r + i + 1))) ∧ V2 = vst (remM V1) 137 (40 + r) (bOr (V1 137 (40 + r)) (s1 i)))) : q' = q ∧ RR V2 b (n + 1) := by
  have hY := RR_Y h
  obtain ⟨y1, y2, y3, y4, y5, y6, y7, y8⟩ := id hY
  have hS := RR_SR h
  have h7 := RR_7 h
  have hI := RR_sI h
  rw [y1.1] at hx
  by_cases hr : 0 ≤ r ∧ r < V 135 0
  · have r4 : r < 4 := by omega
    have e5r : V 5 r = V 137 (8 + r) := (hS.2.2.1 r hr.1 r4).1
    have e6r : V 6 r = V 137 (40 + r) := (hS.2.2.1 r hr.1 r4).2
    rw [e5r, e6r] at hx
    by_cases h0 : (0 ≤ i ∧ i < V 137 (8 + r) - 1) ∧ tb (V 137 (40 + r)) i = false
    · obtain ⟨_, _, xq, xV⟩ := (hx.resolve_left (fun z => z.1 hr)).resolve_left (fun z => z.2.1 h0)
      have o1 : ∀ a : Nat, a ≠ 6 → V1 a = rem1 V a := fun a q6 => by rw [xV, vst_o q6]
      have o2 : ∀ a : Nat, a ≠ 7 → a ≠ 6 → (a < 9 ∨ 89 ≤ a) → V1 a = V a := fun a q7 q6 qa => by rw [o1 a q6]; exact rem1_x h a q7 qa
      rw [o2 135 (by omega) (by omega) (by omega), o2 137 (by omega) (by omega) (by omega)] at hm
      obtain ⟨_, _, mq, mV⟩ := (hm.resolve_left (fun z => z.1 hr)).resolve_left (fun z => z.2.1 h0)
      have hcc := stI_c hI h7 r hr.1 r4
      have hn0 := hI.1.1
      obtain ⟨h1, h2, h3, h4, h5, h6, h7', h8, h9⟩ := id hI
      have hq : q' = q := by
        have w1 := wA_r hS (r := r) (i := i) hr.1 r4
        have w2 := wA_r hS (r := r) (i := i + 1) hr.1 r4
        rw [if_pos (by omega)] at w1 w2
        have a1 := h7' r i hr.1 (by omega) (by omega) (by rw [lcN_r (by omega)]; omega)
        have a2 := h7' r (i + 1) hr.1 (by omega) (by omega) (by rw [lcN_r (by omega)]; omega)
        rw [laN_r (by omega)] at a1 a2
        have b1 := h3.2 (12 + 7 * r + i) (by omega) (by omega)
        have b2 := h3.2 (12 + 7 * r + (i + 1)) (by omega) (by omega)
        have k1 := YRd_kr hY b1.1 a1
        have k2 := YRd_kr hY b2.1 a2
        rw [mq, xq, w1, w2, kd_Y hY b1.1 a1, kd_Y hY b2.1 a2, kk_Y hY k1.1 k1.2 k2.1 k2.2, show 12 + 7 * r + (i + 1) = 12 + 7 * r + i + 1 by omega]
      refine ⟨hq, ?_⟩
      have hp := bOr_127 (i := i) (h4 (40 + r) (by omega) (by omega)) (by omega)
      have hIc := peace_stI hI h7 hr.1 r4 hp
      have v2o : ∀ a : Nat, a ≠ 134 → a ≠ 137 → a ≠ 138 → V2 a = V1 a := fun a q1 q2 q3 => by
        rw [mV, vst_o q2]
        unfold remM
        rw [vst_o q1, zup_n _ _ q3]
      have v37 : V2 137 = iup (V 137) (40 + r) (bOr (V 137 (40 + r)) (s1 i)) := by
        rw [mV]
        unfold vst
        rw [zup_s]
        unfold remM
        rw [vst_o (by decide), zup_n _ _ (by decide), o2 137 (by omega) (by omega) (by omega)]
      have g3 := RR_G h 3 (by unfold isS; decide)
      refine RR_now h hn (fun a ha => by rw [v2o a (by omega) (by omega) (by omega)]; exact o1 a (by omega)) ?_ ?_ (fun a ha => by rw [v2o a (by omega) (by omega) (by omega)]; exact o2 a (by omega) (by omega) (by omega)) (fun j j4 j7 => ?_) ?_ ?_ (by rw [v37]; exact stI_up hIc (by omega)) ?_
      · rw [mV, vst_o (by decide)]; unfold remM; rw [vst_s, o2 134 (by omega) (by omega) (by omega)]
      · rw [mV, vst_o (by decide)]; unfold remM; rw [vst_o (by decide), zup_s, o2 134 (by omega) (by omega) (by omega), o2 137 (by omega) (by omega) (by omega), o2 138 (by omega) (by omega) (by omega)]
      · rw [mV, vst_o (by decide)]; unfold remM; rw [vst_n j4, zup_n _ _ (by decide), o2 134 (by omega) (by omega) (by omega)]
      · refine rrS_c (RR_S h) ?_ ?_
        · rw [v2o 0 (by omega) (by omega) (by omega), o2 0 (by omega) (by omega) (by omega)]
        · rw [mV, vst_o (by decide)]; unfold remM; rw [vst_n (by decide), zup_n _ _ (by decide), o2 134 (by omega) (by omega) (by omega)]
      · rw [v37]
        obtain ⟨s1', s2', s3', s4', s5'⟩ := hS
        have f3 : V2 3 = V 3 := by rw [v2o 3 (by omega) (by omega) (by omega), o2 3 (by omega) (by omega) (by omega)]
        have f4 : V2 4 = V 4 := by rw [v2o 4 (by omega) (by omega) (by omega), o2 4 (by omega) (by omega) (by omega)]
        have f5 : V2 5 = V 5 := by rw [v2o 5 (by omega) (by omega) (by omega), o2 5 (by omega) (by omega) (by omega)]
        refine ⟨?_, ?_, fun s s0 s4 => ⟨?_, ?_⟩, fun s j s0 s4 j0 j1 => ?_, fun j j0 j1 => ?_⟩
        · rw [f3, iup_n (by omega), iup_n (by omega), iup_n (by omega)]; exact s1'
        · show V2 5 4 = _
          rw [f5, iup_n (by omega)]; exact s2'
        · show V2 5 s = _
          rw [f5, iup_n (by omega)]; exact (s3' s s0 s4).1
        · show V2 6 s = _
          rw [v2o 6 (by omega) (by omega) (by omega), xV]
          by_cases hs : s = r
          · rw [hs, vst_s, iup_s]
          · rw [vst_n hs, iup_n (by omega), rem1_x h 6 (by omega) (by omega)]
            exact (s3' s s0 s4).2
        · show V2 4 (7 * s + j) = _
          rw [iup_n (by omega)] at j1
          have := stI_c hI h7 s s0 s4
          rw [f4, iup_n (by omega)]
          exact s4' s j s0 s4 j0 j1
        · show V2 4 (28 + (iup (V 137) (40 + r) (bOr (V 137 (40 + r)) (s1 i)) 0 - 1 - j)) = _
          rw [iup_n (by omega)] at j1
          rw [f4, iup_n (show (0 : Int) ≠ 40 + r by omega), iup_n (by omega)]
          exact s5' j j0 j1
      · obtain ⟨g31, g32, g33⟩ := g3
        refine ⟨fun j => ?_, fun j => ?_, fun j => ?_⟩
        · show 0 ≤ V2 5 j ∧ V2 5 j ≤ 7
          rw [v2o 5 (by omega) (by omega) (by omega), o2 5 (by omega) (by omega) (by omega)]; exact g31 j
        · show -1 ≤ V2 4 j ∧ V2 4 j ≤ 6
          rw [v2o 4 (by omega) (by omega) (by omega), o2 4 (by omega) (by omega) (by omega)]; exact g32 j
        · show 0 ≤ V2 6 j ∧ V2 6 j ≤ 127
          rw [v2o 6 (by omega) (by omega) (by omega), xV]
          unfold vst
          rw [zup_s, rem1_x h 6 (by omega) (by omega)]
          exact iup_le g33 hp j
    · have hx2 := (hx.resolve_left (fun z => z.1 hr)).resolve_right (fun z => h0 z.2.1)
      rw [hx2.2.2.2] at hm
      have hm2 := (hm.resolve_left (fun z => z.1 hr)).resolve_right (fun z => h0 z.2.1)
      rw [hm2.2.2.2]
      exact ⟨by rw [hm2.2.2.1, hx2.2.2.1], RR_up h hn⟩
  · have hx1 : q = -1000000001 ∧ V1 = V := by
      rcases hx with z | z | z
      · exact z.2
      · exact absurd z.1 hr
      · exact absurd z.1 hr
    rw [hx1.2] at hm
    have hm1 : q' = -1000000001 ∧ V2 = V := by
      rcases hm with z | z | z
      · exact z.2
      · exact absurd z.1 hr
      · exact absurd z.1 hr
    rw [hm1.2]
    exact ⟨by rw [hm1.1, hx1.1], RR_up h hn⟩
/-- what a walk by draws keeps, on both sides -/
def drQ (W0 M0 W M : Nat → Int → Int) (y : Nat) (Y : Int → Int) (m : Int) : Prop :=
  (∀ a : Nat, a ≠ 0 → a ≠ 3 → a ≠ 4 → a ≠ 5 → a ≠ 6 → W a = W0 a) ∧ (∀ a : Nat, a ≠ 134 → a ≠ 137 → M a = M0 a) ∧ (∀ j : Int, j ≠ 7 → M 134 j = M0 134 j) ∧
  SRn W 3 (M 137) ∧ stI Y (M 137) m ∧ gSt W 3 ∧ W 0 13 = M 134 7 ∧ (0 ≤ W 0 13 ∧ W 0 13 ≤ 2147483647)
theorem sdN_rg (s : Int) : 0 ≤ sdN s ∧ sdN s ≤ 2147483647 := by unfold sdN; omega
theorem drN_rg {s z : Int} (hz : 0 < z) : 0 ≤ drN s z ∧ drN s z < z := by
  unfold drN
  exact ⟨Int.emod_nonneg _ (by omega), Int.emod_lt_of_pos _ hz⟩
theorem dr_step {W0 M0 W M : Nat → Int → Int} {y : Nat} {Y : Int → Int} {m : Int} (hyy : isY y) (hY : YRd W0 y Y) (hMY : M0 135 = Y) (h0 : 0 < Y 0) (h : drQ W0 M0 W M y Y m) : drQ W0 M0 (dst1 y W) (mds1 M) y Y (m + 1) := by
  obtain ⟨d1, d2, d3, d4, d5, d6, d7, d8⟩ := h
  have yb : 120 ≤ y ∧ y ≤ 127 := by rcases hyy with h | h <;> omega
  have hYW : YRd W y Y := YRd_congr (fun a a0 a1 => d1 a (by omega) (by omega) (by omega) (by omega) (by omega)) hY
  obtain ⟨y1, y2, y3, y4, y5, y6, y7, y8⟩ := id hYW
  have h7 : Y 5 ≤ 7 := y2.2.2
  have sr := sdN_rg (W 0 13)
  obtain ⟨s, hs⟩ : ∃ s, s = sdN (W 0 13) := ⟨_, rfl⟩
  obtain ⟨r, hr⟩ : ∃ r, r = drN s (Y 0) := ⟨_, rfl⟩
  have hrr := drN_rg (s := s) h0
  rw [← hr] at hrr
  have r4 : r < 4 := by omega
  obtain ⟨N, hN⟩ : ∃ N, N = M 137 := ⟨_, rfl⟩
  have eM : mds1 M = zup (vst M 134 7 s) 137 (mdr1 Y N r) := by
    unfold mds1
    rw [d2 135 (by omega) (by omega), hMY, ← d7, ← hs, ← hN, ← hr]
  obtain ⟨U, hU⟩ : ∃ U, U = vst W 0 13 s := ⟨_, rfl⟩
  have eW : dst1 y W = dr1 U y r := by
    unfold dst1
    rw [y1.1, ← hs, ← hr, ← hU]
  rw [← hN] at d4 d5
  have uo : ∀ a : Nat, a ≠ 0 → U a = W a := fun a ha => by rw [hU, vst_o ha]
  have hSU : SRn U 3 N := SRn_congr d4 d5 h7 (uo 3 (by omega)) (uo 4 (by omega)) (uo 5 (by omega)) (uo 6 (by omega)) (fun _ _ _ => rfl)
  have hYU : YRd U y Y := YRd_congr (fun a a0 a1 => uo a (by omega)) hYW
  have hgU : gSt U 3 := gSt_c d6 (uo 4 (by omega)) (uo 5 (by omega)) (uo 6 (by omega))
  have hcc := stI_c d5 h7 r hrr.1 r4
  have hn0 := d5.1.1
  have q54 : U 5 4 = N 0 := hSU.2.1
  have q5r : U 5 r = N (8 + r) := (hSU.2.2.1 r hrr.1 r4).1
  have hrm := y4 r hrr.1 hrr.2
  have qy : U (y + 1) r = Y (1 + r) := by rw [uo (y + 1) (by omega)]; exact hrm.1
  have u13 : U 0 13 = s := by rw [hU, vst_s]
  -- the model's other places
  have mo : ∀ f : Int → Int, (∀ a : Nat, a ≠ 134 → a ≠ 137 → zup (vst M 134 7 s) 137 f a = M0 a) ∧ (∀ j : Int, j ≠ 7 → zup (vst M 134 7 s) 137 f 134 j = M0 134 j) := fun f => ⟨fun a q1 q2 => by rw [zup_n _ _ q2, vst_o q1]; exact d2 a q1 q2, fun j hj => by rw [zup_n _ _ (by decide), vst_n hj]; exact d3 j hj⟩
  have m7 : ∀ f : Int → Int, zup (vst M 134 7 s) 137 f 134 7 = s := fun f => by rw [zup_n _ _ (by decide), vst_s]
  have key : ∃ X, dr1 U y r = X ∧ (∀ a : Nat, a ≠ 3 → a ≠ 4 → a ≠ 5 → a ≠ 6 → X a = U a) ∧ SRn X 3 (mdr1 Y N r) ∧ stI Y (mdr1 Y N r) (m + 1) ∧ gSt X 3 := by
    unfold dr1 mdr1
    rw [q54, q5r, qy]
    by_cases hz : N 0 = 0
    · rw [if_pos hz, if_pos hz]
      refine ⟨_, rfl, fun a q3 q4 q5 q6 => by unfold puX; rw [zup_n _ _ q6, zup_n _ _ q5, zup_n _ _ q4], SRn_pul hSU d5 h7 hrr.1 r4, stI_up (pul_stI d5 h7 hrr.1 r4 (fun t t0 t1 => by have := y4 t t0 t1; omega)) (by omega), ?_⟩
      obtain ⟨g1, g2, g3⟩ := hgU
      refine ⟨fun j => ?_, fun j => ?_, fun j => ?_⟩
      · show 0 ≤ puX U r 5 j ∧ puX U r 5 j ≤ 7
        unfold puX
        rw [zup_n _ _ (by decide), zup_s]
        exact iup_le (iup_le g1 (by omega)) (by omega) j
      · show -1 ≤ puX U r 4 j ∧ puX U r 4 j ≤ 6
        unfold puX
        rw [zup_n _ _ (by decide), zup_n _ _ (by decide), zup_s]
        exact icp_le g2 g2 j
      · show 0 ≤ puX U r 6 j ∧ puX U r 6 j ≤ 127
        unfold puX
        rw [zup_s]
        exact iup_le g3 (by omega) j
    · rw [if_neg hz, if_neg hz]
      by_cases hc : N (8 + r) < Y (1 + r)
      · rw [if_pos hc, if_pos (by omega)]
        have hld := ld_sp (y := y) hyy hYU hSU d5 hrr.1 r4 1 (by omega) (by omega)
        have hSc := SRn_cut (k := 1) hSU d5 h7 hrr.1 r4 (by omega) (by omega) (by omega) hld
        refine ⟨_, rfl, fun a q3 q4 q5 q6 => by rw [vst_o q3]; exact hld.1 a q3 q4 q5, hSc, cut_stI (m' := m + 1) d5 h7 hrr.1 hrr.2 (by omega) (by omega) (by omega) (by omega) (by omega) (by omega) (by omega) (by omega), ?_⟩
        exact gSt_c (ldR_g hld hgU d5 h7 hrr.1 r4 (by omega) (by omega)) (vst_o (by omega)) (vst_o (by omega)) (vst_o (by omega))
      · rw [if_neg hc, if_neg (by omega)]
        exact ⟨_, rfl, fun a _ _ _ _ => rfl, hSU, stI_up d5 (by omega), hgU⟩
  obtain ⟨X, k1, k2, k3, k4, k5⟩ := key
  rw [eW, eM, k1]
  refine ⟨fun a q0 q3 q4 q5 q6 => by rw [k2 a q3 q4 q5 q6, uo a q0]; exact d1 a q0 q3 q4 q5 q6, (mo _).1, (mo _).2, by rw [zup_s]; exact k3, by rw [zup_s]; exact k4, k5, by rw [k2 0 (by omega) (by omega) (by omega) (by omega), u13, m7], by rw [k2 0 (by omega) (by omega) (by omega) (by omega), u13, hs]; exact sr⟩
theorem dr_all {W0 M0 : Nat → Int → Int} {y : Nat} {Y : Int → Int} (hyy : isY y) (hY : YRd W0 y Y) (hMY : M0 135 = Y) (h0 : 0 < Y 0) : ∀ (k : Nat) (W M : Nat → Int → Int) (m : Int), drQ W0 M0 W M y Y m → drQ W0 M0 (dfX y k W) (mdf k M) y Y (m + k)
  | 0, W, M, m, h => by
    show drQ W0 M0 W M y Y (m + 0)
    rw [Int.add_zero]
    exact h
  | k + 1, W, M, m, h => by
    have := dr_all hyy hY hMY h0 k _ _ _ (dr_step hyy hY hMY h0 h)
    rw [show m + 1 + (k : Int) = m + ((k + 1 : Nat) : Int) by omega] at this
    exact this
theorem rr_drift (h : RR V b n) (hn : n + 1 ≤ 64) {k q q' : Int} (hx : dfP V (yN b) k q V1) (hm : mdP V1 k q' V2) : q' = q ∧ RR V2 b (n + 1) := by
  have hY := RR_Y h
  obtain ⟨y1, y2, y3, y4, y5, y6, y7, y8⟩ := id hY
  have hS := RR_SR h
  have h7 := RR_7 h
  have hI := RR_sI h
  have hyy := yN_Y b
  have e33 : V 3 3 = V 137 44 := hS.1.1
  unfold dfP at hx
  unfold mdP at hm
  rw [y1.1, e33] at hx
  by_cases hk : 1 ≤ k ∧ k ≤ 60
  · by_cases h0 : V 135 0 = 0
    · have hx2 : q = -1000000003 ∧ V1 = V := by
        rcases hx with z | z | z | z
        · exact absurd hk z.1
        · exact z.2.2
        · exact absurd h0 z.2.1
        · exact absurd h0 z.2.1
      rw [hx2.2] at hm
      have hm2 : q' = -1000000003 ∧ V2 = V := by
        rcases hm with z | z | z | z
        · exact absurd hk z.1
        · exact z.2.2
        · exact absurd h0 z.2.1
        · exact absurd h0 z.2.1
      rw [hm2.2]
      exact ⟨by rw [hm2.1, hx2.1], RR_up h hn⟩
    · have hcu := (RR_cu h).1
      obtain ⟨_, _, _, xq, xV⟩ := ((hx.resolve_left (fun z => z.1 hk)).resolve_left (fun z => h0 z.2.1)).resolve_left (fun z => by have := z.2.2.1; omega)
      -- the model's walk is over V1, whose places of its own are V's
      obtain ⟨M, hM⟩ : ∃ M, M = remM V1 := ⟨_, rfl⟩
      have hd0 : drQ (rem1 V) M (rem1 V) (remM V) (yN b) (V 135) (60 * n) → True := fun _ => trivial
      -- x's walk touches no place of the model's
      have hxo : ∀ (j : Nat) (W : Nat → Int → Int), ∀ a : Nat, a ≠ 0 → a ≠ 3 → a ≠ 4 → a ≠ 5 → a ≠ 6 → dfX (yN b) j W a = W a := by
        intro j
        induction j with
        | zero => intro W a _ _ _ _ _; rfl
        | succ j ih =>
          intro W a q0 q3 q4 q5 q6
          show dfX (yN b) j (dst1 (yN b) W) a = _
          rw [ih _ a q0 q3 q4 q5 q6]
          unfold dst1 dr1
          split
          · unfold puX; rw [zup_n _ _ q6, zup_n _ _ q5, zup_n _ _ q4, vst_o q0]
          · split
            · rw [vst_o q3, show (1 : Nat) = 0 + 1 from rfl, ldX_s, stX_o q3 q4 q5]
              show vst W 0 13 _ a = _
              rw [vst_o q0]
            · rw [vst_o q0]
      have o1 : ∀ a : Nat, a ≠ 0 → a ≠ 3 → a ≠ 4 → a ≠ 5 → a ≠ 6 → V1 a = rem1 V a := fun a q0 q3 q4 q5 q6 => by rw [xV]; exact hxo _ _ a q0 q3 q4 q5 q6
      have o2 : ∀ a : Nat, a ≠ 0 → a ≠ 7 → (a < 3 ∨ 89 ≤ a) → V1 a = V a := fun a q0 q7 qa => by rw [o1 a q0 (by omega) (by omega) (by omega) (by omega)]; exact rem1_x h a q7 (by omega)
      rw [o2 135 (by omega) (by omega) (by omega), o2 137 (by omega) (by omega) (by omega), ← hM] at hm
      obtain ⟨_, _, _, mq, mV⟩ := ((hm.resolve_left (fun z => z.1 hk)).resolve_left (fun z => h0 z.2.1)).resolve_left (fun z => by have := z.2.2.1; omega)
      have mo : ∀ a : Nat, a ≠ 134 → a ≠ 138 → M a = V1 a := fun a q1 q2 => by rw [hM]; unfold remM; rw [vst_o q1, zup_n _ _ q2]
      have m137 : M 137 = V 137 := by rw [mo 137 (by omega) (by omega)]; exact o2 137 (by omega) (by omega) (by omega)
      have m135 : M 135 = V 135 := by rw [mo 135 (by omega) (by omega)]; exact o2 135 (by omega) (by omega) (by omega)
      have m4 : M 134 4 = min (V 134 4 + 1) 20 := by rw [hM]; unfold remM; rw [vst_s, o2 134 (by omega) (by omega) (by omega)]
      have mj : ∀ j : Int, j ≠ 4 → M 134 j = V 134 j := fun j hj => by rw [hM]; unfold remM; rw [vst_n hj, zup_n _ _ (by decide), o2 134 (by omega) (by omega) (by omega)]
      have m8 : M 138 = pastM (V 138) (V 137) (V 134 4) := by rw [hM]; unfold remM; rw [vst_o (by decide), zup_s, o2 134 (by omega) (by omega) (by omega), o2 137 (by omega) (by omega) (by omega), o2 138 (by omega) (by omega) (by omega)]
      have hS0 := RR_S h
      have hstart : drQ (rem1 V) M (rem1 V) M (yN b) (V 135) (60 * n) := by
        refine ⟨fun _ _ _ _ _ _ => rfl, fun _ _ _ => rfl, fun _ _ => rfl, by rw [m137]; exact RR_Sr h, by rw [m137]; exact hI, gSt_c (RR_G h 3 (by unfold isS; decide)) (rem1_x h 4 (by omega) (by omega)) (rem1_x h 5 (by omega) (by omega)) (rem1_x h 6 (by omega) (by omega)), ?_, ?_⟩
        · rw [rem1_x h 0 (by omega) (by omega), mj 7 (by omega)]; exact hS0.1
        · rw [rem1_x h 0 (by omega) (by omega)]; exact hS0.2
      have hend := dr_all hyy (RR_Yr h) m135 (by omega) k.toNat _ _ _ hstart
      rw [← xV, ← mV] at hend
      obtain ⟨d1, d2, d3, d4, d5, d6, d7, d8⟩ := hend
      refine ⟨?_, ?_⟩
      · rw [mq, xq, ← xV, ← mV]
        exact d4.1.1.symm
      · -- V2 has V1's places of GrudgeYard
        have v2x : ∀ a : Nat, a ≠ 134 → a ≠ 137 → a ≠ 138 → V2 a = V1 a := fun a q1 q2 q3 => by rw [d2 a q1 q2, mo a q1 q3]
        refine RR_now h hn (fun a ha => by rw [v2x a (by omega) (by omega) (by omega)]; exact o1 a (by omega) (by omega) (by omega) (by omega) (by omega)) (by rw [d3 4 (by omega), m4]) (by rw [d2 138 (by omega) (by omega), m8]) (fun a ha => by rw [v2x a (by omega) (by omega) (by omega)]; exact o2 a (by omega) (by omega) (by omega)) (fun j j4 j7 => by rw [d3 j j7]; exact mj j j4) ?_ ?_ ?_ ?_
        · refine ⟨?_, ?_⟩
          · rw [v2x 0 (by omega) (by omega) (by omega)]; exact d7
          · rw [v2x 0 (by omega) (by omega) (by omega)]; exact d8
        · exact SRn_congr d4 d5 h7 (v2x 3 (by omega) (by omega) (by omega)) (v2x 4 (by omega) (by omega) (by omega)) (v2x 5 (by omega) (by omega) (by omega)) (v2x 6 (by omega) (by omega) (by omega)) (fun _ _ _ => rfl)
        · exact stI_up d5 (by omega)
        · exact gSt_c d6 (v2x 4 (by omega) (by omega) (by omega)) (v2x 5 (by omega) (by omega) (by omega)) (v2x 6 (by omega) (by omega) (by omega))
  · have hx1 : q = -1000000002 ∧ V1 = V := by
      rcases hx with z | z | z | z
      · exact z.2
      · exact absurd z.1 hk
      · exact absurd z.1 hk
      · exact absurd z.1 hk
    rw [hx1.2] at hm
    have hm1 : q' = -1000000002 ∧ V2 = V := by
      rcases hm with z | z | z | z
      · exact z.2
      · exact absurd z.1 hk
      · exact absurd z.1 hk
      · exact absurd z.1 hk
    rw [hm1.2]
    exact ⟨by rw [hm1.1, hx1.1], RR_up h hn⟩
end

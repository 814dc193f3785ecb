/-! ===== what is done, done alike ===== -/
section
variable {V V' V1 V2 : Nat → Int → Int} {b : Bool} {n : Int}
theorem RR_now (h : RR V b n) (hn : n + 1 ≤ 64) (hr : ∀ a : Nat, (9 ≤ a ∧ a ≤ 88) ∨ a = 7 → V' a = rem1 V a) (h4 : V' 134 4 = min (V 134 4 + 1) 20) (h8 : V' 138 = pastM (V 138) (V 137) (V 134 4)) (ho : ∀ a : Nat, a = 1 ∨ a = 2 ∨ (89 ≤ a ∧ a ≤ 133) ∨ a = 135 ∨ (139 ≤ a ∧ a ≤ 144) → V' a = V a) (hj : ∀ j : Int, j ≠ 4 → j ≠ 7 → V' 134 j = V 134 j) (hs : rrS V') (hS : SRn V' 3 (V' 137)) (hI : stI (V 135) (V' 137) (60 * (n + 1))) (hg : gSt V' 3) : RR V' b (n + 1) := by
  have h7 := RR_7 h
  obtain ⟨a0, a1, a2, a3, a4, a5, a6, a7, a8, a9, a10, a11⟩ := h
  have e5 := ho 135 (by omega)
  have hnu := a5.2.2.1
  obtain ⟨r1, r2, r3, r4⟩ := rem1_m hnu
  have hnw : 0 ≤ nw1 V ∧ nw1 V < 20 := by unfold nw1; omega
  have hrg := rgp_rg hnw
  have hmP : rmP V V' := by
    refine ⟨by rw [hr 7 (by omega)]; exact r1, by rw [hr 7 (by omega)]; exact r2, ⟨fun j j0 j1 => ?_, fun j j0 j1 => ?_, ?_⟩, fun a q1 q2 q3 => by rw [hr a (by omega)]; exact r4 a (by omega) q3, h4, h8, e5⟩
    · rw [hr _ (by omega)]; exact r3.1 j j0 j1
    · rw [hr _ (by omega), hr _ (by omega)]; exact r3.2.1 j j0 j1
    · rw [hr _ (by omega)]; exact r3.2.2
  have hP := rrP_rem a5 a3 h7 hmP
  have hG1 := rem1_G hnu a4
  refine ⟨by omega, rrT_c a1 (by rw [ho 1 (by omega)]) (by rw [ho 1 (by omega)]) (ho 2 (by omega)) (hj 9 (by omega) (by omega)) (hj 10 (by omega) (by omega)) (ho 141 (by omega)), rrY_c a2 (fun a q1 q2 q3 q4 => ho a (by omega)) (by rw [ho 126 (by omega)]; exact a2.2.2.1.2) (by rw [ho 133 (by omega)]; exact a2.2.2.2.2) e5, ⟨hS, by rw [e5]; exact hI⟩, ?_, ?_, rrI_c a6 (by omega) h7 (fun a q1 q2 => ho a (by omega)) (ho 139 (by omega)) (ho 140 (by omega)) e5, hs, rrC_c a8 (ho 99 (by omega)) (hj 12 (by omega) (by omega)) (ho 142 (by omega)), rrH_c a9 (fun a q1 q2 => ho a (by omega)) (hj 14 (by omega) (by omega)) (ho 143 (by omega)) e5, rrB_c a10 (fun a q1 q2 => ho a (by omega)) (hj 16 (by omega) (by omega)) (ho 144 (by omega)) e5, rrX_c a11 (ho 114 (by omega)) (ho 115 (by omega)) (ho 118 (by omega)) (ho 119 (by omega))⟩
  · intro s hs
    have hsr := isS_rg hs
    by_cases h3 : s = 3
    · rw [h3]; exact hg
    · by_cases hrr : 9 ≤ s ∧ s ≤ 85
      · have hh := hG1 s hs
        unfold gSt at *
        rw [hr _ (by omega), hr _ (by omega), hr _ (by omega)]
        exact hh
      · have hh := a4 s hs
        unfold gSt at *
        rw [ho _ (by omega), ho _ (by omega), ho _ (by omega)]
        exact hh
  · exact rrP_c hP (by omega) (by rw [e5]; exact h7) rfl (fun _ _ _ => rfl) rfl rfl rfl
theorem rem1_x (h : RR V b n) : ∀ a : Nat, a ≠ 7 → (a < 9 ∨ 89 ≤ a) → rem1 V a = V a := fun a h7 ha => rem1_o (RR_P h).2.2.1 h7 ha
theorem RR_Yr (h : RR V b n) : YRd (rem1 V) (yN b) (V 135) := by
  have hy := yN_Y b
  exact YRd_congr (fun a a0 a1 => rem1_x h a (by rcases hy with hy | hy <;> omega) (by rcases hy with hy | hy <;> omega)) (RR_Y h)
theorem RR_Sr (h : RR V b n) : SRn (rem1 V) 3 (V 137) := SRn_congr (RR_SR h) (RR_sI h) (RR_7 h) (rem1_x h 3 (by omega) (by omega)) (rem1_x h 4 (by omega) (by omega)) (rem1_x h 5 (by omega) (by omega)) (rem1_x h 6 (by omega) (by omega)) (fun _ _ _ => rfl)
/-- cells of the stand after a letting down -/
theorem ldR_g {W U : Nat → Int → Int} {Y N : Int → Int} {r : Int} {i : Nat} {m : Int} (hW : ldR U Y N r i W) (hg : gSt U 3) (hI : stI Y N m) (h7 : Y 5 ≤ 7) (r0 : 0 ≤ r) (r4 : r < 4) (hi : (i : Int) ≤ N 0) (hir : N (8 + r) + i ≤ 7) : gSt W 3 := by
  obtain ⟨w0, w1, w2, w3, w4, w5, w6, w7⟩ := hW
  obtain ⟨g1, g2, g3⟩ := hg
  have hc := stI_c hI h7 r r0 r4
  have hn0 := hI.1.1
  refine ⟨fun j => ?_, fun j => ?_, fun j => ?_⟩
  · show 0 ≤ W 5 j ∧ W 5 j ≤ 7
    by_cases j4 : j = 4
    · rw [j4, w1]; omega
    · by_cases jr : j = r
      · rw [jr, w2]; omega
      · rw [w3 j j4 jr]; exact g1 j
  · show -1 ≤ W 4 j ∧ W 4 j ≤ 6
    rw [w4]
    split
    · have := hI.2.2.1.1 (1 + (j - (7 * r + N (8 + r)))) (by omega) (by omega)
      omega
    · exact g2 j
  · show 0 ≤ W 6 j ∧ W 6 j ≤ 127
    rw [w0 6 (by decide) (by decide) (by decide)]
    exact g3 j
theorem gSt_c {s : Nat} (h : gSt V s) (e1 : V' (s + 1) = V (s + 1)) (e2 : V' (s + 2) = V (s + 2)) (e3 : V' (s + 3) = V (s + 3)) : gSt V' s := by
  unfold gSt at *
  rw [e1, e2, e3]
  exact h
theorem rr_cut (h : RR V b n) (hn : n + 1 ≤ 64) {k r q q' : Int} (hx : ctP V (yN b) k r q V1) (hm : (¬ (0 ≤ r ∧ r < V1 135 0) ∧ q' = -1000000001 ∧ V2 = V1) ∨ ((0 ≤ r ∧ r < V1 135 0) ∧ ¬ (1 ≤ k ∧ k ≤ 7) ∧ q' = -1000000002 ∧ V2 = V1) ∨ ((0 ≤ r ∧ r < V1 135 0) ∧ (1 ≤ k ∧ k ≤ 7) ∧ ¬ (k ≤ V1 137 0 ∧ V1 137 (8 + r) + k ≤ V1 135 (1 + r)) ∧ q' = -1000000003 ∧ V2 = V1) ∨ ((0 ≤ r ∧ r < V1 135 0) ∧ (1 ≤ k ∧ k ≤ 7) ∧ (k ≤ V1 137 0 ∧ V1 137 (8 + r) + k ≤ V1 135 (1 + r)) ∧ q' = Kc (V1 135) (V1 137) r k.toNat ∧ V2 = zup (remM V1) 137 (cutN (V1 135) (V1 137) k r))) : q' = q ∧ RR V2 b (n + 1) := by
  have hY := RR_Y h
  obtain ⟨y1, y2, y3, y4, y5, y6, y7, y8⟩ := id hY
  have hS := RR_SR h
  have h7 := RR_7 h
  have hI := RR_sI h
  have hy := yN_Y b
  have yb : 120 ≤ yN b ∧ yN b ≤ 127 := by rcases hy with h | h <;> omega
  have e54 : V 5 4 = V 137 0 := hS.2.1
  by_cases hr : 0 ≤ r ∧ r < V 135 0
  · have r4 : r < 4 := by omega
    have e5r : V 5 r = V 137 (8 + r) := (hS.2.2.1 r hr.1 r4).1
    have eyr := y4 r hr.1 hr.2
    have hcc := stI_c hI h7 r hr.1 r4
    unfold ctP at hx
    rw [y1.1, e54, e5r, eyr.1] at hx
    by_cases hk : 1 ≤ k ∧ k ≤ 7
    · by_cases hroom : k ≤ V 137 0 ∧ V 137 (8 + r) + k ≤ V 135 (1 + r)
      · -- let down
        have hx4 := hx.resolve_left (fun z => z.1 hr)
        have hx4 := hx4.resolve_left (fun z => z.2.1 hk)
        have hx4 := hx4.resolve_left (fun z => z.2.2.1 hroom)
        obtain ⟨_, _, _, xq, xV⟩ := hx4
        have hld := ld_sp (y := yN b) hy (RR_Yr h) (RR_Sr h) hI hr.1 r4 k.toNat (by omega) (by omega)
        obtain ⟨W, hW⟩ : ∃ W, W = ldX (yN b) r k.toNat (rem1 V) := ⟨_, rfl⟩
        rw [← hW] at hld xV xq
        have r33 : rem1 V 3 = V 3 := rem1_x h 3 (by omega) (by omega)
        have o1 : ∀ a : Nat, a ≠ 3 → a ≠ 4 → a ≠ 5 → V1 a = rem1 V a := fun a q3 q4 q5 => by rw [xV, vst_o q3]; exact hld.1 a q3 q4 q5
        have o2 : ∀ a : Nat, a ≠ 7 → (a < 3 ∨ 89 ≤ a) → V1 a = V a := fun a q7 qa => by rw [o1 a (by omega) (by omega) (by omega)]; exact rem1_x h a q7 (by omega)
        rw [o2 135 (by omega) (by omega), o2 137 (by omega) (by omega)] at hm
        have hm4 := hm.resolve_left (fun z => z.1 hr)
        have hm4 := hm4.resolve_left (fun z => z.2.1 hk)
        have hm4 := hm4.resolve_left (fun z => z.2.2.1 hroom)
        obtain ⟨_, _, _, mq, mV⟩ := hm4
        have hq : q' = q := by
          rw [mq, xq, hld.2.2.2.2.2.2.1, r33]
          omega
        refine ⟨hq, ?_⟩
        have hSc := SRn_cut (k := k) (RR_Sr h) hI h7 hr.1 r4 (by omega) hroom.1 (by omega) hld
        rw [r33, ← xV] at hSc
        have hIc := cut_stI (m' := 60 * (n + 1)) hI h7 hr.1 hr.2 (by omega) (show 0 ≤ k by omega) hk.2 hroom.1 hroom.2 (by omega) (by omega) (by omega)
        have v2o : ∀ a : Nat, a ≠ 134 → a ≠ 137 → a ≠ 138 → V2 a = V1 a := fun a q1 q2 q3 => by
          rw [mV, zup_n _ _ q2]
          unfold remM
          rw [vst_o q1, zup_n _ _ q3]
        have v37 : V2 137 = cutN (V 135) (V 137) k r := by rw [mV, zup_s]
        have hg1 : gSt W 3 := ldR_g hld (gSt_c (RR_G h 3 (by unfold isS; decide)) (rem1_x h 4 (by omega) (by omega)) (rem1_x h 5 (by omega) (by omega)) (rem1_x h 6 (by omega) (by omega))) hI h7 hr.1 r4 (by omega) (by omega)
        refine RR_now h hn (fun a ha => by rw [v2o a (by omega) (by omega) (by omega)]; exact o1 a (by omega) (by omega) (by omega)) ?_ ?_ (fun a ha => by rw [v2o a (by omega) (by omega) (by omega)]; exact o2 a (by omega) (by omega)) (fun j j4 j7 => ?_) ?_ ?_ (by rw [v37]; exact hIc) ?_
        · rw [mV, zup_n _ _ (by decide)]; unfold remM; rw [vst_s, o2 134 (by omega) (by omega)]
        · rw [mV, zup_n _ _ (by decide)]; unfold remM; rw [vst_o (by decide), zup_s, o2 134 (by omega) (by omega), o2 137 (by omega) (by omega), o2 138 (by omega) (by omega)]
        · rw [mV, zup_n _ _ (by decide)]; unfold remM; rw [vst_n j4, zup_n _ _ (by decide), o2 134 (by omega) (by omega)]
        · refine rrS_c (RR_S h) ?_ ?_
          · rw [v2o 0 (by omega) (by omega) (by omega), o2 0 (by omega) (by omega)]
          · rw [mV, zup_n _ _ (by decide)]; unfold remM; rw [vst_n (by decide), zup_n _ _ (by decide), o2 134 (by omega) (by omega)]
        · rw [v37]
          exact SRn_congr hSc hIc h7 (v2o 3 (by omega) (by omega) (by omega)) (v2o 4 (by omega) (by omega) (by omega)) (v2o 5 (by omega) (by omega) (by omega)) (v2o 6 (by omega) (by omega) (by omega)) (fun _ _ _ => rfl)
        · refine gSt_c hg1 ?_ ?_ ?_
          · rw [v2o _ (by omega) (by omega) (by omega), xV, vst_o (by omega)]
          · rw [v2o _ (by omega) (by omega) (by omega), xV, vst_o (by omega)]
          · rw [v2o _ (by omega) (by omega) (by omega), xV, vst_o (by omega)]
      · have hx3 := ((hx.resolve_left (fun z => z.1 hr)).resolve_left (fun z => z.2.1 hk)).resolve_right (fun z => hroom z.2.2.1)
        rw [hx3.2.2.2.2] at hm
        have hm3 := ((hm.resolve_left (fun z => z.1 hr)).resolve_left (fun z => z.2.1 hk)).resolve_right (fun z => hroom z.2.2.1)
        rw [hm3.2.2.2.2]
        exact ⟨by rw [hm3.2.2.2.1, hx3.2.2.2.1], RR_up h hn⟩
    · have hx2 : q = -1000000002 ∧ V1 = V := by
        rcases hx with z | z | z | z
        · exact absurd hr z.1
        · exact z.2.2
        · exact absurd z.2.1 hk
        · exact absurd z.2.1 hk
      rw [hx2.2] at hm
      have hm2 : q' = -1000000002 ∧ V2 = V := by
        rcases hm with z | z | z | z
        · exact absurd hr z.1
        · exact z.2.2
        · exact absurd z.2.1 hk
        · exact absurd z.2.1 hk
      rw [hm2.2]
      exact ⟨by rw [hm2.1, hx2.1], RR_up h hn⟩
  · unfold ctP at hx
    rw [y1.1] at hx
    have hx1 : q = -1000000001 ∧ V1 = V := by
      rcases hx with z | z | z | z
      · exact z.2
      · exact absurd z.1 hr
      · exact absurd z.1 hr
      · exact absurd z.1 hr
    rw [hx1.2] at hm
    have hm1 : q' = -1000000001 ∧ V2 = V := by
      rcases hm with z | z | z | z
      · exact z.2
      · exact absurd z.1 hr
      · exact absurd z.1 hr
      · exact absurd z.1 hr
    rw [hm1.2]
    exact ⟨by rw [hm1.1, hx1.1], RR_up h hn⟩
theorem rr_pull (h : RR V b n) (hn : n + 1 ≤ 64) {r q q' : Int} (hx : (¬ (0 ≤ r ∧ r < V (yN b) 6) ∧ q = -1000000001 ∧ V1 = V) ∨ ((0 ≤ r ∧ r < V (yN b) 6) ∧ V 5 r = 0 ∧ q = -1000000003 ∧ V1 = V) ∨ ((0 ≤ r ∧ r < V (yN b) 6) ∧ V 5 r ≠ 0 ∧ q = V 5 r ∧ V1 = puX (rem1 V) r)) (hm : (¬ (0 ≤ r ∧ r < V1 135 0) ∧ q' = -1000000001 ∧ V2 = V1) ∨ ((0 ≤ r ∧ r < V1 135 0) ∧ V1 137 (8 + r) = 0 ∧ q' = -1000000003 ∧ V2 = V1) ∨ ((0 ≤ r ∧ r < V1 135 0) ∧ V1 137 (8 + r) ≠ 0 ∧ q' = V1 137 (8 + r) ∧ V2 = zup (remM V1) 137 (pulN (V1 137) r))) : q' = q ∧ RR V2 b (n + 1) := by
  have hY := RR_Y h
  obtain ⟨y1, y2, y3, y4, y5, y6, y7, y8⟩ := id hY
  have hS := RR_SR h
  have h7 := RR_7 h
  have hI := RR_sI h
  rw [y1.1] at hx
  by_cases hr : 0 ≤ r ∧ r < V 135 0
  · have r4 : r < 4 := by omega
    have e5r : V 5 r = V 137 (8 + r) := (hS.2.2.1 r hr.1 r4).1
    rw [e5r] at hx
    by_cases h0 : V 137 (8 + r) = 0
    · have hx2 := (hx.resolve_left (fun z => z.1 hr)).resolve_right (fun z => z.2.1 h0)
      rw [hx2.2.2.2] at hm
      have hm2 := (hm.resolve_left (fun z => z.1 hr)).resolve_right (fun z => z.2.1 h0)
      rw [hm2.2.2.2]
      exact ⟨by rw [hm2.2.2.1, hx2.2.2.1], RR_up h hn⟩
    · obtain ⟨_, _, xq, xV⟩ := (hx.resolve_left (fun z => z.1 hr)).resolve_left (fun z => h0 z.2.1)
      have o1 : ∀ a : Nat, a ≠ 4 → a ≠ 5 → a ≠ 6 → V1 a = rem1 V a := fun a q4 q5 q6 => by rw [xV]; unfold puX; rw [zup_n _ _ q6, zup_n _ _ q5, zup_n _ _ q4]
      have o2 : ∀ a : Nat, a ≠ 7 → (a < 4 ∨ 89 ≤ a) → V1 a = V a := fun a q7 qa => by rw [o1 a (by omega) (by omega) (by omega)]; exact rem1_x h a q7 (by omega)
      rw [o2 135 (by omega) (by omega), o2 137 (by omega) (by omega)] at hm
      obtain ⟨_, _, mq, mV⟩ := (hm.resolve_left (fun z => z.1 hr)).resolve_left (fun z => h0 z.2.1)
      refine ⟨by rw [mq, xq], ?_⟩
      have hSc := SRn_pul (RR_Sr h) hI h7 hr.1 r4
      rw [← xV] at hSc
      have hIc := pul_stI hI h7 hr.1 r4 (fun s s0 s1 => by have := y4 s s0 s1; omega)
      have v2o : ∀ a : Nat, a ≠ 134 → a ≠ 137 → a ≠ 138 → V2 a = V1 a := fun a q1 q2 q3 => by
        rw [mV, zup_n _ _ q2]
        unfold remM
        rw [vst_o q1, zup_n _ _ q3]
      have v37 : V2 137 = pulN (V 137) r := by rw [mV, zup_s]
      have hg0 : gSt (rem1 V) 3 := gSt_c (RR_G h 3 (by unfold isS; decide)) (rem1_x h 4 (by omega) (by omega)) (rem1_x h 5 (by omega) (by omega)) (rem1_x h 6 (by omega) (by omega))
      have hcc := stI_c hI h7 r hr.1 r4
      have hn0 := hI.1.1
      have hSr := RR_Sr h
      have q54 : rem1 V 5 4 = V 137 0 := hSr.2.1
      have q5r : rem1 V 5 r = V 137 (8 + r) := (hSr.2.2.1 r hr.1 r4).1
      refine RR_now h hn (fun a ha => by rw [v2o a (by omega) (by omega) (by omega)]; exact o1 a (by omega) (by omega) (by omega)) ?_ ?_ (fun a ha => by rw [v2o a (by omega) (by omega) (by omega)]; exact o2 a (by omega) (by omega)) (fun j j4 j7 => ?_) ?_ ?_ (by rw [v37]; exact stI_up hIc (by omega)) ?_
      · rw [mV, zup_n _ _ (by decide)]; unfold remM; rw [vst_s, o2 134 (by omega) (by omega)]
      · rw [mV, zup_n _ _ (by decide)]; unfold remM; rw [vst_o (by decide), zup_s, o2 134 (by omega) (by omega), o2 137 (by omega) (by omega), o2 138 (by omega) (by omega)]
      · rw [mV, zup_n _ _ (by decide)]; unfold remM; rw [vst_n j4, zup_n _ _ (by decide), o2 134 (by omega) (by omega)]
      · refine rrS_c (RR_S h) ?_ ?_
        · rw [v2o 0 (by omega) (by omega) (by omega), o2 0 (by omega) (by omega)]
        · rw [mV, zup_n _ _ (by decide)]; unfold remM; rw [vst_n (by decide), zup_n _ _ (by decide), o2 134 (by omega) (by omega)]
      · rw [v37]
        exact SRn_congr hSc hIc h7 (v2o 3 (by omega) (by omega) (by omega)) (v2o 4 (by omega) (by omega) (by omega)) (v2o 5 (by omega) (by omega) (by omega)) (v2o 6 (by omega) (by omega) (by omega)) (fun _ _ _ => rfl)
      · have hg1 : gSt (puX (rem1 V) r) 3 := by
          obtain ⟨g1, g2, g3⟩ := hg0
          refine ⟨fun j => ?_, fun j => ?_, fun j => ?_⟩
          · show 0 ≤ puX (rem1 V) r 5 j ∧ puX (rem1 V) r 5 j ≤ 7
            unfold puX
            rw [zup_n _ _ (by decide), zup_s]
            exact iup_le (iup_le g1 (by omega)) (by omega) j
          · show -1 ≤ puX (rem1 V) r 4 j ∧ puX (rem1 V) r 4 j ≤ 6
            unfold puX
            rw [zup_n _ _ (by decide), zup_n _ _ (by decide), zup_s]
            exact icp_le g2 g2 j
          · show 0 ≤ puX (rem1 V) r 6 j ∧ puX (rem1 V) r 6 j ≤ 127
            unfold puX
            rw [zup_s]
            exact iup_le g3 (by omega) j
        refine gSt_c hg1 ?_ ?_ ?_
        · rw [v2o _ (by omega) (by omega) (by omega), xV]
        · rw [v2o _ (by omega) (by omega) (by omega), xV]
        · rw [v2o _ (by omega) (by omega) (by omega), xV]
  · have hx1 : q = -1000000001 ∧ V1 = V := by
      rcases hx with z | z | z
      · exact z.2
      · exact absurd z.1 hr
      · exact absurd z.1 hr
    rw [hx1.2] at hm
    have hm1 : q' = -1000000001 ∧ V2 = V := by
      rcases hm with z | z | z
      · exact z.2
      · exact absurd z.1 hr
      · exact absurd z.1 hr
    rw [hm1.2]
    exact ⟨by rw [hm1.1, hx1.1], RR_up h hn⟩
end

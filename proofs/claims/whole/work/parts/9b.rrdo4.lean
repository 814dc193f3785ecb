/-! ===== goBack, feed, seed, couple, notes ===== -/
section
variable {V V' V1 V2 : Nat → Int → Int} {b : Bool} {n : Int}
theorem rr_goBack (h : RR V b n) (hn : n + 1 ≤ 64) {i q q' : Int} (hx : (¬ (0 ≤ i ∧ i ≤ 1) ∧ q = -1000000001 ∧ V1 = V) ∨ ((0 ≤ i ∧ i ≤ 1) ∧ V (imP i) 2 = 0 ∧ q = -1000000003 ∧ V1 = V) ∨ ((0 ≤ i ∧ i ≤ 1) ∧ V (imP i) 2 = 1 ∧ q = 1 ∧ V1 = backX V i)) (hm : (¬ (0 ≤ i ∧ i ≤ 1) ∧ q' = -1000000001 ∧ V2 = V1) ∨ ((0 ≤ i ∧ i ≤ 1) ∧ V1 140 i = 0 ∧ q' = -1000000003 ∧ V2 = V1) ∨ ((0 ≤ i ∧ i ≤ 1) ∧ V1 140 i = 1 ∧ q' = 1 ∧ V2 = backM V1 i)) : q' = q ∧ RR V2 b (n + 1) := by
  have h7 := RR_7 h
  by_cases hi : 0 ≤ i ∧ i ≤ 1
  · obtain ⟨j1, j2, j3, j4⟩ := (RR_I h).2 i hi.1 hi.2
    rw [j1] at hx
    by_cases hk : V 140 i = 0
    · have hx2 := (hx.resolve_left (fun z => z.1 hi)).resolve_right (fun z => by have := z.2.1; omega)
      rw [hx2.2.2.2] at hm
      have hm2 := (hm.resolve_left (fun z => z.1 hi)).resolve_right (fun z => by have := z.2.1; omega)
      rw [hm2.2.2.2]
      exact ⟨by rw [hm2.2.2.1, hx2.2.2.1], RR_up h hn⟩
    · obtain ⟨_, xk, xq, xV⟩ := (hx.resolve_left (fun z => z.1 hi)).resolve_left (fun z => hk z.2.1)
      have hip := imP_rg i
      obtain ⟨I, hI⟩ : ∃ I, I = imP i := ⟨_, rfl⟩
      unfold backX at xV
      rw [← hI] at hip j2 j3 j4 xV
      have o1 : ∀ a : Nat, a ≠ 0 → a ≠ 7 → a ≠ 3 → a ≠ 4 → a ≠ 5 → a ≠ 6 → V1 a = V a := fun a q0 q7 q3 q4 q5 q6 => by rw [xV, vst_o q7, vst_o q0, bcm_o q3 q4 q5 q6]
      rw [o1 140 (by omega) (by omega) (by omega) (by omega) (by omega) (by omega)] at hm
      obtain ⟨_, _, mq, mV⟩ := (hm.resolve_left (fun z => z.1 hi)).resolve_left (fun z => hk z.2.1)
      unfold backM at mV
      rw [o1 139 (by omega) (by omega) (by omega) (by omega) (by omega) (by omega), o1 137 (by omega) (by omega) (by omega) (by omega) (by omega) (by omega)] at mV
      refine ⟨by rw [mq, xq], ?_⟩
      obtain ⟨g1, g2⟩ := j4 xk
      have hcp := cp_bcm (V := V) (p := 3) (q := I + 1) (by omega)
      have hS1 := SRn_cp hcp g1 g2 h7
      have v2o : ∀ a : Nat, a ≠ 134 → a ≠ 137 → V2 a = V1 a := fun a q1 q2 => by rw [mV, vst_o q1, vst_o q1, zup_n _ _ q2]
      have v2x : ∀ a : Nat, a ≠ 0 → a ≠ 7 → (a < 3 ∨ 6 < a) → a ≠ 134 → a ≠ 137 → V2 a = V a := fun a q0 q7 qa q1 q2 => by rw [v2o a q1 q2]; exact o1 a q0 q7 (by omega) (by omega) (by omega) (by omega)
      have vj : ∀ j : Int, j ≠ 4 → j ≠ 7 → V2 134 j = V 134 j := fun j q4 q7 => by rw [mV, vst_n q4, vst_n q7, zup_n _ _ (by decide), o1 134 (by omega) (by omega) (by omega) (by omega) (by omega) (by omega)]
      have v4 : V2 134 4 = 0 := by rw [mV, vst_s]
      have v7 : V2 134 7 = V 139 (48 * i + 47) := by rw [mV, vst_n (by decide), vst_s]
      have v37 : V2 137 = icp (V 139) (V 137) (48 * i) 0 47 := by rw [mV, vst_o (by decide), vst_o (by decide), zup_s]
      have v013 : V2 0 13 = V I 1 := by rw [v2o 0 (by omega) (by omega), xV, vst_o (by decide), vst_s]
      have v71 : V2 7 1 = 0 := by rw [v2o 7 (by omega) (by omega), xV, vst_s]
      have v72 : V2 7 2 = V 7 2 := by rw [v2o 7 (by omega) (by omega), xV, vst_n (by decide), vst_o (by decide), bcm_o (by omega) (by omega) (by omega) (by omega)]
      have e5 : V2 135 = V 135 := v2x 135 (by omega) (by omega) (by omega) (by omega) (by omega)
      have hcell : ∀ j : Int, 0 ≤ j → j < 47 → V2 137 j = blk (V 139) 48 i j := fun j j0 j1 => by
        rw [v37, icp47 j j0 j1]
        rfl
      have vb : ∀ a : Nat, a = 3 ∨ a = 4 ∨ a = 5 ∨ a = 6 → V2 a = bcm V 3 (I + 1) a := fun a ha => by rw [v2o a (by omega) (by omega), xV, vst_o (by omega), vst_o (by omega)]
      have hII := imP_S (i := i)
      rw [← hI] at hII
      obtain ⟨a0, a1, a2, a3, a4, a5, a6, a7, a8, a9, a10, a11⟩ := h
      refine ⟨by omega, rrT_c a1 (by rw [v2x 1 (by omega) (by omega) (by omega) (by omega) (by omega)]) (by rw [v2x 1 (by omega) (by omega) (by omega) (by omega) (by omega)]) (v2x 2 (by omega) (by omega) (by omega) (by omega) (by omega)) (vj 9 (by omega) (by omega)) (vj 10 (by omega) (by omega)) (v2x 141 (by omega) (by omega) (by omega) (by omega) (by omega)), rrY_c a2 (fun a q1 q2 q3 q4 => v2x a (by omega) (by omega) (by omega) (by omega) (by omega)) (by rw [v2x 126 (by omega) (by omega) (by omega) (by omega) (by omega)]; exact a2.2.2.1.2) (by rw [v2x 133 (by omega) (by omega) (by omega) (by omega) (by omega)]; exact a2.2.2.2.2) e5, ⟨?_, ?_⟩, ?_, ?_, rrI_c a6 (by omega) h7 (fun a q1 q2 => v2x a (by omega) (by omega) (by omega) (by omega) (by omega)) (v2x 139 (by omega) (by omega) (by omega) (by omega) (by omega)) (v2x 140 (by omega) (by omega) (by omega) (by omega) (by omega)) e5, ⟨by rw [v013, v7]; exact j2, by rw [v013]; exact j3⟩, rrC_c a8 (v2x 99 (by omega) (by omega) (by omega) (by omega) (by omega)) (vj 12 (by omega) (by omega)) (v2x 142 (by omega) (by omega) (by omega) (by omega) (by omega)), rrH_c a9 (fun a q1 q2 => v2x a (by omega) (by omega) (by omega) (by omega) (by omega)) (vj 14 (by omega) (by omega)) (v2x 143 (by omega) (by omega) (by omega) (by omega) (by omega)) e5, rrB_c a10 (fun a q1 q2 => v2x a (by omega) (by omega) (by omega) (by omega) (by omega)) (vj 16 (by omega) (by omega)) (v2x 144 (by omega) (by omega) (by omega) (by omega) (by omega)) e5, rrX_c a11 (v2x 114 (by omega) (by omega) (by omega) (by omega) (by omega)) (v2x 115 (by omega) (by omega) (by omega) (by omega) (by omega)) (v2x 118 (by omega) (by omega) (by omega) (by omega) (by omega)) (v2x 119 (by omega) (by omega) (by omega) (by omega) (by omega))⟩
      · exact SRn_congr hS1 g2 h7 (vb 3 (by omega)) (vb 4 (by omega)) (vb 5 (by omega)) (vb 6 (by omega)) hcell
      · rw [e5]; exact stI_up (stI_congr g2 hcell h7) (by omega)
      · intro s hs
        have hsr := isS_rg hs
        by_cases h3 : s = 3
        · rw [h3]
          exact gSt_c (gS_bcm (a4 3 (by unfold isS; decide)) (a4 _ hII)) (vb 4 (by omega)) (vb 5 (by omega)) (vb 6 (by omega))
        · exact gSt_c (a4 s hs) (v2x _ (by omega) (by omega) (by omega) (by omega) (by omega)) (v2x _ (by omega) (by omega) (by omega) (by omega) (by omega)) (v2x _ (by omega) (by omega) (by omega) (by omega) (by omega))
      · exact ⟨by rw [v71, v4], by rw [v71]; omega, by rw [v72]; exact a5.2.2.1, fun k k0 k1 => by rw [v71] at k1; omega⟩
  · have hx1 : q = -1000000001 ∧ V1 = V := by
      rcases hx with z | z | z
      · exact z.2
      · exact absurd z.1 hi
      · exact absurd z.1 hi
    have hm1 : q' = -1000000001 ∧ V2 = V1 := by
      rcases hm with z | z | z
      · exact z.2
      · exact absurd z.1 hi
      · exact absurd z.1 hi
    rw [hm1.2, hx1.2]
    exact ⟨by rw [hm1.1, hx1.1], RR_up h hn⟩
/-- the relation, where only letters, notes and numbers of their own change -/
theorem RR_pt (h : RR V b n) (hn : n + 1 ≤ 64) (e : ∀ a : Nat, (3 ≤ a ∧ a ≤ 98) ∨ (108 ≤ a ∧ a ≤ 133) ∨ a = 135 ∨ (137 ≤ a ∧ a ≤ 140) → V' a = V a) (e4 : V' 134 4 = V 134 4) (hT : rrT V') (hS : rrS V') (hC : rrC V') (hH : rrH V') (hB : rrB V') : RR V' b (n + 1) := by
  have h7 := RR_7 h
  obtain ⟨a0, a1, a2, a3, a4, a5, a6, a7, a8, a9, a10, a11⟩ := h
  have e5 := e 135 (by omega)
  exact ⟨by omega, hT, rrY_c a2 (fun a q1 q2 q3 q4 => e a (by omega)) (by rw [e 126 (by omega)]; exact a2.2.2.1.2) (by rw [e 133 (by omega)]; exact a2.2.2.2.2) e5, rrN_c a3 (by omega) h7 (fun a q1 q2 => e a (by omega)) (e 137 (by omega)) e5, rrG_c a4 (fun a q => e a (by omega)), rrP_c a5 (by omega) h7 (e 7 (by omega)) (fun a q1 q2 => e a (by omega)) e4 (e 138 (by omega)) e5, rrI_c a6 (by omega) h7 (fun a q1 q2 => e a (by omega)) (e 139 (by omega)) (e 140 (by omega)) e5, hS, hC, hH, hB, rrX_c a11 (e 114 (by omega)) (e 115 (by omega)) (e 118 (by omega)) (e 119 (by omega))⟩
theorem rr_feed (h : RR V b n) (hn : n + 1 ≤ 64) {x q q' : Int} (hx : (¬ (0 ≤ x ∧ x ≤ 255) ∧ q = -1000000002 ∧ V1 = V) ∨ ((0 ≤ x ∧ x ≤ 255) ∧ V 1 1 = 230 ∧ q = -1000000004 ∧ V1 = V) ∨ ((0 ≤ x ∧ x ≤ 255) ∧ V 1 1 < 230 ∧ q = V 1 1 + 1 ∧ V1 = vst (vst V 2 (V 1 1) x) 1 1 (V 1 1 + 1))) (hm : (¬ (0 ≤ x ∧ x ≤ 255) ∧ q' = -1000000002 ∧ V2 = V1) ∨ ((0 ≤ x ∧ x ≤ 255) ∧ V1 134 9 = 230 ∧ q' = -1000000004 ∧ V2 = V1) ∨ ((0 ≤ x ∧ x ≤ 255) ∧ V1 134 9 < 230 ∧ q' = V1 134 9 + 1 ∧ V2 = vst (vst V1 141 (V1 134 9) x) 134 9 (V1 134 9 + 1))) : q' = q ∧ RR V2 b (n + 1) := by
  obtain ⟨t1, t2, t3, t4⟩ := RR_T h
  by_cases hv : 0 ≤ x ∧ x ≤ 255
  · by_cases hf : V 1 1 = 230
    · have hx2 := (hx.resolve_left (fun z => z.1 hv)).resolve_right (fun z => by have := z.2.1; omega)
      rw [hx2.2.2.2, ← t1] at hm
      have hm2 := (hm.resolve_left (fun z => z.1 hv)).resolve_right (fun z => by have := z.2.1; omega)
      rw [hm2.2.2.2]
      exact ⟨by rw [hm2.2.2.1, hx2.2.2.1], RR_up h hn⟩
    · obtain ⟨_, xl, xq, xV⟩ := (hx.resolve_left (fun z => z.1 hv)).resolve_left (fun z => hf z.2.1)
      have o1 : ∀ a : Nat, a ≠ 1 → a ≠ 2 → V1 a = V a := fun a q1 q2 => by rw [xV, vst_o q1, vst_o q2]
      rw [o1 134 (by omega) (by omega), ← t1] at hm
      obtain ⟨_, _, mq, mV⟩ := (hm.resolve_left (fun z => z.1 hv)).resolve_left (fun z => hf z.2.1)
      refine ⟨by rw [mq, xq], ?_⟩
      have v2o : ∀ a : Nat, a ≠ 134 → a ≠ 141 → V2 a = V1 a := fun a q1 q2 => by rw [mV, vst_o q1, vst_o q2]
      have vj : ∀ j : Int, j ≠ 9 → V2 134 j = V 134 j := fun j hj => by rw [mV, vst_n hj, vst_o (by decide), o1 134 (by omega) (by omega)]
      have v9 : V2 134 9 = V 1 1 + 1 := by rw [mV, vst_s]
      have v11 : V2 1 1 = V 1 1 + 1 := by rw [v2o 1 (by omega) (by omega), xV, vst_s]
      have v15 : V2 1 5 = V 1 5 := by rw [v2o 1 (by omega) (by omega), xV, vst_n (by decide), vst_o (by decide)]
      have v2' : V2 2 = iup (V 2) (V 1 1) x := by
        rw [v2o 2 (by omega) (by omega), xV, vst_o (by decide)]
        unfold vst
        rw [zup_s]
      have v141 : V2 141 = iup (V 141) (V 1 1) x := by
        rw [mV, vst_o (by decide)]
        unfold vst
        rw [zup_s, o1 141 (by omega) (by omega)]
      obtain ⟨tm1, tm2⟩ := t3
      refine RR_pt h hn (fun a ha => by rw [v2o a (by omega) (by omega)]; exact o1 a (by omega) (by omega)) (vj 4 (by omega)) ⟨by rw [v11, v9], by rw [v2', v141, t2], ⟨by rw [v9]; omega, by rw [v141]; exact iup_le tm2 hv⟩, by rw [v15, vj 10 (by omega)]; exact t4⟩ (rrS_c (RR_S h) (by rw [v2o 0 (by omega) (by omega), o1 0 (by omega) (by omega)]) (vj 7 (by omega))) (rrC_c (RR_C h) (by rw [v2o 99 (by omega) (by omega), o1 99 (by omega) (by omega)]) (vj 12 (by omega)) (by rw [v2o 142 (by omega) (by omega), o1 142 (by omega) (by omega)])) (rrH_c (RR_H h) (fun a q1 q2 => by rw [v2o a (by omega) (by omega), o1 a (by omega) (by omega)]) (vj 14 (by omega)) (by rw [v2o 143 (by omega) (by omega), o1 143 (by omega) (by omega)]) (by rw [v2o 135 (by omega) (by omega), o1 135 (by omega) (by omega)])) (rrB_c (RR_B h) (fun a q1 q2 => by rw [v2o a (by omega) (by omega), o1 a (by omega) (by omega)]) (vj 16 (by omega)) (by rw [v2o 144 (by omega) (by omega), o1 144 (by omega) (by omega)]) (by rw [v2o 135 (by omega) (by omega), o1 135 (by omega) (by omega)]))
  · have hx1 : q = -1000000002 ∧ V1 = V := by
      rcases hx with z | z | z
      · exact z.2
      · exact absurd z.1 hv
      · exact absurd z.1 hv
    have hm1 : q' = -1000000002 ∧ V2 = V1 := by
      rcases hm with z | z | z
      · exact z.2
      · exact absurd z.1 hv
      · exact absurd z.1 hv
    rw [hm1.2, hx1.2]
    exact ⟨by rw [hm1.1, hx1.1], RR_up h hn⟩
theorem rr_seed (h : RR V b n) (hn : n + 1 ≤ 64) {v q q' : Int} (hv : v ≤ 2147483647) (hx : (v < 0 ∧ q = -1000000002 ∧ V1 = V) ∨ (0 ≤ v ∧ q = V 0 13 ∧ V1 = vst V 0 13 v)) (hm : (v < 0 ∧ q' = -1000000002 ∧ V2 = V1) ∨ (0 ≤ v ∧ q' = V1 134 7 ∧ V2 = vst V1 134 7 v)) : q' = q ∧ RR V2 b (n + 1) := by
  obtain ⟨s1, s2⟩ := RR_S h
  by_cases h0 : v < 0
  · have hx1 := (hx.resolve_right (fun z => by omega)).2
    have hm1 := (hm.resolve_right (fun z => by omega)).2
    rw [hm1.2, hx1.2]
    exact ⟨by rw [hm1.1, hx1.1], RR_up h hn⟩
  · obtain ⟨_, xq, xV⟩ := hx.resolve_left (fun z => h0 z.1)
    obtain ⟨_, mq, mV⟩ := hm.resolve_left (fun z => h0 z.1)
    have o1 : ∀ a : Nat, a ≠ 0 → V1 a = V a := fun a q1 => by rw [xV, vst_o q1]
    have v2o : ∀ a : Nat, a ≠ 0 → a ≠ 134 → V2 a = V a := fun a q0 q1 => by rw [mV, vst_o q1]; exact o1 a q0
    have vj : ∀ j : Int, j ≠ 7 → V2 134 j = V 134 j := fun j hj => by rw [mV, vst_n hj, o1 134 (by omega)]
    refine ⟨by rw [mq, xq, o1 134 (by omega), s1], ?_⟩
    refine RR_pt h hn (fun a ha => v2o a (by omega) (by omega)) (vj 4 (by omega)) (rrT_c (RR_T h) (by rw [v2o 1 (by omega) (by omega)]) (by rw [v2o 1 (by omega) (by omega)]) (v2o 2 (by omega) (by omega)) (vj 9 (by omega)) (vj 10 (by omega)) (v2o 141 (by omega) (by omega))) ⟨by rw [mV, vst_s, vst_o (by decide), xV, vst_s], by rw [mV, vst_o (by decide), xV, vst_s]; omega⟩ (rrC_c (RR_C h) (v2o 99 (by omega) (by omega)) (vj 12 (by omega)) (v2o 142 (by omega) (by omega))) (rrH_c (RR_H h) (fun a q1 q2 => v2o a (by omega) (by omega)) (vj 14 (by omega)) (v2o 143 (by omega) (by omega)) (v2o 135 (by omega) (by omega))) (rrB_c (RR_B h) (fun a q1 q2 => v2o a (by omega) (by omega)) (vj 16 (by omega)) (v2o 144 (by omega) (by omega)) (v2o 135 (by omega) (by omega)))
theorem trM_congr {T T' : Int → Int} {a c : Int} : ∀ k : Nat, (∀ j : Int, 0 ≤ j → j < 3 * k → T' j = T j) → trM T' a c k = trM T a c k
  | 0, _ => rfl
  | k + 1, h => by
    unfold trM
    rw [trM_congr k (fun j j0 j1 => h j j0 (by omega)), h (3 * k) (by omega) (by omega), h (3 * k + 1) (by omega) (by omega), h (3 * k + 2) (by omega) (by omega)]
theorem rr_couple (h : RR V b n) (hn : n + 1 ≤ 64) {a c k q q' : Int} (hx : (¬ (0 ≤ a ∧ a ≤ 4 ∧ 0 ≤ c ∧ c ≤ 4) ∧ q = -1000000001 ∧ V1 = V) ∨ ((0 ≤ a ∧ a ≤ 4 ∧ 0 ≤ c ∧ c ≤ 4) ∧ V 99 0 = 8 ∧ q = -1000000004 ∧ V1 = V) ∨ ((0 ≤ a ∧ a ≤ 4 ∧ 0 ≤ c ∧ c ≤ 4) ∧ V 99 0 < 8 ∧ q = V 99 0 + 1 ∧ V1 = cpl V a c k)) (hm : (¬ (0 ≤ a ∧ a ≤ 4 ∧ 0 ≤ c ∧ c ≤ 4) ∧ q' = -1000000001 ∧ V2 = V1) ∨ ((0 ≤ a ∧ a ≤ 4 ∧ 0 ≤ c ∧ c ≤ 4) ∧ V1 134 12 = 8 ∧ q' = -1000000004 ∧ V2 = V1) ∨ ((0 ≤ a ∧ a ≤ 4 ∧ 0 ≤ c ∧ c ≤ 4) ∧ V1 134 12 < 8 ∧ q' = V1 134 12 + 1 ∧ V2 = cplM V1 a c k)) : q' = q ∧ RR V2 b (n + 1) := by
  obtain ⟨c1, ⟨c21, c22⟩, c3, c4, c5⟩ := RR_C h
  by_cases hv : 0 ≤ a ∧ a ≤ 4 ∧ 0 ≤ c ∧ c ≤ 4
  · by_cases hf : V 99 0 = 8
    · have hx2 := (hx.resolve_left (fun z => z.1 hv)).resolve_right (fun z => by have := z.2.1; omega)
      rw [hx2.2.2.2, ← c1] at hm
      have hm2 := (hm.resolve_left (fun z => z.1 hv)).resolve_right (fun z => by have := z.2.1; omega)
      rw [hm2.2.2.2]
      exact ⟨by rw [hm2.2.2.1, hx2.2.2.1], RR_up h hn⟩
    · obtain ⟨_, xl, xq, xV⟩ := (hx.resolve_left (fun z => z.1 hv)).resolve_left (fun z => hf z.2.1)
      unfold cpl at xV
      have o1 : ∀ a : Nat, a ≠ 99 → V1 a = V a := fun a q1 => by rw [xV, vst_o q1, vst_o q1, vst_o q1]
      rw [o1 134 (by omega), ← c1] at hm
      obtain ⟨_, _, mq, mV⟩ := (hm.resolve_left (fun z => z.1 hv)).resolve_left (fun z => hf z.2.1)
      unfold cplM at mV
      rw [o1 134 (by omega), ← c1] at mV
      refine ⟨by rw [mq, xq], ?_⟩
      have v2o : ∀ a : Nat, a ≠ 134 → a ≠ 142 → V2 a = V1 a := fun a q1 q2 => by rw [mV, vst_o q1, vst_o q2, vst_o q2, vst_o q2]
      have v2x : ∀ a : Nat, a ≠ 99 → a ≠ 134 → a ≠ 142 → V2 a = V a := fun a q0 q1 q2 => by rw [v2o a q1 q2]; exact o1 a q0
      have vj : ∀ j : Int, j ≠ 12 → V2 134 j = V 134 j := fun j hj => by rw [mV, vst_n hj, vst_o (by decide), vst_o (by decide), vst_o (by decide), o1 134 (by omega)]
      have v12 : V2 134 12 = V 99 0 + 1 := by rw [mV, vst_s]
      have w0 : V2 99 0 = V 99 0 + 1 := by rw [v2o 99 (by omega) (by omega), xV, vst_s]
      have w1 : V2 99 1 = bOr (V 99 1) (s1 (a * 5 + c)) := by rw [v2o 99 (by omega) (by omega), xV, vst_n (by decide), vst_n (by decide), vst_s]
      have w2 : V2 99 2 = if k = 0 then bDif (V 99 2) (s1 (a * 5 + c)) else bOr (V 99 2) (s1 (a * 5 + c)) := by rw [v2o 99 (by omega) (by omega), xV, vst_n (by decide), vst_s]
      have t142 : V2 142 = iup (iup (iup (V 142) (3 * V 99 0) a) (3 * V 99 0 + 1) c) (3 * V 99 0 + 2) (if k = 0 then 0 else 1) := by
        rw [mV, vst_o (by decide)]
        unfold vst
        rw [zup_s, zup_s, zup_s, o1 142 (by omega)]
      have hlow : ∀ j : Int, 0 ≤ j → j < 3 * ((V 99 0).toNat : Int) → V2 142 j = V 142 j := fun j j0 j1 => by rw [t142, iup_n (by omega), iup_n (by omega), iup_n (by omega)]
      have htr : ∀ a' c' : Int, trM (V2 142) a' c' (V 99 0 + 1).toNat = if a = a' ∧ c = c' then (if k = 0 then 0 else 1) else trM (V 142) a' c' (V 99 0).toNat := fun a' c' => by
        rw [show (V 99 0 + 1).toNat = (V 99 0).toNat + 1 by omega]
        show (if V2 142 (3 * ((V 99 0).toNat : Nat)) = a' ∧ V2 142 (3 * ((V 99 0).toNat : Nat) + 1) = c' then V2 142 (3 * ((V 99 0).toNat : Nat) + 2) else trM (V2 142) a' c' (V 99 0).toNat) = _
        rw [trM_congr _ hlow, show (((V 99 0).toNat : Nat) : Int) = V 99 0 by omega, t142, iup_n (by omega), iup_n (by omega), iup_s, iup_n (by omega), iup_s, iup_s]
      have p25 : (2 ^ 25 : Nat) = 33554432 := by decide
      have hs24 : s1 (a * 5 + c) < 33554432 := by
        have h1 : 2 ^ (a * 5 + c).toNat ≤ 2 ^ 24 := Nat.pow_le_pow_right (by decide) (by omega)
        have p24 : (2 ^ 24 : Nat) = 16777216 := by decide
        unfold s1
        omega
      rw [← c1] at c5
      have hC' : rrC V2 := by
        refine ⟨by rw [w0, v12], ⟨by rw [v12]; omega, fun j => ?_⟩, ?_, ?_, fun a' c' a0 a4 c0 c4 => ?_⟩
        · rw [t142]
          exact iup_le (iup_le (iup_le c22 (by omega)) (by omega)) (by split <;> omega) j
        · rw [w1]
          have h1 := bOr_lt (x := V 99 1) (y := s1 (a * 5 + c)) 25 (by omega) (by omega)
          have h2 := bOr_nn (V 99 1) (s1 (a * 5 + c))
          omega
        · rw [w2]
          split
          · have h1 := bDif_nn (V 99 2) (s1 (a * 5 + c))
            have h2 := bDif_le (x := V 99 2) (y := s1 (a * 5 + c)) c4.1
            omega
          · have h1 := bOr_lt (x := V 99 2) (y := s1 (a * 5 + c)) 25 (by omega) (by omega)
            have h2 := bOr_nn (V 99 2) (s1 (a * 5 + c))
            omega
        · rw [v12, htr, w1, w2, tb_or _ _ _ (by omega) (by omega)]
          obtain ⟨f1, f2⟩ := c5 a' c' a0 a4 c0 c4
          by_cases he : a = a' ∧ c = c'
          · rw [if_pos he, he.1, he.2, decide_eq_true rfl, Bool.or_true]
            refine ⟨⟨fun _ => by split <;> omega, fun _ => rfl⟩, ?_⟩
            by_cases hk : k = 0
            · rw [if_pos hk, if_pos hk, tb_dif _ _ _ (by omega) (by omega), decide_eq_true rfl]
              simp
            · rw [if_neg hk, if_neg hk, tb_or _ _ _ (by omega) (by omega), decide_eq_true rfl]
              simp
          · rw [if_neg he, decide_eq_false (show ¬ a' * 5 + c' = a * 5 + c by omega), Bool.or_false]
            refine ⟨f1, ?_⟩
            by_cases hk : k = 0
            · rw [if_pos hk, tb_dif _ _ _ (by omega) (by omega), decide_eq_false (show ¬ a' * 5 + c' = a * 5 + c by omega)]
              simp only [Bool.not_false, Bool.and_true]
              exact f2
            · rw [if_neg hk, tb_or _ _ _ (by omega) (by omega), decide_eq_false (show ¬ a' * 5 + c' = a * 5 + c by omega), Bool.or_false]
              exact f2
      exact RR_pt h hn (fun a ha => v2x a (by omega) (by omega) (by omega)) (vj 4 (by omega)) (rrT_c (RR_T h) (by rw [v2x 1 (by omega) (by omega) (by omega)]) (by rw [v2x 1 (by omega) (by omega) (by omega)]) (v2x 2 (by omega) (by omega) (by omega)) (vj 9 (by omega)) (vj 10 (by omega)) (v2x 141 (by omega) (by omega) (by omega))) (rrS_c (RR_S h) (by rw [v2x 0 (by omega) (by omega) (by omega)]) (vj 7 (by omega))) hC' (rrH_c (RR_H h) (fun a q1 q2 => v2x a (by omega) (by omega) (by omega)) (vj 14 (by omega)) (v2x 143 (by omega) (by omega) (by omega)) (v2x 135 (by omega) (by omega) (by omega))) (rrB_c (RR_B h) (fun a q1 q2 => v2x a (by omega) (by omega) (by omega)) (vj 16 (by omega)) (v2x 144 (by omega) (by omega) (by omega)) (v2x 135 (by omega) (by omega) (by omega)))
  · have hx1 : q = -1000000001 ∧ V1 = V := by
      rcases hx with z | z | z
      · exact z.2
      · exact absurd z.1 hv
      · exact absurd z.1 hv
    have hm1 : q' = -1000000001 ∧ V2 = V1 := by
      rcases hm with z | z | z
      · exact z.2
      · exact absurd z.1 hv
      · exact absurd z.1 hv
    rw [hm1.2, hx1.2]
    exact ⟨by rw [hm1.1, hx1.1], RR_up h hn⟩
end

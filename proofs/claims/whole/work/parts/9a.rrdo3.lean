/-! ===== undo, images, letters, seed ===== -/
section
variable {V V' V1 V2 : Nat → Int → Int} {b : Bool} {n : Int}
theorem icp47 {f g : Int → Int} {z : Int} : ∀ j : Int, 0 ≤ j → j < 47 → icp f g z 0 47 j = f (z + j) := fun j j0 j1 => by
  unfold icp
  rw [if_pos (by omega)]
  congr 1
  omega
theorem rr_undo (h : RR V b n) (hn : n + 1 ≤ 64) {q q' : Int} (hx : (V 7 1 = 0 ∧ q = -1000000003 ∧ V1 = V) ∨ (V 7 1 ≠ 0 ∧ q = V 7 1 - 1 ∧ V1 = giv1 V)) (hm : (V1 134 4 = 0 ∧ q' = -1000000003 ∧ V2 = V1) ∨ (V1 134 4 ≠ 0 ∧ q' = V1 134 4 - 1 ∧ V2 = zup (vst V1 134 4 (V1 134 4 - 1)) 137 (icp (V1 138) (V1 137) (47 * (V1 134 4 - 1)) 0 47))) : q' = q ∧ RR V2 b (n + 1) := by
  have h7 := RR_7 h
  obtain ⟨p1, p2, p3, p4⟩ := RR_P h
  by_cases h0 : V 7 1 = 0
  · have hx1 := hx.resolve_right (fun z => z.1 h0)
    rw [hx1.2.2] at hm
    have hm1 := hm.resolve_right (fun z => z.1 (by rw [← p1]; exact h0))
    rw [hm1.2.2]
    exact ⟨by rw [hm1.2.1, hx1.2.1], RR_up h hn⟩
  · obtain ⟨_, xq, xV⟩ := hx.resolve_left (fun z => h0 z.1)
    have hnu := p3
    have hrg := rgp_rg hnu
    have o1 : ∀ a : Nat, a ≠ 7 → a ≠ 3 → a ≠ 4 → a ≠ 5 → a ≠ 6 → V1 a = V a := fun a q7 q3 q4 q5 q6 => by rw [xV]; unfold giv1; rw [vst_o q7, vst_o q7, bcm_o q3 q4 q5 q6]
    rw [o1 134 (by omega) (by omega) (by omega) (by omega) (by omega), o1 138 (by omega) (by omega) (by omega) (by omega) (by omega), o1 137 (by omega) (by omega) (by omega) (by omega) (by omega), ← p1] at hm
    obtain ⟨_, mq, mV⟩ := hm.resolve_left (fun z => h0 z.1)
    refine ⟨by rw [mq, xq], ?_⟩
    have v2o : ∀ a : Nat, a ≠ 134 → a ≠ 137 → V2 a = V1 a := fun a q1 q2 => by rw [mV, zup_n _ _ q2, vst_o q1]
    have v37 : V2 137 = icp (V 138) (V 137) (47 * (V 7 1 - 1)) 0 47 := by rw [mV, zup_s]
    have v2x : ∀ a : Nat, a ≠ 7 → a ≠ 3 → a ≠ 4 → a ≠ 5 → a ≠ 6 → a ≠ 134 → a ≠ 137 → V2 a = V a := fun a q7 q3 q4 q5 q6 q8 q9 => by rw [v2o a q8 q9]; exact o1 a q7 q3 q4 q5 q6
    have vj : ∀ j : Int, j ≠ 4 → V2 134 j = V 134 j := fun j hj => by rw [mV, zup_n _ _ (by decide), vst_n hj, o1 134 (by omega) (by omega) (by omega) (by omega) (by omega)]
    have v4 : V2 134 4 = V 7 1 - 1 := by rw [mV, zup_n _ _ (by decide), vst_s]
    have v71 : V2 7 1 = V 7 1 - 1 := by rw [v2o 7 (by omega) (by omega), xV]; unfold giv1; rw [vst_s]
    have v72 : V2 7 2 = (V 7 2 + 20 - 1) % 20 := by rw [v2o 7 (by omega) (by omega), xV]; unfold giv1; rw [vst_n (by decide), vst_s]; rfl
    have e5 : V2 135 = V 135 := v2x 135 (by omega) (by omega) (by omega) (by omega) (by omega) (by omega) (by omega)
    -- the stand that comes back
    have hlast : rgk V (V 7 1 - 1) = rgp (V 7 2) := by
      unfold rgk
      congr 1
      omega
    obtain ⟨g1, g2⟩ := p4 (V 7 1 - 1) (by omega) (by omega)
    rw [hlast] at g1
    have hcp := cp_bcm (V := V) (p := 3) (q := rgp (V 7 2)) (by omega)
    have hS1 := SRn_cp hcp g1 g2 h7
    have hcell : ∀ j : Int, 0 ≤ j → j < 47 → V2 137 j = blk (V 138) 47 (V 7 1 - 1) j := fun j j0 j1 => by
      rw [v37, icp47 j j0 j1]
      rfl
    have vb : ∀ a : Nat, a = 3 ∨ a = 4 ∨ a = 5 ∨ a = 6 → V2 a = bcm V 3 (rgp (V 7 2)) a := fun a ha => by
      rw [v2o a (by omega) (by omega), xV]
      unfold giv1
      rw [vst_o (by omega), vst_o (by omega)]
    obtain ⟨a0, a1, a2, a3, a4, a5, a6, a7, a8, a9, a10, a11⟩ := h
    refine ⟨by omega, rrT_c a1 (by rw [v2x 1 (by omega) (by omega) (by omega) (by omega) (by omega) (by omega) (by omega)]) (by rw [v2x 1 (by omega) (by omega) (by omega) (by omega) (by omega) (by omega) (by omega)]) (v2x 2 (by omega) (by omega) (by omega) (by omega) (by omega) (by omega) (by omega)) (vj 9 (by omega)) (vj 10 (by omega)) (v2x 141 (by omega) (by omega) (by omega) (by omega) (by omega) (by omega) (by omega)), rrY_c a2 (fun a q1 q2 q3 q4 => v2x a (by omega) (by omega) (by omega) (by omega) (by omega) (by omega) (by omega)) (by rw [v2x 126 (by omega) (by omega) (by omega) (by omega) (by omega) (by omega) (by omega)]; exact a2.2.2.1.2) (by rw [v2x 133 (by omega) (by omega) (by omega) (by omega) (by omega) (by omega) (by omega)]; exact a2.2.2.2.2) e5, ⟨?_, ?_⟩, ?_, ?_, rrI_c a6 (by omega) h7 (fun a q1 q2 => v2x a (by omega) (by omega) (by omega) (by omega) (by omega) (by omega) (by omega)) (v2x 139 (by omega) (by omega) (by omega) (by omega) (by omega) (by omega) (by omega)) (v2x 140 (by omega) (by omega) (by omega) (by omega) (by omega) (by omega) (by omega)) e5, rrS_c a7 (by rw [v2x 0 (by omega) (by omega) (by omega) (by omega) (by omega) (by omega) (by omega)]) (vj 7 (by omega)), rrC_c a8 (v2x 99 (by omega) (by omega) (by omega) (by omega) (by omega) (by omega) (by omega)) (vj 12 (by omega)) (v2x 142 (by omega) (by omega) (by omega) (by omega) (by omega) (by omega) (by omega)), rrH_c a9 (fun a q1 q2 => v2x a (by omega) (by omega) (by omega) (by omega) (by omega) (by omega) (by omega)) (vj 14 (by omega)) (v2x 143 (by omega) (by omega) (by omega) (by omega) (by omega) (by omega) (by omega)) e5, rrB_c a10 (fun a q1 q2 => v2x a (by omega) (by omega) (by omega) (by omega) (by omega) (by omega) (by omega)) (vj 16 (by omega)) (v2x 144 (by omega) (by omega) (by omega) (by omega) (by omega) (by omega) (by omega)) e5, rrX_c a11 (v2x 114 (by omega) (by omega) (by omega) (by omega) (by omega) (by omega) (by omega)) (v2x 115 (by omega) (by omega) (by omega) (by omega) (by omega) (by omega) (by omega)) (v2x 118 (by omega) (by omega) (by omega) (by omega) (by omega) (by omega) (by omega)) (v2x 119 (by omega) (by omega) (by omega) (by omega) (by omega) (by omega) (by omega))⟩
    · exact SRn_congr hS1 g2 h7 (vb 3 (by omega)) (vb 4 (by omega)) (vb 5 (by omega)) (vb 6 (by omega)) hcell
    · rw [e5]; exact stI_up (stI_congr g2 hcell h7) (by omega)
    · intro s hs
      have hsr := isS_rg hs
      by_cases h3 : s = 3
      · rw [h3]
        exact gSt_c (gS_bcm (a4 3 (by unfold isS; decide)) (a4 _ (rgp_S hnu))) (vb 4 (by omega)) (vb 5 (by omega)) (vb 6 (by omega))
      · exact gSt_c (a4 s hs) (v2x _ (by omega) (by omega) (by omega) (by omega) (by omega) (by omega) (by omega)) (v2x _ (by omega) (by omega) (by omega) (by omega) (by omega) (by omega) (by omega)) (v2x _ (by omega) (by omega) (by omega) (by omega) (by omega) (by omega) (by omega))
    · refine ⟨by rw [v71, v4], by rw [v71]; omega, by rw [v72]; omega, fun k k0 k1 => ?_⟩
      rw [v71] at k1
      obtain ⟨f1, f2⟩ := p4 k k0 (by omega)
      have hk : rgk V2 k = rgk V k := by
        unfold rgk
        rw [v71, v72]
        congr 1
        omega
      have hr := rgk_rg (V := V) p3 p2 k
      rw [hk, e5, v2x 138 (by omega) (by omega) (by omega) (by omega) (by omega) (by omega) (by omega)]
      exact ⟨SRn_congr f1 f2 h7 (v2x _ (by omega) (by omega) (by omega) (by omega) (by omega) (by omega) (by omega)) (v2x _ (by omega) (by omega) (by omega) (by omega) (by omega) (by omega) (by omega)) (v2x _ (by omega) (by omega) (by omega) (by omega) (by omega) (by omega) (by omega)) (v2x _ (by omega) (by omega) (by omega) (by omega) (by omega) (by omega) (by omega)) (fun _ _ _ => rfl), stI_up f2 (by omega)⟩
theorem imP_S {i : Int} : isS (imP i + 1) := by
  rcases imP_rg i with h | h <;> rw [h] <;> unfold isS <;> decide
theorem rr_keep (h : RR V b n) (hn : n + 1 ≤ 64) {i q q' : Int} (hx : (¬ (0 ≤ i ∧ i ≤ 1) ∧ q = -1000000001 ∧ V1 = V) ∨ ((0 ≤ i ∧ i ≤ 1) ∧ q = 1 ∧ V1 = keepX V i)) (hm : (¬ (0 ≤ i ∧ i ≤ 1) ∧ q' = -1000000001 ∧ V2 = V1) ∨ ((0 ≤ i ∧ i ≤ 1) ∧ q' = 1 ∧ V2 = keepM V1 i)) : q' = q ∧ RR V2 b (n + 1) := by
  have h7 := RR_7 h
  by_cases hi : 0 ≤ i ∧ i ≤ 1
  · obtain ⟨_, xq, xV⟩ := hx.resolve_left (fun z => z.1 hi)
    obtain ⟨_, mq, mV⟩ := hm.resolve_left (fun z => z.1 hi)
    refine ⟨by rw [mq, xq], ?_⟩
    have hip := imP_rg i
    obtain ⟨I, hI⟩ : ∃ I, I = imP i := ⟨_, rfl⟩
    rw [← hI] at hip
    have hS := RR_SR h
    have hsI := RR_sI h
    have hcp := cp_bcm (V := V) (p := I + 1) (q := 3) (by omega)
    have hS1 := SRn_cp hcp hS hsI h7
    unfold keepX at xV
    rw [← hI] at xV
    have o1 : ∀ a : Nat, a ≠ 7 → a ≠ I → a ≠ I + 1 → a ≠ I + 2 → a ≠ I + 3 → a ≠ I + 4 → V1 a = V a := fun a q7 q0 q1 q2 q3 q4 => by rw [xV, vst_o q7, vst_o q0, vst_o q0, bcm_o (by omega) (by omega) (by omega) (by omega)]
    have o2 : ∀ a : Nat, I + 1 ≤ a → a ≤ I + 4 → V1 a = bcm V (I + 1) 3 a := fun a q1 q2 => by rw [xV, vst_o (by omega), vst_o (by omega), vst_o (by omega)]
    have x71 : V1 7 1 = 0 := by rw [xV, vst_s]
    have x72 : V1 7 2 = V 7 2 := by rw [xV, vst_n (by decide), vst_o (by omega), vst_o (by omega), bcm_o (by omega) (by omega) (by omega) (by omega)]
    have xi1 : V1 I 1 = V 0 13 := by rw [xV, vst_o (by omega), vst_n (by decide), vst_s]
    have xi2 : V1 I 2 = 1 := by rw [xV, vst_o (by omega), vst_s]
    unfold keepM at mV
    have e134 : V1 134 = V 134 := o1 134 (by omega) (by omega) (by omega) (by omega) (by omega) (by omega)
    have e137 : V1 137 = V 137 := o1 137 (by omega) (by omega) (by omega) (by omega) (by omega) (by omega)
    have e139 : V1 139 = V 139 := o1 139 (by omega) (by omega) (by omega) (by omega) (by omega) (by omega)
    have e140 : V1 140 = V 140 := o1 140 (by omega) (by omega) (by omega) (by omega) (by omega) (by omega)
    rw [e137, e139, e134] at mV
    have v2o : ∀ a : Nat, a ≠ 134 → a ≠ 139 → a ≠ 140 → V2 a = V1 a := fun a q1 q2 q3 => by rw [mV, vst_o q1, vst_o q3, vst_o q2, zup_n _ _ q2]
    have v2x : ∀ a : Nat, a ≠ 7 → (a < I ∨ I + 4 < a) → a ≠ 134 → a ≠ 139 → a ≠ 140 → V2 a = V a := fun a q7 q0 q1 q2 q3 => by rw [v2o a q1 q2 q3]; exact o1 a q7 (by omega) (by omega) (by omega) (by omega) (by omega)
    have vj : ∀ j : Int, j ≠ 4 → V2 134 j = V 134 j := fun j hj => by rw [mV, vst_n hj, vst_o (by decide), vst_o (by decide), zup_n _ _ (by decide), e134]
    have v4 : V2 134 4 = 0 := by rw [mV, vst_s]
    have v140 : V2 140 = iup (V 140) i 1 := by
      rw [mV, vst_o (by decide)]
      unfold vst
      rw [zup_s, zup_n _ _ (by decide), zup_n _ _ (by decide), e140]
    have v139 : V2 139 = iup (icp (V 137) (V 139) 0 (48 * i) 47) (48 * i + 47) (V 134 7) := by
      rw [mV, vst_o (by decide), vst_o (by decide)]
      unfold vst
      rw [zup_s, zup_s]
    have e5 : V2 135 = V 135 := v2x 135 (by omega) (by omega) (by omega) (by omega) (by omega)
    have hcell : ∀ j : Int, 0 ≤ j → j < 47 → blk (V2 139) 48 i j = V 137 j := fun j j0 j1 => by
      unfold blk
      rw [v139, iup_n (by omega)]
      unfold icp
      rw [if_pos (by omega)]
      congr 1
      omega
    obtain ⟨a0, a1, a2, a3, a4, a5, a6, a7, a8, a9, a10, a11⟩ := h
    refine ⟨by omega, rrT_c a1 (by rw [v2x 1 (by omega) (by omega) (by omega) (by omega) (by omega)]) (by rw [v2x 1 (by omega) (by omega) (by omega) (by omega) (by omega)]) (v2x 2 (by omega) (by omega) (by omega) (by omega) (by omega)) (vj 9 (by omega)) (vj 10 (by omega)) (v2x 141 (by omega) (by omega) (by omega) (by omega) (by omega)), rrY_c a2 (fun a q1 q2 q3 q4 => v2x a (by omega) (by omega) (by omega) (by omega) (by omega)) (by rw [v2x 126 (by omega) (by omega) (by omega) (by omega) (by omega)]; exact a2.2.2.1.2) (by rw [v2x 133 (by omega) (by omega) (by omega) (by omega) (by omega)]; exact a2.2.2.2.2) e5, rrN_c a3 (by omega) h7 (fun a q1 q2 => v2x a (by omega) (by omega) (by omega) (by omega) (by omega)) (v2x 137 (by omega) (by omega) (by omega) (by omega) (by omega)) e5, ?_, ?_, ?_, rrS_c a7 (by rw [v2x 0 (by omega) (by omega) (by omega) (by omega) (by omega)]) (vj 7 (by omega)), rrC_c a8 (v2x 99 (by omega) (by omega) (by omega) (by omega) (by omega)) (vj 12 (by omega)) (v2x 142 (by omega) (by omega) (by omega) (by omega) (by omega)), rrH_c a9 (fun a q1 q2 => v2x a (by omega) (by omega) (by omega) (by omega) (by omega)) (vj 14 (by omega)) (v2x 143 (by omega) (by omega) (by omega) (by omega) (by omega)) e5, rrB_c a10 (fun a q1 q2 => v2x a (by omega) (by omega) (by omega) (by omega) (by omega)) (vj 16 (by omega)) (v2x 144 (by omega) (by omega) (by omega) (by omega) (by omega)) e5, rrX_c a11 (v2x 114 (by omega) (by omega) (by omega) (by omega) (by omega)) (v2x 115 (by omega) (by omega) (by omega) (by omega) (by omega)) (v2x 118 (by omega) (by omega) (by omega) (by omega) (by omega)) (v2x 119 (by omega) (by omega) (by omega) (by omega) (by omega))⟩
    · intro s hs
      have hsr := isS_rg hs
      by_cases h3 : s = I + 1
      · rw [h3]
        have hII := imP_S (i := i)
        rw [← hI] at hII
        exact gSt_c (gS_bcm (a4 (I + 1) hII) (a4 3 (by unfold isS; decide))) (by rw [v2o _ (by omega) (by omega) (by omega)]; exact o2 _ (by omega) (by omega)) (by rw [v2o _ (by omega) (by omega) (by omega)]; exact o2 _ (by omega) (by omega)) (by rw [v2o _ (by omega) (by omega) (by omega)]; exact o2 _ (by omega) (by omega))
      · exact gSt_c (a4 s hs) (v2x _ (by omega) (by omega) (by omega) (by omega) (by omega)) (v2x _ (by omega) (by omega) (by omega) (by omega) (by omega)) (v2x _ (by omega) (by omega) (by omega) (by omega) (by omega))
    · refine ⟨by rw [v2o 7 (by omega) (by omega) (by omega), x71, v4], by rw [v2o 7 (by omega) (by omega) (by omega), x71]; omega, by rw [v2o 7 (by omega) (by omega) (by omega), x72]; exact a5.2.2.1, fun k k0 k1 => ?_⟩
      rw [v2o 7 (by omega) (by omega) (by omega), x71] at k1
      omega
    · refine ⟨by rw [v140]; exact iup_le a6.1 (by omega), fun k k0 k1 => ?_⟩
      by_cases hk : k = i
      · rw [hk, ← hI, v2o I (by omega) (by omega) (by omega), xi2, xi1, v140, iup_s]
        refine ⟨rfl, ?_, a7.2, fun _ => ⟨?_, ?_⟩⟩
        · rw [v139, iup_s]; exact a7.1
        · exact SRn_congr hS1 hsI h7 (by rw [v2o _ (by omega) (by omega) (by omega)]; exact o2 _ (by omega) (by omega)) (by rw [v2o _ (by omega) (by omega) (by omega)]; exact o2 _ (by omega) (by omega)) (by rw [v2o _ (by omega) (by omega) (by omega)]; exact o2 _ (by omega) (by omega)) (by rw [v2o _ (by omega) (by omega) (by omega)]; exact o2 _ (by omega) (by omega)) hcell
        · rw [e5]; exact stI_up (stI_congr hsI hcell h7) (by omega)
      · have hkp : imP k ≠ I := by
          rw [hI]
          unfold imP
          by_cases hk0 : k = 0
          · rw [if_pos hk0, if_neg (by omega)]; omega
          · rw [if_neg hk0, if_pos (by omega)]; omega
        have hkr := imP_rg k
        obtain ⟨g1, g2, g3, g4⟩ := a6.2 k k0 k1
        have hcell2 : ∀ j : Int, 0 ≤ j → j < 48 → V2 139 (48 * k + j) = V 139 (48 * k + j) := fun j j0 j1 => by
          rw [v139, iup_n (by omega)]
          unfold icp
          rw [if_neg (by omega)]
        rw [v2x (imP k) (by omega) (by omega) (by omega) (by omega) (by omega), v140, iup_n hk]
        refine ⟨g1, ?_, g3, fun hk1 => ?_⟩
        · rw [hcell2 47 (by omega) (by omega)]; exact g2
        · obtain ⟨f1, f2⟩ := g4 hk1
          rw [e5]
          exact ⟨SRn_congr f1 f2 h7 (v2x _ (by omega) (by omega) (by omega) (by omega) (by omega)) (v2x _ (by omega) (by omega) (by omega) (by omega) (by omega)) (v2x _ (by omega) (by omega) (by omega) (by omega) (by omega)) (v2x _ (by omega) (by omega) (by omega) (by omega) (by omega)) (fun j j0 j1 => hcell2 j j0 (by omega)), stI_up (stI_congr f2 (fun j j0 j1 => hcell2 j j0 (by omega)) h7) (by omega)⟩
  · have hx1 := (hx.resolve_right (fun z => hi z.1)).2
    have hm1 := (hm.resolve_right (fun z => hi z.1)).2
    rw [hm1.2, hx1.2]
    exact ⟨by rw [hm1.1, hx1.1], RR_up h hn⟩
end

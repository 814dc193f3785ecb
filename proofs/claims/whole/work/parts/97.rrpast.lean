/-! ===== what can be undone, on both sides ===== -/
section
variable {V V' : Nat → Int → Int} {b : Bool} {n : Int} {Y N : Int → Int} {m : Int}
/-- p is in V' what q is in V -/
def cpS (V V' : Nat → Int → Int) (p q : Nat) : Prop := (∀ j : Int, 0 ≤ j → j < 35 → V' (p + 1) j = V (q + 1) j) ∧ (∀ j : Int, 0 ≤ j → j < 5 → V' (p + 2) j = V (q + 2) j ∧ V' (p + 3) j = V (q + 3) j) ∧ (V' p 3 = V q 3 ∧ V' p 4 = V q 4 ∧ V' p 5 = V q 5)
theorem SRn_cp {p q : Nat} (hc : cpS V V' p q) (h : SRn V q N) (hI : stI Y N m) (h7 : Y 5 ≤ 7) : SRn V' p N := by
  have hcc := stI_c hI h7
  have hn0 := hI.1.1
  have hc0 := hcc 0 (by omega) (by omega)
  obtain ⟨c1, c2, c3⟩ := hc
  obtain ⟨s1, s2, s3, s4, s5⟩ := h
  refine ⟨?_, ?_, fun r r0 r4 => ?_, fun r i r0 r4 i0 i1 => ?_, fun i i0 i1 => ?_⟩
  · rw [c3.1, c3.2.1, c3.2.2]; exact s1
  · rw [(c2 4 (by omega) (by omega)).1]; exact s2
  · rw [(c2 r r0 (by omega)).1, (c2 r r0 (by omega)).2]; exact s3 r r0 r4
  · have := hcc r r0 r4
    rw [c1 _ (by omega) (by omega)]; exact s4 r i r0 r4 i0 i1
  · rw [c1 _ (by omega) (by omega)]; exact s5 i i0 i1
theorem cp_bcm {p q : Nat} (hpq : p + 3 < q ∨ q + 3 < p) : cpS V (bcm V p q) p q := by
  unfold bcm
  have ic : ∀ (f g : Int → Int) (z : Int) (j : Int), 0 ≤ j → j < z → icp f g 0 0 z j = f j := fun f g z j h0 h1 => by
    unfold icp
    rw [if_pos (by omega)]
    congr 1
    omega
  refine ⟨fun j j0 j1 => ?_, fun j j0 j1 => ⟨?_, ?_⟩, ?_, ?_, ?_⟩
  · rw [vst_o (by omega), vst_o (by omega), vst_o (by omega), zup_n _ _ (by omega), zup_n _ _ (by omega), zup_s]
    exact ic _ _ _ j j0 j1
  · rw [vst_o (by omega), vst_o (by omega), vst_o (by omega), zup_n _ _ (by omega), zup_s]
    exact ic _ _ _ j j0 j1
  · rw [vst_o (by omega), vst_o (by omega), vst_o (by omega), zup_s]
    exact ic _ _ _ j j0 j1
  · rw [vst_n (by decide), vst_n (by decide), vst_s]
  · rw [vst_n (by decide), vst_s]
  · rw [vst_s]
theorem gS_bcm {p q : Nat} (hp : gSt V p) (hq : gSt V q) : gSt (bcm V p q) p := by
  obtain ⟨p1, p2, p3⟩ := hp
  obtain ⟨q1, q2, q3⟩ := hq
  unfold gSt bcm
  rw [vst_o (by omega), vst_o (by omega), vst_o (by omega), vst_o (by omega), vst_o (by omega), vst_o (by omega), vst_o (by omega), vst_o (by omega), vst_o (by omega), zup_n _ _ (show p + 2 ≠ p + 3 by omega), zup_s, zup_n _ _ (show p + 1 ≠ p + 3 by omega), zup_n _ _ (show p + 1 ≠ p + 2 by omega), zup_s, zup_s]
  exact ⟨icp_le q1 p1, icp_le q2 p2, icp_le q3 p3⟩
/-- what is remembered: by the places that remembering changes -/
def rmP (V V' : Nat → Int → Int) : Prop := V' 7 1 = min (V 7 1 + 1) 20 ∧ V' 7 2 = nw1 V ∧ cpS V V' (rgp (nw1 V)) 3 ∧ (∀ a : Nat, 9 ≤ a → a ≤ 88 → (a < rgp (nw1 V) ∨ rgp (nw1 V) + 3 < a) → V' a = V a) ∧ V' 134 4 = min (V 134 4 + 1) 20 ∧ V' 138 = pastM (V 138) (V 137) (V 134 4) ∧ V' 135 = V 135
theorem rrP_rem (h : rrP V n) (hN : rrN V n) (h7 : V 135 5 ≤ 7) (hm : rmP V V') : rrP V' n := by
  obtain ⟨h1, h2, h3, h4⟩ := h
  obtain ⟨m1, m2, m3, m4, m5, m6, m7⟩ := hm
  have hnw : 0 ≤ nw1 V ∧ nw1 V < 20 := by unfold nw1; omega
  have hnw' : nw1 V = (V 7 2 + 1) % 20 := rfl
  refine ⟨by rw [m1, m5, h1], by rw [m1]; omega, by rw [m2]; exact hnw, fun k k0 k1 => ?_⟩
  rw [m1] at k1
  rw [m7]
  have hst : ∀ (k : Int), 0 ≤ k → k < V 7 1 → (rgk V k < rgp (nw1 V) ∨ rgp (nw1 V) < rgk V k) → ∀ N' : Int → Int, (∀ j : Int, 0 ≤ j → j < 47 → N' j = blk (V 138) 47 k j) → SRn V' (rgk V k) N' ∧ stI (V 135) N' (60 * n) := fun k k0 k1 hne N' hN' => by
    obtain ⟨g1, g2⟩ := h4 k k0 k1
    have hr := rgk_rg (V := V) h3 h2 k
    have hmod : rgk V k + 3 < rgp (nw1 V) ∨ rgp (nw1 V) + 3 < rgk V k := by unfold rgk rgp at *; omega
    exact ⟨SRn_congr g1 g2 h7 (m4 _ (by omega) (by omega) (by omega)) (m4 _ (by omega) (by omega) (by omega)) (m4 _ (by omega) (by omega) (by omega)) (m4 _ (by omega) (by omega) (by omega)) hN', stI_congr g2 hN' h7⟩
  have hnow : ∀ N' : Int → Int, (∀ j : Int, 0 ≤ j → j < 47 → N' j = V 137 j) → SRn V' (rgp (nw1 V)) N' ∧ stI (V 135) N' (60 * n) := fun N' hN' => by
    obtain ⟨g1, g2⟩ := hN
    have g3 := SRn_cp m3 g1 g2 h7
    exact ⟨SRn_congr g3 g2 h7 rfl rfl rfl rfl hN', stI_congr g2 hN' h7⟩
  by_cases hc : V 7 1 = 20
  · have e138 : V' 138 = icp (V 137) (icp (V 138) (V 138) 47 0 893) 0 893 47 := by rw [m6]; unfold pastM; rw [if_pos (by omega)]
    by_cases hk : k = 19
    · have hslot : rgk V' k = rgp (nw1 V) := by
        unfold rgk
        rw [m1, m2]
        congr 1
        omega
      rw [hslot]
      refine hnow _ (fun j j0 j1 => ?_)
      unfold blk
      rw [e138]
      unfold icp
      rw [if_pos (by omega)]
      congr 1
      omega
    · have hslot : rgk V' k = rgk V (k + 1) := by
        unfold rgk
        rw [m1, m2, hnw']
        congr 1
        omega
      rw [hslot]
      refine hst (k + 1) (by omega) (by omega) ?_ _ (fun j j0 j1 => ?_)
      · unfold rgk rgp; rw [hnw']; omega
      · unfold blk
        rw [e138]
        unfold icp
        rw [if_neg (by omega), if_pos (by omega)]
        congr 1
        omega
  · have e138 : V' 138 = icp (V 137) (V 138) 0 (47 * V 134 4) 47 := by rw [m6]; unfold pastM; rw [if_neg (by omega)]
    rw [← h1] at e138
    by_cases hk : k = V 7 1
    · have hslot : rgk V' k = rgp (nw1 V) := by
        unfold rgk
        rw [m1, m2]
        congr 1
        omega
      rw [hslot]
      refine hnow _ (fun j j0 j1 => ?_)
      unfold blk
      rw [e138, hk]
      unfold icp
      rw [if_pos (by omega)]
      congr 1
      omega
    · have hslot : rgk V' k = rgk V k := by
        unfold rgk
        rw [m1, m2, hnw']
        congr 1
        omega
      rw [hslot]
      refine hst k k0 (by omega) ?_ _ (fun j j0 j1 => ?_)
      · unfold rgk rgp; rw [hnw']; omega
      · unfold blk
        rw [e138]
        unfold icp
        rw [if_neg (by omega)]
theorem rgp_rg {i : Int} (h : 0 ≤ i ∧ i < 20) : 9 ≤ rgp i ∧ rgp i ≤ 85 := by unfold rgp; omega
/-- GrudgeYard's remembering -/
theorem rem1_m (h2 : 0 ≤ V 7 2 ∧ V 7 2 < 20) : rem1 V 7 1 = min (V 7 1 + 1) 20 ∧ rem1 V 7 2 = nw1 V ∧ cpS V (rem1 V) (rgp (nw1 V)) 3 ∧ (∀ a : Nat, a ≠ 7 → (a < rgp (nw1 V) ∨ rgp (nw1 V) + 3 < a) → rem1 V a = V a) := by
  have hnw : 0 ≤ nw1 V ∧ nw1 V < 20 := by unfold nw1; omega
  have hr := rgp_rg hnw
  have hcp := cp_bcm (V := vst V 7 2 (nw1 V)) (p := rgp (nw1 V)) (q := 3) (by omega)
  refine ⟨?_, ?_, ⟨fun j j0 j1 => ?_, fun j j0 j1 => ?_, ?_⟩, fun a a7 ha => ?_⟩
  · unfold rem1; rw [vst_s]
  · unfold rem1; rw [vst_n (by decide), bcm_o (by omega) (by omega) (by omega) (by omega), vst_s]
  · unfold rem1
    rw [vst_o (by omega), hcp.1 j j0 j1, vst_o (by decide)]
  · unfold rem1
    rw [vst_o (by omega), vst_o (by omega), (hcp.2.1 j j0 j1).1, (hcp.2.1 j j0 j1).2, vst_o (by decide), vst_o (by decide)]
    exact ⟨rfl, rfl⟩
  · unfold rem1
    rw [vst_o (by omega), hcp.2.2.1, hcp.2.2.2.1, hcp.2.2.2.2, vst_o (by decide)]
    exact ⟨rfl, rfl, rfl⟩
  · unfold rem1
    rw [vst_o a7, bcm_o (by omega) (by omega) (by omega) (by omega), vst_o a7]
theorem rem1_G (h2 : 0 ≤ V 7 2 ∧ V 7 2 < 20) (hG : rrG V) : rrG (rem1 V) := by
  have hnw : 0 ≤ nw1 V ∧ nw1 V < 20 := by unfold nw1; omega
  have hr := rgp_rg hnw
  intro s hs
  have hsr := isS_rg hs
  by_cases he : s = rgp (nw1 V)
  · rw [he]
    have g1 : gSt (vst V 7 2 (nw1 V)) (rgp (nw1 V)) := by
      have := hG _ (rgp_S hnw)
      unfold gSt at *
      rw [vst_o (by omega), vst_o (by omega), vst_o (by omega)]
      exact this
    have g2 : gSt (vst V 7 2 (nw1 V)) 3 := by
      have := hG 3 (by unfold isS; decide)
      unfold gSt at *
      rw [vst_o (by decide), vst_o (by decide), vst_o (by decide)]
      exact this
    have g3 := gS_bcm g1 g2
    unfold gSt rem1 at *
    rw [vst_o (by omega), vst_o (by omega), vst_o (by omega)]
    exact g3
  · have hd : s + 3 < rgp (nw1 V) ∨ rgp (nw1 V) + 3 < s := by
      have h4 : ∀ t : Nat, isS t → 9 ≤ t → t ≤ 85 → t % 4 = 1 := by
        intro t ht h9 h85
        unfold isS at ht
        simp only [List.mem_cons, List.not_mem_nil, or_false] at ht
        omega
      have hp4 : rgp (nw1 V) % 4 = 1 := by unfold rgp; omega
      rcases hsr with h | h | h | h
      · omega
      · have := h4 s hs h.1 h.2
        omega
      · omega
      · omega
    have hh := hG s hs
    have hm := (rem1_m h2).2.2.2
    unfold gSt at *
    rw [hm (s + 1) (by omega) (by omega), hm (s + 2) (by omega) (by omega), hm (s + 3) (by omega) (by omega)]
    exact hh
end

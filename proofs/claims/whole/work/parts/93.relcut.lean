/-! ===== a cut, a pull, on both sides ===== -/
section
variable {Y N : Int → Int} {m k r : Int}
/-- cells of the model's stand after a cut -/
theorem cutN_z : cutN Y N k r 0 = N 0 - k := by
  unfold cutN L2
  rw [iup_n (by omega), iup_n (by omega), if_pos rfl]
theorem cutN_hh {j : Int} (h0 : 1 ≤ j) (h1 : j < 1 + (N 0 - k)) (h8 : j < 8) : cutN Y N k r j = N (j + k) := by
  unfold cutN L2
  rw [iup_n (by omega), iup_n (by omega), if_neg (by omega), if_pos (by omega)]
theorem cutN_L {j : Int} (h0 : 1 + (N 0 - k) ≤ j) (h2 : 1 ≤ j) (h1 : j ≠ 44) (h3 : j ≠ 45) : cutN Y N k r j = L1 Y N r k.toNat j := by
  unfold cutN L2
  rw [iup_n h3, iup_n h1, if_neg (by omega), if_neg (by omega)]
theorem cutN_o {j : Int} (h0 : 1 + (N 0 - k) ≤ j) (h2 : 1 ≤ j) (h1 : j ≠ 44) (h3 : j ≠ 45) (h4 : j ≠ 8 + r) (h5 : j < 12 + 7 * r + N (8 + r) ∨ 12 + 7 * r + N (8 + r) + k ≤ j) (hk : 0 ≤ k) (h6 : j ≠ 46) : cutN Y N k r j = N j := by
  rw [cutN_L h0 h2 h1 h3]
  unfold L1
  rw [if_neg h4, if_neg (by omega), if_neg h6]
theorem cutN_c (h0 : 1 + (N 0 - k) ≤ 8 + r) (hr : 0 ≤ r) (h4 : r < 4) (hk : 0 ≤ k) : cutN Y N k r (8 + r) = N (8 + r) + k := by
  rw [cutN_L h0 (by omega) (by omega) (by omega)]
  unfold L1
  rw [if_pos rfl]
  omega
theorem cutN_w {j : Int} (h0 : 1 + (N 0 - k) ≤ j) (hj : 12 + 7 * r + N (8 + r) ≤ j) (hj1 : j < 12 + 7 * r + N (8 + r) + k) (h1 : j < 44) (hr : 0 ≤ r) (h4 : r < 4) (hn : 0 ≤ N (8 + r)) : cutN Y N k r j = N (1 + (j - (12 + 7 * r + N (8 + r)))) := by
  rw [cutN_L h0 (by omega) (by omega) (by omega)]
  unfold L1
  rw [if_neg (by omega), if_pos (by omega)]
theorem cutN_q4 : cutN Y N k r 44 = N 44 + 1 := by unfold cutN; rw [iup_n (by omega), iup_s]
theorem cutN_q5 : cutN Y N k r 45 = N 45 + Kc Y N r k.toNat := by unfold cutN; rw [iup_s]
theorem cutN_q6 (h0 : 1 + (N 0 - k) ≤ 46) (hr : 0 ≤ r) (h4 : r < 4) (hn : 12 + 7 * r + N (8 + r) + k ≤ 46) (hk : 0 ≤ k) : cutN Y N k r 46 = Fc Y N r k.toNat := by
  rw [cutN_L h0 (by omega) (by omega) (by omega)]
  unfold L1
  rw [if_neg (by omega), if_neg (by omega), if_pos rfl]
theorem Fc_rgI (hI : stI Y N m) (h7 : Y 5 ≤ 7) (hr : 0 ≤ r) (h4 : r < 4) : ∀ i : Nat, (i : Int) ≤ N 0 → -1 ≤ Fc Y N r i ∧ Fc Y N r i ≤ 66 := by
  have hc := stI_c hI h7 r hr h4
  obtain ⟨h1, h2, h3, h4', h5, h6, h7', h8, h9⟩ := hI
  intro i
  induction i with
  | zero => intro _; exact h5
  | succ i ih =>
    intro hi
    have ih := ih (by omega)
    unfold Fc
    split
    · rename_i hh
      have hex : 0 < i ∨ 0 < N (8 + r) := by
        by_cases hx : 0 < i ∨ 0 < N (8 + r)
        · exact hx
        · exfalso; apply hh.1; unfold ckM; rw [if_neg hx]
      have hp : 0 ≤ pvM N r i ∧ pvM N r i ≤ 6 := by
        unfold pvM
        split
        · exact h3.2 _ (by omega) (by omega)
        · exact h3.1 _ (by omega) (by omega)
      have hw := h3.1 (1 + i) (by omega) (by omega)
      omega
    · exact ih
/-- whoever stands after the cut stood before it -/
theorem cut_map (hI : stI Y N m) (h7 : Y 5 ≤ 7) (hr : 0 ≤ r) (h4 : r < 4) (hk : 0 ≤ k) (hk0 : k ≤ N 0) (hkr : N (8 + r) + k ≤ 7) {l i : Int} (l0 : 0 ≤ l) (l4 : l ≤ 4) (i0 : 0 ≤ i) (i1 : i < lcN (cutN Y N k r) l) : ∃ L I : Int, 0 ≤ L ∧ L ≤ 4 ∧ 0 ≤ I ∧ I < lcN N L ∧ laN (cutN Y N k r) l i = laN N L I ∧ ((l = 4 ∧ L = 4 ∧ I = i + k) ∨ (l = r ∧ i < N (8 + r) ∧ L = r ∧ I = i) ∨ (l = r ∧ N (8 + r) ≤ i ∧ i < N (8 + r) + k ∧ L = 4 ∧ I = i - N (8 + r)) ∨ (l ≠ 4 ∧ l ≠ r ∧ L = l ∧ I = i)) := by
  have hc := stI_c hI h7
  have hcr := hc r hr h4
  by_cases hl4 : l = 4
  · rw [hl4, lcN_4, cutN_z] at i1
    refine ⟨4, i + k, by omega, by omega, by omega, by rw [lcN_4]; omega, ?_, Or.inl ⟨hl4, rfl, rfl⟩⟩
    rw [hl4, laN_4, laN_4, cutN_hh (by omega) (by omega) (by omega)]
    congr 1
    omega
  · by_cases hlr : l = r
    · rw [hlr, lcN_r (by omega), cutN_c (by omega) hr h4 hk] at i1
      by_cases hin : i < N (8 + r)
      · refine ⟨r, i, hr, by omega, i0, by rw [lcN_r (by omega)]; exact hin, ?_, Or.inr (Or.inl ⟨hlr, hin, rfl, rfl⟩)⟩
        rw [hlr, laN_r (by omega), laN_r (by omega), cutN_o (by omega) (by omega) (by omega) (by omega) (by omega) (by omega) hk (by omega)]
      · refine ⟨4, i - N (8 + r), by omega, by omega, by omega, by rw [lcN_4]; omega, ?_, Or.inr (Or.inr (Or.inl ⟨hlr, by omega, i1, rfl, rfl⟩))⟩
        rw [hlr, laN_r (by omega), laN_4, cutN_w (by omega) (by omega) (by omega) (by omega) hr h4 hcr.1]
        congr 1
        omega
    · have hcl := hc l l0 (by omega)
      rw [lcN_r hl4, cutN_o (by omega) (by omega) (by omega) (by omega) (by omega) (by omega) hk (by omega)] at i1
      refine ⟨l, i, l0, l4, i0, by rw [lcN_r hl4]; exact i1, ?_, Or.inr (Or.inr (Or.inr ⟨hl4, hlr, rfl, rfl⟩))⟩
      rw [laN_r hl4, laN_r hl4, cutN_o (by omega) (by omega) (by omega) (by omega) (by omega) (by omega) hk (by omega)]
theorem cut_stI (hI : stI Y N m) (h7 : Y 5 ≤ 7) (hr : 0 ≤ r) (hrY : r < Y 0) (hY4 : Y 0 ≤ 4) (hk : 0 ≤ k) (hk7 : k ≤ 7) (hk0 : k ≤ N 0) (hkr : N (8 + r) + k ≤ Y (1 + r)) (hY7 : Y (1 + r) ≤ 7) {m' : Int} (hm1 : m + 1 ≤ m') (hm2 : m + k ≤ m') : stI Y (cutN Y N k r) m' := by
  have hc := stI_c hI h7
  have hmap := fun (l i : Int) => cut_map (l := l) (i := i) hI h7 hr (show r < 4 by omega) hk hk0 (by omega)
  have hF := Fc_rgI hI h7 hr (show r < 4 by omega) k.toNat (by omega)
  have hK := Kc_rg Y N r k.toNat
  obtain ⟨h1, h2, h3, h4, h5, h6, h7', h8, h9⟩ := id hI
  have hcr := hc r hr (by omega)
  have cc : ∀ s : Int, 0 ≤ s → s < 4 → cutN Y N k r (8 + s) = if s = r then N (8 + r) + k else N (8 + s) := fun s s0 s1 => by
    by_cases hs : s = r
    · rw [if_pos hs, hs, cutN_c (by omega) hr (by omega) hk]
    · rw [if_neg hs, cutN_o (by omega) (by omega) (by omega) (by omega) (by omega) (by omega) hk (by omega)]
  refine ⟨⟨by rw [cutN_z]; omega, fun s s0 s1 => ?_⟩, ?_, ⟨fun i i0 i1 => ?_, fun i i0 i1 => ?_⟩, fun i i0 i1 => ?_, ?_, fun s s0 s1 => ?_, ?_, ?_, ?_⟩
  · rw [cc s s0 s1]
    have := h1.2 s s0 s1
    split <;> omega
  · have e0 := cc 0 (by omega) (by omega)
    have e1 := cc 1 (by omega) (by omega)
    have e2 := cc 2 (by omega) (by omega)
    have e3 := cc 3 (by omega) (by omega)
    simp only [Int.reduceAdd] at e0 e1 e2 e3
    unfold totN at h2 ⊢
    rw [cutN_z, e0, e1, e2, e3]
    have hc : r = 0 ∨ r = 1 ∨ r = 2 ∨ r = 3 := by omega
    rcases hc with hc | hc | hc | hc <;> rw [hc] <;> simp <;> omega
  · by_cases hh : i < 1 + (N 0 - k)
    · rw [cutN_hh i0 hh i1]
      exact h3.1 _ (by omega) (by have := hc 0 (by omega) (by omega); omega)
    · rw [cutN_o (by omega) i0 (by omega) (by omega) (by omega) (by omega) hk (by omega)]
      exact h3.1 i i0 i1
  · have := hc 0 (by omega) (by omega)
    by_cases hw : 12 + 7 * r + N (8 + r) ≤ i ∧ i < 12 + 7 * r + N (8 + r) + k
    · rw [cutN_w (by omega) hw.1 hw.2 (by omega) hr (by omega) hcr.1]
      exact h3.1 _ (by omega) (by omega)
    · rw [cutN_o (by omega) (by omega) (by omega) (by omega) (by omega) (by omega) hk (by omega)]
      exact h3.2 i i0 i1
  · have := hc 0 (by omega) (by omega)
    rw [cutN_o (by omega) (by omega) (by omega) (by omega) (by omega) (by omega) hk (by omega)]
    exact h4 i i0 i1
  · have := hc 0 (by omega) (by omega)
    rw [cutN_q6 (by omega) hr (by omega) (by omega) hk]
    exact hF
  · rw [cc s s0 s1]
    have := h6 s s0 s1
    by_cases hs : s = r
    · rw [if_pos hs, hs]
      exact ⟨fun _ => hkr, fun h => by omega⟩
    · rw [if_neg hs]; exact this
  · intro l i l0 l4 i0 i1
    obtain ⟨L, I, q1, q2, q3, q4, q5, _⟩ := hmap l i l0 l4 i0 i1
    rw [q5]
    exact h7' L I q1 q2 q3 q4
  · intro l i l' i' l0 l4 l0' l4' i0 i1 i0' i1' he
    obtain ⟨L, I, q1, q2, q3, q4, q5, q6⟩ := hmap l i l0 l4 i0 i1
    obtain ⟨L', I', p1, p2, p3, p4, p5, p6⟩ := hmap l' i' l0' l4' i0' i1'
    rw [q5, p5] at he
    have := h8 L I L' I' q1 q2 p1 p2 q3 q4 p3 p4 he
    omega
  · rw [cutN_q4, cutN_q5]
    omega
/-- cells after a pull -/
theorem pulN_0 : pulN N r 0 = N 0 + N (8 + r) := by unfold pulN; rw [if_pos rfl]
theorem pulN_a {j : Int} (h0 : 1 ≤ j) (h1 : j < 1 + N (8 + r)) : pulN N r j = N (12 + 7 * r + N (8 + r) - 1 - (j - 1)) := by unfold pulN; rw [if_neg (by omega), if_pos ⟨h0, h1⟩]
theorem pulN_b {j : Int} (h0 : 1 + N (8 + r) ≤ j) (h1 : j < 1 + N (8 + r) + N 0) (hn : 0 ≤ N (8 + r)) : pulN N r j = N (j - N (8 + r)) := by unfold pulN; rw [if_neg (by omega), if_neg (by omega), if_pos ⟨h0, h1⟩]
theorem pulN_o {j : Int} (h0 : 1 + N (8 + r) + N 0 ≤ j) (hn : 0 ≤ N (8 + r)) (hn0 : 0 ≤ N 0) (h1 : j ≠ 8 + r) (h2 : j ≠ 40 + r) : pulN N r j = N j := by unfold pulN; rw [if_neg (by omega), if_neg (by omega), if_neg (by omega), if_neg h1, if_neg h2]
theorem pulN_c (h0 : 1 + N (8 + r) + N 0 ≤ 8 + r) (hn : 0 ≤ N (8 + r)) (hn0 : 0 ≤ N 0) : pulN N r (8 + r) = 0 := by unfold pulN; rw [if_neg (by omega), if_neg (by omega), if_neg (by omega), if_pos rfl]
theorem pulN_p (h0 : 1 + N (8 + r) + N 0 ≤ 40 + r) (hn : 0 ≤ N (8 + r)) (hn0 : 0 ≤ N 0) : pulN N r (40 + r) = 0 := by unfold pulN; rw [if_neg (by omega), if_neg (by omega), if_neg (by omega), if_neg (by omega), if_pos rfl]
theorem pul_map (hI : stI Y N m) (h7 : Y 5 ≤ 7) (hr : 0 ≤ r) (h4 : r < 4) {l i : Int} (l0 : 0 ≤ l) (l4 : l ≤ 4) (i0 : 0 ≤ i) (i1 : i < lcN (pulN N r) l) : ∃ L I : Int, 0 ≤ L ∧ L ≤ 4 ∧ 0 ≤ I ∧ I < lcN N L ∧ laN (pulN N r) l i = laN N L I ∧ ((l = 4 ∧ i < N (8 + r) ∧ L = r ∧ I = N (8 + r) - 1 - i) ∨ (l = 4 ∧ N (8 + r) ≤ i ∧ L = 4 ∧ I = i - N (8 + r)) ∨ (l ≠ 4 ∧ l ≠ r ∧ L = l ∧ I = i)) := by
  have hc := stI_c hI h7
  have hcr := hc r hr h4
  have hn0 : 0 ≤ N 0 := hI.1.1
  by_cases hl4 : l = 4
  · rw [hl4, lcN_4, pulN_0] at i1
    by_cases hin : i < N (8 + r)
    · refine ⟨r, N (8 + r) - 1 - i, hr, by omega, by omega, by rw [lcN_r (by omega)]; omega, ?_, Or.inl ⟨hl4, hin, rfl, rfl⟩⟩
      rw [hl4, laN_4, laN_r (by omega), pulN_a (by omega) (by omega)]
      congr 1
      omega
    · refine ⟨4, i - N (8 + r), by omega, by omega, by omega, by rw [lcN_4]; omega, ?_, Or.inr (Or.inl ⟨hl4, by omega, rfl, rfl⟩)⟩
      rw [hl4, laN_4, laN_4, pulN_b (by omega) (by omega) hcr.1]
      congr 1
      omega
  · by_cases hlr : l = r
    · exfalso
      rw [hlr, lcN_r (by omega), pulN_c (by omega) hcr.1 hn0] at i1
      omega
    · have hcl := hc l l0 (by omega)
      rw [lcN_r hl4, pulN_o (by omega) hcr.1 hn0 (by omega) (by omega)] at i1
      refine ⟨l, i, l0, l4, i0, by rw [lcN_r hl4]; exact i1, ?_, Or.inr (Or.inr ⟨hl4, hlr, rfl, rfl⟩)⟩
      rw [laN_r hl4, laN_r hl4, pulN_o (by omega) hcr.1 hn0 (by omega) (by omega)]
theorem pul_stI (hI : stI Y N m) (h7 : Y 5 ≤ 7) (hr : 0 ≤ r) (h4 : r < 4) (hYr : ∀ s : Int, 0 ≤ s → s < Y 0 → 0 ≤ Y (1 + s)) : stI Y (pulN N r) m := by
  have hc := stI_c hI h7
  have hmap := fun (l i : Int) => pul_map (l := l) (i := i) hI h7 hr h4
  obtain ⟨h1, h2, h3, h4', h5, h6, h7', h8, h9⟩ := id hI
  have hcr := hc r hr h4
  have cc : ∀ s : Int, 0 ≤ s → s < 4 → pulN N r (8 + s) = if s = r then 0 else N (8 + s) := fun s s0 s1 => by
    by_cases hs : s = r
    · rw [if_pos hs, hs, pulN_c (by omega) hcr.1 h1.1]
    · rw [if_neg hs, pulN_o (by omega) hcr.1 h1.1 (by omega) (by omega)]
  refine ⟨⟨by rw [pulN_0]; omega, fun s s0 s1 => ?_⟩, ?_, ⟨fun i i0 i1 => ?_, fun i i0 i1 => ?_⟩, fun i i0 i1 => ?_, ?_, fun s s0 s1 => ?_, ?_, ?_, ?_⟩
  · rw [cc s s0 s1]
    have := h1.2 s s0 s1
    split <;> omega
  · have e0 := cc 0 (by omega) (by omega)
    have e1 := cc 1 (by omega) (by omega)
    have e2 := cc 2 (by omega) (by omega)
    have e3 := cc 3 (by omega) (by omega)
    simp only [Int.reduceAdd] at e0 e1 e2 e3
    unfold totN at h2 ⊢
    rw [pulN_0, e0, e1, e2, e3]
    have hc : r = 0 ∨ r = 1 ∨ r = 2 ∨ r = 3 := by omega
    rcases hc with hc | hc | hc | hc <;> rw [hc] <;> simp <;> omega
  · by_cases ha : i < 1 + N (8 + r)
    · rw [pulN_a i0 ha]
      exact h3.2 _ (by omega) (by omega)
    · by_cases hb : i < 1 + N (8 + r) + N 0
      · rw [pulN_b (by omega) hb hcr.1]
        exact h3.1 _ (by omega) (by omega)
      · rw [pulN_o (by omega) hcr.1 h1.1 (by omega) (by omega)]
        exact h3.1 i i0 i1
  · rw [pulN_o (by omega) hcr.1 h1.1 (by omega) (by omega)]
    exact h3.2 i i0 i1
  · by_cases hp : i = 40 + r
    · rw [hp, pulN_p (by omega) hcr.1 h1.1]; omega
    · rw [pulN_o (by omega) hcr.1 h1.1 (by omega) hp]
      exact h4' i i0 i1
  · rw [pulN_o (by omega) hcr.1 h1.1 (by omega) (by omega)]
    exact h5
  · rw [cc s s0 s1]
    have := h6 s s0 s1
    by_cases hs : s = r
    · rw [if_pos hs]
      exact ⟨fun h => by have := hYr s s0 h; omega, fun _ => rfl⟩
    · rw [if_neg hs]; exact this
  · intro l i l0 l4 i0 i1
    obtain ⟨L, I, q1, q2, q3, q4, q5, _⟩ := hmap l i l0 l4 i0 i1
    rw [q5]
    exact h7' L I q1 q2 q3 q4
  · intro l i l' i' l0 l4 l0' l4' i0 i1 i0' i1' he
    obtain ⟨L, I, q1, q2, q3, q4, q5, q6⟩ := hmap l i l0 l4 i0 i1
    obtain ⟨L', I', p1, p2, p3, p4, p5, p6⟩ := hmap l' i' l0' l4' i0' i1'
    rw [q5, p5] at he
    have := h8 L I L' I' q1 q2 p1 p2 q3 q4 p3 p4 he
    omega
  · rw [pulN_o (by omega) hcr.1 h1.1 (by omega) (by omega), pulN_o (by omega) hcr.1 h1.1 (by omega) (by omega)]
    exact h9
end

/-! ===== chalk, write, tear, next, laws ===== -/
section
variable {V V' V1 V2 : Nat → Int → Int} {b : Bool} {n : Int}
theorem rr_chalk (h : RR V b n) (hn : n + 1 ≤ 64) {r i k q q' : Int} (hx : (¬ ((0 ≤ r ∧ r < V (yN b) 6) ∧ ((0 ≤ k ∧ k ≤ 4) ∨ k = 9)) ∧ q = -1000000001 ∧ V1 = V) ∨ (((0 ≤ r ∧ r < V (yN b) 6) ∧ ((0 ≤ k ∧ k ≤ 4) ∨ k = 9)) ∧ ((¬ (0 ≤ i ∧ i ≤ 6) ∧ q = -1000000002 ∧ V1 = V) ∨ ((0 ≤ i ∧ i ≤ 6) ∧ V 100 3 = 6 ∧ q = -1000000004 ∧ V1 = V) ∨ ((0 ≤ i ∧ i ≤ 6) ∧ V 100 3 < 6 ∧ q = V 100 3 + 1 ∧ V1 = adN V 100 r i k)))) (hm : (¬ ((0 ≤ r ∧ r < V1 135 0) ∧ ((0 ≤ k ∧ k ≤ 4) ∨ k = 9)) ∧ q' = -1000000001 ∧ V2 = V1) ∨ (((0 ≤ r ∧ r < V1 135 0) ∧ ((0 ≤ k ∧ k ≤ 4) ∨ k = 9)) ∧ ((¬ (0 ≤ i ∧ i ≤ 6) ∧ q' = -1000000002 ∧ V2 = V1) ∨ ((0 ≤ i ∧ i ≤ 6) ∧ V1 134 14 = 6 ∧ q' = -1000000004 ∧ V2 = V1) ∨ ((0 ≤ i ∧ i ≤ 6) ∧ V1 134 14 < 6 ∧ q' = V1 134 14 + 1 ∧ V2 = chkM V1 r i k)))) : q' = q ∧ RR V2 b (n + 1) := by
  have y1 := (RR_Y h).1
  rw [y1.1] at hx
  obtain ⟨h1, h2, h3⟩ := RR_H h
  by_cases hv : (0 ≤ r ∧ r < V 135 0) ∧ ((0 ≤ k ∧ k ≤ 4) ∨ k = 9)
  · have hx := (hx.resolve_left (fun z => z.1 hv)).2
    by_cases hi : 0 ≤ i ∧ i ≤ 6
    · by_cases hf : V 100 3 = 6
      · have hx2 := (hx.resolve_left (fun z => z.1 hi)).resolve_right (fun z => by have := z.2.1; omega)
        rw [hx2.2.2.2, ← h1] at hm
        have hm := (hm.resolve_left (fun z => z.1 hv)).2
        have hm2 := (hm.resolve_left (fun z => z.1 hi)).resolve_right (fun z => by have := z.2.1; omega)
        rw [hm2.2.2.2]
        exact ⟨by rw [hm2.2.2.1, hx2.2.2.1], RR_up h hn⟩
      · obtain ⟨_, xl, xq, xV⟩ := (hx.resolve_left (fun z => z.1 hi)).resolve_left (fun z => hf z.2.1)
        unfold adN at xV
        have o1 : ∀ a : Nat, a < 100 ∨ 103 < a → V1 a = V a := fun a ha => by rw [xV, vst_o (by omega), vst_o (by omega), vst_o (by omega), vst_o (by omega)]
        rw [o1 134 (by omega), o1 135 (by omega), ← h1] at hm
        have hm := (hm.resolve_left (fun z => z.1 hv)).2
        obtain ⟨_, _, mq, mV⟩ := (hm.resolve_left (fun z => z.1 hi)).resolve_left (fun z => hf z.2.1)
        unfold chkM at mV
        rw [o1 134 (by omega), ← h1] at mV
        refine ⟨by rw [mq, xq], ?_⟩
        have v2o : ∀ a : Nat, a ≠ 134 → a ≠ 143 → V2 a = V1 a := fun a q1 q2 => by rw [mV, vst_o q1, vst_o q2, vst_o q2, vst_o q2]
        have v2x : ∀ a : Nat, (a < 100 ∨ 103 < a) → a ≠ 134 → a ≠ 143 → V2 a = V a := fun a q0 q1 q2 => by rw [v2o a q1 q2]; exact o1 a q0
        have vj : ∀ j : Int, j ≠ 14 → V2 134 j = V 134 j := fun j hj => by rw [mV, vst_n hj, vst_o (by decide), vst_o (by decide), vst_o (by decide), o1 134 (by omega)]
        have v14 : V2 134 14 = V 100 3 + 1 := by rw [mV, vst_s]
        have w0 : V2 100 3 = V 100 3 + 1 := by rw [v2o 100 (by omega) (by omega), xV, vst_s]
        have w1 : V2 101 = iup (V 101) (V 100 3) r := by
          rw [v2o 101 (by omega) (by omega), xV, vst_o (by decide), vst_o (by decide), vst_o (by decide)]
          unfold vst; rw [zup_s]
        have w2 : V2 102 = iup (V 102) (V 100 3) i := by
          rw [v2o 102 (by omega) (by omega), xV, vst_o (by decide), vst_o (by decide)]
          show vst (vst V 101 (V 100 3) r) 102 (V 100 3) i 102 = _
          unfold vst; rw [zup_s, zup_n _ _ (by decide)]
        have w3 : V2 103 = iup (V 103) (V 100 3) k := by
          rw [v2o 103 (by omega) (by omega), xV, vst_o (by decide)]
          show vst (vst (vst V 101 (V 100 3) r) 102 (V 100 3) i) 103 (V 100 3) k 103 = _
          unfold vst; rw [zup_s, zup_n _ _ (by decide), zup_n _ _ (by decide)]
        have w43 : V2 143 = iup (iup (iup (V 143) (3 * V 100 3) r) (3 * V 100 3 + 1) i) (3 * V 100 3 + 2) k := by
          rw [mV, vst_o (by decide)]
          unfold vst
          rw [zup_s, zup_s, zup_s, o1 143 (by omega)]
        have e5 : V2 135 = V 135 := v2x 135 (by omega) (by omega) (by omega)
        have hH' : rrH V2 := by
          refine ⟨by rw [w0, v14], by rw [w0]; omega, fun j j0 j1 => ?_⟩
          rw [w0] at j1
          rw [w1, w2, w3, w43, e5]
          by_cases hj : j = V 100 3
          · rw [hj, iup_s, iup_s, iup_s, iup_n (show 3 * V 100 3 ≠ 3 * V 100 3 + 2 by omega), iup_n (show 3 * V 100 3 ≠ 3 * V 100 3 + 1 by omega), iup_s, iup_n (show 3 * V 100 3 + 1 ≠ 3 * V 100 3 + 2 by omega), iup_s, iup_s]
            exact ⟨rfl, rfl, rfl, hv.1, hi, hv.2⟩
          · have := h3 j j0 (by omega)
            rw [iup_n hj, iup_n hj, iup_n hj, iup_n (by omega), iup_n (by omega), iup_n (by omega), iup_n (by omega), iup_n (by omega), iup_n (by omega), iup_n (by omega), iup_n (by omega), iup_n (by omega)]
            exact this
        exact RR_pt h hn (fun a ha => v2x a (by omega) (by omega) (by omega)) (vj 4 (by omega)) (rrT_c (RR_T h) (by rw [v2x 1 (by omega) (by omega) (by omega)]) (by rw [v2x 1 (by omega) (by omega) (by omega)]) (v2x 2 (by omega) (by omega) (by omega)) (vj 9 (by omega)) (vj 10 (by omega)) (v2x 141 (by omega) (by omega) (by omega))) (rrS_c (RR_S h) (by rw [v2x 0 (by omega) (by omega) (by omega)]) (vj 7 (by omega))) (rrC_c (RR_C h) (v2x 99 (by omega) (by omega) (by omega)) (vj 12 (by omega)) (v2x 142 (by omega) (by omega) (by omega))) hH' (rrB_c (RR_B h) (fun a q1 q2 => v2x a (by omega) (by omega) (by omega)) (vj 16 (by omega)) (v2x 144 (by omega) (by omega) (by omega)) e5)
    · have hx1 : q = -1000000002 ∧ V1 = V := by
        rcases hx with z | z | z
        · exact z.2
        · exact absurd z.1 hi
        · exact absurd z.1 hi
      rw [hx1.2] at hm
      have hm := (hm.resolve_left (fun z => z.1 hv)).2
      have hm1 : q' = -1000000002 ∧ V2 = V := by
        rcases hm with z | z | z
        · exact z.2
        · exact absurd z.1 hi
        · exact absurd z.1 hi
      rw [hm1.2]
      exact ⟨by rw [hm1.1, hx1.1], RR_up h hn⟩
  · have hx1 := (hx.resolve_right (fun z => hv z.1)).2
    rw [hx1.2] at hm
    have hm1 := (hm.resolve_right (fun z => hv z.1)).2
    rw [hm1.2]
    exact ⟨by rw [hm1.1, hx1.1], RR_up h hn⟩
theorem rr_write (h : RR V b n) (hn : n + 1 ≤ 64) {r i k q q' : Int} (hx : (¬ ((0 ≤ r ∧ r < V (yN b) 6) ∧ (k = -1 ∨ (0 ≤ k ∧ k < V (yN b) 7))) ∧ q = -1000000001 ∧ V1 = V) ∨ (((0 ≤ r ∧ r < V (yN b) 6) ∧ (k = -1 ∨ (0 ≤ k ∧ k < V (yN b) 7))) ∧ ((¬ (0 ≤ i ∧ i ≤ 6) ∧ q = -1000000002 ∧ V1 = V) ∨ ((0 ≤ i ∧ i ≤ 6) ∧ V 104 3 = 15 ∧ q = -1000000004 ∧ V1 = V) ∨ ((0 ≤ i ∧ i ≤ 6) ∧ V 104 3 < 15 ∧ q = V 104 3 + 1 ∧ V1 = adN V 104 r i k)))) (hm : (¬ ((0 ≤ r ∧ r < V1 135 0) ∧ (k = -1 ∨ (0 ≤ k ∧ k < V1 135 5))) ∧ q' = -1000000001 ∧ V2 = V1) ∨ (((0 ≤ r ∧ r < V1 135 0) ∧ (k = -1 ∨ (0 ≤ k ∧ k < V1 135 5))) ∧ ((¬ (0 ≤ i ∧ i ≤ 6) ∧ q' = -1000000002 ∧ V2 = V1) ∨ ((0 ≤ i ∧ i ≤ 6) ∧ V1 134 16 = 15 ∧ q' = -1000000004 ∧ V2 = V1) ∨ ((0 ≤ i ∧ i ≤ 6) ∧ V1 134 16 < 15 ∧ q' = V1 134 16 + 1 ∧ V2 = bokM V1 r i k)))) : q' = q ∧ RR V2 b (n + 1) := by
  have y1 := (RR_Y h).1
  have y2 := (RR_Y h).2.1
  have h7 := RR_7 h
  rw [y1.1, y2.1] at hx
  obtain ⟨h1, h2, h3⟩ := RR_B h
  by_cases hv : (0 ≤ r ∧ r < V 135 0) ∧ (k = -1 ∨ (0 ≤ k ∧ k < V 135 5))
  · have hx := (hx.resolve_left (fun z => z.1 hv)).2
    by_cases hi : 0 ≤ i ∧ i ≤ 6
    · by_cases hf : V 104 3 = 15
      · have hx2 := (hx.resolve_left (fun z => z.1 hi)).resolve_right (fun z => by have := z.2.1; omega)
        rw [hx2.2.2.2, ← h1] at hm
        have hm := (hm.resolve_left (fun z => z.1 hv)).2
        have hm2 := (hm.resolve_left (fun z => z.1 hi)).resolve_right (fun z => by have := z.2.1; omega)
        rw [hm2.2.2.2]
        exact ⟨by rw [hm2.2.2.1, hx2.2.2.1], RR_up h hn⟩
      · obtain ⟨_, xl, xq, xV⟩ := (hx.resolve_left (fun z => z.1 hi)).resolve_left (fun z => hf z.2.1)
        unfold adN at xV
        have o1 : ∀ a : Nat, a < 104 ∨ 107 < a → V1 a = V a := fun a ha => by rw [xV, vst_o (by omega), vst_o (by omega), vst_o (by omega), vst_o (by omega)]
        rw [o1 134 (by omega), o1 135 (by omega), ← h1] at hm
        have hm := (hm.resolve_left (fun z => z.1 hv)).2
        obtain ⟨_, _, mq, mV⟩ := (hm.resolve_left (fun z => z.1 hi)).resolve_left (fun z => hf z.2.1)
        unfold bokM at mV
        rw [o1 134 (by omega), ← h1] at mV
        refine ⟨by rw [mq, xq], ?_⟩
        have v2o : ∀ a : Nat, a ≠ 134 → a ≠ 144 → V2 a = V1 a := fun a q1 q2 => by rw [mV, vst_o q1, vst_o q2, vst_o q2, vst_o q2]
        have v2x : ∀ a : Nat, (a < 104 ∨ 107 < a) → a ≠ 134 → a ≠ 144 → V2 a = V a := fun a q0 q1 q2 => by rw [v2o a q1 q2]; exact o1 a q0
        have vj : ∀ j : Int, j ≠ 16 → V2 134 j = V 134 j := fun j hj => by rw [mV, vst_n hj, vst_o (by decide), vst_o (by decide), vst_o (by decide), o1 134 (by omega)]
        have v14 : V2 134 16 = V 104 3 + 1 := by rw [mV, vst_s]
        have w0 : V2 104 3 = V 104 3 + 1 := by rw [v2o 104 (by omega) (by omega), xV, vst_s]
        have w1 : V2 105 = iup (V 105) (V 104 3) r := by
          rw [v2o 105 (by omega) (by omega), xV, vst_o (by decide), vst_o (by decide), vst_o (by decide)]
          unfold vst; rw [zup_s]
        have w2 : V2 106 = iup (V 106) (V 104 3) i := by
          rw [v2o 106 (by omega) (by omega), xV, vst_o (by decide), vst_o (by decide)]
          show vst (vst V 105 (V 104 3) r) 106 (V 104 3) i 106 = _
          unfold vst; rw [zup_s, zup_n _ _ (by decide)]
        have w3 : V2 107 = iup (V 107) (V 104 3) k := by
          rw [v2o 107 (by omega) (by omega), xV, vst_o (by decide)]
          show vst (vst (vst V 105 (V 104 3) r) 106 (V 104 3) i) 107 (V 104 3) k 107 = _
          unfold vst; rw [zup_s, zup_n _ _ (by decide), zup_n _ _ (by decide)]
        have w44 : V2 144 = iup (iup (iup (V 144) (3 * V 104 3) r) (3 * V 104 3 + 1) i) (3 * V 104 3 + 2) k := by
          rw [mV, vst_o (by decide)]
          unfold vst
          rw [zup_s, zup_s, zup_s, o1 144 (by omega)]
        have e5 : V2 135 = V 135 := v2x 135 (by omega) (by omega) (by omega)
        have hB' : rrB V2 := by
          refine ⟨by rw [w0, v14], by rw [w0]; omega, fun j j0 j1 => ?_⟩
          rw [w0] at j1
          rw [w1, w2, w3, w44, e5]
          by_cases hj : j = V 104 3
          · rw [hj, iup_s, iup_s, iup_s, iup_n (show 3 * V 104 3 ≠ 3 * V 104 3 + 2 by omega), iup_n (show 3 * V 104 3 ≠ 3 * V 104 3 + 1 by omega), iup_s, iup_n (show 3 * V 104 3 + 1 ≠ 3 * V 104 3 + 2 by omega), iup_s, iup_s]
            exact ⟨rfl, rfl, rfl, hv.1, hi, by omega⟩
          · have := h3 j j0 (by omega)
            rw [iup_n hj, iup_n hj, iup_n hj, iup_n (by omega), iup_n (by omega), iup_n (by omega), iup_n (by omega), iup_n (by omega), iup_n (by omega), iup_n (by omega), iup_n (by omega), iup_n (by omega)]
            exact this
        exact RR_pt h hn (fun a ha => v2x a (by omega) (by omega) (by omega)) (vj 4 (by omega)) (rrT_c (RR_T h) (by rw [v2x 1 (by omega) (by omega) (by omega)]) (by rw [v2x 1 (by omega) (by omega) (by omega)]) (v2x 2 (by omega) (by omega) (by omega)) (vj 9 (by omega)) (vj 10 (by omega)) (v2x 141 (by omega) (by omega) (by omega))) (rrS_c (RR_S h) (by rw [v2x 0 (by omega) (by omega) (by omega)]) (vj 7 (by omega))) (rrC_c (RR_C h) (v2x 99 (by omega) (by omega) (by omega)) (vj 12 (by omega)) (v2x 142 (by omega) (by omega) (by omega))) (rrH_c (RR_H h) (fun a q1 q2 => v2x a (by omega) (by omega) (by omega)) (vj 14 (by omega)) (v2x 143 (by omega) (by omega) (by omega)) e5) hB'
    · have hx1 : q = -1000000002 ∧ V1 = V := by
        rcases hx with z | z | z
        · exact z.2
        · exact absurd z.1 hi
        · exact absurd z.1 hi
      rw [hx1.2] at hm
      have hm := (hm.resolve_left (fun z => z.1 hv)).2
      have hm1 : q' = -1000000002 ∧ V2 = V := by
        rcases hm with z | z | z
        · exact z.2
        · exact absurd z.1 hi
        · exact absurd z.1 hi
      rw [hm1.2]
      exact ⟨by rw [hm1.1, hx1.1], RR_up h hn⟩
  · have hx1 := (hx.resolve_right (fun z => hv z.1)).2
    rw [hx1.2] at hm
    have hm1 := (hm.resolve_right (fun z => hv z.1)).2
    rw [hm1.2]
    exact ⟨by rw [hm1.1, hx1.1], RR_up h hn⟩
/-- nothing noted -/
theorem rrC_0 (h : rrC V) (e0 : V' 99 0 = 0) (e1 : V' 99 1 = 0) (e2 : V' 99 2 = 0) (e12 : V' 134 12 = 0) (e : V' 142 = V 142) : rrC V' := by
  refine ⟨by rw [e0, e12], ⟨by rw [e12]; omega, by rw [e]; exact h.2.1.2⟩, by rw [e1]; omega, by rw [e2]; omega, fun a c a0 a4 c0 c4 => ?_⟩
  rw [e1, e2, e12, tb_0]
  constructor
  · constructor
    · intro z; cases z
    · intro z; exact absurd rfl z
  · constructor
    · intro z; cases z
    · intro z; exact absurd z (by show ¬ (-1 : Int) = 1; omega)
theorem rr_tear (h : RR V b n) (hn : n + 1 ≤ 64) {q q' : Int} (hx : q = V 99 0 + V 100 3 + V 104 3 ∧ V1 = tearX V) (hm : q' = V1 134 12 + V1 134 14 + V1 134 16 ∧ V2 = vst (vst (vst V1 134 12 0) 134 14 0) 134 16 0) : q' = q ∧ RR V2 b (n + 1) := by
  obtain ⟨xq, xV⟩ := hx
  obtain ⟨mq, mV⟩ := hm
  unfold tearX at xV
  have o1 : ∀ a : Nat, a ≠ 99 → a ≠ 100 → a ≠ 104 → V1 a = V a := fun a q1 q2 q3 => by rw [xV, vst_o q3, vst_o q2, vst_o q1, vst_o q1, vst_o q1]
  have v2o : ∀ a : Nat, a ≠ 134 → V2 a = V1 a := fun a q1 => by rw [mV, vst_o q1, vst_o q1, vst_o q1]
  have v2x : ∀ a : Nat, a ≠ 99 → a ≠ 100 → a ≠ 104 → a ≠ 134 → V2 a = V a := fun a q1 q2 q3 q4 => by rw [v2o a q4]; exact o1 a q1 q2 q3
  have vj : ∀ j : Int, j ≠ 12 → j ≠ 14 → j ≠ 16 → V2 134 j = V 134 j := fun j q1 q2 q3 => by rw [mV, vst_n q3, vst_n q2, vst_n q1, o1 134 (by omega) (by omega) (by omega)]
  have c1 := (RR_C h).1
  have h1 := (RR_H h).1
  have b1 := (RR_B h).1
  refine ⟨by rw [mq, xq, o1 134 (by omega) (by omega) (by omega), c1, h1, b1], ?_⟩
  have e12 : V2 134 12 = 0 := by rw [mV, vst_n (by decide), vst_n (by decide), vst_s]
  have e14 : V2 134 14 = 0 := by rw [mV, vst_n (by decide), vst_s]
  have e16 : V2 134 16 = 0 := by rw [mV, vst_s]
  have x0 : V2 99 0 = 0 := by rw [v2o 99 (by omega), xV, vst_o (by decide), vst_o (by decide), vst_n (by decide), vst_n (by decide), vst_s]
  have x1 : V2 99 1 = 0 := by rw [v2o 99 (by omega), xV, vst_o (by decide), vst_o (by decide), vst_n (by decide), vst_s]
  have x2 : V2 99 2 = 0 := by rw [v2o 99 (by omega), xV, vst_o (by decide), vst_o (by decide), vst_s]
  have x3 : V2 100 3 = 0 := by rw [v2o 100 (by omega), xV, vst_o (by decide), vst_s]
  have x4 : V2 104 3 = 0 := by rw [v2o 104 (by omega), xV, vst_s]
  exact RR_pt h hn (fun a ha => v2x a (by omega) (by omega) (by omega) (by omega)) (vj 4 (by omega) (by omega) (by omega)) (rrT_c (RR_T h) (by rw [v2x 1 (by omega) (by omega) (by omega) (by omega)]) (by rw [v2x 1 (by omega) (by omega) (by omega) (by omega)]) (v2x 2 (by omega) (by omega) (by omega) (by omega)) (vj 9 (by omega) (by omega) (by omega)) (vj 10 (by omega) (by omega) (by omega)) (v2x 141 (by omega) (by omega) (by omega) (by omega))) (rrS_c (RR_S h) (by rw [v2x 0 (by omega) (by omega) (by omega) (by omega)]) (vj 7 (by omega) (by omega) (by omega))) (rrC_0 (RR_C h) x0 x1 x2 e12 (v2x 142 (by omega) (by omega) (by omega) (by omega))) ⟨by rw [x3, e14], by rw [x3]; omega, fun k k0 k1 => by rw [x3] at k1; omega⟩ ⟨by rw [x4, e16], by rw [x4]; omega, fun k k0 k1 => by rw [x4] at k1; omega⟩
theorem rr_next (h : RR V b n) {q q' : Int} (hx : fuP (V 99 1) q) (hm : fnP (V 142) (V 134 12).toNat q') : q' = q := by
  obtain ⟨c1, c2, c3, c4, c5⟩ := RR_C h
  have key : ∀ a c : Int, 0 ≤ a → a < 4 → 0 ≤ c → c < 4 → (tb (V 99 1) (a * 5 + c) = true ↔ trM (V 142) a c (V 134 12).toNat ≠ -1) := fun a c a0 a4 c0 c4' => (c5 a c a0 (by omega) c0 (by omega)).1
  have keyf : ∀ a c : Int, 0 ≤ a → a < 4 → 0 ≤ c → c < 4 → tb (V 99 1) (a * 5 + c) = false → trM (V 142) a c (V 134 12).toNat = -1 := fun a c a0 a4 c0 c4' hf => by
    by_cases ht : trM (V 142) a c (V 134 12).toNat = -1
    · exact ht
    · have := (key a c a0 a4 c0 c4').2 ht
      rw [hf] at this
      cases this
  rcases hx with ⟨a, c, a0, a4, c0, c4', x1, x2, x3⟩ | ⟨x1, x2⟩
  · rcases hm with ⟨a', c', b0, b4, d0, d4, m1, m2, m3⟩ | ⟨m1, m2⟩
    · have hle : ¬ (a' < a ∨ (a' = a ∧ c' < c)) := fun hlt => by
        have := x2 a' c' b0 b4 d0 d4 hlt
        exact (key a' c' b0 b4 d0 d4).1 this m1
      have hge : ¬ (a < a' ∨ (a = a' ∧ c < c')) := fun hlt => m2 a c a0 a4 c0 c4' hlt (keyf a c a0 a4 c0 c4' x1)
      have : a = a' ∧ c = c' := by omega
      omega
    · exact absurd (keyf a c a0 a4 c0 c4' x1) (m1 a c a0 a4 c0 c4')
  · rcases hm with ⟨a', c', b0, b4, d0, d4, m1, m2, m3⟩ | ⟨m1, m2⟩
    · exact absurd m1 ((key a' c' b0 b4 d0 d4).1 (x1 a' c' b0 b4 d0 d4))
    · omega
/-! sums over the pairs -/
def smP (f : Nat → Int) : Nat → Int
  | 0 => 0
  | k + 1 => smP f k + f ((k / 4) * 5 + k % 4)
def smC (f : Nat → Int) : Nat → Int
  | 0 => 0
  | k + 1 => smC f k + if ciM k then 0 else f k
def smD (f : Nat → Int) : Nat → Int
  | 0 => 0
  | k + 1 => smD f k + if ciM k then f k else 0
theorem smP_C (f : Nat → Int) : smP f 16 = smC f 25 := by
  simp [smP, smC, ciM]
theorem smC_congr {f g : Nat → Int} {m : Nat} (h : ∀ i, i < m → f i = g i) : ∀ k : Nat, k ≤ m → smC f k = smC g k
  | 0, _ => rfl
  | k + 1, hk => by unfold smC; rw [smC_congr h k (by omega), h k (by omega)]
theorem smC_1 (f : Nat → Int) : ∀ k : Nat, smC (fun i => 1 - f i) k = smC (fun _ => 1) k - smC f k
  | 0 => by unfold smC; omega
  | k + 1 => by
    have := smC_1 f k
    unfold smC
    split <;> omega
theorem prs_P (s : Int) : ∀ k : Nat, prs s k = smP (fun i => if tb s (i : Nat) = true then 1 else 0) k
  | 0 => rfl
  | k + 1 => by unfold prs smP; rw [prs_P s k]
theorem lwK_C (T : Int → Int) (m : Nat) : ∀ k : Nat, lwK T m k = smC (fun i => if lvM T m i = 1 then 1 else 0) k
  | 0 => rfl
  | k + 1 => by
    unfold lwK smC
    rw [lwK_C T m k]
    by_cases hc : ciM k
    · rw [if_pos hc, if_neg (fun z => z.1 hc)]
    · rw [if_neg hc]
      by_cases hv : lvM T m k = 1
      · rw [if_pos ⟨hc, hv⟩, if_pos hv]
      · rw [if_neg (fun z => hv z.2), if_neg hv]
theorem lwF_C (T : Int → Int) (m : Nat) : ∀ k : Nat, lwF T m k = smC (fun i => if lvM T m i = -1 then 1 else 0) k
  | 0 => rfl
  | k + 1 => by
    unfold lwF smC
    rw [lwF_C T m k]
    by_cases hc : ciM k
    · rw [if_pos hc, if_neg (fun z => z.1 hc)]
    · rw [if_neg hc]
      by_cases hv : lvM T m k = -1
      · rw [if_pos ⟨hc, hv⟩, if_pos hv]
      · rw [if_neg (fun z => hv z.2), if_neg hv]
theorem smD_nn {f : Nat → Int} (h : ∀ i, 0 ≤ f i) : ∀ k : Nat, 0 ≤ smD f k
  | 0 => by unfold smD; omega
  | k + 1 => by
    have := smD_nn h k
    have := h k
    unfold smD
    split <;> omega
theorem lwW_D (T : Int → Int) (m : Nat) : ∀ k : Nat, lwW T m k ≠ 0 ↔ smD (fun i => if lvM T m i = 1 then 1 else 0) k = 0
  | 0 => by
    constructor
    · intro _; rfl
    · intro _; show ¬ (1 : Int) = 0; omega
  | k + 1 => by
    have ih := lwW_D T m k
    have nn := smD_nn (f := fun i => if lvM T m i = 1 then 1 else 0) (fun i => by show (0 : Int) ≤ if lvM T m i = 1 then 1 else 0; split <;> omega) k
    unfold lwW smD
    by_cases hc : ciM k
    · rw [if_pos hc]
      by_cases hv : lvM T m k = 1
      · rw [if_pos hv, if_neg (fun z => by rcases z.2 with z | z; exact z hc; exact z hv)]
        constructor
        · intro z; exact absurd rfl z
        · intro z; omega
      · rw [if_neg hv, Int.add_zero, ← ih]
        by_cases hw : lwW T m k ≠ 0
        · rw [if_pos ⟨hw, Or.inr hv⟩]; exact ⟨fun _ => hw, fun _ => by omega⟩
        · rw [if_neg (fun z => hw z.1)]; exact ⟨fun z => absurd rfl z, fun z => absurd z hw⟩
    · rw [if_neg hc, Int.add_zero, ← ih]
      by_cases hw : lwW T m k ≠ 0
      · rw [if_pos ⟨hw, Or.inl hc⟩]; exact ⟨fun _ => hw, fun _ => by omega⟩
      · rw [if_neg (fun z => hw z.1)]; exact ⟨fun z => absurd rfl z, fun z => absurd z hw⟩
theorem pop_CD (s : Int) : ∀ k : Nat, ((popN s.toNat k : Nat) : Int) = smC (fun i => if tb s (i : Nat) = true then 1 else 0) k + smD (fun i => if tb s (i : Nat) = true then 1 else 0) k
  | 0 => rfl
  | k + 1 => by
    have ih := pop_CD s k
    unfold popN smC smD
    have e : tb s ((k : Nat) : Int) = s.toNat.testBit k := by unfold tb; rw [show ((k : Nat) : Int).toNat = k by omega]
    simp only [e]
    by_cases hb : s.toNat.testBit k = true
    · simp only [hb, if_true]
      split <;> omega
    · simp only [hb, if_false, Bool.false_eq_true]
      split <;> omega
theorem pop_hi {s : Int} (h0 : 0 ≤ s) (h1 : s < 33554432) : ∀ k : Nat, popN s.toNat (25 + k) = popN s.toNat 25
  | 0 => rfl
  | k + 1 => by
    show popN s.toNat (25 + k) + (if s.toNat.testBit (25 + k) = true then 1 else 0) = _
    have hb : s.toNat.testBit (25 + k) = false := by
      refine Nat.testBit_lt_two_pow ?_
      have h2 : 2 ^ 25 ≤ 2 ^ (25 + k) := Nat.pow_le_pow_right (by decide) (by omega)
      have p25 : (2 ^ 25 : Nat) = 33554432 := by decide
      omega
    rw [hb, pop_hi h0 h1 k]
    rfl
theorem smD_congr {f g : Nat → Int} {m : Nat} (h : ∀ i, i < m → f i = g i) : ∀ k : Nat, k ≤ m → smD f k = smD g k
  | 0, _ => rfl
  | k + 1, hk => by unfold smD; rw [smD_congr h k (by omega), h k (by omega)]
theorem ch_ch : ∀ f : Nat, f ≤ 16 → ∀ k : Nat, k ≤ f → chX f k k = mch f k := by decide +kernel
theorem rr_laws (h : RR V b n) {k q q' : Int} (hx : (k = -1 ∧ ((prs (V 99 2) 16 < (popN (V 99 2).toNat 32 : Nat) ∧ q = -1) ∨ ((popN (V 99 2).toNat 32 : Nat) ≤ prs (V 99 2) 16 ∧ q = prs (V 99 2) 16))) ∨ ((k < -1 ∨ 16 < k) ∧ q = -1000000002) ∨ ((0 ≤ k ∧ k ≤ 16) ∧ ((prs (V 99 2) 16 < (popN (V 99 2).toNat 32 : Nat) ∧ q = 0) ∨ ((popN (V 99 2).toNat 32 : Nat) ≤ prs (V 99 2) 16 ∧ q = if 0 ≤ k - prs (V 99 2) 16 ∧ k - prs (V 99 2) 16 ≤ 16 - prs (V 99 1) 16 then chX (16 - prs (V 99 1) 16) (k - prs (V 99 2) 16) (k - prs (V 99 2) 16).toNat else 0)))) (hm : lwP V k q') : q' = q := by
  obtain ⟨c1, c2, c3, c4, c5⟩ := RR_C h
  have hbit : ∀ i : Nat, i < 25 → (tb (V 99 1) ((i : Nat) : Int) = true ↔ lvM (V 142) (V 134 12).toNat i ≠ -1) ∧ (tb (V 99 2) ((i : Nat) : Int) = true ↔ lvM (V 142) (V 134 12).toNat i = 1) := fun i hi => by
    have := c5 ((i / 5 : Nat) : Int) ((i % 5 : Nat) : Int) (by omega) (by omega) (by omega) (by omega)
    rw [show ((i / 5 : Nat) : Int) * 5 + ((i % 5 : Nat) : Int) = ((i : Nat) : Int) by omega] at this
    exact this
  have e2 : ∀ i : Nat, i < 25 → (if tb (V 99 2) ((i : Nat) : Int) = true then (1 : Int) else 0) = if lvM (V 142) (V 134 12).toNat i = 1 then 1 else 0 := fun i hi => by
    have hb := (hbit i hi).2
    by_cases ht : lvM (V 142) (V 134 12).toNat i = 1
    · rw [if_pos ht, if_pos (hb.2 ht)]
    · rw [if_neg ht, if_neg (fun z => ht (hb.1 z))]
  have e1 : ∀ i : Nat, i < 25 → (1 : Int) - (if tb (V 99 1) ((i : Nat) : Int) = true then (1 : Int) else 0) = if lvM (V 142) (V 134 12).toNat i = -1 then 1 else 0 := fun i hi => by
    have hb := (hbit i hi).1
    by_cases ht : lvM (V 142) (V 134 12).toNat i = -1
    · rw [if_pos ht, if_neg (fun z => (hb.1 z) ht)]; rfl
    · rw [if_neg ht, if_pos (hb.2 ht)]; rfl
  have hK : prs (V 99 2) 16 = lwK (V 142) (V 134 12).toNat 25 := by
    rw [prs_P, smP_C, lwK_C, smC_congr e2 25 (Nat.le_refl _)]
  have hF : 16 - prs (V 99 1) 16 = lwF (V 142) (V 134 12).toNat 25 := by
    rw [prs_P, smP_C, lwF_C, ← smC_congr e1 25 (Nat.le_refl _), smC_1]
    have : smC (fun _ => 1) 25 = 16 := by decide +kernel
    rw [this]
  have hW : ((popN (V 99 2).toNat 32 : Nat) : Int) ≤ prs (V 99 2) 16 ↔ lwW (V 142) (V 134 12).toNat 25 ≠ 0 := by
    rw [lwW_D, ← smD_congr e2 25 (Nat.le_refl _), show (32 : Nat) = 25 + 7 from rfl, pop_hi c4.1 c4.2, pop_CD, prs_P, smP_C]
    have := smD_nn (f := fun i => if tb (V 99 2) ((i : Nat) : Int) = true then 1 else 0) (fun i => by show (0 : Int) ≤ if tb (V 99 2) ((i : Nat) : Int) = true then 1 else 0; split <;> omega) 25
    omega
  have hkf := lwKF_rg (V 142) (V 134 12).toNat 25
  have h16 := lwKF_16 (V 142) (V 134 12).toNat
  rw [hK, hF] at hx
  rw [hK] at hW
  obtain ⟨K, hKd⟩ : ∃ K, K = lwK (V 142) (V 134 12).toNat 25 := ⟨_, rfl⟩
  obtain ⟨F, hFd⟩ : ∃ F, F = lwF (V 142) (V 134 12).toNat 25 := ⟨_, rfl⟩
  obtain ⟨w, hwd⟩ : ∃ w, w = lwW (V 142) (V 134 12).toNat 25 := ⟨_, rfl⟩
  unfold lwP at hm
  rw [← hKd, ← hFd, ← hwd] at hm
  rw [← hKd, ← hFd] at hx hkf h16
  rw [← hKd, ← hwd] at hW
  by_cases hkr : k < -1 ∨ 16 < k
  · have hx1 : q = -1000000002 := by rcases hx with z | z | z <;> omega
    have hm1 : q' = -1000000002 := by rcases hm with z | z | z <;> omega
    omega
  · by_cases hk1 : k = -1
    · have hx1 := (hx.resolve_right (fun z => by rcases z with z | z <;> omega)).2
      have hm1 : q' = if w = 0 then -1 else K := by
        rcases hm with z | z | z
        · omega
        · exact z.2
        · omega
      rw [hm1]
      by_cases hw : w = 0
      · rw [if_pos hw]
        have := hx1.resolve_right (fun z => (hW.1 z.1) hw)
        omega
      · rw [if_neg hw]
        have := hx1.resolve_left (fun z => by have := hW.2 hw; omega)
        omega
    · have hx1 : (K < (popN (V 99 2).toNat 32 : Nat) ∧ q = 0) ∨ ((popN (V 99 2).toNat 32 : Nat) ≤ K ∧ q = if 0 ≤ k - K ∧ k - K ≤ F then chX F (k - K) (k - K).toNat else 0) := by
        rcases hx with z | z | z
        · omega
        · omega
        · exact z.2
      have hm1 : ((w = 0 ∨ ¬ (K ≤ k ∧ k ≤ K + F)) ∧ q' = 0) ∨ ((w ≠ 0 ∧ (K ≤ k ∧ k ≤ K + F)) ∧ q' = mch F (k - K).toNat) := by
        rcases hm with z | z | z
        · omega
        · omega
        · exact z.2
      by_cases hw : w = 0
      · have hx2 := hx1.resolve_right (fun z => (hW.1 z.1) hw)
        have hm2 := hm1.resolve_right (fun z => z.1.1 hw)
        rw [hx2.2, hm2.2]
      · have hx2 := (hx1.resolve_left (fun z => by have := hW.2 hw; omega)).2
        rw [hx2]
        by_cases hr : K ≤ k ∧ k ≤ K + F
        · have hm2 := hm1.resolve_left (fun z => by rcases z.1 with z | z; exact hw z; exact z hr)
          rw [hm2.2, if_pos (by omega)]
          have := ch_ch F.toNat (by omega) (k - K).toNat (by omega)
          rw [show ((F.toNat : Nat) : Int) = F by omega, show (((k - K).toNat : Nat) : Int) = k - K by omega] at this
          exact this.symm
        · have hm2 := hm1.resolve_right (fun z => hr z.1.2)
          rw [hm2.2, if_neg (by omega)]
end

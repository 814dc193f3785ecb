/-! ===== plan, foremen, leastRoads, alike ===== -/
section
variable {V V' V1 V2 U : Nat → Int → Int} {b : Bool} {n : Int}
/-- the board that is set up, in the model's words -/
theorem su_kd (h : RR V b n) (hs : suP V U (yN b)) : ∀ i : Int, 0 ≤ i → i < V 137 0 → U 109 i = V 135 (6 + V 137 (1 + i)) ∧ (0 ≤ V 137 (1 + i) ∧ V 137 (1 + i) < V 135 5) := by
  intro i i0 i1
  have hS := RR_SR h
  have hI := RR_sI h
  have e54 : V 5 4 = V 137 0 := hS.2.1
  obtain ⟨h1, h2, h3, h4, h5, h6, h7', h8, h9⟩ := id hI
  have hc := stI_c hI (RR_7 h) 0 (by omega) (by omega)
  have a1 := h7' 4 i (by omega) (by omega) i0 (by rw [lcN_4]; exact i1)
  rw [laN_4] at a1
  have b1 := h3.1 (1 + i) (by omega) (by omega)
  refine ⟨?_, b1.1, a1⟩
  rw [hs.2.2.2.1 i i0 (by rw [e54]; exact i1), wA_h hS, if_pos ⟨i0, i1⟩, kd_Y (RR_Y h) b1.1 a1]
theorem su_tl (h : RR V b n) (hs : suP V U (yN b)) : ∀ r : Int, 0 ≤ r → r < V 135 0 → U 110 r = V 135 (1 + r) ∧ U 111 r = V 137 (8 + r) ∧ U 112 r = lkM (V 135) (if V 137 (8 + r) = 0 then -1 else V 137 (12 + 7 * r + V 137 (8 + r) - 1)) := by
  intro r r0 r1
  have hS := RR_SR h
  have hI := RR_sI h
  have hY := RR_Y h
  have y1 := hY.1
  have r4 : r < 4 := by omega
  have e5r : V 5 r = V 137 (8 + r) := (hS.2.2.1 r r0 r4).1
  obtain ⟨g1, g2, g3⟩ := hs.2.2.2.2.1 r r0 (by rw [y1.1]; exact r1)
  have y4 := hY.2.2.2.1 r r0 r1
  obtain ⟨h1, h2, h3, h4, h5, h6, h7', h8, h9⟩ := id hI
  have hc := stI_c hI (RR_7 h) r r0 r4
  refine ⟨by rw [g1, y4.1], by rw [g2, e5r], ?_⟩
  rw [g3, e5r, wA_r hS r0 r4]
  by_cases hz : V 137 (8 + r) = 0
  · rw [if_pos hz, if_neg (by omega), kd_N]
    unfold lkM
    rw [if_neg (by omega)]
  · rw [if_neg hz, if_pos (by omega), show 12 + 7 * r + (V 137 (8 + r) - 1) = 12 + 7 * r + V 137 (8 + r) - 1 by omega]
    have a1 := h7' r (V 137 (8 + r) - 1) r0 (by omega) (by omega) (by rw [lcN_r (by omega)]; omega)
    rw [laN_r (by omega), show 12 + 7 * r + (V 137 (8 + r) - 1) = 12 + 7 * r + V 137 (8 + r) - 1 by omega] at a1
    have b1 := h3.2 (12 + 7 * r + V 137 (8 + r) - 1) (by omega) (by have := h1.1; omega)
    rw [kd_Y hY b1.1 a1]
    unfold lkM
    rw [if_pos b1.1]
theorem su_T0 (h : RR V b n) : ∀ r : Int, 0 ≤ r → r < 4 → -1 ≤ (if V 137 (8 + r) = 0 then -1 else V 137 (12 + 7 * r + V 137 (8 + r) - 1)) ∧ (if V 137 (8 + r) = 0 then -1 else V 137 (12 + 7 * r + V 137 (8 + r) - 1)) ≤ 6 := by
  intro r r0 r4
  have hI := RR_sI h
  have hc := stI_c hI (RR_7 h) r r0 r4
  have hn0 := hI.1.1
  split
  · omega
  · have := hI.2.2.1.2 (12 + 7 * r + V 137 (8 + r) - 1) (by omega) (by omega)
    omega
theorem RR_Rm (h : RR V b n) {R m : Nat} (hR : (R : Int) = V 135 0) (hm : (m : Int) = V 137 0) : R ≤ 4 ∧ m ≤ 7 ∧ (0 < R ∨ m = 0) := by
  have hI := RR_sI h
  have hc := stI_c hI (RR_7 h) 0 (by omega) (by omega)
  have y0 := (RR_MS h).1
  refine ⟨by omega, by omega, ?_⟩
  by_cases h0 : R = 0
  · have h5 := RR_05 h (by omega)
    have ht := hI.2.1
    unfold totN at ht
    have t0 := hI.1.2 0 (by omega) (by omega)
    have t1 := hI.1.2 1 (by omega) (by omega)
    have t2 := hI.1.2 2 (by omega) (by omega)
    have t3 := hI.1.2 3 (by omega) (by omega)
    simp only [Int.reduceAdd] at t0 t1 t2 t3
    omega
  · omega
theorem rr_plan (h : RR V b n) (hn : n + 1 ≤ 64) {R m : Nat} {i q q' : Int} (hR : (R : Int) = V 135 0) (hm : (m : Int) = V 137 0) (hx : ∃ U, suP V U (yN b) ∧ V1 = setP U (seaA U) ∧ plR V1 ∧ q = plA (seaA U) (V 5 4) i) (hmm : mpO V1 V2 ∧ q' = mpA (fmn (cdC (V 135) (V 137) R m) (R ^ m)).1 (dgt R m (fmn (cdC (V 135) (V 137) R m) (R ^ m)).2) m i) : q' = q ∧ RR V2 b (n + 1) := by
  obtain ⟨U, hs, xV, xp, xq⟩ := hx
  obtain ⟨mo, mq⟩ := hmm
  have hY := RR_Y h
  have hI := RR_sI h
  have hS := RR_SR h
  have e54 : V 5 4 = V 137 0 := hS.2.1
  obtain ⟨k1, k2, k3⟩ := RR_Rm h hR hm
  have u4 : U 108 4 = (R : Int) := by rw [hs.1, hY.1.1, hR]
  have u5 : U 108 5 = (m : Int) := by rw [hs.2.1, e54, hm]
  have u6 : U 108 6 = V (yN b) 8 := hs.2.2.1
  have hkd := su_kd h hs
  have htl := su_tl h hs
  have hrec := pl_rec (Y := V 135) (N := V 137) (L0 := fun r => V 137 (8 + r)) (T0 := fun r => if V 137 (8 + r) = 0 then -1 else V 137 (12 + 7 * r + V 137 (8 + r) - 1)) (kd := U 109) (rm := U 110) (R := R) (m := m) (g := U 108 6) k1 k3 k2 (fun i hi => (hkd i (by omega) (by omega)).1) (fun r r0 r1 => (htl r r0 (by omega)).1) (fun r r0 r1 => (hI.2.2.2.2.2.1 r r0 (by omega)).1 (by omega)) hI.2.2.1.1 (RR_MS h).2.2.1 (su_T0 h) (fun a c a0 a4 c0 c4 => by rw [u6]; exact kk_Y hY a0 a4 c0 c4) m 0 0 0 0 (U 111) (U 112) (U 114, U 115, 8, 0) (by omega) (by omega) (by omega) (fun j j0 j1 => by omega) (fun x _ j j0 j1 => by omega) (fun r r0 r1 => (htl r r0 (by omega)).2.1) (fun r r0 r1 => (htl r r0 (by omega)).2.2) rfl rfl (by rw [Nat.zero_mul]; exact Or.inl ⟨rfl, rfl, rfl⟩)
  have hsea : seaA U = exA R (U 108 6) (U 109) (U 110) m 0 0 0 (U 111) (U 112) (U 114, U 115, 8, 0) := by
    unfold seaA
    rw [u4, u5]
    rfl
  have hQ := hrec.1
  rw [show (0 : Nat) + 1 = 1 from rfl, Nat.one_mul] at hQ
  have hQ' : plQ R m (seaA U) (fmn (cdC (V 135) (V 137) R m) (R ^ m)) := by rw [hsea]; exact hQ
  obtain ⟨A, hA⟩ : ∃ A, A = seaA U := ⟨_, rfl⟩
  obtain ⟨F, hF⟩ : ∃ F, F = fmn (cdC (V 135) (V 137) R m) (R ^ m) := ⟨_, rfl⟩
  rw [← hA, ← hF] at hQ'
  rw [← hA, e54, ← hm] at xq
  rw [← hF] at mq
  constructor
  · rw [mq, xq]
    unfold mpA plA
    rcases hQ' with ⟨f1, f2, f3⟩ | ⟨f1, f2, f3, f4⟩
    · rw [if_pos f1, if_pos (by omega)]
    · rw [if_neg (by omega), if_neg (show ¬ ¬ A.2.2.1 < 8 by omega)]
      by_cases i1 : i = -1
      · rw [if_pos i1, if_pos i1]; omega
      · rw [if_neg i1, if_neg i1]
        by_cases i2 : i = -2
        · rw [if_pos i2, if_pos i2]; omega
        · rw [if_neg i2, if_neg i2]
          by_cases i3 : 0 ≤ i ∧ i < m
          · rw [if_pos i3, if_pos (by omega)]; exact (f4 i i3.1 i3.2).symm
          · rw [if_neg i3, if_neg (by omega)]
  · have x1 : ∀ a : Nat, a < 108 ∨ 115 < a → V1 a = V a := fun a ha => by rw [xV, setP_o (by omega) (by omega) (by omega)]; exact hs.2.2.2.2.2 a (by omega)
    have x2 : ∀ a : Nat, a < 108 ∨ (115 < a ∧ a < 145) ∨ 148 < a → V2 a = V a := fun a ha => by rw [mo a (by omega) (by omega) (by omega) (by omega)]; exact x1 a (by omega)
    refine RR_sc h hn (fun a ha _ _ => x2 a (by omega)) (by rw [x2 126 (by omega)]; exact h.2.2.1.2.2.1.2) (by rw [x2 133 (by omega)]; exact h.2.2.1.2.2.2.2) ⟨?_, ?_⟩
    · unfold plR at xp ⊢
      rw [mo 114 (by omega) (by omega) (by omega) (by omega), mo 115 (by omega) (by omega) (by omega) (by omega)]
      exact xp
    · have hft := (RR_X h).2
      unfold ftR at hft ⊢
      rw [x2 118 (by omega), x2 119 (by omega)]
      exact hft
/-! foremen -/
theorem bst_add {few : Bool} {ok ok' : Nat → Bool} {val val' : Nat → Int} {k : Int} (hk : 0 ≤ k) : ∀ r : Nat, (∀ j, j < r → ok j = ok' j) → (∀ j, j < r → ok j = true → val' j = k + val j ∧ 0 ≤ val j) → bst few ok' val' r = if bst few ok val r = -1 then -1 else k + bst few ok val r
  | 0, _, _ => rfl
  | r + 1, ho, hv => by
    have ih := bst_add (few := few) hk r (fun j hj => ho j (by omega)) (fun j hj => hv j (by omega))
    have nn : -1 ≤ bst few ok val r := by
      have h2 : ∀ s : Nat, s ≤ r → -1 ≤ bst few ok val s := by
        intro s
        induction s with
        | zero => intro _; show (-1 : Int) ≤ -1; omega
        | succ s ihs =>
          intro hs
          have := ihs (by omega)
          unfold bst
          by_cases hos : ok s = true
          · rw [if_pos hos]
            have := (hv s (by omega) hos).2
            split <;> omega
          · rw [if_neg hos]; exact this
      exact h2 r (Nat.le_refl r)
    unfold bst
    rw [← ho r (by omega)]
    by_cases hor : ok r = true
    · obtain ⟨v1, v2⟩ := hv r (by omega) hor
      rw [if_pos hor, if_pos hor, v1, ih]
      by_cases hb : bst few ok val r = -1
      · rw [if_pos hb, if_pos (Or.inl rfl), if_pos (Or.inl hb), if_neg (by omega)]
      · rw [if_neg hb]
        cases few with
        | true =>
          simp only [if_true]
          by_cases hlt : val r < bst true ok val r
          · rw [if_pos (Or.inr (by omega)), if_pos (Or.inr hlt), if_neg (by omega)]
          · rw [if_neg (by omega), if_neg (by omega), if_neg (by omega)]
        | false =>
          simp only [Bool.false_eq_true, if_false]
          by_cases hlt : bst false ok val r < val r
          · rw [if_pos (Or.inr (by omega)), if_pos (Or.inr hlt), if_neg (by omega)]
          · rw [if_neg (by omega), if_neg (by omega), if_neg (by omega)]
    · rw [if_neg hor, if_neg hor]; exact ih
theorem mm_fm {Y N : Int → Int} {R : Nat} (hR4 : R ≤ 4) (hYR : ∀ r : Int, 0 ≤ r → r < R → 0 ≤ Y (1 + r)) : ∀ (z : Nat) (d : Int) (cn tl : Int → Int) (k : Int) (U : Nat → Int → Int), 0 ≤ d → 0 ≤ k → U 108 4 = R → (∀ a c : Int, 0 ≤ a → a ≤ 4 → 0 ≤ c → c ≤ 4 → kkI (U 108 6) a c = enI Y a c) → (∀ j : Int, d ≤ j → j < d + z → U 109 j = Y (6 + N (1 + j)) ∧ 0 ≤ N (1 + j) ∧ (0 ≤ Y (6 + N (1 + j)) ∧ Y (6 + N (1 + j)) ≤ 4)) → (∀ r : Int, 0 ≤ r → r < R → U 110 r = Y (1 + r) ∧ U 111 r = cn r ∧ cn r ≤ Y (1 + r) ∧ U 112 r = lkM Y (tl r) ∧ (0 ≤ tl r → 0 ≤ Y (6 + tl r) ∧ Y (6 + tl r) ≤ 4)) → mmA Y N R z d cn tl k = k + fmV z d U
  | 0, d, cn, tl, k, U, _, _, _, _, _, _ => by
    show k = k + 0
    omega
  | z + 1, d, cn, tl, k, U, hd, hk, hU4, hkk, hkd, hst => by
    have hkd0 := hkd d (by omega) (by omega)
    have hkick : ∀ r : Int, 0 ≤ r → r < R → kkI (U 108 6) (U 112 r) (U 109 d) = kkM Y (tl r) (N (1 + d)) := fun r r0 r1 => by
      obtain ⟨s1, s2, s3, s4, s5⟩ := hst r r0 r1
      rw [s4, hkd0.1]
      unfold kkM lkM
      by_cases ht : 0 ≤ tl r
      · have := s5 ht
        rw [if_pos ht, if_pos ht, hkk _ _ this.1 this.2 hkd0.2.2.1 hkd0.2.2.2]
      · rw [if_neg ht, if_neg ht, hkk _ _ (by omega) (by omega) hkd0.2.2.1 hkd0.2.2.2]
        unfold enI
        rw [if_neg (fun q => q.1 rfl)]
    have hval : ∀ r : Nat, r < R → decide (U 111 (r : Int) < U 110 (r : Int)) = true → mmA Y N R z (d + 1) (iup cn r (cn r + 1)) (iup tl r (N (1 + d))) (k + kkM Y (tl r) (N (1 + d))) = k + (kkI (U 108 6) (U 112 (r : Int)) (U 109 d) + fmV z (d + 1) (putB U d (r : Int))) := fun r hr ho => by
      obtain ⟨s1, s2, s3, s4, s5⟩ := hst r (by omega) (by omega)
      have ho := of_decide_eq_true ho
      rw [hkick r (by omega) (by omega)]
      have k01 := kkM_01 Y (tl (r : Int)) (N (1 + d))
      have hrec := mm_fm (N := N) hR4 hYR z (d + 1) (iup cn r (cn r + 1)) (iup tl r (N (1 + d))) (k + kkM Y (tl r) (N (1 + d))) (putB U d (r : Int)) (by omega) (by omega) (by rw [putB_o (by decide) (by decide)]; exact hU4) (by rw [putB_o (by decide) (by decide)]; exact hkk) (fun j j0 j1 => by rw [putB_o (by decide) (by decide)]; exact hkd j (by omega) (by omega)) (fun s t0 t1 => by
        obtain ⟨q1, q2, q3, q4, q5⟩ := hst s t0 t1
        rw [putB_o (by decide) (by decide), putB_1, putB_2]
        refine ⟨q1, ?_⟩
        by_cases hs : s = r
        · rw [hs, iup_s, iup_s, iup_s, iup_s]
          refine ⟨by rw [s2], by omega, ?_, fun _ => hkd0.2.2⟩
          rw [hkd0.1]
          unfold lkM
          rw [if_pos hkd0.2.1]
        · rw [iup_n hs, iup_n hs, iup_n hs, iup_n hs]
          exact ⟨q2, q3, q4, q5⟩)
      rw [hrec]
      omega
    have hb := bst_add (few := decide (d % 2 = 0)) (ok := fun r : Nat => decide (U 111 (r : Int) < U 110 (r : Int))) (ok' := fun r : Nat => decide (cn (r : Int) ≠ Y (1 + (r : Int)))) (val := fun r : Nat => kkI (U 108 6) (U 112 (r : Int)) (U 109 d) + fmV z (d + 1) (putB U d (r : Int))) (val' := fun r : Nat => mmA Y N R z (d + 1) (iup cn r (cn r + 1)) (iup tl r (N (1 + d))) (k + kkM Y (tl r) (N (1 + d)))) hk R (fun j hj => by
      obtain ⟨s1, s2, s3, s4, s5⟩ := hst j (by omega) (by omega)
      show decide (U 111 (j : Int) < U 110 (j : Int)) = decide (cn (j : Int) ≠ Y (1 + (j : Int)))
      rw [s1, s2]
      exact decide_eq_decide.2 (by omega)) (fun j hj ho => by
      refine ⟨hval j hj ho, ?_⟩
      have h1 := fmV_rg z (d + 1) (putB U d (j : Int))
      have h2 := kkI_01 (U 108 6) (U 112 (j : Int)) (U 109 d)
      show 0 ≤ kkI (U 108 6) (U 112 (j : Int)) (U 109 d) + fmV z (d + 1) (putB U d (j : Int))
      omega)
    show (if bst (decide (d % 2 = 0)) (fun r : Nat => decide (cn (r : Int) ≠ Y (1 + (r : Int)))) (fun r : Nat => mmA Y N R z (d + 1) (iup cn r (cn r + 1)) (iup tl r (N (1 + d))) (k + kkM Y (tl r) (N (1 + d)))) R = -1 then k else bst (decide (d % 2 = 0)) (fun r : Nat => decide (cn (r : Int) ≠ Y (1 + (r : Int)))) (fun r : Nat => mmA Y N R z (d + 1) (iup cn r (cn r + 1)) (iup tl r (N (1 + d))) (k + kkM Y (tl r) (N (1 + d)))) R) = k + (if bst (decide (d % 2 = 0)) (fun r : Nat => decide (U 111 (r : Int) < U 110 (r : Int))) (fun r : Nat => kkI (U 108 6) (U 112 (r : Int)) (U 109 d) + fmV z (d + 1) (putB U d (r : Int))) (U 108 4).toNat = -1 then 0 else bst (decide (d % 2 = 0)) (fun r : Nat => decide (U 111 (r : Int) < U 110 (r : Int))) (fun r : Nat => kkI (U 108 6) (U 112 (r : Int)) (U 109 d) + fmV z (d + 1) (putB U d (r : Int))) (U 108 4).toNat)
    rw [hb, hU4, show ((R : Nat) : Int).toNat = R by omega]
    obtain ⟨B, hB⟩ : ∃ B, B = bst (decide (d % 2 = 0)) (fun r : Nat => decide (U 111 (r : Int) < U 110 (r : Int))) (fun r : Nat => kkI (U 108 6) (U 112 (r : Int)) (U 109 d) + fmV z (d + 1) (putB U d (r : Int))) R := ⟨_, rfl⟩
    rw [← hB]
    by_cases h1 : B = -1
    · rw [if_pos h1, if_pos h1, if_pos rfl]; omega
    · rw [if_neg h1, if_neg h1]
      have hge : -1 ≤ B := by
        rw [hB]
        exact (bst_rg (m := (z : Int) + 1) (by omega) R (fun j _ _ => by
          have h1 := fmV_rg z (d + 1) (putB U d (j : Int))
          have h2 := kkI_01 (U 108 6) (U 112 (j : Int)) (U 109 d)
          show 0 ≤ kkI (U 108 6) (U 112 (j : Int)) (U 109 d) + fmV z (d + 1) (putB U d (j : Int)) ∧ kkI (U 108 6) (U 112 (j : Int)) (U 109 d) + fmV z (d + 1) (putB U d (j : Int)) ≤ (z : Int) + 1
          omega)).1
      rw [if_neg (by omega)]
theorem rr_foremen (h : RR V b n) (hn : n + 1 ≤ 64) {R : Nat} {x q q' : Int} (hR : (R : Int) = V 135 0) (hx : (¬ (1 ≤ x ∧ x ≤ 7) ∧ q = -1000000002 ∧ V1 = V) ∨ ((1 ≤ x ∧ x ≤ 7) ∧ suP V V1 (yN b) ∧ q = fmV (min x (V 5 4)).toNat 0 V1)) (hm : moO V1 V2 ∧ ((¬ (1 ≤ x ∧ x ≤ 7) ∧ q' = -1000000002) ∨ ((1 ≤ x ∧ x ≤ 7) ∧ q' = mmA (V 135) (V 137) R (min x (V 137 0)).toNat 0 (fun r => V 137 (8 + r)) (fun r => if V 137 (8 + r) = 0 then -1 else V 137 (12 + 7 * r + V 137 (8 + r) - 1)) 0))) : q' = q ∧ RR V2 b (n + 1) := by
  obtain ⟨mo, mq⟩ := hm
  have e54 : V 5 4 = V 137 0 := (RR_SR h).2.1
  have hI := RR_sI h
  have hY := RR_Y h
  have fin : (∀ a : Nat, a < 108 ∨ 112 < a → V1 a = V a) → RR V2 b (n + 1) := fun x1 => by
    have x2 : ∀ a : Nat, a < 108 ∨ (112 < a ∧ a < 147) → V2 a = V a := fun a ha => by rw [mo a (by omega)]; exact x1 a (by omega)
    refine RR_sc h hn (fun a ha _ _ => x2 a (by omega)) (by rw [x2 126 (by omega)]; exact h.2.2.1.2.2.1.2) (by rw [x2 133 (by omega)]; exact h.2.2.1.2.2.2.2) (rrX_c (RR_X h) (x2 114 (by omega)) (x2 115 (by omega)) (x2 118 (by omega)) (x2 119 (by omega)))
  by_cases hx7 : 1 ≤ x ∧ x ≤ 7
  · obtain ⟨_, hs, xq⟩ := hx.resolve_left (fun z => z.1 hx7)
    have mq := (mq.resolve_left (fun z => z.1 hx7)).2
    refine ⟨?_, fin hs.2.2.2.2.2⟩
    have hkd := su_kd h hs
    have htl := su_tl h hs
    have h5 := hI.2.2.2.2.2.1
    have hmm := mm_fm (Y := V 135) (N := V 137) (R := R) (by have := (RR_MS h).1; omega) (fun r r0 r1 => by have := (RR_MS h).2.2.2.2 r r0 (by omega); omega) (min x (V 137 0)).toNat 0 (fun r => V 137 (8 + r)) (fun r => if V 137 (8 + r) = 0 then -1 else V 137 (12 + 7 * r + V 137 (8 + r) - 1)) 0 V1 (by omega) (by omega) (by rw [hs.1, hY.1.1, hR]) (fun a c a0 a4 c0 c4 => by rw [hs.2.2.1]; exact kk_Y hY a0 a4 c0 c4) (fun j j0 j1 => by
      have := hkd j j0 (by omega)
      exact ⟨this.1, this.2.1, YRd_kr hY this.2.1 this.2.2⟩) (fun r r0 r1 => by
      obtain ⟨t1, t2, t3⟩ := htl r r0 (by omega)
      refine ⟨t1, t2, (h5 r r0 (by have := (RR_MS h).1; omega)).1 (by omega), t3, fun ht => ?_⟩
      have tr := su_T0 h r r0 (by have := (RR_MS h).1; omega)
      exact (RR_MS h).2.2.1 _ (by omega) (by omega))
    rw [mq, xq, hmm, e54]
    omega
  · have hx1 := (hx.resolve_right (fun z => hx7 z.1)).2
    have hm1 := (mq.resolve_right (fun z => hx7 z.1)).2
    exact ⟨by rw [hm1, hx1.1], fin (fun a _ => by rw [hx1.2])⟩
/-! leastRoads -/
theorem RR_tr (h : RR V b n) : tuR V (yN b) := by
  rcases yN_Y b with hy | hy <;> rw [hy]
  · exact h.2.2.1.2.2.1
  · exact h.2.2.1.2.2.2
theorem RR_trH (h : RR V b n) {W L : Nat} (hW : (W : Int) = V 135 5) (hL : (L : Int) = V 135 33) : trH (V 135) (V (yN b + 5)) W L := by
  obtain ⟨y1, y2, y3, y4, y5, y6, y7, y8⟩ := RR_Y h
  refine ⟨fun i i0 i1 => ?_, fun w w0 w1 => ?_⟩
  · have := y7 i i0 (by omega)
    rw [hW]
    exact this
  · have := y8 w w0 (by omega)
    rw [hL]
    exact this
theorem rr_leastRoads (h : RR V b n) (hn : n + 1 ≤ 64) {W : Nat} {w q q' : Int} (hW : (W : Int) = V 135 5) (hx : (w ≠ -1 ∧ ¬ (0 ≤ w ∧ w < V (yN b) 7) ∧ q = -1000000001 ∧ V1 = V) ∨ ((w = -1 ∨ (0 ≤ w ∧ w < V (yN b) 7)) ∧ soP V V1 (yN b) w q)) (hm : mqO V1 V2 ∧ q' = lsA (V (yN b + 5)) (V (yN b + 6)) W w) : q' = q ∧ RR V2 b (n + 1) := by
  obtain ⟨mo, mq⟩ := hm
  have y2 := (RR_Y h).2.1
  have hy := yN_Y b
  rw [y2.1, ← hW] at hx
  have fin : (∀ a : Nat, a ≠ yN b + 6 → V1 a = V a) → (∀ j : Int, -1 ≤ V1 (yN b + 6) j ∧ V1 (yN b + 6) j ≤ 6) → RR V2 b (n + 1) := fun x1 xt => by
    have x2 : ∀ a : Nat, a ≠ yN b + 6 → a < 145 → V2 a = V a := fun a h1 h2 => by rw [mo a (by omega) (by omega) (by omega) (by omega)]; exact x1 a h1
    have t : ∀ a : Nat, a = 126 ∨ a = 133 → ∀ j : Int, -1 ≤ V2 a j ∧ V2 a j ≤ 6 := fun a ha => by
      by_cases he : a = yN b + 6
      · rw [mo a (by omega) (by omega) (by omega) (by omega), he]; exact xt
      · rw [x2 a he (by omega)]
        rcases ha with ha | ha <;> rw [ha]
        · exact h.2.2.1.2.2.1.2
        · exact h.2.2.1.2.2.2.2
    refine RR_sc h hn (fun a ha h1 h2 => x2 a (by rcases hy with hy | hy <;> omega) (by omega)) (t 126 (by omega)) (t 133 (by omega)) (rrX_c (RR_X h) (x2 114 (by rcases hy with hy | hy <;> omega) (by omega)) (x2 115 (by rcases hy with hy | hy <;> omega) (by omega)) (x2 118 (by rcases hy with hy | hy <;> omega) (by omega)) (x2 119 (by rcases hy with hy | hy <;> omega) (by omega)))
  by_cases hw : w = -1 ∨ (0 ≤ w ∧ w < W)
  · obtain ⟨_, s1, s2, s3⟩ := hx.resolve_left (fun z => by rcases hw with hw | hw; exact z.1 hw; exact z.2.1 hw)
    refine ⟨?_, fin s1 s2⟩
    rw [mq, s3, y2.1, ← hW]
    unfold lsA
    by_cases h1 : w = -1
    · rw [if_pos h1, if_neg (by omega), show ((W : Nat) : Int).toNat = W by omega]
    · have hw2 := hw.resolve_left h1
      rw [if_neg h1, if_pos hw2, if_pos hw2]
      unfold gR
      rw [show ((w.toNat : Nat) : Int) = w by omega]
  · have hx1 := hx.resolve_right (fun z => hw z.1)
    refine ⟨?_, fin (fun a _ => by rw [hx1.2.2.2]) (by rw [hx1.2.2.2]; exact (RR_tr h).2)⟩
    rw [mq, hx1.2.2.1]
    unfold lsA
    rw [if_neg (fun z => hw (Or.inl z)), if_neg (fun z => hw (Or.inr z))]
end

/-! ===== readGrudge, readTrain ===== -/
section
variable {V : Nat → Int → Int} {b : Bool} {y : Nat} {rd : Int → Int} {s m f g : Int}
theorem ct_X7_readGrudge (hy : isY y) (hT : tX V) (hs : 0 ≤ s ∧ s ≤ V 1 1) (htu : tuR V y) (hY : YRd V y rd) (h32 : rd 32 ≤ 9) : yC 4 mX7_readGrudge [.ref 1, .ref y] (rdr V s m 0 g) b (pV b (rdP V y g (pGr (V 2) (V 1 1) s rd))) := by
  obtain ⟨sy, sy1, sy2, sy3, sy4, sy5, sy6, fy0, fy1, fy2, fy3, fy4, fy5⟩ := yfacts hy b
  have yb : 120 ≤ y ∧ y ≤ 127 := by rcases hy with h | h <;> omega
  obtain ⟨hT1, hT2⟩ := id hT
  obtain ⟨q1, q2, q3, q4, q5⟩ := hY.2.2.2.2.2.1
  obtain ⟨p1, hp1⟩ : ∃ p, p = sk (V 2) (V 1 1) s := ⟨_, rfl⟩
  obtain ⟨e1, he1⟩ : ∃ e, e = de (V 2) (V 1 1) p1 := ⟨_, rfl⟩
  obtain ⟨v1, hv1⟩ : ∃ v, v = va (V 2) (V 1 1) p1 := ⟨_, rfl⟩
  obtain ⟨p2, hp2⟩ : ∃ p, p = sk (V 2) (V 1 1) e1 := ⟨_, rfl⟩
  obtain ⟨e2, he2⟩ : ∃ e, e = de (V 2) (V 1 1) p2 := ⟨_, rfl⟩
  obtain ⟨v2, hv2⟩ : ∃ v, v = va (V 2) (V 1 1) p2 := ⟨_, rfl⟩
  have k1 := sk_rg (t := V 2) hs.2
  rw [← hp1] at k1
  have d1 := de_rg (t := V 2) k1.2
  rw [← he1] at d1
  have k2 := sk_rg (t := V 2) d1.2
  rw [← hp2] at k2
  have d2 := de_rg (t := V 2) k2.2
  rw [← he2] at d2
  have w1 := va_rg (t := V 2) (n := V 1 1) (p := p1)
  rw [← hv1] at w1
  have w2 := va_rg (t := V 2) (n := V 1 1) (p := p2)
  rw [← hv2] at w2
  obtain ⟨F1, hF1⟩ : ∃ F, F = nF e1 p1 v1 0 4 := ⟨_, rfl⟩
  obtain ⟨F2, hF2⟩ : ∃ F, F = nF e2 p2 v2 0 4 := ⟨_, rfl⟩
  have n1 := nF_rg e1 p1 v1 0 4
  have n2 := nF_rg e2 p2 v2 0 4
  rw [← hF1] at n1
  rw [← hF2] at n2
  obtain ⟨res, hres⟩ : ∃ res, res = pGr (V 2) (V 1 1) s rd := ⟨_, rfl⟩
  rw [← hres]
  unfold pGr pNu at hres
  simp only at hres
  rw [← hp1, ← he1, ← hv1, ← hp2, ← he2, ← hv2, ← hF1, ← hF2] at hres
  obtain ⟨g1, hg1⟩ : ∃ g1 : Int, g1 = if (0 : Int) = 0 ∧ F1 ≠ 0 then p1 else g := ⟨_, rfl⟩
  obtain ⟨f2, hf2⟩ : ∃ f2 : Int, f2 = if F1 = 0 then F2 else F1 := ⟨_, rfl⟩
  obtain ⟨g2, hg2⟩ : ∃ g2 : Int, g2 = if F1 = 0 ∧ F2 ≠ 0 then p2 else g1 := ⟨_, rfl⟩
  have f2r : 0 ≤ f2 ∧ f2 ≤ 2 := by rw [hf2]; split <;> omega
  have hbad : f2 ≠ 0 → res.1 = f2 ∧ res.2.1 = g2 := by
    intro h
    by_cases z1 : F1 = 0
    · rw [if_pos z1] at hf2
      rw [hres, if_neg (fun h => h z1), if_pos (by omega), hg2, if_pos ⟨z1, by omega⟩]
      exact ⟨hf2.symm, rfl⟩
    · rw [if_neg z1] at hf2
      rw [hres, if_pos z1, hg2, if_neg (fun h => z1 h.1), hg1, if_pos ⟨rfl, z1⟩]
      exact ⟨hf2.symm, rfl⟩
  have hgood : f2 = 0 → F1 = 0 ∧ F2 = 0 ∧ g2 = g ∧ res = if tb (rd (27 + v1)) v2 = true then (4, p2, s, rd) else pEnd (V 2) (V 1 1) e2 (iup (iup rd (27 + v1) (bOr (rd (27 + v1)) (s1 v2))) 32 (rd 32 + 1)) := by
    intro h
    have z1 : F1 = 0 := by
      by_cases z : F1 = 0
      · exact z
      · rw [if_neg z] at hf2
        omega
    rw [if_pos z1] at hf2
    have z2 : F2 = 0 := by omega
    refine ⟨z1, z2, ?_, ?_⟩
    · rw [hg2, if_neg (fun h => h.2 z2), hg1, if_neg (fun h => h.2 z1)]
    · rw [hres, if_neg (fun h => h z1), if_neg (fun h => h z2)]
  have hc1 := ct_X7_readNumber (V := V) (b := b) (s := s) (m := m) (f := 0) (g := g) (lo := 0) (hi := 4) (by omega) (by omega) hT hs (by omega)
  rw [← hp1, ← he1, ← hv1, ← hF1, if_pos rfl, ← hg1] at hc1
  have hc2 := ct_X7_readNumber (V := V) (b := b) (s := e1) (m := p1) (f := F1) (g := g1) (lo := 0) (hi := 4) (by omega) (by omega) hT (by omega) (by omega)
  rw [← hp2, ← he2, ← hv2, ← hF2, ← hg2, ← hf2] at hc2
  refine zC_of (by decide +kernel) (Nat.le_of_ble_eq_true rfl) rfl ?_
  refine z_aload_n dX7_readGrudge_0 rfl ?_
  refine y_iconst dX7_readGrudge_1 ?_
  refine y_iconst dX7_readGrudge_2 ?_
  refine y_callVi (hc1) kX7_83 dX7_readGrudge_3 rfl rfl (by first | assumption | rfl) rfl (by decide) rfl (Nat.le_of_ble_eq_true rfl) (fun q_3 V1 h_3 => ?_)
  obtain ⟨t1, t2⟩ := h_3
  rw [t1, t2]
  refine z_istore_n dX7_readGrudge_6 (by decide) rfl rfl ?_
  refine z_aload_n dX7_readGrudge_7 rfl ?_
  refine y_iconst dX7_readGrudge_8 ?_
  refine y_iconst dX7_readGrudge_9 ?_
  refine y_callVi (hc2) kX7_83 dX7_readGrudge_10 rfl rfl (by first | assumption | rfl) rfl (by decide) rfl (Nat.le_of_ble_eq_true rfl) (fun q_10 V2 h_10 => ?_)
  obtain ⟨t3, t4⟩ := h_10
  rw [t3, t4]
  refine z_istore_n dX7_readGrudge_13 (by decide) rfl rfl ?_
  refine z_aload_n dX7_readGrudge_14 rfl ?_
  refine y_callVr (ct_X7_failed (by omega)) kX7_36 dX7_readGrudge_15 rfl rfl (by first | assumption | rfl) rfl (by decide) rfl (Nat.le_of_ble_eq_true rfl) (fun r_15 h_15 => ?_)
  refine y_if_ne dX7_readGrudge_18 (by omega) (fun c_18 => ?_) (fun c_18 => ?_)
  · exact z_vret dX7_readGrudge_39 rfl (Nat.le_refl 0) (Nat.le_refl 0) ⟨_, rfl, rfl, V, e2, p2, f2, g2, rfl, fun _ _ => rfl, htu, by omega, by omega, Or.inl ⟨by omega, (hbad (by omega)).1, (hbad (by omega)).2⟩⟩
  · obtain ⟨z1, z2, z4, z5⟩ := hgood (by omega)
    have r1 := nF_0 (hF1.symm.trans z1)
    have r2 := nF_0 (hF2.symm.trans z2)
    have hto : tuR (vst V y 8 (bOr (V y 8) (s1 (v1 * 5 + v2)))) y := tuR_congr (vst_o (by omega)) (vst_o (by omega)) htu
    have hoo : ∀ a, a < y ∨ y + 5 < a → vst V y 8 (bOr (V y 8) (s1 (v1 * 5 + v2))) a = V a := fun a ha => vst_o (by omega)
    have htb := (q5 v1 (by omega) (by omega)).2.2 v2 (by omega) (by omega)
    rw [← htb] at z5
    refine z_aload_n dX7_readGrudge_21 rfl ?_
    refine z_iload_n dX7_readGrudge_22 rfl ?_
    refine z_iload_n dX7_readGrudge_23 rfl ?_
    refine y_callVi (ct_X9_addGrudge hy (by rw [rdr_o (by omega)]; omega) (by omega) (by omega)) kX7_95 dX7_readGrudge_24 rfl rfl (by first | assumption | rfl) rfl (by decide) rfl (Nat.le_of_ble_eq_true rfl) (fun q_24 V4 h_24 => ?_)
    rw [rdr_o (by omega), rdr_v (by omega)] at h_24
    obtain ⟨x1, x2⟩ := h_24
    rw [x2]
    have q_r : q_24 = 0 ∨ q_24 = 1 := by rw [x1]; split <;> omega
    refine y_if_ne dX7_readGrudge_27 (by omega) (fun c_27 => ?_) (fun c_27 => ?_)
    · have hnt : tb (V y 8) (v1 * 5 + v2) = false := by
        cases hh : tb (V y 8) (v1 * 5 + v2) with
        | false => rfl
        | true => rw [hh, if_pos rfl] at x1; omega
      rw [hnt, if_neg (by decide)] at z5
      have hfin : rdP V y g res (rdr (vst V y 8 (bOr (V y 8) (s1 (v1 * 5 + v2)))) e2 p2 f2 g2) := ⟨_, e2, p2, f2, g2, rfl, hoo, hto, by omega, by omega, Or.inr ⟨by omega, z4, _, YRd_grudge hY h32 (by omega) (by omega) hnt, z5⟩⟩
      exact z_vret dX7_readGrudge_39 rfl (Nat.le_refl 0) (Nat.le_refl 0) ⟨_, rfl, rfl, hfin⟩
    · have hnt : tb (V y 8) (v1 * 5 + v2) = true := by
        cases hh : tb (V y 8) (v1 * 5 + v2) with
        | true => rfl
        | false => rw [hh, if_neg (by decide)] at x1; omega
      rw [hnt, if_pos rfl] at z5
      have hfin : rdP V y g res (rdr (vst V y 8 (bOr (V y 8) (s1 (v1 * 5 + v2)))) e2 p2 4 p2) := ⟨_, e2, p2, 4, p2, rfl, hoo, hto, by omega, by omega, Or.inl ⟨by omega, by rw [z5], by rw [z5]⟩⟩
      refine z_aload_n dX7_readGrudge_30 rfl ?_
      refine y_iconst dX7_readGrudge_31 ?_
      refine z_aload_n dX7_readGrudge_32 rfl ?_
      refine y_getI (j := 3) fX7_22 dX7_readGrudge_33 rfl (by first | assumption | rfl) ?_
      rw [rdr_3]
      refine y_callVv (ct_X7_fail (by omega)) kX7_58 dX7_readGrudge_36 rfl rfl (by first | assumption | rfl) rfl (by decide) rfl (Nat.le_of_ble_eq_true rfl) (fun V5 h_36 => ?_)
      rw [if_pos (by omega)] at h_36
      subst h_36
      exact z_vret dX7_readGrudge_39 rfl (Nat.le_refl 0) (Nat.le_refl 0) ⟨_, rfl, rfl, hfin⟩
/-- n different ones of m are no more than m -/
theorem pigeon : ∀ (m n : Nat) (f : Nat → Int), (∀ i, i < n → 0 ≤ f i ∧ f i < m) → (∀ i j, i < n → j < n → f i = f j → i = j) → n ≤ m
  | 0, n, f, h, _ => by
    cases n with
    | zero => omega
    | succ n => have := h 0 (by omega); omega
  | m + 1, n, f, h, hi => by
    -- leave out the one that is m
    cases n with
    | zero => omega
    | succ n =>
      have hx : ∃ g : Nat → Int, (∀ i, i < n → 0 ≤ g i ∧ g i < m) ∧ (∀ i j, i < n → j < n → g i = g j → i = j) := by
        by_cases hq : ∃ q, q < n + 1 ∧ f q = m
        · obtain ⟨q, hq1, hq2⟩ := hq
          refine ⟨fun i => if i < q then f i else f (i + 1), fun i hi' => ?_, fun i j hi' hj he => ?_⟩
          · simp only
            split
            · have h1 := h i (by omega)
              have : f i ≠ m := fun hh => by have := hi i q (by omega) hq1 (by rw [hh, hq2]); omega
              omega
            · have h1 := h (i + 1) (by omega)
              have : f (i + 1) ≠ m := fun hh => by have := hi (i + 1) q (by omega) hq1 (by rw [hh, hq2]); omega
              omega
          · simp only at he
            split at he <;> split at he
            · exact hi i j (by omega) (by omega) he
            · have := hi i (j + 1) (by omega) (by omega) he; omega
            · have := hi (i + 1) j (by omega) (by omega) he; omega
            · have := hi (i + 1) (j + 1) (by omega) (by omega) he; omega
        · refine ⟨f, fun i hi' => ?_, fun i j hi' hj he => hi i j (by omega) (by omega) he⟩
          have h1 := h i (by omega)
          have : f i ≠ m := fun hh => hq ⟨i, by omega, hh⟩
          omega
      obtain ⟨g, hg1, hg2⟩ := hx
      have := pigeon m n g hg1 hg2
      omega
theorem mtB_iff {v : Int} : ∀ k : Nat, mtB rd v k = true ↔ ∃ i : Nat, i < k ∧ rd (34 + i) = v
  | 0 => by
    constructor
    · intro h; cases h
    · rintro ⟨i, h, _⟩; omega
  | k + 1 => by
    unfold mtB
    rw [Bool.or_eq_true, mtB_iff k, decide_eq_true_iff]
    constructor
    · rintro (⟨i, h1, h2⟩ | h)
      · exact ⟨i, by omega, h2⟩
      · exact ⟨k, by omega, h⟩
    · rintro ⟨i, h1, h2⟩
      by_cases hi : i = k
      · subst hi; exact Or.inr h2
      · exact Or.inl ⟨i, by omega, h2⟩
/-- met: its turn is set -/
theorem YRd_met {v : Int} (hY : YRd V y rd) (hv : 0 ≤ v ∧ v < rd 5) : mtB rd v (rd 33).toNat = true ↔ V (y + 5) v ≠ -1 := by
  obtain ⟨_, _, ⟨c1, c2, c3⟩, _, _, _, g, h⟩ := hY
  rw [mtB_iff]
  constructor
  · rintro ⟨i, h1, h2⟩ he
    have := (g i (by omega) (by omega)).2.2
    rw [h2, he] at this
    omega
  · intro hne
    rcases h v hv.1 hv.2 with h | ⟨h1, h2, h3⟩
    · exact absurd h hne
    · exact ⟨(V (y + 5) v).toNat, by omega, by rw [show ((V (y + 5) v).toNat : Int) = V (y + 5) v by omega]; exact h3⟩
/-- all seven are in: each is met -/
theorem YRd_full {v : Int} (hY : YRd V y rd) (hv : 0 ≤ v ∧ v < rd 5) (h7 : rd 33 = 7) : V (y + 5) v ≠ -1 := by
  intro he
  have hb := hY.2.1
  obtain ⟨_, _, ⟨c1, c2, c3⟩, _, _, _, g, h⟩ := hY
  have hg : ∀ i : Nat, i < 7 → 0 ≤ rd (34 + i) ∧ rd (34 + i) < rd 5 ∧ V (y + 5) (rd (34 + i)) = i := fun i hi => g i (by omega) (by omega)
  have := pigeon 7 8 (fun i => if i < 7 then rd (34 + i) else v) (fun i hi => by
    split
    · have := hg i (by assumption); omega
    · omega) (fun i j hi hj hij => by
    split at hij <;> split at hij
    · have h1 := hg i (by assumption)
      have h2 := hg j (by assumption)
      rw [hij, h2.2.2] at h1
      omega
    · have h1 := (hg i (by assumption)).2.2
      rw [hij, he] at h1
      omega
    · have h1 := (hg j (by assumption)).2.2
      rw [← hij, he] at h1
      omega
    · omega)
  omega
end

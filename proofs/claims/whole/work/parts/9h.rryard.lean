/-! ===== yard, alike ===== -/
/-- kinds told are kinds; wagons want roads -/
def rdQ (rd : Int → Int) : Prop := (∀ i : Int, 6 ≤ i → i < 13 → 0 ≤ rd i ∧ rd i ≤ 4) ∧ (rd 0 = 0 → rd 5 = 0)
section
variable {t : Int → Int} {z : Int}
theorem pEnd_Q {e : Int} {rd : Int → Int} (h : rdQ rd) : rdQ (pEnd t z e rd).2.2.2 := by
  unfold pEnd
  split <;> exact h
theorem rdQ_0 {rd : Int → Int} (h : rdQ rd) (h0 : 0 ≤ rd 0) (h4 : rd 0 ≤ 3) (v : Int) : rdQ (iup (iup rd (1 + rd 0) v) 0 (rd 0 + 1)) := by
  refine ⟨fun i i0 i1 => ?_, fun he => ?_⟩
  · rw [iup_n (by omega), iup_n (by omega)]; exact h.1 i i0 i1
  · rw [iup_s] at he; omega
theorem pRo_Q : ∀ (k : Nat) (a : Int) (rd : Int → Int), rd 0 + k = 4 → 0 ≤ rd 0 → rdQ rd → (pRo t z k a rd).1 = 0 → rdQ (pRo t z k a rd).2.2.2
  | 0, a, rd, _, _, _, h => absurd h (by show ¬ (1 : Int) = 0; omega)
  | k + 1, a, rd, hk, h0, hQ, h => by
    have hQ' := fun v => rdQ_0 hQ h0 (by omega) v
    by_cases hn : nF (de t z (sk t z a)) (sk t z a) (va t z (sk t z a)) 1 7 = 0
    · rw [pRo_g hn] at h ⊢
      split
      · rw [if_pos (by assumption)] at h
        exact pRo_Q k _ _ (by rw [iup_s]; omega) (by rw [iup_s]; omega) (hQ' _) h
      · exact pEnd_Q (hQ' _)
    · rw [pRo_f hn] at h
      exact absurd h hn
theorem pNu_Q {a lo hi : Int} {rd : Int → Int} {k : Int → Int → pRs} (hk : lo ≤ va t z (sk t z a) → va t z (sk t z a) ≤ hi → (k (va t z (sk t z a)) (de t z (sk t z a))).1 = 0 → rdQ (k (va t z (sk t z a)) (de t z (sk t z a))).2.2.2) (h : (pNu t z a lo hi rd k).1 = 0) : rdQ (pNu t z a lo hi rd k).2.2.2 := by
  by_cases hn : nF (de t z (sk t z a)) (sk t z a) (va t z (sk t z a)) lo hi = 0
  · rw [pNu_g hn] at h ⊢
    have := nF_0 hn
    exact hk this.1 this.2.1 h
  · rw [pNu_f hn] at h
    exact absurd h hn
theorem pWa_Q {a : Int} {rd : Int → Int} (hQ : rdQ rd) (h5 : 0 ≤ rd 5 ∧ rd 5 ≤ 6) (h0 : rd 0 ≠ 0) (h : (pWa t z a rd).1 = 0) : rdQ (pWa t z a rd).2.2.2 := by
  refine pNu_Q (fun l1 l2 h => pNu_Q (fun _ _ h => pNu_Q (fun _ _ h => pEnd_Q ?_) h) h) h
  refine ⟨fun i i0 i1 => ?_, fun he => ?_⟩
  · rw [iup_n (by omega), iup_n (by omega), iup_n (by omega)]
    by_cases hi : i = 6 + rd 5
    · rw [hi, iup_s]; omega
    · rw [iup_n hi]; exact hQ.1 i i0 i1
  · rw [iup_n (by omega), iup_n (by omega), iup_n (by omega), iup_n (by omega)] at he
    exact absurd he h0
theorem pGr_Q {a : Int} {rd : Int → Int} (hQ : rdQ rd) (h : (pGr t z a rd).1 = 0) : rdQ (pGr t z a rd).2.2.2 := by
  refine pNu_Q (fun l1 l2 h => pNu_Q (fun m1 m2 h => ?_) h) h
  split
  · rw [if_pos (by assumption)] at h
    exact absurd h (by show ¬ (4 : Int) = 0; omega)
  · refine pEnd_Q ⟨fun i i0 i1 => ?_, fun he => ?_⟩
    · rw [iup_n (by omega), iup_n (by omega)]; exact hQ.1 i i0 i1
    · rw [iup_n (by omega), iup_n (by omega)] at he ⊢
      exact hQ.2 he
theorem pTr_Q : ∀ (k : Nat) (a : Int) (rd : Int → Int), 0 ≤ rd 33 → rdQ rd → (pTr t z k a rd).1 = 0 → rdQ (pTr t z k a rd).2.2.2
  | 0, a, rd, _, _, h => pNu_Q (fun _ _ h => absurd h (by show ¬ (4 : Int) = 0; omega)) h
  | k + 1, a, rd, h33, hQ, h => by
    have hQ' : ∀ v, rdQ (iup (iup rd (34 + rd 33) v) 33 (rd 33 + 1)) := fun v => ⟨fun i i0 i1 => by rw [iup_n (by omega), iup_n (by omega)]; exact hQ.1 i i0 i1, fun he => by rw [iup_n (by omega), iup_n (by omega)] at he ⊢; exact hQ.2 he⟩
    refine pNu_Q (fun _ _ h => ?_) h
    split
    · rw [if_pos (by assumption)] at h
      exact absurd h (by show ¬ (4 : Int) = 0; omega)
    · rw [if_neg (by assumption)] at h
      split
      · rw [if_pos (by assumption)] at h
        exact pTr_Q k _ _ (by rw [iup_s]; omega) (hQ' _) h
      · exact pEnd_Q (hQ' _)
theorem pCl_Q {p : Int} {rd : Int → Int} (hK : rdK rd) (hQ : rdQ rd) (h : (pCl t z p rd).1 = 0) : rdQ (pCl t z p rd).2.2.2 := by
  have k0 := hK.1
  have k5 := hK.2.1
  have k33 := hK.2.2.2.1
  have key : ∀ r : pRs, r = pCl t z p rd → r.1 = 0 → rdQ r.2.2.2 := by
    intro r hr
    unfold pCl at hr
    repeat' (split at hr)
    all_goals intro h
    all_goals rw [hr] at h ⊢
    all_goals first
      | exact absurd h (by show ¬ (1 : Int) = 0; omega)
      | exact absurd h (by show ¬ (3 : Int) = 0; omega)
      | exact pRo_Q _ _ _ (by omega) (by omega) hQ h
      | exact pWa_Q hQ (by omega) (by assumption) h
      | exact pGr_Q hQ h
      | exact pTr_Q _ _ _ (by omega) hQ h
  exact key _ rfl h
theorem pYd_Q : ∀ (k : Nat) (a : Int) (rd : Int → Int), (pYd t z k a rd).1 = 0 → rdK rd → rdQ rd → rdQ (pYd t z k a rd).2.2.2
  | 0, a, rd, _, _, h => h
  | k + 1, a, rd, h0, hK, hQ => by
    unfold pYd at h0 ⊢
    by_cases h1 : sk t z a = z
    · rw [if_pos h1] at h0 ⊢; exact hQ
    · rw [if_neg h1] at h0 ⊢
      by_cases h2 : (pCl t z (sk t z a) rd).1 ≠ 0
      · rw [if_pos h2] at h0 ⊢; exact absurd h0 h2
      · rw [if_neg h2] at h0 ⊢
        exact pYd_Q k _ _ h0 (pCl_K hK (by omega)) (pCl_Q hK hQ (by omega))
end
theorem YRd_rd {V : Nat → Int → Int} {y : Nat} {rd rd' : Int → Int} (h : YRd V y rd) (e : ∀ j : Int, 0 ≤ j → j ≤ 40 → rd' j = rd j) : YRd V y rd' := by
  obtain ⟨y1, y2, y3, y4, y5, y6, y7, y8⟩ := h
  unfold YRd
  rw [e 0 (by omega) (by omega), e 5 (by omega) (by omega), e 33 (by omega) (by omega), e 32 (by omega) (by omega)]
  refine ⟨y1, y2, y3, fun r r0 r1 => by rw [e _ (by omega) (by omega)]; exact y4 r r0 r1, fun w w0 w1 => by rw [e _ (by omega) (by omega), e _ (by omega) (by omega), e _ (by omega) (by omega)]; exact y5 w w0 w1, ⟨y6.1, y6.2.1, y6.2.2.1, y6.2.2.2.1, fun a a0 a4 => by rw [e _ (by omega) (by omega)]; exact y6.2.2.2.2 a a0 a4⟩, fun i i0 i1 => by rw [e _ (by omega) (by omega)]; exact y7 i i0 i1, fun w w0 w1 => ?_⟩
  rcases y8 w w0 w1 with h | h
  · exact Or.inl h
  · exact Or.inr ⟨h.1, h.2.1, by rw [e _ (by omega) (by omega)]; exact h.2.2⟩
theorem beg_stI {Y N : Int → Int} {W : Int} (hW : 0 ≤ W ∧ W ≤ 7) (h5 : Y 5 = W) (hr : ∀ r : Int, 0 ≤ r → r < Y 0 → 0 ≤ Y (1 + r)) (e : ∀ j : Int, 0 ≤ j → j < 47 → N j = begN W j) : stI Y N 0 := by
  have e0 : N 0 = W := by rw [e 0 (by omega) (by omega)]; rfl
  have e8 : ∀ r : Int, 0 ≤ r → r < 4 → N (8 + r) = 0 := fun r r0 r4 => by
    rw [e _ (by omega) (by omega)]; unfold begN; rw [if_neg (by omega), if_neg (by omega), if_neg (by omega)]
  have e1 : ∀ i : Int, 1 ≤ i → i < 8 → N i = i - 1 := fun i i0 i1 => by
    rw [e _ (by omega) (by omega)]; unfold begN; rw [if_neg (by omega), if_pos ⟨i0, i1⟩]
  have eo : ∀ i : Int, 8 ≤ i → i < 46 → N i = 0 := fun i i0 i1 => by
    rw [e _ (by omega) (by omega)]; unfold begN; rw [if_neg (by omega), if_neg (by omega), if_neg (by omega)]
  have e46 : N 46 = -1 := by rw [e _ (by omega) (by omega)]; rfl
  refine ⟨⟨by rw [e0]; exact hW.1, fun r r0 r4 => by rw [e8 r r0 r4]; omega⟩, ?_, ⟨fun i i0 i1 => by rw [e1 i i0 i1]; omega, fun i i0 i1 => by rw [eo i (by omega) (by omega)]; omega⟩, fun i i0 i1 => by rw [eo i (by omega) (by omega)]; omega, by rw [e46]; omega, fun r r0 r4 => by rw [e8 r r0 r4]; exact ⟨fun h => hr r r0 h, fun _ => rfl⟩, ?_, ?_, ?_⟩
  · unfold totN
    rw [e0, eo 8 (by omega) (by omega), eo 9 (by omega) (by omega), eo 10 (by omega) (by omega), eo 11 (by omega) (by omega), h5]
    omega
  · intro l i l0 l4 i0 i1
    by_cases hl : l = 4
    · rw [hl, lcN_4, e0] at i1
      rw [hl, laN_4, e1 _ (by omega) (by omega), h5]
      omega
    · rw [lcN_r hl, e8 l l0 (by omega)] at i1
      omega
  · intro l i l' i' l0 l4 l0' l4' i0 i1 i0' i1' he
    by_cases hl : l = 4
    · by_cases hl' : l' = 4
      · rw [hl, lcN_4, e0] at i1
        rw [hl', lcN_4, e0] at i1'
        rw [hl, hl', laN_4, laN_4, e1 _ (by omega) (by omega), e1 _ (by omega) (by omega)] at he
        omega
      · rw [lcN_r hl', e8 l' l0' (by omega)] at i1'
        omega
    · rw [lcN_r hl, e8 l l0 (by omega)] at i1
      omega
  · rw [eo 44 (by omega) (by omega), eo 45 (by omega) (by omega)]
    omega
section
variable {V V1 V2 : Nat → Int → Int} {b b' : Bool} {n : Int}
theorem mst_f {V : Nat → Int → Int} {a p s f v w j : Int} (h : j < 17 ∨ 22 < j) : mst V a p s f v w 134 j = V 134 j := mst_j h
theorem rr_yard (h : RR V b n) (hn : n + 1 ≤ 64) {q q' : Int} (hx : ydP (rd0M V) V b q V1 b') (hm : myP V1 q' V2) (h134 : ∀ a : Nat, 134 ≤ a → V1 a = V a) : q' = q ∧ RR V2 b' (n + 1) := by
  have h7 := RR_7 h
  obtain ⟨t1, t2, t3, t4⟩ := RR_T h
  obtain ⟨res, hres, hx⟩ := hx
  obtain ⟨res', hres', rd', ma, mp, ms, mf, mv, mw, hm⟩ := hm
  have hrr : res' = res := by
    rw [hres', hres, h134 141 (by omega), h134 134 (by omega), ← t1, ← t2]
    unfold rd0M
    rw [h134 136 (by omega)]
  rw [hrr] at hm
  have hyD := yD_Y b
  have hyN := yN_Y b
  have hdis : (yN b = 120 ∧ yD b = 127) ∨ (yN b = 127 ∧ yD b = 120) := by cases b <;> decide
  rcases hx with ⟨x1, x2, x3, U, s', m', f', g', u1, u2, u3, u4, u5, u6, u7⟩ | ⟨x1, x2, x3, Va, Vb, ⟨U, s', m', f', g', u1, u2, u3, u4, u5, u6, u7⟩, hbg, xV⟩
  · -- a fault
    obtain ⟨m1, m2, m3⟩ := hm.resolve_right (fun z => x1 z.1)
    have hg : res.2.1 = g' := (u7.resolve_right (fun z => x1 (by rw [u6]; exact z.1))).2
    refine ⟨by rw [m2, x3], ?_⟩
    rw [x2]
    have o1 : ∀ a : Nat, a ≠ 1 → V1 a = U a := fun a ha => by rw [u1, vst_o ha, rdr_o ha]
    have o2 : ∀ a : Nat, a ≠ 1 → (a < yD b ∨ yD b + 5 < a) → V1 a = V a := fun a ha hb => by rw [o1 a ha]; exact u2 a hb
    have x11 : V1 1 1 = 0 := by rw [u1, vst_s]
    have x15 : V1 1 5 = g' := by rw [u1, vst_n (by decide), rdr_5]
    have v2o : ∀ a : Nat, a ≠ 134 → a ≠ 136 → V2 a = V1 a := fun a q1 q2 => by rw [m3, vst_o q1, vst_o q1, mst_o q1, zup_n _ _ q2, vst_o q1]
    have v2x : ∀ a : Nat, a ≠ 1 → a ≠ 134 → a ≠ 136 → (a < yD b ∨ yD b + 5 < a) → V2 a = V a := fun a q0 q1 q2 q3 => by rw [v2o a q1 q2]; exact o2 a q0 q3
    have v9 : V2 134 9 = 0 := by rw [m3, vst_n (by decide), vst_s]
    have v10 : V2 134 10 = res.2.1 := by rw [m3, vst_s]
    have vj : ∀ j : Int, j ≠ 9 → j ≠ 10 → j < 17 → V2 134 j = V 134 j := fun j q9 q10 q17 => by
      rw [m3, vst_n q10, vst_n q9, mst_f (by omega), zup_n _ _ (by decide), vst_n q10, h134 134 (by omega)]
    have e5 : V2 135 = V 135 := v2x 135 (by omega) (by omega) (by omega) (by omega)
    obtain ⟨a0, a1, a2, a3, a4, a5, a6, a7, a8, a9, a10, a11⟩ := h
    have htD : tuR V2 (yD b) := by
      unfold tuR at u3 ⊢
      rw [v2o _ (by omega) (by omega), v2o _ (by omega) (by omega), o1 _ (by omega), o1 _ (by omega)]
      exact u3
    have htN : tuR V2 (yN b) := by
      have ht : tuR V (yN b) := by
        rcases hyN with hy | hy <;> rw [hy]
        · exact a2.2.2.1
        · exact a2.2.2.2
      unfold tuR at ht ⊢
      rw [v2x _ (by omega) (by omega) (by omega) (by omega), v2x _ (by omega) (by omega) (by omega) (by omega)]
      exact ht
    refine ⟨by omega, ⟨by rw [v2o 1 (by omega) (by omega), x11, v9], by rw [v2x 2 (by omega) (by omega) (by omega) (by omega), v2x 141 (by omega) (by omega) (by omega) (by omega)]; exact t2, ⟨by rw [v9]; omega, by rw [v2x 141 (by omega) (by omega) (by omega) (by omega)]; exact t3.2⟩, by rw [v2o 1 (by omega) (by omega), x15, v10, hg]⟩, ⟨?_, ⟨MS_congr e5 a2.2.1.1, by rw [e5]; exact a2.2.1.2⟩, ?_, ?_⟩, rrN_c a3 (by omega) h7 (fun a q1 q2 => v2x a (by omega) (by omega) (by omega) (by omega)) (v2x 137 (by omega) (by omega) (by omega) (by omega)) e5, rrG_c a4 (fun a q => v2x a (by omega) (by omega) (by omega) (by omega)), rrP_c a5 (by omega) h7 (v2x 7 (by omega) (by omega) (by omega) (by omega)) (fun a q1 q2 => v2x a (by omega) (by omega) (by omega) (by omega)) (vj 4 (by omega) (by omega) (by omega)) (v2x 138 (by omega) (by omega) (by omega) (by omega)) e5, rrI_c a6 (by omega) h7 (fun a q1 q2 => v2x a (by omega) (by omega) (by omega) (by omega)) (v2x 139 (by omega) (by omega) (by omega) (by omega)) (v2x 140 (by omega) (by omega) (by omega) (by omega)) e5, rrS_c a7 (by rw [v2x 0 (by omega) (by omega) (by omega) (by omega)]) (vj 7 (by omega) (by omega) (by omega)), rrC_c a8 (v2x 99 (by omega) (by omega) (by omega) (by omega)) (vj 12 (by omega) (by omega) (by omega)) (v2x 142 (by omega) (by omega) (by omega) (by omega)), rrH_c a9 (fun a q1 q2 => v2x a (by omega) (by omega) (by omega) (by omega)) (vj 14 (by omega) (by omega) (by omega)) (v2x 143 (by omega) (by omega) (by omega) (by omega)) e5, rrB_c a10 (fun a q1 q2 => v2x a (by omega) (by omega) (by omega) (by omega)) (vj 16 (by omega) (by omega) (by omega)) (v2x 144 (by omega) (by omega) (by omega) (by omega)) e5, rrX_c a11 (v2x 114 (by omega) (by omega) (by omega) (by omega)) (v2x 115 (by omega) (by omega) (by omega) (by omega)) (v2x 118 (by omega) (by omega) (by omega) (by omega)) (v2x 119 (by omega) (by omega) (by omega) (by omega))⟩
    · rw [e5]
      exact YRd_congr (fun a q1 q2 => v2x a (by omega) (by omega) (by omega) (by omega)) a2.1
    · rcases hdis with ⟨d1, d2⟩ | ⟨d1, d2⟩
      · rw [← d1]; exact htN
      · rw [← d2]; exact htD
    · rcases hdis with ⟨d1, d2⟩ | ⟨d1, d2⟩
      · rw [← d2]; exact htD
      · rw [← d1]; exact htN
  · -- read
    obtain ⟨m1, m2, m3⟩ := hm.resolve_left (fun z => z.1 x1)
    obtain ⟨hf0, hg, hYU⟩ := u7.resolve_left (fun z => z.1 (by rw [← u6]; exact x1))
    refine ⟨by rw [m2, x3], ?_⟩
    rw [x2]
    have hK0 : rdK (rd0M V) := rdK_0 (rd0M_0 V)
    have hQ0 : rdQ (rd0M V) := ⟨fun i i0 i1 => by rw [rd0M_0 V i (by omega) (by omega)]; omega, fun _ => rd0M_0 V 5 (by omega) (by omega)⟩
    have hK : rdK res.2.2.2 := by rw [hres] at x1 ⊢; exact pRs_fault _ _ _ x1 hK0
    have hQ : rdQ res.2.2.2 := by rw [hres] at x1 ⊢; exact pYd_Q _ _ _ x1 hK0 hQ0
    obtain ⟨W, hW⟩ : ∃ W, W = res.2.2.2 5 := ⟨_, rfl⟩
    have hWr : 0 ≤ W ∧ W ≤ 7 := by rw [hW]; exact hK.2.1
    rw [← hW] at hbg
    obtain ⟨b1, b2, b3, b4, b5, b6, b7, b8, b9, b10, b11⟩ := hbg
    have oa : ∀ a : Nat, a ≠ 1 → Va a = U a := fun a ha => by rw [u1, vst_o ha, rdr_o ha]
    have va1 : Va 1 1 = 0 := by rw [u1, vst_s]
    have va5 : Va 1 5 = -1 := by rw [u1, vst_n (by decide), rdr_5, hg]
    unfold tearX at xV
    have ox : ∀ a : Nat, a ≠ 7 → a ≠ 89 → a ≠ 94 → a ≠ 99 → a ≠ 100 → a ≠ 104 → V1 a = Vb a := fun a q7 q8 q9 q0 q1 q4 => by rw [xV, vst_o q4, vst_o q1, vst_o q0, vst_o q0, vst_o q0, vst_o q9, vst_o q8, vst_o q7]
    have o2 : ∀ a : Nat, a ≠ 1 → (a < 3 ∨ 7 < a) → a ≠ 89 → a ≠ 94 → a ≠ 99 → a ≠ 100 → a ≠ 104 → V1 a = U a := fun a q1 q2 q8 q9 q0 q3 q4 => by rw [ox a (by omega) q8 q9 q0 q3 q4, b11 a (by omega) (by omega) (by omega) (by omega), oa a q1]
    have o3 : ∀ a : Nat, a ≠ 1 → (a < 3 ∨ 7 < a) → a ≠ 89 → a ≠ 94 → a ≠ 99 → a ≠ 100 → a ≠ 104 → (a < yD b ∨ yD b + 5 < a) → V1 a = V a := fun a q1 q2 q8 q9 q0 q3 q4 q5 => by rw [o2 a q1 q2 q8 q9 q0 q3 q4]; exact u2 a q5
    obtain ⟨Z, hZ⟩ : ∃ Z, Z = zup (vst (mst (zup (vst V1 134 10 (-1)) 136 res.2.2.2) ma mp ms mf mv mw) 134 9 0) 135 (icp res.2.2.2 (V1 135) 0 0 41) := ⟨_, rfl⟩
    rw [← hZ] at m3
    unfold bgM at m3
    have zo : ∀ a : Nat, a ≠ 134 → a ≠ 135 → a ≠ 136 → Z a = V1 a := fun a q1 q2 q3 => by rw [hZ, zup_n _ _ q2, vst_o q1, mst_o q1, zup_n _ _ q3, vst_o q1]
    have z135 : ∀ j : Int, 0 ≤ j → j ≤ 40 → Z 135 j = res.2.2.2 j := fun j j0 j1 => by
      rw [hZ, zup_s]
      unfold icp
      rw [if_pos (by omega), show (0 : Int) + (j - 0) = j by omega]
    have v2o : ∀ a : Nat, a ≠ 134 → a ≠ 135 → a ≠ 136 → a ≠ 137 → a ≠ 140 → V2 a = V1 a := fun a q1 q2 q3 q4 q5 => by rw [m3, vst_o q5, vst_o q5, vst_o q1, vst_o q1, vst_o q1, vst_o q1, zup_n _ _ q4]; exact zo a q1 q2 q3
    have v135 : V2 135 = Z 135 := by rw [m3, vst_o (by decide), vst_o (by decide), vst_o (by decide), vst_o (by decide), vst_o (by decide), vst_o (by decide), zup_n _ _ (by decide)]
    have v137 : V2 137 = begF W (V1 137) := by
      rw [m3, vst_o (by decide), vst_o (by decide), vst_o (by decide), vst_o (by decide), vst_o (by decide), vst_o (by decide), zup_s, z135 5 (by omega) (by omega), ← hW, zo 137 (by omega) (by omega) (by omega)]
    have v140 : V2 140 = iup (iup (V1 140) 0 0) 1 0 := by
      rw [m3]
      unfold vst
      rw [zup_s, zup_s, zup_n _ _ (by decide), zup_n _ _ (by decide), zup_n _ _ (by decide), zup_n _ _ (by decide), zup_n _ _ (by decide), zo 140 (by omega) (by omega) (by omega)]
    have f4 : V2 134 4 = 0 := by rw [m3, vst_o (by decide), vst_o (by decide), vst_n (by decide), vst_n (by decide), vst_n (by decide), vst_s]
    have f12 : V2 134 12 = 0 := by rw [m3, vst_o (by decide), vst_o (by decide), vst_n (by decide), vst_n (by decide), vst_s]
    have f14 : V2 134 14 = 0 := by rw [m3, vst_o (by decide), vst_o (by decide), vst_n (by decide), vst_s]
    have f16 : V2 134 16 = 0 := by rw [m3, vst_o (by decide), vst_o (by decide), vst_s]
    have fz : ∀ j : Int, j ≠ 4 → j ≠ 12 → j ≠ 14 → j ≠ 16 → V2 134 j = Z 134 j := fun j q4 q12 q14 q16 => by rw [m3, vst_o (by decide), vst_o (by decide), vst_n q16, vst_n q14, vst_n q12, vst_n q4, zup_n _ _ (by decide)]
    have f9 : V2 134 9 = 0 := by rw [fz 9 (by omega) (by omega) (by omega) (by omega), hZ, zup_n _ _ (by decide), vst_s]
    have f10 : V2 134 10 = -1 := by rw [fz 10 (by omega) (by omega) (by omega) (by omega), hZ, zup_n _ _ (by decide), vst_n (by decide), mst_f (by omega), zup_n _ _ (by decide), vst_s]
    have f7 : V2 134 7 = V 134 7 := by rw [fz 7 (by omega) (by omega) (by omega) (by omega), hZ, zup_n _ _ (by decide), vst_n (by decide), mst_f (by omega), zup_n _ _ (by decide), vst_n (by decide), h134 134 (by omega)]
    have w11 : V2 1 1 = 0 := by rw [v2o 1 (by omega) (by omega) (by omega) (by omega) (by omega), ox 1 (by omega) (by omega) (by omega) (by omega) (by omega) (by omega), b11 1 (by omega) (by omega) (by omega) (by omega), va1]
    have w15 : V2 1 5 = -1 := by rw [v2o 1 (by omega) (by omega) (by omega) (by omega) (by omega), ox 1 (by omega) (by omega) (by omega) (by omega) (by omega) (by omega), b11 1 (by omega) (by omega) (by omega) (by omega), va5]
    have w3 : ∀ a : Nat, 3 ≤ a → a ≤ 6 → V2 a = Vb a := fun a q1 q2 => by rw [v2o a (by omega) (by omega) (by omega) (by omega) (by omega), ox a (by omega) (by omega) (by omega) (by omega) (by omega) (by omega)]
    have wx : ∀ a : Nat, a ≠ 1 → (a < 3 ∨ 7 < a) → a ≠ 89 → a ≠ 94 → a ≠ 99 → a ≠ 100 → a ≠ 104 → (a < yD b ∨ yD b + 5 < a) → (a < 134 ∨ 137 < a) → a ≠ 140 → V2 a = V a := fun a q1 q2 q8 q9 q0 q3 q4 q5 q6 q7 => by rw [v2o a (by omega) (by omega) (by omega) (by omega) q7]; exact o3 a q1 q2 q8 q9 q0 q3 q4 q5
    have wu : ∀ a : Nat, yD b ≤ a → a ≤ yD b + 6 → V2 a = U a := fun a q1 q2 => by rw [v2o a (by omega) (by omega) (by omega) (by omega) (by omega)]; exact o2 a (by omega) (by omega) (by omega) (by omega) (by omega) (by omega) (by omega)
    have w71 : V2 7 1 = 0 := by rw [v2o 7 (by omega) (by omega) (by omega) (by omega) (by omega), xV, vst_o (by decide), vst_o (by decide), vst_o (by decide), vst_o (by decide), vst_o (by decide), vst_o (by decide), vst_o (by decide), vst_s]
    have w72 : V2 7 2 = V 7 2 := by rw [v2o 7 (by omega) (by omega) (by omega) (by omega) (by omega), xV, vst_o (by decide), vst_o (by decide), vst_o (by decide), vst_o (by decide), vst_o (by decide), vst_o (by decide), vst_o (by decide), vst_n (by decide), b11 7 (by omega) (by omega) (by omega) (by omega), oa 7 (by omega), u2 7 (by omega)]
    have w89 : V2 89 2 = 0 ∧ V2 89 1 = V 89 1 := by
      rw [v2o 89 (by omega) (by omega) (by omega) (by omega) (by omega), xV, vst_o (by decide), vst_o (by decide), vst_o (by decide), vst_o (by decide), vst_o (by decide), vst_o (by decide), vst_s, vst_n (by decide), vst_o (by decide), b11 89 (by omega) (by omega) (by omega) (by omega), oa 89 (by omega), u2 89 (by omega)]
      exact ⟨rfl, rfl⟩
    have w94 : V2 94 2 = 0 ∧ V2 94 1 = V 94 1 := by
      rw [v2o 94 (by omega) (by omega) (by omega) (by omega) (by omega), xV, vst_o (by decide), vst_o (by decide), vst_o (by decide), vst_o (by decide), vst_o (by decide), vst_s, vst_n (by decide), vst_o (by decide), vst_o (by decide), b11 94 (by omega) (by omega) (by omega) (by omega), oa 94 (by omega), u2 94 (by omega)]
      exact ⟨rfl, rfl⟩
    have w99 : V2 99 0 = 0 ∧ V2 99 1 = 0 ∧ V2 99 2 = 0 := by
      rw [v2o 99 (by omega) (by omega) (by omega) (by omega) (by omega), xV, vst_o (by decide), vst_o (by decide), vst_n (by decide), vst_n (by decide), vst_s, vst_n (by decide), vst_s, vst_s]
      exact ⟨rfl, rfl, rfl⟩
    have w100 : V2 100 3 = 0 := by rw [v2o 100 (by omega) (by omega) (by omega) (by omega) (by omega), xV, vst_o (by decide), vst_s]
    have w104 : V2 104 3 = 0 := by rw [v2o 104 (by omega) (by omega) (by omega) (by omega) (by omega), xV, vst_s]
    have hYr := hYU.2.2.2.1
    obtain ⟨a0, a1, a2, a3, a4, a5, a6, a7, a8, a9, a10, a11⟩ := h
    have hY2 : YRd V2 (yD b) (V2 135) := by
      rw [v135]
      exact YRd_rd (YRd_congr (fun a q1 q2 => wu a q1 (by omega)) hYU) z135
    have hcell : ∀ j : Int, 0 ≤ j → j < 47 → V2 137 j = begN W j := fun j j0 j1 => by
      rw [v137]
      unfold begF
      rw [if_pos ⟨j0, j1⟩]
    have e5 : V2 135 5 = W := by rw [v135, z135 5 (by omega) (by omega), hW]
    have e0 : V2 135 0 = res.2.2.2 0 := by rw [v135, z135 0 (by omega) (by omega)]
    have hst : stI (V2 135) (V2 137) 0 := beg_stI hWr e5 (fun r r0 r1 => by
      rw [e0] at r1
      rw [v135, z135 _ (by omega) (by have := hK.1; omega)]
      have := hYr r r0 r1
      omega) hcell
    have n0 : V2 137 0 = W := by rw [hcell 0 (by omega) (by omega)]; rfl
    have n8 : ∀ r : Int, 0 ≤ r → r < 4 → V2 137 (8 + r) = 0 ∧ V2 137 (40 + r) = 0 := fun r r0 r4 => by
      rw [hcell _ (by omega) (by omega), hcell _ (by omega) (by omega)]
      unfold begN
      rw [if_neg (by omega), if_neg (by omega), if_neg (by omega), if_neg (by omega), if_neg (by omega), if_neg (by omega)]
      exact ⟨rfl, rfl⟩
    have htD : tuR V2 (yD b) := by
      unfold tuR at u3 ⊢
      rw [wu _ (by omega) (by omega), wu _ (by omega) (by omega)]
      exact u3
    have htN : tuR V2 (yN b) := by
      have ht : tuR V (yN b) := by
        rcases hyN with hy | hy <;> rw [hy]
        · exact a2.2.2.1
        · exact a2.2.2.2
      unfold tuR at ht ⊢
      rw [wx _ (by omega) (by omega) (by omega) (by omega) (by omega) (by omega) (by omega) (by omega) (by omega) (by omega), wx _ (by omega) (by omega) (by omega) (by omega) (by omega) (by omega) (by omega) (by omega) (by omega) (by omega)]
      exact ht
    refine ⟨by omega, ⟨by rw [w11, f9], by rw [wx 2 (by omega) (by omega) (by omega) (by omega) (by omega) (by omega) (by omega) (by omega) (by omega) (by omega), wx 141 (by omega) (by omega) (by omega) (by omega) (by omega) (by omega) (by omega) (by omega) (by omega) (by omega)]; exact t2, ⟨by rw [f9]; omega, by rw [wx 141 (by omega) (by omega) (by omega) (by omega) (by omega) (by omega) (by omega) (by omega) (by omega) (by omega)]; exact t3.2⟩, by rw [w15, f10]⟩, ⟨?_, ⟨?_, ?_⟩, ?_, ?_⟩, ⟨?_, stI_up hst (by omega)⟩, ?_, ?_, ?_, rrS_c a7 (by rw [wx 0 (by omega) (by omega) (by omega) (by omega) (by omega) (by omega) (by omega) (by omega) (by omega) (by omega)]) f7, rrC_0 a8 w99.1 w99.2.1 w99.2.2 f12 (wx 142 (by omega) (by omega) (by omega) (by omega) (by omega) (by omega) (by omega) (by omega) (by omega) (by omega)), ⟨by rw [w100, f14], by rw [w100]; omega, fun k k0 k1 => by rw [w100] at k1; omega⟩, ⟨by rw [w104, f16], by rw [w104]; omega, fun k k0 k1 => by rw [w104] at k1; omega⟩, rrX_c a11 (wx 114 (by omega) (by omega) (by omega) (by omega) (by omega) (by omega) (by omega) (by omega) (by omega) (by omega)) (wx 115 (by omega) (by omega) (by omega) (by omega) (by omega) (by omega) (by omega) (by omega) (by omega) (by omega)) (wx 118 (by omega) (by omega) (by omega) (by omega) (by omega) (by omega) (by omega) (by omega) (by omega) (by omega)) (wx 119 (by omega) (by omega) (by omega) (by omega) (by omega) (by omega) (by omega) (by omega) (by omega) (by omega))⟩
    · rw [yN_not]; exact hY2
    · refine ⟨by rw [e0]; exact hK.1, by rw [e5]; exact hWr, fun i i0 i1 => by rw [v135, z135 _ (by omega) (by omega)]; exact hQ.1 i i0 i1, fun i i0 i1 => ?_, fun r r0 r1 => ?_⟩
      · rw [v135, z135 _ (by omega) (by omega)]
        have := hK.2.2.2.2 (i - 27) (by omega) (by omega)
        rw [show 27 + (i - 27) = i by omega] at this
        omega
      · rw [e0] at r1
        rw [v135, z135 _ (by omega) (by have := hK.1; omega)]
        exact (hYr r r0 r1).2
    · rw [e0, e5, hW]; exact hQ.2
    · rcases hdis with ⟨d1, d2⟩ | ⟨d1, d2⟩
      · rw [← d1]; exact htN
      · rw [← d2]; exact htD
    · rcases hdis with ⟨d1, d2⟩ | ⟨d1, d2⟩
      · rw [← d2]; exact htD
      · rw [← d1]; exact htN
    · refine ⟨⟨?_, ?_, ?_⟩, ?_, fun r r0 r4 => ⟨?_, ?_⟩, fun r i r0 r4 i0 i1 => ?_, fun i i0 i1 => ?_⟩
      · rw [w3 3 (by omega) (by omega), b5, hcell _ (by omega) (by omega)]; rfl
      · rw [w3 3 (by omega) (by omega), b6, hcell _ (by omega) (by omega)]; rfl
      · rw [w3 3 (by omega) (by omega), b7, hcell _ (by omega) (by omega)]; rfl
      · show V2 5 4 = _
        rw [w3 5 (by omega) (by omega), b1, n0]
      · show V2 5 r = _
        rw [w3 5 (by omega) (by omega), b2 r r0 (by omega), (n8 r r0 r4).1]
      · show V2 6 r = _
        rw [w3 6 (by omega) (by omega), b4 r r0 (by omega), (n8 r r0 r4).2]
      · rw [(n8 r r0 r4).1] at i1
        omega
      · show V2 4 (28 + (V2 137 0 - 1 - i)) = _
        rw [n0] at i1 ⊢
        rw [w3 4 (by omega) (by omega), b3 (W - 1 - i) (by omega) (by omega), hcell _ (by omega) (by omega)]
        unfold begN
        rw [if_neg (by omega), if_pos (by omega)]
        omega
    · intro s hs
      have hsr := isS_rg hs
      by_cases h3 : s = 3
      · rw [h3]
        unfold gSt
        rw [w3 _ (by omega) (by omega), w3 _ (by omega) (by omega), w3 _ (by omega) (by omega)]
        exact ⟨b8, b9, b10⟩
      · exact gSt_c (a4 s hs) (wx _ (by omega) (by omega) (by omega) (by omega) (by omega) (by omega) (by omega) (by omega) (by omega) (by omega)) (wx _ (by omega) (by omega) (by omega) (by omega) (by omega) (by omega) (by omega) (by omega) (by omega) (by omega)) (wx _ (by omega) (by omega) (by omega) (by omega) (by omega) (by omega) (by omega) (by omega) (by omega) (by omega))
    · exact ⟨by rw [w71, f4], by rw [w71]; omega, by rw [w72]; exact a5.2.2.1, fun k k0 k1 => by rw [w71] at k1; omega⟩
    · have hV140 : V1 140 = V 140 := h134 140 (by omega)
      refine ⟨by rw [v140, hV140]; exact iup_le (iup_le a6.1 (by omega)) (by omega), fun i i0 i1 => ?_⟩
      obtain ⟨g1, g2, g3, g4⟩ := a6.2 i i0 i1
      have z0 : V2 140 i = 0 := by
        rw [v140]
        by_cases hi : i = 1
        · rw [hi, iup_s]
        · rw [iup_n hi, show i = 0 by omega, iup_s]
      have w139 : V2 139 = V 139 := wx 139 (by omega) (by omega) (by omega) (by omega) (by omega) (by omega) (by omega) (by omega) (by omega) (by omega)
      have himp : V2 (imP i) 2 = 0 ∧ V2 (imP i) 1 = V (imP i) 1 := by
        rcases imP_rg i with hi | hi <;> rw [hi]
        · exact w89
        · exact w94
      rw [himp.1, himp.2, z0, w139]
      exact ⟨rfl, g2, g3, fun hk => by omega⟩
end

/-! ===== what stands, on both sides ===== -/
/-- how many stand in a line (4: the hump), and who, as the model has it -/
def lcN (N : Int → Int) (l : Int) : Int := if l = 4 then N 0 else N (8 + l)
def laN (N : Int → Int) (l i : Int) : Int := if l = 4 then N (1 + i) else N (12 + 7 * l + i)
theorem lcN_4 (N : Int → Int) : lcN N 4 = N 0 := if_pos rfl
theorem laN_4 (N : Int → Int) (i : Int) : laN N 4 i = N (1 + i) := if_pos rfl
theorem lcN_r {N : Int → Int} {l : Int} (h : l ≠ 4) : lcN N l = N (8 + l) := if_neg h
theorem laN_r {N : Int → Int} {l i : Int} (h : l ≠ 4) : laN N l i = N (12 + 7 * l + i) := if_neg h
/-- a stand of GrudgeYard's at s is as N tells -/
def SRn (V : Nat → Int → Int) (s : Nat) (N : Int → Int) : Prop :=
  (V s 3 = N 44 ∧ V s 4 = N 45 ∧ V s 5 = N 46) ∧ V (s + 2) 4 = N 0 ∧
  (∀ r : Int, 0 ≤ r → r < 4 → V (s + 2) r = N (8 + r) ∧ V (s + 3) r = N (40 + r)) ∧
  (∀ r i : Int, 0 ≤ r → r < 4 → 0 ≤ i → i < N (8 + r) → V (s + 1) (7 * r + i) = N (12 + 7 * r + i)) ∧
  (∀ i : Int, 0 ≤ i → i < N 0 → V (s + 1) (28 + (N 0 - 1 - i)) = N (1 + i))
/-- what holds of every stand: by the yard Y; cuts and kicks at most m -/
def stI (Y N : Int → Int) (m : Int) : Prop :=
  (0 ≤ N 0 ∧ ∀ r : Int, 0 ≤ r → r < 4 → 0 ≤ N (8 + r)) ∧ totN N = Y 5 ∧
  ((∀ i : Int, 1 ≤ i → i < 8 → 0 ≤ N i ∧ N i ≤ 6) ∧ (∀ i : Int, 12 ≤ i → i < 40 → 0 ≤ N i ∧ N i ≤ 6)) ∧
  (∀ i : Int, 40 ≤ i → i < 44 → 0 ≤ N i ∧ N i ≤ 127) ∧ (-1 ≤ N 46 ∧ N 46 ≤ 66) ∧
  (∀ r : Int, 0 ≤ r → r < 4 → (r < Y 0 → N (8 + r) ≤ Y (1 + r)) ∧ (Y 0 ≤ r → N (8 + r) = 0)) ∧
  (∀ l i : Int, 0 ≤ l → l ≤ 4 → 0 ≤ i → i < lcN N l → laN N l i < Y 5) ∧
  (∀ l i l' i' : Int, 0 ≤ l → l ≤ 4 → 0 ≤ l' → l' ≤ 4 → 0 ≤ i → i < lcN N l → 0 ≤ i' → i' < lcN N l' → laN N l i = laN N l' i' → l = l' ∧ i = i') ∧
  ((0 ≤ N 44 ∧ N 44 ≤ m) ∧ (0 ≤ N 45 ∧ N 45 ≤ m))
theorem stI_up {Y N : Int → Int} {m m' : Int} (h : stI Y N m) (hm : m ≤ m') : stI Y N m' := by
  obtain ⟨h1, h2, h3, h4, h5, h6, h7, h8, h9⟩ := h
  exact ⟨h1, h2, h3, h4, h5, h6, h7, h8, by omega⟩
theorem stI_congr {Y N N' : Int → Int} {m : Int} (h : stI Y N m) (e : ∀ j : Int, 0 ≤ j → j < 47 → N' j = N j) (h7 : Y 5 ≤ 7) : stI Y N' m := by
  obtain ⟨h1, h2, h3, h4, h5, h6, h7', h8, h9⟩ := h
  have t1 := h1.2 0 (by omega) (by omega)
  have t2 := h1.2 1 (by omega) (by omega)
  have t3 := h1.2 2 (by omega) (by omega)
  have t4 := h1.2 3 (by omega) (by omega)
  have tt := h2
  unfold totN at tt
  simp only [Int.reduceAdd] at t1 t2 t3 t4
  have elc : ∀ l : Int, 0 ≤ l → l ≤ 4 → lcN N' l = lcN N l := fun l h0 h4 => by
    by_cases hl : l = 4
    · rw [hl, lcN_4, lcN_4, e 0 (by omega) (by omega)]
    · rw [lcN_r hl, lcN_r hl, e _ (by omega) (by omega)]
  have clc : ∀ l : Int, 0 ≤ l → l ≤ 4 → 0 ≤ lcN N l ∧ lcN N l ≤ 7 := fun l l0 l4 => by
    by_cases hl : l = 4
    · rw [hl, lcN_4]; omega
    · rw [lcN_r hl]
      have hc : l = 0 ∨ l = 1 ∨ l = 2 ∨ l = 3 := by omega
      rcases hc with hc | hc | hc | hc <;> rw [hc] <;> simp only [Int.reduceAdd] <;> omega
  have ela : ∀ l i : Int, 0 ≤ l → l ≤ 4 → 0 ≤ i → i < lcN N l → laN N' l i = laN N l i := fun l i h0 h4 i0 i1 => by
    have := clc l h0 h4
    by_cases hl : l = 4
    · rw [hl, laN_4, laN_4, e _ (by omega) (by omega)]
    · rw [laN_r hl, laN_r hl, e _ (by omega) (by omega)]
  refine ⟨⟨by rw [e 0 (by omega) (by omega)]; exact h1.1, fun r r0 r1 => by rw [e _ (by omega) (by omega)]; exact h1.2 r r0 r1⟩, ?_, ⟨fun i i0 i1 => by rw [e _ (by omega) (by omega)]; exact h3.1 i i0 i1, fun i i0 i1 => by rw [e _ (by omega) (by omega)]; exact h3.2 i i0 i1⟩, fun i i0 i1 => by rw [e _ (by omega) (by omega)]; exact h4 i i0 i1, by rw [e _ (by omega) (by omega)]; exact h5, fun r r0 r1 => by rw [e _ (by omega) (by omega)]; exact h6 r r0 r1, ?_, ?_, by rw [e 44 (by omega) (by omega), e 45 (by omega) (by omega)]; exact h9⟩
  · unfold totN
    rw [e 0 (by omega) (by omega), e 8 (by omega) (by omega), e 9 (by omega) (by omega), e 10 (by omega) (by omega), e 11 (by omega) (by omega)]
    exact h2
  · intro l i l0 l4 i0 i1
    rw [elc l l0 l4] at i1
    rw [ela l i l0 l4 i0 i1]
    exact h7' l i l0 l4 i0 i1
  · intro l i l' i' l0 l4 l0' l4' i0 i1 i0' i1' he
    rw [elc l l0 l4] at i1
    rw [elc l' l0' l4'] at i1'
    rw [ela l i l0 l4 i0 i1, ela l' i' l0' l4' i0' i1'] at he
    exact h8 l i l' i' l0 l4 l0' l4' i0 i1 i0' i1' he
/-- no more than seven in a line -/
theorem stI_c {Y N : Int → Int} {m : Int} (h : stI Y N m) (h7 : Y 5 ≤ 7) : ∀ r : Int, 0 ≤ r → r < 4 → 0 ≤ N (8 + r) ∧ N 0 + N (8 + r) ≤ 7 := by
  intro r r0 r1
  obtain ⟨h1, h2, _⟩ := h
  have t1 := h1.2 0 (by omega) (by omega)
  have t2 := h1.2 1 (by omega) (by omega)
  have t3 := h1.2 2 (by omega) (by omega)
  have t4 := h1.2 3 (by omega) (by omega)
  have tt := h2
  unfold totN at tt
  simp only [Int.reduceAdd] at t1 t2 t3 t4
  have hc : r = 0 ∨ r = 1 ∨ r = 2 ∨ r = 3 := by omega
  rcases hc with hc | hc | hc | hc <;> rw [hc] <;> simp only [Int.reduceAdd] <;> omega
theorem stI_NS {V : Nat → Int → Int} {Y : Int → Int} {m : Int} (h : stI Y (V 137) m) (h7 : Y 5 ≤ 7) : NS V := by
  have hc := stI_c h h7
  obtain ⟨h1, h2, h3, h4, h5, h6, h7', h8, h9⟩ := h
  have := hc 0 (by omega) (by omega)
  exact ⟨⟨h1.1, by omega⟩, fun r r0 r1 => by have := hc r r0 r1; omega, h3.1, h3.2, h4⟩
theorem SRn_congr {V V' : Nat → Int → Int} {s : Nat} {N N' : Int → Int} {Y : Int → Int} {m : Int} (h : SRn V s N) (hI : stI Y N m) (h7 : Y 5 ≤ 7) (e0 : V' s = V s) (e1 : V' (s + 1) = V (s + 1)) (e2 : V' (s + 2) = V (s + 2)) (e3 : V' (s + 3) = V (s + 3)) (e : ∀ j : Int, 0 ≤ j → j < 47 → N' j = N j) : SRn V' s N' := by
  have hc := stI_c hI h7
  have hc0 := hc 0 (by omega) (by omega)
  have hn0 := hI.1.1
  obtain ⟨h1, h2, h3, h4, h5⟩ := h
  unfold SRn
  rw [e0, e1, e2, e3, e 44 (by omega) (by omega), e 45 (by omega) (by omega), e 46 (by omega) (by omega), e 0 (by omega) (by omega)]
  refine ⟨h1, h2, fun r r0 r1 => by rw [e _ (by omega) (by omega), e _ (by omega) (by omega)]; exact h3 r r0 r1, fun r i r0 r1 i0 i1 => ?_, fun i i0 i1 => by rw [e _ (by omega) (by omega)]; exact h5 i i0 i1⟩
  have := hc r r0 r1
  rw [e _ (by omega) (by omega)] at i1
  rw [e _ (by omega) (by omega)]
  exact h4 r i r0 r1 i0 i1
/-! who is where: told alike -/
section
variable {V : Nat → Int → Int} {Y N : Int → Int} {m : Int}
theorem wA_r (hS : SRn V 3 N) {r i : Int} (r0 : 0 ≤ r) (r1 : r < 4) : wA V r i = if 0 ≤ i ∧ i < N (8 + r) then N (12 + 7 * r + i) else -1 := by
  obtain ⟨h1, h2, h3, h4, h5⟩ := hS
  unfold wA
  rw [show V 5 r = N (8 + r) from (h3 r r0 r1).1]
  by_cases h : 0 ≤ i ∧ i < N (8 + r)
  · rw [if_pos h, if_pos h, show r * 7 + i = 7 * r + i by omega]
    exact h4 r i r0 r1 h.1 h.2
  · rw [if_neg h, if_neg h]
theorem wA_h (hS : SRn V 3 N) {i : Int} : wA V 4 (V 5 4 - 1 - i) = if 0 ≤ i ∧ i < N 0 then N (1 + i) else -1 := by
  obtain ⟨h1, h2, h3, h4, h5⟩ := hS
  unfold wA
  rw [show V 5 4 = N 0 from h2]
  by_cases h : 0 ≤ i ∧ i < N 0
  · rw [if_pos h, if_pos (by omega), show 4 * 7 + (N 0 - 1 - i) = 28 + (N 0 - 1 - i) by omega]
    exact h5 i h.1 h.2
  · rw [if_neg h, if_neg (by omega)]
theorem wA_at (hS : SRn V 3 N) {r i : Int} (h : r = -1 ∨ (0 ≤ r ∧ r < 4)) : atM N r i = if r = -1 then wA V 4 (V 5 4 - 1 - i) else wA V r i := by
  unfold atM
  by_cases hr : r = -1
  · rw [if_pos hr, if_pos hr, wA_h hS]
  · rw [if_neg hr, if_neg hr, wA_r hS (by omega) (by omega)]
theorem inL_r (hS : SRn V 3 N) {r w : Int} (r0 : 0 ≤ r) (r1 : r < 4) : inL V r w ↔ ∃ p : Int, 0 ≤ p ∧ p < N (8 + r) ∧ N (12 + 7 * r + p) = w := by
  obtain ⟨h1, h2, h3, h4, h5⟩ := hS
  unfold inL
  rw [show V 5 r = N (8 + r) from (h3 r r0 r1).1]
  constructor
  · rintro ⟨p, p0, p1, p2⟩
    exact ⟨p, p0, p1, by rw [← h4 r p r0 r1 p0 p1, ← p2, show 7 * r + p = r * 7 + p by omega]⟩
  · rintro ⟨p, p0, p1, p2⟩
    exact ⟨p, p0, p1, by rw [← p2, ← h4 r p r0 r1 p0 p1, show 7 * r + p = r * 7 + p by omega]⟩
theorem stI_inj (hI : stI Y N m) {r r' p p' : Int} (r0 : 0 ≤ r) (r1 : r < 4) (r0' : 0 ≤ r') (r1' : r' < 4) (p0 : 0 ≤ p) (p1 : p < N (8 + r)) (p0' : 0 ≤ p') (p1' : p' < N (8 + r')) (he : N (12 + 7 * r + p) = N (12 + 7 * r' + p')) : r = r' ∧ p = p' := by
  obtain ⟨h1, h2, h3, h4, h5, h6, h7, h8, h9⟩ := hI
  refine h8 r p r' p' r0 (by omega) r0' (by omega) p0 ?_ p0' ?_ ?_
  · rw [lcN_r (by omega)]; exact p1
  · rw [lcN_r (by omega)]; exact p1'
  · rw [laN_r (by omega), laN_r (by omega)]; exact he
theorem stI_injh (hI : stI Y N m) {i i' : Int} (i0 : 0 ≤ i) (i1 : i < N 0) (i0' : 0 ≤ i') (i1' : i' < N 0) (he : N (1 + i) = N (1 + i')) : i = i' := by
  obtain ⟨h1, h2, h3, h4, h5, h6, h7, h8, h9⟩ := hI
  refine (h8 4 i 4 i' (by omega) (by omega) (by omega) (by omega) i0 ?_ i0' ?_ ?_).2
  · rw [lcN_4]; exact i1
  · rw [lcN_4]; exact i1'
  · rw [laN_4, laN_4]; exact he
theorem ln_rd (hS : SRn V 3 N) (hI : stI Y N m) {w l q : Int} (hl : lnP V w l) (hq : rdM N w q) : q = if l = 4 then -1 else l := by
  rcases hl with ⟨a1, a2, a3, a4⟩ | ⟨a1, a2⟩
  · rw [if_neg (by omega)]
    obtain ⟨p, p0, p1, p2⟩ := (inL_r hS a1 (by omega)).1 a3
    rcases hq with ⟨b1, b2, ⟨p', b3, b4, b5⟩, b6⟩ | ⟨b1, b2⟩
    · have := stI_inj hI b1 b2 a1 (by omega) b3 b4 p0 p1 (by rw [b5, p2])
      exact this.1
    · exact absurd p2 (b2 l a1 (by omega) p p0 p1)
  · rw [if_pos a1]
    rcases hq with ⟨b1, b2, ⟨p', b3, b4, b5⟩, b6⟩ | ⟨b1, b2⟩
    · exact absurd ((inL_r hS b1 b2).2 ⟨p', b3, b4, b5⟩) (a2 q b1 b2)
    · exact b1
theorem pl_pl (hS : SRn V 3 N) (hI : stI Y N m) {w q q' : Int} (hx : plP V w q) (hm : ∃ r, rdM N w r ∧ ((r = -1 ∧ plM N 1 (N 0) w q') ∨ (0 ≤ r ∧ plM N (12 + 7 * r) (N (8 + r)) w q'))) : q = q' := by
  obtain ⟨l, hl, hp⟩ := hx
  obtain ⟨r, hr, hm⟩ := hm
  have hlr := ln_rd hS hI hl hr
  obtain ⟨h1, h2, h3, h4, h5⟩ := id hS
  by_cases h4l : l = 4
  · rw [if_pos h4l] at hlr
    have hm1 := (hm.resolve_right (fun h => by omega)).2
    rw [h4l] at hp
    rcases hp with ⟨p, p0, p1, p2, p3, p4⟩ | ⟨p1, p2⟩
    · rw [if_pos rfl] at p4
      rw [show V 5 4 = N 0 from h2] at p1 p4
      have hw : N (1 + (N 0 - 1 - p)) = w := by
        rw [← h5 (N 0 - 1 - p) (by omega) (by omega), ← p2, show 28 + (N 0 - 1 - (N 0 - 1 - p)) = 4 * 7 + p by omega]
      rcases hm1 with ⟨m1, m2, m3, m4⟩ | ⟨m1, m2⟩
      · have := stI_injh hI (by omega) (show N 0 - 1 - p < N 0 by omega) m1 m2 (by rw [hw, m3])
        omega
      · exact absurd hw (m2 _ (by omega) (by omega))
    · rcases hm1 with ⟨m1, m2, m3, m4⟩ | ⟨m1, m2⟩
      · exfalso
        refine p1 ⟨N 0 - 1 - q', by omega, by rw [show V 5 4 = N 0 from h2]; omega, ?_⟩
        rw [show 4 * 7 + (N 0 - 1 - q') = 28 + (N 0 - 1 - q') by omega]
        rw [← m3]
        exact h5 q' m1 m2
      · omega
  · rw [if_neg h4l] at hlr
    have hl4 : 0 ≤ l ∧ l < 4 := by rcases hl with h | h <;> omega
    have hm1 := (hm.resolve_left (fun h => by omega)).2
    rw [hlr] at hm1
    rcases hp with ⟨p, p0, p1, p2, p3, p4⟩ | ⟨p1, p2⟩
    · rw [if_neg h4l] at p4
      rw [show V 5 l = N (8 + l) from (h3 l hl4.1 hl4.2).1] at p1
      have hw : N (12 + 7 * l + p) = w := by rw [← h4 l p hl4.1 hl4.2 p0 p1, ← p2, show 7 * l + p = l * 7 + p by omega]
      rcases hm1 with ⟨m1, m2, m3, m4⟩ | ⟨m1, m2⟩
      · have := stI_inj hI hl4.1 hl4.2 hl4.1 hl4.2 p0 p1 m1 m2 (by rw [hw, m3])
        omega
      · exact absurd hw (m2 p p0 p1)
    · rcases hm1 with ⟨m1, m2, m3, m4⟩ | ⟨m1, m2⟩
      · exact absurd ((inL_r hS hl4.1 hl4.2).2 ⟨q', m1, m2, m3⟩) p1
      · omega
end

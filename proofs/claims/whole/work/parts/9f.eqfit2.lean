/-! ===== a code fits: on both sides ===== -/
section
variable {Y N C kd rm wt : Int → Int} {R m nC : Nat}
theorem cL_mono {N rw L0 : Int → Int} {i : Nat} (r : Int) : ∀ k : Nat, cL N rw L0 i r ≤ cL N rw L0 (i + k) r
  | 0 => Int.le_refl _
  | k + 1 => by
    have h1 := cL_mono (N := N) (rw := rw) (L0 := L0) (i := i) r k
    show _ ≤ iup (cL N rw L0 (i + k)) (rw ((i + k : Nat) : Int)) (cL N rw L0 (i + k) (rw ((i + k : Nat) : Int)) + 1) r
    unfold iup
    split
    · rename_i he; rw [← he]; omega
    · exact h1
theorem cL_strict {N rw L0 : Int → Int} {t i : Nat} (h : t < i) : cL N rw L0 t (rw t) + 1 ≤ cL N rw L0 i (rw t) := by
  have h1 := cL_mono (N := N) (rw := rw) (L0 := L0) (i := t + 1) (rw t) (i - (t + 1))
  rw [show t + 1 + (i - (t + 1)) = i by omega] at h1
  have h2 : cL N rw L0 (t + 1) (rw t) = cL N rw L0 t (rw t) + 1 := iup_s _ _ _
  omega
/-- who stands where after i of the row -/
theorem cS_char {rw : Int → Int} (hr : ∀ j : Int, 0 ≤ j → j < m → 0 ≤ rw j ∧ rw j < 4) (h7 : ∀ t : Nat, t < m → cL N rw (fun r => N (8 + r)) t (rw t) < 7) (hc0 : ∀ r : Int, 0 ≤ r → r < 4 → 0 ≤ N (8 + r) ∧ N (8 + r) ≤ 7) : ∀ i : Nat, i ≤ m →
    (∀ r p : Int, 0 ≤ r → r < 4 → 0 ≤ p → p < N (8 + r) → cS N rw (fun r => N (8 + r)) (st0 N) i (7 * r + p) = N (12 + 7 * r + p)) ∧
    (∀ t : Nat, t < i → cS N rw (fun r => N (8 + r)) (st0 N) i (7 * rw t + cL N rw (fun r => N (8 + r)) t (rw t)) = N (1 + t)) ∧
    (∀ r p : Int, 0 ≤ r → r < 4 → cL N rw (fun r => N (8 + r)) i r ≤ p → p < 7 → cS N rw (fun r => N (8 + r)) (st0 N) i (7 * r + p) = -1) ∧
    (∀ r p : Int, 0 ≤ r → r < 4 → N (8 + r) ≤ p → p < cL N rw (fun r => N (8 + r)) i r → ∃ t : Nat, t < i ∧ rw t = r ∧ cL N rw (fun r => N (8 + r)) t r = p)
  | 0, _ => by
    refine ⟨fun r p r0 r4 p0 p1 => ?_, fun t ht => by omega, fun r p r0 r4 p0 p1 => ?_, fun r p r0 r4 p0 p1 => ?_⟩
    · have := hc0 r r0 r4
      show st0 N (7 * r + p) = _
      unfold st0
      rw [show (7 * r + p) % 7 = p by omega, show (7 * r + p) / 7 = r by omega, if_pos p1]
      congr 1
      omega
    · have p0 : N (8 + r) ≤ p := p0
      have := hc0 r r0 r4
      show st0 N (7 * r + p) = _
      unfold st0
      rw [show (7 * r + p) % 7 = p by omega, show (7 * r + p) / 7 = r by omega, if_neg (by omega)]
    · have p1 : p < N (8 + r) := p1
      omega
  | i + 1, hi => by
    obtain ⟨a1, a2, a3, a4⟩ := cS_char hr h7 hc0 i (by omega)
    have hri := hr i (by omega) (by omega)
    have h7i := h7 i (by omega)
    have hge : ∀ (t : Nat) (r : Int), N (8 + r) ≤ cL N rw (fun r => N (8 + r)) t r := fun t r => by
      have := cL_mono (N := N) (rw := rw) (L0 := fun r => N (8 + r)) (i := 0) r t
      rw [Nat.zero_add] at this
      exact this
    have hcr := hc0 (rw i) hri.1 hri.2
    have hgi := hge i (rw i)
    refine ⟨fun r p r0 r4 p0 p1 => ?_, fun t ht => ?_, fun r p r0 r4 p0 p1 => ?_, fun r p r0 r4 p0 p1 => ?_⟩
    · show iup (cS N rw (fun r => N (8 + r)) (st0 N) i) (7 * rw i + cL N rw (fun r => N (8 + r)) i (rw i)) (N (1 + i)) (7 * r + p) = _
      have hcc := hc0 r r0 r4
      rw [iup_n (fun he => by
        have : r = rw i := by omega
        rw [← this] at hgi he
        omega)]
      exact a1 r p r0 r4 p0 p1
    · show iup (cS N rw (fun r => N (8 + r)) (st0 N) i) (7 * rw i + cL N rw (fun r => N (8 + r)) i (rw i)) (N (1 + i)) (7 * rw t + cL N rw (fun r => N (8 + r)) t (rw t)) = _
      by_cases hti : t = i
      · rw [hti, iup_s]
      · have hrt := hr t (by omega) (by omega)
        have h7t := h7 t (by omega)
        have hs := cL_strict (N := N) (rw := rw) (L0 := fun r => N (8 + r)) (show t < i by omega)
        have hct := hc0 (rw t) hrt.1 hrt.2
        have hgt := hge t (rw t)
        rw [iup_n (fun he => by
          have h1 : rw t = rw i := by omega
          rw [h1] at hs he
          omega)]
        exact a2 t (by omega)
    · have p0 : iup (cL N rw (fun r => N (8 + r)) i) (rw i) (cL N rw (fun r => N (8 + r)) i (rw i) + 1) r ≤ p := p0
      show iup (cS N rw (fun r => N (8 + r)) (st0 N) i) (7 * rw i + cL N rw (fun r => N (8 + r)) i (rw i)) (N (1 + i)) (7 * r + p) = _
      by_cases hrr : r = rw i
      · rw [hrr, iup_s] at p0
        rw [hrr, iup_n (by omega)]
        exact a3 (rw i) p hri.1 hri.2 (by omega) p1
      · rw [iup_n hrr] at p0
        have hgr := hge i r
        have hcc := hc0 r r0 r4
        rw [iup_n (by omega)]
        exact a3 r p r0 r4 p0 p1
    · have p1 : p < iup (cL N rw (fun r => N (8 + r)) i) (rw i) (cL N rw (fun r => N (8 + r)) i (rw i) + 1) r := p1
      by_cases hrr : r = rw i
      · rw [hrr, iup_s] at p1
        by_cases hp : p = cL N rw (fun r => N (8 + r)) i (rw i)
        · exact ⟨i, by omega, hrr.symm, by rw [hrr]; exact hp.symm⟩
        · obtain ⟨t, t1, t2, t3⟩ := a4 r p r0 r4 p0 (by rw [hrr]; omega)
          exact ⟨t, by omega, t2, t3⟩
      · rw [iup_n hrr] at p1
        obtain ⟨t, t1, t2, t3⟩ := a4 r p r0 r4 p0 p1
        exact ⟨t, by omega, t2, t3⟩
/-- the kind that is seen at a place: 9 of nobody -/
def kpS (Y S : Int → Int) (j : Int) : Int := if S j < 0 then 9 else Y (6 + S j)
theorem chB_iff {S : Int → Int} : ∀ k : Nat, chB Y C S k = true ↔ ∀ k' : Nat, k' < k → C (3 * k' + 2) = kpS Y S (7 * C (3 * k') + C (3 * k' + 1))
  | 0 => ⟨fun _ k' h => by omega, fun _ => rfl⟩
  | k + 1 => by
    have ih := chB_iff (S := S) k
    show (chB Y C S k && decide (C (3 * k + 2) = if S (7 * C (3 * k) + C (3 * k + 1)) < 0 then 9 else Y (6 + S (7 * C (3 * k) + C (3 * k + 1))))) = true ↔ _
    rw [Bool.and_eq_true, decide_eq_true_eq, ih]
    constructor
    · rintro ⟨h1, h2⟩ k' hk'
      by_cases he : k' = k
      · rw [he]; exact h2
      · exact h1 k' (by omega)
    · intro h
      exact ⟨fun k' hk' => h k' (by omega), h k (by omega)⟩
/-- what chalk wants, all of it, by place -/
theorem wt_iff {V : Nat → Int → Int} {w0 kp : Int → Int} (hw0 : ∀ j : Int, 0 ≤ j → j < 28 → w0 j = -1) (hkp : ∀ j : Int, 0 ≤ j → j < 28 → 0 ≤ kp j) (hV : ∀ k : Int, 0 ≤ k → k < nC → V 101 k = C (3 * k) ∧ V 102 k = C (3 * k + 1) ∧ V 103 k = C (3 * k + 2) ∧ (0 ≤ C (3 * k) ∧ C (3 * k) ≤ 3) ∧ (0 ≤ C (3 * k + 1) ∧ C (3 * k + 1) ≤ 6) ∧ 0 ≤ C (3 * k + 2)) : ∀ k : Nat, k ≤ nC → ((∀ j : Int, 0 ≤ j → j < 28 → wtF V w0 k j = -1 ∨ wtF V w0 k j = kp j) ↔ ∀ k' : Nat, k' < k → C (3 * k' + 2) = kp (7 * C (3 * k') + C (3 * k' + 1)))
  | 0, _ => ⟨fun _ k' h => by omega, fun _ j j0 j1 => Or.inl (hw0 j j0 j1)⟩
  | k + 1, hk => by
    have ih := wt_iff hw0 hkp hV k (by omega)
    obtain ⟨v1, v2, v3, v4, v5, v6⟩ := hV k (by omega) (by omega)
    have hkq := hkp (7 * C (3 * k) + C (3 * k + 1)) (by omega) (by omega)
    have hstep : ∀ j : Int, wtF V w0 (k + 1) j = iup (wtF V w0 k) (7 * C (3 * k) + C (3 * k + 1)) (if wtF V w0 k (7 * C (3 * k) + C (3 * k + 1)) = -1 ∨ wtF V w0 k (7 * C (3 * k) + C (3 * k + 1)) = C (3 * k + 2) then C (3 * k + 2) else -2) j := fun j => by
      show iup (wtF V w0 k) (7 * V 101 k + V 102 k) (if wtF V w0 k (7 * V 101 k + V 102 k) = -1 ∨ wtF V w0 k (7 * V 101 k + V 102 k) = V 103 k then V 103 k else -2) j = _
      rw [v1, v2, v3]
    constructor
    · intro h
      have hp := h (7 * C (3 * k) + C (3 * k + 1)) (by omega) (by omega)
      rw [hstep, iup_s] at hp
      have hcond : wtF V w0 k (7 * C (3 * k) + C (3 * k + 1)) = -1 ∨ wtF V w0 k (7 * C (3 * k) + C (3 * k + 1)) = C (3 * k + 2) := by
        by_cases hc : wtF V w0 k (7 * C (3 * k) + C (3 * k + 1)) = -1 ∨ wtF V w0 k (7 * C (3 * k) + C (3 * k + 1)) = C (3 * k + 2)
        · exact hc
        · rw [if_neg hc] at hp; omega
      rw [if_pos hcond] at hp
      have heq : C (3 * k + 2) = kp (7 * C (3 * k) + C (3 * k + 1)) := by omega
      have hih := ih.1 (fun j j0 j1 => by
        by_cases hj : j = 7 * C (3 * k) + C (3 * k + 1)
        · rw [hj, ← heq]; exact hcond
        · have := h j j0 j1
          rw [hstep, iup_n hj] at this
          exact this)
      intro k' hk'
      by_cases he : k' = k
      · rw [he]; exact heq
      · exact hih k' (by omega)
    · intro h j j0 j1
      have hih := ih.2 (fun k' hk' => h k' (by omega))
      rw [hstep]
      by_cases hj : j = 7 * C (3 * k) + C (3 * k + 1)
      · have heq := h k (by omega)
        have := hih j j0 j1
        rw [hj, iup_s]
        rw [hj] at this
        rw [if_pos (by rw [heq]; exact this)]
        exact Or.inr heq
      · rw [iup_n hj]
        exact hih j j0 j1
theorem wt_out {V : Nat → Int → Int} {w0 : Int → Int} (hw0 : ∀ j : Int, 0 ≤ j → j < 28 → w0 j = -1) (hV : ∀ k : Int, 0 ≤ k → k < nC → V 101 k = C (3 * k) ∧ V 102 k = C (3 * k + 1) ∧ (0 ≤ C (3 * k) ∧ C (3 * k) < R) ∧ (0 ≤ C (3 * k + 1) ∧ C (3 * k + 1) ≤ 6)) : ∀ k : Nat, k ≤ nC → ∀ j : Int, 7 * (R : Int) ≤ j → j < 28 → wtF V w0 k j = -1
  | 0, _, j, j0, j1 => hw0 j (by omega) j1
  | k + 1, hk, j, j0, j1 => by
    obtain ⟨v1, v2, v4, v5⟩ := hV k (by omega) (by omega)
    show iup (wtF V w0 k) (7 * V 101 k + V 102 k) _ j = -1
    rw [v1, v2, iup_n (by omega)]
    exact wt_out hw0 hV k (by omega) j j0 j1
end

/-! ===== fit, alike ===== -/
theorem sfb_iff {N L0 kd rm wt : Int → Int} {R m x : Nat} : ∀ k i : Nat, sfb R m N L0 kd rm wt x k i = true ↔ (∀ t : Nat, i ≤ t → t < i + k → mvI kd rm wt t (cL N (dgt R m x) L0 t) (dgt R m x t)) ∧ opI R wt (cL N (dgt R m x) L0 (i + k)) ≤ 0
  | 0, i => by
    show decide (opI R wt (cL N (dgt R m x) L0 i) ≤ 0) = true ↔ _
    rw [decide_eq_true_eq]
    exact ⟨fun h => ⟨fun t h1 h2 => by omega, h⟩, fun h => h.2⟩
  | k + 1, i => by
    have ih := sfb_iff (N := N) (L0 := L0) (kd := kd) (rm := rm) (wt := wt) (R := R) (m := m) (x := x) k (i + 1)
    show (decide (mvI kd rm wt i (cL N (dgt R m x) L0 i) (dgt R m x i)) && sfb R m N L0 kd rm wt x k (i + 1)) = true ↔ _
    rw [Bool.and_eq_true, decide_eq_true_eq, ih, show i + 1 + k = i + (k + 1) by omega]
    constructor
    · rintro ⟨h1, h2, h3⟩
      refine ⟨fun t t0 t1 => ?_, h3⟩
      by_cases ht : t = i
      · rw [ht]; exact h1
      · exact h2 t (by omega) t1
    · rintro ⟨h1, h2⟩
      exact ⟨h1 i (by omega) (by omega), fun t t0 t1 => h1 t (by omega) t1, h2⟩
theorem cOk_all {Y N rw L0 : Int → Int} : ∀ m : Nat, (∀ t : Nat, t < m → cL N rw L0 t (rw t) ≠ Y (1 + rw t)) → cOk Y N rw L0 m = true
  | 0, _ => rfl
  | m + 1, h => by
    show (cOk Y N rw L0 m && decide (cL N rw L0 m (rw m) ≠ Y (1 + rw m))) = true
    rw [cOk_all m (fun t ht => h t (by omega)), decide_eq_true (h m (by omega))]
    rfl
theorem cOk_ne {Y N rw L0 : Int → Int} {m : Nat} (h : cOk Y N rw L0 m = true) : ∀ t : Nat, t < m → cOk Y N rw L0 t = true ∧ cL N rw L0 t (rw t) ≠ Y (1 + rw t) := by
  have hall : ∀ t : Nat, t ≤ m → cOk Y N rw L0 t = true := fun t ht => by
    cases hq : cOk Y N rw L0 t with
    | true => rfl
    | false =>
      have := cOk_f hq (m - t)
      rw [show t + (m - t) = m by omega, h] at this
      cases this
  intro t ht
  refine ⟨hall t (by omega), ?_⟩
  have h1 : (cOk Y N rw L0 t && decide (cL N rw L0 t (rw t) ≠ Y (1 + rw t))) = true := hall (t + 1) (by omega)
  rw [Bool.and_eq_true, decide_eq_true_eq] at h1
  exact h1.2
section
variable {Y N C kd rm : Int → Int} {R m nC : Nat}
theorem cdF_iff {V : Nat → Int → Int} {w0 : Int → Int} {x : Nat} (hR4 : R ≤ 4) (hm7 : m ≤ 7) (hRm : 0 < R ∨ m = 0) (hle : ∀ r : Int, 0 ≤ r → r < R → N (8 + r) ≤ Y (1 + r) ∧ Y (1 + r) ≤ 7) (hz : ∀ r : Int, (R : Int) ≤ r → r < 4 → N (8 + r) = 0) (hc0 : ∀ r : Int, 0 ≤ r → r < 4 → 0 ≤ N (8 + r) ∧ N (8 + r) ≤ 7) (hN : ∀ i : Int, 1 ≤ i → i < 8 → 0 ≤ N i ∧ N i ≤ 6) (hN2 : ∀ i : Int, 12 ≤ i → i < 40 → 0 ≤ N i ∧ N i ≤ 6) (hY : ∀ i : Int, 6 ≤ i → i < 13 → 0 ≤ Y i ∧ Y i ≤ 4) (hkd : ∀ t : Nat, t < m → kd t = Y (6 + N (1 + t))) (hrm : ∀ r : Int, 0 ≤ r → r < R → rm r = Y (1 + r)) (hw0 : ∀ j : Int, 0 ≤ j → j < 28 → w0 j = -1) (hV : ∀ k : Int, 0 ≤ k → k < nC → V 101 k = C (3 * k) ∧ V 102 k = C (3 * k + 1) ∧ V 103 k = C (3 * k + 2) ∧ (0 ≤ C (3 * k) ∧ C (3 * k) < R) ∧ (0 ≤ C (3 * k + 1) ∧ C (3 * k + 1) ≤ 6) ∧ 0 ≤ C (3 * k + 2)) :
    cdF Y N C R m nC x = true ↔ (∀ r p : Int, 0 ≤ r → r < R → 0 ≤ p → p < N (8 + r) → wtF V w0 nC (7 * r + p) = -1 ∨ wtF V w0 nC (7 * r + p) = Y (6 + N (12 + 7 * r + p))) ∧ sfb R m N (fun r => N (8 + r)) kd rm (wtF V w0 nC) x m 0 = true := by
  have hrR : ∀ j : Int, 0 ≤ j → j < m → 0 ≤ dgt R m x j ∧ dgt R m x j < R := fun j j0 j1 => dgt_rg (by omega)
  obtain ⟨rw, hrw⟩ : ∃ rw, rw = dgt R m x := ⟨_, rfl⟩
  rw [← hrw] at hrR
  have hr4 : ∀ j : Int, 0 ≤ j → j < m → 0 ≤ rw j ∧ rw j < 4 := fun j j0 j1 => by have := hrR j j0 j1; omega
  unfold cdF fitQ
  rw [Bool.and_eq_true, ← hrw, sfb_iff, ← hrw, Nat.zero_add]
  -- what follows of the rooms alone
  have common : (∀ t : Nat, t < m → cL N rw (fun r => N (8 + r)) t (rw t) < 7) → cOk Y N rw (fun r => N (8 + r)) m = true → ((chB Y C (cS N rw (fun r => N (8 + r)) (st0 N) m) nC = true) ↔ (∀ r p : Int, 0 ≤ r → r < R → 0 ≤ p → p < N (8 + r) → wtF V w0 nC (7 * r + p) = -1 ∨ wtF V w0 nC (7 * r + p) = Y (6 + N (12 + 7 * r + p))) ∧ (∀ t : Nat, t < m → wtF V w0 nC (7 * rw t + cL N rw (fun r => N (8 + r)) t (rw t)) = -1 ∨ wtF V w0 nC (7 * rw t + cL N rw (fun r => N (8 + r)) t (rw t)) = kd t) ∧ opI R (wtF V w0 nC) (cL N rw (fun r => N (8 + r)) m) ≤ 0) := by
    intro h7 hok
    obtain ⟨s1, s2, s3, s4⟩ := cS_char (N := N) (rw := rw) hr4 h7 hc0 m (Nat.le_refl m)
    obtain ⟨S, hS⟩ : ∃ S, S = cS N rw (fun r => N (8 + r)) (st0 N) m := ⟨_, rfl⟩
    rw [← hS] at s1 s2 s3 ⊢
    have hlr := cL_le (Y := Y) (N := N) (L0 := fun r => N (8 + r)) (R := (R : Int)) (m := m) (fun r r0 r1 => (hle r r0 r1).1) hrR m (Nat.le_refl m) hok
    have hge : ∀ r : Int, N (8 + r) ≤ cL N rw (fun r => N (8 + r)) m r := fun r => by
      have := cL_mono (N := N) (rw := rw) (L0 := fun r => N (8 + r)) (i := 0) r m
      rw [Nat.zero_add] at this
      exact this
    -- each place of the 28 is one of three
    have three : ∀ r p : Int, 0 ≤ r → r < 4 → 0 ≤ p → p < 7 → (p < N (8 + r) ∧ S (7 * r + p) = N (12 + 7 * r + p)) ∨ (∃ t : Nat, t < m ∧ rw t = r ∧ cL N rw (fun r => N (8 + r)) t r = p ∧ S (7 * r + p) = N (1 + t)) ∨ (cL N rw (fun r => N (8 + r)) m r ≤ p ∧ S (7 * r + p) = -1) := fun r p r0 r4 p0 p7 => by
      by_cases h1 : p < N (8 + r)
      · exact Or.inl ⟨h1, s1 r p r0 r4 p0 h1⟩
      · by_cases h2 : p < cL N rw (fun r => N (8 + r)) m r
        · obtain ⟨t, t1, t2, t3⟩ := s4 r p r0 r4 (by omega) h2
          have := s2 t t1
          rw [t2, t3] at this
          exact Or.inr (Or.inl ⟨t, t1, t2, t3, this⟩)
        · exact Or.inr (Or.inr ⟨by omega, s3 r p r0 r4 (by omega) p7⟩)
    have hkp : ∀ j : Int, 0 ≤ j → j < 28 → 0 ≤ kpS Y S j := fun j j0 j1 => by
      have h3 := three (j / 7) (j % 7) (by omega) (by omega) (by omega) (by omega)
      rw [show 7 * (j / 7) + j % 7 = j by omega] at h3
      unfold kpS
      split
      · omega
      · rename_i hneg
        have hb : 0 ≤ S j ∧ S j ≤ 6 := by
          rcases h3 with ⟨q1, q2⟩ | ⟨t, q1, q2, q3, q4⟩ | ⟨q1, q2⟩
          · have := hc0 (j / 7) (by omega) (by omega)
            have := hN2 (12 + 7 * (j / 7) + j % 7) (by omega) (by omega)
            omega
          · have := hN (1 + t) (by omega) (by omega)
            omega
          · omega
        have := hY (6 + S j) (by omega) (by omega)
        omega
    rw [chB_iff, ← wt_iff (V := V) (kp := kpS Y S) hw0 hkp (fun k k0 k1 => by
      obtain ⟨v1, v2, v3, v4, v5, v6⟩ := hV k k0 k1
      exact ⟨v1, v2, v3, by omega, v5, v6⟩) nC (Nat.le_refl nC), opI_0]
    have hout := wt_out (R := R) (V := V) (w0 := w0) (C := C) (nC := nC) hw0 (fun k k0 k1 => by
      obtain ⟨v1, v2, v3, v4, v5, v6⟩ := hV k k0 k1
      exact ⟨v1, v2, v4, v5⟩) nC (Nat.le_refl nC)
    obtain ⟨wt, hwt⟩ : ∃ wt, wt = wtF V w0 nC := ⟨_, rfl⟩
    rw [← hwt] at hout ⊢
    constructor
    · intro h
      refine ⟨fun r p r0 r1 p0 p1 => ?_, fun t ht => ?_, fun r p hr hp hc hn => ?_⟩
      · have hcc := hc0 r r0 (by omega)
        have h1 := h (7 * r + p) (by omega) (by omega)
        have hb := hN2 (12 + 7 * r + p) (by omega) (by omega)
        unfold kpS at h1
        rw [s1 r p r0 (by omega) p0 p1, if_neg (by omega)] at h1
        exact h1
      · have hrt := hr4 t (by omega) (by omega)
        have hgt : 0 ≤ cL N rw (fun r => N (8 + r)) t (rw t) := by
          have h1 := cL_mono (N := N) (rw := rw) (L0 := fun r => N (8 + r)) (i := 0) (rw t) t
          rw [Nat.zero_add] at h1
          have h2 := hc0 (rw t) hrt.1 hrt.2
          have h1' : N (8 + rw t) ≤ cL N rw (fun r => N (8 + r)) t (rw t) := h1
          omega
        have h7t := h7 t ht
        have h1 := h (7 * rw t + cL N rw (fun r => N (8 + r)) t (rw t)) (by omega) (by omega)
        have hb := hN (1 + t) (by omega) (by omega)
        unfold kpS at h1
        rw [s2 t ht, if_neg (by omega), ← hkd t ht] at h1
        exact h1
      · have h1 := h (7 * (r : Int) + p) (by omega) (by omega)
        unfold kpS at h1
        rw [s3 r p (by omega) (by omega) hc (by omega), if_pos (by omega)] at h1
        rcases h1 with h1 | h1
        · exact hn.1 h1
        · exact hn.2 h1
    · rintro ⟨h1, h2, h3⟩ j j0 j1
      by_cases hjR : 7 * (R : Int) ≤ j
      · exact Or.inl (hout j hjR j1)
      · have hth := three (j / 7) (j % 7) (by omega) (by omega) (by omega) (by omega)
        obtain ⟨r, hr⟩ : ∃ r, r = j / 7 := ⟨_, rfl⟩
        obtain ⟨p, hp⟩ : ∃ p, p = j % 7 := ⟨_, rfl⟩
        rw [← hr, ← hp] at hth
        have hj : j = 7 * r + p := by omega
        rw [hj]
        unfold kpS
        rcases hth with ⟨q1, q2⟩ | ⟨t, q1, q2, q3, q4⟩ | ⟨q1, q2⟩
        · have hcc := hc0 r (by omega) (by omega)
          have hb := hN2 (12 + 7 * r + p) (by omega) (by omega)
          rw [q2, if_neg (by omega)]
          exact h1 r p (by omega) (by omega) (by omega) q1
        · have hb := hN (1 + t) (by omega) (by omega)
          have := h2 t q1
          rw [q2, q3, hkd t q1] at this
          rw [q4, if_neg (by omega)]
          exact this
        · rw [q2, if_pos (by omega)]
          have := h3 r.toNat p.toNat (by omega) (by omega) (by rw [show ((r.toNat : Nat) : Int) = r by omega, show ((p.toNat : Nat) : Int) = p by omega]; exact q1)
          rw [show ((r.toNat : Nat) : Int) = r by omega, show ((p.toNat : Nat) : Int) = p by omega] at this
          by_cases hw : wt (7 * r + p) = -1
          · exact Or.inl hw
          · refine Or.inr ?_
            by_cases hw9 : wt (7 * r + p) = 9
            · exact hw9
            · exact absurd ⟨hw, hw9⟩ this
  constructor
  · rintro ⟨hok, hch⟩
    have hne := cOk_ne hok
    have h7 : ∀ t : Nat, t < m → cL N rw (fun r => N (8 + r)) t (rw t) < Y (1 + rw t) := fun t ht => by
      obtain ⟨q1, q2⟩ := hne t ht
      have hrt := hrR t (by omega) (by omega)
      have := cL_le (Y := Y) (N := N) (L0 := fun r => N (8 + r)) (R := (R : Int)) (m := m) (fun r r0 r1 => (hle r r0 r1).1) hrR t (by omega) q1 (rw t) hrt.1 hrt.2
      omega
    have h77 : ∀ t : Nat, t < m → cL N rw (fun r => N (8 + r)) t (rw t) < 7 := fun t ht => by
      have hrt := hrR t (by omega) (by omega)
      have := h7 t ht
      have := (hle (rw t) hrt.1 hrt.2).2
      omega
    obtain ⟨c1, c2, c3⟩ := (common h77 hok).1 hch
    refine ⟨c1, fun t _ ht => ⟨?_, c2 t ht⟩, c3⟩
    have hrt := hrR t (by omega) (by omega)
    rw [hrm (rw t) hrt.1 hrt.2]
    exact h7 t ht
  · rintro ⟨c1, c2, c3⟩
    have h7 : ∀ t : Nat, t < m → cL N rw (fun r => N (8 + r)) t (rw t) < Y (1 + rw t) := fun t ht => by
      have hrt := hrR t (by omega) (by omega)
      have := (c2 t (by omega) ht).1
      rw [hrm (rw t) hrt.1 hrt.2] at this
      exact this
    have hok : cOk Y N rw (fun r => N (8 + r)) m = true := cOk_all m (fun t ht => by have := h7 t ht; omega)
    refine ⟨hok, (common (fun t ht => ?_) hok).2 ⟨c1, fun t ht => (c2 t (by omega) ht).2, c3⟩⟩
    have hrt := hrR t (by omega) (by omega)
    have := h7 t ht
    have := (hle (rw t) hrt.1 hrt.2).2
    omega
end
/-! the model's three numbers -/
theorem f3_1 {fB : Nat → Bool} {m i : Int} {d : Nat → Int} : ∀ c : Nat, (f3 fB m i d c).1 = smI (fun x => if fB x = true then 1 else 0) c
  | 0 => rfl
  | c + 1 => by
    have ih := f3_1 (fB := fB) (m := m) (i := i) (d := d) c
    show (if fB c = true then _ else f3 fB m i d c : Int × Int × Int).1 = smI (fun x => if fB x = true then 1 else 0) c + (if fB c = true then 1 else 0)
    by_cases hb : fB c = true
    · rw [if_pos hb, if_pos hb, ← ih]
    · rw [if_neg hb, if_neg hb, ← ih]; omega
theorem f3_sp {fB : Nat → Bool} {m i : Int} {d : Nat → Int} (hi : 0 ≤ i ∧ i < m) : ∀ c : Nat,
    ((f3 fB m i d c).1 = 0 ∧ (f3 fB m i d c).2.2 ≠ 0 ∧ ∀ x, x < c → fB x ≠ true) ∨
    (0 < (f3 fB m i d c).1 ∧ (∃ x, x < c ∧ fB x = true ∧ d x = (f3 fB m i d c).2.1) ∧ (((f3 fB m i d c).2.2 ≠ 0 ∧ ∀ x, x < c → fB x = true → d x = (f3 fB m i d c).2.1) ∨ ((f3 fB m i d c).2.2 = 0 ∧ ∃ x y, x < c ∧ y < c ∧ fB x = true ∧ fB y = true ∧ d x ≠ d y)))
  | 0 => Or.inl ⟨rfl, by show (1 : Int) ≠ 0; omega, fun x hx => by omega⟩
  | c + 1 => by
    have ih := f3_sp (fB := fB) (d := d) hi c
    by_cases hb : fB c = true
    · have e : f3 fB m i d (c + 1) = ((f3 fB m i d c).1 + 1, (if 0 ≤ i ∧ i < m then d c else -1), (if (f3 fB m i d c).2.2 ≠ 0 ∧ ((f3 fB m i d c).1 = 0 ∨ ((0 ≤ i ∧ i < m) ∧ d c = (f3 fB m i d c).2.1)) then 1 else 0)) := if_pos hb
      rw [if_pos hi] at e
      rw [e]
      refine Or.inr ⟨?_, ⟨c, by omega, hb, rfl⟩, ?_⟩
      · show 0 < (f3 fB m i d c).1 + 1
        rcases ih with z | z <;> omega
      · show ((if (f3 fB m i d c).2.2 ≠ 0 ∧ ((f3 fB m i d c).1 = 0 ∨ ((0 ≤ i ∧ i < m) ∧ d c = (f3 fB m i d c).2.1)) then (1 : Int) else 0) ≠ 0 ∧ ∀ x, x < c + 1 → fB x = true → d x = d c) ∨ ((if (f3 fB m i d c).2.2 ≠ 0 ∧ ((f3 fB m i d c).1 = 0 ∨ ((0 ≤ i ∧ i < m) ∧ d c = (f3 fB m i d c).2.1)) then (1 : Int) else 0) = 0 ∧ ∃ x y, x < c + 1 ∧ y < c + 1 ∧ fB x = true ∧ fB y = true ∧ d x ≠ d y)
        rcases ih with ⟨z1, z2, z3⟩ | ⟨z1, ⟨x, x1, x2, x3⟩, z3⟩
        · rw [if_pos ⟨z2, Or.inl z1⟩]
          refine Or.inl ⟨by omega, fun x hx hfx => ?_⟩
          by_cases he : x = c
          · rw [he]
          · exact absurd hfx (z3 x (by omega))
        · rcases z3 with ⟨w1, w2⟩ | ⟨w1, x', y', w2, w3, w4, w5, w6⟩
          · by_cases hd : d c = (f3 fB m i d c).2.1
            · rw [if_pos ⟨w1, Or.inr ⟨hi, hd⟩⟩]
              refine Or.inl ⟨by omega, fun x hx hfx => ?_⟩
              by_cases he : x = c
              · rw [he]
              · rw [w2 x (by omega) hfx, hd]
            · rw [if_neg (fun z => by rcases z.2 with z | z; omega; exact hd z.2)]
              exact Or.inr ⟨rfl, x, c, by omega, by omega, x2, hb, fun he => hd (by rw [← he, x3])⟩
          · rw [if_neg (fun z => z.1 w1)]
            exact Or.inr ⟨rfl, x', y', by omega, by omega, w4, w5, w6⟩
    · have e : f3 fB m i d (c + 1) = f3 fB m i d c := if_neg hb
      rw [e]
      rcases ih with ⟨z1, z2, z3⟩ | ⟨z1, ⟨x, x1, x2, x3⟩, z3⟩
      · refine Or.inl ⟨z1, z2, fun x hx => ?_⟩
        by_cases he : x = c
        · rw [he]; exact hb
        · exact z3 x (by omega)
      · refine Or.inr ⟨z1, ⟨x, by omega, x2, x3⟩, ?_⟩
        rcases z3 with ⟨w1, w2⟩ | ⟨w1, x', y', w2, w3, w4, w5, w6⟩
        · refine Or.inl ⟨w1, fun x hx hfx => ?_⟩
          by_cases he : x = c
          · rw [he] at hfx; exact absurd hfx hb
          · exact w2 x (by omega) hfx
        · exact Or.inr ⟨w1, x', y', by omega, by omega, w4, w5, w6⟩
theorem one_1n : ∀ v : Nat, v < 16 → ∀ s : Nat, s < 4 → (∀ t : Nat, t < 4 → (v.testBit t = true ↔ t = s)) → oneR (v : Int) = (s : Int) := by decide +kernel
theorem one_2n : ∀ v : Nat, v < 16 → ∀ s : Nat, s < 4 → ∀ t : Nat, t < 4 → (s ≠ t ∧ v.testBit s = true ∧ v.testBit t = true → oneR (v : Int) = -1) := by decide +kernel
theorem one_1 {v s : Int} (hv : 0 ≤ v ∧ v ≤ 15) (hs : 0 ≤ s ∧ s ≤ 3) (h : ∀ t : Int, 0 ≤ t → t ≤ 3 → (tb v t = true ↔ t = s)) : oneR v = s := by
  have := one_1n v.toNat (by omega) s.toNat (by omega) (fun t ht => by
    have := h t (by omega) (by omega)
    unfold tb at this
    rw [show ((t : Nat) : Int).toNat = t by omega] at this
    rw [this]
    omega)
  rw [show ((v.toNat : Nat) : Int) = v by omega, show ((s.toNat : Nat) : Int) = s by omega] at this
  exact this
theorem one_2 {v s t : Int} (hv : 0 ≤ v ∧ v ≤ 15) (hs : 0 ≤ s ∧ s ≤ 3) (ht : 0 ≤ t ∧ t ≤ 3) (hst : s ≠ t) (h1 : tb v s = true) (h2 : tb v t = true) : oneR v = -1 := by
  have := one_2n v.toNat (by omega) s.toNat (by omega) t.toNat (by omega) ⟨by omega, h1, h2⟩
  rw [show ((v.toNat : Nat) : Int) = v by omega] at this
  exact this
section
variable {V V1 V2 U : Nat → Int → Int} {b : Bool} {n : Int}
theorem oneR_0 : oneR 0 = -1 := by decide +kernel
theorem rr_fit (h : RR V b n) (hn : n + 1 ≤ 64) {R m nC : Nat} {i q q' : Int} (hR : (R : Int) = V 135 0) (hm : (m : Int) = V 137 0) (hnC : (nC : Int) = V 134 14) (hx : ftP V V1 (yN b) i q) (hmm : mfO V1 V2 ∧ q' = mfA (f3 (cdF (V 135) (V 137) (V 143) R m nC) m i (fun c => dgt R m c i) (R ^ m)) m i) : q' = q ∧ RR V2 b (n + 1) := by
  obtain ⟨U, c, hs, ⟨sr1, sr2, sr3⟩, xq⟩ := hx
  obtain ⟨mo, mq⟩ := hmm
  have hY := RR_Y h
  have hI := RR_sI h
  have hS := RR_SR h
  have h7 := RR_7 h
  obtain ⟨hh1, hh2, hh3⟩ := RR_H h
  obtain ⟨k1, k2, k3⟩ := RR_Rm h hR hm
  have e54 : V 5 4 = V 137 0 := hS.2.1
  have uo := hs.2.2.2.2.2
  have u4 : U 108 4 = (R : Int) := by rw [hs.1, hY.1.1, hR]
  have u5 : U 108 5 = (m : Int) := by rw [hs.2.1, e54, hm]
  have hkd := su_kd h hs
  have htl := su_tl h hs
  have hc := stI_c hI h7
  have hn0 := hI.1.1
  have hyb : 120 ≤ yN b ∧ yN b ≤ 127 := by rcases yN_Y b with hy | hy <;> omega
  obtain ⟨w0, hw0⟩ : ∃ w0, w0 = ifl (U 118) 28 (-1) := ⟨_, rfl⟩
  have hw0' : ∀ j : Int, 0 ≤ j → j < 28 → w0 j = -1 := fun j j0 j1 => by rw [hw0]; exact ifl_in ⟨j0, j1⟩
  have hwX : wtX U = wtF U w0 nC := by
    unfold wtX
    rw [uo 100 (by omega), hh1, ← hnC, ← hw0]
    rfl
  have hiff := fun x : Nat => cdF_iff (Y := V 135) (N := V 137) (C := V 143) (kd := U 109) (rm := U 110) (R := R) (m := m) (nC := nC) (V := U) (w0 := w0) (x := x) k1 k2 k3 (fun r r0 r1 => by
      have := (RR_MS h).2.2.2.2 r r0 (by omega)
      have := (hI.2.2.2.2.2.1 r r0 (by omega)).1 (by omega)
      omega) (fun r r0 r1 => (hI.2.2.2.2.2.1 r (by omega) r1).2 (by omega)) (fun r r0 r1 => by have := hc r r0 r1; omega) hI.2.2.1.1 hI.2.2.1.2 (RR_MS h).2.2.1 (fun t ht => (hkd t (by omega) (by omega)).1) (fun r r0 r1 => (htl r r0 (by omega)).1) hw0' (fun k k0 k1 => by
      obtain ⟨g1, g2, g3, g4, g5, g6⟩ := hh3 k k0 (by omega)
      rw [uo 101 (by omega), uo 102 (by omega), uo 103 (by omega)]
      exact ⟨g1, g2, g3, by omega, g5, by omega⟩)
  rw [hwX, u4, u5, show ((R : Nat) : Int).toNat = R by omega, show ((m : Nat) : Int).toNat = m by omega] at sr3
  -- what was chalked of those that stand
  have hpre : preF U (yN b) (wtF U w0 nC) ↔ ∀ r p : Int, 0 ≤ r → r < R → 0 ≤ p → p < V 137 (8 + r) → wtF U w0 nC (7 * r + p) = -1 ∨ wtF U w0 nC (7 * r + p) = V 135 (6 + V 137 (12 + 7 * r + p)) := by
    have hk : ∀ r p : Int, 0 ≤ r → r < R → 0 ≤ p → p < V 137 (8 + r) → kdX U (yN b) (wA U r p) = V 135 (6 + V 137 (12 + 7 * r + p)) := fun r p r0 r1 p0 p1 => by
      have hcc := hc r r0 (by omega)
      have hYU : YRd U (yN b) (V 135) := YRd_congr (fun a a0 a1 => uo a (by omega)) hY
      have hw : wA U r p = V 137 (12 + 7 * r + p) := by
        rw [wA_congr (uo 4 (by omega)) (uo 5 (by omega)), wA_r hS r0 (by omega), if_pos ⟨p0, p1⟩]
      have a1 := hI.2.2.2.2.2.2.1 r p r0 (by omega) p0 (by rw [lcN_r (by omega)]; exact p1)
      rw [laN_r (by omega)] at a1
      have b1 := hI.2.2.1.2 (12 + 7 * r + p) (by omega) (by omega)
      rw [hw, kd_Y hYU b1.1 a1]
    have e5 : ∀ r : Int, 0 ≤ r → r < R → U 5 r = V 137 (8 + r) := fun r r0 r1 => by rw [uo 5 (by omega)]; exact (hS.2.2.1 r r0 (by omega)).1
    unfold preF
    rw [u4]
    constructor
    · intro hp r p r0 r1 p0 p1
      have hcc := hc r r0 (by omega)
      have := hp r p r0 r1 p0 (by omega) (by rw [e5 r r0 r1]; exact p1)
      rw [hk r p r0 r1 p0 p1] at this
      exact this
    · intro hp r p r0 r1 p0 _ p1
      rw [e5 r r0 r1] at p1
      rw [hk r p r0 r1 p0 p1]
      exact hp r p r0 r1 p0 p1
  have hL0 : ∀ x : Nat, x / R ^ m = 0 → ∀ s : Int, 0 ≤ s → s < R → U 111 s = cL (V 137) (dgt R m x) (fun r => V 137 (8 + r)) 0 s := fun x _ s s0 s1 => (htl s s0 (by omega)).2.1
  have hcnt := GI_cnt (N := V 137) (L0 := fun r => V 137 (8 + r)) (kd := U 109) (rm := U 110) (wt := wtF U w0 nC) (m := m) k1 m 0 0 (U 111) (by omega) hL0
  have hpex := fun j s => PI_ex (N := V 137) (L0 := fun r => V 137 (8 + r)) (kd := U 109) (rm := U 110) (wt := wtF U w0 nC) (m := m) k1 m 0 0 (U 111) j s (by omega) hL0
  have hz : ∀ d : Nat, 0 * R ^ m + d = d := fun d => by rw [Nat.zero_mul, Nat.zero_add]
  obtain ⟨fB, hfB⟩ : ∃ fB, fB = cdF (V 135) (V 137) (V 143) R m nC := ⟨_, rfl⟩
  rw [← hfB] at mq
  have f1 := f3_1 (fB := fB) (m := m) (i := i) (d := fun c => dgt R m c i) (R ^ m)
  constructor
  · -- the answers
    rw [xq, mq, e54, ← hm]
    unfold mfA
    rcases sr3 with ⟨p1, p2, p3⟩ | ⟨p1, p2, p3⟩
    · have hq := hpre.1 p1
      have hfs : ∀ x : Nat, fB x = sfb R m (V 137) (fun r => V 137 (8 + r)) (U 109) (U 110) (wtF U w0 nC) x m 0 := fun x => by
        have := hiff x
        rw [← hfB] at this
        rw [Bool.eq_iff_iff]
        exact ⟨fun z => (this.1 z).2, fun z => this.2 ⟨hq, z⟩⟩
      have hc1 : (f3 fB m i (fun c => dgt R m c i) (R ^ m)).1 = c := by
        rw [f1, p2]
        have hcnt' : GI R (U 109) (U 110) (wtF U w0 nC) m 0 (U 111) = _ := hcnt
        rw [hcnt']
        refine smI_congr (R ^ m) (fun d _ => ?_)
        rw [hz d, hfs d]
      by_cases i1 : i = -1
      · rw [if_pos i1, if_pos i1]; exact hc1
      · rw [if_neg i1, if_neg i1]
        by_cases i2 : 0 ≤ i ∧ i < m
        · have hv := sr2.2 i
          have hbit : ∀ s : Int, 0 ≤ s → (tb (V1 119 i) s = true ↔ ∃ x : Nat, x < R ^ m ∧ fB x = true ∧ dgt R m x i = s) := fun s s0 => by
            rw [p3 i s i2.1 (by omega) s0]
            have hpx : PI R (U 109) (U 110) (wtF U w0 nC) m 0 (U 111) i s ↔ _ := hpex i s
            rw [hpx]
            constructor
            · rintro ⟨_, _, d, d1, d2, d3⟩
              rw [hz] at d2 d3
              exact ⟨d, d1, by rw [hfs]; exact d2, d3⟩
            · rintro ⟨d, d1, d2, d3⟩
              refine ⟨by omega, i2.2, d, d1, ?_, ?_⟩
              · rw [hz, ← hfs]; exact d2
              · rw [hz]; exact d3
          have hdr : ∀ x : Nat, 0 ≤ dgt R m x i ∧ dgt R m x i ≤ 3 := fun x => by
            have := dgt_rg (B := R) (m := m) (c := x) (j := i) (by omega)
            omega
          rw [if_pos (show 0 ≤ i ∧ i < (m : Int) ∧ i < 7 by omega)]
          rcases f3_sp (fB := fB) (d := fun c => dgt R m c i) i2 (R ^ m) with ⟨z1, z2, z3⟩ | ⟨z1, ⟨x, x1, x2, x3⟩, z3⟩
          · rw [if_neg (fun z => by have := z.2.1; omega)]
            have hall : ∀ t : Nat, t < 4 → (V1 119 i).toNat.testBit t = false := fun t ht => by
              cases hq : (V1 119 i).toNat.testBit t with
              | false => rfl
              | true =>
                exfalso
                obtain ⟨y, y1, y2, y3⟩ := (hbit t (by omega)).1 (by unfold tb; rw [show ((t : Nat) : Int).toNat = t by omega]; exact hq)
                exact z3 y y1 y2
            have hz0 : ∀ v : Nat, v < 16 → (∀ t : Nat, t < 4 → v.testBit t = false) → v = 0 := by decide +kernel
            have := hz0 (V1 119 i).toNat (by omega) hall
            rw [show V1 119 i = 0 by omega, oneR_0]
          · rcases z3 with ⟨w1, w2⟩ | ⟨w1, y, y', w2, w3, w4, w5, w6⟩
            · rw [if_pos ⟨i2, z1, w1⟩]
              have hx3 : dgt R m x i = (f3 fB m i (fun c => dgt R m c i) (R ^ m)).2.1 := x3
              have hsr := hdr x
              rw [hx3] at hsr
              refine (one_1 hv hsr (fun t t0 t3 => ?_)).symm
              rw [hbit t t0]
              constructor
              · rintro ⟨y, y1, y2, y3⟩
                rw [← y3]
                exact w2 y y1 y2
              · intro ht
                exact ⟨x, x1, x2, by rw [ht]; exact x3⟩
            · rw [if_neg (fun z => z.2.2 w1)]
              have hd1 := hdr y
              have hd2 := hdr y'
              exact (one_2 hv hd1 hd2 w6 ((hbit _ hd1.1).2 ⟨y, w2, w4, rfl⟩) ((hbit _ hd2.1).2 ⟨y', w3, w5, rfl⟩)).symm
        · rw [if_neg (fun z => i2 z.1), if_neg (by omega)]
    · have hno : ∀ x : Nat, fB x ≠ true := fun x hx => by
        have := hiff x
        rw [← hfB] at this
        exact p1 (hpre.2 (this.1 hx).1)
      have hc1 : (f3 fB m i (fun c => dgt R m c i) (R ^ m)).1 = 0 := by
        rw [f1]
        exact smI_z _ (fun x _ => by show (if fB x = true then (1 : Int) else 0) = 0; rw [if_neg (hno x)])
      by_cases i1 : i = -1
      · rw [if_pos i1, if_pos i1, hc1, p2]
      · rw [if_neg i1, if_neg i1, if_neg (fun z => by have := z.2.1; omega)]
        by_cases i2 : 0 ≤ i ∧ i < (m : Int) ∧ i < 7
        · rw [if_pos i2, p3 i i2.1 i2.2.2, oneR_0]
        · rw [if_neg i2]
  · have x1 : ∀ a : Nat, a < 108 ∨ 119 < a ∨ (112 < a ∧ a < 117) → V1 a = V a := fun a ha => by rw [sr1 a (by omega) (by omega) (by omega)]; exact uo a (by omega)
    have x2 : ∀ a : Nat, a < 108 ∨ (112 < a ∧ a < 117) ∨ (119 < a ∧ a < 145) → V2 a = V a := fun a ha => by rw [mo a (by omega) (by omega) (by omega) (by omega)]; exact x1 a (by omega)
    refine RR_sc h hn (fun a ha _ _ => x2 a (by omega)) (by rw [x2 126 (by omega)]; exact h.2.2.1.2.2.1.2) (by rw [x2 133 (by omega)]; exact h.2.2.1.2.2.2.2) ⟨?_, ?_⟩
    · have := (RR_X h).1
      unfold plR at this ⊢
      rw [x2 114 (by omega), x2 115 (by omega)]
      exact this
    · unfold ftR at sr2 ⊢
      rw [mo 118 (by omega) (by omega) (by omega) (by omega), mo 119 (by omega) (by omega) (by omega) (by omega)]
      exact sr2
end

/-! ===== rows that fit: counted by roads, counted by codes ===== -/
theorem smI_z {f : Nat → Int} : ∀ k : Nat, (∀ j, j < k → f j = 0) → smI f k = 0
  | 0, _ => rfl
  | k + 1, h => by
    show smI f k + f k = 0
    rw [smI_z k (fun j hj => h j (by omega)), h k (by omega)]
    rfl
theorem smI_ex {f : Nat → Int} {k : Nat} (h : 0 < smI f k) : ∃ j, j < k ∧ f j ≠ 0 := by
  by_cases hx : ∃ j, j < k ∧ f j ≠ 0
  · exact hx
  · exfalso
    have := smI_z (f := f) k (fun j hj => by
      by_cases hf : f j = 0
      · exact hf
      · exact absurd ⟨j, hj, hf⟩ hx)
    omega
theorem smI_app {f : Nat → Int} {a : Nat} : ∀ k : Nat, smI f (a + k) = smI f a + smI (fun d => f (a + d)) k
  | 0 => by show smI f a = smI f a + 0; omega
  | k + 1 => by
    show smI f (a + k) + f (a + k) = smI f a + (smI (fun d => f (a + d)) k + f (a + k))
    rw [smI_app k]
    omega
theorem smI_blk {f : Nat → Int} {K : Nat} : ∀ R : Nat, smI f (R * K) = smI (fun r => smI (fun d => f (r * K + d)) K) R
  | 0 => by rw [Nat.zero_mul]; rfl
  | R + 1 => by
    rw [Nat.add_mul, Nat.one_mul, smI_app, smI_blk R]
    rfl
theorem opI_0 {R : Nat} {wt cn : Int → Int} : opI R wt cn ≤ 0 ↔ ∀ r p : Nat, r < R → p < 7 → cn r ≤ p → ¬ nd (wt (7 * r + p)) := by
  constructor
  · intro h r p hr hp hc hn
    have h2 : 0 < opI R wt cn := by
      unfold opI
      refine smI_pos R (fun k _ => smI_nn _ (fun j _ => by split <;> omega)) ⟨r, hr, ?_⟩
      refine smI_pos 7 (fun j _ => by split <;> omega) ⟨p, hp, ?_⟩
      show 0 < (if cn r ≤ p ∧ nd (wt (7 * r + p)) then (1 : Int) else 0)
      rw [if_pos ⟨hc, hn⟩]
      omega
    omega
  · intro h
    have : opI R wt cn = 0 := by
      unfold opI
      refine smI_z R (fun r hr => smI_z 7 (fun p hp => ?_))
      show (if cn r ≤ p ∧ nd (wt (7 * r + p)) then (1 : Int) else 0) = 0
      rw [if_neg (fun z => h r p hr hp z.1 z.2)]
    omega
section
variable {N L0 kd rm wt : Int → Int} {R m : Nat}
/-- from the i-th wagon on the row of code x does -/
def sfb (R m : Nat) (N L0 kd rm wt : Int → Int) (x : Nat) : Nat → Nat → Bool
  | 0, i => decide (opI R wt (cL N (dgt R m x) L0 i) ≤ 0)
  | k + 1, i => decide (mvI kd rm wt i (cL N (dgt R m x) L0 i) (dgt R m x i)) && sfb R m N L0 kd rm wt x k (i + 1)
theorem blk_div {R p r d K : Nat} (hr : r < R) (hd : d < K) : (p * (R * K) + (r * K + d)) / K = p * R + r ∧ (p * R + r) / R = p ∧ (p * R + r) % R = r := by
  refine ⟨?_, ?_, ?_⟩
  · rw [show p * (R * K) + (r * K + d) = d + (p * R + r) * K by rw [Nat.add_mul, Nat.mul_assoc]; omega, Nat.add_mul_div_right _ _ (by omega), Nat.div_eq_of_lt hd, Nat.zero_add]
  · rw [Nat.mul_comm, Nat.mul_add_div (by omega), Nat.div_eq_of_lt hr, Nat.add_zero]
  · rw [Nat.mul_comm, Nat.mul_add_mod, Nat.mod_eq_of_lt hr]
theorem blk_dgt {i k x : Nat} (hi : i + (k + 1) = m) : dgt R m x i = ((x / R ^ k % R : Nat) : Int) := by
  unfold dgt
  rw [show m - 1 - ((i : Nat) : Int).toNat = k by omega]
theorem cL_nxt {i k p r : Nat} {cn : Int → Int} (hR4 : R ≤ 4) (hi : i + (k + 1) = m) (hr : r < R) (hcn : ∀ x : Nat, x / R ^ (k + 1) = p → ∀ s : Int, 0 ≤ s → s < R → cn s = cL N (dgt R m x) L0 i s) : ∀ x : Nat, x / R ^ k = p * R + r → ∀ s : Int, 0 ≤ s → s < R → iup cn r (cn r + 1) s = cL N (dgt R m x) L0 (i + 1) s := fun x hx s s0 s1 => by
  have hp : x / R ^ (k + 1) = p := by
    rw [Nat.pow_succ, ← Nat.div_div_eq_div_mul, hx, Nat.mul_comm, Nat.mul_add_div (by omega), Nat.div_eq_of_lt hr, Nat.add_zero]
  have hd : dgt R m x i = (r : Int) := by
    rw [blk_dgt hi, hx, Nat.mul_comm, Nat.mul_add_mod, Nat.mod_eq_of_lt hr]
  show _ = iup (cL N (dgt R m x) L0 i) (dgt R m x i) (cL N (dgt R m x) L0 i (dgt R m x i) + 1) s
  rw [hd]
  unfold iup
  rw [← hcn x hp r (by omega) (by omega), ← hcn x hp s s0 s1]
theorem GI_cnt (hR4 : R ≤ 4) : ∀ (k i p : Nat) (cn : Int → Int), i + k = m → (∀ x : Nat, x / R ^ k = p → ∀ s : Int, 0 ≤ s → s < R → cn s = cL N (dgt R m x) L0 i s) → GI R kd rm wt k i cn = smI (fun d => if sfb R m N L0 kd rm wt (p * R ^ k + d) k i = true then 1 else 0) (R ^ k)
  | 0, i, p, cn, hi, hcn => by
    rw [Nat.pow_zero]
    show (if opI R wt cn ≤ 0 then (1 : Int) else 0) = 0 + (if sfb R m N L0 kd rm wt (p * 1 + 0) 0 i = true then 1 else 0)
    unfold sfb
    rw [opI_congr (cm := cL N (dgt R m (p * 1 + 0)) L0 i) (fun s s0 s1 => hcn _ (by rw [Nat.pow_zero, Nat.div_one]; omega) s s0 s1), Int.zero_add]
    by_cases h : opI R wt (cL N (dgt R m (p * 1 + 0)) L0 i) ≤ 0
    · rw [if_pos h, if_pos (decide_eq_true h)]
    · rw [if_neg h, if_neg (by rw [decide_eq_false h]; decide)]
  | k + 1, i, p, cn, hi, hcn => by
    rw [Nat.pow_succ, Nat.mul_comm (R ^ k) R, smI_blk]
    show smI (fun r : Nat => if mvI kd rm wt i cn r then GI R kd rm wt k (i + 1) (iup cn r (cn r + 1)) else 0) R = _
    refine smI_congr R (fun r hr => ?_)
    have hih := GI_cnt hR4 k (i + 1) (p * R + r) (iup cn r (cn r + 1)) (by omega) (cL_nxt hR4 hi hr hcn)
    have hstep : ∀ d : Nat, d < R ^ k → sfb R m N L0 kd rm wt (p * (R * R ^ k) + (r * R ^ k + d)) (k + 1) i = (decide (mvI kd rm wt i cn r) && sfb R m N L0 kd rm wt ((p * R + r) * R ^ k + d) k (i + 1)) := fun d hd => by
      obtain ⟨b1, b2, b3⟩ := blk_div (p := p) hr hd
      have hx : p * (R * R ^ k) + (r * R ^ k + d) = (p * R + r) * R ^ k + d := by rw [Nat.add_mul, Nat.mul_assoc]; omega
      have hdg : dgt R m (p * (R * R ^ k) + (r * R ^ k + d)) i = (r : Int) := by rw [blk_dgt hi, b1, b3]
      have hp : (p * (R * R ^ k) + (r * R ^ k + d)) / R ^ (k + 1) = p := by rw [Nat.pow_succ, ← Nat.div_div_eq_div_mul, b1, b2]
      show (decide (mvI kd rm wt i (cL N (dgt R m (p * (R * R ^ k) + (r * R ^ k + d))) L0 i) (dgt R m (p * (R * R ^ k) + (r * R ^ k + d)) i)) && sfb R m N L0 kd rm wt (p * (R * R ^ k) + (r * R ^ k + d)) k (i + 1)) = _
      rw [hdg]
      unfold mvI
      rw [← hcn _ hp r (by omega) (by omega), hx]
    by_cases hm : mvI kd rm wt i cn r
    · rw [if_pos hm]
      have : GI R kd rm wt k ((i : Int) + 1) (iup cn r (cn r + 1)) = smI (fun d => if sfb R m N L0 kd rm wt ((p * R + r) * R ^ k + d) k (i + 1) = true then 1 else 0) (R ^ k) := hih
      rw [this]
      refine smI_congr (R ^ k) (fun d hd => ?_)
      show _ = if sfb R m N L0 kd rm wt (p * (R * R ^ k) + (r * R ^ k + d)) (k + 1) i = true then (1 : Int) else 0
      rw [hstep d hd, decide_eq_true hm, Bool.true_and]
    · rw [if_neg hm]
      refine (smI_z (R ^ k) (fun d hd => ?_)).symm
      show (if sfb R m N L0 kd rm wt (p * (R * R ^ k) + (r * R ^ k + d)) (k + 1) i = true then (1 : Int) else 0) = 0
      rw [hstep d hd, decide_eq_false hm, Bool.false_and]
      rfl
theorem PI_ex (hR4 : R ≤ 4) : ∀ (k i p : Nat) (cn : Int → Int) (j s : Int), i + k = m → (∀ x : Nat, x / R ^ k = p → ∀ s : Int, 0 ≤ s → s < R → cn s = cL N (dgt R m x) L0 i s) → (PI R kd rm wt k i cn j s ↔ (i : Int) ≤ j ∧ j < m ∧ ∃ d : Nat, d < R ^ k ∧ sfb R m N L0 kd rm wt (p * R ^ k + d) k i = true ∧ dgt R m (p * R ^ k + d) j = s)
  | 0, i, p, cn, j, s, hi, hcn => by
    constructor
    · intro h; exact absurd h (fun h => h)
    · rintro ⟨h1, h2, _⟩; omega
  | k + 1, i, p, cn, j, s, hi, hcn => by
    have hx : ∀ r d : Nat, p * R ^ (k + 1) + (r * R ^ k + d) = (p * R + r) * R ^ k + d := fun r d => by
      rw [Nat.pow_succ, Nat.mul_comm (R ^ k) R, Nat.add_mul, Nat.mul_assoc]; omega
    have hblk : ∀ r d : Nat, r < R → d < R ^ k → r * R ^ k + d < R ^ (k + 1) := fun r d hr hd => by
      rw [Nat.pow_succ, Nat.mul_comm (R ^ k) R]
      have : (r + 1) * R ^ k ≤ R * R ^ k := Nat.mul_le_mul_right _ (by omega)
      rw [Nat.add_mul, Nat.one_mul] at this
      omega
    have hpp : ∀ r d : Nat, r < R → d < R ^ k → ((p * R + r) * R ^ k + d) / R ^ k = p * R + r := fun r d hr hd => by
      rw [Nat.add_comm, Nat.add_mul_div_right _ _ (by omega), Nat.div_eq_of_lt hd, Nat.zero_add]
    have hdg : ∀ r d : Nat, r < R → d < R ^ k → dgt R m ((p * R + r) * R ^ k + d) i = (r : Int) := fun r d hr hd => by
      rw [blk_dgt hi, hpp r d hr hd, Nat.mul_comm p R, Nat.mul_add_mod, Nat.mod_eq_of_lt hr]
    have hq : ∀ r d : Nat, r < R → d < R ^ k → ((p * R + r) * R ^ k + d) / R ^ (k + 1) = p := fun r d hr hd => by
      rw [Nat.pow_succ, ← Nat.div_div_eq_div_mul, hpp r d hr hd, Nat.mul_comm p R, Nat.mul_add_div (by omega), Nat.div_eq_of_lt hr, Nat.add_zero]
    have hsf : ∀ r d : Nat, r < R → d < R ^ k → (sfb R m N L0 kd rm wt ((p * R + r) * R ^ k + d) (k + 1) i = true ↔ mvI kd rm wt i cn r ∧ sfb R m N L0 kd rm wt ((p * R + r) * R ^ k + d) k (i + 1) = true) := fun r d hr hd => by
      show (decide (mvI kd rm wt i (cL N (dgt R m ((p * R + r) * R ^ k + d)) L0 i) (dgt R m ((p * R + r) * R ^ k + d) i)) && sfb R m N L0 kd rm wt ((p * R + r) * R ^ k + d) k (i + 1)) = true ↔ _
      rw [hdg r d hr hd]
      unfold mvI
      rw [← hcn _ (hq r d hr hd) r (by omega) (by omega), Bool.and_eq_true, decide_eq_true_eq]
    constructor
    · intro h
      rcases h with ⟨h1, h2, h3, h4, h5⟩ | ⟨t, h1, h4, h5⟩
      · have hrr : s.toNat < R := by omega
        have hc := GI_cnt (N := N) (L0 := L0) (m := m) (kd := kd) (rm := rm) (wt := wt) hR4 k (i + 1) (p * R + s.toNat) (iup cn s (cn s + 1)) (by omega) (by
          have := cL_nxt (cn := cn) (r := s.toNat) hR4 hi hrr hcn
          rw [show ((s.toNat : Nat) : Int) = s by omega] at this
          exact this)
        have h5' : 0 < GI R kd rm wt k ((i + 1 : Nat) : Int) (iup cn s (cn s + 1)) := h5
        rw [hc] at h5'
        obtain ⟨d, d1, d2⟩ := smI_ex h5'
        have d3 : sfb R m N L0 kd rm wt ((p * R + s.toNat) * R ^ k + d) k (i + 1) = true := by
          by_cases hb : sfb R m N L0 kd rm wt ((p * R + s.toNat) * R ^ k + d) k (i + 1) = true
          · exact hb
          · exact absurd (show (if sfb R m N L0 kd rm wt ((p * R + s.toNat) * R ^ k + d) k (i + 1) = true then (1 : Int) else 0) = 0 by rw [if_neg hb]) d2
        refine ⟨by omega, by omega, s.toNat * R ^ k + d, hblk _ _ hrr d1, ?_, ?_⟩
        · rw [hx, hsf _ _ hrr d1, show ((s.toNat : Nat) : Int) = s by omega]
          exact ⟨h4, d3⟩
        · rw [hx, h1, hdg _ _ hrr d1]
          omega
      · have hih := (PI_ex hR4 k (i + 1) (p * R + t) (iup cn t (cn t + 1)) j s (by omega) (cL_nxt hR4 hi h1 hcn)).1 h5
        obtain ⟨q1, q2, d, d1, d2, d3⟩ := hih
        refine ⟨by omega, q2, t * R ^ k + d, hblk _ _ h1 d1, ?_, ?_⟩
        · rw [hx, hsf _ _ h1 d1]; exact ⟨h4, d2⟩
        · rw [hx]; exact d3
    · rintro ⟨q1, q2, d0, e1, e2, e3⟩
      have hR0 : 0 < R := by
        by_cases h0 : R = 0
        · rw [h0, Nat.zero_pow (by omega)] at e1; omega
        · omega
      have hK : 0 < R ^ k := Nat.pow_pos hR0
      obtain ⟨r, hr⟩ : ∃ r, r = d0 / R ^ k := ⟨_, rfl⟩
      obtain ⟨d, hd⟩ : ∃ d, d = d0 % R ^ k := ⟨_, rfl⟩
      have hd0 : d0 = r * R ^ k + d := by rw [hr, hd, Nat.mul_comm]; exact (Nat.div_add_mod d0 (R ^ k)).symm
      have hdl : d < R ^ k := by rw [hd]; exact Nat.mod_lt _ hK
      have hrl : r < R := by
        rw [hr, Nat.div_lt_iff_lt_mul hK]
        rw [Nat.pow_succ, Nat.mul_comm] at e1
        exact e1
      rw [hd0, hx] at e2 e3
      obtain ⟨m1, m2⟩ := (hsf r d hrl hdl).1 e2
      by_cases hj : j = i
      · refine Or.inl ⟨hj, ?_, ?_, ?_, ?_⟩
        · rw [← e3, hj, hdg r d hrl hdl]; omega
        · rw [← e3, hj, hdg r d hrl hdl]; omega
        · rw [← e3, hj, hdg r d hrl hdl]; exact m1
        · rw [← e3, hj, hdg r d hrl hdl]
          have hc := GI_cnt (N := N) (L0 := L0) (m := m) (kd := kd) (rm := rm) (wt := wt) hR4 k (i + 1) (p * R + r) (iup cn r (cn r + 1)) (by omega) (cL_nxt hR4 hi hrl hcn)
          show 0 < GI R kd rm wt k ((i + 1 : Nat) : Int) (iup cn r (cn r + 1))
          rw [hc]
          refine smI_pos (R ^ k) (fun z _ => by split <;> omega) ⟨d, hdl, ?_⟩
          show 0 < if sfb R m N L0 kd rm wt ((p * R + r) * R ^ k + d) k (i + 1) = true then (1 : Int) else 0
          rw [if_pos m2]
          omega
      · refine Or.inr ⟨r, hrl, m1, ?_⟩
        exact (PI_ex hR4 k (i + 1) (p * R + r) (iup cn r (cn r + 1)) j s (by omega) (cL_nxt hR4 hi hrl hcn)).2 ⟨by omega, q2, d, hdl, m2, e3⟩
end

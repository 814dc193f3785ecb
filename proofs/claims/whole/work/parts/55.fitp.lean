/-! ===== rows that fit, counted ===== -/
abbrev nd (x : Int) : Prop := x ≠ -1 ∧ x ≠ 9
def smI (f : Nat → Int) : Nat → Int
  | 0 => 0
  | n + 1 => smI f n + f n
theorem smI_congr {f g : Nat → Int} : ∀ n, (∀ k, k < n → f k = g k) → smI f n = smI g n
  | 0, _ => rfl
  | n + 1, h => by
    show smI f n + f n = smI g n + g n
    rw [smI_congr n (fun k hk => h k (by omega)), h n (by omega)]
theorem smI_upd {f g : Nat → Int} {a : Nat} : ∀ n, a < n → (∀ k, k < n → k ≠ a → f k = g k) → smI f n = smI g n + f a - g a
  | 0, h, _ => absurd h (by omega)
  | n + 1, h, he => by
    show smI f n + f n = smI g n + g n + f a - g a
    by_cases hn : a = n
    · subst hn
      rw [smI_congr a (fun k hk => he k (by omega) (by omega))]
      omega
    · rw [smI_upd n (by omega) (fun k hk => he k (by omega)), he n (by omega) (by omega)]
      omega
theorem smI_nn {f : Nat → Int} : ∀ n, (∀ k, k < n → 0 ≤ f k) → 0 ≤ smI f n
  | 0, _ => Int.le_refl 0
  | n + 1, h => by
    have h1 := smI_nn n (fun k hk => h k (by omega))
    have h2 := h n (by omega)
    show 0 ≤ smI f n + f n
    omega
theorem smI_le {f : Nat → Int} {c : Int} : ∀ n : Nat, (∀ k, k < n → f k ≤ c) → smI f n ≤ c * n
  | 0, _ => by show (0 : Int) ≤ c * 0; omega
  | n + 1, h => by
    have h1 := smI_le n (fun k hk => h k (by omega))
    have h2 := h n (by omega)
    show smI f n + f n ≤ c * ((n + 1 : Nat) : Int)
    rw [show ((n + 1 : Nat) : Int) = (n : Int) + 1 by omega, Int.mul_add]
    omega
theorem smI_pos {f : Nat → Int} : ∀ n, (∀ k, k < n → 0 ≤ f k) → (∃ k, k < n ∧ 0 < f k) → 0 < smI f n
  | 0, _, ⟨k, hk, _⟩ => absurd hk (by omega)
  | n + 1, h, ⟨k, hk, hp⟩ => by
    have h1 := smI_nn n (fun k hk => h k (by omega))
    have h2 := h n (by omega)
    show 0 < smI f n + f n
    by_cases hn : k = n
    · subst hn; omega
    · have := smI_pos n (fun k hk => h k (by omega)) ⟨k, by omega, hp⟩
      omega
def opI (R : Nat) (wt cn : Int → Int) : Int := smI (fun r => smI (fun p => if cn r ≤ p ∧ nd (wt (7 * r + p)) then 1 else 0) 7) R
abbrev mvI (kd rm wt : Int → Int) (i : Int) (cn : Int → Int) (r : Int) : Prop := cn r < rm r ∧ (wt (7 * r + cn r) = -1 ∨ wt (7 * r + cn r) = kd i)
def GI (R : Nat) (kd rm wt : Int → Int) : Nat → Int → (Int → Int) → Int
  | 0, _, cn => if opI R wt cn ≤ 0 then 1 else 0
  | n + 1, i, cn => smI (fun r => if mvI kd rm wt i cn r then GI R kd rm wt n (i + 1) (iup cn r (cn r + 1)) else 0) R
/-- among the first q roads -/
def PL (kd rm wt : Int → Int) (G : (Int → Int) → Int) (P : (Int → Int) → Int → Int → Prop) (i : Int) (cn : Int → Int) (q : Nat) (j s : Int) : Prop :=
  (j = i ∧ 0 ≤ s ∧ s < q ∧ mvI kd rm wt i cn s ∧ 0 < G (iup cn s (cn s + 1))) ∨ ∃ t : Nat, t < q ∧ mvI kd rm wt i cn t ∧ P (iup cn t (cn t + 1)) j s
def PI (R : Nat) (kd rm wt : Int → Int) : Nat → Int → (Int → Int) → Int → Int → Prop
  | 0, _, _, _, _ => False
  | n + 1, i, cn, j, s => PL kd rm wt (GI R kd rm wt n (i + 1)) (PI R kd rm wt n (i + 1)) i cn R j s
section
variable {R : Nat} {kd rm wt c0 : Int → Int}
theorem opI_nn (cn : Int → Int) : 0 ≤ opI R wt cn := smI_nn _ (fun r _ => smI_nn _ (fun p _ => by split <;> omega))
theorem opI_le (hR : R ≤ 4) (cn : Int → Int) : opI R wt cn ≤ 28 := by
  have := smI_le (f := fun r : Nat => smI (fun p => if cn r ≤ p ∧ nd (wt (7 * r + p)) then 1 else 0) 7) (c := 7) R (fun r _ => by
    have := smI_le (f := fun p : Nat => if cn r ≤ p ∧ nd (wt (7 * r + p)) then 1 else 0) (c := 1) 7 (fun p _ => by split <;> omega)
    exact this)
  unfold opI
  omega
theorem opI_congr {cn cm : Int → Int} (h : ∀ r, 0 ≤ r → r < (R : Int) → cn r = cm r) : opI R wt cn = opI R wt cm := by
  unfold opI
  exact smI_congr R (fun r hr => by rw [h r (by omega) (by omega)])
theorem opI_up {cn : Int → Int} {r : Int} (h0 : 0 ≤ r) (h1 : r < R) (h2 : 0 ≤ cn r) (h3 : cn r < 7) : opI R wt (iup cn r (cn r + 1)) = opI R wt cn - (if nd (wt (7 * r + cn r)) then 1 else 0) := by
  obtain ⟨k, rfl⟩ : ∃ k : Nat, r = (k : Int) := ⟨r.toNat, by omega⟩
  obtain ⟨p, hp⟩ : ∃ p : Nat, cn k = (p : Int) := ⟨(cn k).toNat, by omega⟩
  unfold opI
  rw [smI_upd (g := fun r => smI (fun p => if cn r ≤ p ∧ nd (wt (7 * r + p)) then 1 else 0) 7) (a := k) R (by omega) (fun j hj hne => by
    have : ((j : Int)) ≠ (k : Int) := by omega
    simp only [iup_n this])]
  have e := smI_upd (f := fun q : Nat => if cn k + 1 ≤ q ∧ nd (wt (7 * k + q)) then 1 else 0) (g := fun q : Nat => if cn k ≤ q ∧ nd (wt (7 * k + q)) then 1 else 0) (a := p) 7 (by omega) (fun q hq hne => by
    have : (cn k + 1 ≤ (q : Int)) ↔ (cn k ≤ (q : Int)) := by omega
    simp only [this])
  simp only [iup_s]
  rw [e, hp]
  rw [if_neg (show ¬ ((p : Int) + 1 ≤ (p : Int) ∧ nd (wt (7 * (k : Int) + (p : Int)))) from fun h => by omega)]
  by_cases hn : nd (wt (7 * (k : Int) + (p : Int)))
  · rw [if_pos (show (p : Int) ≤ (p : Int) ∧ nd (wt (7 * (k : Int) + (p : Int))) from ⟨Int.le_refl _, hn⟩), if_pos hn]
    omega
  · rw [if_neg (show ¬ ((p : Int) ≤ (p : Int) ∧ nd (wt (7 * (k : Int) + (p : Int)))) from fun h => hn h.2), if_neg hn]
    omega
theorem GI_nn : ∀ (n : Nat) (i : Int) (cn : Int → Int), 0 ≤ GI R kd rm wt n i cn
  | 0, _, cn => by unfold GI; split <;> omega
  | n + 1, i, cn => smI_nn _ (fun r _ => by split; exact GI_nn n _ _; exact Int.le_refl 0)
theorem GI_le (hR : R ≤ 4) : ∀ (n : Nat) (i : Int) (cn : Int → Int), GI R kd rm wt n i cn ≤ 4 ^ n
  | 0, _, cn => by unfold GI; split <;> omega
  | n + 1, i, cn => by
    have hp : (0 : Int) < 4 ^ n := Int.pow_pos (by decide)
    have h := smI_le (f := fun r : Nat => if mvI kd rm wt i cn r then GI R kd rm wt n (i + 1) (iup cn r (cn r + 1)) else 0) (c := 4 ^ n) R (fun r _ => by split; exact GI_le hR n _ _; omega)
    have h2 : (4 : Int) ^ n * R ≤ 4 ^ n * 4 := Int.mul_le_mul_of_nonneg_left (by omega) (by omega)
    have h3 : (4 : Int) ^ (n + 1) = 4 ^ n * 4 := Int.pow_succ 4 n
    show smI _ R ≤ _
    omega
theorem iup_congr {f g : Int → Int} {r x y : Int} (h : ∀ j, 0 ≤ j → j < (R : Int) → f j = g j) (hx : x = y) : ∀ j, 0 ≤ j → j < (R : Int) → iup f r x j = iup g r y j := fun j h0 h1 => by
  by_cases hj : j = r
  · subst hj; rw [iup_s, iup_s, hx]
  · rw [iup_n hj, iup_n hj, h j h0 h1]
theorem GI_congr : ∀ (n : Nat) (i : Int) (cn cm : Int → Int), (∀ r, 0 ≤ r → r < (R : Int) → cn r = cm r) → GI R kd rm wt n i cn = GI R kd rm wt n i cm
  | 0, _, cn, cm, h => by unfold GI; rw [opI_congr h]
  | n + 1, i, cn, cm, h => by
    unfold GI
    refine smI_congr R (fun r hr => ?_)
    have e := h r (by omega) (by omega)
    have e2 := GI_congr n (i + 1) _ _ (iup_congr (r := (r : Int)) h (show cn r + 1 = cm r + 1 by rw [e]))
    simp only [mvI, e] at e2 ⊢
    rw [e2]
theorem PI_congr : ∀ (n : Nat) (i : Int) (cn cm : Int → Int) (j s : Int), (∀ r, 0 ≤ r → r < (R : Int) → cn r = cm r) → PI R kd rm wt n i cn j s → PI R kd rm wt n i cm j s
  | 0, _, cn, cm, _, _, h => fun hp => hp
  | n + 1, i, cn, cm, j, s, h => by
    intro hp
    rcases hp with ⟨h1, h2, h3, h4, h5⟩ | ⟨t, h1, h4, h5⟩
    · have e := h s h2 h3
      refine Or.inl ⟨h1, h2, h3, by unfold mvI at *; rw [← e]; exact h4, ?_⟩
      rw [GI_congr n (i + 1) _ _ (iup_congr (r := s) h (show cn s + 1 = cm s + 1 by rw [e]))] at h5
      exact h5
    · have e := h t (by omega) (by omega)
      exact Or.inr ⟨t, h1, by unfold mvI at *; rw [← e]; exact h4, PI_congr n (i + 1) _ _ j s (iup_congr (r := (t : Int)) h (show cn t + 1 = cm t + 1 by rw [e])) h5⟩
theorem PI_pos : ∀ (n : Nat) (i : Int) (cn : Int → Int) (j s : Int), PI R kd rm wt n i cn j s → 0 < GI R kd rm wt n i cn
  | 0, _, _, _, _, h => absurd h (fun h => h)
  | n + 1, i, cn, j, s, h => by
    refine smI_pos _ (fun r _ => by split; exact GI_nn n _ _; exact Int.le_refl 0) ?_
    rcases h with ⟨h1, h2, h3, h4, h5⟩ | ⟨t, h1, h4, h5⟩
    · obtain ⟨k, rfl⟩ : ∃ k : Nat, s = (k : Int) := ⟨s.toNat, by omega⟩
      exact ⟨k, by omega, by rw [if_pos h4]; exact h5⟩
    · exact ⟨t, h1, by rw [if_pos h4]; exact PI_pos n _ _ j s h5⟩
theorem PI_rg : ∀ (n : Nat) (i : Int) (cn : Int → Int) (j s : Int), PI R kd rm wt n i cn j s → 0 ≤ s ∧ s < R ∧ i ≤ j ∧ j < i + n
  | 0, _, _, _, _, h => absurd h (fun h => h)
  | n + 1, i, cn, j, s, h => by
    rcases h with ⟨h1, h2, h3, h4, h5⟩ | ⟨t, h1, h4, h5⟩
    · exact ⟨h2, h3, by omega, by omega⟩
    · have := PI_rg n (i + 1) _ j s h5
      omega
/-- too many open places: no row -/
theorem GI_pr (hrm : ∀ r, 0 ≤ r → r < (R : Int) → rm r ≤ 7) : ∀ (n : Nat) (i : Int) (cn : Int → Int), (∀ r, 0 ≤ r → r < (R : Int) → 0 ≤ cn r) → (n : Int) < opI R wt cn → GI R kd rm wt n i cn = 0
  | 0, _, cn, _, h => by unfold GI; rw [if_neg (by omega)]
  | n + 1, i, cn, hc, h => by
    unfold GI
    rw [smI_congr (g := fun _ => 0) R (fun r hr => by
      split
      · rename_i hm
        have h1 := hc r (by omega) (by omega)
        have h2 := hrm r (by omega) (by omega)
        have h3 := opI_up (R := R) (wt := wt) (cn := cn) (r := r) (by omega) (by omega) h1 (by have := hm.1; omega)
        refine GI_pr hrm n _ _ (fun s s0 s1 => ?_) ?_
        · by_cases hs : s = r
          · subst hs; rw [iup_s]; omega
          · rw [iup_n hs]; exact hc s s0 s1
        · rw [h3]; split <;> omega
      · rfl)]
    have := smI_le (f := fun _ => 0) (c := 0) R (fun _ _ => Int.le_refl 0)
    have := smI_nn (f := fun _ => 0) R (fun _ _ => Int.le_refl 0)
    omega
end

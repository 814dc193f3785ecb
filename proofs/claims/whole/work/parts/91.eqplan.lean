/-! ===== both plans are one ===== -/
theorem fmn_flat {cost : Nat → Int} : ∀ (k a : Nat), (∀ c, a ≤ c → c < a + k → (fmn cost a).1 ≤ cost c) → fmn cost (a + k) = fmn cost a
  | 0, a, _ => rfl
  | k + 1, a, h => by
    have ih := fmn_flat k a (fun c h1 h2 => h c h1 (by omega))
    show (if cost (a + k) < (fmn cost (a + k)).1 then (cost (a + k), a + k) else fmn cost (a + k)) = _
    rw [ih, if_neg (by have := h (a + k) (by omega) (by omega); omega)]
def lkM (Y : Int → Int) (a : Int) : Int := if 0 ≤ a then Y (6 + a) else 4
theorem fld_ind {α : Type} {f : Nat → α → α} {P : Nat → α → Prop} : ∀ (n : Nat) (a : α), P 0 a → (∀ r a, r < n → P r a → P (r + 1) (f r a)) → P n (fld f n a)
  | 0, _, h, _ => h
  | n + 1, a, h, hs => hs n _ (by omega) (fld_ind n a h (fun r a hr => hs r a (by omega)))
theorem cC_mono {Y N rw T0 : Int → Int} {i : Nat} : ∀ k : Nat, cC Y N rw T0 i ≤ cC Y N rw T0 (i + k)
  | 0 => Int.le_refl _
  | k + 1 => by
    have h1 := cC_mono (Y := Y) (N := N) (rw := rw) (T0 := T0) (i := i) k
    have h2 := cK_01 Y N rw T0 (i + k)
    show _ ≤ cC Y N rw T0 (i + k) + 100 * cK Y N rw T0 (i + k) + (if i + k = 0 ∨ rw (((i + k : Nat) : Int) - 1) ≠ rw ((i + k : Nat) : Int) then 1 else 0)
    split <;> omega
/-- the search's best is that of the first codes -/
def plQ (R m : Nat) (A : pA4) (F : Int × Nat) : Prop := (F.1 = 1000000 ∧ A.2.2.1 = 8 ∧ A.2.2.2 = 0) ∨ (F.1 = 100 * A.2.2.1 + A.2.2.2 ∧ (0 ≤ A.2.2.1 ∧ A.2.2.1 ≤ 7) ∧ (0 ≤ A.2.2.2 ∧ A.2.2.2 ≤ 7) ∧ ∀ j : Int, 0 ≤ j → j < m → A.2.1 j = dgt R m F.2 j)
section
variable {Y N L0 T0 kd rm : Int → Int} {R m : Nat} {g : Int}
theorem pl_rec (hR : R ≤ 4) (hR0 : 0 < R ∨ m = 0) (hm : m ≤ 7) (hkd : ∀ i : Nat, i < m → kd i = Y (6 + N (1 + i))) (hrm : ∀ r : Int, 0 ≤ r → r < R → rm r = Y (1 + r)) (hle : ∀ r : Int, 0 ≤ r → r < R → L0 r ≤ Y (1 + r)) (hN : ∀ i : Int, 1 ≤ i → i < 8 → 0 ≤ N i ∧ N i ≤ 6) (hY : ∀ i : Int, 6 ≤ i → i < 13 → 0 ≤ Y i ∧ Y i ≤ 4) (hT0 : ∀ r : Int, 0 ≤ r → r < 4 → -1 ≤ T0 r ∧ T0 r ≤ 6) (hkk : ∀ a c : Int, 0 ≤ a → a ≤ 4 → 0 ≤ c → c ≤ 4 → kkI g a c = enI Y a c) :
    ∀ (n i p : Nat) (k c : Int) (cn tl : Int → Int) (A : pA4), i + n = m → (0 ≤ k ∧ k ≤ i) → (0 ≤ c ∧ c ≤ i) →
      (∀ j : Int, 0 ≤ j → j < i → 0 ≤ A.1 j ∧ A.1 j < R) →
      (∀ x : Nat, x / R ^ n = p → ∀ j : Int, 0 ≤ j → j < i → dgt R m x j = A.1 j) →
      (∀ r : Int, 0 ≤ r → r < R → cn r = cL N A.1 L0 i r) → (∀ r : Int, 0 ≤ r → r < R → tl r = lkM Y (cT N A.1 T0 i r)) →
      cC Y N A.1 T0 i = 100 * k + c → cOk Y N A.1 L0 i = true →
      plQ R m A (fmn (fun x => cstQ Y N (dgt R m x) L0 T0 m) (p * R ^ n)) →
      plQ R m (exA R g kd rm n i k c cn tl A) (fmn (fun x => cstQ Y N (dgt R m x) L0 T0 m) ((p + 1) * R ^ n)) ∧ ∀ j : Int, j < i → (exA R g kd rm n i k c cn tl A).1 j = A.1 j := by
  intro n
  induction n with
  | zero =>
    intro i p k c cn tl A hi hk hc hA hpre hcn htl hC hok hQ
    have him : i = m := by omega
    rw [him] at hA hpre hC hok hk hc
    have hd := hpre p (by rw [Nat.pow_zero, Nat.div_one])
    have hcost : cstQ Y N (dgt R m p) L0 T0 m = 100 * k + c := by
      rw [cstQ_congr (rw' := A.1) (L0' := L0) (T0' := T0) (fun j h0 h1 => hd j h0 h1) (fun _ _ _ => rfl) (fun _ _ _ => rfl) (fun j h0 h1 => by rw [hd j h0 h1]; have := hA j h0 h1; omega)]
      unfold cstQ
      rw [if_pos hok, hC]
    obtain ⟨F, hF⟩ : ∃ F, F = fmn (fun x => cstQ Y N (dgt R m x) L0 T0 m) p := ⟨_, rfl⟩
    have hF1 : fmn (fun x => cstQ Y N (dgt R m x) L0 T0 m) (p + 1) = if 100 * k + c < F.1 then (100 * k + c, p) else F := by
      show (if cstQ Y N (dgt R m p) L0 T0 m < (fmn (fun x => cstQ Y N (dgt R m x) L0 T0 m) p).1 then (cstQ Y N (dgt R m p) L0 T0 m, p) else fmn (fun x => cstQ Y N (dgt R m x) L0 T0 m) p) = _
      rw [hcost, ← hF]
    rw [Nat.pow_zero, Nat.mul_one, ← hF] at hQ
    rw [Nat.pow_zero, Nat.mul_one, hF1]
    unfold exA
    by_cases hb : k < A.2.2.1 ∨ (k = A.2.2.1 ∧ c < A.2.2.2)
    · rw [if_pos hb, if_pos (by rcases hQ with ⟨q1, q2, q3⟩ | ⟨q1, q2, q3, q4⟩ <;> omega)]
      refine ⟨Or.inr ⟨rfl, ⟨hk.1, by show k ≤ 7; omega⟩, ⟨hc.1, by show c ≤ 7; omega⟩, fun j h0 h1 => ?_⟩, fun j _ => rfl⟩
      show icp A.1 A.2.1 0 0 7 j = dgt R m p j
      unfold icp
      rw [if_pos (by omega), hd j h0 h1, show (0 : Int) + (j - 0) = j by omega]
    · rw [if_neg hb, if_neg (by rcases hQ with ⟨q1, q2, q3⟩ | ⟨q1, q2, q3, q4⟩ <;> omega)]
      exact ⟨hQ, fun _ _ => rfl⟩
  | succ n ih =>
    intro i p k c cn tl A hi hk hc hA hpre hcn htl hC hok hQ
    obtain ⟨cost, hcd⟩ : ∃ cost : Nat → Int, cost = fun x => cstQ Y N (dgt R m x) L0 T0 m := ⟨_, rfl⟩
    rw [← hcd] at hQ ih ⊢
    have hR0 : 0 < R := by omega
    have hRn : 0 < R ^ n := Nat.pow_pos hR0
    have hpS : R ^ (n + 1) = R ^ n * R := Nat.pow_succ R n
    have hdiv : ∀ x : Nat, x / R ^ (n + 1) = x / R ^ n / R := fun x => by rw [hpS, Nat.div_div_eq_div_mul]
    have hrg : ∀ F : Nat, ∀ q x : Nat, q * F ≤ x → x < (q + 1) * F → x / F = q := fun F q x h1 h2 => by
      refine Nat.div_eq_of_lt_le h1 ?_
      exact h2
    -- what costs at least so much
    have hge : ∀ x : Nat, x / R ^ (n + 1) = p → 100 * k + c ≤ cost x := fun x hx => by
      have hd := hpre x hx
      rw [hcd]
      show _ ≤ cstQ Y N (dgt R m x) L0 T0 m
      unfold cstQ
      split
      · have h1 := cC_congr (Y := Y) (N := N) (m := i) (T0 := T0) (T0' := T0) hd (fun _ _ _ => rfl) (fun j h0 h1 => by rw [hd j h0 h1]; have := hA j h0 h1; omega) i (Nat.le_refl i)
        have h2 := cC_mono (Y := Y) (N := N) (rw := dgt R m x) (T0 := T0) (i := i) (n + 1)
        rw [h1, hC, show i + (n + 1) = m by omega] at h2
        exact h2
      · omega
    have hgoal : (p + 1) * R ^ (n + 1) = (p * R + R) * R ^ n := by rw [hpS, Nat.mul_comm (R ^ n) R, ← Nat.mul_assoc, Nat.add_mul, Nat.one_mul]
    have hstart : p * R ^ (n + 1) = (p * R) * R ^ n := by rw [hpS, Nat.mul_comm (R ^ n) R, ← Nat.mul_assoc]
    unfold exA
    by_cases hb : k < A.2.2.1 ∨ (k = A.2.2.1 ∧ c < A.2.2.2)
    · rw [if_pos hb]
      rw [hgoal]
      rw [hstart] at hQ
      have hw := hN (1 + i) (by omega) (by omega)
      have hkdi := hkd i (by omega)
      have hkr := hY (6 + N (1 + i)) (by omega) (by omega)
      refine fld_ind (P := fun r B => plQ R m B (fmn cost ((p * R + r) * R ^ n)) ∧ ∀ j : Int, j < i → B.1 j = A.1 j) R A ⟨hQ, fun _ _ => rfl⟩ (fun r B hr hP => ?_)
      obtain ⟨hBQ, hBr⟩ := hP
      have hrN : (r : Int) < R := by omega
      have hq1 : ∀ x : Nat, x / R ^ n = p * R + r → x / R ^ (n + 1) = p ∧ dgt R m x i = r := fun x hx => by
        constructor
        · rw [hdiv, hx, Nat.mul_comm, Nat.mul_add_div hR0, Nat.div_eq_of_lt hr, Nat.add_zero]
        · unfold dgt
          rw [show m - 1 - ((i : Int)).toNat = n by omega, hx, Nat.mul_comm, Nat.mul_add_mod, Nat.mod_eq_of_lt hr]
      have hlee := cL_le (Y := Y) (N := N) (L0 := L0) (R := (R : Int)) (m := i) hle hA i (Nat.le_refl i) hok r (by omega) hrN
      have hcnr := hcn r (by omega) hrN
      by_cases hroom : cn r < rm r
      · -- there is room
        show plQ R m (if cn r < rm r then _ else B) _ ∧ ∀ j : Int, j < i → (if cn r < rm r then _ else B : pA4).1 j = A.1 j
        rw [if_pos hroom]
        obtain ⟨A', hA'⟩ : ∃ A' : pA4, A' = (iup B.1 i r, B.2) := ⟨_, rfl⟩
        have a1 : ∀ j : Int, j < i → A'.1 j = A.1 j := fun j hj => by rw [hA']; show iup B.1 i r j = _; rw [iup_n (by omega)]; exact hBr j hj
        have a2 : A'.1 i = r := by rw [hA']; exact iup_s _ _ _
        have hA4 : ∀ j : Int, 0 ≤ j → j < i → 0 ≤ A'.1 j ∧ A'.1 j < 4 := fun j h0 h1 => by rw [a1 j h1]; have := hA j h0 h1; omega
        have eL := cL_congr (N := N) (m := i) (L0 := L0) (L0' := L0) (rw := A'.1) (rw' := A.1) (fun j _ h1 => a1 j h1) (fun _ _ _ => rfl) hA4 i (Nat.le_refl i)
        have eT := cT_congr (N := N) (m := i) (T0 := T0) (T0' := T0) (rw := A'.1) (rw' := A.1) (fun j _ h1 => a1 j h1) (fun _ _ _ => rfl) i (Nat.le_refl i)
        have eC := cC_congr (Y := Y) (N := N) (m := i) (T0 := T0) (T0' := T0) (rw := A'.1) (rw' := A.1) (fun j _ h1 => a1 j h1) (fun _ _ _ => rfl) hA4 i (Nat.le_refl i)
        have eO := cOk_congr (Y := Y) (N := N) (m := i) (L0 := L0) (L0' := L0) (rw := A'.1) (rw' := A.1) (fun j _ h1 => a1 j h1) (fun _ _ _ => rfl) hA4 i (Nat.le_refl i)
        have htlr := htl r (by omega) hrN
        have hTr := cT_rg (rw := A.1) (m := m) (T0 := T0) hm hN hT0 i r (by omega) (by omega) (by omega)
        have hK : cK Y N A'.1 T0 i = kkI g (tl r) (kd i) := by
          unfold cK
          rw [a2, eT r (by omega) (by omega), htlr, hkdi]
          unfold lkM
          by_cases h0 : 0 ≤ cT N A.1 T0 i r
          · rw [if_pos h0, if_pos h0]
            have := hY (6 + cT N A.1 T0 i r) (by omega) (by omega)
            rw [hkk _ _ (by omega) (by omega) (by omega) (by omega)]
          · rw [if_neg h0, if_neg h0, hkk _ _ (by omega) (by omega) (by omega) (by omega)]
            unfold enI
            rw [if_neg (fun h => h.1 rfl)]
        have k01 := cK_01 Y N A'.1 T0 i
        rw [hK] at k01
        have hcut : (if 0 < (i : Int) ∧ B.1 ((i : Int) - 1) = r then c else c + 1) = c + (if i = 0 ∨ A'.1 ((i : Int) - 1) ≠ A'.1 i then 1 else 0) := by
          rw [a2, a1 _ (by omega), ← hBr _ (show (i : Int) - 1 < i by omega)]
          by_cases h : 0 < (i : Int) ∧ B.1 ((i : Int) - 1) = r
          · rw [if_pos h, if_neg (fun h2 => by rcases h2 with h2 | h2; omega; exact h2 h.2), Int.add_zero]
          · rw [if_neg h, if_pos]
            by_cases hi0 : i = 0
            · exact Or.inl hi0
            · exact Or.inr (fun h2 => h ⟨by omega, h2⟩)
        have hih := ih (i + 1) (p * R + r) (k + kkI g (tl r) (kd i)) (if 0 < (i : Int) ∧ B.1 ((i : Int) - 1) = r then c else c + 1) (iup cn r (cn r + 1)) (iup tl r (kd i)) A' (by omega) (by omega) (by split <;> omega)
          (fun j h0 h1 => by
            by_cases hj : j = i
            · rw [hj, a2]; omega
            · rw [a1 j (by omega)]; exact hA j h0 (by omega))
          (fun x hx j h0 h1 => by
            obtain ⟨x1, x2⟩ := hq1 x hx
            by_cases hj : j = i
            · rw [hj, a2, x2]
            · rw [a1 j (by omega)]; exact hpre x x1 j h0 (by omega))
          (fun s h0 h1 => by
            show iup cn r (cn r + 1) s = iup (cL N A'.1 L0 i) (A'.1 i) (cL N A'.1 L0 i (A'.1 i) + 1) s
            rw [a2]
            unfold iup
            rw [eL r (by omega) (by omega), eL s h0 (by omega), ← hcn r (by omega) hrN, ← hcn s h0 h1])
          (fun s h0 h1 => by
            show iup tl r (kd i) s = lkM Y (iup (cT N A'.1 T0 i) (A'.1 i) (N (1 + i)) s)
            rw [a2]
            unfold iup
            by_cases hs : s = r
            · rw [if_pos hs, if_pos hs, hkdi]
              unfold lkM
              rw [if_pos hw.1]
            · rw [if_neg hs, if_neg hs, eT s h0 (by omega), ← htl s h0 h1])
          (by
            show cC Y N A'.1 T0 i + 100 * cK Y N A'.1 T0 i + (if i = 0 ∨ A'.1 ((i : Int) - 1) ≠ A'.1 i then 1 else 0) = _
            rw [eC, hC, hK, hcut]
            omega)
          (by
            show (cOk Y N A'.1 L0 i && decide (cL N A'.1 L0 i (A'.1 i) ≠ Y (1 + A'.1 i))) = true
            rw [eO, hok, a2, eL r (by omega) (by omega), ← hcnr]
            have := hrm r (by omega) hrN
            simp
            omega)
          (by
            unfold plQ at hBQ ⊢
            rw [hA']
            exact hBQ)
        rw [hA'] at hih
        refine ⟨?_, fun j hj => ?_⟩
        · rw [show p * R + (r + 1) = p * R + r + 1 by omega]; exact hih.1
        · rw [show ((i + 1 : Nat) : Int) = (i : Int) + 1 by omega] at hih
          rw [hih.2 j (by omega)]
          show iup B.1 i r j = _
          rw [iup_n (by omega)]
          exact hBr j hj
      · -- it is full
        show plQ R m (if cn r < rm r then _ else B) _ ∧ ∀ j : Int, j < i → (if cn r < rm r then _ else B : pA4).1 j = A.1 j
        rw [if_neg hroom]
        refine ⟨?_, hBr⟩
        have hfar : ∀ x : Nat, x / R ^ n = p * R + r → cost x = 1000000 := fun x hx => by
          obtain ⟨x1, x2⟩ := hq1 x hx
          have hd := hpre x x1
          have hA4 : ∀ j : Int, 0 ≤ j → j < i → 0 ≤ dgt R m x j ∧ dgt R m x j < 4 := fun j h0 h1 => by rw [hd j h0 h1]; have := hA j h0 h1; omega
          have eL := cL_congr (N := N) (m := i) (L0 := L0) (L0' := L0) (rw := dgt R m x) (rw' := A.1) hd (fun _ _ _ => rfl) hA4 i (Nat.le_refl i)
          have hno : cOk Y N (dgt R m x) L0 (i + 1) = false := by
            show (cOk Y N (dgt R m x) L0 i && decide (cL N (dgt R m x) L0 i (dgt R m x i) ≠ Y (1 + dgt R m x i))) = false
            rw [x2, eL r (by omega) (by omega), ← hcnr]
            have := hrm r (by omega) hrN
            rw [show cn r = Y (1 + (r : Int)) by omega]
            simp
          have hno2 := cOk_f hno n
          rw [show i + 1 + n = m by omega] at hno2
          rw [hcd]
          show cstQ Y N (dgt R m x) L0 T0 m = _
          unfold cstQ
          rw [hno2, if_neg (by decide)]
        have hFle : (fmn cost ((p * R + r) * R ^ n)).1 ≤ 1000000 := by
          rcases hBQ with ⟨q1, _⟩ | ⟨q1, q2, q3, _⟩ <;> omega
        have hfl := fmn_flat (cost := cost) (R ^ n) ((p * R + r) * R ^ n) (fun x h1 h2 => by
          rw [hfar x (hrg _ _ _ h1 (by rw [Nat.add_mul, Nat.one_mul]; exact h2))]
          exact hFle)
        rw [show (p * R + (r + 1)) * R ^ n = (p * R + r) * R ^ n + R ^ n by rw [← Nat.add_assoc, Nat.add_mul (p * R + r) 1, Nat.one_mul], hfl]
        exact hBQ
    · rw [if_neg hb]
      refine ⟨?_, fun _ _ => rfl⟩
      have hfl := fmn_flat (cost := cost) (R ^ (n + 1)) (p * R ^ (n + 1)) (fun x h1 h2 => by
        have := hge x (hrg _ _ _ h1 (by rw [Nat.add_mul, Nat.one_mul]; exact h2))
        rcases hQ with ⟨q1, q2, q3⟩ | ⟨q1, q2, q3, q4⟩ <;> omega)
      rw [Nat.add_mul, Nat.one_mul, hfl]
      exact hQ
end

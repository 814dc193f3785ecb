/-! ===== roads by first fit ===== -/
theorem ffK_sp {lt : Int → Int} {t : Int} : ∀ (k : Nat) (r : Int), (∀ s, r ≤ s → s < ffK lt t k r → lt s ≤ t) ∧ (ffK lt t k r < r + k → t < lt (ffK lt t k r))
  | 0, r => ⟨fun s h1 h2 => by unfold ffK at h2; omega, fun h => by unfold ffK at h; omega⟩
  | k + 1, r => by
    have ih := ffK_sp (lt := lt) (t := t) k (r + 1)
    unfold ffK
    split
    · rename_i h
      exact ⟨fun s h1 h2 => by omega, fun _ => h⟩
    · rename_i h
      refine ⟨fun s h1 h2 => ?_, fun h2 => ih.2 (by omega)⟩
      by_cases hs : s = r
      · subst hs; omega
      · exact ih.1 s (by omega) h2
def gR (T l0 : Int → Int) (v : Nat) : Int := ffK (plS T l0 v).2 (T v) (plS T l0 v).1.toNat 0
def gI (T l0 : Int → Int) (v : Nat) : Prop :=
  (∀ u : Nat, u < v → T u ≠ -1 → 0 ≤ gR T l0 u ∧ gR T l0 u < (plS T l0 v).1 ∧ (plS T l0 v).2 (gR T l0 u) ≤ T u) ∧
  (∀ r : Int, 0 ≤ r → r < (plS T l0 v).1 → ∃ u : Nat, u < v ∧ T u ≠ -1 ∧ gR T l0 u = r ∧ T u = (plS T l0 v).2 r) ∧
  (∀ u u' : Nat, u < u' → u' < v → T u ≠ -1 → T u' ≠ -1 → gR T l0 u = gR T l0 u' → T u' < T u) ∧
  (∀ u : Nat, u < v → T u ≠ -1 → ∀ r : Int, 0 ≤ r → r < gR T l0 u → ∃ u' : Nat, u' < u ∧ T u' ≠ -1 ∧ gR T l0 u' = r ∧ T u' < T u)
theorem plS_nn (T l0 : Int → Int) : ∀ v : Nat, 0 ≤ (plS T l0 v).1
  | 0 => by show (0 : Int) ≤ 0; omega
  | v + 1 => by
    have ih := plS_nn T l0 v
    unfold plS
    split
    · exact ih
    · show 0 ≤ max _ _
      omega
theorem gI_all {T l0 : Int → Int} {W : Nat} (hinj : ∀ u v : Nat, u < W → v < W → T u ≠ -1 → T u = T v → u = v) : ∀ v : Nat, v ≤ W → gI T l0 v
  | 0, _ => ⟨fun u h => by omega, fun r h0 h1 => by have : (plS T l0 0).1 = 0 := rfl; omega, fun u u' h1 h2 => by omega, fun u h => by omega⟩
  | v + 1, hv => by
    obtain ⟨i1, i2, i3, i4⟩ := gI_all hinj v (by omega)
    by_cases hT : T v = -1
    · have e := plS_no (l0 := l0) hT
      unfold gI
      rw [e]
      refine ⟨fun u hu ht => ?_, fun r h0 h1 => ?_, fun u u' h1 h2 h3 h4 => ?_, fun u hu ht => ?_⟩
      · by_cases huv : u = v
        · subst huv; exact absurd hT ht
        · exact i1 u (by omega) ht
      · obtain ⟨u, q1, q2⟩ := i2 r h0 h1
        exact ⟨u, by omega, q2⟩
      · by_cases huv : u' = v
        · subst huv; exact absurd hT h4
        · exact i3 u u' h1 (by omega) h3 h4
      · by_cases huv : u = v
        · subst huv; exact absurd hT ht
        · exact i4 u (by omega) ht
    · have e := plS_go (l0 := l0) hT
      have nn := plS_nn T l0 v
      obtain ⟨c, hc⟩ : ∃ c, c = (plS T l0 v).1 := ⟨_, rfl⟩
      obtain ⟨L, hL⟩ : ∃ L, L = (plS T l0 v).2 := ⟨_, rfl⟩
      obtain ⟨g, hg⟩ : ∃ g, g = gR T l0 v := ⟨_, rfl⟩
      have hgd : g = ffK L (T v) c.toNat 0 := by rw [hg, hc, hL]; rfl
      rw [← hc, ← hL] at i1 i2 e
      rw [← hc] at nn
      rw [← hgd] at e
      have sp := ffK_sp (lt := L) (t := T v) c.toNat 0
      have rgg := ffK_rg (lt := L) (t := T v) c.toNat 0
      rw [← hgd] at sp rgg
      have hne : ∀ u : Nat, u < v → T u ≠ -1 → T u ≠ T v := fun u hu ht h => by have := hinj u v (by omega) (by omega) ht h; omega
      -- the roads before g have one that runs ahead of it
      have low : ∀ r : Int, 0 ≤ r → r < g → ∃ u' : Nat, u' < v ∧ T u' ≠ -1 ∧ gR T l0 u' = r ∧ T u' < T v := fun r h0 h1 => by
        obtain ⟨u, q1, q2, q3, q4⟩ := i2 r h0 (by omega)
        have := sp.1 r h0 h1
        have := hne u q1 q2
        exact ⟨u, q1, q2, q3, by omega⟩
      have same : ∀ u : Nat, u < v → T u ≠ -1 → gR T l0 u = g → T v < T u := fun u hu ht h => by
        have h1 := i1 u hu ht
        rw [h] at h1
        have := sp.2 (by omega)
        omega
      unfold gI
      rw [e]
      refine ⟨fun u hu ht => ?_, fun r h0 h1 => ?_, fun u u' h1 h2 h3 h4 h5 => ?_, fun u hu ht => ?_⟩
      · show 0 ≤ gR T l0 u ∧ gR T l0 u < max c (g + 1) ∧ iup L g (T v) (gR T l0 u) ≤ T u
        by_cases huv : u = v
        · subst huv
          rw [← hg, iup_s]
          omega
        · have h1 := i1 u (by omega) ht
          by_cases hgu : gR T l0 u = g
          · have := same u (by omega) ht hgu
            rw [hgu, iup_s]
            omega
          · rw [iup_n hgu]
            omega
      · have h1 : r < max c (g + 1) := h1
        show ∃ u : Nat, u < v + 1 ∧ T u ≠ -1 ∧ gR T l0 u = r ∧ T u = iup L g (T v) r
        by_cases hr : r = g
        · exact ⟨v, by omega, hT, by rw [hr, hg], by rw [hr, iup_s]⟩
        · obtain ⟨u, q1, q2, q3, q4⟩ := i2 r h0 (by omega)
          exact ⟨u, by omega, q2, q3, by rw [iup_n hr]; exact q4⟩
      · by_cases huv : u' = v
        · subst huv
          exact same u h1 h3 (by rw [h5, hg])
        · exact i3 u u' h1 (by omega) h3 h4 h5
      · by_cases huv : u = v
        · subst huv
          rw [← hg]
          exact low
        · exact i4 u (by omega) ht
/-- who runs ahead of v goes to an earlier road -/
theorem gR_lt {T l0 : Int → Int} {W : Nat} (hinj : ∀ u v : Nat, u < W → v < W → T u ≠ -1 → T u = T v → u = v) {u v : Nat} (huv : u < v) (hv : v < W) (hu1 : T u ≠ -1) (hv1 : T v ≠ -1) (h : T u < T v) : gR T l0 u < gR T l0 v := by
  obtain ⟨i1, i2, i3, i4⟩ := gI_all (l0 := l0) hinj (v + 1) (by omega)
  have gv := i1 v (by omega) hv1
  by_cases hlt : gR T l0 u < gR T l0 v
  · exact hlt
  · exfalso
    by_cases he : gR T l0 u = gR T l0 v
    · have := i3 u v huv (by omega) hu1 hv1 he
      omega
    · obtain ⟨u', q1, q2, q3, q4⟩ := i4 u (by omega) hu1 (gR T l0 v) gv.1 (by omega)
      have := i3 u' v (by omega) (by omega) q2 hv1 q3
      omega
theorem gR_0 {T l0 : Int → Int} {W : Nat} (hinj : ∀ u v : Nat, u < W → v < W → T u ≠ -1 → T u = T v → u = v) {v : Nat} (hv : v < W) (hv1 : T v ≠ -1) : 0 ≤ gR T l0 v ∧ (0 < gR T l0 v → ∃ u : Nat, u < v ∧ T u ≠ -1 ∧ gR T l0 u + 1 = gR T l0 v ∧ T u < T v) := by
  obtain ⟨i1, i2, i3, i4⟩ := gI_all (l0 := l0) hinj (v + 1) (by omega)
  have gv := i1 v (by omega) hv1
  refine ⟨gv.1, fun h => ?_⟩
  obtain ⟨u, q1, q2, q3, q4⟩ := i4 v (by omega) hv1 (gR T l0 v - 1) (by omega) (by omega)
  exact ⟨u, q1, q2, by omega, q4⟩
theorem plS_1 {T l0 : Int → Int} {v : Nat} (h : ¬ T v = -1) : (plS T l0 (v + 1)).1 = max (plS T l0 v).1 (gR T l0 v + 1) := by rw [plS_go h]; rfl
/-! rows of codes, in their order -/
def cdOf (B : Nat) (G : Nat → Nat) : Nat → Nat
  | 0 => 0
  | k + 1 => cdOf B G k * B + G k
theorem dgt_pre {B L c : Nat} {j : Int} (h : 0 ≤ j) (hj : j < L) : dgt B (L + 1) c j = dgt B L (c / B) j := by
  unfold dgt
  rw [show L + 1 - 1 - j.toNat = 1 + (L - 1 - j.toNat) by omega, Nat.pow_add, Nat.pow_one, ← Nat.div_div_eq_div_mul]
theorem dgt_last {B L c : Nat} : dgt B (L + 1) c L = ((c % B : Nat) : Int) := by
  unfold dgt
  rw [show L + 1 - 1 - (L : Int).toNat = 0 by omega, Nat.pow_zero, Nat.div_one]
theorem cdOf_dgt {B : Nat} {G : Nat → Nat} : ∀ L : Nat, (∀ k, k < L → G k < B) → ∀ j : Nat, j < L → dgt B L (cdOf B G L) j = (G j : Int)
  | 0, _, j, hj => by omega
  | L + 1, hG, j, hj => by
    have hB := hG L (by omega)
    by_cases h : j = L
    · subst h
      rw [dgt_last]
      show (((cdOf B G j * B + G j) % B : Nat) : Int) = _
      rw [Nat.mul_comm, Nat.mul_add_mod, Nat.mod_eq_of_lt hB]
    · rw [dgt_pre (by omega) (by omega)]
      have e : cdOf B G (L + 1) / B = cdOf B G L := by
        show (cdOf B G L * B + G L) / B = _
        rw [Nat.mul_comm, Nat.mul_add_div (by omega), Nat.div_eq_of_lt hB, Nat.add_zero]
      rw [e]
      exact cdOf_dgt L (fun k hk => hG k (by omega)) j (by omega)
theorem cdOf_lt {B : Nat} {G : Nat → Nat} : ∀ L : Nat, (∀ k, k < L → G k < B) → cdOf B G L < B ^ L
  | 0, _ => by unfold cdOf; simp
  | L + 1, hG => by
    have ih := cdOf_lt L (fun k hk => hG k (by omega))
    have hB := hG L (by omega)
    unfold cdOf
    rw [Nat.pow_succ]
    have : (cdOf B G L + 1) * B ≤ B ^ L * B := Nat.mul_le_mul_right B ih
    rw [Nat.add_mul, Nat.one_mul] at this
    omega
/-- the earlier code is the smaller at the first digit that differs -/
theorem lex_lt {B : Nat} (hB : 0 < B) : ∀ (L c c' : Nat), c' < B ^ L → c < c' → ∃ k : Nat, k < L ∧ (∀ j : Nat, j < k → dgt B L c j = dgt B L c' j) ∧ dgt B L c k < dgt B L c' k
  | 0, c, c', h, hlt => by simp at h; omega
  | L + 1, c, c', h, hlt => by
    have hd : c / B ≤ c' / B := Nat.div_le_div_right (by omega)
    have hc' : c' / B < B ^ L := by rw [Nat.div_lt_iff_lt_mul hB]; rw [Nat.pow_succ] at h; exact h
    by_cases he : c / B = c' / B
    · refine ⟨L, by omega, fun j hj => by rw [dgt_pre (by omega) (by omega), dgt_pre (by omega) (by omega), he], ?_⟩
      rw [dgt_last, dgt_last]
      have h1 := Nat.div_add_mod c B
      have h2 := Nat.div_add_mod c' B
      rw [he] at h1
      omega
    · obtain ⟨k, q1, q2, q3⟩ := lex_lt hB L (c / B) (c' / B) hc' (by omega)
      refine ⟨k, by omega, fun j hj => by rw [dgt_pre (by omega) (by omega), dgt_pre (by omega) (by omega)]; exact q2 j hj, ?_⟩
      rw [dgt_pre (by omega) (by omega), dgt_pre (by omega) (by omega)]
      exact q3

/-! ===== the relation of the two objects ===== -/
/-- a stand's cells, used or not -/
def gSt (V : Nat → Int → Int) (s : Nat) : Prop := (∀ i : Int, 0 ≤ V (s + 2) i ∧ V (s + 2) i ≤ 7) ∧ (∀ i : Int, -1 ≤ V (s + 1) i ∧ V (s + 1) i ≤ 6) ∧ (∀ i : Int, 0 ≤ V (s + 3) i ∧ V (s + 3) i ≤ 127)
def rrT (V : Nat → Int → Int) : Prop := V 1 1 = V 134 9 ∧ V 2 = V 141 ∧ tM V ∧ V 1 5 = V 134 10
def rrY (V : Nat → Int → Int) (b : Bool) : Prop := YRd V (yN b) (V 135) ∧ (MS V ∧ (V 135 0 = 0 → V 135 5 = 0)) ∧ tuR V 120 ∧ tuR V 127
def rrN (V : Nat → Int → Int) (n : Int) : Prop := SRn V 3 (V 137) ∧ stI (V 135) (V 137) (60 * n)
def rrG (V : Nat → Int → Int) : Prop := ∀ s : Nat, isS s → gSt V s
/-- the ring's place of the k-th that can be undone -/
def rgk (V : Nat → Int → Int) (k : Int) : Nat := rgp ((V 7 2 + 20 - (V 7 1 - 1 - k)) % 20)
def blk (P : Int → Int) (z k : Int) : Int → Int := fun j => P (z * k + j)
def rrP (V : Nat → Int → Int) (n : Int) : Prop := V 7 1 = V 134 4 ∧ (0 ≤ V 7 1 ∧ V 7 1 ≤ 20) ∧ (0 ≤ V 7 2 ∧ V 7 2 < 20) ∧ ∀ k : Int, 0 ≤ k → k < V 7 1 → SRn V (rgk V k) (blk (V 138) 47 k) ∧ stI (V 135) (blk (V 138) 47 k) (60 * n)
def rrI (V : Nat → Int → Int) (n : Int) : Prop := (∀ i : Int, 0 ≤ V 140 i ∧ V 140 i ≤ 1) ∧ ∀ i : Int, 0 ≤ i → i ≤ 1 → V (imP i) 2 = V 140 i ∧ V (imP i) 1 = V 139 (48 * i + 47) ∧ (0 ≤ V (imP i) 1 ∧ V (imP i) 1 ≤ 2147483647) ∧ (V 140 i = 1 → SRn V (imP i + 1) (blk (V 139) 48 i) ∧ stI (V 135) (blk (V 139) 48 i) (60 * n))
def rrS (V : Nat → Int → Int) : Prop := V 0 13 = V 134 7 ∧ (0 ≤ V 0 13 ∧ V 0 13 ≤ 2147483647)
def rrC (V : Nat → Int → Int) : Prop := V 99 0 = V 134 12 ∧ TS V ∧ (0 ≤ V 99 1 ∧ V 99 1 < 33554432) ∧ (0 ≤ V 99 2 ∧ V 99 2 < 33554432) ∧ ∀ a c : Int, 0 ≤ a → a ≤ 4 → 0 ≤ c → c ≤ 4 → (tb (V 99 1) (a * 5 + c) = true ↔ trM (V 142) a c (V 134 12).toNat ≠ -1) ∧ (tb (V 99 2) (a * 5 + c) = true ↔ trM (V 142) a c (V 134 12).toNat = 1)
def rrH (V : Nat → Int → Int) : Prop := V 100 3 = V 134 14 ∧ (0 ≤ V 100 3 ∧ V 100 3 ≤ 6) ∧ ∀ k : Int, 0 ≤ k → k < V 100 3 → V 101 k = V 143 (3 * k) ∧ V 102 k = V 143 (3 * k + 1) ∧ V 103 k = V 143 (3 * k + 2) ∧ (0 ≤ V 143 (3 * k) ∧ V 143 (3 * k) < V 135 0) ∧ (0 ≤ V 143 (3 * k + 1) ∧ V 143 (3 * k + 1) ≤ 6) ∧ ((0 ≤ V 143 (3 * k + 2) ∧ V 143 (3 * k + 2) ≤ 4) ∨ V 143 (3 * k + 2) = 9)
def rrB (V : Nat → Int → Int) : Prop := V 104 3 = V 134 16 ∧ (0 ≤ V 104 3 ∧ V 104 3 ≤ 15) ∧ ∀ k : Int, 0 ≤ k → k < V 104 3 → V 105 k = V 144 (3 * k) ∧ V 106 k = V 144 (3 * k + 1) ∧ V 107 k = V 144 (3 * k + 2) ∧ (0 ≤ V 144 (3 * k) ∧ V 144 (3 * k) < V 135 0) ∧ (0 ≤ V 144 (3 * k + 1) ∧ V 144 (3 * k + 1) ≤ 6) ∧ (-1 ≤ V 144 (3 * k + 2) ∧ V 144 (3 * k + 2) ≤ 6)
def rrX (V : Nat → Int → Int) : Prop := plR V ∧ ftR V
def RR (V : Nat → Int → Int) (b : Bool) (n : Int) : Prop := (0 ≤ n ∧ n ≤ 64) ∧ rrT V ∧ rrY V b ∧ rrN V n ∧ rrG V ∧ rrP V n ∧ rrI V n ∧ rrS V ∧ rrC V ∧ rrH V ∧ rrB V ∧ rrX V
section
variable {V V' : Nat → Int → Int} {b : Bool} {n : Int}
theorem isS_rg {s : Nat} (h : isS s) : s = 3 ∨ (9 ≤ s ∧ s ≤ 85) ∨ s = 90 ∨ s = 95 := by
  unfold isS at h
  simp only [List.mem_cons, List.not_mem_nil, or_false] at h
  omega
theorem rgk_rg (h : 0 ≤ V 7 2 ∧ V 7 2 < 20) (h1 : 0 ≤ V 7 1 ∧ V 7 1 ≤ 20) (k : Int) : 9 ≤ rgk V k ∧ rgk V k ≤ 85 := by
  unfold rgk rgp
  omega
theorem imP_rg (i : Int) : imP i = 89 ∨ imP i = 94 := by
  unfold imP
  split <;> omega
/-! one by one, where only other places change -/
theorem rrT_c (h : rrT V) (e1 : V' 1 1 = V 1 1) (e5 : V' 1 5 = V 1 5) (e2 : V' 2 = V 2) (e9 : V' 134 9 = V 134 9) (e10 : V' 134 10 = V 134 10) (e141 : V' 141 = V 141) : rrT V' := by
  unfold rrT tM at *
  rw [e1, e5, e2, e9, e10, e141]
  exact h
theorem rrY_c (h : rrY V b) (e : ∀ a : Nat, 120 ≤ a → a ≤ 133 → a ≠ 126 → a ≠ 133 → V' a = V a) (t1 : ∀ j : Int, -1 ≤ V' 126 j ∧ V' 126 j ≤ 6) (t2 : ∀ j : Int, -1 ≤ V' 133 j ∧ V' 133 j ≤ 6) (e5 : V' 135 = V 135) : rrY V' b := by
  obtain ⟨h1, ⟨h2, h2'⟩, h3, h4⟩ := h
  refine ⟨?_, ⟨MS_congr e5 h2, by rw [e5]; exact h2'⟩, ⟨?_, t1⟩, ⟨?_, t2⟩⟩
  · rw [e5]
    have hy := yN_Y b
    refine YRd_congr (fun a a0 a1 => ?_) h1
    rcases hy with hy | hy <;> rw [hy] at a0 a1 <;> exact e a (by omega) (by omega) (by omega) (by omega)
  · rw [e _ (by omega) (by omega) (by omega) (by omega)]; exact h3.1
  · rw [e _ (by omega) (by omega) (by omega) (by omega)]; exact h4.1
theorem rrN_c {n' : Int} (h : rrN V n) (hn : n ≤ n') (h7 : V 135 5 ≤ 7) (e : ∀ a : Nat, 3 ≤ a → a ≤ 6 → V' a = V a) (e7 : V' 137 = V 137) (e5 : V' 135 = V 135) : rrN V' n' := by
  obtain ⟨h1, h2⟩ := h
  unfold rrN
  rw [e7, e5]
  exact ⟨SRn_congr h1 h2 h7 (e 3 (by omega) (by omega)) (e 4 (by omega) (by omega)) (e 5 (by omega) (by omega)) (e 6 (by omega) (by omega)) (fun _ _ _ => rfl), stI_up h2 (by omega)⟩
theorem rrG_c (h : rrG V) (e : ∀ a : Nat, (3 ≤ a ∧ a ≤ 6) ∨ (9 ≤ a ∧ a ≤ 88) ∨ (90 ≤ a ∧ a ≤ 93) ∨ (95 ≤ a ∧ a ≤ 98) → V' a = V a) : rrG V' := by
  intro s hs
  have hh := h s hs
  have hr := isS_rg hs
  unfold gSt at *
  rw [e (s + 1) (by omega), e (s + 2) (by omega), e (s + 3) (by omega)]
  exact hh
theorem rrP_c {n' : Int} (h : rrP V n) (hn : n ≤ n') (h7 : V 135 5 ≤ 7) (e7 : V' 7 = V 7) (e : ∀ a : Nat, 9 ≤ a → a ≤ 88 → V' a = V a) (e4 : V' 134 4 = V 134 4) (e8 : V' 138 = V 138) (e5 : V' 135 = V 135) : rrP V' n' := by
  obtain ⟨h1, h2, h3, h4⟩ := h
  unfold rrP
  rw [e7, e4, e8, e5]
  refine ⟨h1, h2, h3, fun k k0 k1 => ?_⟩
  obtain ⟨g1, g2⟩ := h4 k k0 k1
  have hk : rgk V' k = rgk V k := by unfold rgk; rw [e7]
  have hr := rgk_rg (V := V) h3 h2 k
  rw [hk]
  exact ⟨SRn_congr g1 g2 h7 (e _ (by omega) (by omega)) (e _ (by omega) (by omega)) (e _ (by omega) (by omega)) (e _ (by omega) (by omega)) (fun _ _ _ => rfl), stI_up g2 (by omega)⟩
theorem rrI_c {n' : Int} (h : rrI V n) (hn : n ≤ n') (h7 : V 135 5 ≤ 7) (e : ∀ a : Nat, 89 ≤ a → a ≤ 98 → V' a = V a) (e9 : V' 139 = V 139) (e0 : V' 140 = V 140) (e5 : V' 135 = V 135) : rrI V' n' := by
  obtain ⟨h1, h2⟩ := h
  unfold rrI
  rw [e9, e0, e5]
  refine ⟨h1, fun i i0 i1 => ?_⟩
  obtain ⟨g1, g2, g3, g4⟩ := h2 i i0 i1
  have hi := imP_rg i
  rw [e (imP i) (by omega) (by omega)]
  refine ⟨g1, g2, g3, fun hk => ?_⟩
  obtain ⟨k1, k2⟩ := g4 hk
  exact ⟨SRn_congr k1 k2 h7 (e _ (by omega) (by omega)) (e _ (by omega) (by omega)) (e _ (by omega) (by omega)) (e _ (by omega) (by omega)) (fun _ _ _ => rfl), stI_up k2 (by omega)⟩
theorem rrS_c (h : rrS V) (e0 : V' 0 13 = V 0 13) (e7 : V' 134 7 = V 134 7) : rrS V' := by
  unfold rrS at *
  rw [e0, e7]
  exact h
theorem rrC_c (h : rrC V) (e0 : V' 99 = V 99) (e12 : V' 134 12 = V 134 12) (e2 : V' 142 = V 142) : rrC V' := by
  unfold rrC TS at *
  rw [e0, e12, e2]
  exact h
theorem rrH_c (h : rrH V) (e : ∀ a : Nat, 100 ≤ a → a ≤ 103 → V' a = V a) (e14 : V' 134 14 = V 134 14) (e3 : V' 143 = V 143) (e5 : V' 135 = V 135) : rrH V' := by
  unfold rrH at *
  rw [e 100 (by omega) (by omega), e 101 (by omega) (by omega), e 102 (by omega) (by omega), e 103 (by omega) (by omega), e14, e3, e5]
  exact h
theorem rrB_c (h : rrB V) (e : ∀ a : Nat, 104 ≤ a → a ≤ 107 → V' a = V a) (e16 : V' 134 16 = V 134 16) (e4 : V' 144 = V 144) (e5 : V' 135 = V 135) : rrB V' := by
  unfold rrB at *
  rw [e 104 (by omega) (by omega), e 105 (by omega) (by omega), e 106 (by omega) (by omega), e 107 (by omega) (by omega), e16, e4, e5]
  exact h
theorem rrX_c (h : rrX V) (e4 : V' 114 = V 114) (e5 : V' 115 = V 115) (e8 : V' 118 = V 118) (e9 : V' 119 = V 119) : rrX V' := by
  unfold rrX plR ftR at *
  rw [e4, e5, e8, e9]
  exact h
/-! what the walks need, from the relation -/
theorem RR_7 (h : RR V b n) : V 135 5 ≤ 7 := h.2.2.1.2.1.1.2.1.2
theorem RR_Y (h : RR V b n) : YRd V (yN b) (V 135) := h.2.2.1.1
theorem RR_MS (h : RR V b n) : MS V := h.2.2.1.2.1.1
theorem RR_05 (h : RR V b n) : V 135 0 = 0 → V 135 5 = 0 := h.2.2.1.2.1.2
theorem RR_SR (h : RR V b n) : SRn V 3 (V 137) := h.2.2.2.1.1
theorem RR_sI (h : RR V b n) : stI (V 135) (V 137) (60 * n) := h.2.2.2.1.2
theorem RR_NS (h : RR V b n) : NS V := stI_NS (RR_sI h) (RR_7 h)
theorem RR_G (h : RR V b n) : rrG V := h.2.2.2.2.1
theorem RR_P (h : RR V b n) : rrP V n := h.2.2.2.2.2.1
theorem RR_I (h : RR V b n) : rrI V n := h.2.2.2.2.2.2.1
theorem RR_S (h : RR V b n) : rrS V := h.2.2.2.2.2.2.2.1
theorem RR_C (h : RR V b n) : rrC V := h.2.2.2.2.2.2.2.2.1
theorem RR_H (h : RR V b n) : rrH V := h.2.2.2.2.2.2.2.2.2.1
theorem RR_B (h : RR V b n) : rrB V := h.2.2.2.2.2.2.2.2.2.2.1
theorem RR_X (h : RR V b n) : rrX V := h.2.2.2.2.2.2.2.2.2.2.2
theorem RR_T (h : RR V b n) : rrT V := h.2.1
theorem RR_cN (h : RR V b n) : cN V := ((RR_G h) 3 (by unfold isS; decide)).1
theorem RR_wN (h : RR V b n) : wN V := ((RR_G h) 3 (by unfold isS; decide)).2.1
theorem RR_p6 (h : RR V b n) : ∀ i, 0 ≤ V 6 i ∧ V 6 i ≤ 127 := ((RR_G h) 3 (by unfold isS; decide)).2.2
theorem RR_tX (h : RR V b n) : tX V := by
  obtain ⟨h1, h2, h3, h4⟩ := RR_T h
  unfold tX
  rw [h1, h2]
  exact h3
theorem YRd_YS {y : Nat} {Y : Int → Int} (h : YRd V y Y) : YS V y := by
  obtain ⟨y1, y2, y3, y4, y5, y6, y7, y8⟩ := h
  unfold YS
  rw [y1.1, y2.1]
  exact ⟨y1.2, y2.2, ⟨y6.1, y6.2.1⟩, fun w w0 w1 => by rw [(y5 w w0 w1).1.1]; exact (y5 w w0 w1).1.2, fun r r0 r1 => by rw [(y4 r r0 r1).1]; exact (y4 r r0 r1).2⟩
theorem RR_YS (h : RR V b n) : YS V (yN b) := YRd_YS (RR_Y h)
theorem RR_YW (h : RR V b n) : YW V (yN b) := by
  obtain ⟨y1, y2, y3, y4, y5, y6, y7, y8⟩ := RR_Y h
  intro w w0 w1
  rw [y2.1] at w1
  obtain ⟨a1, a2, a3⟩ := y5 w w0 w1
  rw [a2.1, a3.1]
  exact ⟨a2.2, a3.2⟩
theorem RR_cu (h : RR V b n) : (0 ≤ V 3 3 ∧ V 3 3 ≤ 60 * n) ∧ (0 ≤ V 3 4 ∧ V 3 4 ≤ 60 * n) ∧ (-1 ≤ V 3 5 ∧ V 3 5 ≤ 66) := by
  obtain ⟨s1, _⟩ := RR_SR h
  obtain ⟨h1, h2, h3, h4, h5, h6, h7', h8, h9⟩ := RR_sI h
  rw [s1.1, s1.2.1, s1.2.2]
  exact ⟨h9.1, h9.2, h5⟩
end

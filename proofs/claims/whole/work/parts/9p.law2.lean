/-! ===== x's calls leave the model's places ===== -/
section
variable {V V1 V2 : Nat → Int → Int} {b b' : Bool} {n : Int}
theorem ldX_oo {y : Nat} {r : Int} {a : Nat} (h3 : a ≠ 3) (h4 : a ≠ 4) (h5 : a ≠ 5) : ∀ (k : Nat) (V : Nat → Int → Int), ldX y r k V a = V a
  | 0, V => rfl
  | k + 1, V => by
    show ldX y r k (stX y r V) a = V a
    rw [ldX_oo h3 h4 h5 k (stX y r V), stX_o h3 h4 h5]
theorem dfX_oo {y : Nat} {a : Nat} (h0 : a ≠ 0) (h3 : a ≠ 3) (h4 : a ≠ 4) (h5 : a ≠ 5) (h6 : a ≠ 6) : ∀ (k : Nat) (V : Nat → Int → Int), dfX y k V a = V a
  | 0, V => rfl
  | k + 1, V => by
    show dfX y k (dst1 y V) a = V a
    rw [dfX_oo h0 h3 h4 h5 h6 k (dst1 y V)]
    unfold dst1 dr1
    split
    · unfold puX; rw [zup_n _ _ h6, zup_n _ _ h5, zup_n _ _ h4, vst_o h0]
    · split
      · rw [vst_o h3, ldX_oo h3 h4 h5, vst_o h0]
      · rw [vst_o h0]
theorem xo_feed {x q : Int} (hx : (¬ (0 ≤ x ∧ x ≤ 255) ∧ q = -1000000002 ∧ V1 = V) ∨ ((0 ≤ x ∧ x ≤ 255) ∧ V 1 1 = 230 ∧ q = -1000000004 ∧ V1 = V) ∨ ((0 ≤ x ∧ x ≤ 255) ∧ V 1 1 < 230 ∧ q = V 1 1 + 1 ∧ V1 = vst (vst V 2 (V 1 1) x) 1 1 (V 1 1 + 1))) : ∀ a : Nat, 134 ≤ a → V1 a = V a := fun a ha => by
  rcases hx with z | z | z
  · rw [z.2.2]
  · rw [z.2.2.2]
  · rw [z.2.2.2, vst_o (by omega), vst_o (by omega)]
theorem xo_cut (h : RR V b n) {k r q : Int} (hx : ctP V (yN b) k r q V1) : ∀ a : Nat, 134 ≤ a → V1 a = V a := fun a ha => by
  rcases hx with z | z | z | z
  · rw [z.2.2]
  · rw [z.2.2.2]
  · rw [z.2.2.2.2]
  · rw [z.2.2.2.2, vst_o (by omega), ldX_oo (by omega) (by omega) (by omega)]
    exact rem1_x h a (by omega) (by omega)
theorem xo_pull (h : RR V b n) {r q : Int} (hx : (¬ (0 ≤ r ∧ r < V (yN b) 6) ∧ q = -1000000001 ∧ V1 = V) ∨ ((0 ≤ r ∧ r < V (yN b) 6) ∧ V 5 r = 0 ∧ q = -1000000003 ∧ V1 = V) ∨ ((0 ≤ r ∧ r < V (yN b) 6) ∧ V 5 r ≠ 0 ∧ q = V 5 r ∧ V1 = puX (rem1 V) r)) : ∀ a : Nat, 134 ≤ a → V1 a = V a := fun a ha => by
  rcases hx with z | z | z
  · rw [z.2.2]
  · rw [z.2.2.2]
  · rw [z.2.2.2]
    unfold puX
    rw [zup_n _ _ (by omega), zup_n _ _ (by omega), zup_n _ _ (by omega)]
    exact rem1_x h a (by omega) (by omega)
theorem xo_peace (h : RR V b n) {r i q : Int} (hx : (¬ (0 ≤ r ∧ r < V (yN b) 6) ∧ q = -1000000001 ∧ V1 = V) ∨ ((0 ≤ r ∧ r < V (yN b) 6) ∧ ¬ ((0 ≤ i ∧ i < V 5 r - 1) ∧ tb (V 6 r) i = false) ∧ q = -1000000003 ∧ V1 = V) ∨ ((0 ≤ r ∧ r < V (yN b) 6) ∧ ((0 ≤ i ∧ i < V 5 r - 1) ∧ tb (V 6 r) i = false) ∧ q = kkI (V (yN b) 8) (kdX V (yN b) (wA V r i)) (kdX V (yN b) (wA V r (i + 1))) ∧ V1 = vst (rem1 V) 6 r (bOr (V 6 r) (s1 i)))) : ∀ a : Nat, 134 ≤ a → V1 a = V a := fun a ha => by
  rcases hx with z | z | z
  · rw [z.2.2]
  · rw [z.2.2.2]
  · rw [z.2.2.2, vst_o (by omega)]
    exact rem1_x h a (by omega) (by omega)
theorem xo_drift (h : RR V b n) {k q : Int} (hx : dfP V (yN b) k q V1) : ∀ a : Nat, 134 ≤ a → V1 a = V a := fun a ha => by
  rcases hx with z | z | z | z
  · rw [z.2.2]
  · rw [z.2.2.2]
  · rw [z.2.2.2.2]
  · rw [z.2.2.2.2, dfX_oo (by omega) (by omega) (by omega) (by omega) (by omega)]
    exact rem1_x h a (by omega) (by omega)
theorem xo_undo {q : Int} (hx : (V 7 1 = 0 ∧ q = -1000000003 ∧ V1 = V) ∨ (V 7 1 ≠ 0 ∧ q = V 7 1 - 1 ∧ V1 = giv1 V)) : ∀ a : Nat, 134 ≤ a → V1 a = V a := fun a ha => by
  rcases hx with z | z
  · rw [z.2.2]
  · rw [z.2.2]
    unfold giv1
    rw [vst_o (by omega), vst_o (by omega), bcm_o (by omega) (by omega) (by omega) (by omega)]
theorem xo_plan {y : Nat} {i q z : Int} (hx : ∃ U, suP V U y ∧ V1 = setP U (seaA U) ∧ plR V1 ∧ q = plA (seaA U) z i) : ∀ a : Nat, 134 ≤ a → V1 a = V a := fun a ha => by
  obtain ⟨U, hs, xV, _, _⟩ := hx
  rw [xV, setP_o (by omega) (by omega) (by omega)]
  exact hs.2.2.2.2.2 a (by omega)
theorem xo_leastRoads {w q : Int} (hx : (w ≠ -1 ∧ ¬ (0 ≤ w ∧ w < V (yN b) 7) ∧ q = -1000000001 ∧ V1 = V) ∨ ((w = -1 ∨ (0 ≤ w ∧ w < V (yN b) 7)) ∧ soP V V1 (yN b) w q)) : ∀ a : Nat, 134 ≤ a → V1 a = V a := fun a ha => by
  rcases hx with z | z
  · rw [z.2.2.2]
  · exact z.2.1 a (by rcases yN_Y b with hy | hy <;> omega)
theorem xo_foremen {x q : Int} (hx : (¬ (1 ≤ x ∧ x ≤ 7) ∧ q = -1000000002 ∧ V1 = V) ∨ ((1 ≤ x ∧ x ≤ 7) ∧ suP V V1 (yN b) ∧ q = fmV (min x (V 5 4)).toNat 0 V1)) : ∀ a : Nat, 134 ≤ a → V1 a = V a := fun a ha => by
  rcases hx with z | z
  · rw [z.2.2]
  · exact z.2.1.2.2.2.2.2 a (by omega)
theorem xo_couple {a c k q : Int} (hx : (¬ (0 ≤ a ∧ a ≤ 4 ∧ 0 ≤ c ∧ c ≤ 4) ∧ q = -1000000001 ∧ V1 = V) ∨ ((0 ≤ a ∧ a ≤ 4 ∧ 0 ≤ c ∧ c ≤ 4) ∧ V 99 0 = 8 ∧ q = -1000000004 ∧ V1 = V) ∨ ((0 ≤ a ∧ a ≤ 4 ∧ 0 ≤ c ∧ c ≤ 4) ∧ V 99 0 < 8 ∧ q = V 99 0 + 1 ∧ V1 = cpl V a c k)) : ∀ a : Nat, 134 ≤ a → V1 a = V a := fun a ha => by
  rcases hx with z | z | z
  · rw [z.2.2]
  · rw [z.2.2.2]
  · rw [z.2.2.2]
    unfold cpl
    rw [vst_o (by omega), vst_o (by omega), vst_o (by omega)]
theorem xo_note {p : Nat} {C : Prop} {r i k q m : Int} (hp : p = 100 ∨ p = 104) (hx : (¬ C ∧ q = -1000000001 ∧ V1 = V) ∨ (C ∧ ((¬ (0 ≤ i ∧ i ≤ 6) ∧ q = -1000000002 ∧ V1 = V) ∨ ((0 ≤ i ∧ i ≤ 6) ∧ V p 3 = m ∧ q = -1000000004 ∧ V1 = V) ∨ ((0 ≤ i ∧ i ≤ 6) ∧ V p 3 < m ∧ q = V p 3 + 1 ∧ V1 = adN V p r i k)))) : ∀ a : Nat, 134 ≤ a → V1 a = V a := fun a ha => by
  rcases hx with z | z
  · rw [z.2.2]
  · rcases z.2 with z | z | z
    · rw [z.2.2]
    · rw [z.2.2.2]
    · rw [z.2.2.2]
      unfold adN
      rw [vst_o (by omega), vst_o (by omega), vst_o (by omega), vst_o (by omega)]
theorem xo_fit {i q : Int} (hx : ftP V V1 (yN b) i q) : ∀ a : Nat, 134 ≤ a → V1 a = V a := fun a ha => by
  obtain ⟨U, c, hs, ⟨sr1, _, _⟩, _⟩ := hx
  rw [sr1 a (by omega) (by omega) (by omega)]
  exact hs.2.2.2.2.2 a (by omega)
theorem xo_tear {q : Int} (hx : q = V 99 0 + V 100 3 + V 104 3 ∧ V1 = tearX V) : ∀ a : Nat, 134 ≤ a → V1 a = V a := fun a ha => by
  rw [hx.2]
  unfold tearX
  rw [vst_o (by omega), vst_o (by omega), vst_o (by omega), vst_o (by omega), vst_o (by omega)]
theorem xo_seed {v q : Int} (hx : (v < 0 ∧ q = -1000000002 ∧ V1 = V) ∨ (0 ≤ v ∧ q = V 0 13 ∧ V1 = vst V 0 13 v)) : ∀ a : Nat, 134 ≤ a → V1 a = V a := fun a ha => by
  rcases hx with z | z
  · rw [z.2.2]
  · rw [z.2.2, vst_o (by omega)]
theorem xo_keep {i q : Int} (hx : (¬ (0 ≤ i ∧ i ≤ 1) ∧ q = -1000000001 ∧ V1 = V) ∨ ((0 ≤ i ∧ i ≤ 1) ∧ q = 1 ∧ V1 = keepX V i)) : ∀ a : Nat, 134 ≤ a → V1 a = V a := fun a ha => by
  rcases hx with z | z
  · rw [z.2.2]
  · rw [z.2.2]
    have hi := imP_rg i
    unfold keepX
    rw [vst_o (by omega), vst_o (by omega), vst_o (by omega), bcm_o (by omega) (by omega) (by omega) (by omega)]
theorem xo_goBack {i q : Int} (hx : (¬ (0 ≤ i ∧ i ≤ 1) ∧ q = -1000000001 ∧ V1 = V) ∨ ((0 ≤ i ∧ i ≤ 1) ∧ V (imP i) 2 = 0 ∧ q = -1000000003 ∧ V1 = V) ∨ ((0 ≤ i ∧ i ≤ 1) ∧ V (imP i) 2 = 1 ∧ q = 1 ∧ V1 = backX V i)) : ∀ a : Nat, 134 ≤ a → V1 a = V a := fun a ha => by
  rcases hx with z | z | z
  · rw [z.2.2]
  · rw [z.2.2.2]
  · rw [z.2.2.2]
    unfold backX
    rw [vst_o (by omega), vst_o (by omega), bcm_o (by omega) (by omega) (by omega) (by omega)]
theorem xo_yard {rd0 : Int → Int} {q : Int} (hx : ydP rd0 V b q V1 b') : ∀ a : Nat, 134 ≤ a → V1 a = V a := fun a ha => by
  have hdis : yD b = 120 ∨ yD b = 127 := yD_Y b
  obtain ⟨res, _, hx⟩ := hx
  rcases hx with ⟨_, _, _, U, s', m', f', g', u1, u2, _⟩ | ⟨_, _, _, Va, Vb, ⟨U, s', m', f', g', u1, u2, _⟩, hbg, xV⟩
  · rw [u1, vst_o (by omega), rdr_o (by omega)]
    exact u2 a (by omega)
  · rw [xV]
    unfold tearX
    rw [vst_o (by omega), vst_o (by omega), vst_o (by omega), vst_o (by omega), vst_o (by omega), vst_o (by omega), vst_o (by omega), vst_o (by omega), hbg.2.2.2.2.2.2.2.2.2.2 a (by omega) (by omega) (by omega) (by omega), u1, vst_o (by omega), rdr_o (by omega)]
    exact u2 a (by omega)
end

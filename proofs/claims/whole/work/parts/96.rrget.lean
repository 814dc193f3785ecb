/-! ===== what is only asked, asked alike ===== -/
section
variable {V V' : Nat → Int → Int} {b : Bool} {n : Int}
theorem RR_sc (h : RR V b n) (hn : n + 1 ≤ 64) (e : ∀ a : Nat, (a < 108 ∨ (120 ≤ a ∧ a ≤ 135) ∨ (137 ≤ a ∧ a ≤ 144)) → a ≠ 126 → a ≠ 133 → V' a = V a) (t1 : ∀ j : Int, -1 ≤ V' 126 j ∧ V' 126 j ≤ 6) (t2 : ∀ j : Int, -1 ≤ V' 133 j ∧ V' 133 j ≤ 6) (hx : rrX V') : RR V' b (n + 1) := by
  have h7 := RR_7 h
  obtain ⟨a0, a1, a2, a3, a4, a5, a6, a7, a8, a9, a10, a11⟩ := h
  have e4 := e 134 (by omega) (by omega) (by omega)
  have e5 := e 135 (by omega) (by omega) (by omega)
  exact ⟨by omega, rrT_c a1 (by rw [e 1 (by omega) (by omega) (by omega)]) (by rw [e 1 (by omega) (by omega) (by omega)]) (e 2 (by omega) (by omega) (by omega)) (by rw [e4]) (by rw [e4]) (e 141 (by omega) (by omega) (by omega)), rrY_c a2 (fun a q1 q2 q3 q4 => e a (by omega) q3 q4) t1 t2 e5, rrN_c a3 (by omega) h7 (fun a q1 q2 => e a (by omega) (by omega) (by omega)) (e 137 (by omega) (by omega) (by omega)) e5, rrG_c a4 (fun a q => e a (by omega) (by omega) (by omega)), rrP_c a5 (by omega) h7 (e 7 (by omega) (by omega) (by omega)) (fun a q1 q2 => e a (by omega) (by omega) (by omega)) (by rw [e4]) (e 138 (by omega) (by omega) (by omega)) e5, rrI_c a6 (by omega) h7 (fun a q1 q2 => e a (by omega) (by omega) (by omega)) (e 139 (by omega) (by omega) (by omega)) (e 140 (by omega) (by omega) (by omega)) e5, rrS_c a7 (by rw [e 0 (by omega) (by omega) (by omega)]) (by rw [e4]), rrC_c a8 (e 99 (by omega) (by omega) (by omega)) (by rw [e4]) (e 142 (by omega) (by omega) (by omega)), rrH_c a9 (fun a q1 q2 => e a (by omega) (by omega) (by omega)) (by rw [e4]) (e 143 (by omega) (by omega) (by omega)) e5, rrB_c a10 (fun a q1 q2 => e a (by omega) (by omega) (by omega)) (by rw [e4]) (e 144 (by omega) (by omega) (by omega)) e5, hx⟩
theorem RR_up (h : RR V b n) (hn : n + 1 ≤ 64) : RR V b (n + 1) := RR_sc h hn (fun _ _ _ _ => rfl) h.2.2.1.2.2.1.2 h.2.2.1.2.2.2.2 (RR_X h)
theorem rr_told (h : RR V b n) {w : Int} : tdM V w = tdX V (yN b) w := by
  obtain ⟨y1, y2, y3, y4, y5, y6, y7, y8⟩ := RR_Y h
  obtain ⟨s1, s2, s3, s4, s5⟩ := RR_SR h
  have t1 := (RR_T h).1
  have c1 := (RR_C h).1
  have h1 := (RR_H h).1
  have b1 := (RR_B h).1
  have p1 := (RR_P h).1
  have e5 : V 5 4 = V 137 0 := s2
  unfold tdM tdX
  rw [y1.1, y2.1, y3.1, t1, s1.1, s1.2.1, s1.2.2, c1, h1, b1, p1, e5]
theorem rr_road (h : RR V b n) {r w q q' : Int} (hx : (¬ (0 ≤ r ∧ r < V (yN b) 6) ∧ q = -1000000001) ∨ ((0 ≤ r ∧ r < V (yN b) 6) ∧ ((w = 0 ∧ q = V (yN b + 1) r) ∨ (w = 1 ∧ q = V 5 r) ∨ (w = 2 ∧ q = V 6 r) ∨ ((w < 0 ∨ 2 < w) ∧ q = -1000000002)))) (hm : (¬ (0 ≤ r ∧ r < V 135 0) ∧ q' = -1000000001) ∨ ((0 ≤ r ∧ r < V 135 0) ∧ ((w = 0 ∧ q' = V 135 (1 + r)) ∨ (w = 1 ∧ q' = V 137 (8 + r)) ∨ (w = 2 ∧ q' = V 137 (40 + r)) ∨ ((w < 0 ∨ 2 < w) ∧ q' = -1000000002)))) : q' = q := by
  obtain ⟨y1, y2, y3, y4, y5, y6, y7, y8⟩ := RR_Y h
  obtain ⟨s1, s2, s3, s4, s5⟩ := RR_SR h
  rw [y1.1] at hx
  by_cases hr : 0 ≤ r ∧ r < V 135 0
  · have g1 := y4 r hr.1 hr.2
    have g2 := s3 r hr.1 (by omega)
    have g3 : V 5 r = V 137 (8 + r) := g2.1
    have g4 : V 6 r = V 137 (40 + r) := g2.2
    rw [g1.1, g3, g4] at hx
    omega
  · omega
theorem rr_at (h : RR V b n) {r i q q' : Int} (hx : (r = -1 ∧ q = wA V 4 (V 5 4 - 1 - i)) ∨ (r ≠ -1 ∧ (0 ≤ r ∧ r < V (yN b) 6) ∧ q = wA V r i) ∨ (r ≠ -1 ∧ ¬ (0 ≤ r ∧ r < V (yN b) 6) ∧ q = -1000000001)) (hm : (¬ (r = -1 ∨ (0 ≤ r ∧ r < V 135 0)) ∧ q' = -1000000001) ∨ ((r = -1 ∨ (0 ≤ r ∧ r < V 135 0)) ∧ q' = atM (V 137) r i)) : q' = q := by
  obtain ⟨y1, y2, y3, y4, y5, y6, y7, y8⟩ := RR_Y h
  rw [y1.1] at hx
  by_cases hr : r = -1 ∨ (0 ≤ r ∧ r < V 135 0)
  · have hat := wA_at (RR_SR h) (r := r) (i := i) (by omega)
    rw [hat] at hm
    by_cases hr1 : r = -1
    · rw [if_pos hr1] at hm; omega
    · rw [if_neg hr1] at hm; omega
  · omega
theorem rr_enemies (h : RR V b n) {a c q q' : Int} (hx : (¬ (0 ≤ a ∧ a ≤ 4 ∧ 0 ≤ c ∧ c ≤ 4) ∧ q = -1000000001) ∨ ((0 ≤ a ∧ a ≤ 4 ∧ 0 ≤ c ∧ c ≤ 4) ∧ q = kkI (V (yN b) 8) a c)) (hm : (¬ (0 ≤ a ∧ a ≤ 4 ∧ 0 ≤ c ∧ c ≤ 4) ∧ q' = -1000000001) ∨ ((0 ≤ a ∧ a ≤ 4 ∧ 0 ≤ c ∧ c ≤ 4) ∧ q' = enI (V 135) a c)) : q' = q := by
  by_cases hr : 0 ≤ a ∧ a ≤ 4 ∧ 0 ≤ c ∧ c ≤ 4
  · have := kk_Y (RR_Y h) hr.1 hr.2.1 hr.2.2.1 hr.2.2.2
    omega
  · omega
theorem rr_wagon (h : RR V b n) {w k q q' : Int} (hx : (¬ (0 ≤ w ∧ w < V (yN b) 7) ∧ q = -1000000001) ∨ ((0 ≤ w ∧ w < V (yN b) 7) ∧ ((k = 0 ∧ q = V (yN b + 2) w) ∨ (k = 1 ∧ q = V (yN b + 3) w) ∨ (k = 2 ∧ q = V (yN b + 4) w) ∨ (k = 3 ∧ ∃ l, lnP V w l ∧ q = if l = 4 then -1 else l) ∨ (k = 4 ∧ plP V w q) ∨ (k = 5 ∧ q = 60 + V (yN b + 3) w - 2 * V (yN b + 4) w) ∨ ((k < 0 ∨ 5 < k) ∧ q = -1000000002)))) (hm : (¬ (0 ≤ w ∧ w < V 135 5) ∧ q' = -1000000001) ∨ ((0 ≤ w ∧ w < V 135 5) ∧ ((k = 0 ∧ q' = V 135 (6 + w)) ∨ (k = 1 ∧ q' = V 135 (13 + w)) ∨ (k = 2 ∧ q' = V 135 (20 + w)) ∨ (k = 3 ∧ rdM (V 137) w q') ∨ (k = 4 ∧ ∃ r, rdM (V 137) w r ∧ ((r = -1 ∧ plM (V 137) 1 (V 137 0) w q') ∨ (0 ≤ r ∧ plM (V 137) (12 + 7 * r) (V 137 (8 + r)) w q'))) ∨ (k = 5 ∧ q' = 60 + V 135 (13 + w) - 2 * V 135 (20 + w)) ∨ ((k < 0 ∨ 5 < k) ∧ q' = -1000000002)))) : q' = q := by
  obtain ⟨y1, y2, y3, y4, y5, y6, y7, y8⟩ := RR_Y h
  rw [y2.1] at hx
  by_cases hw : 0 ≤ w ∧ w < V 135 5
  · obtain ⟨g1, g2, g3⟩ := y5 w hw.1 hw.2
    have hx := (hx.resolve_left (fun h => h.1 hw)).2
    have hm := (hm.resolve_left (fun h => h.1 hw)).2
    rw [g1.1, g2.1, g3.1] at hx
    by_cases h3 : k = 3
    · have hx3 : ∃ l, lnP V w l ∧ q = if l = 4 then -1 else l := by
        rcases hx with z | z | z | z | z | z | z
        · omega
        · omega
        · omega
        · exact z.2
        · omega
        · omega
        · omega
      have hm3 : rdM (V 137) w q' := by
        rcases hm with z | z | z | z | z | z | z
        · omega
        · omega
        · omega
        · exact z.2
        · omega
        · omega
        · omega
      obtain ⟨l, l1, l2⟩ := hx3
      rw [l2]
      exact ln_rd (RR_SR h) (RR_sI h) l1 hm3
    · by_cases h4 : k = 4
      · have hx4 : plP V w q := by
          rcases hx with z | z | z | z | z | z | z
          · omega
          · omega
          · omega
          · omega
          · exact z.2
          · omega
          · omega
        have hm4 : ∃ r, rdM (V 137) w r ∧ ((r = -1 ∧ plM (V 137) 1 (V 137 0) w q') ∨ (0 ≤ r ∧ plM (V 137) (12 + 7 * r) (V 137 (8 + r)) w q')) := by
          rcases hm with z | z | z | z | z | z | z
          · omega
          · omega
          · omega
          · omega
          · exact z.2
          · omega
          · omega
        exact (pl_pl (RR_SR h) (RR_sI h) hx4 hm4).symm
      · rcases hx with z | z | z | z | z | z | z <;> rcases hm with z' | z' | z' | z' | z' | z' | z' <;> omega
  · rcases hx with z | z
    · rcases hm with z' | z'
      · omega
      · exact absurd z'.1 hw
    · exact absurd z.1 hw
theorem rr_safe (h : RR V b n) {w v l q q' : Int} (hx : (¬ ((0 ≤ w ∧ w < V (yN b) 7) ∧ (0 ≤ v ∧ v < V (yN b) 7) ∧ w ≠ v) ∧ q = -1000000001) ∨ (((0 ≤ w ∧ w < V (yN b) 7) ∧ (0 ≤ v ∧ v < V (yN b) 7) ∧ w ≠ v) ∧ ((¬ (1 ≤ l ∧ l ≤ 99) ∧ q = -1000000002) ∨ ((1 ≤ l ∧ l ≤ 99) ∧ q = max 0 (100 * l / (60 + V (yN b + 3) w - 2 * V (yN b + 4) w) - 100 * l / (60 + V (yN b + 3) v - 2 * V (yN b + 4) v)))))) (hm : (¬ ((0 ≤ w ∧ w < V 135 5) ∧ (0 ≤ v ∧ v < V 135 5) ∧ w ≠ v) ∧ q' = -1000000001) ∨ (((0 ≤ w ∧ w < V 135 5) ∧ (0 ≤ v ∧ v < V 135 5) ∧ w ≠ v) ∧ ((¬ (1 ≤ l ∧ l ≤ 99) ∧ q' = -1000000002) ∨ ((1 ≤ l ∧ l ≤ 99) ∧ q' = max 0 (100 * l / (60 + V 135 (13 + w) - 2 * V 135 (20 + w)) - 100 * l / (60 + V 135 (13 + v) - 2 * V 135 (20 + v))))))) : q' = q := by
  obtain ⟨y1, y2, y3, y4, y5, y6, y7, y8⟩ := RR_Y h
  rw [y2.1] at hx
  by_cases hw : (0 ≤ w ∧ w < V 135 5) ∧ (0 ≤ v ∧ v < V 135 5) ∧ w ≠ v
  · obtain ⟨g1, g2, g3⟩ := y5 w hw.1.1 hw.1.2
    obtain ⟨k1, k2, k3⟩ := y5 v hw.2.1.1 hw.2.1.2
    have hx := (hx.resolve_left (fun h => h.1 hw)).2
    have hm := (hm.resolve_left (fun h => h.1 hw)).2
    rw [g2.1, g3.1, k2.1, k3.1] at hx
    rcases hx with z | z <;> rcases hm with z' | z'
    · rw [z.2, z'.2]
    · exact absurd z'.1 z.1
    · exact absurd z.1 z'.1
    · rw [z.2, z'.2]
  · have hx := (hx.resolve_right (fun h => hw h.1)).2
    have hm := (hm.resolve_right (fun h => hw h.1)).2
    rw [hx, hm]
theorem rr_fewest (h : RR V b n) {r q q' : Int} (hx : fwP V b r q) (hm : fwMP V r q') : q' = q := by
  have hY := RR_Y h
  obtain ⟨y1, y2, y3, y4, y5, y6, y7, y8⟩ := id hY
  have hS := RR_SR h
  have hI := RR_sI h
  obtain ⟨h1, h2, h3, h4, h5, h6, h7', h8, h9⟩ := id hI
  have hc := stI_c hI (RR_7 h)
  unfold fwP at hx
  unfold fwMP at hm
  rw [y1.1] at hx
  by_cases hr : 0 ≤ r ∧ r < V 135 0
  · have hx := (hx.resolve_left (fun h => h.1 hr)).2
    have hm := (hm.resolve_left (fun h => h.1 hr)).2
    have r4 : r < 4 := by omega
    have e5 : V 5 r = V 137 (8 + r) := (hS.2.2.1 r hr.1 r4).1
    have e6 : V 6 r = V 137 (40 + r) := (hS.2.2.1 r hr.1 r4).2
    have key : ∀ k : Nat, (k : Int) ≤ V 137 (8 + r) - 1 → fwM (V 135) (V 137) r k = fwX V (yN b) r k := by
      intro k
      induction k with
      | zero => intro _; rfl
      | succ k ih =>
        intro hk
        have ih := ih (by omega)
        have w1 := wA_r hS (r := r) (i := (k : Int)) hr.1 r4
        have w2 := wA_r hS (r := r) (i := (k : Int) + 1) hr.1 r4
        rw [if_pos (by omega)] at w1 w2
        have a1 := h7' r k hr.1 (by omega) (by omega) (by rw [lcN_r (by omega)]; omega)
        have a2 := h7' r (k + 1) hr.1 (by omega) (by omega) (by rw [lcN_r (by omega)]; omega)
        rw [laN_r (by omega)] at a1 a2
        have b1 := h3.2 (12 + 7 * r + k) (by omega) (by have := hc r hr.1 r4; have := h1.1; omega)
        have b2 := h3.2 (12 + 7 * r + (k + 1)) (by omega) (by have := hc r hr.1 r4; have := h1.1; omega)
        have k1 := YRd_kr hY b1.1 a1
        have k2 := YRd_kr hY b2.1 a2
        unfold fwM fwX
        rw [ih, w1, w2, e6, kd_Y hY b1.1 a1, kd_Y hY b2.1 a2, kk_Y hY k1.1 k1.2 k2.1 k2.2, show 12 + 7 * r + ((k : Int) + 1) = 12 + 7 * r + (k : Int) + 1 by omega]
    rw [hx, hm, e5]
    by_cases h0 : V 137 (8 + r) - 1 ≤ 0
    · rw [show (V 137 (8 + r) - 1).toNat = 0 by omega]; rfl
    · exact key _ (by omega)
  · have hx := (hx.resolve_right (fun h => hr h.1)).2
    have hm := (hm.resolve_right (fun h => hr h.1)).2
    rw [hx, hm]
theorem rr_judge (h : RR V b n) {q q' : Int} (hx : jgP V q) (hm : jgM V q') : q' = q := by
  obtain ⟨b1, b2, b3⟩ := RR_B h
  have y0 := (RR_MS h).1
  have key : ∀ k : Int, 0 ≤ k → k < V 104 3 → atM (V 137) (V 144 (3 * k)) (V 144 (3 * k + 1)) = wA V (V 105 k) (V 106 k) ∧ V 144 (3 * k + 2) = V 107 k := fun k k0 k1 => by
    obtain ⟨g1, g2, g3, g4, g5, g6⟩ := b3 k k0 k1
    rw [wA_at (RR_SR h) (by omega), if_neg (by omega), g1, g2, g3]
    exact ⟨rfl, rfl⟩
  rw [b1] at key
  unfold jgP at hx
  unfold jgM at hm
  rw [b1] at hx
  rcases hx with ⟨k, k0, k1, k2, k3, k4⟩ | ⟨k1, k2⟩
  · rcases hm with ⟨j, j0, j1, j2, j3, j4⟩ | ⟨j1, j2⟩
    · have : j = k := by
        by_cases hlt : j < k
        · exfalso
          have := k3 j j0 hlt
          rw [(key j j0 j1).1, (key j j0 j1).2] at j2
          exact j2 this
        · by_cases hgt : k < j
          · exfalso
            have := j3 k k0 hgt
            rw [(key k k0 k1).1, (key k k0 k1).2] at this
            exact k2 this
          · omega
      omega
    · exfalso
      have := j1 k k0 k1
      rw [(key k k0 k1).1, (key k k0 k1).2] at this
      exact k2 this
  · rcases hm with ⟨j, j0, j1, j2, j3, j4⟩ | ⟨j1, j2⟩
    · exfalso
      rw [(key j j0 j1).1, (key j j0 j1).2] at j2
      exact j2 (k1 j j0 j1)
    · omega
end

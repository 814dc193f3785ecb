/-! ===== the relation at the beginning ===== -/
theorem iV8_o {V : Nat → Int → Int} {a p : Nat} (h : p ≠ a) : iV8 V a p = V p := by unfold iV8; rw [vst_o h, vst_o h, vst_o h]
theorem iV7_o {V : Nat → Int → Int} {a p : Nat} (h : p ≠ a) : iV7 V a p = V p := by unfold iV7; rw [vst_o h, vst_o h, vst_o h, vst_o h, vst_o h]
theorem iV1_o {V : Nat → Int → Int} {a p : Nat} (h : p ≠ a) : iV1 V a p = V p := by unfold iV1; rw [vst_o h, vst_o h, vst_o h]
theorem iV0_o {V : Nat → Int → Int} {a p : Nat} (h : p ≠ a) : iV0 V a p = V p := by unfold iV0; rw [vst_o h, vst_o h, vst_o h]
theorem iV6_o {V : Nat → Int → Int} {a p : Nat} (h : p ≠ a) : iV6 V a p = V p := by unfold iV6; rw [vst_o h, vst_o h]
theorem iV9_o {V : Nat → Int → Int} {a p : Nat} (h : p ≠ a) : iV9 V a p = V p := by unfold iV9; rw [vst_o h, vst_o h, vst_o h, vst_o h]
theorem iV4_o {V : Nat → Int → Int} {a p : Nat} (h : p ≠ a) : iV4 V a p = V p := by unfold iV4; rw [vst_o h]
theorem iV2_o {V : Nat → Int → Int} {a p : Nat} : iV2 V a p = V p := rfl
theorem iV3_o {V : Nat → Int → Int} {a n p : Nat} (h : p ≠ a) (h2 : p ≠ n) : iV3 V a n p = V p := by unfold iV3; rw [vst_o h, vst_o h, iV8_o h2]
theorem pV5_o {V : Nat → Int → Int} {n p : Nat} : ∀ i : Nat, (∀ j, j < i → p ≠ n + 1 + 4 * j) → pV5 V n i p = V p
  | 0, _ => rfl
  | i + 1, h => by
    show iV8 (pV5 V n i) (n + 1 + 4 * i) p = _
    rw [iV8_o (h i (by omega))]
    exact pV5_o i (fun j hj => h j (by omega))
/-- the places that nobody has written -/
theorem V00_z {p : Nat} (h : p ≠ 0 ∧ p ≠ 1 ∧ p ≠ 3 ∧ p ≠ 7 ∧ (p < 9 ∨ 85 < p ∨ p % 4 ≠ 1) ∧ p ≠ 89 ∧ p ≠ 90 ∧ p ≠ 94 ∧ p ≠ 95 ∧ p ≠ 99 ∧ p ≠ 100 ∧ p ≠ 104 ∧ p ≠ 108 ∧ p ≠ 113 ∧ p ≠ 120 ∧ p ≠ 127 ∧ p ≠ 134 ∧ p ≠ 137 ∧ p ≠ 140) : V00 p = fun _ => 0 := by
  obtain ⟨h0, h1, h3, h7, h9, h89, h90, h94, h95, h99, h100, h104, h108, h113, h120, h127, h134, h137, h140⟩ := h
  unfold V00 bgM Vm iV11
  rw [vst_o h140, vst_o h140, vst_o h134, vst_o h134, vst_o h134, vst_o h134, zup_n _ _ h137, vst_o h134]
  unfold Vx iV10
  rw [vst_o h0, iV9_o h127, iV9_o h120, iV2_o, iV6_o h113, iV0_o h108, iV4_o h104, iV4_o h100, iV1_o h99, iV3_o h94 h95, iV3_o h89 h90]
  unfold iV5
  rw [pV5_o 20 (fun j hj => by omega), vst_o h7, vst_o h7, iV8_o h3, iV7_o h1]
theorem V00_137 : ∀ j : Int, 0 ≤ j → j < 47 → V00 137 j = begN 0 j := fun j j0 j1 => by
  have e : V00 137 = begF (Vm 135 5) (Vm 137) := by
    unfold V00 bgM
    rw [vst_o (by decide), vst_o (by decide), vst_o (by decide), vst_o (by decide), vst_o (by decide), vst_o (by decide), zup_s]
  have e5 : Vm 135 5 = 0 := by decide +kernel
  rw [e, e5]
  unfold begF
  rw [if_pos ⟨j0, j1⟩]
theorem V00_140 : V00 140 = iup (iup (fun _ => 0) 0 0) 1 0 := by
  have z : Vm 140 = fun _ => 0 := by
    unfold Vm iV11
    rw [vst_o (by decide)]
    unfold Vx iV10
    rw [vst_o (by decide), iV9_o (by decide), iV9_o (by decide), iV2_o, iV6_o (by decide), iV0_o (by decide), iV4_o (by decide), iV4_o (by decide), iV1_o (by decide), iV3_o (by decide) (by decide), iV3_o (by decide) (by decide)]
    unfold iV5
    rw [pV5_o 20 (fun j hj => by omega), vst_o (by decide), vst_o (by decide), iV8_o (by decide), iV7_o (by decide)]
  unfold V00 bgM
  unfold vst
  rw [zup_s, zup_s, zup_n _ _ (by decide), zup_n _ _ (by decide), zup_n _ _ (by decide), zup_n _ _ (by decide), zup_n _ _ (by decide), z]
theorem V00_c : (V00 1 1 = 0 ∧ V00 1 5 = -1) ∧ (V00 3 3 = 0 ∧ V00 3 4 = 0 ∧ V00 3 5 = -1) ∧ (V00 7 1 = 0 ∧ V00 7 2 = 0) ∧ (V00 89 1 = 0 ∧ V00 89 2 = 0) ∧ (V00 94 1 = 0 ∧ V00 94 2 = 0) ∧ (V00 99 0 = 0 ∧ V00 99 1 = 0 ∧ V00 99 2 = 0) ∧ V00 100 3 = 0 ∧ V00 104 3 = 0 ∧ V00 0 13 = 0 := by decide +kernel
theorem V00_d : (V00 120 6 = 0 ∧ V00 120 7 = 0 ∧ V00 120 8 = 0 ∧ V00 120 9 = 0) ∧ (V00 134 4 = 0 ∧ V00 134 7 = 0 ∧ V00 134 9 = 0 ∧ V00 134 10 = -1 ∧ V00 134 12 = 0 ∧ V00 134 14 = 0 ∧ V00 134 16 = 0) := by decide +kernel
theorem RR_0 : RR V00 false 0 := by
  obtain ⟨⟨c11, c15⟩, ⟨c33, c34, c35⟩, ⟨c71, c72⟩, ⟨c891, c892⟩, ⟨c941, c942⟩, ⟨c990, c991, c992⟩, c100, c104, c013⟩ := V00_c
  obtain ⟨⟨d6, d7, d8, d9⟩, ⟨f4, f7, f9, f10, f12, f14, f16⟩⟩ := V00_d
  have z135 : V00 135 = fun _ => 0 := V00_z (by omega)
  have z2 : V00 2 = fun _ => 0 := V00_z (by omega)
  have z141 : V00 141 = fun _ => 0 := V00_z (by omega)
  have z142 : V00 142 = fun _ => 0 := V00_z (by omega)
  have z139 : V00 139 = fun _ => 0 := V00_z (by omega)
  have hcell := V00_137
  have n0 : V00 137 0 = 0 := by rw [hcell 0 (by omega) (by omega)]; rfl
  have n8 : ∀ r : Int, 0 ≤ r → r < 4 → V00 137 (8 + r) = 0 ∧ V00 137 (40 + r) = 0 := fun r r0 r4 => by
    rw [hcell _ (by omega) (by omega), hcell _ (by omega) (by omega)]
    unfold begN
    rw [if_neg (by omega), if_neg (by omega), if_neg (by omega), if_neg (by omega), if_neg (by omega), if_neg (by omega)]
    exact ⟨rfl, rfl⟩
  have z5 : V00 5 = fun _ => 0 := V00_z (by omega)
  have z6 : V00 6 = fun _ => 0 := V00_z (by omega)
  have tu : ∀ y : Nat, y = 120 ∨ y = 127 → tuR V00 y := fun y hy => by
    unfold tuR
    rw [V00_z (p := y + 5) (by omega), V00_z (p := y + 6) (by omega)]
    exact ⟨fun _ => by dsimp only; omega, fun _ => by dsimp only; omega⟩
  refine ⟨by omega, ⟨by rw [c11, f9], by rw [z2, z141], ⟨by rw [f9]; omega, by rw [z141]; exact fun _ => by dsimp only; omega⟩, by rw [c15, f10]⟩, ⟨?_, ⟨?_, ?_⟩, tu 120 (by omega), tu 127 (by omega)⟩, ⟨?_, ?_⟩, ?_, ?_, ?_, ⟨by rw [c013, f7], by rw [c013]; omega⟩, ?_, ⟨by rw [c100, f14], by rw [c100]; omega, fun k k0 k1 => by rw [c100] at k1; omega⟩, ⟨by rw [c104, f16], by rw [c104]; omega, fun k k0 k1 => by rw [c104] at k1; omega⟩, ⟨?_, ?_⟩⟩
  · show YRd V00 120 (V00 135)
    rw [z135]
    exact YRd_0 ⟨d6, d7, d8, d9⟩ (fun _ _ _ => rfl)
  · unfold MS
    rw [z135]
    exact ⟨by dsimp only; omega, by dsimp only; omega, fun _ _ _ => by dsimp only; omega, fun _ _ _ => by dsimp only; omega, fun r r0 r1 => by dsimp only at r1; omega⟩
  · rw [z135]; exact fun _ => rfl
  · refine ⟨⟨?_, ?_, ?_⟩, ?_, fun r r0 r4 => ⟨?_, ?_⟩, fun r i r0 r4 i0 i1 => ?_, fun i i0 i1 => ?_⟩
    · rw [c33, hcell _ (by omega) (by omega)]; rfl
    · rw [c34, hcell _ (by omega) (by omega)]; rfl
    · rw [c35, hcell _ (by omega) (by omega)]; rfl
    · show V00 5 4 = _
      rw [z5, n0]
    · show V00 5 r = _
      rw [z5, (n8 r r0 r4).1]
    · show V00 6 r = _
      rw [z6, (n8 r r0 r4).2]
    · rw [(n8 r r0 r4).1] at i1; omega
    · rw [n0] at i1; omega
  · exact beg_stI (W := 0) (by omega) (by rw [z135]) (fun r r0 r1 => by rw [z135] at r1; exact absurd r1 (by show ¬ r < 0; omega)) hcell
  · intro s hs
    have hsr := isS_rg hs
    have h4 : (9 ≤ s ∧ s ≤ 85) → s % 4 = 1 := fun h9 => by
      unfold isS at hs
      simp only [List.mem_cons, List.not_mem_nil, or_false] at hs
      omega
    have e1 : V00 (s + 1) = fun _ => 0 := V00_z (by omega)
    have e2 : V00 (s + 2) = fun _ => 0 := V00_z (by omega)
    have e3 : V00 (s + 3) = fun _ => 0 := V00_z (by omega)
    unfold gSt
    rw [e1, e2, e3]
    exact ⟨fun _ => by dsimp only; omega, fun _ => by dsimp only; omega, fun _ => by dsimp only; omega⟩
  · exact ⟨by rw [c71, f4], by rw [c71]; omega, by rw [c72]; omega, fun k k0 k1 => by rw [c71] at k1; omega⟩
  · have z140 : ∀ i : Int, V00 140 i = 0 := fun i => by
      rw [V00_140]
      unfold iup
      (repeat' split) <;> rfl
    refine ⟨fun i => by rw [z140]; omega, fun i i0 i1 => ?_⟩
    have himp : V00 (imP i) 2 = 0 ∧ V00 (imP i) 1 = 0 := by
      rcases imP_rg i with hi | hi <;> rw [hi]
      · exact ⟨c892, c891⟩
      · exact ⟨c942, c941⟩
    rw [himp.1, himp.2, z140, z139]
    exact ⟨rfl, rfl, by omega, fun hk => by omega⟩
  · refine ⟨by rw [c990, f12], ⟨by rw [f12]; omega, by rw [z142]; exact fun _ => by dsimp only; omega⟩, by rw [c991]; omega, by rw [c992]; omega, fun a c a0 a4 c0 c4 => ?_⟩
    rw [c991, c992, f12, tb_0]
    constructor
    · constructor
      · intro z; cases z
      · intro z; exact absurd rfl z
    · constructor
      · intro z; cases z
      · intro z; exact absurd z (by show ¬ (-1 : Int) = 1; omega)
  · unfold plR
    rw [V00_z (p := 114) (by omega), V00_z (p := 115) (by omega)]
    exact ⟨fun _ => by dsimp only; omega, fun _ => by dsimp only; omega⟩
  · unfold ftR
    rw [V00_z (p := 118) (by omega), V00_z (p := 119) (by omega)]
    exact ⟨fun _ => by dsimp only; omega, fun _ => by dsimp only; omega⟩

/-! ===== Board, at 108 ===== -/
/-- what the walks need of the board: roads, waiting, grudges; kinds, rooms, counts, lasts -/
def BS (V : Nat → Int → Int) : Prop := (0 ≤ V 108 4 ∧ V 108 4 ≤ 4) ∧ (0 ≤ V 108 5 ∧ V 108 5 ≤ 7) ∧ (0 ≤ V 108 6 ∧ V 108 6 < 33554432) ∧ (∀ i, 0 ≤ i → i < V 108 5 → 0 ≤ V 109 i ∧ V 109 i ≤ 4) ∧ (∀ r, 0 ≤ r → r < V 108 4 → 0 ≤ V 110 r ∧ V 110 r ≤ 7) ∧ (∀ r, 0 ≤ r → r < V 108 4 → 0 ≤ V 111 r ∧ V 111 r ≤ 100) ∧ (∀ r, 0 ≤ r → r < V 108 4 → 0 ≤ V 112 r ∧ V 112 r ≤ 4)
section
variable {V : Nat → Int → Int} {b : Bool}
theorem ct_X0_hasRoad {r : Int} (hr : rg r) (h4 : 0 ≤ V 108 4 ∧ V 108 4 ≤ 4) : yC 1 mX0_hasRoad [.ref 108, .int (iI r)] V b (pR b V (fun q => (0 ≤ r ∧ r < V 108 4 ∧ q = 1) ∨ (¬ (0 ≤ r ∧ r < V 108 4) ∧ q = 0))) := by
  refine zC_of (by decide +kernel) (Nat.le_of_ble_eq_true rfl) rfl ?_
  refine z_iload_n dX0_hasRoad_0 rfl ?_
  refine y_if_lt dX0_hasRoad_1 (by omega) (fun c_1 => ?_) (fun c_1 => ?_)
  · refine y_iconst dX0_hasRoad_21 ?_
    exact y_zret dX0_hasRoad_22 rfl (by omega) (Nat.le_refl 0) (Nat.le_refl 0) ⟨_, rfl, rfl, by omega⟩
  · refine z_iload_n dX0_hasRoad_4 rfl ?_
    refine z_aload_n dX0_hasRoad_5 rfl ?_
    refine y_getI (j := 4) fX0_24 dX0_hasRoad_6 rfl (by first | assumption | rfl) ?_
    refine y_icmp_ge dX0_hasRoad_9 (by omega) (by omega) (fun c_9 => ?_) (fun c_9 => ?_)
    · refine y_iconst dX0_hasRoad_21 ?_
      exact y_zret dX0_hasRoad_22 rfl (by omega) (Nat.le_refl 0) (Nat.le_refl 0) ⟨_, rfl, rfl, by omega⟩
    · refine z_iload_n dX0_hasRoad_12 rfl ?_
      refine y_iconst dX0_hasRoad_13 ?_
      refine y_icmp_ge dX0_hasRoad_14 (by omega) (by omega) (fun c_14 => ?_) (fun c_14 => ?_)
      · refine y_iconst dX0_hasRoad_21 ?_
        exact y_zret dX0_hasRoad_22 rfl (by omega) (Nat.le_refl 0) (Nat.le_refl 0) ⟨_, rfl, rfl, by omega⟩
      · refine y_iconst dX0_hasRoad_17 ?_
        refine z_goto dX0_hasRoad_18 ?_
        exact y_zret dX0_hasRoad_22 rfl (by omega) (Nat.le_refl 0) (Nat.le_refl 0) ⟨_, rfl, rfl, by omega⟩
theorem ct_X0_hasRoom {r : Int} (hr : 0 ≤ r ∧ r < V 108 4) (hB : BS V) : yC 2 mX0_hasRoom [.ref 108, .int (iI r)] V b (pR b V (fun q => (V 111 r < V 110 r ∧ q = 1) ∨ (V 110 r ≤ V 111 r ∧ q = 0))) := by
  obtain ⟨b0, b1, b2, b3, b4, b5, b6⟩ := id hB
  have c1 := b4 r (by omega) (by omega)
  have c2 := b5 r (by omega) (by omega)
  refine zC_of (by decide +kernel) (Nat.le_of_ble_eq_true rfl) rfl ?_
  refine z_aload_n dX0_hasRoom_0 rfl ?_
  refine z_iload_n dX0_hasRoom_1 rfl ?_
  refine y_callVr (ct_X0_hasRoad (by omega) (by omega)) kX0_62 dX0_hasRoom_2 rfl rfl (by first | assumption | rfl) rfl (by decide) rfl (Nat.le_of_ble_eq_true rfl) (fun r_2 h_2 => ?_)
  refine y_if_eq dX0_hasRoom_5 (by omega) (fun c_5 => ?_) (fun c_5 => ?_)
  · omega
  · refine z_aload_n dX0_hasRoom_8 rfl ?_
    refine y_getR fX0_18 dX0_hasRoom_9 (by first | assumption | rfl) (by first | assumption | rfl) ?_
    refine z_iload_n dX0_hasRoom_12 rfl ?_
    refine y_iald dX0_hasRoom_13 (by first | assumption | rfl) (by first | rfl | assumption) (by omega) ?_
    refine z_aload_n dX0_hasRoom_14 rfl ?_
    refine y_getR fX0_15 dX0_hasRoom_15 (by first | assumption | rfl) (by first | assumption | rfl) ?_
    refine z_iload_n dX0_hasRoom_18 rfl ?_
    refine y_iald dX0_hasRoom_19 (by first | assumption | rfl) (by first | rfl | assumption) (by omega) ?_
    refine y_icmp_ge dX0_hasRoom_20 (by omega) (by omega) (fun c_20 => ?_) (fun c_20 => ?_)
    · refine y_iconst dX0_hasRoom_27 ?_
      exact y_zret dX0_hasRoom_28 rfl (by omega) (Nat.le_refl 0) (Nat.le_refl 0) ⟨_, rfl, rfl, by omega⟩
    · refine y_iconst dX0_hasRoom_23 ?_
      refine z_goto dX0_hasRoom_24 ?_
      exact y_zret dX0_hasRoom_28 rfl (by omega) (Nat.le_refl 0) (Nat.le_refl 0) ⟨_, rfl, rfl, by omega⟩
theorem ct_X0_countOf {r : Int} (hr : 0 ≤ r ∧ r < V 108 4) (h4 : 0 ≤ V 108 4 ∧ V 108 4 ≤ 4) : yC 2 mX0_countOf [.ref 108, .int (iI r)] V b (pR b V (fun q => q = V 111 r)) := by
  refine zC_of (by decide +kernel) (Nat.le_of_ble_eq_true rfl) rfl ?_
  refine z_aload_n dX0_countOf_0 rfl ?_
  refine z_iload_n dX0_countOf_1 rfl ?_
  refine y_callVr (ct_X0_hasRoad (by omega) (by omega)) kX0_62 dX0_countOf_2 rfl rfl (by first | assumption | rfl) rfl (by decide) rfl (Nat.le_of_ble_eq_true rfl) (fun r_2 h_2 => ?_)
  refine y_if_eq dX0_countOf_5 (by omega) (fun c_5 => ?_) (fun c_5 => ?_)
  · omega
  · refine z_aload_n dX0_countOf_8 rfl ?_
    refine y_getR fX0_18 dX0_countOf_9 (by first | assumption | rfl) (by first | assumption | rfl) ?_
    refine z_iload_n dX0_countOf_12 rfl ?_
    refine y_iald dX0_countOf_13 (by first | assumption | rfl) (by first | rfl | assumption) (by omega) ?_
    refine z_goto dX0_countOf_14 ?_
    exact z_iret dX0_countOf_18 rfl (Nat.le_refl 0) (Nat.le_refl 0) ⟨_, rfl, rfl, by omega⟩
theorem ct_X0_lastKind {r : Int} (hr : 0 ≤ r ∧ r < V 108 4) (h4 : 0 ≤ V 108 4 ∧ V 108 4 ≤ 4) : yC 2 mX0_lastKind [.ref 108, .int (iI r)] V b (pR b V (fun q => q = V 112 r)) := by
  refine zC_of (by decide +kernel) (Nat.le_of_ble_eq_true rfl) rfl ?_
  refine z_aload_n dX0_lastKind_0 rfl ?_
  refine z_iload_n dX0_lastKind_1 rfl ?_
  refine y_callVr (ct_X0_hasRoad (by omega) (by omega)) kX0_62 dX0_lastKind_2 rfl rfl (by first | assumption | rfl) rfl (by decide) rfl (Nat.le_of_ble_eq_true rfl) (fun r_2 h_2 => ?_)
  refine y_if_eq dX0_lastKind_5 (by omega) (fun c_5 => ?_) (fun c_5 => ?_)
  · omega
  · refine z_aload_n dX0_lastKind_8 rfl ?_
    refine y_getR fX0_21 dX0_lastKind_9 (by first | assumption | rfl) (by first | assumption | rfl) ?_
    refine z_iload_n dX0_lastKind_12 rfl ?_
    refine y_iald dX0_lastKind_13 (by first | assumption | rfl) (by first | rfl | assumption) (by omega) ?_
    refine z_goto dX0_lastKind_14 ?_
    exact z_iret dX0_lastKind_18 rfl (Nat.le_refl 0) (Nat.le_refl 0) ⟨_, rfl, rfl, by omega⟩
theorem ct_X0_kindOf {i : Int} (hi : 0 ≤ i ∧ i < V 108 5) (h5 : 0 ≤ V 108 5 ∧ V 108 5 ≤ 7) : yC 1 mX0_kindOf [.ref 108, .int (iI i)] V b (pR b V (fun q => q = V 109 i)) := by
  refine zC_of (by decide +kernel) (Nat.le_of_ble_eq_true rfl) rfl ?_
  refine z_iload_n dX0_kindOf_0 rfl ?_
  refine y_if_lt dX0_kindOf_1 (by omega) (fun c_1 => ?_) (fun c_1 => ?_)
  · omega
  · refine z_iload_n dX0_kindOf_4 rfl ?_
    refine z_aload_n dX0_kindOf_5 rfl ?_
    refine y_getI (j := 5) fX0_28 dX0_kindOf_6 rfl (by first | assumption | rfl) ?_
    refine y_icmp_ge dX0_kindOf_9 (by omega) (by omega) (fun c_9 => ?_) (fun c_9 => ?_)
    · omega
    · refine z_iload_n dX0_kindOf_12 rfl ?_
      refine y_bipush dX0_kindOf_13 (by decide +kernel) ?_
      refine y_icmp_ge dX0_kindOf_15 (by omega) (by omega) (fun c_15 => ?_) (fun c_15 => ?_)
      · omega
      · refine z_aload_n dX0_kindOf_18 rfl ?_
        refine y_getR fX0_9 dX0_kindOf_19 (by first | assumption | rfl) (by first | assumption | rfl) ?_
        refine z_iload_n dX0_kindOf_22 rfl ?_
        refine y_iald dX0_kindOf_23 (by first | assumption | rfl) (by first | rfl | assumption) (by omega) ?_
        refine z_goto dX0_kindOf_24 ?_
        exact z_iret dX0_kindOf_28 rfl (Nat.le_refl 0) (Nat.le_refl 0) ⟨_, rfl, rfl, by omega⟩
/-- the i-th waiting is put into road r -/
def putB (V : Nat → Int → Int) (i r : Int) : Nat → Int → Int := vst (vst V 111 r (V 111 r + 1)) 112 r (V 109 i)
theorem ct_X0_put {i r : Int} (hi : 0 ≤ i ∧ i < V 108 5) (hr : 0 ≤ r ∧ r < V 108 4) (hB : BS V) : yC 3 mX0_put [.ref 108, .int (iI i), .int (iI r)] V b (pI b (fun q V' => q = kkI (V 108 6) (V 112 r) (V 109 i) ∧ V' = putB V i r)) := by
  obtain ⟨b0, b1, b2, b3, b4, b5, b6⟩ := id hB
  have c3 := b3 i (by omega) (by omega)
  have c6 := b6 r (by omega) (by omega)
  have h01 := kkI_01 (V 108 6) (V 112 r) (V 109 i)
  have f8 : vst V 111 r (V 111 r + 1) 108 = V 108 := vst_o (by decide)
  have f9 : vst V 111 r (V 111 r + 1) 109 = V 109 := vst_o (by decide)
  refine zC_of (by decide +kernel) (Nat.le_of_ble_eq_true rfl) rfl ?_
  refine z_aload_n dX0_put_0 rfl ?_
  refine z_iload_n dX0_put_1 rfl ?_
  refine y_callVr (ct_X0_hasRoad (by omega) (by omega)) kX0_62 dX0_put_2 rfl rfl (by first | assumption | rfl) rfl (by decide) rfl (Nat.le_of_ble_eq_true rfl) (fun r_2 h_2 => ?_)
  refine y_if_ne dX0_put_5 (by omega) (fun c_5 => ?_) (fun c_5 => ?_)
  · refine z_aload_n dX0_put_10 rfl ?_
    refine y_getR fX0_21 dX0_put_11 (by first | assumption | rfl) (by first | assumption | rfl) ?_
    refine z_iload_n dX0_put_14 rfl ?_
    refine y_iald dX0_put_15 (by first | assumption | rfl) (by first | rfl | assumption) (by omega) ?_
    refine z_istore_n dX0_put_16 (by decide) rfl rfl ?_
    refine z_aload_n dX0_put_17 rfl ?_
    refine y_getR fX0_18 dX0_put_18 (by first | assumption | rfl) (by first | assumption | rfl) ?_
    refine z_iload_n dX0_put_21 rfl ?_
    refine z_dup2 dX0_put_22 rfl rfl ?_
    refine y_iald dX0_put_23 (by first | assumption | rfl) (by first | rfl | assumption) (by omega) ?_
    refine y_iconst dX0_put_24 ?_
    refine y_iadd dX0_put_25 ?_
    refine y_iast dX0_put_26 (by first | assumption | rfl) (by first | rfl | assumption) (by omega) ?_
    refine z_aload_n dX0_put_27 rfl ?_
    refine y_getR fX0_21 dX0_put_28 (by first | assumption | rfl) (by first | assumption | rfl) ?_
    refine z_iload_n dX0_put_31 rfl ?_
    refine z_aload_n dX0_put_32 rfl ?_
    refine z_iload_n dX0_put_33 rfl ?_
    refine y_callVr (ct_X0_kindOf (by rw [f8]; omega) (by rw [f8]; omega)) kX0_66 dX0_put_34 rfl rfl (by first | assumption | rfl) rfl (by decide) rfl (Nat.le_of_ble_eq_true rfl) (fun r_34 h_34 => ?_)
    rw [f9] at h_34
    subst h_34
    refine y_iast dX0_put_37 (by first | assumption | rfl) (by first | rfl | assumption) (by omega) ?_
    refine z_aload_n dX0_put_38 rfl ?_
    refine y_getI (j := 6) fX0_31 dX0_put_39 rfl (by first | assumption | rfl) ?_
    rw [vst_o (show (108 : Nat) ≠ 112 by decide), f8]
    refine z_iload_n dX0_put_42 rfl ?_
    refine z_aload_n dX0_put_43 rfl ?_
    refine y_getR fX0_21 dX0_put_44 (by first | assumption | rfl) (by first | assumption | rfl) ?_
    refine z_iload_n dX0_put_47 rfl ?_
    refine y_iald dX0_put_48 (by first | assumption | rfl) (by first | rfl | assumption) (by omega) ?_
    rw [vst_s]
    refine y_callSr (ct_X9_kickBy (by omega) (by omega) (by omega)) kX0_67 dX0_put_49 rfl rfl (by decide) rfl (Nat.le_of_ble_eq_true rfl) (fun r_49 h_49 => ?_)
    refine y_if_eq dX0_put_52 (by omega) (fun c_52 => ?_) (fun c_52 => ?_)
    · refine y_iconst dX0_put_59 ?_
      exact z_iret dX0_put_60 rfl (Nat.le_refl 0) (Nat.le_refl 0) ⟨_, _, rfl, rfl, by omega, rfl⟩
    · refine y_iconst dX0_put_55 ?_
      refine z_goto dX0_put_56 ?_
      exact z_iret dX0_put_60 rfl (Nat.le_refl 0) (Nat.le_refl 0) ⟨_, _, rfl, rfl, by omega, rfl⟩
  · omega
theorem ct_X0_takeBack {r l : Int} (hr : 0 ≤ r ∧ r < V 108 4) (h4 : 0 ≤ V 108 4 ∧ V 108 4 ≤ 4) : yC 2 mX0_takeBack [.ref 108, .int (iI r), .int (iI l)] V b (pV b (fun V' => V' = vst (vst V 111 r (V 111 r - 1)) 112 r l)) := by
  refine zC_of (by decide +kernel) (Nat.le_of_ble_eq_true rfl) rfl ?_
  refine z_aload_n dX0_takeBack_0 rfl ?_
  refine z_iload_n dX0_takeBack_1 rfl ?_
  refine y_callVr (ct_X0_hasRoad (by omega) (by omega)) kX0_62 dX0_takeBack_2 rfl rfl (by first | assumption | rfl) rfl (by decide) rfl (Nat.le_of_ble_eq_true rfl) (fun r_2 h_2 => ?_)
  refine y_if_eq dX0_takeBack_5 (by omega) (fun c_5 => ?_) (fun c_5 => ?_)
  · omega
  · refine z_aload_n dX0_takeBack_8 rfl ?_
    refine y_getR fX0_18 dX0_takeBack_9 (by first | assumption | rfl) (by first | assumption | rfl) ?_
    refine z_iload_n dX0_takeBack_12 rfl ?_
    refine z_dup2 dX0_takeBack_13 rfl rfl ?_
    refine y_iald dX0_takeBack_14 (by first | assumption | rfl) (by first | rfl | assumption) (by omega) ?_
    refine y_iconst dX0_takeBack_15 ?_
    refine y_isub dX0_takeBack_16 ?_
    refine y_iast dX0_takeBack_17 (by first | assumption | rfl) (by first | rfl | assumption) (by omega) ?_
    refine z_aload_n dX0_takeBack_18 rfl ?_
    refine y_getR fX0_21 dX0_takeBack_19 (by first | assumption | rfl) (by first | assumption | rfl) ?_
    refine z_iload_n dX0_takeBack_22 rfl ?_
    refine z_iload_n dX0_takeBack_23 rfl ?_
    refine y_iast dX0_takeBack_24 (by first | assumption | rfl) (by first | rfl | assumption) (by omega) ?_
    exact z_vret dX0_takeBack_25 rfl (Nat.le_refl 0) (Nat.le_refl 0) ⟨_, rfl, rfl, rfl⟩
theorem putB_back {i r : Int} : vst (vst (putB V i r) 111 r (putB V i r 111 r - 1)) 112 r (V 112 r) = V := by
  have e : putB V i r 111 r = V 111 r + 1 := by unfold putB; rw [vst_o (by decide), vst_s]
  rw [e]
  unfold putB
  funext a
  by_cases h2 : a = 112
  · subst h2
    funext j
    by_cases hj : j = r
    · subst hj; rw [vst_s]
    · rw [vst_n hj, vst_o (by decide), vst_n hj, vst_o (by decide)]
  · rw [vst_o h2]
    by_cases h1 : a = 111
    · subst h1
      funext j
      by_cases hj : j = r
      · subst hj; rw [vst_s]; omega
      · rw [vst_n hj, vst_o (by decide), vst_n hj]
    · rw [vst_o h1, vst_o h2, vst_o h1]
theorem putB_o {i r : Int} {a : Nat} (h1 : a ≠ 111) (h2 : a ≠ 112) : putB V i r a = V a := by unfold putB; rw [vst_o h2, vst_o h1]
theorem BS_put {i r : Int} (hi : 0 ≤ i ∧ i < V 108 5) (hr : 0 ≤ r ∧ r < V 108 4) (hc : V 111 r < V 110 r) (hB : BS V) : BS (putB V i r) := by
  obtain ⟨b0, b1, b2, b3, b4, b5, b6⟩ := hB
  have c3 := b3 i (by omega) (by omega)
  have c4 := b4 r (by omega) (by omega)
  have e1 : putB V i r 111 = iup (V 111) r (V 111 r + 1) := by unfold putB; rw [vst_o (by decide)]; unfold vst; rw [zup_s]
  have e2 : putB V i r 112 = iup (V 112) r (V 109 i) := by unfold putB; unfold vst; rw [zup_s, zup_n _ _ (by decide)]
  unfold BS
  rw [e1, e2, putB_o (by decide) (by decide), putB_o (by decide) (by decide), putB_o (by decide) (by decide)]
  refine ⟨b0, b1, b2, b3, b4, fun s s1 s2 => ?_, fun s s1 s2 => ?_⟩
  · have := b5 s s1 s2
    have := b5 r hr.1 hr.2
    unfold iup; split <;> omega
  · have := b6 s s1 s2
    unfold iup; split <;> omega
end

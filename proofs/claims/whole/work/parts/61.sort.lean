/-! ===== leastRoads ===== -/
/-- the first of k roads from r on whose last has a turn after t -/
def ffK (lt : Int → Int) (t : Int) : Nat → Int → Int
  | 0, r => r
  | k + 1, r => if t < lt r then r else ffK lt t k (r + 1)
theorem ffK_rg {lt : Int → Int} {t : Int} : ∀ (k : Nat) (r : Int), r ≤ ffK lt t k r ∧ ffK lt t k r ≤ r + k
  | 0, r => by unfold ffK; omega
  | k + 1, r => by
    have := ffK_rg (lt := lt) (t := t) k (r + 1)
    unfold ffK
    split <;> omega
/-- roads used, and each one's last turn, once the wagons before v are in -/
def plS (T l0 : Int → Int) : Nat → Int × (Int → Int)
  | 0 => (0, l0)
  | v + 1 => if T v = -1 then plS T l0 v else (max (plS T l0 v).1 (ffK (plS T l0 v).2 (T v) (plS T l0 v).1.toNat 0 + 1), iup (plS T l0 v).2 (ffK (plS T l0 v).2 (T v) (plS T l0 v).1.toNat 0) (T v))
theorem plS_no {T l0 : Int → Int} {v : Nat} (h : T v = -1) : plS T l0 (v + 1) = plS T l0 v := if_pos h
theorem plS_go {T l0 : Int → Int} {v : Nat} (h : ¬ T v = -1) : plS T l0 (v + 1) = (max (plS T l0 v).1 (ffK (plS T l0 v).2 (T v) (plS T l0 v).1.toNat 0 + 1), iup (plS T l0 v).2 (ffK (plS T l0 v).2 (T v) (plS T l0 v).1.toNat 0) (T v)) := if_neg h
def tuR (V : Nat → Int → Int) (y : Nat) : Prop := (∀ j, -1 ≤ V (y + 5) j ∧ V (y + 5) j ≤ 6) ∧ (∀ j, -1 ≤ V (y + 6) j ∧ V (y + 6) j ≤ 6)
theorem plS_rg {T l0 : Int → Int} (hT : ∀ j, -1 ≤ T j ∧ T j ≤ 6) (hl : ∀ j, -1 ≤ l0 j ∧ l0 j ≤ 6) : ∀ v : Nat, (0 ≤ (plS T l0 v).1 ∧ (plS T l0 v).1 ≤ v) ∧ ∀ j, -1 ≤ (plS T l0 v).2 j ∧ (plS T l0 v).2 j ≤ 6
  | 0 => ⟨by show (0 : Int) ≤ 0 ∧ (0 : Int) ≤ 0; omega, hl⟩
  | v + 1 => by
    obtain ⟨h1, h2⟩ := plS_rg hT hl v
    have h3 := ffK_rg (lt := (plS T l0 v).2) (t := T v) (plS T l0 v).1.toNat 0
    unfold plS
    split
    · exact ⟨by omega, h2⟩
    · exact ⟨by simp only; omega, iup_le h2 (hT v)⟩
section
variable {V : Nat → Int → Int} {b : Bool} {y : Nat}
theorem ct_X9_firstRoadFor {t u : Int} (hy : isY y) (ht : rg t) (hu : 0 ≤ u ∧ u ≤ 7) (hl : ∀ j, -1 ≤ V (y + 6) j ∧ V (y + 6) j ≤ 6) : yC 1 mX9_firstRoadFor [.ref y, .int (iI t), .int (iI u)] V b (pR b V (fun q => q = ffK (V (y + 6)) t u.toNat 0)) := by
  obtain ⟨sy, sy1, sy2, sy3, sy4, sy5, sy6, fy0, fy1, fy2, fy3, fy4, fy5⟩ := yfacts hy b
  have loop : ∀ (k : Nat) (r : Int), 0 ≤ r → r + k = u → ffK (V (y + 6)) t u.toNat 0 = ffK (V (y + 6)) t k r → yE 1 (pR b V (fun q => q = ffK (V (y + 6)) t u.toNat 0)) mX9_firstRoadFor 2 [some (.ref y), some (.int (iI t)), some (.int (iI u)), some (.int (iI r))] [] V b := by
    intro k
    induction k with
    | zero =>
      intro r r0 hr he
      refine z_iload_n dX9_firstRoadFor_2 rfl ?_
      refine z_iload_n dX9_firstRoadFor_3 rfl ?_
      refine y_icmp_ge dX9_firstRoadFor_4 (by omega) (by omega) (fun c_4 => ?_) (fun c_4 => ?_)
      · refine z_iload_n dX9_firstRoadFor_31 rfl ?_
        exact z_iret dX9_firstRoadFor_32 rfl (Nat.le_refl 0) (Nat.le_refl 0) ⟨_, rfl, rfl, by rw [he]; unfold ffK; omega⟩
      · omega
    | succ k ih =>
      intro r r0 hr he
      have hlr := hl r
      refine z_iload_n dX9_firstRoadFor_2 rfl ?_
      refine z_iload_n dX9_firstRoadFor_3 rfl ?_
      refine y_icmp_ge dX9_firstRoadFor_4 (by omega) (by omega) (fun c_4 => ?_) (fun c_4 => ?_)
      · omega
      · refine z_iload_n dX9_firstRoadFor_7 rfl ?_
        refine y_bipush dX9_firstRoadFor_8 (by decide +kernel) ?_
        refine y_icmp_ge dX9_firstRoadFor_10 (by omega) (by omega) (fun c_10 => ?_) (fun c_10 => ?_)
        · omega
        · refine z_aload_n dX9_firstRoadFor_13 rfl ?_
          refine y_getR fX9_27 dX9_firstRoadFor_14 (by first | assumption | rfl) (by first | assumption | rfl) ?_
          refine z_iload_n dX9_firstRoadFor_17 rfl ?_
          refine y_iald dX9_firstRoadFor_18 (by first | assumption | rfl) (by first | rfl | assumption) (by omega) ?_
          refine z_iload_n dX9_firstRoadFor_19 rfl ?_
          refine y_icmp_le dX9_firstRoadFor_20 (by omega) (by omega) (fun c_20 => ?_) (fun c_20 => ?_)
          · refine y_iinc dX9_firstRoadFor_25 rfl (by decide) rfl rfl ?_
            refine z_goto dX9_firstRoadFor_28 ?_
            exact ih (r + 1) (by omega) (by omega) (by rw [he]; conv => lhs; unfold ffK
                                                       rw [if_neg (by omega)])
          · refine z_iload_n dX9_firstRoadFor_23 rfl ?_
            exact z_iret dX9_firstRoadFor_24 rfl (Nat.le_refl 0) (Nat.le_refl 0) ⟨_, rfl, rfl, by rw [he]; unfold ffK; rw [if_pos (by omega)]⟩
  have h0 := loop u.toNat 0 (by omega) (by omega) rfl
  refine zC_of (by decide +kernel) (Nat.le_of_ble_eq_true rfl) rfl ?_
  refine y_iconst dX9_firstRoadFor_0 ?_
  refine z_istore_n dX9_firstRoadFor_1 (by decide) rfl rfl ?_
  exact h0
/-- the answer and what is left -/
def soP (V V' : Nat → Int → Int) (y : Nat) (w q : Int) : Prop := (∀ a, a ≠ y + 6 → V' a = V a) ∧ (∀ j, -1 ≤ V' (y + 6) j ∧ V' (y + 6) j ≤ 6) ∧ q = if 0 ≤ w ∧ w < V y 7 then (if V (y + 5) w = -1 then -1 else ffK (plS (V (y + 5)) (V (y + 6)) w.toNat).2 (V (y + 5) w) (plS (V (y + 5)) (V (y + 6)) w.toNat).1.toNat 0) else (plS (V (y + 5)) (V (y + 6)) (V y 7).toNat).1
theorem ct_X9_sortingRoad {w : Int} (hy : isY y) (hw : rg w) (h7 : 0 ≤ V y 7 ∧ V y 7 ≤ 7) (ht : tuR V y) : yC 2 mX9_sortingRoad [.ref y, .int (iI w)] V b (pI b (fun q V' => soP V V' y w q)) := by
  obtain ⟨sy, sy1, sy2, sy3, sy4, sy5, sy6, fy0, fy1, fy2, fy3, fy4, fy5⟩ := yfacts hy b
  obtain ⟨ht1, ht2⟩ := id ht
  obtain ⟨P, hP⟩ : ∃ P, P = plS (V (y + 5)) (V (y + 6)) := ⟨_, rfl⟩
  have hPr : ∀ v, (0 ≤ (P v).1 ∧ (P v).1 ≤ v) ∧ ∀ j, -1 ≤ (P v).2 j ∧ (P v).2 j ≤ 6 := by rw [hP]; exact plS_rg ht1 ht2
  have zo : ∀ f a, a ≠ y + 6 → zup V (y + 6) f a = V a := fun f a ha => zup_n _ _ ha
  have loop : ∀ (t v : Nat) (a4 : Option Value), (v : Int) + t = V y 7 → ¬ (0 ≤ w ∧ w < (v : Int)) → yE 2 (pI b (fun q V' => soP V V' y w q)) mX9_sortingRoad 4 [some (.ref y), some (.int (iI w)), some (.int (iI (P v).1)), some (.int (iI (v : Nat))), a4] [] (zup V (y + 6) (P v).2) b := by
    intro t
    induction t with
    | zero =>
      intro v a4 hv hnw
      obtain ⟨p1, p2⟩ := hPr v
      refine z_iload_n dX9_sortingRoad_4 rfl ?_
      refine z_aload_n dX9_sortingRoad_5 rfl ?_
      refine y_getI (j := 7) fX9_34 dX9_sortingRoad_6 rfl (by first | assumption | rfl) ?_
      rw [zo _ y (by omega)]
      refine y_icmp_ge dX9_sortingRoad_9 (by omega) (by omega) (fun c_9 => ?_) (fun c_9 => ?_)
      · refine z_iload_n dX9_sortingRoad_93 rfl ?_
        exact z_iret dX9_sortingRoad_94 rfl (Nat.le_refl 0) (Nat.le_refl 0) ⟨_, _, rfl, rfl, fun a ha => zo _ a ha, by rw [zup_s]; exact p2, by rw [if_neg (by omega), ← hP, show (V y 7).toNat = v by omega]⟩
      · omega
    | succ t ih =>
      intro v a4 hv hnw
      obtain ⟨p1, p2⟩ := hPr v
      have ht5 := ht1 v
      have hT : ¬ V (y + 5) v = -1 → P (v + 1) = (max (P v).1 (ffK (P v).2 (V (y + 5) v) (P v).1.toNat 0 + 1), iup (P v).2 (ffK (P v).2 (V (y + 5) v) (P v).1.toNat 0) (V (y + 5) v)) := by rw [hP]; exact plS_go
      have hF : V (y + 5) v = -1 → P (v + 1) = P v := by rw [hP]; exact plS_no
      obtain ⟨x, hx⟩ : ∃ x, x = ffK (P v).2 (V (y + 5) v) (P v).1.toNat 0 := ⟨_, rfl⟩
      have hxr := ffK_rg (lt := (P v).2) (t := V (y + 5) v) (P v).1.toNat 0
      rw [← hx] at hxr hT
      have hcall := ct_X9_firstRoadFor (V := zup V (y + 6) (P v).2) (b := b) (t := V (y + 5) v) (u := (P v).1) hy (by omega) (by omega) (by rw [zup_s]; exact p2)
      rw [zup_s, ← hx] at hcall
      have nx : ∀ a4, w ≠ (v : Int) → yE 2 (pI b (fun q V' => soP V V' y w q)) mX9_sortingRoad 87 [some (.ref y), some (.int (iI w)), some (.int (iI (P (v + 1)).1)), some (.int (iI (v : Nat))), a4] [] (zup V (y + 6) (P (v + 1)).2) b := by
        intro a4 hne
        have hh := ih (v + 1) a4 (by omega) (by omega)
        rw [show ((v + 1 : Nat) : Int) = (v : Int) + 1 by omega] at hh
        refine y_iinc dX9_sortingRoad_87 rfl (by decide) rfl rfl ?_
        refine z_goto dX9_sortingRoad_90 ?_
        exact hh
      have j43 : ∀ rr : Int, (V (y + 5) v = -1 ∧ rr = -1 ∨ V (y + 5) v ≠ -1 ∧ rr = x) → yE 2 (pI b (fun q V' => soP V V' y w q)) mX9_sortingRoad 43 [some (.ref y), some (.int (iI w)), some (.int (iI (P v).1)), some (.int (iI (v : Nat))), a4] [.int (iI rr)] (zup V (y + 6) (P v).2) b := by
        intro rr hrr
        refine z_istore dX9_sortingRoad_43 (by decide) rfl rfl ?_
        refine z_iload_n dX9_sortingRoad_45 rfl ?_
        refine z_iload_n dX9_sortingRoad_46 rfl ?_
        refine y_icmp_ne dX9_sortingRoad_47 (by omega) (by omega) (fun c_47 => ?_) (fun c_47 => ?_)
        · refine z_iload dX9_sortingRoad_53 rfl ?_
          refine y_if_lt dX9_sortingRoad_55 (by omega) (fun c_55 => ?_) (fun c_55 => ?_)
          · have nx' := nx (some (.int (iI rr))) (by omega)
            rw [hF (by omega)] at nx'
            exact nx'
          · have erx : rr = x := by omega
            refine z_iload dX9_sortingRoad_58 rfl ?_
            refine y_bipush dX9_sortingRoad_60 (by decide +kernel) ?_
            refine y_icmp_ge dX9_sortingRoad_62 (by omega) (by omega) (fun c_62 => ?_) (fun c_62 => ?_)
            · omega
            · refine z_aload_n dX9_sortingRoad_65 rfl ?_
              refine y_getR fX9_27 dX9_sortingRoad_66 (by first | assumption | rfl) (by first | assumption | rfl) ?_
              refine z_iload dX9_sortingRoad_69 rfl ?_
              refine z_aload_n dX9_sortingRoad_71 rfl ?_
              refine y_getR fX9_24 dX9_sortingRoad_72 (by first | assumption | rfl) (by first | assumption | rfl) ?_
              refine z_iload_n dX9_sortingRoad_75 rfl ?_
              refine y_iald dX9_sortingRoad_76 (by first | assumption | rfl) (by first | rfl | assumption) (by omega) ?_
              rw [zo _ (y + 5) (by omega)]
              refine y_iast dX9_sortingRoad_77 (by first | assumption | rfl) (by first | rfl | assumption) (by omega) ?_
              refine z_iload_n dX9_sortingRoad_78 rfl ?_
              refine z_iload dX9_sortingRoad_79 rfl ?_
              refine y_iconst dX9_sortingRoad_81 ?_
              refine y_iadd dX9_sortingRoad_82 ?_
              refine y_max dX9_sortingRoad_83 kX9_70 (by omega) (by omega) (by decide) (Nat.le_of_ble_eq_true rfl) ?_
              refine z_istore_n dX9_sortingRoad_86 (by decide) rfl rfl ?_
              have nx' := nx (some (.int (iI rr))) (by omega)
              rw [hT (by omega), ← erx] at nx'
              simp only at nx'
              rw [← vst_zup_s] at nx'
              exact nx'
        · refine z_iload dX9_sortingRoad_50 rfl ?_
          exact z_iret dX9_sortingRoad_52 rfl (Nat.le_refl 0) (Nat.le_refl 0) ⟨_, _, rfl, rfl, fun a ha => zo _ a ha, by rw [zup_s]; exact p2, by
            rw [if_pos (by omega), show w = (v : Int) by omega, show ((v : Int)).toNat = v by omega, ← hP, ← hx]
            rcases hrr with ⟨g1, g2⟩ | ⟨g1, g2⟩
            · rw [if_pos g1]; exact g2
            · rw [if_neg g1]; exact g2⟩
      refine z_iload_n dX9_sortingRoad_4 rfl ?_
      refine z_aload_n dX9_sortingRoad_5 rfl ?_
      refine y_getI (j := 7) fX9_34 dX9_sortingRoad_6 rfl (by first | assumption | rfl) ?_
      rw [zo _ y (by omega)]
      refine y_icmp_ge dX9_sortingRoad_9 (by omega) (by omega) (fun c_9 => ?_) (fun c_9 => ?_)
      · omega
      · refine z_iload_n dX9_sortingRoad_12 rfl ?_
        refine y_bipush dX9_sortingRoad_13 (by decide +kernel) ?_
        refine y_icmp_ge dX9_sortingRoad_15 (by omega) (by omega) (fun c_15 => ?_) (fun c_15 => ?_)
        · omega
        · refine z_aload_n dX9_sortingRoad_18 rfl ?_
          refine y_getR fX9_24 dX9_sortingRoad_19 (by first | assumption | rfl) (by first | assumption | rfl) ?_
          refine z_iload_n dX9_sortingRoad_22 rfl ?_
          refine y_iald dX9_sortingRoad_23 (by first | assumption | rfl) (by first | rfl | assumption) (by omega) ?_
          rw [zo _ (y + 5) (by omega)]
          refine y_iconst dX9_sortingRoad_24 ?_
          refine y_icmp_ne dX9_sortingRoad_25 (by omega) (by omega) (fun c_25 => ?_) (fun c_25 => ?_)
          · refine z_aload_n dX9_sortingRoad_32 rfl ?_
            refine z_aload_n dX9_sortingRoad_33 rfl ?_
            refine y_getR fX9_24 dX9_sortingRoad_34 (by first | assumption | rfl) (by first | assumption | rfl) ?_
            refine z_iload_n dX9_sortingRoad_37 rfl ?_
            refine y_iald dX9_sortingRoad_38 (by first | assumption | rfl) (by first | rfl | assumption) (by omega) ?_
            rw [zo _ (y + 5) (by omega)]
            refine z_iload_n dX9_sortingRoad_39 rfl ?_
            refine y_callVr (hcall) kX9_67 dX9_sortingRoad_40 rfl rfl (by first | assumption | rfl) rfl (by decide) rfl (Nat.le_of_ble_eq_true rfl) (fun r_40 h_40 => ?_)
            exact j43 _ (by omega)
          · refine y_iconst dX9_sortingRoad_28 ?_
            refine z_goto dX9_sortingRoad_29 ?_
            exact j43 _ (by omega)
  have h0 := loop (V y 7).toNat 0 none (by omega) (by omega)
  have e0 : zup V (y + 6) (P 0).2 = V := by
    rw [hP]
    funext a
    by_cases ha : a = y + 6
    · subst ha; rw [zup_s]; rfl
    · rw [zup_n _ _ ha]
  have e1 : (P 0).1 = 0 := by rw [hP]; rfl
  rw [e0, e1] at h0
  refine zC_of (by decide +kernel) (Nat.le_of_ble_eq_true rfl) rfl ?_
  refine y_iconst dX9_sortingRoad_0 ?_
  refine z_istore_n dX9_sortingRoad_1 (by decide) rfl rfl ?_
  refine y_iconst dX9_sortingRoad_2 ?_
  refine z_istore_n dX9_sortingRoad_3 (by decide) rfl rfl ?_
  exact h0
end

/-! ===== small things for the walks ===== -/
section YQ
variable {D : Nat} {Q : Option Value → zMu → Prop} {Y : zMD} {pc pc' : Nat} {L : List (Option Value)} {st : List Value} {V : Nat → Int → Int} {b : Bool} {index : Nat}
theorem y_max {x y : Int} (hd : zN Y pc (.invokestatic index) 3 pc') (w1 : Cond.methodLink Y.1.cls index Lib.Math.max.name ∈ lw_good) (hx : rg x) (hy : rg y) (hD : 1 ≤ D) (hw : (st.map fun v => v.category).sum ≤ 8) (kk : yE D Q Y pc' L (.int (iI (max x y)) :: st) V b) : yE D Q Y pc L (.int (iI y) :: .int (iI x) :: st) V b := by
  refine z_max hd w1 wMaxS wMathI wMaxC hD (by show _ ≤ 40 * D; omega) (Nat.le_refl 0) (Nat.le_refl 0) ?_
  have h : (if iI x < iI y then iI y else iI x) = iI (max x y) := by
    by_cases h1 : x < y
    · rw [if_pos ((iI_lt hx hy).2 h1), show max x y = y by omega]
    · rw [if_neg (fun h => h1 ((iI_lt hx hy).1 h)), show max x y = x by omega]
  rw [h]
  exact kk
theorem y_min {x y : Int} (hd : zN Y pc (.invokestatic index) 3 pc') (w1 : Cond.methodLink Y.1.cls index Lib.Math.min.name ∈ lw_good) (hx : rg x) (hy : rg y) (hD : 1 ≤ D) (hw : (st.map fun v => v.category).sum ≤ 8) (kk : yE D Q Y pc' L (.int (iI (min x y)) :: st) V b) : yE D Q Y pc L (.int (iI y) :: .int (iI x) :: st) V b := by
  refine z_min hd w1 wMinS wMathI wMinC hD (by show _ ≤ 40 * D; omega) (Nat.le_refl 0) (Nat.le_refl 0) ?_
  have h : (if iI y < iI x then iI y else iI x) = iI (min x y) := by
    by_cases h1 : y < x
    · rw [if_pos ((iI_lt hy hx).2 h1), show min x y = y by omega]
    · rw [if_neg (fun h => h1 ((iI_lt hy hx).1 h)), show min x y = x by omega]
  rw [h]
  exact kk
end YQ

/-! ===== the law: rows ===== -/
/-- what the law's walk carries: the script, and its end -/
def lwB (bb Lb : Nat) (xs : Nat → Int32) : zBt := (fun z args s => args = #[Value.ref bb] ∧ va_X bb Lb xs s s.heap ∧ bb < s.heap.size ∧ z = s.heap.size, fun _ _ _ below args s => lw_Z below args s)
def sx (xs : Nat → Int32) (i : Int) : Int := (xs i.toNat).toInt
theorem iI_tI (y : Int32) : iI y.toInt = y := by unfold iI; exact Int32.ofInt_toInt y
theorem sx_rg (xs : Nat → Int32) (i : Int) : rg (sx xs i) := by
  unfold sx
  have h1 := Int32.le_toInt (xs i.toNat)
  have h2 := Int32.toInt_lt (xs i.toNat)
  exact ⟨by omega, by omega⟩
section
variable {Y Y' : zMD} {pc pc' index n d a ci : Nat} {L : List (Option Value)} {st rest As : List Value} {cu su bb Lb : Nat} {xs : Nat → Int32} {V : Nat → Int → Int} {b : Bool} {R : Room} {B : zBt} {M : zMu} {T : u_T} {N : Nat}
theorem z_sld {i : Int} (hd : zN Y pc .iaload 1 pc') (hi : 0 ≤ i ∧ i < (Lb : Int)) (hL : Lb ≤ 256) (kk : zE R (lwB bb Lb xs) Y pc' L (.int (iI (sx xs i)) :: st) cu su M) : zE R (lwB bb Lb xs) Y pc L (.int (iI i) :: .retAddr bb :: st) cu su M := by
  obtain ⟨hd, rfl⟩ := hd
  intro l z D cc p e s m args below meth c H locs ls hX hP hK hI hz hS hLL
  obtain ⟨h1, h2, h3, h4⟩ := hP
  refine va_sld (A := fun q => z ≤ q) hX.1 hX.2.1 h2 h3 (by rw [h4]; exact Nat.not_le.mpr h3) hS (iI_in hi (by omega)) hd ?_
  have hve : Value.int (xs (iI i).toNatClampNeg) = sv z (.int (iI (sx xs i))) := by
    rw [iI_clamp ⟨by omega, by omega⟩]
    unfold sx
    rw [iI_tI]
    rfl
  rw [hve]
  exact kk l z D cc p e s m args below meth c H locs ls hX ⟨h1, h2, h3, h4⟩ hK hI hz hS hLL
theorem z_slen (hd : zN Y pc .arraylength 1 pc') (hL : Lb ≤ 256) (kk : zE R (lwB bb Lb xs) Y pc' L (.int (iI Lb) :: st) cu su M) : zE R (lwB bb Lb xs) Y pc L (.retAddr bb :: st) cu su M := by
  obtain ⟨hd, rfl⟩ := hd
  intro l z D cc p e s m args below meth c H locs ls hX hP hK hI hz hS hLL
  obtain ⟨h1, h2, h3, h4⟩ := hP
  refine va_slen (A := fun q => z ≤ q) hX.1 hX.2.1 h2 h3 (by rw [h4]; exact Nat.not_le.mpr h3) hS hd ?_
  have hve : Value.int (Int32.ofNat Lb) = sv z (.int (iI Lb)) := by
    show Value.int (Int32.ofNat Lb) = Value.int (iI Lb)
    unfold iI
    rfl
  rw [hve]
  exact kk l z D cc p e s m args below meth c H locs ls hX ⟨h1, h2, h3, h4⟩ hK hI hz hS hLL
theorem l_callI {P : Int → (Nat → Int → Int) → Prop} (ct : yC d Y' (.ref a :: As) V b (pI b P)) (ml : zMl Y.1.cls index Y' n 0) (hd : zN Y pc (.invokevirtual index) 3 pc') (hn : As.length = n) (hst : st = As.reverse ++ .ref a :: rest) (hcl : S0[a]? = some (.inl ci)) (hC : classes[ci]? = some (Y'.1.cls, T, N)) (hR : d + 1 ≤ R.frames ∧ 8 + (Y'.2.2.1 + 11) + 40 * d ≤ R.locals) (hw : (rest.map fun v => v.category).sum ≤ 8) (hc : cu ≤ R.cells) (hs : su ≤ R.slots) (kk : ∀ (r : Int) (V' : Nat → Int → Int), P r V' → zE R B Y pc' L (.int (iI r) :: rest) cu su (mk S0 V' (Fs b))) : zE R B Y pc L st cu su (mk S0 V (Fs b)) := by
  refine z_callV ct ml hd hn hst hcl hC hR hw hc hs (fun v M h => ?_)
  obtain ⟨r, V', h1, h2, h3⟩ := h
  rw [h1, h2]
  exact kk r V' h3
theorem l_callR {P : Int → Prop} (ct : yC d Y' (.ref a :: As) V b (pR b V P)) (ml : zMl Y.1.cls index Y' n 0) (hd : zN Y pc (.invokevirtual index) 3 pc') (hn : As.length = n) (hst : st = As.reverse ++ .ref a :: rest) (hcl : S0[a]? = some (.inl ci)) (hC : classes[ci]? = some (Y'.1.cls, T, N)) (hR : d + 1 ≤ R.frames ∧ 8 + (Y'.2.2.1 + 11) + 40 * d ≤ R.locals) (hw : (rest.map fun v => v.category).sum ≤ 8) (hc : cu ≤ R.cells) (hs : su ≤ R.slots) (kk : ∀ (r : Int), P r → zE R B Y pc' L (.int (iI r) :: rest) cu su (mk S0 V (Fs b))) : zE R B Y pc L st cu su (mk S0 V (Fs b)) := by
  refine z_callV ct ml hd hn hst hcl hC hR hw hc hs (fun v M h => ?_)
  obtain ⟨r, h1, h2, h3⟩ := h
  rw [h1, h2]
  exact kk r h3
theorem l_callY {P : Int → (Nat → Int → Int) → Bool → Prop} (ct : yC d Y' (.ref a :: As) V b (pY P)) (ml : zMl Y.1.cls index Y' n 0) (hd : zN Y pc (.invokevirtual index) 3 pc') (hn : As.length = n) (hst : st = As.reverse ++ .ref a :: rest) (hcl : S0[a]? = some (.inl ci)) (hC : classes[ci]? = some (Y'.1.cls, T, N)) (hR : d + 1 ≤ R.frames ∧ 8 + (Y'.2.2.1 + 11) + 40 * d ≤ R.locals) (hw : (rest.map fun v => v.category).sum ≤ 8) (hc : cu ≤ R.cells) (hs : su ≤ R.slots) (kk : ∀ (r : Int) (V' : Nat → Int → Int) (b' : Bool), P r V' b' → zE R B Y pc' L (.int (iI r) :: rest) cu su (mk S0 V' (Fs b'))) : zE R B Y pc L st cu su (mk S0 V (Fs b)) := by
  refine z_callV ct ml hd hn hst hcl hC hR hw hc hs (fun v M h => ?_)
  obtain ⟨r, V', b', h1, h2, h3⟩ := h
  rw [h1, h2]
  exact kk r V' b' h3
end
/-- what the model's contracts need, at a memory whose places from 134 on are V's -/
def mmN (V1 : Nat → Int → Int) : Prop := MS V1 ∧ NS V1 ∧ (0 ≤ V1 134 4 ∧ V1 134 4 ≤ 20) ∧ rg (V1 137 46) ∧ (∀ r : Int, 0 ≤ r → r < 4 → V1 137 0 + V1 137 (8 + r) ≤ 7) ∧ tM V1 ∧ TS V1 ∧ (0 ≤ V1 134 14 ∧ V1 134 14 ≤ 6) ∧ (0 ≤ V1 134 16 ∧ V1 134 16 ≤ 15) ∧ MI 100000 V1 ∧ chR V1 ∧ (∀ r : Int, 0 ≤ r → r < V1 135 0 → V1 137 (8 + r) ≤ V1 135 (1 + r)) ∧ (∀ i : Int, 0 ≤ V1 140 i ∧ V1 140 i ≤ 1) ∧ (∀ i : Int, 0 ≤ i → i ≤ 1 → rg (V1 139 (48 * i + 47)))
section
variable {V V1 V2 : Nat → Int → Int} {b : Bool} {n : Int}
theorem mmN_0 (h : RR V b n) : mmN V := by
  have hI := RR_sI h
  have h7 := RR_7 h
  have hc := stI_c hI h7
  have hnr := h.1
  obtain ⟨i1, i2, i3, i4, i5, i6, i7, i8, i9⟩ := id hI
  have hm0 := (RR_MS h).1
  refine ⟨RR_MS h, RR_NS h, ?_, ⟨by omega, by omega⟩, fun r r0 r4 => (hc r r0 r4).2, (RR_T h).2.2.1, (RR_C h).2.1, ?_, ?_, ⟨RR_MS h, RR_NS h, by rw [i2]; exact h7, i5, by omega, by omega, by rw [← (RR_S h).1]; exact (RR_S h).2⟩, ⟨?_, fun k k0 k1 => ?_⟩, fun r r0 r1 => (i6 r r0 (by omega)).1 r1, (RR_I h).1, fun i i0 i1 => ?_⟩
  · have := (RR_P h).1
    have := (RR_P h).2.1
    omega
  · have := (RR_H h).1
    have := (RR_H h).2.1
    omega
  · have := (RR_B h).1
    have := (RR_B h).2.1
    omega
  · have := (RR_H h).1
    have := (RR_H h).2.1
    omega
  · have h1 := (RR_H h).1
    obtain ⟨g1, g2, g3, g4, g5, g6⟩ := (RR_H h).2.2 k k0 (by omega)
    exact ⟨by omega, g5, by omega⟩
  · obtain ⟨g1, g2, g3, g4⟩ := (RR_I h).2 i i0 i1
    rw [← g2]
    exact ⟨by omega, by omega⟩
theorem mmN_c (h : mmN V) (e : ∀ a : Nat, 134 ≤ a → V1 a = V a) : mmN V1 := by
  unfold mmN MI MS NS tM TS chR at *
  rw [e 134 (by omega), e 135 (by omega), e 137 (by omega), e 139 (by omega), e 140 (by omega), e 141 (by omega), e 142 (by omega), e 143 (by omega)]
  exact h
end
